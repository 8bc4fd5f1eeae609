/-! ===== the model's row ===== -/
theorem mrow {I : wI} {j : Nat} (h : j < 49) : rowM I j = I 112 j := by unfold rowM; rw [if_pos h]
theorem mrev (I : wI) (j : Nat) (h : j < 49) : I 112 j = rowM I j := (mrow h).symm
theorem mrow_o {I : wI} {j : Nat} (h : 49 ≤ j) : rowM I j = 0 := by unfold rowM; rw [if_neg (by omega)]
theorem mrow_fr {I I' : wI} (h : I' 112 = I 112) : rowM I' = rowM I := by unfold rowM; rw [h]
theorem mrow_ext {I : wI} {a : Nat → Int32} (h : ∀ j, j < 49 → I 112 j = a j) (h2 : ∀ j, 49 ≤ j → a j = 0) : rowM I = a := by
  funext j
  by_cases c : j < 49
  · rw [mrow c]; exact h j c
  · rw [mrow_o (by omega), h2 j (by omega)]
theorem mr_M {I : wI} (h : okR (rowM I)) {c : Nat} (hc : c < 5) : I 112 (18 + c) = nI (aM (rowM I) c) := by
  rw [mrev I _ (by omega)]; exact (h.2.2.2.1 c hc).1.1
theorem mr_S {I : wI} (h : okR (rowM I)) {c : Nat} (hc : c < 5) : I 112 (23 + c) = nI (aS (rowM I) c) := by
  rw [mrev I _ (by omega)]; exact (h.2.2.2.1 c hc).2.1
theorem mr_d {I : wI} (h : okR (rowM I)) {p : Nat} (hp : p < 6) : I 112 p = nI (aD (rowM I) p) := by
  rw [mrev I _ (by omega)]; exact (h.1 p hp).1.1
theorem mr_n {I : wI} (h : okR (rowM I)) {p : Nat} (hp : p < 6) : I 112 (6 + p) = nI (aN (rowM I) p) := by
  rw [mrev I _ (by omega)]; exact (h.1 p hp).2.1
theorem okMk_R {a : Nat → Int32} (h : okR a) : okMk a := fun c hc => ⟨(h.2.2.2.1 c hc).1.1, (h.2.2.2.1 c hc).1.2.1⟩
theorem mr_Mk {I : wI} (h : okMk (rowM I)) {c : Nat} (hc : c < 5) : I 112 (18 + c) = nI (aM (rowM I) c) := by
  rw [mrev I _ (by omega)]; exact (h c hc).1
theorem vc_X6_thrown (I : wI) (hp : pre_X6_thrown I) : v_X6_thrown I (post_X6_thrown I) := rfl
theorem vc_X6_in (x0 x1 x2 : Int32) (I : wI) (hp : pre_X6_in x0 x1 x2 I) : v_X6_in x0 x1 x2 I (post_X6_in x0 x1 x2 I) :=
  ⟨fun h => ⟨Or.inl rfl, Or.inr ⟨fun q => absurd h (Int32.not_lt.2 q.1), rfl⟩⟩, fun h => ⟨fun h2 => ⟨Or.inl rfl, Or.inr ⟨fun q => absurd h2 (Int32.not_lt.2 q.2), rfl⟩⟩, fun h2 => ⟨Or.inr rfl, Or.inl ⟨⟨Int32.not_lt.1 h, Int32.not_lt.1 h2⟩, rfl⟩⟩⟩⟩
theorem in_iff {n : Nat} {x : Int32} (hn : n < 2147483647) : (0 ≤ x ∧ x ≤ nI n) ↔ isN (n + 1) x := by
  constructor
  · rintro ⟨h0, h1⟩
    exact isN_le hn (Int32.not_lt.2 h0) h1
  · rintro ⟨c, hc, rfl⟩
    refine ⟨Int32.not_lt.1 (nI_lt0 (by omega)), ?_⟩
    rw [i_le (by omega) (by omega)]; omega
theorem vc_X6_isKey (x0 : Int32) (I : wI) (hp : pre_X6_isKey x0 I) : v_X6_isKey x0 I (post_X6_isKey x0 I) := by
  refine ⟨trivial, fun r1 h1 => ?_⟩
  have e := in_iff (n := 4) (x := x0) (by decide)
  rcases h1 with ⟨h, rfl⟩ | ⟨h, rfl⟩
  · exact ⟨Or.inr rfl, Or.inl ⟨e.1 h, rfl⟩⟩
  · exact ⟨Or.inl rfl, Or.inr ⟨fun q => h (e.2 q), rfl⟩⟩
theorem vc_X6_isPlace (x0 : Int32) (I : wI) (hp : pre_X6_isPlace x0 I) : v_X6_isPlace x0 I (post_X6_isPlace x0 I) := by
  refine ⟨trivial, fun r1 h1 => ?_⟩
  have e := in_iff (n := 5) (x := x0) (by decide)
  rcases h1 with ⟨h, rfl⟩ | ⟨h, rfl⟩
  · exact ⟨Or.inr rfl, Or.inl ⟨e.1 h, rfl⟩⟩
  · exact ⟨Or.inl rfl, Or.inr ⟨fun q => h (e.2 q), rfl⟩⟩
theorem vc_X6_has (x1 x2 : Int32) (I : wI) (hp : pre_X6_has x1 x2 I) : v_X6_has x1 x2 I (post_X6_has x1 x2 I) := by
  obtain ⟨hR, ⟨c, hc, rfl⟩, p, hp, rfl⟩ := hp
  have hM := (hR c hc).2
  refine ⟨by rw [l_18, i_add]; exact i_in (by omega) (by decide), ?_⟩
  rw [l_18, i_add, i_cl (by omega), mr_Mk hR hc, i_tb (by omega) (by omega)]
  unfold v_X6_has_22 post_X6_has
  rw [i_nt (by omega), i_nt (by omega)]
  refine ⟨fun h => ⟨Or.inl rfl, ?_⟩, fun h => ⟨Or.inr rfl, ?_⟩⟩
  · rcases tb01 (aM (rowM I) c) p with e | e
    · rw [e]; rfl
    · exact absurd e h
  · rw [h]; rfl
theorem vl_X6_ones {M : Nat} (hM : M < 64) {I : wI} : ∀ m i : Nat, i + m = 6 → v_X6_ones_4 (nI M) I (post_X6_ones (nI M) I) (m + 1) (nI (sm (fun p => tb M p) i)) (nI i)
  | 0, i, e => by
    obtain rfl : i = 6 := by omega
    exact ⟨fun _ => by unfold post_X6_ones; rw [i_nt (by omega)]; rfl, fun h => absurd (Int32.le_refl _) h⟩
  | m + 1, i, e => by
    have hi : i < 6 := by omega
    have ih := vl_X6_ones hM (I := I) m (i + 1) (by omega)
    rw [sm_succ] at ih
    have h1 : M / 2 ^ i < 2147483648 := Nat.lt_of_le_of_lt (Nat.div_le_self _ _) (by omega)
    refine ⟨fun h => absurd h (by simp (disch := omega) only [i_le, i_lt, i_eq, i_add, i_sub, i_mul, i_and31, i_and1, i_shl1, i_shr, nI_or, i_cl, i_inP, i_nt, l_0, l_1, l_2, l_3, l_4, l_5, l_6, l_7, l_8, l_9, l_10, l_12, l_18, l_23, l_25, l_28, l_30, l_31, l_33, l_34, l_35, l_36, l_37, l_40, l_41, l_43, l_44, l_48, l_49, l_50, l_57, l_60, l_63, l_64, l_65, l_69, l_91, l_93, l_97, l_101, l_111, l_125, l_126, l_245, l_294, l_500, l_501, l_9999, l_1000000]; omega), fun _ => ?_⟩
    rw [i_s, show (31 : Int32) = nI 31 from rfl, i_and31 (by omega), i_shr (by omega) (by omega), l_1, i_and1 h1, i_add]
    exact ih
theorem vc_X6_ones (x0 : Int32) (I : wI) (hp : pre_X6_ones x0 I) : v_X6_ones x0 I (post_X6_ones x0 I) := by
  obtain ⟨M, hM, rfl⟩ := hp
  exact ⟨7, vl_X6_ones hM 6 0 rfl⟩
/-! ===== copies of rows ===== -/
theorem vl_X6_putAside {I : wI} : ∀ (m i : Nat) (I' : wI), i + m = 49 → (∀ j, j < i → I' 113 j = I 112 j) → (∀ c, c ≠ 113 → I' c = I c) → v_X6_putAside_2 (post_X6_putAside I) (m + 1) (nI i) I'
  | 0, i, I', e, h, hf => by
    obtain rfl : i = 49 := by omega
    exact ⟨fun _ => ⟨h, hf⟩, fun h => absurd (Int32.le_refl _) h⟩
  | m + 1, i, I', e, h, hf => by
    have hi : i < 49 := by omega
    refine ⟨fun h => absurd h (by simp (disch := omega) only [i_le, i_lt, i_eq, i_add, i_sub, i_mul, i_and31, i_and1, i_shl1, i_shr, nI_or, i_cl, i_inP, i_nt, l_0, l_1, l_2, l_3, l_4, l_5, l_6, l_7, l_8, l_9, l_10, l_12, l_18, l_23, l_25, l_28, l_30, l_31, l_33, l_34, l_35, l_36, l_37, l_40, l_41, l_43, l_44, l_48, l_49, l_50, l_57, l_60, l_63, l_64, l_65, l_69, l_91, l_93, l_97, l_101, l_111, l_125, l_126, l_245, l_294, l_500, l_501, l_9999, l_1000000]; omega), fun _ => ⟨i_in hi (by decide), i_in hi (by decide), fun I1 q1 => ?_⟩⟩
    rw [i_cl (by omega), hf 112 (by decide)] at q1
    rw [i_s]
    subst q1
    refine vl_X6_putAside m (i + 1) _ (by omega) (fun j hj => ?_) (fun c hc => by rw [wU_ne hc, hf c hc])
    by_cases c : j = i
    · subst c; exact wU_at
    · rw [wU_off (Or.inr c)]; exact h j (by omega)
theorem vc_X6_putAside (I : wI) (hp : pre_X6_putAside I) : v_X6_putAside I (post_X6_putAside I) := ⟨50, vl_X6_putAside 49 0 I rfl (fun _ h => absurd h (Nat.not_lt_zero _)) (fun _ _ => rfl)⟩
theorem vl_X6_putBack {I : wI} : ∀ (m i : Nat) (I' : wI), i + m = 49 → (∀ j, j < i → I' 112 j = I 113 j) → (∀ j, 49 ≤ j → I' 112 j = I 112 j) → (∀ c, c ≠ 112 → I' c = I c) → v_X6_putBack_2 (post_X6_putBack I) (m + 1) (nI i) I'
  | 0, i, I', e, h, hg, hf => by
    obtain rfl : i = 49 := by omega
    exact ⟨fun _ => ⟨h, hg, hf⟩, fun h => absurd (Int32.le_refl _) h⟩
  | m + 1, i, I', e, h, hg, hf => by
    have hi : i < 49 := by omega
    refine ⟨fun h => absurd h (by simp (disch := omega) only [i_le, i_lt, i_eq, i_add, i_sub, i_mul, i_and31, i_and1, i_shl1, i_shr, nI_or, i_cl, i_inP, i_nt, l_0, l_1, l_2, l_3, l_4, l_5, l_6, l_7, l_8, l_9, l_10, l_12, l_18, l_23, l_25, l_28, l_30, l_31, l_33, l_34, l_35, l_36, l_37, l_40, l_41, l_43, l_44, l_48, l_49, l_50, l_57, l_60, l_63, l_64, l_65, l_69, l_91, l_93, l_97, l_101, l_111, l_125, l_126, l_245, l_294, l_500, l_501, l_9999, l_1000000]; omega), fun _ => ⟨i_in hi (by decide), i_in hi (by decide), fun I1 q1 => ?_⟩⟩
    rw [i_cl (by omega), hf 113 (by decide)] at q1
    rw [i_s]
    subst q1
    refine vl_X6_putBack m (i + 1) _ (by omega) (fun j hj => ?_) (fun j hj => by rw [wU_off (Or.inr (by omega))]; exact hg j hj) (fun c hc => by rw [wU_ne hc, hf c hc])
    by_cases c : j = i
    · subst c; exact wU_at
    · rw [wU_off (Or.inr c)]; exact h j (by omega)
theorem vc_X6_putBack (I : wI) (hp : pre_X6_putBack I) : v_X6_putBack I (post_X6_putBack I) := ⟨50, vl_X6_putBack 49 0 I rfl (fun _ h => absurd h (Nat.not_lt_zero _)) (fun _ _ => rfl) (fun _ _ => rfl)⟩
theorem aFst_d {a : Nat → Int32} {p : Nat} (h : p < 6) : aFst a p = nI p := by unfold aFst; rw [if_pos h]
theorem aFst_n {a : Nat → Int32} {p : Nat} (h : p < 6) : aFst a (6 + p) = 0 := by unfold aFst; rw [if_neg (by omega), if_pos (by omega)]
theorem aFst_o {a : Nat → Int32} {j : Nat} (h : 12 ≤ j) : aFst a j = a j := by unfold aFst; rw [if_neg (by omega), if_neg (by omega)]
theorem vl_X6_toFirst {I : wI} : ∀ (m i : Nat) (I' : wI), i + m = 6 → (∀ p, p < i → I' 112 p = nI p ∧ I' 112 (6 + p) = 0) → (∀ j, 12 ≤ j → I' 112 j = I 112 j) → (∀ c, c ≠ 112 → I' c = I c) → v_X6_toFirst_2 (post_X6_toFirst I) (m + 1) (nI i) I'
  | 0, i, I', e, h, hg, hf => by
    obtain rfl : i = 6 := by omega
    refine ⟨fun _ => ⟨mrow_ext (fun j hj => ?_) (fun j hj => ?_), fun c c1 _ => hf c c1, fun j hj => hg j (by omega)⟩, fun h => absurd (Int32.le_refl _) h⟩
    · by_cases c : j < 6
      · rw [aFst_d c]; exact (h j c).1
      · by_cases c2 : j < 12
        · rw [show j = 6 + (j - 6) by omega, aFst_n (by omega)]; exact (h (j - 6) (by omega)).2
        · rw [aFst_o (by omega), mrow hj]; exact hg j (by omega)
    · rw [aFst_o (by omega), mrow_o hj]
  | m + 1, i, I', e, h, hg, hf => by
    have hi : i < 6 := by omega
    refine ⟨fun h => absurd h (by simp (disch := omega) only [i_le, i_lt, i_eq, i_add, i_sub, i_mul, i_and31, i_and1, i_shl1, i_shr, nI_or, i_cl, i_inP, i_nt, l_0, l_1, l_2, l_3, l_4, l_5, l_6, l_7, l_8, l_9, l_10, l_12, l_18, l_23, l_25, l_28, l_30, l_31, l_33, l_34, l_35, l_36, l_37, l_40, l_41, l_43, l_44, l_48, l_49, l_50, l_57, l_60, l_63, l_64, l_65, l_69, l_91, l_93, l_97, l_101, l_111, l_125, l_126, l_245, l_294, l_500, l_501, l_9999, l_1000000]; omega), fun _ => ⟨by rw [l_0, i_add]; exact i_in (by omega) (by decide), fun I1 q1 => ⟨by rw [l_6, i_add]; exact i_in (by omega) (by decide), fun I2 q2 => ?_⟩⟩⟩
    rw [show (0 : Int32) + nI i = nI i by rw [l_0, i_add, Nat.zero_add], i_cl (by omega)] at q1
    rw [l_6, i_add, i_cl (by omega)] at q2
    rw [i_s]
    refine vl_X6_toFirst m (i + 1) _ (by omega) (fun p hp => ?_) (fun j hj => by rw [q2, wU_off (Or.inr (by omega)), q1, wU_off (Or.inr (by omega))]; exact hg j hj) (fun c hc => by rw [q2, wU_ne hc, q1, wU_ne hc]; exact hf c hc)
    by_cases c : p = i
    · subst c
      exact ⟨by rw [q2, wU_off (Or.inr (by omega)), q1, wU_at], by rw [q2, wU_at]⟩
    · exact ⟨by rw [q2, wU_off (Or.inr (by omega)), q1, wU_off (Or.inr (by omega))]; exact (h p (by omega)).1, by rw [q2, wU_off (Or.inr (by omega)), q1, wU_off (Or.inr (by omega))]; exact (h p (by omega)).2⟩
theorem vc_X6_toFirst (I : wI) (hp : pre_X6_toFirst I) : v_X6_toFirst I (post_X6_toFirst I) := ⟨7, vl_X6_toFirst 6 0 I rfl (fun _ h => absurd h (Nat.not_lt_zero _)) (fun _ _ => rfl) (fun _ _ => rfl)⟩
/-! ===== turns of the model ===== -/
theorem nxp_j {M p j : Nat} (hp : p < 6) (h1 : 1 ≤ j) (h6 : j ≤ 6) (hj : tb M ((p + j) % 6) = 1) (hn : ∀ i, 1 ≤ i → i < j → tb M ((p + i) % 6) ≠ 1) : nxp M p = (p + j) % 6 := by
  unfold nxp
  have : j = 1 ∨ j = 2 ∨ j = 3 ∨ j = 4 ∨ j = 5 ∨ j = 6 := by omega
  rcases this with rfl | rfl | rfl | rfl | rfl | rfl
  · rw [if_pos hj]
  · rw [if_neg (hn 1 (by omega) (by omega)), if_pos hj]
  · rw [if_neg (hn 1 (by omega) (by omega)), if_neg (hn 2 (by omega) (by omega)), if_pos hj]
  · rw [if_neg (hn 1 (by omega) (by omega)), if_neg (hn 2 (by omega) (by omega)), if_neg (hn 3 (by omega) (by omega)), if_pos hj]
  · rw [if_neg (hn 1 (by omega) (by omega)), if_neg (hn 2 (by omega) (by omega)), if_neg (hn 3 (by omega) (by omega)), if_neg (hn 4 (by omega) (by omega)), if_pos hj]
  · rw [if_neg (hn 1 (by omega) (by omega)), if_neg (hn 2 (by omega) (by omega)), if_neg (hn 3 (by omega) (by omega)), if_neg (hn 4 (by omega) (by omega)), if_neg (hn 5 (by omega) (by omega))]
    omega
theorem vl_X6_next {I : wI} {c p : Nat} (hR : okMk (rowM I)) (hc : c < 5) (hp : p < 6) (ht : tb (aM (rowM I) c) p = 1) : ∀ m j : Nat, j + m = 6 → 1 ≤ j → (∀ i, 1 ≤ i → i < j → tb (aM (rowM I) c) ((p + i) % 6) ≠ 1) →
    v_X6_next_7 (nI c) (nI p) I (post_X6_next (nI c) (nI p) I) (m + 1) (nI ((p + j) % 6))
  | m, j, e, h1, hn => by
    have hl : (p + j) % 6 < 6 := Nat.mod_lt _ (by decide)
    refine ⟨⟨hR, ⟨c, hc, rfl⟩, _, hl, rfl⟩, fun r1 q1 => ?_⟩
    unfold post_X6_has at q1
    rw [i_nt (by omega), i_nt (by omega)] at q1
    have hb := tb_lt (aM (rowM I) c) ((p + j) % 6)
    rw [q1, l_0, i_eq (by omega) (by decide)]
    refine ⟨fun z => ?_, fun z => ?_⟩
    · unfold post_X6_next
      rw [i_nt (by omega), i_nt (by omega), nxp_j hp h1 (by omega) (by omega) hn]
    · cases m with
      | zero =>
        obtain rfl : j = 6 := by omega
        rw [show (p + 6) % 6 = p by omega] at z
        omega
      | succ m =>
        rw [i_s, l_6, i_rem (by omega) (by decide) (by decide), show ((p + j) % 6 + 1) % 6 = (p + (j + 1)) % 6 by omega]
        refine vl_X6_next hR hc hp ht m (j + 1) (by omega) (by omega) (fun i hi hij => ?_)
        by_cases ei : i = j
        · subst ei; omega
        · exact hn i hi (by omega)
theorem vc_X6_next (x1 x2 : Int32) (I : wI) (hp : pre_X6_next x1 x2 I) : v_X6_next x1 x2 I (post_X6_next x1 x2 I) := by
  obtain ⟨hR, ⟨c, hc, rfl⟩, ⟨p, hp, rfl⟩, ht⟩ := hp
  rw [i_nt (by omega), i_nt (by omega)] at ht
  have := vl_X6_next hR hc hp ht 5 1 rfl (Nat.le_refl _) (fun i h1 h2 => by omega)
  refine ⟨6, ?_⟩
  rw [i_s, l_6, i_rem (by omega) (by decide) (by decide)]
  exact this
/-- at which p a position is written -/
def kap (M bk t : Nat) : Nat := if bk = 0 then prv M t else t
def toP (M bk p : Nat) : Nat := if bk = 0 then nxp M p else p
def frP (M bk p : Nat) : Nat := if bk = 0 then p else nxp M p
theorem kap_0 : ∀ M, M < 64 → ∀ p, p < 6 → (kap M 0 p < 6 ∧ (tb M p = 1 → tb M (kap M 0 p) = 1)) ∧ (tb M p = 1 → nxp M p < 6 ∧ tb M (nxp M p) = 1 ∧ kap M 0 (nxp M p) = p ∧ src M 0 (nxp M p) = p ∧ src M 1 p = nxp M p ∧ nxp M (kap M 0 p) = p) := by decide +kernel
theorem kap_sp {M bk p : Nat} (hM : M < 64) (hb : bk = 0 ∨ bk = 1) (hp : p < 6) (ht : tb M p = 1) : toP M bk p < 6 ∧ frP M bk p < 6 ∧ tb M (toP M bk p) = 1 ∧ kap M bk (toP M bk p) = p ∧ src M bk (toP M bk p) = frP M bk p ∧ (∀ t, t < 6 → tb M t = 1 → kap M bk t = p → t = toP M bk p) ∧ kap M bk p < 6 := by
  obtain ⟨⟨k1, k2⟩, k3⟩ := kap_0 M hM p hp
  obtain ⟨a1, a2, a3, a4, a5, a6⟩ := k3 ht
  rcases hb with rfl | rfl
  · refine ⟨a1, hp, a2, a3, a4, fun t ht6 htt e => ?_, k1⟩
    have := ((kap_0 M hM t ht6).2 htt).2.2.2.2.2
    rw [e] at this; exact this.symm
  · exact ⟨hp, a1, ht, rfl, a5, fun t _ _ e => e, hp⟩
theorem kap_lt {M bk p : Nat} (hM : M < 64) (hb : bk = 0 ∨ bk = 1) (hp : p < 6) : kap M bk p < 6 := by
  rcases hb with rfl | rfl
  · exact (kap_0 M hM p hp).1.1
  · exact hp
theorem src_n {M bk p : Nat} (ht : ¬ tb M p = 1) : src M bk p = p := by unfold src; rw [if_neg ht]
theorem vl_X6_doTurn_32 {I : wI} (hR : okR (rowM I)) {v : Nat} (hv : v < 10) : ∀ (m i : Nat) (I' : wI), i + m = 6 →
    (∀ t, t < 6 → I' 112 t = (if tb (aM (rowM I) (v % 5)) t = 1 ∧ kap (aM (rowM I) (v % 5)) (v / 5) t < i then nI (mvD (aM (rowM I) (v % 5)) (v / 5) (aD (rowM I)) t) else I 112 t) ∧
      I' 112 (6 + t) = (if tb (aM (rowM I) (v % 5)) t = 1 ∧ kap (aM (rowM I) (v % 5)) (v / 5) t < i then nI (mvN (aM (rowM I) (v % 5)) (aS (rowM I) (v % 5)) (v / 5) (aN (rowM I)) t) else I 112 (6 + t))) →
    (∀ j, 12 ≤ j → I' 112 j = I 112 j) → (∀ j, j < 12 → I' 117 j = I 112 j) → (∀ c, c ≠ 112 → c ≠ 117 → I' c = I c) → v_X6_doTurn_32 (nI v) (post_X6_doTurn (nI v) I) (m + 1) (nI (v % 5)) (nI i) I'
  | 0, i, I', e, h, h12, hw, hf => by
    obtain rfl : i = 6 := by omega
    refine ⟨fun _ => ⟨?_, hf, fun j hj => h12 j (by omega)⟩, fun h => absurd (Int32.le_refl _) h⟩
    rw [i_nt (by omega)]
    have hM := okR_M hR (m5 v)
    refine mrow_ext (fun j hj => ?_) (fun j hj => by rw [aTr_o (by omega), mrow_o hj])
    by_cases c : j < 6
    · rw [aTr_d c, (h j c).1]
      by_cases ct : tb (aM (rowM I) (v % 5)) j = 1
      · rw [if_pos ⟨ct, kap_lt hM (bk_or hv) c⟩]
      · rw [if_neg (fun q => ct q.1), mr_d hR c]
        unfold mvD; rw [if_pos c, src_n ct]
    · by_cases c2 : j < 12
      · have hj' : j = 6 + (j - 6) := by omega
        have := (h (j - 6) (by omega)).2
        rw [← hj'] at this
        rw [this, hj', aTr_n (by omega), ← hj']
        by_cases ct : tb (aM (rowM I) (v % 5)) (j - 6) = 1
        · rw [if_pos ⟨ct, kap_lt hM (bk_or hv) (by omega)⟩]
        · rw [if_neg (fun q => ct q.1), hj', mr_n hR (by omega), ← hj']
          unfold mvN; rw [if_pos (by omega), if_neg ct]
      · rw [aTr_o (by omega), mrow hj]; exact h12 j (by omega)
  | m + 1, i, I', e, h, h12, hw, hf => by
    have hi : i < 6 := by omega
    have hM := okR_M hR (m5 v)
    have hc5 := m5 v
    have hS := okR_S hR (m5 v)
    have eM : aM (rowM I') (v % 5) = aM (rowM I) (v % 5) := by
      unfold aM; rw [mrow (by omega), mrow (by omega), h12 _ (by omega)]
    have hK' : okMk (rowM I') := by
      intro c hc
      have := okMk_R hR c hc
      unfold aM at this ⊢
      rw [mrow (by omega), h12 _ (by omega), mrev I _ (by omega)]; exact this
    refine ⟨fun h => absurd h (by simp (disch := omega) only [i_le, i_lt, i_eq, i_add, i_sub, i_mul, i_and31, i_and1, i_shl1, i_shr, nI_or, i_cl, i_inP, i_nt, l_0, l_1, l_2, l_3, l_4, l_5, l_6, l_7, l_8, l_9, l_10, l_12, l_18, l_23, l_25, l_28, l_30, l_31, l_33, l_34, l_35, l_36, l_37, l_40, l_41, l_43, l_44, l_48, l_49, l_50, l_57, l_60, l_63, l_64, l_65, l_69, l_91, l_93, l_97, l_101, l_111, l_125, l_126, l_245, l_294, l_500, l_501, l_9999, l_1000000]; omega), fun _ => ⟨⟨hK', ⟨_, hc5, rfl⟩, i, hi, rfl⟩, fun r1 q1 => ?_⟩⟩
    unfold post_X6_has at q1
    rw [i_nt (by omega), i_nt (by omega), eM] at q1
    have hb := tb_lt (aM (rowM I) (v % 5)) i
    rw [q1, l_0, i_eq (by omega) (by decide)]
    unfold v_X6_doTurn_154
    rw [i_s]
    refine ⟨fun z => ?_, fun z => ?_⟩
    · -- not a position of the key
      refine vl_X6_doTurn_32 hR hv m (i + 1) I' (by omega) (fun t ht => ?_) h12 hw hf
      have hne : tb (aM (rowM I) (v % 5)) t = 1 → kap (aM (rowM I) (v % 5)) (v / 5) t ≠ i := by
        intro htt e
        obtain ⟨⟨k1, k2⟩, k3⟩ := kap_0 _ hM t ht
        have : tb (aM (rowM I) (v % 5)) i = 1 := by
          rcases bk_or hv with hb | hb
          · rw [hb] at e; rw [← e]; exact k2 htt
          · rw [hb] at e
            have e : t = i := e
            rw [← e]; exact htt
        omega
      obtain ⟨g1, g2⟩ := h t ht
      by_cases ct : tb (aM (rowM I) (v % 5)) t = 1 ∧ kap (aM (rowM I) (v % 5)) (v / 5) t < i
      · rw [if_pos ct] at g1 g2
        rw [if_pos ⟨ct.1, by omega⟩, if_pos ⟨ct.1, by omega⟩]
        exact ⟨g1, g2⟩
      · rw [if_neg ct] at g1 g2
        have : ¬ (tb (aM (rowM I) (v % 5)) t = 1 ∧ kap (aM (rowM I) (v % 5)) (v / 5) t < i + 1) := fun q => ct ⟨q.1, by have := hne q.1; omega⟩
        rw [if_neg this, if_neg this]
        exact ⟨g1, g2⟩
    · have ht : tb (aM (rowM I) (v % 5)) i = 1 := by omega
      obtain ⟨s1, s2, s3, s4, s5, s6, s7⟩ := kap_sp hM (bk_or hv) hi ht
      refine ⟨⟨hK', ⟨_, hc5, rfl⟩, ⟨i, hi, rfl⟩, by rw [i_nt (by omega), i_nt (by omega), eM]; exact ht⟩, fun r2 q2 => ?_⟩
      unfold post_X6_next at q2
      rw [i_nt (by omega), i_nt (by omega), eM] at q2
      have hdR := okR_d hR
      have hnR := okR_n hR
      -- the write at its place
      have key : ∀ (f t w : Nat), f = frP (aM (rowM I) (v % 5)) (v / 5) i → t = toP (aM (rowM I) (v % 5)) (v / 5) i → (w = if v / 5 = 0 then aS (rowM I) (v % 5) else 5 - aS (rowM I) (v % 5)) →
          v_X6_doTurn_109 (nI v) (post_X6_doTurn (nI v) I) (v_X6_doTurn_32 (nI v) (post_X6_doTurn (nI v) I) (m + 1)) (nI (v % 5)) (nI i) (nI f) (nI t) (nI w) I' := by
        intro f t w ef et ew
        rw [← ef] at s2 s5
        rw [← et] at s1 s3 s4 s5 s6
        have hw5 : w ≤ 5 := by rw [ew]; split <;> omega
        have hdf := hdR f s2
        have hnf := hnR f s2
        refine ⟨by rw [l_0, i_add]; exact i_in (by omega) (by decide), by rw [l_0, i_add]; exact i_in (by omega) (by decide), fun I1 q1 => ⟨by rw [l_6, i_add]; exact i_in (by omega) (by decide), by rw [l_6, i_add]; exact i_in (by omega) (by decide), fun I2 q2 => ?_⟩⟩
        rw [show (0 : Int32) + nI t = nI t by rw [l_0, i_add, Nat.zero_add], show (0 : Int32) + nI f = nI f by rw [l_0, i_add, Nat.zero_add], i_cl (by omega), i_cl (by omega), hw f (by omega), mr_d hR s2] at q1
        rw [l_6, i_add, i_add, i_cl (by omega), i_cl (by omega), q1, wU_ne (by decide), hw (6 + f) (by omega), mr_n hR s2, i_add, l_5, i_rem (by omega) (by decide) (by decide)] at q2
        unfold v_X6_doTurn_154
        rw [i_s]
        refine vl_X6_doTurn_32 hR hv m (i + 1) I2 (by omega) (fun u hu => ?_) (fun j hj => ?_) (fun j hj => ?_) (fun c c1 c2 => ?_)
        · by_cases eu : u = t
          · subst eu
            rw [if_pos ⟨s3, by omega⟩, if_pos ⟨s3, by omega⟩, q2, wU_off (Or.inr (by omega)), wU_at, wU_at]
            unfold mvD mvN
            rw [if_pos hu, if_pos hu, if_pos s3, s5, ← ew]
            exact ⟨rfl, rfl⟩
          · have hk : tb (aM (rowM I) (v % 5)) u = 1 → kap (aM (rowM I) (v % 5)) (v / 5) u ≠ i := fun htt e => eu (s6 u hu htt e)
            rw [q2, wU_off (Or.inr (by omega)), wU_off (Or.inr eu), wU_off (Or.inr (by omega)), wU_off (Or.inr (by omega))]
            obtain ⟨g1, g2⟩ := h u hu
            by_cases ct : tb (aM (rowM I) (v % 5)) u = 1 ∧ kap (aM (rowM I) (v % 5)) (v / 5) u < i
            · rw [if_pos ct] at g1 g2
              rw [if_pos ⟨ct.1, by omega⟩, if_pos ⟨ct.1, by omega⟩]
              exact ⟨g1, g2⟩
            · rw [if_neg ct] at g1 g2
              have : ¬ (tb (aM (rowM I) (v % 5)) u = 1 ∧ kap (aM (rowM I) (v % 5)) (v / 5) u < i + 1) := fun q => ct ⟨q.1, by have := hk q.1; omega⟩
              rw [if_neg this, if_neg this]
              exact ⟨g1, g2⟩
        · rw [q2, wU_off (Or.inr (by omega)), wU_off (Or.inr (by omega))]; exact h12 j hj
        · rw [q2, wU_ne (by decide), wU_ne (by decide)]; exact hw j hj
        · rw [q2, wU_ne c1, wU_ne c1]; exact hf c c1 c2
      have e23 : I' 112 (23 + v % 5) = nI (aS (rowM I) (v % 5)) := by rw [h12 _ (by omega), mr_S hR hc5]
      unfold v_X6_doTurn_66 v_X6_doTurn_79
      rw [l_5, i_le (by decide) (by omega), l_23, i_add, i_cl (by omega), e23, i_sub (by omega)]
      have hv23 : vp_in (nI (23 + v % 5)) 49 := i_in (by omega) (by decide)
      refine ⟨fun hb => ⟨fun _ => ⟨fun _ => ⟨hv23, ?_⟩, fun q => absurd hb q⟩, fun q => absurd hb q⟩, fun hb => ⟨fun q => absurd q hb, fun _ => ⟨fun q => absurd q hb, fun _ => ⟨hv23, ?_⟩⟩⟩⟩
      · rw [q2]
        exact key _ _ _ (by unfold frP; rw [if_neg (by omega)]) (by unfold toP; rw [if_neg (by omega)]) (by rw [if_neg (by omega)])
      · rw [q2]
        exact key _ _ _ (by unfold frP; rw [if_pos (by omega)]) (by unfold toP; rw [if_pos (by omega)]) (by rw [if_pos (by omega)])
theorem vl_X6_doTurn_6 {I : wI} (hR : okR (rowM I)) {v : Nat} (hv : v < 10) : ∀ (m i : Nat) (I' : wI), i + m = 12 → (∀ j, j < i → I' 117 j = I 112 j) → (∀ c, c ≠ 117 → I' c = I c) → v_X6_doTurn_6 (nI v) (post_X6_doTurn (nI v) I) (m + 1) (nI (v % 5)) (nI i) I'
  | 0, i, I', e, h, hf => by
    obtain rfl : i = 12 := by omega
    refine ⟨fun _ => ⟨7, vl_X6_doTurn_32 hR hv 6 0 I' rfl (fun t ht => ?_) (fun j _ => by rw [hf 112 (by decide)]) h (fun c _ c2 => hf c c2)⟩, fun h => absurd (Int32.le_refl _) h⟩
    rw [if_neg (by omega), if_neg (by omega), hf 112 (by decide)]
    exact ⟨rfl, rfl⟩
  | m + 1, i, I', e, h, hf => by
    have hi : i < 12 := by omega
    refine ⟨fun h => absurd h (by simp (disch := omega) only [i_le, i_lt, i_eq, i_add, i_sub, i_mul, i_and31, i_and1, i_shl1, i_shr, nI_or, i_cl, i_inP, i_nt, l_0, l_1, l_2, l_3, l_4, l_5, l_6, l_7, l_8, l_9, l_10, l_12, l_18, l_23, l_25, l_28, l_30, l_31, l_33, l_34, l_35, l_36, l_37, l_40, l_41, l_43, l_44, l_48, l_49, l_50, l_57, l_60, l_63, l_64, l_65, l_69, l_91, l_93, l_97, l_101, l_111, l_125, l_126, l_245, l_294, l_500, l_501, l_9999, l_1000000]; omega), fun _ => ⟨i_in (by omega) (by decide), i_in hi (by decide), fun I1 q1 => ?_⟩⟩
    rw [i_cl (by omega), hf 112 (by decide)] at q1
    rw [i_s]
    subst q1
    refine vl_X6_doTurn_6 hR hv m (i + 1) _ (by omega) (fun j hj => ?_) (fun c hc => by rw [wU_ne hc, hf c hc])
    by_cases c : j = i
    · subst c; exact wU_at
    · rw [wU_off (Or.inr c)]; exact h j (by omega)
theorem vc_X6_doTurn (x1 : Int32) (I : wI) (hp : pre_X6_doTurn x1 I) : v_X6_doTurn x1 I (post_X6_doTurn x1 I) := by
  obtain ⟨hR, v, hv, rfl⟩ := hp
  refine ⟨13, ?_⟩
  rw [l_5, i_rem (by omega) (by decide) (by decide)]
  exact vl_X6_doTurn_6 hR hv 12 0 I rfl (fun _ h => absurd h (Nat.not_lt_zero _)) (fun _ _ => rfl)
