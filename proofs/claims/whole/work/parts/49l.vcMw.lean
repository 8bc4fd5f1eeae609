/-! ===== the model reads a word ===== -/
theorem tStep_inv {s s' : TS} {c : Nat} (hF : tF s = false) (e : tStep s c = some s') :
    (97 ≤ c ∧ c ≤ 101 ∧ s' = tMove s (c - 97)) ∨ (65 ≤ c ∧ c ≤ 69 ∧ s' = tMove s (5 + (c - 65))) ∨ (c = 40 ∧ tO s < 4 ∧ s' = tOpen s 0) ∨ (c = 91 ∧ tO s < 4 ∧ s' = tOpen s 1) ∨
    (c = 41 ∧ tO s ≠ 0 ∧ tK s (tO s - 1) = 0 ∧ s' = tRound s) ∨ (c = 44 ∧ tO s ≠ 0 ∧ tK s (tO s - 1) = 1 ∧ s' = tComma s) ∨ (c = 93 ∧ tO s ≠ 0 ∧ tK s (tO s - 1) = 2 ∧ s' = tPair s) := by
  unfold tStep at e
  rw [hF, if_neg Bool.false_ne_true] at e
  split at e
  · rename_i h; cases e; exact Or.inl ⟨h.1, h.2, rfl⟩
  split at e
  · rename_i h; cases e; exact Or.inr (Or.inl ⟨h.1, h.2, rfl⟩)
  split at e
  · rename_i h
    split at e
    · rename_i h2; cases e; exact Or.inr (Or.inr (Or.inl ⟨h, h2, rfl⟩))
    · cases e
  split at e
  · rename_i h
    split at e
    · rename_i h2; cases e; exact Or.inr (Or.inr (Or.inr (Or.inl ⟨h, h2, rfl⟩)))
    · cases e
  split at e
  · unfold tIn at e
    split at e
    · cases e
    rename_i ho
    split at e
    · rename_i h; cases e; exact Or.inr (Or.inr (Or.inr (Or.inr (Or.inl ⟨h.2, ho, h.1, rfl⟩))))
    split at e
    · rename_i h; cases e; exact Or.inr (Or.inr (Or.inr (Or.inr (Or.inr (Or.inl ⟨h.2, ho, h.1, rfl⟩)))))
    split at e
    · rename_i h; cases e; exact Or.inr (Or.inr (Or.inr (Or.inr (Or.inr (Or.inr ⟨h.2, ho, h.1, rfl⟩)))))
    · cases e
  · cases e
theorem tStep_fig {s s' : TS} {c : Nat} (hF : tF s = true) (e : tStep s c = some s') : 50 ≤ c ∧ c ≤ 57 ∧ tO s ≠ 0 ∧ s' = tFig s c := by
  unfold tStep at e
  rw [hF, if_pos rfl] at e
  split at e
  · rename_i h; cases e; exact ⟨h.1, h.2.1, h.2.2, rfl⟩
  · cases e
theorem app_len {T U V : List Nat} : T.length ≤ (T ++ U ++ V).length := by rw [List.length_append, List.length_append]; omega
theorem tStep_mono {s s' : TS} {c : Nat} (e : tStep s c = some s') : (tW s).length ≤ (tW s').length := by
  cases hF : tF s
  · rcases tStep_inv hF e with h | h | h | h | h | h | h
    · rw [h.2.2]; show _ ≤ (tW s ++ [_]).length; rw [List.length_append]; omega
    · rw [h.2.2]; show _ ≤ (tW s ++ [_]).length; rw [List.length_append]; omega
    · rw [h.2.2]; exact Nat.le_refl _
    · rw [h.2.2]; exact Nat.le_refl _
    · rw [h.2.2.2]; exact Nat.le_refl _
    · rw [h.2.2.2]; exact Nat.le_refl _
    · rw [h.2.2.2]; exact app_len
  · rw [(tStep_fig hF e).2.2.2]; show _ ≤ (tW s ++ repL _ _).length; rw [List.length_append]; omega
theorem tGo_mono (x : Nat → Nat) : ∀ (m i : Nat) (s : TS), (tW s).length ≤ (tW (tGo x m i s).2).length
  | 0, i, s => Nat.le_refl _
  | m + 1, i, s => by
    unfold tGo
    split
    · exact Nat.le_refl _
    · rename_i s' e
      exact Nat.le_trans (tStep_mono e) (tGo_mono x m (i + 1) s')
theorem tGo_next {x : Nat → Nat} {m i : Nat} {s : TS} {R : Nat × TS} (h : tGo x (m + 1) i s = R) (hR : R.1 = i + (m + 1)) : ∃ s', tStep s (x i) = some s' ∧ tGo x m (i + 1) s' = R := by
  rw [tGo_s] at h
  cases e : tStep s (x i) with
  | none =>
    rw [e] at h
    have h : (i, s) = R := h
    rw [← h] at hR
    have hR : i = i + (m + 1) := hR
    omega
  | some s' => rw [e] at h; exact ⟨s', rfl, h⟩
theorem slM_eq {I : wI} {W : List Nat} {a b : Nat} (hb : b ≤ W.length) (h5 : b ≤ 500) (hw : ∀ i, i < W.length → i < 500 → I 118 i = nI (W.getD i 0)) (hv : ∀ v, v ∈ W → v < 10) : slM I a b = (W.take b).drop a := by
  have hl : ((W.take b).drop a).length = b - a := by rw [List.length_drop, List.length_take]; omega
  refine List.ext_getElem (by rw [slM_len, hl]) (fun j h1 h2 => ?_)
  have hj : j < b - a := by rw [slM_len] at h1; exact h1
  have e1 := slM_gd (I := I) hj
  rw [List.getD_eq_getElem?_getD, List.getElem?_eq_getElem h1] at e1
  have e2 : ((W.take b).drop a).getD j 0 = W.getD (a + j) 0 := by rw [gd_drop, gd_take (by omega)]
  rw [List.getD_eq_getElem?_getD, List.getElem?_eq_getElem h2] at e2
  have hm := hv _ (gd_mem (show a + j < W.length by omega))
  have e1 : (slM I a b)[j] = nt (I 118 (a + j)) := e1
  have e2 : ((W.take b).drop a)[j] = W.getD (a + j) 0 := e2
  rw [e1, e2, hw _ (by omega) (by omega), i_nt (by omega)]
theorem repL_snoc (D : List Nat) : ∀ n, repL D n ++ D = repL D (n + 1)
  | 0 => by show [] ++ D = D ++ []; rw [List.append_nil]; rfl
  | n + 1 => by
    show (D ++ repL D n) ++ D = D ++ repL D (n + 1)
    rw [List.append_assoc, repL_snoc D n]
theorem repL_add (D : List Nat) : ∀ a b, repL D a ++ repL D b = repL D (a + b)
  | 0, b => by rw [Nat.zero_add]; rfl
  | a + 1, b => by
    show (D ++ repL D a) ++ repL D b = _
    rw [List.append_assoc, repL_add D a b, show a + 1 + b = (a + b) + 1 by omega]; rfl
/-- in the midst of reading -/
def rIv (I I' : wI) (s : TS) (i m : Nat) : Prop := rwf I I' ∧ mwR I' (tW s) ∧ I' 111 18 = nI (tO s) ∧ (∀ j, j < tO s → I' 120 j = nI (tB s j) ∧ (tK s j = 2 → I' 121 j = nI (tE s j))) ∧ tOk s i ∧ tF s = false ∧ tGo (xA (absM I)) m i s = tRes (absM I)
theorem rwf_m {I I1 I2 : wI} (h : rwf I I1) (h2 : mwf I1 I2) : rwf I I2 := ⟨fun c a b d e => by rw [h2.1 c a b, h.1 c a b d e], fun j a b d => by rw [h2.2 j a b, h.2 j a b d]⟩
theorem rw_next {I I2 : wI} {s' : TS} {i m : Nat} {K : Int32 → wI → Prop} (hi : i < 60) (hm : i + 1 + m ≤ 60) (ih : (tW s').length ≤ 500 → K (nI (i + 1)) I2) (h : rIv I I2 s' (i + 1) m) : v_X6_readWord_261 (post_X6_readWord I) K (nI i) I2 := by
  unfold v_X6_readWord_261
  have hl := tOk_len h.2.2.2.2.1 (by omega)
  rw [mw_11 h.2.1, l_500, i_le (by omega) (by decide), i_s]
  refine ⟨fun c => ih (by omega), fun c => ⟨h.1, Or.inr ⟨?_, rfl⟩⟩⟩
  have := tGo_mono (xA (absM I)) m (i + 1) s'
  rw [h.2.2.2.2.2.2] at this
  show 500 < (tW (tRes (absM I)).2).length
  omega
theorem vl_X6_rep {I : wI} {i : Nat} {K : Int32 → wI → Prop} {s : TS} {c2 : Nat} (hs : (tW s).length ≤ 500) (ho : tO s ≠ 0) (hok : tOk s i) (hc2 : 50 ≤ c2 ∧ c2 ≤ 57)
    (hx : ∀ I2, rwf I I2 → mwR I2 (tW (tFig (tRound s) c2)) → I2 111 18 = nI (tO s - 1) → (∀ j, j < tO s - 1 → I2 120 j = nI (tB s j) ∧ (tK s j = 2 → I2 121 j = nI (tE s j))) → v_X6_readWord_261 (post_X6_readWord I) K (nI (i + 1)) I2) :
    ∀ (t : Nat) (I' : wI), t ≤ c2 - 49 → rwf I I' → I' 111 18 = nI (tO s - 1) → (∀ j, j < tO s → I' 120 j = nI (tB s j) ∧ (tK s j = 2 → I' 121 j = nI (tE s j))) → mwR I' (tW s ++ repL ((tW s).drop (tB s (tO s - 1))) (c2 - 49 - t)) →
      v_X6_readWord_128 (post_X6_readWord I) K (t + 1) (nI i) (nI (tW s).length) (nI (t + 1)) I'
  | t, I', ht, hf, h18, hb, hT => by
    have h4 := hok.1
    have hbo := hok.2.2.1 (tO s - 1) (by omega)
    show g_X6_readWord_128 ..
    unfold g_X6_readWord_128
    have h11 := mw_11 hT
    rw [h11, h18, i_cl (by omega), (hb _ (by omega)).1, l_1, i_le (by omega) (by decide), l_500, i_lt (by decide) (by omega)]
    have done_ : ∀ I2, rwf I I2 → I2 111 18 = nI (tO s - 1) → (∀ j, j < tO s → I2 120 j = nI (tB s j) ∧ (tK s j = 2 → I2 121 j = nI (tE s j))) → mwR I2 (tW s ++ repL ((tW s).drop (tB s (tO s - 1))) (c2 - 49)) → v_X6_readWord_165 (post_X6_readWord I) K (nI i) I2 := by
      intro I2 a1 a2 a3 a4
      unfold v_X6_readWord_165
      rw [i_s]
      exact hx I2 a1 a4 a2 (fun j hj => a3 j (by omega))
    refine ⟨fun c => done_ I' hf h18 hb ?_, fun c => ⟨fun c5 => done_ I' hf h18 hb ?_, fun c5 => ⟨i_in (by omega) (by decide), ?_⟩⟩⟩
    · obtain rfl : t = 0 := by omega
      exact hT
    · have := mw_more (Y := repL ((tW s).drop (tB s (tO s - 1))) t) hT (by omega)
      rw [List.append_assoc, repL_add, show c2 - 49 - t + t = c2 - 49 by omega] at this; exact this
    · obtain ⟨t, rfl⟩ : ∃ k, t = k + 1 := ⟨t - 1, by omega⟩
      have hww : ∀ j, j < (tW s).length → j < 500 → I' 118 j = nI ((tW s).getD j 0) := by
        intro j hj h5
        rw [hT.2.1 j (by rw [List.length_append]; omega) h5, gd_left hj]
      refine ⟨⟨⟨_, tB s (tO s - 1), (tW s).length, by omega, h11, rfl, rfl, by omega, hs, by rw [List.length_append]; omega, fun j hj => ⟨_, hok.2.1 _ (gd_mem hj), hww j hj (by omega)⟩⟩, Or.inl rfl⟩, fun I1 q1 => ?_⟩
      have g := q1.1 _ hT
      rw [if_pos rfl, i_nt (by omega), i_nt (by omega), slM_eq (Nat.le_refl _) hs hww hok.2.1, List.take_length, List.append_assoc, repL_snoc] at g
      have hf1 := rwf_m hf q1.2
      have e1 : nI (t + 1 + 1) + (-nI 1) = nI (t + 1) := by
        show nI (t + 1 + 1) + (-1 : Int32) = nI (t + 1)
        have := down_p (t + 1)
        rw [Int32.sub_eq_add_neg] at this; exact this
      rw [e1]
      refine vl_X6_rep hs ho hok hc2 hx t I1 (by omega) hf1 (by rw [q1.2.2 18 (by decide) (by decide), h18]) (fun j hj => by rw [q1.2.1 120 (by decide) (by decide), q1.2.1 121 (by decide) (by decide)]; exact hb j hj) ?_
      rw [show c2 - 49 - t = c2 - 49 - (t + 1) + 1 by omega]; exact g
theorem rIv_read {I : wI} (h0 : okM I) {L : Nat} (eL : I 111 8 = nI L) (hL : L ≤ 60) {I' : wI} (h8 : I' 111 8 = I 111 8) (h116 : I' 116 = I 116) {i : Nat} (hi : i < L) : ∃ c, 33 ≤ c ∧ c ≤ 126 ∧ I' 116 i = nI c ∧ xA (absM I) i = c := by
  obtain ⟨L', hL', eL', hch⟩ := h0.2.2.2
  have eLL : L' = L := nI_inj (by omega) (by omega) (eL'.symm.trans eL)
  obtain ⟨c, hc, hc2, ec⟩ := hch i (by omega)
  refine ⟨c, hc, hc2, by rw [h116]; exact ec, ?_⟩
  show nt (if i < nt (I 111 8) then I 116 i else 0) = c
  rw [eL, i_nt (by omega), if_pos (by omega), ec, i_nt (by omega)]
theorem vl_X6_readWord {I : wI} (h0 : okM I) (hw : aWhole (absM I)) {L : Nat} (eL : I 111 8 = nI L) (hL : L ≤ 60) : ∀ (f m i : Nat) (s : TS) (I' : wI), m < f → i + m = L → (tW s).length ≤ 500 → rIv I I' s i m → v_X6_readWord_17 (post_X6_readWord I) f (nI i) I'
  | 0, m, i, s, I', hfm, e, hl5, h => absurd hfm (Nat.not_lt_zero _)
  | f + 1, m, i, s, I', hfm, e, hl5, h => by
    obtain ⟨hf, hT, h18, hb, hok, hF, hg⟩ := h
    have h4 := hok.1
    have hA2 : nt (absM I 2 2) = L := by rw [absM_22, eL, i_nt (by omega)]
    have hR1 : (tRes (absM I)).1 = i + m := by have := hw.1; rw [hA2] at this; rw [e]; exact this
    have h8 : I' 111 8 = I 111 8 := hf.2 8 (by decide) (by decide) (by decide)
    have h116 : I' 116 = I 116 := hf.1 116 (by decide) (by decide) (by decide) (by decide)
    have h11 : I' 111 11 = nI (tW s).length := by rw [mw_11 hT, Nat.min_eq_right (by omega)]
    show g_X6_readWord_17 ..
    unfold g_X6_readWord_17
    rw [h8, eL, i_le (by omega) (by omega)]
    refine ⟨fun c => ?_, fun c => ⟨i_in (by omega) (by decide), ?_⟩⟩
    · obtain rfl : m = 0 := by omega
      have hg : (i, s) = tRes (absM I) := hg
      have eW : aWord (absM I) = tW s := by show tW (tRes (absM I)).2 = _; rw [← hg]
      exact ⟨hf, Or.inl (by rw [eW]; exact ⟨hl5, h11, hT⟩)⟩
    · obtain ⟨m, rfl⟩ : ∃ k, m = k + 1 := ⟨m - 1, by omega⟩
      obtain ⟨c, hc, hc2, ec, ex⟩ := rIv_read h0 eL hL h8 h116 (show i < L by omega)
      obtain ⟨s', hs', hg'⟩ := tGo_next hg (by rw [hR1])
      rw [ex] at hs'
      have hok' := tStep_ok hok hs'
      rw [i_cl (by omega), ec]
      have e40 : (nI c = 40) = (c = 40) := i_eq (b := 40) (by omega) (by decide)
      have e91 : (nI c = 91) = (c = 91) := i_eq (b := 91) (by omega) (by decide)
      have e44 : (nI c = 44) = (c = 44) := i_eq (b := 44) (by omega) (by decide)
      have e41 : (nI c = 41) = (c = 41) := i_eq (b := 41) (by omega) (by decide)
      have e93 : (nI c = 93) = (c = 93) := i_eq (b := 93) (by omega) (by decide)
      rw [e40, e91, e44, e41, e93]
      have hin := tStep_inv hF hs'
      have nx : ∀ I2, rIv I I2 s' (i + 1) m → v_X6_readWord_261 (post_X6_readWord I) (v_X6_readWord_17 (post_X6_readWord I) f) (nI i) I2 := fun I2 h2 => rw_next (by omega) (by omega) (fun hl => vl_X6_readWord h0 hw eL hL f m (i + 1) s' I2 (by omega) (by omega) hl h2) h2
      have open_ : ∀ q, tO s < 4 → s' = tOpen s q → q < 2 → v_X6_readWord_44 (post_X6_readWord I) (v_X6_readWord_17 (post_X6_readWord I) f) (nI i) I' := by
        intro q ho4 es' hq
        unfold v_X6_readWord_44
        rw [h18, h11, i_cl (by omega)]
        refine ⟨i_in ho4 (by decide), fun I1 q1 I2 q2 => nx I2 ?_⟩
        have a18 : I1 111 18 = nI (tO s) := by rw [q1, wU_ne (by decide), h18]
        rw [a18, i_s] at q2
        refine ⟨⟨fun c a b d g => by rw [q2, wU_ne a, q1, wU_ne d, hf.1 c a b d g], fun j a b d => by rw [q2, wU_off (Or.inr d), q1, wU_ne (by decide), hf.2 j a b d]⟩, ?_, ?_, fun j hj => ?_, hok', by rw [es']; rfl, hg'⟩
        · rw [es']
          exact mw_fr (T := tW s) hT (by rw [q2, wU_off (Or.inr (by decide)), q1, wU_ne (by decide)]) (by rw [q2, wU_off (Or.inr (by decide)), q1, wU_ne (by decide)]) (by rw [q2, wU_ne (by decide), q1, wU_ne (by decide)])
        · rw [q2, wU_at, es']; rfl
        · rw [es'] at hj ⊢
          have hj : j < tO s + 1 := hj
          rw [q2, wU_ne (by decide), wU_ne (by decide), q1, wU_same, wU_ne (by decide)]
          show upd (I' 120) (tO s) (nI (tW s).length) j = nI (fu (tB s) (tO s) (tW s).length j) ∧ (fu (tK s) (tO s) q j = 2 → I' 121 j = nI (fu (tE s) (tO s) (tW s).length j))
          unfold upd fu
          by_cases cj : j = tO s
          · rw [if_pos cj, if_pos cj, if_pos cj]
            exact ⟨rfl, fun z => by omega⟩
          · rw [if_neg cj, if_neg cj, if_neg cj, if_neg cj]
            exact hb j (by omega)
      have move_ : ∀ v, v < 10 → s' = tMove s v → v_X6_readWord_258 (post_X6_readWord I) (v_X6_readWord_17 (post_X6_readWord I) f) (nI i) (nI v) I' := by
        intro v hv es'
        refine ⟨⟨⟨v, hv, rfl⟩, _, by omega, h11⟩, fun I1 q1 => nx I1 ?_⟩
        obtain ⟨g1, g2⟩ := mw_add hT hl5 hv q1
        refine ⟨rwf_m hf g2, by rw [es']; exact g1, ?_, fun j hj => ?_, hok', by rw [es']; rfl, hg'⟩
        · rw [g2.2 18 (by decide) (by decide), h18, es']; rfl
        · rw [es'] at hj ⊢
          rw [g2.1 120 (by decide) (by decide), g2.1 121 (by decide) (by decide)]
          exact hb j hj
      refine ⟨fun y => ?_, fun n40 => ⟨fun n91 => ⟨fun n44 => ⟨fun n41 => ⟨fun n93 => ⟨trivial, fun r1 h1 => ?_⟩, fun y I2 q2 => ?_⟩, fun y I5 q5 => ?_⟩, fun y => ?_⟩, fun y => ?_⟩⟩
      · -- (
        rcases hin with h | h | h | h | h | h | h
        · omega
        · omega
        · exact open_ 0 h.2.1 h.2.2 (by decide)
        · omega
        · omega
        · omega
        · omega
      · -- a letter
        unfold post_X6_in at h1
        rw [l_97, l_101, i_le (by decide) (by omega), i_le (by omega) (by decide)] at h1
        rcases hin with h | h | h | h | h | h | h
        · rcases h1 with ⟨_, e1⟩ | ⟨z, _⟩
          · rw [e1]
            refine ⟨fun q => absurd q (by decide), fun _ => ?_⟩
            rw [show (97 : Int32) = nI 97 from rfl, i_sub (by omega)]
            exact move_ _ (by omega) h.2.2
          · exact absurd ⟨h.1, h.2.1⟩ z
        · rcases h1 with ⟨z, _⟩ | ⟨_, e1⟩
          · omega
          · rw [e1]
            refine ⟨fun _ => ?_, fun q => absurd rfl q⟩
            rw [l_5, i_add, show (65 : Int32) = nI 65 from rfl, i_sub (by omega), show 5 + c - 65 = 5 + (c - 65) by omega]
            exact move_ _ (by omega) h.2.2
        · omega
        · omega
        · omega
        · omega
        · omega
      · -- ]
        rcases hin with h | h | h | h | h | h | h
        · omega
        · omega
        · omega
        · omega
        · omega
        · omega
        obtain ⟨_, ho, hk, es'⟩ := h
        obtain ⟨o, eo⟩ : ∃ o, tO s = o + 1 := ⟨tO s - 1, by omega⟩
        have hbo := hok.2.2.1 o (by omega)
        rw [show tO s - 1 = o by omega] at hk
        rw [h18, eo, down_p] at q2
        have a18 : I2 111 18 = nI o := by rw [q2, wU_at]
        have a120 : I2 120 o = nI (tB s o) := by rw [q2, wU_ne (by decide)]; exact (hb o (by omega)).1
        have a121 : I2 121 o = nI (tE s o) := by rw [q2, wU_ne (by decide)]; exact (hb o (by omega)).2 hk
        have a11 : I2 111 11 = nI (tW s).length := by rw [q2, wU_off (Or.inr (by decide)), h11]
        have aT : mwR I2 (tW s) := mw_fr hT (by rw [a11, h11]) (by rw [q2, wU_off (Or.inr (by decide))]) (by rw [q2, wU_ne (by decide)])
        rw [a18, i_cl (by omega), a120, a121, a11]
        have ha10 : ∀ j, j < (tW s).length → isN 10 (I2 118 j) := fun j hj => ⟨_, hok.2.1 _ (gd_mem hj), aT.2.1 j hj (by omega)⟩
        refine ⟨i_in (by omega) (by decide), i_in (by omega) (by decide), ⟨⟨_, tB s o, tE s o, by omega, a11, rfl, rfl, by omega, by omega, by omega, fun j hj => ha10 j (by omega)⟩, Or.inr rfl⟩, fun I3 q3 => ?_⟩
        have b18 : I3 111 18 = nI o := by rw [q3.2.2 18 (by decide) (by decide), a18]
        have b121 : I3 121 o = nI (tE s o) := by rw [q3.2.1 121 (by decide) (by decide), a121]
        have bT := q3.1 _ aT
        rw [if_neg (by decide), i_nt (by omega), i_nt (by omega), slM_eq (by omega) (by omega) aT.2.1 hok.2.1] at bT
        have bw : ∀ j, j < (tW s).length → j < 500 → I3 118 j = nI ((tW s).getD j 0) := fun j hj h5 => by rw [bT.2.1 j (by rw [List.length_append]; omega) h5, gd_left hj]
        rw [b18, i_cl (by omega), b121]
        refine ⟨i_in (by omega) (by decide), ⟨⟨_, tE s o, (tW s).length, Nat.min_le_left _ _, mw_11 bT, rfl, rfl, by omega, hl5, by rw [List.length_append]; omega, fun j hj => ⟨_, hok.2.1 _ (gd_mem hj), bw j hj (by omega)⟩⟩, Or.inr rfl⟩, fun I4 q4 => nx I4 ?_⟩
        have cT := q4.1 _ bT
        rw [if_neg (by decide), i_nt (by omega), i_nt (by omega), slM_eq (Nat.le_refl _) hl5 bw hok.2.1, List.take_length] at cT
        have hf2 : rwf I I2 := ⟨fun c a b d g => by rw [q2, wU_ne a, hf.1 c a b d g], fun j a b d => by rw [q2, wU_off (Or.inr d), hf.2 j a b d]⟩
        refine ⟨rwf_m (rwf_m hf2 q3.2) q4.2, ?_, ?_, fun j hj => ?_, hok', by rw [es']; rfl, hg'⟩
        · rw [es']
          show mwR I4 (tW s ++ opp (((tW s).take (tE s (tO s - 1))).drop (tB s (tO s - 1))) ++ opp ((tW s).drop (tE s (tO s - 1))))
          rw [show tO s - 1 = o by omega]; exact cT
        · rw [q4.2.2 18 (by decide) (by decide), b18, es']
          show nI o = nI (tO s - 1)
          rw [show tO s - 1 = o by omega]
        · rw [es'] at hj ⊢
          have hj : j < tO s - 1 := hj
          rw [q4.2.1 120 (by decide) (by decide), q3.2.1 120 (by decide) (by decide), q4.2.1 121 (by decide) (by decide), q3.2.1 121 (by decide) (by decide), q2, wU_ne (by decide), wU_ne (by decide)]
          exact hb j (by omega)
      · -- )
        rcases hin with h | h | h | h | h | h | h
        · omega
        · omega
        · omega
        · omega
        · obtain ⟨_, ho, hk, es'⟩ := h
          have hRF := hw.2.2.2
          obtain ⟨m, rfl⟩ : ∃ k, m = k + 1 := by
            cases m with
            | zero =>
              have hg' : (i + 1, s') = tRes (absM I) := hg'
              rw [← hg', es'] at hRF
              have hRF : true = false := hRF
              exact absurd hRF (by decide)
            | succ k => exact ⟨k, rfl⟩
          obtain ⟨d, hd, hd2, ed, exd⟩ := rIv_read h0 eL hL h8 h116 (show i + 1 < L by omega)
          obtain ⟨s2, hs2, hg2⟩ := tGo_next hg' (by rw [hR1]; omega)
          rw [exd] at hs2
          have hok2 := tStep_ok hok' hs2
          obtain ⟨d1, d2, d3, es2⟩ := tStep_fig (by rw [es']; rfl) hs2
          rw [h18] at q5
          have e18 : nI (tO s) - 1 = nI (tO s - 1) := by rw [l_1, i_sub (by omega)]
          rw [e18] at q5
          have a11 : I5 111 11 = nI (tW s).length := by rw [q5, wU_off (Or.inr (by decide)), h11]
          have a116 : I5 116 (i + 1) = nI d := by rw [q5, wU_ne (by decide)]; exact ed
          rw [a11, i_s, i_cl (by omega), a116, l_48, i_sub (by omega)]
          refine ⟨i_in (by omega) (by decide), d - 49 + 1, ?_⟩
          have := vl_X6_rep (I := I) (i := i) (K := v_X6_readWord_17 (post_X6_readWord I) f) (s := s) (c2 := d) hl5 ho hok ⟨d1, d2⟩ (fun I2 g1 g2 g3 g4 => ?_) (d - 49) I5 (Nat.le_refl _) ⟨fun c a b d g => by rw [q5, wU_ne a, hf.1 c a b d g], fun j a b d => by rw [q5, wU_off (Or.inr d), hf.2 j a b d]⟩ (by rw [q5, wU_at]) (fun j hj => by rw [q5, wU_ne (by decide), wU_ne (by decide)]; exact hb j hj) ?_
          · rw [show d - 48 = d - 49 + 1 by omega]; exact this
          · have hI : rIv I I2 s2 (i + 1 + 1) m := by
              rw [es2, es']
              rw [es2, es'] at hg2 hok2
              exact ⟨g1, g2, g3, g4, hok2, rfl, hg2⟩
            exact rw_next (by omega) (by omega) (fun hl => vl_X6_readWord h0 hw eL hL f m (i + 1 + 1) s2 I2 (by omega) (by omega) hl hI) hI
          · rw [Nat.sub_self]
            show mwR I5 (tW s ++ [])
            rw [List.append_nil]
            exact mw_fr hT (by rw [a11, h11]) (by rw [q5, wU_off (Or.inr (by decide))]) (by rw [q5, wU_ne (by decide)])
        · omega
        · omega
      · -- ,
        rcases hin with h | h | h | h | h | h | h
        · omega
        · omega
        · omega
        · omega
        · omega
        · obtain ⟨_, ho, hk, es'⟩ := h
          obtain ⟨o, eo⟩ : ∃ o, tO s = o + 1 := ⟨tO s - 1, by omega⟩
          rw [h18, eo, down_p, h11, i_cl (by omega)]
          refine ⟨i_in (by omega) (by decide), fun I6 q6 => nx I6 ?_⟩
          refine ⟨⟨fun c a b d g => by rw [q6, wU_ne g, hf.1 c a b d g], fun j a b d => by rw [q6, wU_ne (by decide), hf.2 j a b d]⟩, ?_, ?_, fun j hj => ?_, hok', by rw [es']; rfl, hg'⟩
          · rw [es']
            exact mw_fr (T := tW s) hT (by rw [q6, wU_ne (by decide)]) (by rw [q6, wU_ne (by decide)]) (by rw [q6, wU_ne (by decide)])
          · rw [q6, wU_ne (by decide), h18, es']; rfl
          · rw [es'] at hj ⊢
            have hj : j < tO s := hj
            rw [q6, wU_ne (by decide), wU_same]
            show I' 120 j = nI (tB s j) ∧ (fu (tK s) (tO s - 1) 2 j = 2 → upd (I' 121) o (nI (tW s).length) j = nI (fu (tE s) (tO s - 1) (tW s).length j))
            rw [show tO s - 1 = o by omega]
            unfold upd fu
            by_cases cj : j = o
            · rw [if_pos cj, if_pos cj, if_pos cj]
              exact ⟨(hb j hj).1, fun _ => rfl⟩
            · rw [if_neg cj, if_neg cj, if_neg cj]
              exact hb j hj
        · omega
      · -- [
        rcases hin with h | h | h | h | h | h | h
        · omega
        · omega
        · omega
        · exact open_ 1 h.2.1 h.2.2 (by decide)
        · omega
        · omega
        · omega
theorem vc_X6_readWord (I : wI) (hp : pre_X6_readWord I) : v_X6_readWord I (post_X6_readWord I) := by
  obtain ⟨h0, hw⟩ := hp
  intro I1 q1 I2 q2 I3 q3
  obtain ⟨L, hL, eL, _⟩ := h0.2.2.2
  refine ⟨L + 1, vl_X6_readWord h0 hw eL hL (L + 1) L 0 t0 I3 (by omega) (by omega) (by decide) ⟨⟨fun c a _ _ _ => by rw [q3, wU_ne a, q2, wU_ne a, q1, wU_ne a], fun j a b d => by rw [q3, wU_off (Or.inr d), q2, wU_off (Or.inr b), q1, wU_off (Or.inr a)]⟩, ⟨?_, fun i hi => absurd hi (Nat.not_lt_zero _), ?_⟩, ?_, fun j hj => absurd hj (Nat.not_lt_zero _), t0_ok, rfl, ?_⟩⟩
  · rw [q3, wU_off (Or.inr (by decide)), q2, wU_off (Or.inr (by decide)), q1, wU_at]; rfl
  · rw [q3, wU_off (Or.inr (by decide)), q2, wU_at]; rfl
  · rw [q3, wU_at]; rfl
  · show _ = tGo _ (nt (absM I 2 2)) 0 t0
    rw [absM_22, eL, i_nt (by omega)]
