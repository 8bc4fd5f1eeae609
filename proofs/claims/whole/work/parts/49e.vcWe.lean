theorem vc_X5_wordx (I : wI) (hp : pre_X5_wordx I) : v_X5_wordx I (exc_X5_word I) := by
  obtain ⟨h0, hn⟩ := hp
  refine ⟨⟨rfl, h0⟩, fun r1 I2 h2 => ?_⟩
  obtain ⟨c1, c2, c3, c4, c5, c6, c7⟩ := read_use h0 h2
  rw [c5.1, l_500, i_le (by omega) (by decide)]
  rcases h2.2.2.2 with ⟨hw, e4⟩ | ⟨hw, e4⟩
  · rw [e4]
    exact ⟨fun _ => ⟨fun q => absurd ⟨hw, q⟩ hn, fun q => ⟨c4, Or.inr ⟨hw, rfl⟩⟩⟩, fun q => absurd q (by decide)⟩
  · rw [e4]
    exact ⟨fun q => absurd rfl q, fun _ => ⟨c4, Or.inl ⟨hw, rfl⟩⟩⟩
theorem vl_X4_tlb {I : wI} {W : List Nat} (hW : shW I W) (Q : Int32 → Prop) (hQ : Q (ssU W W.length)) : ∀ (m i : Nat), i + m = W.length → v_X4_turnsLessBacks_4 24 I Q (m + 1) (ssU W i) (nI i)
  | m, i, e => by
    have hl := hW.2.1
    show g_X4_turnsLessBacks_4 ..
    unfold g_X4_turnsLessBacks_4 v_X4_turnsLessBacks_45
    rw [hW.1.1, i_le (by omega) (by omega), l_500, i_le (by decide) (by omega)]
    refine ⟨fun c => by rw [show i = W.length by omega]; exact hQ, fun c => ⟨fun c5 => absurd c5 (by omega), fun c5 => ⟨i_in (by omega) (by decide), ?_⟩⟩⟩
    have hi : i < W.length := by omega
    have hm := hW.2.2 _ (gd_mem hi)
    have ih : v_X4_turnsLessBacks_4 24 I Q m (ssU W i + (if W.getD i 0 < 5 then 1 else -1)) (nI (i + 1)) := by
      obtain ⟨m, rfl⟩ : ∃ k, m = k + 1 := ⟨m - 1, by omega⟩
      exact vl_X4_tlb hW Q hQ m (i + 1) (by omega)
    rw [i_cl (by omega), show (24 + 2 : Nat) = 26 from rfl, hW.1.2 i hi (by omega)]
    refine ⟨⟨_, hm, rfl⟩, fun r1 q1 => ?_⟩
    unfold post_X5_isBack at q1
    rw [i_nt (by omega)] at q1
    unfold v_X4_turnsLessBacks_37
    rw [q1, l_0, i_eq (by omega) (by decide), i_s]
    refine ⟨fun z => ?_, fun z => ?_⟩
    · rw [if_pos (by omega)] at ih; exact ih
    · rw [if_neg (by omega)] at ih; exact ih
theorem vc_X4_turnsLessBacks (k : Nat) (I : wI) (hp : pre_X4_turnsLessBacks k I) : v_X4_turnsLessBacks k I (post_X4_turnsLessBacks k I) := by
  obtain ⟨rfl, W, hW⟩ := hp
  exact ⟨W.length + 1, vl_X4_tlb hW _ (fun V hV => by rw [shW_u hV hW]) W.length 0 (Nat.zero_add _)⟩
theorem wD_app (a : Nat → Int32) (v : Nat) : ∀ (l : List Nat) (d : Nat → Nat), wD a (l ++ [v]) d = mvD (aM a (v % 5)) (v / 5) (wD a l d)
  | [], _ => rfl
  | u :: l, d => wD_app a v l _
theorem wN_app (a : Nat → Int32) (v : Nat) : ∀ (l : List Nat) (d : Nat → Nat), wN a (l ++ [v]) d = mvN (aM a (v % 5)) (aS a (v % 5)) (v / 5) (wN a l d)
  | [], _ => rfl
  | u :: l, d => wN_app a v l _
theorem vl_X5_showWord {I : wI} {W : List Nat} (h0 : okC I) (hW : shW I W) (Q : wI → Prop) (hQ : ∀ I', ef I' 30 (wD (rowC 1 I) W idF) (wN (rowC 1 I) W zF) → fr2 I I' 31 32 → Q I') :
    ∀ (m i : Nat) (I' : wI), i + m = W.length → ef I' 30 (wD (rowC 1 I) (W.take i) idF) (wN (rowC 1 I) (W.take i) zF) → fr2 I I' 31 32 → v_X5_showWord_9 Q (m + 1) (nI i) I'
  | m, i, I', e, he, hf => by
    have hl := hW.2.1
    have hW' : shW I' W := shW_fr hW (by rw [hf 24 (by decide) (by decide)]) (hf 26 (by decide) (by decide))
    show g_X5_showWord_9 ..
    unfold g_X5_showWord_9 v_X5_showWord_55
    rw [hW'.1.1, i_le (by omega) (by omega), l_500, i_le (by decide) (by omega)]
    refine ⟨fun c => ?_, fun c => ⟨fun c5 => absurd c5 (by omega), fun c5 => ?_⟩⟩
    · rw [show i = W.length by omega, List.take_length] at he
      exact hQ I' he hf
    · have hi : i < W.length := by omega
      have hm := hW.2.2 _ (gd_mem hi)
      refine ⟨⟨i, by omega, rfl⟩, fun r1 q1 => ?_⟩
      unfold post_X4_moveAt at q1
      rw [i_nt (by omega), show (24 + 2 : Nat) = 26 from rfl, hW'.1.2 i hi (by omega)] at q1
      have kE := okE_w h0.1.1 (W.take i) idF zF (fun v hv => hW.2.2 v (List.mem_of_mem_take hv)) okE_id nrm_id nrm_z
      obtain ⟨q6, q7⟩ := fr2_67 (k := 30) hf (by decide)
      refine ⟨⟨ef_D he kE.1 kE.2.1 kE.2.2, okK_fr h0.1 q6 q7, _, hm, q1⟩, fun I2 h2 => ?_⟩
      rw [q1] at h2
      obtain ⟨g1, g2⟩ := mv_step q6 q7 he kE.1 kE.2.1 kE.2.2 hm h2
      obtain ⟨m, rfl⟩ : ∃ k, m = k + 1 := ⟨m - 1, by omega⟩
      rw [i_s]
      refine vl_X5_showWord h0 hW Q hQ m (i + 1) I2 (by omega) ?_ (fr2_trans hf g2)
      rw [← take_s hi, wD_app, wN_app]
      exact g1
theorem vc_X5_showWord (I : wI) (hp : pre_X5_showWord I) : v_X5_showWord I (post_X5_showWord I) := by
  obtain ⟨h0, W, hW⟩ := hp
  refine ⟨trivial, fun I1 h1 => ⟨W.length + 1, vl_X5_showWord h0 hW _ (fun I' g1 g2 => ⟨fun V hV => by rw [shW_u hV hW]; exact g1, g2⟩) W.length 0 I1 (Nat.zero_add _) (ef_home h1) h1.2⟩⟩
theorem vc_X5_ofShortWord (x1 : Int32) (I : wI) (hp : pre_X5_ofShortWord x1 I) : v_X5_ofShortWord x1 I (post_X5_ofShortWord x1 I) := by
  obtain ⟨h0, ⟨W, hW⟩, w, hw1, hw4, rfl⟩ := hp
  have kE := okE_w h0.1.1 W idF zF hW.2.2 okE_id nrm_id nrm_z
  refine ⟨fun n4 => ⟨⟨h0, W, hW⟩, fun I1 h1 => ?_⟩, fun z4 => ⟨⟨rfl, W, hW⟩, fun r6 h6 => ⟨fun V hV => ?_, frX_refl I⟩⟩⟩
  · have g4 : w ≠ 4 := fun q => n4 (by rw [q]; rfl)
    have g1 := h1.1 W hW
    have gX := frX_2 (k := 30) h1.2 (by decide)
    have gD := ef_D g1 kE.1 kE.2.1 kE.2.2
    have gd := ef_d g1 kE.1 kE.2.1
    have gn := ef_n g1 kE.1 kE.2.2
    have hpm : pmF (dsc I1 30) := by rw [gd]; exact kE.1.2.2
    unfold post_X5_ofShortWord aOfW
    rw [i_nt (by omega)]
    refine ⟨fun z => ⟨gD, fun r h => ⟨fun V hV => ?_, gX⟩⟩, fun z => ⟨⟨gD, hpm⟩, fun r3 I4 h3 => ⟨fun V hV => ?_, frX_trans gX (frX_2 (k := 33) h3.2 (by decide))⟩⟩, fun z => ⟨⟨gD, hpm⟩, fun r5 h5 => ⟨fun V hV => ?_, gX⟩⟩⟩
    · rw [shW_u hV hW]
      obtain rfl : w = 1 := nI_inj (by omega) (by decide) z
      rw [if_neg (by decide), if_pos rfl, ← gd, ← gn]; exact h
    · rw [shW_u hV hW]
      obtain rfl : w = 2 := nI_inj (by omega) (by decide) z
      rw [if_neg (by decide), if_neg (by decide), ← gd, ← gn]; exact h3.1
    · rw [shW_u hV hW]
      have g1' : w ≠ 1 := fun q => z.1 (by rw [q]; rfl)
      rw [if_neg g4, if_neg g1', ← gd, ← gn]; exact h5
  · obtain rfl : w = 4 := nI_inj (by omega) (by decide) z4
    rw [i_nt (by decide)]
    unfold aOfW
    rw [if_pos rfl]; exact h6 V hV
