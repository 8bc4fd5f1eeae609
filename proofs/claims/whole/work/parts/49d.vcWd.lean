/-! ===== the class's words ===== -/
theorem shW_u {I : wI} {W V : List Nat} (h : shW I W) (h2 : shW I V) : W = V := by
  obtain ⟨e, ha⟩ := lrel_agree h.1 h2.1 (by have := h.2.1; omega) (by have := h2.2.1; omega) h.2.2 h2.2.2
  refine List.ext_getElem e (fun i h3 h4 => ?_)
  have := ha i h3 (by have := h.2.1; omega)
  rw [List.getD_eq_getElem?_getD, List.getD_eq_getElem?_getD, List.getElem?_eq_getElem h3, List.getElem?_eq_getElem h4] at this
  exact this
theorem shW_fr {I I' : wI} {W : List Nat} (h : shW I W) (h3 : I' 24 3 = I 24 3) (h26 : I' 26 = I 26) : shW I' W := ⟨⟨by rw [h3]; exact h.1.1, fun i a b => by rw [h26]; exact h.1.2 i a b⟩, h.2⟩
/-- behind reading -/
theorem read_use {I I2 : wI} {r1 : Int32} (h0 : okC I) (h : post_X4_read 24 I r1 I2) : okC I2 ∧ absC I2 = absC I ∧ rowC 1 I2 = rowC 1 I ∧ frX I I2 ∧ lrel I2 (aWord (absC I)) ∧ (aWord (absC I)).length < 400000 ∧ (∀ v, v ∈ aWord (absC I) → v < 10) := by
  have hX := tfr_X h.2.2.1
  obtain ⟨a1, a2⟩ := absC_frX h0 hX
  have ho := tRes_ok (absC I)
  have hle := (tGo_le (xA (absC I)) (nt (absC I 2 2)) 0 t0).2
  obtain ⟨L, hL, eL, _⟩ := h0.2.2.2.2.2
  rw [absC_22, eL, i_nt (by omega)] at hle
  have h60 : (tRes (absC I)).1 ≤ 60 := by
    show (tGo (xA (absC I)) (nt (absC I 2 2)) 0 t0).1 ≤ 60
    rw [absC_22, eL, i_nt (by omega)]; omega
  exact ⟨a2, a1, congrFun a1 0, hX, h.2.1.1, tOk_len ho h60, ho.2.1⟩
theorem vl_X5_word {I0 : wI} {W : List Nat} {A : Nat → Nat → Int32} (hl : W.length ≤ 500) (hv : ∀ v, v ∈ W → v < 10) (Q : Int32 → wI → Prop)
    (hQ : ∀ (I' I2 : wI) (r : Nat), okC I' → absC I' = aNow A (dwR (rowC 1 I0) W) → r = dwN (rowC 1 I0) W → frC I0 I' → I2 = wU I' 24 1 0 → Q (nI r) I2) :
    ∀ (m j : Nat) (I' : wI), j + m = W.length → shW I' W → okC I' → absC I' = aNow A (rowC 1 I') → frC I0 I' → dwR (rowC 1 I0) W = dwR (rowC 1 I') (W.drop j) → dwN (rowC 1 I0) W = dwN (rowC 1 I') (W.drop j) + j → v_X5_word_57 Q (m + 1) (nI j) I'
  | m, j, I', e, hW, hC, hA, hF, hR, hN => by
    have hle : j ≤ W.length := by omega
    show g_X5_word_57 ..
    unfold g_X5_word_57
    rw [hW.1.1, i_le (by omega) (by omega)]
    have stop : (dwR (rowC 1 I') (W.drop j) = rowC 1 I') → dwN (rowC 1 I') (W.drop j) = 0 → v_X5_word_107 Q (nI j) I' := by
      intro h1 h2 I2 q2
      exact hQ I' I2 j hC (by rw [hR, h1]; exact hA) (by rw [hN, h2]; omega) hF q2
    refine ⟨fun c => ?_, fun c => ?_⟩
    · have : W.drop j = [] := List.drop_eq_nil_of_le c
      rw [this] at stop
      exact stop rfl rfl
    · have hj : j < W.length := by omega
      have hd : W.drop j = W.getD j 0 :: W.drop (j + 1) := by
        rw [List.drop_eq_getElem_cons hj, List.getD_eq_getElem?_getD, List.getElem?_eq_getElem hj]; rfl
      have hv10 := hv _ (gd_mem hj)
      rw [hd] at stop hR hN
      refine ⟨⟨j, by omega, rfl⟩, fun r1 q1 => ?_⟩
      unfold post_X4_moveAt at q1
      rw [i_nt (by omega), show (24 + 2 : Nat) = 26 from rfl, hW.1.2 j hj (by omega)] at q1
      refine ⟨⟨hC.1, _, hv10, q1⟩, fun r2 q2 => ?_⟩
      unfold post_X3_allows at q2
      rw [q1, i_nt (by omega)] at q2
      cases hs : aStk (rowC 1 I') (W.getD j 0 % 5)
      · rw [hs] at q2
        refine ⟨fun z => by rw [q2] at z; exact absurd z (by decide), fun _ => ⟨⟨j, by omega, rfl⟩, fun r3 q3 => ?_⟩⟩
        unfold post_X4_moveAt at q3
        rw [i_nt (by omega), show (24 + 2 : Nat) = 26 from rfl, hW.1.2 j hj (by omega)] at q3
        refine ⟨⟨hC.1, _, hv10, q3⟩, fun I4 h4 => ?_⟩
        obtain ⟨m1, m2, m3⟩ := h4
        rw [q3, i_nt (by omega)] at m1
        obtain ⟨c1, c2⟩ := absC_now hC m3 m2
        obtain ⟨m, rfl⟩ : ∃ k, m = k + 1 := ⟨m - 1, by omega⟩
        rw [i_s]
        refine vl_X5_word hl hv Q hQ m (j + 1) I4 (by omega) (shW_fr hW (by rw [m3 24 (by omega)]) (m3 26 (by omega))) c2 ?_ (fun c hc => by rw [m3 c (by omega), hF c hc]) ?_ ?_
        · rw [c1, hA]
          funext c
          unfold aNow
          split <;> rfl
        · rw [hR, m1]
          show (if aStk (rowC 1 I') (W.getD j 0 % 5) then _ else _) = _
          rw [hs]; rfl
        · rw [hN, m1]
          show (if aStk (rowC 1 I') (W.getD j 0 % 5) then 0 else _) + j = _
          rw [hs]
          show dwN _ _ + 1 + j = _
          omega
      · rw [hs] at q2
        refine ⟨fun _ => stop ?_ ?_, fun z => absurd q2 z⟩
        · show (if aStk (rowC 1 I') (W.getD j 0 % 5) then _ else _) = _
          rw [hs]; rfl
        · show (if aStk (rowC 1 I') (W.getD j 0 % 5) then 0 else _) = 0
          rw [hs]; rfl
theorem vc_X5_word (I : wI) (hp : pre_X5_word I) : v_X5_word I (post_X5_word I) := by
  obtain ⟨h0, hw, hl⟩ := hp
  refine ⟨⟨rfl, h0⟩, fun r1 I2 h2 => ?_⟩
  obtain ⟨c1, c2, c3, c4, c5, c6, c7⟩ := read_use h0 h2
  have e4 : I2 24 4 = 1 := by
    rcases h2.2.2.2 with h | h
    · exact h.2
    · exact absurd hw h.1
  rw [e4, c5.1, l_500, i_le (by omega) (by decide)]
  refine ⟨fun _ => ⟨fun _ => ⟨c1, fun I3 h3 => ?_⟩, fun q => absurd hl q⟩, fun q => absurd q (by decide)⟩
  have eR : rowC 1 I3 = rowC 1 I := by rw [save_row h3, c3]
  have hW : shW I3 (aWord (absC I)) := ⟨⟨by rw [h3.2.2.1 24 (by decide) (by decide)]; exact c5.1, fun i a b => by rw [h3.2.2.1 26 (by decide) (by decide)]; exact c5.2 i a b⟩, hl, c7⟩
  refine ⟨(aWord (absC I)).length + 1, vl_X5_word (I0 := I3) (A := aSv (absC I)) hl c7 _ (fun I' I4 r g1 g2 g3 g4 q4 => ?_) _ 0 I3 (Nat.zero_add _) hW h3.1.2.1 ?_ (fun _ _ => rfl) rfl rfl⟩
  · rw [eR] at g2 g3
    have := len_use (I1 := I4) g1 (Nat.zero_le _) (fun c hc => by rw [q4, wU_ne (by omega)]) (by rw [q4, wU_at]; rfl)
    rw [g2] at this
    exact ⟨by rw [g3], this.1, this.2.1, fun c hc => by rw [this.2.2 c hc, g4 c hc, h3.1.2.2 c hc, c4.1 c (by omega)]⟩
  · rw [h3.1.1, c2]
    funext c
    unfold aNow
    split
    · rename_i hc
      rw [hc, eR]; rfl
    · rfl
