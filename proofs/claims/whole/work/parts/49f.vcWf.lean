theorem vc_X5_ofWord (x1 : Int32) (I : wI) (hp : pre_X5_ofWord x1 I) : v_X5_ofWord x1 I (post_X5_ofWord x1 I) := by
  obtain ⟨h0, hN, hw⟩ := hp
  refine ⟨fun h => absurd h (isN_0 (by decide) hN), fun _ => ⟨fun _ => ⟨⟨rfl, h0⟩, fun r1 I2 h2 => ?_⟩, fun h => ?_⟩⟩
  · obtain ⟨c1, c2, c3, c4, c5, c6, c7⟩ := read_use h0 h2
    obtain ⟨w, hw5, rfl⟩ := hN
    have e4 : I2 24 4 = 1 := by
      rcases h2.2.2.2 with h | h
      · exact h.2
      · exact absurd hw h.1
    unfold post_X5_ofWord aOW
    rw [e4, c5.1, i_nt (by omega), l_500, i_le (by omega) (by decide), show (nI w = 0) = (w = 0) from i_eq (b := 0) (by omega) (by decide)]
    refine ⟨fun _ => ⟨fun n0 => ⟨fun hl => ?_, fun hl => ⟨by rw [if_neg n0, if_pos (by omega)], c4⟩⟩, fun z0 => ⟨trivial, fun r5 h5 => ⟨?_, c4⟩⟩⟩, fun q => absurd q (by decide)⟩
    · have hS : shW I2 (aWord (absC I)) := ⟨c5, hl, c7⟩
      refine ⟨⟨c1, ⟨_, hS⟩, w, by omega, by omega, rfl⟩, fun r3 I4 h3 => ⟨?_, frX_trans c4 h3.2⟩⟩
      have := h3.1 _ hS
      rw [i_nt (by omega), c3] at this
      rw [if_neg n0, if_neg (by omega)]
      exact this
    · unfold post_J_min at h5
      rw [if_pos z0, h5]
      by_cases c : (aWord (absC I)).length ≤ 9999
      · rw [if_pos c, if_pos (by rw [l_9999, i_le (by omega) (by decide)]; exact c)]
      · rw [if_neg c, if_neg (by rw [l_9999, i_le (by omega) (by decide)]; exact c)]; rfl
  · obtain ⟨w, hw5, rfl⟩ := hN
    exact absurd (show nI w ≤ 4 by rw [l_4, i_le (by omega) (by decide)]; omega) h
theorem vc_X5_ofWordx (x1 : Int32) (I : wI) (hp : pre_X5_ofWordx x1 I) : v_X5_ofWordx x1 I (exc_X5_ofWord x1 I) := by
  obtain ⟨h0, hn⟩ := hp
  refine ⟨fun _ => ⟨frX_refl I, rfl⟩, fun e0 => ⟨fun e1 => ⟨⟨rfl, h0⟩, fun r1 I2 h2 => ?_⟩, fun _ => ⟨frX_refl I, rfl⟩⟩⟩
  obtain ⟨c1, c2, c3, c4, c5, c6, c7⟩ := read_use h0 h2
  have hN := isN_le (n := 4) (by decide) e0 e1
  have hw : ¬ aWhole (absC I) := fun q => hn ⟨hN, q⟩
  have e4 : I2 24 4 = 0 := by
    rcases h2.2.2.2 with h | h
    · exact absurd h.1 hw
    · exact h.2
  rw [e4]
  exact ⟨fun q => absurd rfl q, fun _ => ⟨c4, rfl⟩⟩
