theorem pm_turn {I I1 : wI} {G G' : wG} (x1 : Int32) {r : Int32} (hi : inv I) (h1 : lpost_L_turn x1 I G r (I1, G')) : okM I1 := by
  obtain ⟨hC, hM, hA⟩ := hi
  rcases h1 with ⟨hok, hr, v, hp, hG⟩ | ⟨hno, hG, E, hx, hE⟩
  · exact (hiM hp.2.2.2 hM).2
  · exact (hiM (frX_C hx.1) hM).2

theorem pm_back {I I1 : wI} {G G' : wG} (x1 : Int32) {r : Int32} (hi : inv I) (h1 : lpost_L_back x1 I G r (I1, G')) : okM I1 := by
  obtain ⟨hC, hM, hA⟩ := hi
  rcases h1 with ⟨hok, hr, v, hp, hG⟩ | ⟨hno, hG, E, hx, hE⟩
  · exact (hiM hp.2.2.2 hM).2
  · exact (hiM (frX_C hx.1) hM).2

theorem pm_word {I I1 : wI} {G G' : wG} {r : Int32} (hi : inv I) (h1 : lpost_L_word  I G r (I1, G')) : okM I1 := by
  obtain ⟨hC, hM, hA⟩ := hi
  rcases h1 with ⟨hok, hr, v, hp, hG⟩ | ⟨hno, hG, E, hx, hE⟩
  · exact (hiM hp.2.2.2 hM).2
  · exact (hiM (frX_C hx.1) hM).2

theorem pm_cut {I I1 : wI} {G G' : wG} (x1 x2 x3 : Int32) {r : Int32} (hi : inv I) (h1 : lpost_L_cut x1 x2 x3 I G r (I1, G')) : okM I1 := by
  obtain ⟨hC, hM, hA⟩ := hi
  rcases h1 with ⟨hok, hr, v, hp, hG⟩ | ⟨hno, hG, E, hx, hE⟩
  · exact (hiM hp.2.2.2 hM).2
  · exact (hiM (frX_C hx.1) hM).2

theorem pm_stick {I I1 : wI} {G G' : wG} (x1 : Int32) {r : Int32} (hi : inv I) (h1 : lpost_L_stick x1 I G r (I1, G')) : okM I1 := by
  obtain ⟨hC, hM, hA⟩ := hi
  rcases h1 with ⟨hok, hr, v, hp, hG⟩ | ⟨hno, hG, E, hx, hE⟩
  · exact (hiM hp.2.2.2 hM).2
  · exact (hiM (frX_C hx.1) hM).2

theorem pm_append {I I1 : wI} {G G' : wG} (x1 : Int32) {r : Int32} (hi : inv I) (h1 : lpost_L_append x1 I G r (I1, G')) : okM I1 := by
  obtain ⟨hC, hM, hA⟩ := hi
  rcases h1 with ⟨hok, hr, v, hp, hG⟩ | ⟨hno, hG, E, hx, hE⟩
  · exact (hiM hp.2.2.2 hM).2
  · exact (hiM (frX_C hx.1) hM).2

theorem pm_goBack {I I1 : wI} {G G' : wG} {r : Int32} (hi : inv I) (h1 : lpost_L_goBack  I G r (I1, G')) : okM I1 := by
  obtain ⟨hC, hM, hA⟩ := hi
  rcases h1 with ⟨hok, hr, v, hp, hG⟩ | ⟨hno, hG, E, hx, hE⟩
  · exact (hiM hp.2.2.2 hM).2
  · exact (hiM (frX_C hx.1) hM).2

theorem pm_undo {I I1 : wI} {G G' : wG} {r : Int32} (hi : inv I) (h1 : lpost_L_undo  I G r (I1, G')) : okM I1 := by
  obtain ⟨hC, hM, hA⟩ := hi
  rcases h1 with ⟨hok, hr, v, hp, hG⟩ | ⟨hno, hG, E, hx, hE⟩
  · exact (hiM hp.2.2.2 hM).2
  · exact (hiM (frX_C hx.1) hM).2

theorem pm_at {I I1 : wI} {G G' : wG} (x1 x2 : Int32) {r : Int32} (hi : inv I) (h1 : lpost_L_at x1 x2 I G r (I1, G')) : okM I1 := by
  obtain ⟨hC, hM, hA⟩ := hi
  rcases h1 with ⟨hok, hr, v, hp, hG⟩ | ⟨hno, hG, E, hx, hE⟩
  · have e0 : I1 = I := hp.2
    rw [e0]; exact hM
  · have e0 : I1 = I := hx.2
    rw [e0]; exact hM

theorem pm_key {I I1 : wI} {G G' : wG} (x1 x2 : Int32) {r : Int32} (hi : inv I) (h1 : lpost_L_key x1 x2 I G r (I1, G')) : okM I1 := by
  obtain ⟨hC, hM, hA⟩ := hi
  rcases h1 with ⟨hok, hr, v, hp, hG⟩ | ⟨hno, hG, E, hx, hE⟩
  · exact (hiM (frX_C hp.2) hM).2
  · exact (hiM (frX_C hx.1) hM).2

theorem pm_pair {I I1 : wI} {G G' : wG} (x1 x2 x3 : Int32) {r : Int32} (hi : inv I) (h1 : lpost_L_pair x1 x2 x3 I G r (I1, G')) : okM I1 := by
  obtain ⟨hC, hM, hA⟩ := hi
  rcases h1 with ⟨hok, hr, v, hp, hG⟩ | ⟨hno, hG, E, hx, hE⟩
  · exact (hiM (frX_C hp.2) hM).2
  · exact (hiM (frX_C hx.1) hM).2

theorem pm_ofWord {I I1 : wI} {G G' : wG} (x1 : Int32) {r : Int32} (hi : inv I) (h1 : lpost_L_ofWord x1 I G r (I1, G')) : okM I1 := by
  obtain ⟨hC, hM, hA⟩ := hi
  rcases h1 with ⟨hok, hr, v, hp, hG⟩ | ⟨hno, hG, E, hx, hE⟩
  · exact (hiM (frX_C hp.2) hM).2
  · exact (hiM (frX_C hx.1) hM).2

theorem pm_count {I I1 : wI} {G G' : wG} (x1 : Int32) {r : Int32} (hi : inv I) (h1 : lpost_L_count x1 I G r (I1, G')) : okM I1 := by
  obtain ⟨hC, hM, hA⟩ := hi
  rcases h1 with ⟨hok, hr, v, hp, hG⟩ | ⟨hno, hG, E, hx, hE⟩
  · have e0 : I1 = I := hp.2
    rw [e0]; exact hM
  · have e0 : I1 = I := hx.2
    rw [e0]; exact hM

theorem pm_openIn {I I1 : wI} {G G' : wG} (x1 : Int32) {r : Int32} (hi : inv I) (h1 : lpost_L_openIn x1 I G r (I1, G')) : okM I1 := by
  obtain ⟨hC, hM, hA⟩ := hi
  rcases h1 with ⟨hok, hr, v, hp, hG⟩ | ⟨hno, hG, E, hx, hE⟩
  · exact (hiM (frX_C hp.2) hM).2
  · exact (hiM (frX_C hx.1) hM).2

theorem pm_ifTurned {I I1 : wI} {G G' : wG} (x1 x2 : Int32) {r : Int32} (hi : inv I) (h1 : lpost_L_ifTurned x1 x2 I G r (I1, G')) : okM I1 := by
  obtain ⟨hC, hM, hA⟩ := hi
  rcases h1 with ⟨hok, hr, v, hp, hG⟩ | ⟨hno, hG, E, hx, hE⟩
  · exact (hiM (frX_C hp.2) hM).2
  · exact (hiM (frX_C hx.1) hM).2

theorem pm_home {I I1 : wI} {v : Int32} (hi : inv I) (h1 : post_X5_home I v I1) : okM I1 := (hiM h1.2.2.2 hi.2.1).2
theorem pm_learn {I I1 : wI} {v : Int32} (hi : inv I) (h1 : post_X5_learn I v I1) : okM I1 := (hiM h1.2.2.2 hi.2.1).2
theorem pm_clearBuffer {I I1 : wI} {v : Int32} (hi : inv I) (h1 : post_X5_clearBuffer I v I1) : okM I1 := (hiM h1.2.2.2 hi.2.1).2
theorem pm_keep {I I1 : wI} {v : Int32} (hi : inv I) (h1 : post_X5_keep I v I1) : okM I1 := (hiM h1.2.2.2 hi.2.1).2
theorem pm_firstError {I I1 : wI} {v : Int32} (hi : inv I) (h1 : post_X5_firstError I v I1) : okM I1 := (hiM (frX_C h1.2) hi.2.1).2
theorem pm_closest {I I1 : wI} {v : Int32} (hi : inv I) (h1 : post_X5_closest I v I1) : okM I1 := (hiM (frX_C h1.2) hi.2.1).2
theorem pm_digest {I I1 : wI} {v : Int64} (hi : inv I) (h1 : post_X5_digest I v I1) : okM I1 := (hiM (frX_C h1.2) hi.2.1).2
