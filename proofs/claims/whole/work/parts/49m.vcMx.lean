/-! ===== how many turns a word has ===== -/
def stS (s : TS) : Nat → Nat
  | 0 => 0
  | j + 1 => if tK s j = 2 then tE s j else tB s j
theorem stS_cong {s u : TS} : ∀ j, (∀ i, i < j → tK s i = tK u i ∧ tB s i = tB u i ∧ tE s i = tE u i) → stS s j = stS u j
  | 0, _ => rfl
  | j + 1, h => by
    obtain ⟨a, b, c⟩ := h j (by omega)
    show (if tK s j = 2 then tE s j else tB s j) = (if tK u j = 2 then tE u j else tB u j)
    rw [a, b, c]
theorem stS_le {s : TS} {n : Nat} (h : tOk s n) : ∀ j, j ≤ tO s → stS s j ≤ (tW s).length
  | 0, _ => Nat.zero_le _
  | j + 1, hj => by
    have := h.2.2.1 j (by omega)
    show (if tK s j = 2 then tE s j else tB s j) ≤ _
    split <;> omega
def cIv (I I' : wI) (s : TS) (i m n : Nat) : Prop := cwf I I' ∧ I' 111 18 = nI (tO s) ∧ n + stS s (tO s) = (tW s).length ∧ (∀ j, j < tO s → stS s j ≤ tB s j ∧ I' 122 j = nI (tB s j - stS s j) ∧ I' 123 j = nI (if tK s j = 2 then tE s j - tB s j else 0)) ∧ tOk s i ∧ tF s = false ∧ tGo (xA (absM I)) m i s = tRes (absM I)
theorem vl_X6_countTurns {I : wI} (h0 : okM I) (hw : aWhole (absM I)) {L : Nat} (eL : I 111 8 = nI L) (hL : L ≤ 60) : ∀ (f m i n : Nat) (s : TS) (I' : wI), m < f → i + m = L → cIv I I' s i m n → v_X6_countTurns_9 (post_X6_countTurns I) f (nI n) (nI i) I'
  | 0, m, i, n, s, I', hfm, e, h => absurd hfm (Nat.not_lt_zero _)
  | f + 1, m, i, n, s, I', hfm, e, h => by
    obtain ⟨hf, h18, hn, hb, hok, hF, hg⟩ := h
    have h4 := hok.1
    have hA2 : nt (absM I 2 2) = L := by rw [absM_22, eL, i_nt (by omega)]
    have hR1 : (tRes (absM I)).1 = i + m := by have := hw.1; rw [hA2] at this; rw [e]; exact this
    have h8 : I' 111 8 = I 111 8 := hf.2 8 (by decide)
    have h116 : I' 116 = I 116 := hf.1 116 (by decide) (by decide) (by decide)
    have hlen := tOk_len hok (show i ≤ 60 by omega)
    show g_X6_countTurns_9 ..
    unfold g_X6_countTurns_9
    rw [h8, eL, i_le (by omega) (by omega)]
    refine ⟨fun c => ?_, fun c => ⟨i_in (by omega) (by decide), ?_⟩⟩
    · obtain rfl : m = 0 := by omega
      have hg : (i, s) = tRes (absM I) := hg
      have eW : (aWord (absM I)).length = n := by
        have h1 := hw.2.1
        rw [← hg] at h1
        have h1 : tO s = 0 := h1
        rw [h1] at hn
        have hn : n + 0 = (tW s).length := hn
        show (tW (tRes (absM I)).2).length = n
        rw [← hg]
        exact hn.symm
      unfold v_X6_countTurns_206 post_X6_countTurns
      rw [l_9999, i_le (by omega) (by decide), eW]
      exact ⟨fun q => ⟨by rw [if_pos q], hf⟩, fun q => ⟨by rw [if_neg q], hf⟩⟩
    · obtain ⟨m, rfl⟩ : ∃ k, m = k + 1 := ⟨m - 1, by omega⟩
      obtain ⟨c, hc, hc2, ec, ex⟩ := rIv_read h0 eL hL h8 h116 (show i < L by omega)
      obtain ⟨s', hs', hg'⟩ := tGo_next hg (by rw [hR1])
      rw [ex] at hs'
      have hok' := tStep_ok hok hs'
      rw [i_cl (by omega), ec]
      have e40 : (nI c = 40) = (c = 40) := i_eq (b := 40) (by omega) (by decide)
      have e91 : (nI c = 91) = (c = 91) := i_eq (b := 91) (by omega) (by decide)
      have e44 : (nI c = 44) = (c = 44) := i_eq (b := 44) (by omega) (by decide)
      have e41 : (nI c = 41) = (c = 41) := i_eq (b := 41) (by omega) (by decide)
      have e93 : (nI c = 93) = (c = 93) := i_eq (b := 93) (by omega) (by decide)
      rw [e40, e91, e44, e41, e93]
      have hin := tStep_inv hF hs'
      have nx : ∀ n' I2, cIv I I2 s' (i + 1) m n' → v_X6_countTurns_186 (post_X6_countTurns I) (v_X6_countTurns_9 (post_X6_countTurns I) f) (nI n') (nI i) I2 := by
        intro n' I2 h2
        unfold v_X6_countTurns_186
        rw [i_s]
        exact vl_X6_countTurns h0 hw eL hL f m (i + 1) n' s' I2 (by omega) (by omega) h2
      have open_ : ∀ q, tO s < 4 → s' = tOpen s q → q < 2 → v_X6_countTurns_36 (post_X6_countTurns I) (v_X6_countTurns_9 (post_X6_countTurns I) f) (nI n) (nI i) I' := by
        intro q ho4 es' hq
        unfold v_X6_countTurns_36
        rw [h18, i_cl (by omega)]
        refine ⟨i_in ho4 (by decide), fun I1 q1 => ?_⟩
        have a18 : I1 111 18 = nI (tO s) := by rw [q1, wU_ne (by decide), h18]
        rw [a18, i_cl (by omega)]
        refine ⟨i_in ho4 (by decide), fun I2 q2 I3 q3 => ?_⟩
        have b18 : I2 111 18 = nI (tO s) := by rw [q2, wU_ne (by decide), a18]
        rw [b18, i_s] at q3
        have hold : ∀ j, j ≤ tO s → stS s' j = stS s j := fun j hj => stS_cong j (fun k hk => by
          rw [es']
          show fu (tK s) (tO s) q k = _ ∧ fu (tB s) (tO s) (tW s).length k = _ ∧ fu (tE s) (tO s) (tW s).length k = _
          unfold fu
          rw [if_neg (by omega), if_neg (by omega), if_neg (by omega)]
          exact ⟨rfl, rfl, rfl⟩)
        have hnew : stS s' (tO s + 1) = (tW s).length := by
          rw [es']
          show (if fu (tK s) (tO s) q (tO s) = 2 then fu (tE s) (tO s) (tW s).length (tO s) else fu (tB s) (tO s) (tW s).length (tO s)) = _
          unfold fu
          rw [if_pos rfl, if_pos rfl, if_neg (by omega), if_pos rfl]
        refine nx 0 I3 ⟨⟨fun c a b d => by rw [q3, wU_ne a, q2, wU_ne d, q1, wU_ne b, hf.1 c a b d], fun j a => by rw [q3, wU_off (Or.inr a), q2, wU_ne (by decide), q1, wU_ne (by decide), hf.2 j a]⟩, ?_, ?_, fun j hj => ?_, hok', by rw [es']; rfl, hg'⟩
        · rw [q3, wU_at, es']; rfl
        · rw [show tO s' = tO s + 1 by rw [es']; rfl, hnew, Nat.zero_add, es']; rfl
        · have hj : j < tO s + 1 := by rw [es'] at hj; exact hj
          rw [hold j (by omega), q3, wU_ne (by decide), wU_ne (by decide), q2, wU_ne (by decide), wU_same, q1, wU_same, wU_ne (by decide), es']
          show stS s j ≤ fu (tB s) (tO s) (tW s).length j ∧ upd (I' 122) (tO s) (nI n) j = nI (fu (tB s) (tO s) (tW s).length j - stS s j) ∧ upd (I' 123) (tO s) 0 j = nI (if fu (tK s) (tO s) q j = 2 then fu (tE s) (tO s) (tW s).length j - fu (tB s) (tO s) (tW s).length j else 0)
          unfold upd fu
          by_cases cj : j = tO s
          · rw [if_pos cj, if_pos cj, if_pos cj, if_pos cj, if_pos cj, if_neg (by omega), cj]
            exact ⟨by omega, by rw [show (tW s).length - stS s (tO s) = n by omega], rfl⟩
          · rw [if_neg cj, if_neg cj, if_neg cj, if_neg cj, if_neg cj]
            exact hb j (by omega)
      have move_ : ∀ v, v < 10 → s' = tMove s v → v_X6_countTurns_186 (post_X6_countTurns I) (v_X6_countTurns_9 (post_X6_countTurns I) f) (nI n + 1) (nI i) I' := by
        intro v hv es'
        rw [i_s]
        refine nx (n + 1) I' ⟨hf, by rw [es']; exact h18, ?_, fun j hj => by rw [es'] at hj ⊢; exact hb j hj, hok', by rw [es']; rfl, hg'⟩
        rw [es']
        show n + 1 + stS s (tO s) = (tW s ++ [v]).length
        rw [List.length_append, ← hn]
        show n + 1 + _ = n + _ + 1
        omega
      refine ⟨fun y => ?_, fun n40 => ⟨fun n91 => ⟨fun n41 => ⟨fun n44 => ⟨fun n93 => ?_, fun y I1 q1 => ?_⟩, fun y => ?_⟩, fun y I3 q3 => ?_⟩, fun y => ?_⟩⟩
      · rcases hin with h | h | h | h | h | h | h
        · omega
        · omega
        · exact open_ 0 h.2.1 h.2.2 (by decide)
        · omega
        · omega
        · omega
        · omega
      · rcases hin with h | h | h | h | h | h | h
        · exact move_ _ (by omega) h.2.2
        · exact move_ _ (by omega) h.2.2
        · omega
        · omega
        · omega
        · omega
        · omega
      · -- ]
        rcases hin with h | h | h | h | h | h | h
        · omega
        · omega
        · omega
        · omega
        · omega
        · omega
        obtain ⟨_, ho, hk, es'⟩ := h
        obtain ⟨o, eo⟩ : ∃ o, tO s = o + 1 := ⟨tO s - 1, by omega⟩
        have hbo := hok.2.2.1 o (by omega)
        rw [show tO s - 1 = o by omega] at hk
        obtain ⟨b1, b2, b3⟩ := hb o (by omega)
        rw [h18, eo, down_p] at q1
        have a18 : I1 111 18 = nI o := by rw [q1, wU_at]
        rw [if_pos hk] at b3
        have hn' : n + tE s o = (tW s).length := by
          rw [eo] at hn
          have hn : n + (if tK s o = 2 then tE s o else tB s o) = (tW s).length := hn
          rw [if_pos hk] at hn; exact hn
        rw [a18, i_cl (by omega), show I1 122 o = I' 122 o by rw [q1, wU_ne (by decide)], show I1 123 o = I' 123 o by rw [q1, wU_ne (by decide)], b2, b3, i_add, l_2, i_mul, i_add]
        have hold : ∀ j, j ≤ o → stS s' j = stS s j := fun j hj => by rw [es']; exact stS_cong j (fun k hk => ⟨rfl, rfl, rfl⟩)
        have eo' : tO s' = o := by rw [es']; show tO s - 1 = o; omega
        refine ⟨i_in (by omega) (by decide), i_in (by omega) (by decide), nx _ I1 ⟨⟨fun c a b d => by rw [q1, wU_ne a, hf.1 c a b d], fun j a => by rw [q1, wU_off (Or.inr a), hf.2 j a]⟩, by rw [a18, eo'], ?_, fun j hj => ?_, hok', by rw [es']; rfl, hg'⟩⟩
        · rw [eo', hold o (Nat.le_refl _), es']
          show _ = (oppT (tW s) (tB s (tO s - 1)) (tE s (tO s - 1))).length
          rw [show tO s - 1 = o by omega, oppT_len hbo.2.1 hbo.2.2]
          omega
        · rw [eo'] at hj
          rw [hold j (by omega), q1, wU_ne (by decide), wU_ne (by decide), es']
          exact hb j (by omega)
      · -- ,
        rcases hin with h | h | h | h | h | h | h
        · omega
        · omega
        · omega
        · omega
        · omega
        · obtain ⟨_, ho, hk, es'⟩ := h
          obtain ⟨o, eo⟩ : ∃ o, tO s = o + 1 := ⟨tO s - 1, by omega⟩
          have hbo := hok.2.2.1 o (by omega)
          rw [show tO s - 1 = o by omega] at hk
          have hn' : n + tB s o = (tW s).length := by
            rw [eo] at hn
            have hn : n + (if tK s o = 2 then tE s o else tB s o) = (tW s).length := hn
            rw [if_neg (by omega)] at hn; exact hn
          rw [h18, eo, down_p, i_cl (by omega)]
          have hold : ∀ j, j ≤ o → stS s' j = stS s j := fun j hj => stS_cong j (fun k hk => by
            rw [es']
            show fu (tK s) (tO s - 1) 2 k = _ ∧ tB s k = _ ∧ fu (tE s) (tO s - 1) (tW s).length k = _
            unfold fu
            rw [if_neg (by omega), if_neg (by omega)]
            exact ⟨rfl, rfl, rfl⟩)
          have hnew : stS s' (o + 1) = (tW s).length := by
            rw [es']
            show (if fu (tK s) (tO s - 1) 2 o = 2 then fu (tE s) (tO s - 1) (tW s).length o else tB s o) = _
            unfold fu
            rw [show tO s - 1 = o by omega]
            simp
          have eo' : tO s' = o + 1 := by rw [es', ← eo]; rfl
          refine ⟨i_in (by omega) (by decide), fun I6 q6 => nx 0 I6 ⟨⟨fun c a b d => by rw [q6, wU_ne d, hf.1 c a b d], fun j a => by rw [q6, wU_ne (by decide), hf.2 j a]⟩, ?_, ?_, fun j hj => ?_, hok', by rw [es']; rfl, hg'⟩⟩
          · rw [q6, wU_ne (by decide), h18, eo', eo]
          · rw [eo', hnew, Nat.zero_add, es']; rfl
          · rw [eo'] at hj
            rw [hold j (by omega), q6, wU_ne (by decide), wU_same, es']
            show stS s j ≤ tB s j ∧ I' 122 j = nI (tB s j - stS s j) ∧ upd (I' 123) o (nI n) j = nI (if fu (tK s) (tO s - 1) 2 j = 2 then fu (tE s) (tO s - 1) (tW s).length j - tB s j else 0)
            rw [show tO s - 1 = o by omega]
            have hbj := hb j (by omega)
            unfold upd fu
            by_cases cj : j = o
            · rw [if_pos cj, if_pos cj, if_pos cj, if_pos rfl]
              rw [cj] at hbj ⊢
              exact ⟨hbj.1, hbj.2.1, by rw [show (tW s).length - tB s o = n by omega]⟩
            · rw [if_neg cj, if_neg cj, if_neg cj]
              exact hbj
        · omega
      · -- )
        rcases hin with h | h | h | h | h | h | h
        · omega
        · omega
        · omega
        · omega
        · obtain ⟨_, ho, hk, es'⟩ := h
          have hRF := hw.2.2.2
          obtain ⟨m, rfl⟩ : ∃ k, m = k + 1 := by
            cases m with
            | zero =>
              have hg' : (i + 1, s') = tRes (absM I) := hg'
              rw [← hg', es'] at hRF
              have hRF : true = false := hRF
              exact absurd hRF (by decide)
            | succ k => exact ⟨k, rfl⟩
          obtain ⟨d, hd, hd2, ed, exd⟩ := rIv_read h0 eL hL h8 h116 (show i + 1 < L by omega)
          obtain ⟨s2, hs2, hg2⟩ := tGo_next hg' (by rw [hR1]; omega)
          rw [exd] at hs2
          have hok2 := tStep_ok hok' hs2
          obtain ⟨d1, d2, d3, es2⟩ := tStep_fig (by rw [es']; rfl) hs2
          obtain ⟨o, eo⟩ : ∃ o, tO s = o + 1 := ⟨tO s - 1, by omega⟩
          have hbo := hok.2.2.1 o (by omega)
          rw [show tO s - 1 = o by omega] at hk
          obtain ⟨b1, b2, b3⟩ := hb o (by omega)
          have hn' : n + tB s o = (tW s).length := by
            rw [eo] at hn
            have hn : n + (if tK s o = 2 then tE s o else tB s o) = (tW s).length := hn
            rw [if_neg (by omega)] at hn; exact hn
          rw [h18, eo, down_p] at q3
          have a18 : I3 111 18 = nI o := by rw [q3, wU_at]
          rw [a18, i_s, i_cl (by omega), i_cl (by omega), show I3 122 o = I' 122 o by rw [q3, wU_ne (by decide)], show I3 116 (i + 1) = I' 116 (i + 1) by rw [q3, wU_ne (by decide)], ed, b2, l_48, i_sub (by omega), i_mul, i_add]
          refine ⟨i_in (by omega) (by decide), i_in (by omega) (by decide), ?_⟩
          unfold v_X6_countTurns_186
          rw [i_s]
          have es3 : s2 = tFig (tRound s) d := by rw [es2, es']
          have eo' : tO s2 = o := by rw [es3]; show tO s - 1 = o; omega
          have hold : ∀ j, j ≤ o → stS s2 j = stS s j := fun j hj => by rw [es3]; exact stS_cong j (fun k hk => ⟨rfl, rfl, rfl⟩)
          refine vl_X6_countTurns h0 hw eL hL f m (i + 1 + 1) _ s2 I3 (by omega) (by omega) ⟨⟨fun c a b d => by rw [q3, wU_ne a, hf.1 c a b d], fun j a => by rw [q3, wU_off (Or.inr a), hf.2 j a]⟩, by rw [a18, eo'], ?_, fun j hj => ?_, hok2, by rw [es3]; rfl, hg2⟩
          · rw [eo', hold o (Nat.le_refl _), es3]
            show _ = (tW s ++ repL ((tW s).drop (tB s (tO s - 1))) (d - 49)).length
            rw [show tO s - 1 = o by omega, show d - 49 = d - 48 - 1 by omega, rep_len (by omega) (by omega), show (tW s).length - tB s o = n by omega]
            omega
          · rw [eo'] at hj
            rw [hold j (by omega), q3, wU_ne (by decide), wU_ne (by decide), es3]
            exact hb j (by omega)
        · omega
        · omega
      · rcases hin with h | h | h | h | h | h | h
        · omega
        · omega
        · omega
        · exact open_ 1 h.2.1 h.2.2 (by decide)
        · omega
        · omega
        · omega
theorem vc_X6_countTurns (I : wI) (hp : pre_X6_countTurns I) : v_X6_countTurns I (post_X6_countTurns I) := by
  obtain ⟨h0, hw⟩ := hp
  intro I1 q1
  obtain ⟨L, hL, eL, _⟩ := h0.2.2.2
  refine ⟨L + 1, vl_X6_countTurns h0 hw eL hL (L + 1) L 0 0 t0 I1 (by omega) (by omega) ⟨⟨fun c a _ _ => by rw [q1, wU_ne a], fun j a => by rw [q1, wU_off (Or.inr a)]⟩, by rw [q1, wU_at]; rfl, rfl, fun j hj => absurd hj (Nat.not_lt_zero _), t0_ok, rfl, ?_⟩⟩
  show _ = tGo _ (nt (absM I 2 2)) 0 t0
  rw [absM_22, eL, i_nt (by omega)]
/-! ===== words done ===== -/
theorem rwf_S {I I' : wI} (h : rwf I I') : frT I I' := ⟨⟨fun c hc => h.1 c (by omega) (by omega) (by omega) (by omega), h.2 4 (by decide) (by decide) (by decide), h.2 6 (by decide) (by decide) (by decide), h.2 8 (by decide) (by decide) (by decide)⟩, h.2 0 (by decide) (by decide) (by decide)⟩
theorem cwf_S {I I' : wI} (h : cwf I I') : frT I I' := ⟨⟨fun c hc => h.1 c (by omega) (by omega) (by omega), h.2 4 (by decide), h.2 6 (by decide), h.2 8 (by decide)⟩, h.2 0 (by decide)⟩
theorem aWord_lt {I : wI} (h0 : okM I) : (aWord (absM I)).length < 400000 ∧ ∀ v, v ∈ aWord (absM I) → v < 10 := by
  have ho := tRes_ok (absM I)
  obtain ⟨L, hL, eL, _⟩ := h0.2.2.2
  have hle := (tGo_le (xA (absM I)) (nt (absM I 2 2)) 0 t0).2
  have h60 : (tRes (absM I)).1 ≤ 60 := by
    show (tGo (xA (absM I)) (nt (absM I 2 2)) 0 t0).1 ≤ 60
    rw [absM_22, eL, i_nt (by omega)] at hle ⊢; omega
  exact ⟨tOk_len ho h60, ho.2.1⟩
theorem mlen_use {I I2 : wI} (h0 : okM I) (ec : ∀ c, c ≠ 111 → I2 c = I c) (fo : ∀ j, j ≠ 8 → I2 111 j = I 111 j) (f8 : I2 111 8 = 0) : absM I2 = aLen (absM I) 0 ∧ okM I2 := by
  have eR : rowM I2 = rowM I := mrow_fr (ec 112 (by decide))
  refine ⟨?_, ?_⟩
  · funext c'
    unfold aLen
    by_cases c2 : c' = 2
    · subst c2
      rw [if_pos rfl]
      funext j
      show (if j = 0 then I2 111 6 else if j = 1 then I2 111 4 else if j = 2 then I2 111 8 else 0) = if j = 2 then nI 0 else (if j = 0 then I 111 6 else if j = 1 then I 111 4 else if j = 2 then I 111 8 else 0)
      rw [fo 6 (by decide), fo 4 (by decide), f8]
      by_cases j2 : j = 2
      · subst j2; rfl
      · rw [if_neg j2, if_neg j2, if_neg j2]
    rw [if_neg c2]
    by_cases c3 : c' = 3
    · subst c3
      rw [if_pos rfl]
      funext j
      show (if j < nt (I2 111 8) then I2 116 j else 0) = if j < 0 then _ else 0
      rw [f8, show nt (0 : Int32) = 0 from rfl, if_neg (Nat.not_lt_zero _), if_neg (Nat.not_lt_zero _)]
    rw [if_neg c3]
    unfold absM
    rw [if_neg c2, if_neg c2, if_neg c3, if_neg c3, fo 6 (by decide), fo 4 (by decide), eR, rowX_fr (ec 115 (by decide)), rowX_fr (ec 114 (by decide))]
  · obtain ⟨a1, a2, ⟨s, hs, es, a3⟩, a4⟩ := h0
    unfold okM
    rw [fo 6 (by decide), fo 4 (by decide), eR, rowX_fr (ec 115 (by decide))]
    exact ⟨a1, a2, ⟨s, hs, es, fun i hi => by rw [rowX_fr (ec 114 (by decide))]; exact a3 i hi⟩, 0, by omega, f8, fun j hj => absurd hj (Nat.not_lt_zero _)⟩
theorem vl_X6_word {I0 : wI} {a0 : Nat → Int32} {W : List Nat} (hl : W.length ≤ 500) (hv : ∀ v, v ∈ W → v < 10) (e11 : I0 111 11 = nI W.length) (e118 : ∀ i, i < W.length → i < 500 → I0 118 i = nI (W.getD i 0)) (Q : Int32 → wI → Prop)
    (hQ : ∀ (I' I2 : wI), okR (rowM I') → rowM I' = dwR a0 W → fr1 I0 I' → I2 = wU I' 111 8 0 → Q (nI (dwN a0 W)) I2) :
    ∀ (m j : Nat) (I' : wI), j + m = W.length → okR (rowM I') → fr1 I0 I' → dwR a0 W = dwR (rowM I') (W.drop j) → dwN a0 W = dwN (rowM I') (W.drop j) + j → v_X6_word_45 Q (m + 1) (nI j) I'
  | m, j, I', e, hR, hf, eR, eN => by
    show g_X6_word_45 ..
    unfold g_X6_word_45
    have f11 : I' 111 11 = nI W.length := by rw [fr1_o hf, e11]
    have f118 : I' 118 = I0 118 := hf.1 118 (by decide) (by decide)
    rw [f11, i_le (by omega) (by omega)]
    have stop : (dwR (rowM I') (W.drop j) = rowM I') → dwN (rowM I') (W.drop j) = 0 → v_X6_word_84 Q (nI j) I' := by
      intro h1 h2 I2 q2
      have := hQ I' I2 hR (by rw [eR, h1]) hf q2
      rw [eN, h2, Nat.zero_add] at this; exact this
    refine ⟨fun c => ?_, fun c => ⟨i_in (by omega) (by decide), ?_⟩⟩
    · have : W.drop j = [] := List.drop_eq_nil_of_le c
      rw [this] at stop
      exact stop rfl rfl
    · have hj : j < W.length := by omega
      have hd : W.drop j = W.getD j 0 :: W.drop (j + 1) := by
        rw [List.drop_eq_getElem_cons hj, List.getD_eq_getElem?_getD, List.getElem?_eq_getElem hj]; rfl
      have hv10 := hv _ (gd_mem hj)
      rw [hd] at stop eR eN
      rw [i_cl (by omega), f118, e118 j hj (by omega), l_5, i_rem (by omega) (by decide) (by decide)]
      refine ⟨⟨hR, _, Nat.mod_lt _ (by decide), rfl⟩, fun r1 q1 => ?_⟩
      unfold post_X6_isStuck at q1
      rw [i_nt (by omega)] at q1
      cases hs : aStk (rowM I') (W.getD j 0 % 5)
      · rw [hs] at q1
        refine ⟨fun z => absurd q1 z, fun _ => ⟨i_in (by omega) (by decide), ⟨hR, _, hv10, rfl⟩, fun I2 h2 => ?_⟩⟩
        obtain ⟨m1, m2⟩ := h2
        rw [i_nt (by omega)] at m1
        obtain ⟨m, rfl⟩ : ∃ k, m = k + 1 := ⟨m - 1, by omega⟩
        rw [i_s]
        refine vl_X6_word hl hv e11 e118 Q hQ m (j + 1) I2 (by omega) (by rw [m1]; exact okR_aMv hR hv10) (fr1_trans hf m2) ?_ ?_
        · rw [eR, m1]
          show (if aStk (rowM I') (W.getD j 0 % 5) then _ else _) = _
          rw [hs]; rfl
        · rw [eN, m1]
          show (if aStk (rowM I') (W.getD j 0 % 5) then 0 else _) + j = _
          rw [hs]
          show dwN _ _ + 1 + j = _
          omega
      · rw [hs] at q1
        refine ⟨fun _ => stop ?_ ?_, fun z => by rw [q1] at z; exact absurd z (by decide)⟩
        · show (if aStk (rowM I') (W.getD j 0 % 5) then _ else _) = _
          rw [hs]; rfl
        · show (if aStk (rowM I') (W.getD j 0 % 5) then 0 else _) = 0
          rw [hs]; rfl
theorem vc_X6_word (I : wI) (hp : pre_X6_word I) : v_X6_word I (post_X6_word I) := by
  have h0 : okM I := hp
  refine ⟨h0, fun r1 I2 h2 => ?_⟩
  obtain ⟨g1, g2⟩ := h2
  have hT2 := mfr_S g2
  have thr : ∀ (k : Nat) (J : wI), 0 < k → k < 3 → frS I J → ((¬ aWhole (absM I) ∧ k = 1) ∨ (aWhole (absM I) ∧ ¬ fW (absM I) ∧ k = 2)) → v_X6_word_27 (post_X6_word I) (nI k) J := by
    intro k J hk hk3 hS hcase I1 q1
    have e0 : I1 111 0 = nI k := by rw [q1, wU_at]
    rw [e0]
    refine ⟨fun h => absurd h (le0_n hk (by omega)), fun _ => ?_⟩
    have ht := thr_fin q1
    have hm : mThrow I I1 (nI k) := ⟨ht.1, frS_trans hS ht.2⟩
    rcases hcase with ⟨a, rfl⟩ | ⟨a, b, rfl⟩
    · exact Or.inr (Or.inl ⟨a, hm⟩)
    · exact Or.inr (Or.inr ⟨a, b, hm⟩)
  rcases g1 with ⟨hw, rfl⟩ | ⟨hw, rfl⟩
  · refine ⟨fun _ => ⟨⟨okM_S hT2.1 h0, by rw [absM_S hT2.1]; exact hw⟩, fun r3 I4 h4 => ?_⟩, fun h => absurd h (by decide)⟩
    obtain ⟨g3, g4⟩ := h4
    rw [absM_S hT2.1] at g4
    have hS4 := frS_trans hT2.1 (rwf_S g3).1
    have h04 := okM_S hS4 h0
    obtain ⟨hlt, hv⟩ := aWord_lt h0
    rcases g4 with ⟨hl, e3, hmw⟩ | ⟨hl, e3⟩
    · rw [e3, l_500, i_le (by omega) (by decide)]
      refine ⟨fun _ I1 q1 => ?_, fun q => absurd hl q⟩
      have e0 : I1 111 0 = 0 := by rw [q1, wU_at]
      rw [e0]
      refine ⟨fun _ => ?_, fun h => absurd (Int32.le_refl _) h⟩
      obtain ⟨_, hS1, eR1⟩ := thr_use q1
      refine ⟨okM_S hS1 h04, fun I5 h5 => ?_⟩
      have eR : rowM I5 = rowM I := by rw [rec_row h5, eR1, frS_row hS4]
      have f11 : I5 111 11 = nI (aWord (absM I)).length := by rw [h5.2.2.2 11 (by decide), q1, wU_off (Or.inr (by decide)), mw_11 hmw, Nat.min_eq_right (by omega)]
      refine ⟨(aWord (absM I)).length + 1, vl_X6_word (I0 := I5) (a0 := rowM I) hl hv f11 (fun i hi h5' => by rw [h5.2.2.1 118 (by decide) (by decide), q1, wU_ne (by decide)]; exact hmw.2.1 i hi h5') _ (fun I' I6 k1 k2 k3 k4 => ?_) _ 0 I5 (Nat.zero_add _) (by rw [eR]; exact h0.1) ⟨fun _ _ _ => rfl, fun _ _ => rfl⟩ (by rw [eR]; rfl) (by rw [eR]; rfl)⟩
      have hS := frS_trans hS4 hS1
      have m := m_use hS h5 (fr1_R k3) (fr1_c k3) k1 k2
      obtain ⟨l1, l2⟩ := mlen_use (I2 := I6) m.2.1 (fun c hc => by rw [k4, wU_ne hc]) (fun j hj => by rw [k4, wU_off (Or.inr hj)]) (by rw [k4, wU_at])
      left
      refine ⟨⟨hw, hl⟩, ?_, rfl, by rw [l1, m.1], l2, fun c hc => by rw [k4, wU_ne (by omega)]; exact m.2.2 c hc⟩
      rw [k4, wU_off (Or.inr (by decide)), fr1_o k3, h5.2.2.2 0 (by decide), e0]
    · rw [e3, l_501, l_500, i_le (by decide) (by decide)]
      exact ⟨fun q => absurd q (by decide), fun _ => thr 2 I4 (by decide) (by decide) hS4 (Or.inr ⟨hw, fun q => by have := q.2; omega, rfl⟩)⟩
  · exact ⟨fun h => absurd rfl h, fun _ => thr 1 I2 (by decide) (by decide) hT2.1 (Or.inl ⟨hw, rfl⟩)⟩
theorem vl_X6_wordNow {I0 : wI} {a0 : Nat → Int32} {W : List Nat} {w : Nat} (hR0 : okR a0) (hv : ∀ v, v ∈ W → v < 10) (hl : W.length ≤ 500) (e11 : I0 111 11 = nI W.length) (e118 : ∀ i, i < W.length → i < 500 → I0 118 i = nI (W.getD i 0)) (hw : w = 1 ∨ w = 2 ∨ w = 3)
    (Q : Int32 → wI → Prop) (hQ : ∀ I' I2 r, fr1 I0 I' → post_X6_putBack I' I2 → r = aOfW a0 W w → Q r I2) :
    ∀ (m j : Nat) (I' : wI), j + m = W.length → rowM I' = trL (aFst a0) (W.take j) → fr1 I0 I' → v_X6_wordNow_41 (nI w) Q (m + 1) (nI j) I'
  | m, j, I', e, hT, hf => by
    show g_X6_wordNow_41 ..
    unfold g_X6_wordNow_41
    have f11 : I' 111 11 = nI W.length := by rw [fr1_o hf, e11]
    have f118 : I' 118 = I0 118 := hf.1 118 (by decide) (by decide)
    have k := trL_first hR0 (l := W.take j) (fun v h => hv v (List.mem_of_mem_take h))
    rw [← hT] at k
    rw [f11, i_le (by omega) (by omega)]
    refine ⟨fun c => ?_, fun c => ⟨i_in (by omega) (by decide), ?_⟩⟩
    · obtain rfl : m = 0 := by omega
      rw [show j = W.length by omega, List.take_length] at k
      rw [show (nI w = 1) = (w = 1) from i_eq (b := 1) (by omega) (by decide)]
      refine ⟨fun n1 => ⟨k.1, fun r1 h1 => ⟨trivial, fun I2 h2 => hQ I' I2 r1 hf h2 ?_⟩⟩, fun y1 => ⟨k.1, fun r2 h2 => ⟨trivial, fun I2 h3 => hQ I' I2 r2 hf h3 ?_⟩⟩⟩
      · unfold aOfW
        rw [if_neg (by omega), if_neg n1, ← k.2.1, ← k.2.2]; exact h1
      · unfold aOfW
        rw [if_neg (by omega), if_pos y1, ← k.2.1, ← k.2.2]; exact h2
    · have hj : j < W.length := by omega
      have hv10 := hv _ (gd_mem hj)
      rw [i_cl (by omega), f118, e118 j hj (by omega)]
      refine ⟨⟨k.1, _, hv10, rfl⟩, fun I2 h2 => ?_⟩
      obtain ⟨m1, m2⟩ := h2
      rw [i_nt (by omega)] at m1
      obtain ⟨m, rfl⟩ : ∃ k, m = k + 1 := ⟨m - 1, by omega⟩
      rw [i_s]
      refine vl_X6_wordNow hR0 hv hl e11 e118 hw Q hQ m (j + 1) I2 (by omega) ?_ (fr1_trans hf m2)
      have ta : ∀ (l : List Nat) (a : Nat → Int32) (v : Nat), trL a (l ++ [v]) = aTr (trL a l) v := by
        intro l
        induction l with
        | nil => intro a v; rfl
        | cons u l ih => intro a v; exact ih _ v
      rw [m1, hT, ← take_s hj, ta]
theorem vc_X6_wordNow (x1 : Int32) (I : wI) (hp : pre_X6_wordNow x1 I) : v_X6_wordNow x1 I (post_X6_wordNow x1 I) := by
  obtain ⟨h0, hw, w, hw5, rfl⟩ := hp
  obtain ⟨hlt, hv⟩ := aWord_lt h0
  unfold v_X6_wordNow post_X6_wordNow
  rw [i_nt (by omega), show (nI w = 0) = (w = 0) from i_eq (b := 0) (by omega) (by decide)]
  refine ⟨fun n0 => ⟨⟨h0, hw⟩, fun r1 I2 h2 => ?_⟩, fun y0 => ⟨⟨h0, hw⟩, fun r5 I6 h6 => ⟨?_, cwf_S h6.2⟩⟩⟩
  · obtain ⟨g3, g4⟩ := h2
    have hT2 := rwf_S g3
    unfold aOW
    rw [if_neg n0]
    rcases g4 with ⟨hl, e3, hmw⟩ | ⟨hl, e3⟩
    · rw [e3, l_500, i_le (by omega) (by decide), if_neg (by omega)]
      refine ⟨fun _ => ?_, fun q => absurd hl q⟩
      rw [show (nI w = 4) = (w = 4) from i_eq (b := 4) (by omega) (by decide)]
      refine ⟨fun n4 => ⟨trivial, fun I3 h3 => ⟨trivial, fun I4 h4 => ?_⟩⟩, fun y4 => ⟨?_, hT2⟩⟩
      · have eR3 : rowM I3 = rowM I := by rw [aside_row h3, frT_row hT2]
        have f11 : I4 111 11 = nI (aWord (absM I)).length := by rw [fr1_o h4.2, h3.2 111 (by decide), mw_11 hmw, Nat.min_eq_right (by omega)]
        refine ⟨(aWord (absM I)).length + 1, vl_X6_wordNow (I0 := I4) (a0 := rowM I) h0.1 hv hl f11 (fun i hi h5 => by rw [h4.2.1 118 (by decide) (by decide), h3.2 118 (by decide)]; exact hmw.2.1 i hi h5) (by omega) _ (fun I' I5 r k1 k2 k3 => ⟨k3, frT_trans hT2 (frT_back h3 (fr1_trans h4.2 k1) k2)⟩) _ 0 I4 (Nat.zero_add _) (by rw [h4.1, eR3]; rfl) ⟨fun _ _ _ => rfl, fun _ _ => rfl⟩⟩
      · rw [hmw.2.2, List.length_take, Nat.min_eq_right (by omega), y4]; rfl
    · rw [e3, l_501, l_500, i_le (by decide) (by decide), if_pos hl]
      exact ⟨fun q => absurd q (by decide), fun _ => ⟨rfl, hT2⟩⟩
  · rw [h6.1, y0]; rfl
theorem vc_X6_ofWord (x1 : Int32) (I : wI) (hp : pre_X6_ofWord x1 I) : v_X6_ofWord x1 I (post_X6_ofWord x1 I) := by
  have h0 : okM I := hp
  have hin : (0 ≤ x1 ∧ x1 ≤ 4) ↔ isN 5 x1 := in_iff (n := 4) (by decide)
  have thr : ∀ J, frS I J → ¬ (isN 5 x1 ∧ aWhole (absM I)) → v_X6_ofWord_21 x1 (post_X6_ofWord x1 I) J := by
    intro J hS hn I1 q1
    have e0 : I1 111 0 = nI 1 := by rw [q1, wU_at]; rfl
    rw [e0]
    have ht := thr_fin q1
    exact ⟨fun h => absurd h (le0_n (by decide) (by decide)), fun _ => Or.inr ⟨hn, ht.1, frS_trans hS ht.2⟩⟩
  refine ⟨trivial, fun r1 h1 => ?_⟩
  rcases h1 with ⟨hk, rfl⟩ | ⟨hk, rfl⟩
  · have hN := hin.1 hk
    refine ⟨fun h => absurd h (by decide), fun _ => ⟨h0, fun r2 I3 h3 => ?_⟩⟩
    obtain ⟨g1, g2⟩ := h3
    have hS3 := (mfr_S g2).1
    rcases g1 with ⟨hw, rfl⟩ | ⟨hw, rfl⟩
    · refine ⟨fun h => absurd h (by decide), fun _ I1 q1 => ?_⟩
      obtain ⟨e0, hS1, eR1⟩ := thr_use q1
      have hS := frS_trans hS3 hS1
      rw [e0]
      refine ⟨fun _ => ⟨⟨okM_S hS h0, by rw [absM_S hS]; exact hw, hN⟩, fun r4 I5 h5 => ?_⟩, fun h => absurd (Int32.le_refl _) h⟩
      obtain ⟨g4, g5⟩ := h5
      rw [absM_S hS] at g4
      exact Or.inl ⟨⟨hN, hw⟩, ⟨by rw [g5.2, e0], frS_trans hS g5.1⟩, g4⟩
    · exact ⟨fun _ => thr I3 hS3 (fun q => hw q.2), fun h => absurd rfl h⟩
  · exact ⟨fun _ => thr I (frS_refl I) (fun q => hk (hin.2 q.1)), fun h => absurd rfl h⟩
