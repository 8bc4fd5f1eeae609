/-! ===== the world that the constructors leave ===== -/
def sI1 : wI := kI_X5 0 (zI (fun _ _ => 0) 0)
def sR1 : wR := kR_X5 0 (zR (fun _ _ => none) 0)
def sI2 : wI := zI (kI_X6 111 (zI sI1 111)) 124
def sR2 : wR := zR (kR_X6 111 (zR sR1 111)) 124
def sI : wI := fun c => if c = 23 then (fun j => nI j) else sI2 c
theorem sR_ok : ∀ k, k < 125 → (wSh k).1 = 0 → ∀ j, j < wNf (wSh k).2 → (wOff (wSh k).2 j).isSome = true → sR2 k j = (wOff (wSh k).2 j).map (fun o => k + o) := by decide +kernel
theorem sR_23 : ∀ j, j < 6 → sR2 23 j = some (wSv (sI 23 j)) := by decide +kernel
theorem sh_3 : ∀ k, k < 125 → k ≠ 23 → (wSh k).1 ≠ 3 := by decide +kernel
theorem wEnd {D : va_G} {cs : wC4} {b : Nat} {H : Heap} (h : va_P D vwCl (wLk cs b 125 sI2 sR2) H) : va_P D vwCl (wLs cs b (fun _ => 0) sI) H := by
  intro k q hq
  obtain ⟨hk, rfl⟩ := wLs_inv hq
  have h1 := h k _ (wLk_get hk)
  by_cases h23 : k = 23
  · subst h23
    have h1 : H[b + 23]? = some (vp_cell cs.2.2.1 (6, .inr (.inr (.inr (.inr (fun j => (sR2 23 j).map (fun c => b + c))))))) := h1
    show H[b + 23]? = some (vp_cell cs.2.2.1 (6, .inr (.inr (.inr (.inr (fun j => some (b + wSv (sI 23 j))))))))
    rw [h1, vp_cell_q, vp_cell_q]
    have e : (Array.ofFn (n := 6) fun j => va_rf ((sR2 23 j.val).map (fun c => b + c))) = Array.ofFn (n := 6) fun j => va_rf (some (b + wSv (sI 23 j.val))) := by
      congr 1
      funext j
      rw [sR_23 j.val j.isLt]; rfl
    unfold arrV
    rw [e]
  · have eI : sI k = sI2 k := by unfold sI; rw [if_neg h23]
    have e : wEs cs b (fun _ => 0) sI (wSh k) k = wEk cs b sI2 sR2 (wSh k) k := by
      have h3 := sh_3 k hk h23
      have hr := sR_ok k hk
      generalize wSh k = sh at h3 hr ⊢
      obtain ⟨a, n⟩ := sh
      match a, h3, hr with
      | 0, _, hr =>
        show Sum.inr (n, (List.range (wNf n)).map (wFv b sI n k)) = Sum.inr (n, (List.range (wNf n)).map (wFk b sI2 sR2 n k))
        congr 2
        refine List.map_congr_left (fun j hj => ?_)
        have hj := List.mem_range.mp hj
        have hr := hr rfl j hj
        unfold wFv wFk
        cases ho : wOff n j with
        | none => rw [eI]
        | some o =>
          have hr : sR2 k j = some (k + o) := by
            have := hr (by show (wOff n j).isSome = true; rw [ho]; rfl)
            rw [this]
            show (wOff n j).map _ = _
            rw [ho]; rfl
          show Value.ref (b + (k + o)) = va_rf ((sR2 k j).map (fun c => b + c))
          rw [hr]; rfl
      | 1, _, _ => unfold wEs wEk; dsimp only; rw [eI]; rfl
      | 2, _, _ => unfold wEs wEk; dsimp only; rw [eI]; rfl
      | 3, h3, _ => exact absurd rfl h3
      | a + 4, _, _ => rfl
    show va_at D vwCl (b + k, wEs cs b (fun _ => 0) sI (wSh k) k) H
    rw [e]; exact h1
/-- what class and model keep at first -/
theorem s_okR : okR (rowC 1 sI) := ⟨by decide +kernel, by
    have h : ∀ p, p < 6 → aD (rowC 1 sI) p = p := by decide +kernel
    exact fun p hp => ⟨p, hp, h p hp⟩, by decide +kernel, by decide +kernel, ⟨0, by decide, by decide +kernel⟩, Or.inl (by decide +kernel), fun h => absurd h (by decide +kernel)⟩
theorem s_row : rowM sI = rowC 1 sI := by
  have h : ∀ j, j < 49 → rowM sI j = rowC 1 sI j := by decide +kernel
  funext j
  by_cases hj : j < 49
  · exact h j hj
  · rw [mrow_o (by omega), rc_o (by omega)]
theorem s_okC : okC sI := by
  refine ⟨⟨s_okR, 0, by decide, by decide +kernel⟩, Or.inl (by decide +kernel), ⟨0, by decide, by decide +kernel, fun i hi => absurd hi (Nat.not_lt_zero _)⟩, fun i hi => ⟨i, hi, rfl⟩, fun i j hi hj e => ?_, 0, by decide, by decide +kernel, fun j hj => absurd hj (Nat.not_lt_zero _)⟩
  have e : nI i = nI j := e
  exact nI_inj (by omega) (by omega) e
theorem s_okM : okM sI := ⟨by rw [s_row]; exact s_okR, Or.inl (by decide +kernel), ⟨0, by decide, by decide +kernel, fun i hi => absurd hi (Nat.not_lt_zero _)⟩, 0, by decide, by decide +kernel, fun j hj => absurd hj (Nat.not_lt_zero _)⟩
theorem s_abs : absC sI = absM sI := by
  have hC : ∀ c, absC sI c = if c = 0 then rowC 1 sI else zRow := by
    intro c
    unfold absC
    by_cases h0 : c = 0
    · rw [if_pos h0, if_pos h0]
    rw [if_neg h0, if_neg h0]
    by_cases h1 : c = 1
    · rw [if_pos h1]; exact if_pos (by decide +kernel)
    rw [if_neg h1]
    by_cases h2 : c = 2
    · rw [if_pos h2]
      funext j
      show (if j = 0 then sI 0 2 else if j = 1 then sI 0 4 else if j = 2 then sI 24 1 else 0) = 0
      rw [show sI 0 2 = 0 from by decide +kernel, show sI 0 4 = 0 from by decide +kernel, show sI 24 1 = 0 from by decide +kernel]
      split
      · rfl
      split
      · rfl
      split <;> rfl
    rw [if_neg h2]
    by_cases h3 : c = 3
    · rw [if_pos h3]
      funext j
      exact if_neg (by rw [show nt (sI 24 1) = 0 from by decide +kernel]; exact Nat.not_lt_zero _)
    rw [if_neg h3]
    exact if_neg (by rw [show nt (sI 0 4) = 0 from by decide +kernel]; exact Nat.not_lt_zero _)
  have hM : ∀ c, absM sI c = if c = 0 then rowM sI else zRow := by
    intro c
    unfold absM
    by_cases h0 : c = 0
    · rw [if_pos h0, if_pos h0]
    rw [if_neg h0, if_neg h0]
    by_cases h1 : c = 1
    · rw [if_pos h1]; exact if_pos (by decide +kernel)
    rw [if_neg h1]
    by_cases h2 : c = 2
    · rw [if_pos h2]
      funext j
      show (if j = 0 then sI 111 6 else if j = 1 then sI 111 4 else if j = 2 then sI 111 8 else 0) = 0
      rw [show sI 111 6 = 0 from by decide +kernel, show sI 111 4 = 0 from by decide +kernel, show sI 111 8 = 0 from by decide +kernel]
      split
      · rfl
      split
      · rfl
      split <;> rfl
    rw [if_neg h2]
    by_cases h3 : c = 3
    · rw [if_pos h3]
      funext j
      exact if_neg (by rw [show nt (sI 111 8) = 0 from by decide +kernel]; exact Nat.not_lt_zero _)
    rw [if_neg h3]
    exact if_neg (by rw [show nt (sI 111 4) = 0 from by decide +kernel]; exact Nat.not_lt_zero _)
  funext c
  rw [hC, hM, s_row]
theorem s_inv : inv sI := ⟨s_okC, s_okM, s_abs⟩
