/-! ===== the world that the constructors and the law's first rows leave ===== -/
section KN
variable {p : Program} {l : Launch} {e : Env} {Rm : Room} {s : State} {m : MethodId} {args : Array Value} {below : List Frame} {meth : Method} {c : Code} {H : Heap} {locs : List Loc} {cells slots : Nat} {Q : State → Prop}
variable {cc : ByteArray} {nL pc : Nat} {ls : Array Slot} {rest : List Value} {own : String} {D : va_G} {cs : wC4} {b n : Nat} {I : wI} {R : wR} {N : Nat}
theorem k_newa5 (hX : CallFix p m c cc nL s args lw_all own) (hK : va_K D vwCl (wTys cs) s) (hH : wHk D cs b n I R s H locs) {x : Int32} (hx0 : ¬ x < 0 ∧ x.toNatClampNeg = N ∧ N * 4 ≤ 536870912) (hs : wSh n = (5, N)) (q1 : Cond.arrayClass .int ∈ lw_all) (hR : cells + 1 ≤ Rm.cells ∧ slots + N ≤ Rm.slots) (hdg : decode cc pc = .ok (.newarray .int, 2))
    (kk : ∀ (H : Heap), wHk D cs b (n + 1) (zI I n) (zR R n) s H locs → W p l e Rm s m args below meth c H locs (cells + 1) (slots + N) Q (F0 m (pc + 2) ls (.ref (b + n) :: rest))) : W p l e Rm s m args below meth c H locs cells slots Q (F0 m pc ls (.int x :: rest)) := by
  obtain ⟨hx, hb, -, hown, hts⟩ := hX
  obtain ⟨hP, hS, hz⟩ := hH
  refine va_newaK (atype := .int) hx hb (hts _ q1) rfl hdg rfl hx0.1 hx0.2.1 hx0.2.2 hR.1 hR.2 hz fun H1 cA e1 z1 o1 hAr hNm => ?_
  have o1' : ∀ q, q < H.size → H1[q]? = H[q]? := fun q hq => o1 q (by rw [← hz]; exact hq)
  have hcA : cA = cs.1 := Option.some.inj (hNm.symm.trans (hK.2 0 _ rfl).2)
  subst hcA
  refine kk H1 ⟨?_, wH_size hS (by rw [z1, hz]) o1', by rw [z1, Nat.add_assoc]⟩
  rw [← wLk_push (e := .inl (cs.1, N, .inl (fun _ => 0))) (by rw [hs]; simp [wEk, zI])]
  refine (hP.kept fun k q hq => o1' q.1 ((hP k q hq).lt)).app fun k x hx => ?_
  have hk0 : k < 1 := (List.getElem?_eq_some_iff.mp hx).1
  rw [show k = 0 by omega] at hx
  cases hx
  exact e1
end KN
def sI1 : wI := kI_X5 0 (zI (fun _ _ => 0) 0)
def sR1 : wR := kR_X5 0 (zR (fun _ _ => none) 0)
def sI2 : wI := zI (zI (zI (zI sI1 111) 112) 113) 114
def sR2 : wR := zR (zR (zR (zR sR1 111) 112) 113) 114
def sI : wI := fun c => if c = 23 then (fun j => nI j) else sI2 c
def sG (b : Nat) : wG := (fun k => b + k, 115)
theorem sR_ok : ∀ k, k < 115 → (wSh k).1 = 0 → ∀ j, j < wNf (wSh k).2 → (wOff (wSh k).2 j).isSome = true → sR2 k j = (wOff (wSh k).2 j).map (fun o => k + o) := by decide +kernel
theorem sR_23 : ∀ j, j < 6 → sR2 23 j = some (wSv (sI 23 j)) := by decide +kernel
theorem sh_3 : ∀ k, k < 115 → k ≠ 23 → (wSh k).1 ≠ 3 := by decide +kernel
theorem sG_ok (b : Nat) : wOk b (sG b) := ⟨Nat.le_refl _, fun i j _ _ h => Nat.add_left_cancel h, fun k _ => Nat.le_add_right _ _⟩
theorem wEnd {D : va_G} {cs : wC4} {b : Nat} {H : Heap} (h : va_P D vwCl (wLk cs b 115 sI2 sR2) H) : va_P D vwCl (wLs cs (sG b) sI) H := by
  intro k q hq
  obtain ⟨hk, rfl⟩ := wLs_inv hq
  have hk : k < 115 := hk
  have h1 := h k _ (wLk_get hk)
  by_cases h23 : k = 23
  · subst h23
    have h1 : H[b + 23]? = some (vp_cell cs.2.2 (6, .inr (.inr (.inr (.inr (fun j => (sR2 23 j).map (fun c => b + c))))))) := h1
    show H[b + 23]? = some (vp_cell cs.2.2 (6, .inr (.inr (.inr (.inr (fun j => some (b + wSv (sI 23 j))))))))
    rw [h1, vp_cell_q, vp_cell_q]
    have e : (Array.ofFn (n := 6) fun j => va_rf ((sR2 23 j.val).map (fun c => b + c))) = Array.ofFn (n := 6) fun j => va_rf (some (b + wSv (sI 23 j.val))) := by
      congr 1
      funext j
      rw [sR_23 j.val j.isLt]; rfl
    unfold arrV
    rw [e]
  · have eI : sI k = sI2 k := by unfold sI; rw [if_neg h23]
    have e : wEs cs (sG b) sI (wSh k) k = wEk cs b sI2 sR2 (wSh k) k := by
      have h3 := sh_3 k hk h23
      have hr := sR_ok k hk
      generalize wSh k = sh at h3 hr ⊢
      obtain ⟨a, n⟩ := sh
      match a, h3, hr with
      | 0, _, hr =>
        show Sum.inr (n, (List.range (wNf n)).map (wFv (sG b) sI n k)) = Sum.inr (n, (List.range (wNf n)).map (wFk b sI2 sR2 n k))
        congr 2
        refine List.map_congr_left (fun j hj => ?_)
        have hj := List.mem_range.mp hj
        have hr := hr rfl j hj
        unfold wFv wFk
        cases ho : wOff n j with
        | none => rw [eI]
        | some o =>
          have hr : sR2 k j = some (k + o) := by
            have := hr (by show (wOff n j).isSome = true; rw [ho]; rfl)
            rw [this]
            show (wOff n j).map _ = _
            rw [ho]; rfl
          show Value.ref (b + (k + o)) = va_rf ((sR2 k j).map (fun c => b + c))
          rw [hr]; rfl
      | 1, _, _ => unfold wEs wEk; dsimp only; rw [eI]; rfl
      | 2, _, _ => unfold wEs wEk; dsimp only; rw [eI]; rfl
      | 3, h3, _ => exact absurd rfl h3
      | a + 4, _, _ => unfold wEs wEk; dsimp only; rw [eI]; rfl
    show va_at D vwCl (b + k, wEs cs (sG b) sI (wSh k) k) H
    rw [e]; exact h1
/-- what the class keeps at first -/
theorem s_okR : okR (rowC 1 sI) := ⟨by decide +kernel, by
    have h : ∀ p, p < 6 → aD (rowC 1 sI) p = p := by decide +kernel
    exact fun p hp => ⟨p, hp, h p hp⟩, by decide +kernel, by decide +kernel, ⟨0, by decide, by decide +kernel⟩, Or.inl (by decide +kernel), fun h => absurd h (by decide +kernel)⟩
theorem s_okC : okC sI := by
  refine ⟨⟨s_okR, 0, by decide, by decide +kernel⟩, Or.inl (by decide +kernel), ⟨0, by decide, by decide +kernel, fun i hi => absurd hi (Nat.not_lt_zero _)⟩, fun i hi => ⟨i, hi, rfl⟩, fun i j hi hj e => ?_, 0, by decide, by decide +kernel, fun j hj => absurd hj (Nat.not_lt_zero _)⟩
  have e : nI i = nI j := e
  exact nI_inj (by omega) (by omega) e
theorem s_pos : ∀ p, p < 6 → aD (rowC 1 sI) p = idF p ∧ aN (rowC 1 sI) p = zF p := by decide +kernel
theorem s_msk : ∀ i, i < 5 → (((1 : Int32) <<< (nI i &&& 31)) ||| ((1 : Int32) <<< (((nI i + (1 : Int32)) - (nI i + (1 : Int32)) / (6 : Int32) * (6 : Int32)) &&& 31))) ||| ((1 : Int32) <<< (((nI i + (3 : Int32)) - (nI i + (3 : Int32)) / (6 : Int32) * (6 : Int32)) &&& 31)) = rowC 1 sI (18 + i) := by decide +kernel
theorem s_str : ∀ i, i < 5 → (if i = 4 then (1 : Int32) else (1 : Int32) + nI i) = rowC 1 sI (23 + i) := by decide +kernel
theorem s_use : ∀ i, i < 5 → rowC 1 sI (28 + i) = 0 := by decide +kernel
theorem s_cnt : rowC 1 sI 33 = 0 ∧ rowC 1 sI 34 = 0 ∧ rowC 1 sI 35 = 0 ∧ rowC 1 sI 36 = 0 ∧ aNS (rowC 1 sI) = 0 ∧ sI 0 4 = 0 ∧ sI 0 2 = 0 := by decide +kernel
theorem s_stk : ∀ p, p < 6 → rowC 1 sI (12 + p) = nI (tb 0 p) := by decide +kernel
theorem s_zero : ∀ j, j < 15 → sI 112 j = 0 ∧ sI 113 j = 0 := by decide +kernel
