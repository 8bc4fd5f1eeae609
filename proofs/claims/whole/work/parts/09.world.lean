/-! ===== the world: all cells of both objects by number; the k-th lies at b + k; what may change is one table of ints ===== -/
abbrev wI : Type := Nat → Nat → Int32
abbrev wG : Type := Nat → Int64
abbrev wC4 : Type := ClassId × ClassId × ClassId × ClassId
/-- kind and class (0), or kind and length (1: ints, 2: chars, 3: states, 4: longs) -/
def wSt : List (Nat × Nat) := [(0, 3), (0, 0), (1, 6), (1, 6), (0, 1), (1, 5), (1, 5), (0, 0), (1, 6), (1, 6), (1, 5)]
def wDs : List (Nat × Nat) := [(0, 0), (1, 6), (1, 6)]
def wShL : List (Nat × Nat) := (0, 5) :: wSt ++ wSt ++ [(3, 6), (0, 4), (2, 60), (1, 500), (1, 4), (1, 4), (1, 4)] ++ wDs ++ wDs ++ [(0, 2), (1, 111), (1, 111)] ++ wDs ++ wDs ++ wSt ++ wSt ++ wSt ++ wSt ++ wSt ++ wSt ++ [(0, 6), (1, 49), (1, 49), (1, 294), (1, 49), (1, 60), (1, 12), (1, 500), (1, 4), (1, 4), (1, 4), (1, 4), (1, 4), (4, 1)]
def wSh (k : Nat) : Nat × Nat := wShL.getD k (9, 0)
/-- a field that holds a cell of its object: how far behind the object it lies -/
def wOff (ci j : Nat) : Option Nat := match ci with
  | 0 => [some 1, some 2].getD j none
  | 1 => [some 1, some 2].getD j none
  | 2 => [some 1, some 2, none, some 3, some 6, none, none].getD j none
  | 3 => [some 1, some 4, some 7, none, none, some 10].getD j none
  | 4 => [some 1, none, some 2, none, none, some 3, some 4, some 5].getD j none
  | 5 => [some 1, some 12, none, some 23, none, some 24, some 30, some 33, some 36].getD j none
  | 6 => [none, some 1, some 2, some 3, none, some 4, none, some 5, none, some 6, some 7, none, none, some 8, some 9, some 10, some 11, some 12].getD j none
  | _ => none
def wNf (ci : Nat) : Nat := [2, 2, 7, 9, 11, 9, 21].getD ci 0
def wFv (b : Nat) (I : wI) (ci k j : Nat) : Value := match wOff ci j with
  | some o => .ref (b + (k + o))
  | none => .int (I k j)
def wSv (x : Int32) : Nat := 45 + 11 * x.toNatClampNeg
def wEs (cs : wC4) (b : Nat) (G : wG) (I : wI) (sh : Nat × Nat) (k : Nat) : va_E := match sh.1 with
  | 0 => .inr (sh.2, (List.range (wNf sh.2)).map (wFv b I sh.2 k))
  | 1 => .inl (cs.1, sh.2, .inl (I k))
  | 2 => .inl (cs.2.1, sh.2, .inl (I k))
  | 3 => .inl (cs.2.2.1, sh.2, .inr (.inr (.inr (.inr (fun j => some (b + wSv (I k j)))))))
  | _ => .inl (cs.2.2.2, sh.2, .inr (.inl G))
def wLs (cs : wC4) (b : Nat) (G : wG) (I : wI) : va_W := (List.range 125).map (fun k => (b + k, wEs cs b G I (wSh k) k))
def wU (I : wI) (k j : Nat) (x : Int32) : wI := fun c => if c = k then upd (I k) j x else I c
theorem wU_same {I : wI} {k j : Nat} {x : Int32} : wU I k j x k = upd (I k) j x := by simp [wU]
theorem wU_ne {I : wI} {k j c : Nat} {x : Int32} (h : c ≠ k) : wU I k j x c = I c := by simp [wU, h]
theorem wU_at {I : wI} {k j : Nat} {x : Int32} : wU I k j x k j = x := by simp [wU, upd]
theorem wU_off {I : wI} {k j c i : Nat} {x : Int32} (h : c ≠ k ∨ i ≠ j) : wU I k j x c i = I c i := by
  by_cases hc : c = k
  · subst hc
    rcases h with h | h
    · exact absurd rfl h
    · simp [wU, upd, h]
  · simp [wU, hc]
theorem wSh_lt {k : Nat} {x : Nat × Nat} (h : wSh k = x) (hx : x.1 < 9) : k < 125 := by
  rcases Nat.lt_or_ge k 125 with q | q
  · exact q
  · exfalso
    have hl : wShL.length = 125 := rfl
    rw [← h, wSh, List.getD_eq_getElem?_getD, List.getElem?_eq_none (by omega)] at hx
    exact absurd hx (by decide)
theorem wLs_get {cs : wC4} {b : Nat} {G : wG} {I : wI} {k : Nat} (hk : k < 125) : (wLs cs b G I)[k]? = some (b + k, wEs cs b G I (wSh k) k) := by
  simp [wLs, List.getElem?_map, List.getElem?_range hk]
theorem wLs_inv {cs : wC4} {b : Nat} {G : wG} {I : wI} {k : Nat} {q : Nat × va_E} (h : (wLs cs b G I)[k]? = some q) : k < 125 ∧ q = (b + k, wEs cs b G I (wSh k) k) := by
  have hk : k < 125 := by
    have := (List.getElem?_eq_some_iff.mp h).1
    simpa [wLs] using this
  rw [wLs_get hk] at h
  exact ⟨hk, (Option.some.inj h).symm⟩
theorem wLs_D {cs : wC4} {b : Nat} {G : wG} {I : wI} : va_D (fun q => b ≤ q) (wLs cs b G I) := by
  refine ⟨fun i j p q hi hj h => ?_, fun k q hk => ?_⟩
  · obtain ⟨-, rfl⟩ := wLs_inv hi
    obtain ⟨-, rfl⟩ := wLs_inv hj
    exact Nat.add_left_cancel h
  · obtain ⟨-, rfl⟩ := wLs_inv hk
    exact Nat.le_add_right _ _
theorem wLs_set {cs : wC4} {b : Nat} {G G' : wG} {I I' : wI} {k : Nat} {e : va_E} (hk : k < 125) (he : e = wEs cs b G' I' (wSh k) k) (ho : ∀ c, c < 125 → c ≠ k → wEs cs b G' I' (wSh c) c = wEs cs b G I (wSh c) c) : (wLs cs b G I).set k (b + k, e) = wLs cs b G' I' := by
  refine List.ext_getElem? fun c => ?_
  rw [List.getElem?_set]
  by_cases hck : k = c
  · subst hck
    rw [if_pos rfl, if_pos (by simpa [wLs] using hk), wLs_get hk, he]
  · rw [if_neg hck]
    by_cases hc : c < 125
    · rw [wLs_get hc, wLs_get hc, ho c hc (Ne.symm hck)]
    · rw [List.getElem?_eq_none (by simpa [wLs] using hc), List.getElem?_eq_none (by simpa [wLs] using hc)]
theorem wEs_congr {cs : wC4} {b : Nat} {G : wG} {I I' : wI} {sh : Nat × Nat} {k : Nat} (h : I' k = I k) : wEs cs b G I' sh k = wEs cs b G I sh k := by
  unfold wEs
  have hf : wFv b I' sh.2 k = wFv b I sh.2 k := by funext j; unfold wFv; rw [h]
  rw [hf, h]
/-- two tables that agree where the cells look are the same world -/
theorem wLs_ext {cs : wC4} {b : Nat} {G : wG} {I I' : wI} (h : ∀ k, k < 125 → I' k = I k) : wLs cs b G I' = wLs cs b G I := by
  refine List.ext_getElem? fun c => ?_
  by_cases hc : c < 125
  · rw [wLs_get hc, wLs_get hc, wEs_congr (h c hc)]
  · rw [List.getElem?_eq_none (by simpa [wLs] using hc), List.getElem?_eq_none (by simpa [wLs] using hc)]
theorem wLs_putO {cs : wC4} {b : Nat} {G : wG} {I : wI} {k ci j : Nat} {x : Int32} (hs : wSh k = (0, ci)) (hj : j < wNf ci) (ho : wOff ci j = none) : (wLs cs b G I).set k (b + k, .inr (ci, ((List.range (wNf ci)).map (wFv b I ci k)).set j (.int x))) = wLs cs b G (wU I k j x) := by
  refine wLs_set (wSh_lt hs (Nat.le_of_ble_eq_true rfl)) ?_ (fun c _ hc => wEs_congr (wU_ne hc))
  rw [hs]
  show Sum.inr _ = Sum.inr _
  congr 2
  refine List.ext_getElem? fun i => ?_
  rw [List.getElem?_set]
  by_cases hij : j = i
  · subst hij
    rw [if_pos rfl, if_pos (by simpa using hj), List.getElem?_map, List.getElem?_range hj]
    simp [wFv, ho, wU_at]
  · rw [if_neg hij]
    by_cases hi : i < wNf ci
    · rw [List.getElem?_map, List.getElem?_map, List.getElem?_range hi]
      simp only [Option.map_some, wFv]
      cases wOff ci i with
      | some o => rfl
      | none => rw [wU_off (Or.inr (Ne.symm hij))]
    · rw [List.getElem?_eq_none (by simpa using hi), List.getElem?_eq_none (by simpa using hi)]
theorem wLs_putI {cs : wC4} {b : Nat} {G : wG} {I : wI} {k n i : Nat} {x : Int32} (hs : wSh k = (1, n)) : (wLs cs b G I).set k (b + k, .inl (cs.1, n, .inl (upd (I k) i x))) = wLs cs b G (wU I k i x) := by
  refine wLs_set (wSh_lt hs (Nat.le_of_ble_eq_true rfl)) ?_ (fun c _ hc => wEs_congr (wU_ne hc))
  rw [hs]
  show Sum.inl _ = Sum.inl _
  rw [wU_same]
theorem wLs_putC {cs : wC4} {b : Nat} {G : wG} {I : wI} {k n i : Nat} {x : Int32} (hs : wSh k = (2, n)) : (wLs cs b G I).set k (b + k, .inl (cs.2.1, n, .inl (upd (I k) i x))) = wLs cs b G (wU I k i x) := by
  refine wLs_set (wSh_lt hs (Nat.le_of_ble_eq_true rfl)) ?_ (fun c _ hc => wEs_congr (wU_ne hc))
  rw [hs]
  show Sum.inl _ = Sum.inl _
  rw [wU_same]
theorem wLs_putS {cs : wC4} {b : Nat} {G : wG} {I : wI} {k n i : Nat} {x : Int32} (hs : wSh k = (3, n)) : (wLs cs b G I).set k (b + k, .inl (cs.2.2.1, n, .inr (.inr (.inr (.inr (va_up (fun j => some (b + wSv (I k j))) i (some (b + wSv x)))))))) = wLs cs b G (wU I k i x) := by
  refine wLs_set (wSh_lt hs (Nat.le_of_ble_eq_true rfl)) ?_ (fun c _ hc => wEs_congr (wU_ne hc))
  rw [hs]
  have hf : va_up (fun j => some (b + wSv (I k j))) i (some (b + wSv x)) = (fun j => some (b + wSv (wU I k i x k j))) := by
    funext j
    simp only [va_up, wU_same, upd]
    split <;> rfl
  rw [hf]
  rfl
theorem wLs_putL {cs : wC4} {b : Nat} {G G' : wG} {I : wI} : (wLs cs b G I).set 124 (b + 124, .inl (cs.2.2.2, 1, .inr (.inl G'))) = wLs cs b G' I := by
  refine wLs_set (by decide) rfl (fun c hc hn => ?_)
  have key : ∀ c, c < 125 → c ≠ 124 → (wSh c).1 < 4 := by decide +kernel
  have h4 := key c hc hn
  generalize wSh c = q at h4 ⊢
  obtain ⟨a, n⟩ := q
  have h4 : a < 4 := h4
  match a, h4 with
  | 0, _ => rfl
  | 1, _ => rfl
  | 2, _ => rfl
  | 3, _ => rfl
def wTys (cs : wC4) : List (ClassId × FieldType) := [(cs.1, .int), (cs.2.1, .char), (cs.2.2.1, .object RX3), (cs.2.2.2, .long)]
/-- the texts of the exceptions -/
def wStr : List (String × Nat × String) := [(RX5, 233, "what is not 0 to 9"), (RX5, 307, "there is no such position"), (RX5, 190, "what is not 0 to 4"), (RX5, 304, "there is no such key"), (RX5, 207, "what is not 0 to 5"), (RX5, 246, "back is not 0 or 1"), (RX5, 235, "what is not 0 or 1"), (RX5, 309, "a position of the key is stuck"), (RX5, 68, "the buffer is not a complete word"), (RX5, 78, "the word has too many turns"), (RX5, 122, "positions or strength out of range"), (RX5, 159, "the code is not 33 to 126"), (RX5, 161, "the buffer is full"), (RX5, 173, "there is no snapshot"), (RX5, 175, "there is no saved state")]
/-- what the tables and the statics say, of the state alone -/
def wEn (ad : Nat → Nat) (b : Nat) (U : State) (H : Heap) : Prop :=
  (∀ w ∈ lw_nw, va_Nw w U) ∧ (∀ (i : Nat) (q : String × Nat × String), wStr[i]? = some q → vk_R q.1 q.2.1 q.2.2 (ad i) U) ∧ vx_Zq Bundle.tN "UNASSIGNED_STACK" Bundle.steD (fun q => b ≤ q) U H ∧ vx_Zq Bundle.tN "SUPPRESSED_SENTINEL" Bundle.listD (fun q => b ≤ q) U H
theorem wNw_warm {s U : State} (hW : s.WarmedH U.vm) {w : Cond} (hn : lw_isNw w = true) (h : va_Nw w s) : va_Nw w U := by
  cases w <;> first | exact absurd (show false = true from hn) (by decide) | exact va_Nw.warmM hW h | exact va_Nw.warmF hW h | exact va_Nw.warmC hW h | exact va_Nw.warmD hW h
theorem wEn_at {ad : Nat → Nat} {b : Nat} {s U : State} {H : Heap} {locs : List Loc} (hW : s.WarmedH U.vm) (hU : U.heap = H) (hS : va_S (fun q => b ≤ q) s.heap H locs) (h : wEn ad b s s.heap) : wEn ad b U U.heap := by
  obtain ⟨h1, h2, h3, h4⟩ := h
  have hk : ∀ a : Nat, a < s.heap.size → ¬ b ≤ a → H[a]? = s.heap[a]? := hS.2.1
  exact ⟨fun w hw => wNw_warm hW (List.mem_filter.mp hw).2 (h1 w hw), fun i q hq => vk_R.warm hW (h2 i q hq), by rw [hU]; exact (h3.kept hk).moved hW.alike, by rw [hU]; exact (h4.kept hk).moved hW.alike⟩
def wPr (D : va_G) (cs : wC4) (ad : Nat → Nat) (b : Nat) (G : wG) (I : wI) (U : State) : Prop := va_K D vwCl (wTys cs) U ∧ wEn ad b U U.heap ∧ va_P D vwCl (wLs cs b G I) U.heap
def wPo (D : va_G) (cs : wC4) (b : Nat) (G : wG) (I : wI) (t : State) : Prop := va_P D vwCl (wLs cs b G I) t.heap
theorem wNw_same {u U : State} (hv : U.vm = u.vm) {w : Cond} (hn : lw_isNw w = true) (h : va_Nw w u) : va_Nw w U := by
  exact va_Nw.same (by cases w <;> first | exact absurd (show false = true from hn) (by decide) | rfl) hv.symm h
theorem wPr_blind {D : va_G} {cs : wC4} {ad : Nat → Nat} {b : Nat} {G : wG} {I : wI} {av : List Value} : FrameBlind (va_Pc av (wPr D cs ad b G I)) := by
  intro a U g mk h
  obtain ⟨h0, h1, ⟨h2, h3, h4, h5⟩, h6⟩ := h
  refine ⟨h0, va_K.moved (u := U) (U := U.calling g mk a) (Vm.Alike.refl U.vm) h1, ⟨fun w hw => wNw_same (u := U) (U := U.calling g mk a) rfl (List.mem_filter.mp hw).2 (h2 w hw), fun i q hq => vk_R.same (u := U) (U := U.calling g mk a) rfl (h3 i q hq), vx_Zq.moved (u := U) (U := U.calling g mk a) (Vm.Alike.refl U.vm) h4, vx_Zq.moved (u := U) (U := U.calling g mk a) (Vm.Alike.refl U.vm) h5⟩, h6⟩
/-- the heap of a walk -/
def wH (D : va_G) (cs : wC4) (b : Nat) (G : wG) (I : wI) (s : State) (H : Heap) (locs : List Loc) : Prop := va_P D vwCl (wLs cs b G I) H ∧ va_S (fun q => b ≤ q) s.heap H locs
theorem wPr_of {D : va_G} {cs : wC4} {ad : Nat → Nat} {b : Nat} {G : wG} {I : wI} {s : State} {H : Heap} {locs : List Loc} {av : List Value} (hK : va_K D vwCl (wTys cs) s) (hE : wEn ad b s s.heap) (hH : wH D cs b G I s H locs) (U : State) (hU : U.heap = H) (hW : s.WarmedH U.vm) : va_Pc av (wPr D cs ad b G I) av.toArray U :=
  ⟨rfl, va_K.moved hW.alike hK, wEn_at hW hU hH.2 hE, by rw [hU]; exact hH.1⟩
/-- what is said of a field's row -/
def wCk (ci : Nat) (C : String) (T : u_T) (N : Nat) (ty : Nat → FieldType) : Prop := vwCl[ci]? = some (C, T, N) ∧ (∀ w ∈ u_ws C T N, w ∈ lw_all) ∧ wNf ci = N ∧ (∀ k, k < N → parseFieldDescriptor (T k).2.2.1 = some (ty k)) ∧ (∀ a, a < N → ∀ b, b < N → a ≠ b → (T a).2.1 ≠ (T b).2.1) ∧ ∀ k, k < N → (T k).1 = C
theorem ck0 : wCk 0 RX0 TX0 2 tyX0 := ⟨rfl, by decide +kernel, rfl, tyX0_ok, nmX0, by decide +kernel⟩
theorem ck1 : wCk 1 RX1 TX1 2 tyX1 := ⟨rfl, by decide +kernel, rfl, tyX1_ok, nmX1, by decide +kernel⟩
theorem ck2 : wCk 2 RX2 TX2 7 tyX2 := ⟨rfl, by decide +kernel, rfl, tyX2_ok, nmX2, by decide +kernel⟩
theorem ck3 : wCk 3 RX3 TX3 9 tyX3 := ⟨rfl, by decide +kernel, rfl, tyX3_ok, nmX3, by decide +kernel⟩
theorem ck4 : wCk 4 RX4 TX4 11 tyX4 := ⟨rfl, by decide +kernel, rfl, tyX4_ok, nmX4, by decide +kernel⟩
theorem ck5 : wCk 5 RX5 TX5 9 tyX5 := ⟨rfl, by decide +kernel, rfl, tyX5_ok, nmX5, by decide +kernel⟩
theorem ck6 : wCk 6 RX6 TX6 21 tyX6 := ⟨rfl, by decide +kernel, rfl, tyX6_ok, nmX6, by decide +kernel⟩
