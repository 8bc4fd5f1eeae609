/-! ===== the world: cells by number, each at an address of its own; the class's 111, the law's rows of ints behind them; what may change is one table of ints ===== -/
abbrev wI : Type := Nat → Nat → Int32
/-- where the cells lie, and how many there are -/
abbrev wG : Type := (Nat → Nat) × Nat
abbrev wC4 : Type := ClassId × ClassId × ClassId
/-- kind and class (0), or kind and length (1: ints, 2: chars, 3: states, 5: the law's ints) -/
def wSt : List (Nat × Nat) := [(0, 3), (0, 0), (1, 6), (1, 6), (0, 1), (1, 5), (1, 5), (0, 0), (1, 6), (1, 6), (1, 5)]
def wDs : List (Nat × Nat) := [(0, 0), (1, 6), (1, 6)]
def wShL : List (Nat × Nat) := (0, 5) :: wSt ++ wSt ++ [(3, 6), (0, 4), (2, 60), (1, 500), (1, 4), (1, 4), (1, 4)] ++ wDs ++ wDs ++ [(0, 2), (1, 111), (1, 111)] ++ wDs ++ wDs ++ wSt ++ wSt ++ wSt ++ wSt ++ wSt ++ wSt ++ [(5, 12), (5, 15), (5, 4), (5, 12), (5, 12), (5, 12)]
def wSh (k : Nat) : Nat × Nat := wShL.getD k (9, 0)
/-- a field that holds a cell of its object: how far behind the object it lies -/
def wOff (ci j : Nat) : Option Nat := match ci with
  | 0 => [some 1, some 2].getD j none
  | 1 => [some 1, some 2].getD j none
  | 2 => [some 1, some 2, none, some 3, some 6, none, none].getD j none
  | 3 => [some 1, some 4, some 7, none, none, some 10].getD j none
  | 4 => [some 1, none, some 2, none, none, some 3, some 4, some 5].getD j none
  | 5 => [some 1, some 12, none, some 23, none, some 24, some 30, some 33, some 36].getD j none
  | _ => none
def wNf (ci : Nat) : Nat := [2, 2, 7, 9, 11, 9].getD ci 0
def wFv (G : wG) (I : wI) (ci k j : Nat) : Value := match wOff ci j with
  | some o => .ref (G.1 (k + o))
  | none => .int (I k j)
def wSv (x : Int32) : Nat := 45 + 11 * x.toNatClampNeg
def wEs (cs : wC4) (G : wG) (I : wI) (sh : Nat × Nat) (k : Nat) : va_E := match sh.1 with
  | 0 => .inr (sh.2, (List.range (wNf sh.2)).map (wFv G I sh.2 k))
  | 2 => .inl (cs.2.1, sh.2, .inl (I k))
  | 3 => .inl (cs.2.2, sh.2, .inr (.inr (.inr (.inr (fun j => some (G.1 (wSv (I k j))))))))
  | _ => .inl (cs.1, sh.2, .inl (I k))
def wLs (cs : wC4) (G : wG) (I : wI) : va_W := (List.range G.2).map (fun k => (G.1 k, wEs cs G I (wSh k) k))
/-- the addresses are apart, and none lies among the old -/
def wOk (b : Nat) (G : wG) : Prop := 115 ≤ G.2 ∧ (∀ i j, i < G.2 → j < G.2 → G.1 i = G.1 j → i = j) ∧ ∀ k, k < G.2 → b ≤ G.1 k
def wU (I : wI) (k j : Nat) (x : Int32) : wI := fun c => if c = k then upd (I k) j x else I c
theorem wU_same {I : wI} {k j : Nat} {x : Int32} : wU I k j x k = upd (I k) j x := by simp [wU]
theorem wU_ne {I : wI} {k j c : Nat} {x : Int32} (h : c ≠ k) : wU I k j x c = I c := by simp [wU, h]
theorem wU_at {I : wI} {k j : Nat} {x : Int32} : wU I k j x k j = x := by simp [wU, upd]
theorem wU_off {I : wI} {k j c i : Nat} {x : Int32} (h : c ≠ k ∨ i ≠ j) : wU I k j x c i = I c i := by
  by_cases hc : c = k
  · subst hc
    rcases h with h | h
    · exact absurd rfl h
    · simp [wU, upd, h]
  · simp [wU, hc]
theorem wSh_lt0 {k : Nat} {x : Nat × Nat} (h : wSh k = x) (hx : x.1 < 9) : k < 117 := by
  rcases Nat.lt_or_ge k 117 with q | q
  · exact q
  · exfalso
    have hl : wShL.length = 117 := rfl
    rw [← h, wSh, List.getD_eq_getElem?_getD, List.getElem?_eq_none (by omega)] at hx
    exact absurd hx (by decide)
theorem wSh_ltD : ∀ k, k < 117 → (wSh k).1 < 5 → k < 111 := by decide +kernel
theorem wSh_lt {k : Nat} {x : Nat × Nat} (h : wSh k = x) (hx : x.1 < 5) : k < 111 := wSh_ltD k (wSh_lt0 h (by omega)) (by rw [h]; exact hx)
theorem wLs_get {cs : wC4} {G : wG} {I : wI} {k : Nat} (hk : k < G.2) : (wLs cs G I)[k]? = some (G.1 k, wEs cs G I (wSh k) k) := by
  simp [wLs, List.getElem?_map, List.getElem?_range hk]
theorem wLs_inv {cs : wC4} {G : wG} {I : wI} {k : Nat} {q : Nat × va_E} (h : (wLs cs G I)[k]? = some q) : k < G.2 ∧ q = (G.1 k, wEs cs G I (wSh k) k) := by
  have hk : k < G.2 := by
    have := (List.getElem?_eq_some_iff.mp h).1
    simpa [wLs] using this
  rw [wLs_get hk] at h
  exact ⟨hk, (Option.some.inj h).symm⟩
theorem wLs_D {cs : wC4} {b : Nat} {G : wG} {I : wI} (ho : wOk b G) : va_D (fun q => b ≤ q) (wLs cs G I) := by
  refine ⟨fun i j p q hi hj h => ?_, fun k q hk => ?_⟩
  · obtain ⟨h1, rfl⟩ := wLs_inv hi
    obtain ⟨h2, rfl⟩ := wLs_inv hj
    exact ho.2.1 i j h1 h2 h
  · obtain ⟨h1, rfl⟩ := wLs_inv hk
    exact ho.2.2 k h1
theorem wLs_set {cs : wC4} {G : wG} {I I' : wI} {k : Nat} {e : va_E} (hk : k < G.2) (he : e = wEs cs G I' (wSh k) k) (ho : ∀ c, c < G.2 → c ≠ k → wEs cs G I' (wSh c) c = wEs cs G I (wSh c) c) : (wLs cs G I).set k (G.1 k, e) = wLs cs G I' := by
  refine List.ext_getElem? fun c => ?_
  rw [List.getElem?_set]
  by_cases hck : k = c
  · subst hck
    rw [if_pos rfl, if_pos (by simpa [wLs] using hk), wLs_get hk, he]
  · rw [if_neg hck]
    by_cases hc : c < G.2
    · rw [wLs_get hc, wLs_get hc, ho c hc (Ne.symm hck)]
    · rw [List.getElem?_eq_none (by simpa [wLs] using hc), List.getElem?_eq_none (by simpa [wLs] using hc)]
theorem wEs_congr {cs : wC4} {G : wG} {I I' : wI} {sh : Nat × Nat} {k : Nat} (h : I' k = I k) : wEs cs G I' sh k = wEs cs G I sh k := by
  unfold wEs
  have hf : wFv G I' sh.2 k = wFv G I sh.2 k := by funext j; unfold wFv; rw [h]
  rw [hf, h]
/-- two tables that agree where the cells look are the same world -/
theorem wLs_ext {cs : wC4} {G : wG} {I I' : wI} (h : ∀ k, k < G.2 → I' k = I k) : wLs cs G I' = wLs cs G I := by
  refine List.ext_getElem? fun c => ?_
  by_cases hc : c < G.2
  · rw [wLs_get hc, wLs_get hc, wEs_congr (h c hc)]
  · rw [List.getElem?_eq_none (by simpa [wLs] using hc), List.getElem?_eq_none (by simpa [wLs] using hc)]
theorem wLs_putO {cs : wC4} {G : wG} {I : wI} {k ci j : Nat} {x : Int32} (hn : 115 ≤ G.2) (hs : wSh k = (0, ci)) (hj : j < wNf ci) (ho : wOff ci j = none) : (wLs cs G I).set k (G.1 k, .inr (ci, ((List.range (wNf ci)).map (wFv G I ci k)).set j (.int x))) = wLs cs G (wU I k j x) := by
  have hk := wSh_lt hs (Nat.le_of_ble_eq_true rfl)
  refine wLs_set (by omega) ?_ (fun c _ hc => wEs_congr (wU_ne hc))
  rw [hs]
  show Sum.inr _ = Sum.inr _
  congr 2
  refine List.ext_getElem? fun i => ?_
  rw [List.getElem?_set]
  by_cases hij : j = i
  · subst hij
    rw [if_pos rfl, if_pos (by simpa using hj), List.getElem?_map, List.getElem?_range hj]
    simp [wFv, ho, wU_at]
  · rw [if_neg hij]
    by_cases hi : i < wNf ci
    · rw [List.getElem?_map, List.getElem?_map, List.getElem?_range hi]
      simp only [Option.map_some, wFv]
      cases wOff ci i with
      | some o => rfl
      | none => rw [wU_off (Or.inr (Ne.symm hij))]
    · rw [List.getElem?_eq_none (by simpa using hi), List.getElem?_eq_none (by simpa using hi)]
theorem wLs_putI {cs : wC4} {G : wG} {I : wI} {k n i : Nat} {x : Int32} (hn : 115 ≤ G.2) (hs : wSh k = (1, n)) : (wLs cs G I).set k (G.1 k, .inl (cs.1, n, .inl (upd (I k) i x))) = wLs cs G (wU I k i x) := by
  have hk := wSh_lt hs (Nat.le_of_ble_eq_true rfl)
  refine wLs_set (by omega) ?_ (fun c _ hc => wEs_congr (wU_ne hc))
  rw [hs]
  show Sum.inl _ = Sum.inl _
  rw [wU_same]
theorem wLs_putJ {cs : wC4} {G : wG} {I : wI} {k n i : Nat} {x : Int32} (hs : wSh k = (5, n) ∧ k < G.2) : (wLs cs G I).set k (G.1 k, .inl (cs.1, n, .inl (upd (I k) i x))) = wLs cs G (wU I k i x) := by
  refine wLs_set hs.2 ?_ (fun c _ hc => wEs_congr (wU_ne hc))
  rw [hs.1]
  show Sum.inl _ = Sum.inl _
  rw [wU_same]
theorem wLs_putC {cs : wC4} {G : wG} {I : wI} {k n i : Nat} {x : Int32} (hn : 115 ≤ G.2) (hs : wSh k = (2, n)) : (wLs cs G I).set k (G.1 k, .inl (cs.2.1, n, .inl (upd (I k) i x))) = wLs cs G (wU I k i x) := by
  have hk := wSh_lt hs (Nat.le_of_ble_eq_true rfl)
  refine wLs_set (by omega) ?_ (fun c _ hc => wEs_congr (wU_ne hc))
  rw [hs]
  show Sum.inl _ = Sum.inl _
  rw [wU_same]
theorem wLs_putS {cs : wC4} {G : wG} {I : wI} {k n i : Nat} {x : Int32} (hn : 115 ≤ G.2) (hs : wSh k = (3, n)) : (wLs cs G I).set k (G.1 k, .inl (cs.2.2, n, .inr (.inr (.inr (.inr (va_up (fun j => some (G.1 (wSv (I k j)))) i (some (G.1 (wSv x))))))))) = wLs cs G (wU I k i x) := by
  have hk := wSh_lt hs (Nat.le_of_ble_eq_true rfl)
  refine wLs_set (by omega) ?_ (fun c _ hc => wEs_congr (wU_ne hc))
  rw [hs]
  have hf : va_up (fun j => some (G.1 (wSv (I k j)))) i (some (G.1 (wSv x))) = (fun j => some (G.1 (wSv (wU I k i x k j)))) := by
    funext j
    simp only [va_up, wU_same, upd]
    split <;> rfl
  rw [hf]
  rfl
def wTys (cs : wC4) : List (ClassId × FieldType) := [(cs.1, .int), (cs.2.1, .char), (cs.2.2, .object RX3)]
def wIO : String := "java/lang/IndexOutOfBoundsException"
def wIA : String := "java/lang/IllegalArgumentException"
def wIS : String := "java/lang/IllegalStateException"
def wNc (U : State) : Prop := va_Nc wIS wIO U ∧ va_Nc wIS wIA U ∧ va_Nc wIA wIO U
theorem wNc.moved {u U : State} (hvm : u.vm.Alike U.vm) (h : wNc u) : wNc U := ⟨va_Nc.moved hvm h.1, va_Nc.moved hvm h.2.1, va_Nc.moved hvm h.2.2⟩
/-- the texts of the exceptions -/
def wStr : List (String × Nat × String) := [(RX5, 175, "there is no saved state"), (RX5, 173, "there is no snapshot"), (RX5, 307, "there is no such position"), (RX5, 190, "what is not 0 to 4"), (RX5, 304, "there is no such key"), (RX5, 207, "what is not 0 to 5"), (RX5, 233, "what is not 0 to 9"), (RX5, 235, "what is not 0 or 1"), (RX5, 246, "back is not 0 or 1"), (RX5, 309, "a position of the key is stuck"), (RX5, 122, "positions or strength out of range")]
/-- what the tables and the statics say, of the state alone -/
def wEn (ad : Nat → Nat) (b : Nat) (U : State) (H : Heap) : Prop :=
  (∀ w ∈ lw_nw, va_Nw w U) ∧ (∀ (i : Nat) (q : String × Nat × String), wStr[i]? = some q → vk_R q.1 q.2.1 q.2.2 (ad i) U) ∧ vx_Zq Bundle.tN "UNASSIGNED_STACK" Bundle.steD (fun q => b ≤ q) U H ∧ vx_Zq Bundle.tN "SUPPRESSED_SENTINEL" Bundle.listD (fun q => b ≤ q) U H ∧ wNc U
theorem wNw_warm {s U : State} (hW : s.WarmedH U.vm) {w : Cond} (hn : lw_isNw w = true) (h : va_Nw w s) : va_Nw w U := by
  cases w <;> first | exact absurd (show false = true from hn) (by decide) | exact va_Nw.warmM hW h | exact va_Nw.warmF hW h | exact va_Nw.warmC hW h | exact va_Nw.warmD hW h
theorem wEn_at {ad : Nat → Nat} {b : Nat} {s U : State} {H : Heap} {locs : List Loc} (hW : s.WarmedH U.vm) (hU : U.heap = H) (hS : va_S (fun q => b ≤ q) s.heap H locs) (h : wEn ad b s s.heap) : wEn ad b U U.heap := by
  obtain ⟨h1, h2, h3, h4, h5⟩ := h
  have hk : ∀ a : Nat, a < s.heap.size → ¬ b ≤ a → H[a]? = s.heap[a]? := hS.2.1
  exact ⟨fun w hw => wNw_warm hW (List.mem_filter.mp hw).2 (h1 w hw), fun i q hq => vk_R.warm hW (h2 i q hq), by rw [hU]; exact (h3.kept hk).moved hW.alike, by rw [hU]; exact (h4.kept hk).moved hW.alike, h5.moved hW.alike⟩
def wPr (D : va_G) (cs : wC4) (ad : Nat → Nat) (b : Nat) (G : wG) (I : wI) (U : State) : Prop := va_K D vwCl (wTys cs) U ∧ wEn ad b U U.heap ∧ va_P D vwCl (wLs cs G I) U.heap ∧ wOk b G
def wPo (D : va_G) (cs : wC4) (_b : Nat) (G : wG) (I : wI) (t : State) : Prop := va_P D vwCl (wLs cs G I) t.heap
theorem wNw_same {u U : State} (hv : U.vm = u.vm) {w : Cond} (hn : lw_isNw w = true) (h : va_Nw w u) : va_Nw w U := by
  exact va_Nw.same (by cases w <;> first | exact absurd (show false = true from hn) (by decide) | rfl) hv.symm h
theorem wPr_blind {D : va_G} {cs : wC4} {ad : Nat → Nat} {b : Nat} {G : wG} {I : wI} {av : List Value} : FrameBlind (va_Pc av (wPr D cs ad b G I)) := by
  intro a U g mk h
  obtain ⟨h0, h1, ⟨h2, h3, h4, h5, h7⟩, h6⟩ := h
  refine ⟨h0, va_K.moved (u := U) (U := U.calling g mk a) (Vm.Alike.refl U.vm) h1, ⟨fun w hw => wNw_same (u := U) (U := U.calling g mk a) rfl (List.mem_filter.mp hw).2 (h2 w hw), fun i q hq => vk_R.same (u := U) (U := U.calling g mk a) rfl (h3 i q hq), vx_Zq.moved (u := U) (U := U.calling g mk a) (Vm.Alike.refl U.vm) h4, vx_Zq.moved (u := U) (U := U.calling g mk a) (Vm.Alike.refl U.vm) h5, wNc.moved (u := U) (U := U.calling g mk a) (Vm.Alike.refl U.vm) h7⟩, h6⟩
/-- the heap of a walk -/
def wH (D : va_G) (cs : wC4) (b : Nat) (G : wG) (I : wI) (s : State) (H : Heap) (locs : List Loc) : Prop := va_P D vwCl (wLs cs G I) H ∧ va_S (fun q => b ≤ q) s.heap H locs ∧ wOk b G
theorem wPr_of {D : va_G} {cs : wC4} {ad : Nat → Nat} {b : Nat} {G : wG} {I : wI} {s : State} {H : Heap} {locs : List Loc} {av : List Value} (hK : va_K D vwCl (wTys cs) s) (hE : wEn ad b s s.heap) (hH : wH D cs b G I s H locs) (U : State) (hU : U.heap = H) (hW : s.WarmedH U.vm) : va_Pc av (wPr D cs ad b G I) av.toArray U :=
  ⟨rfl, va_K.moved hW.alike hK, wEn_at hW hU hH.2.1 hE, by rw [hU]; exact hH.1, hH.2.2⟩
/-- what is said of a field's row -/
def wCk (ci : Nat) (C : String) (T : u_T) (N : Nat) (ty : Nat → FieldType) : Prop := vwCl[ci]? = some (C, T, N) ∧ (∀ w ∈ u_ws C T N, w ∈ lw_all) ∧ wNf ci = N ∧ (∀ k, k < N → parseFieldDescriptor (T k).2.2.1 = some (ty k)) ∧ (∀ a, a < N → ∀ b, b < N → a ≠ b → (T a).2.1 ≠ (T b).2.1) ∧ ∀ k, k < N → (T k).1 = C
theorem ck0 : wCk 0 RX0 TX0 2 tyX0 := ⟨rfl, by decide +kernel, rfl, tyX0_ok, nmX0, by decide +kernel⟩
theorem ck1 : wCk 1 RX1 TX1 2 tyX1 := ⟨rfl, by decide +kernel, rfl, tyX1_ok, nmX1, by decide +kernel⟩
theorem ck2 : wCk 2 RX2 TX2 7 tyX2 := ⟨rfl, by decide +kernel, rfl, tyX2_ok, nmX2, by decide +kernel⟩
theorem ck3 : wCk 3 RX3 TX3 9 tyX3 := ⟨rfl, by decide +kernel, rfl, tyX3_ok, nmX3, by decide +kernel⟩
theorem ck4 : wCk 4 RX4 TX4 11 tyX4 := ⟨rfl, by decide +kernel, rfl, tyX4_ok, nmX4, by decide +kernel⟩
theorem ck5 : wCk 5 RX5 TX5 9 tyX5 := ⟨rfl, by decide +kernel, rfl, tyX5_ok, nmX5, by decide +kernel⟩
