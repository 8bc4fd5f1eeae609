/-! ===== while the objects are made: n cells so far, the references in a table of their own ===== -/
abbrev wR : Type := Nat → Nat → Option Nat
def wFk (b : Nat) (I : wI) (R : wR) (ci k j : Nat) : Value := match wOff ci j with
  | some _ => va_rf ((R k j).map (fun c => b + c))
  | none => .int (I k j)
def wEk (cs : wC4) (b : Nat) (I : wI) (R : wR) (sh : Nat × Nat) (k : Nat) : va_E := match sh.1 with
  | 0 => .inr (sh.2, (List.range (wNf sh.2)).map (wFk b I R sh.2 k))
  | 2 => .inl (cs.2.1, sh.2, .inl (I k))
  | 3 => .inl (cs.2.2, sh.2, .inr (.inr (.inr (.inr (fun j => (R k j).map (fun c => b + c))))))
  | _ => .inl (cs.1, sh.2, .inl (I k))
def wLk (cs : wC4) (b n : Nat) (I : wI) (R : wR) : va_W := (List.range n).map (fun k => (b + k, wEk cs b I R (wSh k) k))
def zI (I : wI) (n : Nat) : wI := fun c => if c = n then (fun _ => 0) else I c
def zR (R : wR) (n : Nat) : wR := fun c => if c = n then (fun _ => none) else R c
def uR (R : wR) (k j : Nat) (v : Option Nat) : wR := fun c => if c = k then va_up (R k) j v else R c
theorem wLk_get {cs : wC4} {b n : Nat} {I : wI} {R : wR} {k : Nat} (hk : k < n) : (wLk cs b n I R)[k]? = some (b + k, wEk cs b I R (wSh k) k) := by
  simp [wLk, List.getElem?_map, List.getElem?_range hk]
theorem wLk_inv {cs : wC4} {b n : Nat} {I : wI} {R : wR} {k : Nat} {q : Nat × va_E} (h : (wLk cs b n I R)[k]? = some q) : k < n ∧ q = (b + k, wEk cs b I R (wSh k) k) := by
  have hk : k < n := by
    have := (List.getElem?_eq_some_iff.mp h).1
    simpa [wLk] using this
  rw [wLk_get hk] at h
  exact ⟨hk, (Option.some.inj h).symm⟩
theorem wLk_D {cs : wC4} {b n : Nat} {I : wI} {R : wR} : va_D (fun q => b ≤ q) (wLk cs b n I R) := by
  refine ⟨fun i j p q hi hj h => ?_, fun k q hk => ?_⟩
  · obtain ⟨-, rfl⟩ := wLk_inv hi
    obtain ⟨-, rfl⟩ := wLk_inv hj
    exact Nat.add_left_cancel h
  · obtain ⟨-, rfl⟩ := wLk_inv hk
    exact Nat.le_add_right _ _
theorem wLk_set {cs : wC4} {b n : Nat} {I I' : wI} {R R' : wR} {k : Nat} {e : va_E} (hk : k < n) (he : e = wEk cs b I' R' (wSh k) k) (ho : ∀ c, c < n → c ≠ k → wEk cs b I' R' (wSh c) c = wEk cs b I R (wSh c) c) : (wLk cs b n I R).set k (b + k, e) = wLk cs b n I' R' := by
  refine List.ext_getElem? fun c => ?_
  rw [List.getElem?_set]
  by_cases hck : k = c
  · subst hck
    rw [if_pos rfl, if_pos (by simpa [wLk] using hk), wLk_get hk, he]
  · rw [if_neg hck]
    by_cases hc : c < n
    · rw [wLk_get hc, wLk_get hc, ho c hc (Ne.symm hck)]
    · rw [List.getElem?_eq_none (by simpa [wLk] using hc), List.getElem?_eq_none (by simpa [wLk] using hc)]
theorem wEk_congr {cs : wC4} {b : Nat} {I I' : wI} {R R' : wR} {sh : Nat × Nat} {k : Nat} (h : I' k = I k) (h2 : R' k = R k) : wEk cs b I' R' sh k = wEk cs b I R sh k := by
  unfold wEk
  have hf : wFk b I' R' sh.2 k = wFk b I R sh.2 k := by funext j; unfold wFk; rw [h, h2]
  rw [hf, h, h2]
theorem uR_ne {R : wR} {k j c : Nat} {v : Option Nat} (h : c ≠ k) : uR R k j v c = R c := by simp [uR, h]
theorem wLk_putO {cs : wC4} {b n : Nat} {I : wI} {R : wR} {k ci j : Nat} {x : Int32} (hk : k < n) (hs : wSh k = (0, ci)) (hj : j < wNf ci) (ho : wOff ci j = none) : (wLk cs b n I R).set k (b + k, .inr (ci, ((List.range (wNf ci)).map (wFk b I R ci k)).set j (.int x))) = wLk cs b n (wU I k j x) R := by
  refine wLk_set hk ?_ (fun c _ hc => wEk_congr (wU_ne hc) rfl)
  rw [hs]
  show Sum.inr _ = Sum.inr _
  congr 2
  refine List.ext_getElem? fun i => ?_
  rw [List.getElem?_set]
  by_cases hij : j = i
  · subst hij
    rw [if_pos rfl, if_pos (by simpa using hj), List.getElem?_map, List.getElem?_range hj]
    simp [wFk, ho, wU_at]
  · rw [if_neg hij]
    by_cases hi : i < wNf ci
    · rw [List.getElem?_map, List.getElem?_map, List.getElem?_range hi]
      simp only [Option.map_some, wFk]
      cases wOff ci i with
      | some o => rfl
      | none => rw [wU_off (Or.inr (Ne.symm hij))]
    · rw [List.getElem?_eq_none (by simpa using hi), List.getElem?_eq_none (by simpa using hi)]
theorem wLk_putR {cs : wC4} {b n : Nat} {I : wI} {R : wR} {k ci j o c' : Nat} (hk : k < n) (hs : wSh k = (0, ci)) (hj : j < wNf ci) (ho : wOff ci j = some o) : (wLk cs b n I R).set k (b + k, .inr (ci, ((List.range (wNf ci)).map (wFk b I R ci k)).set j (.ref (b + c')))) = wLk cs b n I (uR R k j (some c')) := by
  refine wLk_set hk ?_ (fun c _ hc => wEk_congr rfl (uR_ne hc))
  rw [hs]
  show Sum.inr _ = Sum.inr _
  congr 2
  refine List.ext_getElem? fun i => ?_
  rw [List.getElem?_set]
  by_cases hij : j = i
  · subst hij
    rw [if_pos rfl, if_pos (by simpa using hj), List.getElem?_map, List.getElem?_range hj]
    simp [wFk, ho, uR, va_up, va_rf]
  · rw [if_neg hij]
    by_cases hi : i < wNf ci
    · rw [List.getElem?_map, List.getElem?_map, List.getElem?_range hi]
      simp only [Option.map_some, wFk]
      cases wOff ci i with
      | some o => simp [uR, va_up, Ne.symm hij]
      | none => rfl
    · rw [List.getElem?_eq_none (by simpa using hi), List.getElem?_eq_none (by simpa using hi)]
theorem wLk_putI {cs : wC4} {b n : Nat} {I : wI} {R : wR} {k N i : Nat} {x : Int32} (hk : k < n) (hs : wSh k = (1, N)) : (wLk cs b n I R).set k (b + k, .inl (cs.1, N, .inl (upd (I k) i x))) = wLk cs b n (wU I k i x) R := by
  refine wLk_set hk ?_ (fun c _ hc => wEk_congr (wU_ne hc) rfl)
  rw [hs]
  show Sum.inl _ = Sum.inl _
  rw [wU_same]
theorem wLk_putS {cs : wC4} {b n : Nat} {I : wI} {R : wR} {k N i c' : Nat} (hk : k < n) (hs : wSh k = (3, N)) : (wLk cs b n I R).set k (b + k, .inl (cs.2.2, N, .inr (.inr (.inr (.inr (va_up (fun j => (R k j).map (fun c => b + c)) i (some (b + c')))))))) = wLk cs b n I (uR R k i (some c')) := by
  refine wLk_set hk ?_ (fun c _ hc => wEk_congr rfl (uR_ne hc))
  rw [hs]
  have hf : va_up (fun j => (R k j).map (fun c => b + c)) i (some (b + c')) = (fun j => ((uR R k i (some c')) k j).map (fun c => b + c)) := by
    funext j
    have h2 : (uR R k i (some c')) k = va_up (R k) i (some c') := by simp [uR]
    rw [h2]
    simp only [va_up]
    split <;> rfl
  rw [hf]
  rfl
theorem wLk_push {cs : wC4} {b n : Nat} {I : wI} {R : wR} {e : va_E} (he : e = wEk cs b (zI I n) (zR R n) (wSh n) n) : wLk cs b n I R ++ [(b + n, e)] = wLk cs b (n + 1) (zI I n) (zR R n) := by
  unfold wLk
  rw [List.range_succ, List.map_append, List.map_singleton, he]
  congr 1
  refine List.map_congr_left fun k hk => ?_
  have hk := List.mem_range.mp hk
  rw [wEk_congr (I := I) (I' := zI I n) (R := R) (R' := zR R n) (by simp [zI, Nat.ne_of_lt hk]) (by simp [zR, Nat.ne_of_lt hk])]
def wPk (D : va_G) (cs : wC4) (ad : Nat → Nat) (b n : Nat) (I : wI) (R : wR) (U : State) : Prop := va_K D vwCl (wTys cs) U ∧ wEn ad b U U.heap ∧ va_AO RX3 U ∧ va_P D vwCl (wLk cs b n I R) U.heap ∧ U.heap.size = b + n
def wPok (D : va_G) (cs : wC4) (b n : Nat) (I : wI) (R : wR) (t : State) : Prop := va_P D vwCl (wLk cs b n I R) t.heap ∧ t.heap.size = b + n
def wHk (D : va_G) (cs : wC4) (b n : Nat) (I : wI) (R : wR) (s : State) (H : Heap) (locs : List Loc) : Prop := va_P D vwCl (wLk cs b n I R) H ∧ va_S (fun q => b ≤ q) s.heap H locs ∧ H.size = b + n
theorem wPk_blind {D : va_G} {cs : wC4} {ad : Nat → Nat} {b n : Nat} {I : wI} {R : wR} {av : List Value} : FrameBlind (va_Pc av (wPk D cs ad b n I R)) := by
  intro a U g mk h
  obtain ⟨h0, h1, ⟨h2, h3, h4, h5, h8⟩, h6, h7⟩ := h
  exact ⟨h0, va_K.moved (u := U) (U := U.calling g mk a) (Vm.Alike.refl U.vm) h1, ⟨fun w hw => wNw_same (u := U) (U := U.calling g mk a) rfl (List.mem_filter.mp hw).2 (h2 w hw), fun i q hq => vk_R.same (u := U) (U := U.calling g mk a) rfl (h3 i q hq), vx_Zq.moved (u := U) (U := U.calling g mk a) (Vm.Alike.refl U.vm) h4, vx_Zq.moved (u := U) (U := U.calling g mk a) (Vm.Alike.refl U.vm) h5, wNc.moved (u := U) (U := U.calling g mk a) (Vm.Alike.refl U.vm) h8⟩, va_AO.moved (u := U) (U := U.calling g mk a) (Vm.Alike.refl U.vm) h6, h7⟩
theorem wPk_of {D : va_G} {cs : wC4} {ad : Nat → Nat} {b n : Nat} {I : wI} {R : wR} {s : State} {H : Heap} {locs : List Loc} {av : List Value} (hK : va_K D vwCl (wTys cs) s) (hE : wEn ad b s s.heap) (hO : va_AO RX3 s) (hH : wHk D cs b n I R s H locs) (U : State) (hU : U.heap = H) (hW : s.WarmedH U.vm) : va_Pc av (wPk D cs ad b n I R) av.toArray U :=
  ⟨rfl, va_K.moved hW.alike hK, wEn_at hW hU hH.2.1 hE, va_AO.moved hW.alike hO, by rw [hU]; exact hH.1, by rw [hU]; exact hH.2.2⟩
theorem wH_size {b : Nat} {s : State} {H1 H : Heap} {locs : List Loc} (hS : va_S (fun q => b ≤ q) s.heap H locs) (hz : H1.size = H.size + 1) (ho : ∀ q, q < H.size → H1[q]? = H[q]?) : va_S (fun q => b ≤ q) s.heap H1 locs :=
  ⟨Nat.le_trans hS.1 (by omega), fun x h1 h2 => (ho x (Nat.lt_of_lt_of_le h1 hS.1)).trans (hS.2.1 x h1 h2), hS.2.2⟩
/-- what is new in an object of a class -/
def wDf (ci N : Nat) (ty : Nat → FieldType) : Prop := ∀ j, j < N → (match wOff ci j with | some _ => Value.null | none => .int 0) = defaultValue (ty j)
theorem df0 : wDf 0 2 tyX0 := by unfold wDf; decide +kernel
theorem df1 : wDf 1 2 tyX1 := by unfold wDf; decide +kernel
theorem df2 : wDf 2 7 tyX2 := by unfold wDf; decide +kernel
theorem df3 : wDf 3 9 tyX3 := by unfold wDf; decide +kernel
theorem df4 : wDf 4 11 tyX4 := by unfold wDf; decide +kernel
theorem df5 : wDf 5 9 tyX5 := by unfold wDf; decide +kernel
section KROWS
variable {p : Program} {l : Launch} {e : Env} {Rm : Room} {s : State} {m : MethodId} {args : Array Value} {below : List Frame} {meth : Method} {c : Code} {H : Heap} {locs : List Loc} {cells slots : Nat} {Q : State → Prop}
variable {cc bytes : ByteArray} {nL pc : Nat} {ls : Array Slot} {rest st0 : List Value} {own : String} {D : va_G} {cs : wC4} {ad : Nat → Nat} {b n : Nat} {I : wI} {R : wR}
variable {ci : Nat} {C : String} {T : u_T} {N : Nat} {ty : Nat → FieldType} {k : Nat} {ix : Nat}
variable {y : MethodName} {maxL na mc ms : Nat} {rm : Room} {av As : List Value} {Qc : Array Value → State → Outcome → State → Prop} {a : Array Value}
theorem k_objg (hk : k < n) (hs : wSh k = (0, ci)) : (wLk cs b n I R)[k]? = some (b + k, .inr (ci, (List.range (wNf ci)).map (wFk b I R ci k))) := by
  have h := wLk_get (cs := cs) (b := b) (I := I) (R := R) hk
  rw [hs] at h
  exact h
theorem k_intsg (hk : k < n) (hs : wSh k = (1, N)) : (wLk cs b n I R)[k]? = some (b + k, .inl (cs.1, N, .inl (I k))) := by
  have h := wLk_get (cs := cs) (b := b) (I := I) (R := R) hk
  rw [hs] at h
  exact h
theorem k_statesg (hk : k < n) (hs : wSh k = (3, N)) : (wLk cs b n I R)[k]? = some (b + k, .inl (cs.2.2, N, .inr (.inr (.inr (.inr (fun j => (R k j).map (fun c => b + c))))))) := by
  have h := wLk_get (cs := cs) (b := b) (I := I) (R := R) hk
  rw [hs] at h
  exact h
theorem k_met (hy : plainName y.cls = true) (hlen : (lg_sl av).length ≤ nL)
    (body : ∀ (p : Program) (e : Env) (s : State) (m : MethodId) (below : List Frame) (meth : Method) (c : Code), CallFix p m c cc nL s av.toArray lw_all y.cls → meth.sig.returnType = none → meth.locks = false → meth.name = y.name → va_K D vwCl (wTys cs) s → wEn ad b s s.heap → va_AO RX3 s → wHk D cs b n I R s s.heap [] →
      ∀ ls : Array Slot, lv_has ls nL (lv_args 0 av) → W p l e rm s m av.toArray below meth c s.heap [] 0 0 (MQ below Qc av.toArray s mc ms (fun q => b ≤ q)) (F0 m 0 ls [])) :
    Met l y (ws_ y cc nL none) rm (va_Pc av (wPk D cs ad b n I R)) Qc mc ms (fun q => b ≤ q) := by
  refine Met.ofW (cc := cc) (maxL := nL) (ret := none) hy rfl ?_
  intro p e s m args below meth c s₁ B hml hv
  obtain ⟨rfl, hK, hE, hO, hP, hz⟩ := hv
  have hl := lv_entry av (n := nL) hlen
  rw [lg_entry_eq]
  exact body p e s m below meth c ⟨B.exec, B.bytes, hml, findClass_of_methodNamed B.named, ws_ts (atoms_spec (ws := ws_ y cc nL none) B.pre)⟩ B.returns B.notSynchronized (name_of_methodNamed B.named B.method).1 hK hE hO ⟨hP, va_S.rf, hz⟩ _ hl
theorem k_init0 (hX : CallFix p m c cc nL s args lw_all own) (q1 : Cond.methodLink own ix Lib.objectInit ∈ lw_all) (q2 : Cond.instanceMethod Lib.objectInit ∈ lw_all) (q3 : Cond.code Lib.objectInit ⟨#[0xb1]⟩ 1 none ∈ lw_all) (hls : ls.size = nL) (hR : 1 ≤ Rm.frames ∧ (rest.map fun v => v.category).sum + 12 ≤ Rm.locals) {a : Nat} (hdg : decode cc pc = .ok (.invokespecial ix, 3))
    (kk : W p l e Rm s m args below meth c H locs cells slots Q (F0 m (pc + 3) ls rest)) : W p l e Rm s m args below meth c H locs cells slots Q (F0 m pc ls (.ref a :: rest)) :=
  W.objInit hX.1 hX.2.1 hX.2.2.2.1 (hX.2.2.2.2 _ q1) (hX.2.2.2.2 _ q2) (hX.2.2.2.2 _ q3) rfl (hls.trans hX.2.2.1.symm) rfl hdg hR.1 (by show 2 * 0 + _ + 12 ≤ _; omega) kk
theorem k_new (hX : CallFix p m c cc nL s args lw_all own) (hK : va_K D vwCl (wTys cs) s) (hH : wHk D cs b n I R s H locs) (hc : wCk ci C T N ty) (hdf : wDf ci N ty) (hs : wSh n = (0, ci)) (q1 : Cond.classLink own ix C ∈ lw_all) (q2 : Cond.instantiable C N ∈ lw_all) (q3 : Cond.initialized C ∈ lw_all) (hR : cells + 1 ≤ Rm.cells ∧ slots + N ≤ Rm.slots) (hdg : decode cc pc = .ok (.new ix, 3))
    (kk : ∀ (H : Heap), wHk D cs b (n + 1) (zI I n) (zR R n) s H locs → W p l e Rm s m args below meth c H locs (cells + 1) (slots + N) Q (F0 m (pc + 3) ls (.ref (b + n) :: rest))) : W p l e Rm s m args below meth c H locs cells slots Q (F0 m pc ls rest) := by
  obtain ⟨hx, hb, -, hown, hts⟩ := hX
  obtain ⟨h1, h2, rfl, h4, h5, h6⟩ := hc
  obtain ⟨hP, hS, hz⟩ := hH
  have hKn := hK.1 ci _ h1
  refine W.newcK hx hb hown (hts _ q1) (hts _ q2) (hts _ q3) rfl hdg hR.1 hR.2 hKn.2.1 hz fun H1 kC hkC e1 z1 o1 => ?_
  have o1' : ∀ q, q < H.size → H1[q]? = H[q]? := fun q hq => o1 q (by rw [← hz]; exact hq)
  refine kk H1 ⟨?_, wH_size hS (by rw [z1, hz]) o1', by rw [z1, Nat.add_assoc]⟩
  rw [← wLk_push (e := .inr (ci, (List.range (wNf ci)).map (wFk b (zI I n) (zR R n) ci n))) (by rw [hs]; rfl)]
  refine (hP.kept fun k q hq => o1' q.1 ((hP k q hq).lt)).app fun k x hx => ?_
  have hk0 : k < 1 := (List.getElem?_eq_some_iff.mp hx).1
  rw [show k = 0 by omega] at hx
  cases hx
  refine ⟨_, h1, (u_born ty hts h2 hKn hkC e1 h4).to fun j hj => ?_⟩
  rw [← hdf j hj]
  simp only [vp_V, List.getD_eq_getElem?_getD, List.getElem?_map, List.getElem?_range hj, Option.map_some, Option.getD_some, wFk]
  cases wOff ci j with
  | some o => simp [zR, va_rf]
  | none => simp [zI]
theorem k_newa (hX : CallFix p m c cc nL s args lw_all own) (hK : va_K D vwCl (wTys cs) s) (hH : wHk D cs b n I R s H locs) {x : Int32} (hx0 : ¬ x < 0 ∧ x.toNatClampNeg = N ∧ N * 4 ≤ 536870912) (hs : wSh n = (1, N)) (q1 : Cond.arrayClass .int ∈ lw_all) (hR : cells + 1 ≤ Rm.cells ∧ slots + N ≤ Rm.slots) (hdg : decode cc pc = .ok (.newarray .int, 2))
    (kk : ∀ (H : Heap), wHk D cs b (n + 1) (zI I n) (zR R n) s H locs → W p l e Rm s m args below meth c H locs (cells + 1) (slots + N) Q (F0 m (pc + 2) ls (.ref (b + n) :: rest))) : W p l e Rm s m args below meth c H locs cells slots Q (F0 m pc ls (.int x :: rest)) := by
  obtain ⟨hx, hb, -, hown, hts⟩ := hX
  obtain ⟨hP, hS, hz⟩ := hH
  refine va_newaK (atype := .int) hx hb (hts _ q1) rfl hdg rfl hx0.1 hx0.2.1 hx0.2.2 hR.1 hR.2 hz fun H1 cA e1 z1 o1 hAr hNm => ?_
  have o1' : ∀ q, q < H.size → H1[q]? = H[q]? := fun q hq => o1 q (by rw [← hz]; exact hq)
  have hcA : cA = cs.1 := Option.some.inj (hNm.symm.trans (hK.2 0 _ rfl).2)
  subst hcA
  refine kk H1 ⟨?_, wH_size hS (by rw [z1, hz]) o1', by rw [z1, Nat.add_assoc]⟩
  rw [← wLk_push (e := .inl (cs.1, N, .inl (fun _ => 0))) (by rw [hs]; simp [wEk, zI])]
  refine (hP.kept fun k q hq => o1' q.1 ((hP k q hq).lt)).app fun k x hx => ?_
  have hk0 : k < 1 := (List.getElem?_eq_some_iff.mp hx).1
  rw [show k = 0 by omega] at hx
  cases hx
  exact e1
theorem k_newc (hX : CallFix p m c cc nL s args lw_all own) (hK : va_K D vwCl (wTys cs) s) (hH : wHk D cs b n I R s H locs) {x : Int32} (hx0 : ¬ x < 0 ∧ x.toNatClampNeg = N ∧ N * 2 ≤ 536870912) (hs : wSh n = (2, N)) (q1 : Cond.arrayClass .char ∈ lw_all) (hR : cells + 1 ≤ Rm.cells ∧ slots + N ≤ Rm.slots) (hdg : decode cc pc = .ok (.newarray .char, 2))
    (kk : ∀ (H : Heap), wHk D cs b (n + 1) (zI I n) (zR R n) s H locs → W p l e Rm s m args below meth c H locs (cells + 1) (slots + N) Q (F0 m (pc + 2) ls (.ref (b + n) :: rest))) : W p l e Rm s m args below meth c H locs cells slots Q (F0 m pc ls (.int x :: rest)) := by
  obtain ⟨hx, hb, -, hown, hts⟩ := hX
  obtain ⟨hP, hS, hz⟩ := hH
  refine va_newaK (atype := .char) hx hb (hts _ q1) rfl hdg rfl hx0.1 hx0.2.1 hx0.2.2 hR.1 hR.2 hz fun H1 cA e1 z1 o1 hAr hNm => ?_
  have o1' : ∀ q, q < H.size → H1[q]? = H[q]? := fun q hq => o1 q (by rw [← hz]; exact hq)
  have hcA : cA = cs.2.1 := Option.some.inj (hNm.symm.trans (hK.2 1 _ rfl).2)
  subst hcA
  refine kk H1 ⟨?_, wH_size hS (by rw [z1, hz]) o1', by rw [z1, Nat.add_assoc]⟩
  rw [← wLk_push (e := .inl (cs.2.1, N, .inl (fun _ => 0))) (by rw [hs]; simp [wEk, zI])]
  refine (hP.kept fun k q hq => o1' q.1 ((hP k q hq).lt)).app fun k x hx => ?_
  have hk0 : k < 1 := (List.getElem?_eq_some_iff.mp hx).1
  rw [show k = 0 by omega] at hx
  cases hx
  exact e1
theorem k_news (hX : CallFix p m c cc nL s args lw_all own) (hK : va_K D vwCl (wTys cs) s) (hO : va_AO RX3 s) (hH : wHk D cs b n I R s H locs) {x : Int32} (hx0 : ¬ x < 0 ∧ x.toNatClampNeg = N ∧ N * 4 ≤ 536870912) (hs : wSh n = (3, N)) (q1 : Cond.classLink own ix RX3 ∈ lw_all) (hR : cells + 1 ≤ Rm.cells ∧ slots + N ≤ Rm.slots) (hdg : decode cc pc = .ok (.anewarray ix, 3))
    (kk : ∀ (H : Heap), wHk D cs b (n + 1) (zI I n) (zR R n) s H locs → W p l e Rm s m args below meth c H locs (cells + 1) (slots + N) Q (F0 m (pc + 3) ls (.ref (b + n) :: rest))) : W p l e Rm s m args below meth c H locs cells slots Q (F0 m pc ls (.int x :: rest)) := by
  obtain ⟨hx, hb, -, hown, hts⟩ := hX
  obtain ⟨hP, hS, hz⟩ := hH
  obtain ⟨hx1, hx2, hx3⟩ := hx0
  subst hx2
  refine W.anew hx hb hown (hts _ q1) (va_AO.use hO) rfl hdg rfl hx1 hx3 hR.1 hR.2 fun cA kA comp f1 f2 f3 f4 => ?_
  rw [hz]
  generalize hH1 : H.push ({ cls := cA, slots := Array.replicate x.toNatClampNeg .null, vm := .none } : Cell) = H1
  have z1 : H1.size = H.size + 1 := by rw [← hH1, Array.size_push]
  have e1 : H1[b + n]? = some (arrV cA x.toNatClampNeg (fun _ => .null)) := by rw [← hH1, ← hz, Array.getElem?_push_size, ← arrV_new]
  have o1' : ∀ q : Nat, q < H.size → H1[q]? = H[q]? := fun q hq => by rw [← hH1, Array.getElem?_push, if_neg (Nat.ne_of_lt hq)]
  obtain ⟨kA', comp', -, -, -, hNm⟩ := (hK.2 2 _ rfl).2
  have hcA : cA = cs.2.2 := Option.some.inj (f1.symm.trans hNm)
  subst hcA
  refine kk H1 ⟨?_, wH_size hS z1 o1', by rw [z1, hz, Nat.add_assoc]⟩
  rw [← wLk_push (e := .inl (cs.2.2, x.toNatClampNeg, .inr (.inr (.inr (.inr (fun _ => none)))))) (by rw [hs]; simp [wEk, zR])]
  refine (hP.kept fun k q hq => o1' q.1 ((hP k q hq).lt)).app fun k x hx => ?_
  have hk0 : k < 1 := (List.getElem?_eq_some_iff.mp hx).1
  rw [show k = 0 by omega] at hx
  cases hx
  show H1[_]? = some (vp_cell _ _)
  rw [vp_cell_q]
  exact e1
theorem k_putr {c' : Nat} (hX : CallFix p m c cc nL s args lw_all own) (hK : va_K D vwCl (wTys cs) s) (hH : wHk D cs b n I R s H locs) (hc : wCk ci C T N ty) (hk : k < n) (hs : wSh k = (0, ci)) (hin : meth.name = "<init>") (hC : C = own) (j o : Nat) (hj : j < wNf ci ∧ wOff ci j = some o ∧ (T j).2.2.2 = true ∧ (∀ a, narrow (ty j) (.ref a) = .ref a ∧ fits (ty j) (.ref a) = true)) (hw : Cond.fieldLink own ix C (T j).2.1 (T j).2.2.1 ∈ lw_all) (hdg : decode cc pc = .ok (.putfield ix, 3))
    (kk : ∀ (H : Heap) (locs : List Loc), wHk D cs b n I (uR R k j (some c')) s H locs → W p l e Rm s m args below meth c H locs cells slots Q (F0 m (pc + 3) ls rest)) : W p l e Rm s m args below meth c H locs cells slots Q (F0 m pc ls (.ref (b + c') :: .ref (b + k) :: rest)) := by
  obtain ⟨hx, hb, -, hown, hts⟩ := hX
  obtain ⟨h1, h2, rfl, h4, h5, h6⟩ := hc
  obtain ⟨j1, j2, j3, j4⟩ := hj
  obtain ⟨hP, hS, hz⟩ := hH
  have he := k_objg (cs := cs) (b := b) (I := I) (R := R) hk hs
  have hap := va_apart (own := own) hts h2 ty h4 h5 hK h1
  obtain ⟨r, h7, cell, q1, q2, q3, q4⟩ := hP k _ he
  have hr : r = (C, T, wNf ci) := Option.some.inj (h7.symm.trans h1)
  subst hr
  obtain ⟨hSl, hfc, kC, hkC, hkind⟩ := hK.1 ci _ h1
  obtain ⟨cf, kf, fi, f, hi, hsl⟩ := hSl j j1
  have hlay := hts _ (h2 _ (u_in_lay j1))
  unfold u_lay at hlay
  rw [if_pos j3] at hlay
  have hst := (u_facts hfc hkC (u_lays hts h2 j1) hi).1
  have hcf : m.cls = cf := by
    obtain ⟨_, _, c9, _, _, _, -, -, hf9, -, -, -, hown2, -⟩ := Cond.laysFinal_spec hlay
    have e1 : c9 = cf := by have := hi.symm.trans hf9; simp at this; exact this.1.symm
    rw [h6 j j1, hC] at hown2
    rw [← e1]; exact Option.some.inj (hown.symm.trans hown2)
  have h8 := u_fits hfc hkC hkind (Or.inr hlay) hi (h4 j j1) (j4 (b + c')).1 (j4 (b + c')).2
  refine W.putFinK hx hb hown (hts _ hw) (by have := hi; rw [h6 j j1] at this; exact this) hst hcf hin (by rw [q2]; exact h8) q1 q3 (by rw [hsl]; exact k2_hasslot (q4 j j1)) rfl rfl hdg fun H1 e1 e2 e3 => ?_
  rw [hsl] at e1 ⊢
  refine kk H1 _ ⟨?_, hS.put e2 e3 (Nat.le_add_right _ _), by rw [e2, hz]⟩
  have hP1 := hP.set (e := .inr (ci, ((List.range (wNf ci)).map (wFk b I R ci k)).set j (.ref (b + c')))) wLk_D he ⟨_, h1, t_OB.to (V := updV (vp_V ((List.range (wNf ci)).map (wFk b I R ci k))) j (.ref (b + c'))) ⟨_, e1, q2, q3, t_set q4 hap j1 _⟩ (fun i _ => vp_updV_set (by simpa using j1) _ i)⟩ e3
  rw [wLk_putR hk hs j1 j2] at hP1
  exact hP1
theorem k_puti {x : Int32} (hX : CallFix p m c cc nL s args lw_all own) (hK : va_K D vwCl (wTys cs) s) (hH : wHk D cs b n I R s H locs) (hc : wCk ci C T N ty) (hk : k < n) (hs : wSh k = (0, ci)) (j : Nat) (hj : j < wNf ci ∧ wOff ci j = none ∧ (T j).2.2.2 = false) (hn : narrow (ty j) (.int x) = .int x ∧ fits (ty j) (.int x) = true) (hw : Cond.fieldLink own ix C (T j).2.1 (T j).2.2.1 ∈ lw_all) (hdg : decode cc pc = .ok (.putfield ix, 3))
    (kk : ∀ (H : Heap) (locs : List Loc), wHk D cs b n (wU I k j x) R s H locs → W p l e Rm s m args below meth c H locs cells slots Q (F0 m (pc + 3) ls rest)) : W p l e Rm s m args below meth c H locs cells slots Q (F0 m pc ls (.int x :: .ref (b + k) :: rest)) := by
  obtain ⟨hx, hb, -, hown, hts⟩ := hX
  obtain ⟨h1, h2, rfl, h4, h5, h6⟩ := hc
  obtain ⟨j1, j2, j3⟩ := hj
  obtain ⟨hP, hS, hz⟩ := hH
  have he := k_objg (cs := cs) (b := b) (I := I) (R := R) hk hs
  have hap := va_apart (own := own) hts h2 ty h4 h5 hK h1
  obtain ⟨r, h7, cell, q1, q2, q3, q4⟩ := hP k _ he
  have hr : r = (C, T, wNf ci) := Option.some.inj (h7.symm.trans h1)
  subst hr
  obtain ⟨hSl, hfc, kC, hkC, hkind⟩ := hK.1 ci _ h1
  obtain ⟨cf, kf, fi, f, hi, hsl⟩ := hSl j j1
  have hlay := hts _ (h2 _ (u_in_lay j1))
  unfold u_lay at hlay
  rw [if_neg (by rw [j3]; decide)] at hlay
  have hst := (u_facts hfc hkC (u_lays hts h2 j1) hi).1
  have h8 := u_store hfc hkC hkind hlay hi (h4 j j1) hn.1 hn.2
  refine W.putK hx hb (f := f) ⟨hown, hts _ hw, ⟨_, _, _, by have := hi; rw [h6 j j1] at this; exact this⟩, hst⟩ (by rw [q2]; exact h8) q1 q3 (by rw [hsl]; exact k2_hasslot (q4 j j1)) rfl rfl hdg fun H1 e1 e2 e3 => ?_
  rw [hsl] at e1 ⊢
  refine kk H1 _ ⟨?_, hS.put e2 e3 (Nat.le_add_right _ _), by rw [e2, hz]⟩
  have hP1 := hP.set (e := .inr (ci, ((List.range (wNf ci)).map (wFk b I R ci k)).set j (.int x))) wLk_D he ⟨_, h1, t_OB.to (V := updV (vp_V ((List.range (wNf ci)).map (wFk b I R ci k))) j (.int x)) ⟨_, e1, q2, q3, t_set q4 hap j1 _⟩ (fun i _ => vp_updV_set (by simpa using j1) _ i)⟩ e3
  rw [wLk_putO hk hs j1 j2] at hP1
  exact hP1
theorem k_getr {c' : Nat} (hX : CallFix p m c cc nL s args lw_all own) (hK : va_K D vwCl (wTys cs) s) (hH : wHk D cs b n I R s H locs) (hc : wCk ci C T N ty) (hk : k < n) (hs : wSh k = (0, ci)) (j o : Nat) (hj : j < wNf ci ∧ wOff ci j = some o) (hR : R k j = some c') (hw : Cond.fieldLink own ix C (T j).2.1 (T j).2.2.1 ∈ lw_all) (hdg : decode cc pc = .ok (.getfield ix, 3))
    (kk : W p l e Rm s m args below meth c H locs cells slots Q (F0 m (pc + 3) ls (.ref (b + c') :: rest))) : W p l e Rm s m args below meth c H locs cells slots Q (F0 m pc ls (.ref (b + k) :: rest)) := by
  obtain ⟨hx, hb, -, hown, hts⟩ := hX
  obtain ⟨h1, h2, rfl, h4, h5, h6⟩ := hc
  exact va_get hx hb hts h2 hown hK hH.1 k (k_objg hk hs) h1 j hj.1 (hts _ hw) (fun x hx => by rw [h6 j hj.1] at hx; exact hx) (by rw [List.getElem?_map, List.getElem?_range hj.1]; simp [wFk, hj.2, hR, va_rf]) hdg kk
theorem k_iast {i x : Int32} (hX : CallFix p m c cc nL s args lw_all own) (hK : va_K D vwCl (wTys cs) s) (hH : wHk D cs b n I R s H locs) (hk : k < n) (hs : wSh k = (1, N)) (hin : vp_in i N) (hdg : decode cc pc = .ok (.iastore, 1))
    (kk : ∀ (H : Heap) (locs : List Loc), wHk D cs b n (wU I k i.toNatClampNeg x) R s H locs → W p l e Rm s m args below meth c H locs cells slots Q (F0 m (pc + 1) ls rest)) : W p l e Rm s m args below meth c H locs cells slots Q (F0 m pc ls (.int x :: .int i :: .ref (b + k) :: rest)) := by
  obtain ⟨hP, hS, hz⟩ := hH
  have ha := k_intsg (cs := cs) (b := b) (I := I) (R := R) hk hs
  refine W.iast hX.1 hX.2.1 (hP k _ ha) ((hK.2 0 _ rfl).1 N (fun j => .int (I k j))) (fun q => by cases q) (by show ¬ (i < 0 ∨ (arrV _ _ _).slots.size ≤ _); rw [arrV_size]; exact hin) rfl rfl hdg fun H1 e z oq => ?_
  refine kk H1 _ ⟨?_, hS.put z oq (Nat.le_add_right _ _), by rw [z, hz]⟩
  have hP1 := hP.set (e := .inl (cs.1, N, .inl (upd (I k) i.toNatClampNeg x))) wLk_D ha (by
    show H1[b + k]? = some (vp_cell _ _)
    rw [e]
    rw [vp_cell_i, vp_cell_i, arrV_store]
    congr 2
    funext q
    by_cases hq : q = i.toNatClampNeg
    · subst hq
      simp [updV, upd]
    · simp [updV, upd, hq]) oq
  rw [wLk_putI hk hs] at hP1
  exact hP1
theorem k_aast {i : Int32} {c' : Nat} (hX : CallFix p m c cc nL s args lw_all own) (hK : va_K D vwCl (wTys cs) s) (hH : wHk D cs b n I R s H locs) (hk : k < n) (hs : wSh k = (3, N)) (hk' : c' < n) (hs' : wSh c' = (0, 3)) (hin : vp_in i N) (hdg : decode cc pc = .ok (.aastore, 1))
    (kk : ∀ (H : Heap) (locs : List Loc), wHk D cs b n I (uR R k i.toNatClampNeg (some c')) s H locs → W p l e Rm s m args below meth c H locs cells slots Q (F0 m (pc + 1) ls rest)) : W p l e Rm s m args below meth c H locs cells slots Q (F0 m pc ls (.ref (b + c') :: .int i :: .ref (b + k) :: rest)) := by
  obtain ⟨hP, hS, hz⟩ := hH
  have ha := k_statesg (cs := cs) (b := b) (I := I) (R := R) hk hs
  have hv := k_objg (cs := cs) (b := b) (I := I) (R := R) hk' hs'
  have hlt : i.toNatClampNeg < N := Nat.not_le.mp fun q => hin (Or.inr q)
  have h0 : ¬ i < 0 := fun q => hin (Or.inl q)
  obtain ⟨r', hr', cellV, g1, g2, g3, -⟩ := hP c' _ hv
  have hcls := (hK.1 3 (RX3, TX3, 9) rfl).2
  obtain ⟨kA, comp, k1, k2, k3, -⟩ := (hK.2 2 _ rfl).2
  have hcomp : comp = D.1 3 := Option.some.inj (k3.symm.trans hcls.1)
  subst hcomp
  obtain ⟨kC, hkC, -⟩ := hcls.2
  refine W.aast hX.1 hX.2.1 (hP k _ ha) (fun q h => by cases h) (fun h => by cases h) k1 k2 rfl hkC ⟨h0, by show _ < (arrV _ _ _).slots.size; rw [arrV_size]; exact hlt⟩ g1 (fun q h => by rw [g3] at h; cases h) (by rw [g2]; exact hkC) (by rw [g2]; exact va_assign hcls) rfl rfl hdg fun H1 e z oq => ?_
  refine kk H1 _ ⟨?_, hS.put z oq (Nat.le_add_right _ _), by rw [z, hz]⟩
  have hP1 := hP.set (e := .inl (cs.2.2, N, .inr (.inr (.inr (.inr (va_up (fun j => (R k j).map (fun c => b + c)) i.toNatClampNeg (some (b + c')))))))) wLk_D ha (by
    show H1[b + k]? = some (vp_cell _ _)
    rw [e]
    rw [vp_cell_q, vp_cell_q, arrV_store]
    congr 2
    funext q
    by_cases hq : q = i.toNatClampNeg
    · subst hq
      simp [updV, va_up, va_rf]
    · simp [updV, va_up, hq]) oq
  rw [wLk_putS hk hs] at hP1
  exact hP1
def kPost (D : va_G) (cs : wC4) (b n' : Nat) (I' : wI) (R' : wR) : Array Value → State → Outcome → State → Prop := va_Qv (fun _ : Unit => True) (fun _ t => wPok D cs b n' I' R' t) (fun q => b ≤ q)
theorem k_call {n' : Nat} {I' : wI} {R' : wR} (hH : wHk D cs b n I R s H locs) (hr : va_Run p l e Rm s m args below meth c H locs cells slots mc ms (F0 m pc ls st0) rest (kPost D cs b n' I' R' a) (fun q => b ≤ q))
    (kk : ∀ (H : Heap) (locs : List Loc), wHk D cs b n' I' R' s H locs → W p l e Rm s m args below meth c H locs (cells + mc) (slots + ms) Q (F0 m (pc + 3) ls rest)) : W p l e Rm s m args below meth c H locs cells slots Q (F0 m pc ls st0) :=
  va_callv hr hH.2.1 (fun q _ h => h) (fun q h => h) (fun u t H1 locs1 ht _ _ hB _ _ hS => kk H1 locs1 ⟨by rw [← ht]; exact hB.1, hS, by rw [← ht]; exact hB.2⟩)
theorem k_rI {n0 k0 : Nat} (hX : CallFix p m c cc nL s args lw_all own) (hK : va_K D vwCl (wTys cs) s) (hE : wEn ad b s s.heap) (hO : va_AO RX3 s) (hH : wHk D cs b n0 I R s H locs) (hM : Met l y (ws_ y bytes maxL none) rm (va_Pc [.ref (b + k0)] (wPk D cs ad b n0 I R)) Qc mc ms (fun q => b ≤ q))
    (q1 : Cond.methodLink own ix y ∈ lw_all) (q2 : Cond.instanceMethod y ∈ lw_all) (q4 : Cond.initialized y.cls ∈ lw_all) (q5 : Cond.code y bytes maxL none ∈ lw_all) (hy1 : y.name = "<init>")
    (hd : y.cls ≠ "java/lang/invoke/MethodHandle" ∧ y.cls ≠ "java/lang/invoke/VarHandle" ∧ (parseMethodDescriptor y.desc).map (fun d => d.parameters.length) = some 0) (hR : rm.frames + 1 ≤ Rm.frames ∧ 8 + (maxL + 11) + rm.locals ≤ Rm.locals) (hrm : rm.cells = mc ∧ rm.slots = ms) (hls : ls.size = nL) (hst0 : st0 = .ref (b + k0) :: rest) (hst : (rest.map fun v => v.category).sum ≤ 8) (hdg : decode cc pc = .ok (.invokespecial ix, 3)) (hf : cells + mc ≤ Rm.cells ∧ slots + ms ≤ Rm.slots) :
    va_Run p l e Rm s m args below meth c H locs cells slots mc ms (F0 m pc ls st0) rest (Qc #[Value.ref (b + k0)]) (fun q => b ≤ q) :=
  va_runI (As := []) (b := b + k0) (rest := rest) hX hM (cwI 0 hX.2.2.2.2 (ws_good q5) rfl hrm.1 hrm.2 (hX.2.2.2.2 _ q4) (hX.2.2.2.2 _ q1) (hX.2.2.2.2 _ q2) hy1 hd hR) ⟨wPk_blind, wPk_of hK hE hO hH⟩ rfl rfl hls hst0 (lv_room hst) hdg hf
theorem k_rIN {n0 k0 : Nat} {host : String} (hX : CallFix p m c cc nL s args lw_all own) (hK : va_K D vwCl (wTys cs) s) (hE : wEn ad b s s.heap) (hO : va_AO RX3 s) (hH : wHk D cs b n0 I R s H locs) (hM : Met l y (ws_ y bytes maxL none) rm (va_Pc [.ref (b + k0)] (wPk D cs ad b n0 I R)) Qc mc ms (fun q => b ≤ q))
    (q1 : Cond.methodLinkNest own ix y host ∈ lw_nw) (q2 : Cond.instanceMethod y ∈ lw_all) (q4 : Cond.initialized y.cls ∈ lw_all) (q5 : Cond.code y bytes maxL none ∈ lw_all) (hy1 : y.name = "<init>")
    (hd : y.cls ≠ "java/lang/invoke/MethodHandle" ∧ y.cls ≠ "java/lang/invoke/VarHandle" ∧ (parseMethodDescriptor y.desc).map (fun d => d.parameters.length) = some 0) (hR : rm.frames + 1 ≤ Rm.frames ∧ 8 + (maxL + 11) + rm.locals ≤ Rm.locals) (hrm : rm.cells = mc ∧ rm.slots = ms) (hls : ls.size = nL) (hst0 : st0 = .ref (b + k0) :: rest) (hst : (rest.map fun v => v.category).sum ≤ 8) (hdg : decode cc pc = .ok (.invokespecial ix, 3)) (hf : cells + mc ≤ Rm.cells ∧ slots + ms ≤ Rm.slots) :
    va_Run p l e Rm s m args below meth c H locs cells slots mc ms (F0 m pc ls st0) rest (Qc #[Value.ref (b + k0)]) (fun q => b ≤ q) :=
  va_runIN (As := []) (b := b + k0) (rest := rest) hX hM ⟨va_cnB 0 hX.2.2.2.2 (ws_good q5) rfl hrm.1 hrm.2 (hE.1 _ q1) (hX.2.2.2.2 _ q4) hd hR, hy1, hX.2.2.2.2 _ q2⟩ ⟨wPk_blind, wPk_of hK hE hO hH⟩ rfl rfl hls hst0 (lv_room hst) hdg hf
theorem k_end {I' : wI} {R' : wR} (hX : CallFix p m c cc nL s args lw_all own) (hr : meth.sig.returnType = none) (hlk : meth.locks = false) (hH : wHk D cs b n I' R' s H locs) (hdg : decode cc pc = .ok (.return_, 1)) :
    W p l e Rm s m args below meth c H locs cells slots (MQ below (kPost D cs b n I' R') args s cells slots (fun q => b ≤ q)) (F0 m pc ls []) :=
  W.vret hX.1 hX.2.1 hr (fun t ht hW => ⟨⟨(), rfl, trivial, by rw [ht]; exact hH.1, by rw [ht]; exact hH.2.2⟩, hH.2.1.F ht⟩) hH.2.1.2.2 hdg hlk
end KROWS
