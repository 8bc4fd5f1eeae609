/-! ===== an instruction, a row: over the world ===== -/
section WROWS
variable {p : Program} {l : Launch} {e : Env} {R : Room} {s : State} {m : MethodId} {args : Array Value} {below : List Frame} {meth : Method} {c : Code} {H : Heap} {locs : List Loc} {cells slots : Nat} {Q : State → Prop}
variable {cc : ByteArray} {nL pc : Nat} {ls : Array Slot} {rest : List Value} {own : String} {D : va_G} {cs : wC4} {ad : Nat → Nat} {b : Nat} {G : wG} {I : wI}
variable {ci : Nat} {C : String} {T : u_T} {N : Nat} {ty : Nat → FieldType} {k : Nat} {ix : Nat}
theorem wL_obj (hn : 115 ≤ G.2) (hs : wSh k = (0, ci)) : (wLs cs G I)[k]? = some (G.1 k, .inr (ci, (List.range (wNf ci)).map (wFv G I ci k))) := by
  have hk := wSh_lt hs (Nat.le_of_ble_eq_true rfl)
  have h := wLs_get (cs := cs) (G := G) (I := I) (show k < G.2 by omega)
  rw [hs] at h
  exact h
theorem wL_ints {n : Nat} (hn : 115 ≤ G.2) (hs : wSh k = (1, n)) : (wLs cs G I)[k]? = some (G.1 k, .inl (cs.1, n, .inl (I k))) := by
  have hk := wSh_lt hs (Nat.le_of_ble_eq_true rfl)
  have h := wLs_get (cs := cs) (G := G) (I := I) (show k < G.2 by omega)
  rw [hs] at h
  exact h
theorem wL_chars {n : Nat} (hn : 115 ≤ G.2) (hs : wSh k = (2, n)) : (wLs cs G I)[k]? = some (G.1 k, .inl (cs.2.1, n, .inl (I k))) := by
  have hk := wSh_lt hs (Nat.le_of_ble_eq_true rfl)
  have h := wLs_get (cs := cs) (G := G) (I := I) (show k < G.2 by omega)
  rw [hs] at h
  exact h
theorem wL_states {n : Nat} (hn : 115 ≤ G.2) (hs : wSh k = (3, n)) : (wLs cs G I)[k]? = some (G.1 k, .inl (cs.2.2, n, .inr (.inr (.inr (.inr (fun j => some (G.1 (wSv (I k j))))))))) := by
  have hk := wSh_lt hs (Nat.le_of_ble_eq_true rfl)
  have h := wLs_get (cs := cs) (G := G) (I := I) (show k < G.2 by omega)
  rw [hs] at h
  exact h
theorem wL_lint {n : Nat} (hs : wSh k = (5, n) ∧ k < G.2) : (wLs cs G I)[k]? = some (G.1 k, .inl (cs.1, n, .inl (I k))) := by
  have h := wLs_get (cs := cs) (G := G) (I := I) hs.2
  rw [hs.1] at h
  exact h
theorem wF_int {j : Nat} (hj : j < wNf ci) (ho : wOff ci j = none) : ((List.range (wNf ci)).map (wFv G I ci k))[j]? = some (.int (I k j)) := by
  rw [List.getElem?_map, List.getElem?_range hj]
  simp [wFv, ho]
theorem wF_ref {j o : Nat} (hj : j < wNf ci) (ho : wOff ci j = some o) : ((List.range (wNf ci)).map (wFv G I ci k))[j]? = some (.ref (G.1 (k + o))) := by
  rw [List.getElem?_map, List.getElem?_range hj]
  simp [wFv, ho]
theorem w_geti (hX : CallFix p m c cc nL s args lw_all own) (hK : va_K D vwCl (wTys cs) s) (hH : wH D cs b G I s H locs) (hc : wCk ci C T N ty) (hs : wSh k = (0, ci)) (j : Nat) (hj : j < wNf ci ∧ wOff ci j = none) (hw : Cond.fieldLink own ix C (T j).2.1 (T j).2.2.1 ∈ lw_all) (hdg : decode cc pc = .ok (.getfield ix, 3))
    (kk : W p l e R s m args below meth c H locs cells slots Q (F0 m (pc + 3) ls (.int (I k j) :: rest))) : W p l e R s m args below meth c H locs cells slots Q (F0 m pc ls (.ref (G.1 k) :: rest)) := by
  obtain ⟨hx, hb, -, hown, hts⟩ := hX
  obtain ⟨h1, h2, rfl, h4, h5, h6⟩ := hc
  exact va_get hx hb hts h2 hown hK hH.1 k (wL_obj hH.2.2.1 hs) h1 j hj.1 (hts _ hw) (fun x hx => by rw [h6 j hj.1] at hx; exact hx) (wF_int hj.1 hj.2) hdg kk
theorem w_getr (hX : CallFix p m c cc nL s args lw_all own) (hK : va_K D vwCl (wTys cs) s) (hH : wH D cs b G I s H locs) (hc : wCk ci C T N ty) (hs : wSh k = (0, ci)) (j o k' : Nat) (hj : j < wNf ci ∧ wOff ci j = some o) (hk' : k + o = k') (hw : Cond.fieldLink own ix C (T j).2.1 (T j).2.2.1 ∈ lw_all) (hdg : decode cc pc = .ok (.getfield ix, 3))
    (kk : W p l e R s m args below meth c H locs cells slots Q (F0 m (pc + 3) ls (.ref (G.1 k') :: rest))) : W p l e R s m args below meth c H locs cells slots Q (F0 m pc ls (.ref (G.1 k) :: rest)) := by
  subst hk'
  obtain ⟨hx, hb, -, hown, hts⟩ := hX
  obtain ⟨h1, h2, rfl, h4, h5, h6⟩ := hc
  exact va_get hx hb hts h2 hown hK hH.1 k (wL_obj hH.2.2.1 hs) h1 j hj.1 (hts _ hw) (fun x hx => by rw [h6 j hj.1] at hx; exact hx) (wF_ref hj.1 hj.2) hdg kk
theorem w_getiN {host : String} (hX : CallFix p m c cc nL s args lw_all own) (hK : va_K D vwCl (wTys cs) s) (hE : wEn ad b s s.heap) (hH : wH D cs b G I s H locs) (hc : wCk ci C T N ty) (hs : wSh k = (0, ci)) (j : Nat) (hj : j < wNf ci ∧ wOff ci j = none) (hw : Cond.fieldLinkNest own ix C (T j).2.1 (T j).2.2.1 host ∈ lw_nw) (hdg : decode cc pc = .ok (.getfield ix, 3))
    (kk : W p l e R s m args below meth c H locs cells slots Q (F0 m (pc + 3) ls (.int (I k j) :: rest))) : W p l e R s m args below meth c H locs cells slots Q (F0 m pc ls (.ref (G.1 k) :: rest)) := by
  obtain ⟨hx, hb, -, hown, hts⟩ := hX
  obtain ⟨h1, h2, rfl, h4, h5, h6⟩ := hc
  exact va_getN hx hb hts h2 hown hK hH.1 k (wL_obj hH.2.2.1 hs) h1 j hj.1 (va_Nw.use rfl (hE.1 _ hw)) (fun x hx => by rw [h6 j hj.1] at hx; exact hx) (wF_int hj.1 hj.2) hdg kk
theorem w_getrN {host : String} (hX : CallFix p m c cc nL s args lw_all own) (hK : va_K D vwCl (wTys cs) s) (hE : wEn ad b s s.heap) (hH : wH D cs b G I s H locs) (hc : wCk ci C T N ty) (hs : wSh k = (0, ci)) (j o k' : Nat) (hj : j < wNf ci ∧ wOff ci j = some o) (hk' : k + o = k') (hw : Cond.fieldLinkNest own ix C (T j).2.1 (T j).2.2.1 host ∈ lw_nw) (hdg : decode cc pc = .ok (.getfield ix, 3))
    (kk : W p l e R s m args below meth c H locs cells slots Q (F0 m (pc + 3) ls (.ref (G.1 k') :: rest))) : W p l e R s m args below meth c H locs cells slots Q (F0 m pc ls (.ref (G.1 k) :: rest)) := by
  subst hk'
  obtain ⟨hx, hb, -, hown, hts⟩ := hX
  obtain ⟨h1, h2, rfl, h4, h5, h6⟩ := hc
  exact va_getN hx hb hts h2 hown hK hH.1 k (wL_obj hH.2.2.1 hs) h1 j hj.1 (va_Nw.use rfl (hE.1 _ hw)) (fun x hx => by rw [h6 j hj.1] at hx; exact hx) (wF_ref hj.1 hj.2) hdg kk
theorem w_nar01 {x : Int32} (h : x = 0 ∨ x = 1) : narrow .boolean (.int x) = .int x ∧ fits .boolean (.int x) = true := by
  rcases h with rfl | rfl <;> exact ⟨rfl, rfl⟩
theorem w_puti {x : Int32} (hX : CallFix p m c cc nL s args lw_all own) (hK : va_K D vwCl (wTys cs) s) (hH : wH D cs b G I s H locs) (hc : wCk ci C T N ty) (hs : wSh k = (0, ci)) (j : Nat) (hj : j < wNf ci ∧ wOff ci j = none ∧ (T j).2.2.2 = false ∧ ty j = .int) (hw : Cond.fieldLink own ix C (T j).2.1 (T j).2.2.1 ∈ lw_all) (hdg : decode cc pc = .ok (.putfield ix, 3))
    (kk : ∀ (I' : wI) (H : Heap) (locs : List Loc), I' = (wU I k j x) → wH D cs b G I' s H locs → W p l e R s m args below meth c H locs cells slots Q (F0 m (pc + 3) ls rest)) : W p l e R s m args below meth c H locs cells slots Q (F0 m pc ls (.int x :: .ref (G.1 k) :: rest)) := by
  obtain ⟨hx, hb, -, hown, hts⟩ := hX
  obtain ⟨h1, h2, rfl, h4, h5, h6⟩ := hc
  obtain ⟨j1, j2, j3, j4⟩ := hj
  refine va_put hx hb hts h2 ty h4 h5 hown hK hH.1 (wLs_D hH.2.2) hH.2.1 k (wL_obj hH.2.2.1 hs) h1 j j1 (hts _ hw) (fun x hx => by rw [h6 j j1] at hx; exact hx) j3 (h4 j j1) (by rw [j4]; rfl) (by rw [j4]; rfl) (by simpa using j1) hdg (fun H1 locs1 hP _ hS => kk _ H1 locs1 rfl ⟨?_, hS, hH.2.2⟩)
  rw [wLs_putO hH.2.2.1 hs j1 j2] at hP
  exact hP
theorem w_putz {x : Int32} (h01 : x = 0 ∨ x = 1) (hX : CallFix p m c cc nL s args lw_all own) (hK : va_K D vwCl (wTys cs) s) (hH : wH D cs b G I s H locs) (hc : wCk ci C T N ty) (hs : wSh k = (0, ci)) (j : Nat) (hj : j < wNf ci ∧ wOff ci j = none ∧ (T j).2.2.2 = false ∧ ty j = .boolean) (hw : Cond.fieldLink own ix C (T j).2.1 (T j).2.2.1 ∈ lw_all) (hdg : decode cc pc = .ok (.putfield ix, 3))
    (kk : ∀ (I' : wI) (H : Heap) (locs : List Loc), I' = (wU I k j x) → wH D cs b G I' s H locs → W p l e R s m args below meth c H locs cells slots Q (F0 m (pc + 3) ls rest)) : W p l e R s m args below meth c H locs cells slots Q (F0 m pc ls (.int x :: .ref (G.1 k) :: rest)) := by
  obtain ⟨hx, hb, -, hown, hts⟩ := hX
  obtain ⟨h1, h2, rfl, h4, h5, h6⟩ := hc
  obtain ⟨j1, j2, j3, j4⟩ := hj
  refine va_put hx hb hts h2 ty h4 h5 hown hK hH.1 (wLs_D hH.2.2) hH.2.1 k (wL_obj hH.2.2.1 hs) h1 j j1 (hts _ hw) (fun x hx => by rw [h6 j j1] at hx; exact hx) j3 (h4 j j1) (by rw [j4]; exact (w_nar01 h01).1) (by rw [j4]; exact (w_nar01 h01).2) (by simpa using j1) hdg (fun H1 locs1 hP _ hS => kk _ H1 locs1 rfl ⟨?_, hS, hH.2.2⟩)
  rw [wLs_putO hH.2.2.1 hs j1 j2] at hP
  exact hP
theorem w_putiN {host : String} {x : Int32} (hX : CallFix p m c cc nL s args lw_all own) (hK : va_K D vwCl (wTys cs) s) (hE : wEn ad b s s.heap) (hH : wH D cs b G I s H locs) (hc : wCk ci C T N ty) (hs : wSh k = (0, ci)) (j : Nat) (hj : j < wNf ci ∧ wOff ci j = none ∧ (T j).2.2.2 = false ∧ ty j = .int) (hw : Cond.fieldLinkNest own ix C (T j).2.1 (T j).2.2.1 host ∈ lw_nw) (hdg : decode cc pc = .ok (.putfield ix, 3))
    (kk : ∀ (I' : wI) (H : Heap) (locs : List Loc), I' = (wU I k j x) → wH D cs b G I' s H locs → W p l e R s m args below meth c H locs cells slots Q (F0 m (pc + 3) ls rest)) : W p l e R s m args below meth c H locs cells slots Q (F0 m pc ls (.int x :: .ref (G.1 k) :: rest)) := by
  obtain ⟨hx, hb, -, hown, hts⟩ := hX
  obtain ⟨h1, h2, rfl, h4, h5, h6⟩ := hc
  obtain ⟨j1, j2, j3, j4⟩ := hj
  refine va_putN hx hb hts h2 ty h4 h5 hown hK hH.1 (wLs_D hH.2.2) hH.2.1 k (wL_obj hH.2.2.1 hs) h1 j j1 (va_Nw.use rfl (hE.1 _ hw)) (fun x hx => by rw [h6 j j1] at hx; exact hx) j3 (h4 j j1) (by rw [j4]; rfl) (by rw [j4]; rfl) (by simpa using j1) hdg (fun H1 locs1 hP _ hS => kk _ H1 locs1 rfl ⟨?_, hS, hH.2.2⟩)
  rw [wLs_putO hH.2.2.1 hs j1 j2] at hP
  exact hP
theorem w_putzN {host : String} {x : Int32} (h01 : x = 0 ∨ x = 1) (hX : CallFix p m c cc nL s args lw_all own) (hK : va_K D vwCl (wTys cs) s) (hE : wEn ad b s s.heap) (hH : wH D cs b G I s H locs) (hc : wCk ci C T N ty) (hs : wSh k = (0, ci)) (j : Nat) (hj : j < wNf ci ∧ wOff ci j = none ∧ (T j).2.2.2 = false ∧ ty j = .boolean) (hw : Cond.fieldLinkNest own ix C (T j).2.1 (T j).2.2.1 host ∈ lw_nw) (hdg : decode cc pc = .ok (.putfield ix, 3))
    (kk : ∀ (I' : wI) (H : Heap) (locs : List Loc), I' = (wU I k j x) → wH D cs b G I' s H locs → W p l e R s m args below meth c H locs cells slots Q (F0 m (pc + 3) ls rest)) : W p l e R s m args below meth c H locs cells slots Q (F0 m pc ls (.int x :: .ref (G.1 k) :: rest)) := by
  obtain ⟨hx, hb, -, hown, hts⟩ := hX
  obtain ⟨h1, h2, rfl, h4, h5, h6⟩ := hc
  obtain ⟨j1, j2, j3, j4⟩ := hj
  refine va_putN hx hb hts h2 ty h4 h5 hown hK hH.1 (wLs_D hH.2.2) hH.2.1 k (wL_obj hH.2.2.1 hs) h1 j j1 (va_Nw.use rfl (hE.1 _ hw)) (fun x hx => by rw [h6 j j1] at hx; exact hx) j3 (h4 j j1) (by rw [j4]; exact (w_nar01 h01).1) (by rw [j4]; exact (w_nar01 h01).2) (by simpa using j1) hdg (fun H1 locs1 hP _ hS => kk _ H1 locs1 rfl ⟨?_, hS, hH.2.2⟩)
  rw [wLs_putO hH.2.2.1 hs j1 j2] at hP
  exact hP
theorem w_iald {n : Nat} {i : Int32} (hX : CallFix p m c cc nL s args lw_all own) (hK : va_K D vwCl (wTys cs) s) (hH : wH D cs b G I s H locs) (hs : wSh k = (1, n)) (hin : vp_in i n) (hdg : decode cc pc = .ok (.iaload, 1))
    (kk : W p l e R s m args below meth c H locs cells slots Q (F0 m (pc + 1) ls (.int (I k i.toNatClampNeg) :: rest))) : W p l e R s m args below meth c H locs cells slots Q (F0 m pc ls (.int i :: .ref (G.1 k) :: rest)) :=
  va_iald hX.1 hX.2.1 hK hH.1 k 0 (wL_ints hH.2.2.1 hs) rfl hin hdg kk
theorem w_cald {n : Nat} {i : Int32} (hX : CallFix p m c cc nL s args lw_all own) (hK : va_K D vwCl (wTys cs) s) (hH : wH D cs b G I s H locs) (hs : wSh k = (2, n)) (hin : vp_in i n) (hdg : decode cc pc = .ok (.caload, 1))
    (kk : W p l e R s m args below meth c H locs cells slots Q (F0 m (pc + 1) ls (.int (I k i.toNatClampNeg) :: rest))) : W p l e R s m args below meth c H locs cells slots Q (F0 m pc ls (.int i :: .ref (G.1 k) :: rest)) :=
  va_cald hX.1 hX.2.1 hK hH.1 k 1 (wL_chars hH.2.2.1 hs) rfl hin hdg kk
theorem w_aald {n : Nat} {i : Int32} (hX : CallFix p m c cc nL s args lw_all own) (hK : va_K D vwCl (wTys cs) s) (hH : wH D cs b G I s H locs) (hs : wSh k = (3, n)) (hin : vp_in i n) (hdg : decode cc pc = .ok (.aaload, 1))
    (kk : W p l e R s m args below meth c H locs cells slots Q (F0 m (pc + 1) ls (.ref (G.1 (wSv (I k i.toNatClampNeg))) :: rest))) : W p l e R s m args below meth c H locs cells slots Q (F0 m pc ls (.int i :: .ref (G.1 k) :: rest)) :=
  va_aldq hX.1 hX.2.1 hK hH.1 k 2 (wL_states hH.2.2.1 hs) rfl hin hdg kk
theorem w_iast {n : Nat} {i x : Int32} (hX : CallFix p m c cc nL s args lw_all own) (hK : va_K D vwCl (wTys cs) s) (hH : wH D cs b G I s H locs) (hs : wSh k = (1, n)) (hin : vp_in i n) (hdg : decode cc pc = .ok (.iastore, 1))
    (kk : ∀ (I' : wI) (H : Heap) (locs : List Loc), I' = (wU I k i.toNatClampNeg x) → wH D cs b G I' s H locs → W p l e R s m args below meth c H locs cells slots Q (F0 m (pc + 1) ls rest)) : W p l e R s m args below meth c H locs cells slots Q (F0 m pc ls (.int x :: .int i :: .ref (G.1 k) :: rest)) := by
  refine va_iast hX.1 hX.2.1 hK hH.1 (wLs_D hH.2.2) hH.2.1 k 0 (wL_ints hH.2.2.1 hs) rfl hin hdg (fun H1 locs1 hP _ hS => kk _ H1 locs1 rfl ⟨?_, hS, hH.2.2⟩)
  rw [wLs_putI hH.2.2.1 hs] at hP
  exact hP
theorem w_cast {n : Nat} {i x : Int32} (hX : CallFix p m c cc nL s args lw_all own) (hK : va_K D vwCl (wTys cs) s) (hH : wH D cs b G I s H locs) (hs : wSh k = (2, n)) (hin : vp_in i n) (hdg : decode cc pc = .ok (.castore, 1))
    (kk : ∀ (I' : wI) (H : Heap) (locs : List Loc), I' = (wU I k i.toNatClampNeg (vp_nar .char x)) → wH D cs b G I' s H locs → W p l e R s m args below meth c H locs cells slots Q (F0 m (pc + 1) ls rest)) : W p l e R s m args below meth c H locs cells slots Q (F0 m pc ls (.int x :: .int i :: .ref (G.1 k) :: rest)) := by
  refine va_cast hX.1 hX.2.1 hK hH.1 (wLs_D hH.2.2) hH.2.1 k 1 (wL_chars hH.2.2.1 hs) rfl hin hdg (fun H1 locs1 hP _ hS => kk _ H1 locs1 rfl ⟨?_, hS, hH.2.2⟩)
  rw [wLs_putC hH.2.2.1 hs] at hP
  exact hP
theorem w_aast {n : Nat} {i x : Int32} (hX : CallFix p m c cc nL s args lw_all own) (hK : va_K D vwCl (wTys cs) s) (hH : wH D cs b G I s H locs) (hs : wSh k = (3, n)) (hin : vp_in i n) (hx : wSh (wSv x) = (0, 3)) (hdg : decode cc pc = .ok (.aastore, 1))
    (kk : ∀ (I' : wI) (H : Heap) (locs : List Loc), I' = (wU I k i.toNatClampNeg x) → wH D cs b G I' s H locs → W p l e R s m args below meth c H locs cells slots Q (F0 m (pc + 1) ls rest)) : W p l e R s m args below meth c H locs cells slots Q (F0 m pc ls (.ref (G.1 (wSv x)) :: .int i :: .ref (G.1 k) :: rest)) := by
  refine va_astq hX.1 hX.2.1 hK hH.1 (wLs_D hH.2.2) hH.2.1 k 2 (wSv x) 3 (r := (RX3, TX3, 9)) (wL_states hH.2.2.1 hs) rfl (wL_obj hH.2.2.1 hx) rfl hin hdg (fun H1 locs1 hP _ hS => kk _ H1 locs1 rfl ⟨?_, hS, hH.2.2⟩)
  rw [wLs_putS hH.2.2.1 hs] at hP
  exact hP
theorem w_alen {n : Nat} {v : Int32} (hX : CallFix p m c cc nL s args lw_all own) (hK : va_K D vwCl (wTys cs) s) (hH : wH D cs b G I s H locs) (hs : wSh k = (1, n)) (hv : Int32.ofNat n = v) (hdg : decode cc pc = .ok (.arraylength, 1))
    (kk : W p l e R s m args below meth c H locs cells slots Q (F0 m (pc + 1) ls (.int v :: rest))) : W p l e R s m args below meth c H locs cells slots Q (F0 m pc ls (.ref (G.1 k) :: rest)) :=
  va_alen hX.1 hX.2.1 hK hH.1 k 0 (wL_ints hH.2.2.1 hs) rfl hv hdg kk
theorem w_iald5 {n : Nat} {i : Int32} (hX : CallFix p m c cc nL s args lw_all own) (hK : va_K D vwCl (wTys cs) s) (hH : wH D cs b G I s H locs) (hs : wSh k = (5, n) ∧ k < G.2) (hin : vp_in i n) (hdg : decode cc pc = .ok (.iaload, 1))
    (kk : W p l e R s m args below meth c H locs cells slots Q (F0 m (pc + 1) ls (.int (I k i.toNatClampNeg) :: rest))) : W p l e R s m args below meth c H locs cells slots Q (F0 m pc ls (.int i :: .ref (G.1 k) :: rest)) :=
  va_iald hX.1 hX.2.1 hK hH.1 k 0 (wL_lint hs) rfl hin hdg kk
theorem w_iast5 {n : Nat} {i x : Int32} (hX : CallFix p m c cc nL s args lw_all own) (hK : va_K D vwCl (wTys cs) s) (hH : wH D cs b G I s H locs) (hs : wSh k = (5, n) ∧ k < G.2) (hin : vp_in i n) (hdg : decode cc pc = .ok (.iastore, 1))
    (kk : ∀ (I' : wI) (H : Heap) (locs : List Loc), I' = (wU I k i.toNatClampNeg x) → wH D cs b G I' s H locs → W p l e R s m args below meth c H locs cells slots Q (F0 m (pc + 1) ls rest)) : W p l e R s m args below meth c H locs cells slots Q (F0 m pc ls (.int x :: .int i :: .ref (G.1 k) :: rest)) := by
  refine va_iast hX.1 hX.2.1 hK hH.1 (wLs_D hH.2.2) hH.2.1 k 0 (wL_lint hs) rfl hin hdg (fun H1 locs1 hP _ hS => kk _ H1 locs1 rfl ⟨?_, hS, hH.2.2⟩)
  rw [wLs_putJ hs] at hP
  exact hP
theorem w_alen5 {n : Nat} {v : Int32} (hX : CallFix p m c cc nL s args lw_all own) (hK : va_K D vwCl (wTys cs) s) (hH : wH D cs b G I s H locs) (hs : wSh k = (5, n) ∧ k < G.2) (hv : Int32.ofNat n = v) (hdg : decode cc pc = .ok (.arraylength, 1))
    (kk : W p l e R s m args below meth c H locs cells slots Q (F0 m (pc + 1) ls (.int v :: rest))) : W p l e R s m args below meth c H locs cells slots Q (F0 m pc ls (.ref (G.1 k) :: rest)) :=
  va_alen hX.1 hX.2.1 hK hH.1 k 0 (wL_lint hs) rfl hv hdg kk
theorem w_ldcwF {T : State} {v : UInt32} (X : Stand p l e R s m args below meth c T locs cells slots) (hexec : p.tables.exec = Jvm.exec) (hown : s.vm.findClass own = some m.cls)
    (hconst : (Cond.constantFloat own ix v).before args s = true) {g : JFrame} (hg : g.method = m) (hdg : decode c.code g.pc = .ok (.ldc_w ix, 3)) :
    ∀ target, Steps p.tables e below (T.setTop { g with pc := g.pc + 3, stack := .float v :: g.stack }) target → Steps p.tables e below (T.setTop g) target := by
  obtain ⟨k, cf, hk, hcf, hcp⟩ := Cond.constantFloat_spec hown hconst
  obtain ⟨k', hk', he⟩ := X.warmed.alike.2.2 _ _ hk
  intro target hrest
  subst hg
  jvm_step X.here [hexec, hdg, ldc_w.wp_float (s := T) (f := g) X.here.top hk' (by rw [he]; exact hcf) hcp]
  exact hrest
theorem w_ldcfw {v : UInt32} (hexec : p.tables.exec = Jvm.exec) (hb : c.code = cc) (hown : s.vm.findClass own = some m.cls) (hconst : (Jvm.Cond.constantFloat own ix v).before args s = true) (hdg : decode cc pc = .ok (.ldc_w ix, 3)) (k : W p l e R s m args below meth c H locs cells slots Q (F0 m (pc + 3) ls (.float v :: rest))) : W p l e R s m args below meth c H locs cells slots Q (F0 m pc ls rest) := by
  intro T hT X
  obtain ⟨t, a, b⟩ := k T hT X
  exact ⟨t, w_ldcwF X hexec hown hconst (g := F0 m pc ls rest) rfl (by rw [hb]; exact hdg) t a, b⟩
end WROWS
