/-! ===== methods that throw: over the world ===== -/
def wXC (D : va_G) (cs : wC4) (b : Nat) (G : wG) (X : String → wI → Prop) : String → State → State → Prop := vx_X (fun _ : wI => True) (fun E u t => X E u ∧ wPo D cs b G u t) (fun q => b ≤ q)
section WX
variable {p : Program} {l : Launch} {e : Env} {R : Room} {s : State} {m : MethodId} {args : Array Value} {below : List Frame} {meth : Method} {c : Code} {H : Heap} {locs : List Loc} {cells slots : Nat} {Q : State → Prop}
variable {cc bytes : ByteArray} {nL pc : Nat} {ls : Array Slot} {rest st0 : List Value} {own : String} {D : va_G} {cs : wC4} {ad : Nat → Nat} {b : Nat} {G : wG} {I I' : wI}
variable {ci : Nat} {C : String} {T : u_T} {N : Nat} {ty : Nat → FieldType} {k : Nat} {ix : Nat}
variable {y : MethodName} {maxL n mc ms : Nat} {ret : Option FieldType} {rm : Room} {av As : List Value} {Qc : Array Value → State → Outcome → State → Prop} {XC : String → State → State → Prop} {a : Array Value} {X X' : String → wI → Prop}
theorem w_metx (hy : plainName y.cls = true) (hlen : (lg_sl av).length ≤ nL)
    (body : ∀ (p : Program) (e : Env) (s : State) (m : MethodId) (below : List Frame) (meth : Method) (c : Code), CallFix p m c cc nL s av.toArray lw_all y.cls → meth.sig.returnType = ret → meth.locks = false → (∀ x ∈ c.exceptionTable.toList, False) → va_K D vwCl (wTys cs) s → wEn ad b s s.heap → wH D cs b G I s s.heap [] →
      ∀ ls : Array Slot, lv_has ls nL (lv_args 0 av) → W p l e rm s m av.toArray below meth c s.heap [] 0 0 (vx_MQ below Qc XC av.toArray s mc ms (fun q => b ≤ q)) (F0 m 0 ls [])) :
    vx_Met l y (ws_ y cc nL ret) rm (va_Pc av (wPr D cs ad b G I)) Qc XC mc ms (fun q => b ≤ q) := by
  refine vx_ofW (cc := cc) (maxL := nL) (ret := ret) hy rfl ?_
  intro p e s m args below meth c s₁ B hml hEx hv
  obtain ⟨rfl, hK, hE, hP, hO⟩ := hv
  have hl := lv_entry av (n := nL) hlen
  rw [lg_entry_eq]
  exact body p e s m below meth c ⟨B.exec, B.bytes, hml, findClass_of_methodNamed B.named, ws_ts (atoms_spec (ws := ws_ y cc nL ret) B.pre)⟩ B.returns B.notSynchronized hEx hK hE ⟨hP, va_S.rf, hO⟩ _ hl
theorem w_xrV (hX : CallFix p m c cc nL s args lw_all own) (hK : va_K D vwCl (wTys cs) s) (hE : wEn ad b s s.heap) (hH : wH D cs b G I s H locs) (hM : vx_Met l y (ws_ y bytes maxL ret) rm (va_Pc (.ref (G.1 k) :: As) (wPr D cs ad b G I)) Qc XC mc ms (fun q => b ≤ q)) (hc : wCk ci C T N ty) (hs : wSh k = (0, ci))
    (q1 : Cond.methodLink own ix y ∈ lw_all) (q2 : Cond.instanceMethod y ∈ lw_all) (q3 : Cond.selects C y y ∈ lw_all) (q4 : Cond.initialized C ∈ lw_all) (q5 : Cond.code y bytes maxL ret ∈ lw_all)
    (hd : y.cls = C ∧ y.cls ≠ "java/lang/invoke/MethodHandle" ∧ y.cls ≠ "java/lang/invoke/VarHandle" ∧ (parseMethodDescriptor y.desc).map (fun d => d.parameters.length) = some n) (hR : rm.frames + 1 ≤ R.frames ∧ 8 + (maxL + 11) + rm.locals ≤ R.locals) (hrm : rm.cells = mc ∧ rm.slots = ms) (hn : As.length = n) (hls : ls.size = nL) (hst0 : st0 = As.reverse ++ .ref (G.1 k) :: rest) (hst : (rest.map fun v => v.category).sum ≤ 8) (hdg : decode cc pc = .ok (.invokevirtual ix, 3)) (hf : cells + mc ≤ R.cells ∧ slots + ms ≤ R.slots) :
    vx_Run p l e R s m args below meth c H locs cells slots mc ms (F0 m pc ls st0) rest (Qc (Value.ref (G.1 k) :: As).toArray) XC (fun q => b ≤ q) :=
  vx_runV (As := As) (rest := rest) hX hM (cwV n hX.2.2.2.2 (fun w hw => by
    rcases List.mem_append.mp hw with h | h
    · have : w = .methodLink own ix y ∨ w = .instanceMethod y ∨ w = .selects C y y ∨ w = .initialized C := by simpa using h
      rcases this with rfl | rfl | rfl | rfl
      · exact ⟨q1, lw_G q1⟩
      · exact ⟨q2, lw_G q2⟩
      · exact ⟨q3, lw_G q3⟩
      · exact ⟨q4, lw_G q4⟩
    · exact ws_good q5 w h) rfl hrm.1 hrm.2 hd hR) (w_preV hK hE hH hc hs) rfl hn hls hst0 (lv_room hst) hdg hf
theorem w_xrS (hX : CallFix p m c cc nL s args lw_all own) (hK : va_K D vwCl (wTys cs) s) (hE : wEn ad b s s.heap) (hH : wH D cs b G I s H locs) (hM : vx_Met l y (ws_ y bytes maxL ret) rm (va_Pc As (wPr D cs ad b G I)) Qc XC mc ms (fun q => b ≤ q))
    (q1 : Cond.methodLink own ix y ∈ lw_all) (q2 : Cond.static y ∈ lw_all) (q4 : Cond.initialized y.cls ∈ lw_all) (q5 : Cond.code y bytes maxL ret ∈ lw_all)
    (hd : y.cls ≠ "java/lang/invoke/MethodHandle" ∧ y.cls ≠ "java/lang/invoke/VarHandle" ∧ (parseMethodDescriptor y.desc).map (fun d => d.parameters.length) = some n) (hR : rm.frames + 1 ≤ R.frames ∧ 8 + (maxL + 11) + rm.locals ≤ R.locals) (hrm : rm.cells = mc ∧ rm.slots = ms) (hn : As.length = n) (hls : ls.size = nL) (hst0 : st0 = As.reverse ++ rest) (hst : (rest.map fun v => v.category).sum ≤ 8) (hdg : decode cc pc = .ok (.invokestatic ix, 3)) (hf : cells + mc ≤ R.cells ∧ slots + ms ≤ R.slots) :
    vx_Run p l e R s m args below meth c H locs cells slots mc ms (F0 m pc ls st0) rest (Qc As.toArray) XC (fun q => b ≤ q) :=
  vx_runS (As := As) (rest := rest) hX hM ⟨callB_of n hX.2.2.2.2 (ws_good q5) rfl hrm.1 hrm.2 (hX.2.2.2.2 _ q4) (hX.2.2.2.2 _ q1) hd hR, hX.2.2.2.2 _ q2⟩ (w_preS hK hE hH) rfl hn hls hst0 (lv_room hst) hdg hf
theorem w_outX {E : String} {ce : Cell} {q9 : Addr} {u : wI} {t : State} {H1 : Heap} {locs1 : List Loc} (hEx : ∀ x ∈ c.exceptionTable.toList, False) (hlk : meth.locks = false) (ht : t.heap = H1) (hB : X' E u ∧ wPo D cs b G u t) (hS : va_S (fun q => b ≤ q) s.heap H1 locs1) (hcell : H1[q9]? = some ce) (hv : ce.vm = .none) (hcl : s.vm.findClass E = some ce.cls) (hprop : ∀ E u, X' E u → X E u) :
    vx_W p l e R s m args below meth c H1 locs1 (0 + 1) (0 + 6) (vx_MQ below Qc (wXC D cs b G X) args s 1 6 (fun q => b ≤ q)) (F0 m pc ls rest) q9 :=
  vx_out (fun x hx => (hEx x hx).elim) hlk hcell hv hcl (fun t' ht' _ => ⟨u, trivial, ⟨hprop _ _ hB.1, by unfold wPo; rw [ht', ← ht]; exact hB.2⟩, hS.F ht'⟩) hS.2.2 (Nat.le_refl _) (Nat.le_refl _)
theorem w_xI (hEx : ∀ x ∈ c.exceptionTable.toList, False) (hlk : meth.locks = false) (hH : wH D cs b G I s H locs) (hr : vx_Run p l e R s m args below meth c H locs 0 0 1 6 (F0 m pc ls st0) rest (va_Qi (fun (_ : Int32) (_ : wI) => False) (wPo D cs b G) (fun q => b ≤ q) a) (wXC D cs b G X') (fun q => b ≤ q)) (hprop : ∀ E u, X' E u → X E u) :
    W p l e R s m args below meth c H locs 0 0 (vx_MQ below Qc (wXC D cs b G X) args s 1 6 (fun q => b ≤ q)) (F0 m pc ls st0) :=
  vx_calli hr hH.2.1 (fun q _ h => h) (fun q h => h) (fun q _ h => h) (fun E ce q9 u t H1 locs1 ht _ _ hB _ _ hS hce hcv hcl => w_outX hEx hlk ht hB hS hce hcv hcl hprop) (fun r u t H1 locs1 _ _ hp => hp.elim)
theorem w_xL (hEx : ∀ x ∈ c.exceptionTable.toList, False) (hlk : meth.locks = false) (hH : wH D cs b G I s H locs) (hr : vx_Run p l e R s m args below meth c H locs 0 0 1 6 (F0 m pc ls st0) rest (va_Ql (fun (_ : Int64) (_ : wI) => False) (wPo D cs b G) (fun q => b ≤ q) a) (wXC D cs b G X') (fun q => b ≤ q)) (hprop : ∀ E u, X' E u → X E u) :
    W p l e R s m args below meth c H locs 0 0 (vx_MQ below Qc (wXC D cs b G X) args s 1 6 (fun q => b ≤ q)) (F0 m pc ls st0) :=
  vx_calll hr hH.2.1 (fun q _ h => h) (fun q h => h) (fun q _ h => h) (fun E ce q9 u t H1 locs1 ht _ _ hB _ _ hS hce hcv hcl => w_outX hEx hlk ht hB hS hce hcv hcl hprop) (fun r u t H1 locs1 _ _ hp => hp.elim)
theorem w_xV (hEx : ∀ x ∈ c.exceptionTable.toList, False) (hlk : meth.locks = false) (hH : wH D cs b G I s H locs) (hr : vx_Run p l e R s m args below meth c H locs 0 0 1 6 (F0 m pc ls st0) rest (va_Qv (fun (_ : wI) => False) (wPo D cs b G) (fun q => b ≤ q) a) (wXC D cs b G X') (fun q => b ≤ q)) (hprop : ∀ E u, X' E u → X E u) :
    W p l e R s m args below meth c H locs 0 0 (vx_MQ below Qc (wXC D cs b G X) args s 1 6 (fun q => b ≤ q)) (F0 m pc ls st0) :=
  vx_callv hr hH.2.1 (fun q _ h => h) (fun q h => h) (fun q _ h => h) (fun E ce q9 u t H1 locs1 ht _ _ hB _ _ hS hce hcv hcl => w_outX hEx hlk ht hB hS hce hcv hcl hprop) (fun u t H1 locs1 _ _ hp => hp.elim)
def wSup : List String := ["java/lang/RuntimeException", "java/lang/Exception"]
/-- what a throw's row wants of the tables -/
def wTh (own : String) (ik is ic : Nat) (cls text : String) (i : Nat) : Prop :=
  Bundle.fit cls = true ∧ Cond.classLink own ik cls ∈ lw_all ∧ Cond.initialized cls ∈ lw_all ∧ wStr[i]? = some (own, is, text) ∧ (∀ w ∈ vx_atS own ic cls wSup, w ∈ lw_all ∨ w ∈ lw_nw) ∧ (∀ w ∈ vx_atS own ic cls wSup, vx_ot w = true)
theorem w_nwot {w : Cond} (h : w ∈ lw_nw) : w.onTables = true := by
  have hn := (List.mem_filter.mp h).2
  cases w <;> first | exact absurd (show false = true from hn) (by decide) | rfl
theorem w_throw {is ic ik i : Nat} {cls text : String} (hT : wTh own ik is ic cls text i) (hX : CallFix p m c cc nL s args lw_all own) (hst : l.stackTraces = false) (hlk : meth.locks = false) (hEx : ∀ x ∈ c.exceptionTable.toList, False) (hE : wEn ad b s s.heap) (hH : wH D cs b G I s H locs) (hls : ls.size = nL)
    (d0 : decode cc pc = .ok (.new ik, 3)) (d3 : decode cc (pc + 3) = .ok (.dup, 1)) (d4 : decode cc (pc + 4) = .ok (.ldc is, 2)) (d6 : decode cc (pc + 6) = .ok (.invokespecial ic, 3)) (d9 : decode cc (pc + 9) = .ok (.athrow, 1))
    (hR : 6 ≤ R.frames ∧ (rest.map fun v => v.category).sum + 82 ≤ R.locals ∧ 1 ≤ R.cells ∧ 6 ≤ R.slots) (hx : X cls I) :
    W p l e R s m args below meth c H locs 0 0 (vx_MQ below Qc (wXC D cs b G X) args s 1 6 (fun q => b ≤ q)) (F0 m pc ls rest) := by
  obtain ⟨h1, h2, h3, h4, h5, h6⟩ := hT
  obtain ⟨hxx, hb, hml, hown, hts⟩ := hX
  refine vx_throwS (names := wSup) (sa := ad i) (text := text) hxx hb hst hown h1 (by decide +kernel) (hts _ h2) (hts _ h3) (hE.2.1 i _ h4) (fun w hw => (h5 w hw).elim (fun h => hts w h) (fun h => va_Nw.use (w_nwot h) (hE.1 w h))) ?_ hE.2.2.1 hE.2.2.2.1 hH.2.1 (hls.trans hml.symm) d0 d3 d4 d6 d9 (fun x hx => (hEx x hx).elim) (by show 2 + 3 < _; omega) (by show _ + (13 * (2 + 1) + 43) ≤ _; omega) (by omega) (by omega) hlk ?_ hH.2.1.2.2 (Nat.le_refl _) (Nat.le_refl _)
  · intro w hw
    rcases List.mem_cons.mp hw with rfl | hw
    · rfl
    · rcases List.mem_cons.mp hw with rfl | hw
      · rfl
      · exact h6 w hw
  · intro t hal hsz hk
    have hP : va_P D vwCl (wLs cs G I) t.heap := hH.1.kept (fun i q hq => hk q.1 (hH.1 i q hq).lt)
    exact ⟨I, trivial, ⟨hx, hP⟩, Nat.le_trans hH.2.1.1 hsz, fun q h7 h8 => (hk q (Nat.lt_of_lt_of_le h7 hH.2.1.1)).trans (hH.2.1.2.1 q h7 h8)⟩
theorem w_throwW {is ic ik i : Nat} {cls text : String} (hT : wTh own ik is ic cls text i) (hX : CallFix p m c cc nL s args lw_all own) (hst : l.stackTraces = false) (hlk : meth.locks = false) (hEx : ∀ x ∈ c.exceptionTable.toList, False) (hE : wEn ad b s s.heap) (hH : wH D cs b G I s H locs) (hls : ls.size = nL)
    (d0 : decode cc pc = .ok (.new ik, 3)) (d3 : decode cc (pc + 3) = .ok (.dup, 1)) (d4 : decode cc (pc + 4) = .ok (.ldc_w is, 3)) (d6 : decode cc (pc + 7) = .ok (.invokespecial ic, 3)) (d9 : decode cc (pc + 10) = .ok (.athrow, 1))
    (hR : 6 ≤ R.frames ∧ (rest.map fun v => v.category).sum + 82 ≤ R.locals ∧ 1 ≤ R.cells ∧ 6 ≤ R.slots) (hx : X cls I) :
    W p l e R s m args below meth c H locs 0 0 (vx_MQ below Qc (wXC D cs b G X) args s 1 6 (fun q => b ≤ q)) (F0 m pc ls rest) := by
  obtain ⟨h1, h2, h3, h4, h5, h6⟩ := hT
  obtain ⟨hxx, hb, hml, hown, hts⟩ := hX
  refine vx_throwSW (names := wSup) (sa := ad i) (text := text) hxx hb hst hown h1 (by decide +kernel) (hts _ h2) (hts _ h3) (hE.2.1 i _ h4) (fun w hw => (h5 w hw).elim (fun h => hts w h) (fun h => va_Nw.use (w_nwot h) (hE.1 w h))) ?_ hE.2.2.1 hE.2.2.2.1 hH.2.1 (hls.trans hml.symm) d0 d3 d4 d6 d9 (fun x hx => (hEx x hx).elim) (by show 2 + 3 < _; omega) (by show _ + (13 * (2 + 1) + 43) ≤ _; omega) (by omega) (by omega) hlk ?_ hH.2.1.2.2 (Nat.le_refl _) (Nat.le_refl _)
  · intro w hw
    rcases List.mem_cons.mp hw with rfl | hw
    · rfl
    · rcases List.mem_cons.mp hw with rfl | hw
      · rfl
      · exact h6 w hw
  · intro t hal hsz hk
    have hP : va_P D vwCl (wLs cs G I) t.heap := hH.1.kept (fun i q hq => hk q.1 (hH.1 i q hq).lt)
    exact ⟨I, trivial, ⟨hx, hP⟩, Nat.le_trans hH.2.1.1 hsz, fun q h7 h8 => (hk q (Nat.lt_of_lt_of_le h7 hH.2.1.1)).trans (hH.2.1.2.1 q h7 h8)⟩
end WX
