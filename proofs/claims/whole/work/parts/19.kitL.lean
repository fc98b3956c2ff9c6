/-! the law's own methods, that catch what the class throws -/
def ncs : List (String × String) := [("java/lang/IllegalArgumentException", "java/lang/IllegalStateException"), ("java/lang/IllegalArgumentException", "java/lang/UnsupportedOperationException"), ("java/lang/IllegalArgumentException", "java/lang/IndexOutOfBoundsException"), ("java/lang/IllegalArgumentException", "java/util/NoSuchElementException"), ("java/lang/IllegalArgumentException", "java/lang/ArithmeticException"), ("java/lang/IllegalStateException", "java/lang/IllegalArgumentException"), ("java/lang/IllegalStateException", "java/lang/UnsupportedOperationException"), ("java/lang/IllegalStateException", "java/lang/IndexOutOfBoundsException"), ("java/lang/IllegalStateException", "java/util/NoSuchElementException"), ("java/lang/IllegalStateException", "java/lang/ArithmeticException"), ("java/lang/UnsupportedOperationException", "java/lang/IllegalArgumentException"), ("java/lang/UnsupportedOperationException", "java/lang/IllegalStateException"), ("java/lang/UnsupportedOperationException", "java/lang/IndexOutOfBoundsException"), ("java/lang/UnsupportedOperationException", "java/util/NoSuchElementException"), ("java/lang/UnsupportedOperationException", "java/lang/ArithmeticException"), ("java/lang/IndexOutOfBoundsException", "java/lang/IllegalArgumentException"), ("java/lang/IndexOutOfBoundsException", "java/lang/IllegalStateException"), ("java/lang/IndexOutOfBoundsException", "java/lang/UnsupportedOperationException"), ("java/lang/IndexOutOfBoundsException", "java/util/NoSuchElementException"), ("java/lang/IndexOutOfBoundsException", "java/lang/ArithmeticException"), ("java/util/NoSuchElementException", "java/lang/IllegalArgumentException"), ("java/util/NoSuchElementException", "java/lang/IllegalStateException"), ("java/util/NoSuchElementException", "java/lang/UnsupportedOperationException"), ("java/util/NoSuchElementException", "java/lang/IndexOutOfBoundsException"), ("java/util/NoSuchElementException", "java/lang/ArithmeticException"), ("java/lang/ArithmeticException", "java/lang/IllegalArgumentException"), ("java/lang/ArithmeticException", "java/lang/IllegalStateException"), ("java/lang/ArithmeticException", "java/lang/UnsupportedOperationException"), ("java/lang/ArithmeticException", "java/lang/IndexOutOfBoundsException"), ("java/lang/ArithmeticException", "java/util/NoSuchElementException")]
def G2 (K : KT) (U : State) : Prop := G1 K U ∧ ∀ q ∈ ncs, va_Nc q.1 q.2 U
theorem G2.warm {K : KT} {s U : State} (hW : s.WarmedH U.vm) (h : G2 K s) : G2 K U := ⟨G1.warm hW h.1, fun q hq => va_Nc.moved hW.alike (h.2 q hq)⟩
theorem G2.calling {K : KT} {U : State} (g : JFrame) (mk : MethodId) (a : Array Value) (h : G2 K U) : G2 K (U.calling g mk a) := ⟨G1.calling g mk a h.1, fun q hq => va_Nc.moved (u := U) (U := U.calling g mk a) (Vm.Alike.refl U.vm) (h.2 q hq)⟩
abbrev wsH (y : MethodName) (cc : ByteArray) (n : Nat) (r : Option FieldType) (hh : List (Nat × Nat × Nat × Nat)) : List Cond := .codeWith y cc n r hh :: wT
abbrev wLong (K : KT) (oa : Nat) (f : Nat → Int64) : va_W := [(oa, .inl (K.2 3, 1, .inr (.inl f)))]
abbrev wDouble (K : KT) (oa : Nat) (f : Nat → UInt64) : va_W := [(oa, .inl (K.2 4, 1, .inr (.inr (.inr (.inl f)))))]
/-- a static method with handlers that makes at most mc cells -/
def Lw (l : Launch) (K : KT) (d mc : Nat) (y : MethodName) (cc : ByteArray) (n : Nat) (rt : FieldType) (hh : List (Nat × Nat × Nat × Nat)) (As : List Value) (w : va_W) (r : Int32) (w2 : va_W) : Prop :=
  Met l y (wsH y cc n (some rt) hh) (rmX d mc) (va_Pc As (fun U => va_P K.1 vC w U.heap ∧ G2 K U ∧ va_D (fun _ => True) w ∧ ZZ (adI w) U U.heap)) (fun _ st o t => (o = .returned (some (.int r)) ∧ va_P K.1 vC w2 t.heap) ∧ va_F (adI w) st t) mc (6 * mc) (adI w)
abbrev CtxL (p : Program) (m : MethodId) (c : Code) (cc : ByteArray) (nL : Nat) (s : State) (args : Array Value) (K : KT) (meth : Method) (rt : Option FieldType) (hh : List (Nat × Nat × Nat × Nat)) (w : va_W) : Prop :=
  Ctx p m c cc nL s args RL K meth rt ∧ c.exceptionTable.toList = tableOf hh ∧ G2 K s ∧ ZZ (adI w) s s.heap
set_option maxHeartbeats 1000000 in
theorem Lw.of {l : Launch} {K : KT} {d mc : Nat} {y : MethodName} {cc : ByteArray} {n : Nat} {rt : FieldType} {hh : List (Nat × Nat × Nat × Nat)} {As : List Value} {w w2 : va_W} {r : Int32} (hy : plainName y.cls = true) (hyc : y.cls = RL) (hn : (lg_sl As).length ≤ n)
    (k : ∀ (p : Program) (e : Env) (s : State) (m : MethodId) (below : List Frame) (meth : Method) (c : Code), CtxL p m c cc n s As.toArray K meth (some rt) hh w → ∀ (H : Heap) (locs : List Loc), va_P K.1 vC w H → va_D (adI w) w → va_S (adI w) s.heap H locs → ∀ ls : Array Slot, lv_has ls n (lv_args 0 As) →
      W p l e (rmX d mc) s m As.toArray below meth c H locs 0 0 (MQ below (fun _ st o t => (o = .returned (some (.int r)) ∧ va_P K.1 vC w2 t.heap) ∧ va_F (adI w) st t) As.toArray s mc (6 * mc) (adI w)) (F0 m 0 ls [])) : Lw l K d mc y cc n rt hh As w r w2 := by
  unfold Lw Met
  refine MetFree.of_bodyS (code := cc) (maxLocals := n) (ret := some rt) hy ?_ ?_
  · intro args s m h hn
    obtain ⟨m9, meth, c, hn9, h1, h2, h3, h4, -, h5, h6, -⟩ := Cond.codeWith_spec (atoms_spec (ws := wsH y cc n (some rt) hh) h _ List.mem_cons_self)
    cases hn.symm.trans hn9
    exact ⟨meth, c, h1, h2, h3, h4, h5, h6⟩
  · intro p e s m args below meth c s₁ B hml hv _
    obtain ⟨rfl, hP, hG, hD, hZ⟩ := hv
    have hh0 : s₁.heap = s.heap := by rw [B.state]; rfl
    have hts0 := atoms_spec (ws := wsH y cc n (some rt) hh) B.pre
    have htab := vx_table (x := y) B (hts0 _ List.mem_cons_self)
    have hl := lv_entry As (n := n) hn
    have h9 := k p e s m below meth c ⟨⟨B.exec, B.bytes, hml, by rw [← hyc]; exact findClass_of_methodNamed B.named, fun w h => hts0 w (List.mem_cons_of_mem _ h), hG.1.1, B.returns, B.notSynchronized⟩, htab, hG, hZ⟩ s.heap [] hP (adI_self hD) va_S.rf _ hl
    rw [← lg_entry_eq] at h9
    obtain ⟨t, a1, o, b1, b2, b3⟩ := h9 s₁ hh0 (Stand.of_body B)
    exact ⟨t, o, a1, b1, b2, ⟨b3.1, b3.2⟩⟩
theorem gSH {own : String} {idx : Nat} {y : MethodName} {cc : ByteArray} {n : Nat} {r : Option FieldType} {hh : List (Nat × Nat × Nat × Nat)} (h1 : Cond.methodLink own idx y ∈ wT) (h2 : Cond.static y ∈ wT) (h4 : Cond.initialized y.cls ∈ wT) (h5 : Cond.codeWith y cc n r hh ∈ wT) : GoodIn wT (va_wsS own idx y (wsH y cc n r hh)) := fun w hw => by
  unfold va_wsS at hw
  rcases List.mem_append.mp hw with hw | hw
  · simp only [List.mem_cons, List.not_mem_nil, or_false] at hw
    rcases hw with e | e | e <;> rw [e] <;> exact ⟨by assumption, wT_good (by assumption)⟩
  · rcases List.mem_cons.mp hw with e | hw
    · rw [e]; exact ⟨h5, wT_good h5⟩
    · exact ⟨hw, wT_good hw⟩
section LCALLS
variable {p : Program} {l : Launch} {e : Env} {R : Room} {s : State} {m : MethodId} {args : Array Value} {below : List Frame} {meth : Method} {c : Code} {H : Heap} {locs : List Loc} {cells slots : Nat} {Q : State → Prop}
theorem lw_blind {K : KT} {As : List Value} {w : va_W} : FrameBlind (va_Pc As (fun U => va_P K.1 vC w U.heap ∧ G2 K U ∧ va_D (fun _ => True) w ∧ ZZ (adI w) U U.heap)) := fun a U g mk h => ⟨h.1, h.2.1, G2.calling g mk a h.2.2.1, h.2.2.2.1, ZZ.moved (u := U) (U := U.calling g mk a) (Vm.Alike.refl U.vm) h.2.2.2.2⟩
/-- a call of a method that may throw, of an object of the world, what it throws handed to the frame's own table -/
theorem xH {T9 : Type} {K : KT} {d' mc' n' nL pc index na ci q0 b : Nat} {y : MethodName} {cc cc' : ByteArray} {As rest st : List Value} {ws w : va_W} {so : String ⊕ T9} {f9 : T9 → Option Value × va_W} {ws2 : T9 → va_W} {own C : String} {T : u_T} {N : Nat} {fs : List Value} {ls : Array Slot} {rt : Option FieldType} {lv0 : List (Nat × Value)} {A : Nat → Prop}
    (hx : p.tables.exec = Jvm.exec) (hb : c.code = cc) (hml : c.maxLocals = nL) (hown : s.vm.findClass own = some m.cls) (hts : ∀ w ∈ wT, w.before args s = true) (hG : G1 K s) (hP : va_P K.1 vC ws H) (hD : va_D A ws) (hS : va_S A s.heap H locs) (hZ : ZZ A s s.heap)
    (hM : Xm l K d' mc' y cc' n' rt (.ref b :: As) w (Sum.map id f9 so)) (is : List Nat) (hnd : va_nd is = true) (his : is.map (fun i => ws[i]?) = w.map some) {as9 : List Nat} (hadr1 : w.map Prod.fst = as9) (hadr2 : ∀ q, (f9 q).2.map Prod.fst = as9) (src : List (Nat ⊕ Nat)) (hok : srcOk src is = true) (hws : ∀ q, src.map (pk2 (f9 q).2 ws) = (ws2 q).map some) (hws0 : src.map (pk2 w ws) = ws.map some) (he : ws[q0]? = some (b, .inr (ci, fs))) (hc : vC[ci]? = some (C, T, N))
    (hg : GoodIn wT (wsV own index C y (wsM y cc' n' rt))) (hd : y.cls = C ∧ y.cls ≠ "java/lang/invoke/MethodHandle" ∧ y.cls ≠ "java/lang/invoke/VarHandle" ∧ (parseMethodDescriptor y.desc).map (fun d => d.parameters.length) = some na)
    (hn : As.length = na) (hR : d' + 1 ≤ R.frames ∧ 8 + (n' + 11) + 60 * d' ≤ R.locals) (hf : cells + mc' ≤ R.cells ∧ slots + 6 * mc' ≤ R.slots) (hl : lv_has ls nL lv0) (hst : st = As.reverse ++ .ref b :: rest) (hW : (rest.map fun v => v.category).sum ≤ 8) (hdg : decode cc pc = .ok (.invokevirtual index, 3))
    (kx : ∀ E, so = .inl E → ∀ (H1 : Heap) (locs1 : List Loc) (ce : Cell) (q9 : Addr), va_P K.1 vC ws H1 → va_S A s.heap H1 locs1 → H1[q9]? = some ce → ce.vm = .none → s.vm.findClass E = some ce.cls → vx_W p l e R s m args below meth c H1 locs1 (cells + mc') (slots + 6 * mc') Q (F0 m pc ls rest) q9)
    (kk : ∀ q, so = .inr q → ∀ (H1 : Heap) (locs1 : List Loc), va_P K.1 vC (ws2 q) H1 → va_D A (ws2 q) → va_S A s.heap H1 locs1 → W p l e R s m args below meth c H1 locs1 (cells + mc') (slots + 6 * mc') Q (F0 m (pc + 3) ls ((f9 q).1.toList ++ rest))) :
    W p l e R s m args below meth c H locs cells slots Q (F0 m pc ls st) := by
  have hfree := map_free his hD
  have hrun := vx_runV (R := R) (e := e) (below := below) (meth := meth) (cells := cells) (slots := slots) (locs := locs) (H := H) (g := F0 m pc ls st) (As := As) (rest := rest) ⟨hx, hb, hml, hown, hts⟩ hM (cwV na hts hg rfl rfl rfl hd hR) ⟨xm_blind, va_recv hG.1.1 hP hc he, fun U hU hW9 => ⟨rfl, by rw [hU]; exact map_sub his hP, G1.warm hW9 hG, map_D his hnd hD, by rw [hU]; exact (ZZ.moved hW9.alike (ZZ.kept hZ hS.2.1)).narrow hfree⟩⟩ rfl hn hl.1 hst (lv_room hW) hdg hf
  intro T8 hT X
  rcases hrun T8 hT X with ⟨v, st₀, t, T', L, h0, X', hL, e1, e2, ⟨⟨v2, w2, ho, hv, hp⟩, hF⟩, st9⟩ | ⟨q, st₀, t, T', L, E, ce, h0, X', hL, e1, e2, ⟨ho, hp, hF⟩, hce, hcv, hcl, st9⟩
  · obtain ⟨k1, k2, k3⟩ := vx_keep h0 e1 hS (fun q _ h => hfree q h) hfree hL hF
    cases so with
    | inl E => cases ho
    | inr u =>
      cases hv
      have ho := Sum.inr.inj ho
      have h2 : (f9 u).2 = w2 := congrArg Prod.snd ho
      have h1 : (f9 u).1 = v := congrArg Prod.fst ho
      subst h2
      subst h1
      obtain ⟨hP2, hD2⟩ := va_upd (H1 := T'.heap) is src hok hP hD his ((hadr2 u).trans hadr1.symm) (hws u) (by rw [e1]; exact hp) k2
      obtain ⟨t2, a1, b1⟩ := kk u rfl T'.heap (locs ++ L) hP2 hD2 k3 T' rfl X'
      exact ⟨t2, st9 t2 a1, b1⟩
  · obtain ⟨k1, k2, k3⟩ := vx_keep h0 e1 hS (fun q _ h => hfree q h) hfree hL hF
    cases so with
    | inr u => cases ho
    | inl E' =>
      have ho := Sum.inl.inj ho
      dsimp only [id] at ho
      subst ho
      obtain ⟨hP2, -⟩ := va_upd (H1 := T'.heap) is src hok hP hD his rfl hws0 (by rw [e1]; exact hp) k2
      obtain ⟨t2, a1, b1⟩ := kx E' rfl T'.heap (locs ++ L) ce q hP2 k3 (by rw [e1]; exact hce) hcv hcl T' rfl X'
      exact ⟨t2, st9.trans a1, b1⟩
/-- the handler for just this class -/
theorem xCatch {K : KT} {E : String} {ce : Cell} {q : Addr} {hh : List (Nat × Nat × Nat × Nat)} {pc : Nat} {ls : Array Slot} {rest : List Value} (hown : s.vm.findClass RL = some m.cls) (hts : ∀ w ∈ wT, w.before args s = true) (hG : G2 K s) (htab : c.exceptionTable.toList = tableOf hh) (pre suf : List ExceptionTableEntry) (x : ExceptionTableEntry) (hsplit : tableOf hh = pre ++ x :: suf)
    (hpass : ∀ z ∈ pre, z.catchType ≠ 0 ∧ ∃ nm : String, Cond.classLink RL z.catchType nm ∈ wT ∧ (E, nm) ∈ ncs) (hx : covers x pc = true) (h0 : x.catchType ≠ 0) (hlink : Cond.classLink RL x.catchType E ∈ wT) (hcast : Cond.castable E E ∈ wB) (hcell : H[q]? = some ce) (hv : ce.vm = .none) (hcl : s.vm.findClass E = some ce.cls)
    (kk : W p l e R s m args below meth c H locs cells slots Q (F0 m x.handlerPc ls [.ref q])) : vx_W p l e R s m args below meth c H locs cells slots Q (F0 m pc ls rest) q :=
  vx_catch hown pre x suf (htab.trans hsplit) (fun z hz => Or.inr ⟨(hpass z hz).1, by obtain ⟨-, nm, h1, h2⟩ := hpass z hz; exact ⟨nm, hts _ h1, hG.2 _ h2⟩⟩) hx h0 (hts _ hlink) (va_Nw.use rfl (hG.1.2.1 _ hcast)) hcell hv hcl kk
/-- a call of a static method with handlers -/
theorem lwS {K : KT} {d' mc' n' nL pc index na : Nat} {y : MethodName} {cc cc' : ByteArray} {rt : FieldType} {hh : List (Nat × Nat × Nat × Nat)} {As rest st : List Value} {ws w w2 ws2 : va_W} {r : Int32} {own : String} {ls : Array Slot} {A : Nat → Prop}
    (hx : p.tables.exec = Jvm.exec) (hb : c.code = cc) (hml : c.maxLocals = nL) (hown : s.vm.findClass own = some m.cls) (hts : ∀ w ∈ wT, w.before args s = true) (hG : G2 K s) (hP : va_P K.1 vC ws H) (hD : va_D A ws) (hS : va_S A s.heap H locs) (hZ : ZZ A s s.heap)
    (hM : Lw l K d' mc' y cc' n' rt hh As w r w2) (is : List Nat) (hnd : va_nd is = true) (his : is.map (fun i => ws[i]?) = w.map some) {as9 : List Nat} (hadr1 : w.map Prod.fst = as9) (hadr2 : w2.map Prod.fst = as9) (src : List (Nat ⊕ Nat)) (hok : srcOk src is = true) (hws : src.map (pk2 w2 ws) = ws2.map some)
    (hg : GoodIn wT (va_wsS own index y (wsH y cc' n' (some rt) hh))) (hd : y.cls ≠ "java/lang/invoke/MethodHandle" ∧ y.cls ≠ "java/lang/invoke/VarHandle" ∧ (parseMethodDescriptor y.desc).map (fun d => d.parameters.length) = some na)
    (hn : As.length = na) (hR : d' + 1 ≤ R.frames ∧ 8 + (n' + 11) + 60 * d' ≤ R.locals) (hf : cells + mc' ≤ R.cells ∧ slots + 6 * mc' ≤ R.slots) {lv0 : List (Nat × Value)} (hl : lv_has ls nL lv0) (hst : st = As.reverse ++ rest) (hW : (rest.map fun v => v.category).sum ≤ 8) (hdg : decode cc pc = .ok (.invokestatic index, 3))
    (kk : ∀ (H1 : Heap) (locs1 : List Loc), va_P K.1 vC ws2 H1 → va_D A ws2 → va_S A s.heap H1 locs1 → W p l e R s m args below meth c H1 locs1 (cells + mc') (slots + 6 * mc') Q (F0 m (pc + 3) ls (.int r :: rest))) : W p l e R s m args below meth c H locs cells slots Q (F0 m pc ls st) := by
  have hfree := map_free his hD
  have hr := vx_runSW (l := l) (p := p) (R := R) (s := s) (m := m) (args := args) (c := c) (e := e) (below := below) (meth := meth) (cells := cells) (slots := slots) (locs := locs) (H := H) (g := F0 m pc ls st) (As := As) (rest := rest) ⟨hx, hb, hml, hown, hts⟩ hM (vx_cwSW na hts hg rfl rfl rfl hd hR) ⟨lw_blind, fun U hU hW9 => ⟨rfl, by rw [hU]; exact map_sub his hP, G2.warm hW9 hG, map_D his hnd hD, by rw [hU]; exact (ZZ.moved hW9.alike (ZZ.kept hZ hS.2.1)).narrow hfree⟩⟩ rfl hn hl.1 hst (lv_room hW) hdg hf
  intro T8 hT X
  obtain ⟨v, st₀, t, T', L, h0, X', hL, e1, e2, ⟨⟨hv, hp⟩, hF⟩, st9⟩ := hr T8 hT X
  cases hv
  obtain ⟨k1, k2, k3⟩ := vx_keep h0 e1 hS (fun q _ h => hfree q h) hfree hL hF
  obtain ⟨hP2, hD2⟩ := va_upd (H1 := T'.heap) is src hok hP hD his (hadr2.trans hadr1.symm) hws (by rw [e1]; exact hp) k2
  obtain ⟨t2, a1, b1⟩ := kk T'.heap (locs ++ L) hP2 hD2 k3 T' rfl X'
  exact ⟨t2, st9 t2 a1, b1⟩
end LCALLS
theorem vp01 : vp_in (0 : Int32) 1 := by
  rw [← nI_0]
  exact vp_in_nI (by decide) (by decide)
