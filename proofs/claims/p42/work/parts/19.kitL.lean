/-! the law's own methods, that catch what the class throws -/
def ncs : List (String × String) := [("java/lang/IllegalArgumentException", "java/lang/IllegalStateException"), ("java/lang/IllegalArgumentException", "java/lang/UnsupportedOperationException"), ("java/lang/IllegalArgumentException", "java/lang/IndexOutOfBoundsException"), ("java/lang/IllegalArgumentException", "java/util/NoSuchElementException"), ("java/lang/IllegalArgumentException", "java/lang/ArithmeticException"), ("java/lang/IllegalStateException", "java/lang/IllegalArgumentException"), ("java/lang/IllegalStateException", "java/lang/UnsupportedOperationException"), ("java/lang/IllegalStateException", "java/lang/IndexOutOfBoundsException"), ("java/lang/IllegalStateException", "java/util/NoSuchElementException"), ("java/lang/IllegalStateException", "java/lang/ArithmeticException"), ("java/lang/UnsupportedOperationException", "java/lang/IllegalArgumentException"), ("java/lang/UnsupportedOperationException", "java/lang/IllegalStateException"), ("java/lang/UnsupportedOperationException", "java/lang/IndexOutOfBoundsException"), ("java/lang/UnsupportedOperationException", "java/util/NoSuchElementException"), ("java/lang/UnsupportedOperationException", "java/lang/ArithmeticException"), ("java/lang/IndexOutOfBoundsException", "java/lang/IllegalArgumentException"), ("java/lang/IndexOutOfBoundsException", "java/lang/IllegalStateException"), ("java/lang/IndexOutOfBoundsException", "java/lang/UnsupportedOperationException"), ("java/lang/IndexOutOfBoundsException", "java/util/NoSuchElementException"), ("java/lang/IndexOutOfBoundsException", "java/lang/ArithmeticException"), ("java/util/NoSuchElementException", "java/lang/IllegalArgumentException"), ("java/util/NoSuchElementException", "java/lang/IllegalStateException"), ("java/util/NoSuchElementException", "java/lang/UnsupportedOperationException"), ("java/util/NoSuchElementException", "java/lang/IndexOutOfBoundsException"), ("java/util/NoSuchElementException", "java/lang/ArithmeticException"), ("java/lang/ArithmeticException", "java/lang/IllegalArgumentException"), ("java/lang/ArithmeticException", "java/lang/IllegalStateException"), ("java/lang/ArithmeticException", "java/lang/UnsupportedOperationException"), ("java/lang/ArithmeticException", "java/lang/IndexOutOfBoundsException"), ("java/lang/ArithmeticException", "java/util/NoSuchElementException")]
def G2 (K : KT) (U : State) : Prop := G1 K U ∧ ∀ q ∈ ncs, va_Nc q.1 q.2 U
theorem G2.warm {K : KT} {s U : State} (hW : s.WarmedH U.vm) (h : G2 K s) : G2 K U := ⟨G1.warm hW h.1, fun q hq => va_Nc.moved hW.alike (h.2 q hq)⟩
theorem G2.calling {K : KT} {U : State} (g : JFrame) (mk : MethodId) (a : Array Value) (h : G2 K U) : G2 K (U.calling g mk a) := ⟨G1.calling g mk a h.1, fun q hq => va_Nc.moved (u := U) (U := U.calling g mk a) (Vm.Alike.refl U.vm) (h.2 q hq)⟩
abbrev wsH (y : MethodName) (cc : ByteArray) (n : Nat) (r : Option FieldType) (hh : List (Nat × Nat × Nat × Nat)) : List Cond := .codeWith y cc n r hh :: wT
/-- a static method with handlers that makes at most mc cells -/
def Lw (l : Launch) (K : KT) (d mc : Nat) (y : MethodName) (cc : ByteArray) (n : Nat) (rt : FieldType) (hh : List (Nat × Nat × Nat × Nat)) (As : List Value) (w : va_W) (r : Value) (w2 : va_W) : Prop :=
  Met l y (wsH y cc n (some rt) hh) (rmX d mc) (va_Pc As (fun U => va_P K.1 vC w U.heap ∧ G2 K U ∧ va_D (fun _ => True) w ∧ ZZ (adI w) U U.heap)) (fun _ st o t => (o = .returned (some r) ∧ va_P K.1 vC w2 t.heap) ∧ va_F (adI w) st t) mc (6 * mc) (adI w)
abbrev CtxL (p : Program) (m : MethodId) (c : Code) (cc : ByteArray) (nL : Nat) (s : State) (args : Array Value) (K : KT) (meth : Method) (rt : Option FieldType) (hh : List (Nat × Nat × Nat × Nat)) (w : va_W) : Prop :=
  Ctx p m c cc nL s args RL K meth rt ∧ c.exceptionTable.toList = tableOf hh ∧ G2 K s ∧ ZZ (adI w) s s.heap
set_option maxHeartbeats 1000000 in
theorem Lw.of {l : Launch} {K : KT} {d mc : Nat} {y : MethodName} {cc : ByteArray} {n : Nat} {rt : FieldType} {hh : List (Nat × Nat × Nat × Nat)} {As : List Value} {w w2 : va_W} {r : Value} (hy : plainName y.cls = true) (hyc : y.cls = RL) (hn : (lg_sl As).length ≤ n)
    (k : ∀ (p : Program) (e : Env) (s : State) (m : MethodId) (below : List Frame) (meth : Method) (c : Code), CtxL p m c cc n s As.toArray K meth (some rt) hh w → ∀ (H : Heap) (locs : List Loc), va_P K.1 vC w H → va_D (adI w) w → va_S (adI w) s.heap H locs → ∀ ls : Array Slot, lv_has ls n (lv_args 0 As) →
      W p l e (rmX d mc) s m As.toArray below meth c H locs 0 0 (MQ below (fun _ st o t => (o = .returned (some r) ∧ va_P K.1 vC w2 t.heap) ∧ va_F (adI w) st t) As.toArray s mc (6 * mc) (adI w)) (F0 m 0 ls [])) : Lw l K d mc y cc n rt hh As w r w2 := by
  unfold Lw Met
  refine MetFree.of_bodyS (code := cc) (maxLocals := n) (ret := some rt) hy ?_ ?_
  · intro args s m h hn
    obtain ⟨m9, meth, c, hn9, h1, h2, h3, h4, -, h5, h6, -⟩ := Cond.codeWith_spec (atoms_spec (ws := wsH y cc n (some rt) hh) h _ List.mem_cons_self)
    cases hn.symm.trans hn9
    exact ⟨meth, c, h1, h2, h3, h4, h5, h6⟩
  · intro p e s m args below meth c s₁ B hml hv _
    obtain ⟨rfl, hP, hG, hD, hZ⟩ := hv
    have hh0 : s₁.heap = s.heap := by rw [B.state]; rfl
    have hts0 := atoms_spec (ws := wsH y cc n (some rt) hh) B.pre
    have htab := vx_table (x := y) B (hts0 _ List.mem_cons_self)
    have hl := lv_entry As (n := n) hn
    have h9 := k p e s m below meth c ⟨⟨B.exec, B.bytes, hml, by rw [← hyc]; exact findClass_of_methodNamed B.named, fun w h => hts0 w (List.mem_cons_of_mem _ h), hG.1.1, B.returns, B.notSynchronized⟩, htab, hG, hZ⟩ s.heap [] hP (adI_self hD) va_S.rf _ hl
    rw [← lg_entry_eq] at h9
    obtain ⟨t, a1, o, b1, b2, b3⟩ := h9 s₁ hh0 (Stand.of_body B)
    exact ⟨t, o, a1, b1, b2, ⟨b3.1, b3.2⟩⟩
theorem gSH {own : String} {idx : Nat} {y : MethodName} {cc : ByteArray} {n : Nat} {r : Option FieldType} {hh : List (Nat × Nat × Nat × Nat)} (h1 : Cond.methodLink own idx y ∈ wT) (h2 : Cond.static y ∈ wT) (h4 : Cond.initialized y.cls ∈ wT) (h5 : Cond.codeWith y cc n r hh ∈ wT) : GoodIn wT (va_wsS own idx y (wsH y cc n r hh)) := fun w hw => by
  unfold va_wsS at hw
  rcases List.mem_append.mp hw with hw | hw
  · simp only [List.mem_cons, List.not_mem_nil, or_false] at hw
    rcases hw with e | e | e <;> rw [e] <;> exact ⟨by assumption, wT_good (by assumption)⟩
  · rcases List.mem_cons.mp hw with e | hw
    · rw [e]; exact ⟨h5, wT_good h5⟩
    · exact ⟨hw, wT_good hw⟩
section LCALLS
variable {p : Program} {l : Launch} {e : Env} {R : Room} {s : State} {m : MethodId} {args : Array Value} {below : List Frame} {meth : Method} {c : Code} {H : Heap} {locs : List Loc} {cells slots : Nat} {Q : State → Prop}
theorem lw_blind {K : KT} {As : List Value} {w : va_W} : FrameBlind (va_Pc As (fun U => va_P K.1 vC w U.heap ∧ G2 K U ∧ va_D (fun _ => True) w ∧ ZZ (adI w) U U.heap)) := fun a U g mk h => ⟨h.1, h.2.1, G2.calling g mk a h.2.2.1, h.2.2.2.1, ZZ.moved (u := U) (U := U.calling g mk a) (Vm.Alike.refl U.vm) h.2.2.2.2⟩
/-- a call of a method that may throw, of an object of the world, what it throws handed to the frame's own table -/
theorem xH {T9 : Type} {K : KT} {d' mc' n' nL pc index na ci q0 b : Nat} {y : MethodName} {cc cc' : ByteArray} {As rest st : List Value} {ws w : va_W} {so : String ⊕ T9} {f9 : T9 → Option Value × va_W} {ws2 : T9 → va_W} {own C : String} {T : u_T} {N : Nat} {fs : List Value} {ls : Array Slot} {rt : Option FieldType} {lv0 : List (Nat × Value)} {A : Nat → Prop}
    (hx : p.tables.exec = Jvm.exec) (hb : c.code = cc) (hml : c.maxLocals = nL) (hown : s.vm.findClass own = some m.cls) (hts : ∀ w ∈ wT, w.before args s = true) (hG : G1 K s) (hP : va_P K.1 vC ws H) (hD : va_D A ws) (hS : va_S A s.heap H locs) (hZ : ZZ A s s.heap)
    (hM : Xm l K d' mc' y cc' n' rt (.ref b :: As) w (Sum.map id f9 so)) (is : List Nat) (hnd : va_nd is = true) (his : is.map (fun i => ws[i]?) = w.map some) {as9 : List Nat} (hadr1 : w.map Prod.fst = as9) (hadr2 : ∀ q, (f9 q).2.map Prod.fst = as9) (src : List (Nat ⊕ Nat)) (hok : srcOk src is = true) (hws : ∀ q, src.map (pk2 (f9 q).2 ws) = (ws2 q).map some) (hws0 : src.map (pk2 w ws) = ws.map some) (he : ws[q0]? = some (b, .inr (ci, fs))) (hc : vC[ci]? = some (C, T, N))
    (hg : GoodIn wT (wsV own index C y (wsM y cc' n' rt))) (hd : y.cls = C ∧ y.cls ≠ "java/lang/invoke/MethodHandle" ∧ y.cls ≠ "java/lang/invoke/VarHandle" ∧ (parseMethodDescriptor y.desc).map (fun d => d.parameters.length) = some na)
    (hn : As.length = na) (hR : d' + 1 ≤ R.frames ∧ 8 + (n' + 11) + 60 * d' ≤ R.locals) (hf : cells + mc' ≤ R.cells ∧ slots + 6 * mc' ≤ R.slots) (hl : lv_has ls nL lv0) (hst : st = As.reverse ++ .ref b :: rest) (hW : (rest.map fun v => v.category).sum ≤ 8) (hdg : decode cc pc = .ok (.invokevirtual index, 3))
    (kx : ∀ E, so = .inl E → ∀ (H1 : Heap) (locs1 : List Loc) (ce : Cell) (q9 : Addr), va_P K.1 vC ws H1 → va_S A s.heap H1 locs1 → H1[q9]? = some ce → ce.vm = .none → s.vm.findClass E = some ce.cls → vx_W p l e R s m args below meth c H1 locs1 (cells + mc') (slots + 6 * mc') Q (F0 m pc ls rest) q9)
    (kk : ∀ q, so = .inr q → ∀ (H1 : Heap) (locs1 : List Loc), va_P K.1 vC (ws2 q) H1 → va_D A (ws2 q) → va_S A s.heap H1 locs1 → W p l e R s m args below meth c H1 locs1 (cells + mc') (slots + 6 * mc') Q (F0 m (pc + 3) ls ((f9 q).1.toList ++ rest))) :
    W p l e R s m args below meth c H locs cells slots Q (F0 m pc ls st) := by
  have hfree := map_free his hD
  have hrun := vx_runV (R := R) (e := e) (below := below) (meth := meth) (cells := cells) (slots := slots) (locs := locs) (H := H) (g := F0 m pc ls st) (As := As) (rest := rest) ⟨hx, hb, hml, hown, hts⟩ hM (cwV na hts hg rfl rfl rfl hd hR) ⟨xm_blind, va_recv hG.1.1 hP hc he, fun U hU hW9 => ⟨rfl, by rw [hU]; exact map_sub his hP, G1.warm hW9 hG, map_D his hnd hD, by rw [hU]; exact (ZZ.moved hW9.alike (ZZ.kept hZ hS.2.1)).narrow hfree⟩⟩ rfl hn hl.1 hst (lv_room hW) hdg hf
  intro T8 hT X
  rcases hrun T8 hT X with ⟨v, st₀, t, T', L, h0, X', hL, e1, e2, ⟨⟨v2, w2, ho, hv, hp⟩, hF⟩, st9⟩ | ⟨q, st₀, t, T', L, E, ce, h0, X', hL, e1, e2, ⟨ho, hp, hF⟩, hce, hcv, hcl, st9⟩
  · obtain ⟨k1, k2, k3⟩ := vx_keep h0 e1 hS (fun q _ h => hfree q h) hfree hL hF
    cases so with
    | inl E => cases ho
    | inr u =>
      cases hv
      have ho := Sum.inr.inj ho
      have h2 : (f9 u).2 = w2 := congrArg Prod.snd ho
      have h1 : (f9 u).1 = v := congrArg Prod.fst ho
      subst h2
      subst h1
      obtain ⟨hP2, hD2⟩ := va_upd (H1 := T'.heap) is src hok hP hD his ((hadr2 u).trans hadr1.symm) (hws u) (by rw [e1]; exact hp) k2
      obtain ⟨t2, a1, b1⟩ := kk u rfl T'.heap (locs ++ L) hP2 hD2 k3 T' rfl X'
      exact ⟨t2, st9 t2 a1, b1⟩
  · obtain ⟨k1, k2, k3⟩ := vx_keep h0 e1 hS (fun q _ h => hfree q h) hfree hL hF
    cases so with
    | inr u => cases ho
    | inl E' =>
      have ho := Sum.inl.inj ho
      dsimp only [id] at ho
      subst ho
      obtain ⟨hP2, -⟩ := va_upd (H1 := T'.heap) is src hok hP hD his rfl hws0 (by rw [e1]; exact hp) k2
      obtain ⟨t2, a1, b1⟩ := kx E' rfl T'.heap (locs ++ L) ce q hP2 k3 (by rw [e1]; exact hce) hcv hcl T' rfl X'
      exact ⟨t2, st9.trans a1, b1⟩
/-- the handler for just this class -/
theorem xCatch {K : KT} {E : String} {ce : Cell} {q : Addr} {hh : List (Nat × Nat × Nat × Nat)} {pc : Nat} {ls : Array Slot} {rest : List Value} (hown : s.vm.findClass RL = some m.cls) (hts : ∀ w ∈ wT, w.before args s = true) (hG : G2 K s) (htab : c.exceptionTable.toList = tableOf hh) (pre suf : List ExceptionTableEntry) (x : ExceptionTableEntry) (hsplit : tableOf hh = pre ++ x :: suf)
    (hpass : ∀ z ∈ pre, z.catchType ≠ 0 ∧ ∃ nm : String, Cond.classLink RL z.catchType nm ∈ wT ∧ (E, nm) ∈ ncs) (hx : covers x pc = true) (h0 : x.catchType ≠ 0) (hlink : Cond.classLink RL x.catchType E ∈ wT) (hcast : Cond.castable E E ∈ wB) (hcell : H[q]? = some ce) (hv : ce.vm = .none) (hcl : s.vm.findClass E = some ce.cls)
    (kk : W p l e R s m args below meth c H locs cells slots Q (F0 m x.handlerPc ls [.ref q])) : vx_W p l e R s m args below meth c H locs cells slots Q (F0 m pc ls rest) q :=
  vx_catch hown pre x suf (htab.trans hsplit) (fun z hz => Or.inr ⟨(hpass z hz).1, by obtain ⟨-, nm, h1, h2⟩ := hpass z hz; exact ⟨nm, hts _ h1, hG.2 _ h2⟩⟩) hx h0 (hts _ hlink) (va_Nw.use rfl (hG.1.2.1 _ hcast)) hcell hv hcl kk
/-! a part of the world that stands first -/
theorem app_get {α : Type} {w r : List α} {k : Nat} {q : α} (h : w[k]? = some q) : (w ++ r)[k]? = some q := by
  rw [List.getElem?_append_left (List.getElem?_eq_some_iff.mp h).1]; exact h
theorem app_P {D : va_G} {cl : List vw_C} {w r : va_W} {H : Heap} (h : va_P D cl (w ++ r) H) : va_P D cl w H := fun k q hk => h k q (app_get hk)
theorem app_free {w r : va_W} {A : Nat → Prop} (h : va_D A (w ++ r)) : ∀ q, adI w q → A q := fun q hq => by
  obtain ⟨x, hx, rfl⟩ := List.mem_map.mp hq
  obtain ⟨k, hk⟩ := List.getElem?_of_mem hx
  exact h.2 k x (app_get hk)
theorem app_D {w r : va_W} {A : Nat → Prop} (h : va_D A (w ++ r)) : va_D (fun _ => True) w := ⟨fun i j p q hp hq e => h.1 i j p q (app_get hp) (app_get hq) e, fun _ _ _ => trivial⟩
theorem app_upd {D : va_G} {cl : List vw_C} {w r w2 : va_W} {H H1 : Heap} {A : Nat → Prop} (hP : va_P D cl (w ++ r) H) (hD : va_D A (w ++ r)) (hadr : w2.map Prod.fst = w.map Prod.fst) (hP1 : va_P D cl w2 H1) (hk : ∀ q : Nat, q < H.size → ¬ adI w q → H1[q]? = H[q]?) :
    va_P D cl (w2 ++ r) H1 ∧ va_D A (w2 ++ r) := by
  have hlen : w2.length = w.length := by
    have := congrArg List.length hadr
    rwa [List.length_map, List.length_map] at this
  have sp : ∀ (k : Nat) (x : Nat × va_E), (w2 ++ r)[k]? = some x → (k < w.length ∧ w2[k]? = some x) ∨ (w.length ≤ k ∧ (w ++ r)[k]? = some x) := fun k x hx => by
    by_cases c : k < w.length
    · rw [List.getElem?_append_left (hlen.symm ▸ c)] at hx
      exact Or.inl ⟨c, hx⟩
    · have c := Nat.not_lt.mp c
      rw [List.getElem?_append_right (hlen.symm ▸ c), hlen] at hx
      exact Or.inr ⟨c, by rw [List.getElem?_append_right c]; exact hx⟩
  have old : ∀ (k : Nat) (x : Nat × va_E), (w2 ++ r)[k]? = some x → ∃ y, (w ++ r)[k]? = some y ∧ y.1 = x.1 := fun k x hx => by
    rcases sp k x hx with ⟨h1, h2⟩ | ⟨h1, h2⟩
    · obtain ⟨y, h3, h4⟩ := adr_at hadr h2
      exact ⟨y, app_get h3, h4⟩
    · exact ⟨x, h2, rfl⟩
  refine ⟨fun k x hx => ?_, fun i j x y hx hy hxy => ?_, fun k x hx => ?_⟩
  · rcases sp k x hx with ⟨h1, h2⟩ | ⟨h1, h2⟩
    · exact hP1 k x h2
    · refine (hP k x h2).kept (hk _ ((hP k x h2).lt) fun hq => ?_)
      obtain ⟨y, hy, hyx⟩ := List.mem_map.mp hq
      obtain ⟨j, hj⟩ := List.getElem?_of_mem hy
      have e := hD.1 j k y x (app_get hj) h2 hyx
      have := (List.getElem?_eq_some_iff.mp hj).1
      omega
  · obtain ⟨x', h1, h2⟩ := old i x hx
    obtain ⟨y', h3, h4⟩ := old j y hy
    exact hD.1 i j x' y' h1 h3 (by rw [h2, h4, hxy])
  · obtain ⟨x', h1, h2⟩ := old k x hx
    rw [← h2]
    exact hD.2 k x' h1
/-- a call of a static method with handlers, over a world that stands first -/
theorem lwA {K : KT} {d' mc' n' nL pc index na : Nat} {y : MethodName} {cc cc' : ByteArray} {rt : FieldType} {hh : List (Nat × Nat × Nat × Nat)} {As rest st : List Value} {w w2 r9 : va_W} {r : Value} {own : String} {ls : Array Slot} {A : Nat → Prop}
    (hx : p.tables.exec = Jvm.exec) (hb : c.code = cc) (hml : c.maxLocals = nL) (hown : s.vm.findClass own = some m.cls) (hts : ∀ w ∈ wT, w.before args s = true) (hG : G2 K s) (hP : va_P K.1 vC (w ++ r9) H) (hD : va_D A (w ++ r9)) (hS : va_S A s.heap H locs) (hZ : ZZ A s s.heap)
    (hM : Lw l K d' mc' y cc' n' rt hh As w r w2) (hadr : w2.map Prod.fst = w.map Prod.fst)
    (hg : GoodIn wT (va_wsS own index y (wsH y cc' n' (some rt) hh))) (hd : y.cls ≠ "java/lang/invoke/MethodHandle" ∧ y.cls ≠ "java/lang/invoke/VarHandle" ∧ (parseMethodDescriptor y.desc).map (fun d => d.parameters.length) = some na)
    (hn : As.length = na) (hR : d' + 1 ≤ R.frames ∧ 8 + (n' + 11) + 60 * d' ≤ R.locals) (hf : cells + mc' ≤ R.cells ∧ slots + 6 * mc' ≤ R.slots) {lv0 : List (Nat × Value)} (hl : lv_has ls nL lv0) (hst : st = As.reverse ++ rest) (hW : (rest.map fun v => v.category).sum ≤ 8) (hdg : decode cc pc = .ok (.invokestatic index, 3))
    (kk : ∀ (H1 : Heap) (locs1 : List Loc), va_P K.1 vC (w2 ++ r9) H1 → va_D A (w2 ++ r9) → va_S A s.heap H1 locs1 → W p l e R s m args below meth c H1 locs1 (cells + mc') (slots + 6 * mc') Q (F0 m (pc + 3) ls (r :: rest))) : W p l e R s m args below meth c H locs cells slots Q (F0 m pc ls st) := by
  have hfree := app_free hD
  have hr := vx_runSW (l := l) (p := p) (R := R) (s := s) (m := m) (args := args) (c := c) (e := e) (below := below) (meth := meth) (cells := cells) (slots := slots) (locs := locs) (H := H) (g := F0 m pc ls st) (As := As) (rest := rest) ⟨hx, hb, hml, hown, hts⟩ hM (vx_cwSW na hts hg rfl rfl rfl hd hR) ⟨lw_blind, fun U hU hW9 => ⟨rfl, by rw [hU]; exact app_P hP, G2.warm hW9 hG, app_D hD, by rw [hU]; exact (ZZ.moved hW9.alike (ZZ.kept hZ hS.2.1)).narrow hfree⟩⟩ rfl hn hl.1 hst (lv_room hW) hdg hf
  intro T8 hT X
  obtain ⟨v, st₀, t, T', L, h0, X', hL, e1, e2, ⟨⟨hv, hp⟩, hF⟩, st9⟩ := hr T8 hT X
  cases hv
  obtain ⟨k1, k2, k3⟩ := vx_keep h0 e1 hS (fun q _ h => hfree q h) hfree hL hF
  obtain ⟨hP2, hD2⟩ := app_upd (H1 := T'.heap) hP hD hadr (by rw [e1]; exact hp) k2
  obtain ⟨t2, a1, b1⟩ := kk T'.heap (locs ++ L) hP2 hD2 k3 T' rfl X'
  exact ⟨t2, st9 t2 a1, b1⟩
end LCALLS
/-- a static method of the law without handlers, that makes at most mc cells -/
def Mk (l : Launch) (K : KT) (d mc : Nat) (y : MethodName) (cc : ByteArray) (n : Nat) (rt : FieldType) (As : List Value) (w : va_W) (r : Value) (w2 : va_W) : Prop :=
  Met l y (wsM y cc n (some rt)) (rmX d mc) (va_Pc As (fun U => va_P K.1 vC w U.heap ∧ G2 K U ∧ va_D (fun _ => True) w ∧ ZZ (adI w) U U.heap)) (fun _ st o t => (o = .returned (some r) ∧ va_P K.1 vC w2 t.heap) ∧ va_F (adI w) st t) mc (6 * mc) (adI w)
abbrev CtxM (p : Program) (m : MethodId) (c : Code) (cc : ByteArray) (nL : Nat) (s : State) (args : Array Value) (K : KT) (meth : Method) (rt : Option FieldType) (A : Nat → Prop) : Prop :=
  Ctx p m c cc nL s args RL K meth rt ∧ G2 K s ∧ ZZ A s s.heap
abbrev MkQ (below : List Frame) (K : KT) (As : List Value) (s : State) (w w2 : va_W) (r : Value) (mc : Nat) : State → Prop := MQ below (fun _ st o t => (o = .returned (some r) ∧ va_P K.1 vC w2 t.heap) ∧ va_F (adI w) st t) As.toArray s mc (6 * mc) (adI w)
set_option maxHeartbeats 1000000 in
theorem Mk.of {l : Launch} {K : KT} {d mc : Nat} {y : MethodName} {cc : ByteArray} {n : Nat} {rt : FieldType} {As : List Value} {w w2 : va_W} {r : Value} (hy : plainName y.cls = true) (hyc : y.cls = RL) (hn : (lg_sl As).length ≤ n)
    (k : ∀ (p : Program) (e : Env) (s : State) (m : MethodId) (below : List Frame) (meth : Method) (c : Code), CtxM p m c cc n s As.toArray K meth (some rt) (adI w) → ∀ (H : Heap) (locs : List Loc), va_P K.1 vC (w ++ []) H → va_D (adI w) (w ++ []) → va_S (adI w) s.heap H locs → ∀ ls : Array Slot, lv_has ls n (lv_args 0 As) →
      W p l e (rmX d mc) s m As.toArray below meth c H locs 0 0 (MkQ below K As s w w2 r mc) (F0 m 0 ls [])) : Mk l K d mc y cc n rt As w r w2 := by
  refine Met.ofW (cc := cc) (maxL := n) (ret := some rt) hy rfl ?_
  intro p e s m args below meth c s₁ B hml hv
  obtain ⟨rfl, hP, hG, hD, hZ⟩ := hv
  have hts0 := atoms_spec (ws := wsM y cc n (some rt)) B.pre
  have hl := lv_entry As (n := n) hn
  rw [lg_entry_eq]
  exact k p e s m below meth c ⟨⟨B.exec, B.bytes, hml, by rw [← hyc]; exact findClass_of_methodNamed B.named, fun w h => hts0 w (List.mem_cons_of_mem _ h), hG.1.1, B.returns, B.notSynchronized⟩, hG, hZ⟩ s.heap [] (by rw [List.append_nil]; exact hP) (by rw [List.append_nil]; exact adI_self hD) va_S.rf _ hl
section MCALLS
variable {p : Program} {l : Launch} {e : Env} {R : Room} {s : State} {m : MethodId} {args : Array Value} {below : List Frame} {meth : Method} {c : Code} {H : Heap} {locs : List Loc} {cells slots : Nat} {Q : State → Prop}
/-- a call of a static method of the law without handlers, over a world that stands first -/
theorem mkA {K : KT} {d' mc' n' nL pc index na : Nat} {y : MethodName} {cc cc' : ByteArray} {rt : FieldType} {As rest st : List Value} {w w2 r9 : va_W} {r : Value} {own : String} {ls : Array Slot} {A : Nat → Prop}
    (hx : p.tables.exec = Jvm.exec) (hb : c.code = cc) (hml : c.maxLocals = nL) (hown : s.vm.findClass own = some m.cls) (hts : ∀ w ∈ wT, w.before args s = true) (hG : G2 K s) (hP : va_P K.1 vC (w ++ r9) H) (hD : va_D A (w ++ r9)) (hS : va_S A s.heap H locs) (hZ : ZZ A s s.heap)
    (hM : Mk l K d' mc' y cc' n' rt As w r w2) (hadr : w2.map Prod.fst = w.map Prod.fst)
    (hg : GoodIn wT (wsS own index y (wsM y cc' n' (some rt)))) (hd : y.cls = own ∧ y.cls ≠ "java/lang/invoke/MethodHandle" ∧ y.cls ≠ "java/lang/invoke/VarHandle" ∧ (parseMethodDescriptor y.desc).map (fun d => d.parameters.length) = some na)
    (hn : As.length = na) (hR : d' + 1 ≤ R.frames ∧ 8 + (n' + 11) + 60 * d' ≤ R.locals) (hf : cells + mc' ≤ R.cells ∧ slots + 6 * mc' ≤ R.slots) {lv0 : List (Nat × Value)} (hl : lv_has ls nL lv0) (hst : st = As.reverse ++ rest) (hW : (rest.map fun v => v.category).sum ≤ 8) (hdg : decode cc pc = .ok (.invokestatic index, 3))
    (kk : ∀ (H1 : Heap) (locs1 : List Loc), va_P K.1 vC (w2 ++ r9) H1 → va_D A (w2 ++ r9) → va_S A s.heap H1 locs1 → W p l e R s m args below meth c H1 locs1 (cells + mc') (slots + 6 * mc') Q (F0 m (pc + 3) ls (r :: rest))) : W p l e R s m args below meth c H locs cells slots Q (F0 m pc ls st) := by
  have hfree := app_free hD
  have hr := va_runS (l := l) (p := p) (R := R) (s := s) (m := m) (args := args) (c := c) (e := e) (below := below) (meth := meth) (cells := cells) (slots := slots) (locs := locs) (H := H) (g := F0 m pc ls st) (As := As) (rest := rest) ⟨hx, hb, hml, hown, hts⟩ hM (cwS na hts hg rfl rfl rfl hd hR) ⟨lw_blind, fun U hU hW9 => ⟨rfl, by rw [hU]; exact app_P hP, G2.warm hW9 hG, app_D hD, by rw [hU]; exact (ZZ.moved hW9.alike (ZZ.kept hZ hS.2.1)).narrow hfree⟩⟩ rfl hn hl.1 hst (lv_room hW) hdg hf
  intro T8 hT X
  obtain ⟨v, st₀, t, T', L, h0, X', hL, e1, e2, ⟨⟨hv, hp⟩, hF⟩, st9⟩ := hr T8 hT X
  cases hv
  obtain ⟨k1, k2, k3⟩ := vx_keep h0 e1 hS (fun q _ h => hfree q h) hfree hL hF
  obtain ⟨hP2, hD2⟩ := app_upd (H1 := T'.heap) hP hD hadr (by rw [e1]; exact hp) k2
  obtain ⟨t2, a1, b1⟩ := kk T'.heap (locs ++ L) hP2 hD2 k3 T' rfl X'
  exact ⟨t2, st9 t2 a1, b1⟩
/-- a call of a method that reads, of an object whose world stands first -/
theorem rdA {K : KT} {d' n' nL pc index na ci q0 b : Nat} {y : MethodName} {cc cc' : ByteArray} {rt : FieldType} {As rest st : List Value} {w r9 : va_W} {r : Int32} {own C : String} {T : u_T} {N : Nat} {fs : List Value} {ls : Array Slot}
    (hx : p.tables.exec = Jvm.exec) (hb : c.code = cc) (hml : c.maxLocals = nL) (hown : s.vm.findClass own = some m.cls) (hts : ∀ w ∈ wT, w.before args s = true) (hG : G0 K s) (hP : va_P K.1 vC (w ++ r9) H)
    (hM : Rd l K d' y cc' n' rt (.ref b :: As) w r) (he : w[q0]? = some (b, .inr (ci, fs))) (hc : vC[ci]? = some (C, T, N))
    (hg : GoodIn wT (wsV own index C y (wsM y cc' n' (some rt)))) (hd : y.cls = C ∧ y.cls ≠ "java/lang/invoke/MethodHandle" ∧ y.cls ≠ "java/lang/invoke/VarHandle" ∧ (parseMethodDescriptor y.desc).map (fun d => d.parameters.length) = some na)
    (hn : As.length = na) (hR : d' + 1 ≤ R.frames ∧ 8 + (n' + 11) + 60 * d' ≤ R.locals) (hf : cells ≤ R.cells ∧ slots ≤ R.slots) {lv0 : List (Nat × Value)} (hl : lv_has ls nL lv0) (hst : st = As.reverse ++ .ref b :: rest) (hW : (rest.map fun v => v.category).sum ≤ 8) (hdg : decode cc pc = .ok (.invokevirtual index, 3))
    (kk : W p l e R s m args below meth c H locs cells slots Q (F0 m (pc + 3) ls (.int r :: rest))) : W p l e R s m args below meth c H locs cells slots Q (F0 m pc ls st) :=
  rdVs hx hb hml hown hts hG (app_P hP) hM he hc hg hd hn hR hf hl hst hW hdg kk
/-- a call of a method that writes, of an object whose world stands first -/
theorem wrA {K : KT} {d' n' nL pc index na ci q0 b : Nat} {y : MethodName} {cc cc' : ByteArray} {rt : Option FieldType} {As rest st : List Value} {w w2 r9 : va_W} {ro : Option Value} {own C : String} {T : u_T} {N : Nat} {fs : List Value} {ls : Array Slot} {A : Nat → Prop}
    (hx : p.tables.exec = Jvm.exec) (hb : c.code = cc) (hml : c.maxLocals = nL) (hown : s.vm.findClass own = some m.cls) (hts : ∀ w ∈ wT, w.before args s = true) (hG : G0 K s) (hP : va_P K.1 vC (w ++ r9) H) (hD : va_D A (w ++ r9)) (hS : va_S A s.heap H locs)
    (hM : Wr l K d' y cc' n' rt (.ref b :: As) w ro w2) (hadr : w2.map Prod.fst = w.map Prod.fst) (he : w[q0]? = some (b, .inr (ci, fs))) (hc : vC[ci]? = some (C, T, N))
    (hg : GoodIn wT (wsV own index C y (wsM y cc' n' rt))) (hd : y.cls = C ∧ y.cls ≠ "java/lang/invoke/MethodHandle" ∧ y.cls ≠ "java/lang/invoke/VarHandle" ∧ (parseMethodDescriptor y.desc).map (fun d => d.parameters.length) = some na)
    (hn : As.length = na) (hR : d' + 1 ≤ R.frames ∧ 8 + (n' + 11) + 60 * d' ≤ R.locals) (hf : cells ≤ R.cells ∧ slots ≤ R.slots) {lv0 : List (Nat × Value)} (hl : lv_has ls nL lv0) (hst : st = As.reverse ++ .ref b :: rest) (hW : (rest.map fun v => v.category).sum ≤ 8) (hdg : decode cc pc = .ok (.invokevirtual index, 3))
    (kk : ∀ (H1 : Heap) (locs1 : List Loc), va_P K.1 vC (w2 ++ r9) H1 → va_D A (w2 ++ r9) → va_S A s.heap H1 locs1 → W p l e R s m args below meth c H1 locs1 cells slots Q (F0 m (pc + 3) ls (ro.toList ++ rest))) : W p l e R s m args below meth c H locs cells slots Q (F0 m pc ls st) := by
  have hfree := app_free hD
  have hr := va_runV (R := R) (e := e) (below := below) (meth := meth) (cells := cells) (slots := slots) (locs := locs) (H := H) (g := F0 m pc ls st) (As := As) (rest := rest) ⟨hx, hb, hml, hown, hts⟩ hM (cwV na hts hg rfl rfl rfl hd hR) ⟨wr_blind, va_recv hG.1 (app_P hP) hc he, fun U hU hW => ⟨rfl, by rw [hU]; exact app_P hP, G0.warm hW hG, app_D hD⟩⟩ rfl hn hl.1 hst (lv_room hW) hdg ⟨hf.1, hf.2⟩
  intro T9 hT X
  obtain ⟨v, st₀, t, T', L, h0, X', hL, e1, e2, ⟨⟨hv, hp⟩, hz, hk⟩, st9⟩ := hr T9 hT X
  cases hv
  rw [h0] at hz hk
  obtain ⟨hP2, hD2⟩ := app_upd (H1 := T'.heap) hP hD hadr (by rw [e1]; exact hp) (fun q h1 h2 => by rw [e1]; exact hk q h1 h2)
  obtain ⟨t2, a1, b1⟩ := kk T'.heap (locs ++ L) hP2 hD2 ⟨Nat.le_trans hS.1 (by rw [e1]; exact hz), fun q h1 h2 => by rw [e1, hk q (Nat.lt_of_lt_of_le h1 hS.1) (fun z => h2 (hfree q z))]; exact hS.2.1 q h1 h2, fun q hq => by
      rcases List.mem_append.mp hq with h | h
      · exact hS.2.2 q h
      · exact hfree _ (hL q h)⟩ T' rfl X'
  exact ⟨t2, st9 t2 a1, b1⟩
/-- the script is read -/
def QAt (r : Int32) : Array Value → State → Outcome → State → Prop := QcRead r
def At (l : Launch) (b L : Nat) (xs : Nat → Int32) (k r : Int32) : Prop :=
  Met l yL_at (wsM yL_at cL_at 2 (some .int)) (rmL 0) (va_Pc [.ref b, .int k] (fun U => va_X b L xs U U.heap ∧ b < U.heap.size)) (QcRead r) 0 0 (fun _ => False)
theorem at_blind {b L : Nat} {xs : Nat → Int32} {As : List Value} : FrameBlind (va_Pc As (fun U => va_X b L xs U U.heap ∧ b < U.heap.size)) := fun a U g mk h => ⟨h.1, va_X.moved (u := U) (U := U.calling g mk a) (Vm.Alike.refl U.vm) h.2.1, h.2.2⟩
/-- what the law takes from its script -/
def atS (L : Nat) (xs : Nat → Int32) (k : Int32) : Int32 := if k < Int32.ofNat L then xs k.toNatClampNeg else 0
set_option maxHeartbeats 1000000 in
theorem c_at (l : Launch) (b L : Nat) (xs : Nat → Int32) (k : Int32) (hk : ¬ k < 0) (hL : L < 2147483648) : At l b L xs k (atS L xs k) := by
  refine Met.ofW (cc := cL_at) (maxL := 2) (ret := some .int) (by decide +kernel) rfl ?_
  intro p e s m args below meth c s₁ B hml hv
  obtain ⟨rfl, hX, hbl⟩ := hv
  have hl := lv_entry [Value.ref b, .int k] (n := 2) (Nat.le_of_ble_eq_true rfl)
  rw [lg_entry_eq]
  have hl : lv_has _ 2 [(0, .ref b), (1, .int k)] := hl
  revert hl
  generalize ((lg_sl [Value.ref b, .int k] ++ List.replicate (2 - (lg_sl [Value.ref b, .int k]).length) Slot.unset).toArray) = ls
  intro hl
  have hx := B.exec
  have hb := B.bytes
  have hr := B.returns
  have hlk := B.notSynchronized
  have hS : va_S (fun _ => False) s.heap s.heap [] := va_S.rf
  refine lv_iload_n (pc := 0) hx hb dL_at_0 rfl (lv_at hl 1 rfl) ?_
  refine lv_aload_n (pc := 1) hx hb dL_at_1 rfl (lv_at hl 0 rfl) ?_
  refine va_slen (A := fun _ => False) (pc := 2) hx hb hX hbl (fun h => h) hS dL_at_2 ?_
  refine lv_icmp_ge (tgt := 12) (pc := 3) hx hb dL_at_3 (by decide) (fun c1 => ?_) (fun c1 => ?_)
  · refine lv_iconst (v := (0 : Int32)) (pc := 12) hx hb dL_at_12 (by decide) ?_
    rw [show atS L xs k = 0 from if_neg (fun z => absurd z (Int32.not_lt.mpr c1))]
    exact W.iret hx hb hr (fun t ht hW => ⟨rfl, ht⟩) (fun q hq => absurd hq List.not_mem_nil) dL_at_13 hlk
  · have c2 : k < Int32.ofNat L := Int32.not_le.mp c1
    refine lv_aload_n (pc := 6) hx hb dL_at_6 rfl (lv_at hl 0 rfl) ?_
    refine lv_iload_n (pc := 7) hx hb dL_at_7 rfl (lv_at hl 1 rfl) ?_
    refine va_sld (A := fun _ => False) (pc := 8) hx hb hX hbl (fun h => h) hS (vin hL hk c1) dL_at_8 ?_
    refine lv_goto (tgt := 13) (pc := 9) hx hb dL_at_9 (by decide) ?_
    rw [show atS L xs k = xs k.toNatClampNeg from if_pos c2]
    exact W.iret hx hb hr (fun t ht hW => ⟨rfl, ht⟩) (fun q hq => absurd hq List.not_mem_nil) dL_at_13 hlk
theorem atA {K : KT} {nL pc index b L : Nat} {cc : ByteArray} {xs : Nat → Int32} {k r : Int32} {rest st : List Value} {ls : Array Slot} {A : Nat → Prop}
    (hx : p.tables.exec = Jvm.exec) (hb : c.code = cc) (hml : c.maxLocals = nL) (hown : s.vm.findClass RL = some m.cls) (hts : ∀ w ∈ wT, w.before args s = true) (hX : va_X b L xs s s.heap) (hbl : b < s.heap.size) (hbA : ¬ A b) (hS : va_S A s.heap H locs)
    (hM : At l b L xs k r) (hg : GoodIn wT (wsS RL index yL_at (wsM yL_at cL_at 2 (some .int))))
    (hR : 1 ≤ R.frames ∧ 8 + (2 + 11) ≤ R.locals) (hf : cells ≤ R.cells ∧ slots ≤ R.slots) {lv0 : List (Nat × Value)} (hl : lv_has ls nL lv0) (hst : st = .int k :: .ref b :: rest) (hW : (rest.map fun v => v.category).sum ≤ 8) (hdg : decode cc pc = .ok (.invokestatic index, 3))
    (kk : W p l e R s m args below meth c H locs cells slots Q (F0 m (pc + 3) ls (.int r :: rest))) : W p l e R s m args below meth c H locs cells slots Q (F0 m pc ls st) :=
  W.callR (W.runS (As := [.ref b, .int k]) (rest := rest) ⟨hx, hb, hml, hown, hts⟩ hM (cwS 2 hts hg rfl rfl rfl (by decide +kernel) ⟨hR.1, hR.2⟩) ⟨at_blind, fun U hU hW => ⟨rfl, by rw [hU]; exact va_X.moved hW.alike (va_X.kept hX (hS.2.1 b hbl hbA)), by rw [hU]; exact Nat.lt_of_lt_of_le hbl hS.1⟩⟩ rfl rfl hl.1 hst (lv_room hW) hdg ⟨hf.1, hf.2⟩) kk
theorem orW1 {α : Type} {P : α → Prop} {x a : α} (c : x = a) {k : Prop} (ha : k → P a) (hk : k) : P x := by rw [c]; exact ha hk
theorem orW2 {α : Type} {P : α → Prop} {x a b : α} (c : x = a ∨ x = b) {k : Prop} (ha : k → P a) (hb : k → P b) (hk : k) : P x := by
  rcases c with c | c
  · rw [c]; exact ha hk
  · rw [c]; exact hb hk
theorem orW3 {α : Type} {P : α → Prop} {x a b d : α} (c : x = a ∨ x = b ∨ x = d) {k : Prop} (ha : k → P a) (hb : k → P b) (hd : k → P d) (hk : k) : P x := by
  rcases c with c | c | c
  · rw [c]; exact ha hk
  · rw [c]; exact hb hk
  · rw [c]; exact hd hk
/-- a remainder -/
def iremO (x y : Int32) : Option Int32 := if y = 0 then none else some (x - x / y * y)
theorem iremO_in {x y v : Int32} (h : iremO x y = some v) : ¬ y = 0 ∧ x - x / y * y = v := by
  unfold iremO at h
  by_cases c : y = 0
  · rw [if_pos c] at h; cases h
  · rw [if_neg c] at h; exact ⟨c, Option.some.inj h⟩
def dmulO (x y : UInt64) : Option UInt64 := if FP.dmul x y &&& 0x7fffffffffffffff ≤ 0x7ff0000000000000 then some (FP.dmul x y) else none
theorem dmulO_in {x y v : UInt64} (h : dmulO x y = some v) : vf_n64 (FP.dmul x y) ∧ FP.dmul x y = v := by
  unfold dmulO at h
  by_cases c : FP.dmul x y &&& 0x7fffffffffffffff ≤ 0x7ff0000000000000
  · rw [if_pos c] at h; exact ⟨c, Option.some.inj h⟩
  · rw [if_neg c] at h; cases h
theorem sw_out7 {x : Int32} (h0 : ¬ x = (0 : Int32)) (h1 : ¬ x = (1 : Int32)) (h2 : ¬ x = (2 : Int32)) (h3 : ¬ x = (3 : Int32)) (h4 : ¬ x = (4 : Int32)) (h5 : ¬ x = (5 : Int32)) (h6 : ¬ x = (6 : Int32)) : x.toInt < 0 ∨ 6 < x.toInt := by
  have e0 : x.toInt ≠ 0 := fun e => h0 (Int32.toInt_inj.mp e)
  have e1 : x.toInt ≠ 1 := fun e => h1 (Int32.toInt_inj.mp e)
  have e2 : x.toInt ≠ 2 := fun e => h2 (Int32.toInt_inj.mp e)
  have e3 : x.toInt ≠ 3 := fun e => h3 (Int32.toInt_inj.mp e)
  have e4 : x.toInt ≠ 4 := fun e => h4 (Int32.toInt_inj.mp e)
  have e5 : x.toInt ≠ 5 := fun e => h5 (Int32.toInt_inj.mp e)
  have e6 : x.toInt ≠ 6 := fun e => h6 (Int32.toInt_inj.mp e)
  omega
end MCALLS
