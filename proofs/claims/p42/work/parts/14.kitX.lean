/-! contracts of methods that may throw; the world of the whole object -/
abbrev PlanS : Type := (Nat → Int32) × (Nat → Int32) × (Nat → Int32) × (Nat → Int32) × Int32 × Int32
def strs : List (Nat × String) := [(92, "the position is taken"), (119, "there are 10 constraints"), (125, "the segment is taken, met or crossed"), (192, "there is no edge between these points"), (198, "there is no such index"), (218, "there are no points"), (222, "there is no such length"), (225, "there are no edges"), (242, "three points on a line have no circle"), (252, "this is no inner edge"), (266, "the position is outside"), (287, "there is no change that can be undone"), (292, "nothing was saved"), (298, "there is no such point"), (300, "there is no such constraint"), (302, "there is no such triangle"), (304, "there is no such edge"), (309, "a coordinate is out of range"), (311, "there are 16 points"), (319, "the point is an end of a constraint"), (321, "the two points are the same"), (323, "neither 0 nor 1"), (325, "a triangle has the corners 0 to 2")]
def nonGood : Cond → Bool
  | .castable .. => true
  | .declares _ => true
  | _ => false
def wB : List Cond := tables_1.filter nonGood
theorem wB_tabs {w : Cond} (h : w ∈ wB) : w.onTables = true := by
  have h2 := (List.mem_filter.mp h).2
  cases w <;> first | rfl | (simp [nonGood] at h2)
theorem wB_warm {w : Cond} {s U : State} (h : w ∈ wB) (hW : s.WarmedH U.vm) (hZ : va_Nw w s) : va_Nw w U := by
  have h2 := (List.mem_filter.mp h).2
  cases w <;> first | exact va_Nw.warmC hW hZ | exact va_Nw.warmD hW hZ | (simp [nonGood] at h2)
def G1 (K : KT) (U : State) : Prop := G0 K U ∧ (∀ w ∈ wB, va_Nw w U) ∧ ∀ q ∈ strs, ∃ sa, vk_R RX6 q.1 q.2 sa U
theorem G1.warm {K : KT} {s U : State} (hW : s.WarmedH U.vm) (h : G1 K s) : G1 K U := ⟨G0.warm hW h.1, fun w hw => wB_warm hw hW (h.2.1 w hw), fun q hq => (h.2.2 q hq).imp fun sa hs => vk_R.warm hW hs⟩
theorem G1.calling {K : KT} {U : State} (g : JFrame) (mk : MethodId) (a : Array Value) (h : G1 K U) : G1 K (U.calling g mk a) := ⟨G0.calling g mk a h.1, fun w hw => va_Nw.same (u := U) (U := U.calling g mk a) (wB_tabs hw) rfl (h.2.1 w hw), fun q hq => (h.2.2 q hq).imp fun sa hs => vk_R.same (u := U) (U := U.calling g mk a) rfl hs⟩
def ZZ (A : Nat → Prop) (U : State) (H : Heap) : Prop := vx_Zq Bundle.tN "UNASSIGNED_STACK" Bundle.steD A U H ∧ vx_Zq Bundle.tN "SUPPRESSED_SENTINEL" Bundle.listD A U H
theorem ZZ.moved {A : Nat → Prop} {u U : State} {H : Heap} (hvm : u.vm.Alike U.vm) (h : ZZ A u H) : ZZ A U H := ⟨vx_Zq.moved hvm h.1, vx_Zq.moved hvm h.2⟩
theorem ZZ.kept {A : Nat → Prop} {U : State} {H H1 : Heap} (h : ZZ A U H) (hq : ∀ a : Nat, a < H.size → ¬ A a → H1[a]? = H[a]?) : ZZ A U H1 := ⟨vx_Zq.kept h.1 hq, vx_Zq.kept h.2 hq⟩
theorem ZZ.narrow {A B : Nat → Prop} {U : State} {H : Heap} (h : ZZ A U H) (hAB : ∀ q, B q → A q) : ZZ B U H := ⟨vx_Zq.narrow h.1 hAB, vx_Zq.narrow h.2 hAB⟩
def rmX (d mc : Nat) : Room := { frames := d, cells := mc, slots := 6 * mc, locals := 60 * d }
abbrev nmS : List String := ["java/lang/RuntimeException", "java/lang/Exception"]
/-- what is to be known of a class of exceptions that RX6 throws by the pool's entry ic -/
def EF (E : String) (ic : Nat) : Prop := Bundle.fit E = true ∧ (∀ w ∈ (vx_atS RX6 ic E nmS).filter goodWord, w ∈ wT) ∧ (∀ w ∈ (vx_atS RX6 ic E nmS).filter (fun w => !goodWord w), w ∈ wB) ∧ (∀ w ∈ vx_atS RX6 ic E nmS, vx_ot w = true)
theorem ef_IAE : EF "java/lang/IllegalArgumentException" 224 := ⟨by decide +kernel, by decide +kernel, by decide +kernel, by decide +kernel⟩
theorem ef_ISE : EF "java/lang/IllegalStateException" 121 := ⟨by decide +kernel, by decide +kernel, by decide +kernel, by decide +kernel⟩
theorem ef_UOE : EF "java/lang/UnsupportedOperationException" 94 := ⟨by decide +kernel, by decide +kernel, by decide +kernel, by decide +kernel⟩
theorem ef_IOB : EF "java/lang/IndexOutOfBoundsException" 208 := ⟨by decide +kernel, by decide +kernel, by decide +kernel, by decide +kernel⟩
/-- the same, of a class that hands its text on by the entry 13 -/
def EFN (E : String) (ic : Nat) : Prop := Bundle.fit E = true ∧ (∀ w ∈ (nsAt RX6 ic E nmS).filter goodWord, w ∈ wT) ∧ (∀ w ∈ (nsAt RX6 ic E nmS).filter (fun w => !goodWord w), w ∈ wB) ∧ (∀ w ∈ nsAt RX6 ic E nmS, vx_ot w = true)
theorem ef_NSE : EFN "java/util/NoSuchElementException" 194 := ⟨by decide +kernel, by decide +kernel, by decide +kernel, by decide +kernel⟩
theorem ef_ARE : EF "java/lang/ArithmeticException" 244 := ⟨by decide +kernel, by decide +kernel, by decide +kernel, by decide +kernel⟩
/-- a method that may throw: o tells which class, or what it answers and its world behind it -/
def Xm (l : Launch) (K : KT) (d mc : Nat) (y : MethodName) (cc : ByteArray) (n : Nat) (rt : Option FieldType) (As : List Value) (w : va_W) (o : String ⊕ (Option Value × va_W)) : Prop :=
  vx_Met l y (wsM y cc n rt) (rmX d mc) (va_Pc As (fun U => va_P K.1 vC w U.heap ∧ G1 K U ∧ va_D (fun _ => True) w ∧ ZZ (adI w) U U.heap)) (fun _ st oc t => (∃ (v : Option Value) (w2 : va_W), o = .inr (v, w2) ∧ oc = .returned v ∧ va_P K.1 vC w2 t.heap) ∧ va_F (adI w) st t) (fun E st t => o = .inl E ∧ va_P K.1 vC w t.heap ∧ va_F (adI w) st t) mc (6 * mc) (adI w)
abbrev XQ (K : KT) (w : va_W) (o : String ⊕ (Option Value × va_W)) : Array Value → State → Outcome → State → Prop := fun _ st oc t => (∃ (v : Option Value) (w2 : va_W), o = .inr (v, w2) ∧ oc = .returned v ∧ va_P K.1 vC w2 t.heap) ∧ va_F (adI w) st t
abbrev XX (K : KT) (w : va_W) (o : String ⊕ (Option Value × va_W)) : String → State → State → Prop := fun E st t => o = .inl E ∧ va_P K.1 vC w t.heap ∧ va_F (adI w) st t
/-- what a body that may throw knows of itself -/
abbrev CtxX (l : Launch) (p : Program) (m : MethodId) (c : Code) (cc : ByteArray) (nL : Nat) (s : State) (args : Array Value) (own : String) (K : KT) (meth : Method) (rt : Option FieldType) (w : va_W) : Prop :=
  Ctx p m c cc nL s args own K meth rt ∧ l.stackTraces = false ∧ (∀ x ∈ c.exceptionTable.toList, False) ∧ G1 K s ∧ ZZ (adI w) s s.heap
set_option maxHeartbeats 1000000 in
theorem Xm.of {l : Launch} {K : KT} {d mc : Nat} {y : MethodName} {cc : ByteArray} {n : Nat} {rt : Option FieldType} {As : List Value} {w : va_W} {o : String ⊕ (Option Value × va_W)} (hl0 : l.stackTraces = false) (hy : plainName y.cls = true) (hn : (lg_sl As).length ≤ n)
    (k : ∀ (p : Program) (e : Env) (s : State) (m : MethodId) (below : List Frame) (meth : Method) (c : Code), CtxX l p m c cc n s As.toArray y.cls K meth rt w → ∀ (H : Heap) (locs : List Loc), va_P K.1 vC w H → va_D (adI w) w → va_S (adI w) s.heap H locs → ∀ ls : Array Slot, lv_has ls n (lv_args 0 As) →
      W p l e (rmX d mc) s m As.toArray below meth c H locs 0 0 (vx_MQ below (XQ K w o) (XX K w o) As.toArray s mc (6 * mc) (adI w)) (F0 m 0 ls [])) : Xm l K d mc y cc n rt As w o := by
  refine vx_ofW (cc := cc) (maxL := n) (ret := rt) hy rfl ?_
  intro p e s m args below meth c s₁ B hml ht hv
  obtain ⟨rfl, hP, hG, hD, hZ⟩ := hv
  have hts0 := atoms_spec (ws := wsM y cc n rt) B.pre
  have hl := lv_entry As (n := n) hn
  rw [lg_entry_eq]
  exact k p e s m below meth c ⟨⟨B.exec, B.bytes, hml, findClass_of_methodNamed B.named, fun w h => hts0 w (List.mem_cons_of_mem _ h), hG.1, B.returns, B.notSynchronized⟩, hl0, ht, hG, hZ⟩ s.heap [] hP (adI_self hD) va_S.rf _ hl
section XCALLS
variable {p : Program} {l : Launch} {e : Env} {R : Room} {s : State} {m : MethodId} {args : Array Value} {below : List Frame} {meth : Method} {c : Code} {H : Heap} {locs : List Loc} {cells slots : Nat} {Q : State → Prop}
theorem xm_blind {K : KT} {As : List Value} {w : va_W} : FrameBlind (va_Pc As (fun U => va_P K.1 vC w U.heap ∧ G1 K U ∧ va_D (fun _ => True) w ∧ ZZ (adI w) U U.heap)) := fun a U g mk h => ⟨h.1, h.2.1, G1.calling g mk a h.2.2.1, h.2.2.2.1, ZZ.moved (u := U) (U := U.calling g mk a) (Vm.Alike.refl U.vm) h.2.2.2.2⟩
theorem va_P_kept {D : va_G} {cl : List vw_C} {ws : va_W} {H H1 : Heap} (h : va_P D cl ws H) (hk : ∀ q : Nat, q < H.size → H1[q]? = H[q]?) : va_P D cl ws H1 := fun k x hx => (h k x hx).kept (hk _ (h k x hx).lt)
/-- throw new E("text") -/
theorem xThrow {K : KT} {pc nL mc ik is ic : Nat} {cc : ByteArray} {E text : String} {rt : Option FieldType} {w : va_W} {o : String ⊕ (Option Value × va_W)} {ls : Array Slot} {rest : List Value} {lv0 : List (Nat × Value)} (C0 : CtxX l p m c cc nL s args RX6 K meth rt w)
    (hE : EF E ic) (hk : Cond.classLink RX6 ik E ∈ wT) (hini : Cond.initialized E ∈ wT) (hst : (is, text) ∈ strs) (hP : va_P K.1 vC w H) (hS : va_S (adI w) s.heap H locs) (hl : lv_has ls nL lv0)
    (d0 : decode cc pc = .ok (.new ik, 3)) (d3 : decode cc (pc + 3) = .ok (.dup, 1)) (d4 : decode cc (pc + 4) = .ok (.ldc is, 2)) (d6 : decode cc (pc + 6) = .ok (.invokespecial ic, 3)) (d9 : decode cc (pc + 9) = .ok (.athrow, 1))
    (hRf : nmS.length + 3 < R.frames) (hRl : (rest.map fun v => v.category).sum + (13 * (nmS.length + 1) + 43) ≤ R.locals) (hRc : cells + 1 ≤ R.cells) (hRs : slots + 6 ≤ R.slots) (hc : cells + 1 ≤ mc) (hs : slots + 6 ≤ 6 * mc) (ho : o = .inl E) :
    W p l e R s m args below meth c H locs cells slots (vx_MQ below (XQ K w o) (XX K w o) args s mc (6 * mc) (adI w)) (F0 m pc ls rest) := by
  obtain ⟨⟨hx, hb, hml, hown, hts, hG, hr, hlk⟩, hl0, ht, hG1, hZ⟩ := C0
  obtain ⟨hfit, h1, h2, h3⟩ := hE
  obtain ⟨sa, hsa⟩ := hG1.2.2 _ hst
  refine vx_throwS (A := adI w) (names := nmS) (sa := sa) (text := text) hx hb hl0 hown hfit (by decide +kernel) (hts _ hk) (hts _ hini) hsa (vx_hat (fun w hw => hts _ (h1 w hw)) h2 (fun w hw => va_Nw.use (wB_tabs hw) (hG1.2.1 w hw))) ?_ hZ.1 hZ.2 hS (hl.1.trans hml.symm) d0 d3 d4 d6 d9 (fun x hx => (ht x hx).elim) hRf hRl hRc hRs hlk ?_ hS.2.2 hc hs
  · intro w9 hw9
    rcases List.mem_cons.mp hw9 with e9 | hw9
    · rw [e9]; rfl
    · rcases List.mem_cons.mp hw9 with e9 | hw9
      · rw [e9]; rfl
      · exact h3 w9 hw9
  · intro t hA hz hq
    refine ⟨ho, va_P_kept hP hq, Nat.le_trans hS.1 hz, fun q q1 q2 => ?_⟩
    rw [hq q (Nat.lt_of_lt_of_le q1 hS.1)]
    exact hS.2.1 q q1 q2
/-- the same, the text by a wide index -/
theorem xThrowW {K : KT} {pc nL mc ik is ic : Nat} {cc : ByteArray} {E text : String} {rt : Option FieldType} {w : va_W} {o : String ⊕ (Option Value × va_W)} {ls : Array Slot} {rest : List Value} {lv0 : List (Nat × Value)} (C0 : CtxX l p m c cc nL s args RX6 K meth rt w)
    (hE : EF E ic) (hk : Cond.classLink RX6 ik E ∈ wT) (hini : Cond.initialized E ∈ wT) (hst : (is, text) ∈ strs) (hP : va_P K.1 vC w H) (hS : va_S (adI w) s.heap H locs) (hl : lv_has ls nL lv0)
    (d0 : decode cc pc = .ok (.new ik, 3)) (d3 : decode cc (pc + 3) = .ok (.dup, 1)) (d4 : decode cc (pc + 4) = .ok (.ldc_w is, 3)) (d7 : decode cc (pc + 7) = .ok (.invokespecial ic, 3)) (d10 : decode cc (pc + 10) = .ok (.athrow, 1))
    (hRf : nmS.length + 3 < R.frames) (hRl : (rest.map fun v => v.category).sum + (13 * (nmS.length + 1) + 43) ≤ R.locals) (hRc : cells + 1 ≤ R.cells) (hRs : slots + 6 ≤ R.slots) (hc : cells + 1 ≤ mc) (hs : slots + 6 ≤ 6 * mc) (ho : o = .inl E) :
    W p l e R s m args below meth c H locs cells slots (vx_MQ below (XQ K w o) (XX K w o) args s mc (6 * mc) (adI w)) (F0 m pc ls rest) := by
  obtain ⟨⟨hx, hb, hml, hown, hts, hG, hr, hlk⟩, hl0, ht, hG1, hZ⟩ := C0
  obtain ⟨hfit, h1, h2, h3⟩ := hE
  obtain ⟨sa, hsa⟩ := hG1.2.2 _ hst
  refine vx_throwSW (A := adI w) (names := nmS) (sa := sa) (text := text) hx hb hl0 hown hfit (by decide +kernel) (hts _ hk) (hts _ hini) hsa (vx_hat (fun w hw => hts _ (h1 w hw)) h2 (fun w hw => va_Nw.use (wB_tabs hw) (hG1.2.1 w hw))) ?_ hZ.1 hZ.2 hS (hl.1.trans hml.symm) d0 d3 d4 d7 d10 (fun x hx => (ht x hx).elim) hRf hRl hRc hRs hlk ?_ hS.2.2 hc hs
  · intro w9 hw9
    rcases List.mem_cons.mp hw9 with e9 | hw9
    · rw [e9]; rfl
    · rcases List.mem_cons.mp hw9 with e9 | hw9
      · rw [e9]; rfl
      · exact h3 w9 hw9
  · intro t hA hz hq
    refine ⟨ho, va_P_kept hP hq, Nat.le_trans hS.1 hz, fun q q1 q2 => ?_⟩
    rw [hq q (Nat.lt_of_lt_of_le q1 hS.1)]
    exact hS.2.1 q q1 q2
/-- throw new E("text"), E of the other kind -/
theorem xThrowN {K : KT} {pc nL mc ik is ic : Nat} {cc : ByteArray} {E text : String} {rt : Option FieldType} {w : va_W} {o : String ⊕ (Option Value × va_W)} {ls : Array Slot} {rest : List Value} {lv0 : List (Nat × Value)} (C0 : CtxX l p m c cc nL s args RX6 K meth rt w)
    (hE : EFN E ic) (hk : Cond.classLink RX6 ik E ∈ wT) (hini : Cond.initialized E ∈ wT) (hst : (is, text) ∈ strs) (hP : va_P K.1 vC w H) (hS : va_S (adI w) s.heap H locs) (hl : lv_has ls nL lv0)
    (d0 : decode cc pc = .ok (.new ik, 3)) (d3 : decode cc (pc + 3) = .ok (.dup, 1)) (d4 : decode cc (pc + 4) = .ok (.ldc is, 2)) (d6 : decode cc (pc + 6) = .ok (.invokespecial ic, 3)) (d9 : decode cc (pc + 9) = .ok (.athrow, 1))
    (hRf : nmS.length + 3 < R.frames) (hRl : (rest.map fun v => v.category).sum + (13 * (nmS.length + 1) + 43) ≤ R.locals) (hRc : cells + 1 ≤ R.cells) (hRs : slots + 6 ≤ R.slots) (hc : cells + 1 ≤ mc) (hs : slots + 6 ≤ 6 * mc) (ho : o = .inl E) :
    W p l e R s m args below meth c H locs cells slots (vx_MQ below (XQ K w o) (XX K w o) args s mc (6 * mc) (adI w)) (F0 m pc ls rest) := by
  obtain ⟨⟨hx, hb, hml, hown, hts, hG, hr, hlk⟩, hl0, ht, hG1, hZ⟩ := C0
  obtain ⟨hfit, h1, h2, h3⟩ := hE
  obtain ⟨sa, hsa⟩ := hG1.2.2 _ hst
  refine ns_throwS (A := adI w) (names := nmS) (sa := sa) (text := text) hx hb hl0 hown hfit (by decide +kernel) (hts _ hk) (hts _ hini) hsa (vx_hat (fun w hw => hts _ (h1 w hw)) h2 (fun w hw => va_Nw.use (wB_tabs hw) (hG1.2.1 w hw))) ?_ hZ.1 hZ.2 hS (hl.1.trans hml.symm) d0 d3 d4 d6 d9 (fun x hx => (ht x hx).elim) hRf hRl hRc hRs hlk ?_ hS.2.2 hc hs
  · intro w9 hw9
    rcases List.mem_cons.mp hw9 with e9 | hw9
    · rw [e9]; rfl
    · rcases List.mem_cons.mp hw9 with e9 | hw9
      · rw [e9]; rfl
      · exact h3 w9 hw9
  · intro t hA hz hq
    refine ⟨ho, va_P_kept hP hq, Nat.le_trans hS.1 hz, fun q q1 q2 => ?_⟩
    rw [hq q (Nat.lt_of_lt_of_le q1 hS.1)]
    exact hS.2.1 q q1 q2
/-- .. by a wide index -/
theorem xThrowNW {K : KT} {pc nL mc ik is ic : Nat} {cc : ByteArray} {E text : String} {rt : Option FieldType} {w : va_W} {o : String ⊕ (Option Value × va_W)} {ls : Array Slot} {rest : List Value} {lv0 : List (Nat × Value)} (C0 : CtxX l p m c cc nL s args RX6 K meth rt w)
    (hE : EFN E ic) (hk : Cond.classLink RX6 ik E ∈ wT) (hini : Cond.initialized E ∈ wT) (hst : (is, text) ∈ strs) (hP : va_P K.1 vC w H) (hS : va_S (adI w) s.heap H locs) (hl : lv_has ls nL lv0)
    (d0 : decode cc pc = .ok (.new ik, 3)) (d3 : decode cc (pc + 3) = .ok (.dup, 1)) (d4 : decode cc (pc + 4) = .ok (.ldc_w is, 3)) (d7 : decode cc (pc + 7) = .ok (.invokespecial ic, 3)) (d10 : decode cc (pc + 10) = .ok (.athrow, 1))
    (hRf : nmS.length + 3 < R.frames) (hRl : (rest.map fun v => v.category).sum + (13 * (nmS.length + 1) + 43) ≤ R.locals) (hRc : cells + 1 ≤ R.cells) (hRs : slots + 6 ≤ R.slots) (hc : cells + 1 ≤ mc) (hs : slots + 6 ≤ 6 * mc) (ho : o = .inl E) :
    W p l e R s m args below meth c H locs cells slots (vx_MQ below (XQ K w o) (XX K w o) args s mc (6 * mc) (adI w)) (F0 m pc ls rest) := by
  obtain ⟨⟨hx, hb, hml, hown, hts, hG, hr, hlk⟩, hl0, ht, hG1, hZ⟩ := C0
  obtain ⟨hfit, h1, h2, h3⟩ := hE
  obtain ⟨sa, hsa⟩ := hG1.2.2 _ hst
  refine ns_throwSW (A := adI w) (names := nmS) (sa := sa) (text := text) hx hb hl0 hown hfit (by decide +kernel) (hts _ hk) (hts _ hini) hsa (vx_hat (fun w hw => hts _ (h1 w hw)) h2 (fun w hw => va_Nw.use (wB_tabs hw) (hG1.2.1 w hw))) ?_ hZ.1 hZ.2 hS (hl.1.trans hml.symm) d0 d3 d4 d7 d10 (fun x hx => (ht x hx).elim) hRf hRl hRc hRs hlk ?_ hS.2.2 hc hs
  · intro w9 hw9
    rcases List.mem_cons.mp hw9 with e9 | hw9
    · rw [e9]; rfl
    · rcases List.mem_cons.mp hw9 with e9 | hw9
      · rw [e9]; rfl
      · exact h3 w9 hw9
  · intro t hA hz hq
    refine ⟨ho, va_P_kept hP hq, Nat.le_trans hS.1 hz, fun q q1 q2 => ?_⟩
    rw [hq q (Nat.lt_of_lt_of_le q1 hS.1)]
    exact hS.2.1 q q1 q2
/-- a call of a method of the same world that may throw, answers nothing and leaves the world -/
theorem xVs {K : KT} {d' mc' n' nL pc index na ci q0 b mc : Nat} {y : MethodName} {cc cc' : ByteArray} {As rest st : List Value} {w : va_W} {so : String ⊕ Unit} {o : String ⊕ (Option Value × va_W)} {C : String} {T : u_T} {N : Nat} {fs : List Value} {ls : Array Slot} {rt : Option FieldType} {lv0 : List (Nat × Value)} (C0 : CtxX l p m c cc nL s args RX6 K meth rt w)
    (hP : va_P K.1 vC w H) (hD : va_D (adI w) w) (hS : va_S (adI w) s.heap H locs)
    (hM : Xm l K d' mc' y cc' n' none (.ref b :: As) w (Sum.map id (fun _ => (none, w)) so)) (he : w[q0]? = some (b, .inr (ci, fs))) (hc : vC[ci]? = some (C, T, N))
    (hg : GoodIn wT (wsV RX6 index C y (wsM y cc' n' none))) (hd : y.cls = C ∧ y.cls ≠ "java/lang/invoke/MethodHandle" ∧ y.cls ≠ "java/lang/invoke/VarHandle" ∧ (parseMethodDescriptor y.desc).map (fun d => d.parameters.length) = some na)
    (hn : As.length = na) (hR : d' + 1 ≤ R.frames ∧ 8 + (n' + 11) + 60 * d' ≤ R.locals) (hf : cells + mc' ≤ R.cells ∧ slots + 6 * mc' ≤ R.slots) (hf2 : cells + mc' ≤ mc ∧ slots + 6 * mc' ≤ 6 * mc) (hl : lv_has ls nL lv0) (hst : st = As.reverse ++ .ref b :: rest) (hW : (rest.map fun v => v.category).sum ≤ 8) (hdg : decode cc pc = .ok (.invokevirtual index, 3))
    (kx : ∀ E, so = .inl E → o = .inl E)
    (kk : so = .inr () → ∀ (H1 : Heap) (locs1 : List Loc), va_P K.1 vC w H1 → va_S (adI w) s.heap H1 locs1 → W p l e R s m args below meth c H1 locs1 (cells + mc') (slots + 6 * mc') (vx_MQ below (XQ K w o) (XX K w o) args s mc (6 * mc) (adI w)) (F0 m (pc + 3) ls rest)) :
    W p l e R s m args below meth c H locs cells slots (vx_MQ below (XQ K w o) (XX K w o) args s mc (6 * mc) (adI w)) (F0 m pc ls st) := by
  obtain ⟨⟨hx, hb, hml, hown, hts, hG, hr, hlk⟩, hl0, ht, hG1, hZ⟩ := C0
  have hrun := vx_runV (R := R) (e := e) (below := below) (meth := meth) (cells := cells) (slots := slots) (locs := locs) (H := H) (g := F0 m pc ls st) (As := As) (rest := rest) ⟨hx, hb, hml, hown, hts⟩ hM (cwV na hts hg rfl rfl rfl hd hR) ⟨xm_blind, va_recv hG.1 hP hc he, fun U hU hW9 => ⟨rfl, by rw [hU]; exact hP, G1.warm hW9 hG1, hD.weaken (fun _ _ _ _ => trivial), by rw [hU]; exact ZZ.moved hW9.alike (ZZ.kept hZ hS.2.1)⟩⟩ rfl hn hl.1 hst (lv_room hW) hdg hf
  intro T9 hT X
  rcases hrun T9 hT X with ⟨v, st₀, t, T', L, h0, X', hL, e1, e2, ⟨⟨v2, w2, ho, hv, hp⟩, hF⟩, st9⟩ | ⟨q, st₀, t, T', L, E, ce, h0, X', hL, e1, e2, ⟨ho, hp, hF⟩, hce, hcv, hcl, st9⟩
  · obtain ⟨k1, k2, k3⟩ := vx_keep h0 e1 hS (fun q _ h => h) (fun q h => h) hL hF
    cases so with
    | inl E => cases ho
    | inr u =>
      cases hv
      have ho := Sum.inr.inj ho
      have h1 := congrArg Prod.fst ho
      have h2 := congrArg Prod.snd ho
      dsimp only at h1 h2
      subst h1
      subst h2
      obtain ⟨t2, a1, b1⟩ := kk rfl T'.heap (locs ++ L) (by rw [e1]; exact hp) k3 T' rfl X'
      exact ⟨t2, st9 t2 a1, b1⟩
  · obtain ⟨k1, k2, k3⟩ := vx_keep h0 e1 hS (fun q _ h => h) (fun q h => h) hL hF
    cases so with
    | inr u => cases ho
    | inl E' =>
      have ho := Sum.inl.inj ho
      dsimp only [id] at ho
      subst ho
      have hout := vx_out (p := p) (l := l) (e := e) (R := R) (s := s) (m := m) (args := args) (below := below) (meth := meth) (c := c) (H := T'.heap) (locs := locs ++ L) (cells := cells + mc') (slots := slots + 6 * mc') (Qc := XQ K w o) (XC := XX K w o) (free := adI w) (ls := ls) (rest := rest) (pc := pc) (E := E') (ce := ce) (q := q) (mc := mc) (ms := 6 * mc) (fun x hx => (ht x hx).elim) hlk (by rw [e1]; exact hce) hcv hcl (fun t9 ht9 hA9 => ⟨kx _ rfl, by rw [ht9, e1]; exact hp, k3.F ht9⟩) k3.2.2 hf2.1 hf2.2
      obtain ⟨t2, a1, b1⟩ := hout T' rfl X'
      exact ⟨t2, st9.trans a1, b1⟩
/-- calls of methods of the same world -/
theorem rdVs {K : KT} {d' n' nL pc index na ci q0 b : Nat} {y : MethodName} {cc cc' : ByteArray} {rt : FieldType} {As rest st : List Value} {w : va_W} {r : Int32} {own C : String} {T : u_T} {N : Nat} {fs : List Value} {ls : Array Slot}
    (hx : p.tables.exec = Jvm.exec) (hb : c.code = cc) (hml : c.maxLocals = nL) (hown : s.vm.findClass own = some m.cls) (hts : ∀ w ∈ wT, w.before args s = true) (hG : G0 K s) (hP : va_P K.1 vC w H)
    (hM : Rd l K d' y cc' n' rt (.ref b :: As) w r) (he : w[q0]? = some (b, .inr (ci, fs))) (hc : vC[ci]? = some (C, T, N))
    (hg : GoodIn wT (wsV own index C y (wsM y cc' n' (some rt)))) (hd : y.cls = C ∧ y.cls ≠ "java/lang/invoke/MethodHandle" ∧ y.cls ≠ "java/lang/invoke/VarHandle" ∧ (parseMethodDescriptor y.desc).map (fun d => d.parameters.length) = some na)
    (hn : As.length = na) (hR : d' + 1 ≤ R.frames ∧ 8 + (n' + 11) + 60 * d' ≤ R.locals) (hf : cells ≤ R.cells ∧ slots ≤ R.slots) {lv0 : List (Nat × Value)} (hl : lv_has ls nL lv0) (hst : st = As.reverse ++ .ref b :: rest) (hW : (rest.map fun v => v.category).sum ≤ 8) (hdg : decode cc pc = .ok (.invokevirtual index, 3))
    (kk : W p l e R s m args below meth c H locs cells slots Q (F0 m (pc + 3) ls (.int r :: rest))) : W p l e R s m args below meth c H locs cells slots Q (F0 m pc ls st) :=
  W.callR (W.runV (As := As) (rest := rest) ⟨hx, hb, hml, hown, hts⟩ hM (cwV na hts hg rfl rfl rfl hd hR) ⟨rd_blind, va_recv hG.1 hP hc he, fun U hU hW => ⟨rfl, by rw [hU]; exact hP, G0.warm hW hG⟩⟩ rfl hn hl.1 hst (lv_room hW) hdg ⟨hf.1, hf.2⟩) kk
theorem wrVsi {K : KT} {d' n' nL pc index na ci q0 b : Nat} {y : MethodName} {cc cc' : ByteArray} {rt : Option FieldType} {As rest st : List Value} {w w2 : va_W} {r : Int32} {own C : String} {T : u_T} {N : Nat} {fs : List Value} {ls : Array Slot} {A : Nat → Prop} {H0 : Heap}
    (hx : p.tables.exec = Jvm.exec) (hb : c.code = cc) (hml : c.maxLocals = nL) (hown : s.vm.findClass own = some m.cls) (hts : ∀ w ∈ wT, w.before args s = true) (hG : G0 K s) (hP : va_P K.1 vC w H) (hD : va_D A w) (hS : va_S A H0 H locs)
    (hM : Wr l K d' y cc' n' rt (.ref b :: As) w (some (.int r)) w2) {as9 : List Nat} (hadr1 : w.map Prod.fst = as9) (hadr2 : w2.map Prod.fst = as9) (he : w[q0]? = some (b, .inr (ci, fs))) (hc : vC[ci]? = some (C, T, N))
    (hg : GoodIn wT (wsV own index C y (wsM y cc' n' rt))) (hd : y.cls = C ∧ y.cls ≠ "java/lang/invoke/MethodHandle" ∧ y.cls ≠ "java/lang/invoke/VarHandle" ∧ (parseMethodDescriptor y.desc).map (fun d => d.parameters.length) = some na)
    (hn : As.length = na) (hR : d' + 1 ≤ R.frames ∧ 8 + (n' + 11) + 60 * d' ≤ R.locals) (hf : cells ≤ R.cells ∧ slots ≤ R.slots) {lv0 : List (Nat × Value)} (hl : lv_has ls nL lv0) (hst : st = As.reverse ++ .ref b :: rest) (hW : (rest.map fun v => v.category).sum ≤ 8) (hdg : decode cc pc = .ok (.invokevirtual index, 3))
    (kk : ∀ (H1 : Heap) (locs1 : List Loc), va_P K.1 vC w2 H1 → va_D A w2 → va_S A H0 H1 locs1 → W p l e R s m args below meth c H1 locs1 cells slots Q (F0 m (pc + 3) ls (.int r :: rest))) : W p l e R s m args below meth c H locs cells slots Q (F0 m pc ls st) := by
  have hA : ∀ q, adI w q → A q := fun q hq => by
    obtain ⟨x, hx9, rfl⟩ := List.mem_map.mp hq
    obtain ⟨k, hk⟩ := List.getElem?_of_mem hx9
    exact hD.2 k x hk
  have hr := va_runV (R := R) (e := e) (below := below) (meth := meth) (cells := cells) (slots := slots) (locs := locs) (H := H) (g := F0 m pc ls st) (As := As) (rest := rest) ⟨hx, hb, hml, hown, hts⟩ hM (cwV na hts hg rfl rfl rfl hd hR) ⟨wr_blind, va_recv hG.1 hP hc he, fun U hU hW => ⟨rfl, by rw [hU]; exact hP, G0.warm hW hG, hD.weaken (fun _ _ _ _ => trivial)⟩⟩ rfl hn hl.1 hst (lv_room hW) hdg ⟨hf.1, hf.2⟩
  intro T9 hT X
  obtain ⟨v, st₀, t, T', L, h0, X', hL, e1, e2, ⟨⟨hv, hp⟩, hz, hk⟩, st9⟩ := hr T9 hT X
  cases hv
  rw [h0] at hz hk
  have hD2 : va_D A w2 := by
    refine ⟨fun i j x y hx hy hxy => ?_, fun k x hx => ?_⟩
    · obtain ⟨x', h1, h2⟩ := adr_at (hadr2.trans hadr1.symm) hx
      obtain ⟨y', h3, h4⟩ := adr_at (hadr2.trans hadr1.symm) hy
      exact hD.1 i j x' y' h1 h3 (by rw [h2, h4, hxy])
    · obtain ⟨x', h1, h2⟩ := adr_at (hadr2.trans hadr1.symm) hx
      rw [← h2]; exact hD.2 k x' h1
  obtain ⟨t2, a1, b1⟩ := kk T'.heap (locs ++ L) (by rw [e1]; exact hp) hD2 ⟨Nat.le_trans hS.1 (by rw [e1]; exact hz), fun q h1 h2 => by rw [e1, hk q (Nat.lt_of_lt_of_le h1 hS.1) (fun z => h2 (hA q z))]; exact hS.2.1 q h1 h2, fun q hq => by
      rcases List.mem_append.mp hq with h | h
      · exact hS.2.2 q h
      · exact hA _ (hL q h)⟩ T' rfl X'
  exact ⟨t2, st9 t2 a1, b1⟩
end XCALLS
abbrev wHist (K : KT) (ad : Nat → Nat) (hp : Nat → PlanS) (nx kp : Int32) : va_W := (ad 0, .inr (0, [.ref (ad 1), .int nx, .int kp])) :: (ad 1, .inl (K.2 2, 12, .inr (.inr (.inr (.inr (fun j => some (ad (9 * j + 2)))))))) :: ((wPlan K (fun k => ad (k + 2)) (hp 0).1 (hp 0).2.1 (hp 0).2.2.1 (hp 0).2.2.2.1 (hp 0).2.2.2.2.1 (hp 0).2.2.2.2.2) ++ ((wPlan K (fun k => ad (k + 11)) (hp 1).1 (hp 1).2.1 (hp 1).2.2.1 (hp 1).2.2.2.1 (hp 1).2.2.2.2.1 (hp 1).2.2.2.2.2) ++ ((wPlan K (fun k => ad (k + 20)) (hp 2).1 (hp 2).2.1 (hp 2).2.2.1 (hp 2).2.2.2.1 (hp 2).2.2.2.2.1 (hp 2).2.2.2.2.2) ++ ((wPlan K (fun k => ad (k + 29)) (hp 3).1 (hp 3).2.1 (hp 3).2.2.1 (hp 3).2.2.2.1 (hp 3).2.2.2.2.1 (hp 3).2.2.2.2.2) ++ ((wPlan K (fun k => ad (k + 38)) (hp 4).1 (hp 4).2.1 (hp 4).2.2.1 (hp 4).2.2.2.1 (hp 4).2.2.2.2.1 (hp 4).2.2.2.2.2) ++ ((wPlan K (fun k => ad (k + 47)) (hp 5).1 (hp 5).2.1 (hp 5).2.2.1 (hp 5).2.2.2.1 (hp 5).2.2.2.2.1 (hp 5).2.2.2.2.2) ++ ((wPlan K (fun k => ad (k + 56)) (hp 6).1 (hp 6).2.1 (hp 6).2.2.1 (hp 6).2.2.2.1 (hp 6).2.2.2.2.1 (hp 6).2.2.2.2.2) ++ ((wPlan K (fun k => ad (k + 65)) (hp 7).1 (hp 7).2.1 (hp 7).2.2.1 (hp 7).2.2.2.1 (hp 7).2.2.2.2.1 (hp 7).2.2.2.2.2) ++ ((wPlan K (fun k => ad (k + 74)) (hp 8).1 (hp 8).2.1 (hp 8).2.2.1 (hp 8).2.2.2.1 (hp 8).2.2.2.2.1 (hp 8).2.2.2.2.2) ++ ((wPlan K (fun k => ad (k + 83)) (hp 9).1 (hp 9).2.1 (hp 9).2.2.1 (hp 9).2.2.2.1 (hp 9).2.2.2.2.1 (hp 9).2.2.2.2.2) ++ ((wPlan K (fun k => ad (k + 92)) (hp 10).1 (hp 10).2.1 (hp 10).2.2.1 (hp 10).2.2.2.1 (hp 10).2.2.2.2.1 (hp 10).2.2.2.2.2) ++ ((wPlan K (fun k => ad (k + 101)) (hp 11).1 (hp 11).2.1 (hp 11).2.2.1 (hp 11).2.2.2.1 (hp 11).2.2.2.2.1 (hp 11).2.2.2.2.2)))))))))))))
abbrev wTop (K : KT) (ad : Nat → Nat) (pxs : Nat → Int32) (pys : Nat → Int32) (plo : Nat → Int32) (phi : Nat → Int32) (pn : Int32) (pm : Int32) (lf : Nat → Int32) (th : Nat → Int32) (ow : Nat → Int32) (lk : Nat → Int32) (el : Nat → Int32) (eh : Nat → Int32) (co : Nat → Int32) (hu : Nat → Int32) (ne : Int32) (nt : Int32) (nh : Int32) (tpxs : Nat → Int32) (tpys : Nat → Int32) (tplo : Nat → Int32) (tphi : Nat → Int32) (tpn : Int32) (tpm : Int32) (tlf : Nat → Int32) (tth : Nat → Int32) (tow : Nat → Int32) (tlk : Nat → Int32) (tel : Nat → Int32) (teh : Nat → Int32) (tco : Nat → Int32) (thu : Nat → Int32) (tne : Int32) (tnt : Int32) (tnh : Int32) (spxs : Nat → Int32) (spys : Nat → Int32) (splo : Nat → Int32) (sphi : Nat → Int32) (spn : Int32) (spm : Int32) (ich : Nat → Int32) (ifs : Nat → Int32) (isc : Nat → Int32) (isg : Nat → Int32) (iln : Int32) (ien : Int32) (iin : Bool) (idg : Int32) (iva : Int32) (hp : Nat → PlanS) (hnx hkp : Int32) (hsv : Bool) : va_W := (ad 0, .inr (6, [.ref (ad 2), .ref (ad 1), .ref (ad 28), .ref (ad 27), .ref (ad 53), .ref (ad 71), .ref (ad 62), .int (bI hsv)])) :: ((wMesh K (fun k => ad (k + 1)) pxs pys plo phi pn pm lf th ow lk el eh co hu ne nt nh) ++ ((wMesh K (fun k => ad (k + 27)) tpxs tpys tplo tphi tpn tpm tlf tth tow tlk tel teh tco thu tne tnt tnh) ++ ((wPlan K (fun k => ad (k + 53)) spxs spys splo sphi spn spm) ++ ((wInput K (fun k => ad (k + 62)) ich ifs isc isg iln ien iin idg iva) ++ (wHist K (fun k => ad (k + 71)) hp hnx hkp)))))
theorem sw_out3 {x : Int32} (h1 : ¬ x = (1 : Int32)) (h2 : ¬ x = (2 : Int32)) (h3 : ¬ x = (3 : Int32)) : x.toInt < 1 ∨ 3 < x.toInt := by
  have e1 : x.toInt ≠ 1 := fun e => h1 (Int32.toInt_inj.mp e)
  have e2 : x.toInt ≠ 2 := fun e => h2 (Int32.toInt_inj.mp e)
  have e3 : x.toInt ≠ 3 := fun e => h3 (Int32.toInt_inj.mp e)
  omega
