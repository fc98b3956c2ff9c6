/-! my own words: one word list for all methods, contracts of methods that read, of methods that write, and their calls -/
def wT : List Cond := lw_tbl.filter goodWord
abbrev KT : Type := va_G × (Nat → ClassId)
abbrev vC : List vw_C := [(RX0, TX0, 3), (RX1, TX1, 9), (RX2, TX2, 12), (RX3, TX3, 6), (RX4, TX4, 1), (RX5, TX5, 2), (RX6, TX6, 8)]
abbrev tyK (K : KT) : List (ClassId × FieldType) := [(K.2 0, .int), (K.2 0, .int), (K.2 2, .object "ConstrainedDelaunay$Plan"), (K.2 3, .long)]
abbrev wsM (y : MethodName) (cc : ByteArray) (n : Nat) (r : Option FieldType) : List Cond := .code y cc n r :: wT
def rmL (d : Nat) : Room := { frames := d, cells := 0, slots := 0, locals := 60 * d }
def bI : Bool → Int32
  | true => 1
  | false => 0
theorem bI_nar (b : Bool) : narrow .boolean (.int (bI b)) = .int (bI b) := by cases b <;> rfl
theorem bI_fit (b : Bool) : fits .boolean (.int (bI b)) = true := by cases b <;> rfl
theorem bI_eq0 (b : Bool) : (bI b = 0) = (b = false) := by cases b <;> simp [bI]
theorem bI_ne0 (b : Bool) : (¬ bI b = 0) = (b = true) := by cases b <;> simp [bI]
theorem nI_nar (x : Int32) : narrow .int (.int x) = .int x := rfl
theorem it_t {α : Sort _} {c : Prop} [Decidable c] {a b r : α} (hc : c) (h : ite c a b = r) : a = r := (if_pos hc).symm.trans h
theorem it_f {α : Sort _} {c : Prop} [Decidable c] {a b r : α} (hc : ¬ c) (h : ite c a b = r) : b = r := (if_neg hc).symm.trans h
theorem ob {α β : Type} {x : Option α} {f : α → Option β} {r : β} (h : x.bind f = some r) : ∃ a, x = some a ∧ f a = some r := by
  cases x with
  | none => cases h
  | some a => exact ⟨a, rfl, h⟩
/-- one place of a row is read, if it is there -/
def aget {α : Type} (n : Nat) (f : Nat → α) (i : Int32) : Option α := if i < 0 ∨ n ≤ i.toNatClampNeg then none else some (f i.toNatClampNeg)
theorem aget_in {α : Type} {n : Nat} {f : Nat → α} {i : Int32} {v : α} (h : aget n f i = some v) : vp_in i n ∧ f i.toNatClampNeg = v := by
  unfold aget at h
  by_cases c : i < 0 ∨ n ≤ i.toNatClampNeg
  · rw [if_pos c] at h; cases h
  · rw [if_neg c] at h; exact ⟨c, Option.some.inj h⟩
/-- one place of a row is written, if it is there -/
def aset {α : Type} (n : Nat) (f : Nat → α) (i : Int32) (v : α) : Option (Nat → α) := if i < 0 ∨ n ≤ i.toNatClampNeg then none else some (fun j => if j = i.toNatClampNeg then v else f j)
theorem aset_in {n : Nat} {f g : Nat → Int32} {i v : Int32} (h : aset n f i v = some g) : vp_in i n ∧ upd f i.toNatClampNeg v = g := by
  unfold aset at h
  by_cases c : i < 0 ∨ n ≤ i.toNatClampNeg
  · rw [if_pos c] at h; cases h
  · rw [if_neg c] at h
    refine ⟨c, ?_⟩
    have h := Option.some.inj h
    rw [← h]
    rfl
theorem wT_good {w : Cond} (h : w ∈ wT) : (w.onTables && w.keeps) = true ∨ ∃ ty, w = .arrayClass ty := good_of_word (List.mem_filter.mp h).2
theorem wT_tbl {w : Cond} (h : w ∈ wT) : w ∈ lw_tbl := (List.mem_filter.mp h).1
theorem wT_t {w : Cond} (i : Nat) (h : tables_1[i]? = some w) (g : goodWord w = true) : w ∈ wT := List.mem_filter.mpr ⟨List.mem_append_right _ (List.mem_of_getElem? h), g⟩
theorem wT_s {w : Cond} (i : Nat) (h : (k2_sels lw_privs)[i]? = some w) (g : goodWord w = true) : w ∈ wT := List.mem_filter.mpr ⟨List.mem_append_left _ (List.mem_of_getElem? h), g⟩
theorem gM {y : MethodName} {cc : ByteArray} {n : Nat} {r : Option FieldType} (h : Cond.code y cc n r ∈ wT) : GoodIn wT (wsM y cc n r) := fun w hw => by
  rcases List.mem_cons.mp hw with e | hw
  · rw [e]; exact ⟨h, wT_good h⟩
  · exact ⟨hw, wT_good hw⟩
theorem gV {own C : String} {idx : Nat} {y : MethodName} {cc : ByteArray} {n : Nat} {r : Option FieldType} (h1 : Cond.methodLink own idx y ∈ wT) (h2 : Cond.instanceMethod y ∈ wT) (h3 : Cond.selects C y y ∈ wT) (h4 : Cond.initialized C ∈ wT) (h5 : Cond.code y cc n r ∈ wT) : GoodIn wT (wsV own idx C y (wsM y cc n r)) := fun w hw => by
  unfold wsV at hw
  rcases List.mem_append.mp hw with hw | hw
  · simp only [List.mem_cons, List.not_mem_nil, or_false] at hw
    rcases hw with e | e | e | e <;> rw [e] <;> exact ⟨by assumption, wT_good (by assumption)⟩
  · exact gM h5 w hw
theorem gS {own : String} {idx : Nat} {y : MethodName} {cc : ByteArray} {n : Nat} {r : Option FieldType} (h1 : Cond.methodLink own idx y ∈ wT) (h2 : Cond.static y ∈ wT) (h4 : Cond.initialized own ∈ wT) (h5 : Cond.code y cc n r ∈ wT) : GoodIn wT (wsS own idx y (wsM y cc n r)) := fun w hw => by
  unfold wsS at hw
  rcases List.mem_append.mp hw with hw | hw
  · simp only [List.mem_cons, List.not_mem_nil, or_false] at hw
    rcases hw with e | e | e <;> rw [e] <;> exact ⟨by assumption, wT_good (by assumption)⟩
  · exact gM h5 w hw
theorem gSU {own : String} {idx : Nat} {y : MethodName} {cc : ByteArray} {n : Nat} {r : Option FieldType} (h1 : Cond.methodLink own idx y ∈ wT) (h2 : Cond.static y ∈ wT) (h4 : Cond.initialized y.cls ∈ wT) (h5 : Cond.code y cc n r ∈ wT) : GoodIn wT (va_wsS own idx y (wsM y cc n r)) := fun w hw => by
  unfold va_wsS at hw
  rcases List.mem_append.mp hw with hw | hw
  · simp only [List.mem_cons, List.not_mem_nil, or_false] at hw
    rcases hw with e | e | e <;> rw [e] <;> exact ⟨by assumption, wT_good (by assumption)⟩
  · exact gM h5 w hw
/-- what the tables say of the claim's classes and rows -/
def G0 (K : KT) (U : State) : Prop := va_K K.1 vC (tyK K) U ∧ va_Nw (.methodLinkNest RX3 91 yX6_signOf "ConstrainedDelaunay") U
theorem G0.warm {K : KT} {s U : State} (hW : s.WarmedH U.vm) (h : G0 K s) : G0 K U := ⟨va_K.moved hW.alike h.1, va_Nw.warmM hW h.2⟩
theorem G0.calling {K : KT} {U : State} (g : JFrame) (mk : MethodId) (a : Array Value) (h : G0 K U) : G0 K (U.calling g mk a) := ⟨va_K.moved (u := U) (U := U.calling g mk a) (Vm.Alike.refl U.vm) h.1, va_Nw.same (u := U) (U := U.calling g mk a) rfl rfl h.2⟩
def adI (w : va_W) : Nat → Prop := fun q => q ∈ w.map Prod.fst
/-- a method that reads its world and answers r -/
def Rd (l : Launch) (K : KT) (d : Nat) (y : MethodName) (cc : ByteArray) (n : Nat) (rt : FieldType) (As : List Value) (w : va_W) (r : Int32) : Prop :=
  Met l y (wsM y cc n (some rt)) (rmL d) (va_Pc As (fun U => va_P K.1 vC w U.heap ∧ G0 K U)) (QcRead r) 0 0 (fun _ => False)
/-- a method that makes the world w to w2, makes nothing new, and answers ro -/
def Wr (l : Launch) (K : KT) (d : Nat) (y : MethodName) (cc : ByteArray) (n : Nat) (rt : Option FieldType) (As : List Value) (w : va_W) (ro : Option Value) (w2 : va_W) : Prop :=
  Met l y (wsM y cc n rt) (rmL d) (va_Pc As (fun U => va_P K.1 vC w U.heap ∧ G0 K U ∧ va_D (fun _ => True) w)) (fun _ st o t => (o = .returned ro ∧ va_P K.1 vC w2 t.heap) ∧ va_F (adI w) st t) 0 0 (adI w)
theorem adI_self {w : va_W} {A : Nat → Prop} (h : va_D A w) : va_D (adI w) w := ⟨h.1, fun k q hk => List.mem_map.mpr ⟨q, List.mem_of_getElem? hk, rfl⟩⟩
set_option maxHeartbeats 1000000 in
theorem Rd.of {l : Launch} {K : KT} {d : Nat} {y : MethodName} {cc : ByteArray} {n : Nat} {rt : FieldType} {As : List Value} {w : va_W} {r : Int32} (hy : plainName y.cls = true) (hn : (lg_sl As).length ≤ n)
    (k : ∀ (p : Program) (e : Env) (s : State) (m : MethodId) (below : List Frame) (meth : Method) (c : Code), p.tables.exec = Jvm.exec → c.code = cc → meth.sig.returnType = some rt → c.maxLocals = n → s.vm.findClass y.cls = some m.cls → (∀ w ∈ wT, w.before As.toArray s = true) → meth.locks = false → va_P K.1 vC w s.heap → G0 K s → ∀ ls : Array Slot, lv_has ls n (lv_args 0 As) →
      W p l e (rmL d) s m As.toArray below meth c s.heap [] 0 0 (MQ below (QcRead r) As.toArray s 0 0 (fun _ => False)) (F0 m 0 ls [])) : Rd l K d y cc n rt As w r := by
  refine Met.ofW (cc := cc) (maxL := n) (ret := some rt) hy rfl ?_
  intro p e s m args below meth c s₁ B hml hv
  obtain ⟨rfl, hP, hG⟩ := hv
  have hts0 := atoms_spec (ws := wsM y cc n (some rt)) B.pre
  have hl := lv_entry As (n := n) hn
  rw [lg_entry_eq]
  exact k p e s m below meth c B.exec B.bytes B.returns hml (findClass_of_methodNamed B.named) (fun w h => hts0 w (List.mem_cons_of_mem _ h)) B.notSynchronized hP hG _ hl
set_option maxHeartbeats 1000000 in
theorem Wr.of {l : Launch} {K : KT} {d : Nat} {y : MethodName} {cc : ByteArray} {n : Nat} {rt : Option FieldType} {As : List Value} {w w2 : va_W} {ro : Option Value} (hy : plainName y.cls = true) (hn : (lg_sl As).length ≤ n)
    (k : ∀ (p : Program) (e : Env) (s : State) (m : MethodId) (below : List Frame) (meth : Method) (c : Code), p.tables.exec = Jvm.exec → c.code = cc → meth.sig.returnType = rt → c.maxLocals = n → s.vm.findClass y.cls = some m.cls → (∀ w ∈ wT, w.before As.toArray s = true) → meth.locks = false → ∀ (H : Heap) (locs : List Loc), va_P K.1 vC w H → G0 K s → va_D (adI w) w → va_S (adI w) s.heap H locs → ∀ ls : Array Slot, lv_has ls n (lv_args 0 As) →
      W p l e (rmL d) s m As.toArray below meth c H locs 0 0 (MQ below (fun _ st o t => (o = .returned ro ∧ va_P K.1 vC w2 t.heap) ∧ va_F (adI w) st t) As.toArray s 0 0 (adI w)) (F0 m 0 ls [])) : Wr l K d y cc n rt As w ro w2 := by
  refine Met.ofW (cc := cc) (maxL := n) (ret := rt) hy rfl ?_
  intro p e s m args below meth c s₁ B hml hv
  obtain ⟨rfl, hP, hG, hD⟩ := hv
  have hts0 := atoms_spec (ws := wsM y cc n rt) B.pre
  have hl := lv_entry As (n := n) hn
  rw [lg_entry_eq]
  exact k p e s m below meth c B.exec B.bytes B.returns hml (findClass_of_methodNamed B.named) (fun w h => hts0 w (List.mem_cons_of_mem _ h)) B.notSynchronized s.heap [] hP hG (adI_self hD) va_S.rf _ hl
theorem map_at {is : List Nat} {ws w : va_W} (h : is.map (fun i => ws[i]?) = w.map some) : (∀ (j i : Nat), is[j]? = some i → ∃ x, w[j]? = some x ∧ ws[i]? = some x) ∧ (∀ (j : Nat) (x : Nat × va_E), w[j]? = some x → ∃ i, is[j]? = some i ∧ ws[i]? = some x) := by
  have e : ∀ j : Nat, (is[j]?).map (fun i => ws[i]?) = (w[j]?).map some := fun j => by rw [← List.getElem?_map, h, List.getElem?_map]
  refine ⟨fun j i hj => ?_, fun j x hj => ?_⟩
  · have := e j
    rw [hj] at this
    cases hw : w[j]? with
    | none => rw [hw] at this; cases this
    | some x => rw [hw] at this; exact ⟨x, rfl, Option.some.inj this⟩
  · have := e j
    rw [hj] at this
    cases hw : is[j]? with
    | none => rw [hw] at this; cases this
    | some i => rw [hw] at this; exact ⟨i, rfl, Option.some.inj this⟩
theorem map_sub {is : List Nat} {ws w : va_W} {D : va_G} {cl : List vw_C} {H : Heap} (h : is.map (fun i => ws[i]?) = w.map some) (hP : va_P D cl ws H) : va_P D cl w H := fun k q hk => by
  obtain ⟨i, -, h2⟩ := (map_at h).2 k q hk
  exact hP i q h2
theorem map_free {is : List Nat} {ws w : va_W} {A : Nat → Prop} (h : is.map (fun i => ws[i]?) = w.map some) (hD : va_D A ws) : ∀ q, adI w q → A q := fun q hq => by
  obtain ⟨x, hx, rfl⟩ := List.mem_map.mp hq
  obtain ⟨k, hk⟩ := List.getElem?_of_mem hx
  obtain ⟨i, -, h2⟩ := (map_at h).2 k x hk
  exact hD.2 i x h2
theorem map_D {is : List Nat} {ws w : va_W} {A : Nat → Prop} (h : is.map (fun i => ws[i]?) = w.map some) (hn : va_nd is = true) (hD : va_D A ws) : va_D (fun _ => True) w := (hD.sub is hn h).weaken (fun _ _ _ _ => trivial)
theorem adr_at {w w2 : va_W} (h : w2.map Prod.fst = w.map Prod.fst) {j : Nat} {x : Nat × va_E} (hx : w2[j]? = some x) : ∃ y, w[j]? = some y ∧ y.1 = x.1 := by
  have : (w2.map Prod.fst)[j]? = (w.map Prod.fst)[j]? := by rw [h]
  rw [List.getElem?_map, List.getElem?_map, hx] at this
  cases hw : w[j]? with
  | none => rw [hw] at this; cases this
  | some y => rw [hw] at this; exact ⟨y, rfl, (Option.some.inj this).symm⟩
/-- where each place of the new world comes from: the callee's new world, or the old place -/
def pk2 (w2 ws : va_W) : Nat ⊕ Nat → Option (Nat × va_E)
  | .inl j => w2[j]?
  | .inr k => ws[k]?
def srcOk (src : List (Nat ⊕ Nat)) (is : List Nat) : Bool := src.zipIdx.all fun q => match q.1 with
  | .inl j => decide (is[j]? = some q.2)
  | .inr k => decide (k = q.2) && decide (k ∉ is)
theorem src_get {src : List (Nat ⊕ Nat)} {is : List Nat} {w2 ws ws2 : va_W} (h : src.map (pk2 w2 ws) = ws2.map some) (hok : srcOk src is = true) {k : Nat} {x : Nat × va_E} (hx : ws2[k]? = some x) : (∃ j : Nat, is[j]? = some k ∧ w2[j]? = some x) ∨ (ws[k]? = some x ∧ ∀ j : Nat, is[j]? = some k → False) := by
  have h1 : (src.map (pk2 w2 ws))[k]? = some (some x) := by rw [h, List.getElem?_map, hx]; rfl
  rw [List.getElem?_map] at h1
  cases hs : src[k]? with
  | none => rw [hs] at h1; cases h1
  | some o =>
    rw [hs] at h1
    have h2 : pk2 w2 ws o = some x := Option.some.inj h1
    have h3 := List.all_eq_true.mp hok (o, k) (List.mem_of_getElem? (i := k) (by rw [List.getElem?_zipIdx, hs]; simp))
    cases o with
    | inl j => exact Or.inl ⟨j, by simpa using h3, h2⟩
    | inr k' =>
      simp only [Bool.and_eq_true, decide_eq_true_eq] at h3
      obtain ⟨rfl, h4⟩ := h3
      exact Or.inr ⟨h2, fun j hj => h4 (List.mem_of_getElem? hj)⟩
theorem va_upd {D : va_G} {cl : List vw_C} {ws w w2 ws2 : va_W} {H H1 : Heap} {A : Nat → Prop} (is : List Nat) (src : List (Nat ⊕ Nat)) (hok : srcOk src is = true) (hP : va_P D cl ws H) (hD : va_D A ws) (his : is.map (fun i => ws[i]?) = w.map some) (hadr : w2.map Prod.fst = w.map Prod.fst) (hws : src.map (pk2 w2 ws) = ws2.map some) (hP1 : va_P D cl w2 H1) (hk : ∀ q : Nat, q < H.size → ¬ adI w q → H1[q]? = H[q]?) : va_P D cl ws2 H1 ∧ va_D A ws2 := by
  have hat : ∀ (k : Nat) (x : Nat × va_E), ws2[k]? = some x → ∃ y, ws[k]? = some y ∧ y.1 = x.1 := by
    intro k x hx
    rcases src_get hws hok hx with ⟨j, h1, h2⟩ | ⟨h1, -⟩
    · obtain ⟨y, h3, h4⟩ := adr_at hadr h2
      obtain ⟨z, h5, h6⟩ := (map_at his).1 j k h1
      rw [h3] at h5
      cases h5
      exact ⟨y, h6, h4⟩
    · exact ⟨x, h1, rfl⟩
  refine ⟨fun k x hx => ?_, fun i j x y hx hy hxy => ?_, fun k x hx => ?_⟩
  · rcases src_get hws hok hx with ⟨j, h1, h2⟩ | ⟨h1, h2⟩
    · exact hP1 j x h2
    · refine (hP k x h1).kept (hk _ ((hP k x h1).lt) fun hq => ?_)
      obtain ⟨y, hy, hyx⟩ := List.mem_map.mp hq
      obtain ⟨j, hj⟩ := List.getElem?_of_mem hy
      obtain ⟨i, h3, h4⟩ := (map_at his).2 j y hj
      have := hD.1 i k y x h4 h1 hyx
      subst this
      exact h2 j h3
  · obtain ⟨x', h1, h2⟩ := hat i x hx
    obtain ⟨y', h3, h4⟩ := hat j y hy
    exact hD.1 i j x' y' h1 h3 (by rw [h2, h4, hxy])
  · obtain ⟨x', h1, h2⟩ := hat k x hx
    rw [← h2]
    exact hD.2 k x' h1
section CALLS
variable {p : Program} {l : Launch} {e : Env} {R : Room} {s : State} {m : MethodId} {args : Array Value} {below : List Frame} {meth : Method} {c : Code} {H : Heap} {locs : List Loc} {cells slots : Nat} {Q : State → Prop}
theorem rd_blind {K : KT} {As : List Value} {w : va_W} : FrameBlind (va_Pc As (fun U => va_P K.1 vC w U.heap ∧ G0 K U)) := fun a U g mk h => ⟨h.1, h.2.1, G0.calling g mk a h.2.2⟩
theorem wr_blind {K : KT} {As : List Value} {w : va_W} : FrameBlind (va_Pc As (fun U => va_P K.1 vC w U.heap ∧ G0 K U ∧ va_D (fun _ => True) w)) := fun a U g mk h => ⟨h.1, h.2.1, G0.calling g mk a h.2.2.1, h.2.2.2⟩
/-- a call of a method that reads, of an object -/
theorem rdV {K : KT} {d' n' nL pc index na ci q0 b : Nat} {y : MethodName} {cc cc' : ByteArray} {rt : FieldType} {As rest st : List Value} {ws w : va_W} {r : Int32} {own C : String} {T : u_T} {N : Nat} {fs : List Value} {ls : Array Slot}
    (hx : p.tables.exec = Jvm.exec) (hb : c.code = cc) (hml : c.maxLocals = nL) (hown : s.vm.findClass own = some m.cls) (hts : ∀ w ∈ wT, w.before args s = true) (hG : G0 K s) (hP : va_P K.1 vC ws H)
    (hM : Rd l K d' y cc' n' rt (.ref b :: As) w r) (is : List Nat) (his : is.map (fun i => ws[i]?) = w.map some) (he : ws[q0]? = some (b, .inr (ci, fs))) (hc : vC[ci]? = some (C, T, N))
    (hg : GoodIn wT (wsV own index C y (wsM y cc' n' (some rt)))) (hd : y.cls = C ∧ y.cls ≠ "java/lang/invoke/MethodHandle" ∧ y.cls ≠ "java/lang/invoke/VarHandle" ∧ (parseMethodDescriptor y.desc).map (fun d => d.parameters.length) = some na)
    (hn : As.length = na) (hR : d' + 1 ≤ R.frames ∧ 8 + (n' + 11) + 60 * d' ≤ R.locals) (hf : cells ≤ R.cells ∧ slots ≤ R.slots) {lv0 : List (Nat × Value)} (hl : lv_has ls nL lv0) (hst : st = As.reverse ++ .ref b :: rest) (hW : (rest.map fun v => v.category).sum ≤ 8) (hdg : decode cc pc = .ok (.invokevirtual index, 3))
    (kk : W p l e R s m args below meth c H locs cells slots Q (F0 m (pc + 3) ls (.int r :: rest))) : W p l e R s m args below meth c H locs cells slots Q (F0 m pc ls st) :=
  W.callR (W.runV (As := As) (rest := rest) ⟨hx, hb, hml, hown, hts⟩ hM (cwV na hts hg rfl rfl rfl hd hR) ⟨rd_blind, va_recv hG.1 hP hc he, fun U hU hW => ⟨rfl, by rw [hU]; exact map_sub his hP, G0.warm hW hG⟩⟩ rfl hn hl.1 hst (lv_room hW) hdg ⟨hf.1, hf.2⟩) kk
/-- a call of a method that reads, static, of one's own class -/
theorem rdS {K : KT} {d' n' nL pc index na : Nat} {y : MethodName} {cc cc' : ByteArray} {rt : FieldType} {As rest st : List Value} {r : Int32} {own : String} {ls : Array Slot}
    (hx : p.tables.exec = Jvm.exec) (hb : c.code = cc) (hml : c.maxLocals = nL) (hown : s.vm.findClass own = some m.cls) (hts : ∀ w ∈ wT, w.before args s = true) (hG : G0 K s)
    (hM : Rd l K d' y cc' n' rt As [] r) 
    (hg : GoodIn wT (wsS own index y (wsM y cc' n' (some rt)))) (hd : y.cls = own ∧ y.cls ≠ "java/lang/invoke/MethodHandle" ∧ y.cls ≠ "java/lang/invoke/VarHandle" ∧ (parseMethodDescriptor y.desc).map (fun d => d.parameters.length) = some na)
    (hn : As.length = na) (hR : d' + 1 ≤ R.frames ∧ 8 + (n' + 11) + 60 * d' ≤ R.locals) (hf : cells ≤ R.cells ∧ slots ≤ R.slots) {lv0 : List (Nat × Value)} (hl : lv_has ls nL lv0) (hst : st = As.reverse ++ rest) (hW : (rest.map fun v => v.category).sum ≤ 8) (hdg : decode cc pc = .ok (.invokestatic index, 3))
    (kk : W p l e R s m args below meth c H locs cells slots Q (F0 m (pc + 3) ls (.int r :: rest))) : W p l e R s m args below meth c H locs cells slots Q (F0 m pc ls st) :=
  W.callR (W.runS (As := As) (rest := rest) ⟨hx, hb, hml, hown, hts⟩ hM (cwS na hts hg rfl rfl rfl hd hR) ⟨rd_blind, fun U hU hW => ⟨rfl, fun k q h => by simp at h, G0.warm hW hG⟩⟩ rfl hn hl.1 hst (lv_room hW) hdg ⟨hf.1, hf.2⟩) kk
theorem wr_call {K : KT} {pc : Nat} {rest st : List Value} {ws w w2 ws2 : va_W} {ro : Option Value} {ls : Array Slot} {A : Nat → Prop} {H0 : Heap} (is : List Nat) (hP : va_P K.1 vC ws H) (hD : va_D A ws) (hS : va_S A H0 H locs) (his : is.map (fun i => ws[i]?) = w.map some) {as9 : List Nat} (hadr1 : w.map Prod.fst = as9) (hadr2 : w2.map Prod.fst = as9) (src : List (Nat ⊕ Nat)) (hok : srcOk src is = true) (hws : src.map (pk2 w2 ws) = ws2.map some)
    (hr : va_Run p l e R s m args below meth c H locs cells slots 0 0 (F0 m pc ls st) rest (fun st o t => (o = .returned ro ∧ va_P K.1 vC w2 t.heap) ∧ va_F (adI w) st t) (adI w))
    (kk : ∀ (H1 : Heap) (locs1 : List Loc), va_P K.1 vC ws2 H1 → va_D A ws2 → va_S A H0 H1 locs1 → W p l e R s m args below meth c H1 locs1 cells slots Q (F0 m (pc + 3) ls (ro.toList ++ rest))) : W p l e R s m args below meth c H locs cells slots Q (F0 m pc ls st) := by
  intro T hT X
  obtain ⟨v, st₀, t, T', L, h0, X', hL, e1, e2, ⟨⟨hv, hp⟩, hz, hk⟩, st⟩ := hr T hT X
  cases hv
  rw [h0] at hz hk
  have hfree := map_free his hD
  obtain ⟨hP2, hD2⟩ := va_upd (H1 := T'.heap) is src hok hP hD his (hadr2.trans hadr1.symm) hws (by rw [e1]; exact hp) (fun q h1 h2 => by rw [e1]; exact hk q h1 h2)
  obtain ⟨t2, a1, b1⟩ := kk T'.heap (locs ++ L) hP2 hD2 ⟨Nat.le_trans hS.1 (by rw [e1]; exact hz), fun q h1 h2 => by rw [e1, hk q (Nat.lt_of_lt_of_le h1 hS.1) (fun z => h2 (hfree q z))]; exact hS.2.1 q h1 h2, fun q hq => by
      rcases List.mem_append.mp hq with h | h
      · exact hS.2.2 q h
      · exact hfree _ (hL q h)⟩ T' rfl X'
  exact ⟨t2, st t2 a1, b1⟩
/-- a call of a method that writes, of an object -/
theorem wrV {K : KT} {d' n' nL pc index na ci q0 b : Nat} {y : MethodName} {cc cc' : ByteArray} {rt : Option FieldType} {As rest st : List Value} {ws w w2 ws2 : va_W} {ro : Option Value} {own C : String} {T : u_T} {N : Nat} {fs : List Value} {ls : Array Slot} {A : Nat → Prop} {H0 : Heap}
    (hx : p.tables.exec = Jvm.exec) (hb : c.code = cc) (hml : c.maxLocals = nL) (hown : s.vm.findClass own = some m.cls) (hts : ∀ w ∈ wT, w.before args s = true) (hG : G0 K s) (hP : va_P K.1 vC ws H) (hD : va_D A ws) (hS : va_S A H0 H locs)
    (hM : Wr l K d' y cc' n' rt (.ref b :: As) w ro w2) (is : List Nat) (hnd : va_nd is = true) (his : is.map (fun i => ws[i]?) = w.map some) {as9 : List Nat} (hadr1 : w.map Prod.fst = as9) (hadr2 : w2.map Prod.fst = as9) (src : List (Nat ⊕ Nat)) (hok : srcOk src is = true) (hws : src.map (pk2 w2 ws) = ws2.map some) (he : ws[q0]? = some (b, .inr (ci, fs))) (hc : vC[ci]? = some (C, T, N))
    (hg : GoodIn wT (wsV own index C y (wsM y cc' n' rt))) (hd : y.cls = C ∧ y.cls ≠ "java/lang/invoke/MethodHandle" ∧ y.cls ≠ "java/lang/invoke/VarHandle" ∧ (parseMethodDescriptor y.desc).map (fun d => d.parameters.length) = some na)
    (hn : As.length = na) (hR : d' + 1 ≤ R.frames ∧ 8 + (n' + 11) + 60 * d' ≤ R.locals) (hf : cells ≤ R.cells ∧ slots ≤ R.slots) {lv0 : List (Nat × Value)} (hl : lv_has ls nL lv0) (hst : st = As.reverse ++ .ref b :: rest) (hW : (rest.map fun v => v.category).sum ≤ 8) (hdg : decode cc pc = .ok (.invokevirtual index, 3))
    (kk : ∀ (H1 : Heap) (locs1 : List Loc), va_P K.1 vC ws2 H1 → va_D A ws2 → va_S A H0 H1 locs1 → W p l e R s m args below meth c H1 locs1 cells slots Q (F0 m (pc + 3) ls (ro.toList ++ rest))) : W p l e R s m args below meth c H locs cells slots Q (F0 m pc ls st) :=
  wr_call is hP hD hS his hadr1 hadr2 src hok hws (va_runV (As := As) (rest := rest) ⟨hx, hb, hml, hown, hts⟩ hM (cwV na hts hg rfl rfl rfl hd hR) ⟨wr_blind, va_recv hG.1 hP hc he, fun U hU hW => ⟨rfl, by rw [hU]; exact map_sub his hP, G0.warm hW hG, map_D his hnd hD⟩⟩ rfl hn hl.1 hst (lv_room hW) hdg ⟨hf.1, hf.2⟩) kk
theorem wrVv {K : KT} {d' n' nL pc index na ci q0 b : Nat} {y : MethodName} {cc cc' : ByteArray} {rt : Option FieldType} {As rest st : List Value} {ws w w2 ws2 : va_W} {own C : String} {T : u_T} {N : Nat} {fs : List Value} {ls : Array Slot} {A : Nat → Prop} {H0 : Heap}
    (hx : p.tables.exec = Jvm.exec) (hb : c.code = cc) (hml : c.maxLocals = nL) (hown : s.vm.findClass own = some m.cls) (hts : ∀ w ∈ wT, w.before args s = true) (hG : G0 K s) (hP : va_P K.1 vC ws H) (hD : va_D A ws) (hS : va_S A H0 H locs)
    (hM : Wr l K d' y cc' n' rt (.ref b :: As) w none w2) (is : List Nat) (hnd : va_nd is = true) (his : is.map (fun i => ws[i]?) = w.map some) {as9 : List Nat} (hadr1 : w.map Prod.fst = as9) (hadr2 : w2.map Prod.fst = as9) (src : List (Nat ⊕ Nat)) (hok : srcOk src is = true) (hws : src.map (pk2 w2 ws) = ws2.map some) (he : ws[q0]? = some (b, .inr (ci, fs))) (hc : vC[ci]? = some (C, T, N))
    (hg : GoodIn wT (wsV own index C y (wsM y cc' n' rt))) (hd : y.cls = C ∧ y.cls ≠ "java/lang/invoke/MethodHandle" ∧ y.cls ≠ "java/lang/invoke/VarHandle" ∧ (parseMethodDescriptor y.desc).map (fun d => d.parameters.length) = some na)
    (hn : As.length = na) (hR : d' + 1 ≤ R.frames ∧ 8 + (n' + 11) + 60 * d' ≤ R.locals) (hf : cells ≤ R.cells ∧ slots ≤ R.slots) {lv0 : List (Nat × Value)} (hl : lv_has ls nL lv0) (hst : st = As.reverse ++ .ref b :: rest) (hW : (rest.map fun v => v.category).sum ≤ 8) (hdg : decode cc pc = .ok (.invokevirtual index, 3))
    (kk : ∀ (H1 : Heap) (locs1 : List Loc), va_P K.1 vC ws2 H1 → va_D A ws2 → va_S A H0 H1 locs1 → W p l e R s m args below meth c H1 locs1 cells slots Q (F0 m (pc + 3) ls rest)) : W p l e R s m args below meth c H locs cells slots Q (F0 m pc ls st) :=
  wrV hx hb hml hown hts hG hP hD hS hM is hnd his hadr1 hadr2 src hok hws he hc hg hd hn hR hf hl hst hW hdg kk
theorem wrVi {K : KT} {d' n' nL pc index na ci q0 b : Nat} {y : MethodName} {cc cc' : ByteArray} {rt : Option FieldType} {As rest st : List Value} {ws w w2 ws2 : va_W} {r : Int32} {own C : String} {T : u_T} {N : Nat} {fs : List Value} {ls : Array Slot} {A : Nat → Prop} {H0 : Heap}
    (hx : p.tables.exec = Jvm.exec) (hb : c.code = cc) (hml : c.maxLocals = nL) (hown : s.vm.findClass own = some m.cls) (hts : ∀ w ∈ wT, w.before args s = true) (hG : G0 K s) (hP : va_P K.1 vC ws H) (hD : va_D A ws) (hS : va_S A H0 H locs)
    (hM : Wr l K d' y cc' n' rt (.ref b :: As) w (some (.int r)) w2) (is : List Nat) (hnd : va_nd is = true) (his : is.map (fun i => ws[i]?) = w.map some) {as9 : List Nat} (hadr1 : w.map Prod.fst = as9) (hadr2 : w2.map Prod.fst = as9) (src : List (Nat ⊕ Nat)) (hok : srcOk src is = true) (hws : src.map (pk2 w2 ws) = ws2.map some) (he : ws[q0]? = some (b, .inr (ci, fs))) (hc : vC[ci]? = some (C, T, N))
    (hg : GoodIn wT (wsV own index C y (wsM y cc' n' rt))) (hd : y.cls = C ∧ y.cls ≠ "java/lang/invoke/MethodHandle" ∧ y.cls ≠ "java/lang/invoke/VarHandle" ∧ (parseMethodDescriptor y.desc).map (fun d => d.parameters.length) = some na)
    (hn : As.length = na) (hR : d' + 1 ≤ R.frames ∧ 8 + (n' + 11) + 60 * d' ≤ R.locals) (hf : cells ≤ R.cells ∧ slots ≤ R.slots) {lv0 : List (Nat × Value)} (hl : lv_has ls nL lv0) (hst : st = As.reverse ++ .ref b :: rest) (hW : (rest.map fun v => v.category).sum ≤ 8) (hdg : decode cc pc = .ok (.invokevirtual index, 3))
    (kk : ∀ (H1 : Heap) (locs1 : List Loc), va_P K.1 vC ws2 H1 → va_D A ws2 → va_S A H0 H1 locs1 → W p l e R s m args below meth c H1 locs1 cells slots Q (F0 m (pc + 3) ls (.int r :: rest))) : W p l e R s m args below meth c H locs cells slots Q (F0 m pc ls st) :=
  wrV hx hb hml hown hts hG hP hD hS hM is hnd his hadr1 hadr2 src hok hws he hc hg hd hn hR hf hl hst hW hdg kk
/-- a static method of another class -/
theorem rdSU {K : KT} {d' n' nL pc index na : Nat} {y : MethodName} {cc cc' : ByteArray} {rt : FieldType} {As rest st : List Value} {r : Int32} {own C : String} {ls : Array Slot}
    (hx : p.tables.exec = Jvm.exec) (hb : c.code = cc) (hml : c.maxLocals = nL) (hown : s.vm.findClass own = some m.cls) (hts : ∀ w ∈ wT, w.before args s = true) (hG : G0 K s)
    (hM : Rd l K d' y cc' n' rt As [] r)
    (hg : GoodIn wT (va_wsS own index y (wsM y cc' n' (some rt)))) (hd : y.cls = C ∧ y.cls ≠ "java/lang/invoke/MethodHandle" ∧ y.cls ≠ "java/lang/invoke/VarHandle" ∧ (parseMethodDescriptor y.desc).map (fun d => d.parameters.length) = some na)
    (hn : As.length = na) (hR : d' + 1 ≤ R.frames ∧ 8 + (n' + 11) + 60 * d' ≤ R.locals) (hf : cells ≤ R.cells ∧ slots ≤ R.slots) {lv0 : List (Nat × Value)} (hl : lv_has ls nL lv0) (hst : st = As.reverse ++ rest) (hW : (rest.map fun v => v.category).sum ≤ 8) (hdg : decode cc pc = .ok (.invokestatic index, 3))
    (kk : W p l e R s m args below meth c H locs cells slots Q (F0 m (pc + 3) ls (.int r :: rest))) : W p l e R s m args below meth c H locs cells slots Q (F0 m pc ls st) :=
  W.callR (W.runS (As := As) (rest := rest) ⟨hx, hb, hml, hown, hts⟩ hM (va_cwS na hts hg rfl rfl rfl hd.2 hR) ⟨rd_blind, fun U hU hW => ⟨rfl, fun k q h => by simp at h, G0.warm hW hG⟩⟩ rfl hn hl.1 hst (lv_room hW) hdg ⟨hf.1, hf.2⟩) kk
/-- a private static method of the nest's host -/
theorem rdSN {K : KT} {d' n' nL pc index na : Nat} {y : MethodName} {cc cc' : ByteArray} {rt : FieldType} {As rest st : List Value} {r : Int32} {own C host : String} {ls : Array Slot}
    (hx : p.tables.exec = Jvm.exec) (hb : c.code = cc) (hml : c.maxLocals = nL) (hown : s.vm.findClass own = some m.cls) (hts : ∀ w ∈ wT, w.before args s = true) (hG : G0 K s)
    (hM : Rd l K d' y cc' n' rt As [] r)
    (hg : GoodIn wT (wsM y cc' n' (some rt))) (hlk : va_Nw (.methodLinkNest own index y host) s) (hini : (Cond.initialized y.cls).before args s = true) (hst9 : (Cond.static y).before args s = true) (hd : y.cls = C ∧ y.cls ≠ "java/lang/invoke/MethodHandle" ∧ y.cls ≠ "java/lang/invoke/VarHandle" ∧ (parseMethodDescriptor y.desc).map (fun d => d.parameters.length) = some na)
    (hn : As.length = na) (hR : d' + 1 ≤ R.frames ∧ 8 + (n' + 11) + 60 * d' ≤ R.locals) (hf : cells ≤ R.cells ∧ slots ≤ R.slots) {lv0 : List (Nat × Value)} (hl : lv_has ls nL lv0) (hst : st = As.reverse ++ rest) (hW : (rest.map fun v => v.category).sum ≤ 8) (hdg : decode cc pc = .ok (.invokestatic index, 3))
    (kk : W p l e R s m args below meth c H locs cells slots Q (F0 m (pc + 3) ls (.int r :: rest))) : W p l e R s m args below meth c H locs cells slots Q (F0 m pc ls st) := by
  have hr := va_runSN (e := e) (below := below) (meth := meth) (g := F0 m pc ls st) (H := H) (locs := locs) (cells := cells) (slots := slots) (As := As) (rest := rest) ⟨hx, hb, hml, hown, hts⟩ hM ⟨va_cnB na hts hg rfl rfl rfl hlk hini hd.2 hR, hst9, trivial⟩ ⟨rd_blind, fun U hU hW => ⟨rfl, fun k q h => by simp at h, G0.warm hW hG⟩⟩ rfl hn hl.1 hst (lv_room hW) hdg ⟨hf.1, hf.2⟩
  intro T hT X
  obtain ⟨v, st₀, t, T', L, h0, X', hL, e1, -, ⟨hv, hh⟩, st⟩ := hr T hT X
  cases hv
  obtain ⟨t2, a1, b1⟩ := kk T' (by rw [e1, hh, h0]) (Stand.forget X' (fun q h => (hL q h).elim))
  exact ⟨t2, st t2 a1, b1⟩
def imax (x y : Int32) : Int32 := if x < y then y else x
def imin (x y : Int32) : Int32 := if y < x then y else x
def iushr (x y : Int32) : Int32 := (x.toUInt32 >>> (y.toUInt32 &&& Int32.toUInt32 31)).toInt32
theorem qt_max : Cond.static Lib.Math.max.name ∈ wT := wT_t 42 (by decide +kernel) rfl
theorem qt_min : Cond.static Lib.Math.min.name ∈ wT := wT_t 457 (by decide +kernel) rfl
theorem qn_Math : Cond.initialized "java/lang/Math" ∈ wT := wT_t 4 (by decide +kernel) rfl
theorem qc_max : Cond.code Lib.Math.max.name Lib.Math.max.code 2 (some .int) ∈ wT := wT_t 43 (by decide +kernel) rfl
theorem qc_min : Cond.code Lib.Math.min.name Lib.Math.min.code 2 (some .int) ∈ wT := wT_t 458 (by decide +kernel) rfl
theorem my_mmax {pc index nL : Nat} {cc : ByteArray} {own : String} {ls : Array Slot} {rest : List Value} (hx : p.tables.exec = Jvm.exec) (hb : c.code = cc) (hml : c.maxLocals = nL) (hsz : ls.size = nL) (hown : s.vm.findClass own = some m.cls) (hts : ∀ w ∈ wT, w.before args s = true) (hlink : Cond.methodLink own index Lib.Math.max.name ∈ wT)
    (hfr : 1 ≤ R.frames) (hlo : (rest.map fun v => v.category).sum + 13 ≤ R.locals) (hf : cells ≤ R.cells ∧ slots ≤ R.slots) {x y : Int32} (hdg : decode cc pc = .ok (.invokestatic index, 3))
    (kk : W p l e R s m args below meth c H locs cells slots Q (F0 m (pc + 3) ls (.int (imax x y) :: rest))) : W p l e R s m args below meth c H locs cells slots Q (F0 m pc ls (.int y :: .int x :: rest)) :=
  va_mmax hx hb (hml.trans hsz.symm) hown (hts _ hlink) (hts _ qt_max) (hts _ qn_Math) (hts _ qc_max) hfr hlo hf.1 hf.2 hdg kk
theorem my_mmin {pc index nL : Nat} {cc : ByteArray} {own : String} {ls : Array Slot} {rest : List Value} (hx : p.tables.exec = Jvm.exec) (hb : c.code = cc) (hml : c.maxLocals = nL) (hsz : ls.size = nL) (hown : s.vm.findClass own = some m.cls) (hts : ∀ w ∈ wT, w.before args s = true) (hlink : Cond.methodLink own index Lib.Math.min.name ∈ wT)
    (hfr : 1 ≤ R.frames) (hlo : (rest.map fun v => v.category).sum + 13 ≤ R.locals) (hf : cells ≤ R.cells ∧ slots ≤ R.slots) {x y : Int32} (hdg : decode cc pc = .ok (.invokestatic index, 3))
    (kk : W p l e R s m args below meth c H locs cells slots Q (F0 m (pc + 3) ls (.int (imin x y) :: rest))) : W p l e R s m args below meth c H locs cells slots Q (F0 m pc ls (.int y :: .int x :: rest)) :=
  va_mmin hx hb (hml.trans hsz.symm) hown (hts _ hlink) (hts _ qt_min) (hts _ qn_Math) (hts _ qc_min) hfr hlo hf.1 hf.2 hdg kk
end CALLS
/-- what a body knows of itself -/
abbrev Ctx (p : Program) (m : MethodId) (c : Code) (cc : ByteArray) (nL : Nat) (s : State) (args : Array Value) (own : String) (K : KT) (meth : Method) (rt : Option FieldType) : Prop :=
  p.tables.exec = Jvm.exec ∧ c.code = cc ∧ c.maxLocals = nL ∧ s.vm.findClass own = some m.cls ∧ (∀ w ∈ wT, w.before args s = true) ∧ G0 K s ∧ meth.sig.returnType = rt ∧ meth.locks = false
theorem se_r {α β γ : Type} {f : α → γ} {g : β → γ} {b : β} {r : γ} (h : Sum.elim f g (.inr b) = r) : g b = r := h
theorem se_l {α β γ : Type} {f : α → γ} {g : β → γ} {a : α} {r : γ} (h : Sum.elim f g (.inl a) = r) : f a = r := h
theorem vin {i : Int32} {n : Nat} (hn : n < 2147483648) (h1 : ¬ i < 0) (h2 : ¬ Int32.ofNat n ≤ i) : vp_in i n := by
  rcases pk_ix i hn with h | h | ⟨j, hj, rfl⟩
  · exact absurd h h1
  · exact absurd h h2
  · exact vp_in_nI hj hn
theorem vin256 {i : Int32} (h1 : ¬ i < 0) (h2 : ¬ (256 : Int32) ≤ i) : vp_in i 256 := vin (n := 256) (by decide) h1 h2
-- the worlds: each object with all that it holds, its addresses ad 0, ad 1, ..
abbrev wRow (K : KT) (ad : Nat → Nat) (n : Nat) (f : Nat → Int32) : va_W := [(ad 0, .inr (4, [.ref (ad 1)])), (ad 1, .inl (K.2 0, n, .inl f))]
abbrev wTab (K : KT) (ad : Nat → Nat) (bl : Int32) (f : Nat → Int32) : va_W := [(ad 0, .inr (5, [.ref (ad 1), .int bl])), (ad 1, .inl (K.2 0, 256, .inl f))]
abbrev wPlan (K : KT) (ad : Nat → Nat) (xs ys lo hi : Nat → Int32) (n m : Int32) : va_W := [(ad 0, .inr (3, [.ref (ad 1), .ref (ad 3), .ref (ad 5), .ref (ad 7), .int n, .int m])),
  (ad 1, .inr (4, [.ref (ad 2)])), (ad 2, .inl (K.2 0, 16, .inl xs)), (ad 3, .inr (4, [.ref (ad 4)])), (ad 4, .inl (K.2 0, 16, .inl ys)), (ad 5, .inr (4, [.ref (ad 6)])), (ad 6, .inl (K.2 0, 10, .inl lo)), (ad 7, .inr (4, [.ref (ad 8)])), (ad 8, .inl (K.2 0, 10, .inl hi))]
abbrev wMesh (K : KT) (ad : Nat → Nat) (xs ys lo hi : Nat → Int32) (n m : Int32) (lf th ow lk el eh co hu : Nat → Int32) (ne nt nh : Int32) : va_W := [(ad 0, .inr (2, [.ref (ad 1), .ref (ad 10), .ref (ad 12), .ref (ad 14), .ref (ad 16), .ref (ad 18), .ref (ad 20), .ref (ad 22), .ref (ad 24), .int ne, .int nt, .int nh])),
  (ad 1, .inr (3, [.ref (ad 2), .ref (ad 4), .ref (ad 6), .ref (ad 8), .int n, .int m])), (ad 2, .inr (4, [.ref (ad 3)])), (ad 3, .inl (K.2 0, 16, .inl xs)), (ad 4, .inr (4, [.ref (ad 5)])), (ad 5, .inl (K.2 0, 16, .inl ys)), (ad 6, .inr (4, [.ref (ad 7)])), (ad 7, .inl (K.2 0, 10, .inl lo)), (ad 8, .inr (4, [.ref (ad 9)])), (ad 9, .inl (K.2 0, 10, .inl hi)),
  (ad 10, .inr (5, [.ref (ad 11), .int 0])), (ad 11, .inl (K.2 0, 256, .inl lf)), (ad 12, .inr (5, [.ref (ad 13), .int (-1)])), (ad 13, .inl (K.2 0, 256, .inl th)), (ad 14, .inr (5, [.ref (ad 15), .int (-1)])), (ad 15, .inl (K.2 0, 256, .inl ow)),
  (ad 16, .inr (4, [.ref (ad 17)])), (ad 17, .inl (K.2 0, 16, .inl lk)), (ad 18, .inr (4, [.ref (ad 19)])), (ad 19, .inl (K.2 0, 42, .inl el)), (ad 20, .inr (4, [.ref (ad 21)])), (ad 21, .inl (K.2 0, 42, .inl eh)), (ad 22, .inr (4, [.ref (ad 23)])), (ad 23, .inl (K.2 0, 81, .inl co)), (ad 24, .inr (4, [.ref (ad 25)])), (ad 25, .inl (K.2 0, 16, .inl hu))]
abbrev wInput (K : KT) (ad : Nat → Nat) (ch fs sc sg : Nat → Int32) (ln en : Int32) (iin : Bool) (dg va : Int32) : va_W := [(ad 0, .inr (1, [.ref (ad 1), .ref (ad 3), .ref (ad 5), .ref (ad 7), .int ln, .int en, .int (bI iin), .int dg, .int va])),
  (ad 1, .inr (4, [.ref (ad 2)])), (ad 2, .inl (K.2 0, 60, .inl ch)), (ad 3, .inr (4, [.ref (ad 4)])), (ad 4, .inl (K.2 0, 15, .inl fs)), (ad 5, .inr (4, [.ref (ad 6)])), (ad 6, .inl (K.2 0, 15, .inl sc)), (ad 7, .inr (4, [.ref (ad 8)])), (ad 8, .inl (K.2 0, 15, .inl sg))]
theorem inT0 : ∀ w ∈ u_ws RX0 TX0 3, w ∈ wT := by decide +kernel
theorem inT1 : ∀ w ∈ u_ws RX1 TX1 9, w ∈ wT := by decide +kernel
theorem inT2 : ∀ w ∈ u_ws RX2 TX2 12, w ∈ wT := by decide +kernel
theorem inT3 : ∀ w ∈ u_ws RX3 TX3 6, w ∈ wT := by decide +kernel
theorem inT4 : ∀ w ∈ u_ws RX4 TX4 1, w ∈ wT := by decide +kernel
theorem inT5 : ∀ w ∈ u_ws RX5 TX5 2, w ∈ wT := by decide +kernel
theorem inT6 : ∀ w ∈ u_ws RX6 TX6 8, w ∈ wT := by decide +kernel
