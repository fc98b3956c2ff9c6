/-! the constructors -/
abbrev wMeshO (K : KT) (ad : Nat → Nat) (pq : Nat) : va_W := [(ad 0, .inr (2, [.ref pq, .ref (ad 10), .ref (ad 12), .ref (ad 14), .ref (ad 16), .ref (ad 18), .ref (ad 20), .ref (ad 22), .ref (ad 24), .int 0, .int 0, .int 0])),
  (ad 10, .inr (5, [.ref (ad 11), .int 0])), (ad 11, .inl (K.2 0, 256, .inl (fun _ => 0))), (ad 12, .inr (5, [.ref (ad 13), .int (-1)])), (ad 13, .inl (K.2 0, 256, .inl (fun _ => 0))), (ad 14, .inr (5, [.ref (ad 15), .int (-1)])), (ad 15, .inl (K.2 0, 256, .inl (fun _ => 0))),
  (ad 16, .inr (4, [.ref (ad 17)])), (ad 17, .inl (K.2 0, 16, .inl (fun _ => 0))), (ad 18, .inr (4, [.ref (ad 19)])), (ad 19, .inl (K.2 0, 42, .inl (fun _ => 0))), (ad 20, .inr (4, [.ref (ad 21)])), (ad 21, .inl (K.2 0, 42, .inl (fun _ => 0))), (ad 22, .inr (4, [.ref (ad 23)])), (ad 23, .inl (K.2 0, 81, .inl (fun _ => 0))), (ad 24, .inr (4, [.ref (ad 25)])), (ad 25, .inl (K.2 0, 16, .inl (fun _ => 0)))]
/-- a constructor: from the new object h0 with its fields' first values it makes the world w ad, ad 0 the object -/
def In (l : Launch) (K : KT) (d mc ms : Nat) (y : MethodName) (cc : ByteArray) (n ci : Nat) (As : List Value) (fs0 : List Value) (w : (Nat → Nat) → va_W) : Prop :=
  ∀ h0 sz : Nat, Met l y (wsM y cc n none) { frames := d, cells := mc, slots := ms, locals := 60 * d } (va_Pc (.ref h0 :: As) (fun U => U.heap.size = sz ∧ va_P K.1 vC [(h0, .inr (ci, fs0))] U.heap ∧ (G0 K U ∧ va_AO "ConstrainedDelaunay$Plan" U) ∧ va_D (fun _ => True) [(h0, .inr (ci, fs0))]))
    (va_Qv (fun ad : Nat → Nat => ad 0 = h0) (fun ad t => va_P K.1 vC (w ad) t.heap ∧ va_D (va_A [(h0, .inr (ci, fs0))] sz) (w ad)) (va_A [(h0, .inr (ci, fs0))] sz)) mc ms (va_A [(h0, .inr (ci, fs0))] sz)
set_option maxHeartbeats 1000000 in
theorem In.of {l : Launch} {K : KT} {d mc ms : Nat} {y : MethodName} {cc : ByteArray} {n ci : Nat} {As fs0 : List Value} {w : (Nat → Nat) → va_W} (hy : plainName y.cls = true) (hyn : y.name = "<init>") (hn : ∀ h0 : Nat, (lg_sl (.ref h0 :: As)).length ≤ n)
    (k : ∀ (h0 : Nat) (p : Program) (e : Env) (s : State) (m : MethodId) (below : List Frame) (meth : Method) (c : Code), Ctx p m c cc n s (.ref h0 :: As).toArray y.cls K meth none → va_AO "ConstrainedDelaunay$Plan" s → meth.name = "<init>" → ∀ A : Nat → Prop, (∀ q : Nat, s.heap.size ≤ q → A q) → va_P K.1 vC [(h0, .inr (ci, fs0))] s.heap → va_D A [(h0, .inr (ci, fs0))] → ∀ ls : Array Slot, lv_has ls n (lv_args 0 (.ref h0 :: As)) →
      W p l e { frames := d, cells := mc, slots := ms, locals := 60 * d } s m (.ref h0 :: As).toArray below meth c s.heap [] 0 0 (MQ below (va_Qv (fun ad : Nat → Nat => ad 0 = h0) (fun ad t => va_P K.1 vC (w ad) t.heap ∧ va_D A (w ad)) A) (.ref h0 :: As).toArray s mc ms A) (F0 m 0 ls [])) : In l K d mc ms y cc n ci As fs0 w := by
  intro h0 sz
  refine Met.ofW (cc := cc) (maxL := n) (ret := none) hy rfl ?_
  intro p e s m args below meth c s₁ B hml hv
  obtain ⟨rfl, hsz, hP, hG, hD0⟩ := hv
  subst hsz
  have hts0 := atoms_spec (ws := wsM y cc n none) B.pre
  have hl := lv_entry (.ref h0 :: As) (n := n) (hn h0)
  rw [lg_entry_eq]
  exact k h0 p e s m below meth c ⟨B.exec, B.bytes, hml, findClass_of_methodNamed B.named, fun w h => hts0 w (List.mem_cons_of_mem _ h), hG.1, B.returns, B.notSynchronized⟩ hG.2 ((name_of_methodNamed B.named B.method).1.trans hyn) _ (fun q h => Or.inr h) hP (hD0.self (sz := s.heap.size)) _ hl
theorem in_blind {K : KT} {As : List Value} {sz : Nat} {w : va_W} : FrameBlind (va_Pc As (fun U => U.heap.size = sz ∧ va_P K.1 vC w U.heap ∧ (G0 K U ∧ va_AO "ConstrainedDelaunay$Plan" U) ∧ va_D (fun _ => True) w)) := fun a U g mk h => ⟨h.1, h.2.1, h.2.2.1, ⟨G0.calling g mk a h.2.2.2.1.1, va_AO.moved (u := U) (U := U.calling g mk a) (Vm.Alike.refl U.vm) h.2.2.2.1.2⟩, h.2.2.2.2⟩
section ICALL
variable {p : Program} {l : Launch} {e : Env} {R : Room} {s : State} {m : MethodId} {args : Array Value} {below : List Frame} {meth : Method} {c : Code} {H : Heap} {locs : List Loc} {cells slots : Nat} {Q : State → Prop}
set_option maxHeartbeats 1000000 in
/-- a call of a constructor -/
theorem inC {K : KT} {d' mc' ms' n' nL pc index na ci q : Nat} {y : MethodName} {cc cc' : ByteArray} {As rest st fs0 : List Value} {w : (Nat → Nat) → va_W} {ws wr : va_W} {own : String} {ls : Array Slot} {lv0 : List (Nat × Value)} {A : Nat → Prop}
    (hx : p.tables.exec = Jvm.exec) (hb : c.code = cc) (hml : c.maxLocals = nL) (hown : s.vm.findClass own = some m.cls) (hts : ∀ w ∈ wT, w.before args s = true) (hG : G0 K s) (hO : va_AO "ConstrainedDelaunay$Plan" s) (hP : va_P K.1 vC ws H) (hD : va_D A ws) (hS : va_S A s.heap H locs) (hA : ∀ q : Nat, s.heap.size ≤ q → A q)
    (hM : In l K d' mc' ms' y cc' n' ci As fs0 w) (pos : Nat) (isR : List Nat) (hC : [pos].map (fun i => ws[i]?) = [(q, .inr (ci, fs0))].map some) (hR : isR.map (fun i => ws[i]?) = wr.map some) (hn : va_nd isR = true) (hdis : ∀ i ∈ isR, i ∉ [pos])
    (hg : GoodIn wT (wsM y cc' n' none)) (hini : Cond.initialized y.cls ∈ wT) (hlink : Cond.methodLink own index y ∈ wT) (hinst : Cond.instanceMethod y ∈ wT) (hy1 : y.name = "<init>") (hd : y.cls ≠ "java/lang/invoke/MethodHandle" ∧ y.cls ≠ "java/lang/invoke/VarHandle" ∧ (parseMethodDescriptor y.desc).map (fun d => d.parameters.length) = some na) (hna : As.length = na)
    (hR9 : d' + 1 ≤ R.frames ∧ 8 + (n' + 11) + 60 * d' ≤ R.locals) (hf : cells + mc' ≤ R.cells ∧ slots + ms' ≤ R.slots) (hl : lv_has ls nL lv0) (hst : st = As.reverse ++ .ref q :: rest) (hW : (rest.map fun v => v.category).sum ≤ 8) (hdg : decode cc pc = .ok (.invokespecial index, 3))
    (kk : ∀ (ad : Nat → Nat) (H1 : Heap) (locs1 : List Loc), ad 0 = q → va_P K.1 vC (wr ++ w ad) H1 → va_D A (wr ++ w ad) → va_S A s.heap H1 locs1 → W p l e R s m args below meth c H1 locs1 (cells + mc') (slots + ms') Q (F0 m (pc + 3) ls rest)) : W p l e R s m args below meth c H locs cells slots Q (F0 m pc ls st) := by
  have hPc := map_sub hC hP
  have hDc : va_D (fun _ => True) [(q, .inr (ci, fs0))] := map_D hC rfl hD
  have hFc := va_free (wc := [(q, .inr (ci, fs0))]) hD hS hA [pos] hC
  refine va_callv (va_runI (As := As) (rest := rest) ⟨hx, hb, hml, hown, hts⟩ (hM q H.size) (cwI na hts hg rfl rfl rfl (hts _ hini) (hts _ hlink) (hts _ hinst) hy1 hd hR9) ⟨in_blind, fun U hU hW9 => ⟨rfl, by rw [hU], by rw [hU]; exact hPc, ⟨G0.warm hW9 hG, va_AO.moved hW9.alike hO⟩, hDc⟩⟩ rfl hna hl.1 hst (lv_room hW) hdg hf) hS (fun q _ h => hFc q h) hFc (fun ad t H1 locs1 ht hvm hw hB hz1 hk1 hS => ?_)
  obtain ⟨hP1, hD1⟩ := hB
  rw [ht] at hP1
  obtain ⟨hP, hD⟩ := va_join (wr := wr) (w1 := w ad) hP hD [pos] isR hC hR hn hdis hk1 hFc hP1 hD1
  exact kk ad H1 locs1 hw hP hD hS
/-- a new row of numbers -/
theorem my_newa {K : KT} {atype : ArrayType} {ty : FieldType} {i9 : Nat} {a0 : vp_A} {pc : Nat} {cc : ByteArray} {ls : Array Slot} {rest : List Value} {ws : va_W} {A : Nat → Prop} (hx : p.tables.exec = Jvm.exec) (hb : c.code = cc) (harr : (Cond.arrayClass (newarray.typeOf atype)).before args s = true) (hty : newarray.typeOf atype = ty) (hi : (tyK K)[i9]? = some (K.2 i9, ty)) (hra : ∀ (U : State) (cA : ClassId), va_RA U cA ty = (U.vm.findClass ("[" ++ ty.toString) = some cA))
    {N : Nat} (ha : ∀ cA : ClassId, vp_cell cA a0 = arrV cA N (fun _ => defaultValue ty)) (hK : va_K K.1 vC (tyK K) s) (hP : va_P K.1 vC ws H) (hD : va_D A ws) (hS : va_S A s.heap H locs) (hA : ∀ q : Nat, s.heap.size ≤ q → A q) {n : Int32} (hn : ¬ n < 0) (hN : n.toNatClampNeg = N) (hbytes : N * componentBytes ty ≤ 536870912) (hcells : cells + 1 ≤ R.cells) (hslots : slots + N ≤ R.slots) (hdg : decode cc pc = .ok (.newarray atype, 2))
    (kk : ∀ (q : Nat) (H1 : Heap), va_P K.1 vC (ws ++ [(q, .inl (K.2 i9, a0))]) H1 → va_D A (ws ++ [(q, .inl (K.2 i9, a0))]) → va_S A s.heap H1 locs → W p l e R s m args below meth c H1 locs (cells + 1) (slots + N) Q (F0 m (pc + 2) ls (.ref q :: rest))) : W p l e R s m args below meth c H locs cells slots Q (F0 m pc ls (.int n :: rest)) := by
  refine va_newa hx hb harr hty hK hP hD hS hA ha hn hN hbytes hcells hslots hdg (fun q cA H1 hK1 hP1 hD1 hS1 => ?_)
  have e1 := (hK1.2 4 (cA, ty) rfl).2
  have e2 := (hK.2 i9 _ hi).2
  rw [hra] at e1 e2
  have := Option.some.inj (e1.symm.trans e2)
  subst this
  exact kk q H1 hP1 hD1 hS1
theorem my_newq {K : KT} {own : String} {index pc : Nat} {cc : ByteArray} {ls : Array Slot} {rest : List Value} {ws : va_W} {A : Nat → Prop} (hx : p.tables.exec = Jvm.exec) (hb : c.code = cc) (hown : s.vm.findClass own = some m.cls) (hcl : (Cond.classLink own index RX3).before args s = true) (hO : va_AO "ConstrainedDelaunay$Plan" s)
    {N : Nat} (hK : va_K K.1 vC (tyK K) s) (hP : va_P K.1 vC ws H) (hD : va_D A ws) (hS : va_S A s.heap H locs) (hA : ∀ q : Nat, s.heap.size ≤ q → A q) {n : Int32} (hn : ¬ n < 0) (hN : n.toNatClampNeg = N) (hbytes : N * 4 ≤ 536870912) (hcells : cells + 1 ≤ R.cells) (hslots : slots + N ≤ R.slots) (hdg : decode cc pc = .ok (.anewarray index, 3))
    (kk : ∀ (q : Nat) (H1 : Heap), va_P K.1 vC (ws ++ [(q, .inl (K.2 2, N, .inr (.inr (.inr (.inr (fun _ => none))))))]) H1 → va_D A (ws ++ [(q, .inl (K.2 2, N, .inr (.inr (.inr (.inr (fun _ => none))))))]) → va_S A s.heap H1 locs → W p l e R s m args below meth c H1 locs (cells + 1) (slots + N) Q (F0 m (pc + 3) ls (.ref q :: rest))) : W p l e R s m args below meth c H locs cells slots Q (F0 m pc ls (.int n :: rest)) := by
  refine va_newq (C := RX3) hx hb hown hcl hO hK hP hD hS hA hn hN hbytes hcells hslots hdg (fun q cA H1 hK1 hP1 hD1 hS1 => ?_)
  obtain ⟨_, _, _, _, _, e1⟩ := (hK1.2 4 (cA, .object RX3) rfl).2
  obtain ⟨_, _, _, _, _, e2⟩ := (hK.2 2 (K.2 2, .object "ConstrainedDelaunay$Plan") rfl).2
  have := Option.some.inj (e1.symm.trans e2)
  subst this
  exact kk q H1 hP1 hD1 hS1
end ICALL
/-- only the places of a row count -/
theorem arr_ext {D : va_G} {cl : List vw_C} {ws : va_W} {H : Heap} (hP : va_P D cl ws H) (q0 : Nat) {a : Nat} {cA : ClassId} {n : Nat} {f g : Nat → Option Nat} (ha : ws[q0]? = some (a, .inl (cA, n, .inr (.inr (.inr (.inr f)))))) (e : ∀ j, j < n → f j = g j) : va_P D cl (ws.set q0 (a, .inl (cA, n, .inr (.inr (.inr (.inr g)))))) H := by
  intro k x hx
  by_cases z : q0 = k
  · subst z
    have lt : q0 < ws.length := (List.getElem?_eq_some_iff.mp ha).1
    rw [List.getElem?_set_self lt] at hx
    cases hx
    have h := hP q0 _ ha
    have ec : vp_cell cA (n, .inr (.inr (.inr (.inr f)))) = vp_cell cA (n, .inr (.inr (.inr (.inr g)))) := by
      show arrV cA n (fun j => va_rf (f j)) = arrV cA n (fun j => va_rf (g j))
      unfold arrV
      congr 1
      congr 1
      funext j
      show va_rf (f j.val) = va_rf (g j.val)
      rw [e j.val j.isLt]
    show H[a]? = some (vp_cell cA (n, .inr (.inr (.inr (.inr g)))))
    rw [← ec]
    exact h
  · rw [List.getElem?_set_ne z] at hx
    exact hP k x hx
theorem imax0N {N : Nat} (h : N < 2147483648) : imax (0 : Int32) (i32 N) = i32 N := by
  have := imax_i (a := 0) (b := N) (by omega) h
  rw [Nat.zero_max] at this
  exact this
theorem zo_Row : Cond.methodLink RX4 1 Lib.objectInit ∈ wT := wT_t 40 (by decide +kernel) rfl
theorem zoi : Cond.instanceMethod Lib.objectInit ∈ wT := wT_t 27 (by decide +kernel) rfl
theorem zoc : Cond.code Lib.objectInit ⟨#[0xb1]⟩ 1 none ∈ wT := wT_t 28 (by decide +kernel) rfl
theorem zx_Row_7 : Cond.methodLink RX4 7 Lib.Math.max.name ∈ wT := wT_t 41 (by decide +kernel) rfl
theorem za_int : Cond.arrayClass .int ∈ wT := wT_t 48 (by decide +kernel) rfl
theorem zf_Row_13 : Cond.fieldLink RX4 13 "ConstrainedDelaunay$Row" "cells" "[I" ∈ wT := wT_t 44 (by decide +kernel) rfl
theorem zo_Tab : Cond.methodLink RX5 3 Lib.objectInit ∈ wT := wT_t 79 (by decide +kernel) rfl
theorem zf_Tab_9 : Cond.fieldLink RX5 9 "ConstrainedDelaunay$Table" "cells" "[I" ∈ wT := wT_t 80 (by decide +kernel) rfl
theorem zf_Tab_15 : Cond.fieldLink RX5 15 "ConstrainedDelaunay$Table" "blank" "I" ∈ wT := wT_t 81 (by decide +kernel) rfl
theorem zo_Plan : Cond.methodLink RX3 3 Lib.objectInit ∈ wT := wT_t 34 (by decide +kernel) rfl
theorem zl_Plan_9 : Cond.classLink RX3 9 RX4 ∈ wT := wT_t 35 (by decide +kernel) rfl
theorem zk_Row : Cond.instantiable RX4 1 ∈ wT := wT_t 36 (by decide +kernel) rfl
theorem zn_Row : Cond.initialized RX4 ∈ wT := wT_t 3 (by decide +kernel) rfl
theorem zc_Row : Cond.code yX4_init cX4_init 2 none ∈ wT := wT_t 39 (by decide +kernel) rfl
theorem zm_Plan_11 : Cond.methodLink RX3 11 yX4_init ∈ wT := wT_t 37 (by decide +kernel) rfl
theorem zi_Row : Cond.instanceMethod yX4_init ∈ wT := wT_t 38 (by decide +kernel) rfl
theorem zf_Plan_14 : Cond.fieldLink RX3 14 "ConstrainedDelaunay$Plan" "xs" "LConstrainedDelaunay$Row;" ∈ wT := wT_t 49 (by decide +kernel) rfl
theorem zf_Plan_20 : Cond.fieldLink RX3 20 "ConstrainedDelaunay$Plan" "ys" "LConstrainedDelaunay$Row;" ∈ wT := wT_t 50 (by decide +kernel) rfl
theorem zf_Plan_23 : Cond.fieldLink RX3 23 "ConstrainedDelaunay$Plan" "lows" "LConstrainedDelaunay$Row;" ∈ wT := wT_t 51 (by decide +kernel) rfl
theorem zf_Plan_26 : Cond.fieldLink RX3 26 "ConstrainedDelaunay$Plan" "highs" "LConstrainedDelaunay$Row;" ∈ wT := wT_t 52 (by decide +kernel) rfl
theorem zf_Plan_29 : Cond.fieldLink RX3 29 "ConstrainedDelaunay$Plan" "points" "I" ∈ wT := wT_t 53 (by decide +kernel) rfl
theorem zf_Plan_33 : Cond.fieldLink RX3 33 "ConstrainedDelaunay$Plan" "constraints" "I" ∈ wT := wT_t 54 (by decide +kernel) rfl
theorem zo_Input : Cond.methodLink RX1 3 Lib.objectInit ∈ wT := wT_t 150 (by decide +kernel) rfl
theorem zl_Input_9 : Cond.classLink RX1 9 RX4 ∈ wT := wT_t 151 (by decide +kernel) rfl
theorem zm_Input_11 : Cond.methodLink RX1 11 yX4_init ∈ wT := wT_t 152 (by decide +kernel) rfl
theorem zf_Input_14 : Cond.fieldLink RX1 14 "ConstrainedDelaunay$Input" "characters" "LConstrainedDelaunay$Row;" ∈ wT := wT_t 153 (by decide +kernel) rfl
theorem zf_Input_20 : Cond.fieldLink RX1 20 "ConstrainedDelaunay$Input" "firsts" "LConstrainedDelaunay$Row;" ∈ wT := wT_t 154 (by decide +kernel) rfl
theorem zf_Input_23 : Cond.fieldLink RX1 23 "ConstrainedDelaunay$Input" "seconds" "LConstrainedDelaunay$Row;" ∈ wT := wT_t 155 (by decide +kernel) rfl
theorem zf_Input_26 : Cond.fieldLink RX1 26 "ConstrainedDelaunay$Input" "segments" "LConstrainedDelaunay$Row;" ∈ wT := wT_t 156 (by decide +kernel) rfl
theorem zf_Input_29 : Cond.fieldLink RX1 29 "ConstrainedDelaunay$Input" "length" "I" ∈ wT := wT_t 157 (by decide +kernel) rfl
theorem zf_Input_33 : Cond.fieldLink RX1 33 "ConstrainedDelaunay$Input" "entries" "I" ∈ wT := wT_t 158 (by decide +kernel) rfl
theorem zf_Input_36 : Cond.fieldLink RX1 36 "ConstrainedDelaunay$Input" "inSecond" "Z" ∈ wT := wT_t 159 (by decide +kernel) rfl
theorem zf_Input_40 : Cond.fieldLink RX1 40 "ConstrainedDelaunay$Input" "digits" "I" ∈ wT := wT_t 160 (by decide +kernel) rfl
theorem zf_Input_43 : Cond.fieldLink RX1 43 "ConstrainedDelaunay$Input" "value" "I" ∈ wT := wT_t 161 (by decide +kernel) rfl
theorem zo_Mesh : Cond.methodLink RX2 3 Lib.objectInit ∈ wT := wT_t 73 (by decide +kernel) rfl
theorem zf_Mesh_9 : Cond.fieldLink RX2 9 "ConstrainedDelaunay$Mesh" "plan" "LConstrainedDelaunay$Plan;" ∈ wT := wT_t 89 (by decide +kernel) rfl
theorem zl_Mesh_15 : Cond.classLink RX2 15 RX5 ∈ wT := wT_t 74 (by decide +kernel) rfl
theorem zk_Tab : Cond.instantiable RX5 2 ∈ wT := wT_t 75 (by decide +kernel) rfl
theorem zn_Tab : Cond.initialized RX5 ∈ wT := wT_t 6 (by decide +kernel) rfl
theorem zc_Tab : Cond.code yX5_init cX5_init 2 none ∈ wT := wT_t 78 (by decide +kernel) rfl
theorem zm_Mesh_17 : Cond.methodLink RX2 17 yX5_init ∈ wT := wT_t 76 (by decide +kernel) rfl
theorem zi_Tab : Cond.instanceMethod yX5_init ∈ wT := wT_t 77 (by decide +kernel) rfl
theorem zf_Mesh_20 : Cond.fieldLink RX2 20 "ConstrainedDelaunay$Mesh" "lefts" "LConstrainedDelaunay$Table;" ∈ wT := wT_t 90 (by decide +kernel) rfl
theorem zf_Mesh_24 : Cond.fieldLink RX2 24 "ConstrainedDelaunay$Mesh" "thirds" "LConstrainedDelaunay$Table;" ∈ wT := wT_t 91 (by decide +kernel) rfl
theorem zf_Mesh_27 : Cond.fieldLink RX2 27 "ConstrainedDelaunay$Mesh" "owners" "LConstrainedDelaunay$Table;" ∈ wT := wT_t 92 (by decide +kernel) rfl
theorem zl_Mesh_30 : Cond.classLink RX2 30 RX4 ∈ wT := wT_t 87 (by decide +kernel) rfl
theorem zm_Mesh_32 : Cond.methodLink RX2 32 yX4_init ∈ wT := wT_t 88 (by decide +kernel) rfl
theorem zf_Mesh_33 : Cond.fieldLink RX2 33 "ConstrainedDelaunay$Mesh" "links" "LConstrainedDelaunay$Row;" ∈ wT := wT_t 93 (by decide +kernel) rfl
theorem zf_Mesh_37 : Cond.fieldLink RX2 37 "ConstrainedDelaunay$Mesh" "edgeLows" "LConstrainedDelaunay$Row;" ∈ wT := wT_t 94 (by decide +kernel) rfl
theorem zf_Mesh_40 : Cond.fieldLink RX2 40 "ConstrainedDelaunay$Mesh" "edgeHighs" "LConstrainedDelaunay$Row;" ∈ wT := wT_t 95 (by decide +kernel) rfl
theorem zf_Mesh_43 : Cond.fieldLink RX2 43 "ConstrainedDelaunay$Mesh" "corners" "LConstrainedDelaunay$Row;" ∈ wT := wT_t 96 (by decide +kernel) rfl
theorem zf_Mesh_46 : Cond.fieldLink RX2 46 "ConstrainedDelaunay$Mesh" "hull" "LConstrainedDelaunay$Row;" ∈ wT := wT_t 97 (by decide +kernel) rfl
theorem zf_Mesh_49 : Cond.fieldLink RX2 49 "ConstrainedDelaunay$Mesh" "edges" "I" ∈ wT := wT_t 98 (by decide +kernel) rfl
theorem zf_Mesh_53 : Cond.fieldLink RX2 53 "ConstrainedDelaunay$Mesh" "triangles" "I" ∈ wT := wT_t 99 (by decide +kernel) rfl
theorem zf_Mesh_56 : Cond.fieldLink RX2 56 "ConstrainedDelaunay$Mesh" "hullPoints" "I" ∈ wT := wT_t 100 (by decide +kernel) rfl
theorem zo_Hist : Cond.methodLink RX0 3 Lib.objectInit ∈ wT := wT_t 131 (by decide +kernel) rfl
theorem zl_Hist_9 : Cond.classLink RX0 9 RX3 ∈ wT := wT_t 132 (by decide +kernel) rfl
theorem zf_Hist_11 : Cond.fieldLink RX0 11 "ConstrainedDelaunay$History" "plans" "[LConstrainedDelaunay$Plan;" ∈ wT := wT_t 135 (by decide +kernel) rfl
theorem zk_Plan : Cond.instantiable RX3 6 ∈ wT := wT_t 30 (by decide +kernel) rfl
theorem zn_Plan : Cond.initialized RX3 ∈ wT := wT_t 2 (by decide +kernel) rfl
theorem zc_Plan : Cond.code yX3_init cX3_init 1 none ∈ wT := wT_t 33 (by decide +kernel) rfl
theorem zm_Hist_17 : Cond.methodLink RX0 17 yX3_init ∈ wT := wT_t 134 (by decide +kernel) rfl
theorem zi_Plan : Cond.instanceMethod yX3_init ∈ wT := wT_t 32 (by decide +kernel) rfl
theorem zf_Hist_18 : Cond.fieldLink RX0 18 "ConstrainedDelaunay$History" "next" "I" ∈ wT := wT_t 136 (by decide +kernel) rfl
theorem zf_Hist_22 : Cond.fieldLink RX0 22 "ConstrainedDelaunay$History" "kept" "I" ∈ wT := wT_t 137 (by decide +kernel) rfl
theorem zo_Top : Cond.methodLink RX6 1 Lib.objectInit ∈ wT := wT_t 26 (by decide +kernel) rfl
theorem zl_Top_7 : Cond.classLink RX6 7 RX3 ∈ wT := wT_t 29 (by decide +kernel) rfl
theorem zm_Top_9 : Cond.methodLink RX6 9 yX3_init ∈ wT := wT_t 31 (by decide +kernel) rfl
theorem zf_Top_10 : Cond.fieldLink RX6 10 "ConstrainedDelaunay" "plan" "LConstrainedDelaunay$Plan;" ∈ wT := wT_t 181 (by decide +kernel) rfl
theorem zl_Top_16 : Cond.classLink RX6 16 RX2 ∈ wT := wT_t 68 (by decide +kernel) rfl
theorem zk_Mesh : Cond.instantiable RX2 12 ∈ wT := wT_t 69 (by decide +kernel) rfl
theorem zn_Mesh : Cond.initialized RX2 ∈ wT := wT_t 5 (by decide +kernel) rfl
theorem zc_Mesh : Cond.code yX2_init cX2_init 2 none ∈ wT := wT_t 72 (by decide +kernel) rfl
theorem zm_Top_18 : Cond.methodLink RX6 18 yX2_init ∈ wT := wT_t 70 (by decide +kernel) rfl
theorem zi_Mesh : Cond.instanceMethod yX2_init ∈ wT := wT_t 71 (by decide +kernel) rfl
theorem zf_Top_21 : Cond.fieldLink RX6 21 "ConstrainedDelaunay" "mesh" "LConstrainedDelaunay$Mesh;" ∈ wT := wT_t 182 (by decide +kernel) rfl
theorem zf_Top_25 : Cond.fieldLink RX6 25 "ConstrainedDelaunay" "trialPlan" "LConstrainedDelaunay$Plan;" ∈ wT := wT_t 183 (by decide +kernel) rfl
theorem zf_Top_28 : Cond.fieldLink RX6 28 "ConstrainedDelaunay" "trialMesh" "LConstrainedDelaunay$Mesh;" ∈ wT := wT_t 184 (by decide +kernel) rfl
theorem zf_Top_31 : Cond.fieldLink RX6 31 "ConstrainedDelaunay" "savedPlan" "LConstrainedDelaunay$Plan;" ∈ wT := wT_t 185 (by decide +kernel) rfl
theorem zl_Top_34 : Cond.classLink RX6 34 RX0 ∈ wT := wT_t 126 (by decide +kernel) rfl
theorem zk_Hist : Cond.instantiable RX0 3 ∈ wT := wT_t 127 (by decide +kernel) rfl
theorem zn_Hist : Cond.initialized RX0 ∈ wT := wT_t 7 (by decide +kernel) rfl
theorem zc_Hist : Cond.code yX0_init cX0_init 2 none ∈ wT := wT_t 130 (by decide +kernel) rfl
theorem zm_Top_36 : Cond.methodLink RX6 36 yX0_init ∈ wT := wT_t 128 (by decide +kernel) rfl
theorem zi_Hist : Cond.instanceMethod yX0_init ∈ wT := wT_t 129 (by decide +kernel) rfl
theorem zf_Top_37 : Cond.fieldLink RX6 37 "ConstrainedDelaunay" "history" "LConstrainedDelaunay$History;" ∈ wT := wT_t 186 (by decide +kernel) rfl
theorem zl_Top_41 : Cond.classLink RX6 41 RX1 ∈ wT := wT_t 145 (by decide +kernel) rfl
theorem zk_Input : Cond.instantiable RX1 9 ∈ wT := wT_t 146 (by decide +kernel) rfl
theorem zn_Input : Cond.initialized RX1 ∈ wT := wT_t 8 (by decide +kernel) rfl
theorem zc_Input : Cond.code yX1_init cX1_init 1 none ∈ wT := wT_t 149 (by decide +kernel) rfl
theorem zm_Top_43 : Cond.methodLink RX6 43 yX1_init ∈ wT := wT_t 147 (by decide +kernel) rfl
theorem zi_Input : Cond.instanceMethod yX1_init ∈ wT := wT_t 148 (by decide +kernel) rfl
theorem zf_Top_44 : Cond.fieldLink RX6 44 "ConstrainedDelaunay" "input" "LConstrainedDelaunay$Input;" ∈ wT := wT_t 187 (by decide +kernel) rfl
theorem zf_Top_48 : Cond.fieldLink RX6 48 "ConstrainedDelaunay" "hasSaved" "Z" ∈ wT := wT_t 188 (by decide +kernel) rfl
theorem zl_Law_8 : Cond.classLink RL 8 RX6 ∈ wT := wT_t 21 (by decide +kernel) rfl
theorem zm_Law_263 : Cond.methodLink RL 263 yX6_init ∈ wT := wT_t 23 (by decide +kernel) rfl
theorem zc_Top : Cond.code yX6_init cX6_init 1 none ∈ wT := wT_t 25 (by decide +kernel) rfl
theorem zn_Top : Cond.initialized RX6 ∈ wT := wT_t 1 (by decide +kernel) rfl
theorem zi_Top : Cond.instanceMethod yX6_init ∈ wT := wT_t 24 (by decide +kernel) rfl
theorem zk_Top : Cond.instantiable RX6 8 ∈ wT := wT_t 22 (by decide +kernel) rfl
theorem za_long : Cond.arrayClass .long ∈ wT := wT_t 1165 (by decide +kernel) rfl
set_option maxHeartbeats 8000000 in
set_option maxRecDepth 100000 in
theorem i_Row (l : Launch) (K : KT) (N : Nat) (hN : N ≤ 300) : In l K 1 1 N yX4_init cX4_init 2 4 [.int (i32 N)] [.null] (fun ad => wRow K ad N (fun _ => 0)) := by
  refine In.of (by decide +kernel) rfl (fun _ => Nat.le_of_ble_eq_true rfl) ?_
  intro h0 p e s m below meth c C0 hO hin A hA hP hD ls hl
  obtain ⟨hx, hb, hml, hown, hts, hG, hr, hlk⟩ := id C0
  have hS : va_S A s.heap s.heap [] := va_S.rf
  have hl : lv_has ls 2 [(0, .ref h0), (1, .int (i32 N))] := hl
  refine lv_aload_n (pc := 0) hx hb dX4_init_0 rfl (lv_at hl 0 rfl) ?_
  refine W.objInit hx hb hown (hts _ zo_Row) (hts _ zoi) (hts _ zoc) rfl (by rw [hml]; exact hl.1) rfl dX4_init_1 (Nat.le_of_ble_eq_true rfl) (Nat.le_of_ble_eq_true rfl) ?_
  refine W.eq (g2 := F0 m 4 ls []) rfl ?_
  refine lv_aload_n (pc := 4) hx hb dX4_init_4 rfl (lv_at hl 0 rfl) ?_
  refine lv_iconst (v := (0 : Int32)) (pc := 5) hx hb dX4_init_5 (by decide) ?_
  refine lv_iload_n (pc := 6) hx hb dX4_init_6 rfl (lv_at hl 1 rfl) ?_
  refine my_mmax (pc := 7) hx hb hml hl.1 hown hts zx_Row_7 (Nat.le_of_ble_eq_true rfl) (Nat.le_of_ble_eq_true rfl) ⟨Nat.zero_le _, Nat.zero_le _⟩ dX4_init_7 ?_
  rw [imax0N (show N < 2147483648 by omega)]
  refine my_newa (atype := .int) (i9 := 0) (a0 := (N, .inl (fun _ => 0))) (pc := 10) hx hb (hts _ za_int) rfl rfl (fun _ _ => rfl) (fun _ => rfl) hG.1 hP hD hS hA (i32_neg (by omega)) (i32_nc (by omega)) (by show N * 4 ≤ _; omega) (Nat.le_refl _) (by show 0 + N ≤ N; omega) dX4_init_10 (fun q0 H hP hD hS => ?_)
  have hP : va_P K.1 vC ([(h0, .inr (4, [.null]))] ++ (([(q0, .inl (K.2 0, N, .inl (fun _ => 0)))]))) H := hP
  have hD : va_D A ([(h0, .inr (4, [.null]))] ++ (([(q0, .inl (K.2 0, N, .inl (fun _ => 0)))]))) := hD
  refine va_putF (D := K.1) (ci := 4) (v := .ref q0) (ty := (.array .int)) (C := RX4) (T := TX4) (N := 1) (pc := 12) hx hb hts inT4 tyX4 tyX4_ok nmX4 hown hG.1 hP hD hS 0 rfl rfl 0 (by decide) (hts _ zf_Row_13) (fun _ h9 => h9) rfl hin rfl (by decide +kernel) rfl rfl (Nat.le_of_ble_eq_true rfl) dX4_init_12 (fun H locs hP hD hS => ?_)
  have hP : va_P K.1 vC ([(h0, .inr (4, [.ref q0]))] ++ (([(q0, .inl (K.2 0, N, .inl (fun _ => 0)))]))) H := hP
  have hD : va_D A ([(h0, .inr (4, [.ref q0]))] ++ (([(q0, .inl (K.2 0, N, .inl (fun _ => 0)))]))) := hD
  have hP9 : va_P K.1 vC (wRow K (fun k => ([h0, q0] : List Nat).getD k 0) N (fun _ => 0)) H := hP
  have hD9 : va_D A (wRow K (fun k => ([h0, q0] : List Nat).getD k 0) N (fun _ => 0)) := hD
  refine W.widen (k := 1) (n := N) (by omega) (by omega) ?_
  exact W.vret hx hb hr (fun t ht hW => ⟨⟨(fun k => ([h0, q0] : List Nat).getD k 0), rfl, rfl, by rw [ht]; exact hP9, hD9⟩, hS.F ht⟩) hS.2.2 dX4_init_15 hlk
set_option maxHeartbeats 8000000 in
set_option maxRecDepth 100000 in
theorem i_Tab (l : Launch) (K : KT) (bl : Int32) : In l K 1 1 256 yX5_init cX5_init 2 5 [.int bl] [.null, .int 0] (fun ad => wTab K ad bl (fun _ => 0)) := by
  refine In.of (by decide +kernel) rfl (fun _ => Nat.le_of_ble_eq_true rfl) ?_
  intro h0 p e s m below meth c C0 hO hin A hA hP hD ls hl
  obtain ⟨hx, hb, hml, hown, hts, hG, hr, hlk⟩ := id C0
  have hS : va_S A s.heap s.heap [] := va_S.rf
  have hl : lv_has ls 2 [(0, .ref h0), (1, .int bl)] := hl
  refine lv_aload_n (pc := 0) hx hb dX5_init_0 rfl (lv_at hl 0 rfl) ?_
  refine W.objInit hx hb hown (hts _ zo_Tab) (hts _ zoi) (hts _ zoc) rfl (by rw [hml]; exact hl.1) rfl dX5_init_1 (Nat.le_of_ble_eq_true rfl) (Nat.le_of_ble_eq_true rfl) ?_
  refine W.eq (g2 := F0 m 4 ls []) rfl ?_
  refine lv_aload_n (pc := 4) hx hb dX5_init_4 rfl (lv_at hl 0 rfl) ?_
  refine lv_sipush (v := (256 : Int32)) (pc := 5) hx hb dX5_init_5 (by decide) ?_
  refine my_newa (atype := .int) (i9 := 0) (a0 := (256, .inl (fun _ => 0))) (pc := 8) hx hb (hts _ za_int) rfl rfl (fun _ _ => rfl) (fun _ => rfl) hG.1 hP hD hS hA (by decide) (by decide) (Nat.le_of_ble_eq_true rfl) (Nat.le_of_ble_eq_true rfl) (Nat.le_of_ble_eq_true rfl) dX5_init_8 (fun q0 H hP hD hS => ?_)
  refine W.widen (k := 1) (n := 256) (by omega) (by omega) ?_
  have hP : va_P K.1 vC ([(h0, .inr (5, [.null, .int 0]))] ++ (([(q0, .inl (K.2 0, 256, .inl (fun _ => 0)))]))) H := hP
  have hD : va_D A ([(h0, .inr (5, [.null, .int 0]))] ++ (([(q0, .inl (K.2 0, 256, .inl (fun _ => 0)))]))) := hD
  refine va_putF (D := K.1) (ci := 5) (v := .ref q0) (ty := (.array .int)) (C := RX5) (T := TX5) (N := 2) (pc := 10) hx hb hts inT5 tyX5 tyX5_ok nmX5 hown hG.1 hP hD hS 0 rfl rfl 0 (by decide) (hts _ zf_Tab_9) (fun _ h9 => h9) rfl hin rfl (by decide +kernel) rfl rfl (Nat.le_of_ble_eq_true rfl) dX5_init_10 (fun H locs hP hD hS => ?_)
  have hP : va_P K.1 vC ([(h0, .inr (5, [.ref q0, .int 0]))] ++ (([(q0, .inl (K.2 0, 256, .inl (fun _ => 0)))]))) H := hP
  have hD : va_D A ([(h0, .inr (5, [.ref q0, .int 0]))] ++ (([(q0, .inl (K.2 0, 256, .inl (fun _ => 0)))]))) := hD
  refine lv_aload_n (pc := 13) hx hb dX5_init_13 rfl (lv_at hl 0 rfl) ?_
  refine lv_iload_n (pc := 14) hx hb dX5_init_14 rfl (lv_at hl 1 rfl) ?_
  refine va_putF (D := K.1) (ci := 5) (v := .int bl) (ty := .int) (C := RX5) (T := TX5) (N := 2) (pc := 15) hx hb hts inT5 tyX5 tyX5_ok nmX5 hown hG.1 hP hD hS 0 rfl rfl 1 (by decide) (hts _ zf_Tab_15) (fun _ h9 => h9) rfl hin rfl (by decide +kernel) rfl rfl (Nat.le_of_ble_eq_true rfl) dX5_init_15 (fun H locs hP hD hS => ?_)
  have hP : va_P K.1 vC ([(h0, .inr (5, [.ref q0, .int bl]))] ++ (([(q0, .inl (K.2 0, 256, .inl (fun _ => 0)))]))) H := hP
  have hD : va_D A ([(h0, .inr (5, [.ref q0, .int bl]))] ++ (([(q0, .inl (K.2 0, 256, .inl (fun _ => 0)))]))) := hD
  have hP9 : va_P K.1 vC (wTab K (fun k => ([h0, q0] : List Nat).getD k 0) bl (fun _ => 0)) H := hP
  have hD9 : va_D A (wTab K (fun k => ([h0, q0] : List Nat).getD k 0) bl (fun _ => 0)) := hD
  exact W.vret hx hb hr (fun t ht hW => ⟨⟨(fun k => ([h0, q0] : List Nat).getD k 0), rfl, rfl, by rw [ht]; exact hP9, hD9⟩, hS.F ht⟩) hS.2.2 dX5_init_18 hlk
