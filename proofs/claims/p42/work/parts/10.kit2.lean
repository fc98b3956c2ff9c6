/-! further words of my own: long shifts, a quotient that is no NaN, calls that answer a double -/
def lshr (x : Int64) (y : Int32) : Int64 := x >>> (y.toInt64 &&& 63)
def lushr (x : Int64) (y : Int32) : Int64 := (x.toUInt64 >>> (y.toInt64.toUInt64 &&& Int64.toUInt64 63)).toInt64
def ddivO (x y : UInt64) : Option UInt64 := if FP.ddiv x y &&& 0x7fffffffffffffff ≤ 0x7ff0000000000000 then some (FP.ddiv x y) else none
theorem ddivO_in {x y v : UInt64} (h : ddivO x y = some v) : vf_n64 (FP.ddiv x y) ∧ FP.ddiv x y = v := by
  unfold ddivO at h
  by_cases c : FP.ddiv x y &&& 0x7fffffffffffffff ≤ 0x7ff0000000000000
  · rw [if_pos c] at h; exact ⟨c, Option.some.inj h⟩
  · rw [if_neg c] at h; cases h
section CALLS2
variable {p : Program} {l : Launch} {e : Env} {R : Room} {s : State} {m : MethodId} {args : Array Value} {below : List Frame} {meth : Method} {c : Code} {H : Heap} {locs : List Loc} {cells slots : Nat} {Q : State → Prop}
theorem wrVd {K : KT} {d' n' nL pc index na ci q0 b : Nat} {y : MethodName} {cc cc' : ByteArray} {rt : Option FieldType} {As rest st : List Value} {ws w w2 ws2 : va_W} {r : UInt64} {own C : String} {T : u_T} {N : Nat} {fs : List Value} {ls : Array Slot} {A : Nat → Prop} {H0 : Heap}
    (hx : p.tables.exec = Jvm.exec) (hb : c.code = cc) (hml : c.maxLocals = nL) (hown : s.vm.findClass own = some m.cls) (hts : ∀ w ∈ wT, w.before args s = true) (hG : G0 K s) (hP : va_P K.1 vC ws H) (hD : va_D A ws) (hS : va_S A H0 H locs)
    (hM : Wr l K d' y cc' n' rt (.ref b :: As) w (some (.double r)) w2) (is : List Nat) (hnd : va_nd is = true) (his : is.map (fun i => ws[i]?) = w.map some) {as9 : List Nat} (hadr1 : w.map Prod.fst = as9) (hadr2 : w2.map Prod.fst = as9) (src : List (Nat ⊕ Nat)) (hok : srcOk src is = true) (hws : src.map (pk2 w2 ws) = ws2.map some) (he : ws[q0]? = some (b, .inr (ci, fs))) (hc : vC[ci]? = some (C, T, N))
    (hg : GoodIn wT (wsV own index C y (wsM y cc' n' rt))) (hd : y.cls = C ∧ y.cls ≠ "java/lang/invoke/MethodHandle" ∧ y.cls ≠ "java/lang/invoke/VarHandle" ∧ (parseMethodDescriptor y.desc).map (fun d => d.parameters.length) = some na)
    (hn : As.length = na) (hR : d' + 1 ≤ R.frames ∧ 8 + (n' + 11) + 60 * d' ≤ R.locals) (hf : cells ≤ R.cells ∧ slots ≤ R.slots) {lv0 : List (Nat × Value)} (hl : lv_has ls nL lv0) (hst : st = As.reverse ++ .ref b :: rest) (hW : (rest.map fun v => v.category).sum ≤ 8) (hdg : decode cc pc = .ok (.invokevirtual index, 3))
    (kk : ∀ (H1 : Heap) (locs1 : List Loc), va_P K.1 vC ws2 H1 → va_D A ws2 → va_S A H0 H1 locs1 → W p l e R s m args below meth c H1 locs1 cells slots Q (F0 m (pc + 3) ls (.double r :: rest))) : W p l e R s m args below meth c H locs cells slots Q (F0 m pc ls st) :=
  wrV hx hb hml hown hts hG hP hD hS hM is hnd his hadr1 hadr2 src hok hws he hc hg hd hn hR hf hl hst hW hdg kk
end CALLS2
