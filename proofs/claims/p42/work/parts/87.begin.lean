/-! THE CLAIM OUT OF ONE WALK OF THE LAW'S BODY. Your part is whole_start (and what it stands on); all else here is the same for every law, but numbers. -/
def R_law : String := "ConstrainedDelaunayLaw"
def lw_P (b : Addr) (xs : List Int32) (args : Array Value) (s : State) : Prop := args = #[.ref b] ∧ s.IntsAt b xs ∧ xs.length ≤ 260 ∧ (Jvm.Cond.and given_1 narrow_1).before args s = true
/-- what a walk over the start with the record d0 says of its end, said of the start itself -/
theorem lw_closed {s t : State} {o : Outcome} {d0 : Drawn} {L : List Loc} {k n : Nat} (hd0 : s.drawn.sameBut d0 lw_cs) (hv : ∃ v, o = .returned v) (hW : (s.setDrawn d0).WarmedH t.vm) (hs : (s.setDrawn d0).sameButNew ({ t with vm := s.vm } : State) L k n) : State.butDraws s t lw_cs (fun t1 => Framed s o t1 L k n) := by
  have h2 : t.drawn = d0 := congrArg State.drawn hs.1
  refine ⟨⟨hv, hW, State.sameButNew.setDrawn hs s.drawn⟩, ?_, by decide⟩
  rw [h2]
  exact hd0
def lw_Q (_ : Array Value) (s : State) (o : Outcome) (t : State) : Prop := o = .returned (some (.int 1)) ∧ State.butDraws s t lw_cs (fun t1 => Framed s o t1 [] 600312 7289666)
def lw_Z (below : List Frame) (a : Array Value) (s : State) : State → Prop := fun t => ∃ o, t.status = .running ∧ Ended t below o ∧ lw_Q a s o t
/-- the law's own end, with 1 on the stack, nothing written that was there before, its room as the claim has it; d0: the record of draws at this point (at the entry s.drawn: begin with 'refine W.base ?_' and 'have hd0 := Drawn.sameBut.refl s.drawn lw_cs') -/
theorem lw_ret {p : Program} {l : Launch} {e : Env} {s : State} {m : MethodId} {below : List Frame} {meth : Method} {c : Code} {b : Nat} {d0 : Drawn} (hd0 : s.drawn.sameBut d0 lw_cs) (hx : p.tables.exec = Jvm.exec) (hb : c.code = code) (hr : meth.sig.returnType = ret) (hlocks : meth.locks = false) {pc : Nat} {H : Heap} {ls : Array Slot} (hdg : decode code pc = .ok (.ireturn, 1)) : W p l e room_1 (s.setDrawn d0) m #[Value.ref b] below meth c H [] 600312 7289666 (lw_Z below #[Value.ref b] s) (F0 m pc ls [.int 1]) := by
  intro T hT X
  obtain ⟨fs, hret, hrun, hended, hW, hframe⟩ := X.leave (v := some (.int 1)) (hlocks := hlocks) (fun h => by rw [hr] at h; cases h)
  have hmeth' : T.vm.method? m = some meth := X.method'
  refine ⟨T.setFrames fs, ?_, .returned (some (.int 1)), hrun, hended, rfl, lw_closed hd0 ⟨_, rfl⟩ hW hframe⟩
  jvm_step X.here [X.here.top, hx, hb, hdg, hmeth', hr, ret, narrow_b1]
  (try refine ⟨rfl, ?_⟩); (try refine ⟨rfl, ?_⟩)
  first | (intro acts; rw [hret _ acts rfl rfl rfl]) | rw [hret _ _ rfl rfl rfl]
  exact Steps.refl _
/-- what holds at the law's entry: the machine, the code, the tables' words (any of lw_tbl by 'hts w (by decide +kernel)'), the script of L ints xs at the cell b, what the Statement gives of the start (any of its parts by flat_of_before) -/
def lw_At (p : Program) (s : State) (m : MethodId) (meth : Method) (c : Code) (b L : Nat) (xs : Nat → Int32) : Prop :=
  p.tables.exec = Jvm.exec ∧ c.code = code ∧ meth.sig.returnType = ret ∧ c.maxLocals = 9 ∧ s.vm.findClass R_law = some m.cls ∧ (∀ w ∈ lw_tbl, w.before #[Value.ref b] s = true) ∧ va_X b L xs s s.heap ∧ b < s.heap.size ∧ meth.locks = false ∧ (Jvm.Cond.and given_1 narrow_1).before #[Value.ref b] s = true
set_option maxHeartbeats 8000000 in
set_option maxRecDepth 100000 in
theorem whole_start {p : Program} {e : Env} {s : State} {m : MethodId} {below : List Frame} {meth : Method} {c : Code} (l : Launch) (hflags : l.flags = flags0) {b L : Nat} {xs : Nat → Int32} (hL : L ≤ 260) (C0 : lw_At p s m meth c b L xs) : W p l e room_1 s m #[Value.ref b] below meth c s.heap [] 0 0 (lw_Z below #[Value.ref b] s) (entryFrame m ([Value.ref b] : List Value).toArray 9) := by
  obtain ⟨hx, hb, hr, hml, hown, htbl, hX, hbl, hlk, hgv⟩ := C0
  have hb : c.code = cL_law := hb
  have hown : s.vm.findClass RL = some m.cls := hown
  have hl0 : l.stackTraces = false := by unfold Launch.stackTraces; rw [hflags]; decide +kernel
  have hts : ∀ w ∈ wT, w.before #[Value.ref b] s = true := fun w hw => htbl w (wT_tbl hw)
  obtain ⟨K, hK⟩ := start_K htbl
  have hG2 := start_G htbl hgv hK
  have hZZ := start_Z htbl hgv
  have hG : G0 K s := hG2.1.1
  have hO : va_AO "ConstrainedDelaunay$Plan" s := va_AO.of (htbl _ (mT over_in))
  have hA : ∀ q : Nat, s.heap.size ≤ q → s.heap.size ≤ q := fun q h => h
  have hnA : ¬ s.heap.size ≤ b := Nat.not_le.mpr hbl
  have hC : LCx p m c s #[Value.ref b] K (fun q => s.heap.size ≤ q) b L xs := ⟨hx, hb, hml, hown, hts, hG, hG2, hZZ, hX, hbl, hnA, by omega⟩
  have hl := lv_entry [Value.ref b] (n := 9) (Nat.le_of_ble_eq_true rfl)
  have hl : lv_has _ 9 [(0, .ref b)] := hl
  rw [lg_entry_eq]
  revert hl
  generalize ((lg_sl [Value.ref b] ++ List.replicate (9 - (lg_sl [Value.ref b]).length) Slot.unset).toArray) = ls
  intro hl
  have hS : va_S (fun q => s.heap.size ≤ q) s.heap s.heap [] := va_S.rf
  have hP : va_P K.1 vC [] s.heap := fun k q h => by cases h
  have hD : va_D (fun q => s.heap.size ≤ q) [] := ⟨fun i j p q h => (by cases h), fun k q h => (by cases h)⟩
  refine va_new (ci := 6) (fs := [.null, .null, .null, .null, .null, .null, .null, .int 0]) (C := RX6) (T := TX6) (N := 8) (pc := 0) hx hb hts inT6 tyX6 tyX6_ok hown (hts _ zl_Law_8) (hts _ zk_Top) (hts _ zn_Top) hG.1 hP hD hS hA rfl (by decide) (Nat.le_of_ble_eq_true rfl) (Nat.le_of_ble_eq_true rfl) dL_law_0 (fun q0 H hP hD hS => ?_)
  refine lv_dup (pc := 3) hx hb dL_law_3 rfl ?_
  refine inC (pc := 4) (na := 0) (As := []) (rest := [.ref q0]) (wr := []) hx hb hml hown hts hG hO hP hD hS hA (i_Top l K) 0 [] rfl rfl (by decide) (by decide) (gM zc_Top) zn_Top zm_Law_263 zi_Top rfl (by decide +kernel) rfl ⟨Nat.le_of_ble_eq_true rfl, Nat.le_of_ble_eq_true rfl⟩ ⟨Nat.le_of_ble_eq_true rfl, Nat.le_of_ble_eq_true rfl⟩ hl rfl (Nat.le_of_ble_eq_true rfl) dL_law_4 (fun a0 H locs hq hPn hDn hS => ?_)
  subst hq
  have hP : va_P K.1 vC (wO K a0 S00 ++ []) H := by rw [List.append_nil]; exact hPn
  have hD : va_D (fun q => s.heap.size ≤ q) (wO K a0 S00 ++ []) := by rw [List.append_nil]; exact hDn
  refine lv_astore_n (pc := 7) (lv' := [(1, .ref (a0 0)), (0, .ref b)]) hx hb dL_law_7 rfl hl (by decide) rfl (fun ls hl => ?_)
  obtain ⟨o, he⟩ := Option.isSome_iff_exists.mp e_runs
  refine W.widen (k := 600) (n := 6 * 600) (Nat.le_of_ble_eq_true rfl) (Nat.le_of_ble_eq_true rfl) ?_
  refine l_law_e hC hl0 ⟨Nat.le_of_ble_eq_true rfl, Nat.le_of_ble_eq_true rfl⟩ 2000 a0 S00 600 (Nat.le_of_ble_eq_true rfl) (Nat.le_of_ble_eq_true rfl) he H locs ls hP hD hS (lv_sub hl [1, 0] rfl) (fun H locs ls hP hD hS hl => ?_)
  have hP : va_P K.1 vC [] H := fun k q h => by cases h
  have hD : va_D (fun q => s.heap.size ≤ q) [] := ⟨fun i j p q h => (by cases h), fun k q h => (by cases h)⟩
  refine va_new (ci := 6) (fs := [.null, .null, .null, .null, .null, .null, .null, .int 0]) (C := RX6) (T := TX6) (N := 8) (pc := 303) hx hb hts inT6 tyX6 tyX6_ok hown (hts _ zl_Law_8) (hts _ zk_Top) (hts _ zn_Top) hG.1 hP hD hS hA rfl (by decide) (Nat.le_of_ble_eq_true rfl) (Nat.le_of_ble_eq_true rfl) dL_law_303 (fun q0 H hP hD hS => ?_)
  refine lv_dup (pc := 306) hx hb dL_law_306 rfl ?_
  refine inC (pc := 307) (na := 0) (As := []) (rest := [.ref q0]) (wr := []) hx hb hml hown hts hG hO hP hD hS hA (i_Top l K) 0 [] rfl rfl (by decide) (by decide) (gM zc_Top) zn_Top zm_Law_263 zi_Top rfl (by decide +kernel) rfl ⟨Nat.le_of_ble_eq_true rfl, Nat.le_of_ble_eq_true rfl⟩ ⟨Nat.le_of_ble_eq_true rfl, Nat.le_of_ble_eq_true rfl⟩ hl rfl (Nat.le_of_ble_eq_true rfl) dL_law_307 (fun a1 H locs hq hPn hDn hS => ?_)
  subst hq
  have hP := hPn
  have hD := hDn
  refine lv_astore_n (pc := 310) (lv' := [(2, .ref (a1 0)), (0, .ref b), (1, .ref (a0 0))]) hx hb dL_law_310 rfl hl (by decide) rfl (fun ls hl => ?_)
  refine lv_bipush (v := (20 : Int32)) (pc := 311) hx hb dL_law_311 (by decide) ?_
  refine my_newa (atype := .long) (i9 := 3) (a0 := (20, .inr (.inl (fun _ => 0)))) (pc := 313) hx hb (hts _ za_long) rfl rfl (fun _ _ => rfl) (fun _ => rfl) hG.1 hP hD hS hA (by decide) (by decide) (Nat.le_of_ble_eq_true rfl) (Nat.le_of_ble_eq_true rfl) (Nat.le_of_ble_eq_true rfl) dL_law_313 (fun q2 H hP hD hS => ?_)
  have hP : va_P K.1 vC (wO K a1 S00 ++ wLs K q2 (fun _ => 0)) H := hP
  have hD : va_D (fun q => s.heap.size ≤ q) (wO K a1 S00 ++ wLs K q2 (fun _ => 0)) := hD
  refine lv_astore_n (pc := 315) (lv' := [(3, .ref q2), (2, .ref (a1 0)), (0, .ref b), (1, .ref (a0 0))]) hx hb dL_law_315 rfl hl (by decide) rfl (fun ls hl => ?_)
  refine W.widen (k := 1200) (n := 6 * 1200) (Nat.le_of_ble_eq_true rfl) (Nat.le_of_ble_eq_true rfl) ?_
  refine l_law_o hC hl0 ⟨Nat.le_of_ble_eq_true rfl, Nat.le_of_ble_eq_true rfl⟩ 2000 a1 q2 S00 (fun _ => 0) 1200 (Nat.le_of_ble_eq_true rfl) (Nat.le_of_ble_eq_true rfl) (o_runs L xs (fun _ => 0)) H locs ls hP hD hS (lv_sub hl [2, 1, 0] rfl) (fun H locs ls hS => ?_)
  refine va_forget (fun q hq => hS.2.2 q hq) ?_
  refine W.widen (k := 600312) (n := 7289666) (Nat.le_of_ble_eq_true rfl) (Nat.le_of_ble_eq_true rfl) ?_
  refine W.base ?_
  exact lw_ret (Drawn.sameBut.refl s.drawn lw_cs) hx hb hr hlk dL_law_599
