/-! the start of the law -/
theorem mT {w : Cond} (h : w ∈ tables_1) : w ∈ lw_tbl := List.mem_append_right _ h
theorem strs_in : ∀ q ∈ strs, Cond.stringRef RX6 q.1 q.2 ∈ tables_1 := by decide +kernel
theorem ncs_in : ∀ q ∈ ncs, Cond.not (.castable q.1 q.2) ∈ flatC (Jvm.Cond.and given_1 narrow_1) := by decide +kernel
theorem nest_in : Cond.methodLinkNest RX3 91 yX6_signOf "ConstrainedDelaunay" ∈ tables_1 := by decide +kernel
theorem over_in : Cond.arrayOver (.object "ConstrainedDelaunay$Plan") ∈ tables_1 := by decide +kernel
theorem thr0_in : Cond.laysStatic Bundle.tN "UNASSIGNED_STACK" Bundle.steD ∈ tables_1 := by decide +kernel
theorem thr1_in : Cond.laysStatic Bundle.tN "SUPPRESSED_SENTINEL" Bundle.listD ∈ tables_1 := by decide +kernel
theorem thr2_in : Cond.initialized Bundle.tN ∈ tables_1 := by decide +kernel
theorem thr3_in : Cond.isRef (.static Bundle.tN "UNASSIGNED_STACK" Bundle.steD) ∈ flatC (Jvm.Cond.and given_1 narrow_1) := by decide +kernel
theorem thr4_in : Cond.isRef (.static Bundle.tN "SUPPRESSED_SENTINEL" Bundle.listD) ∈ flatC (Jvm.Cond.and given_1 narrow_1) := by decide +kernel
theorem get8 {α : Type} {l : List α} {k : Nat} {q : α} (h : l[k]? = some q) : k < l.length := (List.getElem?_eq_some_iff.mp h).1
theorem start_K {s : State} {args : Array Value} (htbl : ∀ w ∈ lw_tbl, w.before args s = true) : ∃ K : KT, va_K K.1 vC (tyK K) s := by
  have hts : ∀ w ∈ wT, w.before args s = true := fun w hw => htbl w (wT_tbl hw)
  obtain ⟨c0, i0, k0⟩ := u_known hts inT0 (hts _ zk_Hist)
  obtain ⟨c1, i1, k1⟩ := u_known hts inT1 (hts _ zk_Input)
  obtain ⟨c2, i2, k2⟩ := u_known hts inT2 (hts _ zk_Mesh)
  obtain ⟨c3, i3, k3⟩ := u_known hts inT3 (hts _ zk_Plan)
  obtain ⟨c4, i4, k4⟩ := u_known hts inT4 (hts _ zk_Row)
  obtain ⟨c5, i5, k5⟩ := u_known hts inT5 (hts _ zk_Tab)
  obtain ⟨c6, i6, k6⟩ := u_known hts inT6 (hts _ zk_Top)
  obtain ⟨a0, b0, d0, e0, f0, g0⟩ := Cond.arrayClass_spec (hts _ za_int)
  obtain ⟨d2, a2, b2, e2, f2, g2, h2, i22⟩ := Cond.arrayOver_spec (htbl _ (mT over_in))
  obtain ⟨a3, b3, d3, e3, f3, g3⟩ := Cond.arrayClass_spec (hts _ za_long)
  refine ⟨((fun k => ([c0, c1, c2, c3, c4, c5, c6] : List ClassId).getD k c0, fun k => ([i0, i1, i2, i3, i4, i5, i6] : List (Nat → Nat)).getD k i0), fun k => ([a0, a0, a2, a3] : List ClassId).getD k a0), fun c q hq => ?_, fun k q hq => ?_⟩
  · have h8 : c < 7 := get8 hq
    have : c = 0 ∨ c = 1 ∨ c = 2 ∨ c = 3 ∨ c = 4 ∨ c = 5 ∨ c = 6 := by omega
    rcases this with h | h | h | h | h | h | h <;> subst h
    · have e : (RX0, TX0, 3) = q := Option.some.inj hq
      subst e; exact k0
    · have e : (RX1, TX1, 9) = q := Option.some.inj hq
      subst e; exact k1
    · have e : (RX2, TX2, 12) = q := Option.some.inj hq
      subst e; exact k2
    · have e : (RX3, TX3, 6) = q := Option.some.inj hq
      subst e; exact k3
    · have e : (RX4, TX4, 1) = q := Option.some.inj hq
      subst e; exact k4
    · have e : (RX5, TX5, 2) = q := Option.some.inj hq
      subst e; exact k5
    · have e : (RX6, TX6, 8) = q := Option.some.inj hq
      subst e; exact k6
  · have h8 : k < 4 := get8 hq
    have : k = 0 ∨ k = 1 ∨ k = 2 ∨ k = 3 := by omega
    rcases this with h | h | h | h <;> subst h
    · have e : (a0, FieldType.int) = q := Option.some.inj hq
      subst e; exact ⟨fun n z => ⟨fun k h => (by cases h), b0, f0, d0, g0⟩, e0⟩
    · have e : (a0, FieldType.int) = q := Option.some.inj hq
      subst e; exact ⟨fun n z => ⟨fun k h => (by cases h), b0, f0, d0, g0⟩, e0⟩
    · have e : (a2, FieldType.object "ConstrainedDelaunay$Plan") = q := Option.some.inj hq
      subst e; exact ⟨fun n z => ⟨fun k h => (by cases h), b2, g2, d2, h2⟩, b2, d2, g2, h2, e2, i22⟩
    · have e : (a3, FieldType.long) = q := Option.some.inj hq
      subst e; exact ⟨fun n z => ⟨fun k h => (by cases h), b3, f3, d3, g3⟩, e3⟩
theorem start_G {s : State} {args : Array Value} {K : KT} (htbl : ∀ w ∈ lw_tbl, w.before args s = true) (hg : (Jvm.Cond.and given_1 narrow_1).before args s = true) (hK : va_K K.1 vC (tyK K) s) : G2 K s := by
  have hts : ∀ w ∈ wT, w.before args s = true := fun w hw => htbl w (wT_tbl hw)
  obtain ⟨c6, _, hc6, _⟩ := Cond.instantiable_spec (hts _ zk_Top)
  refine ⟨⟨⟨hK, va_Nw.of rfl (htbl _ (mT nest_in))⟩, fun w hw => va_Nw.of (wB_tabs hw) (htbl w (mT (List.mem_filter.mp hw).1)), fun q hq => ?_⟩, fun q hq => va_Nc.of (flat_of_before _ hg _ (ncs_in q hq))⟩
  have h1 := htbl _ (mT (strs_in q hq))
  obtain ⟨_, _, _, a, _, _, _, _, _, h2⟩ := Cond.stringRef_spec hc6 h1
  exact ⟨a, vk_R.of h1 h2⟩
theorem start_Z {s : State} {args : Array Value} (htbl : ∀ w ∈ lw_tbl, w.before args s = true) (hg : (Jvm.Cond.and given_1 narrow_1).before args s = true) : ZZ (fun q => s.heap.size ≤ q) s s.heap :=
  ⟨vx_Zqof (htbl _ (mT thr0_in)) (htbl _ (mT thr2_in)) (flat_of_before _ hg _ thr3_in) (fun a h z => absurd h (Nat.not_lt.mpr z)), vx_Zqof (htbl _ (mT thr1_in)) (htbl _ (mT thr2_in)) (flat_of_before _ hg _ thr4_in) (fun a h z => absurd h (Nat.not_lt.mpr z))⟩
