set_option maxHeartbeats 8000000 in
theorem c_L_some (l : Launch) (K : KT) (a0 a1 : Int32) {o : Int32} (h : s_L_some a0 a1 = some o) : Rd l K 0 yL_some cL_some 3 .int [.int a0, .int a1] [] o := by
  refine Rd.of (by decide +kernel) (Nat.le_of_ble_eq_true rfl) ?_
  intro p e s m below meth c hx hb hr hml hown hts hlk hP hG ls hl
  have hl : lv_has ls 3 [(0, .int a0), (1, .int a1)] := hl
  unfold s_L_some at h
  obtain ⟨v, hv, h⟩ := ob h
  obtain rfl := Option.some.inj h
  obtain ⟨h0, e0⟩ := iremO_in hv
  refine lv_iload_n (pc := 0) hx hb dL_some_0 rfl (lv_at hl 0 rfl) ?_
  refine lv_iload_n (pc := 1) hx hb dL_some_1 rfl (lv_at hl 1 rfl) ?_
  refine lv_irem (pc := 2) hx hb dL_some_2 h0 ?_
  rw [e0]
  refine lv_istore_n (pc := 3) (lv' := [(2, .int v), (0, .int a0), (1, .int a1)]) hx hb dL_some_3 rfl hl (by decide) rfl (fun ls hl => ?_)
  refine lv_iload_n (pc := 4) hx hb dL_some_4 rfl (lv_at hl 0 rfl) ?_
  refine lv_if_ge (tgt := 14) (pc := 5) hx hb dL_some_5 (by decide) (fun c1 => ?_) (fun c1 => ?_)
  · refine lv_iload_n (pc := 14) hx hb dL_some_14 rfl (lv_at hl 0 rfl) ?_
    rw [if_neg (fun z => absurd z (Int32.not_lt.mpr c1))]
    exact W.iret hx hb hr (fun t ht hW => ⟨rfl, ht⟩) (fun q hq => absurd hq List.not_mem_nil) dL_some_15 hlk
  · refine lv_iload_n (pc := 8) hx hb dL_some_8 rfl (lv_at hl 0 rfl) ?_
    refine lv_iload_n (pc := 9) hx hb dL_some_9 rfl (lv_at hl 2 rfl) ?_
    refine lv_iadd (pc := 10) hx hb dL_some_10 ?_
    refine lv_goto (tgt := 15) (pc := 11) hx hb dL_some_11 (by decide) ?_
    rw [if_pos (Int32.not_le.mp c1)]
    exact W.iret hx hb hr (fun t ht hW => ⟨rfl, ht⟩) (fun q hq => absurd hq List.not_mem_nil) dL_some_15 hlk
theorem atO_in {L : Nat} {xs : Nat → Int32} {k v : Int32} (h : atO L xs k = some v) : ¬ k < 0 ∧ atS L xs k = v := by
  unfold atO at h
  by_cases c : k < 0
  · rw [if_pos c] at h; cases h
  · rw [if_neg c] at h; exact ⟨c, Option.some.inj h⟩
theorem asetL_in {n : Nat} {f g : Nat → Int64} {i : Int32} {v : Int64} (h : aset n f i v = some g) : vp_in i n ∧ vp_updL f i.toNatClampNeg v = g := by
  unfold aset at h
  by_cases c : i < 0 ∨ n ≤ i.toNatClampNeg
  · rw [if_pos c] at h; cases h
  · rw [if_neg c] at h
    refine ⟨c, ?_⟩
    have h := Option.some.inj h
    rw [← h]
    rfl
