set_option maxHeartbeats 8000000 in
set_option maxRecDepth 100000 in
theorem l_L_state_L18 {p : Program} {l : Launch} {e : Env} {R : Room} {s : State} {m : MethodId} {args : Array Value} {below : List Frame} {meth : Method} {c : Code} {Q : State → Prop} {K : KT} {A : Nat → Prop} {r9 : va_W} (C0 : CtxM p m c cL_state 4 s args K meth (some .long) A) (hl0 : l.stackTraces = false) (hRf : 9 ≤ R.frames ∧ 540 ≤ R.locals) (F : Nat) (ad : Nat → Nat)  (cE : Nat) (hE : cE ≤ R.cells ∧ 6 * cE ≤ R.slots) : ∀ (n : Nat) (x1 : Int64) (x3 : Int32) (S : TopS) (out : Int64 × Int32 × TopS), s_L_state_L18 F n x1 x3 S = some out → ∀ (H : Heap) (locs : List Loc) (cells slots : Nat) (ls : Array Slot), cells + n * 4 ≤ cE → slots ≤ 6 * cells → va_P K.1 vC (wO K ad S ++ r9) H → va_D A (wO K ad S ++ r9) → va_S A s.heap H locs → lv_has ls 4 [(0, .ref (ad 0)), (1, .long x1), (3, .int x3)] → (∀ (o : Int64 × Int32 × TopS) (H : Heap) (locs : List Loc) (ls : Array Slot), out = o → va_P K.1 vC (wO K ad o.2.2 ++ r9) H → va_D A (wO K ad o.2.2 ++ r9) → va_S A s.heap H locs → lv_has ls 4 [(0, .ref (ad 0)), (1, .long o.1), (3, .int o.2.1)] → W p l e R s m args below meth c H locs cE (6 * cE) Q (F0 m 58 ls [])) → W p l e R s m args below meth c H locs cells slots Q (F0 m 18 ls []) := by
  obtain ⟨⟨hx, hb, hml, hown, hts, hG, hr, hlk⟩, hG2, hZ⟩ := id C0
  intro n
  induction n with
  | zero =>
    intro x1 x3 S out h
    cases h
  | succ n ih =>
    intro x1 x3 S out h H locs cells slots ls hc hs hP hD hS hl Kx
    rw [s_L_state_L18.eq_2] at h
    refine lv_iload_n (pc := 18) hx hb dL_state_18 rfl (lv_at hl 2 rfl) ?_
    refine lv_aload_n (pc := 19) hx hb dL_state_19 rfl (lv_at hl 0 rfl) ?_
    refine rdA (pc := 20) (As := []) (rest := [.int x3]) (r9 := r9) hx hb hml hown hts hG hP (c_i_pointCount l K ad S) (wO_0 K ad _) (ci := 6) rfl g_Law_146 hd_Top_pointCount rfl ⟨by omega, by omega⟩ ⟨by omega, by omega⟩ hl rfl (Nat.le_of_ble_eq_true rfl) dL_state_20 ?_
    refine lv_icmp_ge (tgt := 58) (pc := 23) hx hb dL_state_23 (by decide) (fun c1 => ?_) (fun c1 => ?_)
    · have h := it_t c1 h
      obtain rfl := Option.some.inj h
      refine W.widen (k := cE) (n := 6 * cE) (by omega) (by omega) ?_
      exact Kx _ H locs ls rfl hP hD hS (lv_sub hl [0, 1, 2] rfl)
    · have h := it_f c1 h
      refine lv_ldc2 (v := (31 : Int64)) (pc := 26) hx hb hown (hts _ qk_Law_144) dL_state_26 ?_
      refine lv_ldc2 (v := (31 : Int64)) (pc := 29) hx hb hown (hts _ qk_Law_144) dL_state_29 ?_
      refine lv_lload_n (pc := 32) hx hb dL_state_32 rfl (lv_at hl 1 rfl) ?_
      refine lv_lmul (pc := 33) hx hb dL_state_33 ?_
      refine lv_aload_n (pc := 34) hx hb dL_state_34 rfl (lv_at hl 0 rfl) ?_
      refine lv_iload_n (pc := 35) hx hb dL_state_35 rfl (lv_at hl 2 rfl) ?_
      refine lv_iconst (v := (0 : Int32)) (pc := 36) hx hb dL_state_36 (by decide) ?_
      obtain ⟨v2, h_v2, h⟩ := ob h
      refine lwA (na := 3) (pc := 37) (As := [.ref (ad 0), .int x3, .int (0 : Int32)]) (rest := [.long ((31 : Int64) * x1), .long (31 : Int64)]) (r9 := r9) hx hb hml hown hts hG2 hP hD hS hZ (c_h_coordinate l K hl0 ad F S x3 (0 : Int32) h_v2) (wO_adr K ad _ _) (gSH qm_Law_152 qt_Law_coordinate qn_Law qc_Law_coordinate) (by decide +kernel) rfl ⟨by omega, by omega⟩ ⟨by omega, by omega⟩ hl rfl (Nat.le_of_ble_eq_true rfl) dL_state_37 (fun H locs hP hD hS => ?_)
      refine lv_i2l (v := (v2.1).toInt64) (pc := 40) hx hb dL_state_40 rfl ?_
      refine lv_ladd (pc := 41) hx hb dL_state_41 ?_
      refine lv_lmul (pc := 42) hx hb dL_state_42 ?_
      refine lv_aload_n (pc := 43) hx hb dL_state_43 rfl (lv_at hl 0 rfl) ?_
      refine lv_iload_n (pc := 44) hx hb dL_state_44 rfl (lv_at hl 2 rfl) ?_
      refine lv_iconst (v := (1 : Int32)) (pc := 45) hx hb dL_state_45 (by decide) ?_
      obtain ⟨v3, h_v3, h⟩ := ob h
      refine lwA (na := 3) (pc := 46) (As := [.ref (ad 0), .int x3, .int (1 : Int32)]) (rest := [.long ((31 : Int64) * (((31 : Int64) * x1) + ((v2.1).toInt64)))]) (r9 := r9) hx hb hml hown hts hG2 hP hD hS hZ (c_h_coordinate l K hl0 ad F v2.2 x3 (1 : Int32) h_v3) (wO_adr K ad _ _) (gSH qm_Law_152 qt_Law_coordinate qn_Law qc_Law_coordinate) (by decide +kernel) rfl ⟨by omega, by omega⟩ ⟨by omega, by omega⟩ hl rfl (Nat.le_of_ble_eq_true rfl) dL_state_46 (fun H locs hP hD hS => ?_)
      refine lv_i2l (v := (v3.1).toInt64) (pc := 49) hx hb dL_state_49 rfl ?_
      refine lv_ladd (pc := 50) hx hb dL_state_50 ?_
      refine lv_lstore_n (pc := 51) (lv' := [(1, .long (((31 : Int64) * (((31 : Int64) * x1) + ((v2.1).toInt64))) + ((v3.1).toInt64))), (0, .ref (ad 0)), (3, .int x3)]) hx hb dL_state_51 rfl hl (by decide) rfl (fun ls hl => ?_)
      refine lv_iinc (v := (x3 + (1 : Int32))) (pc := 52) (lv' := [(3, .int (x3 + (1 : Int32))), (1, .long (((31 : Int64) * (((31 : Int64) * x1) + ((v2.1).toInt64))) + ((v3.1).toInt64))), (0, .ref (ad 0))]) hx hb dL_state_52 hl (k := 2) rfl rfl (by decide) rfl (fun ls hl => ?_)
      refine lv_goto (tgt := 18) (pc := 55) hx hb dL_state_55 (by decide) ?_
      exact ih (((31 : Int64) * (((31 : Int64) * x1) + ((v2.1).toInt64))) + ((v3.1).toInt64)) (x3 + (1 : Int32)) v3.2 out h H locs _ _ ls (by omega) (by omega) hP hD hS (lv_sub hl [2, 1, 0] rfl) Kx
set_option maxHeartbeats 8000000 in
set_option maxRecDepth 100000 in
theorem l_L_state_L60 {p : Program} {l : Launch} {e : Env} {R : Room} {s : State} {m : MethodId} {args : Array Value} {below : List Frame} {meth : Method} {c : Code} {Q : State → Prop} {K : KT} {A : Nat → Prop} {r9 : va_W} (C0 : CtxM p m c cL_state 4 s args K meth (some .long) A) (hl0 : l.stackTraces = false) (hRf : 9 ≤ R.frames ∧ 540 ≤ R.locals) (F : Nat) (ad : Nat → Nat)  (cE : Nat) (hE : cE ≤ R.cells ∧ 6 * cE ≤ R.slots) : ∀ (n : Nat) (x1 : Int64) (x3 : Int32) (S : TopS) (out : Int64 × Int32 × TopS), s_L_state_L60 F n x1 x3 S = some out → ∀ (H : Heap) (locs : List Loc) (cells slots : Nat) (ls : Array Slot), cells + n * 4 ≤ cE → slots ≤ 6 * cells → va_P K.1 vC (wO K ad S ++ r9) H → va_D A (wO K ad S ++ r9) → va_S A s.heap H locs → lv_has ls 4 [(0, .ref (ad 0)), (1, .long x1), (3, .int x3)] → (∀ (o : Int64 × Int32 × TopS) (H : Heap) (locs : List Loc) (ls : Array Slot), out = o → va_P K.1 vC (wO K ad o.2.2 ++ r9) H → va_D A (wO K ad o.2.2 ++ r9) → va_S A s.heap H locs → lv_has ls 4 [(0, .ref (ad 0)), (1, .long o.1), (3, .int o.2.1)] → W p l e R s m args below meth c H locs cE (6 * cE) Q (F0 m 100 ls [])) → W p l e R s m args below meth c H locs cells slots Q (F0 m 60 ls []) := by
  obtain ⟨⟨hx, hb, hml, hown, hts, hG, hr, hlk⟩, hG2, hZ⟩ := id C0
  intro n
  induction n with
  | zero =>
    intro x1 x3 S out h
    cases h
  | succ n ih =>
    intro x1 x3 S out h H locs cells slots ls hc hs hP hD hS hl Kx
    rw [s_L_state_L60.eq_2] at h
    refine lv_iload_n (pc := 60) hx hb dL_state_60 rfl (lv_at hl 2 rfl) ?_
    refine lv_aload_n (pc := 61) hx hb dL_state_61 rfl (lv_at hl 0 rfl) ?_
    refine rdA (pc := 62) (As := []) (rest := [.int x3]) (r9 := r9) hx hb hml hown hts hG hP (c_i_constraintCount l K ad S) (wO_0 K ad _) (ci := 6) rfl g_Law_149 hd_Top_constraintCount rfl ⟨by omega, by omega⟩ ⟨by omega, by omega⟩ hl rfl (Nat.le_of_ble_eq_true rfl) dL_state_62 ?_
    refine lv_icmp_ge (tgt := 100) (pc := 65) hx hb dL_state_65 (by decide) (fun c5 => ?_) (fun c5 => ?_)
    · have h := it_t c5 h
      obtain rfl := Option.some.inj h
      refine W.widen (k := cE) (n := 6 * cE) (by omega) (by omega) ?_
      exact Kx _ H locs ls rfl hP hD hS (lv_sub hl [0, 1, 2] rfl)
    · have h := it_f c5 h
      refine lv_ldc2 (v := (31 : Int64)) (pc := 68) hx hb hown (hts _ qk_Law_144) dL_state_68 ?_
      refine lv_ldc2 (v := (31 : Int64)) (pc := 71) hx hb hown (hts _ qk_Law_144) dL_state_71 ?_
      refine lv_lload_n (pc := 74) hx hb dL_state_74 rfl (lv_at hl 1 rfl) ?_
      refine lv_lmul (pc := 75) hx hb dL_state_75 ?_
      refine lv_aload_n (pc := 76) hx hb dL_state_76 rfl (lv_at hl 0 rfl) ?_
      refine lv_iload_n (pc := 77) hx hb dL_state_77 rfl (lv_at hl 2 rfl) ?_
      refine lv_iconst (v := (0 : Int32)) (pc := 78) hx hb dL_state_78 (by decide) ?_
      obtain ⟨v6, h_v6, h⟩ := ob h
      refine lwA (na := 3) (pc := 79) (As := [.ref (ad 0), .int x3, .int (0 : Int32)]) (rest := [.long ((31 : Int64) * x1), .long (31 : Int64)]) (r9 := r9) hx hb hml hown hts hG2 hP hD hS hZ (c_h_tied l K hl0 ad F S x3 (0 : Int32) h_v6) (wO_adr K ad _ _) (gSH qm_Law_155 qt_Law_tied qn_Law qc_Law_tied) (by decide +kernel) rfl ⟨by omega, by omega⟩ ⟨by omega, by omega⟩ hl rfl (Nat.le_of_ble_eq_true rfl) dL_state_79 (fun H locs hP hD hS => ?_)
      refine lv_i2l (v := (v6.1).toInt64) (pc := 82) hx hb dL_state_82 rfl ?_
      refine lv_ladd (pc := 83) hx hb dL_state_83 ?_
      refine lv_lmul (pc := 84) hx hb dL_state_84 ?_
      refine lv_aload_n (pc := 85) hx hb dL_state_85 rfl (lv_at hl 0 rfl) ?_
      refine lv_iload_n (pc := 86) hx hb dL_state_86 rfl (lv_at hl 2 rfl) ?_
      refine lv_iconst (v := (1 : Int32)) (pc := 87) hx hb dL_state_87 (by decide) ?_
      obtain ⟨v7, h_v7, h⟩ := ob h
      refine lwA (na := 3) (pc := 88) (As := [.ref (ad 0), .int x3, .int (1 : Int32)]) (rest := [.long ((31 : Int64) * (((31 : Int64) * x1) + ((v6.1).toInt64)))]) (r9 := r9) hx hb hml hown hts hG2 hP hD hS hZ (c_h_tied l K hl0 ad F v6.2 x3 (1 : Int32) h_v7) (wO_adr K ad _ _) (gSH qm_Law_155 qt_Law_tied qn_Law qc_Law_tied) (by decide +kernel) rfl ⟨by omega, by omega⟩ ⟨by omega, by omega⟩ hl rfl (Nat.le_of_ble_eq_true rfl) dL_state_88 (fun H locs hP hD hS => ?_)
      refine lv_i2l (v := (v7.1).toInt64) (pc := 91) hx hb dL_state_91 rfl ?_
      refine lv_ladd (pc := 92) hx hb dL_state_92 ?_
      refine lv_lstore_n (pc := 93) (lv' := [(1, .long (((31 : Int64) * (((31 : Int64) * x1) + ((v6.1).toInt64))) + ((v7.1).toInt64))), (0, .ref (ad 0)), (3, .int x3)]) hx hb dL_state_93 rfl hl (by decide) rfl (fun ls hl => ?_)
      refine lv_iinc (v := (x3 + (1 : Int32))) (pc := 94) (lv' := [(3, .int (x3 + (1 : Int32))), (1, .long (((31 : Int64) * (((31 : Int64) * x1) + ((v6.1).toInt64))) + ((v7.1).toInt64))), (0, .ref (ad 0))]) hx hb dL_state_94 hl (k := 2) rfl rfl (by decide) rfl (fun ls hl => ?_)
      refine lv_goto (tgt := 60) (pc := 97) hx hb dL_state_97 (by decide) ?_
      exact ih (((31 : Int64) * (((31 : Int64) * x1) + ((v6.1).toInt64))) + ((v7.1).toInt64)) (x3 + (1 : Int32)) v7.2 out h H locs _ _ ls (by omega) (by omega) hP hD hS (lv_sub hl [2, 1, 0] rfl) Kx
set_option maxHeartbeats 8000000 in
set_option maxRecDepth 100000 in
theorem c_L_state (l : Launch) (K : KT) (hl0 : l.stackTraces = false) (ad : Nat → Nat) (F : Nat) (S : TopS)  {o : Int64 × TopS} (h : s_L_state F S  = some o) : Mk l K 9 480 yL_state cL_state 4 .long [.ref (ad 0)] (wO K ad S) (.long o.1) (wO K ad o.2) := by
  refine Mk.of (by decide +kernel) rfl (Nat.le_of_ble_eq_true rfl) ?_
  unfold s_L_state at h
  intro p e s m below meth c C0 H locs hP hD hS ls hl
  obtain ⟨⟨hx, hb, hml, hown, hts, hG, hr, hlk⟩, hG2, hZ⟩ := id C0
  have hl : lv_has ls 4 [(0, .ref (ad 0))] := hl
  have hRf : 9 ≤ (rmX 9 480).frames ∧ 540 ≤ (rmX 9 480).locals := ⟨Nat.le_of_ble_eq_true rfl, Nat.le_of_ble_eq_true rfl⟩
  have hRc : (rmX 9 480).cells = 480 := rfl
  have hRs : (rmX 9 480).slots = 2880 := rfl
  refine lv_ldc2 (v := (31 : Int64)) (pc := 0) hx hb hown (hts _ qk_Law_144) dL_state_0 ?_
  refine lv_aload_n (pc := 3) hx hb dL_state_3 rfl (lv_at hl 0 rfl) ?_
  refine rdA (pc := 4) (As := []) (rest := [.long (31 : Int64)]) (r9 := []) hx hb hml hown hts hG hP (c_i_pointCount l K ad S) (wO_0 K ad _) (ci := 6) rfl g_Law_146 hd_Top_pointCount rfl ⟨by omega, by omega⟩ ⟨by omega, by omega⟩ hl rfl (Nat.le_of_ble_eq_true rfl) dL_state_4 ?_
  refine lv_i2l (v := ((i_pointCount S)).toInt64) (pc := 7) hx hb dL_state_7 rfl ?_
  refine lv_lmul (pc := 8) hx hb dL_state_8 ?_
  refine lv_aload_n (pc := 9) hx hb dL_state_9 rfl (lv_at hl 0 rfl) ?_
  refine rdA (pc := 10) (As := []) (rest := [.long ((31 : Int64) * (((i_pointCount S)).toInt64))]) (r9 := []) hx hb hml hown hts hG hP (c_i_constraintCount l K ad S) (wO_0 K ad _) (ci := 6) rfl g_Law_149 hd_Top_constraintCount rfl ⟨by omega, by omega⟩ ⟨by omega, by omega⟩ hl rfl (Nat.le_of_ble_eq_true rfl) dL_state_10 ?_
  refine lv_i2l (v := ((i_constraintCount S)).toInt64) (pc := 13) hx hb dL_state_13 rfl ?_
  refine lv_ladd (pc := 14) hx hb dL_state_14 ?_
  refine lv_lstore_n (pc := 15) (lv' := [(1, .long (((31 : Int64) * (((i_pointCount S)).toInt64)) + (((i_constraintCount S)).toInt64))), (0, .ref (ad 0))]) hx hb dL_state_15 rfl hl (by decide) rfl (fun ls hl => ?_)
  refine lv_iconst (v := (0 : Int32)) (pc := 16) hx hb dL_state_16 (by decide) ?_
  refine lv_istore_n (pc := 17) (lv' := [(3, .int (0 : Int32)), (1, .long (((31 : Int64) * (((i_pointCount S)).toInt64)) + (((i_constraintCount S)).toInt64))), (0, .ref (ad 0))]) hx hb dL_state_17 rfl hl (by decide) rfl (fun ls hl => ?_)
  obtain ⟨o4, h_o4, h⟩ := ob h
  refine l_L_state_L18 C0 hl0 hRf F ad 240 ⟨by omega, by omega⟩ 60 (((31 : Int64) * (((i_pointCount S)).toInt64)) + (((i_constraintCount S)).toInt64)) (0 : Int32) S _ h_o4 H locs _ _ ls (by omega) (by omega) hP hD hS (lv_sub hl [2, 1, 0] rfl) (fun o4x H locs ls eo hP hD hS hl => ?_)
  subst o4
  refine lv_iconst (v := (0 : Int32)) (pc := 58) hx hb dL_state_58 (by decide) ?_
  refine lv_istore_n (pc := 59) (lv' := [(3, .int (0 : Int32)), (0, .ref (ad 0)), (1, .long o4x.1)]) hx hb dL_state_59 rfl hl (by decide) rfl (fun ls hl => ?_)
  obtain ⟨o8, h_o8, h⟩ := ob h
  refine l_L_state_L60 C0 hl0 hRf F ad 480 ⟨by omega, by omega⟩ 60 o4x.1 (0 : Int32) o4x.2.2 _ h_o8 H locs _ _ ls (by omega) (by omega) hP hD hS (lv_sub hl [1, 2, 0] rfl) (fun o8x H locs ls eo hP hD hS hl => ?_)
  subst o8
  refine lv_lload_n (pc := 100) hx hb dL_state_100 rfl (lv_at hl 1 rfl) ?_
  obtain rfl := Option.some.inj h
  refine W.widen (k := 480) (n := 2880) (by omega) (by omega) ?_
  rw [List.append_nil] at hP
  exact W.lret hx hb hr (fun t ht hW => ⟨⟨rfl, by rw [ht]; exact hP⟩, hS.F ht⟩) hS.2.2 dL_state_101 hlk
