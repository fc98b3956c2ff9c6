set_option maxHeartbeats 8000000 in
set_option maxRecDepth 100000 in
theorem l_L_asks_L61 {p : Program} {l : Launch} {e : Env} {R : Room} {s : State} {m : MethodId} {args : Array Value} {below : List Frame} {meth : Method} {c : Code} {Q : State → Prop} {K : KT} {A : Nat → Prop} {r9 : va_W} (C0 : CtxM p m c cL_asks 5 s args K meth (some .long) A) (hl0 : l.stackTraces = false) (hRf : 10 ≤ R.frames ∧ 600 ≤ R.locals) (F : Nat) (ad : Nat → Nat)  (x3 : Int32) (cE : Nat) (hE : cE ≤ R.cells ∧ 6 * cE ≤ R.slots) : ∀ (n : Nat) (x1 : Int64) (x4 : Int32) (S : TopS) (out : Int64 × Int32 × TopS), s_L_asks_L61 F x3 n x1 x4 S = some out → ∀ (H : Heap) (locs : List Loc) (cells slots : Nat) (ls : Array Slot), cells + n * 4 ≤ cE → slots ≤ 6 * cells → va_P K.1 vC (wO K ad S ++ r9) H → va_D A (wO K ad S ++ r9) → va_S A s.heap H locs → lv_has ls 5 [(0, .ref (ad 0)), (1, .long x1), (3, .int x3), (4, .int x4)] → (∀ (o : Int64 × Int32 × TopS) (H : Heap) (locs : List Loc) (ls : Array Slot), out = o → va_P K.1 vC (wO K ad o.2.2 ++ r9) H → va_D A (wO K ad o.2.2 ++ r9) → va_S A s.heap H locs → lv_has ls 5 [(0, .ref (ad 0)), (1, .long o.1), (3, .int x3), (4, .int o.2.1)] → W p l e R s m args below meth c H locs cE (6 * cE) Q (F0 m 101 ls [])) → W p l e R s m args below meth c H locs cells slots Q (F0 m 61 ls []) := by
  obtain ⟨⟨hx, hb, hml, hown, hts, hG, hr, hlk⟩, hG2, hZ⟩ := id C0
  intro n
  induction n with
  | zero =>
    intro x1 x4 S out h
    cases h
  | succ n ih =>
    intro x1 x4 S out h H locs cells slots ls hc hs hP hD hS hl Kx
    rw [s_L_asks_L61.eq_2] at h
    refine lv_iload (pc := 61) hx hb dL_asks_61 (lv_at hl 3 rfl) ?_
    refine lv_iconst (v := (3 : Int32)) (pc := 63) hx hb dL_asks_63 (by decide) ?_
    refine lv_icmp_ge (tgt := 101) (pc := 64) hx hb dL_asks_64 (by decide) (fun c4 => ?_) (fun c4 => ?_)
    · have h := it_t c4 h
      obtain rfl := Option.some.inj h
      refine W.widen (k := cE) (n := 6 * cE) (by omega) (by omega) ?_
      exact Kx _ H locs ls rfl hP hD hS (lv_sub hl [0, 1, 2, 3] rfl)
    · have h := it_f c4 h
      refine lv_ldc2 (v := (31 : Int64)) (pc := 67) hx hb hown (hts _ qk_Law_144) dL_asks_67 ?_
      refine lv_ldc2 (v := (31 : Int64)) (pc := 70) hx hb hown (hts _ qk_Law_144) dL_asks_70 ?_
      refine lv_lload_n (pc := 73) hx hb dL_asks_73 rfl (lv_at hl 1 rfl) ?_
      refine lv_lmul (pc := 74) hx hb dL_asks_74 ?_
      refine lv_aload_n (pc := 75) hx hb dL_asks_75 rfl (lv_at hl 0 rfl) ?_
      refine lv_iload_n (pc := 76) hx hb dL_asks_76 rfl (lv_at hl 2 rfl) ?_
      refine lv_iload (pc := 77) hx hb dL_asks_77 (lv_at hl 3 rfl) ?_
      obtain ⟨v5, h_v5, h⟩ := ob h
      refine lwA (na := 3) (pc := 79) (As := [.ref (ad 0), .int x3, .int x4]) (rest := [.long ((31 : Int64) * x1), .long (31 : Int64)]) (r9 := r9) hx hb hml hown hts hG2 hP hD hS hZ (c_h_corner l K hl0 ad F S x3 x4 h_v5) (wO_adr K ad _ _) (gSH qm_Law_174 qt_Law_corner qn_Law qc_Law_corner) (by decide +kernel) rfl ⟨by omega, by omega⟩ ⟨by omega, by omega⟩ hl rfl (Nat.le_of_ble_eq_true rfl) dL_asks_79 (fun H locs hP hD hS => ?_)
      refine lv_i2l (v := (v5.1).toInt64) (pc := 82) hx hb dL_asks_82 rfl ?_
      refine lv_ladd (pc := 83) hx hb dL_asks_83 ?_
      refine lv_lmul (pc := 84) hx hb dL_asks_84 ?_
      refine lv_aload_n (pc := 85) hx hb dL_asks_85 rfl (lv_at hl 0 rfl) ?_
      refine lv_iload_n (pc := 86) hx hb dL_asks_86 rfl (lv_at hl 2 rfl) ?_
      refine lv_iload (pc := 87) hx hb dL_asks_87 (lv_at hl 3 rfl) ?_
      obtain ⟨v6, h_v6, h⟩ := ob h
      refine lwA (na := 3) (pc := 89) (As := [.ref (ad 0), .int x3, .int x4]) (rest := [.long ((31 : Int64) * (((31 : Int64) * x1) + ((v5.1).toInt64)))]) (r9 := r9) hx hb hml hown hts hG2 hP hD hS hZ (c_h_beyond l K hl0 ad F v5.2 x3 x4 h_v6) (wO_adr K ad _ _) (gSH qm_Law_176 qt_Law_beyond qn_Law qc_Law_beyond) (by decide +kernel) rfl ⟨by omega, by omega⟩ ⟨by omega, by omega⟩ hl rfl (Nat.le_of_ble_eq_true rfl) dL_asks_89 (fun H locs hP hD hS => ?_)
      refine lv_i2l (v := (v6.1).toInt64) (pc := 92) hx hb dL_asks_92 rfl ?_
      refine lv_ladd (pc := 93) hx hb dL_asks_93 ?_
      refine lv_lstore_n (pc := 94) (lv' := [(1, .long (((31 : Int64) * (((31 : Int64) * x1) + ((v5.1).toInt64))) + ((v6.1).toInt64))), (0, .ref (ad 0)), (3, .int x3), (4, .int x4)]) hx hb dL_asks_94 rfl hl (by decide) rfl (fun ls hl => ?_)
      refine lv_iinc (v := (x4 + (1 : Int32))) (pc := 95) (lv' := [(4, .int (x4 + (1 : Int32))), (1, .long (((31 : Int64) * (((31 : Int64) * x1) + ((v5.1).toInt64))) + ((v6.1).toInt64))), (0, .ref (ad 0)), (3, .int x3)]) hx hb dL_asks_95 hl (k := 3) rfl rfl (by decide) rfl (fun ls hl => ?_)
      refine lv_goto (tgt := 61) (pc := 98) hx hb dL_asks_98 (by decide) ?_
      exact ih (((31 : Int64) * (((31 : Int64) * x1) + ((v5.1).toInt64))) + ((v6.1).toInt64)) (x4 + (1 : Int32)) v6.2 out h H locs _ _ ls (by omega) (by omega) hP hD hS (lv_sub hl [2, 1, 3, 0] rfl) Kx
set_option maxHeartbeats 8000000 in
set_option maxRecDepth 100000 in
theorem l_L_asks_L37 {p : Program} {l : Launch} {e : Env} {R : Room} {s : State} {m : MethodId} {args : Array Value} {below : List Frame} {meth : Method} {c : Code} {Q : State → Prop} {K : KT} {A : Nat → Prop} {r9 : va_W} (C0 : CtxM p m c cL_asks 5 s args K meth (some .long) A) (hl0 : l.stackTraces = false) (hRf : 10 ≤ R.frames ∧ 600 ≤ R.locals) (F : Nat) (ad : Nat → Nat)  (cE : Nat) (hE : cE ≤ R.cells ∧ 6 * cE ≤ R.slots) : ∀ (n : Nat) (x1 : Int64) (x3 : Int32) (S : TopS) (out : Int64 × Int32 × TopS), s_L_asks_L37 F n x1 x3 S = some out → ∀ (H : Heap) (locs : List Loc) (cells slots : Nat) (ls : Array Slot), cells + n * 241 ≤ cE → slots ≤ 6 * cells → va_P K.1 vC (wO K ad S ++ r9) H → va_D A (wO K ad S ++ r9) → va_S A s.heap H locs → lv_has ls 5 [(0, .ref (ad 0)), (1, .long x1), (3, .int x3)] → (∀ (o : Int64 × Int32 × TopS) (H : Heap) (locs : List Loc) (ls : Array Slot), out = o → va_P K.1 vC (wO K ad o.2.2 ++ r9) H → va_D A (wO K ad o.2.2 ++ r9) → va_S A s.heap H locs → lv_has ls 5 [(0, .ref (ad 0)), (1, .long o.1), (3, .int o.2.1)] → W p l e R s m args below meth c H locs cE (6 * cE) Q (F0 m 107 ls [])) → W p l e R s m args below meth c H locs cells slots Q (F0 m 37 ls []) := by
  obtain ⟨⟨hx, hb, hml, hown, hts, hG, hr, hlk⟩, hG2, hZ⟩ := id C0
  intro n
  induction n with
  | zero =>
    intro x1 x3 S out h
    cases h
  | succ n ih =>
    intro x1 x3 S out h H locs cells slots ls hc hs hP hD hS hl Kx
    rw [s_L_asks_L37.eq_2] at h
    refine lv_iload_n (pc := 37) hx hb dL_asks_37 rfl (lv_at hl 2 rfl) ?_
    refine lv_aload_n (pc := 38) hx hb dL_asks_38 rfl (lv_at hl 0 rfl) ?_
    refine rdA (pc := 39) (As := []) (rest := [.int x3]) (r9 := r9) hx hb hml hown hts hG hP (c_i_triangleCount l K ad S) (wO_0 K ad _) (ci := 6) rfl g_Law_162 hd_Top_triangleCount rfl ⟨by omega, by omega⟩ ⟨by omega, by omega⟩ hl rfl (Nat.le_of_ble_eq_true rfl) dL_asks_39 ?_
    refine lv_icmp_gt (tgt := 107) (pc := 42) hx hb dL_asks_42 (by decide) (fun c2 => ?_) (fun c2 => ?_)
    · have h := it_t c2 h
      obtain rfl := Option.some.inj h
      refine W.widen (k := cE) (n := 6 * cE) (by omega) (by omega) ?_
      exact Kx _ H locs ls rfl hP hD hS (lv_sub hl [0, 1, 2] rfl)
    · have h := it_f c2 h
      refine lv_ldc2 (v := (31 : Int64)) (pc := 45) hx hb hown (hts _ qk_Law_144) dL_asks_45 ?_
      refine lv_lload_n (pc := 48) hx hb dL_asks_48 rfl (lv_at hl 1 rfl) ?_
      refine lv_lmul (pc := 49) hx hb dL_asks_49 ?_
      refine lv_aload_n (pc := 50) hx hb dL_asks_50 rfl (lv_at hl 0 rfl) ?_
      refine lv_iload_n (pc := 51) hx hb dL_asks_51 rfl (lv_at hl 2 rfl) ?_
      obtain ⟨v3, h_v3, h⟩ := ob h
      refine lwA (na := 2) (pc := 52) (As := [.ref (ad 0), .int x3]) (rest := [.long ((31 : Int64) * x1)]) (r9 := r9) hx hb hml hown hts hG2 hP hD hS hZ (c_h_area l K hl0 ad F S x3 h_v3) (wO_adr K ad _ _) (gSH qm_Law_171 qt_Law_area qn_Law qc_Law_area) (by decide +kernel) rfl ⟨by omega, by omega⟩ ⟨by omega, by omega⟩ hl rfl (Nat.le_of_ble_eq_true rfl) dL_asks_52 (fun H locs hP hD hS => ?_)
      refine lv_i2l (v := (v3.1).toInt64) (pc := 55) hx hb dL_asks_55 rfl ?_
      refine lv_ladd (pc := 56) hx hb dL_asks_56 ?_
      refine lv_lstore_n (pc := 57) (lv' := [(1, .long (((31 : Int64) * x1) + ((v3.1).toInt64))), (0, .ref (ad 0)), (3, .int x3)]) hx hb dL_asks_57 rfl hl (by decide) rfl (fun ls hl => ?_)
      refine lv_iconst (v := (0 : Int32)) (pc := 58) hx hb dL_asks_58 (by decide) ?_
      refine lv_istore (pc := 59) (lv' := [(4, .int (0 : Int32)), (1, .long (((31 : Int64) * x1) + ((v3.1).toInt64))), (0, .ref (ad 0)), (3, .int x3)]) hx hb dL_asks_59 hl (by decide) rfl (fun ls hl => ?_)
      refine W.widen (k := cells + 1) (n := 6 * cells + 6) (by omega) (by omega) ?_
      obtain ⟨o7, h_o7, h⟩ := ob h
      refine l_L_asks_L61 C0 hl0 hRf F ad x3 (cells + 241) ⟨by omega, by rw [Nat.mul_add]; omega⟩ 60 (((31 : Int64) * x1) + ((v3.1).toInt64)) (0 : Int32) v3.2 _ h_o7 H locs _ _ ls (by omega) (Nat.le_of_eq (Nat.mul_add 6 cells 1).symm) hP hD hS (lv_sub hl [2, 1, 3, 0] rfl) (fun o7x H locs ls eo hP hD hS hl => ?_)
      subst o7
      refine W.widen (k := cells + 241) (n := 6 * cells + 1446) (Nat.le_refl _) (Nat.le_of_eq (Nat.mul_add 6 cells 241)) ?_
      refine lv_iinc (v := (x3 + (1 : Int32))) (pc := 101) (lv' := [(3, .int (x3 + (1 : Int32))), (0, .ref (ad 0)), (1, .long o7x.1), (4, .int o7x.2.1)]) hx hb dL_asks_101 hl (k := 2) rfl rfl (by decide) rfl (fun ls hl => ?_)
      refine lv_goto (tgt := 37) (pc := 104) hx hb dL_asks_104 (by decide) ?_
      exact ih o7x.1 (x3 + (1 : Int32)) o7x.2.2 out h H locs _ _ ls (by omega) (by omega) hP hD hS (lv_sub hl [1, 2, 0] rfl) Kx
set_option maxHeartbeats 8000000 in
set_option maxRecDepth 100000 in
theorem l_L_asks_L109 {p : Program} {l : Launch} {e : Env} {R : Room} {s : State} {m : MethodId} {args : Array Value} {below : List Frame} {meth : Method} {c : Code} {Q : State → Prop} {K : KT} {A : Nat → Prop} {r9 : va_W} (C0 : CtxM p m c cL_asks 5 s args K meth (some .long) A) (hl0 : l.stackTraces = false) (hRf : 10 ≤ R.frames ∧ 600 ≤ R.locals) (F : Nat) (ad : Nat → Nat)  (cE : Nat) (hE : cE ≤ R.cells ∧ 6 * cE ≤ R.slots) : ∀ (n : Nat) (x1 : Int64) (x3 : Int32) (S : TopS) (out : Int64 × Int32 × TopS), s_L_asks_L109 F n x1 x3 S = some out → ∀ (H : Heap) (locs : List Loc) (cells slots : Nat) (ls : Array Slot), cells + n * 6 ≤ cE → slots ≤ 6 * cells → va_P K.1 vC (wO K ad S ++ r9) H → va_D A (wO K ad S ++ r9) → va_S A s.heap H locs → lv_has ls 5 [(0, .ref (ad 0)), (1, .long x1), (3, .int x3)] → (∀ (o : Int64 × Int32 × TopS) (H : Heap) (locs : List Loc) (ls : Array Slot), out = o → va_P K.1 vC (wO K ad o.2.2 ++ r9) H → va_D A (wO K ad o.2.2 ++ r9) → va_S A s.heap H locs → lv_has ls 5 [(0, .ref (ad 0)), (1, .long o.1), (3, .int o.2.1)] → W p l e R s m args below meth c H locs cE (6 * cE) Q (F0 m 160 ls [])) → W p l e R s m args below meth c H locs cells slots Q (F0 m 109 ls []) := by
  obtain ⟨⟨hx, hb, hml, hown, hts, hG, hr, hlk⟩, hG2, hZ⟩ := id C0
  intro n
  induction n with
  | zero =>
    intro x1 x3 S out h
    cases h
  | succ n ih =>
    intro x1 x3 S out h H locs cells slots ls hc hs hP hD hS hl Kx
    rw [s_L_asks_L109.eq_2] at h
    refine lv_iload_n (pc := 109) hx hb dL_asks_109 rfl (lv_at hl 2 rfl) ?_
    refine lv_aload_n (pc := 110) hx hb dL_asks_110 rfl (lv_at hl 0 rfl) ?_
    refine rdA (pc := 111) (As := []) (rest := [.int x3]) (r9 := r9) hx hb hml hown hts hG hP (c_i_edgeCount l K ad S) (wO_0 K ad _) (ci := 6) rfl g_Law_165 hd_Top_edgeCount rfl ⟨by omega, by omega⟩ ⟨by omega, by omega⟩ hl rfl (Nat.le_of_ble_eq_true rfl) dL_asks_111 ?_
    refine lv_icmp_ge (tgt := 160) (pc := 114) hx hb dL_asks_114 (by decide) (fun c9 => ?_) (fun c9 => ?_)
    · have h := it_t c9 h
      obtain rfl := Option.some.inj h
      refine W.widen (k := cE) (n := 6 * cE) (by omega) (by omega) ?_
      exact Kx _ H locs ls rfl hP hD hS (lv_sub hl [0, 1, 2] rfl)
    · have h := it_f c9 h
      refine lv_ldc2 (v := (31 : Int64)) (pc := 117) hx hb hown (hts _ qk_Law_144) dL_asks_117 ?_
      refine lv_ldc2 (v := (31 : Int64)) (pc := 120) hx hb hown (hts _ qk_Law_144) dL_asks_120 ?_
      refine lv_ldc2 (v := (31 : Int64)) (pc := 123) hx hb hown (hts _ qk_Law_144) dL_asks_123 ?_
      refine lv_lload_n (pc := 126) hx hb dL_asks_126 rfl (lv_at hl 1 rfl) ?_
      refine lv_lmul (pc := 127) hx hb dL_asks_127 ?_
      refine lv_aload_n (pc := 128) hx hb dL_asks_128 rfl (lv_at hl 0 rfl) ?_
      refine lv_iload_n (pc := 129) hx hb dL_asks_129 rfl (lv_at hl 2 rfl) ?_
      refine lv_iconst (v := (0 : Int32)) (pc := 130) hx hb dL_asks_130 (by decide) ?_
      obtain ⟨v10, h_v10, h⟩ := ob h
      refine lwA (na := 3) (pc := 131) (As := [.ref (ad 0), .int x3, .int (0 : Int32)]) (rest := [.long ((31 : Int64) * x1), .long (31 : Int64), .long (31 : Int64)]) (r9 := r9) hx hb hml hown hts hG2 hP hD hS hZ (c_h_end l K hl0 ad F S x3 (0 : Int32) h_v10) (wO_adr K ad _ _) (gSH qm_Law_178 qt_Law_end qn_Law qc_Law_end) (by decide +kernel) rfl ⟨by omega, by omega⟩ ⟨by omega, by omega⟩ hl rfl (Nat.le_of_ble_eq_true rfl) dL_asks_131 (fun H locs hP hD hS => ?_)
      refine lv_i2l (v := (v10.1).toInt64) (pc := 134) hx hb dL_asks_134 rfl ?_
      refine lv_ladd (pc := 135) hx hb dL_asks_135 ?_
      refine lv_lmul (pc := 136) hx hb dL_asks_136 ?_
      refine lv_aload_n (pc := 137) hx hb dL_asks_137 rfl (lv_at hl 0 rfl) ?_
      refine lv_iload_n (pc := 138) hx hb dL_asks_138 rfl (lv_at hl 2 rfl) ?_
      refine lv_iconst (v := (1 : Int32)) (pc := 139) hx hb dL_asks_139 (by decide) ?_
      obtain ⟨v11, h_v11, h⟩ := ob h
      refine lwA (na := 3) (pc := 140) (As := [.ref (ad 0), .int x3, .int (1 : Int32)]) (rest := [.long ((31 : Int64) * (((31 : Int64) * x1) + ((v10.1).toInt64))), .long (31 : Int64)]) (r9 := r9) hx hb hml hown hts hG2 hP hD hS hZ (c_h_end l K hl0 ad F v10.2 x3 (1 : Int32) h_v11) (wO_adr K ad _ _) (gSH qm_Law_178 qt_Law_end qn_Law qc_Law_end) (by decide +kernel) rfl ⟨by omega, by omega⟩ ⟨by omega, by omega⟩ hl rfl (Nat.le_of_ble_eq_true rfl) dL_asks_140 (fun H locs hP hD hS => ?_)
      refine lv_i2l (v := (v11.1).toInt64) (pc := 143) hx hb dL_asks_143 rfl ?_
      refine lv_ladd (pc := 144) hx hb dL_asks_144 ?_
      refine lv_lmul (pc := 145) hx hb dL_asks_145 ?_
      refine lv_aload_n (pc := 146) hx hb dL_asks_146 rfl (lv_at hl 0 rfl) ?_
      refine lv_iload_n (pc := 147) hx hb dL_asks_147 rfl (lv_at hl 2 rfl) ?_
      obtain ⟨v12, h_v12, h⟩ := ob h
      refine lwA (na := 2) (pc := 148) (As := [.ref (ad 0), .int x3]) (rest := [.long ((31 : Int64) * (((31 : Int64) * (((31 : Int64) * x1) + ((v10.1).toInt64))) + ((v11.1).toInt64)))]) (r9 := r9) hx hb hml hown hts hG2 hP hD hS hZ (c_h_good l K hl0 ad F v11.2 x3 h_v12) (wO_adr K ad _ _) (gSH qm_Law_181 qt_Law_good qn_Law qc_Law_good) (by decide +kernel) rfl ⟨by omega, by omega⟩ ⟨by omega, by omega⟩ hl rfl (Nat.le_of_ble_eq_true rfl) dL_asks_148 (fun H locs hP hD hS => ?_)
      refine lv_i2l (v := (v12.1).toInt64) (pc := 151) hx hb dL_asks_151 rfl ?_
      refine lv_ladd (pc := 152) hx hb dL_asks_152 ?_
      refine lv_lstore_n (pc := 153) (lv' := [(1, .long (((31 : Int64) * (((31 : Int64) * (((31 : Int64) * x1) + ((v10.1).toInt64))) + ((v11.1).toInt64))) + ((v12.1).toInt64))), (0, .ref (ad 0)), (3, .int x3)]) hx hb dL_asks_153 rfl hl (by decide) rfl (fun ls hl => ?_)
      refine lv_iinc (v := (x3 + (1 : Int32))) (pc := 154) (lv' := [(3, .int (x3 + (1 : Int32))), (1, .long (((31 : Int64) * (((31 : Int64) * (((31 : Int64) * x1) + ((v10.1).toInt64))) + ((v11.1).toInt64))) + ((v12.1).toInt64))), (0, .ref (ad 0))]) hx hb dL_asks_154 hl (k := 2) rfl rfl (by decide) rfl (fun ls hl => ?_)
      refine lv_goto (tgt := 109) (pc := 157) hx hb dL_asks_157 (by decide) ?_
      exact ih (((31 : Int64) * (((31 : Int64) * (((31 : Int64) * x1) + ((v10.1).toInt64))) + ((v11.1).toInt64))) + ((v12.1).toInt64)) (x3 + (1 : Int32)) v12.2 out h H locs _ _ ls (by omega) (by omega) hP hD hS (lv_sub hl [2, 1, 0] rfl) Kx
set_option maxHeartbeats 8000000 in
set_option maxRecDepth 100000 in
theorem l_L_asks_L162 {p : Program} {l : Launch} {e : Env} {R : Room} {s : State} {m : MethodId} {args : Array Value} {below : List Frame} {meth : Method} {c : Code} {Q : State → Prop} {K : KT} {A : Nat → Prop} {r9 : va_W} (C0 : CtxM p m c cL_asks 5 s args K meth (some .long) A) (hl0 : l.stackTraces = false) (hRf : 10 ≤ R.frames ∧ 600 ≤ R.locals) (F : Nat) (ad : Nat → Nat)  (cE : Nat) (hE : cE ≤ R.cells ∧ 6 * cE ≤ R.slots) : ∀ (n : Nat) (x1 : Int64) (x3 : Int32) (S : TopS) (out : Int64 × Int32 × TopS), s_L_asks_L162 F n x1 x3 S = some out → ∀ (H : Heap) (locs : List Loc) (cells slots : Nat) (ls : Array Slot), cells + n * 4 ≤ cE → slots ≤ 6 * cells → va_P K.1 vC (wO K ad S ++ r9) H → va_D A (wO K ad S ++ r9) → va_S A s.heap H locs → lv_has ls 5 [(0, .ref (ad 0)), (1, .long x1), (3, .int x3)] → (∀ (o : Int64 × Int32 × TopS) (H : Heap) (locs : List Loc) (ls : Array Slot), out = o → va_P K.1 vC (wO K ad o.2.2 ++ r9) H → va_D A (wO K ad o.2.2 ++ r9) → va_S A s.heap H locs → lv_has ls 5 [(0, .ref (ad 0)), (1, .long o.1), (3, .int o.2.1)] → W p l e R s m args below meth c H locs cE (6 * cE) Q (F0 m 211 ls [])) → W p l e R s m args below meth c H locs cells slots Q (F0 m 162 ls []) := by
  obtain ⟨⟨hx, hb, hml, hown, hts, hG, hr, hlk⟩, hG2, hZ⟩ := id C0
  intro n
  induction n with
  | zero =>
    intro x1 x3 S out h
    cases h
  | succ n ih =>
    intro x1 x3 S out h H locs cells slots ls hc hs hP hD hS hl Kx
    rw [s_L_asks_L162.eq_2] at h
    refine lv_iload_n (pc := 162) hx hb dL_asks_162 rfl (lv_at hl 2 rfl) ?_
    refine lv_aload_n (pc := 163) hx hb dL_asks_163 rfl (lv_at hl 0 rfl) ?_
    refine rdA (pc := 164) (As := []) (rest := [.int x3]) (r9 := r9) hx hb hml hown hts hG hP (c_i_pointCount l K ad S) (wO_0 K ad _) (ci := 6) rfl g_Law_146 hd_Top_pointCount rfl ⟨by omega, by omega⟩ ⟨by omega, by omega⟩ hl rfl (Nat.le_of_ble_eq_true rfl) dL_asks_164 ?_
    refine lv_icmp_ge (tgt := 211) (pc := 167) hx hb dL_asks_167 (by decide) (fun c14 => ?_) (fun c14 => ?_)
    · have h := it_t c14 h
      obtain rfl := Option.some.inj h
      refine W.widen (k := cE) (n := 6 * cE) (by omega) (by omega) ?_
      exact Kx _ H locs ls rfl hP hD hS (lv_sub hl [0, 1, 2] rfl)
    · have h := it_f c14 h
      refine lv_ldc2 (v := (31 : Int64)) (pc := 170) hx hb hown (hts _ qk_Law_144) dL_asks_170 ?_
      refine lv_ldc2 (v := (31 : Int64)) (pc := 173) hx hb hown (hts _ qk_Law_144) dL_asks_173 ?_
      refine lv_ldc2 (v := (31 : Int64)) (pc := 176) hx hb hown (hts _ qk_Law_144) dL_asks_176 ?_
      refine lv_lload_n (pc := 179) hx hb dL_asks_179 rfl (lv_at hl 1 rfl) ?_
      refine lv_lmul (pc := 180) hx hb dL_asks_180 ?_
      refine lv_aload_n (pc := 181) hx hb dL_asks_181 rfl (lv_at hl 0 rfl) ?_
      refine lv_iload_n (pc := 182) hx hb dL_asks_182 rfl (lv_at hl 2 rfl) ?_
      obtain ⟨v15, h_v15, h⟩ := ob h
      refine lwA (na := 2) (pc := 183) (As := [.ref (ad 0), .int x3]) (rest := [.long ((31 : Int64) * x1), .long (31 : Int64), .long (31 : Int64)]) (r9 := r9) hx hb hml hown hts hG2 hP hD hS hZ (c_h_degree l K hl0 ad F S x3 h_v15) (wO_adr K ad _ _) (gSH qm_Law_184 qt_Law_degree qn_Law qc_Law_degree) (by decide +kernel) rfl ⟨by omega, by omega⟩ ⟨by omega, by omega⟩ hl rfl (Nat.le_of_ble_eq_true rfl) dL_asks_183 (fun H locs hP hD hS => ?_)
      refine lv_i2l (v := (v15.1).toInt64) (pc := 186) hx hb dL_asks_186 rfl ?_
      refine lv_ladd (pc := 187) hx hb dL_asks_187 ?_
      refine lv_lmul (pc := 188) hx hb dL_asks_188 ?_
      refine lv_aload_n (pc := 189) hx hb dL_asks_189 rfl (lv_at hl 0 rfl) ?_
      refine lv_iload_n (pc := 190) hx hb dL_asks_190 rfl (lv_at hl 2 rfl) ?_
      obtain ⟨v16, h_v16, h⟩ := ob h
      refine lwA (na := 2) (pc := 191) (As := [.ref (ad 0), .int x3]) (rest := [.long ((31 : Int64) * (((31 : Int64) * x1) + ((v15.1).toInt64))), .long (31 : Int64)]) (r9 := r9) hx hb hml hown hts hG2 hP hD hS hZ (c_h_hole l K hl0 ad F v15.2 x3 h_v16) (wO_adr K ad _ _) (gSH qm_Law_186 qt_Law_hole qn_Law qc_Law_hole) (by decide +kernel) rfl ⟨by omega, by omega⟩ ⟨by omega, by omega⟩ hl rfl (Nat.le_of_ble_eq_true rfl) dL_asks_191 (fun H locs hP hD hS => ?_)
      refine lv_i2l (v := (v16.1).toInt64) (pc := 194) hx hb dL_asks_194 rfl ?_
      refine lv_ladd (pc := 195) hx hb dL_asks_195 ?_
      refine lv_lmul (pc := 196) hx hb dL_asks_196 ?_
      refine lv_aload_n (pc := 197) hx hb dL_asks_197 rfl (lv_at hl 0 rfl) ?_
      refine lv_iload_n (pc := 198) hx hb dL_asks_198 rfl (lv_at hl 2 rfl) ?_
      obtain ⟨v17, h_v17, h⟩ := ob h
      refine lwA (na := 2) (pc := 199) (As := [.ref (ad 0), .int x3]) (rest := [.long ((31 : Int64) * (((31 : Int64) * (((31 : Int64) * x1) + ((v15.1).toInt64))) + ((v16.1).toInt64)))]) (r9 := r9) hx hb hml hown hts hG2 hP hD hS hZ (c_h_hull l K hl0 ad F v16.2 x3 h_v17) (wO_adr K ad _ _) (gSH qm_Law_188 qt_Law_hull qn_Law qc_Law_hull) (by decide +kernel) rfl ⟨by omega, by omega⟩ ⟨by omega, by omega⟩ hl rfl (Nat.le_of_ble_eq_true rfl) dL_asks_199 (fun H locs hP hD hS => ?_)
      refine lv_i2l (v := (v17.1).toInt64) (pc := 202) hx hb dL_asks_202 rfl ?_
      refine lv_ladd (pc := 203) hx hb dL_asks_203 ?_
      refine lv_lstore_n (pc := 204) (lv' := [(1, .long (((31 : Int64) * (((31 : Int64) * (((31 : Int64) * x1) + ((v15.1).toInt64))) + ((v16.1).toInt64))) + ((v17.1).toInt64))), (0, .ref (ad 0)), (3, .int x3)]) hx hb dL_asks_204 rfl hl (by decide) rfl (fun ls hl => ?_)
      refine lv_iinc (v := (x3 + (1 : Int32))) (pc := 205) (lv' := [(3, .int (x3 + (1 : Int32))), (1, .long (((31 : Int64) * (((31 : Int64) * (((31 : Int64) * x1) + ((v15.1).toInt64))) + ((v16.1).toInt64))) + ((v17.1).toInt64))), (0, .ref (ad 0))]) hx hb dL_asks_205 hl (k := 2) rfl rfl (by decide) rfl (fun ls hl => ?_)
      refine lv_goto (tgt := 162) (pc := 208) hx hb dL_asks_208 (by decide) ?_
      exact ih (((31 : Int64) * (((31 : Int64) * (((31 : Int64) * x1) + ((v15.1).toInt64))) + ((v16.1).toInt64))) + ((v17.1).toInt64)) (x3 + (1 : Int32)) v17.2 out h H locs _ _ ls (by omega) (by omega) hP hD hS (lv_sub hl [2, 1, 0] rfl) Kx
set_option maxHeartbeats 8000000 in
set_option maxRecDepth 100000 in
theorem l_L_asks_L213 {p : Program} {l : Launch} {e : Env} {R : Room} {s : State} {m : MethodId} {args : Array Value} {below : List Frame} {meth : Method} {c : Code} {Q : State → Prop} {K : KT} {A : Nat → Prop} {r9 : va_W} (C0 : CtxM p m c cL_asks 5 s args K meth (some .long) A) (hl0 : l.stackTraces = false) (hRf : 10 ≤ R.frames ∧ 600 ≤ R.locals) (F : Nat) (ad : Nat → Nat)  (cE : Nat) (hE : cE ≤ R.cells ∧ 6 * cE ≤ R.slots) : ∀ (n : Nat) (x1 : Int64) (x3 : Int32) (S : TopS) (out : Int64 × Int32 × TopS), s_L_asks_L213 F n x1 x3 S = some out → ∀ (H : Heap) (locs : List Loc) (cells slots : Nat) (ls : Array Slot), cells + n * 1 ≤ cE → slots ≤ 6 * cells → va_P K.1 vC (wO K ad S ++ r9) H → va_D A (wO K ad S ++ r9) → va_S A s.heap H locs → lv_has ls 5 [(0, .ref (ad 0)), (1, .long x1), (3, .int x3)] → (∀ (o : Int64 × Int32 × TopS) (H : Heap) (locs : List Loc) (ls : Array Slot), out = o → va_P K.1 vC (wO K ad o.2.2 ++ r9) H → va_D A (wO K ad o.2.2 ++ r9) → va_S A s.heap H locs → lv_has ls 5 [(0, .ref (ad 0)), (1, .long o.1), (3, .int o.2.1)] → W p l e R s m args below meth c H locs cE (6 * cE) Q (F0 m 240 ls [])) → W p l e R s m args below meth c H locs cells slots Q (F0 m 213 ls []) := by
  obtain ⟨⟨hx, hb, hml, hown, hts, hG, hr, hlk⟩, hG2, hZ⟩ := id C0
  intro n
  induction n with
  | zero =>
    intro x1 x3 S out h
    cases h
  | succ n ih =>
    intro x1 x3 S out h H locs cells slots ls hc hs hP hD hS hl Kx
    rw [s_L_asks_L213.eq_2] at h
    refine lv_iload_n (pc := 213) hx hb dL_asks_213 rfl (lv_at hl 2 rfl) ?_
    refine lv_aload_n (pc := 214) hx hb dL_asks_214 rfl (lv_at hl 0 rfl) ?_
    refine rdA (pc := 215) (As := []) (rest := [.int x3]) (r9 := r9) hx hb hml hown hts hG hP (c_i_constraintCount l K ad S) (wO_0 K ad _) (ci := 6) rfl g_Law_149 hd_Top_constraintCount rfl ⟨by omega, by omega⟩ ⟨by omega, by omega⟩ hl rfl (Nat.le_of_ble_eq_true rfl) dL_asks_215 ?_
    refine lv_icmp_ge (tgt := 240) (pc := 218) hx hb dL_asks_218 (by decide) (fun c19 => ?_) (fun c19 => ?_)
    · have h := it_t c19 h
      obtain rfl := Option.some.inj h
      refine W.widen (k := cE) (n := 6 * cE) (by omega) (by omega) ?_
      exact Kx _ H locs ls rfl hP hD hS (lv_sub hl [0, 1, 2] rfl)
    · have h := it_f c19 h
      refine lv_ldc2 (v := (31 : Int64)) (pc := 221) hx hb hown (hts _ qk_Law_144) dL_asks_221 ?_
      refine lv_lload_n (pc := 224) hx hb dL_asks_224 rfl (lv_at hl 1 rfl) ?_
      refine lv_lmul (pc := 225) hx hb dL_asks_225 ?_
      refine lv_aload_n (pc := 226) hx hb dL_asks_226 rfl (lv_at hl 0 rfl) ?_
      refine lv_iload_n (pc := 227) hx hb dL_asks_227 rfl (lv_at hl 2 rfl) ?_
      obtain ⟨v20, h_v20, h⟩ := ob h
      refine lwA (na := 2) (pc := 228) (As := [.ref (ad 0), .int x3]) (rest := [.long ((31 : Int64) * x1)]) (r9 := r9) hx hb hml hown hts hG2 hP hD hS hZ (c_h_effect l K hl0 ad F S x3 h_v20) (wO_adr K ad _ _) (gSH qm_Law_191 qt_Law_effect qn_Law qc_Law_effect) (by decide +kernel) rfl ⟨by omega, by omega⟩ ⟨by omega, by omega⟩ hl rfl (Nat.le_of_ble_eq_true rfl) dL_asks_228 (fun H locs hP hD hS => ?_)
      refine lv_i2l (v := (v20.1).toInt64) (pc := 231) hx hb dL_asks_231 rfl ?_
      refine lv_ladd (pc := 232) hx hb dL_asks_232 ?_
      refine lv_lstore_n (pc := 233) (lv' := [(1, .long (((31 : Int64) * x1) + ((v20.1).toInt64))), (0, .ref (ad 0)), (3, .int x3)]) hx hb dL_asks_233 rfl hl (by decide) rfl (fun ls hl => ?_)
      refine lv_iinc (v := (x3 + (1 : Int32))) (pc := 234) (lv' := [(3, .int (x3 + (1 : Int32))), (1, .long (((31 : Int64) * x1) + ((v20.1).toInt64))), (0, .ref (ad 0))]) hx hb dL_asks_234 hl (k := 2) rfl rfl (by decide) rfl (fun ls hl => ?_)
      refine lv_goto (tgt := 213) (pc := 237) hx hb dL_asks_237 (by decide) ?_
      exact ih (((31 : Int64) * x1) + ((v20.1).toInt64)) (x3 + (1 : Int32)) v20.2 out h H locs _ _ ls (by omega) (by omega) hP hD hS (lv_sub hl [2, 1, 0] rfl) Kx
set_option maxHeartbeats 8000000 in
set_option maxRecDepth 100000 in
theorem l_L_asks_L242 {p : Program} {l : Launch} {e : Env} {R : Room} {s : State} {m : MethodId} {args : Array Value} {below : List Frame} {meth : Method} {c : Code} {Q : State → Prop} {K : KT} {A : Nat → Prop} {r9 : va_W} (C0 : CtxM p m c cL_asks 5 s args K meth (some .long) A) (hl0 : l.stackTraces = false) (hRf : 10 ≤ R.frames ∧ 600 ≤ R.locals) (F : Nat) (ad : Nat → Nat)  (cE : Nat) (hE : cE ≤ R.cells ∧ 6 * cE ≤ R.slots) : ∀ (n : Nat) (x1 : Int64) (x3 : Int32) (S : TopS) (out : Int64 × Int32 × TopS), s_L_asks_L242 F n x1 x3 S = some out → ∀ (H : Heap) (locs : List Loc) (cells slots : Nat) (ls : Array Slot), cells + n * 5 ≤ cE → slots ≤ 6 * cells → va_P K.1 vC (wO K ad S ++ r9) H → va_D A (wO K ad S ++ r9) → va_S A s.heap H locs → lv_has ls 5 [(0, .ref (ad 0)), (1, .long x1), (3, .int x3)] → (∀ (o : Int64 × Int32 × TopS) (H : Heap) (locs : List Loc) (ls : Array Slot), out = o → va_P K.1 vC (wO K ad o.2.2 ++ r9) H → va_D A (wO K ad o.2.2 ++ r9) → va_S A s.heap H locs → lv_has ls 5 [(0, .ref (ad 0)), (1, .long o.1), (3, .int o.2.1)] → W p l e R s m args below meth c H locs cE (6 * cE) Q (F0 m 294 ls [])) → W p l e R s m args below meth c H locs cells slots Q (F0 m 242 ls []) := by
  obtain ⟨⟨hx, hb, hml, hown, hts, hG, hr, hlk⟩, hG2, hZ⟩ := id C0
  intro n
  induction n with
  | zero =>
    intro x1 x3 S out h
    cases h
  | succ n ih =>
    intro x1 x3 S out h H locs cells slots ls hc hs hP hD hS hl Kx
    rw [s_L_asks_L242.eq_2] at h
    refine lv_iload_n (pc := 242) hx hb dL_asks_242 rfl (lv_at hl 2 rfl) ?_
    refine lv_iconst (v := (4 : Int32)) (pc := 243) hx hb dL_asks_243 (by decide) ?_
    refine lv_icmp_ge (tgt := 294) (pc := 244) hx hb dL_asks_244 (by decide) (fun c22 => ?_) (fun c22 => ?_)
    · have h := it_t c22 h
      obtain rfl := Option.some.inj h
      refine W.widen (k := cE) (n := 6 * cE) (by omega) (by omega) ?_
      exact Kx _ H locs ls rfl hP hD hS (lv_sub hl [0, 1, 2] rfl)
    · have h := it_f c22 h
      refine lv_ldc2 (v := (31 : Int64)) (pc := 247) hx hb hown (hts _ qk_Law_144) dL_asks_247 ?_
      refine lv_ldc2 (v := (31 : Int64)) (pc := 250) hx hb hown (hts _ qk_Law_144) dL_asks_250 ?_
      refine lv_ldc2 (v := (31 : Int64)) (pc := 253) hx hb hown (hts _ qk_Law_144) dL_asks_253 ?_
      refine lv_lload_n (pc := 256) hx hb dL_asks_256 rfl (lv_at hl 1 rfl) ?_
      refine lv_lmul (pc := 257) hx hb dL_asks_257 ?_
      refine lv_aload_n (pc := 258) hx hb dL_asks_258 rfl (lv_at hl 0 rfl) ?_
      refine lv_iload_n (pc := 259) hx hb dL_asks_259 rfl (lv_at hl 2 rfl) ?_
      obtain ⟨v23, h_v23, h⟩ := ob h
      refine lwA (na := 2) (pc := 260) (As := [.ref (ad 0), .int x3]) (rest := [.long ((31 : Int64) * x1), .long (31 : Int64), .long (31 : Int64)]) (r9 := r9) hx hb hml hown hts hG2 hP hD hS hZ (c_h_square l K hl0 ad F S x3 h_v23) (wO_adr K ad _ _) (gSH qm_Law_193 qt_Law_square qn_Law qc_Law_square) (by decide +kernel) rfl ⟨by omega, by omega⟩ ⟨by omega, by omega⟩ hl rfl (Nat.le_of_ble_eq_true rfl) dL_asks_260 (fun H locs hP hD hS => ?_)
      refine lv_i2l (v := (v23.1).toInt64) (pc := 263) hx hb dL_asks_263 rfl ?_
      refine lv_ladd (pc := 264) hx hb dL_asks_264 ?_
      refine lv_lmul (pc := 265) hx hb dL_asks_265 ?_
      refine lv_aload_n (pc := 266) hx hb dL_asks_266 rfl (lv_at hl 0 rfl) ?_
      refine lv_iconst (v := (3 : Int32)) (pc := 267) hx hb dL_asks_267 (by decide) ?_
      refine lv_iload_n (pc := 268) hx hb dL_asks_268 rfl (lv_at hl 2 rfl) ?_
      refine lv_imul (pc := 269) hx hb dL_asks_269 ?_
      refine lv_iconst (v := (5 : Int32)) (pc := 270) hx hb dL_asks_270 (by decide) ?_
      obtain ⟨v24, h_v24, h⟩ := ob h
      refine lwA (na := 3) (pc := 271) (As := [.ref (ad 0), .int ((3 : Int32) * x3), .int (5 : Int32)]) (rest := [.long ((31 : Int64) * (((31 : Int64) * x1) + ((v23.1).toInt64))), .long (31 : Int64)]) (r9 := r9) hx hb hml hown hts hG2 hP hD hS hZ (c_h_cavity l K hl0 ad F v23.2 ((3 : Int32) * x3) (5 : Int32) h_v24) (wO_adr K ad _ _) (gSH qm_Law_196 qt_Law_cavity qn_Law qc_Law_cavity) (by decide +kernel) rfl ⟨by omega, by omega⟩ ⟨by omega, by omega⟩ hl rfl (Nat.le_of_ble_eq_true rfl) dL_asks_271 (fun H locs hP hD hS => ?_)
      refine lv_i2l (v := (v24.1).toInt64) (pc := 274) hx hb dL_asks_274 rfl ?_
      refine lv_ladd (pc := 275) hx hb dL_asks_275 ?_
      refine lv_lmul (pc := 276) hx hb dL_asks_276 ?_
      refine lv_aload_n (pc := 277) hx hb dL_asks_277 rfl (lv_at hl 0 rfl) ?_
      refine lv_iconst (v := (2 : Int32)) (pc := 278) hx hb dL_asks_278 (by decide) ?_
      refine lv_iload_n (pc := 279) hx hb dL_asks_279 rfl (lv_at hl 2 rfl) ?_
      refine lv_imul (pc := 280) hx hb dL_asks_280 ?_
      refine lv_iload_n (pc := 281) hx hb dL_asks_281 rfl (lv_at hl 2 rfl) ?_
      obtain ⟨v25, h_v25, h⟩ := ob h
      refine lwA (na := 3) (pc := 282) (As := [.ref (ad 0), .int ((2 : Int32) * x3), .int x3]) (rest := [.long ((31 : Int64) * (((31 : Int64) * (((31 : Int64) * x1) + ((v23.1).toInt64))) + ((v24.1).toInt64)))]) (r9 := r9) hx hb hml hown hts hG2 hP hD hS hZ (c_h_number l K hl0 ad F v24.2 ((2 : Int32) * x3) x3 h_v25) (wO_adr K ad _ _) (gSH qm_Law_198 qt_Law_number qn_Law qc_Law_number) (by decide +kernel) rfl ⟨by omega, by omega⟩ ⟨by omega, by omega⟩ hl rfl (Nat.le_of_ble_eq_true rfl) dL_asks_282 (fun H locs hP hD hS => ?_)
      refine lv_i2l (v := (v25.1).toInt64) (pc := 285) hx hb dL_asks_285 rfl ?_
      refine lv_ladd (pc := 286) hx hb dL_asks_286 ?_
      refine lv_lstore_n (pc := 287) (lv' := [(1, .long (((31 : Int64) * (((31 : Int64) * (((31 : Int64) * x1) + ((v23.1).toInt64))) + ((v24.1).toInt64))) + ((v25.1).toInt64))), (0, .ref (ad 0)), (3, .int x3)]) hx hb dL_asks_287 rfl hl (by decide) rfl (fun ls hl => ?_)
      refine lv_iinc (v := (x3 + (1 : Int32))) (pc := 288) (lv' := [(3, .int (x3 + (1 : Int32))), (1, .long (((31 : Int64) * (((31 : Int64) * (((31 : Int64) * x1) + ((v23.1).toInt64))) + ((v24.1).toInt64))) + ((v25.1).toInt64))), (0, .ref (ad 0))]) hx hb dL_asks_288 hl (k := 2) rfl rfl (by decide) rfl (fun ls hl => ?_)
      refine lv_goto (tgt := 242) (pc := 291) hx hb dL_asks_291 (by decide) ?_
      exact ih (((31 : Int64) * (((31 : Int64) * (((31 : Int64) * x1) + ((v23.1).toInt64))) + ((v24.1).toInt64))) + ((v25.1).toInt64)) (x3 + (1 : Int32)) v25.2 out h H locs _ _ ls (by omega) (by omega) hP hD hS (lv_sub hl [2, 1, 0] rfl) Kx
set_option maxHeartbeats 8000000 in
set_option maxRecDepth 100000 in
theorem c_L_asks (l : Launch) (K : KT) (hl0 : l.stackTraces = false) (ad : Nat → Nat) (F : Nat) (S : TopS)  {o : Int64 × TopS} (h : s_L_asks F S  = some o) : Mk l K 10 15901 yL_asks cL_asks 5 .long [.ref (ad 0)] (wO K ad S) (.long o.1) (wO K ad o.2) := by
  refine Mk.of (by decide +kernel) rfl (Nat.le_of_ble_eq_true rfl) ?_
  unfold s_L_asks at h
  intro p e s m below meth c C0 H locs hP hD hS ls hl
  obtain ⟨⟨hx, hb, hml, hown, hts, hG, hr, hlk⟩, hG2, hZ⟩ := id C0
  have hl : lv_has ls 5 [(0, .ref (ad 0))] := hl
  have hRf : 10 ≤ (rmX 10 15901).frames ∧ 600 ≤ (rmX 10 15901).locals := ⟨Nat.le_of_ble_eq_true rfl, Nat.le_of_ble_eq_true rfl⟩
  have hRc : (rmX 10 15901).cells = 15901 := rfl
  have hRs : (rmX 10 15901).slots = 95406 := rfl
  refine lv_ldc2 (v := (31 : Int64)) (pc := 0) hx hb hown (hts _ qk_Law_144) dL_asks_0 ?_
  refine lv_ldc2 (v := (31 : Int64)) (pc := 3) hx hb hown (hts _ qk_Law_144) dL_asks_3 ?_
  refine lv_ldc2 (v := (31 : Int64)) (pc := 6) hx hb hown (hts _ qk_Law_144) dL_asks_6 ?_
  refine lv_aload_n (pc := 9) hx hb dL_asks_9 rfl (lv_at hl 0 rfl) ?_
  obtain ⟨v1, h_v1, h⟩ := ob h
  refine mkA (na := 1) (pc := 10) (As := [.ref (ad 0)]) (rest := [.long (31 : Int64), .long (31 : Int64), .long (31 : Int64)]) (r9 := []) hx hb hml hown hts hG2 hP hD hS hZ (c_L_state l K hl0 ad F S h_v1) (wO_adr K ad _ _) g_Law_158 hd_Law_state rfl ⟨by omega, by omega⟩ ⟨by omega, by omega⟩ hl rfl (Nat.le_of_ble_eq_true rfl) dL_asks_10 (fun H locs hP hD hS => ?_)
  refine lv_lmul (pc := 13) hx hb dL_asks_13 ?_
  refine lv_aload_n (pc := 14) hx hb dL_asks_14 rfl (lv_at hl 0 rfl) ?_
  refine rdA (pc := 15) (As := []) (rest := [.long ((31 : Int64) * v1.1), .long (31 : Int64), .long (31 : Int64)]) (r9 := []) hx hb hml hown hts hG hP (c_i_triangleCount l K ad v1.2) (wO_0 K ad _) (ci := 6) rfl g_Law_162 hd_Top_triangleCount rfl ⟨by omega, by omega⟩ ⟨by omega, by omega⟩ hl rfl (Nat.le_of_ble_eq_true rfl) dL_asks_15 ?_
  refine lv_i2l (v := ((i_triangleCount v1.2)).toInt64) (pc := 18) hx hb dL_asks_18 rfl ?_
  refine lv_ladd (pc := 19) hx hb dL_asks_19 ?_
  refine lv_lmul (pc := 20) hx hb dL_asks_20 ?_
  refine lv_aload_n (pc := 21) hx hb dL_asks_21 rfl (lv_at hl 0 rfl) ?_
  refine rdA (pc := 22) (As := []) (rest := [.long ((31 : Int64) * (((31 : Int64) * v1.1) + (((i_triangleCount v1.2)).toInt64))), .long (31 : Int64)]) (r9 := []) hx hb hml hown hts hG hP (c_i_edgeCount l K ad v1.2) (wO_0 K ad _) (ci := 6) rfl g_Law_165 hd_Top_edgeCount rfl ⟨by omega, by omega⟩ ⟨by omega, by omega⟩ hl rfl (Nat.le_of_ble_eq_true rfl) dL_asks_22 ?_
  refine lv_i2l (v := ((i_edgeCount v1.2)).toInt64) (pc := 25) hx hb dL_asks_25 rfl ?_
  refine lv_ladd (pc := 26) hx hb dL_asks_26 ?_
  refine lv_lmul (pc := 27) hx hb dL_asks_27 ?_
  refine lv_aload_n (pc := 28) hx hb dL_asks_28 rfl (lv_at hl 0 rfl) ?_
  refine rdA (pc := 29) (As := []) (rest := [.long ((31 : Int64) * (((31 : Int64) * (((31 : Int64) * v1.1) + (((i_triangleCount v1.2)).toInt64))) + (((i_edgeCount v1.2)).toInt64)))]) (r9 := []) hx hb hml hown hts hG hP (c_i_hullSize l K ad v1.2) (wO_0 K ad _) (ci := 6) rfl g_Law_168 hd_Top_hullSize rfl ⟨by omega, by omega⟩ ⟨by omega, by omega⟩ hl rfl (Nat.le_of_ble_eq_true rfl) dL_asks_29 ?_
  refine lv_i2l (v := ((i_hullSize v1.2)).toInt64) (pc := 32) hx hb dL_asks_32 rfl ?_
  refine lv_ladd (pc := 33) hx hb dL_asks_33 ?_
  refine lv_lstore_n (pc := 34) (lv' := [(1, .long (((31 : Int64) * (((31 : Int64) * (((31 : Int64) * v1.1) + (((i_triangleCount v1.2)).toInt64))) + (((i_edgeCount v1.2)).toInt64))) + (((i_hullSize v1.2)).toInt64))), (0, .ref (ad 0))]) hx hb dL_asks_34 rfl hl (by decide) rfl (fun ls hl => ?_)
  refine lv_iconst (v := (0 : Int32)) (pc := 35) hx hb dL_asks_35 (by decide) ?_
  refine lv_istore_n (pc := 36) (lv' := [(3, .int (0 : Int32)), (1, .long (((31 : Int64) * (((31 : Int64) * (((31 : Int64) * v1.1) + (((i_triangleCount v1.2)).toInt64))) + (((i_edgeCount v1.2)).toInt64))) + (((i_hullSize v1.2)).toInt64))), (0, .ref (ad 0))]) hx hb dL_asks_36 rfl hl (by decide) rfl (fun ls hl => ?_)
  obtain ⟨o8, h_o8, h⟩ := ob h
  refine l_L_asks_L37 C0 hl0 hRf F ad 14940 ⟨by omega, by omega⟩ 60 (((31 : Int64) * (((31 : Int64) * (((31 : Int64) * v1.1) + (((i_triangleCount v1.2)).toInt64))) + (((i_edgeCount v1.2)).toInt64))) + (((i_hullSize v1.2)).toInt64)) (0 : Int32) v1.2 _ h_o8 H locs _ _ ls (by omega) (by omega) hP hD hS (lv_sub hl [2, 1, 0] rfl) (fun o8x H locs ls eo hP hD hS hl => ?_)
  subst o8
  refine lv_iconst (v := (0 : Int32)) (pc := 107) hx hb dL_asks_107 (by decide) ?_
  refine lv_istore_n (pc := 108) (lv' := [(3, .int (0 : Int32)), (0, .ref (ad 0)), (1, .long o8x.1)]) hx hb dL_asks_108 rfl hl (by decide) rfl (fun ls hl => ?_)
  obtain ⟨o13, h_o13, h⟩ := ob h
  refine l_L_asks_L109 C0 hl0 hRf F ad 15300 ⟨by omega, by omega⟩ 60 o8x.1 (0 : Int32) o8x.2.2 _ h_o13 H locs _ _ ls (by omega) (by omega) hP hD hS (lv_sub hl [1, 2, 0] rfl) (fun o13x H locs ls eo hP hD hS hl => ?_)
  subst o13
  refine lv_iconst (v := (0 : Int32)) (pc := 160) hx hb dL_asks_160 (by decide) ?_
  refine lv_istore_n (pc := 161) (lv' := [(3, .int (0 : Int32)), (0, .ref (ad 0)), (1, .long o13x.1)]) hx hb dL_asks_161 rfl hl (by decide) rfl (fun ls hl => ?_)
  obtain ⟨o18, h_o18, h⟩ := ob h
  refine l_L_asks_L162 C0 hl0 hRf F ad 15540 ⟨by omega, by omega⟩ 60 o13x.1 (0 : Int32) o13x.2.2 _ h_o18 H locs _ _ ls (by omega) (by omega) hP hD hS (lv_sub hl [1, 2, 0] rfl) (fun o18x H locs ls eo hP hD hS hl => ?_)
  subst o18
  refine lv_iconst (v := (0 : Int32)) (pc := 211) hx hb dL_asks_211 (by decide) ?_
  refine lv_istore_n (pc := 212) (lv' := [(3, .int (0 : Int32)), (0, .ref (ad 0)), (1, .long o18x.1)]) hx hb dL_asks_212 rfl hl (by decide) rfl (fun ls hl => ?_)
  obtain ⟨o21, h_o21, h⟩ := ob h
  refine l_L_asks_L213 C0 hl0 hRf F ad 15600 ⟨by omega, by omega⟩ 60 o18x.1 (0 : Int32) o18x.2.2 _ h_o21 H locs _ _ ls (by omega) (by omega) hP hD hS (lv_sub hl [1, 2, 0] rfl) (fun o21x H locs ls eo hP hD hS hl => ?_)
  subst o21
  refine lv_iconst (v := (0 : Int32)) (pc := 240) hx hb dL_asks_240 (by decide) ?_
  refine lv_istore_n (pc := 241) (lv' := [(3, .int (0 : Int32)), (0, .ref (ad 0)), (1, .long o21x.1)]) hx hb dL_asks_241 rfl hl (by decide) rfl (fun ls hl => ?_)
  obtain ⟨o26, h_o26, h⟩ := ob h
  refine l_L_asks_L242 C0 hl0 hRf F ad 15900 ⟨by omega, by omega⟩ 60 o21x.1 (0 : Int32) o21x.2.2 _ h_o26 H locs _ _ ls (by omega) (by omega) hP hD hS (lv_sub hl [1, 2, 0] rfl) (fun o26x H locs ls eo hP hD hS hl => ?_)
  subst o26
  refine lv_ldc2 (v := (31 : Int64)) (pc := 294) hx hb hown (hts _ qk_Law_144) dL_asks_294 ?_
  refine lv_ldc2 (v := (31 : Int64)) (pc := 297) hx hb hown (hts _ qk_Law_144) dL_asks_297 ?_
  refine lv_lload_n (pc := 300) hx hb dL_asks_300 rfl (lv_at hl 1 rfl) ?_
  refine lv_lmul (pc := 301) hx hb dL_asks_301 ?_
  refine lv_aload_n (pc := 302) hx hb dL_asks_302 rfl (lv_at hl 0 rfl) ?_
  obtain ⟨v27, h_v27, h⟩ := ob h
  refine rdA (pc := 303) (As := []) (rest := [.long ((31 : Int64) * o26x.1), .long (31 : Int64)]) (r9 := []) hx hb hml hown hts hG hP (c_i_forcedConstraints l K ad o26x.2.2 F h_v27) (wO_0 K ad _) (ci := 6) rfl g_Law_201 hd_Top_forcedConstraints rfl ⟨by omega, by omega⟩ ⟨by omega, by omega⟩ hl rfl (Nat.le_of_ble_eq_true rfl) dL_asks_303 ?_
  refine lv_i2l (v := (v27).toInt64) (pc := 306) hx hb dL_asks_306 rfl ?_
  refine lv_ladd (pc := 307) hx hb dL_asks_307 ?_
  refine lv_lmul (pc := 308) hx hb dL_asks_308 ?_
  refine lv_ldc2d (v := (0x412E848000000000 : UInt64)) (pc := 309) hx hb hown (hts _ qk_Law_204) dL_asks_309 ?_
  refine lv_aload_n (pc := 312) hx hb dL_asks_312 rfl (lv_at hl 0 rfl) ?_
  obtain ⟨v28, h_v28, h⟩ := ob h
  refine lwA (na := 1) (pc := 313) (As := [.ref (ad 0)]) (rest := [.double (0x412E848000000000 : UInt64), .long ((31 : Int64) * (((31 : Int64) * o26x.1) + ((v27).toInt64)))]) (r9 := []) hx hb hml hown hts hG2 hP hD hS hZ (c_h_mean l K hl0 ad F o26x.2.2 h_v28) (wO_adr K ad _ _) (gSH qm_Law_206 qt_Law_mean qn_Law qc_Law_mean) (by decide +kernel) rfl ⟨by omega, by omega⟩ ⟨by omega, by omega⟩ hl rfl (Nat.le_of_ble_eq_true rfl) dL_asks_313 (fun H locs hP hD hS => ?_)
  obtain ⟨v29, h_v29, h⟩ := ob h
  obtain ⟨hi_v29, e_v29⟩ := dmulO_in h_v29
  refine lv_dmul (pc := 316) hx hb dL_asks_316 hi_v29 ?_
  rw [e_v29]
  refine lv_d2l (pc := 317) hx hb dL_asks_317 ?_
  refine lv_ladd (pc := 318) hx hb dL_asks_318 ?_
  obtain rfl := Option.some.inj h
  refine W.widen (k := 15901) (n := 95406) (by omega) (by omega) ?_
  rw [List.append_nil] at hP
  exact W.lret hx hb hr (fun t ht hW => ⟨⟨rfl, by rw [ht]; exact hP⟩, hS.F ht⟩) hS.2.2 dL_asks_319 hlk
