set_option maxHeartbeats 4000000 in
set_option maxRecDepth 100000 in
theorem l_Mod_thingAt_L6 {p : Program} {l : Launch} {e : Env} {s : State} {m : MethodId} {args : Array Value} {below : List Frame} {meth : Method} {c : Code} {Q : State → Prop} {K : KT} {A : Nat → Prop} (C0 : Ctx p m c cX7_thingAt 5 s args RX7 K meth (some .int)) (F : Nat) (ad : Nat → Nat) (mthr : Int32) (mnow : Nat → Int32) (mold : Nat → Int32) (mols : Int32) (msav : Nat → Int32) (miss : Bool) (minp : Nat → Int32) (mlen : Int32) (mat : Int32) (medg : Nat → Int32) (mcor : Nat → Int32) (mtri : Int32) (mkep : Nat → Int32) (mkee : Nat → Int32) (mwor : Nat → Int32) (mnum : Nat → Int32) (mmet : Nat → Int32) (x1 : Int32) (x2 : Int32)  : ∀ (n : Nat) (x3 : Int32) (out : (Int32 × (Nat → Int32) × (Nat → Int32) × Int32) ⊕ (Int32)), s_Mod_thingAt_L6 mnow medg mcor mtri x1 x2 n x3 = some out → ∀ (H : Heap) (locs : List Loc) (ls : Array Slot), va_P K.1 vC (wMod K ad mthr mnow mold mols msav miss minp mlen mat medg mcor mtri mkep mkee mwor mnum mmet) H → va_D A (wMod K ad mthr mnow mold mols msav miss minp mlen mat medg mcor mtri mkep mkee mwor mnum mmet) → va_S A s.heap H locs → lv_has ls 5 [(0, .ref (ad 0)), (1, .int x1), (2, .int x2), (3, .int x3)] → (∀ (o : Int32) (H : Heap) (locs : List Loc) (ls : Array Slot), out = .inr o → va_P K.1 vC (wMod K ad mthr mnow mold mols msav miss minp mlen mat medg mcor mtri mkep mkee mwor mnum mmet) H → va_D A (wMod K ad mthr mnow mold mols msav miss minp mlen mat medg mcor mtri mkep mkee mwor mnum mmet) → va_S A s.heap H locs → lv_has ls 5 [(0, .ref (ad 0)), (1, .int x1), (2, .int x2), (3, .int o)] → W p l e (rmL 7) s m args below meth c H locs 0 0 Q (F0 m 44 ls [])) → (∀ (o : Int32 × (Nat → Int32) × (Nat → Int32) × Int32) (H : Heap) (locs : List Loc) (pcR : Nat) (ls : Array Slot), out = .inl o → va_P K.1 vC (wMod K ad mthr mnow mold mols msav miss minp mlen mat o.2.1 o.2.2.1 o.2.2.2 mkep mkee mwor mnum mmet) H → va_D A (wMod K ad mthr mnow mold mols msav miss minp mlen mat o.2.1 o.2.2.1 o.2.2.2 mkep mkee mwor mnum mmet) → va_S A s.heap H locs → decode cX7_thingAt pcR = .ok (.ireturn, 1) → W p l e (rmL 7) s m args below meth c H locs 0 0 Q (F0 m pcR ls [.int o.1])) → W p l e (rmL 7) s m args below meth c H locs 0 0 Q (F0 m 6 ls []) := by
  obtain ⟨hx, hb, hml, hown, hts, hG, hr, hlk⟩ := id C0
  intro n
  induction n with
  | zero =>
    intro x3 out h
    cases h
  | succ n ih =>
    intro x3 out h H locs ls hP hD hS hl Kx Kr
    rw [s_Mod_thingAt_L6.eq_2] at h
    refine lv_iload_n (pc := 6) hx hb dX7_thingAt_6 rfl (lv_at hl 3 rfl) ?_
    refine lv_aload_n (pc := 7) hx hb dX7_thingAt_7 rfl (lv_at hl 0 rfl) ?_
    obtain ⟨v2, h_v2, h⟩ := ob h
    refine rdV (pc := 8) (As := []) (rest := [.int x3]) hx hb hml hown hts hG hP (c_Mod_n l K ad mthr mnow mold mols msav miss minp mlen mat medg mcor mtri mkep mkee mwor mnum mmet h_v2) [0, 1, 2, 3, 4, 5, 6, 7, 8, 9, 10, 11] rfl (q0 := 0) rfl (ci := 7) rfl g_Mod_48 hd_Mod_n rfl ⟨Nat.le_of_ble_eq_true rfl, Nat.le_of_ble_eq_true rfl⟩ ⟨Nat.zero_le _, Nat.zero_le _⟩ hl rfl (Nat.le_of_ble_eq_true rfl) dX7_thingAt_8 ?_
    refine lv_icmp_ge (tgt := 44) (pc := 11) hx hb dX7_thingAt_11 (by decide) (fun c3 => ?_) (fun c3 => ?_)
    · have h := it_t c3 h
      obtain rfl := Option.some.inj h
      exact Kx _ H locs ls rfl hP hD hS (lv_sub hl [0, 1, 2, 3] rfl)
    · have h := it_f c3 h
      refine lv_aload_n (pc := 14) hx hb dX7_thingAt_14 rfl (lv_at hl 0 rfl) ?_
      refine lv_iload_n (pc := 15) hx hb dX7_thingAt_15 rfl (lv_at hl 3 rfl) ?_
      obtain ⟨v4, h_v4, h⟩ := ob h
      refine rdV (pc := 16) (As := [.int x3]) (rest := []) hx hb hml hown hts hG hP (c_Mod_x l K ad mthr mnow mold mols msav miss minp mlen mat medg mcor mtri mkep mkee mwor mnum mmet x3 h_v4) [0, 1, 2, 3, 4, 5, 6, 7, 8, 9, 10, 11] rfl (q0 := 0) rfl (ci := 7) rfl g_Mod_65 hd_Mod_x rfl ⟨Nat.le_of_ble_eq_true rfl, Nat.le_of_ble_eq_true rfl⟩ ⟨Nat.zero_le _, Nat.zero_le _⟩ hl rfl (Nat.le_of_ble_eq_true rfl) dX7_thingAt_16 ?_
      refine lv_iload_n (pc := 19) hx hb dX7_thingAt_19 rfl (lv_at hl 1 rfl) ?_
      refine lv_icmp_ne (tgt := 38) (pc := 20) hx hb dX7_thingAt_20 (by decide) (fun c5 => ?_) (fun c5 => ?_)
      · have h := it_f c5 h
        refine lv_iinc (v := (x3 + (1 : Int32))) (pc := 38) (lv' := [(3, .int (x3 + (1 : Int32))), (0, .ref (ad 0)), (1, .int x1), (2, .int x2)]) hx hb dX7_thingAt_38 hl (k := 3) rfl rfl (by decide) rfl (fun ls hl => ?_)
        refine lv_goto (tgt := 6) (pc := 41) hx hb dX7_thingAt_41 (by decide) ?_
        exact ih (x3 + (1 : Int32)) out h H locs ls hP hD hS (lv_sub hl [1, 2, 3, 0] rfl) Kx Kr
      · have h := it_t c5 h
        refine lv_aload_n (pc := 23) hx hb dX7_thingAt_23 rfl (lv_at hl 0 rfl) ?_
        refine lv_iload_n (pc := 24) hx hb dX7_thingAt_24 rfl (lv_at hl 3 rfl) ?_
        obtain ⟨v6, h_v6, h⟩ := ob h
        refine rdV (pc := 25) (As := [.int x3]) (rest := []) hx hb hml hown hts hG hP (c_Mod_y l K ad mthr mnow mold mols msav miss minp mlen mat medg mcor mtri mkep mkee mwor mnum mmet x3 h_v6) [0, 1, 2, 3, 4, 5, 6, 7, 8, 9, 10, 11] rfl (q0 := 0) rfl (ci := 7) rfl g_Mod_68 hd_Mod_y rfl ⟨Nat.le_of_ble_eq_true rfl, Nat.le_of_ble_eq_true rfl⟩ ⟨Nat.zero_le _, Nat.zero_le _⟩ hl rfl (Nat.le_of_ble_eq_true rfl) dX7_thingAt_25 ?_
        refine lv_iload_n (pc := 28) hx hb dX7_thingAt_28 rfl (lv_at hl 2 rfl) ?_
        refine lv_icmp_ne (tgt := 38) (pc := 29) hx hb dX7_thingAt_29 (by decide) (fun c7 => ?_) (fun c7 => ?_)
        · have h := it_f c7 h
          refine lv_iinc (v := (x3 + (1 : Int32))) (pc := 38) (lv' := [(3, .int (x3 + (1 : Int32))), (0, .ref (ad 0)), (1, .int x1), (2, .int x2)]) hx hb dX7_thingAt_38 hl (k := 3) rfl rfl (by decide) rfl (fun ls hl => ?_)
          refine lv_goto (tgt := 6) (pc := 41) hx hb dX7_thingAt_41 (by decide) ?_
          exact ih (x3 + (1 : Int32)) out h H locs ls hP hD hS (lv_sub hl [1, 2, 3, 0] rfl) Kx Kr
        · have h := it_t c7 h
          refine lv_sipush (v := (10000 : Int32)) (pc := 32) hx hb dX7_thingAt_32 (by decide) ?_
          refine lv_iload_n (pc := 35) hx hb dX7_thingAt_35 rfl (lv_at hl 3 rfl) ?_
          refine lv_iadd (pc := 36) hx hb dX7_thingAt_36 ?_
          obtain rfl := Option.some.inj h
          exact Kr _ _ _ _ _ rfl hP hD hS dX7_thingAt_37
set_option maxHeartbeats 4000000 in
set_option maxRecDepth 100000 in
theorem l_Mod_thingAt_L59 {p : Program} {l : Launch} {e : Env} {s : State} {m : MethodId} {args : Array Value} {below : List Frame} {meth : Method} {c : Code} {Q : State → Prop} {K : KT} {A : Nat → Prop} (C0 : Ctx p m c cX7_thingAt 5 s args RX7 K meth (some .int)) (F : Nat) (ad : Nat → Nat) (mthr : Int32) (mnow : Nat → Int32) (mold : Nat → Int32) (mols : Int32) (msav : Nat → Int32) (miss : Bool) (minp : Nat → Int32) (mlen : Int32) (mat : Int32) (medg : Nat → Int32) (mcor : Nat → Int32) (mtri : Int32) (mkep : Nat → Int32) (mkee : Nat → Int32) (mwor : Nat → Int32) (mnum : Nat → Int32) (mmet : Nat → Int32) (x1 : Int32) (x2 : Int32) (x3 : Int32)  : ∀ (n : Nat) (x4 : Int32) (out : (Int32 × (Nat → Int32) × (Nat → Int32) × Int32) ⊕ (Int32)), s_Mod_thingAt_L59 F mnow medg mcor mtri x1 x2 x3 n x4 = some out → ∀ (H : Heap) (locs : List Loc) (ls : Array Slot), va_P K.1 vC (wMod K ad mthr mnow mold mols msav miss minp mlen mat medg mcor mtri mkep mkee mwor mnum mmet) H → va_D A (wMod K ad mthr mnow mold mols msav miss minp mlen mat medg mcor mtri mkep mkee mwor mnum mmet) → va_S A s.heap H locs → lv_has ls 5 [(0, .ref (ad 0)), (1, .int x1), (2, .int x2), (3, .int x3), (4, .int x4)] → (∀ (o : Int32) (H : Heap) (locs : List Loc) (ls : Array Slot), out = .inr o → va_P K.1 vC (wMod K ad mthr mnow mold mols msav miss minp mlen mat medg mcor mtri mkep mkee mwor mnum mmet) H → va_D A (wMod K ad mthr mnow mold mols msav miss minp mlen mat medg mcor mtri mkep mkee mwor mnum mmet) → va_S A s.heap H locs → lv_has ls 5 [(0, .ref (ad 0)), (1, .int x1), (2, .int x2), (3, .int x3), (4, .int o)] → W p l e (rmL 7) s m args below meth c H locs 0 0 Q (F0 m 108 ls [])) → (∀ (o : Int32 × (Nat → Int32) × (Nat → Int32) × Int32) (H : Heap) (locs : List Loc) (pcR : Nat) (ls : Array Slot), out = .inl o → va_P K.1 vC (wMod K ad mthr mnow mold mols msav miss minp mlen mat o.2.1 o.2.2.1 o.2.2.2 mkep mkee mwor mnum mmet) H → va_D A (wMod K ad mthr mnow mold mols msav miss minp mlen mat o.2.1 o.2.2.1 o.2.2.2 mkep mkee mwor mnum mmet) → va_S A s.heap H locs → decode cX7_thingAt pcR = .ok (.ireturn, 1) → W p l e (rmL 7) s m args below meth c H locs 0 0 Q (F0 m pcR ls [.int o.1])) → W p l e (rmL 7) s m args below meth c H locs 0 0 Q (F0 m 59 ls []) := by
  obtain ⟨hx, hb, hml, hown, hts, hG, hr, hlk⟩ := id C0
  intro n
  induction n with
  | zero =>
    intro x4 out h
    cases h
  | succ n ih =>
    intro x4 out h H locs ls hP hD hS hl Kx Kr
    rw [s_Mod_thingAt_L59.eq_2] at h
    refine lv_iload (pc := 59) hx hb dX7_thingAt_59 (lv_at hl 4 rfl) ?_
    refine lv_aload_n (pc := 61) hx hb dX7_thingAt_61 rfl (lv_at hl 0 rfl) ?_
    obtain ⟨v11, h_v11, h⟩ := ob h
    refine rdV (pc := 62) (As := []) (rest := [.int x4]) hx hb hml hown hts hG hP (c_Mod_n l K ad mthr mnow mold mols msav miss minp mlen mat medg mcor mtri mkep mkee mwor mnum mmet h_v11) [0, 1, 2, 3, 4, 5, 6, 7, 8, 9, 10, 11] rfl (q0 := 0) rfl (ci := 7) rfl g_Mod_48 hd_Mod_n rfl ⟨Nat.le_of_ble_eq_true rfl, Nat.le_of_ble_eq_true rfl⟩ ⟨Nat.zero_le _, Nat.zero_le _⟩ hl rfl (Nat.le_of_ble_eq_true rfl) dX7_thingAt_62 ?_
    refine lv_icmp_ge (tgt := 108) (pc := 65) hx hb dX7_thingAt_65 (by decide) (fun c12 => ?_) (fun c12 => ?_)
    · have h := it_t c12 h
      obtain rfl := Option.some.inj h
      exact Kx _ H locs ls rfl hP hD hS (lv_sub hl [0, 1, 2, 3, 4] rfl)
    · have h := it_f c12 h
      refine lv_aload_n (pc := 68) hx hb dX7_thingAt_68 rfl (lv_at hl 0 rfl) ?_
      refine lv_iload_n (pc := 69) hx hb dX7_thingAt_69 rfl (lv_at hl 3 rfl) ?_
      refine lv_iload (pc := 70) hx hb dX7_thingAt_70 (lv_at hl 4 rfl) ?_
      obtain ⟨v13, h_v13, h⟩ := ob h
      refine rdV (pc := 72) (As := [.int x3, .int x4]) (rest := []) hx hb hml hown hts hG hP (c_Mod_has l K ad mthr mnow mold mols msav miss minp mlen mat medg mcor mtri mkep mkee mwor mnum mmet x3 x4 h_v13) [0, 1, 2, 3, 4, 5, 6, 7, 8, 9, 10, 11] rfl (q0 := 0) rfl (ci := 7) rfl g_Mod_104 hd_Mod_has rfl ⟨Nat.le_of_ble_eq_true rfl, Nat.le_of_ble_eq_true rfl⟩ ⟨Nat.zero_le _, Nat.zero_le _⟩ hl rfl (Nat.le_of_ble_eq_true rfl) dX7_thingAt_72 ?_
      refine lv_if_eq (tgt := 102) (pc := 75) hx hb dX7_thingAt_75 (by decide) (fun c14 => ?_) (fun c14 => ?_)
      · have h := it_t c14 h
        refine lv_iinc (v := (x4 + (1 : Int32))) (pc := 102) (lv' := [(4, .int (x4 + (1 : Int32))), (0, .ref (ad 0)), (1, .int x1), (2, .int x2), (3, .int x3)]) hx hb dX7_thingAt_102 hl (k := 4) rfl rfl (by decide) rfl (fun ls hl => ?_)
        refine lv_goto (tgt := 59) (pc := 105) hx hb dX7_thingAt_105 (by decide) ?_
        exact ih (x4 + (1 : Int32)) out h H locs ls hP hD hS (lv_sub hl [1, 2, 3, 4, 0] rfl) Kx Kr
      · have h := it_f c14 h
        refine lv_aload_n (pc := 78) hx hb dX7_thingAt_78 rfl (lv_at hl 0 rfl) ?_
        refine lv_iload_n (pc := 79) hx hb dX7_thingAt_79 rfl (lv_at hl 3 rfl) ?_
        refine lv_iload (pc := 80) hx hb dX7_thingAt_80 (lv_at hl 4 rfl) ?_
        refine lv_iload_n (pc := 82) hx hb dX7_thingAt_82 rfl (lv_at hl 1 rfl) ?_
        refine lv_iload_n (pc := 83) hx hb dX7_thingAt_83 rfl (lv_at hl 2 rfl) ?_
        obtain ⟨v15, h_v15, h⟩ := ob h
        refine rdV (pc := 84) (As := [.int x3, .int x4, .int x1, .int x2]) (rest := []) hx hb hml hown hts hG hP (c_Mod_isOn l K ad mthr mnow mold mols msav miss minp mlen mat medg mcor mtri mkep mkee mwor mnum mmet x3 x4 x1 x2 h_v15) [0, 1, 2, 3, 4, 5, 6, 7, 8, 9, 10, 11] rfl (q0 := 0) rfl (ci := 7) rfl g_Mod_75 hd_Mod_isOn rfl ⟨Nat.le_of_ble_eq_true rfl, Nat.le_of_ble_eq_true rfl⟩ ⟨Nat.zero_le _, Nat.zero_le _⟩ hl rfl (Nat.le_of_ble_eq_true rfl) dX7_thingAt_84 ?_
        refine lv_if_eq (tgt := 102) (pc := 87) hx hb dX7_thingAt_87 (by decide) (fun c16 => ?_) (fun c16 => ?_)
        · have h := it_t c16 h
          refine lv_iinc (v := (x4 + (1 : Int32))) (pc := 102) (lv' := [(4, .int (x4 + (1 : Int32))), (0, .ref (ad 0)), (1, .int x1), (2, .int x2), (3, .int x3)]) hx hb dX7_thingAt_102 hl (k := 4) rfl rfl (by decide) rfl (fun ls hl => ?_)
          refine lv_goto (tgt := 59) (pc := 105) hx hb dX7_thingAt_105 (by decide) ?_
          exact ih (x4 + (1 : Int32)) out h H locs ls hP hD hS (lv_sub hl [1, 2, 3, 4, 0] rfl) Kx Kr
        · have h := it_f c16 h
          refine lv_sipush (v := (20000 : Int32)) (pc := 90) hx hb dX7_thingAt_90 (by decide) ?_
          refine lv_aload_n (pc := 93) hx hb dX7_thingAt_93 rfl (lv_at hl 0 rfl) ?_
          refine lv_iload_n (pc := 94) hx hb dX7_thingAt_94 rfl (lv_at hl 3 rfl) ?_
          refine lv_iload (pc := 95) hx hb dX7_thingAt_95 (lv_at hl 4 rfl) ?_
          obtain ⟨v17, h_v17, h⟩ := ob h
          refine rdV (pc := 97) (As := [.int x3, .int x4]) (rest := [.int (20000 : Int32)]) hx hb hml hown hts hG hP (c_Mod_numberOf l K ad mthr mnow mold mols msav miss minp mlen mat medg mcor mtri mkep mkee mwor mnum mmet x3 x4 F h_v17) [0, 1, 2, 3, 4, 5, 6, 7, 8, 9, 10, 11] rfl (q0 := 0) rfl (ci := 7) rfl g_Mod_228 hd_Mod_numberOf rfl ⟨Nat.le_of_ble_eq_true rfl, Nat.le_of_ble_eq_true rfl⟩ ⟨Nat.zero_le _, Nat.zero_le _⟩ hl rfl (Nat.le_of_ble_eq_true rfl) dX7_thingAt_97 ?_
          refine lv_iadd (pc := 100) hx hb dX7_thingAt_100 ?_
          obtain rfl := Option.some.inj h
          exact Kr _ _ _ _ _ rfl hP hD hS dX7_thingAt_101
set_option maxHeartbeats 4000000 in
set_option maxRecDepth 100000 in
theorem l_Mod_thingAt_L46 {p : Program} {l : Launch} {e : Env} {s : State} {m : MethodId} {args : Array Value} {below : List Frame} {meth : Method} {c : Code} {Q : State → Prop} {K : KT} {A : Nat → Prop} (C0 : Ctx p m c cX7_thingAt 5 s args RX7 K meth (some .int)) (F : Nat) (ad : Nat → Nat) (mthr : Int32) (mnow : Nat → Int32) (mold : Nat → Int32) (mols : Int32) (msav : Nat → Int32) (miss : Bool) (minp : Nat → Int32) (mlen : Int32) (mat : Int32) (medg : Nat → Int32) (mcor : Nat → Int32) (mtri : Int32) (mkep : Nat → Int32) (mkee : Nat → Int32) (mwor : Nat → Int32) (mnum : Nat → Int32) (mmet : Nat → Int32) (x1 : Int32) (x2 : Int32)  : ∀ (n : Nat) (x3 : Int32) (out : (Int32 × (Nat → Int32) × (Nat → Int32) × Int32) ⊕ (Int32)), s_Mod_thingAt_L46 F mnow medg mcor mtri x1 x2 n x3 = some out → ∀ (H : Heap) (locs : List Loc) (ls : Array Slot), va_P K.1 vC (wMod K ad mthr mnow mold mols msav miss minp mlen mat medg mcor mtri mkep mkee mwor mnum mmet) H → va_D A (wMod K ad mthr mnow mold mols msav miss minp mlen mat medg mcor mtri mkep mkee mwor mnum mmet) → va_S A s.heap H locs → lv_has ls 5 [(0, .ref (ad 0)), (1, .int x1), (2, .int x2), (3, .int x3)] → (∀ (o : Int32) (H : Heap) (locs : List Loc) (ls : Array Slot), out = .inr o → va_P K.1 vC (wMod K ad mthr mnow mold mols msav miss minp mlen mat medg mcor mtri mkep mkee mwor mnum mmet) H → va_D A (wMod K ad mthr mnow mold mols msav miss minp mlen mat medg mcor mtri mkep mkee mwor mnum mmet) → va_S A s.heap H locs → lv_has ls 5 [(0, .ref (ad 0)), (1, .int x1), (2, .int x2), (3, .int o)] → W p l e (rmL 7) s m args below meth c H locs 0 0 Q (F0 m 114 ls [])) → (∀ (o : Int32 × (Nat → Int32) × (Nat → Int32) × Int32) (H : Heap) (locs : List Loc) (pcR : Nat) (ls : Array Slot), out = .inl o → va_P K.1 vC (wMod K ad mthr mnow mold mols msav miss minp mlen mat o.2.1 o.2.2.1 o.2.2.2 mkep mkee mwor mnum mmet) H → va_D A (wMod K ad mthr mnow mold mols msav miss minp mlen mat o.2.1 o.2.2.1 o.2.2.2 mkep mkee mwor mnum mmet) → va_S A s.heap H locs → decode cX7_thingAt pcR = .ok (.ireturn, 1) → W p l e (rmL 7) s m args below meth c H locs 0 0 Q (F0 m pcR ls [.int o.1])) → W p l e (rmL 7) s m args below meth c H locs 0 0 Q (F0 m 46 ls []) := by
  obtain ⟨hx, hb, hml, hown, hts, hG, hr, hlk⟩ := id C0
  intro n
  induction n with
  | zero =>
    intro x3 out h
    cases h
  | succ n ih =>
    intro x3 out h H locs ls hP hD hS hl Kx Kr
    rw [s_Mod_thingAt_L46.eq_2] at h
    refine lv_iload_n (pc := 46) hx hb dX7_thingAt_46 rfl (lv_at hl 3 rfl) ?_
    refine lv_aload_n (pc := 47) hx hb dX7_thingAt_47 rfl (lv_at hl 0 rfl) ?_
    obtain ⟨v9, h_v9, h⟩ := ob h
    refine rdV (pc := 48) (As := []) (rest := [.int x3]) hx hb hml hown hts hG hP (c_Mod_n l K ad mthr mnow mold mols msav miss minp mlen mat medg mcor mtri mkep mkee mwor mnum mmet h_v9) [0, 1, 2, 3, 4, 5, 6, 7, 8, 9, 10, 11] rfl (q0 := 0) rfl (ci := 7) rfl g_Mod_48 hd_Mod_n rfl ⟨Nat.le_of_ble_eq_true rfl, Nat.le_of_ble_eq_true rfl⟩ ⟨Nat.zero_le _, Nat.zero_le _⟩ hl rfl (Nat.le_of_ble_eq_true rfl) dX7_thingAt_48 ?_
    refine lv_icmp_ge (tgt := 114) (pc := 51) hx hb dX7_thingAt_51 (by decide) (fun c10 => ?_) (fun c10 => ?_)
    · have h := it_t c10 h
      obtain rfl := Option.some.inj h
      exact Kx _ H locs ls rfl hP hD hS (lv_sub hl [0, 1, 2, 3] rfl)
    · have h := it_f c10 h
      refine lv_iload_n (pc := 54) hx hb dX7_thingAt_54 rfl (lv_at hl 3 rfl) ?_
      refine lv_iconst (v := (1 : Int32)) (pc := 55) hx hb dX7_thingAt_55 (by decide) ?_
      refine lv_iadd (pc := 56) hx hb dX7_thingAt_56 ?_
      refine lv_istore (pc := 57) (lv' := [(4, .int (x3 + (1 : Int32))), (0, .ref (ad 0)), (1, .int x1), (2, .int x2), (3, .int x3)]) hx hb dX7_thingAt_57 hl (by decide) rfl (fun ls hl => ?_)
      obtain ⟨o18, h_o18, h⟩ := ob h
      refine l_Mod_thingAt_L59 C0 F ad mthr mnow mold mols msav miss minp mlen mat medg mcor mtri mkep mkee mwor mnum mmet x1 x2 x3 F (x3 + (1 : Int32)) _ h_o18 H locs ls hP hD hS (lv_sub hl [1, 2, 3, 4, 0] rfl) (fun o18x H locs ls eo hP hD hS hl => ?_) (fun q_o H locs pcR ls eo hP hD hS hdR => ?_)
      · subst o18
        have h := se_r h
        refine lv_iinc (v := (x3 + (1 : Int32))) (pc := 108) (lv' := [(3, .int (x3 + (1 : Int32))), (0, .ref (ad 0)), (1, .int x1), (2, .int x2), (4, .int o18x)]) hx hb dX7_thingAt_108 hl (k := 3) rfl rfl (by decide) rfl (fun ls hl => ?_)
        refine lv_goto (tgt := 46) (pc := 111) hx hb dX7_thingAt_111 (by decide) ?_
        exact ih (x3 + (1 : Int32)) out h H locs ls hP hD hS (lv_sub hl [1, 2, 3, 0] rfl) Kx Kr
      · subst o18
        have h := se_l h
        obtain rfl := Option.some.inj h
        exact Kr _ _ _ _ _ rfl hP hD hS hdR
set_option maxHeartbeats 4000000 in
set_option maxRecDepth 100000 in
theorem l_Mod_thingAt_L116 {p : Program} {l : Launch} {e : Env} {s : State} {m : MethodId} {args : Array Value} {below : List Frame} {meth : Method} {c : Code} {Q : State → Prop} {K : KT} {A : Nat → Prop} (C0 : Ctx p m c cX7_thingAt 5 s args RX7 K meth (some .int)) (F : Nat) (ad : Nat → Nat) (mthr : Int32) (mnow : Nat → Int32) (mold : Nat → Int32) (mols : Int32) (msav : Nat → Int32) (miss : Bool) (minp : Nat → Int32) (mlen : Int32) (mat : Int32) (medg : Nat → Int32) (mcor : Nat → Int32) (mtri : Int32) (mkep : Nat → Int32) (mkee : Nat → Int32) (mwor : Nat → Int32) (mnum : Nat → Int32) (mmet : Nat → Int32) (x1 : Int32) (x2 : Int32)  : ∀ (n : Nat) (x3 : Int32) (out : (Int32 × (Nat → Int32) × (Nat → Int32) × Int32) ⊕ (Int32)), s_Mod_thingAt_L116 F mnow medg mcor mtri x1 x2 n x3 = some out → ∀ (H : Heap) (locs : List Loc) (ls : Array Slot), va_P K.1 vC (wMod K ad mthr mnow mold mols msav miss minp mlen mat medg mcor mtri mkep mkee mwor mnum mmet) H → va_D A (wMod K ad mthr mnow mold mols msav miss minp mlen mat medg mcor mtri mkep mkee mwor mnum mmet) → va_S A s.heap H locs → lv_has ls 5 [(0, .ref (ad 0)), (1, .int x1), (2, .int x2), (3, .int x3)] → (∀ (o : Int32) (H : Heap) (locs : List Loc) (ls : Array Slot), out = .inr o → va_P K.1 vC (wMod K ad mthr mnow mold mols msav miss minp mlen mat medg mcor mtri mkep mkee mwor mnum mmet) H → va_D A (wMod K ad mthr mnow mold mols msav miss minp mlen mat medg mcor mtri mkep mkee mwor mnum mmet) → va_S A s.heap H locs → lv_has ls 5 [(0, .ref (ad 0)), (1, .int x1), (2, .int x2), (3, .int o)] → W p l e (rmL 7) s m args below meth c H locs 0 0 Q (F0 m 146 ls [])) → (∀ (o : Int32 × (Nat → Int32) × (Nat → Int32) × Int32) (H : Heap) (locs : List Loc) (pcR : Nat) (ls : Array Slot), out = .inl o → va_P K.1 vC (wMod K ad mthr mnow mold mols msav miss minp mlen mat o.2.1 o.2.2.1 o.2.2.2 mkep mkee mwor mnum mmet) H → va_D A (wMod K ad mthr mnow mold mols msav miss minp mlen mat o.2.1 o.2.2.1 o.2.2.2 mkep mkee mwor mnum mmet) → va_S A s.heap H locs → decode cX7_thingAt pcR = .ok (.ireturn, 1) → W p l e (rmL 7) s m args below meth c H locs 0 0 Q (F0 m pcR ls [.int o.1])) → W p l e (rmL 7) s m args below meth c H locs 0 0 Q (F0 m 116 ls []) := by
  obtain ⟨hx, hb, hml, hown, hts, hG, hr, hlk⟩ := id C0
  intro n
  induction n with
  | zero =>
    intro x3 out h
    cases h
  | succ n ih =>
    intro x3 out h H locs ls hP hD hS hl Kx Kr
    rw [s_Mod_thingAt_L116.eq_2] at h
    refine lv_iload_n (pc := 116) hx hb dX7_thingAt_116 rfl (lv_at hl 3 rfl) ?_
    refine lv_aload_n (pc := 117) hx hb dX7_thingAt_117 rfl (lv_at hl 0 rfl) ?_
    refine va_get (D := K.1) (ci := 7) (v := .int mtri) (C := RX7) (T := TX7) (N := 17) (pc := 118) hx hb hts inT7 hown hG.1 hP 0 rfl rfl 11 (by decide) (hts _ qf_Mod_114) (fun _ h9 => h9) rfl dX7_thingAt_118 ?_
    refine lv_icmp_ge (tgt := 146) (pc := 121) hx hb dX7_thingAt_121 (by decide) (fun c20 => ?_) (fun c20 => ?_)
    · have h := it_t c20 h
      obtain rfl := Option.some.inj h
      exact Kx _ H locs ls rfl hP hD hS (lv_sub hl [0, 1, 2, 3] rfl)
    · have h := it_f c20 h
      refine lv_aload_n (pc := 124) hx hb dX7_thingAt_124 rfl (lv_at hl 0 rfl) ?_
      refine lv_iload_n (pc := 125) hx hb dX7_thingAt_125 rfl (lv_at hl 3 rfl) ?_
      refine lv_iload_n (pc := 126) hx hb dX7_thingAt_126 rfl (lv_at hl 1 rfl) ?_
      refine lv_iload_n (pc := 127) hx hb dX7_thingAt_127 rfl (lv_at hl 2 rfl) ?_
      obtain ⟨v21, h_v21, h⟩ := ob h
      refine rdV (pc := 128) (As := [.int x3, .int x1, .int x2]) (rest := []) hx hb hml hown hts hG hP (c_Mod_away l K ad mthr mnow mold mols msav miss minp mlen mat medg mcor mtri mkep mkee mwor mnum mmet x3 x1 x2 F h_v21) [0, 1, 2, 3, 4, 5, 6, 7, 8, 9, 10, 11] rfl (q0 := 0) rfl (ci := 7) rfl g_Mod_250 hd_Mod_away rfl ⟨Nat.le_of_ble_eq_true rfl, Nat.le_of_ble_eq_true rfl⟩ ⟨Nat.zero_le _, Nat.zero_le _⟩ hl rfl (Nat.le_of_ble_eq_true rfl) dX7_thingAt_128 ?_
      refine lv_if_ge (tgt := 140) (pc := 131) hx hb dX7_thingAt_131 (by decide) (fun c22 => ?_) (fun c22 => ?_)
      · have h := it_t c22 h
        refine lv_iinc (v := (x3 + (1 : Int32))) (pc := 140) (lv' := [(3, .int (x3 + (1 : Int32))), (0, .ref (ad 0)), (1, .int x1), (2, .int x2)]) hx hb dX7_thingAt_140 hl (k := 3) rfl rfl (by decide) rfl (fun ls hl => ?_)
        refine lv_goto (tgt := 116) (pc := 143) hx hb dX7_thingAt_143 (by decide) ?_
        exact ih (x3 + (1 : Int32)) out h H locs ls hP hD hS (lv_sub hl [1, 2, 3, 0] rfl) Kx Kr
      · have h := it_f c22 h
        refine lv_sipush (v := (30000 : Int32)) (pc := 134) hx hb dX7_thingAt_134 (by decide) ?_
        refine lv_iload_n (pc := 137) hx hb dX7_thingAt_137 rfl (lv_at hl 3 rfl) ?_
        refine lv_iadd (pc := 138) hx hb dX7_thingAt_138 ?_
        obtain rfl := Option.some.inj h
        exact Kr _ _ _ _ _ rfl hP hD hS dX7_thingAt_139
set_option maxHeartbeats 4000000 in
set_option maxRecDepth 100000 in
theorem c_Mod_thingAt (l : Launch) (K : KT) (ad : Nat → Nat) (mthr : Int32) (mnow : Nat → Int32) (mold : Nat → Int32) (mols : Int32) (msav : Nat → Int32) (miss : Bool) (minp : Nat → Int32) (mlen : Int32) (mat : Int32) (medg : Nat → Int32) (mcor : Nat → Int32) (mtri : Int32) (mkep : Nat → Int32) (mkee : Nat → Int32) (mwor : Nat → Int32) (mnum : Nat → Int32) (mmet : Nat → Int32) (a0 : Int32) (a1 : Int32) (F : Nat) {o : Int32 × (Nat → Int32) × (Nat → Int32) × Int32} (h : s_Mod_thingAt F mnow medg mcor a0 a1 = some o) : Wr l K 7 yX7_thingAt cX7_thingAt 5 (some .int) [.ref (ad 0), .int a0, .int a1] (wMod K ad mthr mnow mold mols msav miss minp mlen mat medg mcor mtri mkep mkee mwor mnum mmet) (some (.int o.1)) (wMod K ad mthr mnow mold mols msav miss minp mlen mat o.2.1 o.2.2.1 o.2.2.2 mkep mkee mwor mnum mmet) := by
  refine Wr.of (by decide +kernel) (Nat.le_of_ble_eq_true rfl) ?_
  unfold s_Mod_thingAt at h
  intro p e s m below meth c hx hb hr hml hown hts hlk H locs hP hG hD hS ls hl
  have C0 : Ctx p m c cX7_thingAt 5 s (Array.mk [.ref (ad 0), .int a0, .int a1]) RX7 K meth (some .int) := ⟨hx, hb, hml, hown, hts, hG, hr, hlk⟩
  have hl : lv_has ls 5 [(0, .ref (ad 0)), (1, .int a0), (2, .int a1)] := hl
  refine lv_aload_n (pc := 0) hx hb dX7_thingAt_0 rfl (lv_at hl 0 rfl) ?_
  obtain ⟨v1, h_v1, h⟩ := ob h
  refine wrVv (pc := 1) (As := []) (rest := []) (ws2 := wMod K ad mthr mnow mold mols msav miss minp mlen mat v1.1 v1.2.1 v1.2.2 mkep mkee mwor mnum mmet) (as9 := [ad 0, ad 1, ad 2, ad 3, ad 4, ad 5, ad 6, ad 7, ad 8, ad 9, ad 10, ad 11]) hx hb hml hown hts hG hP hD hS (c_Mod_builds l K ad mthr mnow mold mols msav miss minp mlen mat medg mcor mtri mkep mkee mwor mnum mmet F h_v1) [0, 1, 2, 3, 4, 5, 6, 7, 8, 9, 10, 11] rfl rfl rfl rfl [.inl 0, .inl 1, .inl 2, .inl 3, .inl 4, .inl 5, .inl 6, .inl 7, .inl 8, .inl 9, .inl 10, .inl 11] (by decide +kernel) rfl (q0 := 0) rfl (ci := 7) rfl g_Mod_210 hd_Mod_builds rfl ⟨Nat.le_of_ble_eq_true rfl, Nat.le_of_ble_eq_true rfl⟩ ⟨Nat.zero_le _, Nat.zero_le _⟩ hl rfl (Nat.le_of_ble_eq_true rfl) dX7_thingAt_1 (fun H locs hP hD hS => ?_)
  refine lv_iconst (v := (0 : Int32)) (pc := 4) hx hb dX7_thingAt_4 (by decide) ?_
  refine lv_istore_n (pc := 5) (lv' := [(3, .int (0 : Int32)), (0, .ref (ad 0)), (1, .int a0), (2, .int a1)]) hx hb dX7_thingAt_5 rfl hl (by decide) rfl (fun ls hl => ?_)
  obtain ⟨o8, h_o8, h⟩ := ob h
  refine l_Mod_thingAt_L6 C0 F ad mthr mnow mold mols msav miss minp mlen mat v1.1 v1.2.1 v1.2.2 mkep mkee mwor mnum mmet a0 a1 F (0 : Int32) _ h_o8 H locs ls hP hD hS (lv_sub hl [1, 2, 3, 0] rfl) (fun o8x H locs ls eo hP hD hS hl => ?_) (fun q_o H locs pcR ls eo hP hD hS hdR => ?_)
  · subst o8
    have h := se_r h
    refine lv_iconst (v := (0 : Int32)) (pc := 44) hx hb dX7_thingAt_44 (by decide) ?_
    refine lv_istore_n (pc := 45) (lv' := [(3, .int (0 : Int32)), (0, .ref (ad 0)), (1, .int a0), (2, .int a1)]) hx hb dX7_thingAt_45 rfl hl (by decide) rfl (fun ls hl => ?_)
    obtain ⟨o19, h_o19, h⟩ := ob h
    refine l_Mod_thingAt_L46 C0 F ad mthr mnow mold mols msav miss minp mlen mat v1.1 v1.2.1 v1.2.2 mkep mkee mwor mnum mmet a0 a1 F (0 : Int32) _ h_o19 H locs ls hP hD hS (lv_sub hl [1, 2, 3, 0] rfl) (fun o19x H locs ls eo hP hD hS hl => ?_) (fun q_o H locs pcR ls eo hP hD hS hdR => ?_)
    · subst o19
      have h := se_r h
      refine lv_iconst (v := (0 : Int32)) (pc := 114) hx hb dX7_thingAt_114 (by decide) ?_
      refine lv_istore_n (pc := 115) (lv' := [(3, .int (0 : Int32)), (0, .ref (ad 0)), (1, .int a0), (2, .int a1)]) hx hb dX7_thingAt_115 rfl hl (by decide) rfl (fun ls hl => ?_)
      obtain ⟨o23, h_o23, h⟩ := ob h
      refine l_Mod_thingAt_L116 C0 F ad mthr mnow mold mols msav miss minp mlen mat v1.1 v1.2.1 v1.2.2 mkep mkee mwor mnum mmet a0 a1 F (0 : Int32) _ h_o23 H locs ls hP hD hS (lv_sub hl [1, 2, 3, 0] rfl) (fun o23x H locs ls eo hP hD hS hl => ?_) (fun q_o H locs pcR ls eo hP hD hS hdR => ?_)
      · subst o23
        have h := se_r h
        refine lv_iconst (v := (0 : Int32)) (pc := 146) hx hb dX7_thingAt_146 (by decide) ?_
        obtain rfl := Option.some.inj h
        exact W.iret hx hb hr (fun t ht hW => ⟨⟨rfl, by rw [ht]; exact hP⟩, hS.F ht⟩) hS.2.2 dX7_thingAt_147 hlk
      · subst o23
        have h := se_l h
        obtain rfl := Option.some.inj h
        exact W.iret hx hb hr (fun t ht hW => ⟨⟨rfl, by rw [ht]; exact hP⟩, hS.F ht⟩) hS.2.2 hdR hlk
    · subst o19
      have h := se_l h
      obtain rfl := Option.some.inj h
      exact W.iret hx hb hr (fun t ht hW => ⟨⟨rfl, by rw [ht]; exact hP⟩, hS.F ht⟩) hS.2.2 hdR hlk
  · subst o8
    have h := se_l h
    obtain rfl := Option.some.inj h
    exact W.iret hx hb hr (fun t ht hW => ⟨⟨rfl, by rw [ht]; exact hP⟩, hS.F ht⟩) hS.2.2 hdR hlk
set_option maxHeartbeats 4000000 in
set_option maxRecDepth 100000 in
theorem c_Mod_kindAt (l : Launch) (K : KT) (ad : Nat → Nat) (mthr : Int32) (mnow : Nat → Int32) (mold : Nat → Int32) (mols : Int32) (msav : Nat → Int32) (miss : Bool) (minp : Nat → Int32) (mlen : Int32) (mat : Int32) (medg : Nat → Int32) (mcor : Nat → Int32) (mtri : Int32) (mkep : Nat → Int32) (mkee : Nat → Int32) (mwor : Nat → Int32) (mnum : Nat → Int32) (mmet : Nat → Int32) (a0 : Int32) (a1 : Int32) (F : Nat) {o : Int32 × Int32 × (Nat → Int32) × (Nat → Int32) × Int32} (h : s_Mod_kindAt F mnow medg mcor mtri a0 a1 = some o) : Wr l K 8 yX7_kindAt cX7_kindAt 3 (some .int) [.ref (ad 0), .int a0, .int a1] (wMod K ad mthr mnow mold mols msav miss minp mlen mat medg mcor mtri mkep mkee mwor mnum mmet) (some (.int o.1)) (wMod K ad o.2.1 mnow mold mols msav miss minp mlen mat o.2.2.1 o.2.2.2.1 o.2.2.2.2 mkep mkee mwor mnum mmet) := by
  refine Wr.of (by decide +kernel) (Nat.le_of_ble_eq_true rfl) ?_
  unfold s_Mod_kindAt at h
  intro p e s m below meth c hx hb hr hml hown hts hlk H locs hP hG hD hS ls hl
  have C0 : Ctx p m c cX7_kindAt 3 s (Array.mk [.ref (ad 0), .int a0, .int a1]) RX7 K meth (some .int) := ⟨hx, hb, hml, hown, hts, hG, hr, hlk⟩
  have hl : lv_has ls 3 [(0, .ref (ad 0)), (1, .int a0), (2, .int a1)] := hl
  refine lv_aload_n (pc := 0) hx hb dX7_kindAt_0 rfl (lv_at hl 0 rfl) ?_
  refine lv_iconst (v := (0 : Int32)) (pc := 1) hx hb dX7_kindAt_1 (by decide) ?_
  refine va_put (D := K.1) (ci := 7) (v := .int (0 : Int32)) (ty := .int) (C := RX7) (T := TX7) (N := 17) (pc := 2) hx hb hts inT7 tyX7 tyX7_ok nmX7 hown hG.1 hP hD hS 0 rfl rfl 0 (by decide) (hts _ qf_Mod_44) (fun _ h9 => h9) rfl (by decide +kernel) rfl rfl (Nat.le_of_ble_eq_true rfl) dX7_kindAt_2 (fun H locs hP hD hS => ?_)
  have hP : va_P K.1 vC (wMod K ad (0 : Int32) mnow mold mols msav miss minp mlen mat medg mcor mtri mkep mkee mwor mnum mmet) H := hP
  have hD : va_D _ (wMod K ad (0 : Int32) mnow mold mols msav miss minp mlen mat medg mcor mtri mkep mkee mwor mnum mmet) := hD
  refine lv_iload_n (pc := 5) hx hb dX7_kindAt_5 rfl (lv_at hl 1 rfl) ?_
  refine lv_iload_n (pc := 6) hx hb dX7_kindAt_6 rfl (lv_at hl 2 rfl) ?_
  refine rdS (pc := 7) (As := [.int a0, .int a1]) (rest := []) hx hb hml hown hts hG (c_Mod_isPlace l K a0 a1) g_Mod_153 hd_Mod_isPlace rfl ⟨Nat.le_of_ble_eq_true rfl, Nat.le_of_ble_eq_true rfl⟩ ⟨Nat.zero_le _, Nat.zero_le _⟩ hl rfl (Nat.le_of_ble_eq_true rfl) dX7_kindAt_7 ?_
  refine lv_if_eq (tgt := 26) (pc := 10) hx hb dX7_kindAt_10 (by decide) (fun c1 => ?_) (fun c1 => ?_)
  · have h := it_t c1 h
    refine lv_aload_n (pc := 26) hx hb dX7_kindAt_26 rfl (lv_at hl 0 rfl) ?_
    refine lv_iconst (v := (1 : Int32)) (pc := 27) hx hb dX7_kindAt_27 (by decide) ?_
    refine wrVi (pc := 28) (As := [.int (1 : Int32)]) (rest := []) (ws2 := wMod K ad ((s_Mod_raises (1 : Int32)).2) mnow mold mols msav miss minp mlen mat medg mcor mtri mkep mkee mwor mnum mmet) (as9 := [ad 0, ad 1, ad 2, ad 3, ad 4, ad 5, ad 6, ad 7, ad 8, ad 9, ad 10, ad 11]) hx hb hml hown hts hG hP hD hS (c_Mod_raises l K ad (0 : Int32) mnow mold mols msav miss minp mlen mat medg mcor mtri mkep mkee mwor mnum mmet (1 : Int32)) [0, 1, 2, 3, 4, 5, 6, 7, 8, 9, 10, 11] rfl rfl rfl rfl [.inl 0, .inl 1, .inl 2, .inl 3, .inl 4, .inl 5, .inl 6, .inl 7, .inl 8, .inl 9, .inl 10, .inl 11] (by decide +kernel) rfl (q0 := 0) rfl (ci := 7) rfl g_Mod_172 hd_Mod_raises rfl ⟨Nat.le_of_ble_eq_true rfl, Nat.le_of_ble_eq_true rfl⟩ ⟨Nat.zero_le _, Nat.zero_le _⟩ hl rfl (Nat.le_of_ble_eq_true rfl) dX7_kindAt_28 (fun H locs hP hD hS => ?_)
    obtain rfl := Option.some.inj h
    exact W.iret hx hb hr (fun t ht hW => ⟨⟨rfl, by rw [ht]; exact hP⟩, hS.F ht⟩) hS.2.2 dX7_kindAt_31 hlk
  · have h := it_f c1 h
    refine lv_aload_n (pc := 13) hx hb dX7_kindAt_13 rfl (lv_at hl 0 rfl) ?_
    refine lv_iload_n (pc := 14) hx hb dX7_kindAt_14 rfl (lv_at hl 1 rfl) ?_
    refine lv_iload_n (pc := 15) hx hb dX7_kindAt_15 rfl (lv_at hl 2 rfl) ?_
    obtain ⟨v2, h_v2, h⟩ := ob h
    refine wrVi (pc := 16) (As := [.int a0, .int a1]) (rest := []) (ws2 := wMod K ad (0 : Int32) mnow mold mols msav miss minp mlen mat v2.2.1 v2.2.2.1 v2.2.2.2 mkep mkee mwor mnum mmet) (as9 := [ad 0, ad 1, ad 2, ad 3, ad 4, ad 5, ad 6, ad 7, ad 8, ad 9, ad 10, ad 11]) hx hb hml hown hts hG hP hD hS (c_Mod_thingAt l K ad (0 : Int32) mnow mold mols msav miss minp mlen mat medg mcor mtri mkep mkee mwor mnum mmet a0 a1 F h_v2) [0, 1, 2, 3, 4, 5, 6, 7, 8, 9, 10, 11] rfl rfl rfl rfl [.inl 0, .inl 1, .inl 2, .inl 3, .inl 4, .inl 5, .inl 6, .inl 7, .inl 8, .inl 9, .inl 10, .inl 11] (by decide +kernel) rfl (q0 := 0) rfl (ci := 7) rfl g_Mod_253 hd_Mod_thingAt rfl ⟨Nat.le_of_ble_eq_true rfl, Nat.le_of_ble_eq_true rfl⟩ ⟨Nat.zero_le _, Nat.zero_le _⟩ hl rfl (Nat.le_of_ble_eq_true rfl) dX7_kindAt_16 (fun H locs hP hD hS => ?_)
    refine lv_sipush (v := (10000 : Int32)) (pc := 19) hx hb dX7_kindAt_19 (by decide) ?_
    refine lv_idiv (pc := 22) hx hb dX7_kindAt_22 (by decide) ?_
    refine lv_goto (tgt := 31) (pc := 23) hx hb dX7_kindAt_23 (by decide) ?_
    obtain rfl := Option.some.inj h
    exact W.iret hx hb hr (fun t ht hW => ⟨⟨rfl, by rw [ht]; exact hP⟩, hS.F ht⟩) hS.2.2 dX7_kindAt_31 hlk
set_option maxHeartbeats 4000000 in
set_option maxRecDepth 100000 in
theorem c_Mod_numberAt (l : Launch) (K : KT) (ad : Nat → Nat) (mthr : Int32) (mnow : Nat → Int32) (mold : Nat → Int32) (mols : Int32) (msav : Nat → Int32) (miss : Bool) (minp : Nat → Int32) (mlen : Int32) (mat : Int32) (medg : Nat → Int32) (mcor : Nat → Int32) (mtri : Int32) (mkep : Nat → Int32) (mkee : Nat → Int32) (mwor : Nat → Int32) (mnum : Nat → Int32) (mmet : Nat → Int32) (a0 : Int32) (a1 : Int32) (F : Nat) {o : Int32 × Int32 × (Nat → Int32) × (Nat → Int32) × Int32} (h : s_Mod_numberAt F mnow medg mcor mtri a0 a1 = some o) : Wr l K 8 yX7_numberAt cX7_numberAt 4 (some .int) [.ref (ad 0), .int a0, .int a1] (wMod K ad mthr mnow mold mols msav miss minp mlen mat medg mcor mtri mkep mkee mwor mnum mmet) (some (.int o.1)) (wMod K ad o.2.1 mnow mold mols msav miss minp mlen mat o.2.2.1 o.2.2.2.1 o.2.2.2.2 mkep mkee mwor mnum mmet) := by
  refine Wr.of (by decide +kernel) (Nat.le_of_ble_eq_true rfl) ?_
  unfold s_Mod_numberAt at h
  intro p e s m below meth c hx hb hr hml hown hts hlk H locs hP hG hD hS ls hl
  have C0 : Ctx p m c cX7_numberAt 4 s (Array.mk [.ref (ad 0), .int a0, .int a1]) RX7 K meth (some .int) := ⟨hx, hb, hml, hown, hts, hG, hr, hlk⟩
  have hl : lv_has ls 4 [(0, .ref (ad 0)), (1, .int a0), (2, .int a1)] := hl
  refine lv_aload_n (pc := 0) hx hb dX7_numberAt_0 rfl (lv_at hl 0 rfl) ?_
  refine lv_iconst (v := (0 : Int32)) (pc := 1) hx hb dX7_numberAt_1 (by decide) ?_
  refine va_put (D := K.1) (ci := 7) (v := .int (0 : Int32)) (ty := .int) (C := RX7) (T := TX7) (N := 17) (pc := 2) hx hb hts inT7 tyX7 tyX7_ok nmX7 hown hG.1 hP hD hS 0 rfl rfl 0 (by decide) (hts _ qf_Mod_44) (fun _ h9 => h9) rfl (by decide +kernel) rfl rfl (Nat.le_of_ble_eq_true rfl) dX7_numberAt_2 (fun H locs hP hD hS => ?_)
  have hP : va_P K.1 vC (wMod K ad (0 : Int32) mnow mold mols msav miss minp mlen mat medg mcor mtri mkep mkee mwor mnum mmet) H := hP
  have hD : va_D _ (wMod K ad (0 : Int32) mnow mold mols msav miss minp mlen mat medg mcor mtri mkep mkee mwor mnum mmet) := hD
  refine lv_iload_n (pc := 5) hx hb dX7_numberAt_5 rfl (lv_at hl 1 rfl) ?_
  refine lv_iload_n (pc := 6) hx hb dX7_numberAt_6 rfl (lv_at hl 2 rfl) ?_
  refine rdS (pc := 7) (As := [.int a0, .int a1]) (rest := []) hx hb hml hown hts hG (c_Mod_isPlace l K a0 a1) g_Mod_153 hd_Mod_isPlace rfl ⟨Nat.le_of_ble_eq_true rfl, Nat.le_of_ble_eq_true rfl⟩ ⟨Nat.zero_le _, Nat.zero_le _⟩ hl rfl (Nat.le_of_ble_eq_true rfl) dX7_numberAt_7 ?_
  refine lv_if_ne (tgt := 19) (pc := 10) hx hb dX7_numberAt_10 (by decide) (fun c1 => ?_) (fun c1 => ?_)
  · have h := it_f c1 h
    refine lv_aload_n (pc := 19) hx hb dX7_numberAt_19 rfl (lv_at hl 0 rfl) ?_
    refine lv_iload_n (pc := 20) hx hb dX7_numberAt_20 rfl (lv_at hl 1 rfl) ?_
    refine lv_iload_n (pc := 21) hx hb dX7_numberAt_21 rfl (lv_at hl 2 rfl) ?_
    obtain ⟨v2, h_v2, h⟩ := ob h
    refine wrVi (pc := 22) (As := [.int a0, .int a1]) (rest := []) (ws2 := wMod K ad (0 : Int32) mnow mold mols msav miss minp mlen mat v2.2.1 v2.2.2.1 v2.2.2.2 mkep mkee mwor mnum mmet) (as9 := [ad 0, ad 1, ad 2, ad 3, ad 4, ad 5, ad 6, ad 7, ad 8, ad 9, ad 10, ad 11]) hx hb hml hown hts hG hP hD hS (c_Mod_thingAt l K ad (0 : Int32) mnow mold mols msav miss minp mlen mat medg mcor mtri mkep mkee mwor mnum mmet a0 a1 F h_v2) [0, 1, 2, 3, 4, 5, 6, 7, 8, 9, 10, 11] rfl rfl rfl rfl [.inl 0, .inl 1, .inl 2, .inl 3, .inl 4, .inl 5, .inl 6, .inl 7, .inl 8, .inl 9, .inl 10, .inl 11] (by decide +kernel) rfl (q0 := 0) rfl (ci := 7) rfl g_Mod_253 hd_Mod_thingAt rfl ⟨Nat.le_of_ble_eq_true rfl, Nat.le_of_ble_eq_true rfl⟩ ⟨Nat.zero_le _, Nat.zero_le _⟩ hl rfl (Nat.le_of_ble_eq_true rfl) dX7_numberAt_22 (fun H locs hP hD hS => ?_)
    refine lv_istore_n (pc := 25) (lv' := [(3, .int v2.1), (0, .ref (ad 0)), (1, .int a0), (2, .int a1)]) hx hb dX7_numberAt_25 rfl hl (by decide) rfl (fun ls hl => ?_)
    refine lv_iload_n (pc := 26) hx hb dX7_numberAt_26 rfl (lv_at hl 0 rfl) ?_
    refine lv_if_ne (tgt := 38) (pc := 27) hx hb dX7_numberAt_27 (by decide) (fun c3 => ?_) (fun c3 => ?_)
    · have h := it_f c3 h
      refine lv_iload_n (pc := 38) hx hb dX7_numberAt_38 rfl (lv_at hl 0 rfl) ?_
      refine lv_sipush (v := (10000 : Int32)) (pc := 39) hx hb dX7_numberAt_39 (by decide) ?_
      refine lv_irem (pc := 42) hx hb dX7_numberAt_42 (by decide) ?_
      obtain rfl := Option.some.inj h
      exact W.iret hx hb hr (fun t ht hW => ⟨⟨rfl, by rw [ht]; exact hP⟩, hS.F ht⟩) hS.2.2 dX7_numberAt_43 hlk
    · have h := it_t c3 h
      refine lv_aload_n (pc := 30) hx hb dX7_numberAt_30 rfl (lv_at hl 1 rfl) ?_
      refine lv_iconst (v := (2 : Int32)) (pc := 31) hx hb dX7_numberAt_31 (by decide) ?_
      refine wrVi (pc := 32) (As := [.int (2 : Int32)]) (rest := []) (ws2 := wMod K ad ((s_Mod_raises (2 : Int32)).2) mnow mold mols msav miss minp mlen mat v2.2.1 v2.2.2.1 v2.2.2.2 mkep mkee mwor mnum mmet) (as9 := [ad 0, ad 1, ad 2, ad 3, ad 4, ad 5, ad 6, ad 7, ad 8, ad 9, ad 10, ad 11]) hx hb hml hown hts hG hP hD hS (c_Mod_raises l K ad (0 : Int32) mnow mold mols msav miss minp mlen mat v2.2.1 v2.2.2.1 v2.2.2.2 mkep mkee mwor mnum mmet (2 : Int32)) [0, 1, 2, 3, 4, 5, 6, 7, 8, 9, 10, 11] rfl rfl rfl rfl [.inl 0, .inl 1, .inl 2, .inl 3, .inl 4, .inl 5, .inl 6, .inl 7, .inl 8, .inl 9, .inl 10, .inl 11] (by decide +kernel) rfl (q0 := 0) rfl (ci := 7) rfl g_Mod_172 hd_Mod_raises rfl ⟨Nat.le_of_ble_eq_true rfl, Nat.le_of_ble_eq_true rfl⟩ ⟨Nat.zero_le _, Nat.zero_le _⟩ hl rfl (Nat.le_of_ble_eq_true rfl) dX7_numberAt_32 (fun H locs hP hD hS => ?_)
      refine lv_goto (tgt := 43) (pc := 35) hx hb dX7_numberAt_35 (by decide) ?_
      obtain rfl := Option.some.inj h
      exact W.iret hx hb hr (fun t ht hW => ⟨⟨rfl, by rw [ht]; exact hP⟩, hS.F ht⟩) hS.2.2 dX7_numberAt_43 hlk
  · have h := it_t c1 h
    refine lv_aload_n (pc := 13) hx hb dX7_numberAt_13 rfl (lv_at hl 0 rfl) ?_
    refine lv_iconst (v := (1 : Int32)) (pc := 14) hx hb dX7_numberAt_14 (by decide) ?_
    refine wrVi (pc := 15) (As := [.int (1 : Int32)]) (rest := []) (ws2 := wMod K ad ((s_Mod_raises (1 : Int32)).2) mnow mold mols msav miss minp mlen mat medg mcor mtri mkep mkee mwor mnum mmet) (as9 := [ad 0, ad 1, ad 2, ad 3, ad 4, ad 5, ad 6, ad 7, ad 8, ad 9, ad 10, ad 11]) hx hb hml hown hts hG hP hD hS (c_Mod_raises l K ad (0 : Int32) mnow mold mols msav miss minp mlen mat medg mcor mtri mkep mkee mwor mnum mmet (1 : Int32)) [0, 1, 2, 3, 4, 5, 6, 7, 8, 9, 10, 11] rfl rfl rfl rfl [.inl 0, .inl 1, .inl 2, .inl 3, .inl 4, .inl 5, .inl 6, .inl 7, .inl 8, .inl 9, .inl 10, .inl 11] (by decide +kernel) rfl (q0 := 0) rfl (ci := 7) rfl g_Mod_172 hd_Mod_raises rfl ⟨Nat.le_of_ble_eq_true rfl, Nat.le_of_ble_eq_true rfl⟩ ⟨Nat.zero_le _, Nat.zero_le _⟩ hl rfl (Nat.le_of_ble_eq_true rfl) dX7_numberAt_15 (fun H locs hP hD hS => ?_)
    obtain rfl := Option.some.inj h
    exact W.iret hx hb hr (fun t ht hW => ⟨⟨rfl, by rw [ht]; exact hP⟩, hS.F ht⟩) hS.2.2 dX7_numberAt_18 hlk
set_option maxHeartbeats 4000000 in
set_option maxRecDepth 100000 in
theorem l_Mod_walk_L39 {p : Program} {l : Launch} {e : Env} {s : State} {m : MethodId} {args : Array Value} {below : List Frame} {meth : Method} {c : Code} {Q : State → Prop} {K : KT} {A : Nat → Prop} (C0 : Ctx p m c cX7_walk 9 s args RX7 K meth (some .int)) (F : Nat) (ad : Nat → Nat) (mthr : Int32) (mnow : Nat → Int32) (mold : Nat → Int32) (mols : Int32) (msav : Nat → Int32) (miss : Bool) (minp : Nat → Int32) (mlen : Int32) (mat : Int32) (medg : Nat → Int32) (mcor : Nat → Int32) (mtri : Int32) (mkep : Nat → Int32) (mkee : Nat → Int32) (mwor : Nat → Int32) (mnum : Nat → Int32) (mmet : Nat → Int32) (x2 : Int32) (x3 : Int32) (x4 : Bool)  : ∀ (n : Nat) (x5 : Int32) (x6 : Int32) (out : Int32 × Int32 × (Nat → Int32) × (Nat → Int32) × Int32), s_Mod_walk_L39 F mthr mnow medg mcor mtri x2 x3 x4 n x5 x6 = some out → ∀ (H : Heap) (locs : List Loc) (ls : Array Slot), va_P K.1 vC (wMod K ad mthr mnow mold mols msav miss minp mlen mat medg mcor mtri mkep mkee mwor mnum mmet) H → va_D A (wMod K ad mthr mnow mold mols msav miss minp mlen mat medg mcor mtri mkep mkee mwor mnum mmet) → va_S A s.heap H locs → lv_has ls 9 [(0, .ref (ad 0)), (2, .int x2), (3, .int x3), (4, .int (bI x4)), (5, .int x5), (6, .int x6)] → (∀ (o : Int32 × Int32 × (Nat → Int32) × (Nat → Int32) × Int32) (H : Heap) (locs : List Loc) (pcR : Nat) (ls : Array Slot), out = o → va_P K.1 vC (wMod K ad o.2.1 mnow mold mols msav miss minp mlen mat o.2.2.1 o.2.2.2.1 o.2.2.2.2 mkep mkee mwor mnum mmet) H → va_D A (wMod K ad o.2.1 mnow mold mols msav miss minp mlen mat o.2.2.1 o.2.2.2.1 o.2.2.2.2 mkep mkee mwor mnum mmet) → va_S A s.heap H locs → decode cX7_walk pcR = .ok (.ireturn, 1) → W p l e (rmL 8) s m args below meth c H locs 0 0 Q (F0 m pcR ls [.int o.1])) → W p l e (rmL 8) s m args below meth c H locs 0 0 Q (F0 m 39 ls []) := by
  obtain ⟨hx, hb, hml, hown, hts, hG, hr, hlk⟩ := id C0
  intro n
  induction n with
  | zero =>
    intro x5 x6 out h
    cases h
  | succ n ih =>
    intro x5 x6 out h H locs ls hP hD hS hl Kr
    rw [s_Mod_walk_L39.eq_2] at h
    refine lv_aload_n (pc := 39) hx hb dX7_walk_39 rfl (lv_at hl 0 rfl) ?_
    refine lv_iload (pc := 40) hx hb dX7_walk_40 (lv_at hl 4 rfl) ?_
    refine lv_iload_n (pc := 42) hx hb dX7_walk_42 rfl (lv_at hl 1 rfl) ?_
    refine lv_iload_n (pc := 43) hx hb dX7_walk_43 rfl (lv_at hl 2 rfl) ?_
    obtain ⟨v4, h_v4, h⟩ := ob h
    refine rdV (pc := 44) (As := [.int x5, .int x2, .int x3]) (rest := []) hx hb hml hown hts hG hP (c_Mod_away l K ad mthr mnow mold mols msav miss minp mlen mat medg mcor mtri mkep mkee mwor mnum mmet x5 x2 x3 F h_v4) [0, 1, 2, 3, 4, 5, 6, 7, 8, 9, 10, 11] rfl (q0 := 0) rfl (ci := 7) rfl g_Mod_250 hd_Mod_away rfl ⟨Nat.le_of_ble_eq_true rfl, Nat.le_of_ble_eq_true rfl⟩ ⟨Nat.zero_le _, Nat.zero_le _⟩ hl rfl (Nat.le_of_ble_eq_true rfl) dX7_walk_44 ?_
    refine lv_istore (pc := 47) (lv' := [(7, .int v4), (0, .ref (ad 0)), (2, .int x2), (3, .int x3), (4, .int (bI x4)), (5, .int x5), (6, .int x6)]) hx hb dX7_walk_47 hl (by decide) rfl (fun ls hl => ?_)
    refine lv_iload (pc := 49) hx hb dX7_walk_49 (lv_at hl 0 rfl) ?_
    refine lv_if_ge (tgt := 67) (pc := 51) hx hb dX7_walk_51 (by decide) (fun c5 => ?_) (fun c5 => ?_)
    · have h := it_t c5 h
      refine lv_aload_n (pc := 67) hx hb dX7_walk_67 rfl (lv_at hl 1 rfl) ?_
      refine lv_iload (pc := 68) hx hb dX7_walk_68 (lv_at hl 5 rfl) ?_
      refine lv_iload (pc := 70) hx hb dX7_walk_70 (lv_at hl 0 rfl) ?_
      obtain ⟨v6, h_v6, h⟩ := ob h
      refine rdV (pc := 72) (As := [.int x5, .int v4]) (rest := []) hx hb hml hown hts hG hP (c_Mod_beyondOf l K ad mthr mnow mold mols msav miss minp mlen mat medg mcor mtri mkep mkee mwor mnum mmet x5 v4 F h_v6) [0, 1, 2, 3, 4, 5, 6, 7, 8, 9, 10, 11] rfl (q0 := 0) rfl (ci := 7) rfl g_Mod_219 hd_Mod_beyondOf rfl ⟨Nat.le_of_ble_eq_true rfl, Nat.le_of_ble_eq_true rfl⟩ ⟨Nat.zero_le _, Nat.zero_le _⟩ hl rfl (Nat.le_of_ble_eq_true rfl) dX7_walk_72 ?_
      refine lv_istore (pc := 75) (lv' := [(8, .int v6), (7, .int v4), (0, .ref (ad 0)), (2, .int x2), (3, .int x3), (4, .int (bI x4)), (5, .int x5), (6, .int x6)]) hx hb dX7_walk_75 hl (by decide) rfl (fun ls hl => ?_)
      refine lv_iload (pc := 77) hx hb dX7_walk_77 (lv_at hl 0 rfl) ?_
      refine lv_if_lt (tgt := 89) (pc := 79) hx hb dX7_walk_79 (by decide) (fun c7 => ?_) (fun c7 => ?_)
      · have h := it_t c7 h
        refine lv_iload (pc := 89) hx hb dX7_walk_89 (lv_at hl 5 rfl) ?_
        refine lv_if_eq (tgt := 98) (pc := 91) hx hb dX7_walk_91 (by decide) (fun c8 => ?_) (fun c8 => ?_)
        · have h := it_t c8 h
          refine lv_iload (pc := 98) hx hb dX7_walk_98 (lv_at hl 7 rfl) ?_
          obtain rfl := Option.some.inj h
          exact Kr _ _ _ _ _ rfl hP hD hS dX7_walk_100
        · have h := it_f c8 h
          refine lv_iconst (v := (-1 : Int32)) (pc := 94) hx hb dX7_walk_94 (by decide) ?_
          refine lv_goto (tgt := 100) (pc := 95) hx hb dX7_walk_95 (by decide) ?_
          obtain rfl := Option.some.inj h
          exact Kr _ _ _ _ _ rfl hP hD hS dX7_walk_100
      · have h := it_f c7 h
        refine lv_iload (pc := 82) hx hb dX7_walk_82 (lv_at hl 7 rfl) ?_
        refine lv_bipush (v := (50 : Int32)) (pc := 84) hx hb dX7_walk_84 (by decide) ?_
        refine lv_icmp_ne (tgt := 101) (pc := 86) hx hb dX7_walk_86 (by decide) (fun c9 => ?_) (fun c9 => ?_)
        · have h := it_f c9 h
          refine lv_iload (pc := 101) hx hb dX7_walk_101 (lv_at hl 0 rfl) ?_
          refine lv_istore (pc := 103) (lv' := [(5, .int v6), (8, .int v6), (7, .int v4), (0, .ref (ad 0)), (2, .int x2), (3, .int x3), (4, .int (bI x4)), (6, .int x6)]) hx hb dX7_walk_103 hl (by decide) rfl (fun ls hl => ?_)
          refine lv_iinc (v := (x6 + (1 : Int32))) (pc := 105) (lv' := [(6, .int (x6 + (1 : Int32))), (5, .int v6), (8, .int v6), (7, .int v4), (0, .ref (ad 0)), (2, .int x2), (3, .int x3), (4, .int (bI x4))]) hx hb dX7_walk_105 hl (k := 7) rfl rfl (by decide) rfl (fun ls hl => ?_)
          refine lv_goto (tgt := 39) (pc := 108) hx hb dX7_walk_108 (by decide) ?_
          exact ih v6 (x6 + (1 : Int32)) out h H locs ls hP hD hS (lv_sub hl [4, 5, 6, 7, 1, 0] rfl) Kr
        · have h := it_t c9 h
          refine lv_iload (pc := 89) hx hb dX7_walk_89 (lv_at hl 5 rfl) ?_
          refine lv_if_eq (tgt := 98) (pc := 91) hx hb dX7_walk_91 (by decide) (fun c10 => ?_) (fun c10 => ?_)
          · have h := it_t c10 h
            refine lv_iload (pc := 98) hx hb dX7_walk_98 (lv_at hl 7 rfl) ?_
            obtain rfl := Option.some.inj h
            exact Kr _ _ _ _ _ rfl hP hD hS dX7_walk_100
          · have h := it_f c10 h
            refine lv_iconst (v := (-1 : Int32)) (pc := 94) hx hb dX7_walk_94 (by decide) ?_
            refine lv_goto (tgt := 100) (pc := 95) hx hb dX7_walk_95 (by decide) ?_
            obtain rfl := Option.some.inj h
            exact Kr _ _ _ _ _ rfl hP hD hS dX7_walk_100
    · have h := it_f c5 h
      refine lv_iload (pc := 54) hx hb dX7_walk_54 (lv_at hl 4 rfl) ?_
      refine lv_if_eq (tgt := 64) (pc := 56) hx hb dX7_walk_56 (by decide) (fun c11 => ?_) (fun c11 => ?_)
      · have h := it_t c11 h
        refine lv_iload (pc := 64) hx hb dX7_walk_64 (lv_at hl 6 rfl) ?_
        obtain rfl := Option.some.inj h
        exact Kr _ _ _ _ _ rfl hP hD hS dX7_walk_66
      · have h := it_f c11 h
        refine lv_iload (pc := 59) hx hb dX7_walk_59 (lv_at hl 5 rfl) ?_
        refine lv_goto (tgt := 66) (pc := 61) hx hb dX7_walk_61 (by decide) ?_
        obtain rfl := Option.some.inj h
        exact Kr _ _ _ _ _ rfl hP hD hS dX7_walk_66
set_option maxHeartbeats 4000000 in
set_option maxRecDepth 100000 in
theorem c_Mod_walk (l : Launch) (K : KT) (ad : Nat → Nat) (mthr : Int32) (mnow : Nat → Int32) (mold : Nat → Int32) (mols : Int32) (msav : Nat → Int32) (miss : Bool) (minp : Nat → Int32) (mlen : Int32) (mat : Int32) (medg : Nat → Int32) (mcor : Nat → Int32) (mtri : Int32) (mkep : Nat → Int32) (mkee : Nat → Int32) (mwor : Nat → Int32) (mnum : Nat → Int32) (mmet : Nat → Int32) (a0 : Int32) (a1 : Int32) (a2 : Int32) (a3 : Bool) (F : Nat) {o : Int32 × Int32 × (Nat → Int32) × (Nat → Int32) × Int32} (h : s_Mod_walk F mnow medg mcor a0 a1 a2 a3 = some o) : Wr l K 8 yX7_walk cX7_walk 9 (some .int) [.ref (ad 0), .int a0, .int a1, .int a2, .int (bI a3)] (wMod K ad mthr mnow mold mols msav miss minp mlen mat medg mcor mtri mkep mkee mwor mnum mmet) (some (.int o.1)) (wMod K ad o.2.1 mnow mold mols msav miss minp mlen mat o.2.2.1 o.2.2.2.1 o.2.2.2.2 mkep mkee mwor mnum mmet) := by
  refine Wr.of (by decide +kernel) (Nat.le_of_ble_eq_true rfl) ?_
  unfold s_Mod_walk at h
  intro p e s m below meth c hx hb hr hml hown hts hlk H locs hP hG hD hS ls hl
  have C0 : Ctx p m c cX7_walk 9 s (Array.mk [.ref (ad 0), .int a0, .int a1, .int a2, .int (bI a3)]) RX7 K meth (some .int) := ⟨hx, hb, hml, hown, hts, hG, hr, hlk⟩
  have hl : lv_has ls 9 [(0, .ref (ad 0)), (1, .int a0), (2, .int a1), (3, .int a2), (4, .int (bI a3))] := hl
  refine lv_aload_n (pc := 0) hx hb dX7_walk_0 rfl (lv_at hl 0 rfl) ?_
  refine lv_iconst (v := (0 : Int32)) (pc := 1) hx hb dX7_walk_1 (by decide) ?_
  refine va_put (D := K.1) (ci := 7) (v := .int (0 : Int32)) (ty := .int) (C := RX7) (T := TX7) (N := 17) (pc := 2) hx hb hts inT7 tyX7 tyX7_ok nmX7 hown hG.1 hP hD hS 0 rfl rfl 0 (by decide) (hts _ qf_Mod_44) (fun _ h9 => h9) rfl (by decide +kernel) rfl rfl (Nat.le_of_ble_eq_true rfl) dX7_walk_2 (fun H locs hP hD hS => ?_)
  have hP : va_P K.1 vC (wMod K ad (0 : Int32) mnow mold mols msav miss minp mlen mat medg mcor mtri mkep mkee mwor mnum mmet) H := hP
  have hD : va_D _ (wMod K ad (0 : Int32) mnow mold mols msav miss minp mlen mat medg mcor mtri mkep mkee mwor mnum mmet) := hD
  refine lv_aload_n (pc := 5) hx hb dX7_walk_5 rfl (lv_at hl 0 rfl) ?_
  refine lv_iload_n (pc := 6) hx hb dX7_walk_6 rfl (lv_at hl 1 rfl) ?_
  obtain ⟨v1, h_v1, h⟩ := ob h
  refine wrVi (pc := 7) (As := [.int a0]) (rest := []) (ws2 := wMod K ad (0 : Int32) mnow mold mols msav miss minp mlen mat v1.2.1 v1.2.2.1 v1.2.2.2 mkep mkee mwor mnum mmet) (as9 := [ad 0, ad 1, ad 2, ad 3, ad 4, ad 5, ad 6, ad 7, ad 8, ad 9, ad 10, ad 11]) hx hb hml hown hts hG hP hD hS (c_Mod_isTriangle l K ad (0 : Int32) mnow mold mols msav miss minp mlen mat medg mcor mtri mkep mkee mwor mnum mmet a0 F h_v1) [0, 1, 2, 3, 4, 5, 6, 7, 8, 9, 10, 11] rfl rfl rfl rfl [.inl 0, .inl 1, .inl 2, .inl 3, .inl 4, .inl 5, .inl 6, .inl 7, .inl 8, .inl 9, .inl 10, .inl 11] (by decide +kernel) rfl (q0 := 0) rfl (ci := 7) rfl g_Mod_213 hd_Mod_isTriangle rfl ⟨Nat.le_of_ble_eq_true rfl, Nat.le_of_ble_eq_true rfl⟩ ⟨Nat.zero_le _, Nat.zero_le _⟩ hl rfl (Nat.le_of_ble_eq_true rfl) dX7_walk_7 (fun H locs hP hD hS => ?_)
  refine lv_if_ne (tgt := 19) (pc := 10) hx hb dX7_walk_10 (by decide) (fun c2 => ?_) (fun c2 => ?_)
  · have h := it_f c2 h
    refine lv_iload_n (pc := 19) hx hb dX7_walk_19 rfl (lv_at hl 2 rfl) ?_
    refine lv_iload_n (pc := 20) hx hb dX7_walk_20 rfl (lv_at hl 3 rfl) ?_
    refine rdS (pc := 21) (As := [.int a1, .int a2]) (rest := []) hx hb hml hown hts hG (c_Mod_isPlace l K a1 a2) g_Mod_153 hd_Mod_isPlace rfl ⟨Nat.le_of_ble_eq_true rfl, Nat.le_of_ble_eq_true rfl⟩ ⟨Nat.zero_le _, Nat.zero_le _⟩ hl rfl (Nat.le_of_ble_eq_true rfl) dX7_walk_21 ?_
    refine lv_if_ne (tgt := 33) (pc := 24) hx hb dX7_walk_24 (by decide) (fun c3 => ?_) (fun c3 => ?_)
    · have h := it_f c3 h
      refine lv_iload_n (pc := 33) hx hb dX7_walk_33 rfl (lv_at hl 1 rfl) ?_
      refine lv_istore (pc := 34) (lv' := [(5, .int a0), (0, .ref (ad 0)), (1, .int a0), (2, .int a1), (3, .int a2), (4, .int (bI a3))]) hx hb dX7_walk_34 hl (by decide) rfl (fun ls hl => ?_)
      refine lv_iconst (v := (0 : Int32)) (pc := 36) hx hb dX7_walk_36 (by decide) ?_
      refine lv_istore (pc := 37) (lv' := [(6, .int (0 : Int32)), (5, .int a0), (0, .ref (ad 0)), (1, .int a0), (2, .int a1), (3, .int a2), (4, .int (bI a3))]) hx hb dX7_walk_37 hl (by decide) rfl (fun ls hl => ?_)
      obtain ⟨o12, h_o12, h⟩ := ob h
      refine l_Mod_walk_L39 C0 F ad (0 : Int32) mnow mold mols msav miss minp mlen mat v1.2.1 v1.2.2.1 v1.2.2.2 mkep mkee mwor mnum mmet a1 a2 a3 F a0 (0 : Int32) _ h_o12 H locs ls hP hD hS (lv_sub hl [2, 4, 5, 6, 1, 0] rfl) (fun q_o H locs pcR ls eo hP hD hS hdR => ?_)
      subst o12
      obtain rfl := Option.some.inj h
      exact W.iret hx hb hr (fun t ht hW => ⟨⟨rfl, by rw [ht]; exact hP⟩, hS.F ht⟩) hS.2.2 hdR hlk
    · have h := it_t c3 h
      refine lv_aload_n (pc := 27) hx hb dX7_walk_27 rfl (lv_at hl 0 rfl) ?_
      refine lv_iconst (v := (2 : Int32)) (pc := 28) hx hb dX7_walk_28 (by decide) ?_
      refine wrVi (pc := 29) (As := [.int (2 : Int32)]) (rest := []) (ws2 := wMod K ad ((s_Mod_raises (2 : Int32)).2) mnow mold mols msav miss minp mlen mat v1.2.1 v1.2.2.1 v1.2.2.2 mkep mkee mwor mnum mmet) (as9 := [ad 0, ad 1, ad 2, ad 3, ad 4, ad 5, ad 6, ad 7, ad 8, ad 9, ad 10, ad 11]) hx hb hml hown hts hG hP hD hS (c_Mod_raises l K ad (0 : Int32) mnow mold mols msav miss minp mlen mat v1.2.1 v1.2.2.1 v1.2.2.2 mkep mkee mwor mnum mmet (2 : Int32)) [0, 1, 2, 3, 4, 5, 6, 7, 8, 9, 10, 11] rfl rfl rfl rfl [.inl 0, .inl 1, .inl 2, .inl 3, .inl 4, .inl 5, .inl 6, .inl 7, .inl 8, .inl 9, .inl 10, .inl 11] (by decide +kernel) rfl (q0 := 0) rfl (ci := 7) rfl g_Mod_172 hd_Mod_raises rfl ⟨Nat.le_of_ble_eq_true rfl, Nat.le_of_ble_eq_true rfl⟩ ⟨Nat.zero_le _, Nat.zero_le _⟩ hl rfl (Nat.le_of_ble_eq_true rfl) dX7_walk_29 (fun H locs hP hD hS => ?_)
      obtain rfl := Option.some.inj h
      exact W.iret hx hb hr (fun t ht hW => ⟨⟨rfl, by rw [ht]; exact hP⟩, hS.F ht⟩) hS.2.2 dX7_walk_32 hlk
  · have h := it_t c2 h
    refine lv_aload_n (pc := 13) hx hb dX7_walk_13 rfl (lv_at hl 0 rfl) ?_
    refine lv_iconst (v := (1 : Int32)) (pc := 14) hx hb dX7_walk_14 (by decide) ?_
    refine wrVi (pc := 15) (As := [.int (1 : Int32)]) (rest := []) (ws2 := wMod K ad ((s_Mod_raises (1 : Int32)).2) mnow mold mols msav miss minp mlen mat v1.2.1 v1.2.2.1 v1.2.2.2 mkep mkee mwor mnum mmet) (as9 := [ad 0, ad 1, ad 2, ad 3, ad 4, ad 5, ad 6, ad 7, ad 8, ad 9, ad 10, ad 11]) hx hb hml hown hts hG hP hD hS (c_Mod_raises l K ad (0 : Int32) mnow mold mols msav miss minp mlen mat v1.2.1 v1.2.2.1 v1.2.2.2 mkep mkee mwor mnum mmet (1 : Int32)) [0, 1, 2, 3, 4, 5, 6, 7, 8, 9, 10, 11] rfl rfl rfl rfl [.inl 0, .inl 1, .inl 2, .inl 3, .inl 4, .inl 5, .inl 6, .inl 7, .inl 8, .inl 9, .inl 10, .inl 11] (by decide +kernel) rfl (q0 := 0) rfl (ci := 7) rfl g_Mod_172 hd_Mod_raises rfl ⟨Nat.le_of_ble_eq_true rfl, Nat.le_of_ble_eq_true rfl⟩ ⟨Nat.zero_le _, Nat.zero_le _⟩ hl rfl (Nat.le_of_ble_eq_true rfl) dX7_walk_15 (fun H locs hP hD hS => ?_)
    obtain rfl := Option.some.inj h
    exact W.iret hx hb hr (fun t ht hW => ⟨⟨rfl, by rw [ht]; exact hP⟩, hS.F ht⟩) hS.2.2 dX7_walk_18 hlk
set_option maxHeartbeats 4000000 in
set_option maxRecDepth 100000 in
theorem l_Mod_keeps_L2 {p : Program} {l : Launch} {e : Env} {s : State} {m : MethodId} {args : Array Value} {below : List Frame} {meth : Method} {c : Code} {Q : State → Prop} {K : KT} {A : Nat → Prop} (C0 : Ctx p m c cX7_keeps 2 s args RX7 K meth none) (F : Nat) (ad : Nat → Nat) (mthr : Int32) (mnow : Nat → Int32) (mold : Nat → Int32) (mols : Int32) (msav : Nat → Int32) (miss : Bool) (minp : Nat → Int32) (mlen : Int32) (mat : Int32) (medg : Nat → Int32) (mcor : Nat → Int32) (mtri : Int32) (mkep : Nat → Int32) (mkee : Nat → Int32) (mnum : Nat → Int32) (mmet : Nat → Int32)  : ∀ (n : Nat) (x1 : Int32) (mwor : Nat → Int32) (out : Int32 × (Nat → Int32)), s_Mod_keeps_L2 mnow n x1 mwor = some out → ∀ (H : Heap) (locs : List Loc) (ls : Array Slot), va_P K.1 vC (wMod K ad mthr mnow mold mols msav miss minp mlen mat medg mcor mtri mkep mkee mwor mnum mmet) H → va_D A (wMod K ad mthr mnow mold mols msav miss minp mlen mat medg mcor mtri mkep mkee mwor mnum mmet) → va_S A s.heap H locs → lv_has ls 2 [(0, .ref (ad 0)), (1, .int x1)] → (∀ (o : Int32 × (Nat → Int32)) (H : Heap) (locs : List Loc) (ls : Array Slot), out = o → va_P K.1 vC (wMod K ad mthr mnow mold mols msav miss minp mlen mat medg mcor mtri mkep mkee o.2 mnum mmet) H → va_D A (wMod K ad mthr mnow mold mols msav miss minp mlen mat medg mcor mtri mkep mkee o.2 mnum mmet) → va_S A s.heap H locs → lv_has ls 2 [(0, .ref (ad 0)), (1, .int o.1)] → W p l e (rmL 0) s m args below meth c H locs 0 0 Q (F0 m 26 ls [])) → W p l e (rmL 0) s m args below meth c H locs 0 0 Q (F0 m 2 ls []) := by
  obtain ⟨hx, hb, hml, hown, hts, hG, hr, hlk⟩ := id C0
  intro n
  induction n with
  | zero =>
    intro x1 mwor out h
    cases h
  | succ n ih =>
    intro x1 mwor out h H locs ls hP hD hS hl Kx 
    rw [s_Mod_keeps_L2.eq_2] at h
    refine lv_iload_n (pc := 2) hx hb dX7_keeps_2 rfl (lv_at hl 1 rfl) ?_
    refine lv_bipush (v := (56 : Int32)) (pc := 3) hx hb dX7_keeps_3 (by decide) ?_
    refine lv_icmp_ge (tgt := 26) (pc := 5) hx hb dX7_keeps_5 (by decide) (fun c1 => ?_) (fun c1 => ?_)
    · have h := it_t c1 h
      obtain rfl := Option.some.inj h
      exact Kx _ H locs ls rfl hP hD hS (lv_sub hl [0, 1] rfl)
    · have h := it_f c1 h
      refine lv_aload_n (pc := 8) hx hb dX7_keeps_8 rfl (lv_at hl 0 rfl) ?_
      refine va_get (D := K.1) (ci := 7) (v := .ref (ad 9)) (C := RX7) (T := TX7) (N := 17) (pc := 9) hx hb hts inT7 hown hG.1 hP 0 rfl rfl 14 (by decide) (hts _ qf_Mod_35) (fun _ h9 => h9) rfl dX7_keeps_9 ?_
      refine lv_iload_n (pc := 12) hx hb dX7_keeps_12 rfl (lv_at hl 1 rfl) ?_
      refine lv_aload_n (pc := 13) hx hb dX7_keeps_13 rfl (lv_at hl 0 rfl) ?_
      refine va_get (D := K.1) (ci := 7) (v := .ref (ad 1)) (C := RX7) (T := TX7) (N := 17) (pc := 14) hx hb hts inT7 hown hG.1 hP 0 rfl rfl 1 (by decide) (hts _ qf_Mod_9) (fun _ h9 => h9) rfl dX7_keeps_14 ?_
      refine lv_iload_n (pc := 17) hx hb dX7_keeps_17 rfl (lv_at hl 1 rfl) ?_
      obtain ⟨v2, h_v2, h⟩ := ob h
      obtain ⟨hi_v2, e_v2⟩ := aget_in h_v2
      refine va_iald (pc := 18) hx hb hG.1 hP 1 0 rfl rfl hi_v2 dX7_keeps_18 ?_
      rw [e_v2]
      obtain ⟨v3, h_v3, h⟩ := ob h
      obtain ⟨hi_v3, e_v3⟩ := aset_in h_v3
      refine va_iast (pc := 19) hx hb hG.1 hP hD hS 9 0 rfl rfl hi_v3 dX7_keeps_19 (fun H locs hP hD hS => ?_)
      rw [e_v3] at hP hD
      have hP : va_P K.1 vC (wMod K ad mthr mnow mold mols msav miss minp mlen mat medg mcor mtri mkep mkee v3 mnum mmet) H := hP
      have hD : va_D _ (wMod K ad mthr mnow mold mols msav miss minp mlen mat medg mcor mtri mkep mkee v3 mnum mmet) := hD
      refine lv_iinc (v := (x1 + (1 : Int32))) (pc := 20) (lv' := [(1, .int (x1 + (1 : Int32))), (0, .ref (ad 0))]) hx hb dX7_keeps_20 hl (k := 1) rfl rfl (by decide) rfl (fun ls hl => ?_)
      refine lv_goto (tgt := 2) (pc := 23) hx hb dX7_keeps_23 (by decide) ?_
      exact ih (x1 + (1 : Int32)) v3 out h H locs ls hP hD hS (lv_sub hl [1, 0] rfl) Kx 
set_option maxHeartbeats 4000000 in
set_option maxRecDepth 100000 in
theorem l_Mod_keeps_L28 {p : Program} {l : Launch} {e : Env} {s : State} {m : MethodId} {args : Array Value} {below : List Frame} {meth : Method} {c : Code} {Q : State → Prop} {K : KT} {A : Nat → Prop} (C0 : Ctx p m c cX7_keeps 2 s args RX7 K meth none) (F : Nat) (ad : Nat → Nat) (mthr : Int32) (mnow : Nat → Int32) (mold : Nat → Int32) (mols : Int32) (msav : Nat → Int32) (miss : Bool) (minp : Nat → Int32) (mlen : Int32) (mat : Int32) (medg : Nat → Int32) (mcor : Nat → Int32) (mtri : Int32) (mkee : Nat → Int32) (mwor : Nat → Int32) (mnum : Nat → Int32) (mmet : Nat → Int32)  : ∀ (n : Nat) (x1 : Int32) (mkep : Nat → Int32) (out : Int32 × (Nat → Int32)), s_Mod_keeps_L28 mcor mtri n x1 mkep = some out → ∀ (H : Heap) (locs : List Loc) (ls : Array Slot), va_P K.1 vC (wMod K ad mthr mnow mold mols msav miss minp mlen mat medg mcor mtri mkep mkee mwor mnum mmet) H → va_D A (wMod K ad mthr mnow mold mols msav miss minp mlen mat medg mcor mtri mkep mkee mwor mnum mmet) → va_S A s.heap H locs → lv_has ls 2 [(0, .ref (ad 0)), (1, .int x1)] → (∀ (o : Int32 × (Nat → Int32)) (H : Heap) (locs : List Loc) (ls : Array Slot), out = o → va_P K.1 vC (wMod K ad mthr mnow mold mols msav miss minp mlen mat medg mcor mtri o.2 mkee mwor mnum mmet) H → va_D A (wMod K ad mthr mnow mold mols msav miss minp mlen mat medg mcor mtri o.2 mkee mwor mnum mmet) → va_S A s.heap H locs → lv_has ls 2 [(0, .ref (ad 0)), (1, .int o.1)] → W p l e (rmL 0) s m args below meth c H locs 0 0 Q (F0 m 56 ls [])) → W p l e (rmL 0) s m args below meth c H locs 0 0 Q (F0 m 28 ls []) := by
  obtain ⟨hx, hb, hml, hown, hts, hG, hr, hlk⟩ := id C0
  intro n
  induction n with
  | zero =>
    intro x1 mkep out h
    cases h
  | succ n ih =>
    intro x1 mkep out h H locs ls hP hD hS hl Kx 
    rw [s_Mod_keeps_L28.eq_2] at h
    refine lv_iload_n (pc := 28) hx hb dX7_keeps_28 rfl (lv_at hl 1 rfl) ?_
    refine lv_iconst (v := (3 : Int32)) (pc := 29) hx hb dX7_keeps_29 (by decide) ?_
    refine lv_aload_n (pc := 30) hx hb dX7_keeps_30 rfl (lv_at hl 0 rfl) ?_
    refine va_get (D := K.1) (ci := 7) (v := .int mtri) (C := RX7) (T := TX7) (N := 17) (pc := 31) hx hb hts inT7 hown hG.1 hP 0 rfl rfl 11 (by decide) (hts _ qf_Mod_114) (fun _ h9 => h9) rfl dX7_keeps_31 ?_
    refine lv_imul (pc := 34) hx hb dX7_keeps_34 ?_
    refine lv_icmp_ge (tgt := 56) (pc := 35) hx hb dX7_keeps_35 (by decide) (fun c5 => ?_) (fun c5 => ?_)
    · have h := it_t c5 h
      obtain rfl := Option.some.inj h
      exact Kx _ H locs ls rfl hP hD hS (lv_sub hl [0, 1] rfl)
    · have h := it_f c5 h
      refine lv_aload_n (pc := 38) hx hb dX7_keeps_38 rfl (lv_at hl 0 rfl) ?_
      refine va_get (D := K.1) (ci := 7) (v := .ref (ad 7)) (C := RX7) (T := TX7) (N := 17) (pc := 39) hx hb hts inT7 hown hG.1 hP 0 rfl rfl 12 (by decide) (hts _ qf_Mod_29) (fun _ h9 => h9) rfl dX7_keeps_39 ?_
      refine lv_iload_n (pc := 42) hx hb dX7_keeps_42 rfl (lv_at hl 1 rfl) ?_
      refine lv_aload_n (pc := 43) hx hb dX7_keeps_43 rfl (lv_at hl 0 rfl) ?_
      refine va_get (D := K.1) (ci := 7) (v := .ref (ad 6)) (C := RX7) (T := TX7) (N := 17) (pc := 44) hx hb hts inT7 hown hG.1 hP 0 rfl rfl 10 (by decide) (hts _ qf_Mod_26) (fun _ h9 => h9) rfl dX7_keeps_44 ?_
      refine lv_iload_n (pc := 47) hx hb dX7_keeps_47 rfl (lv_at hl 1 rfl) ?_
      obtain ⟨v6, h_v6, h⟩ := ob h
      obtain ⟨hi_v6, e_v6⟩ := aget_in h_v6
      refine va_iald (pc := 48) hx hb hG.1 hP 6 0 rfl rfl hi_v6 dX7_keeps_48 ?_
      rw [e_v6]
      obtain ⟨v7, h_v7, h⟩ := ob h
      obtain ⟨hi_v7, e_v7⟩ := aset_in h_v7
      refine va_iast (pc := 49) hx hb hG.1 hP hD hS 7 0 rfl rfl hi_v7 dX7_keeps_49 (fun H locs hP hD hS => ?_)
      rw [e_v7] at hP hD
      have hP : va_P K.1 vC (wMod K ad mthr mnow mold mols msav miss minp mlen mat medg mcor mtri v7 mkee mwor mnum mmet) H := hP
      have hD : va_D _ (wMod K ad mthr mnow mold mols msav miss minp mlen mat medg mcor mtri v7 mkee mwor mnum mmet) := hD
      refine lv_iinc (v := (x1 + (1 : Int32))) (pc := 50) (lv' := [(1, .int (x1 + (1 : Int32))), (0, .ref (ad 0))]) hx hb dX7_keeps_50 hl (k := 1) rfl rfl (by decide) rfl (fun ls hl => ?_)
      refine lv_goto (tgt := 28) (pc := 53) hx hb dX7_keeps_53 (by decide) ?_
      exact ih (x1 + (1 : Int32)) v7 out h H locs ls hP hD hS (lv_sub hl [1, 0] rfl) Kx 
set_option maxHeartbeats 4000000 in
set_option maxRecDepth 100000 in
theorem l_Mod_keeps_L58 {p : Program} {l : Launch} {e : Env} {s : State} {m : MethodId} {args : Array Value} {below : List Frame} {meth : Method} {c : Code} {Q : State → Prop} {K : KT} {A : Nat → Prop} (C0 : Ctx p m c cX7_keeps 2 s args RX7 K meth none) (F : Nat) (ad : Nat → Nat) (mthr : Int32) (mnow : Nat → Int32) (mold : Nat → Int32) (mols : Int32) (msav : Nat → Int32) (miss : Bool) (minp : Nat → Int32) (mlen : Int32) (mat : Int32) (medg : Nat → Int32) (mcor : Nat → Int32) (mtri : Int32) (mkep : Nat → Int32) (mwor : Nat → Int32) (mnum : Nat → Int32) (mmet : Nat → Int32)  : ∀ (n : Nat) (x1 : Int32) (mkee : Nat → Int32) (out : Int32 × (Nat → Int32)), s_Mod_keeps_L58 medg n x1 mkee = some out → ∀ (H : Heap) (locs : List Loc) (ls : Array Slot), va_P K.1 vC (wMod K ad mthr mnow mold mols msav miss minp mlen mat medg mcor mtri mkep mkee mwor mnum mmet) H → va_D A (wMod K ad mthr mnow mold mols msav miss minp mlen mat medg mcor mtri mkep mkee mwor mnum mmet) → va_S A s.heap H locs → lv_has ls 2 [(0, .ref (ad 0)), (1, .int x1)] → (∀ (o : Int32 × (Nat → Int32)) (H : Heap) (locs : List Loc) (ls : Array Slot), out = o → va_P K.1 vC (wMod K ad mthr mnow mold mols msav miss minp mlen mat medg mcor mtri mkep o.2 mwor mnum mmet) H → va_D A (wMod K ad mthr mnow mold mols msav miss minp mlen mat medg mcor mtri mkep o.2 mwor mnum mmet) → va_S A s.heap H locs → lv_has ls 2 [(0, .ref (ad 0)), (1, .int o.1)] → W p l e (rmL 0) s m args below meth c H locs 0 0 Q (F0 m 83 ls [])) → W p l e (rmL 0) s m args below meth c H locs 0 0 Q (F0 m 58 ls []) := by
  obtain ⟨hx, hb, hml, hown, hts, hG, hr, hlk⟩ := id C0
  intro n
  induction n with
  | zero =>
    intro x1 mkee out h
    cases h
  | succ n ih =>
    intro x1 mkee out h H locs ls hP hD hS hl Kx 
    rw [s_Mod_keeps_L58.eq_2] at h
    refine lv_iload_n (pc := 58) hx hb dX7_keeps_58 rfl (lv_at hl 1 rfl) ?_
    refine lv_sipush (v := (289 : Int32)) (pc := 59) hx hb dX7_keeps_59 (by decide) ?_
    refine lv_icmp_ge (tgt := 83) (pc := 62) hx hb dX7_keeps_62 (by decide) (fun c9 => ?_) (fun c9 => ?_)
    · have h := it_t c9 h
      obtain rfl := Option.some.inj h
      exact Kx _ H locs ls rfl hP hD hS (lv_sub hl [0, 1] rfl)
    · have h := it_f c9 h
      refine lv_aload_n (pc := 65) hx hb dX7_keeps_65 rfl (lv_at hl 0 rfl) ?_
      refine va_get (D := K.1) (ci := 7) (v := .ref (ad 8)) (C := RX7) (T := TX7) (N := 17) (pc := 66) hx hb hts inT7 hown hG.1 hP 0 rfl rfl 13 (by decide) (hts _ qf_Mod_32) (fun _ h9 => h9) rfl dX7_keeps_66 ?_
      refine lv_iload_n (pc := 69) hx hb dX7_keeps_69 rfl (lv_at hl 1 rfl) ?_
      refine lv_aload_n (pc := 70) hx hb dX7_keeps_70 rfl (lv_at hl 0 rfl) ?_
      refine va_get (D := K.1) (ci := 7) (v := .ref (ad 5)) (C := RX7) (T := TX7) (N := 17) (pc := 71) hx hb hts inT7 hown hG.1 hP 0 rfl rfl 9 (by decide) (hts _ qf_Mod_22) (fun _ h9 => h9) rfl dX7_keeps_71 ?_
      refine lv_iload_n (pc := 74) hx hb dX7_keeps_74 rfl (lv_at hl 1 rfl) ?_
      obtain ⟨v10, h_v10, h⟩ := ob h
      obtain ⟨hi_v10, e_v10⟩ := aget_in h_v10
      refine va_zald (pc := 75) hx hb hG.1 hP 5 1 rfl rfl hi_v10 dX7_keeps_75 ?_
      rw [e_v10]
      obtain ⟨v11, h_v11, h⟩ := ob h
      obtain ⟨hi_v11, e_v11⟩ := aset_in h_v11
      refine va_zast (pc := 76) hx hb hG.1 hP hD hS 8 1 rfl rfl hi_v11 dX7_keeps_76 (fun H locs hP hD hS => ?_)
      rw [e_v11] at hP hD
      have hP : va_P K.1 vC (wMod K ad mthr mnow mold mols msav miss minp mlen mat medg mcor mtri mkep v11 mwor mnum mmet) H := hP
      have hD : va_D _ (wMod K ad mthr mnow mold mols msav miss minp mlen mat medg mcor mtri mkep v11 mwor mnum mmet) := hD
      refine lv_iinc (v := (x1 + (1 : Int32))) (pc := 77) (lv' := [(1, .int (x1 + (1 : Int32))), (0, .ref (ad 0))]) hx hb dX7_keeps_77 hl (k := 1) rfl rfl (by decide) rfl (fun ls hl => ?_)
      refine lv_goto (tgt := 58) (pc := 80) hx hb dX7_keeps_80 (by decide) ?_
      exact ih (x1 + (1 : Int32)) v11 out h H locs ls hP hD hS (lv_sub hl [1, 0] rfl) Kx 
set_option maxHeartbeats 4000000 in
set_option maxRecDepth 100000 in
theorem c_Mod_keeps (l : Launch) (K : KT) (ad : Nat → Nat) (mthr : Int32) (mnow : Nat → Int32) (mold : Nat → Int32) (mols : Int32) (msav : Nat → Int32) (miss : Bool) (minp : Nat → Int32) (mlen : Int32) (mat : Int32) (medg : Nat → Int32) (mcor : Nat → Int32) (mtri : Int32) (mkep : Nat → Int32) (mkee : Nat → Int32) (mwor : Nat → Int32) (mnum : Nat → Int32) (mmet : Nat → Int32) (F : Nat) {o : (Nat → Int32) × (Nat → Int32) × (Nat → Int32)} (h : s_Mod_keeps F mnow medg mcor mtri mkep mkee mwor = some o) : Wr l K 0 yX7_keeps cX7_keeps 2 none [.ref (ad 0)] (wMod K ad mthr mnow mold mols msav miss minp mlen mat medg mcor mtri mkep mkee mwor mnum mmet) none (wMod K ad mthr mnow mold mols msav miss minp mlen mat medg mcor mtri o.1 o.2.1 o.2.2 mnum mmet) := by
  refine Wr.of (by decide +kernel) (Nat.le_of_ble_eq_true rfl) ?_
  unfold s_Mod_keeps at h
  intro p e s m below meth c hx hb hr hml hown hts hlk H locs hP hG hD hS ls hl
  have C0 : Ctx p m c cX7_keeps 2 s (Array.mk [.ref (ad 0)]) RX7 K meth none := ⟨hx, hb, hml, hown, hts, hG, hr, hlk⟩
  have hl : lv_has ls 2 [(0, .ref (ad 0))] := hl
  refine lv_iconst (v := (0 : Int32)) (pc := 0) hx hb dX7_keeps_0 (by decide) ?_
  refine lv_istore_n (pc := 1) (lv' := [(1, .int (0 : Int32)), (0, .ref (ad 0))]) hx hb dX7_keeps_1 rfl hl (by decide) rfl (fun ls hl => ?_)
  obtain ⟨o4, h_o4, h⟩ := ob h
  refine l_Mod_keeps_L2 C0 F ad mthr mnow mold mols msav miss minp mlen mat medg mcor mtri mkep mkee mnum mmet F (0 : Int32) mwor _ h_o4 H locs ls hP hD hS (lv_sub hl [1, 0] rfl) (fun o4x H locs ls eo hP hD hS hl => ?_)
  subst o4
  refine lv_iconst (v := (0 : Int32)) (pc := 26) hx hb dX7_keeps_26 (by decide) ?_
  refine lv_istore_n (pc := 27) (lv' := [(1, .int (0 : Int32)), (0, .ref (ad 0))]) hx hb dX7_keeps_27 rfl hl (by decide) rfl (fun ls hl => ?_)
  obtain ⟨o8, h_o8, h⟩ := ob h
  refine l_Mod_keeps_L28 C0 F ad mthr mnow mold mols msav miss minp mlen mat medg mcor mtri mkee o4x.2 mnum mmet F (0 : Int32) mkep _ h_o8 H locs ls hP hD hS (lv_sub hl [1, 0] rfl) (fun o8x H locs ls eo hP hD hS hl => ?_)
  subst o8
  refine lv_iconst (v := (0 : Int32)) (pc := 56) hx hb dX7_keeps_56 (by decide) ?_
  refine lv_istore_n (pc := 57) (lv' := [(1, .int (0 : Int32)), (0, .ref (ad 0))]) hx hb dX7_keeps_57 rfl hl (by decide) rfl (fun ls hl => ?_)
  obtain ⟨o12, h_o12, h⟩ := ob h
  refine l_Mod_keeps_L58 C0 F ad mthr mnow mold mols msav miss minp mlen mat medg mcor mtri o8x.2 o4x.2 mnum mmet F (0 : Int32) mkee _ h_o12 H locs ls hP hD hS (lv_sub hl [1, 0] rfl) (fun o12x H locs ls eo hP hD hS hl => ?_)
  subst o12
  obtain rfl := Option.some.inj h
  exact W.vret hx hb hr (fun t ht hW => ⟨⟨rfl, by rw [ht]; exact hP⟩, hS.F ht⟩) hS.2.2 dX7_keeps_83 hlk
set_option maxHeartbeats 4000000 in
set_option maxRecDepth 100000 in
theorem l_Mod_goesBack_L2 {p : Program} {l : Launch} {e : Env} {s : State} {m : MethodId} {args : Array Value} {below : List Frame} {meth : Method} {c : Code} {Q : State → Prop} {K : KT} {A : Nat → Prop} (C0 : Ctx p m c cX7_goesBack 2 s args RX7 K meth none) (F : Nat) (ad : Nat → Nat) (mthr : Int32) (mold : Nat → Int32) (mols : Int32) (msav : Nat → Int32) (miss : Bool) (minp : Nat → Int32) (mlen : Int32) (mat : Int32) (medg : Nat → Int32) (mcor : Nat → Int32) (mtri : Int32) (mkep : Nat → Int32) (mkee : Nat → Int32) (mwor : Nat → Int32) (mnum : Nat → Int32) (mmet : Nat → Int32)  : ∀ (n : Nat) (x1 : Int32) (mnow : Nat → Int32) (out : Int32 × (Nat → Int32)), s_Mod_goesBack_L2 mwor n x1 mnow = some out → ∀ (H : Heap) (locs : List Loc) (ls : Array Slot), va_P K.1 vC (wMod K ad mthr mnow mold mols msav miss minp mlen mat medg mcor mtri mkep mkee mwor mnum mmet) H → va_D A (wMod K ad mthr mnow mold mols msav miss minp mlen mat medg mcor mtri mkep mkee mwor mnum mmet) → va_S A s.heap H locs → lv_has ls 2 [(0, .ref (ad 0)), (1, .int x1)] → (∀ (o : Int32 × (Nat → Int32)) (H : Heap) (locs : List Loc) (ls : Array Slot), out = o → va_P K.1 vC (wMod K ad mthr o.2 mold mols msav miss minp mlen mat medg mcor mtri mkep mkee mwor mnum mmet) H → va_D A (wMod K ad mthr o.2 mold mols msav miss minp mlen mat medg mcor mtri mkep mkee mwor mnum mmet) → va_S A s.heap H locs → lv_has ls 2 [(0, .ref (ad 0)), (1, .int o.1)] → W p l e (rmL 0) s m args below meth c H locs 0 0 Q (F0 m 26 ls [])) → W p l e (rmL 0) s m args below meth c H locs 0 0 Q (F0 m 2 ls []) := by
  obtain ⟨hx, hb, hml, hown, hts, hG, hr, hlk⟩ := id C0
  intro n
  induction n with
  | zero =>
    intro x1 mnow out h
    cases h
  | succ n ih =>
    intro x1 mnow out h H locs ls hP hD hS hl Kx 
    rw [s_Mod_goesBack_L2.eq_2] at h
    refine lv_iload_n (pc := 2) hx hb dX7_goesBack_2 rfl (lv_at hl 1 rfl) ?_
    refine lv_bipush (v := (56 : Int32)) (pc := 3) hx hb dX7_goesBack_3 (by decide) ?_
    refine lv_icmp_ge (tgt := 26) (pc := 5) hx hb dX7_goesBack_5 (by decide) (fun c1 => ?_) (fun c1 => ?_)
    · have h := it_t c1 h
      obtain rfl := Option.some.inj h
      exact Kx _ H locs ls rfl hP hD hS (lv_sub hl [0, 1] rfl)
    · have h := it_f c1 h
      refine lv_aload_n (pc := 8) hx hb dX7_goesBack_8 rfl (lv_at hl 0 rfl) ?_
      refine va_get (D := K.1) (ci := 7) (v := .ref (ad 1)) (C := RX7) (T := TX7) (N := 17) (pc := 9) hx hb hts inT7 hown hG.1 hP 0 rfl rfl 1 (by decide) (hts _ qf_Mod_9) (fun _ h9 => h9) rfl dX7_goesBack_9 ?_
      refine lv_iload_n (pc := 12) hx hb dX7_goesBack_12 rfl (lv_at hl 1 rfl) ?_
      refine lv_aload_n (pc := 13) hx hb dX7_goesBack_13 rfl (lv_at hl 0 rfl) ?_
      refine va_get (D := K.1) (ci := 7) (v := .ref (ad 9)) (C := RX7) (T := TX7) (N := 17) (pc := 14) hx hb hts inT7 hown hG.1 hP 0 rfl rfl 14 (by decide) (hts _ qf_Mod_35) (fun _ h9 => h9) rfl dX7_goesBack_14 ?_
      refine lv_iload_n (pc := 17) hx hb dX7_goesBack_17 rfl (lv_at hl 1 rfl) ?_
      obtain ⟨v2, h_v2, h⟩ := ob h
      obtain ⟨hi_v2, e_v2⟩ := aget_in h_v2
      refine va_iald (pc := 18) hx hb hG.1 hP 9 0 rfl rfl hi_v2 dX7_goesBack_18 ?_
      rw [e_v2]
      obtain ⟨v3, h_v3, h⟩ := ob h
      obtain ⟨hi_v3, e_v3⟩ := aset_in h_v3
      refine va_iast (pc := 19) hx hb hG.1 hP hD hS 1 0 rfl rfl hi_v3 dX7_goesBack_19 (fun H locs hP hD hS => ?_)
      rw [e_v3] at hP hD
      have hP : va_P K.1 vC (wMod K ad mthr v3 mold mols msav miss minp mlen mat medg mcor mtri mkep mkee mwor mnum mmet) H := hP
      have hD : va_D _ (wMod K ad mthr v3 mold mols msav miss minp mlen mat medg mcor mtri mkep mkee mwor mnum mmet) := hD
      refine lv_iinc (v := (x1 + (1 : Int32))) (pc := 20) (lv' := [(1, .int (x1 + (1 : Int32))), (0, .ref (ad 0))]) hx hb dX7_goesBack_20 hl (k := 1) rfl rfl (by decide) rfl (fun ls hl => ?_)
      refine lv_goto (tgt := 2) (pc := 23) hx hb dX7_goesBack_23 (by decide) ?_
      exact ih (x1 + (1 : Int32)) v3 out h H locs ls hP hD hS (lv_sub hl [1, 0] rfl) Kx 
set_option maxHeartbeats 4000000 in
set_option maxRecDepth 100000 in
theorem c_Mod_goesBack (l : Launch) (K : KT) (ad : Nat → Nat) (mthr : Int32) (mnow : Nat → Int32) (mold : Nat → Int32) (mols : Int32) (msav : Nat → Int32) (miss : Bool) (minp : Nat → Int32) (mlen : Int32) (mat : Int32) (medg : Nat → Int32) (mcor : Nat → Int32) (mtri : Int32) (mkep : Nat → Int32) (mkee : Nat → Int32) (mwor : Nat → Int32) (mnum : Nat → Int32) (mmet : Nat → Int32) (F : Nat) {o : (Nat → Int32)} (h : s_Mod_goesBack F mnow mwor = some o) : Wr l K 0 yX7_goesBack cX7_goesBack 2 none [.ref (ad 0)] (wMod K ad mthr mnow mold mols msav miss minp mlen mat medg mcor mtri mkep mkee mwor mnum mmet) none (wMod K ad mthr o mold mols msav miss minp mlen mat medg mcor mtri mkep mkee mwor mnum mmet) := by
  refine Wr.of (by decide +kernel) (Nat.le_of_ble_eq_true rfl) ?_
  unfold s_Mod_goesBack at h
  intro p e s m below meth c hx hb hr hml hown hts hlk H locs hP hG hD hS ls hl
  have C0 : Ctx p m c cX7_goesBack 2 s (Array.mk [.ref (ad 0)]) RX7 K meth none := ⟨hx, hb, hml, hown, hts, hG, hr, hlk⟩
  have hl : lv_has ls 2 [(0, .ref (ad 0))] := hl
  refine lv_iconst (v := (0 : Int32)) (pc := 0) hx hb dX7_goesBack_0 (by decide) ?_
  refine lv_istore_n (pc := 1) (lv' := [(1, .int (0 : Int32)), (0, .ref (ad 0))]) hx hb dX7_goesBack_1 rfl hl (by decide) rfl (fun ls hl => ?_)
  obtain ⟨o4, h_o4, h⟩ := ob h
  refine l_Mod_goesBack_L2 C0 F ad mthr mold mols msav miss minp mlen mat medg mcor mtri mkep mkee mwor mnum mmet F (0 : Int32) mnow _ h_o4 H locs ls hP hD hS (lv_sub hl [1, 0] rfl) (fun o4x H locs ls eo hP hD hS hl => ?_)
  subst o4
  obtain rfl := Option.some.inj h
  exact W.vret hx hb hr (fun t ht hW => ⟨⟨rfl, by rw [ht]; exact hP⟩, hS.F ht⟩) hS.2.2 dX7_goesBack_26 hlk
set_option maxHeartbeats 4000000 in
set_option maxRecDepth 100000 in
theorem l_Mod_cavity_L62 {p : Program} {l : Launch} {e : Env} {s : State} {m : MethodId} {args : Array Value} {below : List Frame} {meth : Method} {c : Code} {Q : State → Prop} {K : KT} {A : Nat → Prop} (C0 : Ctx p m c cX7_cavity 6 s args RX7 K meth (some .int)) (F : Nat) (ad : Nat → Nat) (mthr : Int32) (mnow : Nat → Int32) (mold : Nat → Int32) (mols : Int32) (msav : Nat → Int32) (miss : Bool) (minp : Nat → Int32) (mlen : Int32) (mat : Int32) (medg : Nat → Int32) (mcor : Nat → Int32) (mtri : Int32) (mkep : Nat → Int32) (mkee : Nat → Int32) (mwor : Nat → Int32) (mnum : Nat → Int32) (mmet : Nat → Int32) (x3 : Int32)  : ∀ (n : Nat) (x4 : Int32) (x5 : Int32) (out : Int32 × Int32), s_Mod_cavity_L62 F mcor mtri mkep x3 n x4 x5 = some out → ∀ (H : Heap) (locs : List Loc) (ls : Array Slot), va_P K.1 vC (wMod K ad mthr mnow mold mols msav miss minp mlen mat medg mcor mtri mkep mkee mwor mnum mmet) H → va_D A (wMod K ad mthr mnow mold mols msav miss minp mlen mat medg mcor mtri mkep mkee mwor mnum mmet) → va_S A s.heap H locs → lv_has ls 6 [(0, .ref (ad 0)), (3, .int x3), (4, .int x4), (5, .int x5)] → (∀ (o : Int32 × Int32) (H : Heap) (locs : List Loc) (ls : Array Slot), out = o → va_P K.1 vC (wMod K ad mthr mnow mold mols msav miss minp mlen mat medg mcor mtri mkep mkee mwor mnum mmet) H → va_D A (wMod K ad mthr mnow mold mols msav miss minp mlen mat medg mcor mtri mkep mkee mwor mnum mmet) → va_S A s.heap H locs → lv_has ls 6 [(0, .ref (ad 0)), (3, .int x3), (4, .int o.1), (5, .int o.2)] → W p l e (rmL 7) s m args below meth c H locs 0 0 Q (F0 m 115 ls [])) → W p l e (rmL 7) s m args below meth c H locs 0 0 Q (F0 m 62 ls []) := by
  obtain ⟨hx, hb, hml, hown, hts, hG, hr, hlk⟩ := id C0
  intro n
  induction n with
  | zero =>
    intro x4 x5 out h
    cases h
  | succ n ih =>
    intro x4 x5 out h H locs ls hP hD hS hl Kx 
    rw [s_Mod_cavity_L62.eq_2] at h
    refine lv_iload (pc := 62) hx hb dX7_cavity_62 (lv_at hl 3 rfl) ?_
    refine lv_iload_n (pc := 64) hx hb dX7_cavity_64 rfl (lv_at hl 1 rfl) ?_
    refine lv_icmp_ge (tgt := 115) (pc := 65) hx hb dX7_cavity_65 (by decide) (fun c10 => ?_) (fun c10 => ?_)
    · have h := it_t c10 h
      obtain rfl := Option.some.inj h
      exact Kx _ H locs ls rfl hP hD hS (lv_sub hl [0, 1, 2, 3] rfl)
    · have h := it_f c10 h
      refine lv_aload_n (pc := 68) hx hb dX7_cavity_68 rfl (lv_at hl 0 rfl) ?_
      refine lv_aload_n (pc := 69) hx hb dX7_cavity_69 rfl (lv_at hl 0 rfl) ?_
      refine va_get (D := K.1) (ci := 7) (v := .ref (ad 7)) (C := RX7) (T := TX7) (N := 17) (pc := 70) hx hb hts inT7 hown hG.1 hP 0 rfl rfl 12 (by decide) (hts _ qf_Mod_29) (fun _ h9 => h9) rfl dX7_cavity_70 ?_
      refine lv_iconst (v := (3 : Int32)) (pc := 73) hx hb dX7_cavity_73 (by decide) ?_
      refine lv_iload (pc := 74) hx hb dX7_cavity_74 (lv_at hl 3 rfl) ?_
      refine lv_imul (pc := 76) hx hb dX7_cavity_76 ?_
      obtain ⟨v11, h_v11, h⟩ := ob h
      obtain ⟨hi_v11, e_v11⟩ := aget_in h_v11
      refine va_iald (pc := 77) hx hb hG.1 hP 7 0 rfl rfl hi_v11 dX7_cavity_77 ?_
      rw [e_v11]
      refine lv_aload_n (pc := 78) hx hb dX7_cavity_78 rfl (lv_at hl 0 rfl) ?_
      refine va_get (D := K.1) (ci := 7) (v := .ref (ad 7)) (C := RX7) (T := TX7) (N := 17) (pc := 79) hx hb hts inT7 hown hG.1 hP 0 rfl rfl 12 (by decide) (hts _ qf_Mod_29) (fun _ h9 => h9) rfl dX7_cavity_79 ?_
      refine lv_iconst (v := (3 : Int32)) (pc := 82) hx hb dX7_cavity_82 (by decide) ?_
      refine lv_iload (pc := 83) hx hb dX7_cavity_83 (lv_at hl 3 rfl) ?_
      refine lv_imul (pc := 85) hx hb dX7_cavity_85 ?_
      refine lv_iconst (v := (1 : Int32)) (pc := 86) hx hb dX7_cavity_86 (by decide) ?_
      refine lv_iadd (pc := 87) hx hb dX7_cavity_87 ?_
      obtain ⟨v12, h_v12, h⟩ := ob h
      obtain ⟨hi_v12, e_v12⟩ := aget_in h_v12
      refine va_iald (pc := 88) hx hb hG.1 hP 7 0 rfl rfl hi_v12 dX7_cavity_88 ?_
      rw [e_v12]
      refine lv_aload_n (pc := 89) hx hb dX7_cavity_89 rfl (lv_at hl 0 rfl) ?_
      refine va_get (D := K.1) (ci := 7) (v := .ref (ad 7)) (C := RX7) (T := TX7) (N := 17) (pc := 90) hx hb hts inT7 hown hG.1 hP 0 rfl rfl 12 (by decide) (hts _ qf_Mod_29) (fun _ h9 => h9) rfl dX7_cavity_90 ?_
      refine lv_iconst (v := (3 : Int32)) (pc := 93) hx hb dX7_cavity_93 (by decide) ?_
      refine lv_iload (pc := 94) hx hb dX7_cavity_94 (lv_at hl 3 rfl) ?_
      refine lv_imul (pc := 96) hx hb dX7_cavity_96 ?_
      refine lv_iconst (v := (2 : Int32)) (pc := 97) hx hb dX7_cavity_97 (by decide) ?_
      refine lv_iadd (pc := 98) hx hb dX7_cavity_98 ?_
      obtain ⟨v13, h_v13, h⟩ := ob h
      obtain ⟨hi_v13, e_v13⟩ := aget_in h_v13
      refine va_iald (pc := 99) hx hb hG.1 hP 7 0 rfl rfl hi_v13 dX7_cavity_99 ?_
      rw [e_v13]
      obtain ⟨v14, h_v14, h⟩ := ob h
      refine rdV (pc := 100) (As := [.int v11, .int v12, .int v13]) (rest := []) hx hb hml hown hts hG hP (c_Mod_triangleOf l K ad mthr mnow mold mols msav miss minp mlen mat medg mcor mtri mkep mkee mwor mnum mmet v11 v12 v13 F h_v14) [0, 1, 2, 3, 4, 5, 6, 7, 8, 9, 10, 11] rfl (q0 := 0) rfl (ci := 7) rfl g_Mod_216 hd_Mod_triangleOf rfl ⟨Nat.le_of_ble_eq_true rfl, Nat.le_of_ble_eq_true rfl⟩ ⟨Nat.zero_le _, Nat.zero_le _⟩ hl rfl (Nat.le_of_ble_eq_true rfl) dX7_cavity_100 ?_
      refine lv_if_ge (tgt := 109) (pc := 103) hx hb dX7_cavity_103 (by decide) (fun c15 => ?_) (fun c15 => ?_)
      · have h := it_t c15 h
        refine lv_iinc (v := (x5 + (1 : Int32))) (pc := 109) (lv' := [(5, .int (x5 + (1 : Int32))), (0, .ref (ad 0)), (3, .int x3), (4, .int x4)]) hx hb dX7_cavity_109 hl (k := 3) rfl rfl (by decide) rfl (fun ls hl => ?_)
        refine lv_goto (tgt := 62) (pc := 112) hx hb dX7_cavity_112 (by decide) ?_
        exact ih x4 (x5 + (1 : Int32)) out h H locs ls hP hD hS (lv_sub hl [1, 2, 3, 0] rfl) Kx 
      · have h := it_f c15 h
        refine lv_iinc (v := (x4 + (1 : Int32))) (pc := 106) (lv' := [(4, .int (x4 + (1 : Int32))), (0, .ref (ad 0)), (3, .int x3), (5, .int x5)]) hx hb dX7_cavity_106 hl (k := 2) rfl rfl (by decide) rfl (fun ls hl => ?_)
        refine lv_iinc (v := (x5 + (1 : Int32))) (pc := 109) (lv' := [(5, .int (x5 + (1 : Int32))), (4, .int (x4 + (1 : Int32))), (0, .ref (ad 0)), (3, .int x3)]) hx hb dX7_cavity_109 hl (k := 3) rfl rfl (by decide) rfl (fun ls hl => ?_)
        refine lv_goto (tgt := 62) (pc := 112) hx hb dX7_cavity_112 (by decide) ?_
        exact ih (x4 + (1 : Int32)) (x5 + (1 : Int32)) out h H locs ls hP hD hS (lv_sub hl [2, 3, 1, 0] rfl) Kx 
set_option maxHeartbeats 4000000 in
set_option maxRecDepth 100000 in
theorem c_Mod_cavity (l : Launch) (K : KT) (ad : Nat → Nat) (mthr : Int32) (mnow : Nat → Int32) (mold : Nat → Int32) (mols : Int32) (msav : Nat → Int32) (miss : Bool) (minp : Nat → Int32) (mlen : Int32) (mat : Int32) (medg : Nat → Int32) (mcor : Nat → Int32) (mtri : Int32) (mkep : Nat → Int32) (mkee : Nat → Int32) (mwor : Nat → Int32) (mnum : Nat → Int32) (mmet : Nat → Int32) (a0 : Int32) (a1 : Int32) (F : Nat) {o : Int32 × Int32 × (Nat → Int32) × (Nat → Int32) × (Nat → Int32) × Int32 × (Nat → Int32) × (Nat → Int32) × (Nat → Int32)} (h : s_Mod_cavity F mnow medg mcor mtri mkep mkee mwor a0 a1 = some o) : Wr l K 7 yX7_cavity cX7_cavity 6 (some .int) [.ref (ad 0), .int a0, .int a1] (wMod K ad mthr mnow mold mols msav miss minp mlen mat medg mcor mtri mkep mkee mwor mnum mmet) (some (.int o.1)) (wMod K ad o.2.1 o.2.2.1 mold mols msav miss minp mlen mat o.2.2.2.1 o.2.2.2.2.1 o.2.2.2.2.2.1 o.2.2.2.2.2.2.1 o.2.2.2.2.2.2.2.1 o.2.2.2.2.2.2.2.2 mnum mmet) := by
  refine Wr.of (by decide +kernel) (Nat.le_of_ble_eq_true rfl) ?_
  unfold s_Mod_cavity at h
  intro p e s m below meth c hx hb hr hml hown hts hlk H locs hP hG hD hS ls hl
  have C0 : Ctx p m c cX7_cavity 6 s (Array.mk [.ref (ad 0), .int a0, .int a1]) RX7 K meth (some .int) := ⟨hx, hb, hml, hown, hts, hG, hr, hlk⟩
  have hl : lv_has ls 6 [(0, .ref (ad 0)), (1, .int a0), (2, .int a1)] := hl
  refine lv_aload_n (pc := 0) hx hb dX7_cavity_0 rfl (lv_at hl 0 rfl) ?_
  refine lv_aload_n (pc := 1) hx hb dX7_cavity_1 rfl (lv_at hl 0 rfl) ?_
  refine lv_iload_n (pc := 2) hx hb dX7_cavity_2 rfl (lv_at hl 1 rfl) ?_
  refine lv_iload_n (pc := 3) hx hb dX7_cavity_3 rfl (lv_at hl 2 rfl) ?_
  obtain ⟨v1, h_v1, h⟩ := ob h
  refine rdV (pc := 4) (As := [.int a0, .int a1]) (rest := [.ref (ad 0)]) hx hb hml hown hts hG hP (c_Mod_whyNot l K ad mthr mnow mold mols msav miss minp mlen mat medg mcor mtri mkep mkee mwor mnum mmet a0 a1 F h_v1) [0, 1, 2, 3, 4, 5, 6, 7, 8, 9, 10, 11] rfl (q0 := 0) rfl (ci := 7) rfl g_Mod_159 hd_Mod_whyNot rfl ⟨Nat.le_of_ble_eq_true rfl, Nat.le_of_ble_eq_true rfl⟩ ⟨Nat.zero_le _, Nat.zero_le _⟩ hl rfl (Nat.le_of_ble_eq_true rfl) dX7_cavity_4 ?_
  refine va_put (D := K.1) (ci := 7) (v := .int v1) (ty := .int) (C := RX7) (T := TX7) (N := 17) (pc := 7) hx hb hts inT7 tyX7 tyX7_ok nmX7 hown hG.1 hP hD hS 0 rfl rfl 0 (by decide) (hts _ qf_Mod_44) (fun _ h9 => h9) rfl (by decide +kernel) rfl rfl (Nat.le_of_ble_eq_true rfl) dX7_cavity_7 (fun H locs hP hD hS => ?_)
  have hP : va_P K.1 vC (wMod K ad v1 mnow mold mols msav miss minp mlen mat medg mcor mtri mkep mkee mwor mnum mmet) H := hP
  have hD : va_D _ (wMod K ad v1 mnow mold mols msav miss minp mlen mat medg mcor mtri mkep mkee mwor mnum mmet) := hD
  refine lv_aload_n (pc := 10) hx hb dX7_cavity_10 rfl (lv_at hl 0 rfl) ?_
  refine va_get (D := K.1) (ci := 7) (v := .int v1) (C := RX7) (T := TX7) (N := 17) (pc := 11) hx hb hts inT7 hown hG.1 hP 0 rfl rfl 0 (by decide) (hts _ qf_Mod_44) (fun _ h9 => h9) rfl dX7_cavity_11 ?_
  refine lv_if_le (tgt := 19) (pc := 14) hx hb dX7_cavity_14 (by decide) (fun c2 => ?_) (fun c2 => ?_)
  · have h := it_t c2 h
    refine lv_aload_n (pc := 19) hx hb dX7_cavity_19 rfl (lv_at hl 0 rfl) ?_
    obtain ⟨v3, h_v3, h⟩ := ob h
    refine wrVv (pc := 20) (As := []) (rest := []) (ws2 := wMod K ad v1 mnow mold mols msav miss minp mlen mat v3.1 v3.2.1 v3.2.2 mkep mkee mwor mnum mmet) (as9 := [ad 0, ad 1, ad 2, ad 3, ad 4, ad 5, ad 6, ad 7, ad 8, ad 9, ad 10, ad 11]) hx hb hml hown hts hG hP hD hS (c_Mod_builds l K ad v1 mnow mold mols msav miss minp mlen mat medg mcor mtri mkep mkee mwor mnum mmet F h_v3) [0, 1, 2, 3, 4, 5, 6, 7, 8, 9, 10, 11] rfl rfl rfl rfl [.inl 0, .inl 1, .inl 2, .inl 3, .inl 4, .inl 5, .inl 6, .inl 7, .inl 8, .inl 9, .inl 10, .inl 11] (by decide +kernel) rfl (q0 := 0) rfl (ci := 7) rfl g_Mod_210 hd_Mod_builds rfl ⟨Nat.le_of_ble_eq_true rfl, Nat.le_of_ble_eq_true rfl⟩ ⟨Nat.zero_le _, Nat.zero_le _⟩ hl rfl (Nat.le_of_ble_eq_true rfl) dX7_cavity_20 (fun H locs hP hD hS => ?_)
    refine lv_aload_n (pc := 23) hx hb dX7_cavity_23 rfl (lv_at hl 0 rfl) ?_
    obtain ⟨v4, h_v4, h⟩ := ob h
    refine wrVv (pc := 24) (As := []) (rest := []) (ws2 := wMod K ad v1 mnow mold mols msav miss minp mlen mat v3.1 v3.2.1 v3.2.2 v4.1 v4.2.1 v4.2.2 mnum mmet) (as9 := [ad 0, ad 1, ad 2, ad 3, ad 4, ad 5, ad 6, ad 7, ad 8, ad 9, ad 10, ad 11]) hx hb hml hown hts hG hP hD hS (c_Mod_keeps l K ad v1 mnow mold mols msav miss minp mlen mat v3.1 v3.2.1 v3.2.2 mkep mkee mwor mnum mmet F h_v4) [0, 1, 2, 3, 4, 5, 6, 7, 8, 9, 10, 11] rfl rfl rfl rfl [.inl 0, .inl 1, .inl 2, .inl 3, .inl 4, .inl 5, .inl 6, .inl 7, .inl 8, .inl 9, .inl 10, .inl 11] (by decide +kernel) rfl (q0 := 0) rfl (ci := 7) rfl g_Mod_256 hd_Mod_keeps rfl ⟨Nat.le_of_ble_eq_true rfl, Nat.le_of_ble_eq_true rfl⟩ ⟨Nat.zero_le _, Nat.zero_le _⟩ hl rfl (Nat.le_of_ble_eq_true rfl) dX7_cavity_24 (fun H locs hP hD hS => ?_)
    refine lv_aload_n (pc := 27) hx hb dX7_cavity_27 rfl (lv_at hl 0 rfl) ?_
    refine va_get (D := K.1) (ci := 7) (v := .int v3.2.2) (C := RX7) (T := TX7) (N := 17) (pc := 28) hx hb hts inT7 hown hG.1 hP 0 rfl rfl 11 (by decide) (hts _ qf_Mod_114) (fun _ h9 => h9) rfl dX7_cavity_28 ?_
    refine lv_istore_n (pc := 31) (lv' := [(3, .int v3.2.2), (0, .ref (ad 0)), (1, .int a0), (2, .int a1)]) hx hb dX7_cavity_31 rfl hl (by decide) rfl (fun ls hl => ?_)
    refine lv_aload_n (pc := 32) hx hb dX7_cavity_32 rfl (lv_at hl 1 rfl) ?_
    refine lv_aload_n (pc := 33) hx hb dX7_cavity_33 rfl (lv_at hl 1 rfl) ?_
    obtain ⟨v5, h_v5, h⟩ := ob h
    refine rdV (pc := 34) (As := []) (rest := [.ref (ad 0)]) hx hb hml hown hts hG hP (c_Mod_n l K ad v1 mnow mold mols msav miss minp mlen mat v3.1 v3.2.1 v3.2.2 v4.1 v4.2.1 v4.2.2 mnum mmet h_v5) [0, 1, 2, 3, 4, 5, 6, 7, 8, 9, 10, 11] rfl (q0 := 0) rfl (ci := 7) rfl g_Mod_48 hd_Mod_n rfl ⟨Nat.le_of_ble_eq_true rfl, Nat.le_of_ble_eq_true rfl⟩ ⟨Nat.zero_le _, Nat.zero_le _⟩ hl rfl (Nat.le_of_ble_eq_true rfl) dX7_cavity_34 ?_
    refine lv_iload_n (pc := 37) hx hb dX7_cavity_37 rfl (lv_at hl 2 rfl) ?_
    refine lv_iload_n (pc := 38) hx hb dX7_cavity_38 rfl (lv_at hl 3 rfl) ?_
    obtain ⟨v6, h_v6, h⟩ := ob h
    refine wrVv (pc := 39) (As := [.int v5, .int a0, .int a1]) (rest := []) (ws2 := wMod K ad v1 v6 mold mols msav miss minp mlen mat v3.1 v3.2.1 v3.2.2 v4.1 v4.2.1 v4.2.2 mnum mmet) (as9 := [ad 0, ad 1, ad 2, ad 3, ad 4, ad 5, ad 6, ad 7, ad 8, ad 9, ad 10, ad 11]) hx hb hml hown hts hG hP hD hS (c_Mod_sets l K ad v1 mnow mold mols msav miss minp mlen mat v3.1 v3.2.1 v3.2.2 v4.1 v4.2.1 v4.2.2 mnum mmet v5 a0 a1 h_v6) [0, 1, 2, 3, 4, 5, 6, 7, 8, 9, 10, 11] rfl rfl rfl rfl [.inl 0, .inl 1, .inl 2, .inl 3, .inl 4, .inl 5, .inl 6, .inl 7, .inl 8, .inl 9, .inl 10, .inl 11] (by decide +kernel) rfl (q0 := 0) rfl (ci := 7) rfl g_Mod_165 hd_Mod_sets rfl ⟨Nat.le_of_ble_eq_true rfl, Nat.le_of_ble_eq_true rfl⟩ ⟨Nat.zero_le _, Nat.zero_le _⟩ hl rfl (Nat.le_of_ble_eq_true rfl) dX7_cavity_39 (fun H locs hP hD hS => ?_)
    refine lv_aload_n (pc := 42) hx hb dX7_cavity_42 rfl (lv_at hl 1 rfl) ?_
    refine va_get (D := K.1) (ci := 7) (v := .ref (ad 1)) (C := RX7) (T := TX7) (N := 17) (pc := 43) hx hb hts inT7 hown hG.1 hP 0 rfl rfl 1 (by decide) (hts _ qf_Mod_9) (fun _ h9 => h9) rfl dX7_cavity_43 ?_
    refine lv_iconst (v := (0 : Int32)) (pc := 46) hx hb dX7_cavity_46 (by decide) ?_
    refine lv_dup2_11 (pc := 47) hx hb dX7_cavity_47 rfl rfl ?_
    obtain ⟨v7, h_v7, h⟩ := ob h
    obtain ⟨hi_v7, e_v7⟩ := aget_in h_v7
    refine va_iald (pc := 48) hx hb hG.1 hP 1 0 rfl rfl hi_v7 dX7_cavity_48 ?_
    rw [e_v7]
    refine lv_iconst (v := (1 : Int32)) (pc := 49) hx hb dX7_cavity_49 (by decide) ?_
    refine lv_iadd (pc := 50) hx hb dX7_cavity_50 ?_
    obtain ⟨v8, h_v8, h⟩ := ob h
    obtain ⟨hi_v8, e_v8⟩ := aset_in h_v8
    refine va_iast (pc := 51) hx hb hG.1 hP hD hS 1 0 rfl rfl hi_v8 dX7_cavity_51 (fun H locs hP hD hS => ?_)
    rw [e_v8] at hP hD
    have hP : va_P K.1 vC (wMod K ad v1 v8 mold mols msav miss minp mlen mat v3.1 v3.2.1 v3.2.2 v4.1 v4.2.1 v4.2.2 mnum mmet) H := hP
    have hD : va_D _ (wMod K ad v1 v8 mold mols msav miss minp mlen mat v3.1 v3.2.1 v3.2.2 v4.1 v4.2.1 v4.2.2 mnum mmet) := hD
    refine lv_aload_n (pc := 52) hx hb dX7_cavity_52 rfl (lv_at hl 1 rfl) ?_
    obtain ⟨v9, h_v9, h⟩ := ob h
    refine wrVv (pc := 53) (As := []) (rest := []) (ws2 := wMod K ad v1 v8 mold mols msav miss minp mlen mat v9.1 v9.2.1 v9.2.2 v4.1 v4.2.1 v4.2.2 mnum mmet) (as9 := [ad 0, ad 1, ad 2, ad 3, ad 4, ad 5, ad 6, ad 7, ad 8, ad 9, ad 10, ad 11]) hx hb hml hown hts hG hP hD hS (c_Mod_builds l K ad v1 v8 mold mols msav miss minp mlen mat v3.1 v3.2.1 v3.2.2 v4.1 v4.2.1 v4.2.2 mnum mmet F h_v9) [0, 1, 2, 3, 4, 5, 6, 7, 8, 9, 10, 11] rfl rfl rfl rfl [.inl 0, .inl 1, .inl 2, .inl 3, .inl 4, .inl 5, .inl 6, .inl 7, .inl 8, .inl 9, .inl 10, .inl 11] (by decide +kernel) rfl (q0 := 0) rfl (ci := 7) rfl g_Mod_210 hd_Mod_builds rfl ⟨Nat.le_of_ble_eq_true rfl, Nat.le_of_ble_eq_true rfl⟩ ⟨Nat.zero_le _, Nat.zero_le _⟩ hl rfl (Nat.le_of_ble_eq_true rfl) dX7_cavity_53 (fun H locs hP hD hS => ?_)
    refine lv_iconst (v := (0 : Int32)) (pc := 56) hx hb dX7_cavity_56 (by decide) ?_
    refine lv_istore (pc := 57) (lv' := [(4, .int (0 : Int32)), (3, .int v3.2.2), (0, .ref (ad 0)), (1, .int a0), (2, .int a1)]) hx hb dX7_cavity_57 hl (by decide) rfl (fun ls hl => ?_)
    refine lv_iconst (v := (0 : Int32)) (pc := 59) hx hb dX7_cavity_59 (by decide) ?_
    refine lv_istore (pc := 60) (lv' := [(5, .int (0 : Int32)), (4, .int (0 : Int32)), (3, .int v3.2.2), (0, .ref (ad 0)), (1, .int a0), (2, .int a1)]) hx hb dX7_cavity_60 hl (by decide) rfl (fun ls hl => ?_)
    obtain ⟨o16, h_o16, h⟩ := ob h
    refine l_Mod_cavity_L62 C0 F ad v1 v8 mold mols msav miss minp mlen mat v9.1 v9.2.1 v9.2.2 v4.1 v4.2.1 v4.2.2 mnum mmet v3.2.2 F (0 : Int32) (0 : Int32) _ h_o16 H locs ls hP hD hS (lv_sub hl [3, 2, 1, 0] rfl) (fun o16x H locs ls eo hP hD hS hl => ?_)
    subst o16
    refine lv_aload_n (pc := 115) hx hb dX7_cavity_115 rfl (lv_at hl 0 rfl) ?_
    obtain ⟨v17, h_v17, h⟩ := ob h
    refine wrVv (pc := 116) (As := []) (rest := []) (ws2 := wMod K ad v1 v17 mold mols msav miss minp mlen mat v9.1 v9.2.1 v9.2.2 v4.1 v4.2.1 v4.2.2 mnum mmet) (as9 := [ad 0, ad 1, ad 2, ad 3, ad 4, ad 5, ad 6, ad 7, ad 8, ad 9, ad 10, ad 11]) hx hb hml hown hts hG hP hD hS (c_Mod_goesBack l K ad v1 v8 mold mols msav miss minp mlen mat v9.1 v9.2.1 v9.2.2 v4.1 v4.2.1 v4.2.2 mnum mmet F h_v17) [0, 1, 2, 3, 4, 5, 6, 7, 8, 9, 10, 11] rfl rfl rfl rfl [.inl 0, .inl 1, .inl 2, .inl 3, .inl 4, .inl 5, .inl 6, .inl 7, .inl 8, .inl 9, .inl 10, .inl 11] (by decide +kernel) rfl (q0 := 0) rfl (ci := 7) rfl g_Mod_259 hd_Mod_goesBack rfl ⟨Nat.le_of_ble_eq_true rfl, Nat.le_of_ble_eq_true rfl⟩ ⟨Nat.zero_le _, Nat.zero_le _⟩ hl rfl (Nat.le_of_ble_eq_true rfl) dX7_cavity_116 (fun H locs hP hD hS => ?_)
    refine lv_iload (pc := 119) hx hb dX7_cavity_119 (lv_at hl 2 rfl) ?_
    obtain rfl := Option.some.inj h
    exact W.iret hx hb hr (fun t ht hW => ⟨⟨rfl, by rw [ht]; exact hP⟩, hS.F ht⟩) hS.2.2 dX7_cavity_121 hlk
  · have h := it_f c2 h
    refine lv_iconst (v := (0 : Int32)) (pc := 17) hx hb dX7_cavity_17 (by decide) ?_
    obtain rfl := Option.some.inj h
    exact W.iret hx hb hr (fun t ht hW => ⟨⟨rfl, by rw [ht]; exact hP⟩, hS.F ht⟩) hS.2.2 dX7_cavity_18 hlk
set_option maxHeartbeats 4000000 in
set_option maxRecDepth 100000 in
theorem l_Mod_hole_L60 {p : Program} {l : Launch} {e : Env} {s : State} {m : MethodId} {args : Array Value} {below : List Frame} {meth : Method} {c : Code} {Q : State → Prop} {K : KT} {A : Nat → Prop} (C0 : Ctx p m c cX7_hole 8 s args RX7 K meth (some .int)) (F : Nat) (ad : Nat → Nat) (mthr : Int32) (mnow : Nat → Int32) (mold : Nat → Int32) (mols : Int32) (msav : Nat → Int32) (miss : Bool) (minp : Nat → Int32) (mlen : Int32) (mat : Int32) (medg : Nat → Int32) (mcor : Nat → Int32) (mtri : Int32) (mkep : Nat → Int32) (mkee : Nat → Int32) (mwor : Nat → Int32) (mnum : Nat → Int32) (mmet : Nat → Int32) (x1 : Int32) (x2 : Int32)  : ∀ (n : Nat) (x3 : Int32) (x4 : Int32) (out : Int32 × Int32), s_Mod_hole_L60 F mcor mtri mkep x1 x2 n x3 x4 = some out → ∀ (H : Heap) (locs : List Loc) (ls : Array Slot), va_P K.1 vC (wMod K ad mthr mnow mold mols msav miss minp mlen mat medg mcor mtri mkep mkee mwor mnum mmet) H → va_D A (wMod K ad mthr mnow mold mols msav miss minp mlen mat medg mcor mtri mkep mkee mwor mnum mmet) → va_S A s.heap H locs → lv_has ls 8 [(0, .ref (ad 0)), (1, .int x1), (2, .int x2), (3, .int x3), (4, .int x4)] → (∀ (o : Int32 × Int32) (H : Heap) (locs : List Loc) (ls : Array Slot), out = o → va_P K.1 vC (wMod K ad mthr mnow mold mols msav miss minp mlen mat medg mcor mtri mkep mkee mwor mnum mmet) H → va_D A (wMod K ad mthr mnow mold mols msav miss minp mlen mat medg mcor mtri mkep mkee mwor mnum mmet) → va_S A s.heap H locs → lv_has ls 8 [(0, .ref (ad 0)), (1, .int x1), (2, .int x2), (3, .int o.1), (4, .int o.2)] → W p l e (rmL 7) s m args below meth c H locs 0 0 Q (F0 m 185 ls [])) → W p l e (rmL 7) s m args below meth c H locs 0 0 Q (F0 m 60 ls []) := by
  obtain ⟨hx, hb, hml, hown, hts, hG, hr, hlk⟩ := id C0
  intro n
  induction n with
  | zero =>
    intro x3 x4 out h
    cases h
  | succ n ih =>
    intro x3 x4 out h H locs ls hP hD hS hl Kx 
    rw [s_Mod_hole_L60.eq_2] at h
    refine lv_iload (pc := 60) hx hb dX7_hole_60 (lv_at hl 4 rfl) ?_
    refine lv_iload_n (pc := 62) hx hb dX7_hole_62 rfl (lv_at hl 2 rfl) ?_
    refine lv_icmp_ge (tgt := 185) (pc := 63) hx hb dX7_hole_63 (by decide) (fun c9 => ?_) (fun c9 => ?_)
    · have h := it_t c9 h
      obtain rfl := Option.some.inj h
      exact Kx _ H locs ls rfl hP hD hS (lv_sub hl [0, 1, 2, 3, 4] rfl)
    · have h := it_f c9 h
      refine lv_aload_n (pc := 66) hx hb dX7_hole_66 rfl (lv_at hl 0 rfl) ?_
      refine va_get (D := K.1) (ci := 7) (v := .ref (ad 7)) (C := RX7) (T := TX7) (N := 17) (pc := 67) hx hb hts inT7 hown hG.1 hP 0 rfl rfl 12 (by decide) (hts _ qf_Mod_29) (fun _ h9 => h9) rfl dX7_hole_67 ?_
      refine lv_iconst (v := (3 : Int32)) (pc := 70) hx hb dX7_hole_70 (by decide) ?_
      refine lv_iload (pc := 71) hx hb dX7_hole_71 (lv_at hl 4 rfl) ?_
      refine lv_imul (pc := 73) hx hb dX7_hole_73 ?_
      obtain ⟨v10, h_v10, h⟩ := ob h
      obtain ⟨hi_v10, e_v10⟩ := aget_in h_v10
      refine va_iald (pc := 74) hx hb hG.1 hP 7 0 rfl rfl hi_v10 dX7_hole_74 ?_
      rw [e_v10]
      refine lv_istore (pc := 75) (lv' := [(5, .int v10), (0, .ref (ad 0)), (1, .int x1), (2, .int x2), (3, .int x3), (4, .int x4)]) hx hb dX7_hole_75 hl (by decide) rfl (fun ls hl => ?_)
      refine lv_aload_n (pc := 77) hx hb dX7_hole_77 rfl (lv_at hl 1 rfl) ?_
      refine va_get (D := K.1) (ci := 7) (v := .ref (ad 7)) (C := RX7) (T := TX7) (N := 17) (pc := 78) hx hb hts inT7 hown hG.1 hP 0 rfl rfl 12 (by decide) (hts _ qf_Mod_29) (fun _ h9 => h9) rfl dX7_hole_78 ?_
      refine lv_iconst (v := (3 : Int32)) (pc := 81) hx hb dX7_hole_81 (by decide) ?_
      refine lv_iload (pc := 82) hx hb dX7_hole_82 (lv_at hl 5 rfl) ?_
      refine lv_imul (pc := 84) hx hb dX7_hole_84 ?_
      refine lv_iconst (v := (1 : Int32)) (pc := 85) hx hb dX7_hole_85 (by decide) ?_
      refine lv_iadd (pc := 86) hx hb dX7_hole_86 ?_
      obtain ⟨v11, h_v11, h⟩ := ob h
      obtain ⟨hi_v11, e_v11⟩ := aget_in h_v11
      refine va_iald (pc := 87) hx hb hG.1 hP 7 0 rfl rfl hi_v11 dX7_hole_87 ?_
      rw [e_v11]
      refine lv_istore (pc := 88) (lv' := [(6, .int v11), (5, .int v10), (0, .ref (ad 0)), (1, .int x1), (2, .int x2), (3, .int x3), (4, .int x4)]) hx hb dX7_hole_88 hl (by decide) rfl (fun ls hl => ?_)
      refine lv_aload_n (pc := 90) hx hb dX7_hole_90 rfl (lv_at hl 2 rfl) ?_
      refine va_get (D := K.1) (ci := 7) (v := .ref (ad 7)) (C := RX7) (T := TX7) (N := 17) (pc := 91) hx hb hts inT7 hown hG.1 hP 0 rfl rfl 12 (by decide) (hts _ qf_Mod_29) (fun _ h9 => h9) rfl dX7_hole_91 ?_
      refine lv_iconst (v := (3 : Int32)) (pc := 94) hx hb dX7_hole_94 (by decide) ?_
      refine lv_iload (pc := 95) hx hb dX7_hole_95 (lv_at hl 6 rfl) ?_
      refine lv_imul (pc := 97) hx hb dX7_hole_97 ?_
      refine lv_iconst (v := (2 : Int32)) (pc := 98) hx hb dX7_hole_98 (by decide) ?_
      refine lv_iadd (pc := 99) hx hb dX7_hole_99 ?_
      obtain ⟨v12, h_v12, h⟩ := ob h
      obtain ⟨hi_v12, e_v12⟩ := aget_in h_v12
      refine va_iald (pc := 100) hx hb hG.1 hP 7 0 rfl rfl hi_v12 dX7_hole_100 ?_
      rw [e_v12]
      refine lv_istore (pc := 101) (lv' := [(7, .int v12), (6, .int v11), (5, .int v10), (0, .ref (ad 0)), (1, .int x1), (2, .int x2), (3, .int x3), (4, .int x4)]) hx hb dX7_hole_101 hl (by decide) rfl (fun ls hl => ?_)
      refine lv_iload (pc := 103) hx hb dX7_hole_103 (lv_at hl 2 rfl) ?_
      refine lv_iload_n (pc := 105) hx hb dX7_hole_105 rfl (lv_at hl 4 rfl) ?_
      refine lv_icmp_eq (tgt := 179) (pc := 106) hx hb dX7_hole_106 (by decide) (fun c13 => ?_) (fun c13 => ?_)
      · have h := it_t c13 h
        refine lv_iinc (v := (x4 + (1 : Int32))) (pc := 179) (lv' := [(4, .int (x4 + (1 : Int32))), (7, .int v12), (6, .int v11), (5, .int v10), (0, .ref (ad 0)), (1, .int x1), (2, .int x2), (3, .int x3)]) hx hb dX7_hole_179 hl (k := 7) rfl rfl (by decide) rfl (fun ls hl => ?_)
        refine lv_goto (tgt := 60) (pc := 182) hx hb dX7_hole_182 (by decide) ?_
        exact ih x3 (x4 + (1 : Int32)) out h H locs ls hP hD hS (lv_sub hl [4, 5, 6, 7, 0] rfl) Kx 
      · have h := it_f c13 h
        refine lv_iload (pc := 109) hx hb dX7_hole_109 (lv_at hl 1 rfl) ?_
        refine lv_iload_n (pc := 111) hx hb dX7_hole_111 rfl (lv_at hl 4 rfl) ?_
        refine lv_icmp_eq (tgt := 179) (pc := 112) hx hb dX7_hole_112 (by decide) (fun c14 => ?_) (fun c14 => ?_)
        · have h := it_t c14 h
          refine lv_iinc (v := (x4 + (1 : Int32))) (pc := 179) (lv' := [(4, .int (x4 + (1 : Int32))), (7, .int v12), (6, .int v11), (5, .int v10), (0, .ref (ad 0)), (1, .int x1), (2, .int x2), (3, .int x3)]) hx hb dX7_hole_179 hl (k := 7) rfl rfl (by decide) rfl (fun ls hl => ?_)
          refine lv_goto (tgt := 60) (pc := 182) hx hb dX7_hole_182 (by decide) ?_
          exact ih x3 (x4 + (1 : Int32)) out h H locs ls hP hD hS (lv_sub hl [4, 5, 6, 7, 0] rfl) Kx 
        · have h := it_f c14 h
          refine lv_iload (pc := 115) hx hb dX7_hole_115 (lv_at hl 0 rfl) ?_
          refine lv_iload_n (pc := 117) hx hb dX7_hole_117 rfl (lv_at hl 4 rfl) ?_
          refine lv_icmp_ne (tgt := 124) (pc := 118) hx hb dX7_hole_118 (by decide) (fun c15 => ?_) (fun c15 => ?_)
          · have h := it_f c15 h
            refine lv_aload_n (pc := 124) hx hb dX7_hole_124 rfl (lv_at hl 3 rfl) ?_
            refine lv_iload (pc := 125) hx hb dX7_hole_125 (lv_at hl 2 rfl) ?_
            refine lv_iload_n (pc := 127) hx hb dX7_hole_127 rfl (lv_at hl 4 rfl) ?_
            refine lv_icmp_le (tgt := 138) (pc := 128) hx hb dX7_hole_128 (by decide) (fun c16 => ?_) (fun c16 => ?_)
            · have h := it_t c16 h
              refine lv_iload (pc := 138) hx hb dX7_hole_138 (lv_at hl 2 rfl) ?_
              refine lv_iload (pc := 140) hx hb dX7_hole_140 (lv_at hl 1 rfl) ?_
              refine lv_iload_n (pc := 142) hx hb dX7_hole_142 rfl (lv_at hl 4 rfl) ?_
              refine lv_icmp_le (tgt := 153) (pc := 143) hx hb dX7_hole_143 (by decide) (fun c17 => ?_) (fun c17 => ?_)
              · have h := it_t c17 h
                refine lv_iload (pc := 153) hx hb dX7_hole_153 (lv_at hl 1 rfl) ?_
                refine lv_iload (pc := 155) hx hb dX7_hole_155 (lv_at hl 0 rfl) ?_
                refine lv_iload_n (pc := 157) hx hb dX7_hole_157 rfl (lv_at hl 4 rfl) ?_
                refine lv_icmp_le (tgt := 168) (pc := 158) hx hb dX7_hole_158 (by decide) (fun c18 => ?_) (fun c18 => ?_)
                · have h := it_t c18 h
                  refine lv_iload (pc := 168) hx hb dX7_hole_168 (lv_at hl 0 rfl) ?_
                  obtain ⟨v19, h_v19, h⟩ := ob h
                  refine rdV (pc := 170) (As := [.int v10, .int v11, .int v12]) (rest := []) hx hb hml hown hts hG hP (c_Mod_triangleOf l K ad mthr mnow mold mols msav miss minp mlen mat medg mcor mtri mkep mkee mwor mnum mmet v10 v11 v12 F h_v19) [0, 1, 2, 3, 4, 5, 6, 7, 8, 9, 10, 11] rfl (q0 := 0) rfl (ci := 7) rfl g_Mod_216 hd_Mod_triangleOf rfl ⟨Nat.le_of_ble_eq_true rfl, Nat.le_of_ble_eq_true rfl⟩ ⟨Nat.zero_le _, Nat.zero_le _⟩ hl rfl (Nat.le_of_ble_eq_true rfl) dX7_hole_170 ?_
                  refine lv_if_lt (tgt := 179) (pc := 173) hx hb dX7_hole_173 (by decide) (fun c20 => ?_) (fun c20 => ?_)
                  · have h := it_t c20 h
                    refine lv_iinc (v := (x4 + (1 : Int32))) (pc := 179) (lv' := [(4, .int (x4 + (1 : Int32))), (7, .int v12), (6, .int v11), (5, .int v10), (0, .ref (ad 0)), (1, .int x1), (2, .int x2), (3, .int x3)]) hx hb dX7_hole_179 hl (k := 7) rfl rfl (by decide) rfl (fun ls hl => ?_)
                    refine lv_goto (tgt := 60) (pc := 182) hx hb dX7_hole_182 (by decide) ?_
                    exact ih x3 (x4 + (1 : Int32)) out h H locs ls hP hD hS (lv_sub hl [4, 5, 6, 7, 0] rfl) Kx 
                  · have h := it_f c20 h
                    refine lv_iinc (v := (x3 + (1 : Int32))) (pc := 176) (lv' := [(3, .int (x3 + (1 : Int32))), (7, .int v12), (6, .int v11), (5, .int v10), (0, .ref (ad 0)), (1, .int x1), (2, .int x2), (4, .int x4)]) hx hb dX7_hole_176 hl (k := 6) rfl rfl (by decide) rfl (fun ls hl => ?_)
                    refine lv_iinc (v := (x4 + (1 : Int32))) (pc := 179) (lv' := [(4, .int (x4 + (1 : Int32))), (3, .int (x3 + (1 : Int32))), (7, .int v12), (6, .int v11), (5, .int v10), (0, .ref (ad 0)), (1, .int x1), (2, .int x2)]) hx hb dX7_hole_179 hl (k := 7) rfl rfl (by decide) rfl (fun ls hl => ?_)
                    refine lv_goto (tgt := 60) (pc := 182) hx hb dX7_hole_182 (by decide) ?_
                    exact ih (x3 + (1 : Int32)) (x4 + (1 : Int32)) out h H locs ls hP hD hS (lv_sub hl [5, 6, 7, 1, 0] rfl) Kx 
                · have h := it_f c18 h
                  refine lv_iload (pc := 161) hx hb dX7_hole_161 (lv_at hl 0 rfl) ?_
                  refine lv_iconst (v := (1 : Int32)) (pc := 163) hx hb dX7_hole_163 (by decide) ?_
                  refine lv_isub (pc := 164) hx hb dX7_hole_164 ?_
                  refine lv_goto (tgt := 170) (pc := 165) hx hb dX7_hole_165 (by decide) ?_
                  obtain ⟨v21, h_v21, h⟩ := ob h
                  refine rdV (pc := 170) (As := [.int v10, .int v11, .int (v12 - (1 : Int32))]) (rest := []) hx hb hml hown hts hG hP (c_Mod_triangleOf l K ad mthr mnow mold mols msav miss minp mlen mat medg mcor mtri mkep mkee mwor mnum mmet v10 v11 (v12 - (1 : Int32)) F h_v21) [0, 1, 2, 3, 4, 5, 6, 7, 8, 9, 10, 11] rfl (q0 := 0) rfl (ci := 7) rfl g_Mod_216 hd_Mod_triangleOf rfl ⟨Nat.le_of_ble_eq_true rfl, Nat.le_of_ble_eq_true rfl⟩ ⟨Nat.zero_le _, Nat.zero_le _⟩ hl rfl (Nat.le_of_ble_eq_true rfl) dX7_hole_170 ?_
                  refine lv_if_lt (tgt := 179) (pc := 173) hx hb dX7_hole_173 (by decide) (fun c22 => ?_) (fun c22 => ?_)
                  · have h := it_t c22 h
                    refine lv_iinc (v := (x4 + (1 : Int32))) (pc := 179) (lv' := [(4, .int (x4 + (1 : Int32))), (7, .int v12), (6, .int v11), (5, .int v10), (0, .ref (ad 0)), (1, .int x1), (2, .int x2), (3, .int x3)]) hx hb dX7_hole_179 hl (k := 7) rfl rfl (by decide) rfl (fun ls hl => ?_)
                    refine lv_goto (tgt := 60) (pc := 182) hx hb dX7_hole_182 (by decide) ?_
                    exact ih x3 (x4 + (1 : Int32)) out h H locs ls hP hD hS (lv_sub hl [4, 5, 6, 7, 0] rfl) Kx 
                  · have h := it_f c22 h
                    refine lv_iinc (v := (x3 + (1 : Int32))) (pc := 176) (lv' := [(3, .int (x3 + (1 : Int32))), (7, .int v12), (6, .int v11), (5, .int v10), (0, .ref (ad 0)), (1, .int x1), (2, .int x2), (4, .int x4)]) hx hb dX7_hole_176 hl (k := 6) rfl rfl (by decide) rfl (fun ls hl => ?_)
                    refine lv_iinc (v := (x4 + (1 : Int32))) (pc := 179) (lv' := [(4, .int (x4 + (1 : Int32))), (3, .int (x3 + (1 : Int32))), (7, .int v12), (6, .int v11), (5, .int v10), (0, .ref (ad 0)), (1, .int x1), (2, .int x2)]) hx hb dX7_hole_179 hl (k := 7) rfl rfl (by decide) rfl (fun ls hl => ?_)
                    refine lv_goto (tgt := 60) (pc := 182) hx hb dX7_hole_182 (by decide) ?_
                    exact ih (x3 + (1 : Int32)) (x4 + (1 : Int32)) out h H locs ls hP hD hS (lv_sub hl [5, 6, 7, 1, 0] rfl) Kx 
              · have h := it_f c17 h
                refine lv_iload (pc := 146) hx hb dX7_hole_146 (lv_at hl 1 rfl) ?_
                refine lv_iconst (v := (1 : Int32)) (pc := 148) hx hb dX7_hole_148 (by decide) ?_
                refine lv_isub (pc := 149) hx hb dX7_hole_149 ?_
                refine lv_goto (tgt := 155) (pc := 150) hx hb dX7_hole_150 (by decide) ?_
                refine lv_iload (pc := 155) hx hb dX7_hole_155 (lv_at hl 0 rfl) ?_
                refine lv_iload_n (pc := 157) hx hb dX7_hole_157 rfl (lv_at hl 4 rfl) ?_
                refine lv_icmp_le (tgt := 168) (pc := 158) hx hb dX7_hole_158 (by decide) (fun c23 => ?_) (fun c23 => ?_)
                · have h := it_t c23 h
                  refine lv_iload (pc := 168) hx hb dX7_hole_168 (lv_at hl 0 rfl) ?_
                  obtain ⟨v24, h_v24, h⟩ := ob h
                  refine rdV (pc := 170) (As := [.int v10, .int (v11 - (1 : Int32)), .int v12]) (rest := []) hx hb hml hown hts hG hP (c_Mod_triangleOf l K ad mthr mnow mold mols msav miss minp mlen mat medg mcor mtri mkep mkee mwor mnum mmet v10 (v11 - (1 : Int32)) v12 F h_v24) [0, 1, 2, 3, 4, 5, 6, 7, 8, 9, 10, 11] rfl (q0 := 0) rfl (ci := 7) rfl g_Mod_216 hd_Mod_triangleOf rfl ⟨Nat.le_of_ble_eq_true rfl, Nat.le_of_ble_eq_true rfl⟩ ⟨Nat.zero_le _, Nat.zero_le _⟩ hl rfl (Nat.le_of_ble_eq_true rfl) dX7_hole_170 ?_
                  refine lv_if_lt (tgt := 179) (pc := 173) hx hb dX7_hole_173 (by decide) (fun c25 => ?_) (fun c25 => ?_)
                  · have h := it_t c25 h
                    refine lv_iinc (v := (x4 + (1 : Int32))) (pc := 179) (lv' := [(4, .int (x4 + (1 : Int32))), (7, .int v12), (6, .int v11), (5, .int v10), (0, .ref (ad 0)), (1, .int x1), (2, .int x2), (3, .int x3)]) hx hb dX7_hole_179 hl (k := 7) rfl rfl (by decide) rfl (fun ls hl => ?_)
                    refine lv_goto (tgt := 60) (pc := 182) hx hb dX7_hole_182 (by decide) ?_
                    exact ih x3 (x4 + (1 : Int32)) out h H locs ls hP hD hS (lv_sub hl [4, 5, 6, 7, 0] rfl) Kx 
                  · have h := it_f c25 h
                    refine lv_iinc (v := (x3 + (1 : Int32))) (pc := 176) (lv' := [(3, .int (x3 + (1 : Int32))), (7, .int v12), (6, .int v11), (5, .int v10), (0, .ref (ad 0)), (1, .int x1), (2, .int x2), (4, .int x4)]) hx hb dX7_hole_176 hl (k := 6) rfl rfl (by decide) rfl (fun ls hl => ?_)
                    refine lv_iinc (v := (x4 + (1 : Int32))) (pc := 179) (lv' := [(4, .int (x4 + (1 : Int32))), (3, .int (x3 + (1 : Int32))), (7, .int v12), (6, .int v11), (5, .int v10), (0, .ref (ad 0)), (1, .int x1), (2, .int x2)]) hx hb dX7_hole_179 hl (k := 7) rfl rfl (by decide) rfl (fun ls hl => ?_)
                    refine lv_goto (tgt := 60) (pc := 182) hx hb dX7_hole_182 (by decide) ?_
                    exact ih (x3 + (1 : Int32)) (x4 + (1 : Int32)) out h H locs ls hP hD hS (lv_sub hl [5, 6, 7, 1, 0] rfl) Kx 
                · have h := it_f c23 h
                  refine lv_iload (pc := 161) hx hb dX7_hole_161 (lv_at hl 0 rfl) ?_
                  refine lv_iconst (v := (1 : Int32)) (pc := 163) hx hb dX7_hole_163 (by decide) ?_
                  refine lv_isub (pc := 164) hx hb dX7_hole_164 ?_
                  refine lv_goto (tgt := 170) (pc := 165) hx hb dX7_hole_165 (by decide) ?_
                  obtain ⟨v26, h_v26, h⟩ := ob h
                  refine rdV (pc := 170) (As := [.int v10, .int (v11 - (1 : Int32)), .int (v12 - (1 : Int32))]) (rest := []) hx hb hml hown hts hG hP (c_Mod_triangleOf l K ad mthr mnow mold mols msav miss minp mlen mat medg mcor mtri mkep mkee mwor mnum mmet v10 (v11 - (1 : Int32)) (v12 - (1 : Int32)) F h_v26) [0, 1, 2, 3, 4, 5, 6, 7, 8, 9, 10, 11] rfl (q0 := 0) rfl (ci := 7) rfl g_Mod_216 hd_Mod_triangleOf rfl ⟨Nat.le_of_ble_eq_true rfl, Nat.le_of_ble_eq_true rfl⟩ ⟨Nat.zero_le _, Nat.zero_le _⟩ hl rfl (Nat.le_of_ble_eq_true rfl) dX7_hole_170 ?_
                  refine lv_if_lt (tgt := 179) (pc := 173) hx hb dX7_hole_173 (by decide) (fun c27 => ?_) (fun c27 => ?_)
                  · have h := it_t c27 h
                    refine lv_iinc (v := (x4 + (1 : Int32))) (pc := 179) (lv' := [(4, .int (x4 + (1 : Int32))), (7, .int v12), (6, .int v11), (5, .int v10), (0, .ref (ad 0)), (1, .int x1), (2, .int x2), (3, .int x3)]) hx hb dX7_hole_179 hl (k := 7) rfl rfl (by decide) rfl (fun ls hl => ?_)
                    refine lv_goto (tgt := 60) (pc := 182) hx hb dX7_hole_182 (by decide) ?_
                    exact ih x3 (x4 + (1 : Int32)) out h H locs ls hP hD hS (lv_sub hl [4, 5, 6, 7, 0] rfl) Kx 
                  · have h := it_f c27 h
                    refine lv_iinc (v := (x3 + (1 : Int32))) (pc := 176) (lv' := [(3, .int (x3 + (1 : Int32))), (7, .int v12), (6, .int v11), (5, .int v10), (0, .ref (ad 0)), (1, .int x1), (2, .int x2), (4, .int x4)]) hx hb dX7_hole_176 hl (k := 6) rfl rfl (by decide) rfl (fun ls hl => ?_)
                    refine lv_iinc (v := (x4 + (1 : Int32))) (pc := 179) (lv' := [(4, .int (x4 + (1 : Int32))), (3, .int (x3 + (1 : Int32))), (7, .int v12), (6, .int v11), (5, .int v10), (0, .ref (ad 0)), (1, .int x1), (2, .int x2)]) hx hb dX7_hole_179 hl (k := 7) rfl rfl (by decide) rfl (fun ls hl => ?_)
                    refine lv_goto (tgt := 60) (pc := 182) hx hb dX7_hole_182 (by decide) ?_
                    exact ih (x3 + (1 : Int32)) (x4 + (1 : Int32)) out h H locs ls hP hD hS (lv_sub hl [5, 6, 7, 1, 0] rfl) Kx 
            · have h := it_f c16 h
              refine lv_iload (pc := 131) hx hb dX7_hole_131 (lv_at hl 2 rfl) ?_
              refine lv_iconst (v := (1 : Int32)) (pc := 133) hx hb dX7_hole_133 (by decide) ?_
              refine lv_isub (pc := 134) hx hb dX7_hole_134 ?_
              refine lv_goto (tgt := 140) (pc := 135) hx hb dX7_hole_135 (by decide) ?_
              refine lv_iload (pc := 140) hx hb dX7_hole_140 (lv_at hl 1 rfl) ?_
              refine lv_iload_n (pc := 142) hx hb dX7_hole_142 rfl (lv_at hl 4 rfl) ?_
              refine lv_icmp_le (tgt := 153) (pc := 143) hx hb dX7_hole_143 (by decide) (fun c28 => ?_) (fun c28 => ?_)
              · have h := it_t c28 h
                refine lv_iload (pc := 153) hx hb dX7_hole_153 (lv_at hl 1 rfl) ?_
                refine lv_iload (pc := 155) hx hb dX7_hole_155 (lv_at hl 0 rfl) ?_
                refine lv_iload_n (pc := 157) hx hb dX7_hole_157 rfl (lv_at hl 4 rfl) ?_
                refine lv_icmp_le (tgt := 168) (pc := 158) hx hb dX7_hole_158 (by decide) (fun c29 => ?_) (fun c29 => ?_)
                · have h := it_t c29 h
                  refine lv_iload (pc := 168) hx hb dX7_hole_168 (lv_at hl 0 rfl) ?_
                  obtain ⟨v30, h_v30, h⟩ := ob h
                  refine rdV (pc := 170) (As := [.int (v10 - (1 : Int32)), .int v11, .int v12]) (rest := []) hx hb hml hown hts hG hP (c_Mod_triangleOf l K ad mthr mnow mold mols msav miss minp mlen mat medg mcor mtri mkep mkee mwor mnum mmet (v10 - (1 : Int32)) v11 v12 F h_v30) [0, 1, 2, 3, 4, 5, 6, 7, 8, 9, 10, 11] rfl (q0 := 0) rfl (ci := 7) rfl g_Mod_216 hd_Mod_triangleOf rfl ⟨Nat.le_of_ble_eq_true rfl, Nat.le_of_ble_eq_true rfl⟩ ⟨Nat.zero_le _, Nat.zero_le _⟩ hl rfl (Nat.le_of_ble_eq_true rfl) dX7_hole_170 ?_
                  refine lv_if_lt (tgt := 179) (pc := 173) hx hb dX7_hole_173 (by decide) (fun c31 => ?_) (fun c31 => ?_)
                  · have h := it_t c31 h
                    refine lv_iinc (v := (x4 + (1 : Int32))) (pc := 179) (lv' := [(4, .int (x4 + (1 : Int32))), (7, .int v12), (6, .int v11), (5, .int v10), (0, .ref (ad 0)), (1, .int x1), (2, .int x2), (3, .int x3)]) hx hb dX7_hole_179 hl (k := 7) rfl rfl (by decide) rfl (fun ls hl => ?_)
                    refine lv_goto (tgt := 60) (pc := 182) hx hb dX7_hole_182 (by decide) ?_
                    exact ih x3 (x4 + (1 : Int32)) out h H locs ls hP hD hS (lv_sub hl [4, 5, 6, 7, 0] rfl) Kx 
                  · have h := it_f c31 h
                    refine lv_iinc (v := (x3 + (1 : Int32))) (pc := 176) (lv' := [(3, .int (x3 + (1 : Int32))), (7, .int v12), (6, .int v11), (5, .int v10), (0, .ref (ad 0)), (1, .int x1), (2, .int x2), (4, .int x4)]) hx hb dX7_hole_176 hl (k := 6) rfl rfl (by decide) rfl (fun ls hl => ?_)
                    refine lv_iinc (v := (x4 + (1 : Int32))) (pc := 179) (lv' := [(4, .int (x4 + (1 : Int32))), (3, .int (x3 + (1 : Int32))), (7, .int v12), (6, .int v11), (5, .int v10), (0, .ref (ad 0)), (1, .int x1), (2, .int x2)]) hx hb dX7_hole_179 hl (k := 7) rfl rfl (by decide) rfl (fun ls hl => ?_)
                    refine lv_goto (tgt := 60) (pc := 182) hx hb dX7_hole_182 (by decide) ?_
                    exact ih (x3 + (1 : Int32)) (x4 + (1 : Int32)) out h H locs ls hP hD hS (lv_sub hl [5, 6, 7, 1, 0] rfl) Kx 
                · have h := it_f c29 h
                  refine lv_iload (pc := 161) hx hb dX7_hole_161 (lv_at hl 0 rfl) ?_
                  refine lv_iconst (v := (1 : Int32)) (pc := 163) hx hb dX7_hole_163 (by decide) ?_
                  refine lv_isub (pc := 164) hx hb dX7_hole_164 ?_
                  refine lv_goto (tgt := 170) (pc := 165) hx hb dX7_hole_165 (by decide) ?_
                  obtain ⟨v32, h_v32, h⟩ := ob h
                  refine rdV (pc := 170) (As := [.int (v10 - (1 : Int32)), .int v11, .int (v12 - (1 : Int32))]) (rest := []) hx hb hml hown hts hG hP (c_Mod_triangleOf l K ad mthr mnow mold mols msav miss minp mlen mat medg mcor mtri mkep mkee mwor mnum mmet (v10 - (1 : Int32)) v11 (v12 - (1 : Int32)) F h_v32) [0, 1, 2, 3, 4, 5, 6, 7, 8, 9, 10, 11] rfl (q0 := 0) rfl (ci := 7) rfl g_Mod_216 hd_Mod_triangleOf rfl ⟨Nat.le_of_ble_eq_true rfl, Nat.le_of_ble_eq_true rfl⟩ ⟨Nat.zero_le _, Nat.zero_le _⟩ hl rfl (Nat.le_of_ble_eq_true rfl) dX7_hole_170 ?_
                  refine lv_if_lt (tgt := 179) (pc := 173) hx hb dX7_hole_173 (by decide) (fun c33 => ?_) (fun c33 => ?_)
                  · have h := it_t c33 h
                    refine lv_iinc (v := (x4 + (1 : Int32))) (pc := 179) (lv' := [(4, .int (x4 + (1 : Int32))), (7, .int v12), (6, .int v11), (5, .int v10), (0, .ref (ad 0)), (1, .int x1), (2, .int x2), (3, .int x3)]) hx hb dX7_hole_179 hl (k := 7) rfl rfl (by decide) rfl (fun ls hl => ?_)
                    refine lv_goto (tgt := 60) (pc := 182) hx hb dX7_hole_182 (by decide) ?_
                    exact ih x3 (x4 + (1 : Int32)) out h H locs ls hP hD hS (lv_sub hl [4, 5, 6, 7, 0] rfl) Kx 
                  · have h := it_f c33 h
                    refine lv_iinc (v := (x3 + (1 : Int32))) (pc := 176) (lv' := [(3, .int (x3 + (1 : Int32))), (7, .int v12), (6, .int v11), (5, .int v10), (0, .ref (ad 0)), (1, .int x1), (2, .int x2), (4, .int x4)]) hx hb dX7_hole_176 hl (k := 6) rfl rfl (by decide) rfl (fun ls hl => ?_)
                    refine lv_iinc (v := (x4 + (1 : Int32))) (pc := 179) (lv' := [(4, .int (x4 + (1 : Int32))), (3, .int (x3 + (1 : Int32))), (7, .int v12), (6, .int v11), (5, .int v10), (0, .ref (ad 0)), (1, .int x1), (2, .int x2)]) hx hb dX7_hole_179 hl (k := 7) rfl rfl (by decide) rfl (fun ls hl => ?_)
                    refine lv_goto (tgt := 60) (pc := 182) hx hb dX7_hole_182 (by decide) ?_
                    exact ih (x3 + (1 : Int32)) (x4 + (1 : Int32)) out h H locs ls hP hD hS (lv_sub hl [5, 6, 7, 1, 0] rfl) Kx 
              · have h := it_f c28 h
                refine lv_iload (pc := 146) hx hb dX7_hole_146 (lv_at hl 1 rfl) ?_
                refine lv_iconst (v := (1 : Int32)) (pc := 148) hx hb dX7_hole_148 (by decide) ?_
                refine lv_isub (pc := 149) hx hb dX7_hole_149 ?_
                refine lv_goto (tgt := 155) (pc := 150) hx hb dX7_hole_150 (by decide) ?_
                refine lv_iload (pc := 155) hx hb dX7_hole_155 (lv_at hl 0 rfl) ?_
                refine lv_iload_n (pc := 157) hx hb dX7_hole_157 rfl (lv_at hl 4 rfl) ?_
                refine lv_icmp_le (tgt := 168) (pc := 158) hx hb dX7_hole_158 (by decide) (fun c34 => ?_) (fun c34 => ?_)
                · have h := it_t c34 h
                  refine lv_iload (pc := 168) hx hb dX7_hole_168 (lv_at hl 0 rfl) ?_
                  obtain ⟨v35, h_v35, h⟩ := ob h
                  refine rdV (pc := 170) (As := [.int (v10 - (1 : Int32)), .int (v11 - (1 : Int32)), .int v12]) (rest := []) hx hb hml hown hts hG hP (c_Mod_triangleOf l K ad mthr mnow mold mols msav miss minp mlen mat medg mcor mtri mkep mkee mwor mnum mmet (v10 - (1 : Int32)) (v11 - (1 : Int32)) v12 F h_v35) [0, 1, 2, 3, 4, 5, 6, 7, 8, 9, 10, 11] rfl (q0 := 0) rfl (ci := 7) rfl g_Mod_216 hd_Mod_triangleOf rfl ⟨Nat.le_of_ble_eq_true rfl, Nat.le_of_ble_eq_true rfl⟩ ⟨Nat.zero_le _, Nat.zero_le _⟩ hl rfl (Nat.le_of_ble_eq_true rfl) dX7_hole_170 ?_
                  refine lv_if_lt (tgt := 179) (pc := 173) hx hb dX7_hole_173 (by decide) (fun c36 => ?_) (fun c36 => ?_)
                  · have h := it_t c36 h
                    refine lv_iinc (v := (x4 + (1 : Int32))) (pc := 179) (lv' := [(4, .int (x4 + (1 : Int32))), (7, .int v12), (6, .int v11), (5, .int v10), (0, .ref (ad 0)), (1, .int x1), (2, .int x2), (3, .int x3)]) hx hb dX7_hole_179 hl (k := 7) rfl rfl (by decide) rfl (fun ls hl => ?_)
                    refine lv_goto (tgt := 60) (pc := 182) hx hb dX7_hole_182 (by decide) ?_
                    exact ih x3 (x4 + (1 : Int32)) out h H locs ls hP hD hS (lv_sub hl [4, 5, 6, 7, 0] rfl) Kx 
                  · have h := it_f c36 h
                    refine lv_iinc (v := (x3 + (1 : Int32))) (pc := 176) (lv' := [(3, .int (x3 + (1 : Int32))), (7, .int v12), (6, .int v11), (5, .int v10), (0, .ref (ad 0)), (1, .int x1), (2, .int x2), (4, .int x4)]) hx hb dX7_hole_176 hl (k := 6) rfl rfl (by decide) rfl (fun ls hl => ?_)
                    refine lv_iinc (v := (x4 + (1 : Int32))) (pc := 179) (lv' := [(4, .int (x4 + (1 : Int32))), (3, .int (x3 + (1 : Int32))), (7, .int v12), (6, .int v11), (5, .int v10), (0, .ref (ad 0)), (1, .int x1), (2, .int x2)]) hx hb dX7_hole_179 hl (k := 7) rfl rfl (by decide) rfl (fun ls hl => ?_)
                    refine lv_goto (tgt := 60) (pc := 182) hx hb dX7_hole_182 (by decide) ?_
                    exact ih (x3 + (1 : Int32)) (x4 + (1 : Int32)) out h H locs ls hP hD hS (lv_sub hl [5, 6, 7, 1, 0] rfl) Kx 
                · have h := it_f c34 h
                  refine lv_iload (pc := 161) hx hb dX7_hole_161 (lv_at hl 0 rfl) ?_
                  refine lv_iconst (v := (1 : Int32)) (pc := 163) hx hb dX7_hole_163 (by decide) ?_
                  refine lv_isub (pc := 164) hx hb dX7_hole_164 ?_
                  refine lv_goto (tgt := 170) (pc := 165) hx hb dX7_hole_165 (by decide) ?_
                  obtain ⟨v37, h_v37, h⟩ := ob h
                  refine rdV (pc := 170) (As := [.int (v10 - (1 : Int32)), .int (v11 - (1 : Int32)), .int (v12 - (1 : Int32))]) (rest := []) hx hb hml hown hts hG hP (c_Mod_triangleOf l K ad mthr mnow mold mols msav miss minp mlen mat medg mcor mtri mkep mkee mwor mnum mmet (v10 - (1 : Int32)) (v11 - (1 : Int32)) (v12 - (1 : Int32)) F h_v37) [0, 1, 2, 3, 4, 5, 6, 7, 8, 9, 10, 11] rfl (q0 := 0) rfl (ci := 7) rfl g_Mod_216 hd_Mod_triangleOf rfl ⟨Nat.le_of_ble_eq_true rfl, Nat.le_of_ble_eq_true rfl⟩ ⟨Nat.zero_le _, Nat.zero_le _⟩ hl rfl (Nat.le_of_ble_eq_true rfl) dX7_hole_170 ?_
                  refine lv_if_lt (tgt := 179) (pc := 173) hx hb dX7_hole_173 (by decide) (fun c38 => ?_) (fun c38 => ?_)
                  · have h := it_t c38 h
                    refine lv_iinc (v := (x4 + (1 : Int32))) (pc := 179) (lv' := [(4, .int (x4 + (1 : Int32))), (7, .int v12), (6, .int v11), (5, .int v10), (0, .ref (ad 0)), (1, .int x1), (2, .int x2), (3, .int x3)]) hx hb dX7_hole_179 hl (k := 7) rfl rfl (by decide) rfl (fun ls hl => ?_)
                    refine lv_goto (tgt := 60) (pc := 182) hx hb dX7_hole_182 (by decide) ?_
                    exact ih x3 (x4 + (1 : Int32)) out h H locs ls hP hD hS (lv_sub hl [4, 5, 6, 7, 0] rfl) Kx 
                  · have h := it_f c38 h
                    refine lv_iinc (v := (x3 + (1 : Int32))) (pc := 176) (lv' := [(3, .int (x3 + (1 : Int32))), (7, .int v12), (6, .int v11), (5, .int v10), (0, .ref (ad 0)), (1, .int x1), (2, .int x2), (4, .int x4)]) hx hb dX7_hole_176 hl (k := 6) rfl rfl (by decide) rfl (fun ls hl => ?_)
                    refine lv_iinc (v := (x4 + (1 : Int32))) (pc := 179) (lv' := [(4, .int (x4 + (1 : Int32))), (3, .int (x3 + (1 : Int32))), (7, .int v12), (6, .int v11), (5, .int v10), (0, .ref (ad 0)), (1, .int x1), (2, .int x2)]) hx hb dX7_hole_179 hl (k := 7) rfl rfl (by decide) rfl (fun ls hl => ?_)
                    refine lv_goto (tgt := 60) (pc := 182) hx hb dX7_hole_182 (by decide) ?_
                    exact ih (x3 + (1 : Int32)) (x4 + (1 : Int32)) out h H locs ls hP hD hS (lv_sub hl [5, 6, 7, 1, 0] rfl) Kx 
          · have h := it_t c15 h
            refine lv_goto (tgt := 179) (pc := 121) hx hb dX7_hole_121 (by decide) ?_
            refine lv_iinc (v := (x4 + (1 : Int32))) (pc := 179) (lv' := [(4, .int (x4 + (1 : Int32))), (7, .int v12), (6, .int v11), (5, .int v10), (0, .ref (ad 0)), (1, .int x1), (2, .int x2), (3, .int x3)]) hx hb dX7_hole_179 hl (k := 7) rfl rfl (by decide) rfl (fun ls hl => ?_)
            refine lv_goto (tgt := 60) (pc := 182) hx hb dX7_hole_182 (by decide) ?_
            exact ih x3 (x4 + (1 : Int32)) out h H locs ls hP hD hS (lv_sub hl [4, 5, 6, 7, 0] rfl) Kx 
set_option maxHeartbeats 4000000 in
set_option maxRecDepth 100000 in
theorem c_Mod_hole (l : Launch) (K : KT) (ad : Nat → Nat) (mthr : Int32) (mnow : Nat → Int32) (mold : Nat → Int32) (mols : Int32) (msav : Nat → Int32) (miss : Bool) (minp : Nat → Int32) (mlen : Int32) (mat : Int32) (medg : Nat → Int32) (mcor : Nat → Int32) (mtri : Int32) (mkep : Nat → Int32) (mkee : Nat → Int32) (mwor : Nat → Int32) (mnum : Nat → Int32) (mmet : Nat → Int32) (a0 : Int32) (F : Nat) {o : Int32 × Int32 × (Nat → Int32) × (Nat → Int32) × (Nat → Int32) × Int32 × (Nat → Int32) × (Nat → Int32) × (Nat → Int32)} (h : s_Mod_hole F mnow medg mcor mtri mkep mkee mwor a0 = some o) : Wr l K 7 yX7_hole cX7_hole 8 (some .int) [.ref (ad 0), .int a0] (wMod K ad mthr mnow mold mols msav miss minp mlen mat medg mcor mtri mkep mkee mwor mnum mmet) (some (.int o.1)) (wMod K ad o.2.1 o.2.2.1 mold mols msav miss minp mlen mat o.2.2.2.1 o.2.2.2.2.1 o.2.2.2.2.2.1 o.2.2.2.2.2.2.1 o.2.2.2.2.2.2.2.1 o.2.2.2.2.2.2.2.2 mnum mmet) := by
  refine Wr.of (by decide +kernel) (Nat.le_of_ble_eq_true rfl) ?_
  unfold s_Mod_hole at h
  intro p e s m below meth c hx hb hr hml hown hts hlk H locs hP hG hD hS ls hl
  have C0 : Ctx p m c cX7_hole 8 s (Array.mk [.ref (ad 0), .int a0]) RX7 K meth (some .int) := ⟨hx, hb, hml, hown, hts, hG, hr, hlk⟩
  have hl : lv_has ls 8 [(0, .ref (ad 0)), (1, .int a0)] := hl
  refine lv_aload_n (pc := 0) hx hb dX7_hole_0 rfl (lv_at hl 0 rfl) ?_
  refine lv_iconst (v := (0 : Int32)) (pc := 1) hx hb dX7_hole_1 (by decide) ?_
  refine va_put (D := K.1) (ci := 7) (v := .int (0 : Int32)) (ty := .int) (C := RX7) (T := TX7) (N := 17) (pc := 2) hx hb hts inT7 tyX7 tyX7_ok nmX7 hown hG.1 hP hD hS 0 rfl rfl 0 (by decide) (hts _ qf_Mod_44) (fun _ h9 => h9) rfl (by decide +kernel) rfl rfl (Nat.le_of_ble_eq_true rfl) dX7_hole_2 (fun H locs hP hD hS => ?_)
  have hP : va_P K.1 vC (wMod K ad (0 : Int32) mnow mold mols msav miss minp mlen mat medg mcor mtri mkep mkee mwor mnum mmet) H := hP
  have hD : va_D _ (wMod K ad (0 : Int32) mnow mold mols msav miss minp mlen mat medg mcor mtri mkep mkee mwor mnum mmet) := hD
  refine lv_aload_n (pc := 5) hx hb dX7_hole_5 rfl (lv_at hl 0 rfl) ?_
  refine lv_iload_n (pc := 6) hx hb dX7_hole_6 rfl (lv_at hl 1 rfl) ?_
  obtain ⟨v1, h_v1, h⟩ := ob h
  refine rdV (pc := 7) (As := [.int a0]) (rest := []) hx hb hml hown hts hG hP (c_Mod_isPoint l K ad (0 : Int32) mnow mold mols msav miss minp mlen mat medg mcor mtri mkep mkee mwor mnum mmet a0 h_v1) [0, 1, 2, 3, 4, 5, 6, 7, 8, 9, 10, 11] rfl (q0 := 0) rfl (ci := 7) rfl g_Mod_168 hd_Mod_isPoint rfl ⟨Nat.le_of_ble_eq_true rfl, Nat.le_of_ble_eq_true rfl⟩ ⟨Nat.zero_le _, Nat.zero_le _⟩ hl rfl (Nat.le_of_ble_eq_true rfl) dX7_hole_7 ?_
  refine lv_if_ne (tgt := 19) (pc := 10) hx hb dX7_hole_10 (by decide) (fun c2 => ?_) (fun c2 => ?_)
  · have h := it_f c2 h
    refine lv_aload_n (pc := 19) hx hb dX7_hole_19 rfl (lv_at hl 0 rfl) ?_
    refine lv_iload_n (pc := 20) hx hb dX7_hole_20 rfl (lv_at hl 1 rfl) ?_
    obtain ⟨v3, h_v3, h⟩ := ob h
    refine rdV (pc := 21) (As := [.int a0]) (rest := []) hx hb hml hown hts hG hP (c_Mod_isEnd l K ad (0 : Int32) mnow mold mols msav miss minp mlen mat medg mcor mtri mkep mkee mwor mnum mmet a0 F h_v3) [0, 1, 2, 3, 4, 5, 6, 7, 8, 9, 10, 11] rfl (q0 := 0) rfl (ci := 7) rfl g_Mod_175 hd_Mod_isEnd rfl ⟨Nat.le_of_ble_eq_true rfl, Nat.le_of_ble_eq_true rfl⟩ ⟨Nat.zero_le _, Nat.zero_le _⟩ hl rfl (Nat.le_of_ble_eq_true rfl) dX7_hole_21 ?_
    refine lv_if_eq (tgt := 33) (pc := 24) hx hb dX7_hole_24 (by decide) (fun c4 => ?_) (fun c4 => ?_)
    · have h := it_t c4 h
      refine lv_aload_n (pc := 33) hx hb dX7_hole_33 rfl (lv_at hl 0 rfl) ?_
      obtain ⟨v5, h_v5, h⟩ := ob h
      refine wrVv (pc := 34) (As := []) (rest := []) (ws2 := wMod K ad (0 : Int32) mnow mold mols msav miss minp mlen mat v5.1 v5.2.1 v5.2.2 mkep mkee mwor mnum mmet) (as9 := [ad 0, ad 1, ad 2, ad 3, ad 4, ad 5, ad 6, ad 7, ad 8, ad 9, ad 10, ad 11]) hx hb hml hown hts hG hP hD hS (c_Mod_builds l K ad (0 : Int32) mnow mold mols msav miss minp mlen mat medg mcor mtri mkep mkee mwor mnum mmet F h_v5) [0, 1, 2, 3, 4, 5, 6, 7, 8, 9, 10, 11] rfl rfl rfl rfl [.inl 0, .inl 1, .inl 2, .inl 3, .inl 4, .inl 5, .inl 6, .inl 7, .inl 8, .inl 9, .inl 10, .inl 11] (by decide +kernel) rfl (q0 := 0) rfl (ci := 7) rfl g_Mod_210 hd_Mod_builds rfl ⟨Nat.le_of_ble_eq_true rfl, Nat.le_of_ble_eq_true rfl⟩ ⟨Nat.zero_le _, Nat.zero_le _⟩ hl rfl (Nat.le_of_ble_eq_true rfl) dX7_hole_34 (fun H locs hP hD hS => ?_)
      refine lv_aload_n (pc := 37) hx hb dX7_hole_37 rfl (lv_at hl 0 rfl) ?_
      obtain ⟨v6, h_v6, h⟩ := ob h
      refine wrVv (pc := 38) (As := []) (rest := []) (ws2 := wMod K ad (0 : Int32) mnow mold mols msav miss minp mlen mat v5.1 v5.2.1 v5.2.2 v6.1 v6.2.1 v6.2.2 mnum mmet) (as9 := [ad 0, ad 1, ad 2, ad 3, ad 4, ad 5, ad 6, ad 7, ad 8, ad 9, ad 10, ad 11]) hx hb hml hown hts hG hP hD hS (c_Mod_keeps l K ad (0 : Int32) mnow mold mols msav miss minp mlen mat v5.1 v5.2.1 v5.2.2 mkep mkee mwor mnum mmet F h_v6) [0, 1, 2, 3, 4, 5, 6, 7, 8, 9, 10, 11] rfl rfl rfl rfl [.inl 0, .inl 1, .inl 2, .inl 3, .inl 4, .inl 5, .inl 6, .inl 7, .inl 8, .inl 9, .inl 10, .inl 11] (by decide +kernel) rfl (q0 := 0) rfl (ci := 7) rfl g_Mod_256 hd_Mod_keeps rfl ⟨Nat.le_of_ble_eq_true rfl, Nat.le_of_ble_eq_true rfl⟩ ⟨Nat.zero_le _, Nat.zero_le _⟩ hl rfl (Nat.le_of_ble_eq_true rfl) dX7_hole_38 (fun H locs hP hD hS => ?_)
      refine lv_aload_n (pc := 41) hx hb dX7_hole_41 rfl (lv_at hl 0 rfl) ?_
      refine va_get (D := K.1) (ci := 7) (v := .int v5.2.2) (C := RX7) (T := TX7) (N := 17) (pc := 42) hx hb hts inT7 hown hG.1 hP 0 rfl rfl 11 (by decide) (hts _ qf_Mod_114) (fun _ h9 => h9) rfl dX7_hole_42 ?_
      refine lv_istore_n (pc := 45) (lv' := [(2, .int v5.2.2), (0, .ref (ad 0)), (1, .int a0)]) hx hb dX7_hole_45 rfl hl (by decide) rfl (fun ls hl => ?_)
      refine lv_aload_n (pc := 46) hx hb dX7_hole_46 rfl (lv_at hl 1 rfl) ?_
      refine lv_iload_n (pc := 47) hx hb dX7_hole_47 rfl (lv_at hl 2 rfl) ?_
      obtain ⟨v7, h_v7, h⟩ := ob h
      refine wrVv (pc := 48) (As := [.int a0]) (rest := []) (ws2 := wMod K ad (0 : Int32) v7 mold mols msav miss minp mlen mat v5.1 v5.2.1 v5.2.2 v6.1 v6.2.1 v6.2.2 mnum mmet) (as9 := [ad 0, ad 1, ad 2, ad 3, ad 4, ad 5, ad 6, ad 7, ad 8, ad 9, ad 10, ad 11]) hx hb hml hown hts hG hP hD hS (c_Mod_drops l K ad (0 : Int32) mnow mold mols msav miss minp mlen mat v5.1 v5.2.1 v5.2.2 v6.1 v6.2.1 v6.2.2 mnum mmet a0 F h_v7) [0, 1, 2, 3, 4, 5, 6, 7, 8, 9, 10, 11] rfl rfl rfl rfl [.inl 0, .inl 1, .inl 2, .inl 3, .inl 4, .inl 5, .inl 6, .inl 7, .inl 8, .inl 9, .inl 10, .inl 11] (by decide +kernel) rfl (q0 := 0) rfl (ci := 7) rfl g_Mod_178 hd_Mod_drops rfl ⟨Nat.le_of_ble_eq_true rfl, Nat.le_of_ble_eq_true rfl⟩ ⟨Nat.zero_le _, Nat.zero_le _⟩ hl rfl (Nat.le_of_ble_eq_true rfl) dX7_hole_48 (fun H locs hP hD hS => ?_)
      refine lv_aload_n (pc := 51) hx hb dX7_hole_51 rfl (lv_at hl 1 rfl) ?_
      obtain ⟨v8, h_v8, h⟩ := ob h
      refine wrVv (pc := 52) (As := []) (rest := []) (ws2 := wMod K ad (0 : Int32) v7 mold mols msav miss minp mlen mat v8.1 v8.2.1 v8.2.2 v6.1 v6.2.1 v6.2.2 mnum mmet) (as9 := [ad 0, ad 1, ad 2, ad 3, ad 4, ad 5, ad 6, ad 7, ad 8, ad 9, ad 10, ad 11]) hx hb hml hown hts hG hP hD hS (c_Mod_builds l K ad (0 : Int32) v7 mold mols msav miss minp mlen mat v5.1 v5.2.1 v5.2.2 v6.1 v6.2.1 v6.2.2 mnum mmet F h_v8) [0, 1, 2, 3, 4, 5, 6, 7, 8, 9, 10, 11] rfl rfl rfl rfl [.inl 0, .inl 1, .inl 2, .inl 3, .inl 4, .inl 5, .inl 6, .inl 7, .inl 8, .inl 9, .inl 10, .inl 11] (by decide +kernel) rfl (q0 := 0) rfl (ci := 7) rfl g_Mod_210 hd_Mod_builds rfl ⟨Nat.le_of_ble_eq_true rfl, Nat.le_of_ble_eq_true rfl⟩ ⟨Nat.zero_le _, Nat.zero_le _⟩ hl rfl (Nat.le_of_ble_eq_true rfl) dX7_hole_52 (fun H locs hP hD hS => ?_)
      refine lv_iconst (v := (0 : Int32)) (pc := 55) hx hb dX7_hole_55 (by decide) ?_
      refine lv_istore_n (pc := 56) (lv' := [(3, .int (0 : Int32)), (2, .int v5.2.2), (0, .ref (ad 0)), (1, .int a0)]) hx hb dX7_hole_56 rfl hl (by decide) rfl (fun ls hl => ?_)
      refine lv_iconst (v := (0 : Int32)) (pc := 57) hx hb dX7_hole_57 (by decide) ?_
      refine lv_istore (pc := 58) (lv' := [(4, .int (0 : Int32)), (3, .int (0 : Int32)), (2, .int v5.2.2), (0, .ref (ad 0)), (1, .int a0)]) hx hb dX7_hole_58 hl (by decide) rfl (fun ls hl => ?_)
      obtain ⟨o39, h_o39, h⟩ := ob h
      refine l_Mod_hole_L60 C0 F ad (0 : Int32) v7 mold mols msav miss minp mlen mat v8.1 v8.2.1 v8.2.2 v6.1 v6.2.1 v6.2.2 mnum mmet a0 v5.2.2 F (0 : Int32) (0 : Int32) _ h_o39 H locs ls hP hD hS (lv_sub hl [3, 4, 2, 1, 0] rfl) (fun o39x H locs ls eo hP hD hS hl => ?_)
      subst o39
      refine lv_aload_n (pc := 185) hx hb dX7_hole_185 rfl (lv_at hl 0 rfl) ?_
      refine va_get (D := K.1) (ci := 7) (v := .int v8.2.2) (C := RX7) (T := TX7) (N := 17) (pc := 186) hx hb hts inT7 hown hG.1 hP 0 rfl rfl 11 (by decide) (hts _ qf_Mod_114) (fun _ h9 => h9) rfl dX7_hole_186 ?_
      refine lv_istore (pc := 189) (lv' := [(4, .int v8.2.2), (0, .ref (ad 0)), (1, .int a0), (2, .int v5.2.2), (3, .int o39x.1)]) hx hb dX7_hole_189 hl (by decide) rfl (fun ls hl => ?_)
      refine lv_aload_n (pc := 191) hx hb dX7_hole_191 rfl (lv_at hl 1 rfl) ?_
      obtain ⟨v40, h_v40, h⟩ := ob h
      refine wrVv (pc := 192) (As := []) (rest := []) (ws2 := wMod K ad (0 : Int32) v40 mold mols msav miss minp mlen mat v8.1 v8.2.1 v8.2.2 v6.1 v6.2.1 v6.2.2 mnum mmet) (as9 := [ad 0, ad 1, ad 2, ad 3, ad 4, ad 5, ad 6, ad 7, ad 8, ad 9, ad 10, ad 11]) hx hb hml hown hts hG hP hD hS (c_Mod_goesBack l K ad (0 : Int32) v7 mold mols msav miss minp mlen mat v8.1 v8.2.1 v8.2.2 v6.1 v6.2.1 v6.2.2 mnum mmet F h_v40) [0, 1, 2, 3, 4, 5, 6, 7, 8, 9, 10, 11] rfl rfl rfl rfl [.inl 0, .inl 1, .inl 2, .inl 3, .inl 4, .inl 5, .inl 6, .inl 7, .inl 8, .inl 9, .inl 10, .inl 11] (by decide +kernel) rfl (q0 := 0) rfl (ci := 7) rfl g_Mod_259 hd_Mod_goesBack rfl ⟨Nat.le_of_ble_eq_true rfl, Nat.le_of_ble_eq_true rfl⟩ ⟨Nat.zero_le _, Nat.zero_le _⟩ hl rfl (Nat.le_of_ble_eq_true rfl) dX7_hole_192 (fun H locs hP hD hS => ?_)
      refine lv_iload (pc := 195) hx hb dX7_hole_195 (lv_at hl 0 rfl) ?_
      refine lv_iload_n (pc := 197) hx hb dX7_hole_197 rfl (lv_at hl 4 rfl) ?_
      refine lv_isub (pc := 198) hx hb dX7_hole_198 ?_
      obtain rfl := Option.some.inj h
      exact W.iret hx hb hr (fun t ht hW => ⟨⟨rfl, by rw [ht]; exact hP⟩, hS.F ht⟩) hS.2.2 dX7_hole_199 hlk
    · have h := it_f c4 h
      refine lv_aload_n (pc := 27) hx hb dX7_hole_27 rfl (lv_at hl 0 rfl) ?_
      refine lv_iconst (v := (2 : Int32)) (pc := 28) hx hb dX7_hole_28 (by decide) ?_
      refine wrVi (pc := 29) (As := [.int (2 : Int32)]) (rest := []) (ws2 := wMod K ad ((s_Mod_raises (2 : Int32)).2) mnow mold mols msav miss minp mlen mat medg mcor mtri mkep mkee mwor mnum mmet) (as9 := [ad 0, ad 1, ad 2, ad 3, ad 4, ad 5, ad 6, ad 7, ad 8, ad 9, ad 10, ad 11]) hx hb hml hown hts hG hP hD hS (c_Mod_raises l K ad (0 : Int32) mnow mold mols msav miss minp mlen mat medg mcor mtri mkep mkee mwor mnum mmet (2 : Int32)) [0, 1, 2, 3, 4, 5, 6, 7, 8, 9, 10, 11] rfl rfl rfl rfl [.inl 0, .inl 1, .inl 2, .inl 3, .inl 4, .inl 5, .inl 6, .inl 7, .inl 8, .inl 9, .inl 10, .inl 11] (by decide +kernel) rfl (q0 := 0) rfl (ci := 7) rfl g_Mod_172 hd_Mod_raises rfl ⟨Nat.le_of_ble_eq_true rfl, Nat.le_of_ble_eq_true rfl⟩ ⟨Nat.zero_le _, Nat.zero_le _⟩ hl rfl (Nat.le_of_ble_eq_true rfl) dX7_hole_29 (fun H locs hP hD hS => ?_)
      obtain rfl := Option.some.inj h
      exact W.iret hx hb hr (fun t ht hW => ⟨⟨rfl, by rw [ht]; exact hP⟩, hS.F ht⟩) hS.2.2 dX7_hole_32 hlk
  · have h := it_t c2 h
    refine lv_aload_n (pc := 13) hx hb dX7_hole_13 rfl (lv_at hl 0 rfl) ?_
    refine lv_iconst (v := (1 : Int32)) (pc := 14) hx hb dX7_hole_14 (by decide) ?_
    refine wrVi (pc := 15) (As := [.int (1 : Int32)]) (rest := []) (ws2 := wMod K ad ((s_Mod_raises (1 : Int32)).2) mnow mold mols msav miss minp mlen mat medg mcor mtri mkep mkee mwor mnum mmet) (as9 := [ad 0, ad 1, ad 2, ad 3, ad 4, ad 5, ad 6, ad 7, ad 8, ad 9, ad 10, ad 11]) hx hb hml hown hts hG hP hD hS (c_Mod_raises l K ad (0 : Int32) mnow mold mols msav miss minp mlen mat medg mcor mtri mkep mkee mwor mnum mmet (1 : Int32)) [0, 1, 2, 3, 4, 5, 6, 7, 8, 9, 10, 11] rfl rfl rfl rfl [.inl 0, .inl 1, .inl 2, .inl 3, .inl 4, .inl 5, .inl 6, .inl 7, .inl 8, .inl 9, .inl 10, .inl 11] (by decide +kernel) rfl (q0 := 0) rfl (ci := 7) rfl g_Mod_172 hd_Mod_raises rfl ⟨Nat.le_of_ble_eq_true rfl, Nat.le_of_ble_eq_true rfl⟩ ⟨Nat.zero_le _, Nat.zero_le _⟩ hl rfl (Nat.le_of_ble_eq_true rfl) dX7_hole_15 (fun H locs hP hD hS => ?_)
    obtain rfl := Option.some.inj h
    exact W.iret hx hb hr (fun t ht hW => ⟨⟨rfl, by rw [ht]; exact hP⟩, hS.F ht⟩) hS.2.2 dX7_hole_18 hlk
set_option maxHeartbeats 4000000 in
set_option maxRecDepth 100000 in
theorem l_Mod_crossings_L62 {p : Program} {l : Launch} {e : Env} {s : State} {m : MethodId} {args : Array Value} {below : List Frame} {meth : Method} {c : Code} {Q : State → Prop} {K : KT} {A : Nat → Prop} (C0 : Ctx p m c cX7_crossings 6 s args RX7 K meth (some .int)) (F : Nat) (ad : Nat → Nat) (mthr : Int32) (mnow : Nat → Int32) (mold : Nat → Int32) (mols : Int32) (msav : Nat → Int32) (miss : Bool) (minp : Nat → Int32) (mlen : Int32) (mat : Int32) (medg : Nat → Int32) (mcor : Nat → Int32) (mtri : Int32) (mkep : Nat → Int32) (mkee : Nat → Int32) (mwor : Nat → Int32) (mnum : Nat → Int32) (mmet : Nat → Int32) (x1 : Int32) (x2 : Int32) (x4 : Int32)  : ∀ (n : Nat) (x3 : Int32) (x5 : Int32) (out : Int32 × Int32), s_Mod_crossings_L62 mnow medg x1 x2 x4 n x3 x5 = some out → ∀ (H : Heap) (locs : List Loc) (ls : Array Slot), va_P K.1 vC (wMod K ad mthr mnow mold mols msav miss minp mlen mat medg mcor mtri mkep mkee mwor mnum mmet) H → va_D A (wMod K ad mthr mnow mold mols msav miss minp mlen mat medg mcor mtri mkep mkee mwor mnum mmet) → va_S A s.heap H locs → lv_has ls 6 [(0, .ref (ad 0)), (1, .int x1), (2, .int x2), (3, .int x3), (4, .int x4), (5, .int x5)] → (∀ (o : Int32 × Int32) (H : Heap) (locs : List Loc) (ls : Array Slot), out = o → va_P K.1 vC (wMod K ad mthr mnow mold mols msav miss minp mlen mat medg mcor mtri mkep mkee mwor mnum mmet) H → va_D A (wMod K ad mthr mnow mold mols msav miss minp mlen mat medg mcor mtri mkep mkee mwor mnum mmet) → va_S A s.heap H locs → lv_has ls 6 [(0, .ref (ad 0)), (1, .int x1), (2, .int x2), (3, .int o.1), (4, .int x4), (5, .int o.2)] → W p l e (rmL 7) s m args below meth c H locs 0 0 Q (F0 m 104 ls [])) → W p l e (rmL 7) s m args below meth c H locs 0 0 Q (F0 m 62 ls []) := by
  obtain ⟨hx, hb, hml, hown, hts, hG, hr, hlk⟩ := id C0
  intro n
  induction n with
  | zero =>
    intro x3 x5 out h
    cases h
  | succ n ih =>
    intro x3 x5 out h H locs ls hP hD hS hl Kx 
    rw [s_Mod_crossings_L62.eq_2] at h
    refine lv_iload (pc := 62) hx hb dX7_crossings_62 (lv_at hl 5 rfl) ?_
    refine lv_aload_n (pc := 64) hx hb dX7_crossings_64 rfl (lv_at hl 0 rfl) ?_
    obtain ⟨v9, h_v9, h⟩ := ob h
    refine rdV (pc := 65) (As := []) (rest := [.int x5]) hx hb hml hown hts hG hP (c_Mod_n l K ad mthr mnow mold mols msav miss minp mlen mat medg mcor mtri mkep mkee mwor mnum mmet h_v9) [0, 1, 2, 3, 4, 5, 6, 7, 8, 9, 10, 11] rfl (q0 := 0) rfl (ci := 7) rfl g_Mod_48 hd_Mod_n rfl ⟨Nat.le_of_ble_eq_true rfl, Nat.le_of_ble_eq_true rfl⟩ ⟨Nat.zero_le _, Nat.zero_le _⟩ hl rfl (Nat.le_of_ble_eq_true rfl) dX7_crossings_65 ?_
    refine lv_icmp_ge (tgt := 104) (pc := 68) hx hb dX7_crossings_68 (by decide) (fun c10 => ?_) (fun c10 => ?_)
    · have h := it_t c10 h
      obtain rfl := Option.some.inj h
      exact Kx _ H locs ls rfl hP hD hS (lv_sub hl [0, 1, 2, 3, 4, 5] rfl)
    · have h := it_f c10 h
      refine lv_aload_n (pc := 71) hx hb dX7_crossings_71 rfl (lv_at hl 0 rfl) ?_
      refine lv_iload (pc := 72) hx hb dX7_crossings_72 (lv_at hl 4 rfl) ?_
      refine lv_iload (pc := 74) hx hb dX7_crossings_74 (lv_at hl 5 rfl) ?_
      obtain ⟨v11, h_v11, h⟩ := ob h
      refine rdV (pc := 76) (As := [.int x4, .int x5]) (rest := []) hx hb hml hown hts hG hP (c_Mod_has l K ad mthr mnow mold mols msav miss minp mlen mat medg mcor mtri mkep mkee mwor mnum mmet x4 x5 h_v11) [0, 1, 2, 3, 4, 5, 6, 7, 8, 9, 10, 11] rfl (q0 := 0) rfl (ci := 7) rfl g_Mod_104 hd_Mod_has rfl ⟨Nat.le_of_ble_eq_true rfl, Nat.le_of_ble_eq_true rfl⟩ ⟨Nat.zero_le _, Nat.zero_le _⟩ hl rfl (Nat.le_of_ble_eq_true rfl) dX7_crossings_76 ?_
      refine lv_if_eq (tgt := 98) (pc := 79) hx hb dX7_crossings_79 (by decide) (fun c12 => ?_) (fun c12 => ?_)
      · have h := it_t c12 h
        refine lv_iinc (v := (x5 + (1 : Int32))) (pc := 98) (lv' := [(5, .int (x5 + (1 : Int32))), (0, .ref (ad 0)), (1, .int x1), (2, .int x2), (3, .int x3), (4, .int x4)]) hx hb dX7_crossings_98 hl (k := 5) rfl rfl (by decide) rfl (fun ls hl => ?_)
        refine lv_goto (tgt := 62) (pc := 101) hx hb dX7_crossings_101 (by decide) ?_
        exact ih x3 (x5 + (1 : Int32)) out h H locs ls hP hD hS (lv_sub hl [1, 2, 3, 4, 5, 0] rfl) Kx 
      · have h := it_f c12 h
        refine lv_aload_n (pc := 82) hx hb dX7_crossings_82 rfl (lv_at hl 0 rfl) ?_
        refine lv_iload_n (pc := 83) hx hb dX7_crossings_83 rfl (lv_at hl 1 rfl) ?_
        refine lv_iload_n (pc := 84) hx hb dX7_crossings_84 rfl (lv_at hl 2 rfl) ?_
        refine lv_iload (pc := 85) hx hb dX7_crossings_85 (lv_at hl 4 rfl) ?_
        refine lv_iload (pc := 87) hx hb dX7_crossings_87 (lv_at hl 5 rfl) ?_
        obtain ⟨v13, h_v13, h⟩ := ob h
        refine rdV (pc := 89) (As := [.int x1, .int x2, .int x4, .int x5]) (rest := []) hx hb hml hown hts hG hP (c_Mod_cross l K ad mthr mnow mold mols msav miss minp mlen mat medg mcor mtri mkep mkee mwor mnum mmet x1 x2 x4 x5 h_v13) [0, 1, 2, 3, 4, 5, 6, 7, 8, 9, 10, 11] rfl (q0 := 0) rfl (ci := 7) rfl g_Mod_111 hd_Mod_cross rfl ⟨Nat.le_of_ble_eq_true rfl, Nat.le_of_ble_eq_true rfl⟩ ⟨Nat.zero_le _, Nat.zero_le _⟩ hl rfl (Nat.le_of_ble_eq_true rfl) dX7_crossings_89 ?_
        refine lv_if_eq (tgt := 98) (pc := 92) hx hb dX7_crossings_92 (by decide) (fun c14 => ?_) (fun c14 => ?_)
        · have h := it_t c14 h
          refine lv_iinc (v := (x5 + (1 : Int32))) (pc := 98) (lv' := [(5, .int (x5 + (1 : Int32))), (0, .ref (ad 0)), (1, .int x1), (2, .int x2), (3, .int x3), (4, .int x4)]) hx hb dX7_crossings_98 hl (k := 5) rfl rfl (by decide) rfl (fun ls hl => ?_)
          refine lv_goto (tgt := 62) (pc := 101) hx hb dX7_crossings_101 (by decide) ?_
          exact ih x3 (x5 + (1 : Int32)) out h H locs ls hP hD hS (lv_sub hl [1, 2, 3, 4, 5, 0] rfl) Kx 
        · have h := it_f c14 h
          refine lv_iinc (v := (x3 + (1 : Int32))) (pc := 95) (lv' := [(3, .int (x3 + (1 : Int32))), (0, .ref (ad 0)), (1, .int x1), (2, .int x2), (4, .int x4), (5, .int x5)]) hx hb dX7_crossings_95 hl (k := 3) rfl rfl (by decide) rfl (fun ls hl => ?_)
          refine lv_iinc (v := (x5 + (1 : Int32))) (pc := 98) (lv' := [(5, .int (x5 + (1 : Int32))), (3, .int (x3 + (1 : Int32))), (0, .ref (ad 0)), (1, .int x1), (2, .int x2), (4, .int x4)]) hx hb dX7_crossings_98 hl (k := 5) rfl rfl (by decide) rfl (fun ls hl => ?_)
          refine lv_goto (tgt := 62) (pc := 101) hx hb dX7_crossings_101 (by decide) ?_
          exact ih (x3 + (1 : Int32)) (x5 + (1 : Int32)) out h H locs ls hP hD hS (lv_sub hl [2, 3, 4, 1, 5, 0] rfl) Kx 
set_option maxHeartbeats 4000000 in
set_option maxRecDepth 100000 in
theorem l_Mod_crossings_L47 {p : Program} {l : Launch} {e : Env} {s : State} {m : MethodId} {args : Array Value} {below : List Frame} {meth : Method} {c : Code} {Q : State → Prop} {K : KT} {A : Nat → Prop} (C0 : Ctx p m c cX7_crossings 6 s args RX7 K meth (some .int)) (F : Nat) (ad : Nat → Nat) (mthr : Int32) (mnow : Nat → Int32) (mold : Nat → Int32) (mols : Int32) (msav : Nat → Int32) (miss : Bool) (minp : Nat → Int32) (mlen : Int32) (mat : Int32) (medg : Nat → Int32) (mcor : Nat → Int32) (mtri : Int32) (mkep : Nat → Int32) (mkee : Nat → Int32) (mwor : Nat → Int32) (mnum : Nat → Int32) (mmet : Nat → Int32) (x1 : Int32) (x2 : Int32)  : ∀ (n : Nat) (x3 : Int32) (x4 : Int32) (out : Int32 × Int32), s_Mod_crossings_L47 F mnow medg x1 x2 n x3 x4 = some out → ∀ (H : Heap) (locs : List Loc) (ls : Array Slot), va_P K.1 vC (wMod K ad mthr mnow mold mols msav miss minp mlen mat medg mcor mtri mkep mkee mwor mnum mmet) H → va_D A (wMod K ad mthr mnow mold mols msav miss minp mlen mat medg mcor mtri mkep mkee mwor mnum mmet) → va_S A s.heap H locs → lv_has ls 6 [(0, .ref (ad 0)), (1, .int x1), (2, .int x2), (3, .int x3), (4, .int x4)] → (∀ (o : Int32 × Int32) (H : Heap) (locs : List Loc) (ls : Array Slot), out = o → va_P K.1 vC (wMod K ad mthr mnow mold mols msav miss minp mlen mat medg mcor mtri mkep mkee mwor mnum mmet) H → va_D A (wMod K ad mthr mnow mold mols msav miss minp mlen mat medg mcor mtri mkep mkee mwor mnum mmet) → va_S A s.heap H locs → lv_has ls 6 [(0, .ref (ad 0)), (1, .int x1), (2, .int x2), (3, .int o.1), (4, .int o.2)] → W p l e (rmL 7) s m args below meth c H locs 0 0 Q (F0 m 110 ls [])) → W p l e (rmL 7) s m args below meth c H locs 0 0 Q (F0 m 47 ls []) := by
  obtain ⟨hx, hb, hml, hown, hts, hG, hr, hlk⟩ := id C0
  intro n
  induction n with
  | zero =>
    intro x3 x4 out h
    cases h
  | succ n ih =>
    intro x3 x4 out h H locs ls hP hD hS hl Kx 
    rw [s_Mod_crossings_L47.eq_2] at h
    refine lv_iload (pc := 47) hx hb dX7_crossings_47 (lv_at hl 4 rfl) ?_
    refine lv_aload_n (pc := 49) hx hb dX7_crossings_49 rfl (lv_at hl 0 rfl) ?_
    obtain ⟨v7, h_v7, h⟩ := ob h
    refine rdV (pc := 50) (As := []) (rest := [.int x4]) hx hb hml hown hts hG hP (c_Mod_n l K ad mthr mnow mold mols msav miss minp mlen mat medg mcor mtri mkep mkee mwor mnum mmet h_v7) [0, 1, 2, 3, 4, 5, 6, 7, 8, 9, 10, 11] rfl (q0 := 0) rfl (ci := 7) rfl g_Mod_48 hd_Mod_n rfl ⟨Nat.le_of_ble_eq_true rfl, Nat.le_of_ble_eq_true rfl⟩ ⟨Nat.zero_le _, Nat.zero_le _⟩ hl rfl (Nat.le_of_ble_eq_true rfl) dX7_crossings_50 ?_
    refine lv_icmp_ge (tgt := 110) (pc := 53) hx hb dX7_crossings_53 (by decide) (fun c8 => ?_) (fun c8 => ?_)
    · have h := it_t c8 h
      obtain rfl := Option.some.inj h
      exact Kx _ H locs ls rfl hP hD hS (lv_sub hl [0, 1, 2, 3, 4] rfl)
    · have h := it_f c8 h
      refine lv_iload (pc := 56) hx hb dX7_crossings_56 (lv_at hl 4 rfl) ?_
      refine lv_iconst (v := (1 : Int32)) (pc := 58) hx hb dX7_crossings_58 (by decide) ?_
      refine lv_iadd (pc := 59) hx hb dX7_crossings_59 ?_
      refine lv_istore (pc := 60) (lv' := [(5, .int (x4 + (1 : Int32))), (0, .ref (ad 0)), (1, .int x1), (2, .int x2), (3, .int x3), (4, .int x4)]) hx hb dX7_crossings_60 hl (by decide) rfl (fun ls hl => ?_)
      obtain ⟨o15, h_o15, h⟩ := ob h
      refine l_Mod_crossings_L62 C0 F ad mthr mnow mold mols msav miss minp mlen mat medg mcor mtri mkep mkee mwor mnum mmet x1 x2 x4 F x3 (x4 + (1 : Int32)) _ h_o15 H locs ls hP hD hS (lv_sub hl [1, 2, 3, 4, 5, 0] rfl) (fun o15x H locs ls eo hP hD hS hl => ?_)
      subst o15
      refine lv_iinc (v := (x4 + (1 : Int32))) (pc := 104) (lv' := [(4, .int (x4 + (1 : Int32))), (0, .ref (ad 0)), (1, .int x1), (2, .int x2), (3, .int o15x.1), (5, .int o15x.2)]) hx hb dX7_crossings_104 hl (k := 4) rfl rfl (by decide) rfl (fun ls hl => ?_)
      refine lv_goto (tgt := 47) (pc := 107) hx hb dX7_crossings_107 (by decide) ?_
      exact ih o15x.1 (x4 + (1 : Int32)) out h H locs ls hP hD hS (lv_sub hl [1, 2, 3, 4, 0] rfl) Kx 
set_option maxHeartbeats 4000000 in
set_option maxRecDepth 100000 in
theorem c_Mod_crossings (l : Launch) (K : KT) (ad : Nat → Nat) (mthr : Int32) (mnow : Nat → Int32) (mold : Nat → Int32) (mols : Int32) (msav : Nat → Int32) (miss : Bool) (minp : Nat → Int32) (mlen : Int32) (mat : Int32) (medg : Nat → Int32) (mcor : Nat → Int32) (mtri : Int32) (mkep : Nat → Int32) (mkee : Nat → Int32) (mwor : Nat → Int32) (mnum : Nat → Int32) (mmet : Nat → Int32) (a0 : Int32) (a1 : Int32) (F : Nat) {o : Int32 × Int32 × (Nat → Int32) × (Nat → Int32) × Int32} (h : s_Mod_crossings F mnow medg mcor mtri a0 a1 = some o) : Wr l K 7 yX7_crossings cX7_crossings 6 (some .int) [.ref (ad 0), .int a0, .int a1] (wMod K ad mthr mnow mold mols msav miss minp mlen mat medg mcor mtri mkep mkee mwor mnum mmet) (some (.int o.1)) (wMod K ad o.2.1 mnow mold mols msav miss minp mlen mat o.2.2.1 o.2.2.2.1 o.2.2.2.2 mkep mkee mwor mnum mmet) := by
  refine Wr.of (by decide +kernel) (Nat.le_of_ble_eq_true rfl) ?_
  unfold s_Mod_crossings at h
  intro p e s m below meth c hx hb hr hml hown hts hlk H locs hP hG hD hS ls hl
  have C0 : Ctx p m c cX7_crossings 6 s (Array.mk [.ref (ad 0), .int a0, .int a1]) RX7 K meth (some .int) := ⟨hx, hb, hml, hown, hts, hG, hr, hlk⟩
  have hl : lv_has ls 6 [(0, .ref (ad 0)), (1, .int a0), (2, .int a1)] := hl
  refine lv_aload_n (pc := 0) hx hb dX7_crossings_0 rfl (lv_at hl 0 rfl) ?_
  refine lv_iconst (v := (0 : Int32)) (pc := 1) hx hb dX7_crossings_1 (by decide) ?_
  refine va_put (D := K.1) (ci := 7) (v := .int (0 : Int32)) (ty := .int) (C := RX7) (T := TX7) (N := 17) (pc := 2) hx hb hts inT7 tyX7 tyX7_ok nmX7 hown hG.1 hP hD hS 0 rfl rfl 0 (by decide) (hts _ qf_Mod_44) (fun _ h9 => h9) rfl (by decide +kernel) rfl rfl (Nat.le_of_ble_eq_true rfl) dX7_crossings_2 (fun H locs hP hD hS => ?_)
  have hP : va_P K.1 vC (wMod K ad (0 : Int32) mnow mold mols msav miss minp mlen mat medg mcor mtri mkep mkee mwor mnum mmet) H := hP
  have hD : va_D _ (wMod K ad (0 : Int32) mnow mold mols msav miss minp mlen mat medg mcor mtri mkep mkee mwor mnum mmet) := hD
  refine lv_aload_n (pc := 5) hx hb dX7_crossings_5 rfl (lv_at hl 0 rfl) ?_
  refine lv_iload_n (pc := 6) hx hb dX7_crossings_6 rfl (lv_at hl 1 rfl) ?_
  obtain ⟨v1, h_v1, h⟩ := ob h
  refine rdV (pc := 7) (As := [.int a0]) (rest := []) hx hb hml hown hts hG hP (c_Mod_isPoint l K ad (0 : Int32) mnow mold mols msav miss minp mlen mat medg mcor mtri mkep mkee mwor mnum mmet a0 h_v1) [0, 1, 2, 3, 4, 5, 6, 7, 8, 9, 10, 11] rfl (q0 := 0) rfl (ci := 7) rfl g_Mod_168 hd_Mod_isPoint rfl ⟨Nat.le_of_ble_eq_true rfl, Nat.le_of_ble_eq_true rfl⟩ ⟨Nat.zero_le _, Nat.zero_le _⟩ hl rfl (Nat.le_of_ble_eq_true rfl) dX7_crossings_7 ?_
  refine lv_if_eq (tgt := 21) (pc := 10) hx hb dX7_crossings_10 (by decide) (fun c2 => ?_) (fun c2 => ?_)
  · have h := it_t c2 h
    refine lv_aload_n (pc := 21) hx hb dX7_crossings_21 rfl (lv_at hl 0 rfl) ?_
    refine lv_iconst (v := (1 : Int32)) (pc := 22) hx hb dX7_crossings_22 (by decide) ?_
    refine wrVi (pc := 23) (As := [.int (1 : Int32)]) (rest := []) (ws2 := wMod K ad ((s_Mod_raises (1 : Int32)).2) mnow mold mols msav miss minp mlen mat medg mcor mtri mkep mkee mwor mnum mmet) (as9 := [ad 0, ad 1, ad 2, ad 3, ad 4, ad 5, ad 6, ad 7, ad 8, ad 9, ad 10, ad 11]) hx hb hml hown hts hG hP hD hS (c_Mod_raises l K ad (0 : Int32) mnow mold mols msav miss minp mlen mat medg mcor mtri mkep mkee mwor mnum mmet (1 : Int32)) [0, 1, 2, 3, 4, 5, 6, 7, 8, 9, 10, 11] rfl rfl rfl rfl [.inl 0, .inl 1, .inl 2, .inl 3, .inl 4, .inl 5, .inl 6, .inl 7, .inl 8, .inl 9, .inl 10, .inl 11] (by decide +kernel) rfl (q0 := 0) rfl (ci := 7) rfl g_Mod_172 hd_Mod_raises rfl ⟨Nat.le_of_ble_eq_true rfl, Nat.le_of_ble_eq_true rfl⟩ ⟨Nat.zero_le _, Nat.zero_le _⟩ hl rfl (Nat.le_of_ble_eq_true rfl) dX7_crossings_23 (fun H locs hP hD hS => ?_)
    obtain rfl := Option.some.inj h
    exact W.iret hx hb hr (fun t ht hW => ⟨⟨rfl, by rw [ht]; exact hP⟩, hS.F ht⟩) hS.2.2 dX7_crossings_26 hlk
  · have h := it_f c2 h
    refine lv_aload_n (pc := 13) hx hb dX7_crossings_13 rfl (lv_at hl 0 rfl) ?_
    refine lv_iload_n (pc := 14) hx hb dX7_crossings_14 rfl (lv_at hl 2 rfl) ?_
    obtain ⟨v3, h_v3, h⟩ := ob h
    refine rdV (pc := 15) (As := [.int a1]) (rest := []) hx hb hml hown hts hG hP (c_Mod_isPoint l K ad (0 : Int32) mnow mold mols msav miss minp mlen mat medg mcor mtri mkep mkee mwor mnum mmet a1 h_v3) [0, 1, 2, 3, 4, 5, 6, 7, 8, 9, 10, 11] rfl (q0 := 0) rfl (ci := 7) rfl g_Mod_168 hd_Mod_isPoint rfl ⟨Nat.le_of_ble_eq_true rfl, Nat.le_of_ble_eq_true rfl⟩ ⟨Nat.zero_le _, Nat.zero_le _⟩ hl rfl (Nat.le_of_ble_eq_true rfl) dX7_crossings_15 ?_
    refine lv_if_ne (tgt := 27) (pc := 18) hx hb dX7_crossings_18 (by decide) (fun c4 => ?_) (fun c4 => ?_)
    · have h := it_f c4 h
      refine lv_iload_n (pc := 27) hx hb dX7_crossings_27 rfl (lv_at hl 1 rfl) ?_
      refine lv_iload_n (pc := 28) hx hb dX7_crossings_28 rfl (lv_at hl 2 rfl) ?_
      refine lv_icmp_ne (tgt := 38) (pc := 29) hx hb dX7_crossings_29 (by decide) (fun c5 => ?_) (fun c5 => ?_)
      · have h := it_f c5 h
        refine lv_aload_n (pc := 38) hx hb dX7_crossings_38 rfl (lv_at hl 0 rfl) ?_
        obtain ⟨v6, h_v6, h⟩ := ob h
        refine wrVv (pc := 39) (As := []) (rest := []) (ws2 := wMod K ad (0 : Int32) mnow mold mols msav miss minp mlen mat v6.1 v6.2.1 v6.2.2 mkep mkee mwor mnum mmet) (as9 := [ad 0, ad 1, ad 2, ad 3, ad 4, ad 5, ad 6, ad 7, ad 8, ad 9, ad 10, ad 11]) hx hb hml hown hts hG hP hD hS (c_Mod_builds l K ad (0 : Int32) mnow mold mols msav miss minp mlen mat medg mcor mtri mkep mkee mwor mnum mmet F h_v6) [0, 1, 2, 3, 4, 5, 6, 7, 8, 9, 10, 11] rfl rfl rfl rfl [.inl 0, .inl 1, .inl 2, .inl 3, .inl 4, .inl 5, .inl 6, .inl 7, .inl 8, .inl 9, .inl 10, .inl 11] (by decide +kernel) rfl (q0 := 0) rfl (ci := 7) rfl g_Mod_210 hd_Mod_builds rfl ⟨Nat.le_of_ble_eq_true rfl, Nat.le_of_ble_eq_true rfl⟩ ⟨Nat.zero_le _, Nat.zero_le _⟩ hl rfl (Nat.le_of_ble_eq_true rfl) dX7_crossings_39 (fun H locs hP hD hS => ?_)
        refine lv_iconst (v := (0 : Int32)) (pc := 42) hx hb dX7_crossings_42 (by decide) ?_
        refine lv_istore_n (pc := 43) (lv' := [(3, .int (0 : Int32)), (0, .ref (ad 0)), (1, .int a0), (2, .int a1)]) hx hb dX7_crossings_43 rfl hl (by decide) rfl (fun ls hl => ?_)
        refine lv_iconst (v := (0 : Int32)) (pc := 44) hx hb dX7_crossings_44 (by decide) ?_
        refine lv_istore (pc := 45) (lv' := [(4, .int (0 : Int32)), (3, .int (0 : Int32)), (0, .ref (ad 0)), (1, .int a0), (2, .int a1)]) hx hb dX7_crossings_45 hl (by decide) rfl (fun ls hl => ?_)
        obtain ⟨o16, h_o16, h⟩ := ob h
        refine l_Mod_crossings_L47 C0 F ad (0 : Int32) mnow mold mols msav miss minp mlen mat v6.1 v6.2.1 v6.2.2 mkep mkee mwor mnum mmet a0 a1 F (0 : Int32) (0 : Int32) _ h_o16 H locs ls hP hD hS (lv_sub hl [2, 3, 4, 1, 0] rfl) (fun o16x H locs ls eo hP hD hS hl => ?_)
        subst o16
        refine lv_iload_n (pc := 110) hx hb dX7_crossings_110 rfl (lv_at hl 3 rfl) ?_
        obtain rfl := Option.some.inj h
        exact W.iret hx hb hr (fun t ht hW => ⟨⟨rfl, by rw [ht]; exact hP⟩, hS.F ht⟩) hS.2.2 dX7_crossings_111 hlk
      · have h := it_t c5 h
        refine lv_aload_n (pc := 32) hx hb dX7_crossings_32 rfl (lv_at hl 0 rfl) ?_
        refine lv_iconst (v := (2 : Int32)) (pc := 33) hx hb dX7_crossings_33 (by decide) ?_
        refine wrVi (pc := 34) (As := [.int (2 : Int32)]) (rest := []) (ws2 := wMod K ad ((s_Mod_raises (2 : Int32)).2) mnow mold mols msav miss minp mlen mat medg mcor mtri mkep mkee mwor mnum mmet) (as9 := [ad 0, ad 1, ad 2, ad 3, ad 4, ad 5, ad 6, ad 7, ad 8, ad 9, ad 10, ad 11]) hx hb hml hown hts hG hP hD hS (c_Mod_raises l K ad (0 : Int32) mnow mold mols msav miss minp mlen mat medg mcor mtri mkep mkee mwor mnum mmet (2 : Int32)) [0, 1, 2, 3, 4, 5, 6, 7, 8, 9, 10, 11] rfl rfl rfl rfl [.inl 0, .inl 1, .inl 2, .inl 3, .inl 4, .inl 5, .inl 6, .inl 7, .inl 8, .inl 9, .inl 10, .inl 11] (by decide +kernel) rfl (q0 := 0) rfl (ci := 7) rfl g_Mod_172 hd_Mod_raises rfl ⟨Nat.le_of_ble_eq_true rfl, Nat.le_of_ble_eq_true rfl⟩ ⟨Nat.zero_le _, Nat.zero_le _⟩ hl rfl (Nat.le_of_ble_eq_true rfl) dX7_crossings_34 (fun H locs hP hD hS => ?_)
        obtain rfl := Option.some.inj h
        exact W.iret hx hb hr (fun t ht hW => ⟨⟨rfl, by rw [ht]; exact hP⟩, hS.F ht⟩) hS.2.2 dX7_crossings_37 hlk
    · have h := it_t c4 h
      refine lv_aload_n (pc := 21) hx hb dX7_crossings_21 rfl (lv_at hl 0 rfl) ?_
      refine lv_iconst (v := (1 : Int32)) (pc := 22) hx hb dX7_crossings_22 (by decide) ?_
      refine wrVi (pc := 23) (As := [.int (1 : Int32)]) (rest := []) (ws2 := wMod K ad ((s_Mod_raises (1 : Int32)).2) mnow mold mols msav miss minp mlen mat medg mcor mtri mkep mkee mwor mnum mmet) (as9 := [ad 0, ad 1, ad 2, ad 3, ad 4, ad 5, ad 6, ad 7, ad 8, ad 9, ad 10, ad 11]) hx hb hml hown hts hG hP hD hS (c_Mod_raises l K ad (0 : Int32) mnow mold mols msav miss minp mlen mat medg mcor mtri mkep mkee mwor mnum mmet (1 : Int32)) [0, 1, 2, 3, 4, 5, 6, 7, 8, 9, 10, 11] rfl rfl rfl rfl [.inl 0, .inl 1, .inl 2, .inl 3, .inl 4, .inl 5, .inl 6, .inl 7, .inl 8, .inl 9, .inl 10, .inl 11] (by decide +kernel) rfl (q0 := 0) rfl (ci := 7) rfl g_Mod_172 hd_Mod_raises rfl ⟨Nat.le_of_ble_eq_true rfl, Nat.le_of_ble_eq_true rfl⟩ ⟨Nat.zero_le _, Nat.zero_le _⟩ hl rfl (Nat.le_of_ble_eq_true rfl) dX7_crossings_23 (fun H locs hP hD hS => ?_)
      obtain rfl := Option.some.inj h
      exact W.iret hx hb hr (fun t ht hW => ⟨⟨rfl, by rw [ht]; exact hP⟩, hS.F ht⟩) hS.2.2 dX7_crossings_26 hlk
set_option maxHeartbeats 4000000 in
set_option maxRecDepth 100000 in
theorem l_Mod_effect_L53 {p : Program} {l : Launch} {e : Env} {s : State} {m : MethodId} {args : Array Value} {below : List Frame} {meth : Method} {c : Code} {Q : State → Prop} {K : KT} {A : Nat → Prop} (C0 : Ctx p m c cX7_effect 5 s args RX7 K meth (some .int)) (F : Nat) (ad : Nat → Nat) (mthr : Int32) (mnow : Nat → Int32) (mold : Nat → Int32) (mols : Int32) (msav : Nat → Int32) (miss : Bool) (minp : Nat → Int32) (mlen : Int32) (mat : Int32) (medg : Nat → Int32) (mcor : Nat → Int32) (mtri : Int32) (mkep : Nat → Int32) (mkee : Nat → Int32) (mwor : Nat → Int32) (mnum : Nat → Int32) (mmet : Nat → Int32) (x3 : Int32)  : ∀ (n : Nat) (x2 : Int32) (x4 : Int32) (out : Int32 × Int32), s_Mod_effect_L53 mnow medg mkee x3 n x2 x4 = some out → ∀ (H : Heap) (locs : List Loc) (ls : Array Slot), va_P K.1 vC (wMod K ad mthr mnow mold mols msav miss minp mlen mat medg mcor mtri mkep mkee mwor mnum mmet) H → va_D A (wMod K ad mthr mnow mold mols msav miss minp mlen mat medg mcor mtri mkep mkee mwor mnum mmet) → va_S A s.heap H locs → lv_has ls 5 [(0, .ref (ad 0)), (2, .int x2), (3, .int x3), (4, .int x4)] → (∀ (o : Int32 × Int32) (H : Heap) (locs : List Loc) (ls : Array Slot), out = o → va_P K.1 vC (wMod K ad mthr mnow mold mols msav miss minp mlen mat medg mcor mtri mkep mkee mwor mnum mmet) H → va_D A (wMod K ad mthr mnow mold mols msav miss minp mlen mat medg mcor mtri mkep mkee mwor mnum mmet) → va_S A s.heap H locs → lv_has ls 5 [(0, .ref (ad 0)), (2, .int o.1), (3, .int x3), (4, .int o.2)] → W p l e (rmL 7) s m args below meth c H locs 0 0 Q (F0 m 96 ls [])) → W p l e (rmL 7) s m args below meth c H locs 0 0 Q (F0 m 53 ls []) := by
  obtain ⟨hx, hb, hml, hown, hts, hG, hr, hlk⟩ := id C0
  intro n
  induction n with
  | zero =>
    intro x2 x4 out h
    cases h
  | succ n ih =>
    intro x2 x4 out h H locs ls hP hD hS hl Kx 
    rw [s_Mod_effect_L53.eq_2] at h
    refine lv_iload (pc := 53) hx hb dX7_effect_53 (lv_at hl 3 rfl) ?_
    refine lv_aload_n (pc := 55) hx hb dX7_effect_55 rfl (lv_at hl 0 rfl) ?_
    obtain ⟨v9, h_v9, h⟩ := ob h
    refine rdV (pc := 56) (As := []) (rest := [.int x4]) hx hb hml hown hts hG hP (c_Mod_n l K ad mthr mnow mold mols msav miss minp mlen mat medg mcor mtri mkep mkee mwor mnum mmet h_v9) [0, 1, 2, 3, 4, 5, 6, 7, 8, 9, 10, 11] rfl (q0 := 0) rfl (ci := 7) rfl g_Mod_48 hd_Mod_n rfl ⟨Nat.le_of_ble_eq_true rfl, Nat.le_of_ble_eq_true rfl⟩ ⟨Nat.zero_le _, Nat.zero_le _⟩ hl rfl (Nat.le_of_ble_eq_true rfl) dX7_effect_56 ?_
    refine lv_icmp_ge (tgt := 96) (pc := 59) hx hb dX7_effect_59 (by decide) (fun c10 => ?_) (fun c10 => ?_)
    · have h := it_t c10 h
      obtain rfl := Option.some.inj h
      exact Kx _ H locs ls rfl hP hD hS (lv_sub hl [0, 1, 2, 3] rfl)
    · have h := it_f c10 h
      refine lv_aload_n (pc := 62) hx hb dX7_effect_62 rfl (lv_at hl 0 rfl) ?_
      refine va_get (D := K.1) (ci := 7) (v := .ref (ad 8)) (C := RX7) (T := TX7) (N := 17) (pc := 63) hx hb hts inT7 hown hG.1 hP 0 rfl rfl 13 (by decide) (hts _ qf_Mod_32) (fun _ h9 => h9) rfl dX7_effect_63 ?_
      refine lv_bipush (v := (17 : Int32)) (pc := 66) hx hb dX7_effect_66 (by decide) ?_
      refine lv_iload_n (pc := 68) hx hb dX7_effect_68 rfl (lv_at hl 2 rfl) ?_
      refine lv_imul (pc := 69) hx hb dX7_effect_69 ?_
      refine lv_iload (pc := 70) hx hb dX7_effect_70 (lv_at hl 3 rfl) ?_
      refine lv_iadd (pc := 72) hx hb dX7_effect_72 ?_
      obtain ⟨v11, h_v11, h⟩ := ob h
      obtain ⟨hi_v11, e_v11⟩ := aget_in h_v11
      refine va_zald (pc := 73) hx hb hG.1 hP 8 1 rfl rfl hi_v11 dX7_effect_73 ?_
      rw [e_v11]
      refine lv_if_eq (tgt := 90) (pc := 74) hx hb dX7_effect_74 (by decide) (fun c12 => ?_) (fun c12 => ?_)
      · have h := it_t c12 h
        refine lv_iinc (v := (x4 + (1 : Int32))) (pc := 90) (lv' := [(4, .int (x4 + (1 : Int32))), (0, .ref (ad 0)), (2, .int x2), (3, .int x3)]) hx hb dX7_effect_90 hl (k := 3) rfl rfl (by decide) rfl (fun ls hl => ?_)
        refine lv_goto (tgt := 53) (pc := 93) hx hb dX7_effect_93 (by decide) ?_
        exact ih x2 (x4 + (1 : Int32)) out h H locs ls hP hD hS (lv_sub hl [1, 2, 3, 0] rfl) Kx 
      · have h := it_f c12 h
        refine lv_aload_n (pc := 77) hx hb dX7_effect_77 rfl (lv_at hl 0 rfl) ?_
        refine lv_iload_n (pc := 78) hx hb dX7_effect_78 rfl (lv_at hl 2 rfl) ?_
        refine lv_iload (pc := 79) hx hb dX7_effect_79 (lv_at hl 3 rfl) ?_
        obtain ⟨v13, h_v13, h⟩ := ob h
        refine rdV (pc := 81) (As := [.int x3, .int x4]) (rest := []) hx hb hml hown hts hG hP (c_Mod_has l K ad mthr mnow mold mols msav miss minp mlen mat medg mcor mtri mkep mkee mwor mnum mmet x3 x4 h_v13) [0, 1, 2, 3, 4, 5, 6, 7, 8, 9, 10, 11] rfl (q0 := 0) rfl (ci := 7) rfl g_Mod_104 hd_Mod_has rfl ⟨Nat.le_of_ble_eq_true rfl, Nat.le_of_ble_eq_true rfl⟩ ⟨Nat.zero_le _, Nat.zero_le _⟩ hl rfl (Nat.le_of_ble_eq_true rfl) dX7_effect_81 ?_
        refine lv_if_ne (tgt := 90) (pc := 84) hx hb dX7_effect_84 (by decide) (fun c14 => ?_) (fun c14 => ?_)
        · have h := it_f c14 h
          refine lv_iinc (v := (x4 + (1 : Int32))) (pc := 90) (lv' := [(4, .int (x4 + (1 : Int32))), (0, .ref (ad 0)), (2, .int x2), (3, .int x3)]) hx hb dX7_effect_90 hl (k := 3) rfl rfl (by decide) rfl (fun ls hl => ?_)
          refine lv_goto (tgt := 53) (pc := 93) hx hb dX7_effect_93 (by decide) ?_
          exact ih x2 (x4 + (1 : Int32)) out h H locs ls hP hD hS (lv_sub hl [1, 2, 3, 0] rfl) Kx 
        · have h := it_t c14 h
          refine lv_iinc (v := (x2 + (1 : Int32))) (pc := 87) (lv' := [(2, .int (x2 + (1 : Int32))), (0, .ref (ad 0)), (3, .int x3), (4, .int x4)]) hx hb dX7_effect_87 hl (k := 1) rfl rfl (by decide) rfl (fun ls hl => ?_)
          refine lv_iinc (v := (x4 + (1 : Int32))) (pc := 90) (lv' := [(4, .int (x4 + (1 : Int32))), (2, .int (x2 + (1 : Int32))), (0, .ref (ad 0)), (3, .int x3)]) hx hb dX7_effect_90 hl (k := 3) rfl rfl (by decide) rfl (fun ls hl => ?_)
          refine lv_goto (tgt := 53) (pc := 93) hx hb dX7_effect_93 (by decide) ?_
          exact ih (x2 + (1 : Int32)) (x4 + (1 : Int32)) out h H locs ls hP hD hS (lv_sub hl [2, 1, 3, 0] rfl) Kx 
set_option maxHeartbeats 4000000 in
set_option maxRecDepth 100000 in
theorem l_Mod_effect_L40 {p : Program} {l : Launch} {e : Env} {s : State} {m : MethodId} {args : Array Value} {below : List Frame} {meth : Method} {c : Code} {Q : State → Prop} {K : KT} {A : Nat → Prop} (C0 : Ctx p m c cX7_effect 5 s args RX7 K meth (some .int)) (F : Nat) (ad : Nat → Nat) (mthr : Int32) (mnow : Nat → Int32) (mold : Nat → Int32) (mols : Int32) (msav : Nat → Int32) (miss : Bool) (minp : Nat → Int32) (mlen : Int32) (mat : Int32) (medg : Nat → Int32) (mcor : Nat → Int32) (mtri : Int32) (mkep : Nat → Int32) (mkee : Nat → Int32) (mwor : Nat → Int32) (mnum : Nat → Int32) (mmet : Nat → Int32)  : ∀ (n : Nat) (x2 : Int32) (x3 : Int32) (out : Int32 × Int32), s_Mod_effect_L40 F mnow medg mkee n x2 x3 = some out → ∀ (H : Heap) (locs : List Loc) (ls : Array Slot), va_P K.1 vC (wMod K ad mthr mnow mold mols msav miss minp mlen mat medg mcor mtri mkep mkee mwor mnum mmet) H → va_D A (wMod K ad mthr mnow mold mols msav miss minp mlen mat medg mcor mtri mkep mkee mwor mnum mmet) → va_S A s.heap H locs → lv_has ls 5 [(0, .ref (ad 0)), (2, .int x2), (3, .int x3)] → (∀ (o : Int32 × Int32) (H : Heap) (locs : List Loc) (ls : Array Slot), out = o → va_P K.1 vC (wMod K ad mthr mnow mold mols msav miss minp mlen mat medg mcor mtri mkep mkee mwor mnum mmet) H → va_D A (wMod K ad mthr mnow mold mols msav miss minp mlen mat medg mcor mtri mkep mkee mwor mnum mmet) → va_S A s.heap H locs → lv_has ls 5 [(0, .ref (ad 0)), (2, .int o.1), (3, .int o.2)] → W p l e (rmL 7) s m args below meth c H locs 0 0 Q (F0 m 102 ls [])) → W p l e (rmL 7) s m args below meth c H locs 0 0 Q (F0 m 40 ls []) := by
  obtain ⟨hx, hb, hml, hown, hts, hG, hr, hlk⟩ := id C0
  intro n
  induction n with
  | zero =>
    intro x2 x3 out h
    cases h
  | succ n ih =>
    intro x2 x3 out h H locs ls hP hD hS hl Kx 
    rw [s_Mod_effect_L40.eq_2] at h
    refine lv_iload_n (pc := 40) hx hb dX7_effect_40 rfl (lv_at hl 2 rfl) ?_
    refine lv_aload_n (pc := 41) hx hb dX7_effect_41 rfl (lv_at hl 0 rfl) ?_
    obtain ⟨v7, h_v7, h⟩ := ob h
    refine rdV (pc := 42) (As := []) (rest := [.int x3]) hx hb hml hown hts hG hP (c_Mod_n l K ad mthr mnow mold mols msav miss minp mlen mat medg mcor mtri mkep mkee mwor mnum mmet h_v7) [0, 1, 2, 3, 4, 5, 6, 7, 8, 9, 10, 11] rfl (q0 := 0) rfl (ci := 7) rfl g_Mod_48 hd_Mod_n rfl ⟨Nat.le_of_ble_eq_true rfl, Nat.le_of_ble_eq_true rfl⟩ ⟨Nat.zero_le _, Nat.zero_le _⟩ hl rfl (Nat.le_of_ble_eq_true rfl) dX7_effect_42 ?_
    refine lv_icmp_ge (tgt := 102) (pc := 45) hx hb dX7_effect_45 (by decide) (fun c8 => ?_) (fun c8 => ?_)
    · have h := it_t c8 h
      obtain rfl := Option.some.inj h
      exact Kx _ H locs ls rfl hP hD hS (lv_sub hl [0, 1, 2] rfl)
    · have h := it_f c8 h
      refine lv_iload_n (pc := 48) hx hb dX7_effect_48 rfl (lv_at hl 2 rfl) ?_
      refine lv_iconst (v := (1 : Int32)) (pc := 49) hx hb dX7_effect_49 (by decide) ?_
      refine lv_iadd (pc := 50) hx hb dX7_effect_50 ?_
      refine lv_istore (pc := 51) (lv' := [(4, .int (x3 + (1 : Int32))), (0, .ref (ad 0)), (2, .int x2), (3, .int x3)]) hx hb dX7_effect_51 hl (by decide) rfl (fun ls hl => ?_)
      obtain ⟨o15, h_o15, h⟩ := ob h
      refine l_Mod_effect_L53 C0 F ad mthr mnow mold mols msav miss minp mlen mat medg mcor mtri mkep mkee mwor mnum mmet x3 F x2 (x3 + (1 : Int32)) _ h_o15 H locs ls hP hD hS (lv_sub hl [1, 2, 3, 0] rfl) (fun o15x H locs ls eo hP hD hS hl => ?_)
      subst o15
      refine lv_iinc (v := (x3 + (1 : Int32))) (pc := 96) (lv' := [(3, .int (x3 + (1 : Int32))), (0, .ref (ad 0)), (2, .int o15x.1), (4, .int o15x.2)]) hx hb dX7_effect_96 hl (k := 2) rfl rfl (by decide) rfl (fun ls hl => ?_)
      refine lv_goto (tgt := 40) (pc := 99) hx hb dX7_effect_99 (by decide) ?_
      exact ih o15x.1 (x3 + (1 : Int32)) out h H locs ls hP hD hS (lv_sub hl [1, 2, 0] rfl) Kx 
set_option maxHeartbeats 4000000 in
set_option maxRecDepth 100000 in
theorem c_Mod_effect (l : Launch) (K : KT) (ad : Nat → Nat) (mthr : Int32) (mnow : Nat → Int32) (mold : Nat → Int32) (mols : Int32) (msav : Nat → Int32) (miss : Bool) (minp : Nat → Int32) (mlen : Int32) (mat : Int32) (medg : Nat → Int32) (mcor : Nat → Int32) (mtri : Int32) (mkep : Nat → Int32) (mkee : Nat → Int32) (mwor : Nat → Int32) (mnum : Nat → Int32) (mmet : Nat → Int32) (a0 : Int32) (F : Nat) {o : Int32 × Int32 × (Nat → Int32) × (Nat → Int32) × (Nat → Int32) × Int32 × (Nat → Int32) × (Nat → Int32) × (Nat → Int32)} (h : s_Mod_effect F mnow medg mcor mtri mkep mkee mwor a0 = some o) : Wr l K 7 yX7_effect cX7_effect 5 (some .int) [.ref (ad 0), .int a0] (wMod K ad mthr mnow mold mols msav miss minp mlen mat medg mcor mtri mkep mkee mwor mnum mmet) (some (.int o.1)) (wMod K ad o.2.1 o.2.2.1 mold mols msav miss minp mlen mat o.2.2.2.1 o.2.2.2.2.1 o.2.2.2.2.2.1 o.2.2.2.2.2.2.1 o.2.2.2.2.2.2.2.1 o.2.2.2.2.2.2.2.2 mnum mmet) := by
  refine Wr.of (by decide +kernel) (Nat.le_of_ble_eq_true rfl) ?_
  unfold s_Mod_effect at h
  intro p e s m below meth c hx hb hr hml hown hts hlk H locs hP hG hD hS ls hl
  have C0 : Ctx p m c cX7_effect 5 s (Array.mk [.ref (ad 0), .int a0]) RX7 K meth (some .int) := ⟨hx, hb, hml, hown, hts, hG, hr, hlk⟩
  have hl : lv_has ls 5 [(0, .ref (ad 0)), (1, .int a0)] := hl
  refine lv_aload_n (pc := 0) hx hb dX7_effect_0 rfl (lv_at hl 0 rfl) ?_
  refine lv_iconst (v := (0 : Int32)) (pc := 1) hx hb dX7_effect_1 (by decide) ?_
  refine va_put (D := K.1) (ci := 7) (v := .int (0 : Int32)) (ty := .int) (C := RX7) (T := TX7) (N := 17) (pc := 2) hx hb hts inT7 tyX7 tyX7_ok nmX7 hown hG.1 hP hD hS 0 rfl rfl 0 (by decide) (hts _ qf_Mod_44) (fun _ h9 => h9) rfl (by decide +kernel) rfl rfl (Nat.le_of_ble_eq_true rfl) dX7_effect_2 (fun H locs hP hD hS => ?_)
  have hP : va_P K.1 vC (wMod K ad (0 : Int32) mnow mold mols msav miss minp mlen mat medg mcor mtri mkep mkee mwor mnum mmet) H := hP
  have hD : va_D _ (wMod K ad (0 : Int32) mnow mold mols msav miss minp mlen mat medg mcor mtri mkep mkee mwor mnum mmet) := hD
  refine lv_aload_n (pc := 5) hx hb dX7_effect_5 rfl (lv_at hl 0 rfl) ?_
  refine lv_iload_n (pc := 6) hx hb dX7_effect_6 rfl (lv_at hl 1 rfl) ?_
  obtain ⟨v1, h_v1, h⟩ := ob h
  refine rdV (pc := 7) (As := [.int a0]) (rest := []) hx hb hml hown hts hG hP (c_Mod_isConstraint l K ad (0 : Int32) mnow mold mols msav miss minp mlen mat medg mcor mtri mkep mkee mwor mnum mmet a0 h_v1) [0, 1, 2, 3, 4, 5, 6, 7, 8, 9, 10, 11] rfl (q0 := 0) rfl (ci := 7) rfl g_Mod_182 hd_Mod_isConstraint rfl ⟨Nat.le_of_ble_eq_true rfl, Nat.le_of_ble_eq_true rfl⟩ ⟨Nat.zero_le _, Nat.zero_le _⟩ hl rfl (Nat.le_of_ble_eq_true rfl) dX7_effect_7 ?_
  refine lv_if_ne (tgt := 19) (pc := 10) hx hb dX7_effect_10 (by decide) (fun c2 => ?_) (fun c2 => ?_)
  · have h := it_f c2 h
    refine lv_aload_n (pc := 19) hx hb dX7_effect_19 rfl (lv_at hl 0 rfl) ?_
    obtain ⟨v3, h_v3, h⟩ := ob h
    refine wrVv (pc := 20) (As := []) (rest := []) (ws2 := wMod K ad (0 : Int32) mnow mold mols msav miss minp mlen mat v3.1 v3.2.1 v3.2.2 mkep mkee mwor mnum mmet) (as9 := [ad 0, ad 1, ad 2, ad 3, ad 4, ad 5, ad 6, ad 7, ad 8, ad 9, ad 10, ad 11]) hx hb hml hown hts hG hP hD hS (c_Mod_builds l K ad (0 : Int32) mnow mold mols msav miss minp mlen mat medg mcor mtri mkep mkee mwor mnum mmet F h_v3) [0, 1, 2, 3, 4, 5, 6, 7, 8, 9, 10, 11] rfl rfl rfl rfl [.inl 0, .inl 1, .inl 2, .inl 3, .inl 4, .inl 5, .inl 6, .inl 7, .inl 8, .inl 9, .inl 10, .inl 11] (by decide +kernel) rfl (q0 := 0) rfl (ci := 7) rfl g_Mod_210 hd_Mod_builds rfl ⟨Nat.le_of_ble_eq_true rfl, Nat.le_of_ble_eq_true rfl⟩ ⟨Nat.zero_le _, Nat.zero_le _⟩ hl rfl (Nat.le_of_ble_eq_true rfl) dX7_effect_20 (fun H locs hP hD hS => ?_)
    refine lv_aload_n (pc := 23) hx hb dX7_effect_23 rfl (lv_at hl 0 rfl) ?_
    obtain ⟨v4, h_v4, h⟩ := ob h
    refine wrVv (pc := 24) (As := []) (rest := []) (ws2 := wMod K ad (0 : Int32) mnow mold mols msav miss minp mlen mat v3.1 v3.2.1 v3.2.2 v4.1 v4.2.1 v4.2.2 mnum mmet) (as9 := [ad 0, ad 1, ad 2, ad 3, ad 4, ad 5, ad 6, ad 7, ad 8, ad 9, ad 10, ad 11]) hx hb hml hown hts hG hP hD hS (c_Mod_keeps l K ad (0 : Int32) mnow mold mols msav miss minp mlen mat v3.1 v3.2.1 v3.2.2 mkep mkee mwor mnum mmet F h_v4) [0, 1, 2, 3, 4, 5, 6, 7, 8, 9, 10, 11] rfl rfl rfl rfl [.inl 0, .inl 1, .inl 2, .inl 3, .inl 4, .inl 5, .inl 6, .inl 7, .inl 8, .inl 9, .inl 10, .inl 11] (by decide +kernel) rfl (q0 := 0) rfl (ci := 7) rfl g_Mod_256 hd_Mod_keeps rfl ⟨Nat.le_of_ble_eq_true rfl, Nat.le_of_ble_eq_true rfl⟩ ⟨Nat.zero_le _, Nat.zero_le _⟩ hl rfl (Nat.le_of_ble_eq_true rfl) dX7_effect_24 (fun H locs hP hD hS => ?_)
    refine lv_aload_n (pc := 27) hx hb dX7_effect_27 rfl (lv_at hl 0 rfl) ?_
    refine lv_iload_n (pc := 28) hx hb dX7_effect_28 rfl (lv_at hl 1 rfl) ?_
    obtain ⟨v5, h_v5, h⟩ := ob h
    refine wrVv (pc := 29) (As := [.int a0]) (rest := []) (ws2 := wMod K ad (0 : Int32) v5 mold mols msav miss minp mlen mat v3.1 v3.2.1 v3.2.2 v4.1 v4.2.1 v4.2.2 mnum mmet) (as9 := [ad 0, ad 1, ad 2, ad 3, ad 4, ad 5, ad 6, ad 7, ad 8, ad 9, ad 10, ad 11]) hx hb hml hown hts hG hP hD hS (c_Mod_unties l K ad (0 : Int32) mnow mold mols msav miss minp mlen mat v3.1 v3.2.1 v3.2.2 v4.1 v4.2.1 v4.2.2 mnum mmet a0 F h_v5) [0, 1, 2, 3, 4, 5, 6, 7, 8, 9, 10, 11] rfl rfl rfl rfl [.inl 0, .inl 1, .inl 2, .inl 3, .inl 4, .inl 5, .inl 6, .inl 7, .inl 8, .inl 9, .inl 10, .inl 11] (by decide +kernel) rfl (q0 := 0) rfl (ci := 7) rfl g_Mod_185 hd_Mod_unties rfl ⟨Nat.le_of_ble_eq_true rfl, Nat.le_of_ble_eq_true rfl⟩ ⟨Nat.zero_le _, Nat.zero_le _⟩ hl rfl (Nat.le_of_ble_eq_true rfl) dX7_effect_29 (fun H locs hP hD hS => ?_)
    refine lv_aload_n (pc := 32) hx hb dX7_effect_32 rfl (lv_at hl 0 rfl) ?_
    obtain ⟨v6, h_v6, h⟩ := ob h
    refine wrVv (pc := 33) (As := []) (rest := []) (ws2 := wMod K ad (0 : Int32) v5 mold mols msav miss minp mlen mat v6.1 v6.2.1 v6.2.2 v4.1 v4.2.1 v4.2.2 mnum mmet) (as9 := [ad 0, ad 1, ad 2, ad 3, ad 4, ad 5, ad 6, ad 7, ad 8, ad 9, ad 10, ad 11]) hx hb hml hown hts hG hP hD hS (c_Mod_builds l K ad (0 : Int32) v5 mold mols msav miss minp mlen mat v3.1 v3.2.1 v3.2.2 v4.1 v4.2.1 v4.2.2 mnum mmet F h_v6) [0, 1, 2, 3, 4, 5, 6, 7, 8, 9, 10, 11] rfl rfl rfl rfl [.inl 0, .inl 1, .inl 2, .inl 3, .inl 4, .inl 5, .inl 6, .inl 7, .inl 8, .inl 9, .inl 10, .inl 11] (by decide +kernel) rfl (q0 := 0) rfl (ci := 7) rfl g_Mod_210 hd_Mod_builds rfl ⟨Nat.le_of_ble_eq_true rfl, Nat.le_of_ble_eq_true rfl⟩ ⟨Nat.zero_le _, Nat.zero_le _⟩ hl rfl (Nat.le_of_ble_eq_true rfl) dX7_effect_33 (fun H locs hP hD hS => ?_)
    refine lv_iconst (v := (0 : Int32)) (pc := 36) hx hb dX7_effect_36 (by decide) ?_
    refine lv_istore_n (pc := 37) (lv' := [(2, .int (0 : Int32)), (0, .ref (ad 0)), (1, .int a0)]) hx hb dX7_effect_37 rfl hl (by decide) rfl (fun ls hl => ?_)
    refine lv_iconst (v := (0 : Int32)) (pc := 38) hx hb dX7_effect_38 (by decide) ?_
    refine lv_istore_n (pc := 39) (lv' := [(3, .int (0 : Int32)), (2, .int (0 : Int32)), (0, .ref (ad 0)), (1, .int a0)]) hx hb dX7_effect_39 rfl hl (by decide) rfl (fun ls hl => ?_)
    obtain ⟨o16, h_o16, h⟩ := ob h
    refine l_Mod_effect_L40 C0 F ad (0 : Int32) v5 mold mols msav miss minp mlen mat v6.1 v6.2.1 v6.2.2 v4.1 v4.2.1 v4.2.2 mnum mmet F (0 : Int32) (0 : Int32) _ h_o16 H locs ls hP hD hS (lv_sub hl [2, 1, 0] rfl) (fun o16x H locs ls eo hP hD hS hl => ?_)
    subst o16
    refine lv_aload_n (pc := 102) hx hb dX7_effect_102 rfl (lv_at hl 0 rfl) ?_
    obtain ⟨v17, h_v17, h⟩ := ob h
    refine wrVv (pc := 103) (As := []) (rest := []) (ws2 := wMod K ad (0 : Int32) v17 mold mols msav miss minp mlen mat v6.1 v6.2.1 v6.2.2 v4.1 v4.2.1 v4.2.2 mnum mmet) (as9 := [ad 0, ad 1, ad 2, ad 3, ad 4, ad 5, ad 6, ad 7, ad 8, ad 9, ad 10, ad 11]) hx hb hml hown hts hG hP hD hS (c_Mod_goesBack l K ad (0 : Int32) v5 mold mols msav miss minp mlen mat v6.1 v6.2.1 v6.2.2 v4.1 v4.2.1 v4.2.2 mnum mmet F h_v17) [0, 1, 2, 3, 4, 5, 6, 7, 8, 9, 10, 11] rfl rfl rfl rfl [.inl 0, .inl 1, .inl 2, .inl 3, .inl 4, .inl 5, .inl 6, .inl 7, .inl 8, .inl 9, .inl 10, .inl 11] (by decide +kernel) rfl (q0 := 0) rfl (ci := 7) rfl g_Mod_259 hd_Mod_goesBack rfl ⟨Nat.le_of_ble_eq_true rfl, Nat.le_of_ble_eq_true rfl⟩ ⟨Nat.zero_le _, Nat.zero_le _⟩ hl rfl (Nat.le_of_ble_eq_true rfl) dX7_effect_103 (fun H locs hP hD hS => ?_)
    refine lv_iload_n (pc := 106) hx hb dX7_effect_106 rfl (lv_at hl 1 rfl) ?_
    obtain rfl := Option.some.inj h
    exact W.iret hx hb hr (fun t ht hW => ⟨⟨rfl, by rw [ht]; exact hP⟩, hS.F ht⟩) hS.2.2 dX7_effect_107 hlk
  · have h := it_t c2 h
    refine lv_aload_n (pc := 13) hx hb dX7_effect_13 rfl (lv_at hl 0 rfl) ?_
    refine lv_iconst (v := (1 : Int32)) (pc := 14) hx hb dX7_effect_14 (by decide) ?_
    refine wrVi (pc := 15) (As := [.int (1 : Int32)]) (rest := []) (ws2 := wMod K ad ((s_Mod_raises (1 : Int32)).2) mnow mold mols msav miss minp mlen mat medg mcor mtri mkep mkee mwor mnum mmet) (as9 := [ad 0, ad 1, ad 2, ad 3, ad 4, ad 5, ad 6, ad 7, ad 8, ad 9, ad 10, ad 11]) hx hb hml hown hts hG hP hD hS (c_Mod_raises l K ad (0 : Int32) mnow mold mols msav miss minp mlen mat medg mcor mtri mkep mkee mwor mnum mmet (1 : Int32)) [0, 1, 2, 3, 4, 5, 6, 7, 8, 9, 10, 11] rfl rfl rfl rfl [.inl 0, .inl 1, .inl 2, .inl 3, .inl 4, .inl 5, .inl 6, .inl 7, .inl 8, .inl 9, .inl 10, .inl 11] (by decide +kernel) rfl (q0 := 0) rfl (ci := 7) rfl g_Mod_172 hd_Mod_raises rfl ⟨Nat.le_of_ble_eq_true rfl, Nat.le_of_ble_eq_true rfl⟩ ⟨Nat.zero_le _, Nat.zero_le _⟩ hl rfl (Nat.le_of_ble_eq_true rfl) dX7_effect_15 (fun H locs hP hD hS => ?_)
    obtain rfl := Option.some.inj h
    exact W.iret hx hb hr (fun t ht hW => ⟨⟨rfl, by rw [ht]; exact hP⟩, hS.F ht⟩) hS.2.2 dX7_effect_18 hlk
set_option maxHeartbeats 4000000 in
set_option maxRecDepth 100000 in
theorem l_Mod_undo_L30 {p : Program} {l : Launch} {e : Env} {s : State} {m : MethodId} {args : Array Value} {below : List Frame} {meth : Method} {c : Code} {Q : State → Prop} {K : KT} {A : Nat → Prop} (C0 : Ctx p m c cX7_undo 2 s args RX7 K meth (some .int)) (F : Nat) (ad : Nat → Nat) (mthr : Int32) (mold : Nat → Int32) (mols : Int32) (msav : Nat → Int32) (miss : Bool) (minp : Nat → Int32) (mlen : Int32) (mat : Int32) (medg : Nat → Int32) (mcor : Nat → Int32) (mtri : Int32) (mkep : Nat → Int32) (mkee : Nat → Int32) (mwor : Nat → Int32) (mnum : Nat → Int32) (mmet : Nat → Int32)  : ∀ (n : Nat) (x1 : Int32) (mnow : Nat → Int32) (out : Int32 × (Nat → Int32)), s_Mod_undo_L30 mold mols n x1 mnow = some out → ∀ (H : Heap) (locs : List Loc) (ls : Array Slot), va_P K.1 vC (wMod K ad mthr mnow mold mols msav miss minp mlen mat medg mcor mtri mkep mkee mwor mnum mmet) H → va_D A (wMod K ad mthr mnow mold mols msav miss minp mlen mat medg mcor mtri mkep mkee mwor mnum mmet) → va_S A s.heap H locs → lv_has ls 2 [(0, .ref (ad 0)), (1, .int x1)] → (∀ (o : Int32 × (Nat → Int32)) (H : Heap) (locs : List Loc) (ls : Array Slot), out = o → va_P K.1 vC (wMod K ad mthr o.2 mold mols msav miss minp mlen mat medg mcor mtri mkep mkee mwor mnum mmet) H → va_D A (wMod K ad mthr o.2 mold mols msav miss minp mlen mat medg mcor mtri mkep mkee mwor mnum mmet) → va_S A s.heap H locs → lv_has ls 2 [(0, .ref (ad 0)), (1, .int o.1)] → W p l e (rmL 1) s m args below meth c H locs 0 0 Q (F0 m 62 ls [])) → W p l e (rmL 1) s m args below meth c H locs 0 0 Q (F0 m 30 ls []) := by
  obtain ⟨hx, hb, hml, hown, hts, hG, hr, hlk⟩ := id C0
  intro n
  induction n with
  | zero =>
    intro x1 mnow out h
    cases h
  | succ n ih =>
    intro x1 mnow out h H locs ls hP hD hS hl Kx 
    rw [s_Mod_undo_L30.eq_2] at h
    refine lv_iload_n (pc := 30) hx hb dX7_undo_30 rfl (lv_at hl 1 rfl) ?_
    refine lv_bipush (v := (56 : Int32)) (pc := 31) hx hb dX7_undo_31 (by decide) ?_
    refine lv_icmp_ge (tgt := 62) (pc := 33) hx hb dX7_undo_33 (by decide) (fun c2 => ?_) (fun c2 => ?_)
    · have h := it_t c2 h
      obtain rfl := Option.some.inj h
      exact Kx _ H locs ls rfl hP hD hS (lv_sub hl [0, 1] rfl)
    · have h := it_f c2 h
      refine lv_aload_n (pc := 36) hx hb dX7_undo_36 rfl (lv_at hl 0 rfl) ?_
      refine va_get (D := K.1) (ci := 7) (v := .ref (ad 1)) (C := RX7) (T := TX7) (N := 17) (pc := 37) hx hb hts inT7 hown hG.1 hP 0 rfl rfl 1 (by decide) (hts _ qf_Mod_9) (fun _ h9 => h9) rfl dX7_undo_37 ?_
      refine lv_iload_n (pc := 40) hx hb dX7_undo_40 rfl (lv_at hl 1 rfl) ?_
      refine lv_aload_n (pc := 41) hx hb dX7_undo_41 rfl (lv_at hl 0 rfl) ?_
      refine va_get (D := K.1) (ci := 7) (v := .ref (ad 2)) (C := RX7) (T := TX7) (N := 17) (pc := 42) hx hb hts inT7 hown hG.1 hP 0 rfl rfl 2 (by decide) (hts _ qf_Mod_13) (fun _ h9 => h9) rfl dX7_undo_42 ?_
      refine lv_bipush (v := (56 : Int32)) (pc := 45) hx hb dX7_undo_45 (by decide) ?_
      refine lv_aload_n (pc := 47) hx hb dX7_undo_47 rfl (lv_at hl 0 rfl) ?_
      refine va_get (D := K.1) (ci := 7) (v := .int mols) (C := RX7) (T := TX7) (N := 17) (pc := 48) hx hb hts inT7 hown hG.1 hP 0 rfl rfl 3 (by decide) (hts _ qf_Mod_150) (fun _ h9 => h9) rfl dX7_undo_48 ?_
      refine lv_imul (pc := 51) hx hb dX7_undo_51 ?_
      refine lv_iload_n (pc := 52) hx hb dX7_undo_52 rfl (lv_at hl 1 rfl) ?_
      refine lv_iadd (pc := 53) hx hb dX7_undo_53 ?_
      obtain ⟨v3, h_v3, h⟩ := ob h
      obtain ⟨hi_v3, e_v3⟩ := aget_in h_v3
      refine va_iald (pc := 54) hx hb hG.1 hP 2 0 rfl rfl hi_v3 dX7_undo_54 ?_
      rw [e_v3]
      obtain ⟨v4, h_v4, h⟩ := ob h
      obtain ⟨hi_v4, e_v4⟩ := aset_in h_v4
      refine va_iast (pc := 55) hx hb hG.1 hP hD hS 1 0 rfl rfl hi_v4 dX7_undo_55 (fun H locs hP hD hS => ?_)
      rw [e_v4] at hP hD
      have hP : va_P K.1 vC (wMod K ad mthr v4 mold mols msav miss minp mlen mat medg mcor mtri mkep mkee mwor mnum mmet) H := hP
      have hD : va_D _ (wMod K ad mthr v4 mold mols msav miss minp mlen mat medg mcor mtri mkep mkee mwor mnum mmet) := hD
      refine lv_iinc (v := (x1 + (1 : Int32))) (pc := 56) (lv' := [(1, .int (x1 + (1 : Int32))), (0, .ref (ad 0))]) hx hb dX7_undo_56 hl (k := 1) rfl rfl (by decide) rfl (fun ls hl => ?_)
      refine lv_goto (tgt := 30) (pc := 59) hx hb dX7_undo_59 (by decide) ?_
      exact ih (x1 + (1 : Int32)) v4 out h H locs ls hP hD hS (lv_sub hl [1, 0] rfl) Kx 
set_option maxHeartbeats 4000000 in
set_option maxRecDepth 100000 in
theorem c_Mod_undo (l : Launch) (K : KT) (ad : Nat → Nat) (mthr : Int32) (mnow : Nat → Int32) (mold : Nat → Int32) (mols : Int32) (msav : Nat → Int32) (miss : Bool) (minp : Nat → Int32) (mlen : Int32) (mat : Int32) (medg : Nat → Int32) (mcor : Nat → Int32) (mtri : Int32) (mkep : Nat → Int32) (mkee : Nat → Int32) (mwor : Nat → Int32) (mnum : Nat → Int32) (mmet : Nat → Int32) (F : Nat) {o : Int32 × Int32 × (Nat → Int32) × Int32} (h : s_Mod_undo F mnow mold mols = some o) : Wr l K 1 yX7_undo cX7_undo 2 (some .int) [.ref (ad 0)] (wMod K ad mthr mnow mold mols msav miss minp mlen mat medg mcor mtri mkep mkee mwor mnum mmet) (some (.int o.1)) (wMod K ad o.2.1 o.2.2.1 mold o.2.2.2 msav miss minp mlen mat medg mcor mtri mkep mkee mwor mnum mmet) := by
  refine Wr.of (by decide +kernel) (Nat.le_of_ble_eq_true rfl) ?_
  unfold s_Mod_undo at h
  intro p e s m below meth c hx hb hr hml hown hts hlk H locs hP hG hD hS ls hl
  have C0 : Ctx p m c cX7_undo 2 s (Array.mk [.ref (ad 0)]) RX7 K meth (some .int) := ⟨hx, hb, hml, hown, hts, hG, hr, hlk⟩
  have hl : lv_has ls 2 [(0, .ref (ad 0))] := hl
  refine lv_aload_n (pc := 0) hx hb dX7_undo_0 rfl (lv_at hl 0 rfl) ?_
  refine lv_iconst (v := (0 : Int32)) (pc := 1) hx hb dX7_undo_1 (by decide) ?_
  refine va_put (D := K.1) (ci := 7) (v := .int (0 : Int32)) (ty := .int) (C := RX7) (T := TX7) (N := 17) (pc := 2) hx hb hts inT7 tyX7 tyX7_ok nmX7 hown hG.1 hP hD hS 0 rfl rfl 0 (by decide) (hts _ qf_Mod_44) (fun _ h9 => h9) rfl (by decide +kernel) rfl rfl (Nat.le_of_ble_eq_true rfl) dX7_undo_2 (fun H locs hP hD hS => ?_)
  have hP : va_P K.1 vC (wMod K ad (0 : Int32) mnow mold mols msav miss minp mlen mat medg mcor mtri mkep mkee mwor mnum mmet) H := hP
  have hD : va_D _ (wMod K ad (0 : Int32) mnow mold mols msav miss minp mlen mat medg mcor mtri mkep mkee mwor mnum mmet) := hD
  refine lv_aload_n (pc := 5) hx hb dX7_undo_5 rfl (lv_at hl 0 rfl) ?_
  refine va_get (D := K.1) (ci := 7) (v := .int mols) (C := RX7) (T := TX7) (N := 17) (pc := 6) hx hb hts inT7 hown hG.1 hP 0 rfl rfl 3 (by decide) (hts _ qf_Mod_150) (fun _ h9 => h9) rfl dX7_undo_6 ?_
  refine lv_if_ne (tgt := 18) (pc := 9) hx hb dX7_undo_9 (by decide) (fun c1 => ?_) (fun c1 => ?_)
  · have h := it_f c1 h
    refine lv_aload_n (pc := 18) hx hb dX7_undo_18 rfl (lv_at hl 0 rfl) ?_
    refine lv_dup (pc := 19) hx hb dX7_undo_19 rfl ?_
    refine va_get (D := K.1) (ci := 7) (v := .int mols) (C := RX7) (T := TX7) (N := 17) (pc := 20) hx hb hts inT7 hown hG.1 hP 0 rfl rfl 3 (by decide) (hts _ qf_Mod_150) (fun _ h9 => h9) rfl dX7_undo_20 ?_
    refine lv_iconst (v := (1 : Int32)) (pc := 23) hx hb dX7_undo_23 (by decide) ?_
    refine lv_isub (pc := 24) hx hb dX7_undo_24 ?_
    refine va_put (D := K.1) (ci := 7) (v := .int (mols - (1 : Int32))) (ty := .int) (C := RX7) (T := TX7) (N := 17) (pc := 25) hx hb hts inT7 tyX7 tyX7_ok nmX7 hown hG.1 hP hD hS 0 rfl rfl 3 (by decide) (hts _ qf_Mod_150) (fun _ h9 => h9) rfl (by decide +kernel) rfl rfl (Nat.le_of_ble_eq_true rfl) dX7_undo_25 (fun H locs hP hD hS => ?_)
    have hP : va_P K.1 vC (wMod K ad (0 : Int32) mnow mold (mols - (1 : Int32)) msav miss minp mlen mat medg mcor mtri mkep mkee mwor mnum mmet) H := hP
    have hD : va_D _ (wMod K ad (0 : Int32) mnow mold (mols - (1 : Int32)) msav miss minp mlen mat medg mcor mtri mkep mkee mwor mnum mmet) := hD
    refine lv_iconst (v := (0 : Int32)) (pc := 28) hx hb dX7_undo_28 (by decide) ?_
    refine lv_istore_n (pc := 29) (lv' := [(1, .int (0 : Int32)), (0, .ref (ad 0))]) hx hb dX7_undo_29 rfl hl (by decide) rfl (fun ls hl => ?_)
    obtain ⟨o5, h_o5, h⟩ := ob h
    refine l_Mod_undo_L30 C0 F ad (0 : Int32) mold (mols - (1 : Int32)) msav miss minp mlen mat medg mcor mtri mkep mkee mwor mnum mmet F (0 : Int32) mnow _ h_o5 H locs ls hP hD hS (lv_sub hl [1, 0] rfl) (fun o5x H locs ls eo hP hD hS hl => ?_)
    subst o5
    refine lv_aload_n (pc := 62) hx hb dX7_undo_62 rfl (lv_at hl 0 rfl) ?_
    refine va_get (D := K.1) (ci := 7) (v := .int (mols - (1 : Int32))) (C := RX7) (T := TX7) (N := 17) (pc := 63) hx hb hts inT7 hown hG.1 hP 0 rfl rfl 3 (by decide) (hts _ qf_Mod_150) (fun _ h9 => h9) rfl dX7_undo_63 ?_
    obtain rfl := Option.some.inj h
    exact W.iret hx hb hr (fun t ht hW => ⟨⟨rfl, by rw [ht]; exact hP⟩, hS.F ht⟩) hS.2.2 dX7_undo_66 hlk
  · have h := it_t c1 h
    refine lv_aload_n (pc := 12) hx hb dX7_undo_12 rfl (lv_at hl 0 rfl) ?_
    refine lv_iconst (v := (1 : Int32)) (pc := 13) hx hb dX7_undo_13 (by decide) ?_
    refine wrVi (pc := 14) (As := [.int (1 : Int32)]) (rest := []) (ws2 := wMod K ad ((s_Mod_raises (1 : Int32)).2) mnow mold mols msav miss minp mlen mat medg mcor mtri mkep mkee mwor mnum mmet) (as9 := [ad 0, ad 1, ad 2, ad 3, ad 4, ad 5, ad 6, ad 7, ad 8, ad 9, ad 10, ad 11]) hx hb hml hown hts hG hP hD hS (c_Mod_raises l K ad (0 : Int32) mnow mold mols msav miss minp mlen mat medg mcor mtri mkep mkee mwor mnum mmet (1 : Int32)) [0, 1, 2, 3, 4, 5, 6, 7, 8, 9, 10, 11] rfl rfl rfl rfl [.inl 0, .inl 1, .inl 2, .inl 3, .inl 4, .inl 5, .inl 6, .inl 7, .inl 8, .inl 9, .inl 10, .inl 11] (by decide +kernel) rfl (q0 := 0) rfl (ci := 7) rfl g_Mod_172 hd_Mod_raises rfl ⟨Nat.le_of_ble_eq_true rfl, Nat.le_of_ble_eq_true rfl⟩ ⟨Nat.zero_le _, Nat.zero_le _⟩ hl rfl (Nat.le_of_ble_eq_true rfl) dX7_undo_14 (fun H locs hP hD hS => ?_)
    obtain rfl := Option.some.inj h
    exact W.iret hx hb hr (fun t ht hW => ⟨⟨rfl, by rw [ht]; exact hP⟩, hS.F ht⟩) hS.2.2 dX7_undo_17 hlk
set_option maxHeartbeats 4000000 in
set_option maxRecDepth 100000 in
theorem l_Mod_save_L12 {p : Program} {l : Launch} {e : Env} {s : State} {m : MethodId} {args : Array Value} {below : List Frame} {meth : Method} {c : Code} {Q : State → Prop} {K : KT} {A : Nat → Prop} (C0 : Ctx p m c cX7_save 2 s args RX7 K meth (some .int)) (F : Nat) (ad : Nat → Nat) (mthr : Int32) (mnow : Nat → Int32) (mold : Nat → Int32) (mols : Int32) (miss : Bool) (minp : Nat → Int32) (mlen : Int32) (mat : Int32) (medg : Nat → Int32) (mcor : Nat → Int32) (mtri : Int32) (mkep : Nat → Int32) (mkee : Nat → Int32) (mwor : Nat → Int32) (mnum : Nat → Int32) (mmet : Nat → Int32)  : ∀ (n : Nat) (x1 : Int32) (msav : Nat → Int32) (out : Int32 × (Nat → Int32)), s_Mod_save_L12 mnow n x1 msav = some out → ∀ (H : Heap) (locs : List Loc) (ls : Array Slot), va_P K.1 vC (wMod K ad mthr mnow mold mols msav miss minp mlen mat medg mcor mtri mkep mkee mwor mnum mmet) H → va_D A (wMod K ad mthr mnow mold mols msav miss minp mlen mat medg mcor mtri mkep mkee mwor mnum mmet) → va_S A s.heap H locs → lv_has ls 2 [(0, .ref (ad 0)), (1, .int x1)] → (∀ (o : Int32 × (Nat → Int32)) (H : Heap) (locs : List Loc) (ls : Array Slot), out = o → va_P K.1 vC (wMod K ad mthr mnow mold mols o.2 miss minp mlen mat medg mcor mtri mkep mkee mwor mnum mmet) H → va_D A (wMod K ad mthr mnow mold mols o.2 miss minp mlen mat medg mcor mtri mkep mkee mwor mnum mmet) → va_S A s.heap H locs → lv_has ls 2 [(0, .ref (ad 0)), (1, .int o.1)] → W p l e (rmL 1) s m args below meth c H locs 0 0 Q (F0 m 36 ls [])) → W p l e (rmL 1) s m args below meth c H locs 0 0 Q (F0 m 12 ls []) := by
  obtain ⟨hx, hb, hml, hown, hts, hG, hr, hlk⟩ := id C0
  intro n
  induction n with
  | zero =>
    intro x1 msav out h
    cases h
  | succ n ih =>
    intro x1 msav out h H locs ls hP hD hS hl Kx 
    rw [s_Mod_save_L12.eq_2] at h
    refine lv_iload_n (pc := 12) hx hb dX7_save_12 rfl (lv_at hl 1 rfl) ?_
    refine lv_bipush (v := (56 : Int32)) (pc := 13) hx hb dX7_save_13 (by decide) ?_
    refine lv_icmp_ge (tgt := 36) (pc := 15) hx hb dX7_save_15 (by decide) (fun c1 => ?_) (fun c1 => ?_)
    · have h := it_t c1 h
      obtain rfl := Option.some.inj h
      exact Kx _ H locs ls rfl hP hD hS (lv_sub hl [0, 1] rfl)
    · have h := it_f c1 h
      refine lv_aload_n (pc := 18) hx hb dX7_save_18 rfl (lv_at hl 0 rfl) ?_
      refine va_get (D := K.1) (ci := 7) (v := .ref (ad 3)) (C := RX7) (T := TX7) (N := 17) (pc := 19) hx hb hts inT7 hown hG.1 hP 0 rfl rfl 4 (by decide) (hts _ qf_Mod_16) (fun _ h9 => h9) rfl dX7_save_19 ?_
      refine lv_iload_n (pc := 22) hx hb dX7_save_22 rfl (lv_at hl 1 rfl) ?_
      refine lv_aload_n (pc := 23) hx hb dX7_save_23 rfl (lv_at hl 0 rfl) ?_
      refine va_get (D := K.1) (ci := 7) (v := .ref (ad 1)) (C := RX7) (T := TX7) (N := 17) (pc := 24) hx hb hts inT7 hown hG.1 hP 0 rfl rfl 1 (by decide) (hts _ qf_Mod_9) (fun _ h9 => h9) rfl dX7_save_24 ?_
      refine lv_iload_n (pc := 27) hx hb dX7_save_27 rfl (lv_at hl 1 rfl) ?_
      obtain ⟨v2, h_v2, h⟩ := ob h
      obtain ⟨hi_v2, e_v2⟩ := aget_in h_v2
      refine va_iald (pc := 28) hx hb hG.1 hP 1 0 rfl rfl hi_v2 dX7_save_28 ?_
      rw [e_v2]
      obtain ⟨v3, h_v3, h⟩ := ob h
      obtain ⟨hi_v3, e_v3⟩ := aset_in h_v3
      refine va_iast (pc := 29) hx hb hG.1 hP hD hS 3 0 rfl rfl hi_v3 dX7_save_29 (fun H locs hP hD hS => ?_)
      rw [e_v3] at hP hD
      have hP : va_P K.1 vC (wMod K ad mthr mnow mold mols v3 miss minp mlen mat medg mcor mtri mkep mkee mwor mnum mmet) H := hP
      have hD : va_D _ (wMod K ad mthr mnow mold mols v3 miss minp mlen mat medg mcor mtri mkep mkee mwor mnum mmet) := hD
      refine lv_iinc (v := (x1 + (1 : Int32))) (pc := 30) (lv' := [(1, .int (x1 + (1 : Int32))), (0, .ref (ad 0))]) hx hb dX7_save_30 hl (k := 1) rfl rfl (by decide) rfl (fun ls hl => ?_)
      refine lv_goto (tgt := 12) (pc := 33) hx hb dX7_save_33 (by decide) ?_
      exact ih (x1 + (1 : Int32)) v3 out h H locs ls hP hD hS (lv_sub hl [1, 0] rfl) Kx 
set_option maxHeartbeats 4000000 in
set_option maxRecDepth 100000 in
theorem c_Mod_save (l : Launch) (K : KT) (ad : Nat → Nat) (mthr : Int32) (mnow : Nat → Int32) (mold : Nat → Int32) (mols : Int32) (msav : Nat → Int32) (miss : Bool) (minp : Nat → Int32) (mlen : Int32) (mat : Int32) (medg : Nat → Int32) (mcor : Nat → Int32) (mtri : Int32) (mkep : Nat → Int32) (mkee : Nat → Int32) (mwor : Nat → Int32) (mnum : Nat → Int32) (mmet : Nat → Int32) (F : Nat) {o : Int32 × Int32 × (Nat → Int32) × Bool} (h : s_Mod_save F mnow msav = some o) : Wr l K 1 yX7_save cX7_save 2 (some .int) [.ref (ad 0)] (wMod K ad mthr mnow mold mols msav miss minp mlen mat medg mcor mtri mkep mkee mwor mnum mmet) (some (.int o.1)) (wMod K ad o.2.1 mnow mold mols o.2.2.1 o.2.2.2 minp mlen mat medg mcor mtri mkep mkee mwor mnum mmet) := by
  refine Wr.of (by decide +kernel) (Nat.le_of_ble_eq_true rfl) ?_
  unfold s_Mod_save at h
  intro p e s m below meth c hx hb hr hml hown hts hlk H locs hP hG hD hS ls hl
  have C0 : Ctx p m c cX7_save 2 s (Array.mk [.ref (ad 0)]) RX7 K meth (some .int) := ⟨hx, hb, hml, hown, hts, hG, hr, hlk⟩
  have hl : lv_has ls 2 [(0, .ref (ad 0))] := hl
  refine lv_aload_n (pc := 0) hx hb dX7_save_0 rfl (lv_at hl 0 rfl) ?_
  refine lv_iconst (v := (0 : Int32)) (pc := 1) hx hb dX7_save_1 (by decide) ?_
  refine va_put (D := K.1) (ci := 7) (v := .int (0 : Int32)) (ty := .int) (C := RX7) (T := TX7) (N := 17) (pc := 2) hx hb hts inT7 tyX7 tyX7_ok nmX7 hown hG.1 hP hD hS 0 rfl rfl 0 (by decide) (hts _ qf_Mod_44) (fun _ h9 => h9) rfl (by decide +kernel) rfl rfl (Nat.le_of_ble_eq_true rfl) dX7_save_2 (fun H locs hP hD hS => ?_)
  have hP : va_P K.1 vC (wMod K ad (0 : Int32) mnow mold mols msav miss minp mlen mat medg mcor mtri mkep mkee mwor mnum mmet) H := hP
  have hD : va_D _ (wMod K ad (0 : Int32) mnow mold mols msav miss minp mlen mat medg mcor mtri mkep mkee mwor mnum mmet) := hD
  refine lv_aload_n (pc := 5) hx hb dX7_save_5 rfl (lv_at hl 0 rfl) ?_
  refine lv_iconst (v := (1 : Int32)) (pc := 6) hx hb dX7_save_6 (by decide) ?_
  refine va_put (D := K.1) (ci := 7) (v := .int (bI true)) (ty := .boolean) (C := RX7) (T := TX7) (N := 17) (pc := 7) hx hb hts inT7 tyX7 tyX7_ok nmX7 hown hG.1 hP hD hS 0 rfl rfl 5 (by decide) (hts _ qf_Mod_262) (fun _ h9 => h9) rfl (by decide +kernel) (bI_nar _) (bI_fit _) (Nat.le_of_ble_eq_true rfl) dX7_save_7 (fun H locs hP hD hS => ?_)
  have hP : va_P K.1 vC (wMod K ad (0 : Int32) mnow mold mols msav true minp mlen mat medg mcor mtri mkep mkee mwor mnum mmet) H := hP
  have hD : va_D _ (wMod K ad (0 : Int32) mnow mold mols msav true minp mlen mat medg mcor mtri mkep mkee mwor mnum mmet) := hD
  refine lv_iconst (v := (0 : Int32)) (pc := 10) hx hb dX7_save_10 (by decide) ?_
  refine lv_istore_n (pc := 11) (lv' := [(1, .int (0 : Int32)), (0, .ref (ad 0))]) hx hb dX7_save_11 rfl hl (by decide) rfl (fun ls hl => ?_)
  obtain ⟨o4, h_o4, h⟩ := ob h
  refine l_Mod_save_L12 C0 F ad (0 : Int32) mnow mold mols true minp mlen mat medg mcor mtri mkep mkee mwor mnum mmet F (0 : Int32) msav _ h_o4 H locs ls hP hD hS (lv_sub hl [1, 0] rfl) (fun o4x H locs ls eo hP hD hS hl => ?_)
  subst o4
  refine lv_aload_n (pc := 36) hx hb dX7_save_36 rfl (lv_at hl 0 rfl) ?_
  obtain ⟨v5, h_v5, h⟩ := ob h
  refine rdV (pc := 37) (As := []) (rest := []) hx hb hml hown hts hG hP (c_Mod_n l K ad (0 : Int32) mnow mold mols o4x.2 true minp mlen mat medg mcor mtri mkep mkee mwor mnum mmet h_v5) [0, 1, 2, 3, 4, 5, 6, 7, 8, 9, 10, 11] rfl (q0 := 0) rfl (ci := 7) rfl g_Mod_48 hd_Mod_n rfl ⟨Nat.le_of_ble_eq_true rfl, Nat.le_of_ble_eq_true rfl⟩ ⟨Nat.zero_le _, Nat.zero_le _⟩ hl rfl (Nat.le_of_ble_eq_true rfl) dX7_save_37 ?_
  obtain rfl := Option.some.inj h
  exact W.iret hx hb hr (fun t ht hW => ⟨⟨rfl, by rw [ht]; exact hP⟩, hS.F ht⟩) hS.2.2 dX7_save_40 hlk
set_option maxHeartbeats 4000000 in
set_option maxRecDepth 100000 in
theorem l_Mod_restore_L20 {p : Program} {l : Launch} {e : Env} {s : State} {m : MethodId} {args : Array Value} {below : List Frame} {meth : Method} {c : Code} {Q : State → Prop} {K : KT} {A : Nat → Prop} (C0 : Ctx p m c cX7_restore 2 s args RX7 K meth (some .int)) (F : Nat) (ad : Nat → Nat) (mthr : Int32) (mold : Nat → Int32) (mols : Int32) (msav : Nat → Int32) (miss : Bool) (minp : Nat → Int32) (mlen : Int32) (mat : Int32) (medg : Nat → Int32) (mcor : Nat → Int32) (mtri : Int32) (mkep : Nat → Int32) (mkee : Nat → Int32) (mwor : Nat → Int32) (mnum : Nat → Int32) (mmet : Nat → Int32)  : ∀ (n : Nat) (x1 : Int32) (mnow : Nat → Int32) (out : Int32 × (Nat → Int32)), s_Mod_restore_L20 msav n x1 mnow = some out → ∀ (H : Heap) (locs : List Loc) (ls : Array Slot), va_P K.1 vC (wMod K ad mthr mnow mold mols msav miss minp mlen mat medg mcor mtri mkep mkee mwor mnum mmet) H → va_D A (wMod K ad mthr mnow mold mols msav miss minp mlen mat medg mcor mtri mkep mkee mwor mnum mmet) → va_S A s.heap H locs → lv_has ls 2 [(0, .ref (ad 0)), (1, .int x1)] → (∀ (o : Int32 × (Nat → Int32)) (H : Heap) (locs : List Loc) (ls : Array Slot), out = o → va_P K.1 vC (wMod K ad mthr o.2 mold mols msav miss minp mlen mat medg mcor mtri mkep mkee mwor mnum mmet) H → va_D A (wMod K ad mthr o.2 mold mols msav miss minp mlen mat medg mcor mtri mkep mkee mwor mnum mmet) → va_S A s.heap H locs → lv_has ls 2 [(0, .ref (ad 0)), (1, .int o.1)] → W p l e (rmL 1) s m args below meth c H locs 0 0 Q (F0 m 44 ls [])) → W p l e (rmL 1) s m args below meth c H locs 0 0 Q (F0 m 20 ls []) := by
  obtain ⟨hx, hb, hml, hown, hts, hG, hr, hlk⟩ := id C0
  intro n
  induction n with
  | zero =>
    intro x1 mnow out h
    cases h
  | succ n ih =>
    intro x1 mnow out h H locs ls hP hD hS hl Kx 
    rw [s_Mod_restore_L20.eq_2] at h
    refine lv_iload_n (pc := 20) hx hb dX7_restore_20 rfl (lv_at hl 1 rfl) ?_
    refine lv_bipush (v := (56 : Int32)) (pc := 21) hx hb dX7_restore_21 (by decide) ?_
    refine lv_icmp_ge (tgt := 44) (pc := 23) hx hb dX7_restore_23 (by decide) (fun c2 => ?_) (fun c2 => ?_)
    · have h := it_t c2 h
      obtain rfl := Option.some.inj h
      exact Kx _ H locs ls rfl hP hD hS (lv_sub hl [0, 1] rfl)
    · have h := it_f c2 h
      refine lv_aload_n (pc := 26) hx hb dX7_restore_26 rfl (lv_at hl 0 rfl) ?_
      refine va_get (D := K.1) (ci := 7) (v := .ref (ad 1)) (C := RX7) (T := TX7) (N := 17) (pc := 27) hx hb hts inT7 hown hG.1 hP 0 rfl rfl 1 (by decide) (hts _ qf_Mod_9) (fun _ h9 => h9) rfl dX7_restore_27 ?_
      refine lv_iload_n (pc := 30) hx hb dX7_restore_30 rfl (lv_at hl 1 rfl) ?_
      refine lv_aload_n (pc := 31) hx hb dX7_restore_31 rfl (lv_at hl 0 rfl) ?_
      refine va_get (D := K.1) (ci := 7) (v := .ref (ad 3)) (C := RX7) (T := TX7) (N := 17) (pc := 32) hx hb hts inT7 hown hG.1 hP 0 rfl rfl 4 (by decide) (hts _ qf_Mod_16) (fun _ h9 => h9) rfl dX7_restore_32 ?_
      refine lv_iload_n (pc := 35) hx hb dX7_restore_35 rfl (lv_at hl 1 rfl) ?_
      obtain ⟨v3, h_v3, h⟩ := ob h
      obtain ⟨hi_v3, e_v3⟩ := aget_in h_v3
      refine va_iald (pc := 36) hx hb hG.1 hP 3 0 rfl rfl hi_v3 dX7_restore_36 ?_
      rw [e_v3]
      obtain ⟨v4, h_v4, h⟩ := ob h
      obtain ⟨hi_v4, e_v4⟩ := aset_in h_v4
      refine va_iast (pc := 37) hx hb hG.1 hP hD hS 1 0 rfl rfl hi_v4 dX7_restore_37 (fun H locs hP hD hS => ?_)
      rw [e_v4] at hP hD
      have hP : va_P K.1 vC (wMod K ad mthr v4 mold mols msav miss minp mlen mat medg mcor mtri mkep mkee mwor mnum mmet) H := hP
      have hD : va_D _ (wMod K ad mthr v4 mold mols msav miss minp mlen mat medg mcor mtri mkep mkee mwor mnum mmet) := hD
      refine lv_iinc (v := (x1 + (1 : Int32))) (pc := 38) (lv' := [(1, .int (x1 + (1 : Int32))), (0, .ref (ad 0))]) hx hb dX7_restore_38 hl (k := 1) rfl rfl (by decide) rfl (fun ls hl => ?_)
      refine lv_goto (tgt := 20) (pc := 41) hx hb dX7_restore_41 (by decide) ?_
      exact ih (x1 + (1 : Int32)) v4 out h H locs ls hP hD hS (lv_sub hl [1, 0] rfl) Kx 
set_option maxHeartbeats 4000000 in
set_option maxRecDepth 100000 in
theorem c_Mod_restore (l : Launch) (K : KT) (ad : Nat → Nat) (mthr : Int32) (mnow : Nat → Int32) (mold : Nat → Int32) (mols : Int32) (msav : Nat → Int32) (miss : Bool) (minp : Nat → Int32) (mlen : Int32) (mat : Int32) (medg : Nat → Int32) (mcor : Nat → Int32) (mtri : Int32) (mkep : Nat → Int32) (mkee : Nat → Int32) (mwor : Nat → Int32) (mnum : Nat → Int32) (mmet : Nat → Int32) (F : Nat) {o : Int32 × Int32 × (Nat → Int32) × Int32} (h : s_Mod_restore F mnow mols msav miss = some o) : Wr l K 1 yX7_restore cX7_restore 2 (some .int) [.ref (ad 0)] (wMod K ad mthr mnow mold mols msav miss minp mlen mat medg mcor mtri mkep mkee mwor mnum mmet) (some (.int o.1)) (wMod K ad o.2.1 o.2.2.1 mold o.2.2.2 msav miss minp mlen mat medg mcor mtri mkep mkee mwor mnum mmet) := by
  refine Wr.of (by decide +kernel) (Nat.le_of_ble_eq_true rfl) ?_
  unfold s_Mod_restore at h
  intro p e s m below meth c hx hb hr hml hown hts hlk H locs hP hG hD hS ls hl
  have C0 : Ctx p m c cX7_restore 2 s (Array.mk [.ref (ad 0)]) RX7 K meth (some .int) := ⟨hx, hb, hml, hown, hts, hG, hr, hlk⟩
  have hl : lv_has ls 2 [(0, .ref (ad 0))] := hl
  refine lv_aload_n (pc := 0) hx hb dX7_restore_0 rfl (lv_at hl 0 rfl) ?_
  refine lv_iconst (v := (0 : Int32)) (pc := 1) hx hb dX7_restore_1 (by decide) ?_
  refine va_put (D := K.1) (ci := 7) (v := .int (0 : Int32)) (ty := .int) (C := RX7) (T := TX7) (N := 17) (pc := 2) hx hb hts inT7 tyX7 tyX7_ok nmX7 hown hG.1 hP hD hS 0 rfl rfl 0 (by decide) (hts _ qf_Mod_44) (fun _ h9 => h9) rfl (by decide +kernel) rfl rfl (Nat.le_of_ble_eq_true rfl) dX7_restore_2 (fun H locs hP hD hS => ?_)
  have hP : va_P K.1 vC (wMod K ad (0 : Int32) mnow mold mols msav miss minp mlen mat medg mcor mtri mkep mkee mwor mnum mmet) H := hP
  have hD : va_D _ (wMod K ad (0 : Int32) mnow mold mols msav miss minp mlen mat medg mcor mtri mkep mkee mwor mnum mmet) := hD
  refine lv_aload_n (pc := 5) hx hb dX7_restore_5 rfl (lv_at hl 0 rfl) ?_
  refine va_get (D := K.1) (ci := 7) (v := .int (bI miss)) (C := RX7) (T := TX7) (N := 17) (pc := 6) hx hb hts inT7 hown hG.1 hP 0 rfl rfl 5 (by decide) (hts _ qf_Mod_262) (fun _ h9 => h9) rfl dX7_restore_6 ?_
  refine lv_if_ne (tgt := 18) (pc := 9) hx hb dX7_restore_9 (by decide) (fun c1 => ?_) (fun c1 => ?_)
  · have h := it_f c1 h
    refine lv_iconst (v := (0 : Int32)) (pc := 18) hx hb dX7_restore_18 (by decide) ?_
    refine lv_istore_n (pc := 19) (lv' := [(1, .int (0 : Int32)), (0, .ref (ad 0))]) hx hb dX7_restore_19 rfl hl (by decide) rfl (fun ls hl => ?_)
    obtain ⟨o5, h_o5, h⟩ := ob h
    refine l_Mod_restore_L20 C0 F ad (0 : Int32) mold mols msav miss minp mlen mat medg mcor mtri mkep mkee mwor mnum mmet F (0 : Int32) mnow _ h_o5 H locs ls hP hD hS (lv_sub hl [1, 0] rfl) (fun o5x H locs ls eo hP hD hS hl => ?_)
    subst o5
    refine lv_aload_n (pc := 44) hx hb dX7_restore_44 rfl (lv_at hl 0 rfl) ?_
    refine lv_iconst (v := (0 : Int32)) (pc := 45) hx hb dX7_restore_45 (by decide) ?_
    refine va_put (D := K.1) (ci := 7) (v := .int (0 : Int32)) (ty := .int) (C := RX7) (T := TX7) (N := 17) (pc := 46) hx hb hts inT7 tyX7 tyX7_ok nmX7 hown hG.1 hP hD hS 0 rfl rfl 3 (by decide) (hts _ qf_Mod_150) (fun _ h9 => h9) rfl (by decide +kernel) rfl rfl (Nat.le_of_ble_eq_true rfl) dX7_restore_46 (fun H locs hP hD hS => ?_)
    have hP : va_P K.1 vC (wMod K ad (0 : Int32) o5x.2 mold (0 : Int32) msav miss minp mlen mat medg mcor mtri mkep mkee mwor mnum mmet) H := hP
    have hD : va_D _ (wMod K ad (0 : Int32) o5x.2 mold (0 : Int32) msav miss minp mlen mat medg mcor mtri mkep mkee mwor mnum mmet) := hD
    refine lv_aload_n (pc := 49) hx hb dX7_restore_49 rfl (lv_at hl 0 rfl) ?_
    obtain ⟨v6, h_v6, h⟩ := ob h
    refine rdV (pc := 50) (As := []) (rest := []) hx hb hml hown hts hG hP (c_Mod_n l K ad (0 : Int32) o5x.2 mold (0 : Int32) msav miss minp mlen mat medg mcor mtri mkep mkee mwor mnum mmet h_v6) [0, 1, 2, 3, 4, 5, 6, 7, 8, 9, 10, 11] rfl (q0 := 0) rfl (ci := 7) rfl g_Mod_48 hd_Mod_n rfl ⟨Nat.le_of_ble_eq_true rfl, Nat.le_of_ble_eq_true rfl⟩ ⟨Nat.zero_le _, Nat.zero_le _⟩ hl rfl (Nat.le_of_ble_eq_true rfl) dX7_restore_50 ?_
    obtain rfl := Option.some.inj h
    exact W.iret hx hb hr (fun t ht hW => ⟨⟨rfl, by rw [ht]; exact hP⟩, hS.F ht⟩) hS.2.2 dX7_restore_53 hlk
  · have h := it_t c1 h
    refine lv_aload_n (pc := 12) hx hb dX7_restore_12 rfl (lv_at hl 0 rfl) ?_
    refine lv_iconst (v := (1 : Int32)) (pc := 13) hx hb dX7_restore_13 (by decide) ?_
    refine wrVi (pc := 14) (As := [.int (1 : Int32)]) (rest := []) (ws2 := wMod K ad ((s_Mod_raises (1 : Int32)).2) mnow mold mols msav miss minp mlen mat medg mcor mtri mkep mkee mwor mnum mmet) (as9 := [ad 0, ad 1, ad 2, ad 3, ad 4, ad 5, ad 6, ad 7, ad 8, ad 9, ad 10, ad 11]) hx hb hml hown hts hG hP hD hS (c_Mod_raises l K ad (0 : Int32) mnow mold mols msav miss minp mlen mat medg mcor mtri mkep mkee mwor mnum mmet (1 : Int32)) [0, 1, 2, 3, 4, 5, 6, 7, 8, 9, 10, 11] rfl rfl rfl rfl [.inl 0, .inl 1, .inl 2, .inl 3, .inl 4, .inl 5, .inl 6, .inl 7, .inl 8, .inl 9, .inl 10, .inl 11] (by decide +kernel) rfl (q0 := 0) rfl (ci := 7) rfl g_Mod_172 hd_Mod_raises rfl ⟨Nat.le_of_ble_eq_true rfl, Nat.le_of_ble_eq_true rfl⟩ ⟨Nat.zero_le _, Nat.zero_le _⟩ hl rfl (Nat.le_of_ble_eq_true rfl) dX7_restore_14 (fun H locs hP hD hS => ?_)
    obtain rfl := Option.some.inj h
    exact W.iret hx hb hr (fun t ht hW => ⟨⟨rfl, by rw [ht]; exact hP⟩, hS.F ht⟩) hS.2.2 dX7_restore_17 hlk
