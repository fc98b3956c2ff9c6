set_option maxHeartbeats 4000000 in
set_option maxRecDepth 100000 in
theorem c_Mod_lists (l : Launch) (K : KT) (ad : Nat → Nat) (mthr : Int32) (mnow : Nat → Int32) (mold : Nat → Int32) (mols : Int32) (msav : Nat → Int32) (miss : Bool) (minp : Nat → Int32) (mlen : Int32) (mat : Int32) (medg : Nat → Int32) (mcor : Nat → Int32) (mtri : Int32) (mkep : Nat → Int32) (mkee : Nat → Int32) (mwor : Nat → Int32) (mnum : Nat → Int32) (mmet : Nat → Int32) (a0 : Int32) (a1 : Int32) (a2 : Int32) (F : Nat) {o : (Nat → Int32) × Int32} (h : s_Mod_lists F mnow medg mcor mtri a0 a1 a2 = some o) : Wr l K 4 yX7_lists cX7_lists 4 none [.ref (ad 0), .int a0, .int a1, .int a2] (wMod K ad mthr mnow mold mols msav miss minp mlen mat medg mcor mtri mkep mkee mwor mnum mmet) none (wMod K ad mthr mnow mold mols msav miss minp mlen mat medg o.1 o.2 mkep mkee mwor mnum mmet) := by
  refine Wr.of (by decide +kernel) (Nat.le_of_ble_eq_true rfl) ?_
  unfold s_Mod_lists at h
  intro p e s m below meth c hx hb hr hml hown hts hlk H locs hP hG hD hS ls hl
  have C0 : Ctx p m c cX7_lists 4 s (Array.mk [.ref (ad 0), .int a0, .int a1, .int a2]) RX7 K meth none := ⟨hx, hb, hml, hown, hts, hG, hr, hlk⟩
  have hl : lv_has ls 4 [(0, .ref (ad 0)), (1, .int a0), (2, .int a1), (3, .int a2)] := hl
  refine lv_iload_n (pc := 0) hx hb dX7_lists_0 rfl (lv_at hl 2 rfl) ?_
  refine lv_iload_n (pc := 1) hx hb dX7_lists_1 rfl (lv_at hl 3 rfl) ?_
  refine lv_icmp_eq (tgt := 52) (pc := 2) hx hb dX7_lists_2 (by decide) (fun c1 => ?_) (fun c1 => ?_)
  · have h := it_t c1 h
    obtain rfl := Option.some.inj h
    exact W.vret hx hb hr (fun t ht hW => ⟨⟨rfl, by rw [ht]; exact hP⟩, hS.F ht⟩) hS.2.2 dX7_lists_52 hlk
  · have h := it_f c1 h
    refine lv_aload_n (pc := 5) hx hb dX7_lists_5 rfl (lv_at hl 0 rfl) ?_
    refine lv_iload_n (pc := 6) hx hb dX7_lists_6 rfl (lv_at hl 1 rfl) ?_
    refine lv_iload_n (pc := 7) hx hb dX7_lists_7 rfl (lv_at hl 2 rfl) ?_
    obtain ⟨v2, h_v2, h⟩ := ob h
    refine rdV (pc := 8) (As := [.int a0, .int a1]) (rest := []) hx hb hml hown hts hG hP (c_Mod_has l K ad mthr mnow mold mols msav miss minp mlen mat medg mcor mtri mkep mkee mwor mnum mmet a0 a1 h_v2) [0, 1, 2, 3, 4, 5, 6, 7, 8, 9, 10, 11] rfl (q0 := 0) rfl (ci := 7) rfl g_Mod_104 hd_Mod_has rfl ⟨Nat.le_of_ble_eq_true rfl, Nat.le_of_ble_eq_true rfl⟩ ⟨Nat.zero_le _, Nat.zero_le _⟩ hl rfl (Nat.le_of_ble_eq_true rfl) dX7_lists_8 ?_
    refine lv_if_eq (tgt := 52) (pc := 11) hx hb dX7_lists_11 (by decide) (fun c3 => ?_) (fun c3 => ?_)
    · have h := it_t c3 h
      obtain rfl := Option.some.inj h
      exact W.vret hx hb hr (fun t ht hW => ⟨⟨rfl, by rw [ht]; exact hP⟩, hS.F ht⟩) hS.2.2 dX7_lists_52 hlk
    · have h := it_f c3 h
      refine lv_aload_n (pc := 14) hx hb dX7_lists_14 rfl (lv_at hl 0 rfl) ?_
      refine lv_iload_n (pc := 15) hx hb dX7_lists_15 rfl (lv_at hl 2 rfl) ?_
      refine lv_iload_n (pc := 16) hx hb dX7_lists_16 rfl (lv_at hl 3 rfl) ?_
      obtain ⟨v4, h_v4, h⟩ := ob h
      refine rdV (pc := 17) (As := [.int a1, .int a2]) (rest := []) hx hb hml hown hts hG hP (c_Mod_has l K ad mthr mnow mold mols msav miss minp mlen mat medg mcor mtri mkep mkee mwor mnum mmet a1 a2 h_v4) [0, 1, 2, 3, 4, 5, 6, 7, 8, 9, 10, 11] rfl (q0 := 0) rfl (ci := 7) rfl g_Mod_104 hd_Mod_has rfl ⟨Nat.le_of_ble_eq_true rfl, Nat.le_of_ble_eq_true rfl⟩ ⟨Nat.zero_le _, Nat.zero_le _⟩ hl rfl (Nat.le_of_ble_eq_true rfl) dX7_lists_17 ?_
      refine lv_if_eq (tgt := 52) (pc := 20) hx hb dX7_lists_20 (by decide) (fun c5 => ?_) (fun c5 => ?_)
      · have h := it_t c5 h
        obtain rfl := Option.some.inj h
        exact W.vret hx hb hr (fun t ht hW => ⟨⟨rfl, by rw [ht]; exact hP⟩, hS.F ht⟩) hS.2.2 dX7_lists_52 hlk
      · have h := it_f c5 h
        refine lv_aload_n (pc := 23) hx hb dX7_lists_23 rfl (lv_at hl 0 rfl) ?_
        refine lv_iload_n (pc := 24) hx hb dX7_lists_24 rfl (lv_at hl 3 rfl) ?_
        refine lv_iload_n (pc := 25) hx hb dX7_lists_25 rfl (lv_at hl 1 rfl) ?_
        obtain ⟨v6, h_v6, h⟩ := ob h
        refine rdV (pc := 26) (As := [.int a2, .int a0]) (rest := []) hx hb hml hown hts hG hP (c_Mod_has l K ad mthr mnow mold mols msav miss minp mlen mat medg mcor mtri mkep mkee mwor mnum mmet a2 a0 h_v6) [0, 1, 2, 3, 4, 5, 6, 7, 8, 9, 10, 11] rfl (q0 := 0) rfl (ci := 7) rfl g_Mod_104 hd_Mod_has rfl ⟨Nat.le_of_ble_eq_true rfl, Nat.le_of_ble_eq_true rfl⟩ ⟨Nat.zero_le _, Nat.zero_le _⟩ hl rfl (Nat.le_of_ble_eq_true rfl) dX7_lists_26 ?_
        refine lv_if_eq (tgt := 52) (pc := 29) hx hb dX7_lists_29 (by decide) (fun c7 => ?_) (fun c7 => ?_)
        · have h := it_t c7 h
          obtain rfl := Option.some.inj h
          exact W.vret hx hb hr (fun t ht hW => ⟨⟨rfl, by rw [ht]; exact hP⟩, hS.F ht⟩) hS.2.2 dX7_lists_52 hlk
        · have h := it_f c7 h
          refine lv_aload_n (pc := 32) hx hb dX7_lists_32 rfl (lv_at hl 0 rfl) ?_
          refine lv_iload_n (pc := 33) hx hb dX7_lists_33 rfl (lv_at hl 1 rfl) ?_
          refine lv_iload_n (pc := 34) hx hb dX7_lists_34 rfl (lv_at hl 2 rfl) ?_
          refine lv_iload_n (pc := 35) hx hb dX7_lists_35 rfl (lv_at hl 3 rfl) ?_
          obtain ⟨v8, h_v8, h⟩ := ob h
          refine rdV (pc := 36) (As := [.int a0, .int a1, .int a2]) (rest := []) hx hb hml hown hts hG hP (c_Mod_turns l K ad mthr mnow mold mols msav miss minp mlen mat medg mcor mtri mkep mkee mwor mnum mmet a0 a1 a2 h_v8) [0, 1, 2, 3, 4, 5, 6, 7, 8, 9, 10, 11] rfl (q0 := 0) rfl (ci := 7) rfl g_Mod_79 hd_Mod_turns rfl ⟨Nat.le_of_ble_eq_true rfl, Nat.le_of_ble_eq_true rfl⟩ ⟨Nat.zero_le _, Nat.zero_le _⟩ hl rfl (Nat.le_of_ble_eq_true rfl) dX7_lists_36 ?_
          refine lv_if_le (tgt := 52) (pc := 39) hx hb dX7_lists_39 (by decide) (fun c9 => ?_) (fun c9 => ?_)
          · have h := it_t c9 h
            obtain rfl := Option.some.inj h
            exact W.vret hx hb hr (fun t ht hW => ⟨⟨rfl, by rw [ht]; exact hP⟩, hS.F ht⟩) hS.2.2 dX7_lists_52 hlk
          · have h := it_f c9 h
            refine lv_aload_n (pc := 42) hx hb dX7_lists_42 rfl (lv_at hl 0 rfl) ?_
            refine lv_iload_n (pc := 43) hx hb dX7_lists_43 rfl (lv_at hl 1 rfl) ?_
            refine lv_iload_n (pc := 44) hx hb dX7_lists_44 rfl (lv_at hl 2 rfl) ?_
            refine lv_iload_n (pc := 45) hx hb dX7_lists_45 rfl (lv_at hl 3 rfl) ?_
            obtain ⟨v10, h_v10, h⟩ := ob h
            refine rdV (pc := 46) (As := [.int a0, .int a1, .int a2]) (rest := []) hx hb hml hown hts hG hP (c_Mod_isEmpty l K ad mthr mnow mold mols msav miss minp mlen mat medg mcor mtri mkep mkee mwor mnum mmet a0 a1 a2 F h_v10) [0, 1, 2, 3, 4, 5, 6, 7, 8, 9, 10, 11] rfl (q0 := 0) rfl (ci := 7) rfl g_Mod_108 hd_Mod_isEmpty rfl ⟨Nat.le_of_ble_eq_true rfl, Nat.le_of_ble_eq_true rfl⟩ ⟨Nat.zero_le _, Nat.zero_le _⟩ hl rfl (Nat.le_of_ble_eq_true rfl) dX7_lists_46 ?_
            refine lv_if_ne (tgt := 53) (pc := 49) hx hb dX7_lists_49 (by decide) (fun c11 => ?_) (fun c11 => ?_)
            · have h := it_f c11 h
              refine lv_aload_n (pc := 53) hx hb dX7_lists_53 rfl (lv_at hl 0 rfl) ?_
              refine va_get (D := K.1) (ci := 7) (v := .ref (ad 6)) (C := RX7) (T := TX7) (N := 17) (pc := 54) hx hb hts inT7 hown hG.1 hP 0 rfl rfl 10 (by decide) (hts _ qf_Mod_26) (fun _ h9 => h9) rfl dX7_lists_54 ?_
              refine lv_iconst (v := (3 : Int32)) (pc := 57) hx hb dX7_lists_57 (by decide) ?_
              refine lv_aload_n (pc := 58) hx hb dX7_lists_58 rfl (lv_at hl 0 rfl) ?_
              refine va_get (D := K.1) (ci := 7) (v := .int mtri) (C := RX7) (T := TX7) (N := 17) (pc := 59) hx hb hts inT7 hown hG.1 hP 0 rfl rfl 11 (by decide) (hts _ qf_Mod_114) (fun _ h9 => h9) rfl dX7_lists_59 ?_
              refine lv_imul (pc := 62) hx hb dX7_lists_62 ?_
              refine lv_iload_n (pc := 63) hx hb dX7_lists_63 rfl (lv_at hl 1 rfl) ?_
              obtain ⟨v12, h_v12, h⟩ := ob h
              obtain ⟨hi_v12, e_v12⟩ := aset_in h_v12
              refine va_iast (pc := 64) hx hb hG.1 hP hD hS 6 0 rfl rfl hi_v12 dX7_lists_64 (fun H locs hP hD hS => ?_)
              rw [e_v12] at hP hD
              have hP : va_P K.1 vC (wMod K ad mthr mnow mold mols msav miss minp mlen mat medg v12 mtri mkep mkee mwor mnum mmet) H := hP
              have hD : va_D _ (wMod K ad mthr mnow mold mols msav miss minp mlen mat medg v12 mtri mkep mkee mwor mnum mmet) := hD
              refine lv_aload_n (pc := 65) hx hb dX7_lists_65 rfl (lv_at hl 0 rfl) ?_
              refine va_get (D := K.1) (ci := 7) (v := .ref (ad 6)) (C := RX7) (T := TX7) (N := 17) (pc := 66) hx hb hts inT7 hown hG.1 hP 0 rfl rfl 10 (by decide) (hts _ qf_Mod_26) (fun _ h9 => h9) rfl dX7_lists_66 ?_
              refine lv_iconst (v := (3 : Int32)) (pc := 69) hx hb dX7_lists_69 (by decide) ?_
              refine lv_aload_n (pc := 70) hx hb dX7_lists_70 rfl (lv_at hl 0 rfl) ?_
              refine va_get (D := K.1) (ci := 7) (v := .int mtri) (C := RX7) (T := TX7) (N := 17) (pc := 71) hx hb hts inT7 hown hG.1 hP 0 rfl rfl 11 (by decide) (hts _ qf_Mod_114) (fun _ h9 => h9) rfl dX7_lists_71 ?_
              refine lv_imul (pc := 74) hx hb dX7_lists_74 ?_
              refine lv_iconst (v := (1 : Int32)) (pc := 75) hx hb dX7_lists_75 (by decide) ?_
              refine lv_iadd (pc := 76) hx hb dX7_lists_76 ?_
              refine lv_iload_n (pc := 77) hx hb dX7_lists_77 rfl (lv_at hl 2 rfl) ?_
              obtain ⟨v13, h_v13, h⟩ := ob h
              obtain ⟨hi_v13, e_v13⟩ := aset_in h_v13
              refine va_iast (pc := 78) hx hb hG.1 hP hD hS 6 0 rfl rfl hi_v13 dX7_lists_78 (fun H locs hP hD hS => ?_)
              rw [e_v13] at hP hD
              have hP : va_P K.1 vC (wMod K ad mthr mnow mold mols msav miss minp mlen mat medg v13 mtri mkep mkee mwor mnum mmet) H := hP
              have hD : va_D _ (wMod K ad mthr mnow mold mols msav miss minp mlen mat medg v13 mtri mkep mkee mwor mnum mmet) := hD
              refine lv_aload_n (pc := 79) hx hb dX7_lists_79 rfl (lv_at hl 0 rfl) ?_
              refine va_get (D := K.1) (ci := 7) (v := .ref (ad 6)) (C := RX7) (T := TX7) (N := 17) (pc := 80) hx hb hts inT7 hown hG.1 hP 0 rfl rfl 10 (by decide) (hts _ qf_Mod_26) (fun _ h9 => h9) rfl dX7_lists_80 ?_
              refine lv_iconst (v := (3 : Int32)) (pc := 83) hx hb dX7_lists_83 (by decide) ?_
              refine lv_aload_n (pc := 84) hx hb dX7_lists_84 rfl (lv_at hl 0 rfl) ?_
              refine va_get (D := K.1) (ci := 7) (v := .int mtri) (C := RX7) (T := TX7) (N := 17) (pc := 85) hx hb hts inT7 hown hG.1 hP 0 rfl rfl 11 (by decide) (hts _ qf_Mod_114) (fun _ h9 => h9) rfl dX7_lists_85 ?_
              refine lv_imul (pc := 88) hx hb dX7_lists_88 ?_
              refine lv_iconst (v := (2 : Int32)) (pc := 89) hx hb dX7_lists_89 (by decide) ?_
              refine lv_iadd (pc := 90) hx hb dX7_lists_90 ?_
              refine lv_iload_n (pc := 91) hx hb dX7_lists_91 rfl (lv_at hl 3 rfl) ?_
              obtain ⟨v14, h_v14, h⟩ := ob h
              obtain ⟨hi_v14, e_v14⟩ := aset_in h_v14
              refine va_iast (pc := 92) hx hb hG.1 hP hD hS 6 0 rfl rfl hi_v14 dX7_lists_92 (fun H locs hP hD hS => ?_)
              rw [e_v14] at hP hD
              have hP : va_P K.1 vC (wMod K ad mthr mnow mold mols msav miss minp mlen mat medg v14 mtri mkep mkee mwor mnum mmet) H := hP
              have hD : va_D _ (wMod K ad mthr mnow mold mols msav miss minp mlen mat medg v14 mtri mkep mkee mwor mnum mmet) := hD
              refine lv_aload_n (pc := 93) hx hb dX7_lists_93 rfl (lv_at hl 0 rfl) ?_
              refine lv_dup (pc := 94) hx hb dX7_lists_94 rfl ?_
              refine va_get (D := K.1) (ci := 7) (v := .int mtri) (C := RX7) (T := TX7) (N := 17) (pc := 95) hx hb hts inT7 hown hG.1 hP 0 rfl rfl 11 (by decide) (hts _ qf_Mod_114) (fun _ h9 => h9) rfl dX7_lists_95 ?_
              refine lv_iconst (v := (1 : Int32)) (pc := 98) hx hb dX7_lists_98 (by decide) ?_
              refine lv_iadd (pc := 99) hx hb dX7_lists_99 ?_
              refine va_put (D := K.1) (ci := 7) (v := .int (mtri + (1 : Int32))) (ty := .int) (C := RX7) (T := TX7) (N := 17) (pc := 100) hx hb hts inT7 tyX7 tyX7_ok nmX7 hown hG.1 hP hD hS 0 rfl rfl 11 (by decide) (hts _ qf_Mod_114) (fun _ h9 => h9) rfl (by decide +kernel) rfl rfl (Nat.le_of_ble_eq_true rfl) dX7_lists_100 (fun H locs hP hD hS => ?_)
              have hP : va_P K.1 vC (wMod K ad mthr mnow mold mols msav miss minp mlen mat medg v14 (mtri + (1 : Int32)) mkep mkee mwor mnum mmet) H := hP
              have hD : va_D _ (wMod K ad mthr mnow mold mols msav miss minp mlen mat medg v14 (mtri + (1 : Int32)) mkep mkee mwor mnum mmet) := hD
              obtain rfl := Option.some.inj h
              exact W.vret hx hb hr (fun t ht hW => ⟨⟨rfl, by rw [ht]; exact hP⟩, hS.F ht⟩) hS.2.2 dX7_lists_103 hlk
            · have h := it_t c11 h
              obtain rfl := Option.some.inj h
              exact W.vret hx hb hr (fun t ht hW => ⟨⟨rfl, by rw [ht]; exact hP⟩, hS.F ht⟩) hS.2.2 dX7_lists_52 hlk
set_option maxHeartbeats 4000000 in
set_option maxRecDepth 100000 in
theorem l_Mod_builds_L2 {p : Program} {l : Launch} {e : Env} {s : State} {m : MethodId} {args : Array Value} {below : List Frame} {meth : Method} {c : Code} {Q : State → Prop} {K : KT} {A : Nat → Prop} (C0 : Ctx p m c cX7_builds 5 s args RX7 K meth none) (F : Nat) (ad : Nat → Nat) (mthr : Int32) (mnow : Nat → Int32) (mold : Nat → Int32) (mols : Int32) (msav : Nat → Int32) (miss : Bool) (minp : Nat → Int32) (mlen : Int32) (mat : Int32) (mcor : Nat → Int32) (mtri : Int32) (mkep : Nat → Int32) (mkee : Nat → Int32) (mwor : Nat → Int32) (mnum : Nat → Int32) (mmet : Nat → Int32)  : ∀ (n : Nat) (x1 : Int32) (medg : Nat → Int32) (out : Int32 × (Nat → Int32)), s_Mod_builds_L2  n x1 medg = some out → ∀ (H : Heap) (locs : List Loc) (ls : Array Slot), va_P K.1 vC (wMod K ad mthr mnow mold mols msav miss minp mlen mat medg mcor mtri mkep mkee mwor mnum mmet) H → va_D A (wMod K ad mthr mnow mold mols msav miss minp mlen mat medg mcor mtri mkep mkee mwor mnum mmet) → va_S A s.heap H locs → lv_has ls 5 [(0, .ref (ad 0)), (1, .int x1)] → (∀ (o : Int32 × (Nat → Int32)) (H : Heap) (locs : List Loc) (ls : Array Slot), out = o → va_P K.1 vC (wMod K ad mthr mnow mold mols msav miss minp mlen mat o.2 mcor mtri mkep mkee mwor mnum mmet) H → va_D A (wMod K ad mthr mnow mold mols msav miss minp mlen mat o.2 mcor mtri mkep mkee mwor mnum mmet) → va_S A s.heap H locs → lv_has ls 5 [(0, .ref (ad 0)), (1, .int o.1)] → W p l e (rmL 6) s m args below meth c H locs 0 0 Q (F0 m 22 ls [])) → W p l e (rmL 6) s m args below meth c H locs 0 0 Q (F0 m 2 ls []) := by
  obtain ⟨hx, hb, hml, hown, hts, hG, hr, hlk⟩ := id C0
  intro n
  induction n with
  | zero =>
    intro x1 medg out h
    cases h
  | succ n ih =>
    intro x1 medg out h H locs ls hP hD hS hl Kx 
    rw [s_Mod_builds_L2.eq_2] at h
    refine lv_iload_n (pc := 2) hx hb dX7_builds_2 rfl (lv_at hl 1 rfl) ?_
    refine lv_sipush (v := (289 : Int32)) (pc := 3) hx hb dX7_builds_3 (by decide) ?_
    refine lv_icmp_ge (tgt := 22) (pc := 6) hx hb dX7_builds_6 (by decide) (fun c1 => ?_) (fun c1 => ?_)
    · have h := it_t c1 h
      obtain rfl := Option.some.inj h
      exact Kx _ H locs ls rfl hP hD hS (lv_sub hl [0, 1] rfl)
    · have h := it_f c1 h
      refine lv_aload_n (pc := 9) hx hb dX7_builds_9 rfl (lv_at hl 0 rfl) ?_
      refine va_get (D := K.1) (ci := 7) (v := .ref (ad 5)) (C := RX7) (T := TX7) (N := 17) (pc := 10) hx hb hts inT7 hown hG.1 hP 0 rfl rfl 9 (by decide) (hts _ qf_Mod_22) (fun _ h9 => h9) rfl dX7_builds_10 ?_
      refine lv_iload_n (pc := 13) hx hb dX7_builds_13 rfl (lv_at hl 1 rfl) ?_
      refine lv_iconst (v := (0 : Int32)) (pc := 14) hx hb dX7_builds_14 (by decide) ?_
      obtain ⟨v2, h_v2, h⟩ := ob h
      obtain ⟨hi_v2, e_v2⟩ := aset_in h_v2
      refine va_zast (pc := 15) hx hb hG.1 hP hD hS 5 1 rfl rfl hi_v2 dX7_builds_15 (fun H locs hP hD hS => ?_)
      rw [e_v2] at hP hD
      have hP : va_P K.1 vC (wMod K ad mthr mnow mold mols msav miss minp mlen mat v2 mcor mtri mkep mkee mwor mnum mmet) H := hP
      have hD : va_D _ (wMod K ad mthr mnow mold mols msav miss minp mlen mat v2 mcor mtri mkep mkee mwor mnum mmet) := hD
      refine lv_iinc (v := (x1 + (1 : Int32))) (pc := 16) (lv' := [(1, .int (x1 + (1 : Int32))), (0, .ref (ad 0))]) hx hb dX7_builds_16 hl (k := 1) rfl rfl (by decide) rfl (fun ls hl => ?_)
      refine lv_goto (tgt := 2) (pc := 19) hx hb dX7_builds_19 (by decide) ?_
      exact ih (x1 + (1 : Int32)) v2 out h H locs ls hP hD hS (lv_sub hl [1, 0] rfl) Kx 
set_option maxHeartbeats 4000000 in
set_option maxRecDepth 100000 in
theorem l_Mod_builds_L29 {p : Program} {l : Launch} {e : Env} {s : State} {m : MethodId} {args : Array Value} {below : List Frame} {meth : Method} {c : Code} {Q : State → Prop} {K : KT} {A : Nat → Prop} (C0 : Ctx p m c cX7_builds 5 s args RX7 K meth none) (F : Nat) (ad : Nat → Nat) (mthr : Int32) (mnow : Nat → Int32) (mold : Nat → Int32) (mols : Int32) (msav : Nat → Int32) (miss : Bool) (minp : Nat → Int32) (mlen : Int32) (mat : Int32) (mcor : Nat → Int32) (mtri : Int32) (mkep : Nat → Int32) (mkee : Nat → Int32) (mwor : Nat → Int32) (mnum : Nat → Int32) (mmet : Nat → Int32)  : ∀ (n : Nat) (x1 : Int32) (medg : Nat → Int32) (out : Int32 × (Nat → Int32)), s_Mod_builds_L29 mnow n x1 medg = some out → ∀ (H : Heap) (locs : List Loc) (ls : Array Slot), va_P K.1 vC (wMod K ad mthr mnow mold mols msav miss minp mlen mat medg mcor mtri mkep mkee mwor mnum mmet) H → va_D A (wMod K ad mthr mnow mold mols msav miss minp mlen mat medg mcor mtri mkep mkee mwor mnum mmet) → va_S A s.heap H locs → lv_has ls 5 [(0, .ref (ad 0)), (1, .int x1)] → (∀ (o : Int32 × (Nat → Int32)) (H : Heap) (locs : List Loc) (ls : Array Slot), out = o → va_P K.1 vC (wMod K ad mthr mnow mold mols msav miss minp mlen mat o.2 mcor mtri mkep mkee mwor mnum mmet) H → va_D A (wMod K ad mthr mnow mold mols msav miss minp mlen mat o.2 mcor mtri mkep mkee mwor mnum mmet) → va_S A s.heap H locs → lv_has ls 5 [(0, .ref (ad 0)), (1, .int o.1)] → W p l e (rmL 6) s m args below meth c H locs 0 0 Q (F0 m 60 ls [])) → W p l e (rmL 6) s m args below meth c H locs 0 0 Q (F0 m 29 ls []) := by
  obtain ⟨hx, hb, hml, hown, hts, hG, hr, hlk⟩ := id C0
  intro n
  induction n with
  | zero =>
    intro x1 medg out h
    cases h
  | succ n ih =>
    intro x1 medg out h H locs ls hP hD hS hl Kx 
    rw [s_Mod_builds_L29.eq_2] at h
    refine lv_iload_n (pc := 29) hx hb dX7_builds_29 rfl (lv_at hl 1 rfl) ?_
    refine lv_aload_n (pc := 30) hx hb dX7_builds_30 rfl (lv_at hl 0 rfl) ?_
    obtain ⟨v4, h_v4, h⟩ := ob h
    refine rdV (pc := 31) (As := []) (rest := [.int x1]) hx hb hml hown hts hG hP (c_Mod_m l K ad mthr mnow mold mols msav miss minp mlen mat medg mcor mtri mkep mkee mwor mnum mmet h_v4) [0, 1, 2, 3, 4, 5, 6, 7, 8, 9, 10, 11] rfl (q0 := 0) rfl (ci := 7) rfl g_Mod_56 hd_Mod_m rfl ⟨Nat.le_of_ble_eq_true rfl, Nat.le_of_ble_eq_true rfl⟩ ⟨Nat.zero_le _, Nat.zero_le _⟩ hl rfl (Nat.le_of_ble_eq_true rfl) dX7_builds_31 ?_
    refine lv_icmp_ge (tgt := 60) (pc := 34) hx hb dX7_builds_34 (by decide) (fun c5 => ?_) (fun c5 => ?_)
    · have h := it_t c5 h
      obtain rfl := Option.some.inj h
      exact Kx _ H locs ls rfl hP hD hS (lv_sub hl [0, 1] rfl)
    · have h := it_f c5 h
      refine lv_aload_n (pc := 37) hx hb dX7_builds_37 rfl (lv_at hl 0 rfl) ?_
      refine lv_aload_n (pc := 38) hx hb dX7_builds_38 rfl (lv_at hl 0 rfl) ?_
      refine lv_iload_n (pc := 39) hx hb dX7_builds_39 rfl (lv_at hl 1 rfl) ?_
      refine lv_iconst (v := (0 : Int32)) (pc := 40) hx hb dX7_builds_40 (by decide) ?_
      obtain ⟨v6, h_v6, h⟩ := ob h
      refine rdV (pc := 41) (As := [.int x1, .int (0 : Int32)]) (rest := [.ref (ad 0)]) hx hb hml hown hts hG hP (c_Mod_end l K ad mthr mnow mold mols msav miss minp mlen mat medg mcor mtri mkep mkee mwor mnum mmet x1 (0 : Int32) h_v6) [0, 1, 2, 3, 4, 5, 6, 7, 8, 9, 10, 11] rfl (q0 := 0) rfl (ci := 7) rfl g_Mod_101 hd_Mod_end rfl ⟨Nat.le_of_ble_eq_true rfl, Nat.le_of_ble_eq_true rfl⟩ ⟨Nat.zero_le _, Nat.zero_le _⟩ hl rfl (Nat.le_of_ble_eq_true rfl) dX7_builds_41 ?_
      refine lv_aload_n (pc := 44) hx hb dX7_builds_44 rfl (lv_at hl 0 rfl) ?_
      refine lv_iload_n (pc := 45) hx hb dX7_builds_45 rfl (lv_at hl 1 rfl) ?_
      refine lv_iconst (v := (1 : Int32)) (pc := 46) hx hb dX7_builds_46 (by decide) ?_
      obtain ⟨v7, h_v7, h⟩ := ob h
      refine rdV (pc := 47) (As := [.int x1, .int (1 : Int32)]) (rest := [.int v6, .ref (ad 0)]) hx hb hml hown hts hG hP (c_Mod_end l K ad mthr mnow mold mols msav miss minp mlen mat medg mcor mtri mkep mkee mwor mnum mmet x1 (1 : Int32) h_v7) [0, 1, 2, 3, 4, 5, 6, 7, 8, 9, 10, 11] rfl (q0 := 0) rfl (ci := 7) rfl g_Mod_101 hd_Mod_end rfl ⟨Nat.le_of_ble_eq_true rfl, Nat.le_of_ble_eq_true rfl⟩ ⟨Nat.zero_le _, Nat.zero_le _⟩ hl rfl (Nat.le_of_ble_eq_true rfl) dX7_builds_47 ?_
      refine lv_iconst (v := (1 : Int32)) (pc := 50) hx hb dX7_builds_50 (by decide) ?_
      obtain ⟨v8, h_v8, h⟩ := ob h
      refine wrVv (pc := 51) (As := [.int v6, .int v7, .int (1 : Int32)]) (rest := []) (ws2 := wMod K ad mthr mnow mold mols msav miss minp mlen mat v8 mcor mtri mkep mkee mwor mnum mmet) (as9 := [ad 0, ad 1, ad 2, ad 3, ad 4, ad 5, ad 6, ad 7, ad 8, ad 9, ad 10, ad 11]) hx hb hml hown hts hG hP hD hS (c_Mod_puts l K ad mthr mnow mold mols msav miss minp mlen mat medg mcor mtri mkep mkee mwor mnum mmet v6 v7 true h_v8) [0, 1, 2, 3, 4, 5, 6, 7, 8, 9, 10, 11] rfl rfl rfl rfl [.inl 0, .inl 1, .inl 2, .inl 3, .inl 4, .inl 5, .inl 6, .inl 7, .inl 8, .inl 9, .inl 10, .inl 11] (by decide +kernel) rfl (q0 := 0) rfl (ci := 7) rfl g_Mod_117 hd_Mod_puts rfl ⟨Nat.le_of_ble_eq_true rfl, Nat.le_of_ble_eq_true rfl⟩ ⟨Nat.zero_le _, Nat.zero_le _⟩ hl rfl (Nat.le_of_ble_eq_true rfl) dX7_builds_51 (fun H locs hP hD hS => ?_)
      refine lv_iinc (v := (x1 + (1 : Int32))) (pc := 54) (lv' := [(1, .int (x1 + (1 : Int32))), (0, .ref (ad 0))]) hx hb dX7_builds_54 hl (k := 1) rfl rfl (by decide) rfl (fun ls hl => ?_)
      refine lv_goto (tgt := 29) (pc := 57) hx hb dX7_builds_57 (by decide) ?_
      exact ih (x1 + (1 : Int32)) v8 out h H locs ls hP hD hS (lv_sub hl [1, 0] rfl) Kx 
set_option maxHeartbeats 4000000 in
set_option maxRecDepth 100000 in
theorem l_Mod_builds_L74 {p : Program} {l : Launch} {e : Env} {s : State} {m : MethodId} {args : Array Value} {below : List Frame} {meth : Method} {c : Code} {Q : State → Prop} {K : KT} {A : Nat → Prop} (C0 : Ctx p m c cX7_builds 5 s args RX7 K meth none) (F : Nat) (ad : Nat → Nat) (mthr : Int32) (mnow : Nat → Int32) (mold : Nat → Int32) (mols : Int32) (msav : Nat → Int32) (miss : Bool) (minp : Nat → Int32) (mlen : Int32) (mat : Int32) (mcor : Nat → Int32) (mtri : Int32) (mkep : Nat → Int32) (mkee : Nat → Int32) (mwor : Nat → Int32) (mnum : Nat → Int32) (mmet : Nat → Int32) (x1 : Int32)  : ∀ (n : Nat) (x2 : Int32) (medg : Nat → Int32) (out : Int32 × (Nat → Int32)), s_Mod_builds_L74 F mnow x1 n x2 medg = some out → ∀ (H : Heap) (locs : List Loc) (ls : Array Slot), va_P K.1 vC (wMod K ad mthr mnow mold mols msav miss minp mlen mat medg mcor mtri mkep mkee mwor mnum mmet) H → va_D A (wMod K ad mthr mnow mold mols msav miss minp mlen mat medg mcor mtri mkep mkee mwor mnum mmet) → va_S A s.heap H locs → lv_has ls 5 [(0, .ref (ad 0)), (1, .int x1), (2, .int x2)] → (∀ (o : Int32 × (Nat → Int32)) (H : Heap) (locs : List Loc) (ls : Array Slot), out = o → va_P K.1 vC (wMod K ad mthr mnow mold mols msav miss minp mlen mat o.2 mcor mtri mkep mkee mwor mnum mmet) H → va_D A (wMod K ad mthr mnow mold mols msav miss minp mlen mat o.2 mcor mtri mkep mkee mwor mnum mmet) → va_S A s.heap H locs → lv_has ls 5 [(0, .ref (ad 0)), (1, .int x1), (2, .int o.1)] → W p l e (rmL 6) s m args below meth c H locs 0 0 Q (F0 m 122 ls [])) → W p l e (rmL 6) s m args below meth c H locs 0 0 Q (F0 m 74 ls []) := by
  obtain ⟨hx, hb, hml, hown, hts, hG, hr, hlk⟩ := id C0
  intro n
  induction n with
  | zero =>
    intro x2 medg out h
    cases h
  | succ n ih =>
    intro x2 medg out h H locs ls hP hD hS hl Kx 
    rw [s_Mod_builds_L74.eq_2] at h
    refine lv_iload_n (pc := 74) hx hb dX7_builds_74 rfl (lv_at hl 2 rfl) ?_
    refine lv_aload_n (pc := 75) hx hb dX7_builds_75 rfl (lv_at hl 0 rfl) ?_
    obtain ⟨v12, h_v12, h⟩ := ob h
    refine rdV (pc := 76) (As := []) (rest := [.int x2]) hx hb hml hown hts hG hP (c_Mod_n l K ad mthr mnow mold mols msav miss minp mlen mat medg mcor mtri mkep mkee mwor mnum mmet h_v12) [0, 1, 2, 3, 4, 5, 6, 7, 8, 9, 10, 11] rfl (q0 := 0) rfl (ci := 7) rfl g_Mod_48 hd_Mod_n rfl ⟨Nat.le_of_ble_eq_true rfl, Nat.le_of_ble_eq_true rfl⟩ ⟨Nat.zero_le _, Nat.zero_le _⟩ hl rfl (Nat.le_of_ble_eq_true rfl) dX7_builds_76 ?_
    refine lv_icmp_ge (tgt := 122) (pc := 79) hx hb dX7_builds_79 (by decide) (fun c13 => ?_) (fun c13 => ?_)
    · have h := it_t c13 h
      obtain rfl := Option.some.inj h
      exact Kx _ H locs ls rfl hP hD hS (lv_sub hl [0, 1, 2] rfl)
    · have h := it_f c13 h
      refine lv_aload_n (pc := 82) hx hb dX7_builds_82 rfl (lv_at hl 0 rfl) ?_
      refine lv_iload_n (pc := 83) hx hb dX7_builds_83 rfl (lv_at hl 1 rfl) ?_
      refine lv_iload_n (pc := 84) hx hb dX7_builds_84 rfl (lv_at hl 2 rfl) ?_
      obtain ⟨v14, h_v14, h⟩ := ob h
      refine rdV (pc := 85) (As := [.int x1, .int x2]) (rest := []) hx hb hml hown hts hG hP (c_Mod_has l K ad mthr mnow mold mols msav miss minp mlen mat medg mcor mtri mkep mkee mwor mnum mmet x1 x2 h_v14) [0, 1, 2, 3, 4, 5, 6, 7, 8, 9, 10, 11] rfl (q0 := 0) rfl (ci := 7) rfl g_Mod_104 hd_Mod_has rfl ⟨Nat.le_of_ble_eq_true rfl, Nat.le_of_ble_eq_true rfl⟩ ⟨Nat.zero_le _, Nat.zero_le _⟩ hl rfl (Nat.le_of_ble_eq_true rfl) dX7_builds_85 ?_
      refine lv_if_ne (tgt := 116) (pc := 88) hx hb dX7_builds_88 (by decide) (fun c15 => ?_) (fun c15 => ?_)
      · have h := it_f c15 h
        refine lv_iinc (v := (x2 + (1 : Int32))) (pc := 116) (lv' := [(2, .int (x2 + (1 : Int32))), (0, .ref (ad 0)), (1, .int x1)]) hx hb dX7_builds_116 hl (k := 2) rfl rfl (by decide) rfl (fun ls hl => ?_)
        refine lv_goto (tgt := 74) (pc := 119) hx hb dX7_builds_119 (by decide) ?_
        exact ih (x2 + (1 : Int32)) medg out h H locs ls hP hD hS (lv_sub hl [1, 2, 0] rfl) Kx 
      · have h := it_t c15 h
        refine lv_aload_n (pc := 91) hx hb dX7_builds_91 rfl (lv_at hl 0 rfl) ?_
        refine lv_iload_n (pc := 92) hx hb dX7_builds_92 rfl (lv_at hl 1 rfl) ?_
        refine lv_iload_n (pc := 93) hx hb dX7_builds_93 rfl (lv_at hl 2 rfl) ?_
        obtain ⟨v16, h_v16, h⟩ := ob h
        refine rdV (pc := 94) (As := [.int x1, .int x2]) (rest := []) hx hb hml hown hts hG hP (c_Mod_hasPointOn l K ad mthr mnow mold mols msav miss minp mlen mat medg mcor mtri mkep mkee mwor mnum mmet x1 x2 F h_v16) [0, 1, 2, 3, 4, 5, 6, 7, 8, 9, 10, 11] rfl (q0 := 0) rfl (ci := 7) rfl g_Mod_121 hd_Mod_hasPointOn rfl ⟨Nat.le_of_ble_eq_true rfl, Nat.le_of_ble_eq_true rfl⟩ ⟨Nat.zero_le _, Nat.zero_le _⟩ hl rfl (Nat.le_of_ble_eq_true rfl) dX7_builds_94 ?_
        refine lv_if_ne (tgt := 116) (pc := 97) hx hb dX7_builds_97 (by decide) (fun c17 => ?_) (fun c17 => ?_)
        · have h := it_f c17 h
          refine lv_iinc (v := (x2 + (1 : Int32))) (pc := 116) (lv' := [(2, .int (x2 + (1 : Int32))), (0, .ref (ad 0)), (1, .int x1)]) hx hb dX7_builds_116 hl (k := 2) rfl rfl (by decide) rfl (fun ls hl => ?_)
          refine lv_goto (tgt := 74) (pc := 119) hx hb dX7_builds_119 (by decide) ?_
          exact ih (x2 + (1 : Int32)) medg out h H locs ls hP hD hS (lv_sub hl [1, 2, 0] rfl) Kx 
        · have h := it_t c17 h
          refine lv_aload_n (pc := 100) hx hb dX7_builds_100 rfl (lv_at hl 0 rfl) ?_
          refine lv_iload_n (pc := 101) hx hb dX7_builds_101 rfl (lv_at hl 1 rfl) ?_
          refine lv_iload_n (pc := 102) hx hb dX7_builds_102 rfl (lv_at hl 2 rfl) ?_
          obtain ⟨v18, h_v18, h⟩ := ob h
          refine rdV (pc := 103) (As := [.int x1, .int x2]) (rest := []) hx hb hml hown hts hG hP (c_Mod_crossesAny l K ad mthr mnow mold mols msav miss minp mlen mat medg mcor mtri mkep mkee mwor mnum mmet x1 x2 F h_v18) [0, 1, 2, 3, 4, 5, 6, 7, 8, 9, 10, 11] rfl (q0 := 0) rfl (ci := 7) rfl g_Mod_124 hd_Mod_crossesAny rfl ⟨Nat.le_of_ble_eq_true rfl, Nat.le_of_ble_eq_true rfl⟩ ⟨Nat.zero_le _, Nat.zero_le _⟩ hl rfl (Nat.le_of_ble_eq_true rfl) dX7_builds_103 ?_
          refine lv_if_ne (tgt := 116) (pc := 106) hx hb dX7_builds_106 (by decide) (fun c19 => ?_) (fun c19 => ?_)
          · have h := it_f c19 h
            refine lv_iinc (v := (x2 + (1 : Int32))) (pc := 116) (lv' := [(2, .int (x2 + (1 : Int32))), (0, .ref (ad 0)), (1, .int x1)]) hx hb dX7_builds_116 hl (k := 2) rfl rfl (by decide) rfl (fun ls hl => ?_)
            refine lv_goto (tgt := 74) (pc := 119) hx hb dX7_builds_119 (by decide) ?_
            exact ih (x2 + (1 : Int32)) medg out h H locs ls hP hD hS (lv_sub hl [1, 2, 0] rfl) Kx 
          · have h := it_t c19 h
            refine lv_aload_n (pc := 109) hx hb dX7_builds_109 rfl (lv_at hl 0 rfl) ?_
            refine lv_iload_n (pc := 110) hx hb dX7_builds_110 rfl (lv_at hl 1 rfl) ?_
            refine lv_iload_n (pc := 111) hx hb dX7_builds_111 rfl (lv_at hl 2 rfl) ?_
            refine lv_iconst (v := (1 : Int32)) (pc := 112) hx hb dX7_builds_112 (by decide) ?_
            obtain ⟨v20, h_v20, h⟩ := ob h
            refine wrVv (pc := 113) (As := [.int x1, .int x2, .int (1 : Int32)]) (rest := []) (ws2 := wMod K ad mthr mnow mold mols msav miss minp mlen mat v20 mcor mtri mkep mkee mwor mnum mmet) (as9 := [ad 0, ad 1, ad 2, ad 3, ad 4, ad 5, ad 6, ad 7, ad 8, ad 9, ad 10, ad 11]) hx hb hml hown hts hG hP hD hS (c_Mod_puts l K ad mthr mnow mold mols msav miss minp mlen mat medg mcor mtri mkep mkee mwor mnum mmet x1 x2 true h_v20) [0, 1, 2, 3, 4, 5, 6, 7, 8, 9, 10, 11] rfl rfl rfl rfl [.inl 0, .inl 1, .inl 2, .inl 3, .inl 4, .inl 5, .inl 6, .inl 7, .inl 8, .inl 9, .inl 10, .inl 11] (by decide +kernel) rfl (q0 := 0) rfl (ci := 7) rfl g_Mod_117 hd_Mod_puts rfl ⟨Nat.le_of_ble_eq_true rfl, Nat.le_of_ble_eq_true rfl⟩ ⟨Nat.zero_le _, Nat.zero_le _⟩ hl rfl (Nat.le_of_ble_eq_true rfl) dX7_builds_113 (fun H locs hP hD hS => ?_)
            refine lv_iinc (v := (x2 + (1 : Int32))) (pc := 116) (lv' := [(2, .int (x2 + (1 : Int32))), (0, .ref (ad 0)), (1, .int x1)]) hx hb dX7_builds_116 hl (k := 2) rfl rfl (by decide) rfl (fun ls hl => ?_)
            refine lv_goto (tgt := 74) (pc := 119) hx hb dX7_builds_119 (by decide) ?_
            exact ih (x2 + (1 : Int32)) v20 out h H locs ls hP hD hS (lv_sub hl [1, 2, 0] rfl) Kx 
set_option maxHeartbeats 4000000 in
set_option maxRecDepth 100000 in
theorem l_Mod_builds_L62 {p : Program} {l : Launch} {e : Env} {s : State} {m : MethodId} {args : Array Value} {below : List Frame} {meth : Method} {c : Code} {Q : State → Prop} {K : KT} {A : Nat → Prop} (C0 : Ctx p m c cX7_builds 5 s args RX7 K meth none) (F : Nat) (ad : Nat → Nat) (mthr : Int32) (mnow : Nat → Int32) (mold : Nat → Int32) (mols : Int32) (msav : Nat → Int32) (miss : Bool) (minp : Nat → Int32) (mlen : Int32) (mat : Int32) (mcor : Nat → Int32) (mtri : Int32) (mkep : Nat → Int32) (mkee : Nat → Int32) (mwor : Nat → Int32) (mnum : Nat → Int32) (mmet : Nat → Int32)  : ∀ (n : Nat) (x1 : Int32) (medg : Nat → Int32) (out : Int32 × (Nat → Int32)), s_Mod_builds_L62 F mnow n x1 medg = some out → ∀ (H : Heap) (locs : List Loc) (ls : Array Slot), va_P K.1 vC (wMod K ad mthr mnow mold mols msav miss minp mlen mat medg mcor mtri mkep mkee mwor mnum mmet) H → va_D A (wMod K ad mthr mnow mold mols msav miss minp mlen mat medg mcor mtri mkep mkee mwor mnum mmet) → va_S A s.heap H locs → lv_has ls 5 [(0, .ref (ad 0)), (1, .int x1)] → (∀ (o : Int32 × (Nat → Int32)) (H : Heap) (locs : List Loc) (ls : Array Slot), out = o → va_P K.1 vC (wMod K ad mthr mnow mold mols msav miss minp mlen mat o.2 mcor mtri mkep mkee mwor mnum mmet) H → va_D A (wMod K ad mthr mnow mold mols msav miss minp mlen mat o.2 mcor mtri mkep mkee mwor mnum mmet) → va_S A s.heap H locs → lv_has ls 5 [(0, .ref (ad 0)), (1, .int o.1)] → W p l e (rmL 6) s m args below meth c H locs 0 0 Q (F0 m 128 ls [])) → W p l e (rmL 6) s m args below meth c H locs 0 0 Q (F0 m 62 ls []) := by
  obtain ⟨hx, hb, hml, hown, hts, hG, hr, hlk⟩ := id C0
  intro n
  induction n with
  | zero =>
    intro x1 medg out h
    cases h
  | succ n ih =>
    intro x1 medg out h H locs ls hP hD hS hl Kx 
    rw [s_Mod_builds_L62.eq_2] at h
    refine lv_iload_n (pc := 62) hx hb dX7_builds_62 rfl (lv_at hl 1 rfl) ?_
    refine lv_aload_n (pc := 63) hx hb dX7_builds_63 rfl (lv_at hl 0 rfl) ?_
    obtain ⟨v10, h_v10, h⟩ := ob h
    refine rdV (pc := 64) (As := []) (rest := [.int x1]) hx hb hml hown hts hG hP (c_Mod_n l K ad mthr mnow mold mols msav miss minp mlen mat medg mcor mtri mkep mkee mwor mnum mmet h_v10) [0, 1, 2, 3, 4, 5, 6, 7, 8, 9, 10, 11] rfl (q0 := 0) rfl (ci := 7) rfl g_Mod_48 hd_Mod_n rfl ⟨Nat.le_of_ble_eq_true rfl, Nat.le_of_ble_eq_true rfl⟩ ⟨Nat.zero_le _, Nat.zero_le _⟩ hl rfl (Nat.le_of_ble_eq_true rfl) dX7_builds_64 ?_
    refine lv_icmp_ge (tgt := 128) (pc := 67) hx hb dX7_builds_67 (by decide) (fun c11 => ?_) (fun c11 => ?_)
    · have h := it_t c11 h
      obtain rfl := Option.some.inj h
      exact Kx _ H locs ls rfl hP hD hS (lv_sub hl [0, 1] rfl)
    · have h := it_f c11 h
      refine lv_iload_n (pc := 70) hx hb dX7_builds_70 rfl (lv_at hl 1 rfl) ?_
      refine lv_iconst (v := (1 : Int32)) (pc := 71) hx hb dX7_builds_71 (by decide) ?_
      refine lv_iadd (pc := 72) hx hb dX7_builds_72 ?_
      refine lv_istore_n (pc := 73) (lv' := [(2, .int (x1 + (1 : Int32))), (0, .ref (ad 0)), (1, .int x1)]) hx hb dX7_builds_73 rfl hl (by decide) rfl (fun ls hl => ?_)
      obtain ⟨o21, h_o21, h⟩ := ob h
      refine l_Mod_builds_L74 C0 F ad mthr mnow mold mols msav miss minp mlen mat mcor mtri mkep mkee mwor mnum mmet x1 F (x1 + (1 : Int32)) medg _ h_o21 H locs ls hP hD hS (lv_sub hl [1, 2, 0] rfl) (fun o21x H locs ls eo hP hD hS hl => ?_)
      subst o21
      refine lv_iinc (v := (x1 + (1 : Int32))) (pc := 122) (lv' := [(1, .int (x1 + (1 : Int32))), (0, .ref (ad 0)), (2, .int o21x.1)]) hx hb dX7_builds_122 hl (k := 1) rfl rfl (by decide) rfl (fun ls hl => ?_)
      refine lv_goto (tgt := 62) (pc := 125) hx hb dX7_builds_125 (by decide) ?_
      exact ih (x1 + (1 : Int32)) o21x.2 out h H locs ls hP hD hS (lv_sub hl [1, 0] rfl) Kx 
set_option maxHeartbeats 4000000 in
set_option maxRecDepth 100000 in
theorem l_Mod_builds_L158 {p : Program} {l : Launch} {e : Env} {s : State} {m : MethodId} {args : Array Value} {below : List Frame} {meth : Method} {c : Code} {Q : State → Prop} {K : KT} {A : Nat → Prop} (C0 : Ctx p m c cX7_builds 5 s args RX7 K meth none) (F : Nat) (ad : Nat → Nat) (mthr : Int32) (mnow : Nat → Int32) (mold : Nat → Int32) (mols : Int32) (msav : Nat → Int32) (miss : Bool) (minp : Nat → Int32) (mlen : Int32) (mat : Int32) (mcor : Nat → Int32) (mtri : Int32) (mkep : Nat → Int32) (mkee : Nat → Int32) (mwor : Nat → Int32) (mnum : Nat → Int32) (mmet : Nat → Int32) (x2 : Int32)  : ∀ (n : Nat) (x1 : Int32) (x3 : Int32) (medg : Nat → Int32) (out : Int32 × Int32 × (Nat → Int32)), s_Mod_builds_L158 F mnow x2 n x1 x3 medg = some out → ∀ (H : Heap) (locs : List Loc) (ls : Array Slot), va_P K.1 vC (wMod K ad mthr mnow mold mols msav miss minp mlen mat medg mcor mtri mkep mkee mwor mnum mmet) H → va_D A (wMod K ad mthr mnow mold mols msav miss minp mlen mat medg mcor mtri mkep mkee mwor mnum mmet) → va_S A s.heap H locs → lv_has ls 5 [(0, .ref (ad 0)), (1, .int x1), (2, .int x2), (3, .int x3)] → (∀ (o : Int32 × Int32 × (Nat → Int32)) (H : Heap) (locs : List Loc) (ls : Array Slot), out = o → va_P K.1 vC (wMod K ad mthr mnow mold mols msav miss minp mlen mat o.2.2 mcor mtri mkep mkee mwor mnum mmet) H → va_D A (wMod K ad mthr mnow mold mols msav miss minp mlen mat o.2.2 mcor mtri mkep mkee mwor mnum mmet) → va_S A s.heap H locs → lv_has ls 5 [(0, .ref (ad 0)), (1, .int o.1), (2, .int x2), (3, .int o.2.1)] → W p l e (rmL 6) s m args below meth c H locs 0 0 Q (F0 m 183 ls [])) → W p l e (rmL 6) s m args below meth c H locs 0 0 Q (F0 m 158 ls []) := by
  obtain ⟨hx, hb, hml, hown, hts, hG, hr, hlk⟩ := id C0
  intro n
  induction n with
  | zero =>
    intro x1 x3 medg out h
    cases h
  | succ n ih =>
    intro x1 x3 medg out h H locs ls hP hD hS hl Kx 
    rw [s_Mod_builds_L158.eq_2] at h
    refine lv_iload_n (pc := 158) hx hb dX7_builds_158 rfl (lv_at hl 3 rfl) ?_
    refine lv_aload_n (pc := 159) hx hb dX7_builds_159 rfl (lv_at hl 0 rfl) ?_
    obtain ⟨v28, h_v28, h⟩ := ob h
    refine rdV (pc := 160) (As := []) (rest := [.int x3]) hx hb hml hown hts hG hP (c_Mod_n l K ad mthr mnow mold mols msav miss minp mlen mat medg mcor mtri mkep mkee mwor mnum mmet h_v28) [0, 1, 2, 3, 4, 5, 6, 7, 8, 9, 10, 11] rfl (q0 := 0) rfl (ci := 7) rfl g_Mod_48 hd_Mod_n rfl ⟨Nat.le_of_ble_eq_true rfl, Nat.le_of_ble_eq_true rfl⟩ ⟨Nat.zero_le _, Nat.zero_le _⟩ hl rfl (Nat.le_of_ble_eq_true rfl) dX7_builds_160 ?_
    refine lv_icmp_ge (tgt := 183) (pc := 163) hx hb dX7_builds_163 (by decide) (fun c29 => ?_) (fun c29 => ?_)
    · have h := it_t c29 h
      obtain rfl := Option.some.inj h
      exact Kx _ H locs ls rfl hP hD hS (lv_sub hl [0, 1, 2, 3] rfl)
    · have h := it_f c29 h
      refine lv_aload_n (pc := 166) hx hb dX7_builds_166 rfl (lv_at hl 0 rfl) ?_
      refine lv_iload_n (pc := 167) hx hb dX7_builds_167 rfl (lv_at hl 2 rfl) ?_
      refine lv_iload_n (pc := 168) hx hb dX7_builds_168 rfl (lv_at hl 3 rfl) ?_
      obtain ⟨v30, h_v30, h⟩ := ob h
      refine wrVi (pc := 169) (As := [.int x2, .int x3]) (rest := []) (ws2 := wMod K ad mthr mnow mold mols msav miss minp mlen mat v30.2 mcor mtri mkep mkee mwor mnum mmet) (as9 := [ad 0, ad 1, ad 2, ad 3, ad 4, ad 5, ad 6, ad 7, ad 8, ad 9, ad 10, ad 11]) hx hb hml hown hts hG hP hD hS (c_Mod_flips l K ad mthr mnow mold mols msav miss minp mlen mat medg mcor mtri mkep mkee mwor mnum mmet x2 x3 F h_v30) [0, 1, 2, 3, 4, 5, 6, 7, 8, 9, 10, 11] rfl rfl rfl rfl [.inl 0, .inl 1, .inl 2, .inl 3, .inl 4, .inl 5, .inl 6, .inl 7, .inl 8, .inl 9, .inl 10, .inl 11] (by decide +kernel) rfl (q0 := 0) rfl (ci := 7) rfl g_Mod_131 hd_Mod_flips rfl ⟨Nat.le_of_ble_eq_true rfl, Nat.le_of_ble_eq_true rfl⟩ ⟨Nat.zero_le _, Nat.zero_le _⟩ hl rfl (Nat.le_of_ble_eq_true rfl) dX7_builds_169 (fun H locs hP hD hS => ?_)
      refine lv_if_eq (tgt := 177) (pc := 172) hx hb dX7_builds_172 (by decide) (fun c31 => ?_) (fun c31 => ?_)
      · have h := it_t c31 h
        refine lv_iinc (v := (x3 + (1 : Int32))) (pc := 177) (lv' := [(3, .int (x3 + (1 : Int32))), (0, .ref (ad 0)), (1, .int x1), (2, .int x2)]) hx hb dX7_builds_177 hl (k := 3) rfl rfl (by decide) rfl (fun ls hl => ?_)
        refine lv_goto (tgt := 158) (pc := 180) hx hb dX7_builds_180 (by decide) ?_
        exact ih x1 (x3 + (1 : Int32)) v30.2 out h H locs ls hP hD hS (lv_sub hl [1, 2, 3, 0] rfl) Kx 
      · have h := it_f c31 h
        refine lv_iconst (v := (1 : Int32)) (pc := 175) hx hb dX7_builds_175 (by decide) ?_
        refine lv_istore_n (pc := 176) (lv' := [(1, .int (1 : Int32)), (0, .ref (ad 0)), (2, .int x2), (3, .int x3)]) hx hb dX7_builds_176 rfl hl (by decide) rfl (fun ls hl => ?_)
        refine lv_iinc (v := (x3 + (1 : Int32))) (pc := 177) (lv' := [(3, .int (x3 + (1 : Int32))), (1, .int (1 : Int32)), (0, .ref (ad 0)), (2, .int x2)]) hx hb dX7_builds_177 hl (k := 3) rfl rfl (by decide) rfl (fun ls hl => ?_)
        refine lv_goto (tgt := 158) (pc := 180) hx hb dX7_builds_180 (by decide) ?_
        exact ih (1 : Int32) (x3 + (1 : Int32)) v30.2 out h H locs ls hP hD hS (lv_sub hl [2, 1, 3, 0] rfl) Kx 
set_option maxHeartbeats 4000000 in
set_option maxRecDepth 100000 in
theorem l_Mod_builds_L146 {p : Program} {l : Launch} {e : Env} {s : State} {m : MethodId} {args : Array Value} {below : List Frame} {meth : Method} {c : Code} {Q : State → Prop} {K : KT} {A : Nat → Prop} (C0 : Ctx p m c cX7_builds 5 s args RX7 K meth none) (F : Nat) (ad : Nat → Nat) (mthr : Int32) (mnow : Nat → Int32) (mold : Nat → Int32) (mols : Int32) (msav : Nat → Int32) (miss : Bool) (minp : Nat → Int32) (mlen : Int32) (mat : Int32) (mcor : Nat → Int32) (mtri : Int32) (mkep : Nat → Int32) (mkee : Nat → Int32) (mwor : Nat → Int32) (mnum : Nat → Int32) (mmet : Nat → Int32)  : ∀ (n : Nat) (x1 : Int32) (x2 : Int32) (medg : Nat → Int32) (out : Int32 × Int32 × (Nat → Int32)), s_Mod_builds_L146 F mnow n x1 x2 medg = some out → ∀ (H : Heap) (locs : List Loc) (ls : Array Slot), va_P K.1 vC (wMod K ad mthr mnow mold mols msav miss minp mlen mat medg mcor mtri mkep mkee mwor mnum mmet) H → va_D A (wMod K ad mthr mnow mold mols msav miss minp mlen mat medg mcor mtri mkep mkee mwor mnum mmet) → va_S A s.heap H locs → lv_has ls 5 [(0, .ref (ad 0)), (1, .int x1), (2, .int x2)] → (∀ (o : Int32 × Int32 × (Nat → Int32)) (H : Heap) (locs : List Loc) (ls : Array Slot), out = o → va_P K.1 vC (wMod K ad mthr mnow mold mols msav miss minp mlen mat o.2.2 mcor mtri mkep mkee mwor mnum mmet) H → va_D A (wMod K ad mthr mnow mold mols msav miss minp mlen mat o.2.2 mcor mtri mkep mkee mwor mnum mmet) → va_S A s.heap H locs → lv_has ls 5 [(0, .ref (ad 0)), (1, .int o.1), (2, .int o.2.1)] → W p l e (rmL 6) s m args below meth c H locs 0 0 Q (F0 m 189 ls [])) → W p l e (rmL 6) s m args below meth c H locs 0 0 Q (F0 m 146 ls []) := by
  obtain ⟨hx, hb, hml, hown, hts, hG, hr, hlk⟩ := id C0
  intro n
  induction n with
  | zero =>
    intro x1 x2 medg out h
    cases h
  | succ n ih =>
    intro x1 x2 medg out h H locs ls hP hD hS hl Kx 
    rw [s_Mod_builds_L146.eq_2] at h
    refine lv_iload_n (pc := 146) hx hb dX7_builds_146 rfl (lv_at hl 2 rfl) ?_
    refine lv_aload_n (pc := 147) hx hb dX7_builds_147 rfl (lv_at hl 0 rfl) ?_
    obtain ⟨v26, h_v26, h⟩ := ob h
    refine rdV (pc := 148) (As := []) (rest := [.int x2]) hx hb hml hown hts hG hP (c_Mod_n l K ad mthr mnow mold mols msav miss minp mlen mat medg mcor mtri mkep mkee mwor mnum mmet h_v26) [0, 1, 2, 3, 4, 5, 6, 7, 8, 9, 10, 11] rfl (q0 := 0) rfl (ci := 7) rfl g_Mod_48 hd_Mod_n rfl ⟨Nat.le_of_ble_eq_true rfl, Nat.le_of_ble_eq_true rfl⟩ ⟨Nat.zero_le _, Nat.zero_le _⟩ hl rfl (Nat.le_of_ble_eq_true rfl) dX7_builds_148 ?_
    refine lv_icmp_ge (tgt := 189) (pc := 151) hx hb dX7_builds_151 (by decide) (fun c27 => ?_) (fun c27 => ?_)
    · have h := it_t c27 h
      obtain rfl := Option.some.inj h
      exact Kx _ H locs ls rfl hP hD hS (lv_sub hl [0, 1, 2] rfl)
    · have h := it_f c27 h
      refine lv_iload_n (pc := 154) hx hb dX7_builds_154 rfl (lv_at hl 2 rfl) ?_
      refine lv_iconst (v := (1 : Int32)) (pc := 155) hx hb dX7_builds_155 (by decide) ?_
      refine lv_iadd (pc := 156) hx hb dX7_builds_156 ?_
      refine lv_istore_n (pc := 157) (lv' := [(3, .int (x2 + (1 : Int32))), (0, .ref (ad 0)), (1, .int x1), (2, .int x2)]) hx hb dX7_builds_157 rfl hl (by decide) rfl (fun ls hl => ?_)
      obtain ⟨o32, h_o32, h⟩ := ob h
      refine l_Mod_builds_L158 C0 F ad mthr mnow mold mols msav miss minp mlen mat mcor mtri mkep mkee mwor mnum mmet x2 F x1 (x2 + (1 : Int32)) medg _ h_o32 H locs ls hP hD hS (lv_sub hl [1, 2, 3, 0] rfl) (fun o32x H locs ls eo hP hD hS hl => ?_)
      subst o32
      refine lv_iinc (v := (x2 + (1 : Int32))) (pc := 183) (lv' := [(2, .int (x2 + (1 : Int32))), (0, .ref (ad 0)), (1, .int o32x.1), (3, .int o32x.2.1)]) hx hb dX7_builds_183 hl (k := 2) rfl rfl (by decide) rfl (fun ls hl => ?_)
      refine lv_goto (tgt := 146) (pc := 186) hx hb dX7_builds_186 (by decide) ?_
      exact ih o32x.1 (x2 + (1 : Int32)) o32x.2.2 out h H locs ls hP hD hS (lv_sub hl [1, 2, 0] rfl) Kx 
set_option maxHeartbeats 4000000 in
set_option maxRecDepth 100000 in
theorem l_Mod_builds_L138 {p : Program} {l : Launch} {e : Env} {s : State} {m : MethodId} {args : Array Value} {below : List Frame} {meth : Method} {c : Code} {Q : State → Prop} {K : KT} {A : Nat → Prop} (C0 : Ctx p m c cX7_builds 5 s args RX7 K meth none) (F : Nat) (ad : Nat → Nat) (mthr : Int32) (mnow : Nat → Int32) (mold : Nat → Int32) (mols : Int32) (msav : Nat → Int32) (miss : Bool) (minp : Nat → Int32) (mlen : Int32) (mat : Int32) (mcor : Nat → Int32) (mtri : Int32) (mkep : Nat → Int32) (mkee : Nat → Int32) (mwor : Nat → Int32) (mnum : Nat → Int32) (mmet : Nat → Int32)  : ∀ (n : Nat) (x1 : Int32) (medg : Nat → Int32) (out : Int32 × (Nat → Int32)), s_Mod_builds_L138 F mnow n x1 medg = some out → ∀ (H : Heap) (locs : List Loc) (ls : Array Slot), va_P K.1 vC (wMod K ad mthr mnow mold mols msav miss minp mlen mat medg mcor mtri mkep mkee mwor mnum mmet) H → va_D A (wMod K ad mthr mnow mold mols msav miss minp mlen mat medg mcor mtri mkep mkee mwor mnum mmet) → va_S A s.heap H locs → lv_has ls 5 [(0, .ref (ad 0)), (1, .int x1)] → (∀ (o : Int32 × (Nat → Int32)) (H : Heap) (locs : List Loc) (ls : Array Slot), out = o → va_P K.1 vC (wMod K ad mthr mnow mold mols msav miss minp mlen mat o.2 mcor mtri mkep mkee mwor mnum mmet) H → va_D A (wMod K ad mthr mnow mold mols msav miss minp mlen mat o.2 mcor mtri mkep mkee mwor mnum mmet) → va_S A s.heap H locs → lv_has ls 5 [(0, .ref (ad 0)), (1, .int o.1)] → W p l e (rmL 6) s m args below meth c H locs 0 0 Q (F0 m 192 ls [])) → W p l e (rmL 6) s m args below meth c H locs 0 0 Q (F0 m 138 ls []) := by
  obtain ⟨hx, hb, hml, hown, hts, hG, hr, hlk⟩ := id C0
  intro n
  induction n with
  | zero =>
    intro x1 medg out h
    cases h
  | succ n ih =>
    intro x1 medg out h H locs ls hP hD hS hl Kx 
    rw [s_Mod_builds_L138.eq_2] at h
    refine lv_iload_n (pc := 138) hx hb dX7_builds_138 rfl (lv_at hl 1 rfl) ?_
    refine lv_if_eq (tgt := 192) (pc := 139) hx hb dX7_builds_139 (by decide) (fun c25 => ?_) (fun c25 => ?_)
    · have h := it_t c25 h
      obtain rfl := Option.some.inj h
      exact Kx _ H locs ls rfl hP hD hS (lv_sub hl [0, 1] rfl)
    · have h := it_f c25 h
      refine lv_iconst (v := (0 : Int32)) (pc := 142) hx hb dX7_builds_142 (by decide) ?_
      refine lv_istore_n (pc := 143) (lv' := [(1, .int (0 : Int32)), (0, .ref (ad 0))]) hx hb dX7_builds_143 rfl hl (by decide) rfl (fun ls hl => ?_)
      refine lv_iconst (v := (0 : Int32)) (pc := 144) hx hb dX7_builds_144 (by decide) ?_
      refine lv_istore_n (pc := 145) (lv' := [(2, .int (0 : Int32)), (1, .int (0 : Int32)), (0, .ref (ad 0))]) hx hb dX7_builds_145 rfl hl (by decide) rfl (fun ls hl => ?_)
      obtain ⟨o33, h_o33, h⟩ := ob h
      refine l_Mod_builds_L146 C0 F ad mthr mnow mold mols msav miss minp mlen mat mcor mtri mkep mkee mwor mnum mmet F (0 : Int32) (0 : Int32) medg _ h_o33 H locs ls hP hD hS (lv_sub hl [2, 1, 0] rfl) (fun o33x H locs ls eo hP hD hS hl => ?_)
      subst o33
      refine lv_goto (tgt := 138) (pc := 189) hx hb dX7_builds_189 (by decide) ?_
      exact ih o33x.1 o33x.2.2 out h H locs ls hP hD hS (lv_sub hl [0, 1] rfl) Kx 
set_option maxHeartbeats 4000000 in
set_option maxRecDepth 100000 in
theorem l_Mod_builds_L219 {p : Program} {l : Launch} {e : Env} {s : State} {m : MethodId} {args : Array Value} {below : List Frame} {meth : Method} {c : Code} {Q : State → Prop} {K : KT} {A : Nat → Prop} (C0 : Ctx p m c cX7_builds 5 s args RX7 K meth none) (F : Nat) (ad : Nat → Nat) (mthr : Int32) (mnow : Nat → Int32) (mold : Nat → Int32) (mols : Int32) (msav : Nat → Int32) (miss : Bool) (minp : Nat → Int32) (mlen : Int32) (mat : Int32) (medg : Nat → Int32) (mkep : Nat → Int32) (mkee : Nat → Int32) (mwor : Nat → Int32) (mnum : Nat → Int32) (mmet : Nat → Int32) (x2 : Int32) (x3 : Int32)  : ∀ (n : Nat) (x4 : Int32) (mcor : Nat → Int32) (mtri : Int32) (out : Int32 × (Nat → Int32) × Int32), s_Mod_builds_L219 F mnow medg x2 x3 n x4 mcor mtri = some out → ∀ (H : Heap) (locs : List Loc) (ls : Array Slot), va_P K.1 vC (wMod K ad mthr mnow mold mols msav miss minp mlen mat medg mcor mtri mkep mkee mwor mnum mmet) H → va_D A (wMod K ad mthr mnow mold mols msav miss minp mlen mat medg mcor mtri mkep mkee mwor mnum mmet) → va_S A s.heap H locs → lv_has ls 5 [(0, .ref (ad 0)), (2, .int x2), (3, .int x3), (4, .int x4)] → (∀ (o : Int32 × (Nat → Int32) × Int32) (H : Heap) (locs : List Loc) (ls : Array Slot), out = o → va_P K.1 vC (wMod K ad mthr mnow mold mols msav miss minp mlen mat medg o.2.1 o.2.2 mkep mkee mwor mnum mmet) H → va_D A (wMod K ad mthr mnow mold mols msav miss minp mlen mat medg o.2.1 o.2.2 mkep mkee mwor mnum mmet) → va_S A s.heap H locs → lv_has ls 5 [(0, .ref (ad 0)), (2, .int x2), (3, .int x3), (4, .int o.1)] → W p l e (rmL 6) s m args below meth c H locs 0 0 Q (F0 m 242 ls [])) → W p l e (rmL 6) s m args below meth c H locs 0 0 Q (F0 m 219 ls []) := by
  obtain ⟨hx, hb, hml, hown, hts, hG, hr, hlk⟩ := id C0
  intro n
  induction n with
  | zero =>
    intro x4 mcor mtri out h
    cases h
  | succ n ih =>
    intro x4 mcor mtri out h H locs ls hP hD hS hl Kx 
    rw [s_Mod_builds_L219.eq_2] at h
    refine lv_iload (pc := 219) hx hb dX7_builds_219 (lv_at hl 3 rfl) ?_
    refine lv_aload_n (pc := 221) hx hb dX7_builds_221 rfl (lv_at hl 0 rfl) ?_
    obtain ⟨v39, h_v39, h⟩ := ob h
    refine rdV (pc := 222) (As := []) (rest := [.int x4]) hx hb hml hown hts hG hP (c_Mod_n l K ad mthr mnow mold mols msav miss minp mlen mat medg mcor mtri mkep mkee mwor mnum mmet h_v39) [0, 1, 2, 3, 4, 5, 6, 7, 8, 9, 10, 11] rfl (q0 := 0) rfl (ci := 7) rfl g_Mod_48 hd_Mod_n rfl ⟨Nat.le_of_ble_eq_true rfl, Nat.le_of_ble_eq_true rfl⟩ ⟨Nat.zero_le _, Nat.zero_le _⟩ hl rfl (Nat.le_of_ble_eq_true rfl) dX7_builds_222 ?_
    refine lv_icmp_ge (tgt := 242) (pc := 225) hx hb dX7_builds_225 (by decide) (fun c40 => ?_) (fun c40 => ?_)
    · have h := it_t c40 h
      obtain rfl := Option.some.inj h
      exact Kx _ H locs ls rfl hP hD hS (lv_sub hl [0, 1, 2, 3] rfl)
    · have h := it_f c40 h
      refine lv_aload_n (pc := 228) hx hb dX7_builds_228 rfl (lv_at hl 0 rfl) ?_
      refine lv_iload_n (pc := 229) hx hb dX7_builds_229 rfl (lv_at hl 1 rfl) ?_
      refine lv_iload_n (pc := 230) hx hb dX7_builds_230 rfl (lv_at hl 2 rfl) ?_
      refine lv_iload (pc := 231) hx hb dX7_builds_231 (lv_at hl 3 rfl) ?_
      obtain ⟨v41, h_v41, h⟩ := ob h
      refine wrVv (pc := 233) (As := [.int x2, .int x3, .int x4]) (rest := []) (ws2 := wMod K ad mthr mnow mold mols msav miss minp mlen mat medg v41.1 v41.2 mkep mkee mwor mnum mmet) (as9 := [ad 0, ad 1, ad 2, ad 3, ad 4, ad 5, ad 6, ad 7, ad 8, ad 9, ad 10, ad 11]) hx hb hml hown hts hG hP hD hS (c_Mod_lists l K ad mthr mnow mold mols msav miss minp mlen mat medg mcor mtri mkep mkee mwor mnum mmet x2 x3 x4 F h_v41) [0, 1, 2, 3, 4, 5, 6, 7, 8, 9, 10, 11] rfl rfl rfl rfl [.inl 0, .inl 1, .inl 2, .inl 3, .inl 4, .inl 5, .inl 6, .inl 7, .inl 8, .inl 9, .inl 10, .inl 11] (by decide +kernel) rfl (q0 := 0) rfl (ci := 7) rfl g_Mod_134 hd_Mod_lists rfl ⟨Nat.le_of_ble_eq_true rfl, Nat.le_of_ble_eq_true rfl⟩ ⟨Nat.zero_le _, Nat.zero_le _⟩ hl rfl (Nat.le_of_ble_eq_true rfl) dX7_builds_233 (fun H locs hP hD hS => ?_)
      refine lv_iinc (v := (x4 + (1 : Int32))) (pc := 236) (lv' := [(4, .int (x4 + (1 : Int32))), (0, .ref (ad 0)), (2, .int x2), (3, .int x3)]) hx hb dX7_builds_236 hl (k := 3) rfl rfl (by decide) rfl (fun ls hl => ?_)
      refine lv_goto (tgt := 219) (pc := 239) hx hb dX7_builds_239 (by decide) ?_
      exact ih (x4 + (1 : Int32)) v41.1 v41.2 out h H locs ls hP hD hS (lv_sub hl [1, 2, 3, 0] rfl) Kx 
set_option maxHeartbeats 4000000 in
set_option maxRecDepth 100000 in
theorem l_Mod_builds_L206 {p : Program} {l : Launch} {e : Env} {s : State} {m : MethodId} {args : Array Value} {below : List Frame} {meth : Method} {c : Code} {Q : State → Prop} {K : KT} {A : Nat → Prop} (C0 : Ctx p m c cX7_builds 5 s args RX7 K meth none) (F : Nat) (ad : Nat → Nat) (mthr : Int32) (mnow : Nat → Int32) (mold : Nat → Int32) (mols : Int32) (msav : Nat → Int32) (miss : Bool) (minp : Nat → Int32) (mlen : Int32) (mat : Int32) (medg : Nat → Int32) (mkep : Nat → Int32) (mkee : Nat → Int32) (mwor : Nat → Int32) (mnum : Nat → Int32) (mmet : Nat → Int32) (x2 : Int32)  : ∀ (n : Nat) (x3 : Int32) (mcor : Nat → Int32) (mtri : Int32) (out : Int32 × (Nat → Int32) × Int32), s_Mod_builds_L206 F mnow medg x2 n x3 mcor mtri = some out → ∀ (H : Heap) (locs : List Loc) (ls : Array Slot), va_P K.1 vC (wMod K ad mthr mnow mold mols msav miss minp mlen mat medg mcor mtri mkep mkee mwor mnum mmet) H → va_D A (wMod K ad mthr mnow mold mols msav miss minp mlen mat medg mcor mtri mkep mkee mwor mnum mmet) → va_S A s.heap H locs → lv_has ls 5 [(0, .ref (ad 0)), (2, .int x2), (3, .int x3)] → (∀ (o : Int32 × (Nat → Int32) × Int32) (H : Heap) (locs : List Loc) (ls : Array Slot), out = o → va_P K.1 vC (wMod K ad mthr mnow mold mols msav miss minp mlen mat medg o.2.1 o.2.2 mkep mkee mwor mnum mmet) H → va_D A (wMod K ad mthr mnow mold mols msav miss minp mlen mat medg o.2.1 o.2.2 mkep mkee mwor mnum mmet) → va_S A s.heap H locs → lv_has ls 5 [(0, .ref (ad 0)), (2, .int x2), (3, .int o.1)] → W p l e (rmL 6) s m args below meth c H locs 0 0 Q (F0 m 248 ls [])) → W p l e (rmL 6) s m args below meth c H locs 0 0 Q (F0 m 206 ls []) := by
  obtain ⟨hx, hb, hml, hown, hts, hG, hr, hlk⟩ := id C0
  intro n
  induction n with
  | zero =>
    intro x3 mcor mtri out h
    cases h
  | succ n ih =>
    intro x3 mcor mtri out h H locs ls hP hD hS hl Kx 
    rw [s_Mod_builds_L206.eq_2] at h
    refine lv_iload_n (pc := 206) hx hb dX7_builds_206 rfl (lv_at hl 2 rfl) ?_
    refine lv_aload_n (pc := 207) hx hb dX7_builds_207 rfl (lv_at hl 0 rfl) ?_
    obtain ⟨v37, h_v37, h⟩ := ob h
    refine rdV (pc := 208) (As := []) (rest := [.int x3]) hx hb hml hown hts hG hP (c_Mod_n l K ad mthr mnow mold mols msav miss minp mlen mat medg mcor mtri mkep mkee mwor mnum mmet h_v37) [0, 1, 2, 3, 4, 5, 6, 7, 8, 9, 10, 11] rfl (q0 := 0) rfl (ci := 7) rfl g_Mod_48 hd_Mod_n rfl ⟨Nat.le_of_ble_eq_true rfl, Nat.le_of_ble_eq_true rfl⟩ ⟨Nat.zero_le _, Nat.zero_le _⟩ hl rfl (Nat.le_of_ble_eq_true rfl) dX7_builds_208 ?_
    refine lv_icmp_ge (tgt := 248) (pc := 211) hx hb dX7_builds_211 (by decide) (fun c38 => ?_) (fun c38 => ?_)
    · have h := it_t c38 h
      obtain rfl := Option.some.inj h
      exact Kx _ H locs ls rfl hP hD hS (lv_sub hl [0, 1, 2] rfl)
    · have h := it_f c38 h
      refine lv_iload_n (pc := 214) hx hb dX7_builds_214 rfl (lv_at hl 1 rfl) ?_
      refine lv_iconst (v := (1 : Int32)) (pc := 215) hx hb dX7_builds_215 (by decide) ?_
      refine lv_iadd (pc := 216) hx hb dX7_builds_216 ?_
      refine lv_istore (pc := 217) (lv' := [(4, .int (x2 + (1 : Int32))), (0, .ref (ad 0)), (2, .int x2), (3, .int x3)]) hx hb dX7_builds_217 hl (by decide) rfl (fun ls hl => ?_)
      obtain ⟨o42, h_o42, h⟩ := ob h
      refine l_Mod_builds_L219 C0 F ad mthr mnow mold mols msav miss minp mlen mat medg mkep mkee mwor mnum mmet x2 x3 F (x2 + (1 : Int32)) mcor mtri _ h_o42 H locs ls hP hD hS (lv_sub hl [1, 2, 3, 0] rfl) (fun o42x H locs ls eo hP hD hS hl => ?_)
      subst o42
      refine lv_iinc (v := (x3 + (1 : Int32))) (pc := 242) (lv' := [(3, .int (x3 + (1 : Int32))), (0, .ref (ad 0)), (2, .int x2), (4, .int o42x.1)]) hx hb dX7_builds_242 hl (k := 2) rfl rfl (by decide) rfl (fun ls hl => ?_)
      refine lv_goto (tgt := 206) (pc := 245) hx hb dX7_builds_245 (by decide) ?_
      exact ih (x3 + (1 : Int32)) o42x.2.1 o42x.2.2 out h H locs ls hP hD hS (lv_sub hl [1, 2, 0] rfl) Kx 
set_option maxHeartbeats 4000000 in
set_option maxRecDepth 100000 in
theorem l_Mod_builds_L194 {p : Program} {l : Launch} {e : Env} {s : State} {m : MethodId} {args : Array Value} {below : List Frame} {meth : Method} {c : Code} {Q : State → Prop} {K : KT} {A : Nat → Prop} (C0 : Ctx p m c cX7_builds 5 s args RX7 K meth none) (F : Nat) (ad : Nat → Nat) (mthr : Int32) (mnow : Nat → Int32) (mold : Nat → Int32) (mols : Int32) (msav : Nat → Int32) (miss : Bool) (minp : Nat → Int32) (mlen : Int32) (mat : Int32) (medg : Nat → Int32) (mkep : Nat → Int32) (mkee : Nat → Int32) (mwor : Nat → Int32) (mnum : Nat → Int32) (mmet : Nat → Int32)  : ∀ (n : Nat) (x2 : Int32) (mcor : Nat → Int32) (mtri : Int32) (out : Int32 × (Nat → Int32) × Int32), s_Mod_builds_L194 F mnow medg n x2 mcor mtri = some out → ∀ (H : Heap) (locs : List Loc) (ls : Array Slot), va_P K.1 vC (wMod K ad mthr mnow mold mols msav miss minp mlen mat medg mcor mtri mkep mkee mwor mnum mmet) H → va_D A (wMod K ad mthr mnow mold mols msav miss minp mlen mat medg mcor mtri mkep mkee mwor mnum mmet) → va_S A s.heap H locs → lv_has ls 5 [(0, .ref (ad 0)), (2, .int x2)] → (∀ (o : Int32 × (Nat → Int32) × Int32) (H : Heap) (locs : List Loc) (ls : Array Slot), out = o → va_P K.1 vC (wMod K ad mthr mnow mold mols msav miss minp mlen mat medg o.2.1 o.2.2 mkep mkee mwor mnum mmet) H → va_D A (wMod K ad mthr mnow mold mols msav miss minp mlen mat medg o.2.1 o.2.2 mkep mkee mwor mnum mmet) → va_S A s.heap H locs → lv_has ls 5 [(0, .ref (ad 0)), (2, .int o.1)] → W p l e (rmL 6) s m args below meth c H locs 0 0 Q (F0 m 254 ls [])) → W p l e (rmL 6) s m args below meth c H locs 0 0 Q (F0 m 194 ls []) := by
  obtain ⟨hx, hb, hml, hown, hts, hG, hr, hlk⟩ := id C0
  intro n
  induction n with
  | zero =>
    intro x2 mcor mtri out h
    cases h
  | succ n ih =>
    intro x2 mcor mtri out h H locs ls hP hD hS hl Kx 
    rw [s_Mod_builds_L194.eq_2] at h
    refine lv_iload_n (pc := 194) hx hb dX7_builds_194 rfl (lv_at hl 1 rfl) ?_
    refine lv_aload_n (pc := 195) hx hb dX7_builds_195 rfl (lv_at hl 0 rfl) ?_
    obtain ⟨v35, h_v35, h⟩ := ob h
    refine rdV (pc := 196) (As := []) (rest := [.int x2]) hx hb hml hown hts hG hP (c_Mod_n l K ad mthr mnow mold mols msav miss minp mlen mat medg mcor mtri mkep mkee mwor mnum mmet h_v35) [0, 1, 2, 3, 4, 5, 6, 7, 8, 9, 10, 11] rfl (q0 := 0) rfl (ci := 7) rfl g_Mod_48 hd_Mod_n rfl ⟨Nat.le_of_ble_eq_true rfl, Nat.le_of_ble_eq_true rfl⟩ ⟨Nat.zero_le _, Nat.zero_le _⟩ hl rfl (Nat.le_of_ble_eq_true rfl) dX7_builds_196 ?_
    refine lv_icmp_ge (tgt := 254) (pc := 199) hx hb dX7_builds_199 (by decide) (fun c36 => ?_) (fun c36 => ?_)
    · have h := it_t c36 h
      obtain rfl := Option.some.inj h
      exact Kx _ H locs ls rfl hP hD hS (lv_sub hl [0, 1] rfl)
    · have h := it_f c36 h
      refine lv_iload_n (pc := 202) hx hb dX7_builds_202 rfl (lv_at hl 1 rfl) ?_
      refine lv_iconst (v := (1 : Int32)) (pc := 203) hx hb dX7_builds_203 (by decide) ?_
      refine lv_iadd (pc := 204) hx hb dX7_builds_204 ?_
      refine lv_istore_n (pc := 205) (lv' := [(3, .int (x2 + (1 : Int32))), (0, .ref (ad 0)), (2, .int x2)]) hx hb dX7_builds_205 rfl hl (by decide) rfl (fun ls hl => ?_)
      obtain ⟨o43, h_o43, h⟩ := ob h
      refine l_Mod_builds_L206 C0 F ad mthr mnow mold mols msav miss minp mlen mat medg mkep mkee mwor mnum mmet x2 F (x2 + (1 : Int32)) mcor mtri _ h_o43 H locs ls hP hD hS (lv_sub hl [1, 2, 0] rfl) (fun o43x H locs ls eo hP hD hS hl => ?_)
      subst o43
      refine lv_iinc (v := (x2 + (1 : Int32))) (pc := 248) (lv' := [(2, .int (x2 + (1 : Int32))), (0, .ref (ad 0)), (3, .int o43x.1)]) hx hb dX7_builds_248 hl (k := 1) rfl rfl (by decide) rfl (fun ls hl => ?_)
      refine lv_goto (tgt := 194) (pc := 251) hx hb dX7_builds_251 (by decide) ?_
      exact ih (x2 + (1 : Int32)) o43x.2.1 o43x.2.2 out h H locs ls hP hD hS (lv_sub hl [1, 0] rfl) Kx 
set_option maxHeartbeats 4000000 in
set_option maxRecDepth 100000 in
theorem c_Mod_builds (l : Launch) (K : KT) (ad : Nat → Nat) (mthr : Int32) (mnow : Nat → Int32) (mold : Nat → Int32) (mols : Int32) (msav : Nat → Int32) (miss : Bool) (minp : Nat → Int32) (mlen : Int32) (mat : Int32) (medg : Nat → Int32) (mcor : Nat → Int32) (mtri : Int32) (mkep : Nat → Int32) (mkee : Nat → Int32) (mwor : Nat → Int32) (mnum : Nat → Int32) (mmet : Nat → Int32) (F : Nat) {o : (Nat → Int32) × (Nat → Int32) × Int32} (h : s_Mod_builds F mnow medg mcor = some o) : Wr l K 6 yX7_builds cX7_builds 5 none [.ref (ad 0)] (wMod K ad mthr mnow mold mols msav miss minp mlen mat medg mcor mtri mkep mkee mwor mnum mmet) none (wMod K ad mthr mnow mold mols msav miss minp mlen mat o.1 o.2.1 o.2.2 mkep mkee mwor mnum mmet) := by
  refine Wr.of (by decide +kernel) (Nat.le_of_ble_eq_true rfl) ?_
  unfold s_Mod_builds at h
  intro p e s m below meth c hx hb hr hml hown hts hlk H locs hP hG hD hS ls hl
  have C0 : Ctx p m c cX7_builds 5 s (Array.mk [.ref (ad 0)]) RX7 K meth none := ⟨hx, hb, hml, hown, hts, hG, hr, hlk⟩
  have hl : lv_has ls 5 [(0, .ref (ad 0))] := hl
  refine lv_iconst (v := (0 : Int32)) (pc := 0) hx hb dX7_builds_0 (by decide) ?_
  refine lv_istore_n (pc := 1) (lv' := [(1, .int (0 : Int32)), (0, .ref (ad 0))]) hx hb dX7_builds_1 rfl hl (by decide) rfl (fun ls hl => ?_)
  obtain ⟨o3, h_o3, h⟩ := ob h
  refine l_Mod_builds_L2 C0 F ad mthr mnow mold mols msav miss minp mlen mat mcor mtri mkep mkee mwor mnum mmet F (0 : Int32) medg _ h_o3 H locs ls hP hD hS (lv_sub hl [1, 0] rfl) (fun o3x H locs ls eo hP hD hS hl => ?_)
  subst o3
  refine lv_aload_n (pc := 22) hx hb dX7_builds_22 rfl (lv_at hl 0 rfl) ?_
  refine lv_iconst (v := (0 : Int32)) (pc := 23) hx hb dX7_builds_23 (by decide) ?_
  refine va_put (D := K.1) (ci := 7) (v := .int (0 : Int32)) (ty := .int) (C := RX7) (T := TX7) (N := 17) (pc := 24) hx hb hts inT7 tyX7 tyX7_ok nmX7 hown hG.1 hP hD hS 0 rfl rfl 11 (by decide) (hts _ qf_Mod_114) (fun _ h9 => h9) rfl (by decide +kernel) rfl rfl (Nat.le_of_ble_eq_true rfl) dX7_builds_24 (fun H locs hP hD hS => ?_)
  have hP : va_P K.1 vC (wMod K ad mthr mnow mold mols msav miss minp mlen mat o3x.2 mcor (0 : Int32) mkep mkee mwor mnum mmet) H := hP
  have hD : va_D _ (wMod K ad mthr mnow mold mols msav miss minp mlen mat o3x.2 mcor (0 : Int32) mkep mkee mwor mnum mmet) := hD
  refine lv_iconst (v := (0 : Int32)) (pc := 27) hx hb dX7_builds_27 (by decide) ?_
  refine lv_istore_n (pc := 28) (lv' := [(1, .int (0 : Int32)), (0, .ref (ad 0))]) hx hb dX7_builds_28 rfl hl (by decide) rfl (fun ls hl => ?_)
  obtain ⟨o9, h_o9, h⟩ := ob h
  refine l_Mod_builds_L29 C0 F ad mthr mnow mold mols msav miss minp mlen mat mcor (0 : Int32) mkep mkee mwor mnum mmet F (0 : Int32) o3x.2 _ h_o9 H locs ls hP hD hS (lv_sub hl [1, 0] rfl) (fun o9x H locs ls eo hP hD hS hl => ?_)
  subst o9
  refine lv_iconst (v := (0 : Int32)) (pc := 60) hx hb dX7_builds_60 (by decide) ?_
  refine lv_istore_n (pc := 61) (lv' := [(1, .int (0 : Int32)), (0, .ref (ad 0))]) hx hb dX7_builds_61 rfl hl (by decide) rfl (fun ls hl => ?_)
  obtain ⟨o22, h_o22, h⟩ := ob h
  refine l_Mod_builds_L62 C0 F ad mthr mnow mold mols msav miss minp mlen mat mcor (0 : Int32) mkep mkee mwor mnum mmet F (0 : Int32) o9x.2 _ h_o22 H locs ls hP hD hS (lv_sub hl [1, 0] rfl) (fun o22x H locs ls eo hP hD hS hl => ?_)
  subst o22
  refine lv_aload_n (pc := 128) hx hb dX7_builds_128 rfl (lv_at hl 0 rfl) ?_
  obtain ⟨v23, h_v23, h⟩ := ob h
  refine rdV (pc := 129) (As := []) (rest := []) hx hb hml hown hts hG hP (c_Mod_isLine l K ad mthr mnow mold mols msav miss minp mlen mat o22x.2 mcor (0 : Int32) mkep mkee mwor mnum mmet F h_v23) [0, 1, 2, 3, 4, 5, 6, 7, 8, 9, 10, 11] rfl (q0 := 0) rfl (ci := 7) rfl g_Mod_127 hd_Mod_isLine rfl ⟨Nat.le_of_ble_eq_true rfl, Nat.le_of_ble_eq_true rfl⟩ ⟨Nat.zero_le _, Nat.zero_le _⟩ hl rfl (Nat.le_of_ble_eq_true rfl) dX7_builds_129 ?_
  refine lv_if_eq (tgt := 136) (pc := 132) hx hb dX7_builds_132 (by decide) (fun c24 => ?_) (fun c24 => ?_)
  · have h := it_t c24 h
    refine lv_iconst (v := (1 : Int32)) (pc := 136) hx hb dX7_builds_136 (by decide) ?_
    refine lv_istore_n (pc := 137) (lv' := [(1, .int (1 : Int32)), (0, .ref (ad 0))]) hx hb dX7_builds_137 rfl hl (by decide) rfl (fun ls hl => ?_)
    obtain ⟨o34, h_o34, h⟩ := ob h
    refine l_Mod_builds_L138 C0 F ad mthr mnow mold mols msav miss minp mlen mat mcor (0 : Int32) mkep mkee mwor mnum mmet F (1 : Int32) o22x.2 _ h_o34 H locs ls hP hD hS (lv_sub hl [1, 0] rfl) (fun o34x H locs ls eo hP hD hS hl => ?_)
    subst o34
    refine lv_iconst (v := (0 : Int32)) (pc := 192) hx hb dX7_builds_192 (by decide) ?_
    refine lv_istore_n (pc := 193) (lv' := [(2, .int (0 : Int32)), (0, .ref (ad 0)), (1, .int o34x.1)]) hx hb dX7_builds_193 rfl hl (by decide) rfl (fun ls hl => ?_)
    obtain ⟨o44, h_o44, h⟩ := ob h
    refine l_Mod_builds_L194 C0 F ad mthr mnow mold mols msav miss minp mlen mat o34x.2 mkep mkee mwor mnum mmet F (0 : Int32) mcor (0 : Int32) _ h_o44 H locs ls hP hD hS (lv_sub hl [1, 0] rfl) (fun o44x H locs ls eo hP hD hS hl => ?_)
    subst o44
    obtain rfl := Option.some.inj h
    exact W.vret hx hb hr (fun t ht hW => ⟨⟨rfl, by rw [ht]; exact hP⟩, hS.F ht⟩) hS.2.2 dX7_builds_254 hlk
  · have h := it_f c24 h
    obtain rfl := Option.some.inj h
    exact W.vret hx hb hr (fun t ht hW => ⟨⟨rfl, by rw [ht]; exact hP⟩, hS.F ht⟩) hS.2.2 dX7_builds_135 hlk
set_option maxHeartbeats 4000000 in
set_option maxRecDepth 100000 in
theorem c_Mod_cornerOf (l : Launch) (K : KT) (ad : Nat → Nat) (mthr : Int32) (mnow : Nat → Int32) (mold : Nat → Int32) (mols : Int32) (msav : Nat → Int32) (miss : Bool) (minp : Nat → Int32) (mlen : Int32) (mat : Int32) (medg : Nat → Int32) (mcor : Nat → Int32) (mtri : Int32) (mkep : Nat → Int32) (mkee : Nat → Int32) (mwor : Nat → Int32) (mnum : Nat → Int32) (mmet : Nat → Int32) (a0 : Int32) (a1 : Int32) {o : Int32} (h : s_Mod_cornerOf mcor a0 a1 = some o) : Rd l K 0 yX7_cornerOf cX7_cornerOf 3 .int [.ref (ad 0), .int a0, .int a1] (wMod K ad mthr mnow mold mols msav miss minp mlen mat medg mcor mtri mkep mkee mwor mnum mmet) o := by
  refine Rd.of (by decide +kernel) (Nat.le_of_ble_eq_true rfl) ?_
  unfold s_Mod_cornerOf at h
  intro p e s m below meth c hx hb hr hml hown hts hlk hP hG ls hl
  have C0 : Ctx p m c cX7_cornerOf 3 s (Array.mk [.ref (ad 0), .int a0, .int a1]) RX7 K meth (some .int) := ⟨hx, hb, hml, hown, hts, hG, hr, hlk⟩
  have hl : lv_has ls 3 [(0, .ref (ad 0)), (1, .int a0), (2, .int a1)] := hl
  refine lv_aload_n (pc := 0) hx hb dX7_cornerOf_0 rfl (lv_at hl 0 rfl) ?_
  refine va_get (D := K.1) (ci := 7) (v := .ref (ad 6)) (C := RX7) (T := TX7) (N := 17) (pc := 1) hx hb hts inT7 hown hG.1 hP 0 rfl rfl 10 (by decide) (hts _ qf_Mod_26) (fun _ h9 => h9) rfl dX7_cornerOf_1 ?_
  refine lv_iconst (v := (3 : Int32)) (pc := 4) hx hb dX7_cornerOf_4 (by decide) ?_
  refine lv_iload_n (pc := 5) hx hb dX7_cornerOf_5 rfl (lv_at hl 1 rfl) ?_
  refine lv_imul (pc := 6) hx hb dX7_cornerOf_6 ?_
  refine lv_iload_n (pc := 7) hx hb dX7_cornerOf_7 rfl (lv_at hl 2 rfl) ?_
  refine lv_iconst (v := (3 : Int32)) (pc := 8) hx hb dX7_cornerOf_8 (by decide) ?_
  refine lv_irem (pc := 9) hx hb dX7_cornerOf_9 (by decide) ?_
  refine lv_iadd (pc := 10) hx hb dX7_cornerOf_10 ?_
  obtain ⟨v1, h_v1, h⟩ := ob h
  obtain ⟨hi_v1, e_v1⟩ := aget_in h_v1
  refine va_iald (pc := 11) hx hb hG.1 hP 6 0 rfl rfl hi_v1 dX7_cornerOf_11 ?_
  rw [e_v1]
  obtain rfl := Option.some.inj h
  exact W.iret hx hb hr (fun t ht hW => ⟨rfl, ht⟩) (fun q hq => absurd hq List.not_mem_nil) dX7_cornerOf_12 hlk
set_option maxHeartbeats 4000000 in
set_option maxRecDepth 100000 in
theorem l_Mod_triangleOf_L15 {p : Program} {l : Launch} {e : Env} {s : State} {m : MethodId} {args : Array Value} {below : List Frame} {meth : Method} {c : Code} {Q : State → Prop} {K : KT} (C0 : Ctx p m c cX7_triangleOf 6 s args RX7 K meth (some .int)) (F : Nat) (ad : Nat → Nat) (mthr : Int32) (mnow : Nat → Int32) (mold : Nat → Int32) (mols : Int32) (msav : Nat → Int32) (miss : Bool) (minp : Nat → Int32) (mlen : Int32) (mat : Int32) (medg : Nat → Int32) (mcor : Nat → Int32) (mtri : Int32) (mkep : Nat → Int32) (mkee : Nat → Int32) (mwor : Nat → Int32) (mnum : Nat → Int32) (mmet : Nat → Int32) (x1 : Int32) (x2 : Int32) (x3 : Int32) (x4 : Int32) (hP : va_P K.1 vC (wMod K ad mthr mnow mold mols msav miss minp mlen mat medg mcor mtri mkep mkee mwor mnum mmet) s.heap) : ∀ (n : Nat) (x5 : Int32) (out : (Int32) ⊕ (Int32)), s_Mod_triangleOf_L15 mcor x1 x2 x3 x4 n x5 = some out → ∀ (ls : Array Slot), lv_has ls 6 [(0, .ref (ad 0)), (1, .int x1), (2, .int x2), (3, .int x3), (4, .int x4), (5, .int x5)] → (∀ (o : Int32) (ls : Array Slot), out = .inr o → lv_has ls 6 [(0, .ref (ad 0)), (1, .int x1), (2, .int x2), (3, .int x3), (4, .int x4), (5, .int o)] → W p l e (rmL 1) s m args below meth c s.heap [] 0 0 Q (F0 m 70 ls [])) → (∀ (o : Int32) (pcR : Nat) (ls : Array Slot), out = .inl o → decode cX7_triangleOf pcR = .ok (.ireturn, 1) → W p l e (rmL 1) s m args below meth c s.heap [] 0 0 Q (F0 m pcR ls [.int o])) → W p l e (rmL 1) s m args below meth c s.heap [] 0 0 Q (F0 m 15 ls []) := by
  obtain ⟨hx, hb, hml, hown, hts, hG, hr, hlk⟩ := id C0
  intro n
  induction n with
  | zero =>
    intro x5 out h
    cases h
  | succ n ih =>
    intro x5 out h ls hl Kx Kr
    rw [s_Mod_triangleOf_L15.eq_2] at h
    refine lv_iload (pc := 15) hx hb dX7_triangleOf_15 (lv_at hl 5 rfl) ?_
    refine lv_iconst (v := (3 : Int32)) (pc := 17) hx hb dX7_triangleOf_17 (by decide) ?_
    refine lv_icmp_ge (tgt := 70) (pc := 18) hx hb dX7_triangleOf_18 (by decide) (fun c2 => ?_) (fun c2 => ?_)
    · have h := it_t c2 h
      obtain rfl := Option.some.inj h
      exact Kx _ ls rfl (lv_sub hl [0, 1, 2, 3, 4, 5] rfl)
    · have h := it_f c2 h
      refine lv_aload_n (pc := 21) hx hb dX7_triangleOf_21 rfl (lv_at hl 0 rfl) ?_
      refine lv_iload (pc := 22) hx hb dX7_triangleOf_22 (lv_at hl 4 rfl) ?_
      refine lv_iload (pc := 24) hx hb dX7_triangleOf_24 (lv_at hl 5 rfl) ?_
      obtain ⟨v3, h_v3, h⟩ := ob h
      refine rdV (pc := 26) (As := [.int x4, .int x5]) (rest := []) hx hb hml hown hts hG hP (c_Mod_cornerOf l K ad mthr mnow mold mols msav miss minp mlen mat medg mcor mtri mkep mkee mwor mnum mmet x4 x5 h_v3) [0, 1, 2, 3, 4, 5, 6, 7, 8, 9, 10, 11] rfl (q0 := 0) rfl (ci := 7) rfl g_Mod_147 hd_Mod_cornerOf rfl ⟨Nat.le_of_ble_eq_true rfl, Nat.le_of_ble_eq_true rfl⟩ ⟨Nat.zero_le _, Nat.zero_le _⟩ hl rfl (Nat.le_of_ble_eq_true rfl) dX7_triangleOf_26 ?_
      refine lv_iload_n (pc := 29) hx hb dX7_triangleOf_29 rfl (lv_at hl 1 rfl) ?_
      refine lv_icmp_ne (tgt := 64) (pc := 30) hx hb dX7_triangleOf_30 (by decide) (fun c4 => ?_) (fun c4 => ?_)
      · have h := it_f c4 h
        refine lv_iinc (v := (x5 + (1 : Int32))) (pc := 64) (lv' := [(5, .int (x5 + (1 : Int32))), (0, .ref (ad 0)), (1, .int x1), (2, .int x2), (3, .int x3), (4, .int x4)]) hx hb dX7_triangleOf_64 hl (k := 5) rfl rfl (by decide) rfl (fun ls hl => ?_)
        refine lv_goto (tgt := 15) (pc := 67) hx hb dX7_triangleOf_67 (by decide) ?_
        exact ih (x5 + (1 : Int32)) out h ls (lv_sub hl [1, 2, 3, 4, 5, 0] rfl) Kx Kr
      · have h := it_t c4 h
        refine lv_aload_n (pc := 33) hx hb dX7_triangleOf_33 rfl (lv_at hl 0 rfl) ?_
        refine lv_iload (pc := 34) hx hb dX7_triangleOf_34 (lv_at hl 4 rfl) ?_
        refine lv_iload (pc := 36) hx hb dX7_triangleOf_36 (lv_at hl 5 rfl) ?_
        refine lv_iconst (v := (1 : Int32)) (pc := 38) hx hb dX7_triangleOf_38 (by decide) ?_
        refine lv_iadd (pc := 39) hx hb dX7_triangleOf_39 ?_
        obtain ⟨v5, h_v5, h⟩ := ob h
        refine rdV (pc := 40) (As := [.int x4, .int (x5 + (1 : Int32))]) (rest := []) hx hb hml hown hts hG hP (c_Mod_cornerOf l K ad mthr mnow mold mols msav miss minp mlen mat medg mcor mtri mkep mkee mwor mnum mmet x4 (x5 + (1 : Int32)) h_v5) [0, 1, 2, 3, 4, 5, 6, 7, 8, 9, 10, 11] rfl (q0 := 0) rfl (ci := 7) rfl g_Mod_147 hd_Mod_cornerOf rfl ⟨Nat.le_of_ble_eq_true rfl, Nat.le_of_ble_eq_true rfl⟩ ⟨Nat.zero_le _, Nat.zero_le _⟩ hl rfl (Nat.le_of_ble_eq_true rfl) dX7_triangleOf_40 ?_
        refine lv_iload_n (pc := 43) hx hb dX7_triangleOf_43 rfl (lv_at hl 2 rfl) ?_
        refine lv_icmp_ne (tgt := 64) (pc := 44) hx hb dX7_triangleOf_44 (by decide) (fun c6 => ?_) (fun c6 => ?_)
        · have h := it_f c6 h
          refine lv_iinc (v := (x5 + (1 : Int32))) (pc := 64) (lv' := [(5, .int (x5 + (1 : Int32))), (0, .ref (ad 0)), (1, .int x1), (2, .int x2), (3, .int x3), (4, .int x4)]) hx hb dX7_triangleOf_64 hl (k := 5) rfl rfl (by decide) rfl (fun ls hl => ?_)
          refine lv_goto (tgt := 15) (pc := 67) hx hb dX7_triangleOf_67 (by decide) ?_
          exact ih (x5 + (1 : Int32)) out h ls (lv_sub hl [1, 2, 3, 4, 5, 0] rfl) Kx Kr
        · have h := it_t c6 h
          refine lv_aload_n (pc := 47) hx hb dX7_triangleOf_47 rfl (lv_at hl 0 rfl) ?_
          refine lv_iload (pc := 48) hx hb dX7_triangleOf_48 (lv_at hl 4 rfl) ?_
          refine lv_iload (pc := 50) hx hb dX7_triangleOf_50 (lv_at hl 5 rfl) ?_
          refine lv_iconst (v := (2 : Int32)) (pc := 52) hx hb dX7_triangleOf_52 (by decide) ?_
          refine lv_iadd (pc := 53) hx hb dX7_triangleOf_53 ?_
          obtain ⟨v7, h_v7, h⟩ := ob h
          refine rdV (pc := 54) (As := [.int x4, .int (x5 + (2 : Int32))]) (rest := []) hx hb hml hown hts hG hP (c_Mod_cornerOf l K ad mthr mnow mold mols msav miss minp mlen mat medg mcor mtri mkep mkee mwor mnum mmet x4 (x5 + (2 : Int32)) h_v7) [0, 1, 2, 3, 4, 5, 6, 7, 8, 9, 10, 11] rfl (q0 := 0) rfl (ci := 7) rfl g_Mod_147 hd_Mod_cornerOf rfl ⟨Nat.le_of_ble_eq_true rfl, Nat.le_of_ble_eq_true rfl⟩ ⟨Nat.zero_le _, Nat.zero_le _⟩ hl rfl (Nat.le_of_ble_eq_true rfl) dX7_triangleOf_54 ?_
          refine lv_iload_n (pc := 57) hx hb dX7_triangleOf_57 rfl (lv_at hl 3 rfl) ?_
          refine lv_icmp_ne (tgt := 64) (pc := 58) hx hb dX7_triangleOf_58 (by decide) (fun c8 => ?_) (fun c8 => ?_)
          · have h := it_f c8 h
            refine lv_iinc (v := (x5 + (1 : Int32))) (pc := 64) (lv' := [(5, .int (x5 + (1 : Int32))), (0, .ref (ad 0)), (1, .int x1), (2, .int x2), (3, .int x3), (4, .int x4)]) hx hb dX7_triangleOf_64 hl (k := 5) rfl rfl (by decide) rfl (fun ls hl => ?_)
            refine lv_goto (tgt := 15) (pc := 67) hx hb dX7_triangleOf_67 (by decide) ?_
            exact ih (x5 + (1 : Int32)) out h ls (lv_sub hl [1, 2, 3, 4, 5, 0] rfl) Kx Kr
          · have h := it_t c8 h
            refine lv_iload (pc := 61) hx hb dX7_triangleOf_61 (lv_at hl 4 rfl) ?_
            obtain rfl := Option.some.inj h
            exact Kr _ _ _ rfl dX7_triangleOf_63
set_option maxHeartbeats 4000000 in
set_option maxRecDepth 100000 in
theorem l_Mod_triangleOf_L3 {p : Program} {l : Launch} {e : Env} {s : State} {m : MethodId} {args : Array Value} {below : List Frame} {meth : Method} {c : Code} {Q : State → Prop} {K : KT} (C0 : Ctx p m c cX7_triangleOf 6 s args RX7 K meth (some .int)) (F : Nat) (ad : Nat → Nat) (mthr : Int32) (mnow : Nat → Int32) (mold : Nat → Int32) (mols : Int32) (msav : Nat → Int32) (miss : Bool) (minp : Nat → Int32) (mlen : Int32) (mat : Int32) (medg : Nat → Int32) (mcor : Nat → Int32) (mtri : Int32) (mkep : Nat → Int32) (mkee : Nat → Int32) (mwor : Nat → Int32) (mnum : Nat → Int32) (mmet : Nat → Int32) (x1 : Int32) (x2 : Int32) (x3 : Int32) (hP : va_P K.1 vC (wMod K ad mthr mnow mold mols msav miss minp mlen mat medg mcor mtri mkep mkee mwor mnum mmet) s.heap) : ∀ (n : Nat) (x4 : Int32) (out : (Int32) ⊕ (Int32)), s_Mod_triangleOf_L3 F mcor mtri x1 x2 x3 n x4 = some out → ∀ (ls : Array Slot), lv_has ls 6 [(0, .ref (ad 0)), (1, .int x1), (2, .int x2), (3, .int x3), (4, .int x4)] → (∀ (o : Int32) (ls : Array Slot), out = .inr o → lv_has ls 6 [(0, .ref (ad 0)), (1, .int x1), (2, .int x2), (3, .int x3), (4, .int o)] → W p l e (rmL 1) s m args below meth c s.heap [] 0 0 Q (F0 m 76 ls [])) → (∀ (o : Int32) (pcR : Nat) (ls : Array Slot), out = .inl o → decode cX7_triangleOf pcR = .ok (.ireturn, 1) → W p l e (rmL 1) s m args below meth c s.heap [] 0 0 Q (F0 m pcR ls [.int o])) → W p l e (rmL 1) s m args below meth c s.heap [] 0 0 Q (F0 m 3 ls []) := by
  obtain ⟨hx, hb, hml, hown, hts, hG, hr, hlk⟩ := id C0
  intro n
  induction n with
  | zero =>
    intro x4 out h
    cases h
  | succ n ih =>
    intro x4 out h ls hl Kx Kr
    rw [s_Mod_triangleOf_L3.eq_2] at h
    refine lv_iload (pc := 3) hx hb dX7_triangleOf_3 (lv_at hl 4 rfl) ?_
    refine lv_aload_n (pc := 5) hx hb dX7_triangleOf_5 rfl (lv_at hl 0 rfl) ?_
    refine va_get (D := K.1) (ci := 7) (v := .int mtri) (C := RX7) (T := TX7) (N := 17) (pc := 6) hx hb hts inT7 hown hG.1 hP 0 rfl rfl 11 (by decide) (hts _ qf_Mod_114) (fun _ h9 => h9) rfl dX7_triangleOf_6 ?_
    refine lv_icmp_ge (tgt := 76) (pc := 9) hx hb dX7_triangleOf_9 (by decide) (fun c1 => ?_) (fun c1 => ?_)
    · have h := it_t c1 h
      obtain rfl := Option.some.inj h
      exact Kx _ ls rfl (lv_sub hl [0, 1, 2, 3, 4] rfl)
    · have h := it_f c1 h
      refine lv_iconst (v := (0 : Int32)) (pc := 12) hx hb dX7_triangleOf_12 (by decide) ?_
      refine lv_istore (pc := 13) (lv' := [(5, .int (0 : Int32)), (0, .ref (ad 0)), (1, .int x1), (2, .int x2), (3, .int x3), (4, .int x4)]) hx hb dX7_triangleOf_13 hl (by decide) rfl (fun ls hl => ?_)
      obtain ⟨o9, h_o9, h⟩ := ob h
      refine l_Mod_triangleOf_L15 C0 F ad mthr mnow mold mols msav miss minp mlen mat medg mcor mtri mkep mkee mwor mnum mmet x1 x2 x3 x4 hP F (0 : Int32) _ h_o9 ls (lv_sub hl [1, 2, 3, 4, 5, 0] rfl) (fun o9x ls eo hl => ?_) (fun q_o pcR ls eo hdR => ?_)
      · subst o9
        have h := se_r h
        refine lv_iinc (v := (x4 + (1 : Int32))) (pc := 70) (lv' := [(4, .int (x4 + (1 : Int32))), (0, .ref (ad 0)), (1, .int x1), (2, .int x2), (3, .int x3), (5, .int o9x)]) hx hb dX7_triangleOf_70 hl (k := 4) rfl rfl (by decide) rfl (fun ls hl => ?_)
        refine lv_goto (tgt := 3) (pc := 73) hx hb dX7_triangleOf_73 (by decide) ?_
        exact ih (x4 + (1 : Int32)) out h ls (lv_sub hl [1, 2, 3, 4, 0] rfl) Kx Kr
      · subst o9
        have h := se_l h
        obtain rfl := Option.some.inj h
        exact Kr _ _ _ rfl hdR
set_option maxHeartbeats 4000000 in
set_option maxRecDepth 100000 in
theorem c_Mod_triangleOf (l : Launch) (K : KT) (ad : Nat → Nat) (mthr : Int32) (mnow : Nat → Int32) (mold : Nat → Int32) (mols : Int32) (msav : Nat → Int32) (miss : Bool) (minp : Nat → Int32) (mlen : Int32) (mat : Int32) (medg : Nat → Int32) (mcor : Nat → Int32) (mtri : Int32) (mkep : Nat → Int32) (mkee : Nat → Int32) (mwor : Nat → Int32) (mnum : Nat → Int32) (mmet : Nat → Int32) (a0 : Int32) (a1 : Int32) (a2 : Int32) (F : Nat) {o : Int32} (h : s_Mod_triangleOf F mcor mtri a0 a1 a2 = some o) : Rd l K 1 yX7_triangleOf cX7_triangleOf 6 .int [.ref (ad 0), .int a0, .int a1, .int a2] (wMod K ad mthr mnow mold mols msav miss minp mlen mat medg mcor mtri mkep mkee mwor mnum mmet) o := by
  refine Rd.of (by decide +kernel) (Nat.le_of_ble_eq_true rfl) ?_
  unfold s_Mod_triangleOf at h
  intro p e s m below meth c hx hb hr hml hown hts hlk hP hG ls hl
  have C0 : Ctx p m c cX7_triangleOf 6 s (Array.mk [.ref (ad 0), .int a0, .int a1, .int a2]) RX7 K meth (some .int) := ⟨hx, hb, hml, hown, hts, hG, hr, hlk⟩
  have hl : lv_has ls 6 [(0, .ref (ad 0)), (1, .int a0), (2, .int a1), (3, .int a2)] := hl
  refine lv_iconst (v := (0 : Int32)) (pc := 0) hx hb dX7_triangleOf_0 (by decide) ?_
  refine lv_istore (pc := 1) (lv' := [(4, .int (0 : Int32)), (0, .ref (ad 0)), (1, .int a0), (2, .int a1), (3, .int a2)]) hx hb dX7_triangleOf_1 hl (by decide) rfl (fun ls hl => ?_)
  obtain ⟨o10, h_o10, h⟩ := ob h
  refine l_Mod_triangleOf_L3 C0 F ad mthr mnow mold mols msav miss minp mlen mat medg mcor mtri mkep mkee mwor mnum mmet a0 a1 a2 hP F (0 : Int32) _ h_o10 ls (lv_sub hl [1, 2, 3, 4, 0] rfl) (fun o10x ls eo hl => ?_) (fun q_o pcR ls eo hdR => ?_)
  · subst o10
    have h := se_r h
    refine lv_iconst (v := (-1 : Int32)) (pc := 76) hx hb dX7_triangleOf_76 (by decide) ?_
    obtain rfl := Option.some.inj h
    exact W.iret hx hb hr (fun t ht hW => ⟨rfl, ht⟩) (fun q hq => absurd hq List.not_mem_nil) dX7_triangleOf_77 hlk
  · subst o10
    have h := se_l h
    obtain rfl := Option.some.inj h
    exact W.iret hx hb hr (fun t ht hW => ⟨rfl, ht⟩) (fun q hq => absurd hq List.not_mem_nil) hdR hlk
set_option maxHeartbeats 4000000 in
set_option maxRecDepth 100000 in
theorem c_Mod_areaOf (l : Launch) (K : KT) (ad : Nat → Nat) (mthr : Int32) (mnow : Nat → Int32) (mold : Nat → Int32) (mols : Int32) (msav : Nat → Int32) (miss : Bool) (minp : Nat → Int32) (mlen : Int32) (mat : Int32) (medg : Nat → Int32) (mcor : Nat → Int32) (mtri : Int32) (mkep : Nat → Int32) (mkee : Nat → Int32) (mwor : Nat → Int32) (mnum : Nat → Int32) (mmet : Nat → Int32) (a0 : Int32) {o : Int32} (h : s_Mod_areaOf mnow mcor a0 = some o) : Rd l K 1 yX7_areaOf cX7_areaOf 5 .int [.ref (ad 0), .int a0] (wMod K ad mthr mnow mold mols msav miss minp mlen mat medg mcor mtri mkep mkee mwor mnum mmet) o := by
  refine Rd.of (by decide +kernel) (Nat.le_of_ble_eq_true rfl) ?_
  unfold s_Mod_areaOf at h
  intro p e s m below meth c hx hb hr hml hown hts hlk hP hG ls hl
  have C0 : Ctx p m c cX7_areaOf 5 s (Array.mk [.ref (ad 0), .int a0]) RX7 K meth (some .int) := ⟨hx, hb, hml, hown, hts, hG, hr, hlk⟩
  have hl : lv_has ls 5 [(0, .ref (ad 0)), (1, .int a0)] := hl
  refine lv_aload_n (pc := 0) hx hb dX7_areaOf_0 rfl (lv_at hl 0 rfl) ?_
  refine lv_iload_n (pc := 1) hx hb dX7_areaOf_1 rfl (lv_at hl 1 rfl) ?_
  refine lv_iconst (v := (0 : Int32)) (pc := 2) hx hb dX7_areaOf_2 (by decide) ?_
  obtain ⟨v1, h_v1, h⟩ := ob h
  refine rdV (pc := 3) (As := [.int a0, .int (0 : Int32)]) (rest := []) hx hb hml hown hts hG hP (c_Mod_cornerOf l K ad mthr mnow mold mols msav miss minp mlen mat medg mcor mtri mkep mkee mwor mnum mmet a0 (0 : Int32) h_v1) [0, 1, 2, 3, 4, 5, 6, 7, 8, 9, 10, 11] rfl (q0 := 0) rfl (ci := 7) rfl g_Mod_147 hd_Mod_cornerOf rfl ⟨Nat.le_of_ble_eq_true rfl, Nat.le_of_ble_eq_true rfl⟩ ⟨Nat.zero_le _, Nat.zero_le _⟩ hl rfl (Nat.le_of_ble_eq_true rfl) dX7_areaOf_3 ?_
  refine lv_istore_n (pc := 6) (lv' := [(2, .int v1), (0, .ref (ad 0)), (1, .int a0)]) hx hb dX7_areaOf_6 rfl hl (by decide) rfl (fun ls hl => ?_)
  refine lv_aload_n (pc := 7) hx hb dX7_areaOf_7 rfl (lv_at hl 1 rfl) ?_
  refine lv_iload_n (pc := 8) hx hb dX7_areaOf_8 rfl (lv_at hl 2 rfl) ?_
  refine lv_iconst (v := (1 : Int32)) (pc := 9) hx hb dX7_areaOf_9 (by decide) ?_
  obtain ⟨v2, h_v2, h⟩ := ob h
  refine rdV (pc := 10) (As := [.int a0, .int (1 : Int32)]) (rest := []) hx hb hml hown hts hG hP (c_Mod_cornerOf l K ad mthr mnow mold mols msav miss minp mlen mat medg mcor mtri mkep mkee mwor mnum mmet a0 (1 : Int32) h_v2) [0, 1, 2, 3, 4, 5, 6, 7, 8, 9, 10, 11] rfl (q0 := 0) rfl (ci := 7) rfl g_Mod_147 hd_Mod_cornerOf rfl ⟨Nat.le_of_ble_eq_true rfl, Nat.le_of_ble_eq_true rfl⟩ ⟨Nat.zero_le _, Nat.zero_le _⟩ hl rfl (Nat.le_of_ble_eq_true rfl) dX7_areaOf_10 ?_
  refine lv_istore_n (pc := 13) (lv' := [(3, .int v2), (2, .int v1), (0, .ref (ad 0)), (1, .int a0)]) hx hb dX7_areaOf_13 rfl hl (by decide) rfl (fun ls hl => ?_)
  refine lv_aload_n (pc := 14) hx hb dX7_areaOf_14 rfl (lv_at hl 2 rfl) ?_
  refine lv_iload_n (pc := 15) hx hb dX7_areaOf_15 rfl (lv_at hl 3 rfl) ?_
  refine lv_iconst (v := (2 : Int32)) (pc := 16) hx hb dX7_areaOf_16 (by decide) ?_
  obtain ⟨v3, h_v3, h⟩ := ob h
  refine rdV (pc := 17) (As := [.int a0, .int (2 : Int32)]) (rest := []) hx hb hml hown hts hG hP (c_Mod_cornerOf l K ad mthr mnow mold mols msav miss minp mlen mat medg mcor mtri mkep mkee mwor mnum mmet a0 (2 : Int32) h_v3) [0, 1, 2, 3, 4, 5, 6, 7, 8, 9, 10, 11] rfl (q0 := 0) rfl (ci := 7) rfl g_Mod_147 hd_Mod_cornerOf rfl ⟨Nat.le_of_ble_eq_true rfl, Nat.le_of_ble_eq_true rfl⟩ ⟨Nat.zero_le _, Nat.zero_le _⟩ hl rfl (Nat.le_of_ble_eq_true rfl) dX7_areaOf_17 ?_
  refine lv_istore (pc := 20) (lv' := [(4, .int v3), (3, .int v2), (2, .int v1), (0, .ref (ad 0)), (1, .int a0)]) hx hb dX7_areaOf_20 hl (by decide) rfl (fun ls hl => ?_)
  refine lv_aload_n (pc := 22) hx hb dX7_areaOf_22 rfl (lv_at hl 3 rfl) ?_
  refine lv_iload_n (pc := 23) hx hb dX7_areaOf_23 rfl (lv_at hl 1 rfl) ?_
  obtain ⟨v4, h_v4, h⟩ := ob h
  refine rdV (pc := 24) (As := [.int v2]) (rest := []) hx hb hml hown hts hG hP (c_Mod_x l K ad mthr mnow mold mols msav miss minp mlen mat medg mcor mtri mkep mkee mwor mnum mmet v2 h_v4) [0, 1, 2, 3, 4, 5, 6, 7, 8, 9, 10, 11] rfl (q0 := 0) rfl (ci := 7) rfl g_Mod_65 hd_Mod_x rfl ⟨Nat.le_of_ble_eq_true rfl, Nat.le_of_ble_eq_true rfl⟩ ⟨Nat.zero_le _, Nat.zero_le _⟩ hl rfl (Nat.le_of_ble_eq_true rfl) dX7_areaOf_24 ?_
  refine lv_aload_n (pc := 27) hx hb dX7_areaOf_27 rfl (lv_at hl 3 rfl) ?_
  refine lv_iload_n (pc := 28) hx hb dX7_areaOf_28 rfl (lv_at hl 2 rfl) ?_
  obtain ⟨v5, h_v5, h⟩ := ob h
  refine rdV (pc := 29) (As := [.int v1]) (rest := [.int v4]) hx hb hml hown hts hG hP (c_Mod_x l K ad mthr mnow mold mols msav miss minp mlen mat medg mcor mtri mkep mkee mwor mnum mmet v1 h_v5) [0, 1, 2, 3, 4, 5, 6, 7, 8, 9, 10, 11] rfl (q0 := 0) rfl (ci := 7) rfl g_Mod_65 hd_Mod_x rfl ⟨Nat.le_of_ble_eq_true rfl, Nat.le_of_ble_eq_true rfl⟩ ⟨Nat.zero_le _, Nat.zero_le _⟩ hl rfl (Nat.le_of_ble_eq_true rfl) dX7_areaOf_29 ?_
  refine lv_isub (pc := 32) hx hb dX7_areaOf_32 ?_
  refine lv_aload_n (pc := 33) hx hb dX7_areaOf_33 rfl (lv_at hl 3 rfl) ?_
  refine lv_iload (pc := 34) hx hb dX7_areaOf_34 (lv_at hl 0 rfl) ?_
  obtain ⟨v6, h_v6, h⟩ := ob h
  refine rdV (pc := 36) (As := [.int v3]) (rest := [.int (v4 - v5)]) hx hb hml hown hts hG hP (c_Mod_y l K ad mthr mnow mold mols msav miss minp mlen mat medg mcor mtri mkep mkee mwor mnum mmet v3 h_v6) [0, 1, 2, 3, 4, 5, 6, 7, 8, 9, 10, 11] rfl (q0 := 0) rfl (ci := 7) rfl g_Mod_68 hd_Mod_y rfl ⟨Nat.le_of_ble_eq_true rfl, Nat.le_of_ble_eq_true rfl⟩ ⟨Nat.zero_le _, Nat.zero_le _⟩ hl rfl (Nat.le_of_ble_eq_true rfl) dX7_areaOf_36 ?_
  refine lv_aload_n (pc := 39) hx hb dX7_areaOf_39 rfl (lv_at hl 3 rfl) ?_
  refine lv_iload_n (pc := 40) hx hb dX7_areaOf_40 rfl (lv_at hl 2 rfl) ?_
  obtain ⟨v7, h_v7, h⟩ := ob h
  refine rdV (pc := 41) (As := [.int v1]) (rest := [.int v6, .int (v4 - v5)]) hx hb hml hown hts hG hP (c_Mod_y l K ad mthr mnow mold mols msav miss minp mlen mat medg mcor mtri mkep mkee mwor mnum mmet v1 h_v7) [0, 1, 2, 3, 4, 5, 6, 7, 8, 9, 10, 11] rfl (q0 := 0) rfl (ci := 7) rfl g_Mod_68 hd_Mod_y rfl ⟨Nat.le_of_ble_eq_true rfl, Nat.le_of_ble_eq_true rfl⟩ ⟨Nat.zero_le _, Nat.zero_le _⟩ hl rfl (Nat.le_of_ble_eq_true rfl) dX7_areaOf_41 ?_
  refine lv_isub (pc := 44) hx hb dX7_areaOf_44 ?_
  refine lv_imul (pc := 45) hx hb dX7_areaOf_45 ?_
  refine lv_aload_n (pc := 46) hx hb dX7_areaOf_46 rfl (lv_at hl 3 rfl) ?_
  refine lv_iload_n (pc := 47) hx hb dX7_areaOf_47 rfl (lv_at hl 1 rfl) ?_
  obtain ⟨v8, h_v8, h⟩ := ob h
  refine rdV (pc := 48) (As := [.int v2]) (rest := [.int ((v4 - v5) * (v6 - v7))]) hx hb hml hown hts hG hP (c_Mod_y l K ad mthr mnow mold mols msav miss minp mlen mat medg mcor mtri mkep mkee mwor mnum mmet v2 h_v8) [0, 1, 2, 3, 4, 5, 6, 7, 8, 9, 10, 11] rfl (q0 := 0) rfl (ci := 7) rfl g_Mod_68 hd_Mod_y rfl ⟨Nat.le_of_ble_eq_true rfl, Nat.le_of_ble_eq_true rfl⟩ ⟨Nat.zero_le _, Nat.zero_le _⟩ hl rfl (Nat.le_of_ble_eq_true rfl) dX7_areaOf_48 ?_
  refine lv_aload_n (pc := 51) hx hb dX7_areaOf_51 rfl (lv_at hl 3 rfl) ?_
  refine lv_iload_n (pc := 52) hx hb dX7_areaOf_52 rfl (lv_at hl 2 rfl) ?_
  obtain ⟨v9, h_v9, h⟩ := ob h
  refine rdV (pc := 53) (As := [.int v1]) (rest := [.int v8, .int ((v4 - v5) * (v6 - v7))]) hx hb hml hown hts hG hP (c_Mod_y l K ad mthr mnow mold mols msav miss minp mlen mat medg mcor mtri mkep mkee mwor mnum mmet v1 h_v9) [0, 1, 2, 3, 4, 5, 6, 7, 8, 9, 10, 11] rfl (q0 := 0) rfl (ci := 7) rfl g_Mod_68 hd_Mod_y rfl ⟨Nat.le_of_ble_eq_true rfl, Nat.le_of_ble_eq_true rfl⟩ ⟨Nat.zero_le _, Nat.zero_le _⟩ hl rfl (Nat.le_of_ble_eq_true rfl) dX7_areaOf_53 ?_
  refine lv_isub (pc := 56) hx hb dX7_areaOf_56 ?_
  refine lv_aload_n (pc := 57) hx hb dX7_areaOf_57 rfl (lv_at hl 3 rfl) ?_
  refine lv_iload (pc := 58) hx hb dX7_areaOf_58 (lv_at hl 0 rfl) ?_
  obtain ⟨v10, h_v10, h⟩ := ob h
  refine rdV (pc := 60) (As := [.int v3]) (rest := [.int (v8 - v9), .int ((v4 - v5) * (v6 - v7))]) hx hb hml hown hts hG hP (c_Mod_x l K ad mthr mnow mold mols msav miss minp mlen mat medg mcor mtri mkep mkee mwor mnum mmet v3 h_v10) [0, 1, 2, 3, 4, 5, 6, 7, 8, 9, 10, 11] rfl (q0 := 0) rfl (ci := 7) rfl g_Mod_65 hd_Mod_x rfl ⟨Nat.le_of_ble_eq_true rfl, Nat.le_of_ble_eq_true rfl⟩ ⟨Nat.zero_le _, Nat.zero_le _⟩ hl rfl (Nat.le_of_ble_eq_true rfl) dX7_areaOf_60 ?_
  refine lv_aload_n (pc := 63) hx hb dX7_areaOf_63 rfl (lv_at hl 3 rfl) ?_
  refine lv_iload_n (pc := 64) hx hb dX7_areaOf_64 rfl (lv_at hl 2 rfl) ?_
  obtain ⟨v11, h_v11, h⟩ := ob h
  refine rdV (pc := 65) (As := [.int v1]) (rest := [.int v10, .int (v8 - v9), .int ((v4 - v5) * (v6 - v7))]) hx hb hml hown hts hG hP (c_Mod_x l K ad mthr mnow mold mols msav miss minp mlen mat medg mcor mtri mkep mkee mwor mnum mmet v1 h_v11) [0, 1, 2, 3, 4, 5, 6, 7, 8, 9, 10, 11] rfl (q0 := 0) rfl (ci := 7) rfl g_Mod_65 hd_Mod_x rfl ⟨Nat.le_of_ble_eq_true rfl, Nat.le_of_ble_eq_true rfl⟩ ⟨Nat.zero_le _, Nat.zero_le _⟩ hl rfl (Nat.le_of_ble_eq_true rfl) dX7_areaOf_65 ?_
  refine lv_isub (pc := 68) hx hb dX7_areaOf_68 ?_
  refine lv_imul (pc := 69) hx hb dX7_areaOf_69 ?_
  refine lv_isub (pc := 70) hx hb dX7_areaOf_70 ?_
  obtain rfl := Option.some.inj h
  exact W.iret hx hb hr (fun t ht hW => ⟨rfl, ht⟩) (fun q hq => absurd hq List.not_mem_nil) dX7_areaOf_71 hlk
set_option maxHeartbeats 4000000 in
set_option maxRecDepth 100000 in
theorem l_Mod_edge_L17 {p : Program} {l : Launch} {e : Env} {s : State} {m : MethodId} {args : Array Value} {below : List Frame} {meth : Method} {c : Code} {Q : State → Prop} {K : KT} {A : Nat → Prop} (C0 : Ctx p m c cX7_edge 5 s args RX7 K meth (some .boolean)) (F : Nat) (ad : Nat → Nat) (mthr : Int32) (mnow : Nat → Int32) (mold : Nat → Int32) (mols : Int32) (msav : Nat → Int32) (miss : Bool) (minp : Nat → Int32) (mlen : Int32) (mat : Int32) (medg : Nat → Int32) (mcor : Nat → Int32) (mtri : Int32) (mkep : Nat → Int32) (mkee : Nat → Int32) (mwor : Nat → Int32) (mnum : Nat → Int32) (mmet : Nat → Int32) (x1 : Int32) (x3 : Int32)  : ∀ (n : Nat) (x2 : Int32) (x4 : Int32) (out : (Bool × (Nat → Int32)) ⊕ (Int32 × Int32)), s_Mod_edge_L17 mnow medg mnum x1 x3 n x2 x4 = some out → ∀ (H : Heap) (locs : List Loc) (ls : Array Slot), va_P K.1 vC (wMod K ad mthr mnow mold mols msav miss minp mlen mat medg mcor mtri mkep mkee mwor mnum mmet) H → va_D A (wMod K ad mthr mnow mold mols msav miss minp mlen mat medg mcor mtri mkep mkee mwor mnum mmet) → va_S A s.heap H locs → lv_has ls 5 [(0, .ref (ad 0)), (1, .int x1), (2, .int x2), (3, .int x3), (4, .int x4)] → (∀ (o : Int32 × Int32) (H : Heap) (locs : List Loc) (ls : Array Slot), out = .inr o → va_P K.1 vC (wMod K ad mthr mnow mold mols msav miss minp mlen mat medg mcor mtri mkep mkee mwor mnum mmet) H → va_D A (wMod K ad mthr mnow mold mols msav miss minp mlen mat medg mcor mtri mkep mkee mwor mnum mmet) → va_S A s.heap H locs → lv_has ls 5 [(0, .ref (ad 0)), (1, .int x1), (2, .int o.1), (3, .int x3), (4, .int o.2)] → W p l e (rmL 1) s m args below meth c H locs 0 0 Q (F0 m 73 ls [])) → (∀ (o : Bool × (Nat → Int32)) (H : Heap) (locs : List Loc) (pcR : Nat) (ls : Array Slot), out = .inl o → va_P K.1 vC (wMod K ad mthr mnow mold mols msav miss minp mlen mat medg mcor mtri mkep mkee mwor o.2 mmet) H → va_D A (wMod K ad mthr mnow mold mols msav miss minp mlen mat medg mcor mtri mkep mkee mwor o.2 mmet) → va_S A s.heap H locs → decode cX7_edge pcR = .ok (.ireturn, 1) → W p l e (rmL 1) s m args below meth c H locs 0 0 Q (F0 m pcR ls [.int (bI o.1)])) → W p l e (rmL 1) s m args below meth c H locs 0 0 Q (F0 m 17 ls []) := by
  obtain ⟨hx, hb, hml, hown, hts, hG, hr, hlk⟩ := id C0
  intro n
  induction n with
  | zero =>
    intro x2 x4 out h
    cases h
  | succ n ih =>
    intro x2 x4 out h H locs ls hP hD hS hl Kx Kr
    rw [s_Mod_edge_L17.eq_2] at h
    refine lv_iload (pc := 17) hx hb dX7_edge_17 (lv_at hl 4 rfl) ?_
    refine lv_aload_n (pc := 19) hx hb dX7_edge_19 rfl (lv_at hl 0 rfl) ?_
    obtain ⟨v3, h_v3, h⟩ := ob h
    refine rdV (pc := 20) (As := []) (rest := [.int x4]) hx hb hml hown hts hG hP (c_Mod_n l K ad mthr mnow mold mols msav miss minp mlen mat medg mcor mtri mkep mkee mwor mnum mmet h_v3) [0, 1, 2, 3, 4, 5, 6, 7, 8, 9, 10, 11] rfl (q0 := 0) rfl (ci := 7) rfl g_Mod_48 hd_Mod_n rfl ⟨Nat.le_of_ble_eq_true rfl, Nat.le_of_ble_eq_true rfl⟩ ⟨Nat.zero_le _, Nat.zero_le _⟩ hl rfl (Nat.le_of_ble_eq_true rfl) dX7_edge_20 ?_
    refine lv_icmp_ge (tgt := 73) (pc := 23) hx hb dX7_edge_23 (by decide) (fun c4 => ?_) (fun c4 => ?_)
    · have h := it_t c4 h
      obtain rfl := Option.some.inj h
      exact Kx _ H locs ls rfl hP hD hS (lv_sub hl [0, 1, 2, 3, 4] rfl)
    · have h := it_f c4 h
      refine lv_aload_n (pc := 26) hx hb dX7_edge_26 rfl (lv_at hl 0 rfl) ?_
      refine lv_iload_n (pc := 27) hx hb dX7_edge_27 rfl (lv_at hl 3 rfl) ?_
      refine lv_iload (pc := 28) hx hb dX7_edge_28 (lv_at hl 4 rfl) ?_
      obtain ⟨v5, h_v5, h⟩ := ob h
      refine rdV (pc := 30) (As := [.int x3, .int x4]) (rest := []) hx hb hml hown hts hG hP (c_Mod_has l K ad mthr mnow mold mols msav miss minp mlen mat medg mcor mtri mkep mkee mwor mnum mmet x3 x4 h_v5) [0, 1, 2, 3, 4, 5, 6, 7, 8, 9, 10, 11] rfl (q0 := 0) rfl (ci := 7) rfl g_Mod_104 hd_Mod_has rfl ⟨Nat.le_of_ble_eq_true rfl, Nat.le_of_ble_eq_true rfl⟩ ⟨Nat.zero_le _, Nat.zero_le _⟩ hl rfl (Nat.le_of_ble_eq_true rfl) dX7_edge_30 ?_
      refine lv_if_ne (tgt := 39) (pc := 33) hx hb dX7_edge_33 (by decide) (fun c6 => ?_) (fun c6 => ?_)
      · have h := it_f c6 h
        refine lv_iload_n (pc := 39) hx hb dX7_edge_39 rfl (lv_at hl 2 rfl) ?_
        refine lv_iinc (v := (x2 + (1 : Int32))) (pc := 40) (lv' := [(2, .int (x2 + (1 : Int32))), (0, .ref (ad 0)), (1, .int x1), (3, .int x3), (4, .int x4)]) hx hb dX7_edge_40 hl (k := 2) rfl rfl (by decide) rfl (fun ls hl => ?_)
        refine lv_iload_n (pc := 43) hx hb dX7_edge_43 rfl (lv_at hl 2 rfl) ?_
        refine lv_icmp_eq (tgt := 50) (pc := 44) hx hb dX7_edge_44 (by decide) (fun c7 => ?_) (fun c7 => ?_)
        · have h := it_t c7 h
          refine lv_aload_n (pc := 50) hx hb dX7_edge_50 rfl (lv_at hl 1 rfl) ?_
          refine va_get (D := K.1) (ci := 7) (v := .ref (ad 10)) (C := RX7) (T := TX7) (N := 17) (pc := 51) hx hb hts inT7 hown hG.1 hP 0 rfl rfl 15 (by decide) (hts _ qf_Mod_38) (fun _ h9 => h9) rfl dX7_edge_51 ?_
          refine lv_iconst (v := (0 : Int32)) (pc := 54) hx hb dX7_edge_54 (by decide) ?_
          refine lv_iload_n (pc := 55) hx hb dX7_edge_55 rfl (lv_at hl 3 rfl) ?_
          obtain ⟨v8, h_v8, h⟩ := ob h
          obtain ⟨hi_v8, e_v8⟩ := aset_in h_v8
          refine va_iast (pc := 56) hx hb hG.1 hP hD hS 10 0 rfl rfl hi_v8 dX7_edge_56 (fun H locs hP hD hS => ?_)
          rw [e_v8] at hP hD
          have hP : va_P K.1 vC (wMod K ad mthr mnow mold mols msav miss minp mlen mat medg mcor mtri mkep mkee mwor v8 mmet) H := hP
          have hD : va_D _ (wMod K ad mthr mnow mold mols msav miss minp mlen mat medg mcor mtri mkep mkee mwor v8 mmet) := hD
          refine lv_aload_n (pc := 57) hx hb dX7_edge_57 rfl (lv_at hl 1 rfl) ?_
          refine va_get (D := K.1) (ci := 7) (v := .ref (ad 10)) (C := RX7) (T := TX7) (N := 17) (pc := 58) hx hb hts inT7 hown hG.1 hP 0 rfl rfl 15 (by decide) (hts _ qf_Mod_38) (fun _ h9 => h9) rfl dX7_edge_58 ?_
          refine lv_iconst (v := (1 : Int32)) (pc := 61) hx hb dX7_edge_61 (by decide) ?_
          refine lv_iload (pc := 62) hx hb dX7_edge_62 (lv_at hl 4 rfl) ?_
          obtain ⟨v9, h_v9, h⟩ := ob h
          obtain ⟨hi_v9, e_v9⟩ := aset_in h_v9
          refine va_iast (pc := 64) hx hb hG.1 hP hD hS 10 0 rfl rfl hi_v9 dX7_edge_64 (fun H locs hP hD hS => ?_)
          rw [e_v9] at hP hD
          have hP : va_P K.1 vC (wMod K ad mthr mnow mold mols msav miss minp mlen mat medg mcor mtri mkep mkee mwor v9 mmet) H := hP
          have hD : va_D _ (wMod K ad mthr mnow mold mols msav miss minp mlen mat medg mcor mtri mkep mkee mwor v9 mmet) := hD
          refine lv_iconst (v := (1 : Int32)) (pc := 65) hx hb dX7_edge_65 (by decide) ?_
          obtain rfl := Option.some.inj h
          exact Kr _ _ _ _ _ rfl hP hD hS dX7_edge_66
        · have h := it_f c7 h
          refine lv_goto (tgt := 67) (pc := 47) hx hb dX7_edge_47 (by decide) ?_
          refine lv_iinc (v := (x4 + (1 : Int32))) (pc := 67) (lv' := [(4, .int (x4 + (1 : Int32))), (2, .int (x2 + (1 : Int32))), (0, .ref (ad 0)), (1, .int x1), (3, .int x3)]) hx hb dX7_edge_67 hl (k := 4) rfl rfl (by decide) rfl (fun ls hl => ?_)
          refine lv_goto (tgt := 17) (pc := 70) hx hb dX7_edge_70 (by decide) ?_
          exact ih (x2 + (1 : Int32)) (x4 + (1 : Int32)) out h H locs ls hP hD hS (lv_sub hl [2, 3, 1, 4, 0] rfl) Kx Kr
      · have h := it_t c6 h
        refine lv_goto (tgt := 67) (pc := 36) hx hb dX7_edge_36 (by decide) ?_
        refine lv_iinc (v := (x4 + (1 : Int32))) (pc := 67) (lv' := [(4, .int (x4 + (1 : Int32))), (0, .ref (ad 0)), (1, .int x1), (2, .int x2), (3, .int x3)]) hx hb dX7_edge_67 hl (k := 4) rfl rfl (by decide) rfl (fun ls hl => ?_)
        refine lv_goto (tgt := 17) (pc := 70) hx hb dX7_edge_70 (by decide) ?_
        exact ih x2 (x4 + (1 : Int32)) out h H locs ls hP hD hS (lv_sub hl [1, 2, 3, 4, 0] rfl) Kx Kr
set_option maxHeartbeats 4000000 in
set_option maxRecDepth 100000 in
theorem l_Mod_edge_L4 {p : Program} {l : Launch} {e : Env} {s : State} {m : MethodId} {args : Array Value} {below : List Frame} {meth : Method} {c : Code} {Q : State → Prop} {K : KT} {A : Nat → Prop} (C0 : Ctx p m c cX7_edge 5 s args RX7 K meth (some .boolean)) (F : Nat) (ad : Nat → Nat) (mthr : Int32) (mnow : Nat → Int32) (mold : Nat → Int32) (mols : Int32) (msav : Nat → Int32) (miss : Bool) (minp : Nat → Int32) (mlen : Int32) (mat : Int32) (medg : Nat → Int32) (mcor : Nat → Int32) (mtri : Int32) (mkep : Nat → Int32) (mkee : Nat → Int32) (mwor : Nat → Int32) (mnum : Nat → Int32) (mmet : Nat → Int32) (x1 : Int32)  : ∀ (n : Nat) (x2 : Int32) (x3 : Int32) (out : (Bool × (Nat → Int32)) ⊕ (Int32 × Int32)), s_Mod_edge_L4 F mnow medg mnum x1 n x2 x3 = some out → ∀ (H : Heap) (locs : List Loc) (ls : Array Slot), va_P K.1 vC (wMod K ad mthr mnow mold mols msav miss minp mlen mat medg mcor mtri mkep mkee mwor mnum mmet) H → va_D A (wMod K ad mthr mnow mold mols msav miss minp mlen mat medg mcor mtri mkep mkee mwor mnum mmet) → va_S A s.heap H locs → lv_has ls 5 [(0, .ref (ad 0)), (1, .int x1), (2, .int x2), (3, .int x3)] → (∀ (o : Int32 × Int32) (H : Heap) (locs : List Loc) (ls : Array Slot), out = .inr o → va_P K.1 vC (wMod K ad mthr mnow mold mols msav miss minp mlen mat medg mcor mtri mkep mkee mwor mnum mmet) H → va_D A (wMod K ad mthr mnow mold mols msav miss minp mlen mat medg mcor mtri mkep mkee mwor mnum mmet) → va_S A s.heap H locs → lv_has ls 5 [(0, .ref (ad 0)), (1, .int x1), (2, .int o.1), (3, .int o.2)] → W p l e (rmL 1) s m args below meth c H locs 0 0 Q (F0 m 79 ls [])) → (∀ (o : Bool × (Nat → Int32)) (H : Heap) (locs : List Loc) (pcR : Nat) (ls : Array Slot), out = .inl o → va_P K.1 vC (wMod K ad mthr mnow mold mols msav miss minp mlen mat medg mcor mtri mkep mkee mwor o.2 mmet) H → va_D A (wMod K ad mthr mnow mold mols msav miss minp mlen mat medg mcor mtri mkep mkee mwor o.2 mmet) → va_S A s.heap H locs → decode cX7_edge pcR = .ok (.ireturn, 1) → W p l e (rmL 1) s m args below meth c H locs 0 0 Q (F0 m pcR ls [.int (bI o.1)])) → W p l e (rmL 1) s m args below meth c H locs 0 0 Q (F0 m 4 ls []) := by
  obtain ⟨hx, hb, hml, hown, hts, hG, hr, hlk⟩ := id C0
  intro n
  induction n with
  | zero =>
    intro x2 x3 out h
    cases h
  | succ n ih =>
    intro x2 x3 out h H locs ls hP hD hS hl Kx Kr
    rw [s_Mod_edge_L4.eq_2] at h
    refine lv_iload_n (pc := 4) hx hb dX7_edge_4 rfl (lv_at hl 3 rfl) ?_
    refine lv_aload_n (pc := 5) hx hb dX7_edge_5 rfl (lv_at hl 0 rfl) ?_
    obtain ⟨v1, h_v1, h⟩ := ob h
    refine rdV (pc := 6) (As := []) (rest := [.int x3]) hx hb hml hown hts hG hP (c_Mod_n l K ad mthr mnow mold mols msav miss minp mlen mat medg mcor mtri mkep mkee mwor mnum mmet h_v1) [0, 1, 2, 3, 4, 5, 6, 7, 8, 9, 10, 11] rfl (q0 := 0) rfl (ci := 7) rfl g_Mod_48 hd_Mod_n rfl ⟨Nat.le_of_ble_eq_true rfl, Nat.le_of_ble_eq_true rfl⟩ ⟨Nat.zero_le _, Nat.zero_le _⟩ hl rfl (Nat.le_of_ble_eq_true rfl) dX7_edge_6 ?_
    refine lv_icmp_ge (tgt := 79) (pc := 9) hx hb dX7_edge_9 (by decide) (fun c2 => ?_) (fun c2 => ?_)
    · have h := it_t c2 h
      obtain rfl := Option.some.inj h
      exact Kx _ H locs ls rfl hP hD hS (lv_sub hl [0, 1, 2, 3] rfl)
    · have h := it_f c2 h
      refine lv_iload_n (pc := 12) hx hb dX7_edge_12 rfl (lv_at hl 3 rfl) ?_
      refine lv_iconst (v := (1 : Int32)) (pc := 13) hx hb dX7_edge_13 (by decide) ?_
      refine lv_iadd (pc := 14) hx hb dX7_edge_14 ?_
      refine lv_istore (pc := 15) (lv' := [(4, .int (x3 + (1 : Int32))), (0, .ref (ad 0)), (1, .int x1), (2, .int x2), (3, .int x3)]) hx hb dX7_edge_15 hl (by decide) rfl (fun ls hl => ?_)
      obtain ⟨o10, h_o10, h⟩ := ob h
      refine l_Mod_edge_L17 C0 F ad mthr mnow mold mols msav miss minp mlen mat medg mcor mtri mkep mkee mwor mnum mmet x1 x3 F x2 (x3 + (1 : Int32)) _ h_o10 H locs ls hP hD hS (lv_sub hl [1, 2, 3, 4, 0] rfl) (fun o10x H locs ls eo hP hD hS hl => ?_) (fun q_o H locs pcR ls eo hP hD hS hdR => ?_)
      · subst o10
        have h := se_r h
        refine lv_iinc (v := (x3 + (1 : Int32))) (pc := 73) (lv' := [(3, .int (x3 + (1 : Int32))), (0, .ref (ad 0)), (1, .int x1), (2, .int o10x.1), (4, .int o10x.2)]) hx hb dX7_edge_73 hl (k := 3) rfl rfl (by decide) rfl (fun ls hl => ?_)
        refine lv_goto (tgt := 4) (pc := 76) hx hb dX7_edge_76 (by decide) ?_
        exact ih o10x.1 (x3 + (1 : Int32)) out h H locs ls hP hD hS (lv_sub hl [1, 2, 3, 0] rfl) Kx Kr
      · subst o10
        have h := se_l h
        obtain rfl := Option.some.inj h
        exact Kr _ _ _ _ _ rfl hP hD hS hdR
set_option maxHeartbeats 4000000 in
set_option maxRecDepth 100000 in
theorem c_Mod_edge (l : Launch) (K : KT) (ad : Nat → Nat) (mthr : Int32) (mnow : Nat → Int32) (mold : Nat → Int32) (mols : Int32) (msav : Nat → Int32) (miss : Bool) (minp : Nat → Int32) (mlen : Int32) (mat : Int32) (medg : Nat → Int32) (mcor : Nat → Int32) (mtri : Int32) (mkep : Nat → Int32) (mkee : Nat → Int32) (mwor : Nat → Int32) (mnum : Nat → Int32) (mmet : Nat → Int32) (a0 : Int32) (F : Nat) {o : Bool × (Nat → Int32)} (h : s_Mod_edge F mnow medg mnum a0 = some o) : Wr l K 1 yX7_edge cX7_edge 5 (some .boolean) [.ref (ad 0), .int a0] (wMod K ad mthr mnow mold mols msav miss minp mlen mat medg mcor mtri mkep mkee mwor mnum mmet) (some (.int (bI o.1))) (wMod K ad mthr mnow mold mols msav miss minp mlen mat medg mcor mtri mkep mkee mwor o.2 mmet) := by
  refine Wr.of (by decide +kernel) (Nat.le_of_ble_eq_true rfl) ?_
  unfold s_Mod_edge at h
  intro p e s m below meth c hx hb hr hml hown hts hlk H locs hP hG hD hS ls hl
  have C0 : Ctx p m c cX7_edge 5 s (Array.mk [.ref (ad 0), .int a0]) RX7 K meth (some .boolean) := ⟨hx, hb, hml, hown, hts, hG, hr, hlk⟩
  have hl : lv_has ls 5 [(0, .ref (ad 0)), (1, .int a0)] := hl
  refine lv_iconst (v := (0 : Int32)) (pc := 0) hx hb dX7_edge_0 (by decide) ?_
  refine lv_istore_n (pc := 1) (lv' := [(2, .int (0 : Int32)), (0, .ref (ad 0)), (1, .int a0)]) hx hb dX7_edge_1 rfl hl (by decide) rfl (fun ls hl => ?_)
  refine lv_iconst (v := (0 : Int32)) (pc := 2) hx hb dX7_edge_2 (by decide) ?_
  refine lv_istore_n (pc := 3) (lv' := [(3, .int (0 : Int32)), (2, .int (0 : Int32)), (0, .ref (ad 0)), (1, .int a0)]) hx hb dX7_edge_3 rfl hl (by decide) rfl (fun ls hl => ?_)
  obtain ⟨o11, h_o11, h⟩ := ob h
  refine l_Mod_edge_L4 C0 F ad mthr mnow mold mols msav miss minp mlen mat medg mcor mtri mkep mkee mwor mnum mmet a0 F (0 : Int32) (0 : Int32) _ h_o11 H locs ls hP hD hS (lv_sub hl [2, 3, 1, 0] rfl) (fun o11x H locs ls eo hP hD hS hl => ?_) (fun q_o H locs pcR ls eo hP hD hS hdR => ?_)
  · subst o11
    have h := se_r h
    refine lv_iconst (v := (0 : Int32)) (pc := 79) hx hb dX7_edge_79 (by decide) ?_
    obtain rfl := Option.some.inj h
    exact W.zret hx hb hr (rfl) (fun t ht hW => ⟨⟨rfl, by rw [ht]; exact hP⟩, hS.F ht⟩) hS.2.2 dX7_edge_80 hlk
  · subst o11
    have h := se_l h
    obtain rfl := Option.some.inj h
    exact W.zret hx hb hr (bI_nar _) (fun t ht hW => ⟨⟨rfl, by rw [ht]; exact hP⟩, hS.F ht⟩) hS.2.2 hdR hlk
set_option maxHeartbeats 4000000 in
set_option maxRecDepth 100000 in
theorem l_Mod_numberOf_L20 {p : Program} {l : Launch} {e : Env} {s : State} {m : MethodId} {args : Array Value} {below : List Frame} {meth : Method} {c : Code} {Q : State → Prop} {K : KT} (C0 : Ctx p m c cX7_numberOf 6 s args RX7 K meth (some .int)) (F : Nat) (ad : Nat → Nat) (mthr : Int32) (mnow : Nat → Int32) (mold : Nat → Int32) (mols : Int32) (msav : Nat → Int32) (miss : Bool) (minp : Nat → Int32) (mlen : Int32) (mat : Int32) (medg : Nat → Int32) (mcor : Nat → Int32) (mtri : Int32) (mkep : Nat → Int32) (mkee : Nat → Int32) (mwor : Nat → Int32) (mnum : Nat → Int32) (mmet : Nat → Int32) (x1 : Int32) (x2 : Int32) (x4 : Int32) (hP : va_P K.1 vC (wMod K ad mthr mnow mold mols msav miss minp mlen mat medg mcor mtri mkep mkee mwor mnum mmet) s.heap) : ∀ (n : Nat) (x3 : Int32) (x5 : Int32) (out : (Int32) ⊕ (Int32 × Int32)), s_Mod_numberOf_L20 mnow medg x1 x2 x4 n x3 x5 = some out → ∀ (ls : Array Slot), lv_has ls 6 [(0, .ref (ad 0)), (1, .int x1), (2, .int x2), (3, .int x3), (4, .int x4), (5, .int x5)] → (∀ (o : Int32 × Int32) (ls : Array Slot), out = .inr o → lv_has ls 6 [(0, .ref (ad 0)), (1, .int x1), (2, .int x2), (3, .int o.1), (4, .int x4), (5, .int o.2)] → W p l e (rmL 1) s m args below meth c s.heap [] 0 0 Q (F0 m 74 ls [])) → (∀ (o : Int32) (pcR : Nat) (ls : Array Slot), out = .inl o → decode cX7_numberOf pcR = .ok (.ireturn, 1) → W p l e (rmL 1) s m args below meth c s.heap [] 0 0 Q (F0 m pcR ls [.int o])) → W p l e (rmL 1) s m args below meth c s.heap [] 0 0 Q (F0 m 20 ls []) := by
  obtain ⟨hx, hb, hml, hown, hts, hG, hr, hlk⟩ := id C0
  intro n
  induction n with
  | zero =>
    intro x3 x5 out h
    cases h
  | succ n ih =>
    intro x3 x5 out h ls hl Kx Kr
    rw [s_Mod_numberOf_L20.eq_2] at h
    refine lv_iload (pc := 20) hx hb dX7_numberOf_20 (lv_at hl 5 rfl) ?_
    refine lv_aload_n (pc := 22) hx hb dX7_numberOf_22 rfl (lv_at hl 0 rfl) ?_
    obtain ⟨v3, h_v3, h⟩ := ob h
    refine rdV (pc := 23) (As := []) (rest := [.int x5]) hx hb hml hown hts hG hP (c_Mod_n l K ad mthr mnow mold mols msav miss minp mlen mat medg mcor mtri mkep mkee mwor mnum mmet h_v3) [0, 1, 2, 3, 4, 5, 6, 7, 8, 9, 10, 11] rfl (q0 := 0) rfl (ci := 7) rfl g_Mod_48 hd_Mod_n rfl ⟨Nat.le_of_ble_eq_true rfl, Nat.le_of_ble_eq_true rfl⟩ ⟨Nat.zero_le _, Nat.zero_le _⟩ hl rfl (Nat.le_of_ble_eq_true rfl) dX7_numberOf_23 ?_
    refine lv_icmp_ge (tgt := 74) (pc := 26) hx hb dX7_numberOf_26 (by decide) (fun c4 => ?_) (fun c4 => ?_)
    · have h := it_t c4 h
      obtain rfl := Option.some.inj h
      exact Kx _ ls rfl (lv_sub hl [0, 1, 2, 3, 4, 5] rfl)
    · have h := it_f c4 h
      refine lv_aload_n (pc := 29) hx hb dX7_numberOf_29 rfl (lv_at hl 0 rfl) ?_
      refine lv_iload (pc := 30) hx hb dX7_numberOf_30 (lv_at hl 4 rfl) ?_
      refine lv_iload (pc := 32) hx hb dX7_numberOf_32 (lv_at hl 5 rfl) ?_
      obtain ⟨v5, h_v5, h⟩ := ob h
      refine rdV (pc := 34) (As := [.int x4, .int x5]) (rest := []) hx hb hml hown hts hG hP (c_Mod_has l K ad mthr mnow mold mols msav miss minp mlen mat medg mcor mtri mkep mkee mwor mnum mmet x4 x5 h_v5) [0, 1, 2, 3, 4, 5, 6, 7, 8, 9, 10, 11] rfl (q0 := 0) rfl (ci := 7) rfl g_Mod_104 hd_Mod_has rfl ⟨Nat.le_of_ble_eq_true rfl, Nat.le_of_ble_eq_true rfl⟩ ⟨Nat.zero_le _, Nat.zero_le _⟩ hl rfl (Nat.le_of_ble_eq_true rfl) dX7_numberOf_34 ?_
      refine lv_if_ne (tgt := 43) (pc := 37) hx hb dX7_numberOf_37 (by decide) (fun c6 => ?_) (fun c6 => ?_)
      · have h := it_f c6 h
        refine lv_iload (pc := 43) hx hb dX7_numberOf_43 (lv_at hl 4 rfl) ?_
        refine lv_iload_n (pc := 45) hx hb dX7_numberOf_45 rfl (lv_at hl 1 rfl) ?_
        refine lv_iload_n (pc := 46) hx hb dX7_numberOf_46 rfl (lv_at hl 2 rfl) ?_
        refine my_mmin (pc := 47) hx hb hml hl.1 hown hts qm_Mod_83 (Nat.le_of_ble_eq_true rfl) (Nat.le_of_ble_eq_true rfl) ⟨Nat.zero_le _, Nat.zero_le _⟩ dX7_numberOf_47 ?_
        refine lv_icmp_ne (tgt := 65) (pc := 50) hx hb dX7_numberOf_50 (by decide) (fun c7 => ?_) (fun c7 => ?_)
        · have h := it_f c7 h
          refine lv_iinc (v := (x3 + (1 : Int32))) (pc := 65) (lv' := [(3, .int (x3 + (1 : Int32))), (0, .ref (ad 0)), (1, .int x1), (2, .int x2), (4, .int x4), (5, .int x5)]) hx hb dX7_numberOf_65 hl (k := 3) rfl rfl (by decide) rfl (fun ls hl => ?_)
          refine lv_iinc (v := (x5 + (1 : Int32))) (pc := 68) (lv' := [(5, .int (x5 + (1 : Int32))), (3, .int (x3 + (1 : Int32))), (0, .ref (ad 0)), (1, .int x1), (2, .int x2), (4, .int x4)]) hx hb dX7_numberOf_68 hl (k := 5) rfl rfl (by decide) rfl (fun ls hl => ?_)
          refine lv_goto (tgt := 20) (pc := 71) hx hb dX7_numberOf_71 (by decide) ?_
          exact ih (x3 + (1 : Int32)) (x5 + (1 : Int32)) out h ls (lv_sub hl [2, 3, 4, 1, 5, 0] rfl) Kx Kr
        · have h := it_t c7 h
          refine lv_iload (pc := 53) hx hb dX7_numberOf_53 (lv_at hl 5 rfl) ?_
          refine lv_iload_n (pc := 55) hx hb dX7_numberOf_55 rfl (lv_at hl 1 rfl) ?_
          refine lv_iload_n (pc := 56) hx hb dX7_numberOf_56 rfl (lv_at hl 2 rfl) ?_
          refine my_mmax (pc := 57) hx hb hml hl.1 hown hts qm_Mod_89 (Nat.le_of_ble_eq_true rfl) (Nat.le_of_ble_eq_true rfl) ⟨Nat.zero_le _, Nat.zero_le _⟩ dX7_numberOf_57 ?_
          refine lv_icmp_ne (tgt := 65) (pc := 60) hx hb dX7_numberOf_60 (by decide) (fun c8 => ?_) (fun c8 => ?_)
          · have h := it_f c8 h
            refine lv_iinc (v := (x3 + (1 : Int32))) (pc := 65) (lv' := [(3, .int (x3 + (1 : Int32))), (0, .ref (ad 0)), (1, .int x1), (2, .int x2), (4, .int x4), (5, .int x5)]) hx hb dX7_numberOf_65 hl (k := 3) rfl rfl (by decide) rfl (fun ls hl => ?_)
            refine lv_iinc (v := (x5 + (1 : Int32))) (pc := 68) (lv' := [(5, .int (x5 + (1 : Int32))), (3, .int (x3 + (1 : Int32))), (0, .ref (ad 0)), (1, .int x1), (2, .int x2), (4, .int x4)]) hx hb dX7_numberOf_68 hl (k := 5) rfl rfl (by decide) rfl (fun ls hl => ?_)
            refine lv_goto (tgt := 20) (pc := 71) hx hb dX7_numberOf_71 (by decide) ?_
            exact ih (x3 + (1 : Int32)) (x5 + (1 : Int32)) out h ls (lv_sub hl [2, 3, 4, 1, 5, 0] rfl) Kx Kr
          · have h := it_t c8 h
            refine lv_iload_n (pc := 63) hx hb dX7_numberOf_63 rfl (lv_at hl 3 rfl) ?_
            obtain rfl := Option.some.inj h
            exact Kr _ _ _ rfl dX7_numberOf_64
      · have h := it_t c6 h
        refine lv_goto (tgt := 68) (pc := 40) hx hb dX7_numberOf_40 (by decide) ?_
        refine lv_iinc (v := (x5 + (1 : Int32))) (pc := 68) (lv' := [(5, .int (x5 + (1 : Int32))), (0, .ref (ad 0)), (1, .int x1), (2, .int x2), (3, .int x3), (4, .int x4)]) hx hb dX7_numberOf_68 hl (k := 5) rfl rfl (by decide) rfl (fun ls hl => ?_)
        refine lv_goto (tgt := 20) (pc := 71) hx hb dX7_numberOf_71 (by decide) ?_
        exact ih x3 (x5 + (1 : Int32)) out h ls (lv_sub hl [1, 2, 3, 4, 5, 0] rfl) Kx Kr
set_option maxHeartbeats 4000000 in
set_option maxRecDepth 100000 in
theorem l_Mod_numberOf_L5 {p : Program} {l : Launch} {e : Env} {s : State} {m : MethodId} {args : Array Value} {below : List Frame} {meth : Method} {c : Code} {Q : State → Prop} {K : KT} (C0 : Ctx p m c cX7_numberOf 6 s args RX7 K meth (some .int)) (F : Nat) (ad : Nat → Nat) (mthr : Int32) (mnow : Nat → Int32) (mold : Nat → Int32) (mols : Int32) (msav : Nat → Int32) (miss : Bool) (minp : Nat → Int32) (mlen : Int32) (mat : Int32) (medg : Nat → Int32) (mcor : Nat → Int32) (mtri : Int32) (mkep : Nat → Int32) (mkee : Nat → Int32) (mwor : Nat → Int32) (mnum : Nat → Int32) (mmet : Nat → Int32) (x1 : Int32) (x2 : Int32) (hP : va_P K.1 vC (wMod K ad mthr mnow mold mols msav miss minp mlen mat medg mcor mtri mkep mkee mwor mnum mmet) s.heap) : ∀ (n : Nat) (x3 : Int32) (x4 : Int32) (out : (Int32) ⊕ (Int32 × Int32)), s_Mod_numberOf_L5 F mnow medg x1 x2 n x3 x4 = some out → ∀ (ls : Array Slot), lv_has ls 6 [(0, .ref (ad 0)), (1, .int x1), (2, .int x2), (3, .int x3), (4, .int x4)] → (∀ (o : Int32 × Int32) (ls : Array Slot), out = .inr o → lv_has ls 6 [(0, .ref (ad 0)), (1, .int x1), (2, .int x2), (3, .int o.1), (4, .int o.2)] → W p l e (rmL 1) s m args below meth c s.heap [] 0 0 Q (F0 m 80 ls [])) → (∀ (o : Int32) (pcR : Nat) (ls : Array Slot), out = .inl o → decode cX7_numberOf pcR = .ok (.ireturn, 1) → W p l e (rmL 1) s m args below meth c s.heap [] 0 0 Q (F0 m pcR ls [.int o])) → W p l e (rmL 1) s m args below meth c s.heap [] 0 0 Q (F0 m 5 ls []) := by
  obtain ⟨hx, hb, hml, hown, hts, hG, hr, hlk⟩ := id C0
  intro n
  induction n with
  | zero =>
    intro x3 x4 out h
    cases h
  | succ n ih =>
    intro x3 x4 out h ls hl Kx Kr
    rw [s_Mod_numberOf_L5.eq_2] at h
    refine lv_iload (pc := 5) hx hb dX7_numberOf_5 (lv_at hl 4 rfl) ?_
    refine lv_aload_n (pc := 7) hx hb dX7_numberOf_7 rfl (lv_at hl 0 rfl) ?_
    obtain ⟨v1, h_v1, h⟩ := ob h
    refine rdV (pc := 8) (As := []) (rest := [.int x4]) hx hb hml hown hts hG hP (c_Mod_n l K ad mthr mnow mold mols msav miss minp mlen mat medg mcor mtri mkep mkee mwor mnum mmet h_v1) [0, 1, 2, 3, 4, 5, 6, 7, 8, 9, 10, 11] rfl (q0 := 0) rfl (ci := 7) rfl g_Mod_48 hd_Mod_n rfl ⟨Nat.le_of_ble_eq_true rfl, Nat.le_of_ble_eq_true rfl⟩ ⟨Nat.zero_le _, Nat.zero_le _⟩ hl rfl (Nat.le_of_ble_eq_true rfl) dX7_numberOf_8 ?_
    refine lv_icmp_ge (tgt := 80) (pc := 11) hx hb dX7_numberOf_11 (by decide) (fun c2 => ?_) (fun c2 => ?_)
    · have h := it_t c2 h
      obtain rfl := Option.some.inj h
      exact Kx _ ls rfl (lv_sub hl [0, 1, 2, 3, 4] rfl)
    · have h := it_f c2 h
      refine lv_iload (pc := 14) hx hb dX7_numberOf_14 (lv_at hl 4 rfl) ?_
      refine lv_iconst (v := (1 : Int32)) (pc := 16) hx hb dX7_numberOf_16 (by decide) ?_
      refine lv_iadd (pc := 17) hx hb dX7_numberOf_17 ?_
      refine lv_istore (pc := 18) (lv' := [(5, .int (x4 + (1 : Int32))), (0, .ref (ad 0)), (1, .int x1), (2, .int x2), (3, .int x3), (4, .int x4)]) hx hb dX7_numberOf_18 hl (by decide) rfl (fun ls hl => ?_)
      obtain ⟨o9, h_o9, h⟩ := ob h
      refine l_Mod_numberOf_L20 C0 F ad mthr mnow mold mols msav miss minp mlen mat medg mcor mtri mkep mkee mwor mnum mmet x1 x2 x4 hP F x3 (x4 + (1 : Int32)) _ h_o9 ls (lv_sub hl [1, 2, 3, 4, 5, 0] rfl) (fun o9x ls eo hl => ?_) (fun q_o pcR ls eo hdR => ?_)
      · subst o9
        have h := se_r h
        refine lv_iinc (v := (x4 + (1 : Int32))) (pc := 74) (lv' := [(4, .int (x4 + (1 : Int32))), (0, .ref (ad 0)), (1, .int x1), (2, .int x2), (3, .int o9x.1), (5, .int o9x.2)]) hx hb dX7_numberOf_74 hl (k := 4) rfl rfl (by decide) rfl (fun ls hl => ?_)
        refine lv_goto (tgt := 5) (pc := 77) hx hb dX7_numberOf_77 (by decide) ?_
        exact ih o9x.1 (x4 + (1 : Int32)) out h ls (lv_sub hl [1, 2, 3, 4, 0] rfl) Kx Kr
      · subst o9
        have h := se_l h
        obtain rfl := Option.some.inj h
        exact Kr _ _ _ rfl hdR
set_option maxHeartbeats 4000000 in
set_option maxRecDepth 100000 in
theorem c_Mod_numberOf (l : Launch) (K : KT) (ad : Nat → Nat) (mthr : Int32) (mnow : Nat → Int32) (mold : Nat → Int32) (mols : Int32) (msav : Nat → Int32) (miss : Bool) (minp : Nat → Int32) (mlen : Int32) (mat : Int32) (medg : Nat → Int32) (mcor : Nat → Int32) (mtri : Int32) (mkep : Nat → Int32) (mkee : Nat → Int32) (mwor : Nat → Int32) (mnum : Nat → Int32) (mmet : Nat → Int32) (a0 : Int32) (a1 : Int32) (F : Nat) {o : Int32} (h : s_Mod_numberOf F mnow medg a0 a1 = some o) : Rd l K 1 yX7_numberOf cX7_numberOf 6 .int [.ref (ad 0), .int a0, .int a1] (wMod K ad mthr mnow mold mols msav miss minp mlen mat medg mcor mtri mkep mkee mwor mnum mmet) o := by
  refine Rd.of (by decide +kernel) (Nat.le_of_ble_eq_true rfl) ?_
  unfold s_Mod_numberOf at h
  intro p e s m below meth c hx hb hr hml hown hts hlk hP hG ls hl
  have C0 : Ctx p m c cX7_numberOf 6 s (Array.mk [.ref (ad 0), .int a0, .int a1]) RX7 K meth (some .int) := ⟨hx, hb, hml, hown, hts, hG, hr, hlk⟩
  have hl : lv_has ls 6 [(0, .ref (ad 0)), (1, .int a0), (2, .int a1)] := hl
  refine lv_iconst (v := (0 : Int32)) (pc := 0) hx hb dX7_numberOf_0 (by decide) ?_
  refine lv_istore_n (pc := 1) (lv' := [(3, .int (0 : Int32)), (0, .ref (ad 0)), (1, .int a0), (2, .int a1)]) hx hb dX7_numberOf_1 rfl hl (by decide) rfl (fun ls hl => ?_)
  refine lv_iconst (v := (0 : Int32)) (pc := 2) hx hb dX7_numberOf_2 (by decide) ?_
  refine lv_istore (pc := 3) (lv' := [(4, .int (0 : Int32)), (3, .int (0 : Int32)), (0, .ref (ad 0)), (1, .int a0), (2, .int a1)]) hx hb dX7_numberOf_3 hl (by decide) rfl (fun ls hl => ?_)
  obtain ⟨o10, h_o10, h⟩ := ob h
  refine l_Mod_numberOf_L5 C0 F ad mthr mnow mold mols msav miss minp mlen mat medg mcor mtri mkep mkee mwor mnum mmet a0 a1 hP F (0 : Int32) (0 : Int32) _ h_o10 ls (lv_sub hl [2, 3, 4, 1, 0] rfl) (fun o10x ls eo hl => ?_) (fun q_o pcR ls eo hdR => ?_)
  · subst o10
    have h := se_r h
    refine lv_iconst (v := (-1 : Int32)) (pc := 80) hx hb dX7_numberOf_80 (by decide) ?_
    obtain rfl := Option.some.inj h
    exact W.iret hx hb hr (fun t ht hW => ⟨rfl, ht⟩) (fun q hq => absurd hq List.not_mem_nil) dX7_numberOf_81 hlk
  · subst o10
    have h := se_l h
    obtain rfl := Option.some.inj h
    exact W.iret hx hb hr (fun t ht hW => ⟨rfl, ht⟩) (fun q hq => absurd hq List.not_mem_nil) hdR hlk
set_option maxHeartbeats 4000000 in
set_option maxRecDepth 100000 in
theorem l_Mod_edgeTotal_L16 {p : Program} {l : Launch} {e : Env} {s : State} {m : MethodId} {args : Array Value} {below : List Frame} {meth : Method} {c : Code} {Q : State → Prop} {K : KT} (C0 : Ctx p m c cX7_edgeTotal 4 s args RX7 K meth (some .int)) (F : Nat) (ad : Nat → Nat) (mthr : Int32) (mnow : Nat → Int32) (mold : Nat → Int32) (mols : Int32) (msav : Nat → Int32) (miss : Bool) (minp : Nat → Int32) (mlen : Int32) (mat : Int32) (medg : Nat → Int32) (mcor : Nat → Int32) (mtri : Int32) (mkep : Nat → Int32) (mkee : Nat → Int32) (mwor : Nat → Int32) (mnum : Nat → Int32) (mmet : Nat → Int32) (x2 : Int32) (hP : va_P K.1 vC (wMod K ad mthr mnow mold mols msav miss minp mlen mat medg mcor mtri mkep mkee mwor mnum mmet) s.heap) : ∀ (n : Nat) (x1 : Int32) (x3 : Int32) (out : Int32 × Int32), s_Mod_edgeTotal_L16 mnow medg x2 n x1 x3 = some out → ∀ (ls : Array Slot), lv_has ls 4 [(0, .ref (ad 0)), (1, .int x1), (2, .int x2), (3, .int x3)] → (∀ (o : Int32 × Int32) (ls : Array Slot), out = o → lv_has ls 4 [(0, .ref (ad 0)), (1, .int o.1), (2, .int x2), (3, .int o.2)] → W p l e (rmL 1) s m args below meth c s.heap [] 0 0 Q (F0 m 42 ls [])) → W p l e (rmL 1) s m args below meth c s.heap [] 0 0 Q (F0 m 16 ls []) := by
  obtain ⟨hx, hb, hml, hown, hts, hG, hr, hlk⟩ := id C0
  intro n
  induction n with
  | zero =>
    intro x1 x3 out h
    cases h
  | succ n ih =>
    intro x1 x3 out h ls hl Kx 
    rw [s_Mod_edgeTotal_L16.eq_2] at h
    refine lv_iload_n (pc := 16) hx hb dX7_edgeTotal_16 rfl (lv_at hl 3 rfl) ?_
    refine lv_aload_n (pc := 17) hx hb dX7_edgeTotal_17 rfl (lv_at hl 0 rfl) ?_
    obtain ⟨v3, h_v3, h⟩ := ob h
    refine rdV (pc := 18) (As := []) (rest := [.int x3]) hx hb hml hown hts hG hP (c_Mod_n l K ad mthr mnow mold mols msav miss minp mlen mat medg mcor mtri mkep mkee mwor mnum mmet h_v3) [0, 1, 2, 3, 4, 5, 6, 7, 8, 9, 10, 11] rfl (q0 := 0) rfl (ci := 7) rfl g_Mod_48 hd_Mod_n rfl ⟨Nat.le_of_ble_eq_true rfl, Nat.le_of_ble_eq_true rfl⟩ ⟨Nat.zero_le _, Nat.zero_le _⟩ hl rfl (Nat.le_of_ble_eq_true rfl) dX7_edgeTotal_18 ?_
    refine lv_icmp_ge (tgt := 42) (pc := 21) hx hb dX7_edgeTotal_21 (by decide) (fun c4 => ?_) (fun c4 => ?_)
    · have h := it_t c4 h
      obtain rfl := Option.some.inj h
      exact Kx _ ls rfl (lv_sub hl [0, 1, 2, 3] rfl)
    · have h := it_f c4 h
      refine lv_aload_n (pc := 24) hx hb dX7_edgeTotal_24 rfl (lv_at hl 0 rfl) ?_
      refine lv_iload_n (pc := 25) hx hb dX7_edgeTotal_25 rfl (lv_at hl 2 rfl) ?_
      refine lv_iload_n (pc := 26) hx hb dX7_edgeTotal_26 rfl (lv_at hl 3 rfl) ?_
      obtain ⟨v5, h_v5, h⟩ := ob h
      refine rdV (pc := 27) (As := [.int x2, .int x3]) (rest := []) hx hb hml hown hts hG hP (c_Mod_has l K ad mthr mnow mold mols msav miss minp mlen mat medg mcor mtri mkep mkee mwor mnum mmet x2 x3 h_v5) [0, 1, 2, 3, 4, 5, 6, 7, 8, 9, 10, 11] rfl (q0 := 0) rfl (ci := 7) rfl g_Mod_104 hd_Mod_has rfl ⟨Nat.le_of_ble_eq_true rfl, Nat.le_of_ble_eq_true rfl⟩ ⟨Nat.zero_le _, Nat.zero_le _⟩ hl rfl (Nat.le_of_ble_eq_true rfl) dX7_edgeTotal_27 ?_
      refine lv_if_eq (tgt := 36) (pc := 30) hx hb dX7_edgeTotal_30 (by decide) (fun c6 => ?_) (fun c6 => ?_)
      · have h := it_t c6 h
        refine lv_iinc (v := (x3 + (1 : Int32))) (pc := 36) (lv' := [(3, .int (x3 + (1 : Int32))), (0, .ref (ad 0)), (1, .int x1), (2, .int x2)]) hx hb dX7_edgeTotal_36 hl (k := 3) rfl rfl (by decide) rfl (fun ls hl => ?_)
        refine lv_goto (tgt := 16) (pc := 39) hx hb dX7_edgeTotal_39 (by decide) ?_
        exact ih x1 (x3 + (1 : Int32)) out h ls (lv_sub hl [1, 2, 3, 0] rfl) Kx 
      · have h := it_f c6 h
        refine lv_iinc (v := (x1 + (1 : Int32))) (pc := 33) (lv' := [(1, .int (x1 + (1 : Int32))), (0, .ref (ad 0)), (2, .int x2), (3, .int x3)]) hx hb dX7_edgeTotal_33 hl (k := 1) rfl rfl (by decide) rfl (fun ls hl => ?_)
        refine lv_iinc (v := (x3 + (1 : Int32))) (pc := 36) (lv' := [(3, .int (x3 + (1 : Int32))), (1, .int (x1 + (1 : Int32))), (0, .ref (ad 0)), (2, .int x2)]) hx hb dX7_edgeTotal_36 hl (k := 3) rfl rfl (by decide) rfl (fun ls hl => ?_)
        refine lv_goto (tgt := 16) (pc := 39) hx hb dX7_edgeTotal_39 (by decide) ?_
        exact ih (x1 + (1 : Int32)) (x3 + (1 : Int32)) out h ls (lv_sub hl [2, 1, 3, 0] rfl) Kx 
set_option maxHeartbeats 4000000 in
set_option maxRecDepth 100000 in
theorem l_Mod_edgeTotal_L4 {p : Program} {l : Launch} {e : Env} {s : State} {m : MethodId} {args : Array Value} {below : List Frame} {meth : Method} {c : Code} {Q : State → Prop} {K : KT} (C0 : Ctx p m c cX7_edgeTotal 4 s args RX7 K meth (some .int)) (F : Nat) (ad : Nat → Nat) (mthr : Int32) (mnow : Nat → Int32) (mold : Nat → Int32) (mols : Int32) (msav : Nat → Int32) (miss : Bool) (minp : Nat → Int32) (mlen : Int32) (mat : Int32) (medg : Nat → Int32) (mcor : Nat → Int32) (mtri : Int32) (mkep : Nat → Int32) (mkee : Nat → Int32) (mwor : Nat → Int32) (mnum : Nat → Int32) (mmet : Nat → Int32) (hP : va_P K.1 vC (wMod K ad mthr mnow mold mols msav miss minp mlen mat medg mcor mtri mkep mkee mwor mnum mmet) s.heap) : ∀ (n : Nat) (x1 : Int32) (x2 : Int32) (out : Int32 × Int32), s_Mod_edgeTotal_L4 F mnow medg n x1 x2 = some out → ∀ (ls : Array Slot), lv_has ls 4 [(0, .ref (ad 0)), (1, .int x1), (2, .int x2)] → (∀ (o : Int32 × Int32) (ls : Array Slot), out = o → lv_has ls 4 [(0, .ref (ad 0)), (1, .int o.1), (2, .int o.2)] → W p l e (rmL 1) s m args below meth c s.heap [] 0 0 Q (F0 m 48 ls [])) → W p l e (rmL 1) s m args below meth c s.heap [] 0 0 Q (F0 m 4 ls []) := by
  obtain ⟨hx, hb, hml, hown, hts, hG, hr, hlk⟩ := id C0
  intro n
  induction n with
  | zero =>
    intro x1 x2 out h
    cases h
  | succ n ih =>
    intro x1 x2 out h ls hl Kx 
    rw [s_Mod_edgeTotal_L4.eq_2] at h
    refine lv_iload_n (pc := 4) hx hb dX7_edgeTotal_4 rfl (lv_at hl 2 rfl) ?_
    refine lv_aload_n (pc := 5) hx hb dX7_edgeTotal_5 rfl (lv_at hl 0 rfl) ?_
    obtain ⟨v1, h_v1, h⟩ := ob h
    refine rdV (pc := 6) (As := []) (rest := [.int x2]) hx hb hml hown hts hG hP (c_Mod_n l K ad mthr mnow mold mols msav miss minp mlen mat medg mcor mtri mkep mkee mwor mnum mmet h_v1) [0, 1, 2, 3, 4, 5, 6, 7, 8, 9, 10, 11] rfl (q0 := 0) rfl (ci := 7) rfl g_Mod_48 hd_Mod_n rfl ⟨Nat.le_of_ble_eq_true rfl, Nat.le_of_ble_eq_true rfl⟩ ⟨Nat.zero_le _, Nat.zero_le _⟩ hl rfl (Nat.le_of_ble_eq_true rfl) dX7_edgeTotal_6 ?_
    refine lv_icmp_ge (tgt := 48) (pc := 9) hx hb dX7_edgeTotal_9 (by decide) (fun c2 => ?_) (fun c2 => ?_)
    · have h := it_t c2 h
      obtain rfl := Option.some.inj h
      exact Kx _ ls rfl (lv_sub hl [0, 1, 2] rfl)
    · have h := it_f c2 h
      refine lv_iload_n (pc := 12) hx hb dX7_edgeTotal_12 rfl (lv_at hl 2 rfl) ?_
      refine lv_iconst (v := (1 : Int32)) (pc := 13) hx hb dX7_edgeTotal_13 (by decide) ?_
      refine lv_iadd (pc := 14) hx hb dX7_edgeTotal_14 ?_
      refine lv_istore_n (pc := 15) (lv' := [(3, .int (x2 + (1 : Int32))), (0, .ref (ad 0)), (1, .int x1), (2, .int x2)]) hx hb dX7_edgeTotal_15 rfl hl (by decide) rfl (fun ls hl => ?_)
      obtain ⟨o7, h_o7, h⟩ := ob h
      refine l_Mod_edgeTotal_L16 C0 F ad mthr mnow mold mols msav miss minp mlen mat medg mcor mtri mkep mkee mwor mnum mmet x2 hP F x1 (x2 + (1 : Int32)) _ h_o7 ls (lv_sub hl [1, 2, 3, 0] rfl) (fun o7x ls eo hl => ?_)
      subst o7
      refine lv_iinc (v := (x2 + (1 : Int32))) (pc := 42) (lv' := [(2, .int (x2 + (1 : Int32))), (0, .ref (ad 0)), (1, .int o7x.1), (3, .int o7x.2)]) hx hb dX7_edgeTotal_42 hl (k := 2) rfl rfl (by decide) rfl (fun ls hl => ?_)
      refine lv_goto (tgt := 4) (pc := 45) hx hb dX7_edgeTotal_45 (by decide) ?_
      exact ih o7x.1 (x2 + (1 : Int32)) out h ls (lv_sub hl [1, 2, 0] rfl) Kx 
set_option maxHeartbeats 4000000 in
set_option maxRecDepth 100000 in
theorem c_Mod_edgeTotal (l : Launch) (K : KT) (ad : Nat → Nat) (mthr : Int32) (mnow : Nat → Int32) (mold : Nat → Int32) (mols : Int32) (msav : Nat → Int32) (miss : Bool) (minp : Nat → Int32) (mlen : Int32) (mat : Int32) (medg : Nat → Int32) (mcor : Nat → Int32) (mtri : Int32) (mkep : Nat → Int32) (mkee : Nat → Int32) (mwor : Nat → Int32) (mnum : Nat → Int32) (mmet : Nat → Int32) (F : Nat) {o : Int32} (h : s_Mod_edgeTotal F mnow medg = some o) : Rd l K 1 yX7_edgeTotal cX7_edgeTotal 4 .int [.ref (ad 0)] (wMod K ad mthr mnow mold mols msav miss minp mlen mat medg mcor mtri mkep mkee mwor mnum mmet) o := by
  refine Rd.of (by decide +kernel) (Nat.le_of_ble_eq_true rfl) ?_
  unfold s_Mod_edgeTotal at h
  intro p e s m below meth c hx hb hr hml hown hts hlk hP hG ls hl
  have C0 : Ctx p m c cX7_edgeTotal 4 s (Array.mk [.ref (ad 0)]) RX7 K meth (some .int) := ⟨hx, hb, hml, hown, hts, hG, hr, hlk⟩
  have hl : lv_has ls 4 [(0, .ref (ad 0))] := hl
  refine lv_iconst (v := (0 : Int32)) (pc := 0) hx hb dX7_edgeTotal_0 (by decide) ?_
  refine lv_istore_n (pc := 1) (lv' := [(1, .int (0 : Int32)), (0, .ref (ad 0))]) hx hb dX7_edgeTotal_1 rfl hl (by decide) rfl (fun ls hl => ?_)
  refine lv_iconst (v := (0 : Int32)) (pc := 2) hx hb dX7_edgeTotal_2 (by decide) ?_
  refine lv_istore_n (pc := 3) (lv' := [(2, .int (0 : Int32)), (1, .int (0 : Int32)), (0, .ref (ad 0))]) hx hb dX7_edgeTotal_3 rfl hl (by decide) rfl (fun ls hl => ?_)
  obtain ⟨o8, h_o8, h⟩ := ob h
  refine l_Mod_edgeTotal_L4 C0 F ad mthr mnow mold mols msav miss minp mlen mat medg mcor mtri mkep mkee mwor mnum mmet hP F (0 : Int32) (0 : Int32) _ h_o8 ls (lv_sub hl [2, 1, 0] rfl) (fun o8x ls eo hl => ?_)
  subst o8
  refine lv_iload_n (pc := 48) hx hb dX7_edgeTotal_48 rfl (lv_at hl 1 rfl) ?_
  obtain rfl := Option.some.inj h
  exact W.iret hx hb hr (fun t ht hW => ⟨rfl, ht⟩) (fun q hq => absurd hq List.not_mem_nil) dX7_edgeTotal_49 hlk
set_option maxHeartbeats 4000000 in
set_option maxRecDepth 100000 in
theorem l_Mod_records_L51 {p : Program} {l : Launch} {e : Env} {s : State} {m : MethodId} {args : Array Value} {below : List Frame} {meth : Method} {c : Code} {Q : State → Prop} {K : KT} {A : Nat → Prop} (C0 : Ctx p m c cX7_records 2 s args RX7 K meth none) (F : Nat) (ad : Nat → Nat) (mthr : Int32) (mnow : Nat → Int32) (mols : Int32) (msav : Nat → Int32) (miss : Bool) (minp : Nat → Int32) (mlen : Int32) (mat : Int32) (medg : Nat → Int32) (mcor : Nat → Int32) (mtri : Int32) (mkep : Nat → Int32) (mkee : Nat → Int32) (mwor : Nat → Int32) (mnum : Nat → Int32) (mmet : Nat → Int32)  : ∀ (n : Nat) (x1 : Int32) (mold : Nat → Int32) (out : Int32 × (Nat → Int32)), s_Mod_records_L51 mnow mols n x1 mold = some out → ∀ (H : Heap) (locs : List Loc) (ls : Array Slot), va_P K.1 vC (wMod K ad mthr mnow mold mols msav miss minp mlen mat medg mcor mtri mkep mkee mwor mnum mmet) H → va_D A (wMod K ad mthr mnow mold mols msav miss minp mlen mat medg mcor mtri mkep mkee mwor mnum mmet) → va_S A s.heap H locs → lv_has ls 2 [(0, .ref (ad 0)), (1, .int x1)] → (∀ (o : Int32 × (Nat → Int32)) (H : Heap) (locs : List Loc) (ls : Array Slot), out = o → va_P K.1 vC (wMod K ad mthr mnow o.2 mols msav miss minp mlen mat medg mcor mtri mkep mkee mwor mnum mmet) H → va_D A (wMod K ad mthr mnow o.2 mols msav miss minp mlen mat medg mcor mtri mkep mkee mwor mnum mmet) → va_S A s.heap H locs → lv_has ls 2 [(0, .ref (ad 0)), (1, .int o.1)] → W p l e (rmL 0) s m args below meth c H locs 0 0 Q (F0 m 83 ls [])) → W p l e (rmL 0) s m args below meth c H locs 0 0 Q (F0 m 51 ls []) := by
  obtain ⟨hx, hb, hml, hown, hts, hG, hr, hlk⟩ := id C0
  intro n
  induction n with
  | zero =>
    intro x1 mold out h
    cases h
  | succ n ih =>
    intro x1 mold out h H locs ls hP hD hS hl Kx 
    rw [s_Mod_records_L51.eq_2] at h
    refine lv_iload_n (pc := 51) hx hb dX7_records_51 rfl (lv_at hl 1 rfl) ?_
    refine lv_bipush (v := (56 : Int32)) (pc := 52) hx hb dX7_records_52 (by decide) ?_
    refine lv_icmp_ge (tgt := 83) (pc := 54) hx hb dX7_records_54 (by decide) (fun c2 => ?_) (fun c2 => ?_)
    · have h := it_t c2 h
      obtain rfl := Option.some.inj h
      exact Kx _ H locs ls rfl hP hD hS (lv_sub hl [0, 1] rfl)
    · have h := it_f c2 h
      refine lv_aload_n (pc := 57) hx hb dX7_records_57 rfl (lv_at hl 0 rfl) ?_
      refine va_get (D := K.1) (ci := 7) (v := .ref (ad 2)) (C := RX7) (T := TX7) (N := 17) (pc := 58) hx hb hts inT7 hown hG.1 hP 0 rfl rfl 2 (by decide) (hts _ qf_Mod_13) (fun _ h9 => h9) rfl dX7_records_58 ?_
      refine lv_bipush (v := (56 : Int32)) (pc := 61) hx hb dX7_records_61 (by decide) ?_
      refine lv_aload_n (pc := 63) hx hb dX7_records_63 rfl (lv_at hl 0 rfl) ?_
      refine va_get (D := K.1) (ci := 7) (v := .int mols) (C := RX7) (T := TX7) (N := 17) (pc := 64) hx hb hts inT7 hown hG.1 hP 0 rfl rfl 3 (by decide) (hts _ qf_Mod_150) (fun _ h9 => h9) rfl dX7_records_64 ?_
      refine lv_imul (pc := 67) hx hb dX7_records_67 ?_
      refine lv_iload_n (pc := 68) hx hb dX7_records_68 rfl (lv_at hl 1 rfl) ?_
      refine lv_iadd (pc := 69) hx hb dX7_records_69 ?_
      refine lv_aload_n (pc := 70) hx hb dX7_records_70 rfl (lv_at hl 0 rfl) ?_
      refine va_get (D := K.1) (ci := 7) (v := .ref (ad 1)) (C := RX7) (T := TX7) (N := 17) (pc := 71) hx hb hts inT7 hown hG.1 hP 0 rfl rfl 1 (by decide) (hts _ qf_Mod_9) (fun _ h9 => h9) rfl dX7_records_71 ?_
      refine lv_iload_n (pc := 74) hx hb dX7_records_74 rfl (lv_at hl 1 rfl) ?_
      obtain ⟨v3, h_v3, h⟩ := ob h
      obtain ⟨hi_v3, e_v3⟩ := aget_in h_v3
      refine va_iald (pc := 75) hx hb hG.1 hP 1 0 rfl rfl hi_v3 dX7_records_75 ?_
      rw [e_v3]
      obtain ⟨v4, h_v4, h⟩ := ob h
      obtain ⟨hi_v4, e_v4⟩ := aset_in h_v4
      refine va_iast (pc := 76) hx hb hG.1 hP hD hS 2 0 rfl rfl hi_v4 dX7_records_76 (fun H locs hP hD hS => ?_)
      rw [e_v4] at hP hD
      have hP : va_P K.1 vC (wMod K ad mthr mnow v4 mols msav miss minp mlen mat medg mcor mtri mkep mkee mwor mnum mmet) H := hP
      have hD : va_D _ (wMod K ad mthr mnow v4 mols msav miss minp mlen mat medg mcor mtri mkep mkee mwor mnum mmet) := hD
      refine lv_iinc (v := (x1 + (1 : Int32))) (pc := 77) (lv' := [(1, .int (x1 + (1 : Int32))), (0, .ref (ad 0))]) hx hb dX7_records_77 hl (k := 1) rfl rfl (by decide) rfl (fun ls hl => ?_)
      refine lv_goto (tgt := 51) (pc := 80) hx hb dX7_records_80 (by decide) ?_
      exact ih (x1 + (1 : Int32)) v4 out h H locs ls hP hD hS (lv_sub hl [1, 0] rfl) Kx 
set_option maxHeartbeats 4000000 in
set_option maxRecDepth 100000 in
theorem l_Mod_records_L11 {p : Program} {l : Launch} {e : Env} {s : State} {m : MethodId} {args : Array Value} {below : List Frame} {meth : Method} {c : Code} {Q : State → Prop} {K : KT} {A : Nat → Prop} (C0 : Ctx p m c cX7_records 2 s args RX7 K meth none) (F : Nat) (ad : Nat → Nat) (mthr : Int32) (mnow : Nat → Int32) (mols : Int32) (msav : Nat → Int32) (miss : Bool) (minp : Nat → Int32) (mlen : Int32) (mat : Int32) (medg : Nat → Int32) (mcor : Nat → Int32) (mtri : Int32) (mkep : Nat → Int32) (mkee : Nat → Int32) (mwor : Nat → Int32) (mnum : Nat → Int32) (mmet : Nat → Int32)  : ∀ (n : Nat) (x1 : Int32) (mold : Nat → Int32) (out : Int32 × (Nat → Int32)), s_Mod_records_L11  n x1 mold = some out → ∀ (H : Heap) (locs : List Loc) (ls : Array Slot), va_P K.1 vC (wMod K ad mthr mnow mold mols msav miss minp mlen mat medg mcor mtri mkep mkee mwor mnum mmet) H → va_D A (wMod K ad mthr mnow mold mols msav miss minp mlen mat medg mcor mtri mkep mkee mwor mnum mmet) → va_S A s.heap H locs → lv_has ls 2 [(0, .ref (ad 0)), (1, .int x1)] → (∀ (o : Int32 × (Nat → Int32)) (H : Heap) (locs : List Loc) (ls : Array Slot), out = o → va_P K.1 vC (wMod K ad mthr mnow o.2 mols msav miss minp mlen mat medg mcor mtri mkep mkee mwor mnum mmet) H → va_D A (wMod K ad mthr mnow o.2 mols msav miss minp mlen mat medg mcor mtri mkep mkee mwor mnum mmet) → va_S A s.heap H locs → lv_has ls 2 [(0, .ref (ad 0)), (1, .int o.1)] → W p l e (rmL 0) s m args below meth c H locs 0 0 Q (F0 m 39 ls [])) → W p l e (rmL 0) s m args below meth c H locs 0 0 Q (F0 m 11 ls []) := by
  obtain ⟨hx, hb, hml, hown, hts, hG, hr, hlk⟩ := id C0
  intro n
  induction n with
  | zero =>
    intro x1 mold out h
    cases h
  | succ n ih =>
    intro x1 mold out h H locs ls hP hD hS hl Kx 
    rw [s_Mod_records_L11.eq_2] at h
    refine lv_iload_n (pc := 11) hx hb dX7_records_11 rfl (lv_at hl 1 rfl) ?_
    refine lv_sipush (v := (616 : Int32)) (pc := 12) hx hb dX7_records_12 (by decide) ?_
    refine lv_icmp_ge (tgt := 39) (pc := 15) hx hb dX7_records_15 (by decide) (fun c6 => ?_) (fun c6 => ?_)
    · have h := it_t c6 h
      obtain rfl := Option.some.inj h
      exact Kx _ H locs ls rfl hP hD hS (lv_sub hl [0, 1] rfl)
    · have h := it_f c6 h
      refine lv_aload_n (pc := 18) hx hb dX7_records_18 rfl (lv_at hl 0 rfl) ?_
      refine va_get (D := K.1) (ci := 7) (v := .ref (ad 2)) (C := RX7) (T := TX7) (N := 17) (pc := 19) hx hb hts inT7 hown hG.1 hP 0 rfl rfl 2 (by decide) (hts _ qf_Mod_13) (fun _ h9 => h9) rfl dX7_records_19 ?_
      refine lv_iload_n (pc := 22) hx hb dX7_records_22 rfl (lv_at hl 1 rfl) ?_
      refine lv_aload_n (pc := 23) hx hb dX7_records_23 rfl (lv_at hl 0 rfl) ?_
      refine va_get (D := K.1) (ci := 7) (v := .ref (ad 2)) (C := RX7) (T := TX7) (N := 17) (pc := 24) hx hb hts inT7 hown hG.1 hP 0 rfl rfl 2 (by decide) (hts _ qf_Mod_13) (fun _ h9 => h9) rfl dX7_records_24 ?_
      refine lv_bipush (v := (56 : Int32)) (pc := 27) hx hb dX7_records_27 (by decide) ?_
      refine lv_iload_n (pc := 29) hx hb dX7_records_29 rfl (lv_at hl 1 rfl) ?_
      refine lv_iadd (pc := 30) hx hb dX7_records_30 ?_
      obtain ⟨v7, h_v7, h⟩ := ob h
      obtain ⟨hi_v7, e_v7⟩ := aget_in h_v7
      refine va_iald (pc := 31) hx hb hG.1 hP 2 0 rfl rfl hi_v7 dX7_records_31 ?_
      rw [e_v7]
      obtain ⟨v8, h_v8, h⟩ := ob h
      obtain ⟨hi_v8, e_v8⟩ := aset_in h_v8
      refine va_iast (pc := 32) hx hb hG.1 hP hD hS 2 0 rfl rfl hi_v8 dX7_records_32 (fun H locs hP hD hS => ?_)
      rw [e_v8] at hP hD
      have hP : va_P K.1 vC (wMod K ad mthr mnow v8 mols msav miss minp mlen mat medg mcor mtri mkep mkee mwor mnum mmet) H := hP
      have hD : va_D _ (wMod K ad mthr mnow v8 mols msav miss minp mlen mat medg mcor mtri mkep mkee mwor mnum mmet) := hD
      refine lv_iinc (v := (x1 + (1 : Int32))) (pc := 33) (lv' := [(1, .int (x1 + (1 : Int32))), (0, .ref (ad 0))]) hx hb dX7_records_33 hl (k := 1) rfl rfl (by decide) rfl (fun ls hl => ?_)
      refine lv_goto (tgt := 11) (pc := 36) hx hb dX7_records_36 (by decide) ?_
      exact ih (x1 + (1 : Int32)) v8 out h H locs ls hP hD hS (lv_sub hl [1, 0] rfl) Kx 
set_option maxHeartbeats 4000000 in
set_option maxRecDepth 100000 in
theorem c_Mod_records (l : Launch) (K : KT) (ad : Nat → Nat) (mthr : Int32) (mnow : Nat → Int32) (mold : Nat → Int32) (mols : Int32) (msav : Nat → Int32) (miss : Bool) (minp : Nat → Int32) (mlen : Int32) (mat : Int32) (medg : Nat → Int32) (mcor : Nat → Int32) (mtri : Int32) (mkep : Nat → Int32) (mkee : Nat → Int32) (mwor : Nat → Int32) (mnum : Nat → Int32) (mmet : Nat → Int32) (F : Nat) {o : (Nat → Int32) × Int32} (h : s_Mod_records F mnow mold mols = some o) : Wr l K 0 yX7_records cX7_records 2 none [.ref (ad 0)] (wMod K ad mthr mnow mold mols msav miss minp mlen mat medg mcor mtri mkep mkee mwor mnum mmet) none (wMod K ad mthr mnow o.1 o.2 msav miss minp mlen mat medg mcor mtri mkep mkee mwor mnum mmet) := by
  refine Wr.of (by decide +kernel) (Nat.le_of_ble_eq_true rfl) ?_
  unfold s_Mod_records at h
  intro p e s m below meth c hx hb hr hml hown hts hlk H locs hP hG hD hS ls hl
  have C0 : Ctx p m c cX7_records 2 s (Array.mk [.ref (ad 0)]) RX7 K meth none := ⟨hx, hb, hml, hown, hts, hG, hr, hlk⟩
  have hl : lv_has ls 2 [(0, .ref (ad 0))] := hl
  refine lv_aload_n (pc := 0) hx hb dX7_records_0 rfl (lv_at hl 0 rfl) ?_
  refine va_get (D := K.1) (ci := 7) (v := .int mols) (C := RX7) (T := TX7) (N := 17) (pc := 1) hx hb hts inT7 hown hG.1 hP 0 rfl rfl 3 (by decide) (hts _ qf_Mod_150) (fun _ h9 => h9) rfl dX7_records_1 ?_
  refine lv_bipush (v := (12 : Int32)) (pc := 4) hx hb dX7_records_4 (by decide) ?_
  refine lv_icmp_ne (tgt := 49) (pc := 6) hx hb dX7_records_6 (by decide) (fun c1 => ?_) (fun c1 => ?_)
  · have h := it_f c1 h
    refine lv_iconst (v := (0 : Int32)) (pc := 49) hx hb dX7_records_49 (by decide) ?_
    refine lv_istore_n (pc := 50) (lv' := [(1, .int (0 : Int32)), (0, .ref (ad 0))]) hx hb dX7_records_50 rfl hl (by decide) rfl (fun ls hl => ?_)
    obtain ⟨o5, h_o5, h⟩ := ob h
    refine l_Mod_records_L51 C0 F ad mthr mnow mols msav miss minp mlen mat medg mcor mtri mkep mkee mwor mnum mmet F (0 : Int32) mold _ h_o5 H locs ls hP hD hS (lv_sub hl [1, 0] rfl) (fun o5x H locs ls eo hP hD hS hl => ?_)
    subst o5
    refine lv_aload_n (pc := 83) hx hb dX7_records_83 rfl (lv_at hl 0 rfl) ?_
    refine lv_dup (pc := 84) hx hb dX7_records_84 rfl ?_
    refine va_get (D := K.1) (ci := 7) (v := .int mols) (C := RX7) (T := TX7) (N := 17) (pc := 85) hx hb hts inT7 hown hG.1 hP 0 rfl rfl 3 (by decide) (hts _ qf_Mod_150) (fun _ h9 => h9) rfl dX7_records_85 ?_
    refine lv_iconst (v := (1 : Int32)) (pc := 88) hx hb dX7_records_88 (by decide) ?_
    refine lv_iadd (pc := 89) hx hb dX7_records_89 ?_
    refine va_put (D := K.1) (ci := 7) (v := .int (mols + (1 : Int32))) (ty := .int) (C := RX7) (T := TX7) (N := 17) (pc := 90) hx hb hts inT7 tyX7 tyX7_ok nmX7 hown hG.1 hP hD hS 0 rfl rfl 3 (by decide) (hts _ qf_Mod_150) (fun _ h9 => h9) rfl (by decide +kernel) rfl rfl (Nat.le_of_ble_eq_true rfl) dX7_records_90 (fun H locs hP hD hS => ?_)
    have hP : va_P K.1 vC (wMod K ad mthr mnow o5x.2 (mols + (1 : Int32)) msav miss minp mlen mat medg mcor mtri mkep mkee mwor mnum mmet) H := hP
    have hD : va_D _ (wMod K ad mthr mnow o5x.2 (mols + (1 : Int32)) msav miss minp mlen mat medg mcor mtri mkep mkee mwor mnum mmet) := hD
    obtain rfl := Option.some.inj h
    exact W.vret hx hb hr (fun t ht hW => ⟨⟨rfl, by rw [ht]; exact hP⟩, hS.F ht⟩) hS.2.2 dX7_records_93 hlk
  · have h := it_t c1 h
    refine lv_iconst (v := (0 : Int32)) (pc := 9) hx hb dX7_records_9 (by decide) ?_
    refine lv_istore_n (pc := 10) (lv' := [(1, .int (0 : Int32)), (0, .ref (ad 0))]) hx hb dX7_records_10 rfl hl (by decide) rfl (fun ls hl => ?_)
    obtain ⟨o9, h_o9, h⟩ := ob h
    refine l_Mod_records_L11 C0 F ad mthr mnow mols msav miss minp mlen mat medg mcor mtri mkep mkee mwor mnum mmet F (0 : Int32) mold _ h_o9 H locs ls hP hD hS (lv_sub hl [1, 0] rfl) (fun o9x H locs ls eo hP hD hS hl => ?_)
    subst o9
    refine lv_aload_n (pc := 39) hx hb dX7_records_39 rfl (lv_at hl 0 rfl) ?_
    refine lv_dup (pc := 40) hx hb dX7_records_40 rfl ?_
    refine va_get (D := K.1) (ci := 7) (v := .int mols) (C := RX7) (T := TX7) (N := 17) (pc := 41) hx hb hts inT7 hown hG.1 hP 0 rfl rfl 3 (by decide) (hts _ qf_Mod_150) (fun _ h9 => h9) rfl dX7_records_41 ?_
    refine lv_iconst (v := (1 : Int32)) (pc := 44) hx hb dX7_records_44 (by decide) ?_
    refine lv_isub (pc := 45) hx hb dX7_records_45 ?_
    refine va_put (D := K.1) (ci := 7) (v := .int (mols - (1 : Int32))) (ty := .int) (C := RX7) (T := TX7) (N := 17) (pc := 46) hx hb hts inT7 tyX7 tyX7_ok nmX7 hown hG.1 hP hD hS 0 rfl rfl 3 (by decide) (hts _ qf_Mod_150) (fun _ h9 => h9) rfl (by decide +kernel) rfl rfl (Nat.le_of_ble_eq_true rfl) dX7_records_46 (fun H locs hP hD hS => ?_)
    have hP : va_P K.1 vC (wMod K ad mthr mnow o9x.2 (mols - (1 : Int32)) msav miss minp mlen mat medg mcor mtri mkep mkee mwor mnum mmet) H := hP
    have hD : va_D _ (wMod K ad mthr mnow o9x.2 (mols - (1 : Int32)) msav miss minp mlen mat medg mcor mtri mkep mkee mwor mnum mmet) := hD
    refine lv_iconst (v := (0 : Int32)) (pc := 49) hx hb dX7_records_49 (by decide) ?_
    refine lv_istore_n (pc := 50) (lv' := [(1, .int (0 : Int32)), (0, .ref (ad 0))]) hx hb dX7_records_50 rfl hl (by decide) rfl (fun ls hl => ?_)
    obtain ⟨o10, h_o10, h⟩ := ob h
    refine l_Mod_records_L51 C0 F ad mthr mnow (mols - (1 : Int32)) msav miss minp mlen mat medg mcor mtri mkep mkee mwor mnum mmet F (0 : Int32) o9x.2 _ h_o10 H locs ls hP hD hS (lv_sub hl [1, 0] rfl) (fun o10x H locs ls eo hP hD hS hl => ?_)
    subst o10
    refine lv_aload_n (pc := 83) hx hb dX7_records_83 rfl (lv_at hl 0 rfl) ?_
    refine lv_dup (pc := 84) hx hb dX7_records_84 rfl ?_
    refine va_get (D := K.1) (ci := 7) (v := .int (mols - (1 : Int32))) (C := RX7) (T := TX7) (N := 17) (pc := 85) hx hb hts inT7 hown hG.1 hP 0 rfl rfl 3 (by decide) (hts _ qf_Mod_150) (fun _ h9 => h9) rfl dX7_records_85 ?_
    refine lv_iconst (v := (1 : Int32)) (pc := 88) hx hb dX7_records_88 (by decide) ?_
    refine lv_iadd (pc := 89) hx hb dX7_records_89 ?_
    refine va_put (D := K.1) (ci := 7) (v := .int ((mols - (1 : Int32)) + (1 : Int32))) (ty := .int) (C := RX7) (T := TX7) (N := 17) (pc := 90) hx hb hts inT7 tyX7 tyX7_ok nmX7 hown hG.1 hP hD hS 0 rfl rfl 3 (by decide) (hts _ qf_Mod_150) (fun _ h9 => h9) rfl (by decide +kernel) rfl rfl (Nat.le_of_ble_eq_true rfl) dX7_records_90 (fun H locs hP hD hS => ?_)
    have hP : va_P K.1 vC (wMod K ad mthr mnow o10x.2 ((mols - (1 : Int32)) + (1 : Int32)) msav miss minp mlen mat medg mcor mtri mkep mkee mwor mnum mmet) H := hP
    have hD : va_D _ (wMod K ad mthr mnow o10x.2 ((mols - (1 : Int32)) + (1 : Int32)) msav miss minp mlen mat medg mcor mtri mkep mkee mwor mnum mmet) := hD
    obtain rfl := Option.some.inj h
    exact W.vret hx hb hr (fun t ht hW => ⟨⟨rfl, by rw [ht]; exact hP⟩, hS.F ht⟩) hS.2.2 dX7_records_93 hlk
set_option maxHeartbeats 4000000 in
set_option maxRecDepth 100000 in
theorem l_Mod_isBarred_L3 {p : Program} {l : Launch} {e : Env} {s : State} {m : MethodId} {args : Array Value} {below : List Frame} {meth : Method} {c : Code} {Q : State → Prop} {K : KT} (C0 : Ctx p m c cX7_isBarred 5 s args RX7 K meth (some .boolean)) (F : Nat) (ad : Nat → Nat) (mthr : Int32) (mnow : Nat → Int32) (mold : Nat → Int32) (mols : Int32) (msav : Nat → Int32) (miss : Bool) (minp : Nat → Int32) (mlen : Int32) (mat : Int32) (medg : Nat → Int32) (mcor : Nat → Int32) (mtri : Int32) (mkep : Nat → Int32) (mkee : Nat → Int32) (mwor : Nat → Int32) (mnum : Nat → Int32) (mmet : Nat → Int32) (x1 : Int32) (x2 : Int32) (x3 : Int32) (hP : va_P K.1 vC (wMod K ad mthr mnow mold mols msav miss minp mlen mat medg mcor mtri mkep mkee mwor mnum mmet) s.heap) : ∀ (n : Nat) (x4 : Int32) (out : (Bool) ⊕ (Int32)), s_Mod_isBarred_L3 mnow x1 x2 x3 n x4 = some out → ∀ (ls : Array Slot), lv_has ls 5 [(0, .ref (ad 0)), (1, .int x1), (2, .int x2), (3, .int x3), (4, .int x4)] → (∀ (o : Int32) (ls : Array Slot), out = .inr o → lv_has ls 5 [(0, .ref (ad 0)), (1, .int x1), (2, .int x2), (3, .int x3), (4, .int o)] → W p l e (rmL 3) s m args below meth c s.heap [] 0 0 Q (F0 m 46 ls [])) → (∀ (o : Bool) (pcR : Nat) (ls : Array Slot), out = .inl o → decode cX7_isBarred pcR = .ok (.ireturn, 1) → W p l e (rmL 3) s m args below meth c s.heap [] 0 0 Q (F0 m pcR ls [.int (bI o)])) → W p l e (rmL 3) s m args below meth c s.heap [] 0 0 Q (F0 m 3 ls []) := by
  obtain ⟨hx, hb, hml, hown, hts, hG, hr, hlk⟩ := id C0
  intro n
  induction n with
  | zero =>
    intro x4 out h
    cases h
  | succ n ih =>
    intro x4 out h ls hl Kx Kr
    rw [s_Mod_isBarred_L3.eq_2] at h
    refine lv_iload (pc := 3) hx hb dX7_isBarred_3 (lv_at hl 4 rfl) ?_
    refine lv_aload_n (pc := 5) hx hb dX7_isBarred_5 rfl (lv_at hl 0 rfl) ?_
    obtain ⟨v1, h_v1, h⟩ := ob h
    refine rdV (pc := 6) (As := []) (rest := [.int x4]) hx hb hml hown hts hG hP (c_Mod_n l K ad mthr mnow mold mols msav miss minp mlen mat medg mcor mtri mkep mkee mwor mnum mmet h_v1) [0, 1, 2, 3, 4, 5, 6, 7, 8, 9, 10, 11] rfl (q0 := 0) rfl (ci := 7) rfl g_Mod_48 hd_Mod_n rfl ⟨Nat.le_of_ble_eq_true rfl, Nat.le_of_ble_eq_true rfl⟩ ⟨Nat.zero_le _, Nat.zero_le _⟩ hl rfl (Nat.le_of_ble_eq_true rfl) dX7_isBarred_6 ?_
    refine lv_icmp_ge (tgt := 46) (pc := 9) hx hb dX7_isBarred_9 (by decide) (fun c2 => ?_) (fun c2 => ?_)
    · have h := it_t c2 h
      obtain rfl := Option.some.inj h
      exact Kx _ ls rfl (lv_sub hl [0, 1, 2, 3, 4] rfl)
    · have h := it_f c2 h
      refine lv_iload (pc := 12) hx hb dX7_isBarred_12 (lv_at hl 4 rfl) ?_
      refine lv_iload_n (pc := 14) hx hb dX7_isBarred_14 rfl (lv_at hl 1 rfl) ?_
      refine lv_icmp_eq (tgt := 40) (pc := 15) hx hb dX7_isBarred_15 (by decide) (fun c3 => ?_) (fun c3 => ?_)
      · have h := it_t c3 h
        refine lv_iinc (v := (x4 + (1 : Int32))) (pc := 40) (lv' := [(4, .int (x4 + (1 : Int32))), (0, .ref (ad 0)), (1, .int x1), (2, .int x2), (3, .int x3)]) hx hb dX7_isBarred_40 hl (k := 4) rfl rfl (by decide) rfl (fun ls hl => ?_)
        refine lv_goto (tgt := 3) (pc := 43) hx hb dX7_isBarred_43 (by decide) ?_
        exact ih (x4 + (1 : Int32)) out h ls (lv_sub hl [1, 2, 3, 4, 0] rfl) Kx Kr
      · have h := it_f c3 h
        refine lv_aload_n (pc := 18) hx hb dX7_isBarred_18 rfl (lv_at hl 0 rfl) ?_
        refine lv_iload (pc := 19) hx hb dX7_isBarred_19 (lv_at hl 4 rfl) ?_
        obtain ⟨v4, h_v4, h⟩ := ob h
        refine rdV (pc := 21) (As := [.int x4]) (rest := []) hx hb hml hown hts hG hP (c_Mod_x l K ad mthr mnow mold mols msav miss minp mlen mat medg mcor mtri mkep mkee mwor mnum mmet x4 h_v4) [0, 1, 2, 3, 4, 5, 6, 7, 8, 9, 10, 11] rfl (q0 := 0) rfl (ci := 7) rfl g_Mod_65 hd_Mod_x rfl ⟨Nat.le_of_ble_eq_true rfl, Nat.le_of_ble_eq_true rfl⟩ ⟨Nat.zero_le _, Nat.zero_le _⟩ hl rfl (Nat.le_of_ble_eq_true rfl) dX7_isBarred_21 ?_
        refine lv_iload_n (pc := 24) hx hb dX7_isBarred_24 rfl (lv_at hl 2 rfl) ?_
        refine lv_icmp_ne (tgt := 40) (pc := 25) hx hb dX7_isBarred_25 (by decide) (fun c5 => ?_) (fun c5 => ?_)
        · have h := it_f c5 h
          refine lv_iinc (v := (x4 + (1 : Int32))) (pc := 40) (lv' := [(4, .int (x4 + (1 : Int32))), (0, .ref (ad 0)), (1, .int x1), (2, .int x2), (3, .int x3)]) hx hb dX7_isBarred_40 hl (k := 4) rfl rfl (by decide) rfl (fun ls hl => ?_)
          refine lv_goto (tgt := 3) (pc := 43) hx hb dX7_isBarred_43 (by decide) ?_
          exact ih (x4 + (1 : Int32)) out h ls (lv_sub hl [1, 2, 3, 4, 0] rfl) Kx Kr
        · have h := it_t c5 h
          refine lv_aload_n (pc := 28) hx hb dX7_isBarred_28 rfl (lv_at hl 0 rfl) ?_
          refine lv_iload (pc := 29) hx hb dX7_isBarred_29 (lv_at hl 4 rfl) ?_
          obtain ⟨v6, h_v6, h⟩ := ob h
          refine rdV (pc := 31) (As := [.int x4]) (rest := []) hx hb hml hown hts hG hP (c_Mod_y l K ad mthr mnow mold mols msav miss minp mlen mat medg mcor mtri mkep mkee mwor mnum mmet x4 h_v6) [0, 1, 2, 3, 4, 5, 6, 7, 8, 9, 10, 11] rfl (q0 := 0) rfl (ci := 7) rfl g_Mod_68 hd_Mod_y rfl ⟨Nat.le_of_ble_eq_true rfl, Nat.le_of_ble_eq_true rfl⟩ ⟨Nat.zero_le _, Nat.zero_le _⟩ hl rfl (Nat.le_of_ble_eq_true rfl) dX7_isBarred_31 ?_
          refine lv_iload_n (pc := 34) hx hb dX7_isBarred_34 rfl (lv_at hl 3 rfl) ?_
          refine lv_icmp_ne (tgt := 40) (pc := 35) hx hb dX7_isBarred_35 (by decide) (fun c7 => ?_) (fun c7 => ?_)
          · have h := it_f c7 h
            refine lv_iinc (v := (x4 + (1 : Int32))) (pc := 40) (lv' := [(4, .int (x4 + (1 : Int32))), (0, .ref (ad 0)), (1, .int x1), (2, .int x2), (3, .int x3)]) hx hb dX7_isBarred_40 hl (k := 4) rfl rfl (by decide) rfl (fun ls hl => ?_)
            refine lv_goto (tgt := 3) (pc := 43) hx hb dX7_isBarred_43 (by decide) ?_
            exact ih (x4 + (1 : Int32)) out h ls (lv_sub hl [1, 2, 3, 4, 0] rfl) Kx Kr
          · have h := it_t c7 h
            refine lv_iconst (v := (1 : Int32)) (pc := 38) hx hb dX7_isBarred_38 (by decide) ?_
            obtain rfl := Option.some.inj h
            exact Kr _ _ _ rfl dX7_isBarred_39
set_option maxHeartbeats 4000000 in
set_option maxRecDepth 100000 in
theorem l_Mod_isBarred_L49 {p : Program} {l : Launch} {e : Env} {s : State} {m : MethodId} {args : Array Value} {below : List Frame} {meth : Method} {c : Code} {Q : State → Prop} {K : KT} (C0 : Ctx p m c cX7_isBarred 5 s args RX7 K meth (some .boolean)) (F : Nat) (ad : Nat → Nat) (mthr : Int32) (mnow : Nat → Int32) (mold : Nat → Int32) (mols : Int32) (msav : Nat → Int32) (miss : Bool) (minp : Nat → Int32) (mlen : Int32) (mat : Int32) (medg : Nat → Int32) (mcor : Nat → Int32) (mtri : Int32) (mkep : Nat → Int32) (mkee : Nat → Int32) (mwor : Nat → Int32) (mnum : Nat → Int32) (mmet : Nat → Int32) (x2 : Int32) (x3 : Int32) (hP : va_P K.1 vC (wMod K ad mthr mnow mold mols msav miss minp mlen mat medg mcor mtri mkep mkee mwor mnum mmet) s.heap) : ∀ (n : Nat) (x4 : Int32) (out : (Bool) ⊕ (Int32)), s_Mod_isBarred_L49 mnow x2 x3 n x4 = some out → ∀ (ls : Array Slot), lv_has ls 5 [(0, .ref (ad 0)), (2, .int x2), (3, .int x3), (4, .int x4)] → (∀ (o : Int32) (ls : Array Slot), out = .inr o → lv_has ls 5 [(0, .ref (ad 0)), (2, .int x2), (3, .int x3), (4, .int o)] → W p l e (rmL 3) s m args below meth c s.heap [] 0 0 Q (F0 m 89 ls [])) → (∀ (o : Bool) (pcR : Nat) (ls : Array Slot), out = .inl o → decode cX7_isBarred pcR = .ok (.ireturn, 1) → W p l e (rmL 3) s m args below meth c s.heap [] 0 0 Q (F0 m pcR ls [.int (bI o)])) → W p l e (rmL 3) s m args below meth c s.heap [] 0 0 Q (F0 m 49 ls []) := by
  obtain ⟨hx, hb, hml, hown, hts, hG, hr, hlk⟩ := id C0
  intro n
  induction n with
  | zero =>
    intro x4 out h
    cases h
  | succ n ih =>
    intro x4 out h ls hl Kx Kr
    rw [s_Mod_isBarred_L49.eq_2] at h
    refine lv_iload (pc := 49) hx hb dX7_isBarred_49 (lv_at hl 3 rfl) ?_
    refine lv_aload_n (pc := 51) hx hb dX7_isBarred_51 rfl (lv_at hl 0 rfl) ?_
    obtain ⟨v9, h_v9, h⟩ := ob h
    refine rdV (pc := 52) (As := []) (rest := [.int x4]) hx hb hml hown hts hG hP (c_Mod_m l K ad mthr mnow mold mols msav miss minp mlen mat medg mcor mtri mkep mkee mwor mnum mmet h_v9) [0, 1, 2, 3, 4, 5, 6, 7, 8, 9, 10, 11] rfl (q0 := 0) rfl (ci := 7) rfl g_Mod_56 hd_Mod_m rfl ⟨Nat.le_of_ble_eq_true rfl, Nat.le_of_ble_eq_true rfl⟩ ⟨Nat.zero_le _, Nat.zero_le _⟩ hl rfl (Nat.le_of_ble_eq_true rfl) dX7_isBarred_52 ?_
    refine lv_icmp_ge (tgt := 89) (pc := 55) hx hb dX7_isBarred_55 (by decide) (fun c10 => ?_) (fun c10 => ?_)
    · have h := it_t c10 h
      obtain rfl := Option.some.inj h
      exact Kx _ ls rfl (lv_sub hl [0, 1, 2, 3] rfl)
    · have h := it_f c10 h
      refine lv_aload_n (pc := 58) hx hb dX7_isBarred_58 rfl (lv_at hl 0 rfl) ?_
      refine lv_aload_n (pc := 59) hx hb dX7_isBarred_59 rfl (lv_at hl 0 rfl) ?_
      refine lv_iload (pc := 60) hx hb dX7_isBarred_60 (lv_at hl 3 rfl) ?_
      refine lv_iconst (v := (0 : Int32)) (pc := 62) hx hb dX7_isBarred_62 (by decide) ?_
      obtain ⟨v11, h_v11, h⟩ := ob h
      refine rdV (pc := 63) (As := [.int x4, .int (0 : Int32)]) (rest := [.ref (ad 0)]) hx hb hml hown hts hG hP (c_Mod_end l K ad mthr mnow mold mols msav miss minp mlen mat medg mcor mtri mkep mkee mwor mnum mmet x4 (0 : Int32) h_v11) [0, 1, 2, 3, 4, 5, 6, 7, 8, 9, 10, 11] rfl (q0 := 0) rfl (ci := 7) rfl g_Mod_101 hd_Mod_end rfl ⟨Nat.le_of_ble_eq_true rfl, Nat.le_of_ble_eq_true rfl⟩ ⟨Nat.zero_le _, Nat.zero_le _⟩ hl rfl (Nat.le_of_ble_eq_true rfl) dX7_isBarred_63 ?_
      refine lv_aload_n (pc := 66) hx hb dX7_isBarred_66 rfl (lv_at hl 0 rfl) ?_
      refine lv_iload (pc := 67) hx hb dX7_isBarred_67 (lv_at hl 3 rfl) ?_
      refine lv_iconst (v := (1 : Int32)) (pc := 69) hx hb dX7_isBarred_69 (by decide) ?_
      obtain ⟨v12, h_v12, h⟩ := ob h
      refine rdV (pc := 70) (As := [.int x4, .int (1 : Int32)]) (rest := [.int v11, .ref (ad 0)]) hx hb hml hown hts hG hP (c_Mod_end l K ad mthr mnow mold mols msav miss minp mlen mat medg mcor mtri mkep mkee mwor mnum mmet x4 (1 : Int32) h_v12) [0, 1, 2, 3, 4, 5, 6, 7, 8, 9, 10, 11] rfl (q0 := 0) rfl (ci := 7) rfl g_Mod_101 hd_Mod_end rfl ⟨Nat.le_of_ble_eq_true rfl, Nat.le_of_ble_eq_true rfl⟩ ⟨Nat.zero_le _, Nat.zero_le _⟩ hl rfl (Nat.le_of_ble_eq_true rfl) dX7_isBarred_70 ?_
      refine lv_iload_n (pc := 73) hx hb dX7_isBarred_73 rfl (lv_at hl 1 rfl) ?_
      refine lv_iload_n (pc := 74) hx hb dX7_isBarred_74 rfl (lv_at hl 2 rfl) ?_
      obtain ⟨v13, h_v13, h⟩ := ob h
      refine rdV (pc := 75) (As := [.int v11, .int v12, .int x2, .int x3]) (rest := []) hx hb hml hown hts hG hP (c_Mod_isOn l K ad mthr mnow mold mols msav miss minp mlen mat medg mcor mtri mkep mkee mwor mnum mmet v11 v12 x2 x3 h_v13) [0, 1, 2, 3, 4, 5, 6, 7, 8, 9, 10, 11] rfl (q0 := 0) rfl (ci := 7) rfl g_Mod_75 hd_Mod_isOn rfl ⟨Nat.le_of_ble_eq_true rfl, Nat.le_of_ble_eq_true rfl⟩ ⟨Nat.zero_le _, Nat.zero_le _⟩ hl rfl (Nat.le_of_ble_eq_true rfl) dX7_isBarred_75 ?_
      refine lv_if_eq (tgt := 83) (pc := 78) hx hb dX7_isBarred_78 (by decide) (fun c14 => ?_) (fun c14 => ?_)
      · have h := it_t c14 h
        refine lv_iinc (v := (x4 + (1 : Int32))) (pc := 83) (lv' := [(4, .int (x4 + (1 : Int32))), (0, .ref (ad 0)), (2, .int x2), (3, .int x3)]) hx hb dX7_isBarred_83 hl (k := 3) rfl rfl (by decide) rfl (fun ls hl => ?_)
        refine lv_goto (tgt := 49) (pc := 86) hx hb dX7_isBarred_86 (by decide) ?_
        exact ih (x4 + (1 : Int32)) out h ls (lv_sub hl [1, 2, 3, 0] rfl) Kx Kr
      · have h := it_f c14 h
        refine lv_iconst (v := (1 : Int32)) (pc := 81) hx hb dX7_isBarred_81 (by decide) ?_
        obtain rfl := Option.some.inj h
        exact Kr _ _ _ rfl dX7_isBarred_82
set_option maxHeartbeats 4000000 in
set_option maxRecDepth 100000 in
theorem c_Mod_isBarred (l : Launch) (K : KT) (ad : Nat → Nat) (mthr : Int32) (mnow : Nat → Int32) (mold : Nat → Int32) (mols : Int32) (msav : Nat → Int32) (miss : Bool) (minp : Nat → Int32) (mlen : Int32) (mat : Int32) (medg : Nat → Int32) (mcor : Nat → Int32) (mtri : Int32) (mkep : Nat → Int32) (mkee : Nat → Int32) (mwor : Nat → Int32) (mnum : Nat → Int32) (mmet : Nat → Int32) (a0 : Int32) (a1 : Int32) (a2 : Int32) (F : Nat) {o : Bool} (h : s_Mod_isBarred F mnow a0 a1 a2 = some o) : Rd l K 3 yX7_isBarred cX7_isBarred 5 .boolean [.ref (ad 0), .int a0, .int a1, .int a2] (wMod K ad mthr mnow mold mols msav miss minp mlen mat medg mcor mtri mkep mkee mwor mnum mmet) (bI o) := by
  refine Rd.of (by decide +kernel) (Nat.le_of_ble_eq_true rfl) ?_
  unfold s_Mod_isBarred at h
  intro p e s m below meth c hx hb hr hml hown hts hlk hP hG ls hl
  have C0 : Ctx p m c cX7_isBarred 5 s (Array.mk [.ref (ad 0), .int a0, .int a1, .int a2]) RX7 K meth (some .boolean) := ⟨hx, hb, hml, hown, hts, hG, hr, hlk⟩
  have hl : lv_has ls 5 [(0, .ref (ad 0)), (1, .int a0), (2, .int a1), (3, .int a2)] := hl
  refine lv_iconst (v := (0 : Int32)) (pc := 0) hx hb dX7_isBarred_0 (by decide) ?_
  refine lv_istore (pc := 1) (lv' := [(4, .int (0 : Int32)), (0, .ref (ad 0)), (1, .int a0), (2, .int a1), (3, .int a2)]) hx hb dX7_isBarred_1 hl (by decide) rfl (fun ls hl => ?_)
  obtain ⟨o8, h_o8, h⟩ := ob h
  refine l_Mod_isBarred_L3 C0 F ad mthr mnow mold mols msav miss minp mlen mat medg mcor mtri mkep mkee mwor mnum mmet a0 a1 a2 hP F (0 : Int32) _ h_o8 ls (lv_sub hl [1, 2, 3, 4, 0] rfl) (fun o8x ls eo hl => ?_) (fun q_o pcR ls eo hdR => ?_)
  · subst o8
    have h := se_r h
    refine lv_iconst (v := (0 : Int32)) (pc := 46) hx hb dX7_isBarred_46 (by decide) ?_
    refine lv_istore (pc := 47) (lv' := [(4, .int (0 : Int32)), (0, .ref (ad 0)), (1, .int a0), (2, .int a1), (3, .int a2)]) hx hb dX7_isBarred_47 hl (by decide) rfl (fun ls hl => ?_)
    obtain ⟨o15, h_o15, h⟩ := ob h
    refine l_Mod_isBarred_L49 C0 F ad mthr mnow mold mols msav miss minp mlen mat medg mcor mtri mkep mkee mwor mnum mmet a1 a2 hP F (0 : Int32) _ h_o15 ls (lv_sub hl [1, 3, 4, 0] rfl) (fun o15x ls eo hl => ?_) (fun q_o pcR ls eo hdR => ?_)
    · subst o15
      have h := se_r h
      refine lv_iconst (v := (0 : Int32)) (pc := 89) hx hb dX7_isBarred_89 (by decide) ?_
      obtain rfl := Option.some.inj h
      exact W.zret hx hb hr (rfl) (fun t ht hW => ⟨rfl, ht⟩) (fun q hq => absurd hq List.not_mem_nil) dX7_isBarred_90 hlk
    · subst o15
      have h := se_l h
      obtain rfl := Option.some.inj h
      exact W.zret hx hb hr (bI_nar _) (fun t ht hW => ⟨rfl, ht⟩) (fun q hq => absurd hq List.not_mem_nil) hdR hlk
  · subst o8
    have h := se_l h
    obtain rfl := Option.some.inj h
    exact W.zret hx hb hr (bI_nar _) (fun t ht hW => ⟨rfl, ht⟩) (fun q hq => absurd hq List.not_mem_nil) hdR hlk
set_option maxHeartbeats 4000000 in
set_option maxRecDepth 100000 in
theorem l_Mod_isEnd_L2 {p : Program} {l : Launch} {e : Env} {s : State} {m : MethodId} {args : Array Value} {below : List Frame} {meth : Method} {c : Code} {Q : State → Prop} {K : KT} (C0 : Ctx p m c cX7_isEnd 3 s args RX7 K meth (some .boolean)) (F : Nat) (ad : Nat → Nat) (mthr : Int32) (mnow : Nat → Int32) (mold : Nat → Int32) (mols : Int32) (msav : Nat → Int32) (miss : Bool) (minp : Nat → Int32) (mlen : Int32) (mat : Int32) (medg : Nat → Int32) (mcor : Nat → Int32) (mtri : Int32) (mkep : Nat → Int32) (mkee : Nat → Int32) (mwor : Nat → Int32) (mnum : Nat → Int32) (mmet : Nat → Int32) (x1 : Int32) (hP : va_P K.1 vC (wMod K ad mthr mnow mold mols msav miss minp mlen mat medg mcor mtri mkep mkee mwor mnum mmet) s.heap) : ∀ (n : Nat) (x2 : Int32) (out : (Bool) ⊕ (Int32)), s_Mod_isEnd_L2 mnow x1 n x2 = some out → ∀ (ls : Array Slot), lv_has ls 3 [(0, .ref (ad 0)), (1, .int x1), (2, .int x2)] → (∀ (o : Int32) (ls : Array Slot), out = .inr o → lv_has ls 3 [(0, .ref (ad 0)), (1, .int x1), (2, .int o)] → W p l e (rmL 1) s m args below meth c s.heap [] 0 0 Q (F0 m 38 ls [])) → (∀ (o : Bool) (pcR : Nat) (ls : Array Slot), out = .inl o → decode cX7_isEnd pcR = .ok (.ireturn, 1) → W p l e (rmL 1) s m args below meth c s.heap [] 0 0 Q (F0 m pcR ls [.int (bI o)])) → W p l e (rmL 1) s m args below meth c s.heap [] 0 0 Q (F0 m 2 ls []) := by
  obtain ⟨hx, hb, hml, hown, hts, hG, hr, hlk⟩ := id C0
  intro n
  induction n with
  | zero =>
    intro x2 out h
    cases h
  | succ n ih =>
    intro x2 out h ls hl Kx Kr
    rw [s_Mod_isEnd_L2.eq_2] at h
    refine lv_iload_n (pc := 2) hx hb dX7_isEnd_2 rfl (lv_at hl 2 rfl) ?_
    refine lv_aload_n (pc := 3) hx hb dX7_isEnd_3 rfl (lv_at hl 0 rfl) ?_
    obtain ⟨v1, h_v1, h⟩ := ob h
    refine rdV (pc := 4) (As := []) (rest := [.int x2]) hx hb hml hown hts hG hP (c_Mod_m l K ad mthr mnow mold mols msav miss minp mlen mat medg mcor mtri mkep mkee mwor mnum mmet h_v1) [0, 1, 2, 3, 4, 5, 6, 7, 8, 9, 10, 11] rfl (q0 := 0) rfl (ci := 7) rfl g_Mod_56 hd_Mod_m rfl ⟨Nat.le_of_ble_eq_true rfl, Nat.le_of_ble_eq_true rfl⟩ ⟨Nat.zero_le _, Nat.zero_le _⟩ hl rfl (Nat.le_of_ble_eq_true rfl) dX7_isEnd_4 ?_
    refine lv_icmp_ge (tgt := 38) (pc := 7) hx hb dX7_isEnd_7 (by decide) (fun c2 => ?_) (fun c2 => ?_)
    · have h := it_t c2 h
      obtain rfl := Option.some.inj h
      exact Kx _ ls rfl (lv_sub hl [0, 1, 2] rfl)
    · have h := it_f c2 h
      refine lv_aload_n (pc := 10) hx hb dX7_isEnd_10 rfl (lv_at hl 0 rfl) ?_
      refine lv_iload_n (pc := 11) hx hb dX7_isEnd_11 rfl (lv_at hl 2 rfl) ?_
      refine lv_iconst (v := (0 : Int32)) (pc := 12) hx hb dX7_isEnd_12 (by decide) ?_
      obtain ⟨v3, h_v3, h⟩ := ob h
      refine rdV (pc := 13) (As := [.int x2, .int (0 : Int32)]) (rest := []) hx hb hml hown hts hG hP (c_Mod_end l K ad mthr mnow mold mols msav miss minp mlen mat medg mcor mtri mkep mkee mwor mnum mmet x2 (0 : Int32) h_v3) [0, 1, 2, 3, 4, 5, 6, 7, 8, 9, 10, 11] rfl (q0 := 0) rfl (ci := 7) rfl g_Mod_101 hd_Mod_end rfl ⟨Nat.le_of_ble_eq_true rfl, Nat.le_of_ble_eq_true rfl⟩ ⟨Nat.zero_le _, Nat.zero_le _⟩ hl rfl (Nat.le_of_ble_eq_true rfl) dX7_isEnd_13 ?_
      refine lv_iload_n (pc := 16) hx hb dX7_isEnd_16 rfl (lv_at hl 1 rfl) ?_
      refine lv_icmp_eq (tgt := 30) (pc := 17) hx hb dX7_isEnd_17 (by decide) (fun c4 => ?_) (fun c4 => ?_)
      · have h := it_t c4 h
        refine lv_iconst (v := (1 : Int32)) (pc := 30) hx hb dX7_isEnd_30 (by decide) ?_
        obtain rfl := Option.some.inj h
        exact Kr _ _ _ rfl dX7_isEnd_31
      · have h := it_f c4 h
        refine lv_aload_n (pc := 20) hx hb dX7_isEnd_20 rfl (lv_at hl 0 rfl) ?_
        refine lv_iload_n (pc := 21) hx hb dX7_isEnd_21 rfl (lv_at hl 2 rfl) ?_
        refine lv_iconst (v := (1 : Int32)) (pc := 22) hx hb dX7_isEnd_22 (by decide) ?_
        obtain ⟨v5, h_v5, h⟩ := ob h
        refine rdV (pc := 23) (As := [.int x2, .int (1 : Int32)]) (rest := []) hx hb hml hown hts hG hP (c_Mod_end l K ad mthr mnow mold mols msav miss minp mlen mat medg mcor mtri mkep mkee mwor mnum mmet x2 (1 : Int32) h_v5) [0, 1, 2, 3, 4, 5, 6, 7, 8, 9, 10, 11] rfl (q0 := 0) rfl (ci := 7) rfl g_Mod_101 hd_Mod_end rfl ⟨Nat.le_of_ble_eq_true rfl, Nat.le_of_ble_eq_true rfl⟩ ⟨Nat.zero_le _, Nat.zero_le _⟩ hl rfl (Nat.le_of_ble_eq_true rfl) dX7_isEnd_23 ?_
        refine lv_iload_n (pc := 26) hx hb dX7_isEnd_26 rfl (lv_at hl 1 rfl) ?_
        refine lv_icmp_ne (tgt := 32) (pc := 27) hx hb dX7_isEnd_27 (by decide) (fun c6 => ?_) (fun c6 => ?_)
        · have h := it_f c6 h
          refine lv_iinc (v := (x2 + (1 : Int32))) (pc := 32) (lv' := [(2, .int (x2 + (1 : Int32))), (0, .ref (ad 0)), (1, .int x1)]) hx hb dX7_isEnd_32 hl (k := 2) rfl rfl (by decide) rfl (fun ls hl => ?_)
          refine lv_goto (tgt := 2) (pc := 35) hx hb dX7_isEnd_35 (by decide) ?_
          exact ih (x2 + (1 : Int32)) out h ls (lv_sub hl [1, 2, 0] rfl) Kx Kr
        · have h := it_t c6 h
          refine lv_iconst (v := (1 : Int32)) (pc := 30) hx hb dX7_isEnd_30 (by decide) ?_
          obtain rfl := Option.some.inj h
          exact Kr _ _ _ rfl dX7_isEnd_31
set_option maxHeartbeats 4000000 in
set_option maxRecDepth 100000 in
theorem c_Mod_isEnd (l : Launch) (K : KT) (ad : Nat → Nat) (mthr : Int32) (mnow : Nat → Int32) (mold : Nat → Int32) (mols : Int32) (msav : Nat → Int32) (miss : Bool) (minp : Nat → Int32) (mlen : Int32) (mat : Int32) (medg : Nat → Int32) (mcor : Nat → Int32) (mtri : Int32) (mkep : Nat → Int32) (mkee : Nat → Int32) (mwor : Nat → Int32) (mnum : Nat → Int32) (mmet : Nat → Int32) (a0 : Int32) (F : Nat) {o : Bool} (h : s_Mod_isEnd F mnow a0 = some o) : Rd l K 1 yX7_isEnd cX7_isEnd 3 .boolean [.ref (ad 0), .int a0] (wMod K ad mthr mnow mold mols msav miss minp mlen mat medg mcor mtri mkep mkee mwor mnum mmet) (bI o) := by
  refine Rd.of (by decide +kernel) (Nat.le_of_ble_eq_true rfl) ?_
  unfold s_Mod_isEnd at h
  intro p e s m below meth c hx hb hr hml hown hts hlk hP hG ls hl
  have C0 : Ctx p m c cX7_isEnd 3 s (Array.mk [.ref (ad 0), .int a0]) RX7 K meth (some .boolean) := ⟨hx, hb, hml, hown, hts, hG, hr, hlk⟩
  have hl : lv_has ls 3 [(0, .ref (ad 0)), (1, .int a0)] := hl
  refine lv_iconst (v := (0 : Int32)) (pc := 0) hx hb dX7_isEnd_0 (by decide) ?_
  refine lv_istore_n (pc := 1) (lv' := [(2, .int (0 : Int32)), (0, .ref (ad 0)), (1, .int a0)]) hx hb dX7_isEnd_1 rfl hl (by decide) rfl (fun ls hl => ?_)
  obtain ⟨o7, h_o7, h⟩ := ob h
  refine l_Mod_isEnd_L2 C0 F ad mthr mnow mold mols msav miss minp mlen mat medg mcor mtri mkep mkee mwor mnum mmet a0 hP F (0 : Int32) _ h_o7 ls (lv_sub hl [1, 2, 0] rfl) (fun o7x ls eo hl => ?_) (fun q_o pcR ls eo hdR => ?_)
  · subst o7
    have h := se_r h
    refine lv_iconst (v := (0 : Int32)) (pc := 38) hx hb dX7_isEnd_38 (by decide) ?_
    obtain rfl := Option.some.inj h
    exact W.zret hx hb hr (rfl) (fun t ht hW => ⟨rfl, ht⟩) (fun q hq => absurd hq List.not_mem_nil) dX7_isEnd_39 hlk
  · subst o7
    have h := se_l h
    obtain rfl := Option.some.inj h
    exact W.zret hx hb hr (bI_nar _) (fun t ht hW => ⟨rfl, ht⟩) (fun q hq => absurd hq List.not_mem_nil) hdR hlk
set_option maxHeartbeats 4000000 in
set_option maxRecDepth 100000 in
theorem c_Mod_whyNot (l : Launch) (K : KT) (ad : Nat → Nat) (mthr : Int32) (mnow : Nat → Int32) (mold : Nat → Int32) (mols : Int32) (msav : Nat → Int32) (miss : Bool) (minp : Nat → Int32) (mlen : Int32) (mat : Int32) (medg : Nat → Int32) (mcor : Nat → Int32) (mtri : Int32) (mkep : Nat → Int32) (mkee : Nat → Int32) (mwor : Nat → Int32) (mnum : Nat → Int32) (mmet : Nat → Int32) (a0 : Int32) (a1 : Int32) (F : Nat) {o : Int32} (h : s_Mod_whyNot F mnow a0 a1 = some o) : Rd l K 4 yX7_whyNot cX7_whyNot 3 .int [.ref (ad 0), .int a0, .int a1] (wMod K ad mthr mnow mold mols msav miss minp mlen mat medg mcor mtri mkep mkee mwor mnum mmet) o := by
  refine Rd.of (by decide +kernel) (Nat.le_of_ble_eq_true rfl) ?_
  unfold s_Mod_whyNot at h
  intro p e s m below meth c hx hb hr hml hown hts hlk hP hG ls hl
  have C0 : Ctx p m c cX7_whyNot 3 s (Array.mk [.ref (ad 0), .int a0, .int a1]) RX7 K meth (some .int) := ⟨hx, hb, hml, hown, hts, hG, hr, hlk⟩
  have hl : lv_has ls 3 [(0, .ref (ad 0)), (1, .int a0), (2, .int a1)] := hl
  refine lv_iload_n (pc := 0) hx hb dX7_whyNot_0 rfl (lv_at hl 1 rfl) ?_
  refine lv_iload_n (pc := 1) hx hb dX7_whyNot_1 rfl (lv_at hl 2 rfl) ?_
  refine rdS (pc := 2) (As := [.int a0, .int a1]) (rest := []) hx hb hml hown hts hG (c_Mod_isPlace l K a0 a1) g_Mod_153 hd_Mod_isPlace rfl ⟨Nat.le_of_ble_eq_true rfl, Nat.le_of_ble_eq_true rfl⟩ ⟨Nat.zero_le _, Nat.zero_le _⟩ hl rfl (Nat.le_of_ble_eq_true rfl) dX7_whyNot_2 ?_
  refine lv_if_ne (tgt := 10) (pc := 5) hx hb dX7_whyNot_5 (by decide) (fun c1 => ?_) (fun c1 => ?_)
  · have h := it_f c1 h
    refine lv_aload_n (pc := 10) hx hb dX7_whyNot_10 rfl (lv_at hl 0 rfl) ?_
    obtain ⟨v2, h_v2, h⟩ := ob h
    refine rdV (pc := 11) (As := []) (rest := []) hx hb hml hown hts hG hP (c_Mod_n l K ad mthr mnow mold mols msav miss minp mlen mat medg mcor mtri mkep mkee mwor mnum mmet h_v2) [0, 1, 2, 3, 4, 5, 6, 7, 8, 9, 10, 11] rfl (q0 := 0) rfl (ci := 7) rfl g_Mod_48 hd_Mod_n rfl ⟨Nat.le_of_ble_eq_true rfl, Nat.le_of_ble_eq_true rfl⟩ ⟨Nat.zero_le _, Nat.zero_le _⟩ hl rfl (Nat.le_of_ble_eq_true rfl) dX7_whyNot_11 ?_
    refine lv_bipush (v := (16 : Int32)) (pc := 14) hx hb dX7_whyNot_14 (by decide) ?_
    refine lv_icmp_ne (tgt := 21) (pc := 16) hx hb dX7_whyNot_16 (by decide) (fun c3 => ?_) (fun c3 => ?_)
    · have h := it_f c3 h
      refine lv_aload_n (pc := 21) hx hb dX7_whyNot_21 rfl (lv_at hl 0 rfl) ?_
      refine lv_iconst (v := (-1 : Int32)) (pc := 22) hx hb dX7_whyNot_22 (by decide) ?_
      refine lv_iload_n (pc := 23) hx hb dX7_whyNot_23 rfl (lv_at hl 1 rfl) ?_
      refine lv_iload_n (pc := 24) hx hb dX7_whyNot_24 rfl (lv_at hl 2 rfl) ?_
      obtain ⟨v4, h_v4, h⟩ := ob h
      refine rdV (pc := 25) (As := [.int (-1 : Int32), .int a0, .int a1]) (rest := []) hx hb hml hown hts hG hP (c_Mod_isBarred l K ad mthr mnow mold mols msav miss minp mlen mat medg mcor mtri mkep mkee mwor mnum mmet (-1 : Int32) a0 a1 F h_v4) [0, 1, 2, 3, 4, 5, 6, 7, 8, 9, 10, 11] rfl (q0 := 0) rfl (ci := 7) rfl g_Mod_156 hd_Mod_isBarred rfl ⟨Nat.le_of_ble_eq_true rfl, Nat.le_of_ble_eq_true rfl⟩ ⟨Nat.zero_le _, Nat.zero_le _⟩ hl rfl (Nat.le_of_ble_eq_true rfl) dX7_whyNot_25 ?_
      refine lv_if_eq (tgt := 35) (pc := 28) hx hb dX7_whyNot_28 (by decide) (fun c5 => ?_) (fun c5 => ?_)
      · have h := it_t c5 h
        refine lv_iconst (v := (0 : Int32)) (pc := 35) hx hb dX7_whyNot_35 (by decide) ?_
        obtain rfl := Option.some.inj h
        exact W.iret hx hb hr (fun t ht hW => ⟨rfl, ht⟩) (fun q hq => absurd hq List.not_mem_nil) dX7_whyNot_36 hlk
      · have h := it_f c5 h
        refine lv_iconst (v := (3 : Int32)) (pc := 31) hx hb dX7_whyNot_31 (by decide) ?_
        refine lv_goto (tgt := 36) (pc := 32) hx hb dX7_whyNot_32 (by decide) ?_
        obtain rfl := Option.some.inj h
        exact W.iret hx hb hr (fun t ht hW => ⟨rfl, ht⟩) (fun q hq => absurd hq List.not_mem_nil) dX7_whyNot_36 hlk
    · have h := it_t c3 h
      refine lv_iconst (v := (2 : Int32)) (pc := 19) hx hb dX7_whyNot_19 (by decide) ?_
      obtain rfl := Option.some.inj h
      exact W.iret hx hb hr (fun t ht hW => ⟨rfl, ht⟩) (fun q hq => absurd hq List.not_mem_nil) dX7_whyNot_20 hlk
  · have h := it_t c1 h
    refine lv_iconst (v := (1 : Int32)) (pc := 8) hx hb dX7_whyNot_8 (by decide) ?_
    obtain rfl := Option.some.inj h
    exact W.iret hx hb hr (fun t ht hW => ⟨rfl, ht⟩) (fun q hq => absurd hq List.not_mem_nil) dX7_whyNot_9 hlk
set_option maxHeartbeats 4000000 in
set_option maxRecDepth 100000 in
theorem c_Mod_sets (l : Launch) (K : KT) (ad : Nat → Nat) (mthr : Int32) (mnow : Nat → Int32) (mold : Nat → Int32) (mols : Int32) (msav : Nat → Int32) (miss : Bool) (minp : Nat → Int32) (mlen : Int32) (mat : Int32) (medg : Nat → Int32) (mcor : Nat → Int32) (mtri : Int32) (mkep : Nat → Int32) (mkee : Nat → Int32) (mwor : Nat → Int32) (mnum : Nat → Int32) (mmet : Nat → Int32) (a0 : Int32) (a1 : Int32) (a2 : Int32) {o : (Nat → Int32)} (h : s_Mod_sets mnow a0 a1 a2 = some o) : Wr l K 0 yX7_sets cX7_sets 4 none [.ref (ad 0), .int a0, .int a1, .int a2] (wMod K ad mthr mnow mold mols msav miss minp mlen mat medg mcor mtri mkep mkee mwor mnum mmet) none (wMod K ad mthr o mold mols msav miss minp mlen mat medg mcor mtri mkep mkee mwor mnum mmet) := by
  refine Wr.of (by decide +kernel) (Nat.le_of_ble_eq_true rfl) ?_
  unfold s_Mod_sets at h
  intro p e s m below meth c hx hb hr hml hown hts hlk H locs hP hG hD hS ls hl
  have C0 : Ctx p m c cX7_sets 4 s (Array.mk [.ref (ad 0), .int a0, .int a1, .int a2]) RX7 K meth none := ⟨hx, hb, hml, hown, hts, hG, hr, hlk⟩
  have hl : lv_has ls 4 [(0, .ref (ad 0)), (1, .int a0), (2, .int a1), (3, .int a2)] := hl
  refine lv_aload_n (pc := 0) hx hb dX7_sets_0 rfl (lv_at hl 0 rfl) ?_
  refine va_get (D := K.1) (ci := 7) (v := .ref (ad 1)) (C := RX7) (T := TX7) (N := 17) (pc := 1) hx hb hts inT7 hown hG.1 hP 0 rfl rfl 1 (by decide) (hts _ qf_Mod_9) (fun _ h9 => h9) rfl dX7_sets_1 ?_
  refine lv_iconst (v := (2 : Int32)) (pc := 4) hx hb dX7_sets_4 (by decide) ?_
  refine lv_iload_n (pc := 5) hx hb dX7_sets_5 rfl (lv_at hl 1 rfl) ?_
  refine lv_iadd (pc := 6) hx hb dX7_sets_6 ?_
  refine lv_iload_n (pc := 7) hx hb dX7_sets_7 rfl (lv_at hl 2 rfl) ?_
  obtain ⟨v1, h_v1, h⟩ := ob h
  obtain ⟨hi_v1, e_v1⟩ := aset_in h_v1
  refine va_iast (pc := 8) hx hb hG.1 hP hD hS 1 0 rfl rfl hi_v1 dX7_sets_8 (fun H locs hP hD hS => ?_)
  rw [e_v1] at hP hD
  have hP : va_P K.1 vC (wMod K ad mthr v1 mold mols msav miss minp mlen mat medg mcor mtri mkep mkee mwor mnum mmet) H := hP
  have hD : va_D _ (wMod K ad mthr v1 mold mols msav miss minp mlen mat medg mcor mtri mkep mkee mwor mnum mmet) := hD
  refine lv_aload_n (pc := 9) hx hb dX7_sets_9 rfl (lv_at hl 0 rfl) ?_
  refine va_get (D := K.1) (ci := 7) (v := .ref (ad 1)) (C := RX7) (T := TX7) (N := 17) (pc := 10) hx hb hts inT7 hown hG.1 hP 0 rfl rfl 1 (by decide) (hts _ qf_Mod_9) (fun _ h9 => h9) rfl dX7_sets_10 ?_
  refine lv_bipush (v := (19 : Int32)) (pc := 13) hx hb dX7_sets_13 (by decide) ?_
  refine lv_iload_n (pc := 15) hx hb dX7_sets_15 rfl (lv_at hl 1 rfl) ?_
  refine lv_iadd (pc := 16) hx hb dX7_sets_16 ?_
  refine lv_iload_n (pc := 17) hx hb dX7_sets_17 rfl (lv_at hl 3 rfl) ?_
  obtain ⟨v2, h_v2, h⟩ := ob h
  obtain ⟨hi_v2, e_v2⟩ := aset_in h_v2
  refine va_iast (pc := 18) hx hb hG.1 hP hD hS 1 0 rfl rfl hi_v2 dX7_sets_18 (fun H locs hP hD hS => ?_)
  rw [e_v2] at hP hD
  have hP : va_P K.1 vC (wMod K ad mthr v2 mold mols msav miss minp mlen mat medg mcor mtri mkep mkee mwor mnum mmet) H := hP
  have hD : va_D _ (wMod K ad mthr v2 mold mols msav miss minp mlen mat medg mcor mtri mkep mkee mwor mnum mmet) := hD
  obtain rfl := Option.some.inj h
  exact W.vret hx hb hr (fun t ht hW => ⟨⟨rfl, by rw [ht]; exact hP⟩, hS.F ht⟩) hS.2.2 dX7_sets_19 hlk
set_option maxHeartbeats 4000000 in
set_option maxRecDepth 100000 in
theorem c_Mod_addPoint (l : Launch) (K : KT) (ad : Nat → Nat) (mthr : Int32) (mnow : Nat → Int32) (mold : Nat → Int32) (mols : Int32) (msav : Nat → Int32) (miss : Bool) (minp : Nat → Int32) (mlen : Int32) (mat : Int32) (medg : Nat → Int32) (mcor : Nat → Int32) (mtri : Int32) (mkep : Nat → Int32) (mkee : Nat → Int32) (mwor : Nat → Int32) (mnum : Nat → Int32) (mmet : Nat → Int32) (a0 : Int32) (a1 : Int32) (F : Nat) {o : Int32 × Int32 × (Nat → Int32) × (Nat → Int32) × Int32} (h : s_Mod_addPoint F mnow mold mols a0 a1 = some o) : Wr l K 5 yX7_addPoint cX7_addPoint 3 (some .int) [.ref (ad 0), .int a0, .int a1] (wMod K ad mthr mnow mold mols msav miss minp mlen mat medg mcor mtri mkep mkee mwor mnum mmet) (some (.int o.1)) (wMod K ad o.2.1 o.2.2.1 o.2.2.2.1 o.2.2.2.2 msav miss minp mlen mat medg mcor mtri mkep mkee mwor mnum mmet) := by
  refine Wr.of (by decide +kernel) (Nat.le_of_ble_eq_true rfl) ?_
  unfold s_Mod_addPoint at h
  intro p e s m below meth c hx hb hr hml hown hts hlk H locs hP hG hD hS ls hl
  have C0 : Ctx p m c cX7_addPoint 3 s (Array.mk [.ref (ad 0), .int a0, .int a1]) RX7 K meth (some .int) := ⟨hx, hb, hml, hown, hts, hG, hr, hlk⟩
  have hl : lv_has ls 3 [(0, .ref (ad 0)), (1, .int a0), (2, .int a1)] := hl
  refine lv_aload_n (pc := 0) hx hb dX7_addPoint_0 rfl (lv_at hl 0 rfl) ?_
  refine lv_aload_n (pc := 1) hx hb dX7_addPoint_1 rfl (lv_at hl 0 rfl) ?_
  refine lv_iload_n (pc := 2) hx hb dX7_addPoint_2 rfl (lv_at hl 1 rfl) ?_
  refine lv_iload_n (pc := 3) hx hb dX7_addPoint_3 rfl (lv_at hl 2 rfl) ?_
  obtain ⟨v1, h_v1, h⟩ := ob h
  refine rdV (pc := 4) (As := [.int a0, .int a1]) (rest := [.ref (ad 0)]) hx hb hml hown hts hG hP (c_Mod_whyNot l K ad mthr mnow mold mols msav miss minp mlen mat medg mcor mtri mkep mkee mwor mnum mmet a0 a1 F h_v1) [0, 1, 2, 3, 4, 5, 6, 7, 8, 9, 10, 11] rfl (q0 := 0) rfl (ci := 7) rfl g_Mod_159 hd_Mod_whyNot rfl ⟨Nat.le_of_ble_eq_true rfl, Nat.le_of_ble_eq_true rfl⟩ ⟨Nat.zero_le _, Nat.zero_le _⟩ hl rfl (Nat.le_of_ble_eq_true rfl) dX7_addPoint_4 ?_
  refine va_put (D := K.1) (ci := 7) (v := .int v1) (ty := .int) (C := RX7) (T := TX7) (N := 17) (pc := 7) hx hb hts inT7 tyX7 tyX7_ok nmX7 hown hG.1 hP hD hS 0 rfl rfl 0 (by decide) (hts _ qf_Mod_44) (fun _ h9 => h9) rfl (by decide +kernel) rfl rfl (Nat.le_of_ble_eq_true rfl) dX7_addPoint_7 (fun H locs hP hD hS => ?_)
  have hP : va_P K.1 vC (wMod K ad v1 mnow mold mols msav miss minp mlen mat medg mcor mtri mkep mkee mwor mnum mmet) H := hP
  have hD : va_D _ (wMod K ad v1 mnow mold mols msav miss minp mlen mat medg mcor mtri mkep mkee mwor mnum mmet) := hD
  refine lv_aload_n (pc := 10) hx hb dX7_addPoint_10 rfl (lv_at hl 0 rfl) ?_
  refine va_get (D := K.1) (ci := 7) (v := .int v1) (C := RX7) (T := TX7) (N := 17) (pc := 11) hx hb hts inT7 hown hG.1 hP 0 rfl rfl 0 (by decide) (hts _ qf_Mod_44) (fun _ h9 => h9) rfl dX7_addPoint_11 ?_
  refine lv_if_le (tgt := 19) (pc := 14) hx hb dX7_addPoint_14 (by decide) (fun c2 => ?_) (fun c2 => ?_)
  · have h := it_t c2 h
    refine lv_aload_n (pc := 19) hx hb dX7_addPoint_19 rfl (lv_at hl 0 rfl) ?_
    obtain ⟨v3, h_v3, h⟩ := ob h
    refine wrVv (pc := 20) (As := []) (rest := []) (ws2 := wMod K ad v1 mnow v3.1 v3.2 msav miss minp mlen mat medg mcor mtri mkep mkee mwor mnum mmet) (as9 := [ad 0, ad 1, ad 2, ad 3, ad 4, ad 5, ad 6, ad 7, ad 8, ad 9, ad 10, ad 11]) hx hb hml hown hts hG hP hD hS (c_Mod_records l K ad v1 mnow mold mols msav miss minp mlen mat medg mcor mtri mkep mkee mwor mnum mmet F h_v3) [0, 1, 2, 3, 4, 5, 6, 7, 8, 9, 10, 11] rfl rfl rfl rfl [.inl 0, .inl 1, .inl 2, .inl 3, .inl 4, .inl 5, .inl 6, .inl 7, .inl 8, .inl 9, .inl 10, .inl 11] (by decide +kernel) rfl (q0 := 0) rfl (ci := 7) rfl g_Mod_162 hd_Mod_records rfl ⟨Nat.le_of_ble_eq_true rfl, Nat.le_of_ble_eq_true rfl⟩ ⟨Nat.zero_le _, Nat.zero_le _⟩ hl rfl (Nat.le_of_ble_eq_true rfl) dX7_addPoint_20 (fun H locs hP hD hS => ?_)
    refine lv_aload_n (pc := 23) hx hb dX7_addPoint_23 rfl (lv_at hl 0 rfl) ?_
    refine lv_aload_n (pc := 24) hx hb dX7_addPoint_24 rfl (lv_at hl 0 rfl) ?_
    obtain ⟨v4, h_v4, h⟩ := ob h
    refine rdV (pc := 25) (As := []) (rest := [.ref (ad 0)]) hx hb hml hown hts hG hP (c_Mod_n l K ad v1 mnow v3.1 v3.2 msav miss minp mlen mat medg mcor mtri mkep mkee mwor mnum mmet h_v4) [0, 1, 2, 3, 4, 5, 6, 7, 8, 9, 10, 11] rfl (q0 := 0) rfl (ci := 7) rfl g_Mod_48 hd_Mod_n rfl ⟨Nat.le_of_ble_eq_true rfl, Nat.le_of_ble_eq_true rfl⟩ ⟨Nat.zero_le _, Nat.zero_le _⟩ hl rfl (Nat.le_of_ble_eq_true rfl) dX7_addPoint_25 ?_
    refine lv_iload_n (pc := 28) hx hb dX7_addPoint_28 rfl (lv_at hl 1 rfl) ?_
    refine lv_iload_n (pc := 29) hx hb dX7_addPoint_29 rfl (lv_at hl 2 rfl) ?_
    obtain ⟨v5, h_v5, h⟩ := ob h
    refine wrVv (pc := 30) (As := [.int v4, .int a0, .int a1]) (rest := []) (ws2 := wMod K ad v1 v5 v3.1 v3.2 msav miss minp mlen mat medg mcor mtri mkep mkee mwor mnum mmet) (as9 := [ad 0, ad 1, ad 2, ad 3, ad 4, ad 5, ad 6, ad 7, ad 8, ad 9, ad 10, ad 11]) hx hb hml hown hts hG hP hD hS (c_Mod_sets l K ad v1 mnow v3.1 v3.2 msav miss minp mlen mat medg mcor mtri mkep mkee mwor mnum mmet v4 a0 a1 h_v5) [0, 1, 2, 3, 4, 5, 6, 7, 8, 9, 10, 11] rfl rfl rfl rfl [.inl 0, .inl 1, .inl 2, .inl 3, .inl 4, .inl 5, .inl 6, .inl 7, .inl 8, .inl 9, .inl 10, .inl 11] (by decide +kernel) rfl (q0 := 0) rfl (ci := 7) rfl g_Mod_165 hd_Mod_sets rfl ⟨Nat.le_of_ble_eq_true rfl, Nat.le_of_ble_eq_true rfl⟩ ⟨Nat.zero_le _, Nat.zero_le _⟩ hl rfl (Nat.le_of_ble_eq_true rfl) dX7_addPoint_30 (fun H locs hP hD hS => ?_)
    refine lv_aload_n (pc := 33) hx hb dX7_addPoint_33 rfl (lv_at hl 0 rfl) ?_
    refine va_get (D := K.1) (ci := 7) (v := .ref (ad 1)) (C := RX7) (T := TX7) (N := 17) (pc := 34) hx hb hts inT7 hown hG.1 hP 0 rfl rfl 1 (by decide) (hts _ qf_Mod_9) (fun _ h9 => h9) rfl dX7_addPoint_34 ?_
    refine lv_iconst (v := (0 : Int32)) (pc := 37) hx hb dX7_addPoint_37 (by decide) ?_
    refine lv_dup2_11 (pc := 38) hx hb dX7_addPoint_38 rfl rfl ?_
    obtain ⟨v6, h_v6, h⟩ := ob h
    obtain ⟨hi_v6, e_v6⟩ := aget_in h_v6
    refine va_iald (pc := 39) hx hb hG.1 hP 1 0 rfl rfl hi_v6 dX7_addPoint_39 ?_
    rw [e_v6]
    refine lv_dup_x2 (pc := 40) hx hb dX7_addPoint_40 rfl rfl rfl ?_
    refine lv_iconst (v := (1 : Int32)) (pc := 41) hx hb dX7_addPoint_41 (by decide) ?_
    refine lv_iadd (pc := 42) hx hb dX7_addPoint_42 ?_
    obtain ⟨v7, h_v7, h⟩ := ob h
    obtain ⟨hi_v7, e_v7⟩ := aset_in h_v7
    refine va_iast (pc := 43) hx hb hG.1 hP hD hS 1 0 rfl rfl hi_v7 dX7_addPoint_43 (fun H locs hP hD hS => ?_)
    rw [e_v7] at hP hD
    have hP : va_P K.1 vC (wMod K ad v1 v7 v3.1 v3.2 msav miss minp mlen mat medg mcor mtri mkep mkee mwor mnum mmet) H := hP
    have hD : va_D _ (wMod K ad v1 v7 v3.1 v3.2 msav miss minp mlen mat medg mcor mtri mkep mkee mwor mnum mmet) := hD
    obtain rfl := Option.some.inj h
    exact W.iret hx hb hr (fun t ht hW => ⟨⟨rfl, by rw [ht]; exact hP⟩, hS.F ht⟩) hS.2.2 dX7_addPoint_44 hlk
  · have h := it_f c2 h
    refine lv_iconst (v := (0 : Int32)) (pc := 17) hx hb dX7_addPoint_17 (by decide) ?_
    obtain rfl := Option.some.inj h
    exact W.iret hx hb hr (fun t ht hW => ⟨⟨rfl, by rw [ht]; exact hP⟩, hS.F ht⟩) hS.2.2 dX7_addPoint_18 hlk
set_option maxHeartbeats 4000000 in
set_option maxRecDepth 100000 in
theorem l_Mod_drops_L2 {p : Program} {l : Launch} {e : Env} {s : State} {m : MethodId} {args : Array Value} {below : List Frame} {meth : Method} {c : Code} {Q : State → Prop} {K : KT} {A : Nat → Prop} (C0 : Ctx p m c cX7_drops 3 s args RX7 K meth none) (F : Nat) (ad : Nat → Nat) (mthr : Int32) (mold : Nat → Int32) (mols : Int32) (msav : Nat → Int32) (miss : Bool) (minp : Nat → Int32) (mlen : Int32) (mat : Int32) (medg : Nat → Int32) (mcor : Nat → Int32) (mtri : Int32) (mkep : Nat → Int32) (mkee : Nat → Int32) (mwor : Nat → Int32) (mnum : Nat → Int32) (mmet : Nat → Int32) (x1 : Int32)  : ∀ (n : Nat) (x2 : Int32) (mnow : Nat → Int32) (out : Int32 × (Nat → Int32)), s_Mod_drops_L2  n x2 mnow = some out → ∀ (H : Heap) (locs : List Loc) (ls : Array Slot), va_P K.1 vC (wMod K ad mthr mnow mold mols msav miss minp mlen mat medg mcor mtri mkep mkee mwor mnum mmet) H → va_D A (wMod K ad mthr mnow mold mols msav miss minp mlen mat medg mcor mtri mkep mkee mwor mnum mmet) → va_S A s.heap H locs → lv_has ls 3 [(0, .ref (ad 0)), (1, .int x1), (2, .int x2)] → (∀ (o : Int32 × (Nat → Int32)) (H : Heap) (locs : List Loc) (ls : Array Slot), out = o → va_P K.1 vC (wMod K ad mthr o.2 mold mols msav miss minp mlen mat medg mcor mtri mkep mkee mwor mnum mmet) H → va_D A (wMod K ad mthr o.2 mold mols msav miss minp mlen mat medg mcor mtri mkep mkee mwor mnum mmet) → va_S A s.heap H locs → lv_has ls 3 [(0, .ref (ad 0)), (1, .int x1), (2, .int o.1)] → W p l e (rmL 1) s m args below meth c H locs 0 0 Q (F0 m 37 ls [])) → W p l e (rmL 1) s m args below meth c H locs 0 0 Q (F0 m 2 ls []) := by
  obtain ⟨hx, hb, hml, hown, hts, hG, hr, hlk⟩ := id C0
  intro n
  induction n with
  | zero =>
    intro x2 mnow out h
    cases h
  | succ n ih =>
    intro x2 mnow out h H locs ls hP hD hS hl Kx 
    rw [s_Mod_drops_L2.eq_2] at h
    refine lv_iload_n (pc := 2) hx hb dX7_drops_2 rfl (lv_at hl 2 rfl) ?_
    refine lv_iconst (v := (1 : Int32)) (pc := 3) hx hb dX7_drops_3 (by decide) ?_
    refine lv_iadd (pc := 4) hx hb dX7_drops_4 ?_
    refine lv_aload_n (pc := 5) hx hb dX7_drops_5 rfl (lv_at hl 0 rfl) ?_
    obtain ⟨v1, h_v1, h⟩ := ob h
    refine rdV (pc := 6) (As := []) (rest := [.int (x2 + (1 : Int32))]) hx hb hml hown hts hG hP (c_Mod_n l K ad mthr mnow mold mols msav miss minp mlen mat medg mcor mtri mkep mkee mwor mnum mmet h_v1) [0, 1, 2, 3, 4, 5, 6, 7, 8, 9, 10, 11] rfl (q0 := 0) rfl (ci := 7) rfl g_Mod_48 hd_Mod_n rfl ⟨Nat.le_of_ble_eq_true rfl, Nat.le_of_ble_eq_true rfl⟩ ⟨Nat.zero_le _, Nat.zero_le _⟩ hl rfl (Nat.le_of_ble_eq_true rfl) dX7_drops_6 ?_
    refine lv_icmp_ge (tgt := 37) (pc := 9) hx hb dX7_drops_9 (by decide) (fun c2 => ?_) (fun c2 => ?_)
    · have h := it_t c2 h
      obtain rfl := Option.some.inj h
      exact Kx _ H locs ls rfl hP hD hS (lv_sub hl [0, 1, 2] rfl)
    · have h := it_f c2 h
      refine lv_aload_n (pc := 12) hx hb dX7_drops_12 rfl (lv_at hl 0 rfl) ?_
      refine lv_iload_n (pc := 13) hx hb dX7_drops_13 rfl (lv_at hl 2 rfl) ?_
      refine lv_aload_n (pc := 14) hx hb dX7_drops_14 rfl (lv_at hl 0 rfl) ?_
      refine lv_iload_n (pc := 15) hx hb dX7_drops_15 rfl (lv_at hl 2 rfl) ?_
      refine lv_iconst (v := (1 : Int32)) (pc := 16) hx hb dX7_drops_16 (by decide) ?_
      refine lv_iadd (pc := 17) hx hb dX7_drops_17 ?_
      obtain ⟨v3, h_v3, h⟩ := ob h
      refine rdV (pc := 18) (As := [.int (x2 + (1 : Int32))]) (rest := [.int x2, .ref (ad 0)]) hx hb hml hown hts hG hP (c_Mod_x l K ad mthr mnow mold mols msav miss minp mlen mat medg mcor mtri mkep mkee mwor mnum mmet (x2 + (1 : Int32)) h_v3) [0, 1, 2, 3, 4, 5, 6, 7, 8, 9, 10, 11] rfl (q0 := 0) rfl (ci := 7) rfl g_Mod_65 hd_Mod_x rfl ⟨Nat.le_of_ble_eq_true rfl, Nat.le_of_ble_eq_true rfl⟩ ⟨Nat.zero_le _, Nat.zero_le _⟩ hl rfl (Nat.le_of_ble_eq_true rfl) dX7_drops_18 ?_
      refine lv_aload_n (pc := 21) hx hb dX7_drops_21 rfl (lv_at hl 0 rfl) ?_
      refine lv_iload_n (pc := 22) hx hb dX7_drops_22 rfl (lv_at hl 2 rfl) ?_
      refine lv_iconst (v := (1 : Int32)) (pc := 23) hx hb dX7_drops_23 (by decide) ?_
      refine lv_iadd (pc := 24) hx hb dX7_drops_24 ?_
      obtain ⟨v4, h_v4, h⟩ := ob h
      refine rdV (pc := 25) (As := [.int (x2 + (1 : Int32))]) (rest := [.int v3, .int x2, .ref (ad 0)]) hx hb hml hown hts hG hP (c_Mod_y l K ad mthr mnow mold mols msav miss minp mlen mat medg mcor mtri mkep mkee mwor mnum mmet (x2 + (1 : Int32)) h_v4) [0, 1, 2, 3, 4, 5, 6, 7, 8, 9, 10, 11] rfl (q0 := 0) rfl (ci := 7) rfl g_Mod_68 hd_Mod_y rfl ⟨Nat.le_of_ble_eq_true rfl, Nat.le_of_ble_eq_true rfl⟩ ⟨Nat.zero_le _, Nat.zero_le _⟩ hl rfl (Nat.le_of_ble_eq_true rfl) dX7_drops_25 ?_
      obtain ⟨v5, h_v5, h⟩ := ob h
      refine wrVv (pc := 28) (As := [.int x2, .int v3, .int v4]) (rest := []) (ws2 := wMod K ad mthr v5 mold mols msav miss minp mlen mat medg mcor mtri mkep mkee mwor mnum mmet) (as9 := [ad 0, ad 1, ad 2, ad 3, ad 4, ad 5, ad 6, ad 7, ad 8, ad 9, ad 10, ad 11]) hx hb hml hown hts hG hP hD hS (c_Mod_sets l K ad mthr mnow mold mols msav miss minp mlen mat medg mcor mtri mkep mkee mwor mnum mmet x2 v3 v4 h_v5) [0, 1, 2, 3, 4, 5, 6, 7, 8, 9, 10, 11] rfl rfl rfl rfl [.inl 0, .inl 1, .inl 2, .inl 3, .inl 4, .inl 5, .inl 6, .inl 7, .inl 8, .inl 9, .inl 10, .inl 11] (by decide +kernel) rfl (q0 := 0) rfl (ci := 7) rfl g_Mod_165 hd_Mod_sets rfl ⟨Nat.le_of_ble_eq_true rfl, Nat.le_of_ble_eq_true rfl⟩ ⟨Nat.zero_le _, Nat.zero_le _⟩ hl rfl (Nat.le_of_ble_eq_true rfl) dX7_drops_28 (fun H locs hP hD hS => ?_)
      refine lv_iinc (v := (x2 + (1 : Int32))) (pc := 31) (lv' := [(2, .int (x2 + (1 : Int32))), (0, .ref (ad 0)), (1, .int x1)]) hx hb dX7_drops_31 hl (k := 2) rfl rfl (by decide) rfl (fun ls hl => ?_)
      refine lv_goto (tgt := 2) (pc := 34) hx hb dX7_drops_34 (by decide) ?_
      exact ih (x2 + (1 : Int32)) v5 out h H locs ls hP hD hS (lv_sub hl [1, 2, 0] rfl) Kx 
set_option maxHeartbeats 4000000 in
set_option maxRecDepth 100000 in
theorem l_Mod_drops_L49 {p : Program} {l : Launch} {e : Env} {s : State} {m : MethodId} {args : Array Value} {below : List Frame} {meth : Method} {c : Code} {Q : State → Prop} {K : KT} {A : Nat → Prop} (C0 : Ctx p m c cX7_drops 3 s args RX7 K meth none) (F : Nat) (ad : Nat → Nat) (mthr : Int32) (mold : Nat → Int32) (mols : Int32) (msav : Nat → Int32) (miss : Bool) (minp : Nat → Int32) (mlen : Int32) (mat : Int32) (medg : Nat → Int32) (mcor : Nat → Int32) (mtri : Int32) (mkep : Nat → Int32) (mkee : Nat → Int32) (mwor : Nat → Int32) (mnum : Nat → Int32) (mmet : Nat → Int32) (x1 : Int32)  : ∀ (n : Nat) (x2 : Int32) (mnow : Nat → Int32) (out : Int32 × (Nat → Int32)), s_Mod_drops_L49 x1 n x2 mnow = some out → ∀ (H : Heap) (locs : List Loc) (ls : Array Slot), va_P K.1 vC (wMod K ad mthr mnow mold mols msav miss minp mlen mat medg mcor mtri mkep mkee mwor mnum mmet) H → va_D A (wMod K ad mthr mnow mold mols msav miss minp mlen mat medg mcor mtri mkep mkee mwor mnum mmet) → va_S A s.heap H locs → lv_has ls 3 [(0, .ref (ad 0)), (1, .int x1), (2, .int x2)] → (∀ (o : Int32 × (Nat → Int32)) (H : Heap) (locs : List Loc) (ls : Array Slot), out = o → va_P K.1 vC (wMod K ad mthr o.2 mold mols msav miss minp mlen mat medg mcor mtri mkep mkee mwor mnum mmet) H → va_D A (wMod K ad mthr o.2 mold mols msav miss minp mlen mat medg mcor mtri mkep mkee mwor mnum mmet) → va_S A s.heap H locs → lv_has ls 3 [(0, .ref (ad 0)), (1, .int x1), (2, .int o.1)] → W p l e (rmL 1) s m args below meth c H locs 0 0 Q (F0 m 91 ls [])) → W p l e (rmL 1) s m args below meth c H locs 0 0 Q (F0 m 49 ls []) := by
  obtain ⟨hx, hb, hml, hown, hts, hG, hr, hlk⟩ := id C0
  intro n
  induction n with
  | zero =>
    intro x2 mnow out h
    cases h
  | succ n ih =>
    intro x2 mnow out h H locs ls hP hD hS hl Kx 
    rw [s_Mod_drops_L49.eq_2] at h
    refine lv_iload_n (pc := 49) hx hb dX7_drops_49 rfl (lv_at hl 2 rfl) ?_
    refine lv_iconst (v := (2 : Int32)) (pc := 50) hx hb dX7_drops_50 (by decide) ?_
    refine lv_aload_n (pc := 51) hx hb dX7_drops_51 rfl (lv_at hl 0 rfl) ?_
    obtain ⟨v9, h_v9, h⟩ := ob h
    refine rdV (pc := 52) (As := []) (rest := [.int (2 : Int32), .int x2]) hx hb hml hown hts hG hP (c_Mod_m l K ad mthr mnow mold mols msav miss minp mlen mat medg mcor mtri mkep mkee mwor mnum mmet h_v9) [0, 1, 2, 3, 4, 5, 6, 7, 8, 9, 10, 11] rfl (q0 := 0) rfl (ci := 7) rfl g_Mod_56 hd_Mod_m rfl ⟨Nat.le_of_ble_eq_true rfl, Nat.le_of_ble_eq_true rfl⟩ ⟨Nat.zero_le _, Nat.zero_le _⟩ hl rfl (Nat.le_of_ble_eq_true rfl) dX7_drops_52 ?_
    refine lv_imul (pc := 55) hx hb dX7_drops_55 ?_
    refine lv_icmp_ge (tgt := 91) (pc := 56) hx hb dX7_drops_56 (by decide) (fun c10 => ?_) (fun c10 => ?_)
    · have h := it_t c10 h
      obtain rfl := Option.some.inj h
      exact Kx _ H locs ls rfl hP hD hS (lv_sub hl [0, 1, 2] rfl)
    · have h := it_f c10 h
      refine lv_aload_n (pc := 59) hx hb dX7_drops_59 rfl (lv_at hl 0 rfl) ?_
      refine va_get (D := K.1) (ci := 7) (v := .ref (ad 1)) (C := RX7) (T := TX7) (N := 17) (pc := 60) hx hb hts inT7 hown hG.1 hP 0 rfl rfl 1 (by decide) (hts _ qf_Mod_9) (fun _ h9 => h9) rfl dX7_drops_60 ?_
      refine lv_bipush (v := (36 : Int32)) (pc := 63) hx hb dX7_drops_63 (by decide) ?_
      refine lv_iload_n (pc := 65) hx hb dX7_drops_65 rfl (lv_at hl 2 rfl) ?_
      refine lv_iadd (pc := 66) hx hb dX7_drops_66 ?_
      obtain ⟨v11, h_v11, h⟩ := ob h
      obtain ⟨hi_v11, e_v11⟩ := aget_in h_v11
      refine va_iald (pc := 67) hx hb hG.1 hP 1 0 rfl rfl hi_v11 dX7_drops_67 ?_
      rw [e_v11]
      refine lv_iload_n (pc := 68) hx hb dX7_drops_68 rfl (lv_at hl 1 rfl) ?_
      refine lv_icmp_le (tgt := 85) (pc := 69) hx hb dX7_drops_69 (by decide) (fun c12 => ?_) (fun c12 => ?_)
      · have h := it_t c12 h
        refine lv_iinc (v := (x2 + (1 : Int32))) (pc := 85) (lv' := [(2, .int (x2 + (1 : Int32))), (0, .ref (ad 0)), (1, .int x1)]) hx hb dX7_drops_85 hl (k := 2) rfl rfl (by decide) rfl (fun ls hl => ?_)
        refine lv_goto (tgt := 49) (pc := 88) hx hb dX7_drops_88 (by decide) ?_
        exact ih (x2 + (1 : Int32)) mnow out h H locs ls hP hD hS (lv_sub hl [1, 2, 0] rfl) Kx 
      · have h := it_f c12 h
        refine lv_aload_n (pc := 72) hx hb dX7_drops_72 rfl (lv_at hl 0 rfl) ?_
        refine va_get (D := K.1) (ci := 7) (v := .ref (ad 1)) (C := RX7) (T := TX7) (N := 17) (pc := 73) hx hb hts inT7 hown hG.1 hP 0 rfl rfl 1 (by decide) (hts _ qf_Mod_9) (fun _ h9 => h9) rfl dX7_drops_73 ?_
        refine lv_bipush (v := (36 : Int32)) (pc := 76) hx hb dX7_drops_76 (by decide) ?_
        refine lv_iload_n (pc := 78) hx hb dX7_drops_78 rfl (lv_at hl 2 rfl) ?_
        refine lv_iadd (pc := 79) hx hb dX7_drops_79 ?_
        refine lv_dup2_11 (pc := 80) hx hb dX7_drops_80 rfl rfl ?_
        obtain ⟨v13, h_v13, h⟩ := ob h
        obtain ⟨hi_v13, e_v13⟩ := aget_in h_v13
        refine va_iald (pc := 81) hx hb hG.1 hP 1 0 rfl rfl hi_v13 dX7_drops_81 ?_
        rw [e_v13]
        refine lv_iconst (v := (1 : Int32)) (pc := 82) hx hb dX7_drops_82 (by decide) ?_
        refine lv_isub (pc := 83) hx hb dX7_drops_83 ?_
        obtain ⟨v14, h_v14, h⟩ := ob h
        obtain ⟨hi_v14, e_v14⟩ := aset_in h_v14
        refine va_iast (pc := 84) hx hb hG.1 hP hD hS 1 0 rfl rfl hi_v14 dX7_drops_84 (fun H locs hP hD hS => ?_)
        rw [e_v14] at hP hD
        have hP : va_P K.1 vC (wMod K ad mthr v14 mold mols msav miss minp mlen mat medg mcor mtri mkep mkee mwor mnum mmet) H := hP
        have hD : va_D _ (wMod K ad mthr v14 mold mols msav miss minp mlen mat medg mcor mtri mkep mkee mwor mnum mmet) := hD
        refine lv_iinc (v := (x2 + (1 : Int32))) (pc := 85) (lv' := [(2, .int (x2 + (1 : Int32))), (0, .ref (ad 0)), (1, .int x1)]) hx hb dX7_drops_85 hl (k := 2) rfl rfl (by decide) rfl (fun ls hl => ?_)
        refine lv_goto (tgt := 49) (pc := 88) hx hb dX7_drops_88 (by decide) ?_
        exact ih (x2 + (1 : Int32)) v14 out h H locs ls hP hD hS (lv_sub hl [1, 2, 0] rfl) Kx 
set_option maxHeartbeats 4000000 in
set_option maxRecDepth 100000 in
theorem c_Mod_drops (l : Launch) (K : KT) (ad : Nat → Nat) (mthr : Int32) (mnow : Nat → Int32) (mold : Nat → Int32) (mols : Int32) (msav : Nat → Int32) (miss : Bool) (minp : Nat → Int32) (mlen : Int32) (mat : Int32) (medg : Nat → Int32) (mcor : Nat → Int32) (mtri : Int32) (mkep : Nat → Int32) (mkee : Nat → Int32) (mwor : Nat → Int32) (mnum : Nat → Int32) (mmet : Nat → Int32) (a0 : Int32) (F : Nat) {o : (Nat → Int32)} (h : s_Mod_drops F mnow a0 = some o) : Wr l K 1 yX7_drops cX7_drops 3 none [.ref (ad 0), .int a0] (wMod K ad mthr mnow mold mols msav miss minp mlen mat medg mcor mtri mkep mkee mwor mnum mmet) none (wMod K ad mthr o mold mols msav miss minp mlen mat medg mcor mtri mkep mkee mwor mnum mmet) := by
  refine Wr.of (by decide +kernel) (Nat.le_of_ble_eq_true rfl) ?_
  unfold s_Mod_drops at h
  intro p e s m below meth c hx hb hr hml hown hts hlk H locs hP hG hD hS ls hl
  have C0 : Ctx p m c cX7_drops 3 s (Array.mk [.ref (ad 0), .int a0]) RX7 K meth none := ⟨hx, hb, hml, hown, hts, hG, hr, hlk⟩
  have hl : lv_has ls 3 [(0, .ref (ad 0)), (1, .int a0)] := hl
  refine lv_iload_n (pc := 0) hx hb dX7_drops_0 rfl (lv_at hl 1 rfl) ?_
  refine lv_istore_n (pc := 1) (lv' := [(2, .int a0), (0, .ref (ad 0)), (1, .int a0)]) hx hb dX7_drops_1 rfl hl (by decide) rfl (fun ls hl => ?_)
  obtain ⟨o6, h_o6, h⟩ := ob h
  refine l_Mod_drops_L2 C0 F ad mthr mold mols msav miss minp mlen mat medg mcor mtri mkep mkee mwor mnum mmet a0 F a0 mnow _ h_o6 H locs ls hP hD hS (lv_sub hl [1, 2, 0] rfl) (fun o6x H locs ls eo hP hD hS hl => ?_)
  subst o6
  refine lv_aload_n (pc := 37) hx hb dX7_drops_37 rfl (lv_at hl 0 rfl) ?_
  refine va_get (D := K.1) (ci := 7) (v := .ref (ad 1)) (C := RX7) (T := TX7) (N := 17) (pc := 38) hx hb hts inT7 hown hG.1 hP 0 rfl rfl 1 (by decide) (hts _ qf_Mod_9) (fun _ h9 => h9) rfl dX7_drops_38 ?_
  refine lv_iconst (v := (0 : Int32)) (pc := 41) hx hb dX7_drops_41 (by decide) ?_
  refine lv_dup2_11 (pc := 42) hx hb dX7_drops_42 rfl rfl ?_
  obtain ⟨v7, h_v7, h⟩ := ob h
  obtain ⟨hi_v7, e_v7⟩ := aget_in h_v7
  refine va_iald (pc := 43) hx hb hG.1 hP 1 0 rfl rfl hi_v7 dX7_drops_43 ?_
  rw [e_v7]
  refine lv_iconst (v := (1 : Int32)) (pc := 44) hx hb dX7_drops_44 (by decide) ?_
  refine lv_isub (pc := 45) hx hb dX7_drops_45 ?_
  obtain ⟨v8, h_v8, h⟩ := ob h
  obtain ⟨hi_v8, e_v8⟩ := aset_in h_v8
  refine va_iast (pc := 46) hx hb hG.1 hP hD hS 1 0 rfl rfl hi_v8 dX7_drops_46 (fun H locs hP hD hS => ?_)
  rw [e_v8] at hP hD
  have hP : va_P K.1 vC (wMod K ad mthr v8 mold mols msav miss minp mlen mat medg mcor mtri mkep mkee mwor mnum mmet) H := hP
  have hD : va_D _ (wMod K ad mthr v8 mold mols msav miss minp mlen mat medg mcor mtri mkep mkee mwor mnum mmet) := hD
  refine lv_iconst (v := (0 : Int32)) (pc := 47) hx hb dX7_drops_47 (by decide) ?_
  refine lv_istore_n (pc := 48) (lv' := [(2, .int (0 : Int32)), (0, .ref (ad 0)), (1, .int a0)]) hx hb dX7_drops_48 rfl hl (by decide) rfl (fun ls hl => ?_)
  obtain ⟨o15, h_o15, h⟩ := ob h
  refine l_Mod_drops_L49 C0 F ad mthr mold mols msav miss minp mlen mat medg mcor mtri mkep mkee mwor mnum mmet a0 F (0 : Int32) v8 _ h_o15 H locs ls hP hD hS (lv_sub hl [1, 2, 0] rfl) (fun o15x H locs ls eo hP hD hS hl => ?_)
  subst o15
  obtain rfl := Option.some.inj h
  exact W.vret hx hb hr (fun t ht hW => ⟨⟨rfl, by rw [ht]; exact hP⟩, hS.F ht⟩) hS.2.2 dX7_drops_91 hlk
set_option maxHeartbeats 4000000 in
set_option maxRecDepth 100000 in
theorem c_Mod_removePoint (l : Launch) (K : KT) (ad : Nat → Nat) (mthr : Int32) (mnow : Nat → Int32) (mold : Nat → Int32) (mols : Int32) (msav : Nat → Int32) (miss : Bool) (minp : Nat → Int32) (mlen : Int32) (mat : Int32) (medg : Nat → Int32) (mcor : Nat → Int32) (mtri : Int32) (mkep : Nat → Int32) (mkee : Nat → Int32) (mwor : Nat → Int32) (mnum : Nat → Int32) (mmet : Nat → Int32) (a0 : Int32) (F : Nat) {o : Int32 × Int32 × (Nat → Int32) × (Nat → Int32) × Int32} (h : s_Mod_removePoint F mnow mold mols a0 = some o) : Wr l K 2 yX7_removePoint cX7_removePoint 2 (some .int) [.ref (ad 0), .int a0] (wMod K ad mthr mnow mold mols msav miss minp mlen mat medg mcor mtri mkep mkee mwor mnum mmet) (some (.int o.1)) (wMod K ad o.2.1 o.2.2.1 o.2.2.2.1 o.2.2.2.2 msav miss minp mlen mat medg mcor mtri mkep mkee mwor mnum mmet) := by
  refine Wr.of (by decide +kernel) (Nat.le_of_ble_eq_true rfl) ?_
  unfold s_Mod_removePoint at h
  intro p e s m below meth c hx hb hr hml hown hts hlk H locs hP hG hD hS ls hl
  have C0 : Ctx p m c cX7_removePoint 2 s (Array.mk [.ref (ad 0), .int a0]) RX7 K meth (some .int) := ⟨hx, hb, hml, hown, hts, hG, hr, hlk⟩
  have hl : lv_has ls 2 [(0, .ref (ad 0)), (1, .int a0)] := hl
  refine lv_aload_n (pc := 0) hx hb dX7_removePoint_0 rfl (lv_at hl 0 rfl) ?_
  refine lv_iconst (v := (0 : Int32)) (pc := 1) hx hb dX7_removePoint_1 (by decide) ?_
  refine va_put (D := K.1) (ci := 7) (v := .int (0 : Int32)) (ty := .int) (C := RX7) (T := TX7) (N := 17) (pc := 2) hx hb hts inT7 tyX7 tyX7_ok nmX7 hown hG.1 hP hD hS 0 rfl rfl 0 (by decide) (hts _ qf_Mod_44) (fun _ h9 => h9) rfl (by decide +kernel) rfl rfl (Nat.le_of_ble_eq_true rfl) dX7_removePoint_2 (fun H locs hP hD hS => ?_)
  have hP : va_P K.1 vC (wMod K ad (0 : Int32) mnow mold mols msav miss minp mlen mat medg mcor mtri mkep mkee mwor mnum mmet) H := hP
  have hD : va_D _ (wMod K ad (0 : Int32) mnow mold mols msav miss minp mlen mat medg mcor mtri mkep mkee mwor mnum mmet) := hD
  refine lv_aload_n (pc := 5) hx hb dX7_removePoint_5 rfl (lv_at hl 0 rfl) ?_
  refine lv_iload_n (pc := 6) hx hb dX7_removePoint_6 rfl (lv_at hl 1 rfl) ?_
  obtain ⟨v1, h_v1, h⟩ := ob h
  refine rdV (pc := 7) (As := [.int a0]) (rest := []) hx hb hml hown hts hG hP (c_Mod_isPoint l K ad (0 : Int32) mnow mold mols msav miss minp mlen mat medg mcor mtri mkep mkee mwor mnum mmet a0 h_v1) [0, 1, 2, 3, 4, 5, 6, 7, 8, 9, 10, 11] rfl (q0 := 0) rfl (ci := 7) rfl g_Mod_168 hd_Mod_isPoint rfl ⟨Nat.le_of_ble_eq_true rfl, Nat.le_of_ble_eq_true rfl⟩ ⟨Nat.zero_le _, Nat.zero_le _⟩ hl rfl (Nat.le_of_ble_eq_true rfl) dX7_removePoint_7 ?_
  refine lv_if_ne (tgt := 19) (pc := 10) hx hb dX7_removePoint_10 (by decide) (fun c2 => ?_) (fun c2 => ?_)
  · have h := it_f c2 h
    refine lv_aload_n (pc := 19) hx hb dX7_removePoint_19 rfl (lv_at hl 0 rfl) ?_
    refine lv_iload_n (pc := 20) hx hb dX7_removePoint_20 rfl (lv_at hl 1 rfl) ?_
    obtain ⟨v3, h_v3, h⟩ := ob h
    refine rdV (pc := 21) (As := [.int a0]) (rest := []) hx hb hml hown hts hG hP (c_Mod_isEnd l K ad (0 : Int32) mnow mold mols msav miss minp mlen mat medg mcor mtri mkep mkee mwor mnum mmet a0 F h_v3) [0, 1, 2, 3, 4, 5, 6, 7, 8, 9, 10, 11] rfl (q0 := 0) rfl (ci := 7) rfl g_Mod_175 hd_Mod_isEnd rfl ⟨Nat.le_of_ble_eq_true rfl, Nat.le_of_ble_eq_true rfl⟩ ⟨Nat.zero_le _, Nat.zero_le _⟩ hl rfl (Nat.le_of_ble_eq_true rfl) dX7_removePoint_21 ?_
    refine lv_if_eq (tgt := 33) (pc := 24) hx hb dX7_removePoint_24 (by decide) (fun c4 => ?_) (fun c4 => ?_)
    · have h := it_t c4 h
      refine lv_aload_n (pc := 33) hx hb dX7_removePoint_33 rfl (lv_at hl 0 rfl) ?_
      obtain ⟨v5, h_v5, h⟩ := ob h
      refine wrVv (pc := 34) (As := []) (rest := []) (ws2 := wMod K ad (0 : Int32) mnow v5.1 v5.2 msav miss minp mlen mat medg mcor mtri mkep mkee mwor mnum mmet) (as9 := [ad 0, ad 1, ad 2, ad 3, ad 4, ad 5, ad 6, ad 7, ad 8, ad 9, ad 10, ad 11]) hx hb hml hown hts hG hP hD hS (c_Mod_records l K ad (0 : Int32) mnow mold mols msav miss minp mlen mat medg mcor mtri mkep mkee mwor mnum mmet F h_v5) [0, 1, 2, 3, 4, 5, 6, 7, 8, 9, 10, 11] rfl rfl rfl rfl [.inl 0, .inl 1, .inl 2, .inl 3, .inl 4, .inl 5, .inl 6, .inl 7, .inl 8, .inl 9, .inl 10, .inl 11] (by decide +kernel) rfl (q0 := 0) rfl (ci := 7) rfl g_Mod_162 hd_Mod_records rfl ⟨Nat.le_of_ble_eq_true rfl, Nat.le_of_ble_eq_true rfl⟩ ⟨Nat.zero_le _, Nat.zero_le _⟩ hl rfl (Nat.le_of_ble_eq_true rfl) dX7_removePoint_34 (fun H locs hP hD hS => ?_)
      refine lv_aload_n (pc := 37) hx hb dX7_removePoint_37 rfl (lv_at hl 0 rfl) ?_
      refine lv_iload_n (pc := 38) hx hb dX7_removePoint_38 rfl (lv_at hl 1 rfl) ?_
      obtain ⟨v6, h_v6, h⟩ := ob h
      refine wrVv (pc := 39) (As := [.int a0]) (rest := []) (ws2 := wMod K ad (0 : Int32) v6 v5.1 v5.2 msav miss minp mlen mat medg mcor mtri mkep mkee mwor mnum mmet) (as9 := [ad 0, ad 1, ad 2, ad 3, ad 4, ad 5, ad 6, ad 7, ad 8, ad 9, ad 10, ad 11]) hx hb hml hown hts hG hP hD hS (c_Mod_drops l K ad (0 : Int32) mnow v5.1 v5.2 msav miss minp mlen mat medg mcor mtri mkep mkee mwor mnum mmet a0 F h_v6) [0, 1, 2, 3, 4, 5, 6, 7, 8, 9, 10, 11] rfl rfl rfl rfl [.inl 0, .inl 1, .inl 2, .inl 3, .inl 4, .inl 5, .inl 6, .inl 7, .inl 8, .inl 9, .inl 10, .inl 11] (by decide +kernel) rfl (q0 := 0) rfl (ci := 7) rfl g_Mod_178 hd_Mod_drops rfl ⟨Nat.le_of_ble_eq_true rfl, Nat.le_of_ble_eq_true rfl⟩ ⟨Nat.zero_le _, Nat.zero_le _⟩ hl rfl (Nat.le_of_ble_eq_true rfl) dX7_removePoint_39 (fun H locs hP hD hS => ?_)
      refine lv_aload_n (pc := 42) hx hb dX7_removePoint_42 rfl (lv_at hl 0 rfl) ?_
      obtain ⟨v7, h_v7, h⟩ := ob h
      refine rdV (pc := 43) (As := []) (rest := []) hx hb hml hown hts hG hP (c_Mod_n l K ad (0 : Int32) v6 v5.1 v5.2 msav miss minp mlen mat medg mcor mtri mkep mkee mwor mnum mmet h_v7) [0, 1, 2, 3, 4, 5, 6, 7, 8, 9, 10, 11] rfl (q0 := 0) rfl (ci := 7) rfl g_Mod_48 hd_Mod_n rfl ⟨Nat.le_of_ble_eq_true rfl, Nat.le_of_ble_eq_true rfl⟩ ⟨Nat.zero_le _, Nat.zero_le _⟩ hl rfl (Nat.le_of_ble_eq_true rfl) dX7_removePoint_43 ?_
      obtain rfl := Option.some.inj h
      exact W.iret hx hb hr (fun t ht hW => ⟨⟨rfl, by rw [ht]; exact hP⟩, hS.F ht⟩) hS.2.2 dX7_removePoint_46 hlk
    · have h := it_f c4 h
      refine lv_aload_n (pc := 27) hx hb dX7_removePoint_27 rfl (lv_at hl 0 rfl) ?_
      refine lv_iconst (v := (2 : Int32)) (pc := 28) hx hb dX7_removePoint_28 (by decide) ?_
      refine wrVi (pc := 29) (As := [.int (2 : Int32)]) (rest := []) (ws2 := wMod K ad ((s_Mod_raises (2 : Int32)).2) mnow mold mols msav miss minp mlen mat medg mcor mtri mkep mkee mwor mnum mmet) (as9 := [ad 0, ad 1, ad 2, ad 3, ad 4, ad 5, ad 6, ad 7, ad 8, ad 9, ad 10, ad 11]) hx hb hml hown hts hG hP hD hS (c_Mod_raises l K ad (0 : Int32) mnow mold mols msav miss minp mlen mat medg mcor mtri mkep mkee mwor mnum mmet (2 : Int32)) [0, 1, 2, 3, 4, 5, 6, 7, 8, 9, 10, 11] rfl rfl rfl rfl [.inl 0, .inl 1, .inl 2, .inl 3, .inl 4, .inl 5, .inl 6, .inl 7, .inl 8, .inl 9, .inl 10, .inl 11] (by decide +kernel) rfl (q0 := 0) rfl (ci := 7) rfl g_Mod_172 hd_Mod_raises rfl ⟨Nat.le_of_ble_eq_true rfl, Nat.le_of_ble_eq_true rfl⟩ ⟨Nat.zero_le _, Nat.zero_le _⟩ hl rfl (Nat.le_of_ble_eq_true rfl) dX7_removePoint_29 (fun H locs hP hD hS => ?_)
      obtain rfl := Option.some.inj h
      exact W.iret hx hb hr (fun t ht hW => ⟨⟨rfl, by rw [ht]; exact hP⟩, hS.F ht⟩) hS.2.2 dX7_removePoint_32 hlk
  · have h := it_t c2 h
    refine lv_aload_n (pc := 13) hx hb dX7_removePoint_13 rfl (lv_at hl 0 rfl) ?_
    refine lv_iconst (v := (1 : Int32)) (pc := 14) hx hb dX7_removePoint_14 (by decide) ?_
    refine wrVi (pc := 15) (As := [.int (1 : Int32)]) (rest := []) (ws2 := wMod K ad ((s_Mod_raises (1 : Int32)).2) mnow mold mols msav miss minp mlen mat medg mcor mtri mkep mkee mwor mnum mmet) (as9 := [ad 0, ad 1, ad 2, ad 3, ad 4, ad 5, ad 6, ad 7, ad 8, ad 9, ad 10, ad 11]) hx hb hml hown hts hG hP hD hS (c_Mod_raises l K ad (0 : Int32) mnow mold mols msav miss minp mlen mat medg mcor mtri mkep mkee mwor mnum mmet (1 : Int32)) [0, 1, 2, 3, 4, 5, 6, 7, 8, 9, 10, 11] rfl rfl rfl rfl [.inl 0, .inl 1, .inl 2, .inl 3, .inl 4, .inl 5, .inl 6, .inl 7, .inl 8, .inl 9, .inl 10, .inl 11] (by decide +kernel) rfl (q0 := 0) rfl (ci := 7) rfl g_Mod_172 hd_Mod_raises rfl ⟨Nat.le_of_ble_eq_true rfl, Nat.le_of_ble_eq_true rfl⟩ ⟨Nat.zero_le _, Nat.zero_le _⟩ hl rfl (Nat.le_of_ble_eq_true rfl) dX7_removePoint_15 (fun H locs hP hD hS => ?_)
    obtain rfl := Option.some.inj h
    exact W.iret hx hb hr (fun t ht hW => ⟨⟨rfl, by rw [ht]; exact hP⟩, hS.F ht⟩) hS.2.2 dX7_removePoint_18 hlk
