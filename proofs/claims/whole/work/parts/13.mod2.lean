set_option maxHeartbeats 4000000 in
set_option maxRecDepth 100000 in
theorem c_Mod_movePoint (l : Launch) (K : KT) (ad : Nat → Nat) (mthr : Int32) (mnow : Nat → Int32) (mold : Nat → Int32) (mols : Int32) (msav : Nat → Int32) (miss : Bool) (minp : Nat → Int32) (mlen : Int32) (mat : Int32) (medg : Nat → Int32) (mcor : Nat → Int32) (mtri : Int32) (mkep : Nat → Int32) (mkee : Nat → Int32) (mwor : Nat → Int32) (mnum : Nat → Int32) (mmet : Nat → Int32) (a0 : Int32) (a1 : Int32) (a2 : Int32) (F : Nat) {o : Bool × Int32 × (Nat → Int32) × (Nat → Int32) × Int32} (h : s_Mod_movePoint F mnow mold mols a0 a1 a2 = some o) : Wr l K 4 yX7_movePoint cX7_movePoint 5 (some .boolean) [.ref (ad 0), .int a0, .int a1, .int a2] (wMod K ad mthr mnow mold mols msav miss minp mlen mat medg mcor mtri mkep mkee mwor mnum mmet) (some (.int (bI o.1))) (wMod K ad o.2.1 o.2.2.1 o.2.2.2.1 o.2.2.2.2 msav miss minp mlen mat medg mcor mtri mkep mkee mwor mnum mmet) := by
  refine Wr.of (by decide +kernel) (Nat.le_of_ble_eq_true rfl) ?_
  unfold s_Mod_movePoint at h
  intro p e s m below meth c hx hb hr hml hown hts hlk H locs hP hG hD hS ls hl
  have C0 : Ctx p m c cX7_movePoint 5 s (Array.mk [.ref (ad 0), .int a0, .int a1, .int a2]) RX7 K meth (some .boolean) := ⟨hx, hb, hml, hown, hts, hG, hr, hlk⟩
  have hl : lv_has ls 5 [(0, .ref (ad 0)), (1, .int a0), (2, .int a1), (3, .int a2)] := hl
  refine lv_aload_n (pc := 0) hx hb dX7_movePoint_0 rfl (lv_at hl 0 rfl) ?_
  refine lv_iconst (v := (0 : Int32)) (pc := 1) hx hb dX7_movePoint_1 (by decide) ?_
  refine va_put (D := K.1) (ci := 7) (v := .int (0 : Int32)) (ty := .int) (C := RX7) (T := TX7) (N := 17) (pc := 2) hx hb hts inT7 tyX7 tyX7_ok nmX7 hown hG.1 hP hD hS 0 rfl rfl 0 (by decide) (hts _ qf_Mod_44) (fun _ h9 => h9) rfl (by decide +kernel) rfl rfl (Nat.le_of_ble_eq_true rfl) dX7_movePoint_2 (fun H locs hP hD hS => ?_)
  have hP : va_P K.1 vC (wMod K ad (0 : Int32) mnow mold mols msav miss minp mlen mat medg mcor mtri mkep mkee mwor mnum mmet) H := hP
  have hD : va_D _ (wMod K ad (0 : Int32) mnow mold mols msav miss minp mlen mat medg mcor mtri mkep mkee mwor mnum mmet) := hD
  refine lv_aload_n (pc := 5) hx hb dX7_movePoint_5 rfl (lv_at hl 0 rfl) ?_
  refine lv_iload_n (pc := 6) hx hb dX7_movePoint_6 rfl (lv_at hl 1 rfl) ?_
  obtain ⟨v1, h_v1, h⟩ := ob h
  refine rdV (pc := 7) (As := [.int a0]) (rest := []) hx hb hml hown hts hG hP (c_Mod_isPoint l K ad (0 : Int32) mnow mold mols msav miss minp mlen mat medg mcor mtri mkep mkee mwor mnum mmet a0 h_v1) [0, 1, 2, 3, 4, 5, 6, 7, 8, 9, 10, 11] rfl (q0 := 0) rfl (ci := 7) rfl g_Mod_168 hd_Mod_isPoint rfl ⟨Nat.le_of_ble_eq_true rfl, Nat.le_of_ble_eq_true rfl⟩ ⟨Nat.zero_le _, Nat.zero_le _⟩ hl rfl (Nat.le_of_ble_eq_true rfl) dX7_movePoint_7 ?_
  refine lv_if_ne (tgt := 21) (pc := 10) hx hb dX7_movePoint_10 (by decide) (fun c2 => ?_) (fun c2 => ?_)
  · have h := it_f c2 h
    refine lv_iload_n (pc := 21) hx hb dX7_movePoint_21 rfl (lv_at hl 2 rfl) ?_
    refine lv_iload_n (pc := 22) hx hb dX7_movePoint_22 rfl (lv_at hl 3 rfl) ?_
    refine rdS (pc := 23) (As := [.int a1, .int a2]) (rest := []) hx hb hml hown hts hG (c_Mod_isPlace l K a1 a2) g_Mod_153 hd_Mod_isPlace rfl ⟨Nat.le_of_ble_eq_true rfl, Nat.le_of_ble_eq_true rfl⟩ ⟨Nat.zero_le _, Nat.zero_le _⟩ hl rfl (Nat.le_of_ble_eq_true rfl) dX7_movePoint_23 ?_
    refine lv_if_ne (tgt := 37) (pc := 26) hx hb dX7_movePoint_26 (by decide) (fun c3 => ?_) (fun c3 => ?_)
    · have h := it_f c3 h
      refine lv_aload_n (pc := 37) hx hb dX7_movePoint_37 rfl (lv_at hl 0 rfl) ?_
      refine lv_iload_n (pc := 38) hx hb dX7_movePoint_38 rfl (lv_at hl 1 rfl) ?_
      obtain ⟨v4, h_v4, h⟩ := ob h
      refine rdV (pc := 39) (As := [.int a0]) (rest := []) hx hb hml hown hts hG hP (c_Mod_isEnd l K ad (0 : Int32) mnow mold mols msav miss minp mlen mat medg mcor mtri mkep mkee mwor mnum mmet a0 F h_v4) [0, 1, 2, 3, 4, 5, 6, 7, 8, 9, 10, 11] rfl (q0 := 0) rfl (ci := 7) rfl g_Mod_175 hd_Mod_isEnd rfl ⟨Nat.le_of_ble_eq_true rfl, Nat.le_of_ble_eq_true rfl⟩ ⟨Nat.zero_le _, Nat.zero_le _⟩ hl rfl (Nat.le_of_ble_eq_true rfl) dX7_movePoint_39 ?_
      refine lv_if_eq (tgt := 53) (pc := 42) hx hb dX7_movePoint_42 (by decide) (fun c5 => ?_) (fun c5 => ?_)
      · have h := it_t c5 h
        refine lv_aload_n (pc := 53) hx hb dX7_movePoint_53 rfl (lv_at hl 0 rfl) ?_
        refine lv_iload_n (pc := 54) hx hb dX7_movePoint_54 rfl (lv_at hl 1 rfl) ?_
        refine lv_iload_n (pc := 55) hx hb dX7_movePoint_55 rfl (lv_at hl 2 rfl) ?_
        refine lv_iload_n (pc := 56) hx hb dX7_movePoint_56 rfl (lv_at hl 3 rfl) ?_
        obtain ⟨v6, h_v6, h⟩ := ob h
        refine rdV (pc := 57) (As := [.int a0, .int a1, .int a2]) (rest := []) hx hb hml hown hts hG hP (c_Mod_isBarred l K ad (0 : Int32) mnow mold mols msav miss minp mlen mat medg mcor mtri mkep mkee mwor mnum mmet a0 a1 a2 F h_v6) [0, 1, 2, 3, 4, 5, 6, 7, 8, 9, 10, 11] rfl (q0 := 0) rfl (ci := 7) rfl g_Mod_156 hd_Mod_isBarred rfl ⟨Nat.le_of_ble_eq_true rfl, Nat.le_of_ble_eq_true rfl⟩ ⟨Nat.zero_le _, Nat.zero_le _⟩ hl rfl (Nat.le_of_ble_eq_true rfl) dX7_movePoint_57 ?_
        refine lv_if_eq (tgt := 68) (pc := 60) hx hb dX7_movePoint_60 (by decide) (fun c7 => ?_) (fun c7 => ?_)
        · have h := it_t c7 h
          refine lv_aload_n (pc := 68) hx hb dX7_movePoint_68 rfl (lv_at hl 0 rfl) ?_
          refine va_get (D := K.1) (ci := 7) (v := .int (0 : Int32)) (C := RX7) (T := TX7) (N := 17) (pc := 69) hx hb hts inT7 hown hG.1 hP 0 rfl rfl 0 (by decide) (hts _ qf_Mod_44) (fun _ h9 => h9) rfl dX7_movePoint_69 ?_
          refine lv_if_le (tgt := 77) (pc := 72) hx hb dX7_movePoint_72 (by decide) (fun c8 => ?_) (fun c8 => ?_)
          · have h := it_t c8 h
            refine lv_aload_n (pc := 77) hx hb dX7_movePoint_77 rfl (lv_at hl 0 rfl) ?_
            refine lv_iload_n (pc := 78) hx hb dX7_movePoint_78 rfl (lv_at hl 1 rfl) ?_
            obtain ⟨v9, h_v9, h⟩ := ob h
            refine rdV (pc := 79) (As := [.int a0]) (rest := []) hx hb hml hown hts hG hP (c_Mod_x l K ad (0 : Int32) mnow mold mols msav miss minp mlen mat medg mcor mtri mkep mkee mwor mnum mmet a0 h_v9) [0, 1, 2, 3, 4, 5, 6, 7, 8, 9, 10, 11] rfl (q0 := 0) rfl (ci := 7) rfl g_Mod_65 hd_Mod_x rfl ⟨Nat.le_of_ble_eq_true rfl, Nat.le_of_ble_eq_true rfl⟩ ⟨Nat.zero_le _, Nat.zero_le _⟩ hl rfl (Nat.le_of_ble_eq_true rfl) dX7_movePoint_79 ?_
            refine lv_iload_n (pc := 82) hx hb dX7_movePoint_82 rfl (lv_at hl 2 rfl) ?_
            refine lv_icmp_ne (tgt := 95) (pc := 83) hx hb dX7_movePoint_83 (by decide) (fun c10 => ?_) (fun c10 => ?_)
            · have h := it_f c10 h
              refine lv_iconst (v := (1 : Int32)) (pc := 95) hx hb dX7_movePoint_95 (by decide) ?_
              refine lv_goto (tgt := 100) (pc := 96) hx hb dX7_movePoint_96 (by decide) ?_
              refine lv_istore (pc := 100) (lv' := [(4, .int (1 : Int32)), (0, .ref (ad 0)), (1, .int a0), (2, .int a1), (3, .int a2)]) hx hb dX7_movePoint_100 hl (by decide) rfl (fun ls hl => ?_)
              refine lv_aload_n (pc := 102) hx hb dX7_movePoint_102 rfl (lv_at hl 1 rfl) ?_
              obtain ⟨v11, h_v11, h⟩ := ob h
              refine wrVv (pc := 103) (As := []) (rest := []) (ws2 := wMod K ad (0 : Int32) mnow v11.1 v11.2 msav miss minp mlen mat medg mcor mtri mkep mkee mwor mnum mmet) (as9 := [ad 0, ad 1, ad 2, ad 3, ad 4, ad 5, ad 6, ad 7, ad 8, ad 9, ad 10, ad 11]) hx hb hml hown hts hG hP hD hS (c_Mod_records l K ad (0 : Int32) mnow mold mols msav miss minp mlen mat medg mcor mtri mkep mkee mwor mnum mmet F h_v11) [0, 1, 2, 3, 4, 5, 6, 7, 8, 9, 10, 11] rfl rfl rfl rfl [.inl 0, .inl 1, .inl 2, .inl 3, .inl 4, .inl 5, .inl 6, .inl 7, .inl 8, .inl 9, .inl 10, .inl 11] (by decide +kernel) rfl (q0 := 0) rfl (ci := 7) rfl g_Mod_162 hd_Mod_records rfl ⟨Nat.le_of_ble_eq_true rfl, Nat.le_of_ble_eq_true rfl⟩ ⟨Nat.zero_le _, Nat.zero_le _⟩ hl rfl (Nat.le_of_ble_eq_true rfl) dX7_movePoint_103 (fun H locs hP hD hS => ?_)
              refine lv_aload_n (pc := 106) hx hb dX7_movePoint_106 rfl (lv_at hl 1 rfl) ?_
              refine lv_iload_n (pc := 107) hx hb dX7_movePoint_107 rfl (lv_at hl 2 rfl) ?_
              refine lv_iload_n (pc := 108) hx hb dX7_movePoint_108 rfl (lv_at hl 3 rfl) ?_
              refine lv_iload_n (pc := 109) hx hb dX7_movePoint_109 rfl (lv_at hl 4 rfl) ?_
              obtain ⟨v12, h_v12, h⟩ := ob h
              refine wrVv (pc := 110) (As := [.int a0, .int a1, .int a2]) (rest := []) (ws2 := wMod K ad (0 : Int32) v12 v11.1 v11.2 msav miss minp mlen mat medg mcor mtri mkep mkee mwor mnum mmet) (as9 := [ad 0, ad 1, ad 2, ad 3, ad 4, ad 5, ad 6, ad 7, ad 8, ad 9, ad 10, ad 11]) hx hb hml hown hts hG hP hD hS (c_Mod_sets l K ad (0 : Int32) mnow v11.1 v11.2 msav miss minp mlen mat medg mcor mtri mkep mkee mwor mnum mmet a0 a1 a2 h_v12) [0, 1, 2, 3, 4, 5, 6, 7, 8, 9, 10, 11] rfl rfl rfl rfl [.inl 0, .inl 1, .inl 2, .inl 3, .inl 4, .inl 5, .inl 6, .inl 7, .inl 8, .inl 9, .inl 10, .inl 11] (by decide +kernel) rfl (q0 := 0) rfl (ci := 7) rfl g_Mod_165 hd_Mod_sets rfl ⟨Nat.le_of_ble_eq_true rfl, Nat.le_of_ble_eq_true rfl⟩ ⟨Nat.zero_le _, Nat.zero_le _⟩ hl rfl (Nat.le_of_ble_eq_true rfl) dX7_movePoint_110 (fun H locs hP hD hS => ?_)
              refine lv_iload (pc := 113) hx hb dX7_movePoint_113 (lv_at hl 0 rfl) ?_
              obtain rfl := Option.some.inj h
              exact W.zret hx hb hr (rfl) (fun t ht hW => ⟨⟨rfl, by rw [ht]; exact hP⟩, hS.F ht⟩) hS.2.2 dX7_movePoint_115 hlk
            · have h := it_t c10 h
              refine lv_aload_n (pc := 86) hx hb dX7_movePoint_86 rfl (lv_at hl 0 rfl) ?_
              refine lv_iload_n (pc := 87) hx hb dX7_movePoint_87 rfl (lv_at hl 1 rfl) ?_
              obtain ⟨v13, h_v13, h⟩ := ob h
              refine rdV (pc := 88) (As := [.int a0]) (rest := []) hx hb hml hown hts hG hP (c_Mod_y l K ad (0 : Int32) mnow mold mols msav miss minp mlen mat medg mcor mtri mkep mkee mwor mnum mmet a0 h_v13) [0, 1, 2, 3, 4, 5, 6, 7, 8, 9, 10, 11] rfl (q0 := 0) rfl (ci := 7) rfl g_Mod_68 hd_Mod_y rfl ⟨Nat.le_of_ble_eq_true rfl, Nat.le_of_ble_eq_true rfl⟩ ⟨Nat.zero_le _, Nat.zero_le _⟩ hl rfl (Nat.le_of_ble_eq_true rfl) dX7_movePoint_88 ?_
              refine lv_iload_n (pc := 91) hx hb dX7_movePoint_91 rfl (lv_at hl 3 rfl) ?_
              refine lv_icmp_eq (tgt := 99) (pc := 92) hx hb dX7_movePoint_92 (by decide) (fun c14 => ?_) (fun c14 => ?_)
              · have h := it_t c14 h
                refine lv_iconst (v := (0 : Int32)) (pc := 99) hx hb dX7_movePoint_99 (by decide) ?_
                refine lv_istore (pc := 100) (lv' := [(4, .int (0 : Int32)), (0, .ref (ad 0)), (1, .int a0), (2, .int a1), (3, .int a2)]) hx hb dX7_movePoint_100 hl (by decide) rfl (fun ls hl => ?_)
                refine lv_aload_n (pc := 102) hx hb dX7_movePoint_102 rfl (lv_at hl 1 rfl) ?_
                obtain ⟨v15, h_v15, h⟩ := ob h
                refine wrVv (pc := 103) (As := []) (rest := []) (ws2 := wMod K ad (0 : Int32) mnow v15.1 v15.2 msav miss minp mlen mat medg mcor mtri mkep mkee mwor mnum mmet) (as9 := [ad 0, ad 1, ad 2, ad 3, ad 4, ad 5, ad 6, ad 7, ad 8, ad 9, ad 10, ad 11]) hx hb hml hown hts hG hP hD hS (c_Mod_records l K ad (0 : Int32) mnow mold mols msav miss minp mlen mat medg mcor mtri mkep mkee mwor mnum mmet F h_v15) [0, 1, 2, 3, 4, 5, 6, 7, 8, 9, 10, 11] rfl rfl rfl rfl [.inl 0, .inl 1, .inl 2, .inl 3, .inl 4, .inl 5, .inl 6, .inl 7, .inl 8, .inl 9, .inl 10, .inl 11] (by decide +kernel) rfl (q0 := 0) rfl (ci := 7) rfl g_Mod_162 hd_Mod_records rfl ⟨Nat.le_of_ble_eq_true rfl, Nat.le_of_ble_eq_true rfl⟩ ⟨Nat.zero_le _, Nat.zero_le _⟩ hl rfl (Nat.le_of_ble_eq_true rfl) dX7_movePoint_103 (fun H locs hP hD hS => ?_)
                refine lv_aload_n (pc := 106) hx hb dX7_movePoint_106 rfl (lv_at hl 1 rfl) ?_
                refine lv_iload_n (pc := 107) hx hb dX7_movePoint_107 rfl (lv_at hl 2 rfl) ?_
                refine lv_iload_n (pc := 108) hx hb dX7_movePoint_108 rfl (lv_at hl 3 rfl) ?_
                refine lv_iload_n (pc := 109) hx hb dX7_movePoint_109 rfl (lv_at hl 4 rfl) ?_
                obtain ⟨v16, h_v16, h⟩ := ob h
                refine wrVv (pc := 110) (As := [.int a0, .int a1, .int a2]) (rest := []) (ws2 := wMod K ad (0 : Int32) v16 v15.1 v15.2 msav miss minp mlen mat medg mcor mtri mkep mkee mwor mnum mmet) (as9 := [ad 0, ad 1, ad 2, ad 3, ad 4, ad 5, ad 6, ad 7, ad 8, ad 9, ad 10, ad 11]) hx hb hml hown hts hG hP hD hS (c_Mod_sets l K ad (0 : Int32) mnow v15.1 v15.2 msav miss minp mlen mat medg mcor mtri mkep mkee mwor mnum mmet a0 a1 a2 h_v16) [0, 1, 2, 3, 4, 5, 6, 7, 8, 9, 10, 11] rfl rfl rfl rfl [.inl 0, .inl 1, .inl 2, .inl 3, .inl 4, .inl 5, .inl 6, .inl 7, .inl 8, .inl 9, .inl 10, .inl 11] (by decide +kernel) rfl (q0 := 0) rfl (ci := 7) rfl g_Mod_165 hd_Mod_sets rfl ⟨Nat.le_of_ble_eq_true rfl, Nat.le_of_ble_eq_true rfl⟩ ⟨Nat.zero_le _, Nat.zero_le _⟩ hl rfl (Nat.le_of_ble_eq_true rfl) dX7_movePoint_110 (fun H locs hP hD hS => ?_)
                refine lv_iload (pc := 113) hx hb dX7_movePoint_113 (lv_at hl 0 rfl) ?_
                obtain rfl := Option.some.inj h
                exact W.zret hx hb hr (rfl) (fun t ht hW => ⟨⟨rfl, by rw [ht]; exact hP⟩, hS.F ht⟩) hS.2.2 dX7_movePoint_115 hlk
              · have h := it_f c14 h
                refine lv_iconst (v := (1 : Int32)) (pc := 95) hx hb dX7_movePoint_95 (by decide) ?_
                refine lv_goto (tgt := 100) (pc := 96) hx hb dX7_movePoint_96 (by decide) ?_
                refine lv_istore (pc := 100) (lv' := [(4, .int (1 : Int32)), (0, .ref (ad 0)), (1, .int a0), (2, .int a1), (3, .int a2)]) hx hb dX7_movePoint_100 hl (by decide) rfl (fun ls hl => ?_)
                refine lv_aload_n (pc := 102) hx hb dX7_movePoint_102 rfl (lv_at hl 1 rfl) ?_
                obtain ⟨v17, h_v17, h⟩ := ob h
                refine wrVv (pc := 103) (As := []) (rest := []) (ws2 := wMod K ad (0 : Int32) mnow v17.1 v17.2 msav miss minp mlen mat medg mcor mtri mkep mkee mwor mnum mmet) (as9 := [ad 0, ad 1, ad 2, ad 3, ad 4, ad 5, ad 6, ad 7, ad 8, ad 9, ad 10, ad 11]) hx hb hml hown hts hG hP hD hS (c_Mod_records l K ad (0 : Int32) mnow mold mols msav miss minp mlen mat medg mcor mtri mkep mkee mwor mnum mmet F h_v17) [0, 1, 2, 3, 4, 5, 6, 7, 8, 9, 10, 11] rfl rfl rfl rfl [.inl 0, .inl 1, .inl 2, .inl 3, .inl 4, .inl 5, .inl 6, .inl 7, .inl 8, .inl 9, .inl 10, .inl 11] (by decide +kernel) rfl (q0 := 0) rfl (ci := 7) rfl g_Mod_162 hd_Mod_records rfl ⟨Nat.le_of_ble_eq_true rfl, Nat.le_of_ble_eq_true rfl⟩ ⟨Nat.zero_le _, Nat.zero_le _⟩ hl rfl (Nat.le_of_ble_eq_true rfl) dX7_movePoint_103 (fun H locs hP hD hS => ?_)
                refine lv_aload_n (pc := 106) hx hb dX7_movePoint_106 rfl (lv_at hl 1 rfl) ?_
                refine lv_iload_n (pc := 107) hx hb dX7_movePoint_107 rfl (lv_at hl 2 rfl) ?_
                refine lv_iload_n (pc := 108) hx hb dX7_movePoint_108 rfl (lv_at hl 3 rfl) ?_
                refine lv_iload_n (pc := 109) hx hb dX7_movePoint_109 rfl (lv_at hl 4 rfl) ?_
                obtain ⟨v18, h_v18, h⟩ := ob h
                refine wrVv (pc := 110) (As := [.int a0, .int a1, .int a2]) (rest := []) (ws2 := wMod K ad (0 : Int32) v18 v17.1 v17.2 msav miss minp mlen mat medg mcor mtri mkep mkee mwor mnum mmet) (as9 := [ad 0, ad 1, ad 2, ad 3, ad 4, ad 5, ad 6, ad 7, ad 8, ad 9, ad 10, ad 11]) hx hb hml hown hts hG hP hD hS (c_Mod_sets l K ad (0 : Int32) mnow v17.1 v17.2 msav miss minp mlen mat medg mcor mtri mkep mkee mwor mnum mmet a0 a1 a2 h_v18) [0, 1, 2, 3, 4, 5, 6, 7, 8, 9, 10, 11] rfl rfl rfl rfl [.inl 0, .inl 1, .inl 2, .inl 3, .inl 4, .inl 5, .inl 6, .inl 7, .inl 8, .inl 9, .inl 10, .inl 11] (by decide +kernel) rfl (q0 := 0) rfl (ci := 7) rfl g_Mod_165 hd_Mod_sets rfl ⟨Nat.le_of_ble_eq_true rfl, Nat.le_of_ble_eq_true rfl⟩ ⟨Nat.zero_le _, Nat.zero_le _⟩ hl rfl (Nat.le_of_ble_eq_true rfl) dX7_movePoint_110 (fun H locs hP hD hS => ?_)
                refine lv_iload (pc := 113) hx hb dX7_movePoint_113 (lv_at hl 0 rfl) ?_
                obtain rfl := Option.some.inj h
                exact W.zret hx hb hr (rfl) (fun t ht hW => ⟨⟨rfl, by rw [ht]; exact hP⟩, hS.F ht⟩) hS.2.2 dX7_movePoint_115 hlk
          · have h := it_f c8 h
            refine lv_iconst (v := (0 : Int32)) (pc := 75) hx hb dX7_movePoint_75 (by decide) ?_
            obtain rfl := Option.some.inj h
            exact W.zret hx hb hr (rfl) (fun t ht hW => ⟨⟨rfl, by rw [ht]; exact hP⟩, hS.F ht⟩) hS.2.2 dX7_movePoint_76 hlk
        · have h := it_f c7 h
          refine lv_aload_n (pc := 63) hx hb dX7_movePoint_63 rfl (lv_at hl 0 rfl) ?_
          refine lv_iconst (v := (4 : Int32)) (pc := 64) hx hb dX7_movePoint_64 (by decide) ?_
          refine va_put (D := K.1) (ci := 7) (v := .int (4 : Int32)) (ty := .int) (C := RX7) (T := TX7) (N := 17) (pc := 65) hx hb hts inT7 tyX7 tyX7_ok nmX7 hown hG.1 hP hD hS 0 rfl rfl 0 (by decide) (hts _ qf_Mod_44) (fun _ h9 => h9) rfl (by decide +kernel) rfl rfl (Nat.le_of_ble_eq_true rfl) dX7_movePoint_65 (fun H locs hP hD hS => ?_)
          have hP : va_P K.1 vC (wMod K ad (4 : Int32) mnow mold mols msav miss minp mlen mat medg mcor mtri mkep mkee mwor mnum mmet) H := hP
          have hD : va_D _ (wMod K ad (4 : Int32) mnow mold mols msav miss minp mlen mat medg mcor mtri mkep mkee mwor mnum mmet) := hD
          refine lv_aload_n (pc := 68) hx hb dX7_movePoint_68 rfl (lv_at hl 0 rfl) ?_
          refine va_get (D := K.1) (ci := 7) (v := .int (4 : Int32)) (C := RX7) (T := TX7) (N := 17) (pc := 69) hx hb hts inT7 hown hG.1 hP 0 rfl rfl 0 (by decide) (hts _ qf_Mod_44) (fun _ h9 => h9) rfl dX7_movePoint_69 ?_
          refine lv_if_le (tgt := 77) (pc := 72) hx hb dX7_movePoint_72 (by decide) (fun c19 => ?_) (fun c19 => ?_)
          · have h := it_t c19 h
            refine lv_aload_n (pc := 77) hx hb dX7_movePoint_77 rfl (lv_at hl 0 rfl) ?_
            refine lv_iload_n (pc := 78) hx hb dX7_movePoint_78 rfl (lv_at hl 1 rfl) ?_
            obtain ⟨v20, h_v20, h⟩ := ob h
            refine rdV (pc := 79) (As := [.int a0]) (rest := []) hx hb hml hown hts hG hP (c_Mod_x l K ad (4 : Int32) mnow mold mols msav miss minp mlen mat medg mcor mtri mkep mkee mwor mnum mmet a0 h_v20) [0, 1, 2, 3, 4, 5, 6, 7, 8, 9, 10, 11] rfl (q0 := 0) rfl (ci := 7) rfl g_Mod_65 hd_Mod_x rfl ⟨Nat.le_of_ble_eq_true rfl, Nat.le_of_ble_eq_true rfl⟩ ⟨Nat.zero_le _, Nat.zero_le _⟩ hl rfl (Nat.le_of_ble_eq_true rfl) dX7_movePoint_79 ?_
            refine lv_iload_n (pc := 82) hx hb dX7_movePoint_82 rfl (lv_at hl 2 rfl) ?_
            refine lv_icmp_ne (tgt := 95) (pc := 83) hx hb dX7_movePoint_83 (by decide) (fun c21 => ?_) (fun c21 => ?_)
            · have h := it_f c21 h
              refine lv_iconst (v := (1 : Int32)) (pc := 95) hx hb dX7_movePoint_95 (by decide) ?_
              refine lv_goto (tgt := 100) (pc := 96) hx hb dX7_movePoint_96 (by decide) ?_
              refine lv_istore (pc := 100) (lv' := [(4, .int (1 : Int32)), (0, .ref (ad 0)), (1, .int a0), (2, .int a1), (3, .int a2)]) hx hb dX7_movePoint_100 hl (by decide) rfl (fun ls hl => ?_)
              refine lv_aload_n (pc := 102) hx hb dX7_movePoint_102 rfl (lv_at hl 1 rfl) ?_
              obtain ⟨v22, h_v22, h⟩ := ob h
              refine wrVv (pc := 103) (As := []) (rest := []) (ws2 := wMod K ad (4 : Int32) mnow v22.1 v22.2 msav miss minp mlen mat medg mcor mtri mkep mkee mwor mnum mmet) (as9 := [ad 0, ad 1, ad 2, ad 3, ad 4, ad 5, ad 6, ad 7, ad 8, ad 9, ad 10, ad 11]) hx hb hml hown hts hG hP hD hS (c_Mod_records l K ad (4 : Int32) mnow mold mols msav miss minp mlen mat medg mcor mtri mkep mkee mwor mnum mmet F h_v22) [0, 1, 2, 3, 4, 5, 6, 7, 8, 9, 10, 11] rfl rfl rfl rfl [.inl 0, .inl 1, .inl 2, .inl 3, .inl 4, .inl 5, .inl 6, .inl 7, .inl 8, .inl 9, .inl 10, .inl 11] (by decide +kernel) rfl (q0 := 0) rfl (ci := 7) rfl g_Mod_162 hd_Mod_records rfl ⟨Nat.le_of_ble_eq_true rfl, Nat.le_of_ble_eq_true rfl⟩ ⟨Nat.zero_le _, Nat.zero_le _⟩ hl rfl (Nat.le_of_ble_eq_true rfl) dX7_movePoint_103 (fun H locs hP hD hS => ?_)
              refine lv_aload_n (pc := 106) hx hb dX7_movePoint_106 rfl (lv_at hl 1 rfl) ?_
              refine lv_iload_n (pc := 107) hx hb dX7_movePoint_107 rfl (lv_at hl 2 rfl) ?_
              refine lv_iload_n (pc := 108) hx hb dX7_movePoint_108 rfl (lv_at hl 3 rfl) ?_
              refine lv_iload_n (pc := 109) hx hb dX7_movePoint_109 rfl (lv_at hl 4 rfl) ?_
              obtain ⟨v23, h_v23, h⟩ := ob h
              refine wrVv (pc := 110) (As := [.int a0, .int a1, .int a2]) (rest := []) (ws2 := wMod K ad (4 : Int32) v23 v22.1 v22.2 msav miss minp mlen mat medg mcor mtri mkep mkee mwor mnum mmet) (as9 := [ad 0, ad 1, ad 2, ad 3, ad 4, ad 5, ad 6, ad 7, ad 8, ad 9, ad 10, ad 11]) hx hb hml hown hts hG hP hD hS (c_Mod_sets l K ad (4 : Int32) mnow v22.1 v22.2 msav miss minp mlen mat medg mcor mtri mkep mkee mwor mnum mmet a0 a1 a2 h_v23) [0, 1, 2, 3, 4, 5, 6, 7, 8, 9, 10, 11] rfl rfl rfl rfl [.inl 0, .inl 1, .inl 2, .inl 3, .inl 4, .inl 5, .inl 6, .inl 7, .inl 8, .inl 9, .inl 10, .inl 11] (by decide +kernel) rfl (q0 := 0) rfl (ci := 7) rfl g_Mod_165 hd_Mod_sets rfl ⟨Nat.le_of_ble_eq_true rfl, Nat.le_of_ble_eq_true rfl⟩ ⟨Nat.zero_le _, Nat.zero_le _⟩ hl rfl (Nat.le_of_ble_eq_true rfl) dX7_movePoint_110 (fun H locs hP hD hS => ?_)
              refine lv_iload (pc := 113) hx hb dX7_movePoint_113 (lv_at hl 0 rfl) ?_
              obtain rfl := Option.some.inj h
              exact W.zret hx hb hr (rfl) (fun t ht hW => ⟨⟨rfl, by rw [ht]; exact hP⟩, hS.F ht⟩) hS.2.2 dX7_movePoint_115 hlk
            · have h := it_t c21 h
              refine lv_aload_n (pc := 86) hx hb dX7_movePoint_86 rfl (lv_at hl 0 rfl) ?_
              refine lv_iload_n (pc := 87) hx hb dX7_movePoint_87 rfl (lv_at hl 1 rfl) ?_
              obtain ⟨v24, h_v24, h⟩ := ob h
              refine rdV (pc := 88) (As := [.int a0]) (rest := []) hx hb hml hown hts hG hP (c_Mod_y l K ad (4 : Int32) mnow mold mols msav miss minp mlen mat medg mcor mtri mkep mkee mwor mnum mmet a0 h_v24) [0, 1, 2, 3, 4, 5, 6, 7, 8, 9, 10, 11] rfl (q0 := 0) rfl (ci := 7) rfl g_Mod_68 hd_Mod_y rfl ⟨Nat.le_of_ble_eq_true rfl, Nat.le_of_ble_eq_true rfl⟩ ⟨Nat.zero_le _, Nat.zero_le _⟩ hl rfl (Nat.le_of_ble_eq_true rfl) dX7_movePoint_88 ?_
              refine lv_iload_n (pc := 91) hx hb dX7_movePoint_91 rfl (lv_at hl 3 rfl) ?_
              refine lv_icmp_eq (tgt := 99) (pc := 92) hx hb dX7_movePoint_92 (by decide) (fun c25 => ?_) (fun c25 => ?_)
              · have h := it_t c25 h
                refine lv_iconst (v := (0 : Int32)) (pc := 99) hx hb dX7_movePoint_99 (by decide) ?_
                refine lv_istore (pc := 100) (lv' := [(4, .int (0 : Int32)), (0, .ref (ad 0)), (1, .int a0), (2, .int a1), (3, .int a2)]) hx hb dX7_movePoint_100 hl (by decide) rfl (fun ls hl => ?_)
                refine lv_aload_n (pc := 102) hx hb dX7_movePoint_102 rfl (lv_at hl 1 rfl) ?_
                obtain ⟨v26, h_v26, h⟩ := ob h
                refine wrVv (pc := 103) (As := []) (rest := []) (ws2 := wMod K ad (4 : Int32) mnow v26.1 v26.2 msav miss minp mlen mat medg mcor mtri mkep mkee mwor mnum mmet) (as9 := [ad 0, ad 1, ad 2, ad 3, ad 4, ad 5, ad 6, ad 7, ad 8, ad 9, ad 10, ad 11]) hx hb hml hown hts hG hP hD hS (c_Mod_records l K ad (4 : Int32) mnow mold mols msav miss minp mlen mat medg mcor mtri mkep mkee mwor mnum mmet F h_v26) [0, 1, 2, 3, 4, 5, 6, 7, 8, 9, 10, 11] rfl rfl rfl rfl [.inl 0, .inl 1, .inl 2, .inl 3, .inl 4, .inl 5, .inl 6, .inl 7, .inl 8, .inl 9, .inl 10, .inl 11] (by decide +kernel) rfl (q0 := 0) rfl (ci := 7) rfl g_Mod_162 hd_Mod_records rfl ⟨Nat.le_of_ble_eq_true rfl, Nat.le_of_ble_eq_true rfl⟩ ⟨Nat.zero_le _, Nat.zero_le _⟩ hl rfl (Nat.le_of_ble_eq_true rfl) dX7_movePoint_103 (fun H locs hP hD hS => ?_)
                refine lv_aload_n (pc := 106) hx hb dX7_movePoint_106 rfl (lv_at hl 1 rfl) ?_
                refine lv_iload_n (pc := 107) hx hb dX7_movePoint_107 rfl (lv_at hl 2 rfl) ?_
                refine lv_iload_n (pc := 108) hx hb dX7_movePoint_108 rfl (lv_at hl 3 rfl) ?_
                refine lv_iload_n (pc := 109) hx hb dX7_movePoint_109 rfl (lv_at hl 4 rfl) ?_
                obtain ⟨v27, h_v27, h⟩ := ob h
                refine wrVv (pc := 110) (As := [.int a0, .int a1, .int a2]) (rest := []) (ws2 := wMod K ad (4 : Int32) v27 v26.1 v26.2 msav miss minp mlen mat medg mcor mtri mkep mkee mwor mnum mmet) (as9 := [ad 0, ad 1, ad 2, ad 3, ad 4, ad 5, ad 6, ad 7, ad 8, ad 9, ad 10, ad 11]) hx hb hml hown hts hG hP hD hS (c_Mod_sets l K ad (4 : Int32) mnow v26.1 v26.2 msav miss minp mlen mat medg mcor mtri mkep mkee mwor mnum mmet a0 a1 a2 h_v27) [0, 1, 2, 3, 4, 5, 6, 7, 8, 9, 10, 11] rfl rfl rfl rfl [.inl 0, .inl 1, .inl 2, .inl 3, .inl 4, .inl 5, .inl 6, .inl 7, .inl 8, .inl 9, .inl 10, .inl 11] (by decide +kernel) rfl (q0 := 0) rfl (ci := 7) rfl g_Mod_165 hd_Mod_sets rfl ⟨Nat.le_of_ble_eq_true rfl, Nat.le_of_ble_eq_true rfl⟩ ⟨Nat.zero_le _, Nat.zero_le _⟩ hl rfl (Nat.le_of_ble_eq_true rfl) dX7_movePoint_110 (fun H locs hP hD hS => ?_)
                refine lv_iload (pc := 113) hx hb dX7_movePoint_113 (lv_at hl 0 rfl) ?_
                obtain rfl := Option.some.inj h
                exact W.zret hx hb hr (rfl) (fun t ht hW => ⟨⟨rfl, by rw [ht]; exact hP⟩, hS.F ht⟩) hS.2.2 dX7_movePoint_115 hlk
              · have h := it_f c25 h
                refine lv_iconst (v := (1 : Int32)) (pc := 95) hx hb dX7_movePoint_95 (by decide) ?_
                refine lv_goto (tgt := 100) (pc := 96) hx hb dX7_movePoint_96 (by decide) ?_
                refine lv_istore (pc := 100) (lv' := [(4, .int (1 : Int32)), (0, .ref (ad 0)), (1, .int a0), (2, .int a1), (3, .int a2)]) hx hb dX7_movePoint_100 hl (by decide) rfl (fun ls hl => ?_)
                refine lv_aload_n (pc := 102) hx hb dX7_movePoint_102 rfl (lv_at hl 1 rfl) ?_
                obtain ⟨v28, h_v28, h⟩ := ob h
                refine wrVv (pc := 103) (As := []) (rest := []) (ws2 := wMod K ad (4 : Int32) mnow v28.1 v28.2 msav miss minp mlen mat medg mcor mtri mkep mkee mwor mnum mmet) (as9 := [ad 0, ad 1, ad 2, ad 3, ad 4, ad 5, ad 6, ad 7, ad 8, ad 9, ad 10, ad 11]) hx hb hml hown hts hG hP hD hS (c_Mod_records l K ad (4 : Int32) mnow mold mols msav miss minp mlen mat medg mcor mtri mkep mkee mwor mnum mmet F h_v28) [0, 1, 2, 3, 4, 5, 6, 7, 8, 9, 10, 11] rfl rfl rfl rfl [.inl 0, .inl 1, .inl 2, .inl 3, .inl 4, .inl 5, .inl 6, .inl 7, .inl 8, .inl 9, .inl 10, .inl 11] (by decide +kernel) rfl (q0 := 0) rfl (ci := 7) rfl g_Mod_162 hd_Mod_records rfl ⟨Nat.le_of_ble_eq_true rfl, Nat.le_of_ble_eq_true rfl⟩ ⟨Nat.zero_le _, Nat.zero_le _⟩ hl rfl (Nat.le_of_ble_eq_true rfl) dX7_movePoint_103 (fun H locs hP hD hS => ?_)
                refine lv_aload_n (pc := 106) hx hb dX7_movePoint_106 rfl (lv_at hl 1 rfl) ?_
                refine lv_iload_n (pc := 107) hx hb dX7_movePoint_107 rfl (lv_at hl 2 rfl) ?_
                refine lv_iload_n (pc := 108) hx hb dX7_movePoint_108 rfl (lv_at hl 3 rfl) ?_
                refine lv_iload_n (pc := 109) hx hb dX7_movePoint_109 rfl (lv_at hl 4 rfl) ?_
                obtain ⟨v29, h_v29, h⟩ := ob h
                refine wrVv (pc := 110) (As := [.int a0, .int a1, .int a2]) (rest := []) (ws2 := wMod K ad (4 : Int32) v29 v28.1 v28.2 msav miss minp mlen mat medg mcor mtri mkep mkee mwor mnum mmet) (as9 := [ad 0, ad 1, ad 2, ad 3, ad 4, ad 5, ad 6, ad 7, ad 8, ad 9, ad 10, ad 11]) hx hb hml hown hts hG hP hD hS (c_Mod_sets l K ad (4 : Int32) mnow v28.1 v28.2 msav miss minp mlen mat medg mcor mtri mkep mkee mwor mnum mmet a0 a1 a2 h_v29) [0, 1, 2, 3, 4, 5, 6, 7, 8, 9, 10, 11] rfl rfl rfl rfl [.inl 0, .inl 1, .inl 2, .inl 3, .inl 4, .inl 5, .inl 6, .inl 7, .inl 8, .inl 9, .inl 10, .inl 11] (by decide +kernel) rfl (q0 := 0) rfl (ci := 7) rfl g_Mod_165 hd_Mod_sets rfl ⟨Nat.le_of_ble_eq_true rfl, Nat.le_of_ble_eq_true rfl⟩ ⟨Nat.zero_le _, Nat.zero_le _⟩ hl rfl (Nat.le_of_ble_eq_true rfl) dX7_movePoint_110 (fun H locs hP hD hS => ?_)
                refine lv_iload (pc := 113) hx hb dX7_movePoint_113 (lv_at hl 0 rfl) ?_
                obtain rfl := Option.some.inj h
                exact W.zret hx hb hr (rfl) (fun t ht hW => ⟨⟨rfl, by rw [ht]; exact hP⟩, hS.F ht⟩) hS.2.2 dX7_movePoint_115 hlk
          · have h := it_f c19 h
            refine lv_iconst (v := (0 : Int32)) (pc := 75) hx hb dX7_movePoint_75 (by decide) ?_
            obtain rfl := Option.some.inj h
            exact W.zret hx hb hr (rfl) (fun t ht hW => ⟨⟨rfl, by rw [ht]; exact hP⟩, hS.F ht⟩) hS.2.2 dX7_movePoint_76 hlk
      · have h := it_f c5 h
        refine lv_aload_n (pc := 45) hx hb dX7_movePoint_45 rfl (lv_at hl 0 rfl) ?_
        refine lv_iconst (v := (3 : Int32)) (pc := 46) hx hb dX7_movePoint_46 (by decide) ?_
        refine va_put (D := K.1) (ci := 7) (v := .int (3 : Int32)) (ty := .int) (C := RX7) (T := TX7) (N := 17) (pc := 47) hx hb hts inT7 tyX7 tyX7_ok nmX7 hown hG.1 hP hD hS 0 rfl rfl 0 (by decide) (hts _ qf_Mod_44) (fun _ h9 => h9) rfl (by decide +kernel) rfl rfl (Nat.le_of_ble_eq_true rfl) dX7_movePoint_47 (fun H locs hP hD hS => ?_)
        have hP : va_P K.1 vC (wMod K ad (3 : Int32) mnow mold mols msav miss minp mlen mat medg mcor mtri mkep mkee mwor mnum mmet) H := hP
        have hD : va_D _ (wMod K ad (3 : Int32) mnow mold mols msav miss minp mlen mat medg mcor mtri mkep mkee mwor mnum mmet) := hD
        refine lv_goto (tgt := 68) (pc := 50) hx hb dX7_movePoint_50 (by decide) ?_
        refine lv_aload_n (pc := 68) hx hb dX7_movePoint_68 rfl (lv_at hl 0 rfl) ?_
        refine va_get (D := K.1) (ci := 7) (v := .int (3 : Int32)) (C := RX7) (T := TX7) (N := 17) (pc := 69) hx hb hts inT7 hown hG.1 hP 0 rfl rfl 0 (by decide) (hts _ qf_Mod_44) (fun _ h9 => h9) rfl dX7_movePoint_69 ?_
        refine lv_if_le (tgt := 77) (pc := 72) hx hb dX7_movePoint_72 (by decide) (fun c30 => ?_) (fun c30 => ?_)
        · have h := it_t c30 h
          refine lv_aload_n (pc := 77) hx hb dX7_movePoint_77 rfl (lv_at hl 0 rfl) ?_
          refine lv_iload_n (pc := 78) hx hb dX7_movePoint_78 rfl (lv_at hl 1 rfl) ?_
          obtain ⟨v31, h_v31, h⟩ := ob h
          refine rdV (pc := 79) (As := [.int a0]) (rest := []) hx hb hml hown hts hG hP (c_Mod_x l K ad (3 : Int32) mnow mold mols msav miss minp mlen mat medg mcor mtri mkep mkee mwor mnum mmet a0 h_v31) [0, 1, 2, 3, 4, 5, 6, 7, 8, 9, 10, 11] rfl (q0 := 0) rfl (ci := 7) rfl g_Mod_65 hd_Mod_x rfl ⟨Nat.le_of_ble_eq_true rfl, Nat.le_of_ble_eq_true rfl⟩ ⟨Nat.zero_le _, Nat.zero_le _⟩ hl rfl (Nat.le_of_ble_eq_true rfl) dX7_movePoint_79 ?_
          refine lv_iload_n (pc := 82) hx hb dX7_movePoint_82 rfl (lv_at hl 2 rfl) ?_
          refine lv_icmp_ne (tgt := 95) (pc := 83) hx hb dX7_movePoint_83 (by decide) (fun c32 => ?_) (fun c32 => ?_)
          · have h := it_f c32 h
            refine lv_iconst (v := (1 : Int32)) (pc := 95) hx hb dX7_movePoint_95 (by decide) ?_
            refine lv_goto (tgt := 100) (pc := 96) hx hb dX7_movePoint_96 (by decide) ?_
            refine lv_istore (pc := 100) (lv' := [(4, .int (1 : Int32)), (0, .ref (ad 0)), (1, .int a0), (2, .int a1), (3, .int a2)]) hx hb dX7_movePoint_100 hl (by decide) rfl (fun ls hl => ?_)
            refine lv_aload_n (pc := 102) hx hb dX7_movePoint_102 rfl (lv_at hl 1 rfl) ?_
            obtain ⟨v33, h_v33, h⟩ := ob h
            refine wrVv (pc := 103) (As := []) (rest := []) (ws2 := wMod K ad (3 : Int32) mnow v33.1 v33.2 msav miss minp mlen mat medg mcor mtri mkep mkee mwor mnum mmet) (as9 := [ad 0, ad 1, ad 2, ad 3, ad 4, ad 5, ad 6, ad 7, ad 8, ad 9, ad 10, ad 11]) hx hb hml hown hts hG hP hD hS (c_Mod_records l K ad (3 : Int32) mnow mold mols msav miss minp mlen mat medg mcor mtri mkep mkee mwor mnum mmet F h_v33) [0, 1, 2, 3, 4, 5, 6, 7, 8, 9, 10, 11] rfl rfl rfl rfl [.inl 0, .inl 1, .inl 2, .inl 3, .inl 4, .inl 5, .inl 6, .inl 7, .inl 8, .inl 9, .inl 10, .inl 11] (by decide +kernel) rfl (q0 := 0) rfl (ci := 7) rfl g_Mod_162 hd_Mod_records rfl ⟨Nat.le_of_ble_eq_true rfl, Nat.le_of_ble_eq_true rfl⟩ ⟨Nat.zero_le _, Nat.zero_le _⟩ hl rfl (Nat.le_of_ble_eq_true rfl) dX7_movePoint_103 (fun H locs hP hD hS => ?_)
            refine lv_aload_n (pc := 106) hx hb dX7_movePoint_106 rfl (lv_at hl 1 rfl) ?_
            refine lv_iload_n (pc := 107) hx hb dX7_movePoint_107 rfl (lv_at hl 2 rfl) ?_
            refine lv_iload_n (pc := 108) hx hb dX7_movePoint_108 rfl (lv_at hl 3 rfl) ?_
            refine lv_iload_n (pc := 109) hx hb dX7_movePoint_109 rfl (lv_at hl 4 rfl) ?_
            obtain ⟨v34, h_v34, h⟩ := ob h
            refine wrVv (pc := 110) (As := [.int a0, .int a1, .int a2]) (rest := []) (ws2 := wMod K ad (3 : Int32) v34 v33.1 v33.2 msav miss minp mlen mat medg mcor mtri mkep mkee mwor mnum mmet) (as9 := [ad 0, ad 1, ad 2, ad 3, ad 4, ad 5, ad 6, ad 7, ad 8, ad 9, ad 10, ad 11]) hx hb hml hown hts hG hP hD hS (c_Mod_sets l K ad (3 : Int32) mnow v33.1 v33.2 msav miss minp mlen mat medg mcor mtri mkep mkee mwor mnum mmet a0 a1 a2 h_v34) [0, 1, 2, 3, 4, 5, 6, 7, 8, 9, 10, 11] rfl rfl rfl rfl [.inl 0, .inl 1, .inl 2, .inl 3, .inl 4, .inl 5, .inl 6, .inl 7, .inl 8, .inl 9, .inl 10, .inl 11] (by decide +kernel) rfl (q0 := 0) rfl (ci := 7) rfl g_Mod_165 hd_Mod_sets rfl ⟨Nat.le_of_ble_eq_true rfl, Nat.le_of_ble_eq_true rfl⟩ ⟨Nat.zero_le _, Nat.zero_le _⟩ hl rfl (Nat.le_of_ble_eq_true rfl) dX7_movePoint_110 (fun H locs hP hD hS => ?_)
            refine lv_iload (pc := 113) hx hb dX7_movePoint_113 (lv_at hl 0 rfl) ?_
            obtain rfl := Option.some.inj h
            exact W.zret hx hb hr (rfl) (fun t ht hW => ⟨⟨rfl, by rw [ht]; exact hP⟩, hS.F ht⟩) hS.2.2 dX7_movePoint_115 hlk
          · have h := it_t c32 h
            refine lv_aload_n (pc := 86) hx hb dX7_movePoint_86 rfl (lv_at hl 0 rfl) ?_
            refine lv_iload_n (pc := 87) hx hb dX7_movePoint_87 rfl (lv_at hl 1 rfl) ?_
            obtain ⟨v35, h_v35, h⟩ := ob h
            refine rdV (pc := 88) (As := [.int a0]) (rest := []) hx hb hml hown hts hG hP (c_Mod_y l K ad (3 : Int32) mnow mold mols msav miss minp mlen mat medg mcor mtri mkep mkee mwor mnum mmet a0 h_v35) [0, 1, 2, 3, 4, 5, 6, 7, 8, 9, 10, 11] rfl (q0 := 0) rfl (ci := 7) rfl g_Mod_68 hd_Mod_y rfl ⟨Nat.le_of_ble_eq_true rfl, Nat.le_of_ble_eq_true rfl⟩ ⟨Nat.zero_le _, Nat.zero_le _⟩ hl rfl (Nat.le_of_ble_eq_true rfl) dX7_movePoint_88 ?_
            refine lv_iload_n (pc := 91) hx hb dX7_movePoint_91 rfl (lv_at hl 3 rfl) ?_
            refine lv_icmp_eq (tgt := 99) (pc := 92) hx hb dX7_movePoint_92 (by decide) (fun c36 => ?_) (fun c36 => ?_)
            · have h := it_t c36 h
              refine lv_iconst (v := (0 : Int32)) (pc := 99) hx hb dX7_movePoint_99 (by decide) ?_
              refine lv_istore (pc := 100) (lv' := [(4, .int (0 : Int32)), (0, .ref (ad 0)), (1, .int a0), (2, .int a1), (3, .int a2)]) hx hb dX7_movePoint_100 hl (by decide) rfl (fun ls hl => ?_)
              refine lv_aload_n (pc := 102) hx hb dX7_movePoint_102 rfl (lv_at hl 1 rfl) ?_
              obtain ⟨v37, h_v37, h⟩ := ob h
              refine wrVv (pc := 103) (As := []) (rest := []) (ws2 := wMod K ad (3 : Int32) mnow v37.1 v37.2 msav miss minp mlen mat medg mcor mtri mkep mkee mwor mnum mmet) (as9 := [ad 0, ad 1, ad 2, ad 3, ad 4, ad 5, ad 6, ad 7, ad 8, ad 9, ad 10, ad 11]) hx hb hml hown hts hG hP hD hS (c_Mod_records l K ad (3 : Int32) mnow mold mols msav miss minp mlen mat medg mcor mtri mkep mkee mwor mnum mmet F h_v37) [0, 1, 2, 3, 4, 5, 6, 7, 8, 9, 10, 11] rfl rfl rfl rfl [.inl 0, .inl 1, .inl 2, .inl 3, .inl 4, .inl 5, .inl 6, .inl 7, .inl 8, .inl 9, .inl 10, .inl 11] (by decide +kernel) rfl (q0 := 0) rfl (ci := 7) rfl g_Mod_162 hd_Mod_records rfl ⟨Nat.le_of_ble_eq_true rfl, Nat.le_of_ble_eq_true rfl⟩ ⟨Nat.zero_le _, Nat.zero_le _⟩ hl rfl (Nat.le_of_ble_eq_true rfl) dX7_movePoint_103 (fun H locs hP hD hS => ?_)
              refine lv_aload_n (pc := 106) hx hb dX7_movePoint_106 rfl (lv_at hl 1 rfl) ?_
              refine lv_iload_n (pc := 107) hx hb dX7_movePoint_107 rfl (lv_at hl 2 rfl) ?_
              refine lv_iload_n (pc := 108) hx hb dX7_movePoint_108 rfl (lv_at hl 3 rfl) ?_
              refine lv_iload_n (pc := 109) hx hb dX7_movePoint_109 rfl (lv_at hl 4 rfl) ?_
              obtain ⟨v38, h_v38, h⟩ := ob h
              refine wrVv (pc := 110) (As := [.int a0, .int a1, .int a2]) (rest := []) (ws2 := wMod K ad (3 : Int32) v38 v37.1 v37.2 msav miss minp mlen mat medg mcor mtri mkep mkee mwor mnum mmet) (as9 := [ad 0, ad 1, ad 2, ad 3, ad 4, ad 5, ad 6, ad 7, ad 8, ad 9, ad 10, ad 11]) hx hb hml hown hts hG hP hD hS (c_Mod_sets l K ad (3 : Int32) mnow v37.1 v37.2 msav miss minp mlen mat medg mcor mtri mkep mkee mwor mnum mmet a0 a1 a2 h_v38) [0, 1, 2, 3, 4, 5, 6, 7, 8, 9, 10, 11] rfl rfl rfl rfl [.inl 0, .inl 1, .inl 2, .inl 3, .inl 4, .inl 5, .inl 6, .inl 7, .inl 8, .inl 9, .inl 10, .inl 11] (by decide +kernel) rfl (q0 := 0) rfl (ci := 7) rfl g_Mod_165 hd_Mod_sets rfl ⟨Nat.le_of_ble_eq_true rfl, Nat.le_of_ble_eq_true rfl⟩ ⟨Nat.zero_le _, Nat.zero_le _⟩ hl rfl (Nat.le_of_ble_eq_true rfl) dX7_movePoint_110 (fun H locs hP hD hS => ?_)
              refine lv_iload (pc := 113) hx hb dX7_movePoint_113 (lv_at hl 0 rfl) ?_
              obtain rfl := Option.some.inj h
              exact W.zret hx hb hr (rfl) (fun t ht hW => ⟨⟨rfl, by rw [ht]; exact hP⟩, hS.F ht⟩) hS.2.2 dX7_movePoint_115 hlk
            · have h := it_f c36 h
              refine lv_iconst (v := (1 : Int32)) (pc := 95) hx hb dX7_movePoint_95 (by decide) ?_
              refine lv_goto (tgt := 100) (pc := 96) hx hb dX7_movePoint_96 (by decide) ?_
              refine lv_istore (pc := 100) (lv' := [(4, .int (1 : Int32)), (0, .ref (ad 0)), (1, .int a0), (2, .int a1), (3, .int a2)]) hx hb dX7_movePoint_100 hl (by decide) rfl (fun ls hl => ?_)
              refine lv_aload_n (pc := 102) hx hb dX7_movePoint_102 rfl (lv_at hl 1 rfl) ?_
              obtain ⟨v39, h_v39, h⟩ := ob h
              refine wrVv (pc := 103) (As := []) (rest := []) (ws2 := wMod K ad (3 : Int32) mnow v39.1 v39.2 msav miss minp mlen mat medg mcor mtri mkep mkee mwor mnum mmet) (as9 := [ad 0, ad 1, ad 2, ad 3, ad 4, ad 5, ad 6, ad 7, ad 8, ad 9, ad 10, ad 11]) hx hb hml hown hts hG hP hD hS (c_Mod_records l K ad (3 : Int32) mnow mold mols msav miss minp mlen mat medg mcor mtri mkep mkee mwor mnum mmet F h_v39) [0, 1, 2, 3, 4, 5, 6, 7, 8, 9, 10, 11] rfl rfl rfl rfl [.inl 0, .inl 1, .inl 2, .inl 3, .inl 4, .inl 5, .inl 6, .inl 7, .inl 8, .inl 9, .inl 10, .inl 11] (by decide +kernel) rfl (q0 := 0) rfl (ci := 7) rfl g_Mod_162 hd_Mod_records rfl ⟨Nat.le_of_ble_eq_true rfl, Nat.le_of_ble_eq_true rfl⟩ ⟨Nat.zero_le _, Nat.zero_le _⟩ hl rfl (Nat.le_of_ble_eq_true rfl) dX7_movePoint_103 (fun H locs hP hD hS => ?_)
              refine lv_aload_n (pc := 106) hx hb dX7_movePoint_106 rfl (lv_at hl 1 rfl) ?_
              refine lv_iload_n (pc := 107) hx hb dX7_movePoint_107 rfl (lv_at hl 2 rfl) ?_
              refine lv_iload_n (pc := 108) hx hb dX7_movePoint_108 rfl (lv_at hl 3 rfl) ?_
              refine lv_iload_n (pc := 109) hx hb dX7_movePoint_109 rfl (lv_at hl 4 rfl) ?_
              obtain ⟨v40, h_v40, h⟩ := ob h
              refine wrVv (pc := 110) (As := [.int a0, .int a1, .int a2]) (rest := []) (ws2 := wMod K ad (3 : Int32) v40 v39.1 v39.2 msav miss minp mlen mat medg mcor mtri mkep mkee mwor mnum mmet) (as9 := [ad 0, ad 1, ad 2, ad 3, ad 4, ad 5, ad 6, ad 7, ad 8, ad 9, ad 10, ad 11]) hx hb hml hown hts hG hP hD hS (c_Mod_sets l K ad (3 : Int32) mnow v39.1 v39.2 msav miss minp mlen mat medg mcor mtri mkep mkee mwor mnum mmet a0 a1 a2 h_v40) [0, 1, 2, 3, 4, 5, 6, 7, 8, 9, 10, 11] rfl rfl rfl rfl [.inl 0, .inl 1, .inl 2, .inl 3, .inl 4, .inl 5, .inl 6, .inl 7, .inl 8, .inl 9, .inl 10, .inl 11] (by decide +kernel) rfl (q0 := 0) rfl (ci := 7) rfl g_Mod_165 hd_Mod_sets rfl ⟨Nat.le_of_ble_eq_true rfl, Nat.le_of_ble_eq_true rfl⟩ ⟨Nat.zero_le _, Nat.zero_le _⟩ hl rfl (Nat.le_of_ble_eq_true rfl) dX7_movePoint_110 (fun H locs hP hD hS => ?_)
              refine lv_iload (pc := 113) hx hb dX7_movePoint_113 (lv_at hl 0 rfl) ?_
              obtain rfl := Option.some.inj h
              exact W.zret hx hb hr (rfl) (fun t ht hW => ⟨⟨rfl, by rw [ht]; exact hP⟩, hS.F ht⟩) hS.2.2 dX7_movePoint_115 hlk
        · have h := it_f c30 h
          refine lv_iconst (v := (0 : Int32)) (pc := 75) hx hb dX7_movePoint_75 (by decide) ?_
          obtain rfl := Option.some.inj h
          exact W.zret hx hb hr (rfl) (fun t ht hW => ⟨⟨rfl, by rw [ht]; exact hP⟩, hS.F ht⟩) hS.2.2 dX7_movePoint_76 hlk
    · have h := it_t c3 h
      refine lv_aload_n (pc := 29) hx hb dX7_movePoint_29 rfl (lv_at hl 0 rfl) ?_
      refine lv_iconst (v := (2 : Int32)) (pc := 30) hx hb dX7_movePoint_30 (by decide) ?_
      refine va_put (D := K.1) (ci := 7) (v := .int (2 : Int32)) (ty := .int) (C := RX7) (T := TX7) (N := 17) (pc := 31) hx hb hts inT7 tyX7 tyX7_ok nmX7 hown hG.1 hP hD hS 0 rfl rfl 0 (by decide) (hts _ qf_Mod_44) (fun _ h9 => h9) rfl (by decide +kernel) rfl rfl (Nat.le_of_ble_eq_true rfl) dX7_movePoint_31 (fun H locs hP hD hS => ?_)
      have hP : va_P K.1 vC (wMod K ad (2 : Int32) mnow mold mols msav miss minp mlen mat medg mcor mtri mkep mkee mwor mnum mmet) H := hP
      have hD : va_D _ (wMod K ad (2 : Int32) mnow mold mols msav miss minp mlen mat medg mcor mtri mkep mkee mwor mnum mmet) := hD
      refine lv_goto (tgt := 68) (pc := 34) hx hb dX7_movePoint_34 (by decide) ?_
      refine lv_aload_n (pc := 68) hx hb dX7_movePoint_68 rfl (lv_at hl 0 rfl) ?_
      refine va_get (D := K.1) (ci := 7) (v := .int (2 : Int32)) (C := RX7) (T := TX7) (N := 17) (pc := 69) hx hb hts inT7 hown hG.1 hP 0 rfl rfl 0 (by decide) (hts _ qf_Mod_44) (fun _ h9 => h9) rfl dX7_movePoint_69 ?_
      refine lv_if_le (tgt := 77) (pc := 72) hx hb dX7_movePoint_72 (by decide) (fun c41 => ?_) (fun c41 => ?_)
      · have h := it_t c41 h
        refine lv_aload_n (pc := 77) hx hb dX7_movePoint_77 rfl (lv_at hl 0 rfl) ?_
        refine lv_iload_n (pc := 78) hx hb dX7_movePoint_78 rfl (lv_at hl 1 rfl) ?_
        obtain ⟨v42, h_v42, h⟩ := ob h
        refine rdV (pc := 79) (As := [.int a0]) (rest := []) hx hb hml hown hts hG hP (c_Mod_x l K ad (2 : Int32) mnow mold mols msav miss minp mlen mat medg mcor mtri mkep mkee mwor mnum mmet a0 h_v42) [0, 1, 2, 3, 4, 5, 6, 7, 8, 9, 10, 11] rfl (q0 := 0) rfl (ci := 7) rfl g_Mod_65 hd_Mod_x rfl ⟨Nat.le_of_ble_eq_true rfl, Nat.le_of_ble_eq_true rfl⟩ ⟨Nat.zero_le _, Nat.zero_le _⟩ hl rfl (Nat.le_of_ble_eq_true rfl) dX7_movePoint_79 ?_
        refine lv_iload_n (pc := 82) hx hb dX7_movePoint_82 rfl (lv_at hl 2 rfl) ?_
        refine lv_icmp_ne (tgt := 95) (pc := 83) hx hb dX7_movePoint_83 (by decide) (fun c43 => ?_) (fun c43 => ?_)
        · have h := it_f c43 h
          refine lv_iconst (v := (1 : Int32)) (pc := 95) hx hb dX7_movePoint_95 (by decide) ?_
          refine lv_goto (tgt := 100) (pc := 96) hx hb dX7_movePoint_96 (by decide) ?_
          refine lv_istore (pc := 100) (lv' := [(4, .int (1 : Int32)), (0, .ref (ad 0)), (1, .int a0), (2, .int a1), (3, .int a2)]) hx hb dX7_movePoint_100 hl (by decide) rfl (fun ls hl => ?_)
          refine lv_aload_n (pc := 102) hx hb dX7_movePoint_102 rfl (lv_at hl 1 rfl) ?_
          obtain ⟨v44, h_v44, h⟩ := ob h
          refine wrVv (pc := 103) (As := []) (rest := []) (ws2 := wMod K ad (2 : Int32) mnow v44.1 v44.2 msav miss minp mlen mat medg mcor mtri mkep mkee mwor mnum mmet) (as9 := [ad 0, ad 1, ad 2, ad 3, ad 4, ad 5, ad 6, ad 7, ad 8, ad 9, ad 10, ad 11]) hx hb hml hown hts hG hP hD hS (c_Mod_records l K ad (2 : Int32) mnow mold mols msav miss minp mlen mat medg mcor mtri mkep mkee mwor mnum mmet F h_v44) [0, 1, 2, 3, 4, 5, 6, 7, 8, 9, 10, 11] rfl rfl rfl rfl [.inl 0, .inl 1, .inl 2, .inl 3, .inl 4, .inl 5, .inl 6, .inl 7, .inl 8, .inl 9, .inl 10, .inl 11] (by decide +kernel) rfl (q0 := 0) rfl (ci := 7) rfl g_Mod_162 hd_Mod_records rfl ⟨Nat.le_of_ble_eq_true rfl, Nat.le_of_ble_eq_true rfl⟩ ⟨Nat.zero_le _, Nat.zero_le _⟩ hl rfl (Nat.le_of_ble_eq_true rfl) dX7_movePoint_103 (fun H locs hP hD hS => ?_)
          refine lv_aload_n (pc := 106) hx hb dX7_movePoint_106 rfl (lv_at hl 1 rfl) ?_
          refine lv_iload_n (pc := 107) hx hb dX7_movePoint_107 rfl (lv_at hl 2 rfl) ?_
          refine lv_iload_n (pc := 108) hx hb dX7_movePoint_108 rfl (lv_at hl 3 rfl) ?_
          refine lv_iload_n (pc := 109) hx hb dX7_movePoint_109 rfl (lv_at hl 4 rfl) ?_
          obtain ⟨v45, h_v45, h⟩ := ob h
          refine wrVv (pc := 110) (As := [.int a0, .int a1, .int a2]) (rest := []) (ws2 := wMod K ad (2 : Int32) v45 v44.1 v44.2 msav miss minp mlen mat medg mcor mtri mkep mkee mwor mnum mmet) (as9 := [ad 0, ad 1, ad 2, ad 3, ad 4, ad 5, ad 6, ad 7, ad 8, ad 9, ad 10, ad 11]) hx hb hml hown hts hG hP hD hS (c_Mod_sets l K ad (2 : Int32) mnow v44.1 v44.2 msav miss minp mlen mat medg mcor mtri mkep mkee mwor mnum mmet a0 a1 a2 h_v45) [0, 1, 2, 3, 4, 5, 6, 7, 8, 9, 10, 11] rfl rfl rfl rfl [.inl 0, .inl 1, .inl 2, .inl 3, .inl 4, .inl 5, .inl 6, .inl 7, .inl 8, .inl 9, .inl 10, .inl 11] (by decide +kernel) rfl (q0 := 0) rfl (ci := 7) rfl g_Mod_165 hd_Mod_sets rfl ⟨Nat.le_of_ble_eq_true rfl, Nat.le_of_ble_eq_true rfl⟩ ⟨Nat.zero_le _, Nat.zero_le _⟩ hl rfl (Nat.le_of_ble_eq_true rfl) dX7_movePoint_110 (fun H locs hP hD hS => ?_)
          refine lv_iload (pc := 113) hx hb dX7_movePoint_113 (lv_at hl 0 rfl) ?_
          obtain rfl := Option.some.inj h
          exact W.zret hx hb hr (rfl) (fun t ht hW => ⟨⟨rfl, by rw [ht]; exact hP⟩, hS.F ht⟩) hS.2.2 dX7_movePoint_115 hlk
        · have h := it_t c43 h
          refine lv_aload_n (pc := 86) hx hb dX7_movePoint_86 rfl (lv_at hl 0 rfl) ?_
          refine lv_iload_n (pc := 87) hx hb dX7_movePoint_87 rfl (lv_at hl 1 rfl) ?_
          obtain ⟨v46, h_v46, h⟩ := ob h
          refine rdV (pc := 88) (As := [.int a0]) (rest := []) hx hb hml hown hts hG hP (c_Mod_y l K ad (2 : Int32) mnow mold mols msav miss minp mlen mat medg mcor mtri mkep mkee mwor mnum mmet a0 h_v46) [0, 1, 2, 3, 4, 5, 6, 7, 8, 9, 10, 11] rfl (q0 := 0) rfl (ci := 7) rfl g_Mod_68 hd_Mod_y rfl ⟨Nat.le_of_ble_eq_true rfl, Nat.le_of_ble_eq_true rfl⟩ ⟨Nat.zero_le _, Nat.zero_le _⟩ hl rfl (Nat.le_of_ble_eq_true rfl) dX7_movePoint_88 ?_
          refine lv_iload_n (pc := 91) hx hb dX7_movePoint_91 rfl (lv_at hl 3 rfl) ?_
          refine lv_icmp_eq (tgt := 99) (pc := 92) hx hb dX7_movePoint_92 (by decide) (fun c47 => ?_) (fun c47 => ?_)
          · have h := it_t c47 h
            refine lv_iconst (v := (0 : Int32)) (pc := 99) hx hb dX7_movePoint_99 (by decide) ?_
            refine lv_istore (pc := 100) (lv' := [(4, .int (0 : Int32)), (0, .ref (ad 0)), (1, .int a0), (2, .int a1), (3, .int a2)]) hx hb dX7_movePoint_100 hl (by decide) rfl (fun ls hl => ?_)
            refine lv_aload_n (pc := 102) hx hb dX7_movePoint_102 rfl (lv_at hl 1 rfl) ?_
            obtain ⟨v48, h_v48, h⟩ := ob h
            refine wrVv (pc := 103) (As := []) (rest := []) (ws2 := wMod K ad (2 : Int32) mnow v48.1 v48.2 msav miss minp mlen mat medg mcor mtri mkep mkee mwor mnum mmet) (as9 := [ad 0, ad 1, ad 2, ad 3, ad 4, ad 5, ad 6, ad 7, ad 8, ad 9, ad 10, ad 11]) hx hb hml hown hts hG hP hD hS (c_Mod_records l K ad (2 : Int32) mnow mold mols msav miss minp mlen mat medg mcor mtri mkep mkee mwor mnum mmet F h_v48) [0, 1, 2, 3, 4, 5, 6, 7, 8, 9, 10, 11] rfl rfl rfl rfl [.inl 0, .inl 1, .inl 2, .inl 3, .inl 4, .inl 5, .inl 6, .inl 7, .inl 8, .inl 9, .inl 10, .inl 11] (by decide +kernel) rfl (q0 := 0) rfl (ci := 7) rfl g_Mod_162 hd_Mod_records rfl ⟨Nat.le_of_ble_eq_true rfl, Nat.le_of_ble_eq_true rfl⟩ ⟨Nat.zero_le _, Nat.zero_le _⟩ hl rfl (Nat.le_of_ble_eq_true rfl) dX7_movePoint_103 (fun H locs hP hD hS => ?_)
            refine lv_aload_n (pc := 106) hx hb dX7_movePoint_106 rfl (lv_at hl 1 rfl) ?_
            refine lv_iload_n (pc := 107) hx hb dX7_movePoint_107 rfl (lv_at hl 2 rfl) ?_
            refine lv_iload_n (pc := 108) hx hb dX7_movePoint_108 rfl (lv_at hl 3 rfl) ?_
            refine lv_iload_n (pc := 109) hx hb dX7_movePoint_109 rfl (lv_at hl 4 rfl) ?_
            obtain ⟨v49, h_v49, h⟩ := ob h
            refine wrVv (pc := 110) (As := [.int a0, .int a1, .int a2]) (rest := []) (ws2 := wMod K ad (2 : Int32) v49 v48.1 v48.2 msav miss minp mlen mat medg mcor mtri mkep mkee mwor mnum mmet) (as9 := [ad 0, ad 1, ad 2, ad 3, ad 4, ad 5, ad 6, ad 7, ad 8, ad 9, ad 10, ad 11]) hx hb hml hown hts hG hP hD hS (c_Mod_sets l K ad (2 : Int32) mnow v48.1 v48.2 msav miss minp mlen mat medg mcor mtri mkep mkee mwor mnum mmet a0 a1 a2 h_v49) [0, 1, 2, 3, 4, 5, 6, 7, 8, 9, 10, 11] rfl rfl rfl rfl [.inl 0, .inl 1, .inl 2, .inl 3, .inl 4, .inl 5, .inl 6, .inl 7, .inl 8, .inl 9, .inl 10, .inl 11] (by decide +kernel) rfl (q0 := 0) rfl (ci := 7) rfl g_Mod_165 hd_Mod_sets rfl ⟨Nat.le_of_ble_eq_true rfl, Nat.le_of_ble_eq_true rfl⟩ ⟨Nat.zero_le _, Nat.zero_le _⟩ hl rfl (Nat.le_of_ble_eq_true rfl) dX7_movePoint_110 (fun H locs hP hD hS => ?_)
            refine lv_iload (pc := 113) hx hb dX7_movePoint_113 (lv_at hl 0 rfl) ?_
            obtain rfl := Option.some.inj h
            exact W.zret hx hb hr (rfl) (fun t ht hW => ⟨⟨rfl, by rw [ht]; exact hP⟩, hS.F ht⟩) hS.2.2 dX7_movePoint_115 hlk
          · have h := it_f c47 h
            refine lv_iconst (v := (1 : Int32)) (pc := 95) hx hb dX7_movePoint_95 (by decide) ?_
            refine lv_goto (tgt := 100) (pc := 96) hx hb dX7_movePoint_96 (by decide) ?_
            refine lv_istore (pc := 100) (lv' := [(4, .int (1 : Int32)), (0, .ref (ad 0)), (1, .int a0), (2, .int a1), (3, .int a2)]) hx hb dX7_movePoint_100 hl (by decide) rfl (fun ls hl => ?_)
            refine lv_aload_n (pc := 102) hx hb dX7_movePoint_102 rfl (lv_at hl 1 rfl) ?_
            obtain ⟨v50, h_v50, h⟩ := ob h
            refine wrVv (pc := 103) (As := []) (rest := []) (ws2 := wMod K ad (2 : Int32) mnow v50.1 v50.2 msav miss minp mlen mat medg mcor mtri mkep mkee mwor mnum mmet) (as9 := [ad 0, ad 1, ad 2, ad 3, ad 4, ad 5, ad 6, ad 7, ad 8, ad 9, ad 10, ad 11]) hx hb hml hown hts hG hP hD hS (c_Mod_records l K ad (2 : Int32) mnow mold mols msav miss minp mlen mat medg mcor mtri mkep mkee mwor mnum mmet F h_v50) [0, 1, 2, 3, 4, 5, 6, 7, 8, 9, 10, 11] rfl rfl rfl rfl [.inl 0, .inl 1, .inl 2, .inl 3, .inl 4, .inl 5, .inl 6, .inl 7, .inl 8, .inl 9, .inl 10, .inl 11] (by decide +kernel) rfl (q0 := 0) rfl (ci := 7) rfl g_Mod_162 hd_Mod_records rfl ⟨Nat.le_of_ble_eq_true rfl, Nat.le_of_ble_eq_true rfl⟩ ⟨Nat.zero_le _, Nat.zero_le _⟩ hl rfl (Nat.le_of_ble_eq_true rfl) dX7_movePoint_103 (fun H locs hP hD hS => ?_)
            refine lv_aload_n (pc := 106) hx hb dX7_movePoint_106 rfl (lv_at hl 1 rfl) ?_
            refine lv_iload_n (pc := 107) hx hb dX7_movePoint_107 rfl (lv_at hl 2 rfl) ?_
            refine lv_iload_n (pc := 108) hx hb dX7_movePoint_108 rfl (lv_at hl 3 rfl) ?_
            refine lv_iload_n (pc := 109) hx hb dX7_movePoint_109 rfl (lv_at hl 4 rfl) ?_
            obtain ⟨v51, h_v51, h⟩ := ob h
            refine wrVv (pc := 110) (As := [.int a0, .int a1, .int a2]) (rest := []) (ws2 := wMod K ad (2 : Int32) v51 v50.1 v50.2 msav miss minp mlen mat medg mcor mtri mkep mkee mwor mnum mmet) (as9 := [ad 0, ad 1, ad 2, ad 3, ad 4, ad 5, ad 6, ad 7, ad 8, ad 9, ad 10, ad 11]) hx hb hml hown hts hG hP hD hS (c_Mod_sets l K ad (2 : Int32) mnow v50.1 v50.2 msav miss minp mlen mat medg mcor mtri mkep mkee mwor mnum mmet a0 a1 a2 h_v51) [0, 1, 2, 3, 4, 5, 6, 7, 8, 9, 10, 11] rfl rfl rfl rfl [.inl 0, .inl 1, .inl 2, .inl 3, .inl 4, .inl 5, .inl 6, .inl 7, .inl 8, .inl 9, .inl 10, .inl 11] (by decide +kernel) rfl (q0 := 0) rfl (ci := 7) rfl g_Mod_165 hd_Mod_sets rfl ⟨Nat.le_of_ble_eq_true rfl, Nat.le_of_ble_eq_true rfl⟩ ⟨Nat.zero_le _, Nat.zero_le _⟩ hl rfl (Nat.le_of_ble_eq_true rfl) dX7_movePoint_110 (fun H locs hP hD hS => ?_)
            refine lv_iload (pc := 113) hx hb dX7_movePoint_113 (lv_at hl 0 rfl) ?_
            obtain rfl := Option.some.inj h
            exact W.zret hx hb hr (rfl) (fun t ht hW => ⟨⟨rfl, by rw [ht]; exact hP⟩, hS.F ht⟩) hS.2.2 dX7_movePoint_115 hlk
      · have h := it_f c41 h
        refine lv_iconst (v := (0 : Int32)) (pc := 75) hx hb dX7_movePoint_75 (by decide) ?_
        obtain rfl := Option.some.inj h
        exact W.zret hx hb hr (rfl) (fun t ht hW => ⟨⟨rfl, by rw [ht]; exact hP⟩, hS.F ht⟩) hS.2.2 dX7_movePoint_76 hlk
  · have h := it_t c2 h
    refine lv_aload_n (pc := 13) hx hb dX7_movePoint_13 rfl (lv_at hl 0 rfl) ?_
    refine lv_iconst (v := (1 : Int32)) (pc := 14) hx hb dX7_movePoint_14 (by decide) ?_
    refine va_put (D := K.1) (ci := 7) (v := .int (1 : Int32)) (ty := .int) (C := RX7) (T := TX7) (N := 17) (pc := 15) hx hb hts inT7 tyX7 tyX7_ok nmX7 hown hG.1 hP hD hS 0 rfl rfl 0 (by decide) (hts _ qf_Mod_44) (fun _ h9 => h9) rfl (by decide +kernel) rfl rfl (Nat.le_of_ble_eq_true rfl) dX7_movePoint_15 (fun H locs hP hD hS => ?_)
    have hP : va_P K.1 vC (wMod K ad (1 : Int32) mnow mold mols msav miss minp mlen mat medg mcor mtri mkep mkee mwor mnum mmet) H := hP
    have hD : va_D _ (wMod K ad (1 : Int32) mnow mold mols msav miss minp mlen mat medg mcor mtri mkep mkee mwor mnum mmet) := hD
    refine lv_goto (tgt := 68) (pc := 18) hx hb dX7_movePoint_18 (by decide) ?_
    refine lv_aload_n (pc := 68) hx hb dX7_movePoint_68 rfl (lv_at hl 0 rfl) ?_
    refine va_get (D := K.1) (ci := 7) (v := .int (1 : Int32)) (C := RX7) (T := TX7) (N := 17) (pc := 69) hx hb hts inT7 hown hG.1 hP 0 rfl rfl 0 (by decide) (hts _ qf_Mod_44) (fun _ h9 => h9) rfl dX7_movePoint_69 ?_
    refine lv_if_le (tgt := 77) (pc := 72) hx hb dX7_movePoint_72 (by decide) (fun c52 => ?_) (fun c52 => ?_)
    · have h := it_t c52 h
      refine lv_aload_n (pc := 77) hx hb dX7_movePoint_77 rfl (lv_at hl 0 rfl) ?_
      refine lv_iload_n (pc := 78) hx hb dX7_movePoint_78 rfl (lv_at hl 1 rfl) ?_
      obtain ⟨v53, h_v53, h⟩ := ob h
      refine rdV (pc := 79) (As := [.int a0]) (rest := []) hx hb hml hown hts hG hP (c_Mod_x l K ad (1 : Int32) mnow mold mols msav miss minp mlen mat medg mcor mtri mkep mkee mwor mnum mmet a0 h_v53) [0, 1, 2, 3, 4, 5, 6, 7, 8, 9, 10, 11] rfl (q0 := 0) rfl (ci := 7) rfl g_Mod_65 hd_Mod_x rfl ⟨Nat.le_of_ble_eq_true rfl, Nat.le_of_ble_eq_true rfl⟩ ⟨Nat.zero_le _, Nat.zero_le _⟩ hl rfl (Nat.le_of_ble_eq_true rfl) dX7_movePoint_79 ?_
      refine lv_iload_n (pc := 82) hx hb dX7_movePoint_82 rfl (lv_at hl 2 rfl) ?_
      refine lv_icmp_ne (tgt := 95) (pc := 83) hx hb dX7_movePoint_83 (by decide) (fun c54 => ?_) (fun c54 => ?_)
      · have h := it_f c54 h
        refine lv_iconst (v := (1 : Int32)) (pc := 95) hx hb dX7_movePoint_95 (by decide) ?_
        refine lv_goto (tgt := 100) (pc := 96) hx hb dX7_movePoint_96 (by decide) ?_
        refine lv_istore (pc := 100) (lv' := [(4, .int (1 : Int32)), (0, .ref (ad 0)), (1, .int a0), (2, .int a1), (3, .int a2)]) hx hb dX7_movePoint_100 hl (by decide) rfl (fun ls hl => ?_)
        refine lv_aload_n (pc := 102) hx hb dX7_movePoint_102 rfl (lv_at hl 1 rfl) ?_
        obtain ⟨v55, h_v55, h⟩ := ob h
        refine wrVv (pc := 103) (As := []) (rest := []) (ws2 := wMod K ad (1 : Int32) mnow v55.1 v55.2 msav miss minp mlen mat medg mcor mtri mkep mkee mwor mnum mmet) (as9 := [ad 0, ad 1, ad 2, ad 3, ad 4, ad 5, ad 6, ad 7, ad 8, ad 9, ad 10, ad 11]) hx hb hml hown hts hG hP hD hS (c_Mod_records l K ad (1 : Int32) mnow mold mols msav miss minp mlen mat medg mcor mtri mkep mkee mwor mnum mmet F h_v55) [0, 1, 2, 3, 4, 5, 6, 7, 8, 9, 10, 11] rfl rfl rfl rfl [.inl 0, .inl 1, .inl 2, .inl 3, .inl 4, .inl 5, .inl 6, .inl 7, .inl 8, .inl 9, .inl 10, .inl 11] (by decide +kernel) rfl (q0 := 0) rfl (ci := 7) rfl g_Mod_162 hd_Mod_records rfl ⟨Nat.le_of_ble_eq_true rfl, Nat.le_of_ble_eq_true rfl⟩ ⟨Nat.zero_le _, Nat.zero_le _⟩ hl rfl (Nat.le_of_ble_eq_true rfl) dX7_movePoint_103 (fun H locs hP hD hS => ?_)
        refine lv_aload_n (pc := 106) hx hb dX7_movePoint_106 rfl (lv_at hl 1 rfl) ?_
        refine lv_iload_n (pc := 107) hx hb dX7_movePoint_107 rfl (lv_at hl 2 rfl) ?_
        refine lv_iload_n (pc := 108) hx hb dX7_movePoint_108 rfl (lv_at hl 3 rfl) ?_
        refine lv_iload_n (pc := 109) hx hb dX7_movePoint_109 rfl (lv_at hl 4 rfl) ?_
        obtain ⟨v56, h_v56, h⟩ := ob h
        refine wrVv (pc := 110) (As := [.int a0, .int a1, .int a2]) (rest := []) (ws2 := wMod K ad (1 : Int32) v56 v55.1 v55.2 msav miss minp mlen mat medg mcor mtri mkep mkee mwor mnum mmet) (as9 := [ad 0, ad 1, ad 2, ad 3, ad 4, ad 5, ad 6, ad 7, ad 8, ad 9, ad 10, ad 11]) hx hb hml hown hts hG hP hD hS (c_Mod_sets l K ad (1 : Int32) mnow v55.1 v55.2 msav miss minp mlen mat medg mcor mtri mkep mkee mwor mnum mmet a0 a1 a2 h_v56) [0, 1, 2, 3, 4, 5, 6, 7, 8, 9, 10, 11] rfl rfl rfl rfl [.inl 0, .inl 1, .inl 2, .inl 3, .inl 4, .inl 5, .inl 6, .inl 7, .inl 8, .inl 9, .inl 10, .inl 11] (by decide +kernel) rfl (q0 := 0) rfl (ci := 7) rfl g_Mod_165 hd_Mod_sets rfl ⟨Nat.le_of_ble_eq_true rfl, Nat.le_of_ble_eq_true rfl⟩ ⟨Nat.zero_le _, Nat.zero_le _⟩ hl rfl (Nat.le_of_ble_eq_true rfl) dX7_movePoint_110 (fun H locs hP hD hS => ?_)
        refine lv_iload (pc := 113) hx hb dX7_movePoint_113 (lv_at hl 0 rfl) ?_
        obtain rfl := Option.some.inj h
        exact W.zret hx hb hr (rfl) (fun t ht hW => ⟨⟨rfl, by rw [ht]; exact hP⟩, hS.F ht⟩) hS.2.2 dX7_movePoint_115 hlk
      · have h := it_t c54 h
        refine lv_aload_n (pc := 86) hx hb dX7_movePoint_86 rfl (lv_at hl 0 rfl) ?_
        refine lv_iload_n (pc := 87) hx hb dX7_movePoint_87 rfl (lv_at hl 1 rfl) ?_
        obtain ⟨v57, h_v57, h⟩ := ob h
        refine rdV (pc := 88) (As := [.int a0]) (rest := []) hx hb hml hown hts hG hP (c_Mod_y l K ad (1 : Int32) mnow mold mols msav miss minp mlen mat medg mcor mtri mkep mkee mwor mnum mmet a0 h_v57) [0, 1, 2, 3, 4, 5, 6, 7, 8, 9, 10, 11] rfl (q0 := 0) rfl (ci := 7) rfl g_Mod_68 hd_Mod_y rfl ⟨Nat.le_of_ble_eq_true rfl, Nat.le_of_ble_eq_true rfl⟩ ⟨Nat.zero_le _, Nat.zero_le _⟩ hl rfl (Nat.le_of_ble_eq_true rfl) dX7_movePoint_88 ?_
        refine lv_iload_n (pc := 91) hx hb dX7_movePoint_91 rfl (lv_at hl 3 rfl) ?_
        refine lv_icmp_eq (tgt := 99) (pc := 92) hx hb dX7_movePoint_92 (by decide) (fun c58 => ?_) (fun c58 => ?_)
        · have h := it_t c58 h
          refine lv_iconst (v := (0 : Int32)) (pc := 99) hx hb dX7_movePoint_99 (by decide) ?_
          refine lv_istore (pc := 100) (lv' := [(4, .int (0 : Int32)), (0, .ref (ad 0)), (1, .int a0), (2, .int a1), (3, .int a2)]) hx hb dX7_movePoint_100 hl (by decide) rfl (fun ls hl => ?_)
          refine lv_aload_n (pc := 102) hx hb dX7_movePoint_102 rfl (lv_at hl 1 rfl) ?_
          obtain ⟨v59, h_v59, h⟩ := ob h
          refine wrVv (pc := 103) (As := []) (rest := []) (ws2 := wMod K ad (1 : Int32) mnow v59.1 v59.2 msav miss minp mlen mat medg mcor mtri mkep mkee mwor mnum mmet) (as9 := [ad 0, ad 1, ad 2, ad 3, ad 4, ad 5, ad 6, ad 7, ad 8, ad 9, ad 10, ad 11]) hx hb hml hown hts hG hP hD hS (c_Mod_records l K ad (1 : Int32) mnow mold mols msav miss minp mlen mat medg mcor mtri mkep mkee mwor mnum mmet F h_v59) [0, 1, 2, 3, 4, 5, 6, 7, 8, 9, 10, 11] rfl rfl rfl rfl [.inl 0, .inl 1, .inl 2, .inl 3, .inl 4, .inl 5, .inl 6, .inl 7, .inl 8, .inl 9, .inl 10, .inl 11] (by decide +kernel) rfl (q0 := 0) rfl (ci := 7) rfl g_Mod_162 hd_Mod_records rfl ⟨Nat.le_of_ble_eq_true rfl, Nat.le_of_ble_eq_true rfl⟩ ⟨Nat.zero_le _, Nat.zero_le _⟩ hl rfl (Nat.le_of_ble_eq_true rfl) dX7_movePoint_103 (fun H locs hP hD hS => ?_)
          refine lv_aload_n (pc := 106) hx hb dX7_movePoint_106 rfl (lv_at hl 1 rfl) ?_
          refine lv_iload_n (pc := 107) hx hb dX7_movePoint_107 rfl (lv_at hl 2 rfl) ?_
          refine lv_iload_n (pc := 108) hx hb dX7_movePoint_108 rfl (lv_at hl 3 rfl) ?_
          refine lv_iload_n (pc := 109) hx hb dX7_movePoint_109 rfl (lv_at hl 4 rfl) ?_
          obtain ⟨v60, h_v60, h⟩ := ob h
          refine wrVv (pc := 110) (As := [.int a0, .int a1, .int a2]) (rest := []) (ws2 := wMod K ad (1 : Int32) v60 v59.1 v59.2 msav miss minp mlen mat medg mcor mtri mkep mkee mwor mnum mmet) (as9 := [ad 0, ad 1, ad 2, ad 3, ad 4, ad 5, ad 6, ad 7, ad 8, ad 9, ad 10, ad 11]) hx hb hml hown hts hG hP hD hS (c_Mod_sets l K ad (1 : Int32) mnow v59.1 v59.2 msav miss minp mlen mat medg mcor mtri mkep mkee mwor mnum mmet a0 a1 a2 h_v60) [0, 1, 2, 3, 4, 5, 6, 7, 8, 9, 10, 11] rfl rfl rfl rfl [.inl 0, .inl 1, .inl 2, .inl 3, .inl 4, .inl 5, .inl 6, .inl 7, .inl 8, .inl 9, .inl 10, .inl 11] (by decide +kernel) rfl (q0 := 0) rfl (ci := 7) rfl g_Mod_165 hd_Mod_sets rfl ⟨Nat.le_of_ble_eq_true rfl, Nat.le_of_ble_eq_true rfl⟩ ⟨Nat.zero_le _, Nat.zero_le _⟩ hl rfl (Nat.le_of_ble_eq_true rfl) dX7_movePoint_110 (fun H locs hP hD hS => ?_)
          refine lv_iload (pc := 113) hx hb dX7_movePoint_113 (lv_at hl 0 rfl) ?_
          obtain rfl := Option.some.inj h
          exact W.zret hx hb hr (rfl) (fun t ht hW => ⟨⟨rfl, by rw [ht]; exact hP⟩, hS.F ht⟩) hS.2.2 dX7_movePoint_115 hlk
        · have h := it_f c58 h
          refine lv_iconst (v := (1 : Int32)) (pc := 95) hx hb dX7_movePoint_95 (by decide) ?_
          refine lv_goto (tgt := 100) (pc := 96) hx hb dX7_movePoint_96 (by decide) ?_
          refine lv_istore (pc := 100) (lv' := [(4, .int (1 : Int32)), (0, .ref (ad 0)), (1, .int a0), (2, .int a1), (3, .int a2)]) hx hb dX7_movePoint_100 hl (by decide) rfl (fun ls hl => ?_)
          refine lv_aload_n (pc := 102) hx hb dX7_movePoint_102 rfl (lv_at hl 1 rfl) ?_
          obtain ⟨v61, h_v61, h⟩ := ob h
          refine wrVv (pc := 103) (As := []) (rest := []) (ws2 := wMod K ad (1 : Int32) mnow v61.1 v61.2 msav miss minp mlen mat medg mcor mtri mkep mkee mwor mnum mmet) (as9 := [ad 0, ad 1, ad 2, ad 3, ad 4, ad 5, ad 6, ad 7, ad 8, ad 9, ad 10, ad 11]) hx hb hml hown hts hG hP hD hS (c_Mod_records l K ad (1 : Int32) mnow mold mols msav miss minp mlen mat medg mcor mtri mkep mkee mwor mnum mmet F h_v61) [0, 1, 2, 3, 4, 5, 6, 7, 8, 9, 10, 11] rfl rfl rfl rfl [.inl 0, .inl 1, .inl 2, .inl 3, .inl 4, .inl 5, .inl 6, .inl 7, .inl 8, .inl 9, .inl 10, .inl 11] (by decide +kernel) rfl (q0 := 0) rfl (ci := 7) rfl g_Mod_162 hd_Mod_records rfl ⟨Nat.le_of_ble_eq_true rfl, Nat.le_of_ble_eq_true rfl⟩ ⟨Nat.zero_le _, Nat.zero_le _⟩ hl rfl (Nat.le_of_ble_eq_true rfl) dX7_movePoint_103 (fun H locs hP hD hS => ?_)
          refine lv_aload_n (pc := 106) hx hb dX7_movePoint_106 rfl (lv_at hl 1 rfl) ?_
          refine lv_iload_n (pc := 107) hx hb dX7_movePoint_107 rfl (lv_at hl 2 rfl) ?_
          refine lv_iload_n (pc := 108) hx hb dX7_movePoint_108 rfl (lv_at hl 3 rfl) ?_
          refine lv_iload_n (pc := 109) hx hb dX7_movePoint_109 rfl (lv_at hl 4 rfl) ?_
          obtain ⟨v62, h_v62, h⟩ := ob h
          refine wrVv (pc := 110) (As := [.int a0, .int a1, .int a2]) (rest := []) (ws2 := wMod K ad (1 : Int32) v62 v61.1 v61.2 msav miss minp mlen mat medg mcor mtri mkep mkee mwor mnum mmet) (as9 := [ad 0, ad 1, ad 2, ad 3, ad 4, ad 5, ad 6, ad 7, ad 8, ad 9, ad 10, ad 11]) hx hb hml hown hts hG hP hD hS (c_Mod_sets l K ad (1 : Int32) mnow v61.1 v61.2 msav miss minp mlen mat medg mcor mtri mkep mkee mwor mnum mmet a0 a1 a2 h_v62) [0, 1, 2, 3, 4, 5, 6, 7, 8, 9, 10, 11] rfl rfl rfl rfl [.inl 0, .inl 1, .inl 2, .inl 3, .inl 4, .inl 5, .inl 6, .inl 7, .inl 8, .inl 9, .inl 10, .inl 11] (by decide +kernel) rfl (q0 := 0) rfl (ci := 7) rfl g_Mod_165 hd_Mod_sets rfl ⟨Nat.le_of_ble_eq_true rfl, Nat.le_of_ble_eq_true rfl⟩ ⟨Nat.zero_le _, Nat.zero_le _⟩ hl rfl (Nat.le_of_ble_eq_true rfl) dX7_movePoint_110 (fun H locs hP hD hS => ?_)
          refine lv_iload (pc := 113) hx hb dX7_movePoint_113 (lv_at hl 0 rfl) ?_
          obtain rfl := Option.some.inj h
          exact W.zret hx hb hr (rfl) (fun t ht hW => ⟨⟨rfl, by rw [ht]; exact hP⟩, hS.F ht⟩) hS.2.2 dX7_movePoint_115 hlk
    · have h := it_f c52 h
      refine lv_iconst (v := (0 : Int32)) (pc := 75) hx hb dX7_movePoint_75 (by decide) ?_
      obtain rfl := Option.some.inj h
      exact W.zret hx hb hr (rfl) (fun t ht hW => ⟨⟨rfl, by rw [ht]; exact hP⟩, hS.F ht⟩) hS.2.2 dX7_movePoint_76 hlk
set_option maxHeartbeats 4000000 in
set_option maxRecDepth 100000 in
theorem c_Mod_pointCount (l : Launch) (K : KT) (ad : Nat → Nat) (mthr : Int32) (mnow : Nat → Int32) (mold : Nat → Int32) (mols : Int32) (msav : Nat → Int32) (miss : Bool) (minp : Nat → Int32) (mlen : Int32) (mat : Int32) (medg : Nat → Int32) (mcor : Nat → Int32) (mtri : Int32) (mkep : Nat → Int32) (mkee : Nat → Int32) (mwor : Nat → Int32) (mnum : Nat → Int32) (mmet : Nat → Int32) {o : Int32 × Int32} (h : s_Mod_pointCount mnow = some o) : Wr l K 1 yX7_pointCount cX7_pointCount 1 (some .int) [.ref (ad 0)] (wMod K ad mthr mnow mold mols msav miss minp mlen mat medg mcor mtri mkep mkee mwor mnum mmet) (some (.int o.1)) (wMod K ad o.2 mnow mold mols msav miss minp mlen mat medg mcor mtri mkep mkee mwor mnum mmet) := by
  refine Wr.of (by decide +kernel) (Nat.le_of_ble_eq_true rfl) ?_
  unfold s_Mod_pointCount at h
  intro p e s m below meth c hx hb hr hml hown hts hlk H locs hP hG hD hS ls hl
  have C0 : Ctx p m c cX7_pointCount 1 s (Array.mk [.ref (ad 0)]) RX7 K meth (some .int) := ⟨hx, hb, hml, hown, hts, hG, hr, hlk⟩
  have hl : lv_has ls 1 [(0, .ref (ad 0))] := hl
  refine lv_aload_n (pc := 0) hx hb dX7_pointCount_0 rfl (lv_at hl 0 rfl) ?_
  refine lv_iconst (v := (0 : Int32)) (pc := 1) hx hb dX7_pointCount_1 (by decide) ?_
  refine va_put (D := K.1) (ci := 7) (v := .int (0 : Int32)) (ty := .int) (C := RX7) (T := TX7) (N := 17) (pc := 2) hx hb hts inT7 tyX7 tyX7_ok nmX7 hown hG.1 hP hD hS 0 rfl rfl 0 (by decide) (hts _ qf_Mod_44) (fun _ h9 => h9) rfl (by decide +kernel) rfl rfl (Nat.le_of_ble_eq_true rfl) dX7_pointCount_2 (fun H locs hP hD hS => ?_)
  have hP : va_P K.1 vC (wMod K ad (0 : Int32) mnow mold mols msav miss minp mlen mat medg mcor mtri mkep mkee mwor mnum mmet) H := hP
  have hD : va_D _ (wMod K ad (0 : Int32) mnow mold mols msav miss minp mlen mat medg mcor mtri mkep mkee mwor mnum mmet) := hD
  refine lv_aload_n (pc := 5) hx hb dX7_pointCount_5 rfl (lv_at hl 0 rfl) ?_
  obtain ⟨v1, h_v1, h⟩ := ob h
  refine rdV (pc := 6) (As := []) (rest := []) hx hb hml hown hts hG hP (c_Mod_n l K ad (0 : Int32) mnow mold mols msav miss minp mlen mat medg mcor mtri mkep mkee mwor mnum mmet h_v1) [0, 1, 2, 3, 4, 5, 6, 7, 8, 9, 10, 11] rfl (q0 := 0) rfl (ci := 7) rfl g_Mod_48 hd_Mod_n rfl ⟨Nat.le_of_ble_eq_true rfl, Nat.le_of_ble_eq_true rfl⟩ ⟨Nat.zero_le _, Nat.zero_le _⟩ hl rfl (Nat.le_of_ble_eq_true rfl) dX7_pointCount_6 ?_
  obtain rfl := Option.some.inj h
  exact W.iret hx hb hr (fun t ht hW => ⟨⟨rfl, by rw [ht]; exact hP⟩, hS.F ht⟩) hS.2.2 dX7_pointCount_9 hlk
set_option maxHeartbeats 4000000 in
set_option maxRecDepth 100000 in
theorem c_Mod_coordinate (l : Launch) (K : KT) (ad : Nat → Nat) (mthr : Int32) (mnow : Nat → Int32) (mold : Nat → Int32) (mols : Int32) (msav : Nat → Int32) (miss : Bool) (minp : Nat → Int32) (mlen : Int32) (mat : Int32) (medg : Nat → Int32) (mcor : Nat → Int32) (mtri : Int32) (mkep : Nat → Int32) (mkee : Nat → Int32) (mwor : Nat → Int32) (mnum : Nat → Int32) (mmet : Nat → Int32) (a0 : Int32) (a1 : Int32) {o : Int32 × Int32} (h : s_Mod_coordinate mnow a0 a1 = some o) : Wr l K 2 yX7_coordinate cX7_coordinate 3 (some .int) [.ref (ad 0), .int a0, .int a1] (wMod K ad mthr mnow mold mols msav miss minp mlen mat medg mcor mtri mkep mkee mwor mnum mmet) (some (.int o.1)) (wMod K ad o.2 mnow mold mols msav miss minp mlen mat medg mcor mtri mkep mkee mwor mnum mmet) := by
  refine Wr.of (by decide +kernel) (Nat.le_of_ble_eq_true rfl) ?_
  unfold s_Mod_coordinate at h
  intro p e s m below meth c hx hb hr hml hown hts hlk H locs hP hG hD hS ls hl
  have C0 : Ctx p m c cX7_coordinate 3 s (Array.mk [.ref (ad 0), .int a0, .int a1]) RX7 K meth (some .int) := ⟨hx, hb, hml, hown, hts, hG, hr, hlk⟩
  have hl : lv_has ls 3 [(0, .ref (ad 0)), (1, .int a0), (2, .int a1)] := hl
  refine lv_aload_n (pc := 0) hx hb dX7_coordinate_0 rfl (lv_at hl 0 rfl) ?_
  refine lv_iconst (v := (0 : Int32)) (pc := 1) hx hb dX7_coordinate_1 (by decide) ?_
  refine va_put (D := K.1) (ci := 7) (v := .int (0 : Int32)) (ty := .int) (C := RX7) (T := TX7) (N := 17) (pc := 2) hx hb hts inT7 tyX7 tyX7_ok nmX7 hown hG.1 hP hD hS 0 rfl rfl 0 (by decide) (hts _ qf_Mod_44) (fun _ h9 => h9) rfl (by decide +kernel) rfl rfl (Nat.le_of_ble_eq_true rfl) dX7_coordinate_2 (fun H locs hP hD hS => ?_)
  have hP : va_P K.1 vC (wMod K ad (0 : Int32) mnow mold mols msav miss minp mlen mat medg mcor mtri mkep mkee mwor mnum mmet) H := hP
  have hD : va_D _ (wMod K ad (0 : Int32) mnow mold mols msav miss minp mlen mat medg mcor mtri mkep mkee mwor mnum mmet) := hD
  refine lv_aload_n (pc := 5) hx hb dX7_coordinate_5 rfl (lv_at hl 0 rfl) ?_
  refine lv_iload_n (pc := 6) hx hb dX7_coordinate_6 rfl (lv_at hl 1 rfl) ?_
  obtain ⟨v1, h_v1, h⟩ := ob h
  refine rdV (pc := 7) (As := [.int a0]) (rest := []) hx hb hml hown hts hG hP (c_Mod_isPoint l K ad (0 : Int32) mnow mold mols msav miss minp mlen mat medg mcor mtri mkep mkee mwor mnum mmet a0 h_v1) [0, 1, 2, 3, 4, 5, 6, 7, 8, 9, 10, 11] rfl (q0 := 0) rfl (ci := 7) rfl g_Mod_168 hd_Mod_isPoint rfl ⟨Nat.le_of_ble_eq_true rfl, Nat.le_of_ble_eq_true rfl⟩ ⟨Nat.zero_le _, Nat.zero_le _⟩ hl rfl (Nat.le_of_ble_eq_true rfl) dX7_coordinate_7 ?_
  refine lv_if_ne (tgt := 19) (pc := 10) hx hb dX7_coordinate_10 (by decide) (fun c2 => ?_) (fun c2 => ?_)
  · have h := it_f c2 h
    refine lv_iload_n (pc := 19) hx hb dX7_coordinate_19 rfl (lv_at hl 2 rfl) ?_
    refine lv_iconst (v := (0 : Int32)) (pc := 20) hx hb dX7_coordinate_20 (by decide) ?_
    refine lv_iconst (v := (1 : Int32)) (pc := 21) hx hb dX7_coordinate_21 (by decide) ?_
    refine rdS (pc := 22) (As := [.int a1, .int (0 : Int32), .int (1 : Int32)]) (rest := []) hx hb hml hown hts hG (c_Mod_in l K a1 (0 : Int32) (1 : Int32)) g_Mod_52 hd_Mod_in rfl ⟨Nat.le_of_ble_eq_true rfl, Nat.le_of_ble_eq_true rfl⟩ ⟨Nat.zero_le _, Nat.zero_le _⟩ hl rfl (Nat.le_of_ble_eq_true rfl) dX7_coordinate_22 ?_
    refine lv_if_eq (tgt := 48) (pc := 25) hx hb dX7_coordinate_25 (by decide) (fun c3 => ?_) (fun c3 => ?_)
    · have h := it_t c3 h
      refine lv_aload_n (pc := 48) hx hb dX7_coordinate_48 rfl (lv_at hl 0 rfl) ?_
      refine lv_iconst (v := (2 : Int32)) (pc := 49) hx hb dX7_coordinate_49 (by decide) ?_
      refine wrVi (pc := 50) (As := [.int (2 : Int32)]) (rest := []) (ws2 := wMod K ad ((s_Mod_raises (2 : Int32)).2) mnow mold mols msav miss minp mlen mat medg mcor mtri mkep mkee mwor mnum mmet) (as9 := [ad 0, ad 1, ad 2, ad 3, ad 4, ad 5, ad 6, ad 7, ad 8, ad 9, ad 10, ad 11]) hx hb hml hown hts hG hP hD hS (c_Mod_raises l K ad (0 : Int32) mnow mold mols msav miss minp mlen mat medg mcor mtri mkep mkee mwor mnum mmet (2 : Int32)) [0, 1, 2, 3, 4, 5, 6, 7, 8, 9, 10, 11] rfl rfl rfl rfl [.inl 0, .inl 1, .inl 2, .inl 3, .inl 4, .inl 5, .inl 6, .inl 7, .inl 8, .inl 9, .inl 10, .inl 11] (by decide +kernel) rfl (q0 := 0) rfl (ci := 7) rfl g_Mod_172 hd_Mod_raises rfl ⟨Nat.le_of_ble_eq_true rfl, Nat.le_of_ble_eq_true rfl⟩ ⟨Nat.zero_le _, Nat.zero_le _⟩ hl rfl (Nat.le_of_ble_eq_true rfl) dX7_coordinate_50 (fun H locs hP hD hS => ?_)
      obtain rfl := Option.some.inj h
      exact W.iret hx hb hr (fun t ht hW => ⟨⟨rfl, by rw [ht]; exact hP⟩, hS.F ht⟩) hS.2.2 dX7_coordinate_53 hlk
    · have h := it_f c3 h
      refine lv_iload_n (pc := 28) hx hb dX7_coordinate_28 rfl (lv_at hl 2 rfl) ?_
      refine lv_if_ne (tgt := 40) (pc := 29) hx hb dX7_coordinate_29 (by decide) (fun c4 => ?_) (fun c4 => ?_)
      · have h := it_f c4 h
        refine lv_aload_n (pc := 40) hx hb dX7_coordinate_40 rfl (lv_at hl 0 rfl) ?_
        refine lv_iload_n (pc := 41) hx hb dX7_coordinate_41 rfl (lv_at hl 1 rfl) ?_
        obtain ⟨v5, h_v5, h⟩ := ob h
        refine rdV (pc := 42) (As := [.int a0]) (rest := []) hx hb hml hown hts hG hP (c_Mod_y l K ad (0 : Int32) mnow mold mols msav miss minp mlen mat medg mcor mtri mkep mkee mwor mnum mmet a0 h_v5) [0, 1, 2, 3, 4, 5, 6, 7, 8, 9, 10, 11] rfl (q0 := 0) rfl (ci := 7) rfl g_Mod_68 hd_Mod_y rfl ⟨Nat.le_of_ble_eq_true rfl, Nat.le_of_ble_eq_true rfl⟩ ⟨Nat.zero_le _, Nat.zero_le _⟩ hl rfl (Nat.le_of_ble_eq_true rfl) dX7_coordinate_42 ?_
        refine lv_goto (tgt := 53) (pc := 45) hx hb dX7_coordinate_45 (by decide) ?_
        obtain rfl := Option.some.inj h
        exact W.iret hx hb hr (fun t ht hW => ⟨⟨rfl, by rw [ht]; exact hP⟩, hS.F ht⟩) hS.2.2 dX7_coordinate_53 hlk
      · have h := it_t c4 h
        refine lv_aload_n (pc := 32) hx hb dX7_coordinate_32 rfl (lv_at hl 0 rfl) ?_
        refine lv_iload_n (pc := 33) hx hb dX7_coordinate_33 rfl (lv_at hl 1 rfl) ?_
        obtain ⟨v6, h_v6, h⟩ := ob h
        refine rdV (pc := 34) (As := [.int a0]) (rest := []) hx hb hml hown hts hG hP (c_Mod_x l K ad (0 : Int32) mnow mold mols msav miss minp mlen mat medg mcor mtri mkep mkee mwor mnum mmet a0 h_v6) [0, 1, 2, 3, 4, 5, 6, 7, 8, 9, 10, 11] rfl (q0 := 0) rfl (ci := 7) rfl g_Mod_65 hd_Mod_x rfl ⟨Nat.le_of_ble_eq_true rfl, Nat.le_of_ble_eq_true rfl⟩ ⟨Nat.zero_le _, Nat.zero_le _⟩ hl rfl (Nat.le_of_ble_eq_true rfl) dX7_coordinate_34 ?_
        refine lv_goto (tgt := 53) (pc := 37) hx hb dX7_coordinate_37 (by decide) ?_
        obtain rfl := Option.some.inj h
        exact W.iret hx hb hr (fun t ht hW => ⟨⟨rfl, by rw [ht]; exact hP⟩, hS.F ht⟩) hS.2.2 dX7_coordinate_53 hlk
  · have h := it_t c2 h
    refine lv_aload_n (pc := 13) hx hb dX7_coordinate_13 rfl (lv_at hl 0 rfl) ?_
    refine lv_iconst (v := (1 : Int32)) (pc := 14) hx hb dX7_coordinate_14 (by decide) ?_
    refine wrVi (pc := 15) (As := [.int (1 : Int32)]) (rest := []) (ws2 := wMod K ad ((s_Mod_raises (1 : Int32)).2) mnow mold mols msav miss minp mlen mat medg mcor mtri mkep mkee mwor mnum mmet) (as9 := [ad 0, ad 1, ad 2, ad 3, ad 4, ad 5, ad 6, ad 7, ad 8, ad 9, ad 10, ad 11]) hx hb hml hown hts hG hP hD hS (c_Mod_raises l K ad (0 : Int32) mnow mold mols msav miss minp mlen mat medg mcor mtri mkep mkee mwor mnum mmet (1 : Int32)) [0, 1, 2, 3, 4, 5, 6, 7, 8, 9, 10, 11] rfl rfl rfl rfl [.inl 0, .inl 1, .inl 2, .inl 3, .inl 4, .inl 5, .inl 6, .inl 7, .inl 8, .inl 9, .inl 10, .inl 11] (by decide +kernel) rfl (q0 := 0) rfl (ci := 7) rfl g_Mod_172 hd_Mod_raises rfl ⟨Nat.le_of_ble_eq_true rfl, Nat.le_of_ble_eq_true rfl⟩ ⟨Nat.zero_le _, Nat.zero_le _⟩ hl rfl (Nat.le_of_ble_eq_true rfl) dX7_coordinate_15 (fun H locs hP hD hS => ?_)
    obtain rfl := Option.some.inj h
    exact W.iret hx hb hr (fun t ht hW => ⟨⟨rfl, by rw [ht]; exact hP⟩, hS.F ht⟩) hS.2.2 dX7_coordinate_18 hlk
set_option maxHeartbeats 4000000 in
set_option maxRecDepth 100000 in
theorem l_Mod_addConstraint_L79 {p : Program} {l : Launch} {e : Env} {s : State} {m : MethodId} {args : Array Value} {below : List Frame} {meth : Method} {c : Code} {Q : State → Prop} {K : KT} {A : Nat → Prop} (C0 : Ctx p m c cX7_addConstraint 4 s args RX7 K meth (some .int)) (F : Nat) (ad : Nat → Nat) (mthr : Int32) (mnow : Nat → Int32) (mold : Nat → Int32) (mols : Int32) (msav : Nat → Int32) (miss : Bool) (minp : Nat → Int32) (mlen : Int32) (mat : Int32) (medg : Nat → Int32) (mcor : Nat → Int32) (mtri : Int32) (mkep : Nat → Int32) (mkee : Nat → Int32) (mwor : Nat → Int32) (mnum : Nat → Int32) (mmet : Nat → Int32) (x1 : Int32) (x2 : Int32)  : ∀ (n : Nat) (x3 : Int32) (out : (Int32 × Int32 × (Nat → Int32) × (Nat → Int32) × Int32) ⊕ (Int32)), s_Mod_addConstraint_L79 mnow mold mols x1 x2 n x3 = some out → ∀ (H : Heap) (locs : List Loc) (ls : Array Slot), va_P K.1 vC (wMod K ad mthr mnow mold mols msav miss minp mlen mat medg mcor mtri mkep mkee mwor mnum mmet) H → va_D A (wMod K ad mthr mnow mold mols msav miss minp mlen mat medg mcor mtri mkep mkee mwor mnum mmet) → va_S A s.heap H locs → lv_has ls 4 [(0, .ref (ad 0)), (1, .int x1), (2, .int x2), (3, .int x3)] → (∀ (o : Int32) (H : Heap) (locs : List Loc) (ls : Array Slot), out = .inr o → va_P K.1 vC (wMod K ad mthr mnow mold mols msav miss minp mlen mat medg mcor mtri mkep mkee mwor mnum mmet) H → va_D A (wMod K ad mthr mnow mold mols msav miss minp mlen mat medg mcor mtri mkep mkee mwor mnum mmet) → va_S A s.heap H locs → lv_has ls 4 [(0, .ref (ad 0)), (1, .int x1), (2, .int x2), (3, .int o)] → W p l e (rmL 4) s m args below meth c H locs 0 0 Q (F0 m 120 ls [])) → (∀ (o : Int32 × Int32 × (Nat → Int32) × (Nat → Int32) × Int32) (H : Heap) (locs : List Loc) (pcR : Nat) (ls : Array Slot), out = .inl o → va_P K.1 vC (wMod K ad o.2.1 o.2.2.1 o.2.2.2.1 o.2.2.2.2 msav miss minp mlen mat medg mcor mtri mkep mkee mwor mnum mmet) H → va_D A (wMod K ad o.2.1 o.2.2.1 o.2.2.2.1 o.2.2.2.2 msav miss minp mlen mat medg mcor mtri mkep mkee mwor mnum mmet) → va_S A s.heap H locs → decode cX7_addConstraint pcR = .ok (.ireturn, 1) → W p l e (rmL 4) s m args below meth c H locs 0 0 Q (F0 m pcR ls [.int o.1])) → W p l e (rmL 4) s m args below meth c H locs 0 0 Q (F0 m 79 ls []) := by
  obtain ⟨hx, hb, hml, hown, hts, hG, hr, hlk⟩ := id C0
  intro n
  induction n with
  | zero =>
    intro x3 out h
    cases h
  | succ n ih =>
    intro x3 out h H locs ls hP hD hS hl Kx Kr
    rw [s_Mod_addConstraint_L79.eq_2] at h
    refine lv_iload_n (pc := 79) hx hb dX7_addConstraint_79 rfl (lv_at hl 3 rfl) ?_
    refine lv_aload_n (pc := 80) hx hb dX7_addConstraint_80 rfl (lv_at hl 0 rfl) ?_
    obtain ⟨v12, h_v12, h⟩ := ob h
    refine rdV (pc := 81) (As := []) (rest := [.int x3]) hx hb hml hown hts hG hP (c_Mod_m l K ad mthr mnow mold mols msav miss minp mlen mat medg mcor mtri mkep mkee mwor mnum mmet h_v12) [0, 1, 2, 3, 4, 5, 6, 7, 8, 9, 10, 11] rfl (q0 := 0) rfl (ci := 7) rfl g_Mod_56 hd_Mod_m rfl ⟨Nat.le_of_ble_eq_true rfl, Nat.le_of_ble_eq_true rfl⟩ ⟨Nat.zero_le _, Nat.zero_le _⟩ hl rfl (Nat.le_of_ble_eq_true rfl) dX7_addConstraint_81 ?_
    refine lv_icmp_ge (tgt := 120) (pc := 84) hx hb dX7_addConstraint_84 (by decide) (fun c13 => ?_) (fun c13 => ?_)
    · have h := it_t c13 h
      obtain rfl := Option.some.inj h
      exact Kx _ H locs ls rfl hP hD hS (lv_sub hl [0, 1, 2, 3] rfl)
    · have h := it_f c13 h
      refine lv_aload_n (pc := 87) hx hb dX7_addConstraint_87 rfl (lv_at hl 0 rfl) ?_
      refine lv_iload_n (pc := 88) hx hb dX7_addConstraint_88 rfl (lv_at hl 1 rfl) ?_
      refine lv_iload_n (pc := 89) hx hb dX7_addConstraint_89 rfl (lv_at hl 2 rfl) ?_
      refine lv_aload_n (pc := 90) hx hb dX7_addConstraint_90 rfl (lv_at hl 0 rfl) ?_
      refine lv_iload_n (pc := 91) hx hb dX7_addConstraint_91 rfl (lv_at hl 3 rfl) ?_
      refine lv_iconst (v := (0 : Int32)) (pc := 92) hx hb dX7_addConstraint_92 (by decide) ?_
      obtain ⟨v14, h_v14, h⟩ := ob h
      refine rdV (pc := 93) (As := [.int x3, .int (0 : Int32)]) (rest := [.int x2, .int x1, .ref (ad 0)]) hx hb hml hown hts hG hP (c_Mod_end l K ad mthr mnow mold mols msav miss minp mlen mat medg mcor mtri mkep mkee mwor mnum mmet x3 (0 : Int32) h_v14) [0, 1, 2, 3, 4, 5, 6, 7, 8, 9, 10, 11] rfl (q0 := 0) rfl (ci := 7) rfl g_Mod_101 hd_Mod_end rfl ⟨Nat.le_of_ble_eq_true rfl, Nat.le_of_ble_eq_true rfl⟩ ⟨Nat.zero_le _, Nat.zero_le _⟩ hl rfl (Nat.le_of_ble_eq_true rfl) dX7_addConstraint_93 ?_
      refine lv_aload_n (pc := 96) hx hb dX7_addConstraint_96 rfl (lv_at hl 0 rfl) ?_
      refine lv_iload_n (pc := 97) hx hb dX7_addConstraint_97 rfl (lv_at hl 3 rfl) ?_
      refine lv_iconst (v := (1 : Int32)) (pc := 98) hx hb dX7_addConstraint_98 (by decide) ?_
      obtain ⟨v15, h_v15, h⟩ := ob h
      refine rdV (pc := 99) (As := [.int x3, .int (1 : Int32)]) (rest := [.int v14, .int x2, .int x1, .ref (ad 0)]) hx hb hml hown hts hG hP (c_Mod_end l K ad mthr mnow mold mols msav miss minp mlen mat medg mcor mtri mkep mkee mwor mnum mmet x3 (1 : Int32) h_v15) [0, 1, 2, 3, 4, 5, 6, 7, 8, 9, 10, 11] rfl (q0 := 0) rfl (ci := 7) rfl g_Mod_101 hd_Mod_end rfl ⟨Nat.le_of_ble_eq_true rfl, Nat.le_of_ble_eq_true rfl⟩ ⟨Nat.zero_le _, Nat.zero_le _⟩ hl rfl (Nat.le_of_ble_eq_true rfl) dX7_addConstraint_99 ?_
      obtain ⟨v16, h_v16, h⟩ := ob h
      refine rdV (pc := 102) (As := [.int x1, .int x2, .int v14, .int v15]) (rest := []) hx hb hml hown hts hG hP (c_Mod_cross l K ad mthr mnow mold mols msav miss minp mlen mat medg mcor mtri mkep mkee mwor mnum mmet x1 x2 v14 v15 h_v16) [0, 1, 2, 3, 4, 5, 6, 7, 8, 9, 10, 11] rfl (q0 := 0) rfl (ci := 7) rfl g_Mod_111 hd_Mod_cross rfl ⟨Nat.le_of_ble_eq_true rfl, Nat.le_of_ble_eq_true rfl⟩ ⟨Nat.zero_le _, Nat.zero_le _⟩ hl rfl (Nat.le_of_ble_eq_true rfl) dX7_addConstraint_102 ?_
      refine lv_if_eq (tgt := 114) (pc := 105) hx hb dX7_addConstraint_105 (by decide) (fun c17 => ?_) (fun c17 => ?_)
      · have h := it_t c17 h
        refine lv_iinc (v := (x3 + (1 : Int32))) (pc := 114) (lv' := [(3, .int (x3 + (1 : Int32))), (0, .ref (ad 0)), (1, .int x1), (2, .int x2)]) hx hb dX7_addConstraint_114 hl (k := 3) rfl rfl (by decide) rfl (fun ls hl => ?_)
        refine lv_goto (tgt := 79) (pc := 117) hx hb dX7_addConstraint_117 (by decide) ?_
        exact ih (x3 + (1 : Int32)) out h H locs ls hP hD hS (lv_sub hl [1, 2, 3, 0] rfl) Kx Kr
      · have h := it_f c17 h
        refine lv_aload_n (pc := 108) hx hb dX7_addConstraint_108 rfl (lv_at hl 0 rfl) ?_
        refine lv_iconst (v := (4 : Int32)) (pc := 109) hx hb dX7_addConstraint_109 (by decide) ?_
        refine wrVi (pc := 110) (As := [.int (4 : Int32)]) (rest := []) (ws2 := wMod K ad ((s_Mod_raises (4 : Int32)).2) mnow mold mols msav miss minp mlen mat medg mcor mtri mkep mkee mwor mnum mmet) (as9 := [ad 0, ad 1, ad 2, ad 3, ad 4, ad 5, ad 6, ad 7, ad 8, ad 9, ad 10, ad 11]) hx hb hml hown hts hG hP hD hS (c_Mod_raises l K ad mthr mnow mold mols msav miss minp mlen mat medg mcor mtri mkep mkee mwor mnum mmet (4 : Int32)) [0, 1, 2, 3, 4, 5, 6, 7, 8, 9, 10, 11] rfl rfl rfl rfl [.inl 0, .inl 1, .inl 2, .inl 3, .inl 4, .inl 5, .inl 6, .inl 7, .inl 8, .inl 9, .inl 10, .inl 11] (by decide +kernel) rfl (q0 := 0) rfl (ci := 7) rfl g_Mod_172 hd_Mod_raises rfl ⟨Nat.le_of_ble_eq_true rfl, Nat.le_of_ble_eq_true rfl⟩ ⟨Nat.zero_le _, Nat.zero_le _⟩ hl rfl (Nat.le_of_ble_eq_true rfl) dX7_addConstraint_110 (fun H locs hP hD hS => ?_)
        obtain rfl := Option.some.inj h
        exact Kr _ _ _ _ _ rfl hP hD hS dX7_addConstraint_113
set_option maxHeartbeats 4000000 in
set_option maxRecDepth 100000 in
theorem c_Mod_addConstraint (l : Launch) (K : KT) (ad : Nat → Nat) (mthr : Int32) (mnow : Nat → Int32) (mold : Nat → Int32) (mols : Int32) (msav : Nat → Int32) (miss : Bool) (minp : Nat → Int32) (mlen : Int32) (mat : Int32) (medg : Nat → Int32) (mcor : Nat → Int32) (mtri : Int32) (mkep : Nat → Int32) (mkee : Nat → Int32) (mwor : Nat → Int32) (mnum : Nat → Int32) (mmet : Nat → Int32) (a0 : Int32) (a1 : Int32) (F : Nat) {o : Int32 × Int32 × (Nat → Int32) × (Nat → Int32) × Int32} (h : s_Mod_addConstraint F mnow mold mols a0 a1 = some o) : Wr l K 4 yX7_addConstraint cX7_addConstraint 4 (some .int) [.ref (ad 0), .int a0, .int a1] (wMod K ad mthr mnow mold mols msav miss minp mlen mat medg mcor mtri mkep mkee mwor mnum mmet) (some (.int o.1)) (wMod K ad o.2.1 o.2.2.1 o.2.2.2.1 o.2.2.2.2 msav miss minp mlen mat medg mcor mtri mkep mkee mwor mnum mmet) := by
  refine Wr.of (by decide +kernel) (Nat.le_of_ble_eq_true rfl) ?_
  unfold s_Mod_addConstraint at h
  intro p e s m below meth c hx hb hr hml hown hts hlk H locs hP hG hD hS ls hl
  have C0 : Ctx p m c cX7_addConstraint 4 s (Array.mk [.ref (ad 0), .int a0, .int a1]) RX7 K meth (some .int) := ⟨hx, hb, hml, hown, hts, hG, hr, hlk⟩
  have hl : lv_has ls 4 [(0, .ref (ad 0)), (1, .int a0), (2, .int a1)] := hl
  refine lv_aload_n (pc := 0) hx hb dX7_addConstraint_0 rfl (lv_at hl 0 rfl) ?_
  refine lv_iconst (v := (0 : Int32)) (pc := 1) hx hb dX7_addConstraint_1 (by decide) ?_
  refine va_put (D := K.1) (ci := 7) (v := .int (0 : Int32)) (ty := .int) (C := RX7) (T := TX7) (N := 17) (pc := 2) hx hb hts inT7 tyX7 tyX7_ok nmX7 hown hG.1 hP hD hS 0 rfl rfl 0 (by decide) (hts _ qf_Mod_44) (fun _ h9 => h9) rfl (by decide +kernel) rfl rfl (Nat.le_of_ble_eq_true rfl) dX7_addConstraint_2 (fun H locs hP hD hS => ?_)
  have hP : va_P K.1 vC (wMod K ad (0 : Int32) mnow mold mols msav miss minp mlen mat medg mcor mtri mkep mkee mwor mnum mmet) H := hP
  have hD : va_D _ (wMod K ad (0 : Int32) mnow mold mols msav miss minp mlen mat medg mcor mtri mkep mkee mwor mnum mmet) := hD
  refine lv_aload_n (pc := 5) hx hb dX7_addConstraint_5 rfl (lv_at hl 0 rfl) ?_
  refine lv_iload_n (pc := 6) hx hb dX7_addConstraint_6 rfl (lv_at hl 1 rfl) ?_
  obtain ⟨v1, h_v1, h⟩ := ob h
  refine rdV (pc := 7) (As := [.int a0]) (rest := []) hx hb hml hown hts hG hP (c_Mod_isPoint l K ad (0 : Int32) mnow mold mols msav miss minp mlen mat medg mcor mtri mkep mkee mwor mnum mmet a0 h_v1) [0, 1, 2, 3, 4, 5, 6, 7, 8, 9, 10, 11] rfl (q0 := 0) rfl (ci := 7) rfl g_Mod_168 hd_Mod_isPoint rfl ⟨Nat.le_of_ble_eq_true rfl, Nat.le_of_ble_eq_true rfl⟩ ⟨Nat.zero_le _, Nat.zero_le _⟩ hl rfl (Nat.le_of_ble_eq_true rfl) dX7_addConstraint_7 ?_
  refine lv_if_eq (tgt := 21) (pc := 10) hx hb dX7_addConstraint_10 (by decide) (fun c2 => ?_) (fun c2 => ?_)
  · have h := it_t c2 h
    refine lv_aload_n (pc := 21) hx hb dX7_addConstraint_21 rfl (lv_at hl 0 rfl) ?_
    refine lv_iconst (v := (1 : Int32)) (pc := 22) hx hb dX7_addConstraint_22 (by decide) ?_
    refine wrVi (pc := 23) (As := [.int (1 : Int32)]) (rest := []) (ws2 := wMod K ad ((s_Mod_raises (1 : Int32)).2) mnow mold mols msav miss minp mlen mat medg mcor mtri mkep mkee mwor mnum mmet) (as9 := [ad 0, ad 1, ad 2, ad 3, ad 4, ad 5, ad 6, ad 7, ad 8, ad 9, ad 10, ad 11]) hx hb hml hown hts hG hP hD hS (c_Mod_raises l K ad (0 : Int32) mnow mold mols msav miss minp mlen mat medg mcor mtri mkep mkee mwor mnum mmet (1 : Int32)) [0, 1, 2, 3, 4, 5, 6, 7, 8, 9, 10, 11] rfl rfl rfl rfl [.inl 0, .inl 1, .inl 2, .inl 3, .inl 4, .inl 5, .inl 6, .inl 7, .inl 8, .inl 9, .inl 10, .inl 11] (by decide +kernel) rfl (q0 := 0) rfl (ci := 7) rfl g_Mod_172 hd_Mod_raises rfl ⟨Nat.le_of_ble_eq_true rfl, Nat.le_of_ble_eq_true rfl⟩ ⟨Nat.zero_le _, Nat.zero_le _⟩ hl rfl (Nat.le_of_ble_eq_true rfl) dX7_addConstraint_23 (fun H locs hP hD hS => ?_)
    obtain rfl := Option.some.inj h
    exact W.iret hx hb hr (fun t ht hW => ⟨⟨rfl, by rw [ht]; exact hP⟩, hS.F ht⟩) hS.2.2 dX7_addConstraint_26 hlk
  · have h := it_f c2 h
    refine lv_aload_n (pc := 13) hx hb dX7_addConstraint_13 rfl (lv_at hl 0 rfl) ?_
    refine lv_iload_n (pc := 14) hx hb dX7_addConstraint_14 rfl (lv_at hl 2 rfl) ?_
    obtain ⟨v3, h_v3, h⟩ := ob h
    refine rdV (pc := 15) (As := [.int a1]) (rest := []) hx hb hml hown hts hG hP (c_Mod_isPoint l K ad (0 : Int32) mnow mold mols msav miss minp mlen mat medg mcor mtri mkep mkee mwor mnum mmet a1 h_v3) [0, 1, 2, 3, 4, 5, 6, 7, 8, 9, 10, 11] rfl (q0 := 0) rfl (ci := 7) rfl g_Mod_168 hd_Mod_isPoint rfl ⟨Nat.le_of_ble_eq_true rfl, Nat.le_of_ble_eq_true rfl⟩ ⟨Nat.zero_le _, Nat.zero_le _⟩ hl rfl (Nat.le_of_ble_eq_true rfl) dX7_addConstraint_15 ?_
    refine lv_if_ne (tgt := 27) (pc := 18) hx hb dX7_addConstraint_18 (by decide) (fun c4 => ?_) (fun c4 => ?_)
    · have h := it_f c4 h
      refine lv_iload_n (pc := 27) hx hb dX7_addConstraint_27 rfl (lv_at hl 1 rfl) ?_
      refine lv_iload_n (pc := 28) hx hb dX7_addConstraint_28 rfl (lv_at hl 2 rfl) ?_
      refine lv_icmp_ne (tgt := 38) (pc := 29) hx hb dX7_addConstraint_29 (by decide) (fun c5 => ?_) (fun c5 => ?_)
      · have h := it_f c5 h
        refine lv_aload_n (pc := 38) hx hb dX7_addConstraint_38 rfl (lv_at hl 0 rfl) ?_
        obtain ⟨v6, h_v6, h⟩ := ob h
        refine rdV (pc := 39) (As := []) (rest := []) hx hb hml hown hts hG hP (c_Mod_m l K ad (0 : Int32) mnow mold mols msav miss minp mlen mat medg mcor mtri mkep mkee mwor mnum mmet h_v6) [0, 1, 2, 3, 4, 5, 6, 7, 8, 9, 10, 11] rfl (q0 := 0) rfl (ci := 7) rfl g_Mod_56 hd_Mod_m rfl ⟨Nat.le_of_ble_eq_true rfl, Nat.le_of_ble_eq_true rfl⟩ ⟨Nat.zero_le _, Nat.zero_le _⟩ hl rfl (Nat.le_of_ble_eq_true rfl) dX7_addConstraint_39 ?_
        refine lv_bipush (v := (10 : Int32)) (pc := 42) hx hb dX7_addConstraint_42 (by decide) ?_
        refine lv_icmp_ne (tgt := 53) (pc := 44) hx hb dX7_addConstraint_44 (by decide) (fun c7 => ?_) (fun c7 => ?_)
        · have h := it_f c7 h
          refine lv_aload_n (pc := 53) hx hb dX7_addConstraint_53 rfl (lv_at hl 0 rfl) ?_
          refine lv_iload_n (pc := 54) hx hb dX7_addConstraint_54 rfl (lv_at hl 1 rfl) ?_
          refine lv_iload_n (pc := 55) hx hb dX7_addConstraint_55 rfl (lv_at hl 2 rfl) ?_
          obtain ⟨v8, h_v8, h⟩ := ob h
          refine rdV (pc := 56) (As := [.int a0, .int a1]) (rest := []) hx hb hml hown hts hG hP (c_Mod_isTied l K ad (0 : Int32) mnow mold mols msav miss minp mlen mat medg mcor mtri mkep mkee mwor mnum mmet a0 a1 F h_v8) [0, 1, 2, 3, 4, 5, 6, 7, 8, 9, 10, 11] rfl (q0 := 0) rfl (ci := 7) rfl g_Mod_138 hd_Mod_isTied rfl ⟨Nat.le_of_ble_eq_true rfl, Nat.le_of_ble_eq_true rfl⟩ ⟨Nat.zero_le _, Nat.zero_le _⟩ hl rfl (Nat.le_of_ble_eq_true rfl) dX7_addConstraint_56 ?_
          refine lv_if_ne (tgt := 71) (pc := 59) hx hb dX7_addConstraint_59 (by decide) (fun c9 => ?_) (fun c9 => ?_)
          · have h := it_f c9 h
            refine lv_aload_n (pc := 71) hx hb dX7_addConstraint_71 rfl (lv_at hl 0 rfl) ?_
            refine lv_iconst (v := (4 : Int32)) (pc := 72) hx hb dX7_addConstraint_72 (by decide) ?_
            refine wrVi (pc := 73) (As := [.int (4 : Int32)]) (rest := []) (ws2 := wMod K ad ((s_Mod_raises (4 : Int32)).2) mnow mold mols msav miss minp mlen mat medg mcor mtri mkep mkee mwor mnum mmet) (as9 := [ad 0, ad 1, ad 2, ad 3, ad 4, ad 5, ad 6, ad 7, ad 8, ad 9, ad 10, ad 11]) hx hb hml hown hts hG hP hD hS (c_Mod_raises l K ad (0 : Int32) mnow mold mols msav miss minp mlen mat medg mcor mtri mkep mkee mwor mnum mmet (4 : Int32)) [0, 1, 2, 3, 4, 5, 6, 7, 8, 9, 10, 11] rfl rfl rfl rfl [.inl 0, .inl 1, .inl 2, .inl 3, .inl 4, .inl 5, .inl 6, .inl 7, .inl 8, .inl 9, .inl 10, .inl 11] (by decide +kernel) rfl (q0 := 0) rfl (ci := 7) rfl g_Mod_172 hd_Mod_raises rfl ⟨Nat.le_of_ble_eq_true rfl, Nat.le_of_ble_eq_true rfl⟩ ⟨Nat.zero_le _, Nat.zero_le _⟩ hl rfl (Nat.le_of_ble_eq_true rfl) dX7_addConstraint_73 (fun H locs hP hD hS => ?_)
            obtain rfl := Option.some.inj h
            exact W.iret hx hb hr (fun t ht hW => ⟨⟨rfl, by rw [ht]; exact hP⟩, hS.F ht⟩) hS.2.2 dX7_addConstraint_76 hlk
          · have h := it_t c9 h
            refine lv_aload_n (pc := 62) hx hb dX7_addConstraint_62 rfl (lv_at hl 0 rfl) ?_
            refine lv_iload_n (pc := 63) hx hb dX7_addConstraint_63 rfl (lv_at hl 1 rfl) ?_
            refine lv_iload_n (pc := 64) hx hb dX7_addConstraint_64 rfl (lv_at hl 2 rfl) ?_
            obtain ⟨v10, h_v10, h⟩ := ob h
            refine rdV (pc := 65) (As := [.int a0, .int a1]) (rest := []) hx hb hml hown hts hG hP (c_Mod_hasPointOn l K ad (0 : Int32) mnow mold mols msav miss minp mlen mat medg mcor mtri mkep mkee mwor mnum mmet a0 a1 F h_v10) [0, 1, 2, 3, 4, 5, 6, 7, 8, 9, 10, 11] rfl (q0 := 0) rfl (ci := 7) rfl g_Mod_121 hd_Mod_hasPointOn rfl ⟨Nat.le_of_ble_eq_true rfl, Nat.le_of_ble_eq_true rfl⟩ ⟨Nat.zero_le _, Nat.zero_le _⟩ hl rfl (Nat.le_of_ble_eq_true rfl) dX7_addConstraint_65 ?_
            refine lv_if_eq (tgt := 77) (pc := 68) hx hb dX7_addConstraint_68 (by decide) (fun c11 => ?_) (fun c11 => ?_)
            · have h := it_t c11 h
              refine lv_iconst (v := (0 : Int32)) (pc := 77) hx hb dX7_addConstraint_77 (by decide) ?_
              refine lv_istore_n (pc := 78) (lv' := [(3, .int (0 : Int32)), (0, .ref (ad 0)), (1, .int a0), (2, .int a1)]) hx hb dX7_addConstraint_78 rfl hl (by decide) rfl (fun ls hl => ?_)
              obtain ⟨o18, h_o18, h⟩ := ob h
              refine l_Mod_addConstraint_L79 C0 F ad (0 : Int32) mnow mold mols msav miss minp mlen mat medg mcor mtri mkep mkee mwor mnum mmet a0 a1 F (0 : Int32) _ h_o18 H locs ls hP hD hS (lv_sub hl [1, 2, 3, 0] rfl) (fun o18x H locs ls eo hP hD hS hl => ?_) (fun q_o H locs pcR ls eo hP hD hS hdR => ?_)
              · subst o18
                have h := se_r h
                refine lv_aload_n (pc := 120) hx hb dX7_addConstraint_120 rfl (lv_at hl 0 rfl) ?_
                obtain ⟨v19, h_v19, h⟩ := ob h
                refine wrVv (pc := 121) (As := []) (rest := []) (ws2 := wMod K ad (0 : Int32) mnow v19.1 v19.2 msav miss minp mlen mat medg mcor mtri mkep mkee mwor mnum mmet) (as9 := [ad 0, ad 1, ad 2, ad 3, ad 4, ad 5, ad 6, ad 7, ad 8, ad 9, ad 10, ad 11]) hx hb hml hown hts hG hP hD hS (c_Mod_records l K ad (0 : Int32) mnow mold mols msav miss minp mlen mat medg mcor mtri mkep mkee mwor mnum mmet F h_v19) [0, 1, 2, 3, 4, 5, 6, 7, 8, 9, 10, 11] rfl rfl rfl rfl [.inl 0, .inl 1, .inl 2, .inl 3, .inl 4, .inl 5, .inl 6, .inl 7, .inl 8, .inl 9, .inl 10, .inl 11] (by decide +kernel) rfl (q0 := 0) rfl (ci := 7) rfl g_Mod_162 hd_Mod_records rfl ⟨Nat.le_of_ble_eq_true rfl, Nat.le_of_ble_eq_true rfl⟩ ⟨Nat.zero_le _, Nat.zero_le _⟩ hl rfl (Nat.le_of_ble_eq_true rfl) dX7_addConstraint_121 (fun H locs hP hD hS => ?_)
                refine lv_bipush (v := (36 : Int32)) (pc := 124) hx hb dX7_addConstraint_124 (by decide) ?_
                refine lv_iconst (v := (2 : Int32)) (pc := 126) hx hb dX7_addConstraint_126 (by decide) ?_
                refine lv_aload_n (pc := 127) hx hb dX7_addConstraint_127 rfl (lv_at hl 0 rfl) ?_
                obtain ⟨v20, h_v20, h⟩ := ob h
                refine rdV (pc := 128) (As := []) (rest := [.int (2 : Int32), .int (36 : Int32)]) hx hb hml hown hts hG hP (c_Mod_m l K ad (0 : Int32) mnow v19.1 v19.2 msav miss minp mlen mat medg mcor mtri mkep mkee mwor mnum mmet h_v20) [0, 1, 2, 3, 4, 5, 6, 7, 8, 9, 10, 11] rfl (q0 := 0) rfl (ci := 7) rfl g_Mod_56 hd_Mod_m rfl ⟨Nat.le_of_ble_eq_true rfl, Nat.le_of_ble_eq_true rfl⟩ ⟨Nat.zero_le _, Nat.zero_le _⟩ hl rfl (Nat.le_of_ble_eq_true rfl) dX7_addConstraint_128 ?_
                refine lv_imul (pc := 131) hx hb dX7_addConstraint_131 ?_
                refine lv_iadd (pc := 132) hx hb dX7_addConstraint_132 ?_
                refine lv_istore_n (pc := 133) (lv' := [(3, .int ((36 : Int32) + ((2 : Int32) * v20))), (0, .ref (ad 0)), (1, .int a0), (2, .int a1)]) hx hb dX7_addConstraint_133 rfl hl (by decide) rfl (fun ls hl => ?_)
                refine lv_aload_n (pc := 134) hx hb dX7_addConstraint_134 rfl (lv_at hl 1 rfl) ?_
                refine va_get (D := K.1) (ci := 7) (v := .ref (ad 1)) (C := RX7) (T := TX7) (N := 17) (pc := 135) hx hb hts inT7 hown hG.1 hP 0 rfl rfl 1 (by decide) (hts _ qf_Mod_9) (fun _ h9 => h9) rfl dX7_addConstraint_135 ?_
                refine lv_iload_n (pc := 138) hx hb dX7_addConstraint_138 rfl (lv_at hl 0 rfl) ?_
                refine lv_iload_n (pc := 139) hx hb dX7_addConstraint_139 rfl (lv_at hl 2 rfl) ?_
                refine lv_iload_n (pc := 140) hx hb dX7_addConstraint_140 rfl (lv_at hl 3 rfl) ?_
                refine my_mmin (pc := 141) hx hb hml hl.1 hown hts qm_Mod_83 (Nat.le_of_ble_eq_true rfl) (Nat.le_of_ble_eq_true rfl) ⟨Nat.zero_le _, Nat.zero_le _⟩ dX7_addConstraint_141 ?_
                obtain ⟨v21, h_v21, h⟩ := ob h
                obtain ⟨hi_v21, e_v21⟩ := aset_in h_v21
                refine va_iast (pc := 144) hx hb hG.1 hP hD hS 1 0 rfl rfl hi_v21 dX7_addConstraint_144 (fun H locs hP hD hS => ?_)
                rw [e_v21] at hP hD
                have hP : va_P K.1 vC (wMod K ad (0 : Int32) v21 v19.1 v19.2 msav miss minp mlen mat medg mcor mtri mkep mkee mwor mnum mmet) H := hP
                have hD : va_D _ (wMod K ad (0 : Int32) v21 v19.1 v19.2 msav miss minp mlen mat medg mcor mtri mkep mkee mwor mnum mmet) := hD
                refine lv_aload_n (pc := 145) hx hb dX7_addConstraint_145 rfl (lv_at hl 1 rfl) ?_
                refine va_get (D := K.1) (ci := 7) (v := .ref (ad 1)) (C := RX7) (T := TX7) (N := 17) (pc := 146) hx hb hts inT7 hown hG.1 hP 0 rfl rfl 1 (by decide) (hts _ qf_Mod_9) (fun _ h9 => h9) rfl dX7_addConstraint_146 ?_
                refine lv_iload_n (pc := 149) hx hb dX7_addConstraint_149 rfl (lv_at hl 0 rfl) ?_
                refine lv_iconst (v := (1 : Int32)) (pc := 150) hx hb dX7_addConstraint_150 (by decide) ?_
                refine lv_iadd (pc := 151) hx hb dX7_addConstraint_151 ?_
                refine lv_iload_n (pc := 152) hx hb dX7_addConstraint_152 rfl (lv_at hl 2 rfl) ?_
                refine lv_iload_n (pc := 153) hx hb dX7_addConstraint_153 rfl (lv_at hl 3 rfl) ?_
                refine my_mmax (pc := 154) hx hb hml hl.1 hown hts qm_Mod_89 (Nat.le_of_ble_eq_true rfl) (Nat.le_of_ble_eq_true rfl) ⟨Nat.zero_le _, Nat.zero_le _⟩ dX7_addConstraint_154 ?_
                obtain ⟨v22, h_v22, h⟩ := ob h
                obtain ⟨hi_v22, e_v22⟩ := aset_in h_v22
                refine va_iast (pc := 157) hx hb hG.1 hP hD hS 1 0 rfl rfl hi_v22 dX7_addConstraint_157 (fun H locs hP hD hS => ?_)
                rw [e_v22] at hP hD
                have hP : va_P K.1 vC (wMod K ad (0 : Int32) v22 v19.1 v19.2 msav miss minp mlen mat medg mcor mtri mkep mkee mwor mnum mmet) H := hP
                have hD : va_D _ (wMod K ad (0 : Int32) v22 v19.1 v19.2 msav miss minp mlen mat medg mcor mtri mkep mkee mwor mnum mmet) := hD
                refine lv_aload_n (pc := 158) hx hb dX7_addConstraint_158 rfl (lv_at hl 1 rfl) ?_
                refine va_get (D := K.1) (ci := 7) (v := .ref (ad 1)) (C := RX7) (T := TX7) (N := 17) (pc := 159) hx hb hts inT7 hown hG.1 hP 0 rfl rfl 1 (by decide) (hts _ qf_Mod_9) (fun _ h9 => h9) rfl dX7_addConstraint_159 ?_
                refine lv_iconst (v := (1 : Int32)) (pc := 162) hx hb dX7_addConstraint_162 (by decide) ?_
                refine lv_dup2_11 (pc := 163) hx hb dX7_addConstraint_163 rfl rfl ?_
                obtain ⟨v23, h_v23, h⟩ := ob h
                obtain ⟨hi_v23, e_v23⟩ := aget_in h_v23
                refine va_iald (pc := 164) hx hb hG.1 hP 1 0 rfl rfl hi_v23 dX7_addConstraint_164 ?_
                rw [e_v23]
                refine lv_dup_x2 (pc := 165) hx hb dX7_addConstraint_165 rfl rfl rfl ?_
                refine lv_iconst (v := (1 : Int32)) (pc := 166) hx hb dX7_addConstraint_166 (by decide) ?_
                refine lv_iadd (pc := 167) hx hb dX7_addConstraint_167 ?_
                obtain ⟨v24, h_v24, h⟩ := ob h
                obtain ⟨hi_v24, e_v24⟩ := aset_in h_v24
                refine va_iast (pc := 168) hx hb hG.1 hP hD hS 1 0 rfl rfl hi_v24 dX7_addConstraint_168 (fun H locs hP hD hS => ?_)
                rw [e_v24] at hP hD
                have hP : va_P K.1 vC (wMod K ad (0 : Int32) v24 v19.1 v19.2 msav miss minp mlen mat medg mcor mtri mkep mkee mwor mnum mmet) H := hP
                have hD : va_D _ (wMod K ad (0 : Int32) v24 v19.1 v19.2 msav miss minp mlen mat medg mcor mtri mkep mkee mwor mnum mmet) := hD
                obtain rfl := Option.some.inj h
                exact W.iret hx hb hr (fun t ht hW => ⟨⟨rfl, by rw [ht]; exact hP⟩, hS.F ht⟩) hS.2.2 dX7_addConstraint_169 hlk
              · subst o18
                have h := se_l h
                obtain rfl := Option.some.inj h
                exact W.iret hx hb hr (fun t ht hW => ⟨⟨rfl, by rw [ht]; exact hP⟩, hS.F ht⟩) hS.2.2 hdR hlk
            · have h := it_f c11 h
              refine lv_aload_n (pc := 71) hx hb dX7_addConstraint_71 rfl (lv_at hl 0 rfl) ?_
              refine lv_iconst (v := (4 : Int32)) (pc := 72) hx hb dX7_addConstraint_72 (by decide) ?_
              refine wrVi (pc := 73) (As := [.int (4 : Int32)]) (rest := []) (ws2 := wMod K ad ((s_Mod_raises (4 : Int32)).2) mnow mold mols msav miss minp mlen mat medg mcor mtri mkep mkee mwor mnum mmet) (as9 := [ad 0, ad 1, ad 2, ad 3, ad 4, ad 5, ad 6, ad 7, ad 8, ad 9, ad 10, ad 11]) hx hb hml hown hts hG hP hD hS (c_Mod_raises l K ad (0 : Int32) mnow mold mols msav miss minp mlen mat medg mcor mtri mkep mkee mwor mnum mmet (4 : Int32)) [0, 1, 2, 3, 4, 5, 6, 7, 8, 9, 10, 11] rfl rfl rfl rfl [.inl 0, .inl 1, .inl 2, .inl 3, .inl 4, .inl 5, .inl 6, .inl 7, .inl 8, .inl 9, .inl 10, .inl 11] (by decide +kernel) rfl (q0 := 0) rfl (ci := 7) rfl g_Mod_172 hd_Mod_raises rfl ⟨Nat.le_of_ble_eq_true rfl, Nat.le_of_ble_eq_true rfl⟩ ⟨Nat.zero_le _, Nat.zero_le _⟩ hl rfl (Nat.le_of_ble_eq_true rfl) dX7_addConstraint_73 (fun H locs hP hD hS => ?_)
              obtain rfl := Option.some.inj h
              exact W.iret hx hb hr (fun t ht hW => ⟨⟨rfl, by rw [ht]; exact hP⟩, hS.F ht⟩) hS.2.2 dX7_addConstraint_76 hlk
        · have h := it_t c7 h
          refine lv_aload_n (pc := 47) hx hb dX7_addConstraint_47 rfl (lv_at hl 0 rfl) ?_
          refine lv_iconst (v := (3 : Int32)) (pc := 48) hx hb dX7_addConstraint_48 (by decide) ?_
          refine wrVi (pc := 49) (As := [.int (3 : Int32)]) (rest := []) (ws2 := wMod K ad ((s_Mod_raises (3 : Int32)).2) mnow mold mols msav miss minp mlen mat medg mcor mtri mkep mkee mwor mnum mmet) (as9 := [ad 0, ad 1, ad 2, ad 3, ad 4, ad 5, ad 6, ad 7, ad 8, ad 9, ad 10, ad 11]) hx hb hml hown hts hG hP hD hS (c_Mod_raises l K ad (0 : Int32) mnow mold mols msav miss minp mlen mat medg mcor mtri mkep mkee mwor mnum mmet (3 : Int32)) [0, 1, 2, 3, 4, 5, 6, 7, 8, 9, 10, 11] rfl rfl rfl rfl [.inl 0, .inl 1, .inl 2, .inl 3, .inl 4, .inl 5, .inl 6, .inl 7, .inl 8, .inl 9, .inl 10, .inl 11] (by decide +kernel) rfl (q0 := 0) rfl (ci := 7) rfl g_Mod_172 hd_Mod_raises rfl ⟨Nat.le_of_ble_eq_true rfl, Nat.le_of_ble_eq_true rfl⟩ ⟨Nat.zero_le _, Nat.zero_le _⟩ hl rfl (Nat.le_of_ble_eq_true rfl) dX7_addConstraint_49 (fun H locs hP hD hS => ?_)
          obtain rfl := Option.some.inj h
          exact W.iret hx hb hr (fun t ht hW => ⟨⟨rfl, by rw [ht]; exact hP⟩, hS.F ht⟩) hS.2.2 dX7_addConstraint_52 hlk
      · have h := it_t c5 h
        refine lv_aload_n (pc := 32) hx hb dX7_addConstraint_32 rfl (lv_at hl 0 rfl) ?_
        refine lv_iconst (v := (2 : Int32)) (pc := 33) hx hb dX7_addConstraint_33 (by decide) ?_
        refine wrVi (pc := 34) (As := [.int (2 : Int32)]) (rest := []) (ws2 := wMod K ad ((s_Mod_raises (2 : Int32)).2) mnow mold mols msav miss minp mlen mat medg mcor mtri mkep mkee mwor mnum mmet) (as9 := [ad 0, ad 1, ad 2, ad 3, ad 4, ad 5, ad 6, ad 7, ad 8, ad 9, ad 10, ad 11]) hx hb hml hown hts hG hP hD hS (c_Mod_raises l K ad (0 : Int32) mnow mold mols msav miss minp mlen mat medg mcor mtri mkep mkee mwor mnum mmet (2 : Int32)) [0, 1, 2, 3, 4, 5, 6, 7, 8, 9, 10, 11] rfl rfl rfl rfl [.inl 0, .inl 1, .inl 2, .inl 3, .inl 4, .inl 5, .inl 6, .inl 7, .inl 8, .inl 9, .inl 10, .inl 11] (by decide +kernel) rfl (q0 := 0) rfl (ci := 7) rfl g_Mod_172 hd_Mod_raises rfl ⟨Nat.le_of_ble_eq_true rfl, Nat.le_of_ble_eq_true rfl⟩ ⟨Nat.zero_le _, Nat.zero_le _⟩ hl rfl (Nat.le_of_ble_eq_true rfl) dX7_addConstraint_34 (fun H locs hP hD hS => ?_)
        obtain rfl := Option.some.inj h
        exact W.iret hx hb hr (fun t ht hW => ⟨⟨rfl, by rw [ht]; exact hP⟩, hS.F ht⟩) hS.2.2 dX7_addConstraint_37 hlk
    · have h := it_t c4 h
      refine lv_aload_n (pc := 21) hx hb dX7_addConstraint_21 rfl (lv_at hl 0 rfl) ?_
      refine lv_iconst (v := (1 : Int32)) (pc := 22) hx hb dX7_addConstraint_22 (by decide) ?_
      refine wrVi (pc := 23) (As := [.int (1 : Int32)]) (rest := []) (ws2 := wMod K ad ((s_Mod_raises (1 : Int32)).2) mnow mold mols msav miss minp mlen mat medg mcor mtri mkep mkee mwor mnum mmet) (as9 := [ad 0, ad 1, ad 2, ad 3, ad 4, ad 5, ad 6, ad 7, ad 8, ad 9, ad 10, ad 11]) hx hb hml hown hts hG hP hD hS (c_Mod_raises l K ad (0 : Int32) mnow mold mols msav miss minp mlen mat medg mcor mtri mkep mkee mwor mnum mmet (1 : Int32)) [0, 1, 2, 3, 4, 5, 6, 7, 8, 9, 10, 11] rfl rfl rfl rfl [.inl 0, .inl 1, .inl 2, .inl 3, .inl 4, .inl 5, .inl 6, .inl 7, .inl 8, .inl 9, .inl 10, .inl 11] (by decide +kernel) rfl (q0 := 0) rfl (ci := 7) rfl g_Mod_172 hd_Mod_raises rfl ⟨Nat.le_of_ble_eq_true rfl, Nat.le_of_ble_eq_true rfl⟩ ⟨Nat.zero_le _, Nat.zero_le _⟩ hl rfl (Nat.le_of_ble_eq_true rfl) dX7_addConstraint_23 (fun H locs hP hD hS => ?_)
      obtain rfl := Option.some.inj h
      exact W.iret hx hb hr (fun t ht hW => ⟨⟨rfl, by rw [ht]; exact hP⟩, hS.F ht⟩) hS.2.2 dX7_addConstraint_26 hlk
set_option maxHeartbeats 4000000 in
set_option maxRecDepth 100000 in
theorem l_Mod_unties_L4 {p : Program} {l : Launch} {e : Env} {s : State} {m : MethodId} {args : Array Value} {below : List Frame} {meth : Method} {c : Code} {Q : State → Prop} {K : KT} {A : Nat → Prop} (C0 : Ctx p m c cX7_unties 3 s args RX7 K meth none) (F : Nat) (ad : Nat → Nat) (mthr : Int32) (mold : Nat → Int32) (mols : Int32) (msav : Nat → Int32) (miss : Bool) (minp : Nat → Int32) (mlen : Int32) (mat : Int32) (medg : Nat → Int32) (mcor : Nat → Int32) (mtri : Int32) (mkep : Nat → Int32) (mkee : Nat → Int32) (mwor : Nat → Int32) (mnum : Nat → Int32) (mmet : Nat → Int32)  : ∀ (n : Nat) (x2 : Int32) (mnow : Nat → Int32) (out : Int32 × (Nat → Int32)), s_Mod_unties_L4  n x2 mnow = some out → ∀ (H : Heap) (locs : List Loc) (ls : Array Slot), va_P K.1 vC (wMod K ad mthr mnow mold mols msav miss minp mlen mat medg mcor mtri mkep mkee mwor mnum mmet) H → va_D A (wMod K ad mthr mnow mold mols msav miss minp mlen mat medg mcor mtri mkep mkee mwor mnum mmet) → va_S A s.heap H locs → lv_has ls 3 [(0, .ref (ad 0)), (2, .int x2)] → (∀ (o : Int32 × (Nat → Int32)) (H : Heap) (locs : List Loc) (ls : Array Slot), out = o → va_P K.1 vC (wMod K ad mthr o.2 mold mols msav miss minp mlen mat medg mcor mtri mkep mkee mwor mnum mmet) H → va_D A (wMod K ad mthr o.2 mold mols msav miss minp mlen mat medg mcor mtri mkep mkee mwor mnum mmet) → va_S A s.heap H locs → lv_has ls 3 [(0, .ref (ad 0)), (2, .int o.1)] → W p l e (rmL 1) s m args below meth c H locs 0 0 Q (F0 m 42 ls [])) → W p l e (rmL 1) s m args below meth c H locs 0 0 Q (F0 m 4 ls []) := by
  obtain ⟨hx, hb, hml, hown, hts, hG, hr, hlk⟩ := id C0
  intro n
  induction n with
  | zero =>
    intro x2 mnow out h
    cases h
  | succ n ih =>
    intro x2 mnow out h H locs ls hP hD hS hl Kx 
    rw [s_Mod_unties_L4.eq_2] at h
    refine lv_iload_n (pc := 4) hx hb dX7_unties_4 rfl (lv_at hl 1 rfl) ?_
    refine lv_iconst (v := (2 : Int32)) (pc := 5) hx hb dX7_unties_5 (by decide) ?_
    refine lv_iadd (pc := 6) hx hb dX7_unties_6 ?_
    refine lv_iconst (v := (2 : Int32)) (pc := 7) hx hb dX7_unties_7 (by decide) ?_
    refine lv_aload_n (pc := 8) hx hb dX7_unties_8 rfl (lv_at hl 0 rfl) ?_
    obtain ⟨v1, h_v1, h⟩ := ob h
    refine rdV (pc := 9) (As := []) (rest := [.int (2 : Int32), .int (x2 + (2 : Int32))]) hx hb hml hown hts hG hP (c_Mod_m l K ad mthr mnow mold mols msav miss minp mlen mat medg mcor mtri mkep mkee mwor mnum mmet h_v1) [0, 1, 2, 3, 4, 5, 6, 7, 8, 9, 10, 11] rfl (q0 := 0) rfl (ci := 7) rfl g_Mod_56 hd_Mod_m rfl ⟨Nat.le_of_ble_eq_true rfl, Nat.le_of_ble_eq_true rfl⟩ ⟨Nat.zero_le _, Nat.zero_le _⟩ hl rfl (Nat.le_of_ble_eq_true rfl) dX7_unties_9 ?_
    refine lv_imul (pc := 12) hx hb dX7_unties_12 ?_
    refine lv_icmp_ge (tgt := 42) (pc := 13) hx hb dX7_unties_13 (by decide) (fun c2 => ?_) (fun c2 => ?_)
    · have h := it_t c2 h
      obtain rfl := Option.some.inj h
      exact Kx _ H locs ls rfl hP hD hS (lv_sub hl [0, 1] rfl)
    · have h := it_f c2 h
      refine lv_aload_n (pc := 16) hx hb dX7_unties_16 rfl (lv_at hl 0 rfl) ?_
      refine va_get (D := K.1) (ci := 7) (v := .ref (ad 1)) (C := RX7) (T := TX7) (N := 17) (pc := 17) hx hb hts inT7 hown hG.1 hP 0 rfl rfl 1 (by decide) (hts _ qf_Mod_9) (fun _ h9 => h9) rfl dX7_unties_17 ?_
      refine lv_bipush (v := (36 : Int32)) (pc := 20) hx hb dX7_unties_20 (by decide) ?_
      refine lv_iload_n (pc := 22) hx hb dX7_unties_22 rfl (lv_at hl 1 rfl) ?_
      refine lv_iadd (pc := 23) hx hb dX7_unties_23 ?_
      refine lv_aload_n (pc := 24) hx hb dX7_unties_24 rfl (lv_at hl 0 rfl) ?_
      refine va_get (D := K.1) (ci := 7) (v := .ref (ad 1)) (C := RX7) (T := TX7) (N := 17) (pc := 25) hx hb hts inT7 hown hG.1 hP 0 rfl rfl 1 (by decide) (hts _ qf_Mod_9) (fun _ h9 => h9) rfl dX7_unties_25 ?_
      refine lv_bipush (v := (36 : Int32)) (pc := 28) hx hb dX7_unties_28 (by decide) ?_
      refine lv_iload_n (pc := 30) hx hb dX7_unties_30 rfl (lv_at hl 1 rfl) ?_
      refine lv_iadd (pc := 31) hx hb dX7_unties_31 ?_
      refine lv_iconst (v := (2 : Int32)) (pc := 32) hx hb dX7_unties_32 (by decide) ?_
      refine lv_iadd (pc := 33) hx hb dX7_unties_33 ?_
      obtain ⟨v3, h_v3, h⟩ := ob h
      obtain ⟨hi_v3, e_v3⟩ := aget_in h_v3
      refine va_iald (pc := 34) hx hb hG.1 hP 1 0 rfl rfl hi_v3 dX7_unties_34 ?_
      rw [e_v3]
      obtain ⟨v4, h_v4, h⟩ := ob h
      obtain ⟨hi_v4, e_v4⟩ := aset_in h_v4
      refine va_iast (pc := 35) hx hb hG.1 hP hD hS 1 0 rfl rfl hi_v4 dX7_unties_35 (fun H locs hP hD hS => ?_)
      rw [e_v4] at hP hD
      have hP : va_P K.1 vC (wMod K ad mthr v4 mold mols msav miss minp mlen mat medg mcor mtri mkep mkee mwor mnum mmet) H := hP
      have hD : va_D _ (wMod K ad mthr v4 mold mols msav miss minp mlen mat medg mcor mtri mkep mkee mwor mnum mmet) := hD
      refine lv_iinc (v := (x2 + (1 : Int32))) (pc := 36) (lv' := [(2, .int (x2 + (1 : Int32))), (0, .ref (ad 0))]) hx hb dX7_unties_36 hl (k := 1) rfl rfl (by decide) rfl (fun ls hl => ?_)
      refine lv_goto (tgt := 4) (pc := 39) hx hb dX7_unties_39 (by decide) ?_
      exact ih (x2 + (1 : Int32)) v4 out h H locs ls hP hD hS (lv_sub hl [1, 0] rfl) Kx 
set_option maxHeartbeats 4000000 in
set_option maxRecDepth 100000 in
theorem c_Mod_unties (l : Launch) (K : KT) (ad : Nat → Nat) (mthr : Int32) (mnow : Nat → Int32) (mold : Nat → Int32) (mols : Int32) (msav : Nat → Int32) (miss : Bool) (minp : Nat → Int32) (mlen : Int32) (mat : Int32) (medg : Nat → Int32) (mcor : Nat → Int32) (mtri : Int32) (mkep : Nat → Int32) (mkee : Nat → Int32) (mwor : Nat → Int32) (mnum : Nat → Int32) (mmet : Nat → Int32) (a0 : Int32) (F : Nat) {o : (Nat → Int32)} (h : s_Mod_unties F mnow a0 = some o) : Wr l K 1 yX7_unties cX7_unties 3 none [.ref (ad 0), .int a0] (wMod K ad mthr mnow mold mols msav miss minp mlen mat medg mcor mtri mkep mkee mwor mnum mmet) none (wMod K ad mthr o mold mols msav miss minp mlen mat medg mcor mtri mkep mkee mwor mnum mmet) := by
  refine Wr.of (by decide +kernel) (Nat.le_of_ble_eq_true rfl) ?_
  unfold s_Mod_unties at h
  intro p e s m below meth c hx hb hr hml hown hts hlk H locs hP hG hD hS ls hl
  have C0 : Ctx p m c cX7_unties 3 s (Array.mk [.ref (ad 0), .int a0]) RX7 K meth none := ⟨hx, hb, hml, hown, hts, hG, hr, hlk⟩
  have hl : lv_has ls 3 [(0, .ref (ad 0)), (1, .int a0)] := hl
  refine lv_iconst (v := (2 : Int32)) (pc := 0) hx hb dX7_unties_0 (by decide) ?_
  refine lv_iload_n (pc := 1) hx hb dX7_unties_1 rfl (lv_at hl 1 rfl) ?_
  refine lv_imul (pc := 2) hx hb dX7_unties_2 ?_
  refine lv_istore_n (pc := 3) (lv' := [(2, .int ((2 : Int32) * a0)), (0, .ref (ad 0)), (1, .int a0)]) hx hb dX7_unties_3 rfl hl (by decide) rfl (fun ls hl => ?_)
  obtain ⟨o5, h_o5, h⟩ := ob h
  refine l_Mod_unties_L4 C0 F ad mthr mold mols msav miss minp mlen mat medg mcor mtri mkep mkee mwor mnum mmet F ((2 : Int32) * a0) mnow _ h_o5 H locs ls hP hD hS (lv_sub hl [1, 0] rfl) (fun o5x H locs ls eo hP hD hS hl => ?_)
  subst o5
  refine lv_aload_n (pc := 42) hx hb dX7_unties_42 rfl (lv_at hl 0 rfl) ?_
  refine va_get (D := K.1) (ci := 7) (v := .ref (ad 1)) (C := RX7) (T := TX7) (N := 17) (pc := 43) hx hb hts inT7 hown hG.1 hP 0 rfl rfl 1 (by decide) (hts _ qf_Mod_9) (fun _ h9 => h9) rfl dX7_unties_43 ?_
  refine lv_iconst (v := (1 : Int32)) (pc := 46) hx hb dX7_unties_46 (by decide) ?_
  refine lv_dup2_11 (pc := 47) hx hb dX7_unties_47 rfl rfl ?_
  obtain ⟨v6, h_v6, h⟩ := ob h
  obtain ⟨hi_v6, e_v6⟩ := aget_in h_v6
  refine va_iald (pc := 48) hx hb hG.1 hP 1 0 rfl rfl hi_v6 dX7_unties_48 ?_
  rw [e_v6]
  refine lv_iconst (v := (1 : Int32)) (pc := 49) hx hb dX7_unties_49 (by decide) ?_
  refine lv_isub (pc := 50) hx hb dX7_unties_50 ?_
  obtain ⟨v7, h_v7, h⟩ := ob h
  obtain ⟨hi_v7, e_v7⟩ := aset_in h_v7
  refine va_iast (pc := 51) hx hb hG.1 hP hD hS 1 0 rfl rfl hi_v7 dX7_unties_51 (fun H locs hP hD hS => ?_)
  rw [e_v7] at hP hD
  have hP : va_P K.1 vC (wMod K ad mthr v7 mold mols msav miss minp mlen mat medg mcor mtri mkep mkee mwor mnum mmet) H := hP
  have hD : va_D _ (wMod K ad mthr v7 mold mols msav miss minp mlen mat medg mcor mtri mkep mkee mwor mnum mmet) := hD
  obtain rfl := Option.some.inj h
  exact W.vret hx hb hr (fun t ht hW => ⟨⟨rfl, by rw [ht]; exact hP⟩, hS.F ht⟩) hS.2.2 dX7_unties_52 hlk
set_option maxHeartbeats 4000000 in
set_option maxRecDepth 100000 in
theorem c_Mod_removeConstraint (l : Launch) (K : KT) (ad : Nat → Nat) (mthr : Int32) (mnow : Nat → Int32) (mold : Nat → Int32) (mols : Int32) (msav : Nat → Int32) (miss : Bool) (minp : Nat → Int32) (mlen : Int32) (mat : Int32) (medg : Nat → Int32) (mcor : Nat → Int32) (mtri : Int32) (mkep : Nat → Int32) (mkee : Nat → Int32) (mwor : Nat → Int32) (mnum : Nat → Int32) (mmet : Nat → Int32) (a0 : Int32) (F : Nat) {o : Int32 × Int32 × (Nat → Int32) × (Nat → Int32) × Int32} (h : s_Mod_removeConstraint F mnow mold mols a0 = some o) : Wr l K 2 yX7_removeConstraint cX7_removeConstraint 2 (some .int) [.ref (ad 0), .int a0] (wMod K ad mthr mnow mold mols msav miss minp mlen mat medg mcor mtri mkep mkee mwor mnum mmet) (some (.int o.1)) (wMod K ad o.2.1 o.2.2.1 o.2.2.2.1 o.2.2.2.2 msav miss minp mlen mat medg mcor mtri mkep mkee mwor mnum mmet) := by
  refine Wr.of (by decide +kernel) (Nat.le_of_ble_eq_true rfl) ?_
  unfold s_Mod_removeConstraint at h
  intro p e s m below meth c hx hb hr hml hown hts hlk H locs hP hG hD hS ls hl
  have C0 : Ctx p m c cX7_removeConstraint 2 s (Array.mk [.ref (ad 0), .int a0]) RX7 K meth (some .int) := ⟨hx, hb, hml, hown, hts, hG, hr, hlk⟩
  have hl : lv_has ls 2 [(0, .ref (ad 0)), (1, .int a0)] := hl
  refine lv_aload_n (pc := 0) hx hb dX7_removeConstraint_0 rfl (lv_at hl 0 rfl) ?_
  refine lv_iconst (v := (0 : Int32)) (pc := 1) hx hb dX7_removeConstraint_1 (by decide) ?_
  refine va_put (D := K.1) (ci := 7) (v := .int (0 : Int32)) (ty := .int) (C := RX7) (T := TX7) (N := 17) (pc := 2) hx hb hts inT7 tyX7 tyX7_ok nmX7 hown hG.1 hP hD hS 0 rfl rfl 0 (by decide) (hts _ qf_Mod_44) (fun _ h9 => h9) rfl (by decide +kernel) rfl rfl (Nat.le_of_ble_eq_true rfl) dX7_removeConstraint_2 (fun H locs hP hD hS => ?_)
  have hP : va_P K.1 vC (wMod K ad (0 : Int32) mnow mold mols msav miss minp mlen mat medg mcor mtri mkep mkee mwor mnum mmet) H := hP
  have hD : va_D _ (wMod K ad (0 : Int32) mnow mold mols msav miss minp mlen mat medg mcor mtri mkep mkee mwor mnum mmet) := hD
  refine lv_aload_n (pc := 5) hx hb dX7_removeConstraint_5 rfl (lv_at hl 0 rfl) ?_
  refine lv_iload_n (pc := 6) hx hb dX7_removeConstraint_6 rfl (lv_at hl 1 rfl) ?_
  obtain ⟨v1, h_v1, h⟩ := ob h
  refine rdV (pc := 7) (As := [.int a0]) (rest := []) hx hb hml hown hts hG hP (c_Mod_isConstraint l K ad (0 : Int32) mnow mold mols msav miss minp mlen mat medg mcor mtri mkep mkee mwor mnum mmet a0 h_v1) [0, 1, 2, 3, 4, 5, 6, 7, 8, 9, 10, 11] rfl (q0 := 0) rfl (ci := 7) rfl g_Mod_182 hd_Mod_isConstraint rfl ⟨Nat.le_of_ble_eq_true rfl, Nat.le_of_ble_eq_true rfl⟩ ⟨Nat.zero_le _, Nat.zero_le _⟩ hl rfl (Nat.le_of_ble_eq_true rfl) dX7_removeConstraint_7 ?_
  refine lv_if_ne (tgt := 19) (pc := 10) hx hb dX7_removeConstraint_10 (by decide) (fun c2 => ?_) (fun c2 => ?_)
  · have h := it_f c2 h
    refine lv_aload_n (pc := 19) hx hb dX7_removeConstraint_19 rfl (lv_at hl 0 rfl) ?_
    obtain ⟨v3, h_v3, h⟩ := ob h
    refine wrVv (pc := 20) (As := []) (rest := []) (ws2 := wMod K ad (0 : Int32) mnow v3.1 v3.2 msav miss minp mlen mat medg mcor mtri mkep mkee mwor mnum mmet) (as9 := [ad 0, ad 1, ad 2, ad 3, ad 4, ad 5, ad 6, ad 7, ad 8, ad 9, ad 10, ad 11]) hx hb hml hown hts hG hP hD hS (c_Mod_records l K ad (0 : Int32) mnow mold mols msav miss minp mlen mat medg mcor mtri mkep mkee mwor mnum mmet F h_v3) [0, 1, 2, 3, 4, 5, 6, 7, 8, 9, 10, 11] rfl rfl rfl rfl [.inl 0, .inl 1, .inl 2, .inl 3, .inl 4, .inl 5, .inl 6, .inl 7, .inl 8, .inl 9, .inl 10, .inl 11] (by decide +kernel) rfl (q0 := 0) rfl (ci := 7) rfl g_Mod_162 hd_Mod_records rfl ⟨Nat.le_of_ble_eq_true rfl, Nat.le_of_ble_eq_true rfl⟩ ⟨Nat.zero_le _, Nat.zero_le _⟩ hl rfl (Nat.le_of_ble_eq_true rfl) dX7_removeConstraint_20 (fun H locs hP hD hS => ?_)
    refine lv_aload_n (pc := 23) hx hb dX7_removeConstraint_23 rfl (lv_at hl 0 rfl) ?_
    refine lv_iload_n (pc := 24) hx hb dX7_removeConstraint_24 rfl (lv_at hl 1 rfl) ?_
    obtain ⟨v4, h_v4, h⟩ := ob h
    refine wrVv (pc := 25) (As := [.int a0]) (rest := []) (ws2 := wMod K ad (0 : Int32) v4 v3.1 v3.2 msav miss minp mlen mat medg mcor mtri mkep mkee mwor mnum mmet) (as9 := [ad 0, ad 1, ad 2, ad 3, ad 4, ad 5, ad 6, ad 7, ad 8, ad 9, ad 10, ad 11]) hx hb hml hown hts hG hP hD hS (c_Mod_unties l K ad (0 : Int32) mnow v3.1 v3.2 msav miss minp mlen mat medg mcor mtri mkep mkee mwor mnum mmet a0 F h_v4) [0, 1, 2, 3, 4, 5, 6, 7, 8, 9, 10, 11] rfl rfl rfl rfl [.inl 0, .inl 1, .inl 2, .inl 3, .inl 4, .inl 5, .inl 6, .inl 7, .inl 8, .inl 9, .inl 10, .inl 11] (by decide +kernel) rfl (q0 := 0) rfl (ci := 7) rfl g_Mod_185 hd_Mod_unties rfl ⟨Nat.le_of_ble_eq_true rfl, Nat.le_of_ble_eq_true rfl⟩ ⟨Nat.zero_le _, Nat.zero_le _⟩ hl rfl (Nat.le_of_ble_eq_true rfl) dX7_removeConstraint_25 (fun H locs hP hD hS => ?_)
    refine lv_aload_n (pc := 28) hx hb dX7_removeConstraint_28 rfl (lv_at hl 0 rfl) ?_
    obtain ⟨v5, h_v5, h⟩ := ob h
    refine rdV (pc := 29) (As := []) (rest := []) hx hb hml hown hts hG hP (c_Mod_m l K ad (0 : Int32) v4 v3.1 v3.2 msav miss minp mlen mat medg mcor mtri mkep mkee mwor mnum mmet h_v5) [0, 1, 2, 3, 4, 5, 6, 7, 8, 9, 10, 11] rfl (q0 := 0) rfl (ci := 7) rfl g_Mod_56 hd_Mod_m rfl ⟨Nat.le_of_ble_eq_true rfl, Nat.le_of_ble_eq_true rfl⟩ ⟨Nat.zero_le _, Nat.zero_le _⟩ hl rfl (Nat.le_of_ble_eq_true rfl) dX7_removeConstraint_29 ?_
    obtain rfl := Option.some.inj h
    exact W.iret hx hb hr (fun t ht hW => ⟨⟨rfl, by rw [ht]; exact hP⟩, hS.F ht⟩) hS.2.2 dX7_removeConstraint_32 hlk
  · have h := it_t c2 h
    refine lv_aload_n (pc := 13) hx hb dX7_removeConstraint_13 rfl (lv_at hl 0 rfl) ?_
    refine lv_iconst (v := (1 : Int32)) (pc := 14) hx hb dX7_removeConstraint_14 (by decide) ?_
    refine wrVi (pc := 15) (As := [.int (1 : Int32)]) (rest := []) (ws2 := wMod K ad ((s_Mod_raises (1 : Int32)).2) mnow mold mols msav miss minp mlen mat medg mcor mtri mkep mkee mwor mnum mmet) (as9 := [ad 0, ad 1, ad 2, ad 3, ad 4, ad 5, ad 6, ad 7, ad 8, ad 9, ad 10, ad 11]) hx hb hml hown hts hG hP hD hS (c_Mod_raises l K ad (0 : Int32) mnow mold mols msav miss minp mlen mat medg mcor mtri mkep mkee mwor mnum mmet (1 : Int32)) [0, 1, 2, 3, 4, 5, 6, 7, 8, 9, 10, 11] rfl rfl rfl rfl [.inl 0, .inl 1, .inl 2, .inl 3, .inl 4, .inl 5, .inl 6, .inl 7, .inl 8, .inl 9, .inl 10, .inl 11] (by decide +kernel) rfl (q0 := 0) rfl (ci := 7) rfl g_Mod_172 hd_Mod_raises rfl ⟨Nat.le_of_ble_eq_true rfl, Nat.le_of_ble_eq_true rfl⟩ ⟨Nat.zero_le _, Nat.zero_le _⟩ hl rfl (Nat.le_of_ble_eq_true rfl) dX7_removeConstraint_15 (fun H locs hP hD hS => ?_)
    obtain rfl := Option.some.inj h
    exact W.iret hx hb hr (fun t ht hW => ⟨⟨rfl, by rw [ht]; exact hP⟩, hS.F ht⟩) hS.2.2 dX7_removeConstraint_18 hlk
set_option maxHeartbeats 4000000 in
set_option maxRecDepth 100000 in
theorem c_Mod_constraintCount (l : Launch) (K : KT) (ad : Nat → Nat) (mthr : Int32) (mnow : Nat → Int32) (mold : Nat → Int32) (mols : Int32) (msav : Nat → Int32) (miss : Bool) (minp : Nat → Int32) (mlen : Int32) (mat : Int32) (medg : Nat → Int32) (mcor : Nat → Int32) (mtri : Int32) (mkep : Nat → Int32) (mkee : Nat → Int32) (mwor : Nat → Int32) (mnum : Nat → Int32) (mmet : Nat → Int32) {o : Int32 × Int32} (h : s_Mod_constraintCount mnow = some o) : Wr l K 1 yX7_constraintCount cX7_constraintCount 1 (some .int) [.ref (ad 0)] (wMod K ad mthr mnow mold mols msav miss minp mlen mat medg mcor mtri mkep mkee mwor mnum mmet) (some (.int o.1)) (wMod K ad o.2 mnow mold mols msav miss minp mlen mat medg mcor mtri mkep mkee mwor mnum mmet) := by
  refine Wr.of (by decide +kernel) (Nat.le_of_ble_eq_true rfl) ?_
  unfold s_Mod_constraintCount at h
  intro p e s m below meth c hx hb hr hml hown hts hlk H locs hP hG hD hS ls hl
  have C0 : Ctx p m c cX7_constraintCount 1 s (Array.mk [.ref (ad 0)]) RX7 K meth (some .int) := ⟨hx, hb, hml, hown, hts, hG, hr, hlk⟩
  have hl : lv_has ls 1 [(0, .ref (ad 0))] := hl
  refine lv_aload_n (pc := 0) hx hb dX7_constraintCount_0 rfl (lv_at hl 0 rfl) ?_
  refine lv_iconst (v := (0 : Int32)) (pc := 1) hx hb dX7_constraintCount_1 (by decide) ?_
  refine va_put (D := K.1) (ci := 7) (v := .int (0 : Int32)) (ty := .int) (C := RX7) (T := TX7) (N := 17) (pc := 2) hx hb hts inT7 tyX7 tyX7_ok nmX7 hown hG.1 hP hD hS 0 rfl rfl 0 (by decide) (hts _ qf_Mod_44) (fun _ h9 => h9) rfl (by decide +kernel) rfl rfl (Nat.le_of_ble_eq_true rfl) dX7_constraintCount_2 (fun H locs hP hD hS => ?_)
  have hP : va_P K.1 vC (wMod K ad (0 : Int32) mnow mold mols msav miss minp mlen mat medg mcor mtri mkep mkee mwor mnum mmet) H := hP
  have hD : va_D _ (wMod K ad (0 : Int32) mnow mold mols msav miss minp mlen mat medg mcor mtri mkep mkee mwor mnum mmet) := hD
  refine lv_aload_n (pc := 5) hx hb dX7_constraintCount_5 rfl (lv_at hl 0 rfl) ?_
  obtain ⟨v1, h_v1, h⟩ := ob h
  refine rdV (pc := 6) (As := []) (rest := []) hx hb hml hown hts hG hP (c_Mod_m l K ad (0 : Int32) mnow mold mols msav miss minp mlen mat medg mcor mtri mkep mkee mwor mnum mmet h_v1) [0, 1, 2, 3, 4, 5, 6, 7, 8, 9, 10, 11] rfl (q0 := 0) rfl (ci := 7) rfl g_Mod_56 hd_Mod_m rfl ⟨Nat.le_of_ble_eq_true rfl, Nat.le_of_ble_eq_true rfl⟩ ⟨Nat.zero_le _, Nat.zero_le _⟩ hl rfl (Nat.le_of_ble_eq_true rfl) dX7_constraintCount_6 ?_
  obtain rfl := Option.some.inj h
  exact W.iret hx hb hr (fun t ht hW => ⟨⟨rfl, by rw [ht]; exact hP⟩, hS.F ht⟩) hS.2.2 dX7_constraintCount_9 hlk
set_option maxHeartbeats 4000000 in
set_option maxRecDepth 100000 in
theorem c_Mod_constraintEnd (l : Launch) (K : KT) (ad : Nat → Nat) (mthr : Int32) (mnow : Nat → Int32) (mold : Nat → Int32) (mols : Int32) (msav : Nat → Int32) (miss : Bool) (minp : Nat → Int32) (mlen : Int32) (mat : Int32) (medg : Nat → Int32) (mcor : Nat → Int32) (mtri : Int32) (mkep : Nat → Int32) (mkee : Nat → Int32) (mwor : Nat → Int32) (mnum : Nat → Int32) (mmet : Nat → Int32) (a0 : Int32) (a1 : Int32) {o : Int32 × Int32} (h : s_Mod_constraintEnd mnow a0 a1 = some o) : Wr l K 2 yX7_constraintEnd cX7_constraintEnd 3 (some .int) [.ref (ad 0), .int a0, .int a1] (wMod K ad mthr mnow mold mols msav miss minp mlen mat medg mcor mtri mkep mkee mwor mnum mmet) (some (.int o.1)) (wMod K ad o.2 mnow mold mols msav miss minp mlen mat medg mcor mtri mkep mkee mwor mnum mmet) := by
  refine Wr.of (by decide +kernel) (Nat.le_of_ble_eq_true rfl) ?_
  unfold s_Mod_constraintEnd at h
  intro p e s m below meth c hx hb hr hml hown hts hlk H locs hP hG hD hS ls hl
  have C0 : Ctx p m c cX7_constraintEnd 3 s (Array.mk [.ref (ad 0), .int a0, .int a1]) RX7 K meth (some .int) := ⟨hx, hb, hml, hown, hts, hG, hr, hlk⟩
  have hl : lv_has ls 3 [(0, .ref (ad 0)), (1, .int a0), (2, .int a1)] := hl
  refine lv_aload_n (pc := 0) hx hb dX7_constraintEnd_0 rfl (lv_at hl 0 rfl) ?_
  refine lv_iconst (v := (0 : Int32)) (pc := 1) hx hb dX7_constraintEnd_1 (by decide) ?_
  refine va_put (D := K.1) (ci := 7) (v := .int (0 : Int32)) (ty := .int) (C := RX7) (T := TX7) (N := 17) (pc := 2) hx hb hts inT7 tyX7 tyX7_ok nmX7 hown hG.1 hP hD hS 0 rfl rfl 0 (by decide) (hts _ qf_Mod_44) (fun _ h9 => h9) rfl (by decide +kernel) rfl rfl (Nat.le_of_ble_eq_true rfl) dX7_constraintEnd_2 (fun H locs hP hD hS => ?_)
  have hP : va_P K.1 vC (wMod K ad (0 : Int32) mnow mold mols msav miss minp mlen mat medg mcor mtri mkep mkee mwor mnum mmet) H := hP
  have hD : va_D _ (wMod K ad (0 : Int32) mnow mold mols msav miss minp mlen mat medg mcor mtri mkep mkee mwor mnum mmet) := hD
  refine lv_aload_n (pc := 5) hx hb dX7_constraintEnd_5 rfl (lv_at hl 0 rfl) ?_
  refine lv_iload_n (pc := 6) hx hb dX7_constraintEnd_6 rfl (lv_at hl 1 rfl) ?_
  obtain ⟨v1, h_v1, h⟩ := ob h
  refine rdV (pc := 7) (As := [.int a0]) (rest := []) hx hb hml hown hts hG hP (c_Mod_isConstraint l K ad (0 : Int32) mnow mold mols msav miss minp mlen mat medg mcor mtri mkep mkee mwor mnum mmet a0 h_v1) [0, 1, 2, 3, 4, 5, 6, 7, 8, 9, 10, 11] rfl (q0 := 0) rfl (ci := 7) rfl g_Mod_182 hd_Mod_isConstraint rfl ⟨Nat.le_of_ble_eq_true rfl, Nat.le_of_ble_eq_true rfl⟩ ⟨Nat.zero_le _, Nat.zero_le _⟩ hl rfl (Nat.le_of_ble_eq_true rfl) dX7_constraintEnd_7 ?_
  refine lv_if_ne (tgt := 19) (pc := 10) hx hb dX7_constraintEnd_10 (by decide) (fun c2 => ?_) (fun c2 => ?_)
  · have h := it_f c2 h
    refine lv_iload_n (pc := 19) hx hb dX7_constraintEnd_19 rfl (lv_at hl 2 rfl) ?_
    refine lv_iconst (v := (0 : Int32)) (pc := 20) hx hb dX7_constraintEnd_20 (by decide) ?_
    refine lv_iconst (v := (1 : Int32)) (pc := 21) hx hb dX7_constraintEnd_21 (by decide) ?_
    refine rdS (pc := 22) (As := [.int a1, .int (0 : Int32), .int (1 : Int32)]) (rest := []) hx hb hml hown hts hG (c_Mod_in l K a1 (0 : Int32) (1 : Int32)) g_Mod_52 hd_Mod_in rfl ⟨Nat.le_of_ble_eq_true rfl, Nat.le_of_ble_eq_true rfl⟩ ⟨Nat.zero_le _, Nat.zero_le _⟩ hl rfl (Nat.le_of_ble_eq_true rfl) dX7_constraintEnd_22 ?_
    refine lv_if_eq (tgt := 37) (pc := 25) hx hb dX7_constraintEnd_25 (by decide) (fun c3 => ?_) (fun c3 => ?_)
    · have h := it_t c3 h
      refine lv_aload_n (pc := 37) hx hb dX7_constraintEnd_37 rfl (lv_at hl 0 rfl) ?_
      refine lv_iconst (v := (2 : Int32)) (pc := 38) hx hb dX7_constraintEnd_38 (by decide) ?_
      refine wrVi (pc := 39) (As := [.int (2 : Int32)]) (rest := []) (ws2 := wMod K ad ((s_Mod_raises (2 : Int32)).2) mnow mold mols msav miss minp mlen mat medg mcor mtri mkep mkee mwor mnum mmet) (as9 := [ad 0, ad 1, ad 2, ad 3, ad 4, ad 5, ad 6, ad 7, ad 8, ad 9, ad 10, ad 11]) hx hb hml hown hts hG hP hD hS (c_Mod_raises l K ad (0 : Int32) mnow mold mols msav miss minp mlen mat medg mcor mtri mkep mkee mwor mnum mmet (2 : Int32)) [0, 1, 2, 3, 4, 5, 6, 7, 8, 9, 10, 11] rfl rfl rfl rfl [.inl 0, .inl 1, .inl 2, .inl 3, .inl 4, .inl 5, .inl 6, .inl 7, .inl 8, .inl 9, .inl 10, .inl 11] (by decide +kernel) rfl (q0 := 0) rfl (ci := 7) rfl g_Mod_172 hd_Mod_raises rfl ⟨Nat.le_of_ble_eq_true rfl, Nat.le_of_ble_eq_true rfl⟩ ⟨Nat.zero_le _, Nat.zero_le _⟩ hl rfl (Nat.le_of_ble_eq_true rfl) dX7_constraintEnd_39 (fun H locs hP hD hS => ?_)
      obtain rfl := Option.some.inj h
      exact W.iret hx hb hr (fun t ht hW => ⟨⟨rfl, by rw [ht]; exact hP⟩, hS.F ht⟩) hS.2.2 dX7_constraintEnd_42 hlk
    · have h := it_f c3 h
      refine lv_aload_n (pc := 28) hx hb dX7_constraintEnd_28 rfl (lv_at hl 0 rfl) ?_
      refine lv_iload_n (pc := 29) hx hb dX7_constraintEnd_29 rfl (lv_at hl 1 rfl) ?_
      refine lv_iload_n (pc := 30) hx hb dX7_constraintEnd_30 rfl (lv_at hl 2 rfl) ?_
      obtain ⟨v4, h_v4, h⟩ := ob h
      refine rdV (pc := 31) (As := [.int a0, .int a1]) (rest := []) hx hb hml hown hts hG hP (c_Mod_end l K ad (0 : Int32) mnow mold mols msav miss minp mlen mat medg mcor mtri mkep mkee mwor mnum mmet a0 a1 h_v4) [0, 1, 2, 3, 4, 5, 6, 7, 8, 9, 10, 11] rfl (q0 := 0) rfl (ci := 7) rfl g_Mod_101 hd_Mod_end rfl ⟨Nat.le_of_ble_eq_true rfl, Nat.le_of_ble_eq_true rfl⟩ ⟨Nat.zero_le _, Nat.zero_le _⟩ hl rfl (Nat.le_of_ble_eq_true rfl) dX7_constraintEnd_31 ?_
      refine lv_goto (tgt := 42) (pc := 34) hx hb dX7_constraintEnd_34 (by decide) ?_
      obtain rfl := Option.some.inj h
      exact W.iret hx hb hr (fun t ht hW => ⟨⟨rfl, by rw [ht]; exact hP⟩, hS.F ht⟩) hS.2.2 dX7_constraintEnd_42 hlk
  · have h := it_t c2 h
    refine lv_aload_n (pc := 13) hx hb dX7_constraintEnd_13 rfl (lv_at hl 0 rfl) ?_
    refine lv_iconst (v := (1 : Int32)) (pc := 14) hx hb dX7_constraintEnd_14 (by decide) ?_
    refine wrVi (pc := 15) (As := [.int (1 : Int32)]) (rest := []) (ws2 := wMod K ad ((s_Mod_raises (1 : Int32)).2) mnow mold mols msav miss minp mlen mat medg mcor mtri mkep mkee mwor mnum mmet) (as9 := [ad 0, ad 1, ad 2, ad 3, ad 4, ad 5, ad 6, ad 7, ad 8, ad 9, ad 10, ad 11]) hx hb hml hown hts hG hP hD hS (c_Mod_raises l K ad (0 : Int32) mnow mold mols msav miss minp mlen mat medg mcor mtri mkep mkee mwor mnum mmet (1 : Int32)) [0, 1, 2, 3, 4, 5, 6, 7, 8, 9, 10, 11] rfl rfl rfl rfl [.inl 0, .inl 1, .inl 2, .inl 3, .inl 4, .inl 5, .inl 6, .inl 7, .inl 8, .inl 9, .inl 10, .inl 11] (by decide +kernel) rfl (q0 := 0) rfl (ci := 7) rfl g_Mod_172 hd_Mod_raises rfl ⟨Nat.le_of_ble_eq_true rfl, Nat.le_of_ble_eq_true rfl⟩ ⟨Nat.zero_le _, Nat.zero_le _⟩ hl rfl (Nat.le_of_ble_eq_true rfl) dX7_constraintEnd_15 (fun H locs hP hD hS => ?_)
    obtain rfl := Option.some.inj h
    exact W.iret hx hb hr (fun t ht hW => ⟨⟨rfl, by rw [ht]; exact hP⟩, hS.F ht⟩) hS.2.2 dX7_constraintEnd_18 hlk
set_option maxHeartbeats 4000000 in
set_option maxRecDepth 100000 in
theorem c_Mod_feed (l : Launch) (K : KT) (ad : Nat → Nat) (mthr : Int32) (mnow : Nat → Int32) (mold : Nat → Int32) (mols : Int32) (msav : Nat → Int32) (miss : Bool) (minp : Nat → Int32) (mlen : Int32) (mat : Int32) (medg : Nat → Int32) (mcor : Nat → Int32) (mtri : Int32) (mkep : Nat → Int32) (mkee : Nat → Int32) (mwor : Nat → Int32) (mnum : Nat → Int32) (mmet : Nat → Int32) (a0 : Int32) {o : Int32 × Int32 × (Nat → Int32) × Int32} (h : s_Mod_feed minp mlen a0 = some o) : Wr l K 1 yX7_feed cX7_feed 2 (some .int) [.ref (ad 0), .int a0] (wMod K ad mthr mnow mold mols msav miss minp mlen mat medg mcor mtri mkep mkee mwor mnum mmet) (some (.int o.1)) (wMod K ad o.2.1 mnow mold mols msav miss o.2.2.1 o.2.2.2 mat medg mcor mtri mkep mkee mwor mnum mmet) := by
  refine Wr.of (by decide +kernel) (Nat.le_of_ble_eq_true rfl) ?_
  unfold s_Mod_feed at h
  intro p e s m below meth c hx hb hr hml hown hts hlk H locs hP hG hD hS ls hl
  have C0 : Ctx p m c cX7_feed 2 s (Array.mk [.ref (ad 0), .int a0]) RX7 K meth (some .int) := ⟨hx, hb, hml, hown, hts, hG, hr, hlk⟩
  have hl : lv_has ls 2 [(0, .ref (ad 0)), (1, .int a0)] := hl
  refine lv_aload_n (pc := 0) hx hb dX7_feed_0 rfl (lv_at hl 0 rfl) ?_
  refine lv_iconst (v := (0 : Int32)) (pc := 1) hx hb dX7_feed_1 (by decide) ?_
  refine va_put (D := K.1) (ci := 7) (v := .int (0 : Int32)) (ty := .int) (C := RX7) (T := TX7) (N := 17) (pc := 2) hx hb hts inT7 tyX7 tyX7_ok nmX7 hown hG.1 hP hD hS 0 rfl rfl 0 (by decide) (hts _ qf_Mod_44) (fun _ h9 => h9) rfl (by decide +kernel) rfl rfl (Nat.le_of_ble_eq_true rfl) dX7_feed_2 (fun H locs hP hD hS => ?_)
  have hP : va_P K.1 vC (wMod K ad (0 : Int32) mnow mold mols msav miss minp mlen mat medg mcor mtri mkep mkee mwor mnum mmet) H := hP
  have hD : va_D _ (wMod K ad (0 : Int32) mnow mold mols msav miss minp mlen mat medg mcor mtri mkep mkee mwor mnum mmet) := hD
  refine lv_aload_n (pc := 5) hx hb dX7_feed_5 rfl (lv_at hl 0 rfl) ?_
  refine va_get (D := K.1) (ci := 7) (v := .int mlen) (C := RX7) (T := TX7) (N := 17) (pc := 6) hx hb hts inT7 hown hG.1 hP 0 rfl rfl 7 (by decide) (hts _ qf_Mod_188) (fun _ h9 => h9) rfl dX7_feed_6 ?_
  refine lv_bipush (v := (60 : Int32)) (pc := 9) hx hb dX7_feed_9 (by decide) ?_
  refine lv_icmp_ne (tgt := 20) (pc := 11) hx hb dX7_feed_11 (by decide) (fun c1 => ?_) (fun c1 => ?_)
  · have h := it_f c1 h
    refine lv_aload_n (pc := 20) hx hb dX7_feed_20 rfl (lv_at hl 0 rfl) ?_
    refine va_get (D := K.1) (ci := 7) (v := .ref (ad 4)) (C := RX7) (T := TX7) (N := 17) (pc := 21) hx hb hts inT7 hown hG.1 hP 0 rfl rfl 6 (by decide) (hts _ qf_Mod_19) (fun _ h9 => h9) rfl dX7_feed_21 ?_
    refine lv_aload_n (pc := 24) hx hb dX7_feed_24 rfl (lv_at hl 0 rfl) ?_
    refine lv_dup (pc := 25) hx hb dX7_feed_25 rfl ?_
    refine va_get (D := K.1) (ci := 7) (v := .int mlen) (C := RX7) (T := TX7) (N := 17) (pc := 26) hx hb hts inT7 hown hG.1 hP 0 rfl rfl 7 (by decide) (hts _ qf_Mod_188) (fun _ h9 => h9) rfl dX7_feed_26 ?_
    refine lv_dup_x1 (pc := 29) hx hb dX7_feed_29 rfl rfl ?_
    refine lv_iconst (v := (1 : Int32)) (pc := 30) hx hb dX7_feed_30 (by decide) ?_
    refine lv_iadd (pc := 31) hx hb dX7_feed_31 ?_
    refine va_put (D := K.1) (ci := 7) (v := .int (mlen + (1 : Int32))) (ty := .int) (C := RX7) (T := TX7) (N := 17) (pc := 32) hx hb hts inT7 tyX7 tyX7_ok nmX7 hown hG.1 hP hD hS 0 rfl rfl 7 (by decide) (hts _ qf_Mod_188) (fun _ h9 => h9) rfl (by decide +kernel) rfl rfl (Nat.le_of_ble_eq_true rfl) dX7_feed_32 (fun H locs hP hD hS => ?_)
    have hP : va_P K.1 vC (wMod K ad (0 : Int32) mnow mold mols msav miss minp (mlen + (1 : Int32)) mat medg mcor mtri mkep mkee mwor mnum mmet) H := hP
    have hD : va_D _ (wMod K ad (0 : Int32) mnow mold mols msav miss minp (mlen + (1 : Int32)) mat medg mcor mtri mkep mkee mwor mnum mmet) := hD
    refine lv_iload_n (pc := 35) hx hb dX7_feed_35 rfl (lv_at hl 1 rfl) ?_
    obtain ⟨v2, h_v2, h⟩ := ob h
    obtain ⟨hi_v2, e_v2⟩ := aset_in h_v2
    refine va_iast (pc := 36) hx hb hG.1 hP hD hS 4 0 rfl rfl hi_v2 dX7_feed_36 (fun H locs hP hD hS => ?_)
    rw [e_v2] at hP hD
    have hP : va_P K.1 vC (wMod K ad (0 : Int32) mnow mold mols msav miss v2 (mlen + (1 : Int32)) mat medg mcor mtri mkep mkee mwor mnum mmet) H := hP
    have hD : va_D _ (wMod K ad (0 : Int32) mnow mold mols msav miss v2 (mlen + (1 : Int32)) mat medg mcor mtri mkep mkee mwor mnum mmet) := hD
    refine lv_aload_n (pc := 37) hx hb dX7_feed_37 rfl (lv_at hl 0 rfl) ?_
    refine va_get (D := K.1) (ci := 7) (v := .int (mlen + (1 : Int32))) (C := RX7) (T := TX7) (N := 17) (pc := 38) hx hb hts inT7 hown hG.1 hP 0 rfl rfl 7 (by decide) (hts _ qf_Mod_188) (fun _ h9 => h9) rfl dX7_feed_38 ?_
    obtain rfl := Option.some.inj h
    exact W.iret hx hb hr (fun t ht hW => ⟨⟨rfl, by rw [ht]; exact hP⟩, hS.F ht⟩) hS.2.2 dX7_feed_41 hlk
  · have h := it_t c1 h
    refine lv_aload_n (pc := 14) hx hb dX7_feed_14 rfl (lv_at hl 0 rfl) ?_
    refine lv_iconst (v := (1 : Int32)) (pc := 15) hx hb dX7_feed_15 (by decide) ?_
    refine wrVi (pc := 16) (As := [.int (1 : Int32)]) (rest := []) (ws2 := wMod K ad ((s_Mod_raises (1 : Int32)).2) mnow mold mols msav miss minp mlen mat medg mcor mtri mkep mkee mwor mnum mmet) (as9 := [ad 0, ad 1, ad 2, ad 3, ad 4, ad 5, ad 6, ad 7, ad 8, ad 9, ad 10, ad 11]) hx hb hml hown hts hG hP hD hS (c_Mod_raises l K ad (0 : Int32) mnow mold mols msav miss minp mlen mat medg mcor mtri mkep mkee mwor mnum mmet (1 : Int32)) [0, 1, 2, 3, 4, 5, 6, 7, 8, 9, 10, 11] rfl rfl rfl rfl [.inl 0, .inl 1, .inl 2, .inl 3, .inl 4, .inl 5, .inl 6, .inl 7, .inl 8, .inl 9, .inl 10, .inl 11] (by decide +kernel) rfl (q0 := 0) rfl (ci := 7) rfl g_Mod_172 hd_Mod_raises rfl ⟨Nat.le_of_ble_eq_true rfl, Nat.le_of_ble_eq_true rfl⟩ ⟨Nat.zero_le _, Nat.zero_le _⟩ hl rfl (Nat.le_of_ble_eq_true rfl) dX7_feed_16 (fun H locs hP hD hS => ?_)
    obtain rfl := Option.some.inj h
    exact W.iret hx hb hr (fun t ht hW => ⟨⟨rfl, by rw [ht]; exact hP⟩, hS.F ht⟩) hS.2.2 dX7_feed_19 hlk
set_option maxHeartbeats 4000000 in
set_option maxRecDepth 100000 in
theorem c_Mod_here (l : Launch) (K : KT) (ad : Nat → Nat) (mthr : Int32) (mnow : Nat → Int32) (mold : Nat → Int32) (mols : Int32) (msav : Nat → Int32) (miss : Bool) (minp : Nat → Int32) (mlen : Int32) (mat : Int32) (medg : Nat → Int32) (mcor : Nat → Int32) (mtri : Int32) (mkep : Nat → Int32) (mkee : Nat → Int32) (mwor : Nat → Int32) (mnum : Nat → Int32) (mmet : Nat → Int32) {o : Int32} (h : s_Mod_here minp mlen mat = some o) : Rd l K 0 yX7_here cX7_here 1 .int [.ref (ad 0)] (wMod K ad mthr mnow mold mols msav miss minp mlen mat medg mcor mtri mkep mkee mwor mnum mmet) o := by
  refine Rd.of (by decide +kernel) (Nat.le_of_ble_eq_true rfl) ?_
  unfold s_Mod_here at h
  intro p e s m below meth c hx hb hr hml hown hts hlk hP hG ls hl
  have C0 : Ctx p m c cX7_here 1 s (Array.mk [.ref (ad 0)]) RX7 K meth (some .int) := ⟨hx, hb, hml, hown, hts, hG, hr, hlk⟩
  have hl : lv_has ls 1 [(0, .ref (ad 0))] := hl
  refine lv_aload_n (pc := 0) hx hb dX7_here_0 rfl (lv_at hl 0 rfl) ?_
  refine va_get (D := K.1) (ci := 7) (v := .int mat) (C := RX7) (T := TX7) (N := 17) (pc := 1) hx hb hts inT7 hown hG.1 hP 0 rfl rfl 8 (by decide) (hts _ qf_Mod_191) (fun _ h9 => h9) rfl dX7_here_1 ?_
  refine lv_aload_n (pc := 4) hx hb dX7_here_4 rfl (lv_at hl 0 rfl) ?_
  refine va_get (D := K.1) (ci := 7) (v := .int mlen) (C := RX7) (T := TX7) (N := 17) (pc := 5) hx hb hts inT7 hown hG.1 hP 0 rfl rfl 7 (by decide) (hts _ qf_Mod_188) (fun _ h9 => h9) rfl dX7_here_5 ?_
  refine lv_icmp_ge (tgt := 23) (pc := 8) hx hb dX7_here_8 (by decide) (fun c1 => ?_) (fun c1 => ?_)
  · have h := it_t c1 h
    refine lv_iconst (v := (-1 : Int32)) (pc := 23) hx hb dX7_here_23 (by decide) ?_
    obtain rfl := Option.some.inj h
    exact W.iret hx hb hr (fun t ht hW => ⟨rfl, ht⟩) (fun q hq => absurd hq List.not_mem_nil) dX7_here_24 hlk
  · have h := it_f c1 h
    refine lv_aload_n (pc := 11) hx hb dX7_here_11 rfl (lv_at hl 0 rfl) ?_
    refine va_get (D := K.1) (ci := 7) (v := .ref (ad 4)) (C := RX7) (T := TX7) (N := 17) (pc := 12) hx hb hts inT7 hown hG.1 hP 0 rfl rfl 6 (by decide) (hts _ qf_Mod_19) (fun _ h9 => h9) rfl dX7_here_12 ?_
    refine lv_aload_n (pc := 15) hx hb dX7_here_15 rfl (lv_at hl 0 rfl) ?_
    refine va_get (D := K.1) (ci := 7) (v := .int mat) (C := RX7) (T := TX7) (N := 17) (pc := 16) hx hb hts inT7 hown hG.1 hP 0 rfl rfl 8 (by decide) (hts _ qf_Mod_191) (fun _ h9 => h9) rfl dX7_here_16 ?_
    obtain ⟨v2, h_v2, h⟩ := ob h
    obtain ⟨hi_v2, e_v2⟩ := aget_in h_v2
    refine va_iald (pc := 19) hx hb hG.1 hP 4 0 rfl rfl hi_v2 dX7_here_19 ?_
    rw [e_v2]
    refine lv_goto (tgt := 24) (pc := 20) hx hb dX7_here_20 (by decide) ?_
    obtain rfl := Option.some.inj h
    exact W.iret hx hb hr (fun t ht hW => ⟨rfl, ht⟩) (fun q hq => absurd hq List.not_mem_nil) dX7_here_24 hlk
set_option maxHeartbeats 4000000 in
set_option maxRecDepth 100000 in
theorem l_Mod_number_L4 {p : Program} {l : Launch} {e : Env} {s : State} {m : MethodId} {args : Array Value} {below : List Frame} {meth : Method} {c : Code} {Q : State → Prop} {K : KT} {A : Nat → Prop} (C0 : Ctx p m c cX7_number 3 s args RX7 K meth (some .int)) (F : Nat) (ad : Nat → Nat) (mthr : Int32) (mnow : Nat → Int32) (mold : Nat → Int32) (mols : Int32) (msav : Nat → Int32) (miss : Bool) (minp : Nat → Int32) (mlen : Int32) (medg : Nat → Int32) (mcor : Nat → Int32) (mtri : Int32) (mkep : Nat → Int32) (mkee : Nat → Int32) (mwor : Nat → Int32) (mnum : Nat → Int32) (mmet : Nat → Int32)  : ∀ (n : Nat) (x1 : Int32) (x2 : Int32) (mat : Int32) (out : Int32 × Int32 × Int32), s_Mod_number_L4 minp mlen n x1 x2 mat = some out → ∀ (H : Heap) (locs : List Loc) (ls : Array Slot), va_P K.1 vC (wMod K ad mthr mnow mold mols msav miss minp mlen mat medg mcor mtri mkep mkee mwor mnum mmet) H → va_D A (wMod K ad mthr mnow mold mols msav miss minp mlen mat medg mcor mtri mkep mkee mwor mnum mmet) → va_S A s.heap H locs → lv_has ls 3 [(0, .ref (ad 0)), (1, .int x1), (2, .int x2)] → (∀ (o : Int32 × Int32 × Int32) (H : Heap) (locs : List Loc) (ls : Array Slot), out = o → va_P K.1 vC (wMod K ad mthr mnow mold mols msav miss minp mlen o.2.2 medg mcor mtri mkep mkee mwor mnum mmet) H → va_D A (wMod K ad mthr mnow mold mols msav miss minp mlen o.2.2 medg mcor mtri mkep mkee mwor mnum mmet) → va_S A s.heap H locs → lv_has ls 3 [(0, .ref (ad 0)), (1, .int o.1), (2, .int o.2.1)] → W p l e (rmL 1) s m args below meth c H locs 0 0 Q (F0 m 58 ls [])) → W p l e (rmL 1) s m args below meth c H locs 0 0 Q (F0 m 4 ls []) := by
  obtain ⟨hx, hb, hml, hown, hts, hG, hr, hlk⟩ := id C0
  intro n
  induction n with
  | zero =>
    intro x1 x2 mat out h
    cases h
  | succ n ih =>
    intro x1 x2 mat out h H locs ls hP hD hS hl Kx 
    rw [s_Mod_number_L4.eq_2] at h
    refine lv_iload_n (pc := 4) hx hb dX7_number_4 rfl (lv_at hl 2 rfl) ?_
    refine lv_iconst (v := (3 : Int32)) (pc := 5) hx hb dX7_number_5 (by decide) ?_
    refine lv_icmp_ge (tgt := 58) (pc := 6) hx hb dX7_number_6 (by decide) (fun c1 => ?_) (fun c1 => ?_)
    · have h := it_t c1 h
      obtain rfl := Option.some.inj h
      exact Kx _ H locs ls rfl hP hD hS (lv_sub hl [0, 1, 2] rfl)
    · have h := it_f c1 h
      refine lv_aload_n (pc := 9) hx hb dX7_number_9 rfl (lv_at hl 0 rfl) ?_
      obtain ⟨v2, h_v2, h⟩ := ob h
      refine rdV (pc := 10) (As := []) (rest := []) hx hb hml hown hts hG hP (c_Mod_here l K ad mthr mnow mold mols msav miss minp mlen mat medg mcor mtri mkep mkee mwor mnum mmet h_v2) [0, 1, 2, 3, 4, 5, 6, 7, 8, 9, 10, 11] rfl (q0 := 0) rfl (ci := 7) rfl g_Mod_194 hd_Mod_here rfl ⟨Nat.le_of_ble_eq_true rfl, Nat.le_of_ble_eq_true rfl⟩ ⟨Nat.zero_le _, Nat.zero_le _⟩ hl rfl (Nat.le_of_ble_eq_true rfl) dX7_number_10 ?_
      refine lv_bipush (v := (48 : Int32)) (pc := 13) hx hb dX7_number_13 (by decide) ?_
      refine lv_bipush (v := (57 : Int32)) (pc := 15) hx hb dX7_number_15 (by decide) ?_
      refine rdS (pc := 17) (As := [.int v2, .int (48 : Int32), .int (57 : Int32)]) (rest := []) hx hb hml hown hts hG (c_Mod_in l K v2 (48 : Int32) (57 : Int32)) g_Mod_52 hd_Mod_in rfl ⟨Nat.le_of_ble_eq_true rfl, Nat.le_of_ble_eq_true rfl⟩ ⟨Nat.zero_le _, Nat.zero_le _⟩ hl rfl (Nat.le_of_ble_eq_true rfl) dX7_number_17 ?_
      refine lv_if_eq (tgt := 58) (pc := 20) hx hb dX7_number_20 (by decide) (fun c3 => ?_) (fun c3 => ?_)
      · have h := it_t c3 h
        obtain rfl := Option.some.inj h
        exact Kx _ H locs ls rfl hP hD hS (lv_sub hl [0, 1, 2] rfl)
      · have h := it_f c3 h
        refine lv_bipush (v := (10 : Int32)) (pc := 23) hx hb dX7_number_23 (by decide) ?_
        refine lv_iconst (v := (0 : Int32)) (pc := 25) hx hb dX7_number_25 (by decide) ?_
        refine lv_iload_n (pc := 26) hx hb dX7_number_26 rfl (lv_at hl 1 rfl) ?_
        refine my_mmax (pc := 27) hx hb hml hl.1 hown hts qm_Mod_89 (Nat.le_of_ble_eq_true rfl) (Nat.le_of_ble_eq_true rfl) ⟨Nat.zero_le _, Nat.zero_le _⟩ dX7_number_27 ?_
        refine lv_imul (pc := 30) hx hb dX7_number_30 ?_
        refine lv_aload_n (pc := 31) hx hb dX7_number_31 rfl (lv_at hl 0 rfl) ?_
        refine va_get (D := K.1) (ci := 7) (v := .ref (ad 4)) (C := RX7) (T := TX7) (N := 17) (pc := 32) hx hb hts inT7 hown hG.1 hP 0 rfl rfl 6 (by decide) (hts _ qf_Mod_19) (fun _ h9 => h9) rfl dX7_number_32 ?_
        refine lv_aload_n (pc := 35) hx hb dX7_number_35 rfl (lv_at hl 0 rfl) ?_
        refine lv_dup (pc := 36) hx hb dX7_number_36 rfl ?_
        refine va_get (D := K.1) (ci := 7) (v := .int mat) (C := RX7) (T := TX7) (N := 17) (pc := 37) hx hb hts inT7 hown hG.1 hP 0 rfl rfl 8 (by decide) (hts _ qf_Mod_191) (fun _ h9 => h9) rfl dX7_number_37 ?_
        refine lv_dup_x1 (pc := 40) hx hb dX7_number_40 rfl rfl ?_
        refine lv_iconst (v := (1 : Int32)) (pc := 41) hx hb dX7_number_41 (by decide) ?_
        refine lv_iadd (pc := 42) hx hb dX7_number_42 ?_
        refine va_put (D := K.1) (ci := 7) (v := .int (mat + (1 : Int32))) (ty := .int) (C := RX7) (T := TX7) (N := 17) (pc := 43) hx hb hts inT7 tyX7 tyX7_ok nmX7 hown hG.1 hP hD hS 0 rfl rfl 8 (by decide) (hts _ qf_Mod_191) (fun _ h9 => h9) rfl (by decide +kernel) rfl rfl (Nat.le_of_ble_eq_true rfl) dX7_number_43 (fun H locs hP hD hS => ?_)
        have hP : va_P K.1 vC (wMod K ad mthr mnow mold mols msav miss minp mlen (mat + (1 : Int32)) medg mcor mtri mkep mkee mwor mnum mmet) H := hP
        have hD : va_D _ (wMod K ad mthr mnow mold mols msav miss minp mlen (mat + (1 : Int32)) medg mcor mtri mkep mkee mwor mnum mmet) := hD
        obtain ⟨v4, h_v4, h⟩ := ob h
        obtain ⟨hi_v4, e_v4⟩ := aget_in h_v4
        refine va_iald (pc := 46) hx hb hG.1 hP 4 0 rfl rfl hi_v4 dX7_number_46 ?_
        rw [e_v4]
        refine lv_iadd (pc := 47) hx hb dX7_number_47 ?_
        refine lv_bipush (v := (48 : Int32)) (pc := 48) hx hb dX7_number_48 (by decide) ?_
        refine lv_isub (pc := 50) hx hb dX7_number_50 ?_
        refine lv_istore_n (pc := 51) (lv' := [(1, .int ((((10 : Int32) * (imax (0 : Int32) x1)) + v4) - (48 : Int32))), (0, .ref (ad 0)), (2, .int x2)]) hx hb dX7_number_51 rfl hl (by decide) rfl (fun ls hl => ?_)
        refine lv_iinc (v := (x2 + (1 : Int32))) (pc := 52) (lv' := [(2, .int (x2 + (1 : Int32))), (1, .int ((((10 : Int32) * (imax (0 : Int32) x1)) + v4) - (48 : Int32))), (0, .ref (ad 0))]) hx hb dX7_number_52 hl (k := 2) rfl rfl (by decide) rfl (fun ls hl => ?_)
        refine lv_goto (tgt := 4) (pc := 55) hx hb dX7_number_55 (by decide) ?_
        exact ih ((((10 : Int32) * (imax (0 : Int32) x1)) + v4) - (48 : Int32)) (x2 + (1 : Int32)) (mat + (1 : Int32)) out h H locs ls hP hD hS (lv_sub hl [2, 1, 0] rfl) Kx 
set_option maxHeartbeats 4000000 in
set_option maxRecDepth 100000 in
theorem c_Mod_number (l : Launch) (K : KT) (ad : Nat → Nat) (mthr : Int32) (mnow : Nat → Int32) (mold : Nat → Int32) (mols : Int32) (msav : Nat → Int32) (miss : Bool) (minp : Nat → Int32) (mlen : Int32) (mat : Int32) (medg : Nat → Int32) (mcor : Nat → Int32) (mtri : Int32) (mkep : Nat → Int32) (mkee : Nat → Int32) (mwor : Nat → Int32) (mnum : Nat → Int32) (mmet : Nat → Int32) (F : Nat) {o : Int32 × Int32} (h : s_Mod_number F minp mlen mat = some o) : Wr l K 1 yX7_number cX7_number 3 (some .int) [.ref (ad 0)] (wMod K ad mthr mnow mold mols msav miss minp mlen mat medg mcor mtri mkep mkee mwor mnum mmet) (some (.int o.1)) (wMod K ad mthr mnow mold mols msav miss minp mlen o.2 medg mcor mtri mkep mkee mwor mnum mmet) := by
  refine Wr.of (by decide +kernel) (Nat.le_of_ble_eq_true rfl) ?_
  unfold s_Mod_number at h
  intro p e s m below meth c hx hb hr hml hown hts hlk H locs hP hG hD hS ls hl
  have C0 : Ctx p m c cX7_number 3 s (Array.mk [.ref (ad 0)]) RX7 K meth (some .int) := ⟨hx, hb, hml, hown, hts, hG, hr, hlk⟩
  have hl : lv_has ls 3 [(0, .ref (ad 0))] := hl
  refine lv_iconst (v := (-1 : Int32)) (pc := 0) hx hb dX7_number_0 (by decide) ?_
  refine lv_istore_n (pc := 1) (lv' := [(1, .int (-1 : Int32)), (0, .ref (ad 0))]) hx hb dX7_number_1 rfl hl (by decide) rfl (fun ls hl => ?_)
  refine lv_iconst (v := (0 : Int32)) (pc := 2) hx hb dX7_number_2 (by decide) ?_
  refine lv_istore_n (pc := 3) (lv' := [(2, .int (0 : Int32)), (1, .int (-1 : Int32)), (0, .ref (ad 0))]) hx hb dX7_number_3 rfl hl (by decide) rfl (fun ls hl => ?_)
  obtain ⟨o5, h_o5, h⟩ := ob h
  refine l_Mod_number_L4 C0 F ad mthr mnow mold mols msav miss minp mlen medg mcor mtri mkep mkee mwor mnum mmet F (-1 : Int32) (0 : Int32) mat _ h_o5 H locs ls hP hD hS (lv_sub hl [2, 1, 0] rfl) (fun o5x H locs ls eo hP hD hS hl => ?_)
  subst o5
  refine lv_iload_n (pc := 58) hx hb dX7_number_58 rfl (lv_at hl 1 rfl) ?_
  obtain rfl := Option.some.inj h
  exact W.iret hx hb hr (fun t ht hW => ⟨⟨rfl, by rw [ht]; exact hP⟩, hS.F ht⟩) hS.2.2 dX7_number_59 hlk
set_option maxHeartbeats 4000000 in
set_option maxRecDepth 100000 in
theorem c_Mod_entry (l : Launch) (K : KT) (ad : Nat → Nat) (mthr : Int32) (mnow : Nat → Int32) (mold : Nat → Int32) (mols : Int32) (msav : Nat → Int32) (miss : Bool) (minp : Nat → Int32) (mlen : Int32) (mat : Int32) (medg : Nat → Int32) (mcor : Nat → Int32) (mtri : Int32) (mkep : Nat → Int32) (mkee : Nat → Int32) (mwor : Nat → Int32) (mnum : Nat → Int32) (mmet : Nat → Int32) (a0 : Bool) (F : Nat) {o : Int32 × Int32 × (Nat → Int32) × (Nat → Int32) × Int32 × Int32} (h : s_Mod_entry F mthr mnow mold mols minp mlen mat a0 = some o) : Wr l K 6 yX7_entry cX7_entry 6 (some .int) [.ref (ad 0), .int (bI a0)] (wMod K ad mthr mnow mold mols msav miss minp mlen mat medg mcor mtri mkep mkee mwor mnum mmet) (some (.int o.1)) (wMod K ad o.2.1 o.2.2.1 o.2.2.2.1 o.2.2.2.2.1 msav miss minp mlen o.2.2.2.2.2 medg mcor mtri mkep mkee mwor mnum mmet) := by
  refine Wr.of (by decide +kernel) (Nat.le_of_ble_eq_true rfl) ?_
  unfold s_Mod_entry at h
  intro p e s m below meth c hx hb hr hml hown hts hlk H locs hP hG hD hS ls hl
  have C0 : Ctx p m c cX7_entry 6 s (Array.mk [.ref (ad 0), .int (bI a0)]) RX7 K meth (some .int) := ⟨hx, hb, hml, hown, hts, hG, hr, hlk⟩
  have hl : lv_has ls 6 [(0, .ref (ad 0)), (1, .int (bI a0))] := hl
  refine lv_aload_n (pc := 0) hx hb dX7_entry_0 rfl (lv_at hl 0 rfl) ?_
  obtain ⟨v1, h_v1, h⟩ := ob h
  refine wrVi (pc := 1) (As := []) (rest := []) (ws2 := wMod K ad mthr mnow mold mols msav miss minp mlen v1.2 medg mcor mtri mkep mkee mwor mnum mmet) (as9 := [ad 0, ad 1, ad 2, ad 3, ad 4, ad 5, ad 6, ad 7, ad 8, ad 9, ad 10, ad 11]) hx hb hml hown hts hG hP hD hS (c_Mod_number l K ad mthr mnow mold mols msav miss minp mlen mat medg mcor mtri mkep mkee mwor mnum mmet F h_v1) [0, 1, 2, 3, 4, 5, 6, 7, 8, 9, 10, 11] rfl rfl rfl rfl [.inl 0, .inl 1, .inl 2, .inl 3, .inl 4, .inl 5, .inl 6, .inl 7, .inl 8, .inl 9, .inl 10, .inl 11] (by decide +kernel) rfl (q0 := 0) rfl (ci := 7) rfl g_Mod_197 hd_Mod_number rfl ⟨Nat.le_of_ble_eq_true rfl, Nat.le_of_ble_eq_true rfl⟩ ⟨Nat.zero_le _, Nat.zero_le _⟩ hl rfl (Nat.le_of_ble_eq_true rfl) dX7_entry_1 (fun H locs hP hD hS => ?_)
  refine lv_istore_n (pc := 4) (lv' := [(2, .int v1.1), (0, .ref (ad 0)), (1, .int (bI a0))]) hx hb dX7_entry_4 rfl hl (by decide) rfl (fun ls hl => ?_)
  refine lv_iload_n (pc := 5) hx hb dX7_entry_5 rfl (lv_at hl 0 rfl) ?_
  refine lv_if_ge (tgt := 11) (pc := 6) hx hb dX7_entry_6 (by decide) (fun c2 => ?_) (fun c2 => ?_)
  · have h := it_t c2 h
    refine lv_aload_n (pc := 11) hx hb dX7_entry_11 rfl (lv_at hl 1 rfl) ?_
    obtain ⟨v3, h_v3, h⟩ := ob h
    refine rdV (pc := 12) (As := []) (rest := []) hx hb hml hown hts hG hP (c_Mod_here l K ad mthr mnow mold mols msav miss minp mlen v1.2 medg mcor mtri mkep mkee mwor mnum mmet h_v3) [0, 1, 2, 3, 4, 5, 6, 7, 8, 9, 10, 11] rfl (q0 := 0) rfl (ci := 7) rfl g_Mod_194 hd_Mod_here rfl ⟨Nat.le_of_ble_eq_true rfl, Nat.le_of_ble_eq_true rfl⟩ ⟨Nat.zero_le _, Nat.zero_le _⟩ hl rfl (Nat.le_of_ble_eq_true rfl) dX7_entry_12 ?_
    refine lv_istore_n (pc := 15) (lv' := [(3, .int v3), (2, .int v1.1), (0, .ref (ad 0)), (1, .int (bI a0))]) hx hb dX7_entry_15 rfl hl (by decide) rfl (fun ls hl => ?_)
    refine lv_iload_n (pc := 16) hx hb dX7_entry_16 rfl (lv_at hl 0 rfl) ?_
    refine lv_bipush (v := (44 : Int32)) (pc := 17) hx hb dX7_entry_17 (by decide) ?_
    refine lv_icmp_eq (tgt := 30) (pc := 19) hx hb dX7_entry_19 (by decide) (fun c4 => ?_) (fun c4 => ?_)
    · have h := it_t c4 h
      refine lv_aload_n (pc := 30) hx hb dX7_entry_30 rfl (lv_at hl 2 rfl) ?_
      refine lv_dup (pc := 31) hx hb dX7_entry_31 rfl ?_
      refine va_get (D := K.1) (ci := 7) (v := .int v1.2) (C := RX7) (T := TX7) (N := 17) (pc := 32) hx hb hts inT7 hown hG.1 hP 0 rfl rfl 8 (by decide) (hts _ qf_Mod_191) (fun _ h9 => h9) rfl dX7_entry_32 ?_
      refine lv_iconst (v := (1 : Int32)) (pc := 35) hx hb dX7_entry_35 (by decide) ?_
      refine lv_iadd (pc := 36) hx hb dX7_entry_36 ?_
      refine va_put (D := K.1) (ci := 7) (v := .int (v1.2 + (1 : Int32))) (ty := .int) (C := RX7) (T := TX7) (N := 17) (pc := 37) hx hb hts inT7 tyX7 tyX7_ok nmX7 hown hG.1 hP hD hS 0 rfl rfl 8 (by decide) (hts _ qf_Mod_191) (fun _ h9 => h9) rfl (by decide +kernel) rfl rfl (Nat.le_of_ble_eq_true rfl) dX7_entry_37 (fun H locs hP hD hS => ?_)
      have hP : va_P K.1 vC (wMod K ad mthr mnow mold mols msav miss minp mlen (v1.2 + (1 : Int32)) medg mcor mtri mkep mkee mwor mnum mmet) H := hP
      have hD : va_D _ (wMod K ad mthr mnow mold mols msav miss minp mlen (v1.2 + (1 : Int32)) medg mcor mtri mkep mkee mwor mnum mmet) := hD
      refine lv_aload_n (pc := 40) hx hb dX7_entry_40 rfl (lv_at hl 2 rfl) ?_
      obtain ⟨v5, h_v5, h⟩ := ob h
      refine wrVi (pc := 41) (As := []) (rest := []) (ws2 := wMod K ad mthr mnow mold mols msav miss minp mlen v5.2 medg mcor mtri mkep mkee mwor mnum mmet) (as9 := [ad 0, ad 1, ad 2, ad 3, ad 4, ad 5, ad 6, ad 7, ad 8, ad 9, ad 10, ad 11]) hx hb hml hown hts hG hP hD hS (c_Mod_number l K ad mthr mnow mold mols msav miss minp mlen (v1.2 + (1 : Int32)) medg mcor mtri mkep mkee mwor mnum mmet F h_v5) [0, 1, 2, 3, 4, 5, 6, 7, 8, 9, 10, 11] rfl rfl rfl rfl [.inl 0, .inl 1, .inl 2, .inl 3, .inl 4, .inl 5, .inl 6, .inl 7, .inl 8, .inl 9, .inl 10, .inl 11] (by decide +kernel) rfl (q0 := 0) rfl (ci := 7) rfl g_Mod_197 hd_Mod_number rfl ⟨Nat.le_of_ble_eq_true rfl, Nat.le_of_ble_eq_true rfl⟩ ⟨Nat.zero_le _, Nat.zero_le _⟩ hl rfl (Nat.le_of_ble_eq_true rfl) dX7_entry_41 (fun H locs hP hD hS => ?_)
      refine lv_istore (pc := 44) (lv' := [(4, .int v5.1), (3, .int v3), (2, .int v1.1), (0, .ref (ad 0)), (1, .int (bI a0))]) hx hb dX7_entry_44 hl (by decide) rfl (fun ls hl => ?_)
      refine lv_iload (pc := 46) hx hb dX7_entry_46 (lv_at hl 0 rfl) ?_
      refine lv_if_ge (tgt := 53) (pc := 48) hx hb dX7_entry_48 (by decide) (fun c6 => ?_) (fun c6 => ?_)
      · have h := it_t c6 h
        refine lv_iload_n (pc := 53) hx hb dX7_entry_53 rfl (lv_at hl 4 rfl) ?_
        refine lv_if_ne (tgt := 59) (pc := 54) hx hb dX7_entry_54 (by decide) (fun c7 => ?_) (fun c7 => ?_)
        · have h := it_f c7 h
          refine lv_iload_n (pc := 59) hx hb dX7_entry_59 rfl (lv_at hl 1 rfl) ?_
          refine lv_bipush (v := (44 : Int32)) (pc := 60) hx hb dX7_entry_60 (by decide) ?_
          refine lv_icmp_ne (tgt := 75) (pc := 62) hx hb dX7_entry_62 (by decide) (fun c8 => ?_) (fun c8 => ?_)
          · have h := it_f c8 h
            refine lv_aload_n (pc := 75) hx hb dX7_entry_75 rfl (lv_at hl 3 rfl) ?_
            refine lv_iload_n (pc := 76) hx hb dX7_entry_76 rfl (lv_at hl 2 rfl) ?_
            refine lv_iload (pc := 77) hx hb dX7_entry_77 (lv_at hl 0 rfl) ?_
            obtain ⟨v9, h_v9, h⟩ := ob h
            refine wrVi (pc := 79) (As := [.int v1.1, .int v5.1]) (rest := []) (ws2 := wMod K ad v9.2.1 v9.2.2.1 v9.2.2.2.1 v9.2.2.2.2 msav miss minp mlen v5.2 medg mcor mtri mkep mkee mwor mnum mmet) (as9 := [ad 0, ad 1, ad 2, ad 3, ad 4, ad 5, ad 6, ad 7, ad 8, ad 9, ad 10, ad 11]) hx hb hml hown hts hG hP hD hS (c_Mod_addConstraint l K ad mthr mnow mold mols msav miss minp mlen v5.2 medg mcor mtri mkep mkee mwor mnum mmet v1.1 v5.1 F h_v9) [0, 1, 2, 3, 4, 5, 6, 7, 8, 9, 10, 11] rfl rfl rfl rfl [.inl 0, .inl 1, .inl 2, .inl 3, .inl 4, .inl 5, .inl 6, .inl 7, .inl 8, .inl 9, .inl 10, .inl 11] (by decide +kernel) rfl (q0 := 0) rfl (ci := 7) rfl g_Mod_203 hd_Mod_addConstraint rfl ⟨Nat.le_of_ble_eq_true rfl, Nat.le_of_ble_eq_true rfl⟩ ⟨Nat.zero_le _, Nat.zero_le _⟩ hl rfl (Nat.le_of_ble_eq_true rfl) dX7_entry_79 (fun H locs hP hD hS => ?_)
            refine lv_istore (pc := 82) (lv' := [(5, .int v9.1), (4, .int v5.1), (3, .int v3), (2, .int v1.1), (0, .ref (ad 0)), (1, .int (bI a0))]) hx hb dX7_entry_82 hl (by decide) rfl (fun ls hl => ?_)
            refine lv_aload_n (pc := 84) hx hb dX7_entry_84 rfl (lv_at hl 4 rfl) ?_
            refine va_get (D := K.1) (ci := 7) (v := .int v9.2.1) (C := RX7) (T := TX7) (N := 17) (pc := 85) hx hb hts inT7 hown hG.1 hP 0 rfl rfl 0 (by decide) (hts _ qf_Mod_44) (fun _ h9 => h9) rfl dX7_entry_85 ?_
            refine lv_if_ne (tgt := 100) (pc := 88) hx hb dX7_entry_88 (by decide) (fun c10 => ?_) (fun c10 => ?_)
            · have h := it_f c10 h
              refine lv_iconst (v := (0 : Int32)) (pc := 100) hx hb dX7_entry_100 (by decide) ?_
              obtain rfl := Option.some.inj h
              exact W.iret hx hb hr (fun t ht hW => ⟨⟨rfl, by rw [ht]; exact hP⟩, hS.F ht⟩) hS.2.2 dX7_entry_101 hlk
            · have h := it_t c10 h
              refine lv_iload (pc := 91) hx hb dX7_entry_91 (lv_at hl 0 rfl) ?_
              refine lv_if_lt (tgt := 100) (pc := 93) hx hb dX7_entry_93 (by decide) (fun c11 => ?_) (fun c11 => ?_)
              · have h := it_t c11 h
                refine lv_iconst (v := (0 : Int32)) (pc := 100) hx hb dX7_entry_100 (by decide) ?_
                obtain rfl := Option.some.inj h
                exact W.iret hx hb hr (fun t ht hW => ⟨⟨rfl, by rw [ht]; exact hP⟩, hS.F ht⟩) hS.2.2 dX7_entry_101 hlk
              · have h := it_f c11 h
                refine lv_iconst (v := (1 : Int32)) (pc := 96) hx hb dX7_entry_96 (by decide) ?_
                refine lv_goto (tgt := 101) (pc := 97) hx hb dX7_entry_97 (by decide) ?_
                obtain rfl := Option.some.inj h
                exact W.iret hx hb hr (fun t ht hW => ⟨⟨rfl, by rw [ht]; exact hP⟩, hS.F ht⟩) hS.2.2 dX7_entry_101 hlk
          · have h := it_t c8 h
            refine lv_aload_n (pc := 65) hx hb dX7_entry_65 rfl (lv_at hl 3 rfl) ?_
            refine lv_iload_n (pc := 66) hx hb dX7_entry_66 rfl (lv_at hl 2 rfl) ?_
            refine lv_iload (pc := 67) hx hb dX7_entry_67 (lv_at hl 0 rfl) ?_
            obtain ⟨v12, h_v12, h⟩ := ob h
            refine wrVi (pc := 69) (As := [.int v1.1, .int v5.1]) (rest := []) (ws2 := wMod K ad v12.2.1 v12.2.2.1 v12.2.2.2.1 v12.2.2.2.2 msav miss minp mlen v5.2 medg mcor mtri mkep mkee mwor mnum mmet) (as9 := [ad 0, ad 1, ad 2, ad 3, ad 4, ad 5, ad 6, ad 7, ad 8, ad 9, ad 10, ad 11]) hx hb hml hown hts hG hP hD hS (c_Mod_addPoint l K ad mthr mnow mold mols msav miss minp mlen v5.2 medg mcor mtri mkep mkee mwor mnum mmet v1.1 v5.1 F h_v12) [0, 1, 2, 3, 4, 5, 6, 7, 8, 9, 10, 11] rfl rfl rfl rfl [.inl 0, .inl 1, .inl 2, .inl 3, .inl 4, .inl 5, .inl 6, .inl 7, .inl 8, .inl 9, .inl 10, .inl 11] (by decide +kernel) rfl (q0 := 0) rfl (ci := 7) rfl g_Mod_200 hd_Mod_addPoint rfl ⟨Nat.le_of_ble_eq_true rfl, Nat.le_of_ble_eq_true rfl⟩ ⟨Nat.zero_le _, Nat.zero_le _⟩ hl rfl (Nat.le_of_ble_eq_true rfl) dX7_entry_69 (fun H locs hP hD hS => ?_)
            refine lv_goto (tgt := 82) (pc := 72) hx hb dX7_entry_72 (by decide) ?_
            refine lv_istore (pc := 82) (lv' := [(5, .int v12.1), (4, .int v5.1), (3, .int v3), (2, .int v1.1), (0, .ref (ad 0)), (1, .int (bI a0))]) hx hb dX7_entry_82 hl (by decide) rfl (fun ls hl => ?_)
            refine lv_aload_n (pc := 84) hx hb dX7_entry_84 rfl (lv_at hl 4 rfl) ?_
            refine va_get (D := K.1) (ci := 7) (v := .int v12.2.1) (C := RX7) (T := TX7) (N := 17) (pc := 85) hx hb hts inT7 hown hG.1 hP 0 rfl rfl 0 (by decide) (hts _ qf_Mod_44) (fun _ h9 => h9) rfl dX7_entry_85 ?_
            refine lv_if_ne (tgt := 100) (pc := 88) hx hb dX7_entry_88 (by decide) (fun c13 => ?_) (fun c13 => ?_)
            · have h := it_f c13 h
              refine lv_iconst (v := (0 : Int32)) (pc := 100) hx hb dX7_entry_100 (by decide) ?_
              obtain rfl := Option.some.inj h
              exact W.iret hx hb hr (fun t ht hW => ⟨⟨rfl, by rw [ht]; exact hP⟩, hS.F ht⟩) hS.2.2 dX7_entry_101 hlk
            · have h := it_t c13 h
              refine lv_iload (pc := 91) hx hb dX7_entry_91 (lv_at hl 0 rfl) ?_
              refine lv_if_lt (tgt := 100) (pc := 93) hx hb dX7_entry_93 (by decide) (fun c14 => ?_) (fun c14 => ?_)
              · have h := it_t c14 h
                refine lv_iconst (v := (0 : Int32)) (pc := 100) hx hb dX7_entry_100 (by decide) ?_
                obtain rfl := Option.some.inj h
                exact W.iret hx hb hr (fun t ht hW => ⟨⟨rfl, by rw [ht]; exact hP⟩, hS.F ht⟩) hS.2.2 dX7_entry_101 hlk
              · have h := it_f c14 h
                refine lv_iconst (v := (1 : Int32)) (pc := 96) hx hb dX7_entry_96 (by decide) ?_
                refine lv_goto (tgt := 101) (pc := 97) hx hb dX7_entry_97 (by decide) ?_
                obtain rfl := Option.some.inj h
                exact W.iret hx hb hr (fun t ht hW => ⟨⟨rfl, by rw [ht]; exact hP⟩, hS.F ht⟩) hS.2.2 dX7_entry_101 hlk
        · have h := it_t c7 h
          refine lv_iconst (v := (1 : Int32)) (pc := 57) hx hb dX7_entry_57 (by decide) ?_
          obtain rfl := Option.some.inj h
          exact W.iret hx hb hr (fun t ht hW => ⟨⟨rfl, by rw [ht]; exact hP⟩, hS.F ht⟩) hS.2.2 dX7_entry_58 hlk
      · have h := it_f c6 h
        refine lv_iconst (v := (-1 : Int32)) (pc := 51) hx hb dX7_entry_51 (by decide) ?_
        obtain rfl := Option.some.inj h
        exact W.iret hx hb hr (fun t ht hW => ⟨⟨rfl, by rw [ht]; exact hP⟩, hS.F ht⟩) hS.2.2 dX7_entry_52 hlk
    · have h := it_f c4 h
      refine lv_iload_n (pc := 22) hx hb dX7_entry_22 rfl (lv_at hl 0 rfl) ?_
      refine lv_bipush (v := (45 : Int32)) (pc := 23) hx hb dX7_entry_23 (by decide) ?_
      refine lv_icmp_eq (tgt := 30) (pc := 25) hx hb dX7_entry_25 (by decide) (fun c15 => ?_) (fun c15 => ?_)
      · have h := it_t c15 h
        refine lv_aload_n (pc := 30) hx hb dX7_entry_30 rfl (lv_at hl 2 rfl) ?_
        refine lv_dup (pc := 31) hx hb dX7_entry_31 rfl ?_
        refine va_get (D := K.1) (ci := 7) (v := .int v1.2) (C := RX7) (T := TX7) (N := 17) (pc := 32) hx hb hts inT7 hown hG.1 hP 0 rfl rfl 8 (by decide) (hts _ qf_Mod_191) (fun _ h9 => h9) rfl dX7_entry_32 ?_
        refine lv_iconst (v := (1 : Int32)) (pc := 35) hx hb dX7_entry_35 (by decide) ?_
        refine lv_iadd (pc := 36) hx hb dX7_entry_36 ?_
        refine va_put (D := K.1) (ci := 7) (v := .int (v1.2 + (1 : Int32))) (ty := .int) (C := RX7) (T := TX7) (N := 17) (pc := 37) hx hb hts inT7 tyX7 tyX7_ok nmX7 hown hG.1 hP hD hS 0 rfl rfl 8 (by decide) (hts _ qf_Mod_191) (fun _ h9 => h9) rfl (by decide +kernel) rfl rfl (Nat.le_of_ble_eq_true rfl) dX7_entry_37 (fun H locs hP hD hS => ?_)
        have hP : va_P K.1 vC (wMod K ad mthr mnow mold mols msav miss minp mlen (v1.2 + (1 : Int32)) medg mcor mtri mkep mkee mwor mnum mmet) H := hP
        have hD : va_D _ (wMod K ad mthr mnow mold mols msav miss minp mlen (v1.2 + (1 : Int32)) medg mcor mtri mkep mkee mwor mnum mmet) := hD
        refine lv_aload_n (pc := 40) hx hb dX7_entry_40 rfl (lv_at hl 2 rfl) ?_
        obtain ⟨v16, h_v16, h⟩ := ob h
        refine wrVi (pc := 41) (As := []) (rest := []) (ws2 := wMod K ad mthr mnow mold mols msav miss minp mlen v16.2 medg mcor mtri mkep mkee mwor mnum mmet) (as9 := [ad 0, ad 1, ad 2, ad 3, ad 4, ad 5, ad 6, ad 7, ad 8, ad 9, ad 10, ad 11]) hx hb hml hown hts hG hP hD hS (c_Mod_number l K ad mthr mnow mold mols msav miss minp mlen (v1.2 + (1 : Int32)) medg mcor mtri mkep mkee mwor mnum mmet F h_v16) [0, 1, 2, 3, 4, 5, 6, 7, 8, 9, 10, 11] rfl rfl rfl rfl [.inl 0, .inl 1, .inl 2, .inl 3, .inl 4, .inl 5, .inl 6, .inl 7, .inl 8, .inl 9, .inl 10, .inl 11] (by decide +kernel) rfl (q0 := 0) rfl (ci := 7) rfl g_Mod_197 hd_Mod_number rfl ⟨Nat.le_of_ble_eq_true rfl, Nat.le_of_ble_eq_true rfl⟩ ⟨Nat.zero_le _, Nat.zero_le _⟩ hl rfl (Nat.le_of_ble_eq_true rfl) dX7_entry_41 (fun H locs hP hD hS => ?_)
        refine lv_istore (pc := 44) (lv' := [(4, .int v16.1), (3, .int v3), (2, .int v1.1), (0, .ref (ad 0)), (1, .int (bI a0))]) hx hb dX7_entry_44 hl (by decide) rfl (fun ls hl => ?_)
        refine lv_iload (pc := 46) hx hb dX7_entry_46 (lv_at hl 0 rfl) ?_
        refine lv_if_ge (tgt := 53) (pc := 48) hx hb dX7_entry_48 (by decide) (fun c17 => ?_) (fun c17 => ?_)
        · have h := it_t c17 h
          refine lv_iload_n (pc := 53) hx hb dX7_entry_53 rfl (lv_at hl 4 rfl) ?_
          refine lv_if_ne (tgt := 59) (pc := 54) hx hb dX7_entry_54 (by decide) (fun c18 => ?_) (fun c18 => ?_)
          · have h := it_f c18 h
            refine lv_iload_n (pc := 59) hx hb dX7_entry_59 rfl (lv_at hl 1 rfl) ?_
            refine lv_bipush (v := (44 : Int32)) (pc := 60) hx hb dX7_entry_60 (by decide) ?_
            refine lv_icmp_ne (tgt := 75) (pc := 62) hx hb dX7_entry_62 (by decide) (fun c19 => ?_) (fun c19 => ?_)
            · have h := it_f c19 h
              refine lv_aload_n (pc := 75) hx hb dX7_entry_75 rfl (lv_at hl 3 rfl) ?_
              refine lv_iload_n (pc := 76) hx hb dX7_entry_76 rfl (lv_at hl 2 rfl) ?_
              refine lv_iload (pc := 77) hx hb dX7_entry_77 (lv_at hl 0 rfl) ?_
              obtain ⟨v20, h_v20, h⟩ := ob h
              refine wrVi (pc := 79) (As := [.int v1.1, .int v16.1]) (rest := []) (ws2 := wMod K ad v20.2.1 v20.2.2.1 v20.2.2.2.1 v20.2.2.2.2 msav miss minp mlen v16.2 medg mcor mtri mkep mkee mwor mnum mmet) (as9 := [ad 0, ad 1, ad 2, ad 3, ad 4, ad 5, ad 6, ad 7, ad 8, ad 9, ad 10, ad 11]) hx hb hml hown hts hG hP hD hS (c_Mod_addConstraint l K ad mthr mnow mold mols msav miss minp mlen v16.2 medg mcor mtri mkep mkee mwor mnum mmet v1.1 v16.1 F h_v20) [0, 1, 2, 3, 4, 5, 6, 7, 8, 9, 10, 11] rfl rfl rfl rfl [.inl 0, .inl 1, .inl 2, .inl 3, .inl 4, .inl 5, .inl 6, .inl 7, .inl 8, .inl 9, .inl 10, .inl 11] (by decide +kernel) rfl (q0 := 0) rfl (ci := 7) rfl g_Mod_203 hd_Mod_addConstraint rfl ⟨Nat.le_of_ble_eq_true rfl, Nat.le_of_ble_eq_true rfl⟩ ⟨Nat.zero_le _, Nat.zero_le _⟩ hl rfl (Nat.le_of_ble_eq_true rfl) dX7_entry_79 (fun H locs hP hD hS => ?_)
              refine lv_istore (pc := 82) (lv' := [(5, .int v20.1), (4, .int v16.1), (3, .int v3), (2, .int v1.1), (0, .ref (ad 0)), (1, .int (bI a0))]) hx hb dX7_entry_82 hl (by decide) rfl (fun ls hl => ?_)
              refine lv_aload_n (pc := 84) hx hb dX7_entry_84 rfl (lv_at hl 4 rfl) ?_
              refine va_get (D := K.1) (ci := 7) (v := .int v20.2.1) (C := RX7) (T := TX7) (N := 17) (pc := 85) hx hb hts inT7 hown hG.1 hP 0 rfl rfl 0 (by decide) (hts _ qf_Mod_44) (fun _ h9 => h9) rfl dX7_entry_85 ?_
              refine lv_if_ne (tgt := 100) (pc := 88) hx hb dX7_entry_88 (by decide) (fun c21 => ?_) (fun c21 => ?_)
              · have h := it_f c21 h
                refine lv_iconst (v := (0 : Int32)) (pc := 100) hx hb dX7_entry_100 (by decide) ?_
                obtain rfl := Option.some.inj h
                exact W.iret hx hb hr (fun t ht hW => ⟨⟨rfl, by rw [ht]; exact hP⟩, hS.F ht⟩) hS.2.2 dX7_entry_101 hlk
              · have h := it_t c21 h
                refine lv_iload (pc := 91) hx hb dX7_entry_91 (lv_at hl 0 rfl) ?_
                refine lv_if_lt (tgt := 100) (pc := 93) hx hb dX7_entry_93 (by decide) (fun c22 => ?_) (fun c22 => ?_)
                · have h := it_t c22 h
                  refine lv_iconst (v := (0 : Int32)) (pc := 100) hx hb dX7_entry_100 (by decide) ?_
                  obtain rfl := Option.some.inj h
                  exact W.iret hx hb hr (fun t ht hW => ⟨⟨rfl, by rw [ht]; exact hP⟩, hS.F ht⟩) hS.2.2 dX7_entry_101 hlk
                · have h := it_f c22 h
                  refine lv_iconst (v := (1 : Int32)) (pc := 96) hx hb dX7_entry_96 (by decide) ?_
                  refine lv_goto (tgt := 101) (pc := 97) hx hb dX7_entry_97 (by decide) ?_
                  obtain rfl := Option.some.inj h
                  exact W.iret hx hb hr (fun t ht hW => ⟨⟨rfl, by rw [ht]; exact hP⟩, hS.F ht⟩) hS.2.2 dX7_entry_101 hlk
            · have h := it_t c19 h
              refine lv_aload_n (pc := 65) hx hb dX7_entry_65 rfl (lv_at hl 3 rfl) ?_
              refine lv_iload_n (pc := 66) hx hb dX7_entry_66 rfl (lv_at hl 2 rfl) ?_
              refine lv_iload (pc := 67) hx hb dX7_entry_67 (lv_at hl 0 rfl) ?_
              obtain ⟨v23, h_v23, h⟩ := ob h
              refine wrVi (pc := 69) (As := [.int v1.1, .int v16.1]) (rest := []) (ws2 := wMod K ad v23.2.1 v23.2.2.1 v23.2.2.2.1 v23.2.2.2.2 msav miss minp mlen v16.2 medg mcor mtri mkep mkee mwor mnum mmet) (as9 := [ad 0, ad 1, ad 2, ad 3, ad 4, ad 5, ad 6, ad 7, ad 8, ad 9, ad 10, ad 11]) hx hb hml hown hts hG hP hD hS (c_Mod_addPoint l K ad mthr mnow mold mols msav miss minp mlen v16.2 medg mcor mtri mkep mkee mwor mnum mmet v1.1 v16.1 F h_v23) [0, 1, 2, 3, 4, 5, 6, 7, 8, 9, 10, 11] rfl rfl rfl rfl [.inl 0, .inl 1, .inl 2, .inl 3, .inl 4, .inl 5, .inl 6, .inl 7, .inl 8, .inl 9, .inl 10, .inl 11] (by decide +kernel) rfl (q0 := 0) rfl (ci := 7) rfl g_Mod_200 hd_Mod_addPoint rfl ⟨Nat.le_of_ble_eq_true rfl, Nat.le_of_ble_eq_true rfl⟩ ⟨Nat.zero_le _, Nat.zero_le _⟩ hl rfl (Nat.le_of_ble_eq_true rfl) dX7_entry_69 (fun H locs hP hD hS => ?_)
              refine lv_goto (tgt := 82) (pc := 72) hx hb dX7_entry_72 (by decide) ?_
              refine lv_istore (pc := 82) (lv' := [(5, .int v23.1), (4, .int v16.1), (3, .int v3), (2, .int v1.1), (0, .ref (ad 0)), (1, .int (bI a0))]) hx hb dX7_entry_82 hl (by decide) rfl (fun ls hl => ?_)
              refine lv_aload_n (pc := 84) hx hb dX7_entry_84 rfl (lv_at hl 4 rfl) ?_
              refine va_get (D := K.1) (ci := 7) (v := .int v23.2.1) (C := RX7) (T := TX7) (N := 17) (pc := 85) hx hb hts inT7 hown hG.1 hP 0 rfl rfl 0 (by decide) (hts _ qf_Mod_44) (fun _ h9 => h9) rfl dX7_entry_85 ?_
              refine lv_if_ne (tgt := 100) (pc := 88) hx hb dX7_entry_88 (by decide) (fun c24 => ?_) (fun c24 => ?_)
              · have h := it_f c24 h
                refine lv_iconst (v := (0 : Int32)) (pc := 100) hx hb dX7_entry_100 (by decide) ?_
                obtain rfl := Option.some.inj h
                exact W.iret hx hb hr (fun t ht hW => ⟨⟨rfl, by rw [ht]; exact hP⟩, hS.F ht⟩) hS.2.2 dX7_entry_101 hlk
              · have h := it_t c24 h
                refine lv_iload (pc := 91) hx hb dX7_entry_91 (lv_at hl 0 rfl) ?_
                refine lv_if_lt (tgt := 100) (pc := 93) hx hb dX7_entry_93 (by decide) (fun c25 => ?_) (fun c25 => ?_)
                · have h := it_t c25 h
                  refine lv_iconst (v := (0 : Int32)) (pc := 100) hx hb dX7_entry_100 (by decide) ?_
                  obtain rfl := Option.some.inj h
                  exact W.iret hx hb hr (fun t ht hW => ⟨⟨rfl, by rw [ht]; exact hP⟩, hS.F ht⟩) hS.2.2 dX7_entry_101 hlk
                · have h := it_f c25 h
                  refine lv_iconst (v := (1 : Int32)) (pc := 96) hx hb dX7_entry_96 (by decide) ?_
                  refine lv_goto (tgt := 101) (pc := 97) hx hb dX7_entry_97 (by decide) ?_
                  obtain rfl := Option.some.inj h
                  exact W.iret hx hb hr (fun t ht hW => ⟨⟨rfl, by rw [ht]; exact hP⟩, hS.F ht⟩) hS.2.2 dX7_entry_101 hlk
          · have h := it_t c18 h
            refine lv_iconst (v := (1 : Int32)) (pc := 57) hx hb dX7_entry_57 (by decide) ?_
            obtain rfl := Option.some.inj h
            exact W.iret hx hb hr (fun t ht hW => ⟨⟨rfl, by rw [ht]; exact hP⟩, hS.F ht⟩) hS.2.2 dX7_entry_58 hlk
        · have h := it_f c17 h
          refine lv_iconst (v := (-1 : Int32)) (pc := 51) hx hb dX7_entry_51 (by decide) ?_
          obtain rfl := Option.some.inj h
          exact W.iret hx hb hr (fun t ht hW => ⟨⟨rfl, by rw [ht]; exact hP⟩, hS.F ht⟩) hS.2.2 dX7_entry_52 hlk
      · have h := it_f c15 h
        refine lv_iconst (v := (-1 : Int32)) (pc := 28) hx hb dX7_entry_28 (by decide) ?_
        obtain rfl := Option.some.inj h
        exact W.iret hx hb hr (fun t ht hW => ⟨⟨rfl, by rw [ht]; exact hP⟩, hS.F ht⟩) hS.2.2 dX7_entry_29 hlk
  · have h := it_f c2 h
    refine lv_iconst (v := (-1 : Int32)) (pc := 9) hx hb dX7_entry_9 (by decide) ?_
    obtain rfl := Option.some.inj h
    exact W.iret hx hb hr (fun t ht hW => ⟨⟨rfl, by rw [ht]; exact hP⟩, hS.F ht⟩) hS.2.2 dX7_entry_10 hlk
set_option maxHeartbeats 4000000 in
set_option maxRecDepth 100000 in
theorem l_Mod_readInput_L12 {p : Program} {l : Launch} {e : Env} {s : State} {m : MethodId} {args : Array Value} {below : List Frame} {meth : Method} {c : Code} {Q : State → Prop} {K : KT} {A : Nat → Prop} (C0 : Ctx p m c cX7_readInput 3 s args RX7 K meth (some .int)) (F : Nat) (ad : Nat → Nat) (msav : Nat → Int32) (miss : Bool) (minp : Nat → Int32) (mlen : Int32) (medg : Nat → Int32) (mcor : Nat → Int32) (mtri : Int32) (mkep : Nat → Int32) (mkee : Nat → Int32) (mwor : Nat → Int32) (mnum : Nat → Int32) (mmet : Nat → Int32)  : ∀ (n : Nat) (x1 : Int32) (mthr : Int32) (mnow : Nat → Int32) (mold : Nat → Int32) (mols : Int32) (mat : Int32) (out : Int32 × Int32 × (Nat → Int32) × (Nat → Int32) × Int32 × Int32), s_Mod_readInput_L12 F minp mlen n x1 mthr mnow mold mols mat = some out → ∀ (H : Heap) (locs : List Loc) (ls : Array Slot), va_P K.1 vC (wMod K ad mthr mnow mold mols msav miss minp mlen mat medg mcor mtri mkep mkee mwor mnum mmet) H → va_D A (wMod K ad mthr mnow mold mols msav miss minp mlen mat medg mcor mtri mkep mkee mwor mnum mmet) → va_S A s.heap H locs → lv_has ls 3 [(0, .ref (ad 0)), (1, .int x1)] → (∀ (o : Int32 × Int32 × (Nat → Int32) × (Nat → Int32) × Int32 × Int32) (H : Heap) (locs : List Loc) (ls : Array Slot), out = o → va_P K.1 vC (wMod K ad o.2.1 o.2.2.1 o.2.2.2.1 o.2.2.2.2.1 msav miss minp mlen o.2.2.2.2.2 medg mcor mtri mkep mkee mwor mnum mmet) H → va_D A (wMod K ad o.2.1 o.2.2.1 o.2.2.2.1 o.2.2.2.2.1 msav miss minp mlen o.2.2.2.2.2 medg mcor mtri mkep mkee mwor mnum mmet) → va_S A s.heap H locs → lv_has ls 3 [(0, .ref (ad 0)), (1, .int o.1)] → W p l e (rmL 7) s m args below meth c H locs 0 0 Q (F0 m 89 ls [])) → W p l e (rmL 7) s m args below meth c H locs 0 0 Q (F0 m 12 ls []) := by
  obtain ⟨hx, hb, hml, hown, hts, hG, hr, hlk⟩ := id C0
  intro n
  induction n with
  | zero =>
    intro x1 mthr mnow mold mols mat out h
    cases h
  | succ n ih =>
    intro x1 mthr mnow mold mols mat out h H locs ls hP hD hS hl Kx 
    rw [s_Mod_readInput_L12.eq_2] at h
    refine lv_iload_n (pc := 12) hx hb dX7_readInput_12 rfl (lv_at hl 1 rfl) ?_
    refine lv_if_eq (tgt := 89) (pc := 13) hx hb dX7_readInput_13 (by decide) (fun c1 => ?_) (fun c1 => ?_)
    · have h := it_t c1 h
      obtain rfl := Option.some.inj h
      exact Kx _ H locs ls rfl hP hD hS (lv_sub hl [0, 1] rfl)
    · have h := it_f c1 h
      refine lv_aload_n (pc := 16) hx hb dX7_readInput_16 rfl (lv_at hl 0 rfl) ?_
      refine lv_iconst (v := (0 : Int32)) (pc := 17) hx hb dX7_readInput_17 (by decide) ?_
      obtain ⟨v2, h_v2, h⟩ := ob h
      refine wrVi (pc := 18) (As := [.int (0 : Int32)]) (rest := []) (ws2 := wMod K ad v2.2.1 v2.2.2.1 v2.2.2.2.1 v2.2.2.2.2.1 msav miss minp mlen v2.2.2.2.2.2 medg mcor mtri mkep mkee mwor mnum mmet) (as9 := [ad 0, ad 1, ad 2, ad 3, ad 4, ad 5, ad 6, ad 7, ad 8, ad 9, ad 10, ad 11]) hx hb hml hown hts hG hP hD hS (c_Mod_entry l K ad mthr mnow mold mols msav miss minp mlen mat medg mcor mtri mkep mkee mwor mnum mmet false F h_v2) [0, 1, 2, 3, 4, 5, 6, 7, 8, 9, 10, 11] rfl rfl rfl rfl [.inl 0, .inl 1, .inl 2, .inl 3, .inl 4, .inl 5, .inl 6, .inl 7, .inl 8, .inl 9, .inl 10, .inl 11] (by decide +kernel) rfl (q0 := 0) rfl (ci := 7) rfl g_Mod_206 hd_Mod_entry rfl ⟨Nat.le_of_ble_eq_true rfl, Nat.le_of_ble_eq_true rfl⟩ ⟨Nat.zero_le _, Nat.zero_le _⟩ hl rfl (Nat.le_of_ble_eq_true rfl) dX7_readInput_18 (fun H locs hP hD hS => ?_)
      refine lv_if_le (tgt := 28) (pc := 21) hx hb dX7_readInput_21 (by decide) (fun c3 => ?_) (fun c3 => ?_)
      · have h := it_t c3 h
        refine lv_iconst (v := (0 : Int32)) (pc := 28) hx hb dX7_readInput_28 (by decide) ?_
        refine lv_istore_n (pc := 29) (lv' := [(1, .int (0 : Int32)), (0, .ref (ad 0))]) hx hb dX7_readInput_29 rfl hl (by decide) rfl (fun ls hl => ?_)
        refine lv_iload_n (pc := 30) hx hb dX7_readInput_30 rfl (lv_at hl 0 rfl) ?_
        refine lv_if_ne (tgt := 37) (pc := 31) hx hb dX7_readInput_31 (by decide) (fun c4 => ?_) (fun c4 => ?_)
        · have h := it_f c4 h
          refine lv_aload_n (pc := 37) hx hb dX7_readInput_37 rfl (lv_at hl 1 rfl) ?_
          obtain ⟨v5, h_v5, h⟩ := ob h
          refine rdV (pc := 38) (As := []) (rest := []) hx hb hml hown hts hG hP (c_Mod_here l K ad v2.2.1 v2.2.2.1 v2.2.2.2.1 v2.2.2.2.2.1 msav miss minp mlen v2.2.2.2.2.2 medg mcor mtri mkep mkee mwor mnum mmet h_v5) [0, 1, 2, 3, 4, 5, 6, 7, 8, 9, 10, 11] rfl (q0 := 0) rfl (ci := 7) rfl g_Mod_194 hd_Mod_here rfl ⟨Nat.le_of_ble_eq_true rfl, Nat.le_of_ble_eq_true rfl⟩ ⟨Nat.zero_le _, Nat.zero_le _⟩ hl rfl (Nat.le_of_ble_eq_true rfl) dX7_readInput_38 ?_
          refine lv_bipush (v := (59 : Int32)) (pc := 41) hx hb dX7_readInput_41 (by decide) ?_
          refine lv_icmp_ne (tgt := 50) (pc := 43) hx hb dX7_readInput_43 (by decide) (fun c6 => ?_) (fun c6 => ?_)
          · have h := it_f c6 h
            refine lv_iconst (v := (0 : Int32)) (pc := 50) hx hb dX7_readInput_50 (by decide) ?_
            refine lv_istore_n (pc := 51) (lv' := [(1, .int (0 : Int32)), (0, .ref (ad 0))]) hx hb dX7_readInput_51 rfl hl (by decide) rfl (fun ls hl => ?_)
            refine lv_iload_n (pc := 52) hx hb dX7_readInput_52 rfl (lv_at hl 0 rfl) ?_
            refine lv_if_eq (tgt := 69) (pc := 53) hx hb dX7_readInput_53 (by decide) (fun c7 => ?_) (fun c7 => ?_)
            · have h := it_t c7 h
              refine lv_aload_n (pc := 69) hx hb dX7_readInput_69 rfl (lv_at hl 1 rfl) ?_
              refine va_get (D := K.1) (ci := 7) (v := .int v2.2.2.2.2.2) (C := RX7) (T := TX7) (N := 17) (pc := 70) hx hb hts inT7 hown hG.1 hP 0 rfl rfl 8 (by decide) (hts _ qf_Mod_191) (fun _ h9 => h9) rfl dX7_readInput_70 ?_
              refine lv_aload_n (pc := 73) hx hb dX7_readInput_73 rfl (lv_at hl 1 rfl) ?_
              refine va_get (D := K.1) (ci := 7) (v := .int mlen) (C := RX7) (T := TX7) (N := 17) (pc := 74) hx hb hts inT7 hown hG.1 hP 0 rfl rfl 7 (by decide) (hts _ qf_Mod_188) (fun _ h9 => h9) rfl dX7_readInput_74 ?_
              refine lv_icmp_ne (tgt := 12) (pc := 77) hx hb dX7_readInput_77 (by decide) (fun c8 => ?_) (fun c8 => ?_)
              · have h := it_f c8 h
                exact ih (0 : Int32) v2.2.1 v2.2.2.1 v2.2.2.2.1 v2.2.2.2.2.1 v2.2.2.2.2.2 out h H locs ls hP hD hS (lv_sub hl [1, 0] rfl) Kx 
              · have h := it_t c8 h
                refine lv_aload_n (pc := 80) hx hb dX7_readInput_80 rfl (lv_at hl 1 rfl) ?_
                refine lv_bipush (v := (61 : Int32)) (pc := 81) hx hb dX7_readInput_81 (by decide) ?_
                refine va_put (D := K.1) (ci := 7) (v := .int (61 : Int32)) (ty := .int) (C := RX7) (T := TX7) (N := 17) (pc := 83) hx hb hts inT7 tyX7 tyX7_ok nmX7 hown hG.1 hP hD hS 0 rfl rfl 8 (by decide) (hts _ qf_Mod_191) (fun _ h9 => h9) rfl (by decide +kernel) rfl rfl (Nat.le_of_ble_eq_true rfl) dX7_readInput_83 (fun H locs hP hD hS => ?_)
                have hP : va_P K.1 vC (wMod K ad v2.2.1 v2.2.2.1 v2.2.2.2.1 v2.2.2.2.2.1 msav miss minp mlen (61 : Int32) medg mcor mtri mkep mkee mwor mnum mmet) H := hP
                have hD : va_D _ (wMod K ad v2.2.1 v2.2.2.1 v2.2.2.2.1 v2.2.2.2.2.1 msav miss minp mlen (61 : Int32) medg mcor mtri mkep mkee mwor mnum mmet) := hD
                refine lv_goto (tgt := 12) (pc := 86) hx hb dX7_readInput_86 (by decide) ?_
                exact ih (0 : Int32) v2.2.1 v2.2.2.1 v2.2.2.2.1 v2.2.2.2.2.1 (61 : Int32) out h H locs ls hP hD hS (lv_sub hl [1, 0] rfl) Kx 
            · have h := it_f c7 h
              refine lv_aload_n (pc := 56) hx hb dX7_readInput_56 rfl (lv_at hl 1 rfl) ?_
              refine lv_dup (pc := 57) hx hb dX7_readInput_57 rfl ?_
              refine va_get (D := K.1) (ci := 7) (v := .int v2.2.2.2.2.2) (C := RX7) (T := TX7) (N := 17) (pc := 58) hx hb hts inT7 hown hG.1 hP 0 rfl rfl 8 (by decide) (hts _ qf_Mod_191) (fun _ h9 => h9) rfl dX7_readInput_58 ?_
              refine lv_iconst (v := (1 : Int32)) (pc := 61) hx hb dX7_readInput_61 (by decide) ?_
              refine lv_iadd (pc := 62) hx hb dX7_readInput_62 ?_
              refine va_put (D := K.1) (ci := 7) (v := .int (v2.2.2.2.2.2 + (1 : Int32))) (ty := .int) (C := RX7) (T := TX7) (N := 17) (pc := 63) hx hb hts inT7 tyX7 tyX7_ok nmX7 hown hG.1 hP hD hS 0 rfl rfl 8 (by decide) (hts _ qf_Mod_191) (fun _ h9 => h9) rfl (by decide +kernel) rfl rfl (Nat.le_of_ble_eq_true rfl) dX7_readInput_63 (fun H locs hP hD hS => ?_)
              have hP : va_P K.1 vC (wMod K ad v2.2.1 v2.2.2.1 v2.2.2.2.1 v2.2.2.2.2.1 msav miss minp mlen (v2.2.2.2.2.2 + (1 : Int32)) medg mcor mtri mkep mkee mwor mnum mmet) H := hP
              have hD : va_D _ (wMod K ad v2.2.1 v2.2.2.1 v2.2.2.2.1 v2.2.2.2.2.1 msav miss minp mlen (v2.2.2.2.2.2 + (1 : Int32)) medg mcor mtri mkep mkee mwor mnum mmet) := hD
              refine lv_goto (tgt := 12) (pc := 66) hx hb dX7_readInput_66 (by decide) ?_
              exact ih (0 : Int32) v2.2.1 v2.2.2.1 v2.2.2.2.1 v2.2.2.2.2.1 (v2.2.2.2.2.2 + (1 : Int32)) out h H locs ls hP hD hS (lv_sub hl [1, 0] rfl) Kx 
          · have h := it_t c6 h
            refine lv_iconst (v := (1 : Int32)) (pc := 46) hx hb dX7_readInput_46 (by decide) ?_
            refine lv_goto (tgt := 51) (pc := 47) hx hb dX7_readInput_47 (by decide) ?_
            refine lv_istore_n (pc := 51) (lv' := [(1, .int (1 : Int32)), (0, .ref (ad 0))]) hx hb dX7_readInput_51 rfl hl (by decide) rfl (fun ls hl => ?_)
            refine lv_iload_n (pc := 52) hx hb dX7_readInput_52 rfl (lv_at hl 0 rfl) ?_
            refine lv_if_eq (tgt := 69) (pc := 53) hx hb dX7_readInput_53 (by decide) (fun c9 => ?_) (fun c9 => ?_)
            · have h := it_t c9 h
              refine lv_aload_n (pc := 69) hx hb dX7_readInput_69 rfl (lv_at hl 1 rfl) ?_
              refine va_get (D := K.1) (ci := 7) (v := .int v2.2.2.2.2.2) (C := RX7) (T := TX7) (N := 17) (pc := 70) hx hb hts inT7 hown hG.1 hP 0 rfl rfl 8 (by decide) (hts _ qf_Mod_191) (fun _ h9 => h9) rfl dX7_readInput_70 ?_
              refine lv_aload_n (pc := 73) hx hb dX7_readInput_73 rfl (lv_at hl 1 rfl) ?_
              refine va_get (D := K.1) (ci := 7) (v := .int mlen) (C := RX7) (T := TX7) (N := 17) (pc := 74) hx hb hts inT7 hown hG.1 hP 0 rfl rfl 7 (by decide) (hts _ qf_Mod_188) (fun _ h9 => h9) rfl dX7_readInput_74 ?_
              refine lv_icmp_ne (tgt := 12) (pc := 77) hx hb dX7_readInput_77 (by decide) (fun c10 => ?_) (fun c10 => ?_)
              · have h := it_f c10 h
                exact ih (1 : Int32) v2.2.1 v2.2.2.1 v2.2.2.2.1 v2.2.2.2.2.1 v2.2.2.2.2.2 out h H locs ls hP hD hS (lv_sub hl [1, 0] rfl) Kx 
              · have h := it_t c10 h
                refine lv_aload_n (pc := 80) hx hb dX7_readInput_80 rfl (lv_at hl 1 rfl) ?_
                refine lv_bipush (v := (61 : Int32)) (pc := 81) hx hb dX7_readInput_81 (by decide) ?_
                refine va_put (D := K.1) (ci := 7) (v := .int (61 : Int32)) (ty := .int) (C := RX7) (T := TX7) (N := 17) (pc := 83) hx hb hts inT7 tyX7 tyX7_ok nmX7 hown hG.1 hP hD hS 0 rfl rfl 8 (by decide) (hts _ qf_Mod_191) (fun _ h9 => h9) rfl (by decide +kernel) rfl rfl (Nat.le_of_ble_eq_true rfl) dX7_readInput_83 (fun H locs hP hD hS => ?_)
                have hP : va_P K.1 vC (wMod K ad v2.2.1 v2.2.2.1 v2.2.2.2.1 v2.2.2.2.2.1 msav miss minp mlen (61 : Int32) medg mcor mtri mkep mkee mwor mnum mmet) H := hP
                have hD : va_D _ (wMod K ad v2.2.1 v2.2.2.1 v2.2.2.2.1 v2.2.2.2.2.1 msav miss minp mlen (61 : Int32) medg mcor mtri mkep mkee mwor mnum mmet) := hD
                refine lv_goto (tgt := 12) (pc := 86) hx hb dX7_readInput_86 (by decide) ?_
                exact ih (1 : Int32) v2.2.1 v2.2.2.1 v2.2.2.2.1 v2.2.2.2.2.1 (61 : Int32) out h H locs ls hP hD hS (lv_sub hl [1, 0] rfl) Kx 
            · have h := it_f c9 h
              refine lv_aload_n (pc := 56) hx hb dX7_readInput_56 rfl (lv_at hl 1 rfl) ?_
              refine lv_dup (pc := 57) hx hb dX7_readInput_57 rfl ?_
              refine va_get (D := K.1) (ci := 7) (v := .int v2.2.2.2.2.2) (C := RX7) (T := TX7) (N := 17) (pc := 58) hx hb hts inT7 hown hG.1 hP 0 rfl rfl 8 (by decide) (hts _ qf_Mod_191) (fun _ h9 => h9) rfl dX7_readInput_58 ?_
              refine lv_iconst (v := (1 : Int32)) (pc := 61) hx hb dX7_readInput_61 (by decide) ?_
              refine lv_iadd (pc := 62) hx hb dX7_readInput_62 ?_
              refine va_put (D := K.1) (ci := 7) (v := .int (v2.2.2.2.2.2 + (1 : Int32))) (ty := .int) (C := RX7) (T := TX7) (N := 17) (pc := 63) hx hb hts inT7 tyX7 tyX7_ok nmX7 hown hG.1 hP hD hS 0 rfl rfl 8 (by decide) (hts _ qf_Mod_191) (fun _ h9 => h9) rfl (by decide +kernel) rfl rfl (Nat.le_of_ble_eq_true rfl) dX7_readInput_63 (fun H locs hP hD hS => ?_)
              have hP : va_P K.1 vC (wMod K ad v2.2.1 v2.2.2.1 v2.2.2.2.1 v2.2.2.2.2.1 msav miss minp mlen (v2.2.2.2.2.2 + (1 : Int32)) medg mcor mtri mkep mkee mwor mnum mmet) H := hP
              have hD : va_D _ (wMod K ad v2.2.1 v2.2.2.1 v2.2.2.2.1 v2.2.2.2.2.1 msav miss minp mlen (v2.2.2.2.2.2 + (1 : Int32)) medg mcor mtri mkep mkee mwor mnum mmet) := hD
              refine lv_goto (tgt := 12) (pc := 66) hx hb dX7_readInput_66 (by decide) ?_
              exact ih (1 : Int32) v2.2.1 v2.2.2.1 v2.2.2.2.1 v2.2.2.2.2.1 (v2.2.2.2.2.2 + (1 : Int32)) out h H locs ls hP hD hS (lv_sub hl [1, 0] rfl) Kx 
        · have h := it_t c4 h
          refine lv_goto (tgt := 89) (pc := 34) hx hb dX7_readInput_34 (by decide) ?_
          obtain rfl := Option.some.inj h
          exact Kx _ H locs ls rfl hP hD hS (lv_sub hl [1, 0] rfl)
      · have h := it_f c3 h
        refine lv_iconst (v := (1 : Int32)) (pc := 24) hx hb dX7_readInput_24 (by decide) ?_
        refine lv_goto (tgt := 29) (pc := 25) hx hb dX7_readInput_25 (by decide) ?_
        refine lv_istore_n (pc := 29) (lv' := [(1, .int (1 : Int32)), (0, .ref (ad 0))]) hx hb dX7_readInput_29 rfl hl (by decide) rfl (fun ls hl => ?_)
        refine lv_iload_n (pc := 30) hx hb dX7_readInput_30 rfl (lv_at hl 0 rfl) ?_
        refine lv_if_ne (tgt := 37) (pc := 31) hx hb dX7_readInput_31 (by decide) (fun c11 => ?_) (fun c11 => ?_)
        · have h := it_f c11 h
          refine lv_aload_n (pc := 37) hx hb dX7_readInput_37 rfl (lv_at hl 1 rfl) ?_
          obtain ⟨v12, h_v12, h⟩ := ob h
          refine rdV (pc := 38) (As := []) (rest := []) hx hb hml hown hts hG hP (c_Mod_here l K ad v2.2.1 v2.2.2.1 v2.2.2.2.1 v2.2.2.2.2.1 msav miss minp mlen v2.2.2.2.2.2 medg mcor mtri mkep mkee mwor mnum mmet h_v12) [0, 1, 2, 3, 4, 5, 6, 7, 8, 9, 10, 11] rfl (q0 := 0) rfl (ci := 7) rfl g_Mod_194 hd_Mod_here rfl ⟨Nat.le_of_ble_eq_true rfl, Nat.le_of_ble_eq_true rfl⟩ ⟨Nat.zero_le _, Nat.zero_le _⟩ hl rfl (Nat.le_of_ble_eq_true rfl) dX7_readInput_38 ?_
          refine lv_bipush (v := (59 : Int32)) (pc := 41) hx hb dX7_readInput_41 (by decide) ?_
          refine lv_icmp_ne (tgt := 50) (pc := 43) hx hb dX7_readInput_43 (by decide) (fun c13 => ?_) (fun c13 => ?_)
          · have h := it_f c13 h
            refine lv_iconst (v := (0 : Int32)) (pc := 50) hx hb dX7_readInput_50 (by decide) ?_
            refine lv_istore_n (pc := 51) (lv' := [(1, .int (0 : Int32)), (0, .ref (ad 0))]) hx hb dX7_readInput_51 rfl hl (by decide) rfl (fun ls hl => ?_)
            refine lv_iload_n (pc := 52) hx hb dX7_readInput_52 rfl (lv_at hl 0 rfl) ?_
            refine lv_if_eq (tgt := 69) (pc := 53) hx hb dX7_readInput_53 (by decide) (fun c14 => ?_) (fun c14 => ?_)
            · have h := it_t c14 h
              refine lv_aload_n (pc := 69) hx hb dX7_readInput_69 rfl (lv_at hl 1 rfl) ?_
              refine va_get (D := K.1) (ci := 7) (v := .int v2.2.2.2.2.2) (C := RX7) (T := TX7) (N := 17) (pc := 70) hx hb hts inT7 hown hG.1 hP 0 rfl rfl 8 (by decide) (hts _ qf_Mod_191) (fun _ h9 => h9) rfl dX7_readInput_70 ?_
              refine lv_aload_n (pc := 73) hx hb dX7_readInput_73 rfl (lv_at hl 1 rfl) ?_
              refine va_get (D := K.1) (ci := 7) (v := .int mlen) (C := RX7) (T := TX7) (N := 17) (pc := 74) hx hb hts inT7 hown hG.1 hP 0 rfl rfl 7 (by decide) (hts _ qf_Mod_188) (fun _ h9 => h9) rfl dX7_readInput_74 ?_
              refine lv_icmp_ne (tgt := 12) (pc := 77) hx hb dX7_readInput_77 (by decide) (fun c15 => ?_) (fun c15 => ?_)
              · have h := it_f c15 h
                exact ih (0 : Int32) v2.2.1 v2.2.2.1 v2.2.2.2.1 v2.2.2.2.2.1 v2.2.2.2.2.2 out h H locs ls hP hD hS (lv_sub hl [1, 0] rfl) Kx 
              · have h := it_t c15 h
                refine lv_aload_n (pc := 80) hx hb dX7_readInput_80 rfl (lv_at hl 1 rfl) ?_
                refine lv_bipush (v := (61 : Int32)) (pc := 81) hx hb dX7_readInput_81 (by decide) ?_
                refine va_put (D := K.1) (ci := 7) (v := .int (61 : Int32)) (ty := .int) (C := RX7) (T := TX7) (N := 17) (pc := 83) hx hb hts inT7 tyX7 tyX7_ok nmX7 hown hG.1 hP hD hS 0 rfl rfl 8 (by decide) (hts _ qf_Mod_191) (fun _ h9 => h9) rfl (by decide +kernel) rfl rfl (Nat.le_of_ble_eq_true rfl) dX7_readInput_83 (fun H locs hP hD hS => ?_)
                have hP : va_P K.1 vC (wMod K ad v2.2.1 v2.2.2.1 v2.2.2.2.1 v2.2.2.2.2.1 msav miss minp mlen (61 : Int32) medg mcor mtri mkep mkee mwor mnum mmet) H := hP
                have hD : va_D _ (wMod K ad v2.2.1 v2.2.2.1 v2.2.2.2.1 v2.2.2.2.2.1 msav miss minp mlen (61 : Int32) medg mcor mtri mkep mkee mwor mnum mmet) := hD
                refine lv_goto (tgt := 12) (pc := 86) hx hb dX7_readInput_86 (by decide) ?_
                exact ih (0 : Int32) v2.2.1 v2.2.2.1 v2.2.2.2.1 v2.2.2.2.2.1 (61 : Int32) out h H locs ls hP hD hS (lv_sub hl [1, 0] rfl) Kx 
            · have h := it_f c14 h
              refine lv_aload_n (pc := 56) hx hb dX7_readInput_56 rfl (lv_at hl 1 rfl) ?_
              refine lv_dup (pc := 57) hx hb dX7_readInput_57 rfl ?_
              refine va_get (D := K.1) (ci := 7) (v := .int v2.2.2.2.2.2) (C := RX7) (T := TX7) (N := 17) (pc := 58) hx hb hts inT7 hown hG.1 hP 0 rfl rfl 8 (by decide) (hts _ qf_Mod_191) (fun _ h9 => h9) rfl dX7_readInput_58 ?_
              refine lv_iconst (v := (1 : Int32)) (pc := 61) hx hb dX7_readInput_61 (by decide) ?_
              refine lv_iadd (pc := 62) hx hb dX7_readInput_62 ?_
              refine va_put (D := K.1) (ci := 7) (v := .int (v2.2.2.2.2.2 + (1 : Int32))) (ty := .int) (C := RX7) (T := TX7) (N := 17) (pc := 63) hx hb hts inT7 tyX7 tyX7_ok nmX7 hown hG.1 hP hD hS 0 rfl rfl 8 (by decide) (hts _ qf_Mod_191) (fun _ h9 => h9) rfl (by decide +kernel) rfl rfl (Nat.le_of_ble_eq_true rfl) dX7_readInput_63 (fun H locs hP hD hS => ?_)
              have hP : va_P K.1 vC (wMod K ad v2.2.1 v2.2.2.1 v2.2.2.2.1 v2.2.2.2.2.1 msav miss minp mlen (v2.2.2.2.2.2 + (1 : Int32)) medg mcor mtri mkep mkee mwor mnum mmet) H := hP
              have hD : va_D _ (wMod K ad v2.2.1 v2.2.2.1 v2.2.2.2.1 v2.2.2.2.2.1 msav miss minp mlen (v2.2.2.2.2.2 + (1 : Int32)) medg mcor mtri mkep mkee mwor mnum mmet) := hD
              refine lv_goto (tgt := 12) (pc := 66) hx hb dX7_readInput_66 (by decide) ?_
              exact ih (0 : Int32) v2.2.1 v2.2.2.1 v2.2.2.2.1 v2.2.2.2.2.1 (v2.2.2.2.2.2 + (1 : Int32)) out h H locs ls hP hD hS (lv_sub hl [1, 0] rfl) Kx 
          · have h := it_t c13 h
            refine lv_iconst (v := (1 : Int32)) (pc := 46) hx hb dX7_readInput_46 (by decide) ?_
            refine lv_goto (tgt := 51) (pc := 47) hx hb dX7_readInput_47 (by decide) ?_
            refine lv_istore_n (pc := 51) (lv' := [(1, .int (1 : Int32)), (0, .ref (ad 0))]) hx hb dX7_readInput_51 rfl hl (by decide) rfl (fun ls hl => ?_)
            refine lv_iload_n (pc := 52) hx hb dX7_readInput_52 rfl (lv_at hl 0 rfl) ?_
            refine lv_if_eq (tgt := 69) (pc := 53) hx hb dX7_readInput_53 (by decide) (fun c16 => ?_) (fun c16 => ?_)
            · have h := it_t c16 h
              refine lv_aload_n (pc := 69) hx hb dX7_readInput_69 rfl (lv_at hl 1 rfl) ?_
              refine va_get (D := K.1) (ci := 7) (v := .int v2.2.2.2.2.2) (C := RX7) (T := TX7) (N := 17) (pc := 70) hx hb hts inT7 hown hG.1 hP 0 rfl rfl 8 (by decide) (hts _ qf_Mod_191) (fun _ h9 => h9) rfl dX7_readInput_70 ?_
              refine lv_aload_n (pc := 73) hx hb dX7_readInput_73 rfl (lv_at hl 1 rfl) ?_
              refine va_get (D := K.1) (ci := 7) (v := .int mlen) (C := RX7) (T := TX7) (N := 17) (pc := 74) hx hb hts inT7 hown hG.1 hP 0 rfl rfl 7 (by decide) (hts _ qf_Mod_188) (fun _ h9 => h9) rfl dX7_readInput_74 ?_
              refine lv_icmp_ne (tgt := 12) (pc := 77) hx hb dX7_readInput_77 (by decide) (fun c17 => ?_) (fun c17 => ?_)
              · have h := it_f c17 h
                exact ih (1 : Int32) v2.2.1 v2.2.2.1 v2.2.2.2.1 v2.2.2.2.2.1 v2.2.2.2.2.2 out h H locs ls hP hD hS (lv_sub hl [1, 0] rfl) Kx 
              · have h := it_t c17 h
                refine lv_aload_n (pc := 80) hx hb dX7_readInput_80 rfl (lv_at hl 1 rfl) ?_
                refine lv_bipush (v := (61 : Int32)) (pc := 81) hx hb dX7_readInput_81 (by decide) ?_
                refine va_put (D := K.1) (ci := 7) (v := .int (61 : Int32)) (ty := .int) (C := RX7) (T := TX7) (N := 17) (pc := 83) hx hb hts inT7 tyX7 tyX7_ok nmX7 hown hG.1 hP hD hS 0 rfl rfl 8 (by decide) (hts _ qf_Mod_191) (fun _ h9 => h9) rfl (by decide +kernel) rfl rfl (Nat.le_of_ble_eq_true rfl) dX7_readInput_83 (fun H locs hP hD hS => ?_)
                have hP : va_P K.1 vC (wMod K ad v2.2.1 v2.2.2.1 v2.2.2.2.1 v2.2.2.2.2.1 msav miss minp mlen (61 : Int32) medg mcor mtri mkep mkee mwor mnum mmet) H := hP
                have hD : va_D _ (wMod K ad v2.2.1 v2.2.2.1 v2.2.2.2.1 v2.2.2.2.2.1 msav miss minp mlen (61 : Int32) medg mcor mtri mkep mkee mwor mnum mmet) := hD
                refine lv_goto (tgt := 12) (pc := 86) hx hb dX7_readInput_86 (by decide) ?_
                exact ih (1 : Int32) v2.2.1 v2.2.2.1 v2.2.2.2.1 v2.2.2.2.2.1 (61 : Int32) out h H locs ls hP hD hS (lv_sub hl [1, 0] rfl) Kx 
            · have h := it_f c16 h
              refine lv_aload_n (pc := 56) hx hb dX7_readInput_56 rfl (lv_at hl 1 rfl) ?_
              refine lv_dup (pc := 57) hx hb dX7_readInput_57 rfl ?_
              refine va_get (D := K.1) (ci := 7) (v := .int v2.2.2.2.2.2) (C := RX7) (T := TX7) (N := 17) (pc := 58) hx hb hts inT7 hown hG.1 hP 0 rfl rfl 8 (by decide) (hts _ qf_Mod_191) (fun _ h9 => h9) rfl dX7_readInput_58 ?_
              refine lv_iconst (v := (1 : Int32)) (pc := 61) hx hb dX7_readInput_61 (by decide) ?_
              refine lv_iadd (pc := 62) hx hb dX7_readInput_62 ?_
              refine va_put (D := K.1) (ci := 7) (v := .int (v2.2.2.2.2.2 + (1 : Int32))) (ty := .int) (C := RX7) (T := TX7) (N := 17) (pc := 63) hx hb hts inT7 tyX7 tyX7_ok nmX7 hown hG.1 hP hD hS 0 rfl rfl 8 (by decide) (hts _ qf_Mod_191) (fun _ h9 => h9) rfl (by decide +kernel) rfl rfl (Nat.le_of_ble_eq_true rfl) dX7_readInput_63 (fun H locs hP hD hS => ?_)
              have hP : va_P K.1 vC (wMod K ad v2.2.1 v2.2.2.1 v2.2.2.2.1 v2.2.2.2.2.1 msav miss minp mlen (v2.2.2.2.2.2 + (1 : Int32)) medg mcor mtri mkep mkee mwor mnum mmet) H := hP
              have hD : va_D _ (wMod K ad v2.2.1 v2.2.2.1 v2.2.2.2.1 v2.2.2.2.2.1 msav miss minp mlen (v2.2.2.2.2.2 + (1 : Int32)) medg mcor mtri mkep mkee mwor mnum mmet) := hD
              refine lv_goto (tgt := 12) (pc := 66) hx hb dX7_readInput_66 (by decide) ?_
              exact ih (1 : Int32) v2.2.1 v2.2.2.1 v2.2.2.2.1 v2.2.2.2.2.1 (v2.2.2.2.2.2 + (1 : Int32)) out h H locs ls hP hD hS (lv_sub hl [1, 0] rfl) Kx 
        · have h := it_t c11 h
          refine lv_goto (tgt := 89) (pc := 34) hx hb dX7_readInput_34 (by decide) ?_
          obtain rfl := Option.some.inj h
          exact Kx _ H locs ls rfl hP hD hS (lv_sub hl [1, 0] rfl)
set_option maxHeartbeats 4000000 in
set_option maxRecDepth 100000 in
theorem l_Mod_readInput_L118 {p : Program} {l : Launch} {e : Env} {s : State} {m : MethodId} {args : Array Value} {below : List Frame} {meth : Method} {c : Code} {Q : State → Prop} {K : KT} {A : Nat → Prop} (C0 : Ctx p m c cX7_readInput 3 s args RX7 K meth (some .int)) (F : Nat) (ad : Nat → Nat) (msav : Nat → Int32) (miss : Bool) (minp : Nat → Int32) (mlen : Int32) (medg : Nat → Int32) (mcor : Nat → Int32) (mtri : Int32) (mkep : Nat → Int32) (mkee : Nat → Int32) (mwor : Nat → Int32) (mnum : Nat → Int32) (mmet : Nat → Int32)  : ∀ (n : Nat) (x2 : Int32) (mthr : Int32) (mnow : Nat → Int32) (mold : Nat → Int32) (mols : Int32) (mat : Int32) (out : Int32 × Int32 × (Nat → Int32) × (Nat → Int32) × Int32 × Int32), s_Mod_readInput_L118 F minp mlen n x2 mthr mnow mold mols mat = some out → ∀ (H : Heap) (locs : List Loc) (ls : Array Slot), va_P K.1 vC (wMod K ad mthr mnow mold mols msav miss minp mlen mat medg mcor mtri mkep mkee mwor mnum mmet) H → va_D A (wMod K ad mthr mnow mold mols msav miss minp mlen mat medg mcor mtri mkep mkee mwor mnum mmet) → va_S A s.heap H locs → lv_has ls 3 [(0, .ref (ad 0)), (2, .int x2)] → (∀ (o : Int32 × Int32 × (Nat → Int32) × (Nat → Int32) × Int32 × Int32) (H : Heap) (locs : List Loc) (ls : Array Slot), out = o → va_P K.1 vC (wMod K ad o.2.1 o.2.2.1 o.2.2.2.1 o.2.2.2.2.1 msav miss minp mlen o.2.2.2.2.2 medg mcor mtri mkep mkee mwor mnum mmet) H → va_D A (wMod K ad o.2.1 o.2.2.1 o.2.2.2.1 o.2.2.2.2.1 msav miss minp mlen o.2.2.2.2.2 medg mcor mtri mkep mkee mwor mnum mmet) → va_S A s.heap H locs → lv_has ls 3 [(0, .ref (ad 0)), (2, .int o.1)] → W p l e (rmL 7) s m args below meth c H locs 0 0 Q (F0 m 153 ls [])) → W p l e (rmL 7) s m args below meth c H locs 0 0 Q (F0 m 118 ls []) := by
  obtain ⟨hx, hb, hml, hown, hts, hG, hr, hlk⟩ := id C0
  intro n
  induction n with
  | zero =>
    intro x2 mthr mnow mold mols mat out h
    cases h
  | succ n ih =>
    intro x2 mthr mnow mold mols mat out h H locs ls hP hD hS hl Kx 
    rw [s_Mod_readInput_L118.eq_2] at h
    refine lv_aload_n (pc := 118) hx hb dX7_readInput_118 rfl (lv_at hl 0 rfl) ?_
    refine va_get (D := K.1) (ci := 7) (v := .int mat) (C := RX7) (T := TX7) (N := 17) (pc := 119) hx hb hts inT7 hown hG.1 hP 0 rfl rfl 8 (by decide) (hts _ qf_Mod_191) (fun _ h9 => h9) rfl dX7_readInput_119 ?_
    refine lv_aload_n (pc := 122) hx hb dX7_readInput_122 rfl (lv_at hl 0 rfl) ?_
    refine va_get (D := K.1) (ci := 7) (v := .int mlen) (C := RX7) (T := TX7) (N := 17) (pc := 123) hx hb hts inT7 hown hG.1 hP 0 rfl rfl 7 (by decide) (hts _ qf_Mod_188) (fun _ h9 => h9) rfl dX7_readInput_123 ?_
    refine lv_icmp_ge (tgt := 153) (pc := 126) hx hb dX7_readInput_126 (by decide) (fun c20 => ?_) (fun c20 => ?_)
    · have h := it_t c20 h
      obtain rfl := Option.some.inj h
      exact Kx _ H locs ls rfl hP hD hS (lv_sub hl [0, 1] rfl)
    · have h := it_f c20 h
      refine lv_aload_n (pc := 129) hx hb dX7_readInput_129 rfl (lv_at hl 0 rfl) ?_
      refine lv_iconst (v := (1 : Int32)) (pc := 130) hx hb dX7_readInput_130 (by decide) ?_
      obtain ⟨v21, h_v21, h⟩ := ob h
      refine wrVi (pc := 131) (As := [.int (1 : Int32)]) (rest := []) (ws2 := wMod K ad v21.2.1 v21.2.2.1 v21.2.2.2.1 v21.2.2.2.2.1 msav miss minp mlen v21.2.2.2.2.2 medg mcor mtri mkep mkee mwor mnum mmet) (as9 := [ad 0, ad 1, ad 2, ad 3, ad 4, ad 5, ad 6, ad 7, ad 8, ad 9, ad 10, ad 11]) hx hb hml hown hts hG hP hD hS (c_Mod_entry l K ad mthr mnow mold mols msav miss minp mlen mat medg mcor mtri mkep mkee mwor mnum mmet true F h_v21) [0, 1, 2, 3, 4, 5, 6, 7, 8, 9, 10, 11] rfl rfl rfl rfl [.inl 0, .inl 1, .inl 2, .inl 3, .inl 4, .inl 5, .inl 6, .inl 7, .inl 8, .inl 9, .inl 10, .inl 11] (by decide +kernel) rfl (q0 := 0) rfl (ci := 7) rfl g_Mod_206 hd_Mod_entry rfl ⟨Nat.le_of_ble_eq_true rfl, Nat.le_of_ble_eq_true rfl⟩ ⟨Nat.zero_le _, Nat.zero_le _⟩ hl rfl (Nat.le_of_ble_eq_true rfl) dX7_readInput_131 (fun H locs hP hD hS => ?_)
      refine lv_if_le (tgt := 153) (pc := 134) hx hb dX7_readInput_134 (by decide) (fun c22 => ?_) (fun c22 => ?_)
      · have h := it_t c22 h
        obtain rfl := Option.some.inj h
        exact Kx _ H locs ls rfl hP hD hS (lv_sub hl [0, 1] rfl)
      · have h := it_f c22 h
        refine lv_iinc (v := (x2 + (1 : Int32))) (pc := 137) (lv' := [(2, .int (x2 + (1 : Int32))), (0, .ref (ad 0))]) hx hb dX7_readInput_137 hl (k := 1) rfl rfl (by decide) rfl (fun ls hl => ?_)
        refine lv_aload_n (pc := 140) hx hb dX7_readInput_140 rfl (lv_at hl 1 rfl) ?_
        refine lv_dup (pc := 141) hx hb dX7_readInput_141 rfl ?_
        refine va_get (D := K.1) (ci := 7) (v := .int v21.2.2.2.2.2) (C := RX7) (T := TX7) (N := 17) (pc := 142) hx hb hts inT7 hown hG.1 hP 0 rfl rfl 8 (by decide) (hts _ qf_Mod_191) (fun _ h9 => h9) rfl dX7_readInput_142 ?_
        refine lv_iconst (v := (1 : Int32)) (pc := 145) hx hb dX7_readInput_145 (by decide) ?_
        refine lv_iadd (pc := 146) hx hb dX7_readInput_146 ?_
        refine va_put (D := K.1) (ci := 7) (v := .int (v21.2.2.2.2.2 + (1 : Int32))) (ty := .int) (C := RX7) (T := TX7) (N := 17) (pc := 147) hx hb hts inT7 tyX7 tyX7_ok nmX7 hown hG.1 hP hD hS 0 rfl rfl 8 (by decide) (hts _ qf_Mod_191) (fun _ h9 => h9) rfl (by decide +kernel) rfl rfl (Nat.le_of_ble_eq_true rfl) dX7_readInput_147 (fun H locs hP hD hS => ?_)
        have hP : va_P K.1 vC (wMod K ad v21.2.1 v21.2.2.1 v21.2.2.2.1 v21.2.2.2.2.1 msav miss minp mlen (v21.2.2.2.2.2 + (1 : Int32)) medg mcor mtri mkep mkee mwor mnum mmet) H := hP
        have hD : va_D _ (wMod K ad v21.2.1 v21.2.2.1 v21.2.2.2.1 v21.2.2.2.2.1 msav miss minp mlen (v21.2.2.2.2.2 + (1 : Int32)) medg mcor mtri mkep mkee mwor mnum mmet) := hD
        refine lv_goto (tgt := 118) (pc := 150) hx hb dX7_readInput_150 (by decide) ?_
        exact ih (x2 + (1 : Int32)) v21.2.1 v21.2.2.1 v21.2.2.2.1 v21.2.2.2.2.1 (v21.2.2.2.2.2 + (1 : Int32)) out h H locs ls hP hD hS (lv_sub hl [1, 0] rfl) Kx 
set_option maxHeartbeats 4000000 in
set_option maxRecDepth 100000 in
theorem c_Mod_readInput (l : Launch) (K : KT) (ad : Nat → Nat) (mthr : Int32) (mnow : Nat → Int32) (mold : Nat → Int32) (mols : Int32) (msav : Nat → Int32) (miss : Bool) (minp : Nat → Int32) (mlen : Int32) (mat : Int32) (medg : Nat → Int32) (mcor : Nat → Int32) (mtri : Int32) (mkep : Nat → Int32) (mkee : Nat → Int32) (mwor : Nat → Int32) (mnum : Nat → Int32) (mmet : Nat → Int32) (F : Nat) {o : Int32 × Int32 × (Nat → Int32) × (Nat → Int32) × Int32 × Int32 × Int32} (h : s_Mod_readInput F mnow mold mols minp mlen = some o) : Wr l K 7 yX7_readInput cX7_readInput 3 (some .int) [.ref (ad 0)] (wMod K ad mthr mnow mold mols msav miss minp mlen mat medg mcor mtri mkep mkee mwor mnum mmet) (some (.int o.1)) (wMod K ad o.2.1 o.2.2.1 o.2.2.2.1 o.2.2.2.2.1 msav miss minp o.2.2.2.2.2.1 o.2.2.2.2.2.2 medg mcor mtri mkep mkee mwor mnum mmet) := by
  refine Wr.of (by decide +kernel) (Nat.le_of_ble_eq_true rfl) ?_
  unfold s_Mod_readInput at h
  intro p e s m below meth c hx hb hr hml hown hts hlk H locs hP hG hD hS ls hl
  have C0 : Ctx p m c cX7_readInput 3 s (Array.mk [.ref (ad 0)]) RX7 K meth (some .int) := ⟨hx, hb, hml, hown, hts, hG, hr, hlk⟩
  have hl : lv_has ls 3 [(0, .ref (ad 0))] := hl
  refine lv_aload_n (pc := 0) hx hb dX7_readInput_0 rfl (lv_at hl 0 rfl) ?_
  refine lv_iconst (v := (0 : Int32)) (pc := 1) hx hb dX7_readInput_1 (by decide) ?_
  refine va_put (D := K.1) (ci := 7) (v := .int (0 : Int32)) (ty := .int) (C := RX7) (T := TX7) (N := 17) (pc := 2) hx hb hts inT7 tyX7 tyX7_ok nmX7 hown hG.1 hP hD hS 0 rfl rfl 0 (by decide) (hts _ qf_Mod_44) (fun _ h9 => h9) rfl (by decide +kernel) rfl rfl (Nat.le_of_ble_eq_true rfl) dX7_readInput_2 (fun H locs hP hD hS => ?_)
  have hP : va_P K.1 vC (wMod K ad (0 : Int32) mnow mold mols msav miss minp mlen mat medg mcor mtri mkep mkee mwor mnum mmet) H := hP
  have hD : va_D _ (wMod K ad (0 : Int32) mnow mold mols msav miss minp mlen mat medg mcor mtri mkep mkee mwor mnum mmet) := hD
  refine lv_aload_n (pc := 5) hx hb dX7_readInput_5 rfl (lv_at hl 0 rfl) ?_
  refine lv_iconst (v := (0 : Int32)) (pc := 6) hx hb dX7_readInput_6 (by decide) ?_
  refine va_put (D := K.1) (ci := 7) (v := .int (0 : Int32)) (ty := .int) (C := RX7) (T := TX7) (N := 17) (pc := 7) hx hb hts inT7 tyX7 tyX7_ok nmX7 hown hG.1 hP hD hS 0 rfl rfl 8 (by decide) (hts _ qf_Mod_191) (fun _ h9 => h9) rfl (by decide +kernel) rfl rfl (Nat.le_of_ble_eq_true rfl) dX7_readInput_7 (fun H locs hP hD hS => ?_)
  have hP : va_P K.1 vC (wMod K ad (0 : Int32) mnow mold mols msav miss minp mlen (0 : Int32) medg mcor mtri mkep mkee mwor mnum mmet) H := hP
  have hD : va_D _ (wMod K ad (0 : Int32) mnow mold mols msav miss minp mlen (0 : Int32) medg mcor mtri mkep mkee mwor mnum mmet) := hD
  refine lv_iconst (v := (1 : Int32)) (pc := 10) hx hb dX7_readInput_10 (by decide) ?_
  refine lv_istore_n (pc := 11) (lv' := [(1, .int (1 : Int32)), (0, .ref (ad 0))]) hx hb dX7_readInput_11 rfl hl (by decide) rfl (fun ls hl => ?_)
  obtain ⟨o18, h_o18, h⟩ := ob h
  refine l_Mod_readInput_L12 C0 F ad msav miss minp mlen medg mcor mtri mkep mkee mwor mnum mmet F (1 : Int32) (0 : Int32) mnow mold mols (0 : Int32) _ h_o18 H locs ls hP hD hS (lv_sub hl [1, 0] rfl) (fun o18x H locs ls eo hP hD hS hl => ?_)
  subst o18
  refine lv_aload_n (pc := 89) hx hb dX7_readInput_89 rfl (lv_at hl 0 rfl) ?_
  refine va_get (D := K.1) (ci := 7) (v := .int o18x.2.2.2.2.2) (C := RX7) (T := TX7) (N := 17) (pc := 90) hx hb hts inT7 hown hG.1 hP 0 rfl rfl 8 (by decide) (hts _ qf_Mod_191) (fun _ h9 => h9) rfl dX7_readInput_90 ?_
  refine lv_bipush (v := (60 : Int32)) (pc := 93) hx hb dX7_readInput_93 (by decide) ?_
  refine lv_icmp_gt (tgt := 111) (pc := 95) hx hb dX7_readInput_95 (by decide) (fun c19 => ?_) (fun c19 => ?_)
  · have h := it_t c19 h
    refine lv_aload_n (pc := 111) hx hb dX7_readInput_111 rfl (lv_at hl 0 rfl) ?_
    refine lv_iconst (v := (0 : Int32)) (pc := 112) hx hb dX7_readInput_112 (by decide) ?_
    refine va_put (D := K.1) (ci := 7) (v := .int (0 : Int32)) (ty := .int) (C := RX7) (T := TX7) (N := 17) (pc := 113) hx hb hts inT7 tyX7 tyX7_ok nmX7 hown hG.1 hP hD hS 0 rfl rfl 8 (by decide) (hts _ qf_Mod_191) (fun _ h9 => h9) rfl (by decide +kernel) rfl rfl (Nat.le_of_ble_eq_true rfl) dX7_readInput_113 (fun H locs hP hD hS => ?_)
    have hP : va_P K.1 vC (wMod K ad o18x.2.1 o18x.2.2.1 o18x.2.2.2.1 o18x.2.2.2.2.1 msav miss minp mlen (0 : Int32) medg mcor mtri mkep mkee mwor mnum mmet) H := hP
    have hD : va_D _ (wMod K ad o18x.2.1 o18x.2.2.1 o18x.2.2.2.1 o18x.2.2.2.2.1 msav miss minp mlen (0 : Int32) medg mcor mtri mkep mkee mwor mnum mmet) := hD
    refine lv_iconst (v := (0 : Int32)) (pc := 116) hx hb dX7_readInput_116 (by decide) ?_
    refine lv_istore_n (pc := 117) (lv' := [(2, .int (0 : Int32)), (0, .ref (ad 0)), (1, .int o18x.1)]) hx hb dX7_readInput_117 rfl hl (by decide) rfl (fun ls hl => ?_)
    obtain ⟨o23, h_o23, h⟩ := ob h
    refine l_Mod_readInput_L118 C0 F ad msav miss minp mlen medg mcor mtri mkep mkee mwor mnum mmet F (0 : Int32) o18x.2.1 o18x.2.2.1 o18x.2.2.2.1 o18x.2.2.2.2.1 (0 : Int32) _ h_o23 H locs ls hP hD hS (lv_sub hl [1, 0] rfl) (fun o23x H locs ls eo hP hD hS hl => ?_)
    subst o23
    refine lv_aload_n (pc := 153) hx hb dX7_readInput_153 rfl (lv_at hl 0 rfl) ?_
    refine lv_iconst (v := (0 : Int32)) (pc := 154) hx hb dX7_readInput_154 (by decide) ?_
    refine va_put (D := K.1) (ci := 7) (v := .int (0 : Int32)) (ty := .int) (C := RX7) (T := TX7) (N := 17) (pc := 155) hx hb hts inT7 tyX7 tyX7_ok nmX7 hown hG.1 hP hD hS 0 rfl rfl 7 (by decide) (hts _ qf_Mod_188) (fun _ h9 => h9) rfl (by decide +kernel) rfl rfl (Nat.le_of_ble_eq_true rfl) dX7_readInput_155 (fun H locs hP hD hS => ?_)
    have hP : va_P K.1 vC (wMod K ad o23x.2.1 o23x.2.2.1 o23x.2.2.2.1 o23x.2.2.2.2.1 msav miss minp (0 : Int32) o23x.2.2.2.2.2 medg mcor mtri mkep mkee mwor mnum mmet) H := hP
    have hD : va_D _ (wMod K ad o23x.2.1 o23x.2.2.1 o23x.2.2.2.1 o23x.2.2.2.2.1 msav miss minp (0 : Int32) o23x.2.2.2.2.2 medg mcor mtri mkep mkee mwor mnum mmet) := hD
    refine lv_aload_n (pc := 158) hx hb dX7_readInput_158 rfl (lv_at hl 0 rfl) ?_
    refine lv_iconst (v := (0 : Int32)) (pc := 159) hx hb dX7_readInput_159 (by decide) ?_
    refine va_put (D := K.1) (ci := 7) (v := .int (0 : Int32)) (ty := .int) (C := RX7) (T := TX7) (N := 17) (pc := 160) hx hb hts inT7 tyX7 tyX7_ok nmX7 hown hG.1 hP hD hS 0 rfl rfl 0 (by decide) (hts _ qf_Mod_44) (fun _ h9 => h9) rfl (by decide +kernel) rfl rfl (Nat.le_of_ble_eq_true rfl) dX7_readInput_160 (fun H locs hP hD hS => ?_)
    have hP : va_P K.1 vC (wMod K ad (0 : Int32) o23x.2.2.1 o23x.2.2.2.1 o23x.2.2.2.2.1 msav miss minp (0 : Int32) o23x.2.2.2.2.2 medg mcor mtri mkep mkee mwor mnum mmet) H := hP
    have hD : va_D _ (wMod K ad (0 : Int32) o23x.2.2.1 o23x.2.2.2.1 o23x.2.2.2.2.1 msav miss minp (0 : Int32) o23x.2.2.2.2.2 medg mcor mtri mkep mkee mwor mnum mmet) := hD
    refine lv_iload_n (pc := 163) hx hb dX7_readInput_163 rfl (lv_at hl 1 rfl) ?_
    obtain rfl := Option.some.inj h
    exact W.iret hx hb hr (fun t ht hW => ⟨⟨rfl, by rw [ht]; exact hP⟩, hS.F ht⟩) hS.2.2 dX7_readInput_164 hlk
  · have h := it_f c19 h
    refine lv_aload_n (pc := 98) hx hb dX7_readInput_98 rfl (lv_at hl 0 rfl) ?_
    refine lv_iconst (v := (0 : Int32)) (pc := 99) hx hb dX7_readInput_99 (by decide) ?_
    refine va_put (D := K.1) (ci := 7) (v := .int (0 : Int32)) (ty := .int) (C := RX7) (T := TX7) (N := 17) (pc := 100) hx hb hts inT7 tyX7 tyX7_ok nmX7 hown hG.1 hP hD hS 0 rfl rfl 7 (by decide) (hts _ qf_Mod_188) (fun _ h9 => h9) rfl (by decide +kernel) rfl rfl (Nat.le_of_ble_eq_true rfl) dX7_readInput_100 (fun H locs hP hD hS => ?_)
    have hP : va_P K.1 vC (wMod K ad o18x.2.1 o18x.2.2.1 o18x.2.2.2.1 o18x.2.2.2.2.1 msav miss minp (0 : Int32) o18x.2.2.2.2.2 medg mcor mtri mkep mkee mwor mnum mmet) H := hP
    have hD : va_D _ (wMod K ad o18x.2.1 o18x.2.2.1 o18x.2.2.2.1 o18x.2.2.2.2.1 msav miss minp (0 : Int32) o18x.2.2.2.2.2 medg mcor mtri mkep mkee mwor mnum mmet) := hD
    refine lv_bipush (v := (-100 : Int32)) (pc := 103) hx hb dX7_readInput_103 (by decide) ?_
    refine lv_aload_n (pc := 105) hx hb dX7_readInput_105 rfl (lv_at hl 0 rfl) ?_
    refine va_get (D := K.1) (ci := 7) (v := .int o18x.2.2.2.2.2) (C := RX7) (T := TX7) (N := 17) (pc := 106) hx hb hts inT7 hown hG.1 hP 0 rfl rfl 8 (by decide) (hts _ qf_Mod_191) (fun _ h9 => h9) rfl dX7_readInput_106 ?_
    refine lv_isub (pc := 109) hx hb dX7_readInput_109 ?_
    obtain rfl := Option.some.inj h
    exact W.iret hx hb hr (fun t ht hW => ⟨⟨rfl, by rw [ht]; exact hP⟩, hS.F ht⟩) hS.2.2 dX7_readInput_110 hlk
set_option maxHeartbeats 4000000 in
set_option maxRecDepth 100000 in
theorem c_Mod_triangleCount (l : Launch) (K : KT) (ad : Nat → Nat) (mthr : Int32) (mnow : Nat → Int32) (mold : Nat → Int32) (mols : Int32) (msav : Nat → Int32) (miss : Bool) (minp : Nat → Int32) (mlen : Int32) (mat : Int32) (medg : Nat → Int32) (mcor : Nat → Int32) (mtri : Int32) (mkep : Nat → Int32) (mkee : Nat → Int32) (mwor : Nat → Int32) (mnum : Nat → Int32) (mmet : Nat → Int32) (F : Nat) {o : Int32 × Int32 × (Nat → Int32) × (Nat → Int32) × Int32} (h : s_Mod_triangleCount F mnow medg mcor = some o) : Wr l K 7 yX7_triangleCount cX7_triangleCount 1 (some .int) [.ref (ad 0)] (wMod K ad mthr mnow mold mols msav miss minp mlen mat medg mcor mtri mkep mkee mwor mnum mmet) (some (.int o.1)) (wMod K ad o.2.1 mnow mold mols msav miss minp mlen mat o.2.2.1 o.2.2.2.1 o.2.2.2.2 mkep mkee mwor mnum mmet) := by
  refine Wr.of (by decide +kernel) (Nat.le_of_ble_eq_true rfl) ?_
  unfold s_Mod_triangleCount at h
  intro p e s m below meth c hx hb hr hml hown hts hlk H locs hP hG hD hS ls hl
  have C0 : Ctx p m c cX7_triangleCount 1 s (Array.mk [.ref (ad 0)]) RX7 K meth (some .int) := ⟨hx, hb, hml, hown, hts, hG, hr, hlk⟩
  have hl : lv_has ls 1 [(0, .ref (ad 0))] := hl
  refine lv_aload_n (pc := 0) hx hb dX7_triangleCount_0 rfl (lv_at hl 0 rfl) ?_
  refine lv_iconst (v := (0 : Int32)) (pc := 1) hx hb dX7_triangleCount_1 (by decide) ?_
  refine va_put (D := K.1) (ci := 7) (v := .int (0 : Int32)) (ty := .int) (C := RX7) (T := TX7) (N := 17) (pc := 2) hx hb hts inT7 tyX7 tyX7_ok nmX7 hown hG.1 hP hD hS 0 rfl rfl 0 (by decide) (hts _ qf_Mod_44) (fun _ h9 => h9) rfl (by decide +kernel) rfl rfl (Nat.le_of_ble_eq_true rfl) dX7_triangleCount_2 (fun H locs hP hD hS => ?_)
  have hP : va_P K.1 vC (wMod K ad (0 : Int32) mnow mold mols msav miss minp mlen mat medg mcor mtri mkep mkee mwor mnum mmet) H := hP
  have hD : va_D _ (wMod K ad (0 : Int32) mnow mold mols msav miss minp mlen mat medg mcor mtri mkep mkee mwor mnum mmet) := hD
  refine lv_aload_n (pc := 5) hx hb dX7_triangleCount_5 rfl (lv_at hl 0 rfl) ?_
  obtain ⟨v1, h_v1, h⟩ := ob h
  refine wrVv (pc := 6) (As := []) (rest := []) (ws2 := wMod K ad (0 : Int32) mnow mold mols msav miss minp mlen mat v1.1 v1.2.1 v1.2.2 mkep mkee mwor mnum mmet) (as9 := [ad 0, ad 1, ad 2, ad 3, ad 4, ad 5, ad 6, ad 7, ad 8, ad 9, ad 10, ad 11]) hx hb hml hown hts hG hP hD hS (c_Mod_builds l K ad (0 : Int32) mnow mold mols msav miss minp mlen mat medg mcor mtri mkep mkee mwor mnum mmet F h_v1) [0, 1, 2, 3, 4, 5, 6, 7, 8, 9, 10, 11] rfl rfl rfl rfl [.inl 0, .inl 1, .inl 2, .inl 3, .inl 4, .inl 5, .inl 6, .inl 7, .inl 8, .inl 9, .inl 10, .inl 11] (by decide +kernel) rfl (q0 := 0) rfl (ci := 7) rfl g_Mod_210 hd_Mod_builds rfl ⟨Nat.le_of_ble_eq_true rfl, Nat.le_of_ble_eq_true rfl⟩ ⟨Nat.zero_le _, Nat.zero_le _⟩ hl rfl (Nat.le_of_ble_eq_true rfl) dX7_triangleCount_6 (fun H locs hP hD hS => ?_)
  refine lv_aload_n (pc := 9) hx hb dX7_triangleCount_9 rfl (lv_at hl 0 rfl) ?_
  refine va_get (D := K.1) (ci := 7) (v := .int v1.2.2) (C := RX7) (T := TX7) (N := 17) (pc := 10) hx hb hts inT7 hown hG.1 hP 0 rfl rfl 11 (by decide) (hts _ qf_Mod_114) (fun _ h9 => h9) rfl dX7_triangleCount_10 ?_
  obtain rfl := Option.some.inj h
  exact W.iret hx hb hr (fun t ht hW => ⟨⟨rfl, by rw [ht]; exact hP⟩, hS.F ht⟩) hS.2.2 dX7_triangleCount_13 hlk
set_option maxHeartbeats 4000000 in
set_option maxRecDepth 100000 in
theorem c_Mod_isTriangle (l : Launch) (K : KT) (ad : Nat → Nat) (mthr : Int32) (mnow : Nat → Int32) (mold : Nat → Int32) (mols : Int32) (msav : Nat → Int32) (miss : Bool) (minp : Nat → Int32) (mlen : Int32) (mat : Int32) (medg : Nat → Int32) (mcor : Nat → Int32) (mtri : Int32) (mkep : Nat → Int32) (mkee : Nat → Int32) (mwor : Nat → Int32) (mnum : Nat → Int32) (mmet : Nat → Int32) (a0 : Int32) (F : Nat) {o : Bool × (Nat → Int32) × (Nat → Int32) × Int32} (h : s_Mod_isTriangle F mnow medg mcor a0 = some o) : Wr l K 7 yX7_isTriangle cX7_isTriangle 2 (some .boolean) [.ref (ad 0), .int a0] (wMod K ad mthr mnow mold mols msav miss minp mlen mat medg mcor mtri mkep mkee mwor mnum mmet) (some (.int (bI o.1))) (wMod K ad mthr mnow mold mols msav miss minp mlen mat o.2.1 o.2.2.1 o.2.2.2 mkep mkee mwor mnum mmet) := by
  refine Wr.of (by decide +kernel) (Nat.le_of_ble_eq_true rfl) ?_
  unfold s_Mod_isTriangle at h
  intro p e s m below meth c hx hb hr hml hown hts hlk H locs hP hG hD hS ls hl
  have C0 : Ctx p m c cX7_isTriangle 2 s (Array.mk [.ref (ad 0), .int a0]) RX7 K meth (some .boolean) := ⟨hx, hb, hml, hown, hts, hG, hr, hlk⟩
  have hl : lv_has ls 2 [(0, .ref (ad 0)), (1, .int a0)] := hl
  refine lv_aload_n (pc := 0) hx hb dX7_isTriangle_0 rfl (lv_at hl 0 rfl) ?_
  obtain ⟨v1, h_v1, h⟩ := ob h
  refine wrVv (pc := 1) (As := []) (rest := []) (ws2 := wMod K ad mthr mnow mold mols msav miss minp mlen mat v1.1 v1.2.1 v1.2.2 mkep mkee mwor mnum mmet) (as9 := [ad 0, ad 1, ad 2, ad 3, ad 4, ad 5, ad 6, ad 7, ad 8, ad 9, ad 10, ad 11]) hx hb hml hown hts hG hP hD hS (c_Mod_builds l K ad mthr mnow mold mols msav miss minp mlen mat medg mcor mtri mkep mkee mwor mnum mmet F h_v1) [0, 1, 2, 3, 4, 5, 6, 7, 8, 9, 10, 11] rfl rfl rfl rfl [.inl 0, .inl 1, .inl 2, .inl 3, .inl 4, .inl 5, .inl 6, .inl 7, .inl 8, .inl 9, .inl 10, .inl 11] (by decide +kernel) rfl (q0 := 0) rfl (ci := 7) rfl g_Mod_210 hd_Mod_builds rfl ⟨Nat.le_of_ble_eq_true rfl, Nat.le_of_ble_eq_true rfl⟩ ⟨Nat.zero_le _, Nat.zero_le _⟩ hl rfl (Nat.le_of_ble_eq_true rfl) dX7_isTriangle_1 (fun H locs hP hD hS => ?_)
  refine lv_iload_n (pc := 4) hx hb dX7_isTriangle_4 rfl (lv_at hl 1 rfl) ?_
  refine lv_iconst (v := (0 : Int32)) (pc := 5) hx hb dX7_isTriangle_5 (by decide) ?_
  refine lv_aload_n (pc := 6) hx hb dX7_isTriangle_6 rfl (lv_at hl 0 rfl) ?_
  refine va_get (D := K.1) (ci := 7) (v := .int v1.2.2) (C := RX7) (T := TX7) (N := 17) (pc := 7) hx hb hts inT7 hown hG.1 hP 0 rfl rfl 11 (by decide) (hts _ qf_Mod_114) (fun _ h9 => h9) rfl dX7_isTriangle_7 ?_
  refine lv_iconst (v := (1 : Int32)) (pc := 10) hx hb dX7_isTriangle_10 (by decide) ?_
  refine lv_isub (pc := 11) hx hb dX7_isTriangle_11 ?_
  refine rdS (pc := 12) (As := [.int a0, .int (0 : Int32), .int (v1.2.2 - (1 : Int32))]) (rest := []) hx hb hml hown hts hG (c_Mod_in l K a0 (0 : Int32) (v1.2.2 - (1 : Int32))) g_Mod_52 hd_Mod_in rfl ⟨Nat.le_of_ble_eq_true rfl, Nat.le_of_ble_eq_true rfl⟩ ⟨Nat.zero_le _, Nat.zero_le _⟩ hl rfl (Nat.le_of_ble_eq_true rfl) dX7_isTriangle_12 ?_
  obtain rfl := Option.some.inj h
  exact W.zret hx hb hr (bI_nar _) (fun t ht hW => ⟨⟨rfl, by rw [ht]; exact hP⟩, hS.F ht⟩) hS.2.2 dX7_isTriangle_15 hlk
set_option maxHeartbeats 4000000 in
set_option maxRecDepth 100000 in
theorem c_Mod_corner (l : Launch) (K : KT) (ad : Nat → Nat) (mthr : Int32) (mnow : Nat → Int32) (mold : Nat → Int32) (mols : Int32) (msav : Nat → Int32) (miss : Bool) (minp : Nat → Int32) (mlen : Int32) (mat : Int32) (medg : Nat → Int32) (mcor : Nat → Int32) (mtri : Int32) (mkep : Nat → Int32) (mkee : Nat → Int32) (mwor : Nat → Int32) (mnum : Nat → Int32) (mmet : Nat → Int32) (a0 : Int32) (a1 : Int32) (F : Nat) {o : Int32 × Int32 × (Nat → Int32) × (Nat → Int32) × Int32} (h : s_Mod_corner F mnow medg mcor a0 a1 = some o) : Wr l K 8 yX7_corner cX7_corner 3 (some .int) [.ref (ad 0), .int a0, .int a1] (wMod K ad mthr mnow mold mols msav miss minp mlen mat medg mcor mtri mkep mkee mwor mnum mmet) (some (.int o.1)) (wMod K ad o.2.1 mnow mold mols msav miss minp mlen mat o.2.2.1 o.2.2.2.1 o.2.2.2.2 mkep mkee mwor mnum mmet) := by
  refine Wr.of (by decide +kernel) (Nat.le_of_ble_eq_true rfl) ?_
  unfold s_Mod_corner at h
  intro p e s m below meth c hx hb hr hml hown hts hlk H locs hP hG hD hS ls hl
  have C0 : Ctx p m c cX7_corner 3 s (Array.mk [.ref (ad 0), .int a0, .int a1]) RX7 K meth (some .int) := ⟨hx, hb, hml, hown, hts, hG, hr, hlk⟩
  have hl : lv_has ls 3 [(0, .ref (ad 0)), (1, .int a0), (2, .int a1)] := hl
  refine lv_aload_n (pc := 0) hx hb dX7_corner_0 rfl (lv_at hl 0 rfl) ?_
  refine lv_iconst (v := (0 : Int32)) (pc := 1) hx hb dX7_corner_1 (by decide) ?_
  refine va_put (D := K.1) (ci := 7) (v := .int (0 : Int32)) (ty := .int) (C := RX7) (T := TX7) (N := 17) (pc := 2) hx hb hts inT7 tyX7 tyX7_ok nmX7 hown hG.1 hP hD hS 0 rfl rfl 0 (by decide) (hts _ qf_Mod_44) (fun _ h9 => h9) rfl (by decide +kernel) rfl rfl (Nat.le_of_ble_eq_true rfl) dX7_corner_2 (fun H locs hP hD hS => ?_)
  have hP : va_P K.1 vC (wMod K ad (0 : Int32) mnow mold mols msav miss minp mlen mat medg mcor mtri mkep mkee mwor mnum mmet) H := hP
  have hD : va_D _ (wMod K ad (0 : Int32) mnow mold mols msav miss minp mlen mat medg mcor mtri mkep mkee mwor mnum mmet) := hD
  refine lv_aload_n (pc := 5) hx hb dX7_corner_5 rfl (lv_at hl 0 rfl) ?_
  refine lv_iload_n (pc := 6) hx hb dX7_corner_6 rfl (lv_at hl 1 rfl) ?_
  obtain ⟨v1, h_v1, h⟩ := ob h
  refine wrVi (pc := 7) (As := [.int a0]) (rest := []) (ws2 := wMod K ad (0 : Int32) mnow mold mols msav miss minp mlen mat v1.2.1 v1.2.2.1 v1.2.2.2 mkep mkee mwor mnum mmet) (as9 := [ad 0, ad 1, ad 2, ad 3, ad 4, ad 5, ad 6, ad 7, ad 8, ad 9, ad 10, ad 11]) hx hb hml hown hts hG hP hD hS (c_Mod_isTriangle l K ad (0 : Int32) mnow mold mols msav miss minp mlen mat medg mcor mtri mkep mkee mwor mnum mmet a0 F h_v1) [0, 1, 2, 3, 4, 5, 6, 7, 8, 9, 10, 11] rfl rfl rfl rfl [.inl 0, .inl 1, .inl 2, .inl 3, .inl 4, .inl 5, .inl 6, .inl 7, .inl 8, .inl 9, .inl 10, .inl 11] (by decide +kernel) rfl (q0 := 0) rfl (ci := 7) rfl g_Mod_213 hd_Mod_isTriangle rfl ⟨Nat.le_of_ble_eq_true rfl, Nat.le_of_ble_eq_true rfl⟩ ⟨Nat.zero_le _, Nat.zero_le _⟩ hl rfl (Nat.le_of_ble_eq_true rfl) dX7_corner_7 (fun H locs hP hD hS => ?_)
  refine lv_if_ne (tgt := 19) (pc := 10) hx hb dX7_corner_10 (by decide) (fun c2 => ?_) (fun c2 => ?_)
  · have h := it_f c2 h
    refine lv_iload_n (pc := 19) hx hb dX7_corner_19 rfl (lv_at hl 2 rfl) ?_
    refine lv_iconst (v := (0 : Int32)) (pc := 20) hx hb dX7_corner_20 (by decide) ?_
    refine lv_iconst (v := (2 : Int32)) (pc := 21) hx hb dX7_corner_21 (by decide) ?_
    refine rdS (pc := 22) (As := [.int a1, .int (0 : Int32), .int (2 : Int32)]) (rest := []) hx hb hml hown hts hG (c_Mod_in l K a1 (0 : Int32) (2 : Int32)) g_Mod_52 hd_Mod_in rfl ⟨Nat.le_of_ble_eq_true rfl, Nat.le_of_ble_eq_true rfl⟩ ⟨Nat.zero_le _, Nat.zero_le _⟩ hl rfl (Nat.le_of_ble_eq_true rfl) dX7_corner_22 ?_
    refine lv_if_eq (tgt := 37) (pc := 25) hx hb dX7_corner_25 (by decide) (fun c3 => ?_) (fun c3 => ?_)
    · have h := it_t c3 h
      refine lv_aload_n (pc := 37) hx hb dX7_corner_37 rfl (lv_at hl 0 rfl) ?_
      refine lv_iconst (v := (2 : Int32)) (pc := 38) hx hb dX7_corner_38 (by decide) ?_
      refine wrVi (pc := 39) (As := [.int (2 : Int32)]) (rest := []) (ws2 := wMod K ad ((s_Mod_raises (2 : Int32)).2) mnow mold mols msav miss minp mlen mat v1.2.1 v1.2.2.1 v1.2.2.2 mkep mkee mwor mnum mmet) (as9 := [ad 0, ad 1, ad 2, ad 3, ad 4, ad 5, ad 6, ad 7, ad 8, ad 9, ad 10, ad 11]) hx hb hml hown hts hG hP hD hS (c_Mod_raises l K ad (0 : Int32) mnow mold mols msav miss minp mlen mat v1.2.1 v1.2.2.1 v1.2.2.2 mkep mkee mwor mnum mmet (2 : Int32)) [0, 1, 2, 3, 4, 5, 6, 7, 8, 9, 10, 11] rfl rfl rfl rfl [.inl 0, .inl 1, .inl 2, .inl 3, .inl 4, .inl 5, .inl 6, .inl 7, .inl 8, .inl 9, .inl 10, .inl 11] (by decide +kernel) rfl (q0 := 0) rfl (ci := 7) rfl g_Mod_172 hd_Mod_raises rfl ⟨Nat.le_of_ble_eq_true rfl, Nat.le_of_ble_eq_true rfl⟩ ⟨Nat.zero_le _, Nat.zero_le _⟩ hl rfl (Nat.le_of_ble_eq_true rfl) dX7_corner_39 (fun H locs hP hD hS => ?_)
      obtain rfl := Option.some.inj h
      exact W.iret hx hb hr (fun t ht hW => ⟨⟨rfl, by rw [ht]; exact hP⟩, hS.F ht⟩) hS.2.2 dX7_corner_42 hlk
    · have h := it_f c3 h
      refine lv_aload_n (pc := 28) hx hb dX7_corner_28 rfl (lv_at hl 0 rfl) ?_
      refine lv_iload_n (pc := 29) hx hb dX7_corner_29 rfl (lv_at hl 1 rfl) ?_
      refine lv_iload_n (pc := 30) hx hb dX7_corner_30 rfl (lv_at hl 2 rfl) ?_
      obtain ⟨v4, h_v4, h⟩ := ob h
      refine rdV (pc := 31) (As := [.int a0, .int a1]) (rest := []) hx hb hml hown hts hG hP (c_Mod_cornerOf l K ad (0 : Int32) mnow mold mols msav miss minp mlen mat v1.2.1 v1.2.2.1 v1.2.2.2 mkep mkee mwor mnum mmet a0 a1 h_v4) [0, 1, 2, 3, 4, 5, 6, 7, 8, 9, 10, 11] rfl (q0 := 0) rfl (ci := 7) rfl g_Mod_147 hd_Mod_cornerOf rfl ⟨Nat.le_of_ble_eq_true rfl, Nat.le_of_ble_eq_true rfl⟩ ⟨Nat.zero_le _, Nat.zero_le _⟩ hl rfl (Nat.le_of_ble_eq_true rfl) dX7_corner_31 ?_
      refine lv_goto (tgt := 42) (pc := 34) hx hb dX7_corner_34 (by decide) ?_
      obtain rfl := Option.some.inj h
      exact W.iret hx hb hr (fun t ht hW => ⟨⟨rfl, by rw [ht]; exact hP⟩, hS.F ht⟩) hS.2.2 dX7_corner_42 hlk
  · have h := it_t c2 h
    refine lv_aload_n (pc := 13) hx hb dX7_corner_13 rfl (lv_at hl 0 rfl) ?_
    refine lv_iconst (v := (1 : Int32)) (pc := 14) hx hb dX7_corner_14 (by decide) ?_
    refine wrVi (pc := 15) (As := [.int (1 : Int32)]) (rest := []) (ws2 := wMod K ad ((s_Mod_raises (1 : Int32)).2) mnow mold mols msav miss minp mlen mat v1.2.1 v1.2.2.1 v1.2.2.2 mkep mkee mwor mnum mmet) (as9 := [ad 0, ad 1, ad 2, ad 3, ad 4, ad 5, ad 6, ad 7, ad 8, ad 9, ad 10, ad 11]) hx hb hml hown hts hG hP hD hS (c_Mod_raises l K ad (0 : Int32) mnow mold mols msav miss minp mlen mat v1.2.1 v1.2.2.1 v1.2.2.2 mkep mkee mwor mnum mmet (1 : Int32)) [0, 1, 2, 3, 4, 5, 6, 7, 8, 9, 10, 11] rfl rfl rfl rfl [.inl 0, .inl 1, .inl 2, .inl 3, .inl 4, .inl 5, .inl 6, .inl 7, .inl 8, .inl 9, .inl 10, .inl 11] (by decide +kernel) rfl (q0 := 0) rfl (ci := 7) rfl g_Mod_172 hd_Mod_raises rfl ⟨Nat.le_of_ble_eq_true rfl, Nat.le_of_ble_eq_true rfl⟩ ⟨Nat.zero_le _, Nat.zero_le _⟩ hl rfl (Nat.le_of_ble_eq_true rfl) dX7_corner_15 (fun H locs hP hD hS => ?_)
    obtain rfl := Option.some.inj h
    exact W.iret hx hb hr (fun t ht hW => ⟨⟨rfl, by rw [ht]; exact hP⟩, hS.F ht⟩) hS.2.2 dX7_corner_18 hlk
set_option maxHeartbeats 4000000 in
set_option maxRecDepth 100000 in
theorem c_Mod_beyondOf (l : Launch) (K : KT) (ad : Nat → Nat) (mthr : Int32) (mnow : Nat → Int32) (mold : Nat → Int32) (mols : Int32) (msav : Nat → Int32) (miss : Bool) (minp : Nat → Int32) (mlen : Int32) (mat : Int32) (medg : Nat → Int32) (mcor : Nat → Int32) (mtri : Int32) (mkep : Nat → Int32) (mkee : Nat → Int32) (mwor : Nat → Int32) (mnum : Nat → Int32) (mmet : Nat → Int32) (a0 : Int32) (a1 : Int32) (F : Nat) {o : Int32} (h : s_Mod_beyondOf F mnow medg mcor mtri a0 a1 = some o) : Rd l K 5 yX7_beyondOf cX7_beyondOf 6 .int [.ref (ad 0), .int a0, .int a1] (wMod K ad mthr mnow mold mols msav miss minp mlen mat medg mcor mtri mkep mkee mwor mnum mmet) o := by
  refine Rd.of (by decide +kernel) (Nat.le_of_ble_eq_true rfl) ?_
  unfold s_Mod_beyondOf at h
  intro p e s m below meth c hx hb hr hml hown hts hlk hP hG ls hl
  have C0 : Ctx p m c cX7_beyondOf 6 s (Array.mk [.ref (ad 0), .int a0, .int a1]) RX7 K meth (some .int) := ⟨hx, hb, hml, hown, hts, hG, hr, hlk⟩
  have hl : lv_has ls 6 [(0, .ref (ad 0)), (1, .int a0), (2, .int a1)] := hl
  refine lv_aload_n (pc := 0) hx hb dX7_beyondOf_0 rfl (lv_at hl 0 rfl) ?_
  refine lv_iload_n (pc := 1) hx hb dX7_beyondOf_1 rfl (lv_at hl 1 rfl) ?_
  refine lv_iload_n (pc := 2) hx hb dX7_beyondOf_2 rfl (lv_at hl 2 rfl) ?_
  obtain ⟨v1, h_v1, h⟩ := ob h
  refine rdV (pc := 3) (As := [.int a0, .int a1]) (rest := []) hx hb hml hown hts hG hP (c_Mod_cornerOf l K ad mthr mnow mold mols msav miss minp mlen mat medg mcor mtri mkep mkee mwor mnum mmet a0 a1 h_v1) [0, 1, 2, 3, 4, 5, 6, 7, 8, 9, 10, 11] rfl (q0 := 0) rfl (ci := 7) rfl g_Mod_147 hd_Mod_cornerOf rfl ⟨Nat.le_of_ble_eq_true rfl, Nat.le_of_ble_eq_true rfl⟩ ⟨Nat.zero_le _, Nat.zero_le _⟩ hl rfl (Nat.le_of_ble_eq_true rfl) dX7_beyondOf_3 ?_
  refine lv_istore_n (pc := 6) (lv' := [(3, .int v1), (0, .ref (ad 0)), (1, .int a0), (2, .int a1)]) hx hb dX7_beyondOf_6 rfl hl (by decide) rfl (fun ls hl => ?_)
  refine lv_aload_n (pc := 7) hx hb dX7_beyondOf_7 rfl (lv_at hl 1 rfl) ?_
  refine lv_iload_n (pc := 8) hx hb dX7_beyondOf_8 rfl (lv_at hl 2 rfl) ?_
  refine lv_iload_n (pc := 9) hx hb dX7_beyondOf_9 rfl (lv_at hl 3 rfl) ?_
  refine lv_iconst (v := (1 : Int32)) (pc := 10) hx hb dX7_beyondOf_10 (by decide) ?_
  refine lv_iadd (pc := 11) hx hb dX7_beyondOf_11 ?_
  obtain ⟨v2, h_v2, h⟩ := ob h
  refine rdV (pc := 12) (As := [.int a0, .int (a1 + (1 : Int32))]) (rest := []) hx hb hml hown hts hG hP (c_Mod_cornerOf l K ad mthr mnow mold mols msav miss minp mlen mat medg mcor mtri mkep mkee mwor mnum mmet a0 (a1 + (1 : Int32)) h_v2) [0, 1, 2, 3, 4, 5, 6, 7, 8, 9, 10, 11] rfl (q0 := 0) rfl (ci := 7) rfl g_Mod_147 hd_Mod_cornerOf rfl ⟨Nat.le_of_ble_eq_true rfl, Nat.le_of_ble_eq_true rfl⟩ ⟨Nat.zero_le _, Nat.zero_le _⟩ hl rfl (Nat.le_of_ble_eq_true rfl) dX7_beyondOf_12 ?_
  refine lv_istore (pc := 15) (lv' := [(4, .int v2), (3, .int v1), (0, .ref (ad 0)), (1, .int a0), (2, .int a1)]) hx hb dX7_beyondOf_15 hl (by decide) rfl (fun ls hl => ?_)
  refine lv_aload_n (pc := 17) hx hb dX7_beyondOf_17 rfl (lv_at hl 2 rfl) ?_
  refine lv_iload (pc := 18) hx hb dX7_beyondOf_18 (lv_at hl 0 rfl) ?_
  refine lv_iload_n (pc := 20) hx hb dX7_beyondOf_20 rfl (lv_at hl 1 rfl) ?_
  obtain ⟨v3, h_v3, h⟩ := ob h
  refine rdV (pc := 21) (As := [.int v2, .int v1]) (rest := []) hx hb hml hown hts hG hP (c_Mod_apex l K ad mthr mnow mold mols msav miss minp mlen mat medg mcor mtri mkep mkee mwor mnum mmet v2 v1 F h_v3) [0, 1, 2, 3, 4, 5, 6, 7, 8, 9, 10, 11] rfl (q0 := 0) rfl (ci := 7) rfl g_Mod_141 hd_Mod_apex rfl ⟨Nat.le_of_ble_eq_true rfl, Nat.le_of_ble_eq_true rfl⟩ ⟨Nat.zero_le _, Nat.zero_le _⟩ hl rfl (Nat.le_of_ble_eq_true rfl) dX7_beyondOf_21 ?_
  refine lv_istore (pc := 24) (lv' := [(5, .int v3), (4, .int v2), (3, .int v1), (0, .ref (ad 0)), (1, .int a0), (2, .int a1)]) hx hb dX7_beyondOf_24 hl (by decide) rfl (fun ls hl => ?_)
  refine lv_iload (pc := 26) hx hb dX7_beyondOf_26 (lv_at hl 0 rfl) ?_
  refine lv_if_ge (tgt := 35) (pc := 28) hx hb dX7_beyondOf_28 (by decide) (fun c4 => ?_) (fun c4 => ?_)
  · have h := it_t c4 h
    refine lv_aload_n (pc := 35) hx hb dX7_beyondOf_35 rfl (lv_at hl 3 rfl) ?_
    refine lv_iload (pc := 36) hx hb dX7_beyondOf_36 (lv_at hl 1 rfl) ?_
    refine lv_iload_n (pc := 38) hx hb dX7_beyondOf_38 rfl (lv_at hl 2 rfl) ?_
    refine lv_iload (pc := 39) hx hb dX7_beyondOf_39 (lv_at hl 0 rfl) ?_
    obtain ⟨v5, h_v5, h⟩ := ob h
    refine rdV (pc := 41) (As := [.int v2, .int v1, .int v3]) (rest := []) hx hb hml hown hts hG hP (c_Mod_triangleOf l K ad mthr mnow mold mols msav miss minp mlen mat medg mcor mtri mkep mkee mwor mnum mmet v2 v1 v3 F h_v5) [0, 1, 2, 3, 4, 5, 6, 7, 8, 9, 10, 11] rfl (q0 := 0) rfl (ci := 7) rfl g_Mod_216 hd_Mod_triangleOf rfl ⟨Nat.le_of_ble_eq_true rfl, Nat.le_of_ble_eq_true rfl⟩ ⟨Nat.zero_le _, Nat.zero_le _⟩ hl rfl (Nat.le_of_ble_eq_true rfl) dX7_beyondOf_41 ?_
    obtain rfl := Option.some.inj h
    exact W.iret hx hb hr (fun t ht hW => ⟨rfl, ht⟩) (fun q hq => absurd hq List.not_mem_nil) dX7_beyondOf_44 hlk
  · have h := it_f c4 h
    refine lv_iconst (v := (-1 : Int32)) (pc := 31) hx hb dX7_beyondOf_31 (by decide) ?_
    refine lv_goto (tgt := 44) (pc := 32) hx hb dX7_beyondOf_32 (by decide) ?_
    obtain rfl := Option.some.inj h
    exact W.iret hx hb hr (fun t ht hW => ⟨rfl, ht⟩) (fun q hq => absurd hq List.not_mem_nil) dX7_beyondOf_44 hlk
