set_option maxHeartbeats 4000000 in
set_option maxRecDepth 100000 in
theorem c_Mod_beyond (l : Launch) (K : KT) (ad : Nat → Nat) (mthr : Int32) (mnow : Nat → Int32) (mold : Nat → Int32) (mols : Int32) (msav : Nat → Int32) (miss : Bool) (minp : Nat → Int32) (mlen : Int32) (mat : Int32) (medg : Nat → Int32) (mcor : Nat → Int32) (mtri : Int32) (mkep : Nat → Int32) (mkee : Nat → Int32) (mwor : Nat → Int32) (mnum : Nat → Int32) (mmet : Nat → Int32) (a0 : Int32) (a1 : Int32) (F : Nat) {o : Int32 × Int32 × (Nat → Int32) × (Nat → Int32) × Int32} (h : s_Mod_beyond F mnow medg mcor a0 a1 = some o) : Wr l K 8 yX7_beyond cX7_beyond 3 (some .int) [.ref (ad 0), .int a0, .int a1] (wMod K ad mthr mnow mold mols msav miss minp mlen mat medg mcor mtri mkep mkee mwor mnum mmet) (some (.int o.1)) (wMod K ad o.2.1 mnow mold mols msav miss minp mlen mat o.2.2.1 o.2.2.2.1 o.2.2.2.2 mkep mkee mwor mnum mmet) := by
  refine Wr.of (by decide +kernel) (Nat.le_of_ble_eq_true rfl) ?_
  unfold s_Mod_beyond at h
  intro p e s m below meth c hx hb hr hml hown hts hlk H locs hP hG hD hS ls hl
  have C0 : Ctx p m c cX7_beyond 3 s (Array.mk [.ref (ad 0), .int a0, .int a1]) RX7 K meth (some .int) := ⟨hx, hb, hml, hown, hts, hG, hr, hlk⟩
  have hl : lv_has ls 3 [(0, .ref (ad 0)), (1, .int a0), (2, .int a1)] := hl
  refine lv_aload_n (pc := 0) hx hb dX7_beyond_0 rfl (lv_at hl 0 rfl) ?_
  refine lv_iconst (v := (0 : Int32)) (pc := 1) hx hb dX7_beyond_1 (by decide) ?_
  refine va_put (D := K.1) (ci := 7) (v := .int (0 : Int32)) (ty := .int) (C := RX7) (T := TX7) (N := 17) (pc := 2) hx hb hts inT7 tyX7 tyX7_ok nmX7 hown hG.1 hP hD hS 0 rfl rfl 0 (by decide) (hts _ qf_Mod_44) (fun _ h9 => h9) rfl (by decide +kernel) rfl rfl (Nat.le_of_ble_eq_true rfl) dX7_beyond_2 (fun H locs hP hD hS => ?_)
  have hP : va_P K.1 vC (wMod K ad (0 : Int32) mnow mold mols msav miss minp mlen mat medg mcor mtri mkep mkee mwor mnum mmet) H := hP
  have hD : va_D _ (wMod K ad (0 : Int32) mnow mold mols msav miss minp mlen mat medg mcor mtri mkep mkee mwor mnum mmet) := hD
  refine lv_aload_n (pc := 5) hx hb dX7_beyond_5 rfl (lv_at hl 0 rfl) ?_
  refine lv_iload_n (pc := 6) hx hb dX7_beyond_6 rfl (lv_at hl 1 rfl) ?_
  obtain ⟨v1, h_v1, h⟩ := ob h
  refine wrVi (pc := 7) (As := [.int a0]) (rest := []) (ws2 := wMod K ad (0 : Int32) mnow mold mols msav miss minp mlen mat v1.2.1 v1.2.2.1 v1.2.2.2 mkep mkee mwor mnum mmet) (as9 := [ad 0, ad 1, ad 2, ad 3, ad 4, ad 5, ad 6, ad 7, ad 8, ad 9, ad 10, ad 11]) hx hb hml hown hts hG hP hD hS (c_Mod_isTriangle l K ad (0 : Int32) mnow mold mols msav miss minp mlen mat medg mcor mtri mkep mkee mwor mnum mmet a0 F h_v1) [0, 1, 2, 3, 4, 5, 6, 7, 8, 9, 10, 11] rfl rfl rfl rfl [.inl 0, .inl 1, .inl 2, .inl 3, .inl 4, .inl 5, .inl 6, .inl 7, .inl 8, .inl 9, .inl 10, .inl 11] (by decide +kernel) rfl (q0 := 0) rfl (ci := 7) rfl g_Mod_213 hd_Mod_isTriangle rfl ⟨Nat.le_of_ble_eq_true rfl, Nat.le_of_ble_eq_true rfl⟩ ⟨Nat.zero_le _, Nat.zero_le _⟩ hl rfl (Nat.le_of_ble_eq_true rfl) dX7_beyond_7 (fun H locs hP hD hS => ?_)
  refine lv_if_ne (tgt := 19) (pc := 10) hx hb dX7_beyond_10 (by decide) (fun c2 => ?_) (fun c2 => ?_)
  · have h := it_f c2 h
    refine lv_iload_n (pc := 19) hx hb dX7_beyond_19 rfl (lv_at hl 2 rfl) ?_
    refine lv_iconst (v := (0 : Int32)) (pc := 20) hx hb dX7_beyond_20 (by decide) ?_
    refine lv_iconst (v := (2 : Int32)) (pc := 21) hx hb dX7_beyond_21 (by decide) ?_
    refine rdS (pc := 22) (As := [.int a1, .int (0 : Int32), .int (2 : Int32)]) (rest := []) hx hb hml hown hts hG (c_Mod_in l K a1 (0 : Int32) (2 : Int32)) g_Mod_52 hd_Mod_in rfl ⟨Nat.le_of_ble_eq_true rfl, Nat.le_of_ble_eq_true rfl⟩ ⟨Nat.zero_le _, Nat.zero_le _⟩ hl rfl (Nat.le_of_ble_eq_true rfl) dX7_beyond_22 ?_
    refine lv_if_eq (tgt := 37) (pc := 25) hx hb dX7_beyond_25 (by decide) (fun c3 => ?_) (fun c3 => ?_)
    · have h := it_t c3 h
      refine lv_aload_n (pc := 37) hx hb dX7_beyond_37 rfl (lv_at hl 0 rfl) ?_
      refine lv_iconst (v := (2 : Int32)) (pc := 38) hx hb dX7_beyond_38 (by decide) ?_
      refine wrVi (pc := 39) (As := [.int (2 : Int32)]) (rest := []) (ws2 := wMod K ad ((s_Mod_raises (2 : Int32)).2) mnow mold mols msav miss minp mlen mat v1.2.1 v1.2.2.1 v1.2.2.2 mkep mkee mwor mnum mmet) (as9 := [ad 0, ad 1, ad 2, ad 3, ad 4, ad 5, ad 6, ad 7, ad 8, ad 9, ad 10, ad 11]) hx hb hml hown hts hG hP hD hS (c_Mod_raises l K ad (0 : Int32) mnow mold mols msav miss minp mlen mat v1.2.1 v1.2.2.1 v1.2.2.2 mkep mkee mwor mnum mmet (2 : Int32)) [0, 1, 2, 3, 4, 5, 6, 7, 8, 9, 10, 11] rfl rfl rfl rfl [.inl 0, .inl 1, .inl 2, .inl 3, .inl 4, .inl 5, .inl 6, .inl 7, .inl 8, .inl 9, .inl 10, .inl 11] (by decide +kernel) rfl (q0 := 0) rfl (ci := 7) rfl g_Mod_172 hd_Mod_raises rfl ⟨Nat.le_of_ble_eq_true rfl, Nat.le_of_ble_eq_true rfl⟩ ⟨Nat.zero_le _, Nat.zero_le _⟩ hl rfl (Nat.le_of_ble_eq_true rfl) dX7_beyond_39 (fun H locs hP hD hS => ?_)
      obtain rfl := Option.some.inj h
      exact W.iret hx hb hr (fun t ht hW => ⟨⟨rfl, by rw [ht]; exact hP⟩, hS.F ht⟩) hS.2.2 dX7_beyond_42 hlk
    · have h := it_f c3 h
      refine lv_aload_n (pc := 28) hx hb dX7_beyond_28 rfl (lv_at hl 0 rfl) ?_
      refine lv_iload_n (pc := 29) hx hb dX7_beyond_29 rfl (lv_at hl 1 rfl) ?_
      refine lv_iload_n (pc := 30) hx hb dX7_beyond_30 rfl (lv_at hl 2 rfl) ?_
      obtain ⟨v4, h_v4, h⟩ := ob h
      refine rdV (pc := 31) (As := [.int a0, .int a1]) (rest := []) hx hb hml hown hts hG hP (c_Mod_beyondOf l K ad (0 : Int32) mnow mold mols msav miss minp mlen mat v1.2.1 v1.2.2.1 v1.2.2.2 mkep mkee mwor mnum mmet a0 a1 F h_v4) [0, 1, 2, 3, 4, 5, 6, 7, 8, 9, 10, 11] rfl (q0 := 0) rfl (ci := 7) rfl g_Mod_219 hd_Mod_beyondOf rfl ⟨Nat.le_of_ble_eq_true rfl, Nat.le_of_ble_eq_true rfl⟩ ⟨Nat.zero_le _, Nat.zero_le _⟩ hl rfl (Nat.le_of_ble_eq_true rfl) dX7_beyond_31 ?_
      refine lv_goto (tgt := 42) (pc := 34) hx hb dX7_beyond_34 (by decide) ?_
      obtain rfl := Option.some.inj h
      exact W.iret hx hb hr (fun t ht hW => ⟨⟨rfl, by rw [ht]; exact hP⟩, hS.F ht⟩) hS.2.2 dX7_beyond_42 hlk
  · have h := it_t c2 h
    refine lv_aload_n (pc := 13) hx hb dX7_beyond_13 rfl (lv_at hl 0 rfl) ?_
    refine lv_iconst (v := (1 : Int32)) (pc := 14) hx hb dX7_beyond_14 (by decide) ?_
    refine wrVi (pc := 15) (As := [.int (1 : Int32)]) (rest := []) (ws2 := wMod K ad ((s_Mod_raises (1 : Int32)).2) mnow mold mols msav miss minp mlen mat v1.2.1 v1.2.2.1 v1.2.2.2 mkep mkee mwor mnum mmet) (as9 := [ad 0, ad 1, ad 2, ad 3, ad 4, ad 5, ad 6, ad 7, ad 8, ad 9, ad 10, ad 11]) hx hb hml hown hts hG hP hD hS (c_Mod_raises l K ad (0 : Int32) mnow mold mols msav miss minp mlen mat v1.2.1 v1.2.2.1 v1.2.2.2 mkep mkee mwor mnum mmet (1 : Int32)) [0, 1, 2, 3, 4, 5, 6, 7, 8, 9, 10, 11] rfl rfl rfl rfl [.inl 0, .inl 1, .inl 2, .inl 3, .inl 4, .inl 5, .inl 6, .inl 7, .inl 8, .inl 9, .inl 10, .inl 11] (by decide +kernel) rfl (q0 := 0) rfl (ci := 7) rfl g_Mod_172 hd_Mod_raises rfl ⟨Nat.le_of_ble_eq_true rfl, Nat.le_of_ble_eq_true rfl⟩ ⟨Nat.zero_le _, Nat.zero_le _⟩ hl rfl (Nat.le_of_ble_eq_true rfl) dX7_beyond_15 (fun H locs hP hD hS => ?_)
    obtain rfl := Option.some.inj h
    exact W.iret hx hb hr (fun t ht hW => ⟨⟨rfl, by rw [ht]; exact hP⟩, hS.F ht⟩) hS.2.2 dX7_beyond_18 hlk
set_option maxHeartbeats 4000000 in
set_option maxRecDepth 100000 in
theorem c_Mod_edgeCount (l : Launch) (K : KT) (ad : Nat → Nat) (mthr : Int32) (mnow : Nat → Int32) (mold : Nat → Int32) (mols : Int32) (msav : Nat → Int32) (miss : Bool) (minp : Nat → Int32) (mlen : Int32) (mat : Int32) (medg : Nat → Int32) (mcor : Nat → Int32) (mtri : Int32) (mkep : Nat → Int32) (mkee : Nat → Int32) (mwor : Nat → Int32) (mnum : Nat → Int32) (mmet : Nat → Int32) (F : Nat) {o : Int32 × Int32 × (Nat → Int32) × (Nat → Int32) × Int32} (h : s_Mod_edgeCount F mnow medg mcor = some o) : Wr l K 7 yX7_edgeCount cX7_edgeCount 1 (some .int) [.ref (ad 0)] (wMod K ad mthr mnow mold mols msav miss minp mlen mat medg mcor mtri mkep mkee mwor mnum mmet) (some (.int o.1)) (wMod K ad o.2.1 mnow mold mols msav miss minp mlen mat o.2.2.1 o.2.2.2.1 o.2.2.2.2 mkep mkee mwor mnum mmet) := by
  refine Wr.of (by decide +kernel) (Nat.le_of_ble_eq_true rfl) ?_
  unfold s_Mod_edgeCount at h
  intro p e s m below meth c hx hb hr hml hown hts hlk H locs hP hG hD hS ls hl
  have C0 : Ctx p m c cX7_edgeCount 1 s (Array.mk [.ref (ad 0)]) RX7 K meth (some .int) := ⟨hx, hb, hml, hown, hts, hG, hr, hlk⟩
  have hl : lv_has ls 1 [(0, .ref (ad 0))] := hl
  refine lv_aload_n (pc := 0) hx hb dX7_edgeCount_0 rfl (lv_at hl 0 rfl) ?_
  refine lv_iconst (v := (0 : Int32)) (pc := 1) hx hb dX7_edgeCount_1 (by decide) ?_
  refine va_put (D := K.1) (ci := 7) (v := .int (0 : Int32)) (ty := .int) (C := RX7) (T := TX7) (N := 17) (pc := 2) hx hb hts inT7 tyX7 tyX7_ok nmX7 hown hG.1 hP hD hS 0 rfl rfl 0 (by decide) (hts _ qf_Mod_44) (fun _ h9 => h9) rfl (by decide +kernel) rfl rfl (Nat.le_of_ble_eq_true rfl) dX7_edgeCount_2 (fun H locs hP hD hS => ?_)
  have hP : va_P K.1 vC (wMod K ad (0 : Int32) mnow mold mols msav miss minp mlen mat medg mcor mtri mkep mkee mwor mnum mmet) H := hP
  have hD : va_D _ (wMod K ad (0 : Int32) mnow mold mols msav miss minp mlen mat medg mcor mtri mkep mkee mwor mnum mmet) := hD
  refine lv_aload_n (pc := 5) hx hb dX7_edgeCount_5 rfl (lv_at hl 0 rfl) ?_
  obtain ⟨v1, h_v1, h⟩ := ob h
  refine wrVv (pc := 6) (As := []) (rest := []) (ws2 := wMod K ad (0 : Int32) mnow mold mols msav miss minp mlen mat v1.1 v1.2.1 v1.2.2 mkep mkee mwor mnum mmet) (as9 := [ad 0, ad 1, ad 2, ad 3, ad 4, ad 5, ad 6, ad 7, ad 8, ad 9, ad 10, ad 11]) hx hb hml hown hts hG hP hD hS (c_Mod_builds l K ad (0 : Int32) mnow mold mols msav miss minp mlen mat medg mcor mtri mkep mkee mwor mnum mmet F h_v1) [0, 1, 2, 3, 4, 5, 6, 7, 8, 9, 10, 11] rfl rfl rfl rfl [.inl 0, .inl 1, .inl 2, .inl 3, .inl 4, .inl 5, .inl 6, .inl 7, .inl 8, .inl 9, .inl 10, .inl 11] (by decide +kernel) rfl (q0 := 0) rfl (ci := 7) rfl g_Mod_210 hd_Mod_builds rfl ⟨Nat.le_of_ble_eq_true rfl, Nat.le_of_ble_eq_true rfl⟩ ⟨Nat.zero_le _, Nat.zero_le _⟩ hl rfl (Nat.le_of_ble_eq_true rfl) dX7_edgeCount_6 (fun H locs hP hD hS => ?_)
  refine lv_aload_n (pc := 9) hx hb dX7_edgeCount_9 rfl (lv_at hl 0 rfl) ?_
  obtain ⟨v2, h_v2, h⟩ := ob h
  refine rdV (pc := 10) (As := []) (rest := []) hx hb hml hown hts hG hP (c_Mod_edgeTotal l K ad (0 : Int32) mnow mold mols msav miss minp mlen mat v1.1 v1.2.1 v1.2.2 mkep mkee mwor mnum mmet F h_v2) [0, 1, 2, 3, 4, 5, 6, 7, 8, 9, 10, 11] rfl (q0 := 0) rfl (ci := 7) rfl g_Mod_222 hd_Mod_edgeTotal rfl ⟨Nat.le_of_ble_eq_true rfl, Nat.le_of_ble_eq_true rfl⟩ ⟨Nat.zero_le _, Nat.zero_le _⟩ hl rfl (Nat.le_of_ble_eq_true rfl) dX7_edgeCount_10 ?_
  obtain rfl := Option.some.inj h
  exact W.iret hx hb hr (fun t ht hW => ⟨⟨rfl, by rw [ht]; exact hP⟩, hS.F ht⟩) hS.2.2 dX7_edgeCount_13 hlk
set_option maxHeartbeats 4000000 in
set_option maxRecDepth 100000 in
theorem c_Mod_edgeEnd (l : Launch) (K : KT) (ad : Nat → Nat) (mthr : Int32) (mnow : Nat → Int32) (mold : Nat → Int32) (mols : Int32) (msav : Nat → Int32) (miss : Bool) (minp : Nat → Int32) (mlen : Int32) (mat : Int32) (medg : Nat → Int32) (mcor : Nat → Int32) (mtri : Int32) (mkep : Nat → Int32) (mkee : Nat → Int32) (mwor : Nat → Int32) (mnum : Nat → Int32) (mmet : Nat → Int32) (a0 : Int32) (a1 : Int32) (F : Nat) {o : Int32 × Int32 × (Nat → Int32) × (Nat → Int32) × Int32 × (Nat → Int32)} (h : s_Mod_edgeEnd F mnow medg mcor mnum a0 a1 = some o) : Wr l K 7 yX7_edgeEnd cX7_edgeEnd 3 (some .int) [.ref (ad 0), .int a0, .int a1] (wMod K ad mthr mnow mold mols msav miss minp mlen mat medg mcor mtri mkep mkee mwor mnum mmet) (some (.int o.1)) (wMod K ad o.2.1 mnow mold mols msav miss minp mlen mat o.2.2.1 o.2.2.2.1 o.2.2.2.2.1 mkep mkee mwor o.2.2.2.2.2 mmet) := by
  refine Wr.of (by decide +kernel) (Nat.le_of_ble_eq_true rfl) ?_
  unfold s_Mod_edgeEnd at h
  intro p e s m below meth c hx hb hr hml hown hts hlk H locs hP hG hD hS ls hl
  have C0 : Ctx p m c cX7_edgeEnd 3 s (Array.mk [.ref (ad 0), .int a0, .int a1]) RX7 K meth (some .int) := ⟨hx, hb, hml, hown, hts, hG, hr, hlk⟩
  have hl : lv_has ls 3 [(0, .ref (ad 0)), (1, .int a0), (2, .int a1)] := hl
  refine lv_aload_n (pc := 0) hx hb dX7_edgeEnd_0 rfl (lv_at hl 0 rfl) ?_
  refine lv_iconst (v := (0 : Int32)) (pc := 1) hx hb dX7_edgeEnd_1 (by decide) ?_
  refine va_put (D := K.1) (ci := 7) (v := .int (0 : Int32)) (ty := .int) (C := RX7) (T := TX7) (N := 17) (pc := 2) hx hb hts inT7 tyX7 tyX7_ok nmX7 hown hG.1 hP hD hS 0 rfl rfl 0 (by decide) (hts _ qf_Mod_44) (fun _ h9 => h9) rfl (by decide +kernel) rfl rfl (Nat.le_of_ble_eq_true rfl) dX7_edgeEnd_2 (fun H locs hP hD hS => ?_)
  have hP : va_P K.1 vC (wMod K ad (0 : Int32) mnow mold mols msav miss minp mlen mat medg mcor mtri mkep mkee mwor mnum mmet) H := hP
  have hD : va_D _ (wMod K ad (0 : Int32) mnow mold mols msav miss minp mlen mat medg mcor mtri mkep mkee mwor mnum mmet) := hD
  refine lv_aload_n (pc := 5) hx hb dX7_edgeEnd_5 rfl (lv_at hl 0 rfl) ?_
  obtain ⟨v1, h_v1, h⟩ := ob h
  refine wrVv (pc := 6) (As := []) (rest := []) (ws2 := wMod K ad (0 : Int32) mnow mold mols msav miss minp mlen mat v1.1 v1.2.1 v1.2.2 mkep mkee mwor mnum mmet) (as9 := [ad 0, ad 1, ad 2, ad 3, ad 4, ad 5, ad 6, ad 7, ad 8, ad 9, ad 10, ad 11]) hx hb hml hown hts hG hP hD hS (c_Mod_builds l K ad (0 : Int32) mnow mold mols msav miss minp mlen mat medg mcor mtri mkep mkee mwor mnum mmet F h_v1) [0, 1, 2, 3, 4, 5, 6, 7, 8, 9, 10, 11] rfl rfl rfl rfl [.inl 0, .inl 1, .inl 2, .inl 3, .inl 4, .inl 5, .inl 6, .inl 7, .inl 8, .inl 9, .inl 10, .inl 11] (by decide +kernel) rfl (q0 := 0) rfl (ci := 7) rfl g_Mod_210 hd_Mod_builds rfl ⟨Nat.le_of_ble_eq_true rfl, Nat.le_of_ble_eq_true rfl⟩ ⟨Nat.zero_le _, Nat.zero_le _⟩ hl rfl (Nat.le_of_ble_eq_true rfl) dX7_edgeEnd_6 (fun H locs hP hD hS => ?_)
  refine lv_aload_n (pc := 9) hx hb dX7_edgeEnd_9 rfl (lv_at hl 0 rfl) ?_
  refine lv_iload_n (pc := 10) hx hb dX7_edgeEnd_10 rfl (lv_at hl 1 rfl) ?_
  obtain ⟨v2, h_v2, h⟩ := ob h
  refine wrVi (pc := 11) (As := [.int a0]) (rest := []) (ws2 := wMod K ad (0 : Int32) mnow mold mols msav miss minp mlen mat v1.1 v1.2.1 v1.2.2 mkep mkee mwor v2.2 mmet) (as9 := [ad 0, ad 1, ad 2, ad 3, ad 4, ad 5, ad 6, ad 7, ad 8, ad 9, ad 10, ad 11]) hx hb hml hown hts hG hP hD hS (c_Mod_edge l K ad (0 : Int32) mnow mold mols msav miss minp mlen mat v1.1 v1.2.1 v1.2.2 mkep mkee mwor mnum mmet a0 F h_v2) [0, 1, 2, 3, 4, 5, 6, 7, 8, 9, 10, 11] rfl rfl rfl rfl [.inl 0, .inl 1, .inl 2, .inl 3, .inl 4, .inl 5, .inl 6, .inl 7, .inl 8, .inl 9, .inl 10, .inl 11] (by decide +kernel) rfl (q0 := 0) rfl (ci := 7) rfl g_Mod_225 hd_Mod_edge rfl ⟨Nat.le_of_ble_eq_true rfl, Nat.le_of_ble_eq_true rfl⟩ ⟨Nat.zero_le _, Nat.zero_le _⟩ hl rfl (Nat.le_of_ble_eq_true rfl) dX7_edgeEnd_11 (fun H locs hP hD hS => ?_)
  refine lv_if_ne (tgt := 23) (pc := 14) hx hb dX7_edgeEnd_14 (by decide) (fun c3 => ?_) (fun c3 => ?_)
  · have h := it_f c3 h
    refine lv_iload_n (pc := 23) hx hb dX7_edgeEnd_23 rfl (lv_at hl 2 rfl) ?_
    refine lv_iconst (v := (0 : Int32)) (pc := 24) hx hb dX7_edgeEnd_24 (by decide) ?_
    refine lv_iconst (v := (1 : Int32)) (pc := 25) hx hb dX7_edgeEnd_25 (by decide) ?_
    refine rdS (pc := 26) (As := [.int a1, .int (0 : Int32), .int (1 : Int32)]) (rest := []) hx hb hml hown hts hG (c_Mod_in l K a1 (0 : Int32) (1 : Int32)) g_Mod_52 hd_Mod_in rfl ⟨Nat.le_of_ble_eq_true rfl, Nat.le_of_ble_eq_true rfl⟩ ⟨Nat.zero_le _, Nat.zero_le _⟩ hl rfl (Nat.le_of_ble_eq_true rfl) dX7_edgeEnd_26 ?_
    refine lv_if_eq (tgt := 41) (pc := 29) hx hb dX7_edgeEnd_29 (by decide) (fun c4 => ?_) (fun c4 => ?_)
    · have h := it_t c4 h
      refine lv_aload_n (pc := 41) hx hb dX7_edgeEnd_41 rfl (lv_at hl 0 rfl) ?_
      refine lv_iconst (v := (2 : Int32)) (pc := 42) hx hb dX7_edgeEnd_42 (by decide) ?_
      refine wrVi (pc := 43) (As := [.int (2 : Int32)]) (rest := []) (ws2 := wMod K ad ((s_Mod_raises (2 : Int32)).2) mnow mold mols msav miss minp mlen mat v1.1 v1.2.1 v1.2.2 mkep mkee mwor v2.2 mmet) (as9 := [ad 0, ad 1, ad 2, ad 3, ad 4, ad 5, ad 6, ad 7, ad 8, ad 9, ad 10, ad 11]) hx hb hml hown hts hG hP hD hS (c_Mod_raises l K ad (0 : Int32) mnow mold mols msav miss minp mlen mat v1.1 v1.2.1 v1.2.2 mkep mkee mwor v2.2 mmet (2 : Int32)) [0, 1, 2, 3, 4, 5, 6, 7, 8, 9, 10, 11] rfl rfl rfl rfl [.inl 0, .inl 1, .inl 2, .inl 3, .inl 4, .inl 5, .inl 6, .inl 7, .inl 8, .inl 9, .inl 10, .inl 11] (by decide +kernel) rfl (q0 := 0) rfl (ci := 7) rfl g_Mod_172 hd_Mod_raises rfl ⟨Nat.le_of_ble_eq_true rfl, Nat.le_of_ble_eq_true rfl⟩ ⟨Nat.zero_le _, Nat.zero_le _⟩ hl rfl (Nat.le_of_ble_eq_true rfl) dX7_edgeEnd_43 (fun H locs hP hD hS => ?_)
      obtain rfl := Option.some.inj h
      exact W.iret hx hb hr (fun t ht hW => ⟨⟨rfl, by rw [ht]; exact hP⟩, hS.F ht⟩) hS.2.2 dX7_edgeEnd_46 hlk
    · have h := it_f c4 h
      refine lv_aload_n (pc := 32) hx hb dX7_edgeEnd_32 rfl (lv_at hl 0 rfl) ?_
      refine va_get (D := K.1) (ci := 7) (v := .ref (ad 10)) (C := RX7) (T := TX7) (N := 17) (pc := 33) hx hb hts inT7 hown hG.1 hP 0 rfl rfl 15 (by decide) (hts _ qf_Mod_38) (fun _ h9 => h9) rfl dX7_edgeEnd_33 ?_
      refine lv_iload_n (pc := 36) hx hb dX7_edgeEnd_36 rfl (lv_at hl 2 rfl) ?_
      obtain ⟨v5, h_v5, h⟩ := ob h
      obtain ⟨hi_v5, e_v5⟩ := aget_in h_v5
      refine va_iald (pc := 37) hx hb hG.1 hP 10 0 rfl rfl hi_v5 dX7_edgeEnd_37 ?_
      rw [e_v5]
      refine lv_goto (tgt := 46) (pc := 38) hx hb dX7_edgeEnd_38 (by decide) ?_
      obtain rfl := Option.some.inj h
      exact W.iret hx hb hr (fun t ht hW => ⟨⟨rfl, by rw [ht]; exact hP⟩, hS.F ht⟩) hS.2.2 dX7_edgeEnd_46 hlk
  · have h := it_t c3 h
    refine lv_aload_n (pc := 17) hx hb dX7_edgeEnd_17 rfl (lv_at hl 0 rfl) ?_
    refine lv_iconst (v := (1 : Int32)) (pc := 18) hx hb dX7_edgeEnd_18 (by decide) ?_
    refine wrVi (pc := 19) (As := [.int (1 : Int32)]) (rest := []) (ws2 := wMod K ad ((s_Mod_raises (1 : Int32)).2) mnow mold mols msav miss minp mlen mat v1.1 v1.2.1 v1.2.2 mkep mkee mwor v2.2 mmet) (as9 := [ad 0, ad 1, ad 2, ad 3, ad 4, ad 5, ad 6, ad 7, ad 8, ad 9, ad 10, ad 11]) hx hb hml hown hts hG hP hD hS (c_Mod_raises l K ad (0 : Int32) mnow mold mols msav miss minp mlen mat v1.1 v1.2.1 v1.2.2 mkep mkee mwor v2.2 mmet (1 : Int32)) [0, 1, 2, 3, 4, 5, 6, 7, 8, 9, 10, 11] rfl rfl rfl rfl [.inl 0, .inl 1, .inl 2, .inl 3, .inl 4, .inl 5, .inl 6, .inl 7, .inl 8, .inl 9, .inl 10, .inl 11] (by decide +kernel) rfl (q0 := 0) rfl (ci := 7) rfl g_Mod_172 hd_Mod_raises rfl ⟨Nat.le_of_ble_eq_true rfl, Nat.le_of_ble_eq_true rfl⟩ ⟨Nat.zero_le _, Nat.zero_le _⟩ hl rfl (Nat.le_of_ble_eq_true rfl) dX7_edgeEnd_19 (fun H locs hP hD hS => ?_)
    obtain rfl := Option.some.inj h
    exact W.iret hx hb hr (fun t ht hW => ⟨⟨rfl, by rw [ht]; exact hP⟩, hS.F ht⟩) hS.2.2 dX7_edgeEnd_22 hlk
set_option maxHeartbeats 4000000 in
set_option maxRecDepth 100000 in
theorem c_Mod_edgeBetween (l : Launch) (K : KT) (ad : Nat → Nat) (mthr : Int32) (mnow : Nat → Int32) (mold : Nat → Int32) (mols : Int32) (msav : Nat → Int32) (miss : Bool) (minp : Nat → Int32) (mlen : Int32) (mat : Int32) (medg : Nat → Int32) (mcor : Nat → Int32) (mtri : Int32) (mkep : Nat → Int32) (mkee : Nat → Int32) (mwor : Nat → Int32) (mnum : Nat → Int32) (mmet : Nat → Int32) (a0 : Int32) (a1 : Int32) (F : Nat) {o : Int32 × Int32 × (Nat → Int32) × (Nat → Int32) × Int32} (h : s_Mod_edgeBetween F mnow medg mcor mtri a0 a1 = some o) : Wr l K 7 yX7_edgeBetween cX7_edgeBetween 4 (some .int) [.ref (ad 0), .int a0, .int a1] (wMod K ad mthr mnow mold mols msav miss minp mlen mat medg mcor mtri mkep mkee mwor mnum mmet) (some (.int o.1)) (wMod K ad o.2.1 mnow mold mols msav miss minp mlen mat o.2.2.1 o.2.2.2.1 o.2.2.2.2 mkep mkee mwor mnum mmet) := by
  refine Wr.of (by decide +kernel) (Nat.le_of_ble_eq_true rfl) ?_
  unfold s_Mod_edgeBetween at h
  intro p e s m below meth c hx hb hr hml hown hts hlk H locs hP hG hD hS ls hl
  have C0 : Ctx p m c cX7_edgeBetween 4 s (Array.mk [.ref (ad 0), .int a0, .int a1]) RX7 K meth (some .int) := ⟨hx, hb, hml, hown, hts, hG, hr, hlk⟩
  have hl : lv_has ls 4 [(0, .ref (ad 0)), (1, .int a0), (2, .int a1)] := hl
  refine lv_aload_n (pc := 0) hx hb dX7_edgeBetween_0 rfl (lv_at hl 0 rfl) ?_
  refine lv_iconst (v := (0 : Int32)) (pc := 1) hx hb dX7_edgeBetween_1 (by decide) ?_
  refine va_put (D := K.1) (ci := 7) (v := .int (0 : Int32)) (ty := .int) (C := RX7) (T := TX7) (N := 17) (pc := 2) hx hb hts inT7 tyX7 tyX7_ok nmX7 hown hG.1 hP hD hS 0 rfl rfl 0 (by decide) (hts _ qf_Mod_44) (fun _ h9 => h9) rfl (by decide +kernel) rfl rfl (Nat.le_of_ble_eq_true rfl) dX7_edgeBetween_2 (fun H locs hP hD hS => ?_)
  have hP : va_P K.1 vC (wMod K ad (0 : Int32) mnow mold mols msav miss minp mlen mat medg mcor mtri mkep mkee mwor mnum mmet) H := hP
  have hD : va_D _ (wMod K ad (0 : Int32) mnow mold mols msav miss minp mlen mat medg mcor mtri mkep mkee mwor mnum mmet) := hD
  refine lv_aload_n (pc := 5) hx hb dX7_edgeBetween_5 rfl (lv_at hl 0 rfl) ?_
  refine lv_iload_n (pc := 6) hx hb dX7_edgeBetween_6 rfl (lv_at hl 1 rfl) ?_
  obtain ⟨v1, h_v1, h⟩ := ob h
  refine rdV (pc := 7) (As := [.int a0]) (rest := []) hx hb hml hown hts hG hP (c_Mod_isPoint l K ad (0 : Int32) mnow mold mols msav miss minp mlen mat medg mcor mtri mkep mkee mwor mnum mmet a0 h_v1) [0, 1, 2, 3, 4, 5, 6, 7, 8, 9, 10, 11] rfl (q0 := 0) rfl (ci := 7) rfl g_Mod_168 hd_Mod_isPoint rfl ⟨Nat.le_of_ble_eq_true rfl, Nat.le_of_ble_eq_true rfl⟩ ⟨Nat.zero_le _, Nat.zero_le _⟩ hl rfl (Nat.le_of_ble_eq_true rfl) dX7_edgeBetween_7 ?_
  refine lv_if_eq (tgt := 21) (pc := 10) hx hb dX7_edgeBetween_10 (by decide) (fun c2 => ?_) (fun c2 => ?_)
  · have h := it_t c2 h
    refine lv_aload_n (pc := 21) hx hb dX7_edgeBetween_21 rfl (lv_at hl 0 rfl) ?_
    refine lv_iconst (v := (1 : Int32)) (pc := 22) hx hb dX7_edgeBetween_22 (by decide) ?_
    refine wrVi (pc := 23) (As := [.int (1 : Int32)]) (rest := []) (ws2 := wMod K ad ((s_Mod_raises (1 : Int32)).2) mnow mold mols msav miss minp mlen mat medg mcor mtri mkep mkee mwor mnum mmet) (as9 := [ad 0, ad 1, ad 2, ad 3, ad 4, ad 5, ad 6, ad 7, ad 8, ad 9, ad 10, ad 11]) hx hb hml hown hts hG hP hD hS (c_Mod_raises l K ad (0 : Int32) mnow mold mols msav miss minp mlen mat medg mcor mtri mkep mkee mwor mnum mmet (1 : Int32)) [0, 1, 2, 3, 4, 5, 6, 7, 8, 9, 10, 11] rfl rfl rfl rfl [.inl 0, .inl 1, .inl 2, .inl 3, .inl 4, .inl 5, .inl 6, .inl 7, .inl 8, .inl 9, .inl 10, .inl 11] (by decide +kernel) rfl (q0 := 0) rfl (ci := 7) rfl g_Mod_172 hd_Mod_raises rfl ⟨Nat.le_of_ble_eq_true rfl, Nat.le_of_ble_eq_true rfl⟩ ⟨Nat.zero_le _, Nat.zero_le _⟩ hl rfl (Nat.le_of_ble_eq_true rfl) dX7_edgeBetween_23 (fun H locs hP hD hS => ?_)
    obtain rfl := Option.some.inj h
    exact W.iret hx hb hr (fun t ht hW => ⟨⟨rfl, by rw [ht]; exact hP⟩, hS.F ht⟩) hS.2.2 dX7_edgeBetween_26 hlk
  · have h := it_f c2 h
    refine lv_aload_n (pc := 13) hx hb dX7_edgeBetween_13 rfl (lv_at hl 0 rfl) ?_
    refine lv_iload_n (pc := 14) hx hb dX7_edgeBetween_14 rfl (lv_at hl 2 rfl) ?_
    obtain ⟨v3, h_v3, h⟩ := ob h
    refine rdV (pc := 15) (As := [.int a1]) (rest := []) hx hb hml hown hts hG hP (c_Mod_isPoint l K ad (0 : Int32) mnow mold mols msav miss minp mlen mat medg mcor mtri mkep mkee mwor mnum mmet a1 h_v3) [0, 1, 2, 3, 4, 5, 6, 7, 8, 9, 10, 11] rfl (q0 := 0) rfl (ci := 7) rfl g_Mod_168 hd_Mod_isPoint rfl ⟨Nat.le_of_ble_eq_true rfl, Nat.le_of_ble_eq_true rfl⟩ ⟨Nat.zero_le _, Nat.zero_le _⟩ hl rfl (Nat.le_of_ble_eq_true rfl) dX7_edgeBetween_15 ?_
    refine lv_if_ne (tgt := 27) (pc := 18) hx hb dX7_edgeBetween_18 (by decide) (fun c4 => ?_) (fun c4 => ?_)
    · have h := it_f c4 h
      refine lv_aload_n (pc := 27) hx hb dX7_edgeBetween_27 rfl (lv_at hl 0 rfl) ?_
      obtain ⟨v5, h_v5, h⟩ := ob h
      refine wrVv (pc := 28) (As := []) (rest := []) (ws2 := wMod K ad (0 : Int32) mnow mold mols msav miss minp mlen mat v5.1 v5.2.1 v5.2.2 mkep mkee mwor mnum mmet) (as9 := [ad 0, ad 1, ad 2, ad 3, ad 4, ad 5, ad 6, ad 7, ad 8, ad 9, ad 10, ad 11]) hx hb hml hown hts hG hP hD hS (c_Mod_builds l K ad (0 : Int32) mnow mold mols msav miss minp mlen mat medg mcor mtri mkep mkee mwor mnum mmet F h_v5) [0, 1, 2, 3, 4, 5, 6, 7, 8, 9, 10, 11] rfl rfl rfl rfl [.inl 0, .inl 1, .inl 2, .inl 3, .inl 4, .inl 5, .inl 6, .inl 7, .inl 8, .inl 9, .inl 10, .inl 11] (by decide +kernel) rfl (q0 := 0) rfl (ci := 7) rfl g_Mod_210 hd_Mod_builds rfl ⟨Nat.le_of_ble_eq_true rfl, Nat.le_of_ble_eq_true rfl⟩ ⟨Nat.zero_le _, Nat.zero_le _⟩ hl rfl (Nat.le_of_ble_eq_true rfl) dX7_edgeBetween_28 (fun H locs hP hD hS => ?_)
      refine lv_aload_n (pc := 31) hx hb dX7_edgeBetween_31 rfl (lv_at hl 0 rfl) ?_
      refine lv_iload_n (pc := 32) hx hb dX7_edgeBetween_32 rfl (lv_at hl 1 rfl) ?_
      refine lv_iload_n (pc := 33) hx hb dX7_edgeBetween_33 rfl (lv_at hl 2 rfl) ?_
      obtain ⟨v6, h_v6, h⟩ := ob h
      refine rdV (pc := 34) (As := [.int a0, .int a1]) (rest := []) hx hb hml hown hts hG hP (c_Mod_numberOf l K ad (0 : Int32) mnow mold mols msav miss minp mlen mat v5.1 v5.2.1 v5.2.2 mkep mkee mwor mnum mmet a0 a1 F h_v6) [0, 1, 2, 3, 4, 5, 6, 7, 8, 9, 10, 11] rfl (q0 := 0) rfl (ci := 7) rfl g_Mod_228 hd_Mod_numberOf rfl ⟨Nat.le_of_ble_eq_true rfl, Nat.le_of_ble_eq_true rfl⟩ ⟨Nat.zero_le _, Nat.zero_le _⟩ hl rfl (Nat.le_of_ble_eq_true rfl) dX7_edgeBetween_34 ?_
      refine lv_istore_n (pc := 37) (lv' := [(3, .int v6), (0, .ref (ad 0)), (1, .int a0), (2, .int a1)]) hx hb dX7_edgeBetween_37 rfl hl (by decide) rfl (fun ls hl => ?_)
      refine lv_iload_n (pc := 38) hx hb dX7_edgeBetween_38 rfl (lv_at hl 0 rfl) ?_
      refine lv_if_ge (tgt := 50) (pc := 39) hx hb dX7_edgeBetween_39 (by decide) (fun c7 => ?_) (fun c7 => ?_)
      · have h := it_t c7 h
        refine lv_iload_n (pc := 50) hx hb dX7_edgeBetween_50 rfl (lv_at hl 0 rfl) ?_
        obtain rfl := Option.some.inj h
        exact W.iret hx hb hr (fun t ht hW => ⟨⟨rfl, by rw [ht]; exact hP⟩, hS.F ht⟩) hS.2.2 dX7_edgeBetween_51 hlk
      · have h := it_f c7 h
        refine lv_aload_n (pc := 42) hx hb dX7_edgeBetween_42 rfl (lv_at hl 1 rfl) ?_
        refine lv_iconst (v := (2 : Int32)) (pc := 43) hx hb dX7_edgeBetween_43 (by decide) ?_
        refine wrVi (pc := 44) (As := [.int (2 : Int32)]) (rest := []) (ws2 := wMod K ad ((s_Mod_raises (2 : Int32)).2) mnow mold mols msav miss minp mlen mat v5.1 v5.2.1 v5.2.2 mkep mkee mwor mnum mmet) (as9 := [ad 0, ad 1, ad 2, ad 3, ad 4, ad 5, ad 6, ad 7, ad 8, ad 9, ad 10, ad 11]) hx hb hml hown hts hG hP hD hS (c_Mod_raises l K ad (0 : Int32) mnow mold mols msav miss minp mlen mat v5.1 v5.2.1 v5.2.2 mkep mkee mwor mnum mmet (2 : Int32)) [0, 1, 2, 3, 4, 5, 6, 7, 8, 9, 10, 11] rfl rfl rfl rfl [.inl 0, .inl 1, .inl 2, .inl 3, .inl 4, .inl 5, .inl 6, .inl 7, .inl 8, .inl 9, .inl 10, .inl 11] (by decide +kernel) rfl (q0 := 0) rfl (ci := 7) rfl g_Mod_172 hd_Mod_raises rfl ⟨Nat.le_of_ble_eq_true rfl, Nat.le_of_ble_eq_true rfl⟩ ⟨Nat.zero_le _, Nat.zero_le _⟩ hl rfl (Nat.le_of_ble_eq_true rfl) dX7_edgeBetween_44 (fun H locs hP hD hS => ?_)
        refine lv_goto (tgt := 51) (pc := 47) hx hb dX7_edgeBetween_47 (by decide) ?_
        obtain rfl := Option.some.inj h
        exact W.iret hx hb hr (fun t ht hW => ⟨⟨rfl, by rw [ht]; exact hP⟩, hS.F ht⟩) hS.2.2 dX7_edgeBetween_51 hlk
    · have h := it_t c4 h
      refine lv_aload_n (pc := 21) hx hb dX7_edgeBetween_21 rfl (lv_at hl 0 rfl) ?_
      refine lv_iconst (v := (1 : Int32)) (pc := 22) hx hb dX7_edgeBetween_22 (by decide) ?_
      refine wrVi (pc := 23) (As := [.int (1 : Int32)]) (rest := []) (ws2 := wMod K ad ((s_Mod_raises (1 : Int32)).2) mnow mold mols msav miss minp mlen mat medg mcor mtri mkep mkee mwor mnum mmet) (as9 := [ad 0, ad 1, ad 2, ad 3, ad 4, ad 5, ad 6, ad 7, ad 8, ad 9, ad 10, ad 11]) hx hb hml hown hts hG hP hD hS (c_Mod_raises l K ad (0 : Int32) mnow mold mols msav miss minp mlen mat medg mcor mtri mkep mkee mwor mnum mmet (1 : Int32)) [0, 1, 2, 3, 4, 5, 6, 7, 8, 9, 10, 11] rfl rfl rfl rfl [.inl 0, .inl 1, .inl 2, .inl 3, .inl 4, .inl 5, .inl 6, .inl 7, .inl 8, .inl 9, .inl 10, .inl 11] (by decide +kernel) rfl (q0 := 0) rfl (ci := 7) rfl g_Mod_172 hd_Mod_raises rfl ⟨Nat.le_of_ble_eq_true rfl, Nat.le_of_ble_eq_true rfl⟩ ⟨Nat.zero_le _, Nat.zero_le _⟩ hl rfl (Nat.le_of_ble_eq_true rfl) dX7_edgeBetween_23 (fun H locs hP hD hS => ?_)
      obtain rfl := Option.some.inj h
      exact W.iret hx hb hr (fun t ht hW => ⟨⟨rfl, by rw [ht]; exact hP⟩, hS.F ht⟩) hS.2.2 dX7_edgeBetween_26 hlk
set_option maxHeartbeats 4000000 in
set_option maxRecDepth 100000 in
theorem l_Mod_degree_L27 {p : Program} {l : Launch} {e : Env} {s : State} {m : MethodId} {args : Array Value} {below : List Frame} {meth : Method} {c : Code} {Q : State → Prop} {K : KT} {A : Nat → Prop} (C0 : Ctx p m c cX7_degree 4 s args RX7 K meth (some .int)) (F : Nat) (ad : Nat → Nat) (mthr : Int32) (mnow : Nat → Int32) (mold : Nat → Int32) (mols : Int32) (msav : Nat → Int32) (miss : Bool) (minp : Nat → Int32) (mlen : Int32) (mat : Int32) (medg : Nat → Int32) (mcor : Nat → Int32) (mtri : Int32) (mkep : Nat → Int32) (mkee : Nat → Int32) (mwor : Nat → Int32) (mnum : Nat → Int32) (mmet : Nat → Int32) (x1 : Int32)  : ∀ (n : Nat) (x2 : Int32) (x3 : Int32) (out : Int32 × Int32), s_Mod_degree_L27 mnow medg x1 n x2 x3 = some out → ∀ (H : Heap) (locs : List Loc) (ls : Array Slot), va_P K.1 vC (wMod K ad mthr mnow mold mols msav miss minp mlen mat medg mcor mtri mkep mkee mwor mnum mmet) H → va_D A (wMod K ad mthr mnow mold mols msav miss minp mlen mat medg mcor mtri mkep mkee mwor mnum mmet) → va_S A s.heap H locs → lv_has ls 4 [(0, .ref (ad 0)), (1, .int x1), (2, .int x2), (3, .int x3)] → (∀ (o : Int32 × Int32) (H : Heap) (locs : List Loc) (ls : Array Slot), out = o → va_P K.1 vC (wMod K ad mthr mnow mold mols msav miss minp mlen mat medg mcor mtri mkep mkee mwor mnum mmet) H → va_D A (wMod K ad mthr mnow mold mols msav miss minp mlen mat medg mcor mtri mkep mkee mwor mnum mmet) → va_S A s.heap H locs → lv_has ls 4 [(0, .ref (ad 0)), (1, .int x1), (2, .int o.1), (3, .int o.2)] → W p l e (rmL 7) s m args below meth c H locs 0 0 Q (F0 m 53 ls [])) → W p l e (rmL 7) s m args below meth c H locs 0 0 Q (F0 m 27 ls []) := by
  obtain ⟨hx, hb, hml, hown, hts, hG, hr, hlk⟩ := id C0
  intro n
  induction n with
  | zero =>
    intro x2 x3 out h
    cases h
  | succ n ih =>
    intro x2 x3 out h H locs ls hP hD hS hl Kx 
    rw [s_Mod_degree_L27.eq_2] at h
    refine lv_iload_n (pc := 27) hx hb dX7_degree_27 rfl (lv_at hl 3 rfl) ?_
    refine lv_aload_n (pc := 28) hx hb dX7_degree_28 rfl (lv_at hl 0 rfl) ?_
    obtain ⟨v4, h_v4, h⟩ := ob h
    refine rdV (pc := 29) (As := []) (rest := [.int x3]) hx hb hml hown hts hG hP (c_Mod_n l K ad mthr mnow mold mols msav miss minp mlen mat medg mcor mtri mkep mkee mwor mnum mmet h_v4) [0, 1, 2, 3, 4, 5, 6, 7, 8, 9, 10, 11] rfl (q0 := 0) rfl (ci := 7) rfl g_Mod_48 hd_Mod_n rfl ⟨Nat.le_of_ble_eq_true rfl, Nat.le_of_ble_eq_true rfl⟩ ⟨Nat.zero_le _, Nat.zero_le _⟩ hl rfl (Nat.le_of_ble_eq_true rfl) dX7_degree_29 ?_
    refine lv_icmp_ge (tgt := 53) (pc := 32) hx hb dX7_degree_32 (by decide) (fun c5 => ?_) (fun c5 => ?_)
    · have h := it_t c5 h
      obtain rfl := Option.some.inj h
      exact Kx _ H locs ls rfl hP hD hS (lv_sub hl [0, 1, 2, 3] rfl)
    · have h := it_f c5 h
      refine lv_aload_n (pc := 35) hx hb dX7_degree_35 rfl (lv_at hl 0 rfl) ?_
      refine lv_iload_n (pc := 36) hx hb dX7_degree_36 rfl (lv_at hl 1 rfl) ?_
      refine lv_iload_n (pc := 37) hx hb dX7_degree_37 rfl (lv_at hl 3 rfl) ?_
      obtain ⟨v6, h_v6, h⟩ := ob h
      refine rdV (pc := 38) (As := [.int x1, .int x3]) (rest := []) hx hb hml hown hts hG hP (c_Mod_has l K ad mthr mnow mold mols msav miss minp mlen mat medg mcor mtri mkep mkee mwor mnum mmet x1 x3 h_v6) [0, 1, 2, 3, 4, 5, 6, 7, 8, 9, 10, 11] rfl (q0 := 0) rfl (ci := 7) rfl g_Mod_104 hd_Mod_has rfl ⟨Nat.le_of_ble_eq_true rfl, Nat.le_of_ble_eq_true rfl⟩ ⟨Nat.zero_le _, Nat.zero_le _⟩ hl rfl (Nat.le_of_ble_eq_true rfl) dX7_degree_38 ?_
      refine lv_if_eq (tgt := 47) (pc := 41) hx hb dX7_degree_41 (by decide) (fun c7 => ?_) (fun c7 => ?_)
      · have h := it_t c7 h
        refine lv_iinc (v := (x3 + (1 : Int32))) (pc := 47) (lv' := [(3, .int (x3 + (1 : Int32))), (0, .ref (ad 0)), (1, .int x1), (2, .int x2)]) hx hb dX7_degree_47 hl (k := 3) rfl rfl (by decide) rfl (fun ls hl => ?_)
        refine lv_goto (tgt := 27) (pc := 50) hx hb dX7_degree_50 (by decide) ?_
        exact ih x2 (x3 + (1 : Int32)) out h H locs ls hP hD hS (lv_sub hl [1, 2, 3, 0] rfl) Kx 
      · have h := it_f c7 h
        refine lv_iinc (v := (x2 + (1 : Int32))) (pc := 44) (lv' := [(2, .int (x2 + (1 : Int32))), (0, .ref (ad 0)), (1, .int x1), (3, .int x3)]) hx hb dX7_degree_44 hl (k := 2) rfl rfl (by decide) rfl (fun ls hl => ?_)
        refine lv_iinc (v := (x3 + (1 : Int32))) (pc := 47) (lv' := [(3, .int (x3 + (1 : Int32))), (2, .int (x2 + (1 : Int32))), (0, .ref (ad 0)), (1, .int x1)]) hx hb dX7_degree_47 hl (k := 3) rfl rfl (by decide) rfl (fun ls hl => ?_)
        refine lv_goto (tgt := 27) (pc := 50) hx hb dX7_degree_50 (by decide) ?_
        exact ih (x2 + (1 : Int32)) (x3 + (1 : Int32)) out h H locs ls hP hD hS (lv_sub hl [2, 3, 1, 0] rfl) Kx 
set_option maxHeartbeats 4000000 in
set_option maxRecDepth 100000 in
theorem c_Mod_degree (l : Launch) (K : KT) (ad : Nat → Nat) (mthr : Int32) (mnow : Nat → Int32) (mold : Nat → Int32) (mols : Int32) (msav : Nat → Int32) (miss : Bool) (minp : Nat → Int32) (mlen : Int32) (mat : Int32) (medg : Nat → Int32) (mcor : Nat → Int32) (mtri : Int32) (mkep : Nat → Int32) (mkee : Nat → Int32) (mwor : Nat → Int32) (mnum : Nat → Int32) (mmet : Nat → Int32) (a0 : Int32) (F : Nat) {o : Int32 × Int32 × (Nat → Int32) × (Nat → Int32) × Int32} (h : s_Mod_degree F mnow medg mcor mtri a0 = some o) : Wr l K 7 yX7_degree cX7_degree 4 (some .int) [.ref (ad 0), .int a0] (wMod K ad mthr mnow mold mols msav miss minp mlen mat medg mcor mtri mkep mkee mwor mnum mmet) (some (.int o.1)) (wMod K ad o.2.1 mnow mold mols msav miss minp mlen mat o.2.2.1 o.2.2.2.1 o.2.2.2.2 mkep mkee mwor mnum mmet) := by
  refine Wr.of (by decide +kernel) (Nat.le_of_ble_eq_true rfl) ?_
  unfold s_Mod_degree at h
  intro p e s m below meth c hx hb hr hml hown hts hlk H locs hP hG hD hS ls hl
  have C0 : Ctx p m c cX7_degree 4 s (Array.mk [.ref (ad 0), .int a0]) RX7 K meth (some .int) := ⟨hx, hb, hml, hown, hts, hG, hr, hlk⟩
  have hl : lv_has ls 4 [(0, .ref (ad 0)), (1, .int a0)] := hl
  refine lv_aload_n (pc := 0) hx hb dX7_degree_0 rfl (lv_at hl 0 rfl) ?_
  refine lv_iconst (v := (0 : Int32)) (pc := 1) hx hb dX7_degree_1 (by decide) ?_
  refine va_put (D := K.1) (ci := 7) (v := .int (0 : Int32)) (ty := .int) (C := RX7) (T := TX7) (N := 17) (pc := 2) hx hb hts inT7 tyX7 tyX7_ok nmX7 hown hG.1 hP hD hS 0 rfl rfl 0 (by decide) (hts _ qf_Mod_44) (fun _ h9 => h9) rfl (by decide +kernel) rfl rfl (Nat.le_of_ble_eq_true rfl) dX7_degree_2 (fun H locs hP hD hS => ?_)
  have hP : va_P K.1 vC (wMod K ad (0 : Int32) mnow mold mols msav miss minp mlen mat medg mcor mtri mkep mkee mwor mnum mmet) H := hP
  have hD : va_D _ (wMod K ad (0 : Int32) mnow mold mols msav miss minp mlen mat medg mcor mtri mkep mkee mwor mnum mmet) := hD
  refine lv_aload_n (pc := 5) hx hb dX7_degree_5 rfl (lv_at hl 0 rfl) ?_
  refine lv_iload_n (pc := 6) hx hb dX7_degree_6 rfl (lv_at hl 1 rfl) ?_
  obtain ⟨v1, h_v1, h⟩ := ob h
  refine rdV (pc := 7) (As := [.int a0]) (rest := []) hx hb hml hown hts hG hP (c_Mod_isPoint l K ad (0 : Int32) mnow mold mols msav miss minp mlen mat medg mcor mtri mkep mkee mwor mnum mmet a0 h_v1) [0, 1, 2, 3, 4, 5, 6, 7, 8, 9, 10, 11] rfl (q0 := 0) rfl (ci := 7) rfl g_Mod_168 hd_Mod_isPoint rfl ⟨Nat.le_of_ble_eq_true rfl, Nat.le_of_ble_eq_true rfl⟩ ⟨Nat.zero_le _, Nat.zero_le _⟩ hl rfl (Nat.le_of_ble_eq_true rfl) dX7_degree_7 ?_
  refine lv_if_ne (tgt := 19) (pc := 10) hx hb dX7_degree_10 (by decide) (fun c2 => ?_) (fun c2 => ?_)
  · have h := it_f c2 h
    refine lv_aload_n (pc := 19) hx hb dX7_degree_19 rfl (lv_at hl 0 rfl) ?_
    obtain ⟨v3, h_v3, h⟩ := ob h
    refine wrVv (pc := 20) (As := []) (rest := []) (ws2 := wMod K ad (0 : Int32) mnow mold mols msav miss minp mlen mat v3.1 v3.2.1 v3.2.2 mkep mkee mwor mnum mmet) (as9 := [ad 0, ad 1, ad 2, ad 3, ad 4, ad 5, ad 6, ad 7, ad 8, ad 9, ad 10, ad 11]) hx hb hml hown hts hG hP hD hS (c_Mod_builds l K ad (0 : Int32) mnow mold mols msav miss minp mlen mat medg mcor mtri mkep mkee mwor mnum mmet F h_v3) [0, 1, 2, 3, 4, 5, 6, 7, 8, 9, 10, 11] rfl rfl rfl rfl [.inl 0, .inl 1, .inl 2, .inl 3, .inl 4, .inl 5, .inl 6, .inl 7, .inl 8, .inl 9, .inl 10, .inl 11] (by decide +kernel) rfl (q0 := 0) rfl (ci := 7) rfl g_Mod_210 hd_Mod_builds rfl ⟨Nat.le_of_ble_eq_true rfl, Nat.le_of_ble_eq_true rfl⟩ ⟨Nat.zero_le _, Nat.zero_le _⟩ hl rfl (Nat.le_of_ble_eq_true rfl) dX7_degree_20 (fun H locs hP hD hS => ?_)
    refine lv_iconst (v := (0 : Int32)) (pc := 23) hx hb dX7_degree_23 (by decide) ?_
    refine lv_istore_n (pc := 24) (lv' := [(2, .int (0 : Int32)), (0, .ref (ad 0)), (1, .int a0)]) hx hb dX7_degree_24 rfl hl (by decide) rfl (fun ls hl => ?_)
    refine lv_iconst (v := (0 : Int32)) (pc := 25) hx hb dX7_degree_25 (by decide) ?_
    refine lv_istore_n (pc := 26) (lv' := [(3, .int (0 : Int32)), (2, .int (0 : Int32)), (0, .ref (ad 0)), (1, .int a0)]) hx hb dX7_degree_26 rfl hl (by decide) rfl (fun ls hl => ?_)
    obtain ⟨o8, h_o8, h⟩ := ob h
    refine l_Mod_degree_L27 C0 F ad (0 : Int32) mnow mold mols msav miss minp mlen mat v3.1 v3.2.1 v3.2.2 mkep mkee mwor mnum mmet a0 F (0 : Int32) (0 : Int32) _ h_o8 H locs ls hP hD hS (lv_sub hl [2, 3, 1, 0] rfl) (fun o8x H locs ls eo hP hD hS hl => ?_)
    subst o8
    refine lv_iload_n (pc := 53) hx hb dX7_degree_53 rfl (lv_at hl 2 rfl) ?_
    obtain rfl := Option.some.inj h
    exact W.iret hx hb hr (fun t ht hW => ⟨⟨rfl, by rw [ht]; exact hP⟩, hS.F ht⟩) hS.2.2 dX7_degree_54 hlk
  · have h := it_t c2 h
    refine lv_aload_n (pc := 13) hx hb dX7_degree_13 rfl (lv_at hl 0 rfl) ?_
    refine lv_iconst (v := (1 : Int32)) (pc := 14) hx hb dX7_degree_14 (by decide) ?_
    refine wrVi (pc := 15) (As := [.int (1 : Int32)]) (rest := []) (ws2 := wMod K ad ((s_Mod_raises (1 : Int32)).2) mnow mold mols msav miss minp mlen mat medg mcor mtri mkep mkee mwor mnum mmet) (as9 := [ad 0, ad 1, ad 2, ad 3, ad 4, ad 5, ad 6, ad 7, ad 8, ad 9, ad 10, ad 11]) hx hb hml hown hts hG hP hD hS (c_Mod_raises l K ad (0 : Int32) mnow mold mols msav miss minp mlen mat medg mcor mtri mkep mkee mwor mnum mmet (1 : Int32)) [0, 1, 2, 3, 4, 5, 6, 7, 8, 9, 10, 11] rfl rfl rfl rfl [.inl 0, .inl 1, .inl 2, .inl 3, .inl 4, .inl 5, .inl 6, .inl 7, .inl 8, .inl 9, .inl 10, .inl 11] (by decide +kernel) rfl (q0 := 0) rfl (ci := 7) rfl g_Mod_172 hd_Mod_raises rfl ⟨Nat.le_of_ble_eq_true rfl, Nat.le_of_ble_eq_true rfl⟩ ⟨Nat.zero_le _, Nat.zero_le _⟩ hl rfl (Nat.le_of_ble_eq_true rfl) dX7_degree_15 (fun H locs hP hD hS => ?_)
    obtain rfl := Option.some.inj h
    exact W.iret hx hb hr (fun t ht hW => ⟨⟨rfl, by rw [ht]; exact hP⟩, hS.F ht⟩) hS.2.2 dX7_degree_18 hlk
set_option maxHeartbeats 4000000 in
set_option maxRecDepth 100000 in
theorem l_Mod_neighbour_L28 {p : Program} {l : Launch} {e : Env} {s : State} {m : MethodId} {args : Array Value} {below : List Frame} {meth : Method} {c : Code} {Q : State → Prop} {K : KT} {A : Nat → Prop} (C0 : Ctx p m c cX7_neighbour 5 s args RX7 K meth (some .int)) (F : Nat) (ad : Nat → Nat) (mthr : Int32) (mnow : Nat → Int32) (mold : Nat → Int32) (mols : Int32) (msav : Nat → Int32) (miss : Bool) (minp : Nat → Int32) (mlen : Int32) (mat : Int32) (medg : Nat → Int32) (mcor : Nat → Int32) (mtri : Int32) (mkep : Nat → Int32) (mkee : Nat → Int32) (mwor : Nat → Int32) (mnum : Nat → Int32) (mmet : Nat → Int32) (x1 : Int32)  : ∀ (n : Nat) (x3 : Int32) (x4 : Int32) (out : (Int32 × Int32 × (Nat → Int32) × (Nat → Int32) × Int32) ⊕ (Int32 × Int32)), s_Mod_neighbour_L28 mthr mnow medg mcor mtri x1 n x3 x4 = some out → ∀ (H : Heap) (locs : List Loc) (ls : Array Slot), va_P K.1 vC (wMod K ad mthr mnow mold mols msav miss minp mlen mat medg mcor mtri mkep mkee mwor mnum mmet) H → va_D A (wMod K ad mthr mnow mold mols msav miss minp mlen mat medg mcor mtri mkep mkee mwor mnum mmet) → va_S A s.heap H locs → lv_has ls 5 [(0, .ref (ad 0)), (1, .int x1), (3, .int x3), (4, .int x4)] → (∀ (o : Int32 × Int32) (H : Heap) (locs : List Loc) (ls : Array Slot), out = .inr o → va_P K.1 vC (wMod K ad mthr mnow mold mols msav miss minp mlen mat medg mcor mtri mkep mkee mwor mnum mmet) H → va_D A (wMod K ad mthr mnow mold mols msav miss minp mlen mat medg mcor mtri mkep mkee mwor mnum mmet) → va_S A s.heap H locs → lv_has ls 5 [(0, .ref (ad 0)), (1, .int x1), (3, .int o.1), (4, .int o.2)] → W p l e (rmL 7) s m args below meth c H locs 0 0 Q (F0 m 66 ls [])) → (∀ (o : Int32 × Int32 × (Nat → Int32) × (Nat → Int32) × Int32) (H : Heap) (locs : List Loc) (pcR : Nat) (ls : Array Slot), out = .inl o → va_P K.1 vC (wMod K ad o.2.1 mnow mold mols msav miss minp mlen mat o.2.2.1 o.2.2.2.1 o.2.2.2.2 mkep mkee mwor mnum mmet) H → va_D A (wMod K ad o.2.1 mnow mold mols msav miss minp mlen mat o.2.2.1 o.2.2.2.1 o.2.2.2.2 mkep mkee mwor mnum mmet) → va_S A s.heap H locs → decode cX7_neighbour pcR = .ok (.ireturn, 1) → W p l e (rmL 7) s m args below meth c H locs 0 0 Q (F0 m pcR ls [.int o.1])) → W p l e (rmL 7) s m args below meth c H locs 0 0 Q (F0 m 28 ls []) := by
  obtain ⟨hx, hb, hml, hown, hts, hG, hr, hlk⟩ := id C0
  intro n
  induction n with
  | zero =>
    intro x3 x4 out h
    cases h
  | succ n ih =>
    intro x3 x4 out h H locs ls hP hD hS hl Kx Kr
    rw [s_Mod_neighbour_L28.eq_2] at h
    refine lv_iload (pc := 28) hx hb dX7_neighbour_28 (lv_at hl 3 rfl) ?_
    refine lv_aload_n (pc := 30) hx hb dX7_neighbour_30 rfl (lv_at hl 0 rfl) ?_
    obtain ⟨v4, h_v4, h⟩ := ob h
    refine rdV (pc := 31) (As := []) (rest := [.int x4]) hx hb hml hown hts hG hP (c_Mod_n l K ad mthr mnow mold mols msav miss minp mlen mat medg mcor mtri mkep mkee mwor mnum mmet h_v4) [0, 1, 2, 3, 4, 5, 6, 7, 8, 9, 10, 11] rfl (q0 := 0) rfl (ci := 7) rfl g_Mod_48 hd_Mod_n rfl ⟨Nat.le_of_ble_eq_true rfl, Nat.le_of_ble_eq_true rfl⟩ ⟨Nat.zero_le _, Nat.zero_le _⟩ hl rfl (Nat.le_of_ble_eq_true rfl) dX7_neighbour_31 ?_
    refine lv_icmp_ge (tgt := 66) (pc := 34) hx hb dX7_neighbour_34 (by decide) (fun c5 => ?_) (fun c5 => ?_)
    · have h := it_t c5 h
      obtain rfl := Option.some.inj h
      exact Kx _ H locs ls rfl hP hD hS (lv_sub hl [0, 1, 2, 3] rfl)
    · have h := it_f c5 h
      refine lv_aload_n (pc := 37) hx hb dX7_neighbour_37 rfl (lv_at hl 0 rfl) ?_
      refine lv_iload_n (pc := 38) hx hb dX7_neighbour_38 rfl (lv_at hl 1 rfl) ?_
      refine lv_iload (pc := 39) hx hb dX7_neighbour_39 (lv_at hl 3 rfl) ?_
      obtain ⟨v6, h_v6, h⟩ := ob h
      refine rdV (pc := 41) (As := [.int x1, .int x4]) (rest := []) hx hb hml hown hts hG hP (c_Mod_has l K ad mthr mnow mold mols msav miss minp mlen mat medg mcor mtri mkep mkee mwor mnum mmet x1 x4 h_v6) [0, 1, 2, 3, 4, 5, 6, 7, 8, 9, 10, 11] rfl (q0 := 0) rfl (ci := 7) rfl g_Mod_104 hd_Mod_has rfl ⟨Nat.le_of_ble_eq_true rfl, Nat.le_of_ble_eq_true rfl⟩ ⟨Nat.zero_le _, Nat.zero_le _⟩ hl rfl (Nat.le_of_ble_eq_true rfl) dX7_neighbour_41 ?_
      refine lv_if_ne (tgt := 50) (pc := 44) hx hb dX7_neighbour_44 (by decide) (fun c7 => ?_) (fun c7 => ?_)
      · have h := it_f c7 h
        refine lv_iload_n (pc := 50) hx hb dX7_neighbour_50 rfl (lv_at hl 2 rfl) ?_
        refine lv_if_ne (tgt := 57) (pc := 51) hx hb dX7_neighbour_51 (by decide) (fun c8 => ?_) (fun c8 => ?_)
        · have h := it_f c8 h
          refine lv_iinc (v := (x3 + (-1 : Int32))) (pc := 57) (lv' := [(3, .int (x3 + (-1 : Int32))), (0, .ref (ad 0)), (1, .int x1), (4, .int x4)]) hx hb dX7_neighbour_57 hl (k := 2) rfl rfl (by decide) rfl (fun ls hl => ?_)
          refine lv_iinc (v := (x4 + (1 : Int32))) (pc := 60) (lv' := [(4, .int (x4 + (1 : Int32))), (3, .int (x3 + (-1 : Int32))), (0, .ref (ad 0)), (1, .int x1)]) hx hb dX7_neighbour_60 hl (k := 3) rfl rfl (by decide) rfl (fun ls hl => ?_)
          refine lv_goto (tgt := 28) (pc := 63) hx hb dX7_neighbour_63 (by decide) ?_
          exact ih (x3 + (-1 : Int32)) (x4 + (1 : Int32)) out h H locs ls hP hD hS (lv_sub hl [2, 3, 1, 0] rfl) Kx Kr
        · have h := it_t c8 h
          refine lv_iload (pc := 54) hx hb dX7_neighbour_54 (lv_at hl 3 rfl) ?_
          obtain rfl := Option.some.inj h
          exact Kr _ _ _ _ _ rfl hP hD hS dX7_neighbour_56
      · have h := it_t c7 h
        refine lv_goto (tgt := 60) (pc := 47) hx hb dX7_neighbour_47 (by decide) ?_
        refine lv_iinc (v := (x4 + (1 : Int32))) (pc := 60) (lv' := [(4, .int (x4 + (1 : Int32))), (0, .ref (ad 0)), (1, .int x1), (3, .int x3)]) hx hb dX7_neighbour_60 hl (k := 3) rfl rfl (by decide) rfl (fun ls hl => ?_)
        refine lv_goto (tgt := 28) (pc := 63) hx hb dX7_neighbour_63 (by decide) ?_
        exact ih x3 (x4 + (1 : Int32)) out h H locs ls hP hD hS (lv_sub hl [1, 2, 3, 0] rfl) Kx Kr
set_option maxHeartbeats 4000000 in
set_option maxRecDepth 100000 in
theorem c_Mod_neighbour (l : Launch) (K : KT) (ad : Nat → Nat) (mthr : Int32) (mnow : Nat → Int32) (mold : Nat → Int32) (mols : Int32) (msav : Nat → Int32) (miss : Bool) (minp : Nat → Int32) (mlen : Int32) (mat : Int32) (medg : Nat → Int32) (mcor : Nat → Int32) (mtri : Int32) (mkep : Nat → Int32) (mkee : Nat → Int32) (mwor : Nat → Int32) (mnum : Nat → Int32) (mmet : Nat → Int32) (a0 : Int32) (a1 : Int32) (F : Nat) {o : Int32 × Int32 × (Nat → Int32) × (Nat → Int32) × Int32} (h : s_Mod_neighbour F mnow medg mcor mtri a0 a1 = some o) : Wr l K 7 yX7_neighbour cX7_neighbour 5 (some .int) [.ref (ad 0), .int a0, .int a1] (wMod K ad mthr mnow mold mols msav miss minp mlen mat medg mcor mtri mkep mkee mwor mnum mmet) (some (.int o.1)) (wMod K ad o.2.1 mnow mold mols msav miss minp mlen mat o.2.2.1 o.2.2.2.1 o.2.2.2.2 mkep mkee mwor mnum mmet) := by
  refine Wr.of (by decide +kernel) (Nat.le_of_ble_eq_true rfl) ?_
  unfold s_Mod_neighbour at h
  intro p e s m below meth c hx hb hr hml hown hts hlk H locs hP hG hD hS ls hl
  have C0 : Ctx p m c cX7_neighbour 5 s (Array.mk [.ref (ad 0), .int a0, .int a1]) RX7 K meth (some .int) := ⟨hx, hb, hml, hown, hts, hG, hr, hlk⟩
  have hl : lv_has ls 5 [(0, .ref (ad 0)), (1, .int a0), (2, .int a1)] := hl
  refine lv_aload_n (pc := 0) hx hb dX7_neighbour_0 rfl (lv_at hl 0 rfl) ?_
  refine lv_iconst (v := (0 : Int32)) (pc := 1) hx hb dX7_neighbour_1 (by decide) ?_
  refine va_put (D := K.1) (ci := 7) (v := .int (0 : Int32)) (ty := .int) (C := RX7) (T := TX7) (N := 17) (pc := 2) hx hb hts inT7 tyX7 tyX7_ok nmX7 hown hG.1 hP hD hS 0 rfl rfl 0 (by decide) (hts _ qf_Mod_44) (fun _ h9 => h9) rfl (by decide +kernel) rfl rfl (Nat.le_of_ble_eq_true rfl) dX7_neighbour_2 (fun H locs hP hD hS => ?_)
  have hP : va_P K.1 vC (wMod K ad (0 : Int32) mnow mold mols msav miss minp mlen mat medg mcor mtri mkep mkee mwor mnum mmet) H := hP
  have hD : va_D _ (wMod K ad (0 : Int32) mnow mold mols msav miss minp mlen mat medg mcor mtri mkep mkee mwor mnum mmet) := hD
  refine lv_aload_n (pc := 5) hx hb dX7_neighbour_5 rfl (lv_at hl 0 rfl) ?_
  refine lv_iload_n (pc := 6) hx hb dX7_neighbour_6 rfl (lv_at hl 1 rfl) ?_
  obtain ⟨v1, h_v1, h⟩ := ob h
  refine rdV (pc := 7) (As := [.int a0]) (rest := []) hx hb hml hown hts hG hP (c_Mod_isPoint l K ad (0 : Int32) mnow mold mols msav miss minp mlen mat medg mcor mtri mkep mkee mwor mnum mmet a0 h_v1) [0, 1, 2, 3, 4, 5, 6, 7, 8, 9, 10, 11] rfl (q0 := 0) rfl (ci := 7) rfl g_Mod_168 hd_Mod_isPoint rfl ⟨Nat.le_of_ble_eq_true rfl, Nat.le_of_ble_eq_true rfl⟩ ⟨Nat.zero_le _, Nat.zero_le _⟩ hl rfl (Nat.le_of_ble_eq_true rfl) dX7_neighbour_7 ?_
  refine lv_if_ne (tgt := 19) (pc := 10) hx hb dX7_neighbour_10 (by decide) (fun c2 => ?_) (fun c2 => ?_)
  · have h := it_f c2 h
    refine lv_aload_n (pc := 19) hx hb dX7_neighbour_19 rfl (lv_at hl 0 rfl) ?_
    obtain ⟨v3, h_v3, h⟩ := ob h
    refine wrVv (pc := 20) (As := []) (rest := []) (ws2 := wMod K ad (0 : Int32) mnow mold mols msav miss minp mlen mat v3.1 v3.2.1 v3.2.2 mkep mkee mwor mnum mmet) (as9 := [ad 0, ad 1, ad 2, ad 3, ad 4, ad 5, ad 6, ad 7, ad 8, ad 9, ad 10, ad 11]) hx hb hml hown hts hG hP hD hS (c_Mod_builds l K ad (0 : Int32) mnow mold mols msav miss minp mlen mat medg mcor mtri mkep mkee mwor mnum mmet F h_v3) [0, 1, 2, 3, 4, 5, 6, 7, 8, 9, 10, 11] rfl rfl rfl rfl [.inl 0, .inl 1, .inl 2, .inl 3, .inl 4, .inl 5, .inl 6, .inl 7, .inl 8, .inl 9, .inl 10, .inl 11] (by decide +kernel) rfl (q0 := 0) rfl (ci := 7) rfl g_Mod_210 hd_Mod_builds rfl ⟨Nat.le_of_ble_eq_true rfl, Nat.le_of_ble_eq_true rfl⟩ ⟨Nat.zero_le _, Nat.zero_le _⟩ hl rfl (Nat.le_of_ble_eq_true rfl) dX7_neighbour_20 (fun H locs hP hD hS => ?_)
    refine lv_iload_n (pc := 23) hx hb dX7_neighbour_23 rfl (lv_at hl 2 rfl) ?_
    refine lv_istore_n (pc := 24) (lv' := [(3, .int a1), (0, .ref (ad 0)), (1, .int a0), (2, .int a1)]) hx hb dX7_neighbour_24 rfl hl (by decide) rfl (fun ls hl => ?_)
    refine lv_iconst (v := (0 : Int32)) (pc := 25) hx hb dX7_neighbour_25 (by decide) ?_
    refine lv_istore (pc := 26) (lv' := [(4, .int (0 : Int32)), (3, .int a1), (0, .ref (ad 0)), (1, .int a0), (2, .int a1)]) hx hb dX7_neighbour_26 hl (by decide) rfl (fun ls hl => ?_)
    obtain ⟨o9, h_o9, h⟩ := ob h
    refine l_Mod_neighbour_L28 C0 F ad (0 : Int32) mnow mold mols msav miss minp mlen mat v3.1 v3.2.1 v3.2.2 mkep mkee mwor mnum mmet a0 F a1 (0 : Int32) _ h_o9 H locs ls hP hD hS (lv_sub hl [2, 3, 1, 0] rfl) (fun o9x H locs ls eo hP hD hS hl => ?_) (fun q_o H locs pcR ls eo hP hD hS hdR => ?_)
    · subst o9
      have h := se_r h
      refine lv_aload_n (pc := 66) hx hb dX7_neighbour_66 rfl (lv_at hl 0 rfl) ?_
      refine lv_iconst (v := (2 : Int32)) (pc := 67) hx hb dX7_neighbour_67 (by decide) ?_
      refine wrVi (pc := 68) (As := [.int (2 : Int32)]) (rest := []) (ws2 := wMod K ad ((s_Mod_raises (2 : Int32)).2) mnow mold mols msav miss minp mlen mat v3.1 v3.2.1 v3.2.2 mkep mkee mwor mnum mmet) (as9 := [ad 0, ad 1, ad 2, ad 3, ad 4, ad 5, ad 6, ad 7, ad 8, ad 9, ad 10, ad 11]) hx hb hml hown hts hG hP hD hS (c_Mod_raises l K ad (0 : Int32) mnow mold mols msav miss minp mlen mat v3.1 v3.2.1 v3.2.2 mkep mkee mwor mnum mmet (2 : Int32)) [0, 1, 2, 3, 4, 5, 6, 7, 8, 9, 10, 11] rfl rfl rfl rfl [.inl 0, .inl 1, .inl 2, .inl 3, .inl 4, .inl 5, .inl 6, .inl 7, .inl 8, .inl 9, .inl 10, .inl 11] (by decide +kernel) rfl (q0 := 0) rfl (ci := 7) rfl g_Mod_172 hd_Mod_raises rfl ⟨Nat.le_of_ble_eq_true rfl, Nat.le_of_ble_eq_true rfl⟩ ⟨Nat.zero_le _, Nat.zero_le _⟩ hl rfl (Nat.le_of_ble_eq_true rfl) dX7_neighbour_68 (fun H locs hP hD hS => ?_)
      obtain rfl := Option.some.inj h
      exact W.iret hx hb hr (fun t ht hW => ⟨⟨rfl, by rw [ht]; exact hP⟩, hS.F ht⟩) hS.2.2 dX7_neighbour_71 hlk
    · subst o9
      have h := se_l h
      obtain rfl := Option.some.inj h
      exact W.iret hx hb hr (fun t ht hW => ⟨⟨rfl, by rw [ht]; exact hP⟩, hS.F ht⟩) hS.2.2 hdR hlk
  · have h := it_t c2 h
    refine lv_aload_n (pc := 13) hx hb dX7_neighbour_13 rfl (lv_at hl 0 rfl) ?_
    refine lv_iconst (v := (1 : Int32)) (pc := 14) hx hb dX7_neighbour_14 (by decide) ?_
    refine wrVi (pc := 15) (As := [.int (1 : Int32)]) (rest := []) (ws2 := wMod K ad ((s_Mod_raises (1 : Int32)).2) mnow mold mols msav miss minp mlen mat medg mcor mtri mkep mkee mwor mnum mmet) (as9 := [ad 0, ad 1, ad 2, ad 3, ad 4, ad 5, ad 6, ad 7, ad 8, ad 9, ad 10, ad 11]) hx hb hml hown hts hG hP hD hS (c_Mod_raises l K ad (0 : Int32) mnow mold mols msav miss minp mlen mat medg mcor mtri mkep mkee mwor mnum mmet (1 : Int32)) [0, 1, 2, 3, 4, 5, 6, 7, 8, 9, 10, 11] rfl rfl rfl rfl [.inl 0, .inl 1, .inl 2, .inl 3, .inl 4, .inl 5, .inl 6, .inl 7, .inl 8, .inl 9, .inl 10, .inl 11] (by decide +kernel) rfl (q0 := 0) rfl (ci := 7) rfl g_Mod_172 hd_Mod_raises rfl ⟨Nat.le_of_ble_eq_true rfl, Nat.le_of_ble_eq_true rfl⟩ ⟨Nat.zero_le _, Nat.zero_le _⟩ hl rfl (Nat.le_of_ble_eq_true rfl) dX7_neighbour_15 (fun H locs hP hD hS => ?_)
    obtain rfl := Option.some.inj h
    exact W.iret hx hb hr (fun t ht hW => ⟨⟨rfl, by rw [ht]; exact hP⟩, hS.F ht⟩) hS.2.2 dX7_neighbour_18 hlk
set_option maxHeartbeats 4000000 in
set_option maxRecDepth 100000 in
theorem l_Mod_hullNext_L2 {p : Program} {l : Launch} {e : Env} {s : State} {m : MethodId} {args : Array Value} {below : List Frame} {meth : Method} {c : Code} {Q : State → Prop} {K : KT} (C0 : Ctx p m c cX7_hullNext 3 s args RX7 K meth (some .int)) (F : Nat) (ad : Nat → Nat) (mthr : Int32) (mnow : Nat → Int32) (mold : Nat → Int32) (mols : Int32) (msav : Nat → Int32) (miss : Bool) (minp : Nat → Int32) (mlen : Int32) (mat : Int32) (medg : Nat → Int32) (mcor : Nat → Int32) (mtri : Int32) (mkep : Nat → Int32) (mkee : Nat → Int32) (mwor : Nat → Int32) (mnum : Nat → Int32) (mmet : Nat → Int32) (x1 : Int32) (hP : va_P K.1 vC (wMod K ad mthr mnow mold mols msav miss minp mlen mat medg mcor mtri mkep mkee mwor mnum mmet) s.heap) : ∀ (n : Nat) (x2 : Int32) (out : (Int32) ⊕ (Int32)), s_Mod_hullNext_L2 F mnow medg x1 n x2 = some out → ∀ (ls : Array Slot), lv_has ls 3 [(0, .ref (ad 0)), (1, .int x1), (2, .int x2)] → (∀ (o : Int32) (ls : Array Slot), out = .inr o → lv_has ls 3 [(0, .ref (ad 0)), (1, .int x1), (2, .int o)] → W p l e (rmL 5) s m args below meth c s.heap [] 0 0 Q (F0 m 45 ls [])) → (∀ (o : Int32) (pcR : Nat) (ls : Array Slot), out = .inl o → decode cX7_hullNext pcR = .ok (.ireturn, 1) → W p l e (rmL 5) s m args below meth c s.heap [] 0 0 Q (F0 m pcR ls [.int o])) → W p l e (rmL 5) s m args below meth c s.heap [] 0 0 Q (F0 m 2 ls []) := by
  obtain ⟨hx, hb, hml, hown, hts, hG, hr, hlk⟩ := id C0
  intro n
  induction n with
  | zero =>
    intro x2 out h
    cases h
  | succ n ih =>
    intro x2 out h ls hl Kx Kr
    rw [s_Mod_hullNext_L2.eq_2] at h
    refine lv_iload_n (pc := 2) hx hb dX7_hullNext_2 rfl (lv_at hl 2 rfl) ?_
    refine lv_aload_n (pc := 3) hx hb dX7_hullNext_3 rfl (lv_at hl 0 rfl) ?_
    obtain ⟨v1, h_v1, h⟩ := ob h
    refine rdV (pc := 4) (As := []) (rest := [.int x2]) hx hb hml hown hts hG hP (c_Mod_n l K ad mthr mnow mold mols msav miss minp mlen mat medg mcor mtri mkep mkee mwor mnum mmet h_v1) [0, 1, 2, 3, 4, 5, 6, 7, 8, 9, 10, 11] rfl (q0 := 0) rfl (ci := 7) rfl g_Mod_48 hd_Mod_n rfl ⟨Nat.le_of_ble_eq_true rfl, Nat.le_of_ble_eq_true rfl⟩ ⟨Nat.zero_le _, Nat.zero_le _⟩ hl rfl (Nat.le_of_ble_eq_true rfl) dX7_hullNext_4 ?_
    refine lv_icmp_ge (tgt := 45) (pc := 7) hx hb dX7_hullNext_7 (by decide) (fun c2 => ?_) (fun c2 => ?_)
    · have h := it_t c2 h
      obtain rfl := Option.some.inj h
      exact Kx _ ls rfl (lv_sub hl [0, 1, 2] rfl)
    · have h := it_f c2 h
      refine lv_aload_n (pc := 10) hx hb dX7_hullNext_10 rfl (lv_at hl 0 rfl) ?_
      refine lv_iload_n (pc := 11) hx hb dX7_hullNext_11 rfl (lv_at hl 1 rfl) ?_
      refine lv_iload_n (pc := 12) hx hb dX7_hullNext_12 rfl (lv_at hl 2 rfl) ?_
      obtain ⟨v3, h_v3, h⟩ := ob h
      refine rdV (pc := 13) (As := [.int x1, .int x2]) (rest := []) hx hb hml hown hts hG hP (c_Mod_has l K ad mthr mnow mold mols msav miss minp mlen mat medg mcor mtri mkep mkee mwor mnum mmet x1 x2 h_v3) [0, 1, 2, 3, 4, 5, 6, 7, 8, 9, 10, 11] rfl (q0 := 0) rfl (ci := 7) rfl g_Mod_104 hd_Mod_has rfl ⟨Nat.le_of_ble_eq_true rfl, Nat.le_of_ble_eq_true rfl⟩ ⟨Nat.zero_le _, Nat.zero_le _⟩ hl rfl (Nat.le_of_ble_eq_true rfl) dX7_hullNext_13 ?_
      refine lv_if_eq (tgt := 39) (pc := 16) hx hb dX7_hullNext_16 (by decide) (fun c4 => ?_) (fun c4 => ?_)
      · have h := it_t c4 h
        refine lv_iinc (v := (x2 + (1 : Int32))) (pc := 39) (lv' := [(2, .int (x2 + (1 : Int32))), (0, .ref (ad 0)), (1, .int x1)]) hx hb dX7_hullNext_39 hl (k := 2) rfl rfl (by decide) rfl (fun ls hl => ?_)
        refine lv_goto (tgt := 2) (pc := 42) hx hb dX7_hullNext_42 (by decide) ?_
        exact ih (x2 + (1 : Int32)) out h ls (lv_sub hl [1, 2, 0] rfl) Kx Kr
      · have h := it_f c4 h
        refine lv_aload_n (pc := 19) hx hb dX7_hullNext_19 rfl (lv_at hl 0 rfl) ?_
        refine lv_iload_n (pc := 20) hx hb dX7_hullNext_20 rfl (lv_at hl 1 rfl) ?_
        refine lv_iload_n (pc := 21) hx hb dX7_hullNext_21 rfl (lv_at hl 2 rfl) ?_
        obtain ⟨v5, h_v5, h⟩ := ob h
        refine rdV (pc := 22) (As := [.int x1, .int x2]) (rest := []) hx hb hml hown hts hG hP (c_Mod_apex l K ad mthr mnow mold mols msav miss minp mlen mat medg mcor mtri mkep mkee mwor mnum mmet x1 x2 F h_v5) [0, 1, 2, 3, 4, 5, 6, 7, 8, 9, 10, 11] rfl (q0 := 0) rfl (ci := 7) rfl g_Mod_141 hd_Mod_apex rfl ⟨Nat.le_of_ble_eq_true rfl, Nat.le_of_ble_eq_true rfl⟩ ⟨Nat.zero_le _, Nat.zero_le _⟩ hl rfl (Nat.le_of_ble_eq_true rfl) dX7_hullNext_22 ?_
        refine lv_if_lt (tgt := 39) (pc := 25) hx hb dX7_hullNext_25 (by decide) (fun c6 => ?_) (fun c6 => ?_)
        · have h := it_t c6 h
          refine lv_iinc (v := (x2 + (1 : Int32))) (pc := 39) (lv' := [(2, .int (x2 + (1 : Int32))), (0, .ref (ad 0)), (1, .int x1)]) hx hb dX7_hullNext_39 hl (k := 2) rfl rfl (by decide) rfl (fun ls hl => ?_)
          refine lv_goto (tgt := 2) (pc := 42) hx hb dX7_hullNext_42 (by decide) ?_
          exact ih (x2 + (1 : Int32)) out h ls (lv_sub hl [1, 2, 0] rfl) Kx Kr
        · have h := it_f c6 h
          refine lv_aload_n (pc := 28) hx hb dX7_hullNext_28 rfl (lv_at hl 0 rfl) ?_
          refine lv_iload_n (pc := 29) hx hb dX7_hullNext_29 rfl (lv_at hl 2 rfl) ?_
          refine lv_iload_n (pc := 30) hx hb dX7_hullNext_30 rfl (lv_at hl 1 rfl) ?_
          obtain ⟨v7, h_v7, h⟩ := ob h
          refine rdV (pc := 31) (As := [.int x2, .int x1]) (rest := []) hx hb hml hown hts hG hP (c_Mod_apex l K ad mthr mnow mold mols msav miss minp mlen mat medg mcor mtri mkep mkee mwor mnum mmet x2 x1 F h_v7) [0, 1, 2, 3, 4, 5, 6, 7, 8, 9, 10, 11] rfl (q0 := 0) rfl (ci := 7) rfl g_Mod_141 hd_Mod_apex rfl ⟨Nat.le_of_ble_eq_true rfl, Nat.le_of_ble_eq_true rfl⟩ ⟨Nat.zero_le _, Nat.zero_le _⟩ hl rfl (Nat.le_of_ble_eq_true rfl) dX7_hullNext_31 ?_
          refine lv_if_ge (tgt := 39) (pc := 34) hx hb dX7_hullNext_34 (by decide) (fun c8 => ?_) (fun c8 => ?_)
          · have h := it_t c8 h
            refine lv_iinc (v := (x2 + (1 : Int32))) (pc := 39) (lv' := [(2, .int (x2 + (1 : Int32))), (0, .ref (ad 0)), (1, .int x1)]) hx hb dX7_hullNext_39 hl (k := 2) rfl rfl (by decide) rfl (fun ls hl => ?_)
            refine lv_goto (tgt := 2) (pc := 42) hx hb dX7_hullNext_42 (by decide) ?_
            exact ih (x2 + (1 : Int32)) out h ls (lv_sub hl [1, 2, 0] rfl) Kx Kr
          · have h := it_f c8 h
            refine lv_iload_n (pc := 37) hx hb dX7_hullNext_37 rfl (lv_at hl 2 rfl) ?_
            obtain rfl := Option.some.inj h
            exact Kr _ _ _ rfl dX7_hullNext_38
set_option maxHeartbeats 4000000 in
set_option maxRecDepth 100000 in
theorem c_Mod_hullNext (l : Launch) (K : KT) (ad : Nat → Nat) (mthr : Int32) (mnow : Nat → Int32) (mold : Nat → Int32) (mols : Int32) (msav : Nat → Int32) (miss : Bool) (minp : Nat → Int32) (mlen : Int32) (mat : Int32) (medg : Nat → Int32) (mcor : Nat → Int32) (mtri : Int32) (mkep : Nat → Int32) (mkee : Nat → Int32) (mwor : Nat → Int32) (mnum : Nat → Int32) (mmet : Nat → Int32) (a0 : Int32) (F : Nat) {o : Int32} (h : s_Mod_hullNext F mnow medg a0 = some o) : Rd l K 5 yX7_hullNext cX7_hullNext 3 .int [.ref (ad 0), .int a0] (wMod K ad mthr mnow mold mols msav miss minp mlen mat medg mcor mtri mkep mkee mwor mnum mmet) o := by
  refine Rd.of (by decide +kernel) (Nat.le_of_ble_eq_true rfl) ?_
  unfold s_Mod_hullNext at h
  intro p e s m below meth c hx hb hr hml hown hts hlk hP hG ls hl
  have C0 : Ctx p m c cX7_hullNext 3 s (Array.mk [.ref (ad 0), .int a0]) RX7 K meth (some .int) := ⟨hx, hb, hml, hown, hts, hG, hr, hlk⟩
  have hl : lv_has ls 3 [(0, .ref (ad 0)), (1, .int a0)] := hl
  refine lv_iconst (v := (0 : Int32)) (pc := 0) hx hb dX7_hullNext_0 (by decide) ?_
  refine lv_istore_n (pc := 1) (lv' := [(2, .int (0 : Int32)), (0, .ref (ad 0)), (1, .int a0)]) hx hb dX7_hullNext_1 rfl hl (by decide) rfl (fun ls hl => ?_)
  obtain ⟨o9, h_o9, h⟩ := ob h
  refine l_Mod_hullNext_L2 C0 F ad mthr mnow mold mols msav miss minp mlen mat medg mcor mtri mkep mkee mwor mnum mmet a0 hP F (0 : Int32) _ h_o9 ls (lv_sub hl [1, 2, 0] rfl) (fun o9x ls eo hl => ?_) (fun q_o pcR ls eo hdR => ?_)
  · subst o9
    have h := se_r h
    refine lv_iconst (v := (-1 : Int32)) (pc := 45) hx hb dX7_hullNext_45 (by decide) ?_
    obtain rfl := Option.some.inj h
    exact W.iret hx hb hr (fun t ht hW => ⟨rfl, ht⟩) (fun q hq => absurd hq List.not_mem_nil) dX7_hullNext_46 hlk
  · subst o9
    have h := se_l h
    obtain rfl := Option.some.inj h
    exact W.iret hx hb hr (fun t ht hW => ⟨rfl, ht⟩) (fun q hq => absurd hq List.not_mem_nil) hdR hlk
set_option maxHeartbeats 4000000 in
set_option maxRecDepth 100000 in
theorem l_Mod_hullEdges_L4 {p : Program} {l : Launch} {e : Env} {s : State} {m : MethodId} {args : Array Value} {below : List Frame} {meth : Method} {c : Code} {Q : State → Prop} {K : KT} (C0 : Ctx p m c cX7_hullEdges 3 s args RX7 K meth (some .int)) (F : Nat) (ad : Nat → Nat) (mthr : Int32) (mnow : Nat → Int32) (mold : Nat → Int32) (mols : Int32) (msav : Nat → Int32) (miss : Bool) (minp : Nat → Int32) (mlen : Int32) (mat : Int32) (medg : Nat → Int32) (mcor : Nat → Int32) (mtri : Int32) (mkep : Nat → Int32) (mkee : Nat → Int32) (mwor : Nat → Int32) (mnum : Nat → Int32) (mmet : Nat → Int32) (hP : va_P K.1 vC (wMod K ad mthr mnow mold mols msav miss minp mlen mat medg mcor mtri mkep mkee mwor mnum mmet) s.heap) : ∀ (n : Nat) (x1 : Int32) (x2 : Int32) (out : Int32 × Int32), s_Mod_hullEdges_L4 F mnow medg n x1 x2 = some out → ∀ (ls : Array Slot), lv_has ls 3 [(0, .ref (ad 0)), (1, .int x1), (2, .int x2)] → (∀ (o : Int32 × Int32) (ls : Array Slot), out = o → lv_has ls 3 [(0, .ref (ad 0)), (1, .int o.1), (2, .int o.2)] → W p l e (rmL 6) s m args below meth c s.heap [] 0 0 Q (F0 m 29 ls [])) → W p l e (rmL 6) s m args below meth c s.heap [] 0 0 Q (F0 m 4 ls []) := by
  obtain ⟨hx, hb, hml, hown, hts, hG, hr, hlk⟩ := id C0
  intro n
  induction n with
  | zero =>
    intro x1 x2 out h
    cases h
  | succ n ih =>
    intro x1 x2 out h ls hl Kx 
    rw [s_Mod_hullEdges_L4.eq_2] at h
    refine lv_iload_n (pc := 4) hx hb dX7_hullEdges_4 rfl (lv_at hl 2 rfl) ?_
    refine lv_aload_n (pc := 5) hx hb dX7_hullEdges_5 rfl (lv_at hl 0 rfl) ?_
    obtain ⟨v1, h_v1, h⟩ := ob h
    refine rdV (pc := 6) (As := []) (rest := [.int x2]) hx hb hml hown hts hG hP (c_Mod_n l K ad mthr mnow mold mols msav miss minp mlen mat medg mcor mtri mkep mkee mwor mnum mmet h_v1) [0, 1, 2, 3, 4, 5, 6, 7, 8, 9, 10, 11] rfl (q0 := 0) rfl (ci := 7) rfl g_Mod_48 hd_Mod_n rfl ⟨Nat.le_of_ble_eq_true rfl, Nat.le_of_ble_eq_true rfl⟩ ⟨Nat.zero_le _, Nat.zero_le _⟩ hl rfl (Nat.le_of_ble_eq_true rfl) dX7_hullEdges_6 ?_
    refine lv_icmp_ge (tgt := 29) (pc := 9) hx hb dX7_hullEdges_9 (by decide) (fun c2 => ?_) (fun c2 => ?_)
    · have h := it_t c2 h
      obtain rfl := Option.some.inj h
      exact Kx _ ls rfl (lv_sub hl [0, 1, 2] rfl)
    · have h := it_f c2 h
      refine lv_aload_n (pc := 12) hx hb dX7_hullEdges_12 rfl (lv_at hl 0 rfl) ?_
      refine lv_iload_n (pc := 13) hx hb dX7_hullEdges_13 rfl (lv_at hl 2 rfl) ?_
      obtain ⟨v3, h_v3, h⟩ := ob h
      refine rdV (pc := 14) (As := [.int x2]) (rest := []) hx hb hml hown hts hG hP (c_Mod_hullNext l K ad mthr mnow mold mols msav miss minp mlen mat medg mcor mtri mkep mkee mwor mnum mmet x2 F h_v3) [0, 1, 2, 3, 4, 5, 6, 7, 8, 9, 10, 11] rfl (q0 := 0) rfl (ci := 7) rfl g_Mod_231 hd_Mod_hullNext rfl ⟨Nat.le_of_ble_eq_true rfl, Nat.le_of_ble_eq_true rfl⟩ ⟨Nat.zero_le _, Nat.zero_le _⟩ hl rfl (Nat.le_of_ble_eq_true rfl) dX7_hullEdges_14 ?_
      refine lv_if_lt (tgt := 23) (pc := 17) hx hb dX7_hullEdges_17 (by decide) (fun c4 => ?_) (fun c4 => ?_)
      · have h := it_t c4 h
        refine lv_iinc (v := (x2 + (1 : Int32))) (pc := 23) (lv' := [(2, .int (x2 + (1 : Int32))), (0, .ref (ad 0)), (1, .int x1)]) hx hb dX7_hullEdges_23 hl (k := 2) rfl rfl (by decide) rfl (fun ls hl => ?_)
        refine lv_goto (tgt := 4) (pc := 26) hx hb dX7_hullEdges_26 (by decide) ?_
        exact ih x1 (x2 + (1 : Int32)) out h ls (lv_sub hl [1, 2, 0] rfl) Kx 
      · have h := it_f c4 h
        refine lv_iinc (v := (x1 + (1 : Int32))) (pc := 20) (lv' := [(1, .int (x1 + (1 : Int32))), (0, .ref (ad 0)), (2, .int x2)]) hx hb dX7_hullEdges_20 hl (k := 1) rfl rfl (by decide) rfl (fun ls hl => ?_)
        refine lv_iinc (v := (x2 + (1 : Int32))) (pc := 23) (lv' := [(2, .int (x2 + (1 : Int32))), (1, .int (x1 + (1 : Int32))), (0, .ref (ad 0))]) hx hb dX7_hullEdges_23 hl (k := 2) rfl rfl (by decide) rfl (fun ls hl => ?_)
        refine lv_goto (tgt := 4) (pc := 26) hx hb dX7_hullEdges_26 (by decide) ?_
        exact ih (x1 + (1 : Int32)) (x2 + (1 : Int32)) out h ls (lv_sub hl [2, 1, 0] rfl) Kx 
set_option maxHeartbeats 4000000 in
set_option maxRecDepth 100000 in
theorem c_Mod_hullEdges (l : Launch) (K : KT) (ad : Nat → Nat) (mthr : Int32) (mnow : Nat → Int32) (mold : Nat → Int32) (mols : Int32) (msav : Nat → Int32) (miss : Bool) (minp : Nat → Int32) (mlen : Int32) (mat : Int32) (medg : Nat → Int32) (mcor : Nat → Int32) (mtri : Int32) (mkep : Nat → Int32) (mkee : Nat → Int32) (mwor : Nat → Int32) (mnum : Nat → Int32) (mmet : Nat → Int32) (F : Nat) {o : Int32} (h : s_Mod_hullEdges F mnow medg = some o) : Rd l K 6 yX7_hullEdges cX7_hullEdges 3 .int [.ref (ad 0)] (wMod K ad mthr mnow mold mols msav miss minp mlen mat medg mcor mtri mkep mkee mwor mnum mmet) o := by
  refine Rd.of (by decide +kernel) (Nat.le_of_ble_eq_true rfl) ?_
  unfold s_Mod_hullEdges at h
  intro p e s m below meth c hx hb hr hml hown hts hlk hP hG ls hl
  have C0 : Ctx p m c cX7_hullEdges 3 s (Array.mk [.ref (ad 0)]) RX7 K meth (some .int) := ⟨hx, hb, hml, hown, hts, hG, hr, hlk⟩
  have hl : lv_has ls 3 [(0, .ref (ad 0))] := hl
  refine lv_iconst (v := (0 : Int32)) (pc := 0) hx hb dX7_hullEdges_0 (by decide) ?_
  refine lv_istore_n (pc := 1) (lv' := [(1, .int (0 : Int32)), (0, .ref (ad 0))]) hx hb dX7_hullEdges_1 rfl hl (by decide) rfl (fun ls hl => ?_)
  refine lv_iconst (v := (0 : Int32)) (pc := 2) hx hb dX7_hullEdges_2 (by decide) ?_
  refine lv_istore_n (pc := 3) (lv' := [(2, .int (0 : Int32)), (1, .int (0 : Int32)), (0, .ref (ad 0))]) hx hb dX7_hullEdges_3 rfl hl (by decide) rfl (fun ls hl => ?_)
  obtain ⟨o5, h_o5, h⟩ := ob h
  refine l_Mod_hullEdges_L4 C0 F ad mthr mnow mold mols msav miss minp mlen mat medg mcor mtri mkep mkee mwor mnum mmet hP F (0 : Int32) (0 : Int32) _ h_o5 ls (lv_sub hl [2, 1, 0] rfl) (fun o5x ls eo hl => ?_)
  subst o5
  refine lv_iload_n (pc := 29) hx hb dX7_hullEdges_29 rfl (lv_at hl 1 rfl) ?_
  obtain rfl := Option.some.inj h
  exact W.iret hx hb hr (fun t ht hW => ⟨rfl, ht⟩) (fun q hq => absurd hq List.not_mem_nil) dX7_hullEdges_30 hlk
set_option maxHeartbeats 4000000 in
set_option maxRecDepth 100000 in
theorem c_Mod_hullSize (l : Launch) (K : KT) (ad : Nat → Nat) (mthr : Int32) (mnow : Nat → Int32) (mold : Nat → Int32) (mols : Int32) (msav : Nat → Int32) (miss : Bool) (minp : Nat → Int32) (mlen : Int32) (mat : Int32) (medg : Nat → Int32) (mcor : Nat → Int32) (mtri : Int32) (mkep : Nat → Int32) (mkee : Nat → Int32) (mwor : Nat → Int32) (mnum : Nat → Int32) (mmet : Nat → Int32) (F : Nat) {o : Int32 × Int32 × (Nat → Int32) × (Nat → Int32) × Int32} (h : s_Mod_hullSize F mnow medg mcor = some o) : Wr l K 7 yX7_hullSize cX7_hullSize 1 (some .int) [.ref (ad 0)] (wMod K ad mthr mnow mold mols msav miss minp mlen mat medg mcor mtri mkep mkee mwor mnum mmet) (some (.int o.1)) (wMod K ad o.2.1 mnow mold mols msav miss minp mlen mat o.2.2.1 o.2.2.2.1 o.2.2.2.2 mkep mkee mwor mnum mmet) := by
  refine Wr.of (by decide +kernel) (Nat.le_of_ble_eq_true rfl) ?_
  unfold s_Mod_hullSize at h
  intro p e s m below meth c hx hb hr hml hown hts hlk H locs hP hG hD hS ls hl
  have C0 : Ctx p m c cX7_hullSize 1 s (Array.mk [.ref (ad 0)]) RX7 K meth (some .int) := ⟨hx, hb, hml, hown, hts, hG, hr, hlk⟩
  have hl : lv_has ls 1 [(0, .ref (ad 0))] := hl
  refine lv_aload_n (pc := 0) hx hb dX7_hullSize_0 rfl (lv_at hl 0 rfl) ?_
  refine lv_iconst (v := (0 : Int32)) (pc := 1) hx hb dX7_hullSize_1 (by decide) ?_
  refine va_put (D := K.1) (ci := 7) (v := .int (0 : Int32)) (ty := .int) (C := RX7) (T := TX7) (N := 17) (pc := 2) hx hb hts inT7 tyX7 tyX7_ok nmX7 hown hG.1 hP hD hS 0 rfl rfl 0 (by decide) (hts _ qf_Mod_44) (fun _ h9 => h9) rfl (by decide +kernel) rfl rfl (Nat.le_of_ble_eq_true rfl) dX7_hullSize_2 (fun H locs hP hD hS => ?_)
  have hP : va_P K.1 vC (wMod K ad (0 : Int32) mnow mold mols msav miss minp mlen mat medg mcor mtri mkep mkee mwor mnum mmet) H := hP
  have hD : va_D _ (wMod K ad (0 : Int32) mnow mold mols msav miss minp mlen mat medg mcor mtri mkep mkee mwor mnum mmet) := hD
  refine lv_aload_n (pc := 5) hx hb dX7_hullSize_5 rfl (lv_at hl 0 rfl) ?_
  obtain ⟨v1, h_v1, h⟩ := ob h
  refine wrVv (pc := 6) (As := []) (rest := []) (ws2 := wMod K ad (0 : Int32) mnow mold mols msav miss minp mlen mat v1.1 v1.2.1 v1.2.2 mkep mkee mwor mnum mmet) (as9 := [ad 0, ad 1, ad 2, ad 3, ad 4, ad 5, ad 6, ad 7, ad 8, ad 9, ad 10, ad 11]) hx hb hml hown hts hG hP hD hS (c_Mod_builds l K ad (0 : Int32) mnow mold mols msav miss minp mlen mat medg mcor mtri mkep mkee mwor mnum mmet F h_v1) [0, 1, 2, 3, 4, 5, 6, 7, 8, 9, 10, 11] rfl rfl rfl rfl [.inl 0, .inl 1, .inl 2, .inl 3, .inl 4, .inl 5, .inl 6, .inl 7, .inl 8, .inl 9, .inl 10, .inl 11] (by decide +kernel) rfl (q0 := 0) rfl (ci := 7) rfl g_Mod_210 hd_Mod_builds rfl ⟨Nat.le_of_ble_eq_true rfl, Nat.le_of_ble_eq_true rfl⟩ ⟨Nat.zero_le _, Nat.zero_le _⟩ hl rfl (Nat.le_of_ble_eq_true rfl) dX7_hullSize_6 (fun H locs hP hD hS => ?_)
  refine lv_aload_n (pc := 9) hx hb dX7_hullSize_9 rfl (lv_at hl 0 rfl) ?_
  obtain ⟨v2, h_v2, h⟩ := ob h
  refine rdV (pc := 10) (As := []) (rest := []) hx hb hml hown hts hG hP (c_Mod_hullEdges l K ad (0 : Int32) mnow mold mols msav miss minp mlen mat v1.1 v1.2.1 v1.2.2 mkep mkee mwor mnum mmet F h_v2) [0, 1, 2, 3, 4, 5, 6, 7, 8, 9, 10, 11] rfl (q0 := 0) rfl (ci := 7) rfl g_Mod_234 hd_Mod_hullEdges rfl ⟨Nat.le_of_ble_eq_true rfl, Nat.le_of_ble_eq_true rfl⟩ ⟨Nat.zero_le _, Nat.zero_le _⟩ hl rfl (Nat.le_of_ble_eq_true rfl) dX7_hullSize_10 ?_
  obtain rfl := Option.some.inj h
  exact W.iret hx hb hr (fun t ht hW => ⟨⟨rfl, by rw [ht]; exact hP⟩, hS.F ht⟩) hS.2.2 dX7_hullSize_13 hlk
set_option maxHeartbeats 4000000 in
set_option maxRecDepth 100000 in
theorem l_Mod_hullPoint_L31 {p : Program} {l : Launch} {e : Env} {s : State} {m : MethodId} {args : Array Value} {below : List Frame} {meth : Method} {c : Code} {Q : State → Prop} {K : KT} {A : Nat → Prop} (C0 : Ctx p m c cX7_hullPoint 4 s args RX7 K meth (some .int)) (F : Nat) (ad : Nat → Nat) (mthr : Int32) (mnow : Nat → Int32) (mold : Nat → Int32) (mols : Int32) (msav : Nat → Int32) (miss : Bool) (minp : Nat → Int32) (mlen : Int32) (mat : Int32) (medg : Nat → Int32) (mcor : Nat → Int32) (mtri : Int32) (mkep : Nat → Int32) (mkee : Nat → Int32) (mwor : Nat → Int32) (mnum : Nat → Int32) (mmet : Nat → Int32) (x1 : Int32)  : ∀ (n : Nat) (x2 : Int32) (out : Int32), s_Mod_hullPoint_L31 F mnow medg n x2 = some out → ∀ (H : Heap) (locs : List Loc) (ls : Array Slot), va_P K.1 vC (wMod K ad mthr mnow mold mols msav miss minp mlen mat medg mcor mtri mkep mkee mwor mnum mmet) H → va_D A (wMod K ad mthr mnow mold mols msav miss minp mlen mat medg mcor mtri mkep mkee mwor mnum mmet) → va_S A s.heap H locs → lv_has ls 4 [(0, .ref (ad 0)), (1, .int x1), (2, .int x2)] → (∀ (o : Int32) (H : Heap) (locs : List Loc) (ls : Array Slot), out = o → va_P K.1 vC (wMod K ad mthr mnow mold mols msav miss minp mlen mat medg mcor mtri mkep mkee mwor mnum mmet) H → va_D A (wMod K ad mthr mnow mold mols msav miss minp mlen mat medg mcor mtri mkep mkee mwor mnum mmet) → va_S A s.heap H locs → lv_has ls 4 [(0, .ref (ad 0)), (1, .int x1), (2, .int o)] → W p l e (rmL 7) s m args below meth c H locs 0 0 Q (F0 m 45 ls [])) → W p l e (rmL 7) s m args below meth c H locs 0 0 Q (F0 m 31 ls []) := by
  obtain ⟨hx, hb, hml, hown, hts, hG, hr, hlk⟩ := id C0
  intro n
  induction n with
  | zero =>
    intro x2 out h
    cases h
  | succ n ih =>
    intro x2 out h H locs ls hP hD hS hl Kx 
    rw [s_Mod_hullPoint_L31.eq_2] at h
    refine lv_aload_n (pc := 31) hx hb dX7_hullPoint_31 rfl (lv_at hl 0 rfl) ?_
    refine lv_iload_n (pc := 32) hx hb dX7_hullPoint_32 rfl (lv_at hl 2 rfl) ?_
    obtain ⟨v4, h_v4, h⟩ := ob h
    refine rdV (pc := 33) (As := [.int x2]) (rest := []) hx hb hml hown hts hG hP (c_Mod_hullNext l K ad mthr mnow mold mols msav miss minp mlen mat medg mcor mtri mkep mkee mwor mnum mmet x2 F h_v4) [0, 1, 2, 3, 4, 5, 6, 7, 8, 9, 10, 11] rfl (q0 := 0) rfl (ci := 7) rfl g_Mod_231 hd_Mod_hullNext rfl ⟨Nat.le_of_ble_eq_true rfl, Nat.le_of_ble_eq_true rfl⟩ ⟨Nat.zero_le _, Nat.zero_le _⟩ hl rfl (Nat.le_of_ble_eq_true rfl) dX7_hullPoint_33 ?_
    refine lv_if_ge (tgt := 45) (pc := 36) hx hb dX7_hullPoint_36 (by decide) (fun c5 => ?_) (fun c5 => ?_)
    · have h := it_t c5 h
      obtain rfl := Option.some.inj h
      exact Kx _ H locs ls rfl hP hD hS (lv_sub hl [0, 1, 2] rfl)
    · have h := it_f c5 h
      refine lv_iinc (v := (x2 + (1 : Int32))) (pc := 39) (lv' := [(2, .int (x2 + (1 : Int32))), (0, .ref (ad 0)), (1, .int x1)]) hx hb dX7_hullPoint_39 hl (k := 2) rfl rfl (by decide) rfl (fun ls hl => ?_)
      refine lv_goto (tgt := 31) (pc := 42) hx hb dX7_hullPoint_42 (by decide) ?_
      exact ih (x2 + (1 : Int32)) out h H locs ls hP hD hS (lv_sub hl [1, 2, 0] rfl) Kx 
set_option maxHeartbeats 4000000 in
set_option maxRecDepth 100000 in
theorem l_Mod_hullPoint_L47 {p : Program} {l : Launch} {e : Env} {s : State} {m : MethodId} {args : Array Value} {below : List Frame} {meth : Method} {c : Code} {Q : State → Prop} {K : KT} {A : Nat → Prop} (C0 : Ctx p m c cX7_hullPoint 4 s args RX7 K meth (some .int)) (F : Nat) (ad : Nat → Nat) (mthr : Int32) (mnow : Nat → Int32) (mold : Nat → Int32) (mols : Int32) (msav : Nat → Int32) (miss : Bool) (minp : Nat → Int32) (mlen : Int32) (mat : Int32) (medg : Nat → Int32) (mcor : Nat → Int32) (mtri : Int32) (mkep : Nat → Int32) (mkee : Nat → Int32) (mwor : Nat → Int32) (mnum : Nat → Int32) (mmet : Nat → Int32) (x1 : Int32)  : ∀ (n : Nat) (x2 : Int32) (x3 : Int32) (out : Int32 × Int32), s_Mod_hullPoint_L47 F mnow medg x1 n x2 x3 = some out → ∀ (H : Heap) (locs : List Loc) (ls : Array Slot), va_P K.1 vC (wMod K ad mthr mnow mold mols msav miss minp mlen mat medg mcor mtri mkep mkee mwor mnum mmet) H → va_D A (wMod K ad mthr mnow mold mols msav miss minp mlen mat medg mcor mtri mkep mkee mwor mnum mmet) → va_S A s.heap H locs → lv_has ls 4 [(0, .ref (ad 0)), (1, .int x1), (2, .int x2), (3, .int x3)] → (∀ (o : Int32 × Int32) (H : Heap) (locs : List Loc) (ls : Array Slot), out = o → va_P K.1 vC (wMod K ad mthr mnow mold mols msav miss minp mlen mat medg mcor mtri mkep mkee mwor mnum mmet) H → va_D A (wMod K ad mthr mnow mold mols msav miss minp mlen mat medg mcor mtri mkep mkee mwor mnum mmet) → va_S A s.heap H locs → lv_has ls 4 [(0, .ref (ad 0)), (1, .int x1), (2, .int o.1), (3, .int o.2)] → W p l e (rmL 7) s m args below meth c H locs 0 0 Q (F0 m 64 ls [])) → W p l e (rmL 7) s m args below meth c H locs 0 0 Q (F0 m 47 ls []) := by
  obtain ⟨hx, hb, hml, hown, hts, hG, hr, hlk⟩ := id C0
  intro n
  induction n with
  | zero =>
    intro x2 x3 out h
    cases h
  | succ n ih =>
    intro x2 x3 out h H locs ls hP hD hS hl Kx 
    rw [s_Mod_hullPoint_L47.eq_2] at h
    refine lv_iload_n (pc := 47) hx hb dX7_hullPoint_47 rfl (lv_at hl 3 rfl) ?_
    refine lv_iload_n (pc := 48) hx hb dX7_hullPoint_48 rfl (lv_at hl 1 rfl) ?_
    refine lv_icmp_ge (tgt := 64) (pc := 49) hx hb dX7_hullPoint_49 (by decide) (fun c7 => ?_) (fun c7 => ?_)
    · have h := it_t c7 h
      obtain rfl := Option.some.inj h
      exact Kx _ H locs ls rfl hP hD hS (lv_sub hl [0, 1, 2, 3] rfl)
    · have h := it_f c7 h
      refine lv_aload_n (pc := 52) hx hb dX7_hullPoint_52 rfl (lv_at hl 0 rfl) ?_
      refine lv_iload_n (pc := 53) hx hb dX7_hullPoint_53 rfl (lv_at hl 2 rfl) ?_
      obtain ⟨v8, h_v8, h⟩ := ob h
      refine rdV (pc := 54) (As := [.int x2]) (rest := []) hx hb hml hown hts hG hP (c_Mod_hullNext l K ad mthr mnow mold mols msav miss minp mlen mat medg mcor mtri mkep mkee mwor mnum mmet x2 F h_v8) [0, 1, 2, 3, 4, 5, 6, 7, 8, 9, 10, 11] rfl (q0 := 0) rfl (ci := 7) rfl g_Mod_231 hd_Mod_hullNext rfl ⟨Nat.le_of_ble_eq_true rfl, Nat.le_of_ble_eq_true rfl⟩ ⟨Nat.zero_le _, Nat.zero_le _⟩ hl rfl (Nat.le_of_ble_eq_true rfl) dX7_hullPoint_54 ?_
      refine lv_istore_n (pc := 57) (lv' := [(2, .int v8), (0, .ref (ad 0)), (1, .int x1), (3, .int x3)]) hx hb dX7_hullPoint_57 rfl hl (by decide) rfl (fun ls hl => ?_)
      refine lv_iinc (v := (x3 + (1 : Int32))) (pc := 58) (lv' := [(3, .int (x3 + (1 : Int32))), (2, .int v8), (0, .ref (ad 0)), (1, .int x1)]) hx hb dX7_hullPoint_58 hl (k := 3) rfl rfl (by decide) rfl (fun ls hl => ?_)
      refine lv_goto (tgt := 47) (pc := 61) hx hb dX7_hullPoint_61 (by decide) ?_
      exact ih v8 (x3 + (1 : Int32)) out h H locs ls hP hD hS (lv_sub hl [2, 3, 1, 0] rfl) Kx 
set_option maxHeartbeats 4000000 in
set_option maxRecDepth 100000 in
theorem c_Mod_hullPoint (l : Launch) (K : KT) (ad : Nat → Nat) (mthr : Int32) (mnow : Nat → Int32) (mold : Nat → Int32) (mols : Int32) (msav : Nat → Int32) (miss : Bool) (minp : Nat → Int32) (mlen : Int32) (mat : Int32) (medg : Nat → Int32) (mcor : Nat → Int32) (mtri : Int32) (mkep : Nat → Int32) (mkee : Nat → Int32) (mwor : Nat → Int32) (mnum : Nat → Int32) (mmet : Nat → Int32) (a0 : Int32) (F : Nat) {o : Int32 × Int32 × (Nat → Int32) × (Nat → Int32) × Int32} (h : s_Mod_hullPoint F mnow medg mcor a0 = some o) : Wr l K 7 yX7_hullPoint cX7_hullPoint 4 (some .int) [.ref (ad 0), .int a0] (wMod K ad mthr mnow mold mols msav miss minp mlen mat medg mcor mtri mkep mkee mwor mnum mmet) (some (.int o.1)) (wMod K ad o.2.1 mnow mold mols msav miss minp mlen mat o.2.2.1 o.2.2.2.1 o.2.2.2.2 mkep mkee mwor mnum mmet) := by
  refine Wr.of (by decide +kernel) (Nat.le_of_ble_eq_true rfl) ?_
  unfold s_Mod_hullPoint at h
  intro p e s m below meth c hx hb hr hml hown hts hlk H locs hP hG hD hS ls hl
  have C0 : Ctx p m c cX7_hullPoint 4 s (Array.mk [.ref (ad 0), .int a0]) RX7 K meth (some .int) := ⟨hx, hb, hml, hown, hts, hG, hr, hlk⟩
  have hl : lv_has ls 4 [(0, .ref (ad 0)), (1, .int a0)] := hl
  refine lv_aload_n (pc := 0) hx hb dX7_hullPoint_0 rfl (lv_at hl 0 rfl) ?_
  refine lv_iconst (v := (0 : Int32)) (pc := 1) hx hb dX7_hullPoint_1 (by decide) ?_
  refine va_put (D := K.1) (ci := 7) (v := .int (0 : Int32)) (ty := .int) (C := RX7) (T := TX7) (N := 17) (pc := 2) hx hb hts inT7 tyX7 tyX7_ok nmX7 hown hG.1 hP hD hS 0 rfl rfl 0 (by decide) (hts _ qf_Mod_44) (fun _ h9 => h9) rfl (by decide +kernel) rfl rfl (Nat.le_of_ble_eq_true rfl) dX7_hullPoint_2 (fun H locs hP hD hS => ?_)
  have hP : va_P K.1 vC (wMod K ad (0 : Int32) mnow mold mols msav miss minp mlen mat medg mcor mtri mkep mkee mwor mnum mmet) H := hP
  have hD : va_D _ (wMod K ad (0 : Int32) mnow mold mols msav miss minp mlen mat medg mcor mtri mkep mkee mwor mnum mmet) := hD
  refine lv_aload_n (pc := 5) hx hb dX7_hullPoint_5 rfl (lv_at hl 0 rfl) ?_
  obtain ⟨v1, h_v1, h⟩ := ob h
  refine wrVv (pc := 6) (As := []) (rest := []) (ws2 := wMod K ad (0 : Int32) mnow mold mols msav miss minp mlen mat v1.1 v1.2.1 v1.2.2 mkep mkee mwor mnum mmet) (as9 := [ad 0, ad 1, ad 2, ad 3, ad 4, ad 5, ad 6, ad 7, ad 8, ad 9, ad 10, ad 11]) hx hb hml hown hts hG hP hD hS (c_Mod_builds l K ad (0 : Int32) mnow mold mols msav miss minp mlen mat medg mcor mtri mkep mkee mwor mnum mmet F h_v1) [0, 1, 2, 3, 4, 5, 6, 7, 8, 9, 10, 11] rfl rfl rfl rfl [.inl 0, .inl 1, .inl 2, .inl 3, .inl 4, .inl 5, .inl 6, .inl 7, .inl 8, .inl 9, .inl 10, .inl 11] (by decide +kernel) rfl (q0 := 0) rfl (ci := 7) rfl g_Mod_210 hd_Mod_builds rfl ⟨Nat.le_of_ble_eq_true rfl, Nat.le_of_ble_eq_true rfl⟩ ⟨Nat.zero_le _, Nat.zero_le _⟩ hl rfl (Nat.le_of_ble_eq_true rfl) dX7_hullPoint_6 (fun H locs hP hD hS => ?_)
  refine lv_iload_n (pc := 9) hx hb dX7_hullPoint_9 rfl (lv_at hl 1 rfl) ?_
  refine lv_iconst (v := (0 : Int32)) (pc := 10) hx hb dX7_hullPoint_10 (by decide) ?_
  refine lv_aload_n (pc := 11) hx hb dX7_hullPoint_11 rfl (lv_at hl 0 rfl) ?_
  obtain ⟨v2, h_v2, h⟩ := ob h
  refine rdV (pc := 12) (As := []) (rest := [.int (0 : Int32), .int a0]) hx hb hml hown hts hG hP (c_Mod_hullEdges l K ad (0 : Int32) mnow mold mols msav miss minp mlen mat v1.1 v1.2.1 v1.2.2 mkep mkee mwor mnum mmet F h_v2) [0, 1, 2, 3, 4, 5, 6, 7, 8, 9, 10, 11] rfl (q0 := 0) rfl (ci := 7) rfl g_Mod_234 hd_Mod_hullEdges rfl ⟨Nat.le_of_ble_eq_true rfl, Nat.le_of_ble_eq_true rfl⟩ ⟨Nat.zero_le _, Nat.zero_le _⟩ hl rfl (Nat.le_of_ble_eq_true rfl) dX7_hullPoint_12 ?_
  refine lv_iconst (v := (1 : Int32)) (pc := 15) hx hb dX7_hullPoint_15 (by decide) ?_
  refine lv_isub (pc := 16) hx hb dX7_hullPoint_16 ?_
  refine rdS (pc := 17) (As := [.int a0, .int (0 : Int32), .int (v2 - (1 : Int32))]) (rest := []) hx hb hml hown hts hG (c_Mod_in l K a0 (0 : Int32) (v2 - (1 : Int32))) g_Mod_52 hd_Mod_in rfl ⟨Nat.le_of_ble_eq_true rfl, Nat.le_of_ble_eq_true rfl⟩ ⟨Nat.zero_le _, Nat.zero_le _⟩ hl rfl (Nat.le_of_ble_eq_true rfl) dX7_hullPoint_17 ?_
  refine lv_if_ne (tgt := 29) (pc := 20) hx hb dX7_hullPoint_20 (by decide) (fun c3 => ?_) (fun c3 => ?_)
  · have h := it_f c3 h
    refine lv_iconst (v := (0 : Int32)) (pc := 29) hx hb dX7_hullPoint_29 (by decide) ?_
    refine lv_istore_n (pc := 30) (lv' := [(2, .int (0 : Int32)), (0, .ref (ad 0)), (1, .int a0)]) hx hb dX7_hullPoint_30 rfl hl (by decide) rfl (fun ls hl => ?_)
    obtain ⟨o6, h_o6, h⟩ := ob h
    refine l_Mod_hullPoint_L31 C0 F ad (0 : Int32) mnow mold mols msav miss minp mlen mat v1.1 v1.2.1 v1.2.2 mkep mkee mwor mnum mmet a0 F (0 : Int32) _ h_o6 H locs ls hP hD hS (lv_sub hl [1, 2, 0] rfl) (fun o6x H locs ls eo hP hD hS hl => ?_)
    subst o6
    refine lv_iconst (v := (0 : Int32)) (pc := 45) hx hb dX7_hullPoint_45 (by decide) ?_
    refine lv_istore_n (pc := 46) (lv' := [(3, .int (0 : Int32)), (0, .ref (ad 0)), (1, .int a0), (2, .int o6x)]) hx hb dX7_hullPoint_46 rfl hl (by decide) rfl (fun ls hl => ?_)
    obtain ⟨o9, h_o9, h⟩ := ob h
    refine l_Mod_hullPoint_L47 C0 F ad (0 : Int32) mnow mold mols msav miss minp mlen mat v1.1 v1.2.1 v1.2.2 mkep mkee mwor mnum mmet a0 F o6x (0 : Int32) _ h_o9 H locs ls hP hD hS (lv_sub hl [1, 2, 3, 0] rfl) (fun o9x H locs ls eo hP hD hS hl => ?_)
    subst o9
    refine lv_iload_n (pc := 64) hx hb dX7_hullPoint_64 rfl (lv_at hl 2 rfl) ?_
    obtain rfl := Option.some.inj h
    exact W.iret hx hb hr (fun t ht hW => ⟨⟨rfl, by rw [ht]; exact hP⟩, hS.F ht⟩) hS.2.2 dX7_hullPoint_65 hlk
  · have h := it_t c3 h
    refine lv_aload_n (pc := 23) hx hb dX7_hullPoint_23 rfl (lv_at hl 0 rfl) ?_
    refine lv_iconst (v := (1 : Int32)) (pc := 24) hx hb dX7_hullPoint_24 (by decide) ?_
    refine wrVi (pc := 25) (As := [.int (1 : Int32)]) (rest := []) (ws2 := wMod K ad ((s_Mod_raises (1 : Int32)).2) mnow mold mols msav miss minp mlen mat v1.1 v1.2.1 v1.2.2 mkep mkee mwor mnum mmet) (as9 := [ad 0, ad 1, ad 2, ad 3, ad 4, ad 5, ad 6, ad 7, ad 8, ad 9, ad 10, ad 11]) hx hb hml hown hts hG hP hD hS (c_Mod_raises l K ad (0 : Int32) mnow mold mols msav miss minp mlen mat v1.1 v1.2.1 v1.2.2 mkep mkee mwor mnum mmet (1 : Int32)) [0, 1, 2, 3, 4, 5, 6, 7, 8, 9, 10, 11] rfl rfl rfl rfl [.inl 0, .inl 1, .inl 2, .inl 3, .inl 4, .inl 5, .inl 6, .inl 7, .inl 8, .inl 9, .inl 10, .inl 11] (by decide +kernel) rfl (q0 := 0) rfl (ci := 7) rfl g_Mod_172 hd_Mod_raises rfl ⟨Nat.le_of_ble_eq_true rfl, Nat.le_of_ble_eq_true rfl⟩ ⟨Nat.zero_le _, Nat.zero_le _⟩ hl rfl (Nat.le_of_ble_eq_true rfl) dX7_hullPoint_25 (fun H locs hP hD hS => ?_)
    obtain rfl := Option.some.inj h
    exact W.iret hx hb hr (fun t ht hW => ⟨⟨rfl, by rw [ht]; exact hP⟩, hS.F ht⟩) hS.2.2 dX7_hullPoint_28 hlk
set_option maxHeartbeats 4000000 in
set_option maxRecDepth 100000 in
theorem c_Mod_twiceArea (l : Launch) (K : KT) (ad : Nat → Nat) (mthr : Int32) (mnow : Nat → Int32) (mold : Nat → Int32) (mols : Int32) (msav : Nat → Int32) (miss : Bool) (minp : Nat → Int32) (mlen : Int32) (mat : Int32) (medg : Nat → Int32) (mcor : Nat → Int32) (mtri : Int32) (mkep : Nat → Int32) (mkee : Nat → Int32) (mwor : Nat → Int32) (mnum : Nat → Int32) (mmet : Nat → Int32) (a0 : Int32) (F : Nat) {o : Int32 × Int32 × (Nat → Int32) × (Nat → Int32) × Int32} (h : s_Mod_twiceArea F mnow medg mcor a0 = some o) : Wr l K 8 yX7_twiceArea cX7_twiceArea 2 (some .int) [.ref (ad 0), .int a0] (wMod K ad mthr mnow mold mols msav miss minp mlen mat medg mcor mtri mkep mkee mwor mnum mmet) (some (.int o.1)) (wMod K ad o.2.1 mnow mold mols msav miss minp mlen mat o.2.2.1 o.2.2.2.1 o.2.2.2.2 mkep mkee mwor mnum mmet) := by
  refine Wr.of (by decide +kernel) (Nat.le_of_ble_eq_true rfl) ?_
  unfold s_Mod_twiceArea at h
  intro p e s m below meth c hx hb hr hml hown hts hlk H locs hP hG hD hS ls hl
  have C0 : Ctx p m c cX7_twiceArea 2 s (Array.mk [.ref (ad 0), .int a0]) RX7 K meth (some .int) := ⟨hx, hb, hml, hown, hts, hG, hr, hlk⟩
  have hl : lv_has ls 2 [(0, .ref (ad 0)), (1, .int a0)] := hl
  refine lv_aload_n (pc := 0) hx hb dX7_twiceArea_0 rfl (lv_at hl 0 rfl) ?_
  refine lv_iconst (v := (0 : Int32)) (pc := 1) hx hb dX7_twiceArea_1 (by decide) ?_
  refine va_put (D := K.1) (ci := 7) (v := .int (0 : Int32)) (ty := .int) (C := RX7) (T := TX7) (N := 17) (pc := 2) hx hb hts inT7 tyX7 tyX7_ok nmX7 hown hG.1 hP hD hS 0 rfl rfl 0 (by decide) (hts _ qf_Mod_44) (fun _ h9 => h9) rfl (by decide +kernel) rfl rfl (Nat.le_of_ble_eq_true rfl) dX7_twiceArea_2 (fun H locs hP hD hS => ?_)
  have hP : va_P K.1 vC (wMod K ad (0 : Int32) mnow mold mols msav miss minp mlen mat medg mcor mtri mkep mkee mwor mnum mmet) H := hP
  have hD : va_D _ (wMod K ad (0 : Int32) mnow mold mols msav miss minp mlen mat medg mcor mtri mkep mkee mwor mnum mmet) := hD
  refine lv_aload_n (pc := 5) hx hb dX7_twiceArea_5 rfl (lv_at hl 0 rfl) ?_
  refine lv_iload_n (pc := 6) hx hb dX7_twiceArea_6 rfl (lv_at hl 1 rfl) ?_
  obtain ⟨v1, h_v1, h⟩ := ob h
  refine wrVi (pc := 7) (As := [.int a0]) (rest := []) (ws2 := wMod K ad (0 : Int32) mnow mold mols msav miss minp mlen mat v1.2.1 v1.2.2.1 v1.2.2.2 mkep mkee mwor mnum mmet) (as9 := [ad 0, ad 1, ad 2, ad 3, ad 4, ad 5, ad 6, ad 7, ad 8, ad 9, ad 10, ad 11]) hx hb hml hown hts hG hP hD hS (c_Mod_isTriangle l K ad (0 : Int32) mnow mold mols msav miss minp mlen mat medg mcor mtri mkep mkee mwor mnum mmet a0 F h_v1) [0, 1, 2, 3, 4, 5, 6, 7, 8, 9, 10, 11] rfl rfl rfl rfl [.inl 0, .inl 1, .inl 2, .inl 3, .inl 4, .inl 5, .inl 6, .inl 7, .inl 8, .inl 9, .inl 10, .inl 11] (by decide +kernel) rfl (q0 := 0) rfl (ci := 7) rfl g_Mod_213 hd_Mod_isTriangle rfl ⟨Nat.le_of_ble_eq_true rfl, Nat.le_of_ble_eq_true rfl⟩ ⟨Nat.zero_le _, Nat.zero_le _⟩ hl rfl (Nat.le_of_ble_eq_true rfl) dX7_twiceArea_7 (fun H locs hP hD hS => ?_)
  refine lv_if_eq (tgt := 21) (pc := 10) hx hb dX7_twiceArea_10 (by decide) (fun c2 => ?_) (fun c2 => ?_)
  · have h := it_t c2 h
    refine lv_aload_n (pc := 21) hx hb dX7_twiceArea_21 rfl (lv_at hl 0 rfl) ?_
    refine lv_iconst (v := (1 : Int32)) (pc := 22) hx hb dX7_twiceArea_22 (by decide) ?_
    refine wrVi (pc := 23) (As := [.int (1 : Int32)]) (rest := []) (ws2 := wMod K ad ((s_Mod_raises (1 : Int32)).2) mnow mold mols msav miss minp mlen mat v1.2.1 v1.2.2.1 v1.2.2.2 mkep mkee mwor mnum mmet) (as9 := [ad 0, ad 1, ad 2, ad 3, ad 4, ad 5, ad 6, ad 7, ad 8, ad 9, ad 10, ad 11]) hx hb hml hown hts hG hP hD hS (c_Mod_raises l K ad (0 : Int32) mnow mold mols msav miss minp mlen mat v1.2.1 v1.2.2.1 v1.2.2.2 mkep mkee mwor mnum mmet (1 : Int32)) [0, 1, 2, 3, 4, 5, 6, 7, 8, 9, 10, 11] rfl rfl rfl rfl [.inl 0, .inl 1, .inl 2, .inl 3, .inl 4, .inl 5, .inl 6, .inl 7, .inl 8, .inl 9, .inl 10, .inl 11] (by decide +kernel) rfl (q0 := 0) rfl (ci := 7) rfl g_Mod_172 hd_Mod_raises rfl ⟨Nat.le_of_ble_eq_true rfl, Nat.le_of_ble_eq_true rfl⟩ ⟨Nat.zero_le _, Nat.zero_le _⟩ hl rfl (Nat.le_of_ble_eq_true rfl) dX7_twiceArea_23 (fun H locs hP hD hS => ?_)
    obtain rfl := Option.some.inj h
    exact W.iret hx hb hr (fun t ht hW => ⟨⟨rfl, by rw [ht]; exact hP⟩, hS.F ht⟩) hS.2.2 dX7_twiceArea_26 hlk
  · have h := it_f c2 h
    refine lv_aload_n (pc := 13) hx hb dX7_twiceArea_13 rfl (lv_at hl 0 rfl) ?_
    refine lv_iload_n (pc := 14) hx hb dX7_twiceArea_14 rfl (lv_at hl 1 rfl) ?_
    obtain ⟨v3, h_v3, h⟩ := ob h
    refine rdV (pc := 15) (As := [.int a0]) (rest := []) hx hb hml hown hts hG hP (c_Mod_areaOf l K ad (0 : Int32) mnow mold mols msav miss minp mlen mat v1.2.1 v1.2.2.1 v1.2.2.2 mkep mkee mwor mnum mmet a0 h_v3) [0, 1, 2, 3, 4, 5, 6, 7, 8, 9, 10, 11] rfl (q0 := 0) rfl (ci := 7) rfl g_Mod_237 hd_Mod_areaOf rfl ⟨Nat.le_of_ble_eq_true rfl, Nat.le_of_ble_eq_true rfl⟩ ⟨Nat.zero_le _, Nat.zero_le _⟩ hl rfl (Nat.le_of_ble_eq_true rfl) dX7_twiceArea_15 ?_
    refine lv_goto (tgt := 26) (pc := 18) hx hb dX7_twiceArea_18 (by decide) ?_
    obtain rfl := Option.some.inj h
    exact W.iret hx hb hr (fun t ht hW => ⟨⟨rfl, by rw [ht]; exact hP⟩, hS.F ht⟩) hS.2.2 dX7_twiceArea_26 hlk
set_option maxHeartbeats 4000000 in
set_option maxRecDepth 100000 in
theorem l_Mod_areaShare_L24 {p : Program} {l : Launch} {e : Env} {s : State} {m : MethodId} {args : Array Value} {below : List Frame} {meth : Method} {c : Code} {Q : State → Prop} {K : KT} {A : Nat → Prop} (C0 : Ctx p m c cX7_areaShare 4 s args RX7 K meth (some .double)) (F : Nat) (ad : Nat → Nat) (mthr : Int32) (mnow : Nat → Int32) (mold : Nat → Int32) (mols : Int32) (msav : Nat → Int32) (miss : Bool) (minp : Nat → Int32) (mlen : Int32) (mat : Int32) (medg : Nat → Int32) (mcor : Nat → Int32) (mtri : Int32) (mkep : Nat → Int32) (mkee : Nat → Int32) (mwor : Nat → Int32) (mnum : Nat → Int32) (mmet : Nat → Int32) (x1 : Int32)  : ∀ (n : Nat) (x2 : Int32) (x3 : Int32) (out : Int32 × Int32), s_Mod_areaShare_L24 mnow mcor mtri n x2 x3 = some out → ∀ (H : Heap) (locs : List Loc) (ls : Array Slot), va_P K.1 vC (wMod K ad mthr mnow mold mols msav miss minp mlen mat medg mcor mtri mkep mkee mwor mnum mmet) H → va_D A (wMod K ad mthr mnow mold mols msav miss minp mlen mat medg mcor mtri mkep mkee mwor mnum mmet) → va_S A s.heap H locs → lv_has ls 4 [(0, .ref (ad 0)), (1, .int x1), (2, .int x2), (3, .int x3)] → (∀ (o : Int32 × Int32) (H : Heap) (locs : List Loc) (ls : Array Slot), out = o → va_P K.1 vC (wMod K ad mthr mnow mold mols msav miss minp mlen mat medg mcor mtri mkep mkee mwor mnum mmet) H → va_D A (wMod K ad mthr mnow mold mols msav miss minp mlen mat medg mcor mtri mkep mkee mwor mnum mmet) → va_S A s.heap H locs → lv_has ls 4 [(0, .ref (ad 0)), (1, .int x1), (2, .int o.1), (3, .int o.2)] → W p l e (rmL 8) s m args below meth c H locs 0 0 Q (F0 m 46 ls [])) → W p l e (rmL 8) s m args below meth c H locs 0 0 Q (F0 m 24 ls []) := by
  obtain ⟨hx, hb, hml, hown, hts, hG, hr, hlk⟩ := id C0
  intro n
  induction n with
  | zero =>
    intro x2 x3 out h
    cases h
  | succ n ih =>
    intro x2 x3 out h H locs ls hP hD hS hl Kx 
    rw [s_Mod_areaShare_L24.eq_2] at h
    refine lv_iload_n (pc := 24) hx hb dX7_areaShare_24 rfl (lv_at hl 3 rfl) ?_
    refine lv_aload_n (pc := 25) hx hb dX7_areaShare_25 rfl (lv_at hl 0 rfl) ?_
    refine va_get (D := K.1) (ci := 7) (v := .int mtri) (C := RX7) (T := TX7) (N := 17) (pc := 26) hx hb hts inT7 hown hG.1 hP 0 rfl rfl 11 (by decide) (hts _ qf_Mod_114) (fun _ h9 => h9) rfl dX7_areaShare_26 ?_
    refine lv_icmp_ge (tgt := 46) (pc := 29) hx hb dX7_areaShare_29 (by decide) (fun c3 => ?_) (fun c3 => ?_)
    · have h := it_t c3 h
      obtain rfl := Option.some.inj h
      exact Kx _ H locs ls rfl hP hD hS (lv_sub hl [0, 1, 2, 3] rfl)
    · have h := it_f c3 h
      refine lv_iload_n (pc := 32) hx hb dX7_areaShare_32 rfl (lv_at hl 2 rfl) ?_
      refine lv_aload_n (pc := 33) hx hb dX7_areaShare_33 rfl (lv_at hl 0 rfl) ?_
      refine lv_iload_n (pc := 34) hx hb dX7_areaShare_34 rfl (lv_at hl 3 rfl) ?_
      obtain ⟨v4, h_v4, h⟩ := ob h
      refine rdV (pc := 35) (As := [.int x3]) (rest := [.int x2]) hx hb hml hown hts hG hP (c_Mod_areaOf l K ad mthr mnow mold mols msav miss minp mlen mat medg mcor mtri mkep mkee mwor mnum mmet x3 h_v4) [0, 1, 2, 3, 4, 5, 6, 7, 8, 9, 10, 11] rfl (q0 := 0) rfl (ci := 7) rfl g_Mod_237 hd_Mod_areaOf rfl ⟨Nat.le_of_ble_eq_true rfl, Nat.le_of_ble_eq_true rfl⟩ ⟨Nat.zero_le _, Nat.zero_le _⟩ hl rfl (Nat.le_of_ble_eq_true rfl) dX7_areaShare_35 ?_
      refine lv_iadd (pc := 38) hx hb dX7_areaShare_38 ?_
      refine lv_istore_n (pc := 39) (lv' := [(2, .int (x2 + v4)), (0, .ref (ad 0)), (1, .int x1), (3, .int x3)]) hx hb dX7_areaShare_39 rfl hl (by decide) rfl (fun ls hl => ?_)
      refine lv_iinc (v := (x3 + (1 : Int32))) (pc := 40) (lv' := [(3, .int (x3 + (1 : Int32))), (2, .int (x2 + v4)), (0, .ref (ad 0)), (1, .int x1)]) hx hb dX7_areaShare_40 hl (k := 3) rfl rfl (by decide) rfl (fun ls hl => ?_)
      refine lv_goto (tgt := 24) (pc := 43) hx hb dX7_areaShare_43 (by decide) ?_
      exact ih (x2 + v4) (x3 + (1 : Int32)) out h H locs ls hP hD hS (lv_sub hl [2, 3, 1, 0] rfl) Kx 
set_option maxHeartbeats 4000000 in
set_option maxRecDepth 100000 in
theorem c_Mod_areaShare (l : Launch) (K : KT) (ad : Nat → Nat) (mthr : Int32) (mnow : Nat → Int32) (mold : Nat → Int32) (mols : Int32) (msav : Nat → Int32) (miss : Bool) (minp : Nat → Int32) (mlen : Int32) (mat : Int32) (medg : Nat → Int32) (mcor : Nat → Int32) (mtri : Int32) (mkep : Nat → Int32) (mkee : Nat → Int32) (mwor : Nat → Int32) (mnum : Nat → Int32) (mmet : Nat → Int32) (a0 : Int32) (F : Nat) {o : UInt64 × Int32 × (Nat → Int32) × (Nat → Int32) × Int32} (h : s_Mod_areaShare F mnow medg mcor a0 = some o) : Wr l K 8 yX7_areaShare cX7_areaShare 4 (some .double) [.ref (ad 0), .int a0] (wMod K ad mthr mnow mold mols msav miss minp mlen mat medg mcor mtri mkep mkee mwor mnum mmet) (some (.double o.1)) (wMod K ad o.2.1 mnow mold mols msav miss minp mlen mat o.2.2.1 o.2.2.2.1 o.2.2.2.2 mkep mkee mwor mnum mmet) := by
  refine Wr.of (by decide +kernel) (Nat.le_of_ble_eq_true rfl) ?_
  unfold s_Mod_areaShare at h
  intro p e s m below meth c hx hb hr hml hown hts hlk H locs hP hG hD hS ls hl
  have C0 : Ctx p m c cX7_areaShare 4 s (Array.mk [.ref (ad 0), .int a0]) RX7 K meth (some .double) := ⟨hx, hb, hml, hown, hts, hG, hr, hlk⟩
  have hl : lv_has ls 4 [(0, .ref (ad 0)), (1, .int a0)] := hl
  refine lv_aload_n (pc := 0) hx hb dX7_areaShare_0 rfl (lv_at hl 0 rfl) ?_
  refine lv_iconst (v := (0 : Int32)) (pc := 1) hx hb dX7_areaShare_1 (by decide) ?_
  refine va_put (D := K.1) (ci := 7) (v := .int (0 : Int32)) (ty := .int) (C := RX7) (T := TX7) (N := 17) (pc := 2) hx hb hts inT7 tyX7 tyX7_ok nmX7 hown hG.1 hP hD hS 0 rfl rfl 0 (by decide) (hts _ qf_Mod_44) (fun _ h9 => h9) rfl (by decide +kernel) rfl rfl (Nat.le_of_ble_eq_true rfl) dX7_areaShare_2 (fun H locs hP hD hS => ?_)
  have hP : va_P K.1 vC (wMod K ad (0 : Int32) mnow mold mols msav miss minp mlen mat medg mcor mtri mkep mkee mwor mnum mmet) H := hP
  have hD : va_D _ (wMod K ad (0 : Int32) mnow mold mols msav miss minp mlen mat medg mcor mtri mkep mkee mwor mnum mmet) := hD
  refine lv_aload_n (pc := 5) hx hb dX7_areaShare_5 rfl (lv_at hl 0 rfl) ?_
  refine lv_iload_n (pc := 6) hx hb dX7_areaShare_6 rfl (lv_at hl 1 rfl) ?_
  obtain ⟨v1, h_v1, h⟩ := ob h
  refine wrVi (pc := 7) (As := [.int a0]) (rest := []) (ws2 := wMod K ad (0 : Int32) mnow mold mols msav miss minp mlen mat v1.2.1 v1.2.2.1 v1.2.2.2 mkep mkee mwor mnum mmet) (as9 := [ad 0, ad 1, ad 2, ad 3, ad 4, ad 5, ad 6, ad 7, ad 8, ad 9, ad 10, ad 11]) hx hb hml hown hts hG hP hD hS (c_Mod_isTriangle l K ad (0 : Int32) mnow mold mols msav miss minp mlen mat medg mcor mtri mkep mkee mwor mnum mmet a0 F h_v1) [0, 1, 2, 3, 4, 5, 6, 7, 8, 9, 10, 11] rfl rfl rfl rfl [.inl 0, .inl 1, .inl 2, .inl 3, .inl 4, .inl 5, .inl 6, .inl 7, .inl 8, .inl 9, .inl 10, .inl 11] (by decide +kernel) rfl (q0 := 0) rfl (ci := 7) rfl g_Mod_213 hd_Mod_isTriangle rfl ⟨Nat.le_of_ble_eq_true rfl, Nat.le_of_ble_eq_true rfl⟩ ⟨Nat.zero_le _, Nat.zero_le _⟩ hl rfl (Nat.le_of_ble_eq_true rfl) dX7_areaShare_7 (fun H locs hP hD hS => ?_)
  refine lv_if_ne (tgt := 20) (pc := 10) hx hb dX7_areaShare_10 (by decide) (fun c2 => ?_) (fun c2 => ?_)
  · have h := it_f c2 h
    refine lv_iconst (v := (0 : Int32)) (pc := 20) hx hb dX7_areaShare_20 (by decide) ?_
    refine lv_istore_n (pc := 21) (lv' := [(2, .int (0 : Int32)), (0, .ref (ad 0)), (1, .int a0)]) hx hb dX7_areaShare_21 rfl hl (by decide) rfl (fun ls hl => ?_)
    refine lv_iconst (v := (0 : Int32)) (pc := 22) hx hb dX7_areaShare_22 (by decide) ?_
    refine lv_istore_n (pc := 23) (lv' := [(3, .int (0 : Int32)), (2, .int (0 : Int32)), (0, .ref (ad 0)), (1, .int a0)]) hx hb dX7_areaShare_23 rfl hl (by decide) rfl (fun ls hl => ?_)
    obtain ⟨o5, h_o5, h⟩ := ob h
    refine l_Mod_areaShare_L24 C0 F ad (0 : Int32) mnow mold mols msav miss minp mlen mat v1.2.1 v1.2.2.1 v1.2.2.2 mkep mkee mwor mnum mmet a0 F (0 : Int32) (0 : Int32) _ h_o5 H locs ls hP hD hS (lv_sub hl [2, 3, 1, 0] rfl) (fun o5x H locs ls eo hP hD hS hl => ?_)
    subst o5
    refine lv_aload_n (pc := 46) hx hb dX7_areaShare_46 rfl (lv_at hl 0 rfl) ?_
    refine lv_iload_n (pc := 47) hx hb dX7_areaShare_47 rfl (lv_at hl 1 rfl) ?_
    obtain ⟨v6, h_v6, h⟩ := ob h
    refine rdV (pc := 48) (As := [.int a0]) (rest := []) hx hb hml hown hts hG hP (c_Mod_areaOf l K ad (0 : Int32) mnow mold mols msav miss minp mlen mat v1.2.1 v1.2.2.1 v1.2.2.2 mkep mkee mwor mnum mmet a0 h_v6) [0, 1, 2, 3, 4, 5, 6, 7, 8, 9, 10, 11] rfl (q0 := 0) rfl (ci := 7) rfl g_Mod_237 hd_Mod_areaOf rfl ⟨Nat.le_of_ble_eq_true rfl, Nat.le_of_ble_eq_true rfl⟩ ⟨Nat.zero_le _, Nat.zero_le _⟩ hl rfl (Nat.le_of_ble_eq_true rfl) dX7_areaShare_48 ?_
    refine lv_i2d (pc := 51) hx hb dX7_areaShare_51 ?_
    refine lv_iload_n (pc := 52) hx hb dX7_areaShare_52 rfl (lv_at hl 2 rfl) ?_
    refine lv_i2d (pc := 53) hx hb dX7_areaShare_53 ?_
    obtain ⟨v7, h_v7, h⟩ := ob h
    obtain ⟨hi_v7, e_v7⟩ := ddivO_in h_v7
    refine lv_ddiv (pc := 54) hx hb dX7_areaShare_54 hi_v7 ?_
    rw [e_v7]
    obtain rfl := Option.some.inj h
    exact W.dret hx hb hr (fun t ht hW => ⟨⟨rfl, by rw [ht]; exact hP⟩, hS.F ht⟩) hS.2.2 dX7_areaShare_55 hlk
  · have h := it_t c2 h
    refine lv_aload_n (pc := 13) hx hb dX7_areaShare_13 rfl (lv_at hl 0 rfl) ?_
    refine lv_iconst (v := (1 : Int32)) (pc := 14) hx hb dX7_areaShare_14 (by decide) ?_
    refine wrVi (pc := 15) (As := [.int (1 : Int32)]) (rest := []) (ws2 := wMod K ad ((s_Mod_raises (1 : Int32)).2) mnow mold mols msav miss minp mlen mat v1.2.1 v1.2.2.1 v1.2.2.2 mkep mkee mwor mnum mmet) (as9 := [ad 0, ad 1, ad 2, ad 3, ad 4, ad 5, ad 6, ad 7, ad 8, ad 9, ad 10, ad 11]) hx hb hml hown hts hG hP hD hS (c_Mod_raises l K ad (0 : Int32) mnow mold mols msav miss minp mlen mat v1.2.1 v1.2.2.1 v1.2.2.2 mkep mkee mwor mnum mmet (1 : Int32)) [0, 1, 2, 3, 4, 5, 6, 7, 8, 9, 10, 11] rfl rfl rfl rfl [.inl 0, .inl 1, .inl 2, .inl 3, .inl 4, .inl 5, .inl 6, .inl 7, .inl 8, .inl 9, .inl 10, .inl 11] (by decide +kernel) rfl (q0 := 0) rfl (ci := 7) rfl g_Mod_172 hd_Mod_raises rfl ⟨Nat.le_of_ble_eq_true rfl, Nat.le_of_ble_eq_true rfl⟩ ⟨Nat.zero_le _, Nat.zero_le _⟩ hl rfl (Nat.le_of_ble_eq_true rfl) dX7_areaShare_15 (fun H locs hP hD hS => ?_)
    refine lv_i2d (pc := 18) hx hb dX7_areaShare_18 ?_
    obtain rfl := Option.some.inj h
    exact W.dret hx hb hr (fun t ht hW => ⟨⟨rfl, by rw [ht]; exact hP⟩, hS.F ht⟩) hS.2.2 dX7_areaShare_19 hlk
set_option maxHeartbeats 4000000 in
set_option maxRecDepth 100000 in
theorem c_Mod_meanDegree (l : Launch) (K : KT) (ad : Nat → Nat) (mthr : Int32) (mnow : Nat → Int32) (mold : Nat → Int32) (mols : Int32) (msav : Nat → Int32) (miss : Bool) (minp : Nat → Int32) (mlen : Int32) (mat : Int32) (medg : Nat → Int32) (mcor : Nat → Int32) (mtri : Int32) (mkep : Nat → Int32) (mkee : Nat → Int32) (mwor : Nat → Int32) (mnum : Nat → Int32) (mmet : Nat → Int32) (F : Nat) {o : UInt64 × Int32 × (Nat → Int32) × (Nat → Int32) × Int32} (h : s_Mod_meanDegree F mnow medg mcor mtri = some o) : Wr l K 7 yX7_meanDegree cX7_meanDegree 1 (some .double) [.ref (ad 0)] (wMod K ad mthr mnow mold mols msav miss minp mlen mat medg mcor mtri mkep mkee mwor mnum mmet) (some (.double o.1)) (wMod K ad o.2.1 mnow mold mols msav miss minp mlen mat o.2.2.1 o.2.2.2.1 o.2.2.2.2 mkep mkee mwor mnum mmet) := by
  refine Wr.of (by decide +kernel) (Nat.le_of_ble_eq_true rfl) ?_
  unfold s_Mod_meanDegree at h
  intro p e s m below meth c hx hb hr hml hown hts hlk H locs hP hG hD hS ls hl
  have C0 : Ctx p m c cX7_meanDegree 1 s (Array.mk [.ref (ad 0)]) RX7 K meth (some .double) := ⟨hx, hb, hml, hown, hts, hG, hr, hlk⟩
  have hl : lv_has ls 1 [(0, .ref (ad 0))] := hl
  refine lv_aload_n (pc := 0) hx hb dX7_meanDegree_0 rfl (lv_at hl 0 rfl) ?_
  refine lv_iconst (v := (0 : Int32)) (pc := 1) hx hb dX7_meanDegree_1 (by decide) ?_
  refine va_put (D := K.1) (ci := 7) (v := .int (0 : Int32)) (ty := .int) (C := RX7) (T := TX7) (N := 17) (pc := 2) hx hb hts inT7 tyX7 tyX7_ok nmX7 hown hG.1 hP hD hS 0 rfl rfl 0 (by decide) (hts _ qf_Mod_44) (fun _ h9 => h9) rfl (by decide +kernel) rfl rfl (Nat.le_of_ble_eq_true rfl) dX7_meanDegree_2 (fun H locs hP hD hS => ?_)
  have hP : va_P K.1 vC (wMod K ad (0 : Int32) mnow mold mols msav miss minp mlen mat medg mcor mtri mkep mkee mwor mnum mmet) H := hP
  have hD : va_D _ (wMod K ad (0 : Int32) mnow mold mols msav miss minp mlen mat medg mcor mtri mkep mkee mwor mnum mmet) := hD
  refine lv_aload_n (pc := 5) hx hb dX7_meanDegree_5 rfl (lv_at hl 0 rfl) ?_
  obtain ⟨v1, h_v1, h⟩ := ob h
  refine rdV (pc := 6) (As := []) (rest := []) hx hb hml hown hts hG hP (c_Mod_n l K ad (0 : Int32) mnow mold mols msav miss minp mlen mat medg mcor mtri mkep mkee mwor mnum mmet h_v1) [0, 1, 2, 3, 4, 5, 6, 7, 8, 9, 10, 11] rfl (q0 := 0) rfl (ci := 7) rfl g_Mod_48 hd_Mod_n rfl ⟨Nat.le_of_ble_eq_true rfl, Nat.le_of_ble_eq_true rfl⟩ ⟨Nat.zero_le _, Nat.zero_le _⟩ hl rfl (Nat.le_of_ble_eq_true rfl) dX7_meanDegree_6 ?_
  refine lv_if_ne (tgt := 19) (pc := 9) hx hb dX7_meanDegree_9 (by decide) (fun c2 => ?_) (fun c2 => ?_)
  · have h := it_f c2 h
    refine lv_aload_n (pc := 19) hx hb dX7_meanDegree_19 rfl (lv_at hl 0 rfl) ?_
    obtain ⟨v3, h_v3, h⟩ := ob h
    refine wrVv (pc := 20) (As := []) (rest := []) (ws2 := wMod K ad (0 : Int32) mnow mold mols msav miss minp mlen mat v3.1 v3.2.1 v3.2.2 mkep mkee mwor mnum mmet) (as9 := [ad 0, ad 1, ad 2, ad 3, ad 4, ad 5, ad 6, ad 7, ad 8, ad 9, ad 10, ad 11]) hx hb hml hown hts hG hP hD hS (c_Mod_builds l K ad (0 : Int32) mnow mold mols msav miss minp mlen mat medg mcor mtri mkep mkee mwor mnum mmet F h_v3) [0, 1, 2, 3, 4, 5, 6, 7, 8, 9, 10, 11] rfl rfl rfl rfl [.inl 0, .inl 1, .inl 2, .inl 3, .inl 4, .inl 5, .inl 6, .inl 7, .inl 8, .inl 9, .inl 10, .inl 11] (by decide +kernel) rfl (q0 := 0) rfl (ci := 7) rfl g_Mod_210 hd_Mod_builds rfl ⟨Nat.le_of_ble_eq_true rfl, Nat.le_of_ble_eq_true rfl⟩ ⟨Nat.zero_le _, Nat.zero_le _⟩ hl rfl (Nat.le_of_ble_eq_true rfl) dX7_meanDegree_20 (fun H locs hP hD hS => ?_)
    refine lv_iconst (v := (2 : Int32)) (pc := 23) hx hb dX7_meanDegree_23 (by decide) ?_
    refine lv_aload_n (pc := 24) hx hb dX7_meanDegree_24 rfl (lv_at hl 0 rfl) ?_
    obtain ⟨v4, h_v4, h⟩ := ob h
    refine rdV (pc := 25) (As := []) (rest := [.int (2 : Int32)]) hx hb hml hown hts hG hP (c_Mod_edgeTotal l K ad (0 : Int32) mnow mold mols msav miss minp mlen mat v3.1 v3.2.1 v3.2.2 mkep mkee mwor mnum mmet F h_v4) [0, 1, 2, 3, 4, 5, 6, 7, 8, 9, 10, 11] rfl (q0 := 0) rfl (ci := 7) rfl g_Mod_222 hd_Mod_edgeTotal rfl ⟨Nat.le_of_ble_eq_true rfl, Nat.le_of_ble_eq_true rfl⟩ ⟨Nat.zero_le _, Nat.zero_le _⟩ hl rfl (Nat.le_of_ble_eq_true rfl) dX7_meanDegree_25 ?_
    refine lv_imul (pc := 28) hx hb dX7_meanDegree_28 ?_
    refine lv_i2d (pc := 29) hx hb dX7_meanDegree_29 ?_
    refine lv_aload_n (pc := 30) hx hb dX7_meanDegree_30 rfl (lv_at hl 0 rfl) ?_
    obtain ⟨v5, h_v5, h⟩ := ob h
    refine rdV (pc := 31) (As := []) (rest := [.double (FP.i2d ((2 : Int32) * v4))]) hx hb hml hown hts hG hP (c_Mod_n l K ad (0 : Int32) mnow mold mols msav miss minp mlen mat v3.1 v3.2.1 v3.2.2 mkep mkee mwor mnum mmet h_v5) [0, 1, 2, 3, 4, 5, 6, 7, 8, 9, 10, 11] rfl (q0 := 0) rfl (ci := 7) rfl g_Mod_48 hd_Mod_n rfl ⟨Nat.le_of_ble_eq_true rfl, Nat.le_of_ble_eq_true rfl⟩ ⟨Nat.zero_le _, Nat.zero_le _⟩ hl rfl (Nat.le_of_ble_eq_true rfl) dX7_meanDegree_31 ?_
    refine lv_i2d (pc := 34) hx hb dX7_meanDegree_34 ?_
    obtain ⟨v6, h_v6, h⟩ := ob h
    obtain ⟨hi_v6, e_v6⟩ := ddivO_in h_v6
    refine lv_ddiv (pc := 35) hx hb dX7_meanDegree_35 hi_v6 ?_
    rw [e_v6]
    obtain rfl := Option.some.inj h
    exact W.dret hx hb hr (fun t ht hW => ⟨⟨rfl, by rw [ht]; exact hP⟩, hS.F ht⟩) hS.2.2 dX7_meanDegree_36 hlk
  · have h := it_t c2 h
    refine lv_aload_n (pc := 12) hx hb dX7_meanDegree_12 rfl (lv_at hl 0 rfl) ?_
    refine lv_iconst (v := (1 : Int32)) (pc := 13) hx hb dX7_meanDegree_13 (by decide) ?_
    refine wrVi (pc := 14) (As := [.int (1 : Int32)]) (rest := []) (ws2 := wMod K ad ((s_Mod_raises (1 : Int32)).2) mnow mold mols msav miss minp mlen mat medg mcor mtri mkep mkee mwor mnum mmet) (as9 := [ad 0, ad 1, ad 2, ad 3, ad 4, ad 5, ad 6, ad 7, ad 8, ad 9, ad 10, ad 11]) hx hb hml hown hts hG hP hD hS (c_Mod_raises l K ad (0 : Int32) mnow mold mols msav miss minp mlen mat medg mcor mtri mkep mkee mwor mnum mmet (1 : Int32)) [0, 1, 2, 3, 4, 5, 6, 7, 8, 9, 10, 11] rfl rfl rfl rfl [.inl 0, .inl 1, .inl 2, .inl 3, .inl 4, .inl 5, .inl 6, .inl 7, .inl 8, .inl 9, .inl 10, .inl 11] (by decide +kernel) rfl (q0 := 0) rfl (ci := 7) rfl g_Mod_172 hd_Mod_raises rfl ⟨Nat.le_of_ble_eq_true rfl, Nat.le_of_ble_eq_true rfl⟩ ⟨Nat.zero_le _, Nat.zero_le _⟩ hl rfl (Nat.le_of_ble_eq_true rfl) dX7_meanDegree_14 (fun H locs hP hD hS => ?_)
    refine lv_i2d (pc := 17) hx hb dX7_meanDegree_17 ?_
    obtain rfl := Option.some.inj h
    exact W.dret hx hb hr (fun t ht hW => ⟨⟨rfl, by rw [ht]; exact hP⟩, hS.F ht⟩) hS.2.2 dX7_meanDegree_18 hlk
set_option maxHeartbeats 4000000 in
set_option maxRecDepth 100000 in
theorem c_Mod_square (l : Launch) (K : KT) (ad : Nat → Nat) (mthr : Int32) (mnow : Nat → Int32) (mold : Nat → Int32) (mols : Int32) (msav : Nat → Int32) (miss : Bool) (minp : Nat → Int32) (mlen : Int32) (mat : Int32) (medg : Nat → Int32) (mcor : Nat → Int32) (mtri : Int32) (mkep : Nat → Int32) (mkee : Nat → Int32) (mwor : Nat → Int32) (mnum : Nat → Int32) (mmet : Nat → Int32) (a0 : Int32) (a1 : Int32) {o : Int32} (h : s_Mod_square mnow a0 a1 = some o) : Rd l K 1 yX7_square cX7_square 3 .int [.ref (ad 0), .int a0, .int a1] (wMod K ad mthr mnow mold mols msav miss minp mlen mat medg mcor mtri mkep mkee mwor mnum mmet) o := by
  refine Rd.of (by decide +kernel) (Nat.le_of_ble_eq_true rfl) ?_
  unfold s_Mod_square at h
  intro p e s m below meth c hx hb hr hml hown hts hlk hP hG ls hl
  have C0 : Ctx p m c cX7_square 3 s (Array.mk [.ref (ad 0), .int a0, .int a1]) RX7 K meth (some .int) := ⟨hx, hb, hml, hown, hts, hG, hr, hlk⟩
  have hl : lv_has ls 3 [(0, .ref (ad 0)), (1, .int a0), (2, .int a1)] := hl
  refine lv_aload_n (pc := 0) hx hb dX7_square_0 rfl (lv_at hl 0 rfl) ?_
  refine lv_iload_n (pc := 1) hx hb dX7_square_1 rfl (lv_at hl 1 rfl) ?_
  obtain ⟨v1, h_v1, h⟩ := ob h
  refine rdV (pc := 2) (As := [.int a0]) (rest := []) hx hb hml hown hts hG hP (c_Mod_x l K ad mthr mnow mold mols msav miss minp mlen mat medg mcor mtri mkep mkee mwor mnum mmet a0 h_v1) [0, 1, 2, 3, 4, 5, 6, 7, 8, 9, 10, 11] rfl (q0 := 0) rfl (ci := 7) rfl g_Mod_65 hd_Mod_x rfl ⟨Nat.le_of_ble_eq_true rfl, Nat.le_of_ble_eq_true rfl⟩ ⟨Nat.zero_le _, Nat.zero_le _⟩ hl rfl (Nat.le_of_ble_eq_true rfl) dX7_square_2 ?_
  refine lv_aload_n (pc := 5) hx hb dX7_square_5 rfl (lv_at hl 0 rfl) ?_
  refine lv_iload_n (pc := 6) hx hb dX7_square_6 rfl (lv_at hl 2 rfl) ?_
  obtain ⟨v2, h_v2, h⟩ := ob h
  refine rdV (pc := 7) (As := [.int a1]) (rest := [.int v1]) hx hb hml hown hts hG hP (c_Mod_x l K ad mthr mnow mold mols msav miss minp mlen mat medg mcor mtri mkep mkee mwor mnum mmet a1 h_v2) [0, 1, 2, 3, 4, 5, 6, 7, 8, 9, 10, 11] rfl (q0 := 0) rfl (ci := 7) rfl g_Mod_65 hd_Mod_x rfl ⟨Nat.le_of_ble_eq_true rfl, Nat.le_of_ble_eq_true rfl⟩ ⟨Nat.zero_le _, Nat.zero_le _⟩ hl rfl (Nat.le_of_ble_eq_true rfl) dX7_square_7 ?_
  refine lv_isub (pc := 10) hx hb dX7_square_10 ?_
  refine lv_aload_n (pc := 11) hx hb dX7_square_11 rfl (lv_at hl 0 rfl) ?_
  refine lv_iload_n (pc := 12) hx hb dX7_square_12 rfl (lv_at hl 1 rfl) ?_
  obtain ⟨v3, h_v3, h⟩ := ob h
  refine rdV (pc := 13) (As := [.int a0]) (rest := [.int (v1 - v2)]) hx hb hml hown hts hG hP (c_Mod_x l K ad mthr mnow mold mols msav miss minp mlen mat medg mcor mtri mkep mkee mwor mnum mmet a0 h_v3) [0, 1, 2, 3, 4, 5, 6, 7, 8, 9, 10, 11] rfl (q0 := 0) rfl (ci := 7) rfl g_Mod_65 hd_Mod_x rfl ⟨Nat.le_of_ble_eq_true rfl, Nat.le_of_ble_eq_true rfl⟩ ⟨Nat.zero_le _, Nat.zero_le _⟩ hl rfl (Nat.le_of_ble_eq_true rfl) dX7_square_13 ?_
  refine lv_aload_n (pc := 16) hx hb dX7_square_16 rfl (lv_at hl 0 rfl) ?_
  refine lv_iload_n (pc := 17) hx hb dX7_square_17 rfl (lv_at hl 2 rfl) ?_
  obtain ⟨v4, h_v4, h⟩ := ob h
  refine rdV (pc := 18) (As := [.int a1]) (rest := [.int v3, .int (v1 - v2)]) hx hb hml hown hts hG hP (c_Mod_x l K ad mthr mnow mold mols msav miss minp mlen mat medg mcor mtri mkep mkee mwor mnum mmet a1 h_v4) [0, 1, 2, 3, 4, 5, 6, 7, 8, 9, 10, 11] rfl (q0 := 0) rfl (ci := 7) rfl g_Mod_65 hd_Mod_x rfl ⟨Nat.le_of_ble_eq_true rfl, Nat.le_of_ble_eq_true rfl⟩ ⟨Nat.zero_le _, Nat.zero_le _⟩ hl rfl (Nat.le_of_ble_eq_true rfl) dX7_square_18 ?_
  refine lv_isub (pc := 21) hx hb dX7_square_21 ?_
  refine lv_imul (pc := 22) hx hb dX7_square_22 ?_
  refine lv_aload_n (pc := 23) hx hb dX7_square_23 rfl (lv_at hl 0 rfl) ?_
  refine lv_iload_n (pc := 24) hx hb dX7_square_24 rfl (lv_at hl 1 rfl) ?_
  obtain ⟨v5, h_v5, h⟩ := ob h
  refine rdV (pc := 25) (As := [.int a0]) (rest := [.int ((v1 - v2) * (v3 - v4))]) hx hb hml hown hts hG hP (c_Mod_y l K ad mthr mnow mold mols msav miss minp mlen mat medg mcor mtri mkep mkee mwor mnum mmet a0 h_v5) [0, 1, 2, 3, 4, 5, 6, 7, 8, 9, 10, 11] rfl (q0 := 0) rfl (ci := 7) rfl g_Mod_68 hd_Mod_y rfl ⟨Nat.le_of_ble_eq_true rfl, Nat.le_of_ble_eq_true rfl⟩ ⟨Nat.zero_le _, Nat.zero_le _⟩ hl rfl (Nat.le_of_ble_eq_true rfl) dX7_square_25 ?_
  refine lv_aload_n (pc := 28) hx hb dX7_square_28 rfl (lv_at hl 0 rfl) ?_
  refine lv_iload_n (pc := 29) hx hb dX7_square_29 rfl (lv_at hl 2 rfl) ?_
  obtain ⟨v6, h_v6, h⟩ := ob h
  refine rdV (pc := 30) (As := [.int a1]) (rest := [.int v5, .int ((v1 - v2) * (v3 - v4))]) hx hb hml hown hts hG hP (c_Mod_y l K ad mthr mnow mold mols msav miss minp mlen mat medg mcor mtri mkep mkee mwor mnum mmet a1 h_v6) [0, 1, 2, 3, 4, 5, 6, 7, 8, 9, 10, 11] rfl (q0 := 0) rfl (ci := 7) rfl g_Mod_68 hd_Mod_y rfl ⟨Nat.le_of_ble_eq_true rfl, Nat.le_of_ble_eq_true rfl⟩ ⟨Nat.zero_le _, Nat.zero_le _⟩ hl rfl (Nat.le_of_ble_eq_true rfl) dX7_square_30 ?_
  refine lv_isub (pc := 33) hx hb dX7_square_33 ?_
  refine lv_aload_n (pc := 34) hx hb dX7_square_34 rfl (lv_at hl 0 rfl) ?_
  refine lv_iload_n (pc := 35) hx hb dX7_square_35 rfl (lv_at hl 1 rfl) ?_
  obtain ⟨v7, h_v7, h⟩ := ob h
  refine rdV (pc := 36) (As := [.int a0]) (rest := [.int (v5 - v6), .int ((v1 - v2) * (v3 - v4))]) hx hb hml hown hts hG hP (c_Mod_y l K ad mthr mnow mold mols msav miss minp mlen mat medg mcor mtri mkep mkee mwor mnum mmet a0 h_v7) [0, 1, 2, 3, 4, 5, 6, 7, 8, 9, 10, 11] rfl (q0 := 0) rfl (ci := 7) rfl g_Mod_68 hd_Mod_y rfl ⟨Nat.le_of_ble_eq_true rfl, Nat.le_of_ble_eq_true rfl⟩ ⟨Nat.zero_le _, Nat.zero_le _⟩ hl rfl (Nat.le_of_ble_eq_true rfl) dX7_square_36 ?_
  refine lv_aload_n (pc := 39) hx hb dX7_square_39 rfl (lv_at hl 0 rfl) ?_
  refine lv_iload_n (pc := 40) hx hb dX7_square_40 rfl (lv_at hl 2 rfl) ?_
  obtain ⟨v8, h_v8, h⟩ := ob h
  refine rdV (pc := 41) (As := [.int a1]) (rest := [.int v7, .int (v5 - v6), .int ((v1 - v2) * (v3 - v4))]) hx hb hml hown hts hG hP (c_Mod_y l K ad mthr mnow mold mols msav miss minp mlen mat medg mcor mtri mkep mkee mwor mnum mmet a1 h_v8) [0, 1, 2, 3, 4, 5, 6, 7, 8, 9, 10, 11] rfl (q0 := 0) rfl (ci := 7) rfl g_Mod_68 hd_Mod_y rfl ⟨Nat.le_of_ble_eq_true rfl, Nat.le_of_ble_eq_true rfl⟩ ⟨Nat.zero_le _, Nat.zero_le _⟩ hl rfl (Nat.le_of_ble_eq_true rfl) dX7_square_41 ?_
  refine lv_isub (pc := 44) hx hb dX7_square_44 ?_
  refine lv_imul (pc := 45) hx hb dX7_square_45 ?_
  refine lv_iadd (pc := 46) hx hb dX7_square_46 ?_
  obtain rfl := Option.some.inj h
  exact W.iret hx hb hr (fun t ht hW => ⟨rfl, ht⟩) (fun q hq => absurd hq List.not_mem_nil) dX7_square_47 hlk
set_option maxHeartbeats 4000000 in
set_option maxRecDepth 100000 in
theorem l_Mod_connects_L2 {p : Program} {l : Launch} {e : Env} {s : State} {m : MethodId} {args : Array Value} {below : List Frame} {meth : Method} {c : Code} {Q : State → Prop} {K : KT} {A : Nat → Prop} (C0 : Ctx p m c cX7_connects 7 s args RX7 K meth (some .int)) (F : Nat) (ad : Nat → Nat) (mthr : Int32) (mnow : Nat → Int32) (mold : Nat → Int32) (mols : Int32) (msav : Nat → Int32) (miss : Bool) (minp : Nat → Int32) (mlen : Int32) (mat : Int32) (medg : Nat → Int32) (mcor : Nat → Int32) (mtri : Int32) (mkep : Nat → Int32) (mkee : Nat → Int32) (mwor : Nat → Int32) (mnum : Nat → Int32)  : ∀ (n : Nat) (x1 : Int32) (mmet : Nat → Int32) (out : Int32 × (Nat → Int32)), s_Mod_connects_L2 mnow n x1 mmet = some out → ∀ (H : Heap) (locs : List Loc) (ls : Array Slot), va_P K.1 vC (wMod K ad mthr mnow mold mols msav miss minp mlen mat medg mcor mtri mkep mkee mwor mnum mmet) H → va_D A (wMod K ad mthr mnow mold mols msav miss minp mlen mat medg mcor mtri mkep mkee mwor mnum mmet) → va_S A s.heap H locs → lv_has ls 7 [(0, .ref (ad 0)), (1, .int x1)] → (∀ (o : Int32 × (Nat → Int32)) (H : Heap) (locs : List Loc) (ls : Array Slot), out = o → va_P K.1 vC (wMod K ad mthr mnow mold mols msav miss minp mlen mat medg mcor mtri mkep mkee mwor mnum o.2) H → va_D A (wMod K ad mthr mnow mold mols msav miss minp mlen mat medg mcor mtri mkep mkee mwor mnum o.2) → va_S A s.heap H locs → lv_has ls 7 [(0, .ref (ad 0)), (1, .int o.1)] → W p l e (rmL 2) s m args below meth c H locs 0 0 Q (F0 m 31 ls [])) → W p l e (rmL 2) s m args below meth c H locs 0 0 Q (F0 m 2 ls []) := by
  obtain ⟨hx, hb, hml, hown, hts, hG, hr, hlk⟩ := id C0
  intro n
  induction n with
  | zero =>
    intro x1 mmet out h
    cases h
  | succ n ih =>
    intro x1 mmet out h H locs ls hP hD hS hl Kx 
    rw [s_Mod_connects_L2.eq_2] at h
    refine lv_iload_n (pc := 2) hx hb dX7_connects_2 rfl (lv_at hl 1 rfl) ?_
    refine lv_aload_n (pc := 3) hx hb dX7_connects_3 rfl (lv_at hl 0 rfl) ?_
    obtain ⟨v1, h_v1, h⟩ := ob h
    refine rdV (pc := 4) (As := []) (rest := [.int x1]) hx hb hml hown hts hG hP (c_Mod_n l K ad mthr mnow mold mols msav miss minp mlen mat medg mcor mtri mkep mkee mwor mnum mmet h_v1) [0, 1, 2, 3, 4, 5, 6, 7, 8, 9, 10, 11] rfl (q0 := 0) rfl (ci := 7) rfl g_Mod_48 hd_Mod_n rfl ⟨Nat.le_of_ble_eq_true rfl, Nat.le_of_ble_eq_true rfl⟩ ⟨Nat.zero_le _, Nat.zero_le _⟩ hl rfl (Nat.le_of_ble_eq_true rfl) dX7_connects_4 ?_
    refine lv_icmp_ge (tgt := 31) (pc := 7) hx hb dX7_connects_7 (by decide) (fun c2 => ?_) (fun c2 => ?_)
    · have h := it_t c2 h
      obtain rfl := Option.some.inj h
      exact Kx _ H locs ls rfl hP hD hS (lv_sub hl [0, 1] rfl)
    · have h := it_f c2 h
      refine lv_aload_n (pc := 10) hx hb dX7_connects_10 rfl (lv_at hl 0 rfl) ?_
      refine va_get (D := K.1) (ci := 7) (v := .ref (ad 11)) (C := RX7) (T := TX7) (N := 17) (pc := 11) hx hb hts inT7 hown hG.1 hP 0 rfl rfl 16 (by decide) (hts _ qf_Mod_41) (fun _ h9 => h9) rfl dX7_connects_11 ?_
      refine lv_iload_n (pc := 14) hx hb dX7_connects_14 rfl (lv_at hl 1 rfl) ?_
      refine lv_iload_n (pc := 15) hx hb dX7_connects_15 rfl (lv_at hl 1 rfl) ?_
      refine lv_if_ne (tgt := 23) (pc := 16) hx hb dX7_connects_16 (by decide) (fun c3 => ?_) (fun c3 => ?_)
      · have h := it_f c3 h
        refine lv_iconst (v := (0 : Int32)) (pc := 23) hx hb dX7_connects_23 (by decide) ?_
        obtain ⟨v4, h_v4, h⟩ := ob h
        obtain ⟨hi_v4, e_v4⟩ := aset_in h_v4
        refine va_zast (pc := 24) hx hb hG.1 hP hD hS 11 1 rfl rfl hi_v4 dX7_connects_24 (fun H locs hP hD hS => ?_)
        rw [e_v4] at hP hD
        have hP : va_P K.1 vC (wMod K ad mthr mnow mold mols msav miss minp mlen mat medg mcor mtri mkep mkee mwor mnum v4) H := hP
        have hD : va_D _ (wMod K ad mthr mnow mold mols msav miss minp mlen mat medg mcor mtri mkep mkee mwor mnum v4) := hD
        refine lv_iinc (v := (x1 + (1 : Int32))) (pc := 25) (lv' := [(1, .int (x1 + (1 : Int32))), (0, .ref (ad 0))]) hx hb dX7_connects_25 hl (k := 1) rfl rfl (by decide) rfl (fun ls hl => ?_)
        refine lv_goto (tgt := 2) (pc := 28) hx hb dX7_connects_28 (by decide) ?_
        exact ih (x1 + (1 : Int32)) v4 out h H locs ls hP hD hS (lv_sub hl [1, 0] rfl) Kx 
      · have h := it_t c3 h
        refine lv_iconst (v := (1 : Int32)) (pc := 19) hx hb dX7_connects_19 (by decide) ?_
        refine lv_goto (tgt := 24) (pc := 20) hx hb dX7_connects_20 (by decide) ?_
        obtain ⟨v5, h_v5, h⟩ := ob h
        obtain ⟨hi_v5, e_v5⟩ := aset_in h_v5
        refine va_zast (pc := 24) hx hb hG.1 hP hD hS 11 1 rfl rfl hi_v5 dX7_connects_24 (fun H locs hP hD hS => ?_)
        rw [e_v5] at hP hD
        have hP : va_P K.1 vC (wMod K ad mthr mnow mold mols msav miss minp mlen mat medg mcor mtri mkep mkee mwor mnum v5) H := hP
        have hD : va_D _ (wMod K ad mthr mnow mold mols msav miss minp mlen mat medg mcor mtri mkep mkee mwor mnum v5) := hD
        refine lv_iinc (v := (x1 + (1 : Int32))) (pc := 25) (lv' := [(1, .int (x1 + (1 : Int32))), (0, .ref (ad 0))]) hx hb dX7_connects_25 hl (k := 1) rfl rfl (by decide) rfl (fun ls hl => ?_)
        refine lv_goto (tgt := 2) (pc := 28) hx hb dX7_connects_28 (by decide) ?_
        exact ih (x1 + (1 : Int32)) v5 out h H locs ls hP hD hS (lv_sub hl [1, 0] rfl) Kx 
set_option maxHeartbeats 4000000 in
set_option maxRecDepth 100000 in
theorem l_Mod_connects_L64 {p : Program} {l : Launch} {e : Env} {s : State} {m : MethodId} {args : Array Value} {below : List Frame} {meth : Method} {c : Code} {Q : State → Prop} {K : KT} {A : Nat → Prop} (C0 : Ctx p m c cX7_connects 7 s args RX7 K meth (some .int)) (F : Nat) (ad : Nat → Nat) (mthr : Int32) (mnow : Nat → Int32) (mold : Nat → Int32) (mols : Int32) (msav : Nat → Int32) (miss : Bool) (minp : Nat → Int32) (mlen : Int32) (mat : Int32) (medg : Nat → Int32) (mcor : Nat → Int32) (mtri : Int32) (mkep : Nat → Int32) (mkee : Nat → Int32) (mwor : Nat → Int32) (mnum : Nat → Int32) (mmet : Nat → Int32) (x1 : Int32) (x2 : Int32) (x5 : Int32)  : ∀ (n : Nat) (x3 : Int32) (x4 : Int32) (x6 : Int32) (out : Int32 × Int32 × Int32), s_Mod_connects_L64 mnow medg mmet x5 n x3 x4 x6 = some out → ∀ (H : Heap) (locs : List Loc) (ls : Array Slot), va_P K.1 vC (wMod K ad mthr mnow mold mols msav miss minp mlen mat medg mcor mtri mkep mkee mwor mnum mmet) H → va_D A (wMod K ad mthr mnow mold mols msav miss minp mlen mat medg mcor mtri mkep mkee mwor mnum mmet) → va_S A s.heap H locs → lv_has ls 7 [(0, .ref (ad 0)), (1, .int x1), (2, .int x2), (3, .int x3), (4, .int x4), (5, .int x5), (6, .int x6)] → (∀ (o : Int32 × Int32 × Int32) (H : Heap) (locs : List Loc) (ls : Array Slot), out = o → va_P K.1 vC (wMod K ad mthr mnow mold mols msav miss minp mlen mat medg mcor mtri mkep mkee mwor mnum mmet) H → va_D A (wMod K ad mthr mnow mold mols msav miss minp mlen mat medg mcor mtri mkep mkee mwor mnum mmet) → va_S A s.heap H locs → lv_has ls 7 [(0, .ref (ad 0)), (1, .int x1), (2, .int x2), (3, .int o.1), (4, .int o.2.1), (5, .int x5), (6, .int o.2.2)] → W p l e (rmL 2) s m args below meth c H locs 0 0 Q (F0 m 138 ls [])) → W p l e (rmL 2) s m args below meth c H locs 0 0 Q (F0 m 64 ls []) := by
  obtain ⟨hx, hb, hml, hown, hts, hG, hr, hlk⟩ := id C0
  intro n
  induction n with
  | zero =>
    intro x3 x4 x6 out h
    cases h
  | succ n ih =>
    intro x3 x4 x6 out h H locs ls hP hD hS hl Kx 
    rw [s_Mod_connects_L64.eq_2] at h
    refine lv_iload (pc := 64) hx hb dX7_connects_64 (lv_at hl 6 rfl) ?_
    refine lv_aload_n (pc := 66) hx hb dX7_connects_66 rfl (lv_at hl 0 rfl) ?_
    obtain ⟨v11, h_v11, h⟩ := ob h
    refine rdV (pc := 67) (As := []) (rest := [.int x6]) hx hb hml hown hts hG hP (c_Mod_n l K ad mthr mnow mold mols msav miss minp mlen mat medg mcor mtri mkep mkee mwor mnum mmet h_v11) [0, 1, 2, 3, 4, 5, 6, 7, 8, 9, 10, 11] rfl (q0 := 0) rfl (ci := 7) rfl g_Mod_48 hd_Mod_n rfl ⟨Nat.le_of_ble_eq_true rfl, Nat.le_of_ble_eq_true rfl⟩ ⟨Nat.zero_le _, Nat.zero_le _⟩ hl rfl (Nat.le_of_ble_eq_true rfl) dX7_connects_67 ?_
    refine lv_icmp_ge (tgt := 138) (pc := 70) hx hb dX7_connects_70 (by decide) (fun c12 => ?_) (fun c12 => ?_)
    · have h := it_t c12 h
      obtain rfl := Option.some.inj h
      exact Kx _ H locs ls rfl hP hD hS (lv_sub hl [0, 1, 2, 3, 4, 5, 6] rfl)
    · have h := it_f c12 h
      refine lv_aload_n (pc := 73) hx hb dX7_connects_73 rfl (lv_at hl 0 rfl) ?_
      refine va_get (D := K.1) (ci := 7) (v := .ref (ad 11)) (C := RX7) (T := TX7) (N := 17) (pc := 74) hx hb hts inT7 hown hG.1 hP 0 rfl rfl 16 (by decide) (hts _ qf_Mod_41) (fun _ h9 => h9) rfl dX7_connects_74 ?_
      refine lv_iload (pc := 77) hx hb dX7_connects_77 (lv_at hl 5 rfl) ?_
      obtain ⟨v13, h_v13, h⟩ := ob h
      obtain ⟨hi_v13, e_v13⟩ := aget_in h_v13
      refine va_zald (pc := 79) hx hb hG.1 hP 11 1 rfl rfl hi_v13 dX7_connects_79 ?_
      rw [e_v13]
      refine lv_if_eq (tgt := 132) (pc := 80) hx hb dX7_connects_80 (by decide) (fun c14 => ?_) (fun c14 => ?_)
      · have h := it_t c14 h
        refine lv_iinc (v := (x6 + (1 : Int32))) (pc := 132) (lv' := [(6, .int (x6 + (1 : Int32))), (0, .ref (ad 0)), (1, .int x1), (2, .int x2), (3, .int x3), (4, .int x4), (5, .int x5)]) hx hb dX7_connects_132 hl (k := 6) rfl rfl (by decide) rfl (fun ls hl => ?_)
        refine lv_goto (tgt := 64) (pc := 135) hx hb dX7_connects_135 (by decide) ?_
        exact ih x3 x4 (x6 + (1 : Int32)) out h H locs ls hP hD hS (lv_sub hl [1, 2, 3, 4, 5, 6, 0] rfl) Kx 
      · have h := it_f c14 h
        refine lv_aload_n (pc := 83) hx hb dX7_connects_83 rfl (lv_at hl 0 rfl) ?_
        refine va_get (D := K.1) (ci := 7) (v := .ref (ad 11)) (C := RX7) (T := TX7) (N := 17) (pc := 84) hx hb hts inT7 hown hG.1 hP 0 rfl rfl 16 (by decide) (hts _ qf_Mod_41) (fun _ h9 => h9) rfl dX7_connects_84 ?_
        refine lv_iload (pc := 87) hx hb dX7_connects_87 (lv_at hl 6 rfl) ?_
        obtain ⟨v15, h_v15, h⟩ := ob h
        obtain ⟨hi_v15, e_v15⟩ := aget_in h_v15
        refine va_zald (pc := 89) hx hb hG.1 hP 11 1 rfl rfl hi_v15 dX7_connects_89 ?_
        rw [e_v15]
        refine lv_if_ne (tgt := 132) (pc := 90) hx hb dX7_connects_90 (by decide) (fun c16 => ?_) (fun c16 => ?_)
        · have h := it_f c16 h
          refine lv_iinc (v := (x6 + (1 : Int32))) (pc := 132) (lv' := [(6, .int (x6 + (1 : Int32))), (0, .ref (ad 0)), (1, .int x1), (2, .int x2), (3, .int x3), (4, .int x4), (5, .int x5)]) hx hb dX7_connects_132 hl (k := 6) rfl rfl (by decide) rfl (fun ls hl => ?_)
          refine lv_goto (tgt := 64) (pc := 135) hx hb dX7_connects_135 (by decide) ?_
          exact ih x3 x4 (x6 + (1 : Int32)) out h H locs ls hP hD hS (lv_sub hl [1, 2, 3, 4, 5, 6, 0] rfl) Kx 
        · have h := it_t c16 h
          refine lv_aload_n (pc := 93) hx hb dX7_connects_93 rfl (lv_at hl 0 rfl) ?_
          refine lv_iload (pc := 94) hx hb dX7_connects_94 (lv_at hl 5 rfl) ?_
          refine lv_iload (pc := 96) hx hb dX7_connects_96 (lv_at hl 6 rfl) ?_
          obtain ⟨v17, h_v17, h⟩ := ob h
          refine rdV (pc := 98) (As := [.int x5, .int x6]) (rest := []) hx hb hml hown hts hG hP (c_Mod_has l K ad mthr mnow mold mols msav miss minp mlen mat medg mcor mtri mkep mkee mwor mnum mmet x5 x6 h_v17) [0, 1, 2, 3, 4, 5, 6, 7, 8, 9, 10, 11] rfl (q0 := 0) rfl (ci := 7) rfl g_Mod_104 hd_Mod_has rfl ⟨Nat.le_of_ble_eq_true rfl, Nat.le_of_ble_eq_true rfl⟩ ⟨Nat.zero_le _, Nat.zero_le _⟩ hl rfl (Nat.le_of_ble_eq_true rfl) dX7_connects_98 ?_
          refine lv_if_eq (tgt := 132) (pc := 101) hx hb dX7_connects_101 (by decide) (fun c18 => ?_) (fun c18 => ?_)
          · have h := it_t c18 h
            refine lv_iinc (v := (x6 + (1 : Int32))) (pc := 132) (lv' := [(6, .int (x6 + (1 : Int32))), (0, .ref (ad 0)), (1, .int x1), (2, .int x2), (3, .int x3), (4, .int x4), (5, .int x5)]) hx hb dX7_connects_132 hl (k := 6) rfl rfl (by decide) rfl (fun ls hl => ?_)
            refine lv_goto (tgt := 64) (pc := 135) hx hb dX7_connects_135 (by decide) ?_
            exact ih x3 x4 (x6 + (1 : Int32)) out h H locs ls hP hD hS (lv_sub hl [1, 2, 3, 4, 5, 6, 0] rfl) Kx 
          · have h := it_f c18 h
            refine lv_aload_n (pc := 104) hx hb dX7_connects_104 rfl (lv_at hl 0 rfl) ?_
            refine lv_iload (pc := 105) hx hb dX7_connects_105 (lv_at hl 5 rfl) ?_
            refine lv_iload (pc := 107) hx hb dX7_connects_107 (lv_at hl 6 rfl) ?_
            obtain ⟨v19, h_v19, h⟩ := ob h
            refine rdV (pc := 109) (As := [.int x5, .int x6]) (rest := []) hx hb hml hown hts hG hP (c_Mod_square l K ad mthr mnow mold mols msav miss minp mlen mat medg mcor mtri mkep mkee mwor mnum mmet x5 x6 h_v19) [0, 1, 2, 3, 4, 5, 6, 7, 8, 9, 10, 11] rfl (q0 := 0) rfl (ci := 7) rfl g_Mod_241 hd_Mod_square rfl ⟨Nat.le_of_ble_eq_true rfl, Nat.le_of_ble_eq_true rfl⟩ ⟨Nat.zero_le _, Nat.zero_le _⟩ hl rfl (Nat.le_of_ble_eq_true rfl) dX7_connects_109 ?_
            refine lv_iload_n (pc := 112) hx hb dX7_connects_112 rfl (lv_at hl 3 rfl) ?_
            refine lv_icmp_lt (tgt := 119) (pc := 113) hx hb dX7_connects_113 (by decide) (fun c20 => ?_) (fun c20 => ?_)
            · have h := it_t c20 h
              refine lv_aload_n (pc := 119) hx hb dX7_connects_119 rfl (lv_at hl 0 rfl) ?_
              refine lv_iload (pc := 120) hx hb dX7_connects_120 (lv_at hl 5 rfl) ?_
              refine lv_iload (pc := 122) hx hb dX7_connects_122 (lv_at hl 6 rfl) ?_
              obtain ⟨v21, h_v21, h⟩ := ob h
              refine rdV (pc := 124) (As := [.int x5, .int x6]) (rest := []) hx hb hml hown hts hG hP (c_Mod_square l K ad mthr mnow mold mols msav miss minp mlen mat medg mcor mtri mkep mkee mwor mnum mmet x5 x6 h_v21) [0, 1, 2, 3, 4, 5, 6, 7, 8, 9, 10, 11] rfl (q0 := 0) rfl (ci := 7) rfl g_Mod_241 hd_Mod_square rfl ⟨Nat.le_of_ble_eq_true rfl, Nat.le_of_ble_eq_true rfl⟩ ⟨Nat.zero_le _, Nat.zero_le _⟩ hl rfl (Nat.le_of_ble_eq_true rfl) dX7_connects_124 ?_
              refine lv_istore_n (pc := 127) (lv' := [(3, .int v21), (0, .ref (ad 0)), (1, .int x1), (2, .int x2), (4, .int x4), (5, .int x5), (6, .int x6)]) hx hb dX7_connects_127 rfl hl (by decide) rfl (fun ls hl => ?_)
              refine lv_iload (pc := 128) hx hb dX7_connects_128 (lv_at hl 6 rfl) ?_
              refine lv_istore (pc := 130) (lv' := [(4, .int x6), (3, .int v21), (0, .ref (ad 0)), (1, .int x1), (2, .int x2), (5, .int x5), (6, .int x6)]) hx hb dX7_connects_130 hl (by decide) rfl (fun ls hl => ?_)
              refine lv_iinc (v := (x6 + (1 : Int32))) (pc := 132) (lv' := [(6, .int (x6 + (1 : Int32))), (4, .int x6), (3, .int v21), (0, .ref (ad 0)), (1, .int x1), (2, .int x2), (5, .int x5)]) hx hb dX7_connects_132 hl (k := 6) rfl rfl (by decide) rfl (fun ls hl => ?_)
              refine lv_goto (tgt := 64) (pc := 135) hx hb dX7_connects_135 (by decide) ?_
              exact ih v21 x6 (x6 + (1 : Int32)) out h H locs ls hP hD hS (lv_sub hl [3, 4, 5, 2, 1, 6, 0] rfl) Kx 
            · have h := it_f c20 h
              refine lv_goto (tgt := 132) (pc := 116) hx hb dX7_connects_116 (by decide) ?_
              refine lv_iinc (v := (x6 + (1 : Int32))) (pc := 132) (lv' := [(6, .int (x6 + (1 : Int32))), (0, .ref (ad 0)), (1, .int x1), (2, .int x2), (3, .int x3), (4, .int x4), (5, .int x5)]) hx hb dX7_connects_132 hl (k := 6) rfl rfl (by decide) rfl (fun ls hl => ?_)
              refine lv_goto (tgt := 64) (pc := 135) hx hb dX7_connects_135 (by decide) ?_
              exact ih x3 x4 (x6 + (1 : Int32)) out h H locs ls hP hD hS (lv_sub hl [1, 2, 3, 4, 5, 6, 0] rfl) Kx 
set_option maxHeartbeats 4000000 in
set_option maxRecDepth 100000 in
theorem l_Mod_connects_L52 {p : Program} {l : Launch} {e : Env} {s : State} {m : MethodId} {args : Array Value} {below : List Frame} {meth : Method} {c : Code} {Q : State → Prop} {K : KT} {A : Nat → Prop} (C0 : Ctx p m c cX7_connects 7 s args RX7 K meth (some .int)) (F : Nat) (ad : Nat → Nat) (mthr : Int32) (mnow : Nat → Int32) (mold : Nat → Int32) (mols : Int32) (msav : Nat → Int32) (miss : Bool) (minp : Nat → Int32) (mlen : Int32) (mat : Int32) (medg : Nat → Int32) (mcor : Nat → Int32) (mtri : Int32) (mkep : Nat → Int32) (mkee : Nat → Int32) (mwor : Nat → Int32) (mnum : Nat → Int32) (mmet : Nat → Int32) (x1 : Int32) (x2 : Int32)  : ∀ (n : Nat) (x3 : Int32) (x4 : Int32) (x5 : Int32) (out : Int32 × Int32 × Int32), s_Mod_connects_L52 F mnow medg mmet n x3 x4 x5 = some out → ∀ (H : Heap) (locs : List Loc) (ls : Array Slot), va_P K.1 vC (wMod K ad mthr mnow mold mols msav miss minp mlen mat medg mcor mtri mkep mkee mwor mnum mmet) H → va_D A (wMod K ad mthr mnow mold mols msav miss minp mlen mat medg mcor mtri mkep mkee mwor mnum mmet) → va_S A s.heap H locs → lv_has ls 7 [(0, .ref (ad 0)), (1, .int x1), (2, .int x2), (3, .int x3), (4, .int x4), (5, .int x5)] → (∀ (o : Int32 × Int32 × Int32) (H : Heap) (locs : List Loc) (ls : Array Slot), out = o → va_P K.1 vC (wMod K ad mthr mnow mold mols msav miss minp mlen mat medg mcor mtri mkep mkee mwor mnum mmet) H → va_D A (wMod K ad mthr mnow mold mols msav miss minp mlen mat medg mcor mtri mkep mkee mwor mnum mmet) → va_S A s.heap H locs → lv_has ls 7 [(0, .ref (ad 0)), (1, .int x1), (2, .int x2), (3, .int o.1), (4, .int o.2.1), (5, .int o.2.2)] → W p l e (rmL 2) s m args below meth c H locs 0 0 Q (F0 m 144 ls [])) → W p l e (rmL 2) s m args below meth c H locs 0 0 Q (F0 m 52 ls []) := by
  obtain ⟨hx, hb, hml, hown, hts, hG, hr, hlk⟩ := id C0
  intro n
  induction n with
  | zero =>
    intro x3 x4 x5 out h
    cases h
  | succ n ih =>
    intro x3 x4 x5 out h H locs ls hP hD hS hl Kx 
    rw [s_Mod_connects_L52.eq_2] at h
    refine lv_iload (pc := 52) hx hb dX7_connects_52 (lv_at hl 5 rfl) ?_
    refine lv_aload_n (pc := 54) hx hb dX7_connects_54 rfl (lv_at hl 0 rfl) ?_
    obtain ⟨v9, h_v9, h⟩ := ob h
    refine rdV (pc := 55) (As := []) (rest := [.int x5]) hx hb hml hown hts hG hP (c_Mod_n l K ad mthr mnow mold mols msav miss minp mlen mat medg mcor mtri mkep mkee mwor mnum mmet h_v9) [0, 1, 2, 3, 4, 5, 6, 7, 8, 9, 10, 11] rfl (q0 := 0) rfl (ci := 7) rfl g_Mod_48 hd_Mod_n rfl ⟨Nat.le_of_ble_eq_true rfl, Nat.le_of_ble_eq_true rfl⟩ ⟨Nat.zero_le _, Nat.zero_le _⟩ hl rfl (Nat.le_of_ble_eq_true rfl) dX7_connects_55 ?_
    refine lv_icmp_ge (tgt := 144) (pc := 58) hx hb dX7_connects_58 (by decide) (fun c10 => ?_) (fun c10 => ?_)
    · have h := it_t c10 h
      obtain rfl := Option.some.inj h
      exact Kx _ H locs ls rfl hP hD hS (lv_sub hl [0, 1, 2, 3, 4, 5] rfl)
    · have h := it_f c10 h
      refine lv_iconst (v := (0 : Int32)) (pc := 61) hx hb dX7_connects_61 (by decide) ?_
      refine lv_istore (pc := 62) (lv' := [(6, .int (0 : Int32)), (0, .ref (ad 0)), (1, .int x1), (2, .int x2), (3, .int x3), (4, .int x4), (5, .int x5)]) hx hb dX7_connects_62 hl (by decide) rfl (fun ls hl => ?_)
      obtain ⟨o22, h_o22, h⟩ := ob h
      refine l_Mod_connects_L64 C0 F ad mthr mnow mold mols msav miss minp mlen mat medg mcor mtri mkep mkee mwor mnum mmet x1 x2 x5 F x3 x4 (0 : Int32) _ h_o22 H locs ls hP hD hS (lv_sub hl [1, 2, 3, 4, 5, 6, 0] rfl) (fun o22x H locs ls eo hP hD hS hl => ?_)
      subst o22
      refine lv_iinc (v := (x5 + (1 : Int32))) (pc := 138) (lv' := [(5, .int (x5 + (1 : Int32))), (0, .ref (ad 0)), (1, .int x1), (2, .int x2), (3, .int o22x.1), (4, .int o22x.2.1), (6, .int o22x.2.2)]) hx hb dX7_connects_138 hl (k := 5) rfl rfl (by decide) rfl (fun ls hl => ?_)
      refine lv_goto (tgt := 52) (pc := 141) hx hb dX7_connects_141 (by decide) ?_
      exact ih o22x.1 o22x.2.1 (x5 + (1 : Int32)) out h H locs ls hP hD hS (lv_sub hl [1, 2, 3, 4, 5, 0] rfl) Kx 
set_option maxHeartbeats 4000000 in
set_option maxRecDepth 100000 in
theorem l_Mod_connects_L35 {p : Program} {l : Launch} {e : Env} {s : State} {m : MethodId} {args : Array Value} {below : List Frame} {meth : Method} {c : Code} {Q : State → Prop} {K : KT} {A : Nat → Prop} (C0 : Ctx p m c cX7_connects 7 s args RX7 K meth (some .int)) (F : Nat) (ad : Nat → Nat) (mthr : Int32) (mnow : Nat → Int32) (mold : Nat → Int32) (mols : Int32) (msav : Nat → Int32) (miss : Bool) (minp : Nat → Int32) (mlen : Int32) (mat : Int32) (medg : Nat → Int32) (mcor : Nat → Int32) (mtri : Int32) (mkep : Nat → Int32) (mkee : Nat → Int32) (mwor : Nat → Int32) (mnum : Nat → Int32)  : ∀ (n : Nat) (x1 : Int32) (x2 : Int32) (mmet : Nat → Int32) (out : Int32 × Int32 × (Nat → Int32)), s_Mod_connects_L35 F mnow medg n x1 x2 mmet = some out → ∀ (H : Heap) (locs : List Loc) (ls : Array Slot), va_P K.1 vC (wMod K ad mthr mnow mold mols msav miss minp mlen mat medg mcor mtri mkep mkee mwor mnum mmet) H → va_D A (wMod K ad mthr mnow mold mols msav miss minp mlen mat medg mcor mtri mkep mkee mwor mnum mmet) → va_S A s.heap H locs → lv_has ls 7 [(0, .ref (ad 0)), (1, .int x1), (2, .int x2)] → (∀ (o : Int32 × Int32 × (Nat → Int32)) (H : Heap) (locs : List Loc) (ls : Array Slot), out = o → va_P K.1 vC (wMod K ad mthr mnow mold mols msav miss minp mlen mat medg mcor mtri mkep mkee mwor mnum o.2.2) H → va_D A (wMod K ad mthr mnow mold mols msav miss minp mlen mat medg mcor mtri mkep mkee mwor mnum o.2.2) → va_S A s.heap H locs → lv_has ls 7 [(0, .ref (ad 0)), (1, .int o.1), (2, .int o.2.1)] → W p l e (rmL 2) s m args below meth c H locs 0 0 Q (F0 m 162 ls [])) → W p l e (rmL 2) s m args below meth c H locs 0 0 Q (F0 m 35 ls []) := by
  obtain ⟨hx, hb, hml, hown, hts, hG, hr, hlk⟩ := id C0
  intro n
  induction n with
  | zero =>
    intro x1 x2 mmet out h
    cases h
  | succ n ih =>
    intro x1 x2 mmet out h H locs ls hP hD hS hl Kx 
    rw [s_Mod_connects_L35.eq_2] at h
    refine lv_iload_n (pc := 35) hx hb dX7_connects_35 rfl (lv_at hl 2 rfl) ?_
    refine lv_aload_n (pc := 36) hx hb dX7_connects_36 rfl (lv_at hl 0 rfl) ?_
    obtain ⟨v7, h_v7, h⟩ := ob h
    refine rdV (pc := 37) (As := []) (rest := [.int x2]) hx hb hml hown hts hG hP (c_Mod_n l K ad mthr mnow mold mols msav miss minp mlen mat medg mcor mtri mkep mkee mwor mnum mmet h_v7) [0, 1, 2, 3, 4, 5, 6, 7, 8, 9, 10, 11] rfl (q0 := 0) rfl (ci := 7) rfl g_Mod_48 hd_Mod_n rfl ⟨Nat.le_of_ble_eq_true rfl, Nat.le_of_ble_eq_true rfl⟩ ⟨Nat.zero_le _, Nat.zero_le _⟩ hl rfl (Nat.le_of_ble_eq_true rfl) dX7_connects_37 ?_
    refine lv_icmp_ge (tgt := 162) (pc := 40) hx hb dX7_connects_40 (by decide) (fun c8 => ?_) (fun c8 => ?_)
    · have h := it_t c8 h
      obtain rfl := Option.some.inj h
      exact Kx _ H locs ls rfl hP hD hS (lv_sub hl [0, 1, 2] rfl)
    · have h := it_f c8 h
      refine lv_ldc (v := (2147483647 : Int32)) (pc := 43) hx hb hown (hts _ qk_Mod_240) dX7_connects_43 ?_
      refine lv_istore_n (pc := 45) (lv' := [(3, .int (2147483647 : Int32)), (0, .ref (ad 0)), (1, .int x1), (2, .int x2)]) hx hb dX7_connects_45 rfl hl (by decide) rfl (fun ls hl => ?_)
      refine lv_iconst (v := (0 : Int32)) (pc := 46) hx hb dX7_connects_46 (by decide) ?_
      refine lv_istore (pc := 47) (lv' := [(4, .int (0 : Int32)), (3, .int (2147483647 : Int32)), (0, .ref (ad 0)), (1, .int x1), (2, .int x2)]) hx hb dX7_connects_47 hl (by decide) rfl (fun ls hl => ?_)
      refine lv_iconst (v := (0 : Int32)) (pc := 49) hx hb dX7_connects_49 (by decide) ?_
      refine lv_istore (pc := 50) (lv' := [(5, .int (0 : Int32)), (4, .int (0 : Int32)), (3, .int (2147483647 : Int32)), (0, .ref (ad 0)), (1, .int x1), (2, .int x2)]) hx hb dX7_connects_50 hl (by decide) rfl (fun ls hl => ?_)
      obtain ⟨o23, h_o23, h⟩ := ob h
      refine l_Mod_connects_L52 C0 F ad mthr mnow mold mols msav miss minp mlen mat medg mcor mtri mkep mkee mwor mnum mmet x1 x2 F (2147483647 : Int32) (0 : Int32) (0 : Int32) _ h_o23 H locs ls hP hD hS (lv_sub hl [3, 4, 5, 2, 1, 0] rfl) (fun o23x H locs ls eo hP hD hS hl => ?_)
      subst o23
      refine lv_aload_n (pc := 144) hx hb dX7_connects_144 rfl (lv_at hl 0 rfl) ?_
      refine va_get (D := K.1) (ci := 7) (v := .ref (ad 11)) (C := RX7) (T := TX7) (N := 17) (pc := 145) hx hb hts inT7 hown hG.1 hP 0 rfl rfl 16 (by decide) (hts _ qf_Mod_41) (fun _ h9 => h9) rfl dX7_connects_145 ?_
      refine lv_iload (pc := 148) hx hb dX7_connects_148 (lv_at hl 4 rfl) ?_
      refine lv_iconst (v := (1 : Int32)) (pc := 150) hx hb dX7_connects_150 (by decide) ?_
      obtain ⟨v24, h_v24, h⟩ := ob h
      obtain ⟨hi_v24, e_v24⟩ := aset_in h_v24
      refine va_zast (pc := 151) hx hb hG.1 hP hD hS 11 1 rfl rfl hi_v24 dX7_connects_151 (fun H locs hP hD hS => ?_)
      rw [e_v24] at hP hD
      have hP : va_P K.1 vC (wMod K ad mthr mnow mold mols msav miss minp mlen mat medg mcor mtri mkep mkee mwor mnum v24) H := hP
      have hD : va_D _ (wMod K ad mthr mnow mold mols msav miss minp mlen mat medg mcor mtri mkep mkee mwor mnum v24) := hD
      refine lv_iload_n (pc := 152) hx hb dX7_connects_152 rfl (lv_at hl 1 rfl) ?_
      refine lv_iload_n (pc := 153) hx hb dX7_connects_153 rfl (lv_at hl 3 rfl) ?_
      refine lv_iadd (pc := 154) hx hb dX7_connects_154 ?_
      refine lv_istore_n (pc := 155) (lv' := [(1, .int (x1 + o23x.1)), (0, .ref (ad 0)), (2, .int x2), (3, .int o23x.1), (4, .int o23x.2.1), (5, .int o23x.2.2)]) hx hb dX7_connects_155 rfl hl (by decide) rfl (fun ls hl => ?_)
      refine lv_iinc (v := (x2 + (1 : Int32))) (pc := 156) (lv' := [(2, .int (x2 + (1 : Int32))), (1, .int (x1 + o23x.1)), (0, .ref (ad 0)), (3, .int o23x.1), (4, .int o23x.2.1), (5, .int o23x.2.2)]) hx hb dX7_connects_156 hl (k := 2) rfl rfl (by decide) rfl (fun ls hl => ?_)
      refine lv_goto (tgt := 35) (pc := 159) hx hb dX7_connects_159 (by decide) ?_
      exact ih (x1 + o23x.1) (x2 + (1 : Int32)) v24 out h H locs ls hP hD hS (lv_sub hl [2, 1, 0] rfl) Kx 
set_option maxHeartbeats 4000000 in
set_option maxRecDepth 100000 in
theorem c_Mod_connects (l : Launch) (K : KT) (ad : Nat → Nat) (mthr : Int32) (mnow : Nat → Int32) (mold : Nat → Int32) (mols : Int32) (msav : Nat → Int32) (miss : Bool) (minp : Nat → Int32) (mlen : Int32) (mat : Int32) (medg : Nat → Int32) (mcor : Nat → Int32) (mtri : Int32) (mkep : Nat → Int32) (mkee : Nat → Int32) (mwor : Nat → Int32) (mnum : Nat → Int32) (mmet : Nat → Int32) (F : Nat) {o : Int32 × (Nat → Int32)} (h : s_Mod_connects F mnow medg mmet = some o) : Wr l K 2 yX7_connects cX7_connects 7 (some .int) [.ref (ad 0)] (wMod K ad mthr mnow mold mols msav miss minp mlen mat medg mcor mtri mkep mkee mwor mnum mmet) (some (.int o.1)) (wMod K ad mthr mnow mold mols msav miss minp mlen mat medg mcor mtri mkep mkee mwor mnum o.2) := by
  refine Wr.of (by decide +kernel) (Nat.le_of_ble_eq_true rfl) ?_
  unfold s_Mod_connects at h
  intro p e s m below meth c hx hb hr hml hown hts hlk H locs hP hG hD hS ls hl
  have C0 : Ctx p m c cX7_connects 7 s (Array.mk [.ref (ad 0)]) RX7 K meth (some .int) := ⟨hx, hb, hml, hown, hts, hG, hr, hlk⟩
  have hl : lv_has ls 7 [(0, .ref (ad 0))] := hl
  refine lv_iconst (v := (0 : Int32)) (pc := 0) hx hb dX7_connects_0 (by decide) ?_
  refine lv_istore_n (pc := 1) (lv' := [(1, .int (0 : Int32)), (0, .ref (ad 0))]) hx hb dX7_connects_1 rfl hl (by decide) rfl (fun ls hl => ?_)
  obtain ⟨o6, h_o6, h⟩ := ob h
  refine l_Mod_connects_L2 C0 F ad mthr mnow mold mols msav miss minp mlen mat medg mcor mtri mkep mkee mwor mnum F (0 : Int32) mmet _ h_o6 H locs ls hP hD hS (lv_sub hl [1, 0] rfl) (fun o6x H locs ls eo hP hD hS hl => ?_)
  subst o6
  refine lv_iconst (v := (0 : Int32)) (pc := 31) hx hb dX7_connects_31 (by decide) ?_
  refine lv_istore_n (pc := 32) (lv' := [(1, .int (0 : Int32)), (0, .ref (ad 0))]) hx hb dX7_connects_32 rfl hl (by decide) rfl (fun ls hl => ?_)
  refine lv_iconst (v := (1 : Int32)) (pc := 33) hx hb dX7_connects_33 (by decide) ?_
  refine lv_istore_n (pc := 34) (lv' := [(2, .int (1 : Int32)), (1, .int (0 : Int32)), (0, .ref (ad 0))]) hx hb dX7_connects_34 rfl hl (by decide) rfl (fun ls hl => ?_)
  obtain ⟨o25, h_o25, h⟩ := ob h
  refine l_Mod_connects_L35 C0 F ad mthr mnow mold mols msav miss minp mlen mat medg mcor mtri mkep mkee mwor mnum F (0 : Int32) (1 : Int32) o6x.2 _ h_o25 H locs ls hP hD hS (lv_sub hl [2, 1, 0] rfl) (fun o25x H locs ls eo hP hD hS hl => ?_)
  subst o25
  refine lv_iload_n (pc := 162) hx hb dX7_connects_162 rfl (lv_at hl 1 rfl) ?_
  obtain rfl := Option.some.inj h
  exact W.iret hx hb hr (fun t ht hW => ⟨⟨rfl, by rw [ht]; exact hP⟩, hS.F ht⟩) hS.2.2 dX7_connects_163 hlk
set_option maxHeartbeats 4000000 in
set_option maxRecDepth 100000 in
theorem l_Mod_squaredLength_L71 {p : Program} {l : Launch} {e : Env} {s : State} {m : MethodId} {args : Array Value} {below : List Frame} {meth : Method} {c : Code} {Q : State → Prop} {K : KT} {A : Nat → Prop} (C0 : Ctx p m c cX7_squaredLength 5 s args RX7 K meth (some .int)) (F : Nat) (ad : Nat → Nat) (mthr : Int32) (mnow : Nat → Int32) (mold : Nat → Int32) (mols : Int32) (msav : Nat → Int32) (miss : Bool) (minp : Nat → Int32) (mlen : Int32) (mat : Int32) (medg : Nat → Int32) (mcor : Nat → Int32) (mtri : Int32) (mkep : Nat → Int32) (mkee : Nat → Int32) (mwor : Nat → Int32) (mnum : Nat → Int32) (mmet : Nat → Int32) (x1 : Int32) (x3 : Int32)  : ∀ (n : Nat) (x2 : Int32) (x4 : Int32) (out : Int32 × Int32), s_Mod_squaredLength_L71 mnow medg x1 x3 n x2 x4 = some out → ∀ (H : Heap) (locs : List Loc) (ls : Array Slot), va_P K.1 vC (wMod K ad mthr mnow mold mols msav miss minp mlen mat medg mcor mtri mkep mkee mwor mnum mmet) H → va_D A (wMod K ad mthr mnow mold mols msav miss minp mlen mat medg mcor mtri mkep mkee mwor mnum mmet) → va_S A s.heap H locs → lv_has ls 5 [(0, .ref (ad 0)), (1, .int x1), (2, .int x2), (3, .int x3), (4, .int x4)] → (∀ (o : Int32 × Int32) (H : Heap) (locs : List Loc) (ls : Array Slot), out = o → va_P K.1 vC (wMod K ad mthr mnow mold mols msav miss minp mlen mat medg mcor mtri mkep mkee mwor mnum mmet) H → va_D A (wMod K ad mthr mnow mold mols msav miss minp mlen mat medg mcor mtri mkep mkee mwor mnum mmet) → va_S A s.heap H locs → lv_has ls 5 [(0, .ref (ad 0)), (1, .int x1), (2, .int o.1), (3, .int x3), (4, .int o.2)] → W p l e (rmL 7) s m args below meth c H locs 0 0 Q (F0 m 126 ls [])) → W p l e (rmL 7) s m args below meth c H locs 0 0 Q (F0 m 71 ls []) := by
  obtain ⟨hx, hb, hml, hown, hts, hG, hr, hlk⟩ := id C0
  intro n
  induction n with
  | zero =>
    intro x2 x4 out h
    cases h
  | succ n ih =>
    intro x2 x4 out h H locs ls hP hD hS hl Kx 
    rw [s_Mod_squaredLength_L71.eq_2] at h
    refine lv_iload (pc := 71) hx hb dX7_squaredLength_71 (lv_at hl 4 rfl) ?_
    refine lv_aload_n (pc := 73) hx hb dX7_squaredLength_73 rfl (lv_at hl 0 rfl) ?_
    obtain ⟨v9, h_v9, h⟩ := ob h
    refine rdV (pc := 74) (As := []) (rest := [.int x4]) hx hb hml hown hts hG hP (c_Mod_n l K ad mthr mnow mold mols msav miss minp mlen mat medg mcor mtri mkep mkee mwor mnum mmet h_v9) [0, 1, 2, 3, 4, 5, 6, 7, 8, 9, 10, 11] rfl (q0 := 0) rfl (ci := 7) rfl g_Mod_48 hd_Mod_n rfl ⟨Nat.le_of_ble_eq_true rfl, Nat.le_of_ble_eq_true rfl⟩ ⟨Nat.zero_le _, Nat.zero_le _⟩ hl rfl (Nat.le_of_ble_eq_true rfl) dX7_squaredLength_74 ?_
    refine lv_icmp_ge (tgt := 126) (pc := 77) hx hb dX7_squaredLength_77 (by decide) (fun c10 => ?_) (fun c10 => ?_)
    · have h := it_t c10 h
      obtain rfl := Option.some.inj h
      exact Kx _ H locs ls rfl hP hD hS (lv_sub hl [0, 1, 2, 3, 4] rfl)
    · have h := it_f c10 h
      refine lv_aload_n (pc := 80) hx hb dX7_squaredLength_80 rfl (lv_at hl 0 rfl) ?_
      refine lv_iload_n (pc := 81) hx hb dX7_squaredLength_81 rfl (lv_at hl 3 rfl) ?_
      refine lv_iload (pc := 82) hx hb dX7_squaredLength_82 (lv_at hl 4 rfl) ?_
      obtain ⟨v11, h_v11, h⟩ := ob h
      refine rdV (pc := 84) (As := [.int x3, .int x4]) (rest := []) hx hb hml hown hts hG hP (c_Mod_has l K ad mthr mnow mold mols msav miss minp mlen mat medg mcor mtri mkep mkee mwor mnum mmet x3 x4 h_v11) [0, 1, 2, 3, 4, 5, 6, 7, 8, 9, 10, 11] rfl (q0 := 0) rfl (ci := 7) rfl g_Mod_104 hd_Mod_has rfl ⟨Nat.le_of_ble_eq_true rfl, Nat.le_of_ble_eq_true rfl⟩ ⟨Nat.zero_le _, Nat.zero_le _⟩ hl rfl (Nat.le_of_ble_eq_true rfl) dX7_squaredLength_84 ?_
      refine lv_if_eq (tgt := 120) (pc := 87) hx hb dX7_squaredLength_87 (by decide) (fun c12 => ?_) (fun c12 => ?_)
      · have h := it_t c12 h
        refine lv_iinc (v := (x4 + (1 : Int32))) (pc := 120) (lv' := [(4, .int (x4 + (1 : Int32))), (0, .ref (ad 0)), (1, .int x1), (2, .int x2), (3, .int x3)]) hx hb dX7_squaredLength_120 hl (k := 4) rfl rfl (by decide) rfl (fun ls hl => ?_)
        refine lv_goto (tgt := 71) (pc := 123) hx hb dX7_squaredLength_123 (by decide) ?_
        exact ih x2 (x4 + (1 : Int32)) out h H locs ls hP hD hS (lv_sub hl [1, 2, 3, 4, 0] rfl) Kx 
      · have h := it_f c12 h
        refine lv_iload_n (pc := 90) hx hb dX7_squaredLength_90 rfl (lv_at hl 1 rfl) ?_
        refine lv_if_ne (tgt := 108) (pc := 91) hx hb dX7_squaredLength_91 (by decide) (fun c13 => ?_) (fun c13 => ?_)
        · have h := it_f c13 h
          refine lv_iload_n (pc := 108) hx hb dX7_squaredLength_108 rfl (lv_at hl 2 rfl) ?_
          refine lv_aload_n (pc := 109) hx hb dX7_squaredLength_109 rfl (lv_at hl 0 rfl) ?_
          refine lv_iload_n (pc := 110) hx hb dX7_squaredLength_110 rfl (lv_at hl 3 rfl) ?_
          refine lv_iload (pc := 111) hx hb dX7_squaredLength_111 (lv_at hl 4 rfl) ?_
          obtain ⟨v14, h_v14, h⟩ := ob h
          refine rdV (pc := 113) (As := [.int x3, .int x4]) (rest := [.int x2]) hx hb hml hown hts hG hP (c_Mod_square l K ad mthr mnow mold mols msav miss minp mlen mat medg mcor mtri mkep mkee mwor mnum mmet x3 x4 h_v14) [0, 1, 2, 3, 4, 5, 6, 7, 8, 9, 10, 11] rfl (q0 := 0) rfl (ci := 7) rfl g_Mod_241 hd_Mod_square rfl ⟨Nat.le_of_ble_eq_true rfl, Nat.le_of_ble_eq_true rfl⟩ ⟨Nat.zero_le _, Nat.zero_le _⟩ hl rfl (Nat.le_of_ble_eq_true rfl) dX7_squaredLength_113 ?_
          refine my_mmax (pc := 116) hx hb hml hl.1 hown hts qm_Mod_89 (Nat.le_of_ble_eq_true rfl) (Nat.le_of_ble_eq_true rfl) ⟨Nat.zero_le _, Nat.zero_le _⟩ dX7_squaredLength_116 ?_
          refine lv_istore_n (pc := 119) (lv' := [(2, .int (imax x2 v14)), (0, .ref (ad 0)), (1, .int x1), (3, .int x3), (4, .int x4)]) hx hb dX7_squaredLength_119 rfl hl (by decide) rfl (fun ls hl => ?_)
          refine lv_iinc (v := (x4 + (1 : Int32))) (pc := 120) (lv' := [(4, .int (x4 + (1 : Int32))), (2, .int (imax x2 v14)), (0, .ref (ad 0)), (1, .int x1), (3, .int x3)]) hx hb dX7_squaredLength_120 hl (k := 4) rfl rfl (by decide) rfl (fun ls hl => ?_)
          refine lv_goto (tgt := 71) (pc := 123) hx hb dX7_squaredLength_123 (by decide) ?_
          exact ih (imax x2 v14) (x4 + (1 : Int32)) out h H locs ls hP hD hS (lv_sub hl [2, 3, 1, 4, 0] rfl) Kx 
        · have h := it_t c13 h
          refine lv_iload_n (pc := 94) hx hb dX7_squaredLength_94 rfl (lv_at hl 2 rfl) ?_
          refine lv_aload_n (pc := 95) hx hb dX7_squaredLength_95 rfl (lv_at hl 0 rfl) ?_
          refine lv_iload_n (pc := 96) hx hb dX7_squaredLength_96 rfl (lv_at hl 3 rfl) ?_
          refine lv_iload (pc := 97) hx hb dX7_squaredLength_97 (lv_at hl 4 rfl) ?_
          obtain ⟨v15, h_v15, h⟩ := ob h
          refine rdV (pc := 99) (As := [.int x3, .int x4]) (rest := [.int x2]) hx hb hml hown hts hG hP (c_Mod_square l K ad mthr mnow mold mols msav miss minp mlen mat medg mcor mtri mkep mkee mwor mnum mmet x3 x4 h_v15) [0, 1, 2, 3, 4, 5, 6, 7, 8, 9, 10, 11] rfl (q0 := 0) rfl (ci := 7) rfl g_Mod_241 hd_Mod_square rfl ⟨Nat.le_of_ble_eq_true rfl, Nat.le_of_ble_eq_true rfl⟩ ⟨Nat.zero_le _, Nat.zero_le _⟩ hl rfl (Nat.le_of_ble_eq_true rfl) dX7_squaredLength_99 ?_
          refine my_mmin (pc := 102) hx hb hml hl.1 hown hts qm_Mod_83 (Nat.le_of_ble_eq_true rfl) (Nat.le_of_ble_eq_true rfl) ⟨Nat.zero_le _, Nat.zero_le _⟩ dX7_squaredLength_102 ?_
          refine lv_goto (tgt := 119) (pc := 105) hx hb dX7_squaredLength_105 (by decide) ?_
          refine lv_istore_n (pc := 119) (lv' := [(2, .int (imin x2 v15)), (0, .ref (ad 0)), (1, .int x1), (3, .int x3), (4, .int x4)]) hx hb dX7_squaredLength_119 rfl hl (by decide) rfl (fun ls hl => ?_)
          refine lv_iinc (v := (x4 + (1 : Int32))) (pc := 120) (lv' := [(4, .int (x4 + (1 : Int32))), (2, .int (imin x2 v15)), (0, .ref (ad 0)), (1, .int x1), (3, .int x3)]) hx hb dX7_squaredLength_120 hl (k := 4) rfl rfl (by decide) rfl (fun ls hl => ?_)
          refine lv_goto (tgt := 71) (pc := 123) hx hb dX7_squaredLength_123 (by decide) ?_
          exact ih (imin x2 v15) (x4 + (1 : Int32)) out h H locs ls hP hD hS (lv_sub hl [2, 3, 1, 4, 0] rfl) Kx 
set_option maxHeartbeats 4000000 in
set_option maxRecDepth 100000 in
theorem l_Mod_squaredLength_L60 {p : Program} {l : Launch} {e : Env} {s : State} {m : MethodId} {args : Array Value} {below : List Frame} {meth : Method} {c : Code} {Q : State → Prop} {K : KT} {A : Nat → Prop} (C0 : Ctx p m c cX7_squaredLength 5 s args RX7 K meth (some .int)) (F : Nat) (ad : Nat → Nat) (mthr : Int32) (mnow : Nat → Int32) (mold : Nat → Int32) (mols : Int32) (msav : Nat → Int32) (miss : Bool) (minp : Nat → Int32) (mlen : Int32) (mat : Int32) (medg : Nat → Int32) (mcor : Nat → Int32) (mtri : Int32) (mkep : Nat → Int32) (mkee : Nat → Int32) (mwor : Nat → Int32) (mnum : Nat → Int32) (mmet : Nat → Int32) (x1 : Int32)  : ∀ (n : Nat) (x2 : Int32) (x3 : Int32) (out : Int32 × Int32), s_Mod_squaredLength_L60 F mnow medg x1 n x2 x3 = some out → ∀ (H : Heap) (locs : List Loc) (ls : Array Slot), va_P K.1 vC (wMod K ad mthr mnow mold mols msav miss minp mlen mat medg mcor mtri mkep mkee mwor mnum mmet) H → va_D A (wMod K ad mthr mnow mold mols msav miss minp mlen mat medg mcor mtri mkep mkee mwor mnum mmet) → va_S A s.heap H locs → lv_has ls 5 [(0, .ref (ad 0)), (1, .int x1), (2, .int x2), (3, .int x3)] → (∀ (o : Int32 × Int32) (H : Heap) (locs : List Loc) (ls : Array Slot), out = o → va_P K.1 vC (wMod K ad mthr mnow mold mols msav miss minp mlen mat medg mcor mtri mkep mkee mwor mnum mmet) H → va_D A (wMod K ad mthr mnow mold mols msav miss minp mlen mat medg mcor mtri mkep mkee mwor mnum mmet) → va_S A s.heap H locs → lv_has ls 5 [(0, .ref (ad 0)), (1, .int x1), (2, .int o.1), (3, .int o.2)] → W p l e (rmL 7) s m args below meth c H locs 0 0 Q (F0 m 132 ls [])) → W p l e (rmL 7) s m args below meth c H locs 0 0 Q (F0 m 60 ls []) := by
  obtain ⟨hx, hb, hml, hown, hts, hG, hr, hlk⟩ := id C0
  intro n
  induction n with
  | zero =>
    intro x2 x3 out h
    cases h
  | succ n ih =>
    intro x2 x3 out h H locs ls hP hD hS hl Kx 
    rw [s_Mod_squaredLength_L60.eq_2] at h
    refine lv_iload_n (pc := 60) hx hb dX7_squaredLength_60 rfl (lv_at hl 3 rfl) ?_
    refine lv_aload_n (pc := 61) hx hb dX7_squaredLength_61 rfl (lv_at hl 0 rfl) ?_
    obtain ⟨v7, h_v7, h⟩ := ob h
    refine rdV (pc := 62) (As := []) (rest := [.int x3]) hx hb hml hown hts hG hP (c_Mod_n l K ad mthr mnow mold mols msav miss minp mlen mat medg mcor mtri mkep mkee mwor mnum mmet h_v7) [0, 1, 2, 3, 4, 5, 6, 7, 8, 9, 10, 11] rfl (q0 := 0) rfl (ci := 7) rfl g_Mod_48 hd_Mod_n rfl ⟨Nat.le_of_ble_eq_true rfl, Nat.le_of_ble_eq_true rfl⟩ ⟨Nat.zero_le _, Nat.zero_le _⟩ hl rfl (Nat.le_of_ble_eq_true rfl) dX7_squaredLength_62 ?_
    refine lv_icmp_ge (tgt := 132) (pc := 65) hx hb dX7_squaredLength_65 (by decide) (fun c8 => ?_) (fun c8 => ?_)
    · have h := it_t c8 h
      obtain rfl := Option.some.inj h
      exact Kx _ H locs ls rfl hP hD hS (lv_sub hl [0, 1, 2, 3] rfl)
    · have h := it_f c8 h
      refine lv_iconst (v := (0 : Int32)) (pc := 68) hx hb dX7_squaredLength_68 (by decide) ?_
      refine lv_istore (pc := 69) (lv' := [(4, .int (0 : Int32)), (0, .ref (ad 0)), (1, .int x1), (2, .int x2), (3, .int x3)]) hx hb dX7_squaredLength_69 hl (by decide) rfl (fun ls hl => ?_)
      obtain ⟨o16, h_o16, h⟩ := ob h
      refine l_Mod_squaredLength_L71 C0 F ad mthr mnow mold mols msav miss minp mlen mat medg mcor mtri mkep mkee mwor mnum mmet x1 x3 F x2 (0 : Int32) _ h_o16 H locs ls hP hD hS (lv_sub hl [1, 2, 3, 4, 0] rfl) (fun o16x H locs ls eo hP hD hS hl => ?_)
      subst o16
      refine lv_iinc (v := (x3 + (1 : Int32))) (pc := 126) (lv' := [(3, .int (x3 + (1 : Int32))), (0, .ref (ad 0)), (1, .int x1), (2, .int o16x.1), (4, .int o16x.2)]) hx hb dX7_squaredLength_126 hl (k := 3) rfl rfl (by decide) rfl (fun ls hl => ?_)
      refine lv_goto (tgt := 60) (pc := 129) hx hb dX7_squaredLength_129 (by decide) ?_
      exact ih o16x.1 (x3 + (1 : Int32)) out h H locs ls hP hD hS (lv_sub hl [1, 2, 3, 0] rfl) Kx 
set_option maxHeartbeats 4000000 in
set_option maxRecDepth 100000 in
theorem c_Mod_squaredLength (l : Launch) (K : KT) (ad : Nat → Nat) (mthr : Int32) (mnow : Nat → Int32) (mold : Nat → Int32) (mols : Int32) (msav : Nat → Int32) (miss : Bool) (minp : Nat → Int32) (mlen : Int32) (mat : Int32) (medg : Nat → Int32) (mcor : Nat → Int32) (mtri : Int32) (mkep : Nat → Int32) (mkee : Nat → Int32) (mwor : Nat → Int32) (mnum : Nat → Int32) (mmet : Nat → Int32) (a0 : Int32) (F : Nat) {o : Int32 × Int32 × (Nat → Int32) × (Nat → Int32) × Int32 × (Nat → Int32)} (h : s_Mod_squaredLength F mnow medg mcor mtri mmet a0 = some o) : Wr l K 7 yX7_squaredLength cX7_squaredLength 5 (some .int) [.ref (ad 0), .int a0] (wMod K ad mthr mnow mold mols msav miss minp mlen mat medg mcor mtri mkep mkee mwor mnum mmet) (some (.int o.1)) (wMod K ad o.2.1 mnow mold mols msav miss minp mlen mat o.2.2.1 o.2.2.2.1 o.2.2.2.2.1 mkep mkee mwor mnum o.2.2.2.2.2) := by
  refine Wr.of (by decide +kernel) (Nat.le_of_ble_eq_true rfl) ?_
  unfold s_Mod_squaredLength at h
  intro p e s m below meth c hx hb hr hml hown hts hlk H locs hP hG hD hS ls hl
  have C0 : Ctx p m c cX7_squaredLength 5 s (Array.mk [.ref (ad 0), .int a0]) RX7 K meth (some .int) := ⟨hx, hb, hml, hown, hts, hG, hr, hlk⟩
  have hl : lv_has ls 5 [(0, .ref (ad 0)), (1, .int a0)] := hl
  refine lv_aload_n (pc := 0) hx hb dX7_squaredLength_0 rfl (lv_at hl 0 rfl) ?_
  refine lv_iconst (v := (0 : Int32)) (pc := 1) hx hb dX7_squaredLength_1 (by decide) ?_
  refine va_put (D := K.1) (ci := 7) (v := .int (0 : Int32)) (ty := .int) (C := RX7) (T := TX7) (N := 17) (pc := 2) hx hb hts inT7 tyX7 tyX7_ok nmX7 hown hG.1 hP hD hS 0 rfl rfl 0 (by decide) (hts _ qf_Mod_44) (fun _ h9 => h9) rfl (by decide +kernel) rfl rfl (Nat.le_of_ble_eq_true rfl) dX7_squaredLength_2 (fun H locs hP hD hS => ?_)
  have hP : va_P K.1 vC (wMod K ad (0 : Int32) mnow mold mols msav miss minp mlen mat medg mcor mtri mkep mkee mwor mnum mmet) H := hP
  have hD : va_D _ (wMod K ad (0 : Int32) mnow mold mols msav miss minp mlen mat medg mcor mtri mkep mkee mwor mnum mmet) := hD
  refine lv_iload_n (pc := 5) hx hb dX7_squaredLength_5 rfl (lv_at hl 1 rfl) ?_
  refine lv_iconst (v := (0 : Int32)) (pc := 6) hx hb dX7_squaredLength_6 (by decide) ?_
  refine lv_iconst (v := (2 : Int32)) (pc := 7) hx hb dX7_squaredLength_7 (by decide) ?_
  refine rdS (pc := 8) (As := [.int a0, .int (0 : Int32), .int (2 : Int32)]) (rest := []) hx hb hml hown hts hG (c_Mod_in l K a0 (0 : Int32) (2 : Int32)) g_Mod_52 hd_Mod_in rfl ⟨Nat.le_of_ble_eq_true rfl, Nat.le_of_ble_eq_true rfl⟩ ⟨Nat.zero_le _, Nat.zero_le _⟩ hl rfl (Nat.le_of_ble_eq_true rfl) dX7_squaredLength_8 ?_
  refine lv_if_ne (tgt := 20) (pc := 11) hx hb dX7_squaredLength_11 (by decide) (fun c1 => ?_) (fun c1 => ?_)
  · have h := it_f c1 h
    refine lv_aload_n (pc := 20) hx hb dX7_squaredLength_20 rfl (lv_at hl 0 rfl) ?_
    obtain ⟨v2, h_v2, h⟩ := ob h
    refine wrVv (pc := 21) (As := []) (rest := []) (ws2 := wMod K ad (0 : Int32) mnow mold mols msav miss minp mlen mat v2.1 v2.2.1 v2.2.2 mkep mkee mwor mnum mmet) (as9 := [ad 0, ad 1, ad 2, ad 3, ad 4, ad 5, ad 6, ad 7, ad 8, ad 9, ad 10, ad 11]) hx hb hml hown hts hG hP hD hS (c_Mod_builds l K ad (0 : Int32) mnow mold mols msav miss minp mlen mat medg mcor mtri mkep mkee mwor mnum mmet F h_v2) [0, 1, 2, 3, 4, 5, 6, 7, 8, 9, 10, 11] rfl rfl rfl rfl [.inl 0, .inl 1, .inl 2, .inl 3, .inl 4, .inl 5, .inl 6, .inl 7, .inl 8, .inl 9, .inl 10, .inl 11] (by decide +kernel) rfl (q0 := 0) rfl (ci := 7) rfl g_Mod_210 hd_Mod_builds rfl ⟨Nat.le_of_ble_eq_true rfl, Nat.le_of_ble_eq_true rfl⟩ ⟨Nat.zero_le _, Nat.zero_le _⟩ hl rfl (Nat.le_of_ble_eq_true rfl) dX7_squaredLength_21 (fun H locs hP hD hS => ?_)
    refine lv_aload_n (pc := 24) hx hb dX7_squaredLength_24 rfl (lv_at hl 0 rfl) ?_
    obtain ⟨v3, h_v3, h⟩ := ob h
    refine rdV (pc := 25) (As := []) (rest := []) hx hb hml hown hts hG hP (c_Mod_edgeTotal l K ad (0 : Int32) mnow mold mols msav miss minp mlen mat v2.1 v2.2.1 v2.2.2 mkep mkee mwor mnum mmet F h_v3) [0, 1, 2, 3, 4, 5, 6, 7, 8, 9, 10, 11] rfl (q0 := 0) rfl (ci := 7) rfl g_Mod_222 hd_Mod_edgeTotal rfl ⟨Nat.le_of_ble_eq_true rfl, Nat.le_of_ble_eq_true rfl⟩ ⟨Nat.zero_le _, Nat.zero_le _⟩ hl rfl (Nat.le_of_ble_eq_true rfl) dX7_squaredLength_25 ?_
    refine lv_if_ne (tgt := 37) (pc := 28) hx hb dX7_squaredLength_28 (by decide) (fun c4 => ?_) (fun c4 => ?_)
    · have h := it_f c4 h
      refine lv_iload_n (pc := 37) hx hb dX7_squaredLength_37 rfl (lv_at hl 1 rfl) ?_
      refine lv_iconst (v := (2 : Int32)) (pc := 38) hx hb dX7_squaredLength_38 (by decide) ?_
      refine lv_icmp_ne (tgt := 47) (pc := 39) hx hb dX7_squaredLength_39 (by decide) (fun c5 => ?_) (fun c5 => ?_)
      · have h := it_f c5 h
        refine lv_iload_n (pc := 47) hx hb dX7_squaredLength_47 rfl (lv_at hl 1 rfl) ?_
        refine lv_if_ne (tgt := 56) (pc := 48) hx hb dX7_squaredLength_48 (by decide) (fun c6 => ?_) (fun c6 => ?_)
        · have h := it_f c6 h
          refine lv_iconst (v := (0 : Int32)) (pc := 56) hx hb dX7_squaredLength_56 (by decide) ?_
          refine lv_istore_n (pc := 57) (lv' := [(2, .int (0 : Int32)), (0, .ref (ad 0)), (1, .int a0)]) hx hb dX7_squaredLength_57 rfl hl (by decide) rfl (fun ls hl => ?_)
          refine lv_iconst (v := (0 : Int32)) (pc := 58) hx hb dX7_squaredLength_58 (by decide) ?_
          refine lv_istore_n (pc := 59) (lv' := [(3, .int (0 : Int32)), (2, .int (0 : Int32)), (0, .ref (ad 0)), (1, .int a0)]) hx hb dX7_squaredLength_59 rfl hl (by decide) rfl (fun ls hl => ?_)
          obtain ⟨o17, h_o17, h⟩ := ob h
          refine l_Mod_squaredLength_L60 C0 F ad (0 : Int32) mnow mold mols msav miss minp mlen mat v2.1 v2.2.1 v2.2.2 mkep mkee mwor mnum mmet a0 F (0 : Int32) (0 : Int32) _ h_o17 H locs ls hP hD hS (lv_sub hl [2, 3, 1, 0] rfl) (fun o17x H locs ls eo hP hD hS hl => ?_)
          subst o17
          refine lv_iload_n (pc := 132) hx hb dX7_squaredLength_132 rfl (lv_at hl 2 rfl) ?_
          obtain rfl := Option.some.inj h
          exact W.iret hx hb hr (fun t ht hW => ⟨⟨rfl, by rw [ht]; exact hP⟩, hS.F ht⟩) hS.2.2 dX7_squaredLength_133 hlk
        · have h := it_t c6 h
          refine lv_ldc (v := (2147483647 : Int32)) (pc := 51) hx hb hown (hts _ qk_Mod_240) dX7_squaredLength_51 ?_
          refine lv_goto (tgt := 57) (pc := 53) hx hb dX7_squaredLength_53 (by decide) ?_
          refine lv_istore_n (pc := 57) (lv' := [(2, .int (2147483647 : Int32)), (0, .ref (ad 0)), (1, .int a0)]) hx hb dX7_squaredLength_57 rfl hl (by decide) rfl (fun ls hl => ?_)
          refine lv_iconst (v := (0 : Int32)) (pc := 58) hx hb dX7_squaredLength_58 (by decide) ?_
          refine lv_istore_n (pc := 59) (lv' := [(3, .int (0 : Int32)), (2, .int (2147483647 : Int32)), (0, .ref (ad 0)), (1, .int a0)]) hx hb dX7_squaredLength_59 rfl hl (by decide) rfl (fun ls hl => ?_)
          obtain ⟨o18, h_o18, h⟩ := ob h
          refine l_Mod_squaredLength_L60 C0 F ad (0 : Int32) mnow mold mols msav miss minp mlen mat v2.1 v2.2.1 v2.2.2 mkep mkee mwor mnum mmet a0 F (2147483647 : Int32) (0 : Int32) _ h_o18 H locs ls hP hD hS (lv_sub hl [2, 3, 1, 0] rfl) (fun o18x H locs ls eo hP hD hS hl => ?_)
          subst o18
          refine lv_iload_n (pc := 132) hx hb dX7_squaredLength_132 rfl (lv_at hl 2 rfl) ?_
          obtain rfl := Option.some.inj h
          exact W.iret hx hb hr (fun t ht hW => ⟨⟨rfl, by rw [ht]; exact hP⟩, hS.F ht⟩) hS.2.2 dX7_squaredLength_133 hlk
      · have h := it_t c5 h
        refine lv_aload_n (pc := 42) hx hb dX7_squaredLength_42 rfl (lv_at hl 0 rfl) ?_
        obtain ⟨v19, h_v19, h⟩ := ob h
        refine wrVi (pc := 43) (As := []) (rest := []) (ws2 := wMod K ad (0 : Int32) mnow mold mols msav miss minp mlen mat v2.1 v2.2.1 v2.2.2 mkep mkee mwor mnum v19.2) (as9 := [ad 0, ad 1, ad 2, ad 3, ad 4, ad 5, ad 6, ad 7, ad 8, ad 9, ad 10, ad 11]) hx hb hml hown hts hG hP hD hS (c_Mod_connects l K ad (0 : Int32) mnow mold mols msav miss minp mlen mat v2.1 v2.2.1 v2.2.2 mkep mkee mwor mnum mmet F h_v19) [0, 1, 2, 3, 4, 5, 6, 7, 8, 9, 10, 11] rfl rfl rfl rfl [.inl 0, .inl 1, .inl 2, .inl 3, .inl 4, .inl 5, .inl 6, .inl 7, .inl 8, .inl 9, .inl 10, .inl 11] (by decide +kernel) rfl (q0 := 0) rfl (ci := 7) rfl g_Mod_244 hd_Mod_connects rfl ⟨Nat.le_of_ble_eq_true rfl, Nat.le_of_ble_eq_true rfl⟩ ⟨Nat.zero_le _, Nat.zero_le _⟩ hl rfl (Nat.le_of_ble_eq_true rfl) dX7_squaredLength_43 (fun H locs hP hD hS => ?_)
        obtain rfl := Option.some.inj h
        exact W.iret hx hb hr (fun t ht hW => ⟨⟨rfl, by rw [ht]; exact hP⟩, hS.F ht⟩) hS.2.2 dX7_squaredLength_46 hlk
    · have h := it_t c4 h
      refine lv_aload_n (pc := 31) hx hb dX7_squaredLength_31 rfl (lv_at hl 0 rfl) ?_
      refine lv_iconst (v := (2 : Int32)) (pc := 32) hx hb dX7_squaredLength_32 (by decide) ?_
      refine wrVi (pc := 33) (As := [.int (2 : Int32)]) (rest := []) (ws2 := wMod K ad ((s_Mod_raises (2 : Int32)).2) mnow mold mols msav miss minp mlen mat v2.1 v2.2.1 v2.2.2 mkep mkee mwor mnum mmet) (as9 := [ad 0, ad 1, ad 2, ad 3, ad 4, ad 5, ad 6, ad 7, ad 8, ad 9, ad 10, ad 11]) hx hb hml hown hts hG hP hD hS (c_Mod_raises l K ad (0 : Int32) mnow mold mols msav miss minp mlen mat v2.1 v2.2.1 v2.2.2 mkep mkee mwor mnum mmet (2 : Int32)) [0, 1, 2, 3, 4, 5, 6, 7, 8, 9, 10, 11] rfl rfl rfl rfl [.inl 0, .inl 1, .inl 2, .inl 3, .inl 4, .inl 5, .inl 6, .inl 7, .inl 8, .inl 9, .inl 10, .inl 11] (by decide +kernel) rfl (q0 := 0) rfl (ci := 7) rfl g_Mod_172 hd_Mod_raises rfl ⟨Nat.le_of_ble_eq_true rfl, Nat.le_of_ble_eq_true rfl⟩ ⟨Nat.zero_le _, Nat.zero_le _⟩ hl rfl (Nat.le_of_ble_eq_true rfl) dX7_squaredLength_33 (fun H locs hP hD hS => ?_)
      obtain rfl := Option.some.inj h
      exact W.iret hx hb hr (fun t ht hW => ⟨⟨rfl, by rw [ht]; exact hP⟩, hS.F ht⟩) hS.2.2 dX7_squaredLength_36 hlk
  · have h := it_t c1 h
    refine lv_aload_n (pc := 14) hx hb dX7_squaredLength_14 rfl (lv_at hl 0 rfl) ?_
    refine lv_iconst (v := (1 : Int32)) (pc := 15) hx hb dX7_squaredLength_15 (by decide) ?_
    refine wrVi (pc := 16) (As := [.int (1 : Int32)]) (rest := []) (ws2 := wMod K ad ((s_Mod_raises (1 : Int32)).2) mnow mold mols msav miss minp mlen mat medg mcor mtri mkep mkee mwor mnum mmet) (as9 := [ad 0, ad 1, ad 2, ad 3, ad 4, ad 5, ad 6, ad 7, ad 8, ad 9, ad 10, ad 11]) hx hb hml hown hts hG hP hD hS (c_Mod_raises l K ad (0 : Int32) mnow mold mols msav miss minp mlen mat medg mcor mtri mkep mkee mwor mnum mmet (1 : Int32)) [0, 1, 2, 3, 4, 5, 6, 7, 8, 9, 10, 11] rfl rfl rfl rfl [.inl 0, .inl 1, .inl 2, .inl 3, .inl 4, .inl 5, .inl 6, .inl 7, .inl 8, .inl 9, .inl 10, .inl 11] (by decide +kernel) rfl (q0 := 0) rfl (ci := 7) rfl g_Mod_172 hd_Mod_raises rfl ⟨Nat.le_of_ble_eq_true rfl, Nat.le_of_ble_eq_true rfl⟩ ⟨Nat.zero_le _, Nat.zero_le _⟩ hl rfl (Nat.le_of_ble_eq_true rfl) dX7_squaredLength_16 (fun H locs hP hD hS => ?_)
    obtain rfl := Option.some.inj h
    exact W.iret hx hb hr (fun t ht hW => ⟨⟨rfl, by rw [ht]; exact hP⟩, hS.F ht⟩) hS.2.2 dX7_squaredLength_19 hlk
set_option maxHeartbeats 4000000 in
set_option maxRecDepth 100000 in
theorem c_Mod_turn (l : Launch) (K : KT) (ad : Nat → Nat) (mthr : Int32) (mnow : Nat → Int32) (mold : Nat → Int32) (mols : Int32) (msav : Nat → Int32) (miss : Bool) (minp : Nat → Int32) (mlen : Int32) (mat : Int32) (medg : Nat → Int32) (mcor : Nat → Int32) (mtri : Int32) (mkep : Nat → Int32) (mkee : Nat → Int32) (mwor : Nat → Int32) (mnum : Nat → Int32) (mmet : Nat → Int32) (a0 : Int32) (a1 : Int32) (a2 : Int32) {o : Int32 × Int32} (h : s_Mod_turn mnow a0 a1 a2 = some o) : Wr l K 3 yX7_turn cX7_turn 4 (some .int) [.ref (ad 0), .int a0, .int a1, .int a2] (wMod K ad mthr mnow mold mols msav miss minp mlen mat medg mcor mtri mkep mkee mwor mnum mmet) (some (.int o.1)) (wMod K ad o.2 mnow mold mols msav miss minp mlen mat medg mcor mtri mkep mkee mwor mnum mmet) := by
  refine Wr.of (by decide +kernel) (Nat.le_of_ble_eq_true rfl) ?_
  unfold s_Mod_turn at h
  intro p e s m below meth c hx hb hr hml hown hts hlk H locs hP hG hD hS ls hl
  have C0 : Ctx p m c cX7_turn 4 s (Array.mk [.ref (ad 0), .int a0, .int a1, .int a2]) RX7 K meth (some .int) := ⟨hx, hb, hml, hown, hts, hG, hr, hlk⟩
  have hl : lv_has ls 4 [(0, .ref (ad 0)), (1, .int a0), (2, .int a1), (3, .int a2)] := hl
  refine lv_aload_n (pc := 0) hx hb dX7_turn_0 rfl (lv_at hl 0 rfl) ?_
  refine lv_iconst (v := (0 : Int32)) (pc := 1) hx hb dX7_turn_1 (by decide) ?_
  refine va_put (D := K.1) (ci := 7) (v := .int (0 : Int32)) (ty := .int) (C := RX7) (T := TX7) (N := 17) (pc := 2) hx hb hts inT7 tyX7 tyX7_ok nmX7 hown hG.1 hP hD hS 0 rfl rfl 0 (by decide) (hts _ qf_Mod_44) (fun _ h9 => h9) rfl (by decide +kernel) rfl rfl (Nat.le_of_ble_eq_true rfl) dX7_turn_2 (fun H locs hP hD hS => ?_)
  have hP : va_P K.1 vC (wMod K ad (0 : Int32) mnow mold mols msav miss minp mlen mat medg mcor mtri mkep mkee mwor mnum mmet) H := hP
  have hD : va_D _ (wMod K ad (0 : Int32) mnow mold mols msav miss minp mlen mat medg mcor mtri mkep mkee mwor mnum mmet) := hD
  refine lv_aload_n (pc := 5) hx hb dX7_turn_5 rfl (lv_at hl 0 rfl) ?_
  refine lv_iload_n (pc := 6) hx hb dX7_turn_6 rfl (lv_at hl 1 rfl) ?_
  obtain ⟨v1, h_v1, h⟩ := ob h
  refine rdV (pc := 7) (As := [.int a0]) (rest := []) hx hb hml hown hts hG hP (c_Mod_isPoint l K ad (0 : Int32) mnow mold mols msav miss minp mlen mat medg mcor mtri mkep mkee mwor mnum mmet a0 h_v1) [0, 1, 2, 3, 4, 5, 6, 7, 8, 9, 10, 11] rfl (q0 := 0) rfl (ci := 7) rfl g_Mod_168 hd_Mod_isPoint rfl ⟨Nat.le_of_ble_eq_true rfl, Nat.le_of_ble_eq_true rfl⟩ ⟨Nat.zero_le _, Nat.zero_le _⟩ hl rfl (Nat.le_of_ble_eq_true rfl) dX7_turn_7 ?_
  refine lv_if_eq (tgt := 39) (pc := 10) hx hb dX7_turn_10 (by decide) (fun c2 => ?_) (fun c2 => ?_)
  · have h := it_t c2 h
    refine lv_aload_n (pc := 39) hx hb dX7_turn_39 rfl (lv_at hl 0 rfl) ?_
    refine lv_iconst (v := (1 : Int32)) (pc := 40) hx hb dX7_turn_40 (by decide) ?_
    refine wrVi (pc := 41) (As := [.int (1 : Int32)]) (rest := []) (ws2 := wMod K ad ((s_Mod_raises (1 : Int32)).2) mnow mold mols msav miss minp mlen mat medg mcor mtri mkep mkee mwor mnum mmet) (as9 := [ad 0, ad 1, ad 2, ad 3, ad 4, ad 5, ad 6, ad 7, ad 8, ad 9, ad 10, ad 11]) hx hb hml hown hts hG hP hD hS (c_Mod_raises l K ad (0 : Int32) mnow mold mols msav miss minp mlen mat medg mcor mtri mkep mkee mwor mnum mmet (1 : Int32)) [0, 1, 2, 3, 4, 5, 6, 7, 8, 9, 10, 11] rfl rfl rfl rfl [.inl 0, .inl 1, .inl 2, .inl 3, .inl 4, .inl 5, .inl 6, .inl 7, .inl 8, .inl 9, .inl 10, .inl 11] (by decide +kernel) rfl (q0 := 0) rfl (ci := 7) rfl g_Mod_172 hd_Mod_raises rfl ⟨Nat.le_of_ble_eq_true rfl, Nat.le_of_ble_eq_true rfl⟩ ⟨Nat.zero_le _, Nat.zero_le _⟩ hl rfl (Nat.le_of_ble_eq_true rfl) dX7_turn_41 (fun H locs hP hD hS => ?_)
    obtain rfl := Option.some.inj h
    exact W.iret hx hb hr (fun t ht hW => ⟨⟨rfl, by rw [ht]; exact hP⟩, hS.F ht⟩) hS.2.2 dX7_turn_44 hlk
  · have h := it_f c2 h
    refine lv_aload_n (pc := 13) hx hb dX7_turn_13 rfl (lv_at hl 0 rfl) ?_
    refine lv_iload_n (pc := 14) hx hb dX7_turn_14 rfl (lv_at hl 2 rfl) ?_
    obtain ⟨v3, h_v3, h⟩ := ob h
    refine rdV (pc := 15) (As := [.int a1]) (rest := []) hx hb hml hown hts hG hP (c_Mod_isPoint l K ad (0 : Int32) mnow mold mols msav miss minp mlen mat medg mcor mtri mkep mkee mwor mnum mmet a1 h_v3) [0, 1, 2, 3, 4, 5, 6, 7, 8, 9, 10, 11] rfl (q0 := 0) rfl (ci := 7) rfl g_Mod_168 hd_Mod_isPoint rfl ⟨Nat.le_of_ble_eq_true rfl, Nat.le_of_ble_eq_true rfl⟩ ⟨Nat.zero_le _, Nat.zero_le _⟩ hl rfl (Nat.le_of_ble_eq_true rfl) dX7_turn_15 ?_
    refine lv_if_eq (tgt := 39) (pc := 18) hx hb dX7_turn_18 (by decide) (fun c4 => ?_) (fun c4 => ?_)
    · have h := it_t c4 h
      refine lv_aload_n (pc := 39) hx hb dX7_turn_39 rfl (lv_at hl 0 rfl) ?_
      refine lv_iconst (v := (1 : Int32)) (pc := 40) hx hb dX7_turn_40 (by decide) ?_
      refine wrVi (pc := 41) (As := [.int (1 : Int32)]) (rest := []) (ws2 := wMod K ad ((s_Mod_raises (1 : Int32)).2) mnow mold mols msav miss minp mlen mat medg mcor mtri mkep mkee mwor mnum mmet) (as9 := [ad 0, ad 1, ad 2, ad 3, ad 4, ad 5, ad 6, ad 7, ad 8, ad 9, ad 10, ad 11]) hx hb hml hown hts hG hP hD hS (c_Mod_raises l K ad (0 : Int32) mnow mold mols msav miss minp mlen mat medg mcor mtri mkep mkee mwor mnum mmet (1 : Int32)) [0, 1, 2, 3, 4, 5, 6, 7, 8, 9, 10, 11] rfl rfl rfl rfl [.inl 0, .inl 1, .inl 2, .inl 3, .inl 4, .inl 5, .inl 6, .inl 7, .inl 8, .inl 9, .inl 10, .inl 11] (by decide +kernel) rfl (q0 := 0) rfl (ci := 7) rfl g_Mod_172 hd_Mod_raises rfl ⟨Nat.le_of_ble_eq_true rfl, Nat.le_of_ble_eq_true rfl⟩ ⟨Nat.zero_le _, Nat.zero_le _⟩ hl rfl (Nat.le_of_ble_eq_true rfl) dX7_turn_41 (fun H locs hP hD hS => ?_)
      obtain rfl := Option.some.inj h
      exact W.iret hx hb hr (fun t ht hW => ⟨⟨rfl, by rw [ht]; exact hP⟩, hS.F ht⟩) hS.2.2 dX7_turn_44 hlk
    · have h := it_f c4 h
      refine lv_aload_n (pc := 21) hx hb dX7_turn_21 rfl (lv_at hl 0 rfl) ?_
      refine lv_iload_n (pc := 22) hx hb dX7_turn_22 rfl (lv_at hl 3 rfl) ?_
      obtain ⟨v5, h_v5, h⟩ := ob h
      refine rdV (pc := 23) (As := [.int a2]) (rest := []) hx hb hml hown hts hG hP (c_Mod_isPoint l K ad (0 : Int32) mnow mold mols msav miss minp mlen mat medg mcor mtri mkep mkee mwor mnum mmet a2 h_v5) [0, 1, 2, 3, 4, 5, 6, 7, 8, 9, 10, 11] rfl (q0 := 0) rfl (ci := 7) rfl g_Mod_168 hd_Mod_isPoint rfl ⟨Nat.le_of_ble_eq_true rfl, Nat.le_of_ble_eq_true rfl⟩ ⟨Nat.zero_le _, Nat.zero_le _⟩ hl rfl (Nat.le_of_ble_eq_true rfl) dX7_turn_23 ?_
      refine lv_if_eq (tgt := 39) (pc := 26) hx hb dX7_turn_26 (by decide) (fun c6 => ?_) (fun c6 => ?_)
      · have h := it_t c6 h
        refine lv_aload_n (pc := 39) hx hb dX7_turn_39 rfl (lv_at hl 0 rfl) ?_
        refine lv_iconst (v := (1 : Int32)) (pc := 40) hx hb dX7_turn_40 (by decide) ?_
        refine wrVi (pc := 41) (As := [.int (1 : Int32)]) (rest := []) (ws2 := wMod K ad ((s_Mod_raises (1 : Int32)).2) mnow mold mols msav miss minp mlen mat medg mcor mtri mkep mkee mwor mnum mmet) (as9 := [ad 0, ad 1, ad 2, ad 3, ad 4, ad 5, ad 6, ad 7, ad 8, ad 9, ad 10, ad 11]) hx hb hml hown hts hG hP hD hS (c_Mod_raises l K ad (0 : Int32) mnow mold mols msav miss minp mlen mat medg mcor mtri mkep mkee mwor mnum mmet (1 : Int32)) [0, 1, 2, 3, 4, 5, 6, 7, 8, 9, 10, 11] rfl rfl rfl rfl [.inl 0, .inl 1, .inl 2, .inl 3, .inl 4, .inl 5, .inl 6, .inl 7, .inl 8, .inl 9, .inl 10, .inl 11] (by decide +kernel) rfl (q0 := 0) rfl (ci := 7) rfl g_Mod_172 hd_Mod_raises rfl ⟨Nat.le_of_ble_eq_true rfl, Nat.le_of_ble_eq_true rfl⟩ ⟨Nat.zero_le _, Nat.zero_le _⟩ hl rfl (Nat.le_of_ble_eq_true rfl) dX7_turn_41 (fun H locs hP hD hS => ?_)
        obtain rfl := Option.some.inj h
        exact W.iret hx hb hr (fun t ht hW => ⟨⟨rfl, by rw [ht]; exact hP⟩, hS.F ht⟩) hS.2.2 dX7_turn_44 hlk
      · have h := it_f c6 h
        refine lv_aload_n (pc := 29) hx hb dX7_turn_29 rfl (lv_at hl 0 rfl) ?_
        refine lv_iload_n (pc := 30) hx hb dX7_turn_30 rfl (lv_at hl 1 rfl) ?_
        refine lv_iload_n (pc := 31) hx hb dX7_turn_31 rfl (lv_at hl 2 rfl) ?_
        refine lv_iload_n (pc := 32) hx hb dX7_turn_32 rfl (lv_at hl 3 rfl) ?_
        obtain ⟨v7, h_v7, h⟩ := ob h
        refine rdV (pc := 33) (As := [.int a0, .int a1, .int a2]) (rest := []) hx hb hml hown hts hG hP (c_Mod_turns l K ad (0 : Int32) mnow mold mols msav miss minp mlen mat medg mcor mtri mkep mkee mwor mnum mmet a0 a1 a2 h_v7) [0, 1, 2, 3, 4, 5, 6, 7, 8, 9, 10, 11] rfl (q0 := 0) rfl (ci := 7) rfl g_Mod_79 hd_Mod_turns rfl ⟨Nat.le_of_ble_eq_true rfl, Nat.le_of_ble_eq_true rfl⟩ ⟨Nat.zero_le _, Nat.zero_le _⟩ hl rfl (Nat.le_of_ble_eq_true rfl) dX7_turn_33 ?_
        refine lv_goto (tgt := 44) (pc := 36) hx hb dX7_turn_36 (by decide) ?_
        obtain rfl := Option.some.inj h
        exact W.iret hx hb hr (fun t ht hW => ⟨⟨rfl, by rw [ht]; exact hP⟩, hS.F ht⟩) hS.2.2 dX7_turn_44 hlk
set_option maxHeartbeats 4000000 in
set_option maxRecDepth 100000 in
theorem c_Mod_inCircle (l : Launch) (K : KT) (ad : Nat → Nat) (mthr : Int32) (mnow : Nat → Int32) (mold : Nat → Int32) (mols : Int32) (msav : Nat → Int32) (miss : Bool) (minp : Nat → Int32) (mlen : Int32) (mat : Int32) (medg : Nat → Int32) (mcor : Nat → Int32) (mtri : Int32) (mkep : Nat → Int32) (mkee : Nat → Int32) (mwor : Nat → Int32) (mnum : Nat → Int32) (mmet : Nat → Int32) (a0 : Int32) (a1 : Int32) (a2 : Int32) (a3 : Int32) {o : Int32 × Int32} (h : s_Mod_inCircle mnow a0 a1 a2 a3 = some o) : Wr l K 4 yX7_inCircle cX7_inCircle 5 (some .int) [.ref (ad 0), .int a0, .int a1, .int a2, .int a3] (wMod K ad mthr mnow mold mols msav miss minp mlen mat medg mcor mtri mkep mkee mwor mnum mmet) (some (.int o.1)) (wMod K ad o.2 mnow mold mols msav miss minp mlen mat medg mcor mtri mkep mkee mwor mnum mmet) := by
  refine Wr.of (by decide +kernel) (Nat.le_of_ble_eq_true rfl) ?_
  unfold s_Mod_inCircle at h
  intro p e s m below meth c hx hb hr hml hown hts hlk H locs hP hG hD hS ls hl
  have C0 : Ctx p m c cX7_inCircle 5 s (Array.mk [.ref (ad 0), .int a0, .int a1, .int a2, .int a3]) RX7 K meth (some .int) := ⟨hx, hb, hml, hown, hts, hG, hr, hlk⟩
  have hl : lv_has ls 5 [(0, .ref (ad 0)), (1, .int a0), (2, .int a1), (3, .int a2), (4, .int a3)] := hl
  refine lv_aload_n (pc := 0) hx hb dX7_inCircle_0 rfl (lv_at hl 0 rfl) ?_
  refine lv_iconst (v := (0 : Int32)) (pc := 1) hx hb dX7_inCircle_1 (by decide) ?_
  refine va_put (D := K.1) (ci := 7) (v := .int (0 : Int32)) (ty := .int) (C := RX7) (T := TX7) (N := 17) (pc := 2) hx hb hts inT7 tyX7 tyX7_ok nmX7 hown hG.1 hP hD hS 0 rfl rfl 0 (by decide) (hts _ qf_Mod_44) (fun _ h9 => h9) rfl (by decide +kernel) rfl rfl (Nat.le_of_ble_eq_true rfl) dX7_inCircle_2 (fun H locs hP hD hS => ?_)
  have hP : va_P K.1 vC (wMod K ad (0 : Int32) mnow mold mols msav miss minp mlen mat medg mcor mtri mkep mkee mwor mnum mmet) H := hP
  have hD : va_D _ (wMod K ad (0 : Int32) mnow mold mols msav miss minp mlen mat medg mcor mtri mkep mkee mwor mnum mmet) := hD
  refine lv_aload_n (pc := 5) hx hb dX7_inCircle_5 rfl (lv_at hl 0 rfl) ?_
  refine lv_iload_n (pc := 6) hx hb dX7_inCircle_6 rfl (lv_at hl 1 rfl) ?_
  obtain ⟨v1, h_v1, h⟩ := ob h
  refine rdV (pc := 7) (As := [.int a0]) (rest := []) hx hb hml hown hts hG hP (c_Mod_isPoint l K ad (0 : Int32) mnow mold mols msav miss minp mlen mat medg mcor mtri mkep mkee mwor mnum mmet a0 h_v1) [0, 1, 2, 3, 4, 5, 6, 7, 8, 9, 10, 11] rfl (q0 := 0) rfl (ci := 7) rfl g_Mod_168 hd_Mod_isPoint rfl ⟨Nat.le_of_ble_eq_true rfl, Nat.le_of_ble_eq_true rfl⟩ ⟨Nat.zero_le _, Nat.zero_le _⟩ hl rfl (Nat.le_of_ble_eq_true rfl) dX7_inCircle_7 ?_
  refine lv_if_eq (tgt := 38) (pc := 10) hx hb dX7_inCircle_10 (by decide) (fun c2 => ?_) (fun c2 => ?_)
  · have h := it_t c2 h
    refine lv_aload_n (pc := 38) hx hb dX7_inCircle_38 rfl (lv_at hl 0 rfl) ?_
    refine lv_iconst (v := (1 : Int32)) (pc := 39) hx hb dX7_inCircle_39 (by decide) ?_
    refine wrVi (pc := 40) (As := [.int (1 : Int32)]) (rest := []) (ws2 := wMod K ad ((s_Mod_raises (1 : Int32)).2) mnow mold mols msav miss minp mlen mat medg mcor mtri mkep mkee mwor mnum mmet) (as9 := [ad 0, ad 1, ad 2, ad 3, ad 4, ad 5, ad 6, ad 7, ad 8, ad 9, ad 10, ad 11]) hx hb hml hown hts hG hP hD hS (c_Mod_raises l K ad (0 : Int32) mnow mold mols msav miss minp mlen mat medg mcor mtri mkep mkee mwor mnum mmet (1 : Int32)) [0, 1, 2, 3, 4, 5, 6, 7, 8, 9, 10, 11] rfl rfl rfl rfl [.inl 0, .inl 1, .inl 2, .inl 3, .inl 4, .inl 5, .inl 6, .inl 7, .inl 8, .inl 9, .inl 10, .inl 11] (by decide +kernel) rfl (q0 := 0) rfl (ci := 7) rfl g_Mod_172 hd_Mod_raises rfl ⟨Nat.le_of_ble_eq_true rfl, Nat.le_of_ble_eq_true rfl⟩ ⟨Nat.zero_le _, Nat.zero_le _⟩ hl rfl (Nat.le_of_ble_eq_true rfl) dX7_inCircle_40 (fun H locs hP hD hS => ?_)
    obtain rfl := Option.some.inj h
    exact W.iret hx hb hr (fun t ht hW => ⟨⟨rfl, by rw [ht]; exact hP⟩, hS.F ht⟩) hS.2.2 dX7_inCircle_43 hlk
  · have h := it_f c2 h
    refine lv_aload_n (pc := 13) hx hb dX7_inCircle_13 rfl (lv_at hl 0 rfl) ?_
    refine lv_iload_n (pc := 14) hx hb dX7_inCircle_14 rfl (lv_at hl 2 rfl) ?_
    obtain ⟨v3, h_v3, h⟩ := ob h
    refine rdV (pc := 15) (As := [.int a1]) (rest := []) hx hb hml hown hts hG hP (c_Mod_isPoint l K ad (0 : Int32) mnow mold mols msav miss minp mlen mat medg mcor mtri mkep mkee mwor mnum mmet a1 h_v3) [0, 1, 2, 3, 4, 5, 6, 7, 8, 9, 10, 11] rfl (q0 := 0) rfl (ci := 7) rfl g_Mod_168 hd_Mod_isPoint rfl ⟨Nat.le_of_ble_eq_true rfl, Nat.le_of_ble_eq_true rfl⟩ ⟨Nat.zero_le _, Nat.zero_le _⟩ hl rfl (Nat.le_of_ble_eq_true rfl) dX7_inCircle_15 ?_
    refine lv_if_eq (tgt := 38) (pc := 18) hx hb dX7_inCircle_18 (by decide) (fun c4 => ?_) (fun c4 => ?_)
    · have h := it_t c4 h
      refine lv_aload_n (pc := 38) hx hb dX7_inCircle_38 rfl (lv_at hl 0 rfl) ?_
      refine lv_iconst (v := (1 : Int32)) (pc := 39) hx hb dX7_inCircle_39 (by decide) ?_
      refine wrVi (pc := 40) (As := [.int (1 : Int32)]) (rest := []) (ws2 := wMod K ad ((s_Mod_raises (1 : Int32)).2) mnow mold mols msav miss minp mlen mat medg mcor mtri mkep mkee mwor mnum mmet) (as9 := [ad 0, ad 1, ad 2, ad 3, ad 4, ad 5, ad 6, ad 7, ad 8, ad 9, ad 10, ad 11]) hx hb hml hown hts hG hP hD hS (c_Mod_raises l K ad (0 : Int32) mnow mold mols msav miss minp mlen mat medg mcor mtri mkep mkee mwor mnum mmet (1 : Int32)) [0, 1, 2, 3, 4, 5, 6, 7, 8, 9, 10, 11] rfl rfl rfl rfl [.inl 0, .inl 1, .inl 2, .inl 3, .inl 4, .inl 5, .inl 6, .inl 7, .inl 8, .inl 9, .inl 10, .inl 11] (by decide +kernel) rfl (q0 := 0) rfl (ci := 7) rfl g_Mod_172 hd_Mod_raises rfl ⟨Nat.le_of_ble_eq_true rfl, Nat.le_of_ble_eq_true rfl⟩ ⟨Nat.zero_le _, Nat.zero_le _⟩ hl rfl (Nat.le_of_ble_eq_true rfl) dX7_inCircle_40 (fun H locs hP hD hS => ?_)
      obtain rfl := Option.some.inj h
      exact W.iret hx hb hr (fun t ht hW => ⟨⟨rfl, by rw [ht]; exact hP⟩, hS.F ht⟩) hS.2.2 dX7_inCircle_43 hlk
    · have h := it_f c4 h
      refine lv_aload_n (pc := 21) hx hb dX7_inCircle_21 rfl (lv_at hl 0 rfl) ?_
      refine lv_iload_n (pc := 22) hx hb dX7_inCircle_22 rfl (lv_at hl 3 rfl) ?_
      obtain ⟨v5, h_v5, h⟩ := ob h
      refine rdV (pc := 23) (As := [.int a2]) (rest := []) hx hb hml hown hts hG hP (c_Mod_isPoint l K ad (0 : Int32) mnow mold mols msav miss minp mlen mat medg mcor mtri mkep mkee mwor mnum mmet a2 h_v5) [0, 1, 2, 3, 4, 5, 6, 7, 8, 9, 10, 11] rfl (q0 := 0) rfl (ci := 7) rfl g_Mod_168 hd_Mod_isPoint rfl ⟨Nat.le_of_ble_eq_true rfl, Nat.le_of_ble_eq_true rfl⟩ ⟨Nat.zero_le _, Nat.zero_le _⟩ hl rfl (Nat.le_of_ble_eq_true rfl) dX7_inCircle_23 ?_
      refine lv_if_eq (tgt := 38) (pc := 26) hx hb dX7_inCircle_26 (by decide) (fun c6 => ?_) (fun c6 => ?_)
      · have h := it_t c6 h
        refine lv_aload_n (pc := 38) hx hb dX7_inCircle_38 rfl (lv_at hl 0 rfl) ?_
        refine lv_iconst (v := (1 : Int32)) (pc := 39) hx hb dX7_inCircle_39 (by decide) ?_
        refine wrVi (pc := 40) (As := [.int (1 : Int32)]) (rest := []) (ws2 := wMod K ad ((s_Mod_raises (1 : Int32)).2) mnow mold mols msav miss minp mlen mat medg mcor mtri mkep mkee mwor mnum mmet) (as9 := [ad 0, ad 1, ad 2, ad 3, ad 4, ad 5, ad 6, ad 7, ad 8, ad 9, ad 10, ad 11]) hx hb hml hown hts hG hP hD hS (c_Mod_raises l K ad (0 : Int32) mnow mold mols msav miss minp mlen mat medg mcor mtri mkep mkee mwor mnum mmet (1 : Int32)) [0, 1, 2, 3, 4, 5, 6, 7, 8, 9, 10, 11] rfl rfl rfl rfl [.inl 0, .inl 1, .inl 2, .inl 3, .inl 4, .inl 5, .inl 6, .inl 7, .inl 8, .inl 9, .inl 10, .inl 11] (by decide +kernel) rfl (q0 := 0) rfl (ci := 7) rfl g_Mod_172 hd_Mod_raises rfl ⟨Nat.le_of_ble_eq_true rfl, Nat.le_of_ble_eq_true rfl⟩ ⟨Nat.zero_le _, Nat.zero_le _⟩ hl rfl (Nat.le_of_ble_eq_true rfl) dX7_inCircle_40 (fun H locs hP hD hS => ?_)
        obtain rfl := Option.some.inj h
        exact W.iret hx hb hr (fun t ht hW => ⟨⟨rfl, by rw [ht]; exact hP⟩, hS.F ht⟩) hS.2.2 dX7_inCircle_43 hlk
      · have h := it_f c6 h
        refine lv_aload_n (pc := 29) hx hb dX7_inCircle_29 rfl (lv_at hl 0 rfl) ?_
        refine lv_iload (pc := 30) hx hb dX7_inCircle_30 (lv_at hl 4 rfl) ?_
        obtain ⟨v7, h_v7, h⟩ := ob h
        refine rdV (pc := 32) (As := [.int a3]) (rest := []) hx hb hml hown hts hG hP (c_Mod_isPoint l K ad (0 : Int32) mnow mold mols msav miss minp mlen mat medg mcor mtri mkep mkee mwor mnum mmet a3 h_v7) [0, 1, 2, 3, 4, 5, 6, 7, 8, 9, 10, 11] rfl (q0 := 0) rfl (ci := 7) rfl g_Mod_168 hd_Mod_isPoint rfl ⟨Nat.le_of_ble_eq_true rfl, Nat.le_of_ble_eq_true rfl⟩ ⟨Nat.zero_le _, Nat.zero_le _⟩ hl rfl (Nat.le_of_ble_eq_true rfl) dX7_inCircle_32 ?_
        refine lv_if_ne (tgt := 44) (pc := 35) hx hb dX7_inCircle_35 (by decide) (fun c8 => ?_) (fun c8 => ?_)
        · have h := it_f c8 h
          refine lv_aload_n (pc := 44) hx hb dX7_inCircle_44 rfl (lv_at hl 0 rfl) ?_
          refine lv_iload_n (pc := 45) hx hb dX7_inCircle_45 rfl (lv_at hl 1 rfl) ?_
          refine lv_iload_n (pc := 46) hx hb dX7_inCircle_46 rfl (lv_at hl 2 rfl) ?_
          refine lv_iload_n (pc := 47) hx hb dX7_inCircle_47 rfl (lv_at hl 3 rfl) ?_
          obtain ⟨v9, h_v9, h⟩ := ob h
          refine rdV (pc := 48) (As := [.int a0, .int a1, .int a2]) (rest := []) hx hb hml hown hts hG hP (c_Mod_turns l K ad (0 : Int32) mnow mold mols msav miss minp mlen mat medg mcor mtri mkep mkee mwor mnum mmet a0 a1 a2 h_v9) [0, 1, 2, 3, 4, 5, 6, 7, 8, 9, 10, 11] rfl (q0 := 0) rfl (ci := 7) rfl g_Mod_79 hd_Mod_turns rfl ⟨Nat.le_of_ble_eq_true rfl, Nat.le_of_ble_eq_true rfl⟩ ⟨Nat.zero_le _, Nat.zero_le _⟩ hl rfl (Nat.le_of_ble_eq_true rfl) dX7_inCircle_48 ?_
          refine lv_if_ne (tgt := 62) (pc := 51) hx hb dX7_inCircle_51 (by decide) (fun c10 => ?_) (fun c10 => ?_)
          · have h := it_f c10 h
            refine lv_aload_n (pc := 62) hx hb dX7_inCircle_62 rfl (lv_at hl 0 rfl) ?_
            refine lv_iload_n (pc := 63) hx hb dX7_inCircle_63 rfl (lv_at hl 1 rfl) ?_
            refine lv_iload_n (pc := 64) hx hb dX7_inCircle_64 rfl (lv_at hl 2 rfl) ?_
            refine lv_iload_n (pc := 65) hx hb dX7_inCircle_65 rfl (lv_at hl 3 rfl) ?_
            refine lv_iload (pc := 66) hx hb dX7_inCircle_66 (lv_at hl 4 rfl) ?_
            obtain ⟨v11, h_v11, h⟩ := ob h
            refine rdV (pc := 68) (As := [.int a0, .int a1, .int a2, .int a3]) (rest := []) hx hb hml hown hts hG hP (c_Mod_circle l K ad (0 : Int32) mnow mold mols msav miss minp mlen mat medg mcor mtri mkep mkee mwor mnum mmet a0 a1 a2 a3 h_v11) [0, 1, 2, 3, 4, 5, 6, 7, 8, 9, 10, 11] rfl (q0 := 0) rfl (ci := 7) rfl g_Mod_97 hd_Mod_circle rfl ⟨Nat.le_of_ble_eq_true rfl, Nat.le_of_ble_eq_true rfl⟩ ⟨Nat.zero_le _, Nat.zero_le _⟩ hl rfl (Nat.le_of_ble_eq_true rfl) dX7_inCircle_68 ?_
            obtain rfl := Option.some.inj h
            exact W.iret hx hb hr (fun t ht hW => ⟨⟨rfl, by rw [ht]; exact hP⟩, hS.F ht⟩) hS.2.2 dX7_inCircle_71 hlk
          · have h := it_t c10 h
            refine lv_aload_n (pc := 54) hx hb dX7_inCircle_54 rfl (lv_at hl 0 rfl) ?_
            refine lv_iconst (v := (2 : Int32)) (pc := 55) hx hb dX7_inCircle_55 (by decide) ?_
            refine wrVi (pc := 56) (As := [.int (2 : Int32)]) (rest := []) (ws2 := wMod K ad ((s_Mod_raises (2 : Int32)).2) mnow mold mols msav miss minp mlen mat medg mcor mtri mkep mkee mwor mnum mmet) (as9 := [ad 0, ad 1, ad 2, ad 3, ad 4, ad 5, ad 6, ad 7, ad 8, ad 9, ad 10, ad 11]) hx hb hml hown hts hG hP hD hS (c_Mod_raises l K ad (0 : Int32) mnow mold mols msav miss minp mlen mat medg mcor mtri mkep mkee mwor mnum mmet (2 : Int32)) [0, 1, 2, 3, 4, 5, 6, 7, 8, 9, 10, 11] rfl rfl rfl rfl [.inl 0, .inl 1, .inl 2, .inl 3, .inl 4, .inl 5, .inl 6, .inl 7, .inl 8, .inl 9, .inl 10, .inl 11] (by decide +kernel) rfl (q0 := 0) rfl (ci := 7) rfl g_Mod_172 hd_Mod_raises rfl ⟨Nat.le_of_ble_eq_true rfl, Nat.le_of_ble_eq_true rfl⟩ ⟨Nat.zero_le _, Nat.zero_le _⟩ hl rfl (Nat.le_of_ble_eq_true rfl) dX7_inCircle_56 (fun H locs hP hD hS => ?_)
            refine lv_goto (tgt := 71) (pc := 59) hx hb dX7_inCircle_59 (by decide) ?_
            obtain rfl := Option.some.inj h
            exact W.iret hx hb hr (fun t ht hW => ⟨⟨rfl, by rw [ht]; exact hP⟩, hS.F ht⟩) hS.2.2 dX7_inCircle_71 hlk
        · have h := it_t c8 h
          refine lv_aload_n (pc := 38) hx hb dX7_inCircle_38 rfl (lv_at hl 0 rfl) ?_
          refine lv_iconst (v := (1 : Int32)) (pc := 39) hx hb dX7_inCircle_39 (by decide) ?_
          refine wrVi (pc := 40) (As := [.int (1 : Int32)]) (rest := []) (ws2 := wMod K ad ((s_Mod_raises (1 : Int32)).2) mnow mold mols msav miss minp mlen mat medg mcor mtri mkep mkee mwor mnum mmet) (as9 := [ad 0, ad 1, ad 2, ad 3, ad 4, ad 5, ad 6, ad 7, ad 8, ad 9, ad 10, ad 11]) hx hb hml hown hts hG hP hD hS (c_Mod_raises l K ad (0 : Int32) mnow mold mols msav miss minp mlen mat medg mcor mtri mkep mkee mwor mnum mmet (1 : Int32)) [0, 1, 2, 3, 4, 5, 6, 7, 8, 9, 10, 11] rfl rfl rfl rfl [.inl 0, .inl 1, .inl 2, .inl 3, .inl 4, .inl 5, .inl 6, .inl 7, .inl 8, .inl 9, .inl 10, .inl 11] (by decide +kernel) rfl (q0 := 0) rfl (ci := 7) rfl g_Mod_172 hd_Mod_raises rfl ⟨Nat.le_of_ble_eq_true rfl, Nat.le_of_ble_eq_true rfl⟩ ⟨Nat.zero_le _, Nat.zero_le _⟩ hl rfl (Nat.le_of_ble_eq_true rfl) dX7_inCircle_40 (fun H locs hP hD hS => ?_)
          obtain rfl := Option.some.inj h
          exact W.iret hx hb hr (fun t ht hW => ⟨⟨rfl, by rw [ht]; exact hP⟩, hS.F ht⟩) hS.2.2 dX7_inCircle_43 hlk
set_option maxHeartbeats 4000000 in
set_option maxRecDepth 100000 in
theorem c_Mod_goodOf (l : Launch) (K : KT) (ad : Nat → Nat) (mthr : Int32) (mnow : Nat → Int32) (mold : Nat → Int32) (mols : Int32) (msav : Nat → Int32) (miss : Bool) (minp : Nat → Int32) (mlen : Int32) (mat : Int32) (medg : Nat → Int32) (mcor : Nat → Int32) (mtri : Int32) (mkep : Nat → Int32) (mkee : Nat → Int32) (mwor : Nat → Int32) (mnum : Nat → Int32) (mmet : Nat → Int32) (a0 : Int32) (a1 : Int32) (F : Nat) {o : Int32} (h : s_Mod_goodOf F mnow medg a0 a1 = some o) : Rd l K 5 yX7_goodOf cX7_goodOf 5 .int [.ref (ad 0), .int a0, .int a1] (wMod K ad mthr mnow mold mols msav miss minp mlen mat medg mcor mtri mkep mkee mwor mnum mmet) o := by
  refine Rd.of (by decide +kernel) (Nat.le_of_ble_eq_true rfl) ?_
  unfold s_Mod_goodOf at h
  intro p e s m below meth c hx hb hr hml hown hts hlk hP hG ls hl
  have C0 : Ctx p m c cX7_goodOf 5 s (Array.mk [.ref (ad 0), .int a0, .int a1]) RX7 K meth (some .int) := ⟨hx, hb, hml, hown, hts, hG, hr, hlk⟩
  have hl : lv_has ls 5 [(0, .ref (ad 0)), (1, .int a0), (2, .int a1)] := hl
  refine lv_aload_n (pc := 0) hx hb dX7_goodOf_0 rfl (lv_at hl 0 rfl) ?_
  refine lv_iload_n (pc := 1) hx hb dX7_goodOf_1 rfl (lv_at hl 1 rfl) ?_
  refine lv_iload_n (pc := 2) hx hb dX7_goodOf_2 rfl (lv_at hl 2 rfl) ?_
  obtain ⟨v1, h_v1, h⟩ := ob h
  refine rdV (pc := 3) (As := [.int a0, .int a1]) (rest := []) hx hb hml hown hts hG hP (c_Mod_apex l K ad mthr mnow mold mols msav miss minp mlen mat medg mcor mtri mkep mkee mwor mnum mmet a0 a1 F h_v1) [0, 1, 2, 3, 4, 5, 6, 7, 8, 9, 10, 11] rfl (q0 := 0) rfl (ci := 7) rfl g_Mod_141 hd_Mod_apex rfl ⟨Nat.le_of_ble_eq_true rfl, Nat.le_of_ble_eq_true rfl⟩ ⟨Nat.zero_le _, Nat.zero_le _⟩ hl rfl (Nat.le_of_ble_eq_true rfl) dX7_goodOf_3 ?_
  refine lv_istore_n (pc := 6) (lv' := [(3, .int v1), (0, .ref (ad 0)), (1, .int a0), (2, .int a1)]) hx hb dX7_goodOf_6 rfl hl (by decide) rfl (fun ls hl => ?_)
  refine lv_aload_n (pc := 7) hx hb dX7_goodOf_7 rfl (lv_at hl 1 rfl) ?_
  refine lv_iload_n (pc := 8) hx hb dX7_goodOf_8 rfl (lv_at hl 3 rfl) ?_
  refine lv_iload_n (pc := 9) hx hb dX7_goodOf_9 rfl (lv_at hl 2 rfl) ?_
  obtain ⟨v2, h_v2, h⟩ := ob h
  refine rdV (pc := 10) (As := [.int a1, .int a0]) (rest := []) hx hb hml hown hts hG hP (c_Mod_apex l K ad mthr mnow mold mols msav miss minp mlen mat medg mcor mtri mkep mkee mwor mnum mmet a1 a0 F h_v2) [0, 1, 2, 3, 4, 5, 6, 7, 8, 9, 10, 11] rfl (q0 := 0) rfl (ci := 7) rfl g_Mod_141 hd_Mod_apex rfl ⟨Nat.le_of_ble_eq_true rfl, Nat.le_of_ble_eq_true rfl⟩ ⟨Nat.zero_le _, Nat.zero_le _⟩ hl rfl (Nat.le_of_ble_eq_true rfl) dX7_goodOf_10 ?_
  refine lv_istore (pc := 13) (lv' := [(4, .int v2), (3, .int v1), (0, .ref (ad 0)), (1, .int a0), (2, .int a1)]) hx hb dX7_goodOf_13 hl (by decide) rfl (fun ls hl => ?_)
  refine lv_iload_n (pc := 15) hx hb dX7_goodOf_15 rfl (lv_at hl 1 rfl) ?_
  refine lv_if_lt (tgt := 24) (pc := 16) hx hb dX7_goodOf_16 (by decide) (fun c3 => ?_) (fun c3 => ?_)
  · have h := it_t c3 h
    refine lv_iconst (v := (-1 : Int32)) (pc := 24) hx hb dX7_goodOf_24 (by decide) ?_
    refine lv_goto (tgt := 45) (pc := 25) hx hb dX7_goodOf_25 (by decide) ?_
    obtain rfl := Option.some.inj h
    exact W.iret hx hb hr (fun t ht hW => ⟨rfl, ht⟩) (fun q hq => absurd hq List.not_mem_nil) dX7_goodOf_45 hlk
  · have h := it_f c3 h
    refine lv_iload (pc := 19) hx hb dX7_goodOf_19 (lv_at hl 0 rfl) ?_
    refine lv_if_ge (tgt := 28) (pc := 21) hx hb dX7_goodOf_21 (by decide) (fun c4 => ?_) (fun c4 => ?_)
    · have h := it_t c4 h
      refine lv_aload_n (pc := 28) hx hb dX7_goodOf_28 rfl (lv_at hl 2 rfl) ?_
      refine lv_iload_n (pc := 29) hx hb dX7_goodOf_29 rfl (lv_at hl 3 rfl) ?_
      refine lv_iload_n (pc := 30) hx hb dX7_goodOf_30 rfl (lv_at hl 4 rfl) ?_
      refine lv_iload_n (pc := 31) hx hb dX7_goodOf_31 rfl (lv_at hl 1 rfl) ?_
      refine lv_iload (pc := 32) hx hb dX7_goodOf_32 (lv_at hl 0 rfl) ?_
      obtain ⟨v5, h_v5, h⟩ := ob h
      refine rdV (pc := 34) (As := [.int a0, .int a1, .int v1, .int v2]) (rest := []) hx hb hml hown hts hG hP (c_Mod_good l K ad mthr mnow mold mols msav miss minp mlen mat medg mcor mtri mkep mkee mwor mnum mmet a0 a1 v1 v2 h_v5) [0, 1, 2, 3, 4, 5, 6, 7, 8, 9, 10, 11] rfl (q0 := 0) rfl (ci := 7) rfl g_Mod_144 hd_Mod_good rfl ⟨Nat.le_of_ble_eq_true rfl, Nat.le_of_ble_eq_true rfl⟩ ⟨Nat.zero_le _, Nat.zero_le _⟩ hl rfl (Nat.le_of_ble_eq_true rfl) dX7_goodOf_34 ?_
      refine lv_if_eq (tgt := 44) (pc := 37) hx hb dX7_goodOf_37 (by decide) (fun c6 => ?_) (fun c6 => ?_)
      · have h := it_t c6 h
        refine lv_iconst (v := (0 : Int32)) (pc := 44) hx hb dX7_goodOf_44 (by decide) ?_
        obtain rfl := Option.some.inj h
        exact W.iret hx hb hr (fun t ht hW => ⟨rfl, ht⟩) (fun q hq => absurd hq List.not_mem_nil) dX7_goodOf_45 hlk
      · have h := it_f c6 h
        refine lv_iconst (v := (1 : Int32)) (pc := 40) hx hb dX7_goodOf_40 (by decide) ?_
        refine lv_goto (tgt := 45) (pc := 41) hx hb dX7_goodOf_41 (by decide) ?_
        obtain rfl := Option.some.inj h
        exact W.iret hx hb hr (fun t ht hW => ⟨rfl, ht⟩) (fun q hq => absurd hq List.not_mem_nil) dX7_goodOf_45 hlk
    · have h := it_f c4 h
      refine lv_iconst (v := (-1 : Int32)) (pc := 24) hx hb dX7_goodOf_24 (by decide) ?_
      refine lv_goto (tgt := 45) (pc := 25) hx hb dX7_goodOf_25 (by decide) ?_
      obtain rfl := Option.some.inj h
      exact W.iret hx hb hr (fun t ht hW => ⟨rfl, ht⟩) (fun q hq => absurd hq List.not_mem_nil) dX7_goodOf_45 hlk
set_option maxHeartbeats 4000000 in
set_option maxRecDepth 100000 in
theorem c_Mod_isGood (l : Launch) (K : KT) (ad : Nat → Nat) (mthr : Int32) (mnow : Nat → Int32) (mold : Nat → Int32) (mols : Int32) (msav : Nat → Int32) (miss : Bool) (minp : Nat → Int32) (mlen : Int32) (mat : Int32) (medg : Nat → Int32) (mcor : Nat → Int32) (mtri : Int32) (mkep : Nat → Int32) (mkee : Nat → Int32) (mwor : Nat → Int32) (mnum : Nat → Int32) (mmet : Nat → Int32) (a0 : Int32) (F : Nat) {o : Bool × Int32 × (Nat → Int32) × (Nat → Int32) × Int32 × (Nat → Int32)} (h : s_Mod_isGood F mnow medg mcor mnum a0 = some o) : Wr l K 7 yX7_isGood cX7_isGood 3 (some .boolean) [.ref (ad 0), .int a0] (wMod K ad mthr mnow mold mols msav miss minp mlen mat medg mcor mtri mkep mkee mwor mnum mmet) (some (.int (bI o.1))) (wMod K ad o.2.1 mnow mold mols msav miss minp mlen mat o.2.2.1 o.2.2.2.1 o.2.2.2.2.1 mkep mkee mwor o.2.2.2.2.2 mmet) := by
  refine Wr.of (by decide +kernel) (Nat.le_of_ble_eq_true rfl) ?_
  unfold s_Mod_isGood at h
  intro p e s m below meth c hx hb hr hml hown hts hlk H locs hP hG hD hS ls hl
  have C0 : Ctx p m c cX7_isGood 3 s (Array.mk [.ref (ad 0), .int a0]) RX7 K meth (some .boolean) := ⟨hx, hb, hml, hown, hts, hG, hr, hlk⟩
  have hl : lv_has ls 3 [(0, .ref (ad 0)), (1, .int a0)] := hl
  refine lv_aload_n (pc := 0) hx hb dX7_isGood_0 rfl (lv_at hl 0 rfl) ?_
  refine lv_iconst (v := (0 : Int32)) (pc := 1) hx hb dX7_isGood_1 (by decide) ?_
  refine va_put (D := K.1) (ci := 7) (v := .int (0 : Int32)) (ty := .int) (C := RX7) (T := TX7) (N := 17) (pc := 2) hx hb hts inT7 tyX7 tyX7_ok nmX7 hown hG.1 hP hD hS 0 rfl rfl 0 (by decide) (hts _ qf_Mod_44) (fun _ h9 => h9) rfl (by decide +kernel) rfl rfl (Nat.le_of_ble_eq_true rfl) dX7_isGood_2 (fun H locs hP hD hS => ?_)
  have hP : va_P K.1 vC (wMod K ad (0 : Int32) mnow mold mols msav miss minp mlen mat medg mcor mtri mkep mkee mwor mnum mmet) H := hP
  have hD : va_D _ (wMod K ad (0 : Int32) mnow mold mols msav miss minp mlen mat medg mcor mtri mkep mkee mwor mnum mmet) := hD
  refine lv_aload_n (pc := 5) hx hb dX7_isGood_5 rfl (lv_at hl 0 rfl) ?_
  obtain ⟨v1, h_v1, h⟩ := ob h
  refine wrVv (pc := 6) (As := []) (rest := []) (ws2 := wMod K ad (0 : Int32) mnow mold mols msav miss minp mlen mat v1.1 v1.2.1 v1.2.2 mkep mkee mwor mnum mmet) (as9 := [ad 0, ad 1, ad 2, ad 3, ad 4, ad 5, ad 6, ad 7, ad 8, ad 9, ad 10, ad 11]) hx hb hml hown hts hG hP hD hS (c_Mod_builds l K ad (0 : Int32) mnow mold mols msav miss minp mlen mat medg mcor mtri mkep mkee mwor mnum mmet F h_v1) [0, 1, 2, 3, 4, 5, 6, 7, 8, 9, 10, 11] rfl rfl rfl rfl [.inl 0, .inl 1, .inl 2, .inl 3, .inl 4, .inl 5, .inl 6, .inl 7, .inl 8, .inl 9, .inl 10, .inl 11] (by decide +kernel) rfl (q0 := 0) rfl (ci := 7) rfl g_Mod_210 hd_Mod_builds rfl ⟨Nat.le_of_ble_eq_true rfl, Nat.le_of_ble_eq_true rfl⟩ ⟨Nat.zero_le _, Nat.zero_le _⟩ hl rfl (Nat.le_of_ble_eq_true rfl) dX7_isGood_6 (fun H locs hP hD hS => ?_)
  refine lv_aload_n (pc := 9) hx hb dX7_isGood_9 rfl (lv_at hl 0 rfl) ?_
  refine lv_iload_n (pc := 10) hx hb dX7_isGood_10 rfl (lv_at hl 1 rfl) ?_
  obtain ⟨v2, h_v2, h⟩ := ob h
  refine wrVi (pc := 11) (As := [.int a0]) (rest := []) (ws2 := wMod K ad (0 : Int32) mnow mold mols msav miss minp mlen mat v1.1 v1.2.1 v1.2.2 mkep mkee mwor v2.2 mmet) (as9 := [ad 0, ad 1, ad 2, ad 3, ad 4, ad 5, ad 6, ad 7, ad 8, ad 9, ad 10, ad 11]) hx hb hml hown hts hG hP hD hS (c_Mod_edge l K ad (0 : Int32) mnow mold mols msav miss minp mlen mat v1.1 v1.2.1 v1.2.2 mkep mkee mwor mnum mmet a0 F h_v2) [0, 1, 2, 3, 4, 5, 6, 7, 8, 9, 10, 11] rfl rfl rfl rfl [.inl 0, .inl 1, .inl 2, .inl 3, .inl 4, .inl 5, .inl 6, .inl 7, .inl 8, .inl 9, .inl 10, .inl 11] (by decide +kernel) rfl (q0 := 0) rfl (ci := 7) rfl g_Mod_225 hd_Mod_edge rfl ⟨Nat.le_of_ble_eq_true rfl, Nat.le_of_ble_eq_true rfl⟩ ⟨Nat.zero_le _, Nat.zero_le _⟩ hl rfl (Nat.le_of_ble_eq_true rfl) dX7_isGood_11 (fun H locs hP hD hS => ?_)
  refine lv_if_ne (tgt := 24) (pc := 14) hx hb dX7_isGood_14 (by decide) (fun c3 => ?_) (fun c3 => ?_)
  · have h := it_f c3 h
    refine lv_aload_n (pc := 24) hx hb dX7_isGood_24 rfl (lv_at hl 0 rfl) ?_
    refine lv_aload_n (pc := 25) hx hb dX7_isGood_25 rfl (lv_at hl 0 rfl) ?_
    refine va_get (D := K.1) (ci := 7) (v := .ref (ad 10)) (C := RX7) (T := TX7) (N := 17) (pc := 26) hx hb hts inT7 hown hG.1 hP 0 rfl rfl 15 (by decide) (hts _ qf_Mod_38) (fun _ h9 => h9) rfl dX7_isGood_26 ?_
    refine lv_iconst (v := (0 : Int32)) (pc := 29) hx hb dX7_isGood_29 (by decide) ?_
    obtain ⟨v4, h_v4, h⟩ := ob h
    obtain ⟨hi_v4, e_v4⟩ := aget_in h_v4
    refine va_iald (pc := 30) hx hb hG.1 hP 10 0 rfl rfl hi_v4 dX7_isGood_30 ?_
    rw [e_v4]
    refine lv_aload_n (pc := 31) hx hb dX7_isGood_31 rfl (lv_at hl 0 rfl) ?_
    refine va_get (D := K.1) (ci := 7) (v := .ref (ad 10)) (C := RX7) (T := TX7) (N := 17) (pc := 32) hx hb hts inT7 hown hG.1 hP 0 rfl rfl 15 (by decide) (hts _ qf_Mod_38) (fun _ h9 => h9) rfl dX7_isGood_32 ?_
    refine lv_iconst (v := (1 : Int32)) (pc := 35) hx hb dX7_isGood_35 (by decide) ?_
    obtain ⟨v5, h_v5, h⟩ := ob h
    obtain ⟨hi_v5, e_v5⟩ := aget_in h_v5
    refine va_iald (pc := 36) hx hb hG.1 hP 10 0 rfl rfl hi_v5 dX7_isGood_36 ?_
    rw [e_v5]
    obtain ⟨v6, h_v6, h⟩ := ob h
    refine rdV (pc := 37) (As := [.int v4, .int v5]) (rest := []) hx hb hml hown hts hG hP (c_Mod_goodOf l K ad (0 : Int32) mnow mold mols msav miss minp mlen mat v1.1 v1.2.1 v1.2.2 mkep mkee mwor v2.2 mmet v4 v5 F h_v6) [0, 1, 2, 3, 4, 5, 6, 7, 8, 9, 10, 11] rfl (q0 := 0) rfl (ci := 7) rfl g_Mod_247 hd_Mod_goodOf rfl ⟨Nat.le_of_ble_eq_true rfl, Nat.le_of_ble_eq_true rfl⟩ ⟨Nat.zero_le _, Nat.zero_le _⟩ hl rfl (Nat.le_of_ble_eq_true rfl) dX7_isGood_37 ?_
    refine lv_istore_n (pc := 40) (lv' := [(2, .int v6), (0, .ref (ad 0)), (1, .int a0)]) hx hb dX7_isGood_40 rfl hl (by decide) rfl (fun ls hl => ?_)
    refine lv_iload_n (pc := 41) hx hb dX7_isGood_41 rfl (lv_at hl 0 rfl) ?_
    refine lv_if_ge (tgt := 50) (pc := 42) hx hb dX7_isGood_42 (by decide) (fun c7 => ?_) (fun c7 => ?_)
    · have h := it_t c7 h
      refine lv_iload_n (pc := 50) hx hb dX7_isGood_50 rfl (lv_at hl 0 rfl) ?_
      refine lv_iconst (v := (1 : Int32)) (pc := 51) hx hb dX7_isGood_51 (by decide) ?_
      refine lv_icmp_ne (tgt := 59) (pc := 52) hx hb dX7_isGood_52 (by decide) (fun c8 => ?_) (fun c8 => ?_)
      · have h := it_f c8 h
        refine lv_iconst (v := (0 : Int32)) (pc := 59) hx hb dX7_isGood_59 (by decide) ?_
        obtain rfl := Option.some.inj h
        exact W.zret hx hb hr (rfl) (fun t ht hW => ⟨⟨rfl, by rw [ht]; exact hP⟩, hS.F ht⟩) hS.2.2 dX7_isGood_60 hlk
      · have h := it_t c8 h
        refine lv_iconst (v := (1 : Int32)) (pc := 55) hx hb dX7_isGood_55 (by decide) ?_
        refine lv_goto (tgt := 60) (pc := 56) hx hb dX7_isGood_56 (by decide) ?_
        obtain rfl := Option.some.inj h
        exact W.zret hx hb hr (rfl) (fun t ht hW => ⟨⟨rfl, by rw [ht]; exact hP⟩, hS.F ht⟩) hS.2.2 dX7_isGood_60 hlk
    · have h := it_f c7 h
      refine lv_aload_n (pc := 45) hx hb dX7_isGood_45 rfl (lv_at hl 1 rfl) ?_
      refine lv_iconst (v := (2 : Int32)) (pc := 46) hx hb dX7_isGood_46 (by decide) ?_
      refine va_put (D := K.1) (ci := 7) (v := .int (2 : Int32)) (ty := .int) (C := RX7) (T := TX7) (N := 17) (pc := 47) hx hb hts inT7 tyX7 tyX7_ok nmX7 hown hG.1 hP hD hS 0 rfl rfl 0 (by decide) (hts _ qf_Mod_44) (fun _ h9 => h9) rfl (by decide +kernel) rfl rfl (Nat.le_of_ble_eq_true rfl) dX7_isGood_47 (fun H locs hP hD hS => ?_)
      have hP : va_P K.1 vC (wMod K ad (2 : Int32) mnow mold mols msav miss minp mlen mat v1.1 v1.2.1 v1.2.2 mkep mkee mwor v2.2 mmet) H := hP
      have hD : va_D _ (wMod K ad (2 : Int32) mnow mold mols msav miss minp mlen mat v1.1 v1.2.1 v1.2.2 mkep mkee mwor v2.2 mmet) := hD
      refine lv_iload_n (pc := 50) hx hb dX7_isGood_50 rfl (lv_at hl 0 rfl) ?_
      refine lv_iconst (v := (1 : Int32)) (pc := 51) hx hb dX7_isGood_51 (by decide) ?_
      refine lv_icmp_ne (tgt := 59) (pc := 52) hx hb dX7_isGood_52 (by decide) (fun c9 => ?_) (fun c9 => ?_)
      · have h := it_f c9 h
        refine lv_iconst (v := (0 : Int32)) (pc := 59) hx hb dX7_isGood_59 (by decide) ?_
        obtain rfl := Option.some.inj h
        exact W.zret hx hb hr (rfl) (fun t ht hW => ⟨⟨rfl, by rw [ht]; exact hP⟩, hS.F ht⟩) hS.2.2 dX7_isGood_60 hlk
      · have h := it_t c9 h
        refine lv_iconst (v := (1 : Int32)) (pc := 55) hx hb dX7_isGood_55 (by decide) ?_
        refine lv_goto (tgt := 60) (pc := 56) hx hb dX7_isGood_56 (by decide) ?_
        obtain rfl := Option.some.inj h
        exact W.zret hx hb hr (rfl) (fun t ht hW => ⟨⟨rfl, by rw [ht]; exact hP⟩, hS.F ht⟩) hS.2.2 dX7_isGood_60 hlk
  · have h := it_t c3 h
    refine lv_aload_n (pc := 17) hx hb dX7_isGood_17 rfl (lv_at hl 0 rfl) ?_
    refine lv_iconst (v := (1 : Int32)) (pc := 18) hx hb dX7_isGood_18 (by decide) ?_
    refine va_put (D := K.1) (ci := 7) (v := .int (1 : Int32)) (ty := .int) (C := RX7) (T := TX7) (N := 17) (pc := 19) hx hb hts inT7 tyX7 tyX7_ok nmX7 hown hG.1 hP hD hS 0 rfl rfl 0 (by decide) (hts _ qf_Mod_44) (fun _ h9 => h9) rfl (by decide +kernel) rfl rfl (Nat.le_of_ble_eq_true rfl) dX7_isGood_19 (fun H locs hP hD hS => ?_)
    have hP : va_P K.1 vC (wMod K ad (1 : Int32) mnow mold mols msav miss minp mlen mat v1.1 v1.2.1 v1.2.2 mkep mkee mwor v2.2 mmet) H := hP
    have hD : va_D _ (wMod K ad (1 : Int32) mnow mold mols msav miss minp mlen mat v1.1 v1.2.1 v1.2.2 mkep mkee mwor v2.2 mmet) := hD
    refine lv_iconst (v := (0 : Int32)) (pc := 22) hx hb dX7_isGood_22 (by decide) ?_
    obtain rfl := Option.some.inj h
    exact W.zret hx hb hr (rfl) (fun t ht hW => ⟨⟨rfl, by rw [ht]; exact hP⟩, hS.F ht⟩) hS.2.2 dX7_isGood_23 hlk
set_option maxHeartbeats 4000000 in
set_option maxRecDepth 100000 in
theorem l_Mod_forcedConstraints_L13 {p : Program} {l : Launch} {e : Env} {s : State} {m : MethodId} {args : Array Value} {below : List Frame} {meth : Method} {c : Code} {Q : State → Prop} {K : KT} {A : Nat → Prop} (C0 : Ctx p m c cX7_forcedConstraints 3 s args RX7 K meth (some .int)) (F : Nat) (ad : Nat → Nat) (mthr : Int32) (mnow : Nat → Int32) (mold : Nat → Int32) (mols : Int32) (msav : Nat → Int32) (miss : Bool) (minp : Nat → Int32) (mlen : Int32) (mat : Int32) (medg : Nat → Int32) (mcor : Nat → Int32) (mtri : Int32) (mkep : Nat → Int32) (mkee : Nat → Int32) (mwor : Nat → Int32) (mnum : Nat → Int32) (mmet : Nat → Int32)  : ∀ (n : Nat) (x1 : Int32) (x2 : Int32) (out : Int32 × Int32), s_Mod_forcedConstraints_L13 F mnow medg n x1 x2 = some out → ∀ (H : Heap) (locs : List Loc) (ls : Array Slot), va_P K.1 vC (wMod K ad mthr mnow mold mols msav miss minp mlen mat medg mcor mtri mkep mkee mwor mnum mmet) H → va_D A (wMod K ad mthr mnow mold mols msav miss minp mlen mat medg mcor mtri mkep mkee mwor mnum mmet) → va_S A s.heap H locs → lv_has ls 3 [(0, .ref (ad 0)), (1, .int x1), (2, .int x2)] → (∀ (o : Int32 × Int32) (H : Heap) (locs : List Loc) (ls : Array Slot), out = o → va_P K.1 vC (wMod K ad mthr mnow mold mols msav miss minp mlen mat medg mcor mtri mkep mkee mwor mnum mmet) H → va_D A (wMod K ad mthr mnow mold mols msav miss minp mlen mat medg mcor mtri mkep mkee mwor mnum mmet) → va_S A s.heap H locs → lv_has ls 3 [(0, .ref (ad 0)), (1, .int o.1), (2, .int o.2)] → W p l e (rmL 7) s m args below meth c H locs 0 0 Q (F0 m 49 ls [])) → W p l e (rmL 7) s m args below meth c H locs 0 0 Q (F0 m 13 ls []) := by
  obtain ⟨hx, hb, hml, hown, hts, hG, hr, hlk⟩ := id C0
  intro n
  induction n with
  | zero =>
    intro x1 x2 out h
    cases h
  | succ n ih =>
    intro x1 x2 out h H locs ls hP hD hS hl Kx 
    rw [s_Mod_forcedConstraints_L13.eq_2] at h
    refine lv_iload_n (pc := 13) hx hb dX7_forcedConstraints_13 rfl (lv_at hl 2 rfl) ?_
    refine lv_aload_n (pc := 14) hx hb dX7_forcedConstraints_14 rfl (lv_at hl 0 rfl) ?_
    obtain ⟨v2, h_v2, h⟩ := ob h
    refine rdV (pc := 15) (As := []) (rest := [.int x2]) hx hb hml hown hts hG hP (c_Mod_m l K ad mthr mnow mold mols msav miss minp mlen mat medg mcor mtri mkep mkee mwor mnum mmet h_v2) [0, 1, 2, 3, 4, 5, 6, 7, 8, 9, 10, 11] rfl (q0 := 0) rfl (ci := 7) rfl g_Mod_56 hd_Mod_m rfl ⟨Nat.le_of_ble_eq_true rfl, Nat.le_of_ble_eq_true rfl⟩ ⟨Nat.zero_le _, Nat.zero_le _⟩ hl rfl (Nat.le_of_ble_eq_true rfl) dX7_forcedConstraints_15 ?_
    refine lv_icmp_ge (tgt := 49) (pc := 18) hx hb dX7_forcedConstraints_18 (by decide) (fun c3 => ?_) (fun c3 => ?_)
    · have h := it_t c3 h
      obtain rfl := Option.some.inj h
      exact Kx _ H locs ls rfl hP hD hS (lv_sub hl [0, 1, 2] rfl)
    · have h := it_f c3 h
      refine lv_aload_n (pc := 21) hx hb dX7_forcedConstraints_21 rfl (lv_at hl 0 rfl) ?_
      refine lv_aload_n (pc := 22) hx hb dX7_forcedConstraints_22 rfl (lv_at hl 0 rfl) ?_
      refine lv_iload_n (pc := 23) hx hb dX7_forcedConstraints_23 rfl (lv_at hl 2 rfl) ?_
      refine lv_iconst (v := (0 : Int32)) (pc := 24) hx hb dX7_forcedConstraints_24 (by decide) ?_
      obtain ⟨v4, h_v4, h⟩ := ob h
      refine rdV (pc := 25) (As := [.int x2, .int (0 : Int32)]) (rest := [.ref (ad 0)]) hx hb hml hown hts hG hP (c_Mod_end l K ad mthr mnow mold mols msav miss minp mlen mat medg mcor mtri mkep mkee mwor mnum mmet x2 (0 : Int32) h_v4) [0, 1, 2, 3, 4, 5, 6, 7, 8, 9, 10, 11] rfl (q0 := 0) rfl (ci := 7) rfl g_Mod_101 hd_Mod_end rfl ⟨Nat.le_of_ble_eq_true rfl, Nat.le_of_ble_eq_true rfl⟩ ⟨Nat.zero_le _, Nat.zero_le _⟩ hl rfl (Nat.le_of_ble_eq_true rfl) dX7_forcedConstraints_25 ?_
      refine lv_aload_n (pc := 28) hx hb dX7_forcedConstraints_28 rfl (lv_at hl 0 rfl) ?_
      refine lv_iload_n (pc := 29) hx hb dX7_forcedConstraints_29 rfl (lv_at hl 2 rfl) ?_
      refine lv_iconst (v := (1 : Int32)) (pc := 30) hx hb dX7_forcedConstraints_30 (by decide) ?_
      obtain ⟨v5, h_v5, h⟩ := ob h
      refine rdV (pc := 31) (As := [.int x2, .int (1 : Int32)]) (rest := [.int v4, .ref (ad 0)]) hx hb hml hown hts hG hP (c_Mod_end l K ad mthr mnow mold mols msav miss minp mlen mat medg mcor mtri mkep mkee mwor mnum mmet x2 (1 : Int32) h_v5) [0, 1, 2, 3, 4, 5, 6, 7, 8, 9, 10, 11] rfl (q0 := 0) rfl (ci := 7) rfl g_Mod_101 hd_Mod_end rfl ⟨Nat.le_of_ble_eq_true rfl, Nat.le_of_ble_eq_true rfl⟩ ⟨Nat.zero_le _, Nat.zero_le _⟩ hl rfl (Nat.le_of_ble_eq_true rfl) dX7_forcedConstraints_31 ?_
      obtain ⟨v6, h_v6, h⟩ := ob h
      refine rdV (pc := 34) (As := [.int v4, .int v5]) (rest := []) hx hb hml hown hts hG hP (c_Mod_goodOf l K ad mthr mnow mold mols msav miss minp mlen mat medg mcor mtri mkep mkee mwor mnum mmet v4 v5 F h_v6) [0, 1, 2, 3, 4, 5, 6, 7, 8, 9, 10, 11] rfl (q0 := 0) rfl (ci := 7) rfl g_Mod_247 hd_Mod_goodOf rfl ⟨Nat.le_of_ble_eq_true rfl, Nat.le_of_ble_eq_true rfl⟩ ⟨Nat.zero_le _, Nat.zero_le _⟩ hl rfl (Nat.le_of_ble_eq_true rfl) dX7_forcedConstraints_34 ?_
      refine lv_if_ne (tgt := 43) (pc := 37) hx hb dX7_forcedConstraints_37 (by decide) (fun c7 => ?_) (fun c7 => ?_)
      · have h := it_f c7 h
        refine lv_iinc (v := (x2 + (1 : Int32))) (pc := 43) (lv' := [(2, .int (x2 + (1 : Int32))), (0, .ref (ad 0)), (1, .int x1)]) hx hb dX7_forcedConstraints_43 hl (k := 2) rfl rfl (by decide) rfl (fun ls hl => ?_)
        refine lv_goto (tgt := 13) (pc := 46) hx hb dX7_forcedConstraints_46 (by decide) ?_
        exact ih x1 (x2 + (1 : Int32)) out h H locs ls hP hD hS (lv_sub hl [1, 2, 0] rfl) Kx 
      · have h := it_t c7 h
        refine lv_iinc (v := (x1 + (1 : Int32))) (pc := 40) (lv' := [(1, .int (x1 + (1 : Int32))), (0, .ref (ad 0)), (2, .int x2)]) hx hb dX7_forcedConstraints_40 hl (k := 1) rfl rfl (by decide) rfl (fun ls hl => ?_)
        refine lv_iinc (v := (x2 + (1 : Int32))) (pc := 43) (lv' := [(2, .int (x2 + (1 : Int32))), (1, .int (x1 + (1 : Int32))), (0, .ref (ad 0))]) hx hb dX7_forcedConstraints_43 hl (k := 2) rfl rfl (by decide) rfl (fun ls hl => ?_)
        refine lv_goto (tgt := 13) (pc := 46) hx hb dX7_forcedConstraints_46 (by decide) ?_
        exact ih (x1 + (1 : Int32)) (x2 + (1 : Int32)) out h H locs ls hP hD hS (lv_sub hl [2, 1, 0] rfl) Kx 
set_option maxHeartbeats 4000000 in
set_option maxRecDepth 100000 in
theorem c_Mod_forcedConstraints (l : Launch) (K : KT) (ad : Nat → Nat) (mthr : Int32) (mnow : Nat → Int32) (mold : Nat → Int32) (mols : Int32) (msav : Nat → Int32) (miss : Bool) (minp : Nat → Int32) (mlen : Int32) (mat : Int32) (medg : Nat → Int32) (mcor : Nat → Int32) (mtri : Int32) (mkep : Nat → Int32) (mkee : Nat → Int32) (mwor : Nat → Int32) (mnum : Nat → Int32) (mmet : Nat → Int32) (F : Nat) {o : Int32 × Int32 × (Nat → Int32) × (Nat → Int32) × Int32} (h : s_Mod_forcedConstraints F mnow medg mcor = some o) : Wr l K 7 yX7_forcedConstraints cX7_forcedConstraints 3 (some .int) [.ref (ad 0)] (wMod K ad mthr mnow mold mols msav miss minp mlen mat medg mcor mtri mkep mkee mwor mnum mmet) (some (.int o.1)) (wMod K ad o.2.1 mnow mold mols msav miss minp mlen mat o.2.2.1 o.2.2.2.1 o.2.2.2.2 mkep mkee mwor mnum mmet) := by
  refine Wr.of (by decide +kernel) (Nat.le_of_ble_eq_true rfl) ?_
  unfold s_Mod_forcedConstraints at h
  intro p e s m below meth c hx hb hr hml hown hts hlk H locs hP hG hD hS ls hl
  have C0 : Ctx p m c cX7_forcedConstraints 3 s (Array.mk [.ref (ad 0)]) RX7 K meth (some .int) := ⟨hx, hb, hml, hown, hts, hG, hr, hlk⟩
  have hl : lv_has ls 3 [(0, .ref (ad 0))] := hl
  refine lv_aload_n (pc := 0) hx hb dX7_forcedConstraints_0 rfl (lv_at hl 0 rfl) ?_
  refine lv_iconst (v := (0 : Int32)) (pc := 1) hx hb dX7_forcedConstraints_1 (by decide) ?_
  refine va_put (D := K.1) (ci := 7) (v := .int (0 : Int32)) (ty := .int) (C := RX7) (T := TX7) (N := 17) (pc := 2) hx hb hts inT7 tyX7 tyX7_ok nmX7 hown hG.1 hP hD hS 0 rfl rfl 0 (by decide) (hts _ qf_Mod_44) (fun _ h9 => h9) rfl (by decide +kernel) rfl rfl (Nat.le_of_ble_eq_true rfl) dX7_forcedConstraints_2 (fun H locs hP hD hS => ?_)
  have hP : va_P K.1 vC (wMod K ad (0 : Int32) mnow mold mols msav miss minp mlen mat medg mcor mtri mkep mkee mwor mnum mmet) H := hP
  have hD : va_D _ (wMod K ad (0 : Int32) mnow mold mols msav miss minp mlen mat medg mcor mtri mkep mkee mwor mnum mmet) := hD
  refine lv_aload_n (pc := 5) hx hb dX7_forcedConstraints_5 rfl (lv_at hl 0 rfl) ?_
  obtain ⟨v1, h_v1, h⟩ := ob h
  refine wrVv (pc := 6) (As := []) (rest := []) (ws2 := wMod K ad (0 : Int32) mnow mold mols msav miss minp mlen mat v1.1 v1.2.1 v1.2.2 mkep mkee mwor mnum mmet) (as9 := [ad 0, ad 1, ad 2, ad 3, ad 4, ad 5, ad 6, ad 7, ad 8, ad 9, ad 10, ad 11]) hx hb hml hown hts hG hP hD hS (c_Mod_builds l K ad (0 : Int32) mnow mold mols msav miss minp mlen mat medg mcor mtri mkep mkee mwor mnum mmet F h_v1) [0, 1, 2, 3, 4, 5, 6, 7, 8, 9, 10, 11] rfl rfl rfl rfl [.inl 0, .inl 1, .inl 2, .inl 3, .inl 4, .inl 5, .inl 6, .inl 7, .inl 8, .inl 9, .inl 10, .inl 11] (by decide +kernel) rfl (q0 := 0) rfl (ci := 7) rfl g_Mod_210 hd_Mod_builds rfl ⟨Nat.le_of_ble_eq_true rfl, Nat.le_of_ble_eq_true rfl⟩ ⟨Nat.zero_le _, Nat.zero_le _⟩ hl rfl (Nat.le_of_ble_eq_true rfl) dX7_forcedConstraints_6 (fun H locs hP hD hS => ?_)
  refine lv_iconst (v := (0 : Int32)) (pc := 9) hx hb dX7_forcedConstraints_9 (by decide) ?_
  refine lv_istore_n (pc := 10) (lv' := [(1, .int (0 : Int32)), (0, .ref (ad 0))]) hx hb dX7_forcedConstraints_10 rfl hl (by decide) rfl (fun ls hl => ?_)
  refine lv_iconst (v := (0 : Int32)) (pc := 11) hx hb dX7_forcedConstraints_11 (by decide) ?_
  refine lv_istore_n (pc := 12) (lv' := [(2, .int (0 : Int32)), (1, .int (0 : Int32)), (0, .ref (ad 0))]) hx hb dX7_forcedConstraints_12 rfl hl (by decide) rfl (fun ls hl => ?_)
  obtain ⟨o8, h_o8, h⟩ := ob h
  refine l_Mod_forcedConstraints_L13 C0 F ad (0 : Int32) mnow mold mols msav miss minp mlen mat v1.1 v1.2.1 v1.2.2 mkep mkee mwor mnum mmet F (0 : Int32) (0 : Int32) _ h_o8 H locs ls hP hD hS (lv_sub hl [2, 1, 0] rfl) (fun o8x H locs ls eo hP hD hS hl => ?_)
  subst o8
  refine lv_iload_n (pc := 49) hx hb dX7_forcedConstraints_49 rfl (lv_at hl 1 rfl) ?_
  obtain rfl := Option.some.inj h
  exact W.iret hx hb hr (fun t ht hW => ⟨⟨rfl, by rw [ht]; exact hP⟩, hS.F ht⟩) hS.2.2 dX7_forcedConstraints_50 hlk
set_option maxHeartbeats 4000000 in
set_option maxRecDepth 100000 in
theorem l_Mod_away_L3 {p : Program} {l : Launch} {e : Env} {s : State} {m : MethodId} {args : Array Value} {below : List Frame} {meth : Method} {c : Code} {Q : State → Prop} {K : KT} (C0 : Ctx p m c cX7_away 7 s args RX7 K meth (some .int)) (F : Nat) (ad : Nat → Nat) (mthr : Int32) (mnow : Nat → Int32) (mold : Nat → Int32) (mols : Int32) (msav : Nat → Int32) (miss : Bool) (minp : Nat → Int32) (mlen : Int32) (mat : Int32) (medg : Nat → Int32) (mcor : Nat → Int32) (mtri : Int32) (mkep : Nat → Int32) (mkee : Nat → Int32) (mwor : Nat → Int32) (mnum : Nat → Int32) (mmet : Nat → Int32) (x1 : Int32) (x2 : Int32) (x3 : Int32) (hP : va_P K.1 vC (wMod K ad mthr mnow mold mols msav miss minp mlen mat medg mcor mtri mkep mkee mwor mnum mmet) s.heap) : ∀ (n : Nat) (x4 : Int32) (out : (Int32) ⊕ (Int32)), s_Mod_away_L3 mnow mcor x1 x2 x3 n x4 = some out → ∀ (ls : Array Slot), lv_has ls 7 [(0, .ref (ad 0)), (1, .int x1), (2, .int x2), (3, .int x3), (4, .int x4)] → (∀ (o : Int32) (ls : Array Slot), out = .inr o → lv_has ls 7 [(0, .ref (ad 0)), (1, .int x1), (2, .int x2), (3, .int x3), (4, .int o)] → W p l e (rmL 2) s m args below meth c s.heap [] 0 0 Q (F0 m 70 ls [])) → (∀ (o : Int32) (pcR : Nat) (ls : Array Slot), out = .inl o → decode cX7_away pcR = .ok (.ireturn, 1) → W p l e (rmL 2) s m args below meth c s.heap [] 0 0 Q (F0 m pcR ls [.int o])) → W p l e (rmL 2) s m args below meth c s.heap [] 0 0 Q (F0 m 3 ls []) := by
  obtain ⟨hx, hb, hml, hown, hts, hG, hr, hlk⟩ := id C0
  intro n
  induction n with
  | zero =>
    intro x4 out h
    cases h
  | succ n ih =>
    intro x4 out h ls hl Kx Kr
    rw [s_Mod_away_L3.eq_2] at h
    refine lv_iload (pc := 3) hx hb dX7_away_3 (lv_at hl 4 rfl) ?_
    refine lv_iconst (v := (3 : Int32)) (pc := 5) hx hb dX7_away_5 (by decide) ?_
    refine lv_icmp_ge (tgt := 70) (pc := 6) hx hb dX7_away_6 (by decide) (fun c1 => ?_) (fun c1 => ?_)
    · have h := it_t c1 h
      obtain rfl := Option.some.inj h
      exact Kx _ ls rfl (lv_sub hl [0, 1, 2, 3, 4] rfl)
    · have h := it_f c1 h
      refine lv_aload_n (pc := 9) hx hb dX7_away_9 rfl (lv_at hl 0 rfl) ?_
      refine lv_iload_n (pc := 10) hx hb dX7_away_10 rfl (lv_at hl 1 rfl) ?_
      refine lv_iload (pc := 11) hx hb dX7_away_11 (lv_at hl 4 rfl) ?_
      obtain ⟨v2, h_v2, h⟩ := ob h
      refine rdV (pc := 13) (As := [.int x1, .int x4]) (rest := []) hx hb hml hown hts hG hP (c_Mod_cornerOf l K ad mthr mnow mold mols msav miss minp mlen mat medg mcor mtri mkep mkee mwor mnum mmet x1 x4 h_v2) [0, 1, 2, 3, 4, 5, 6, 7, 8, 9, 10, 11] rfl (q0 := 0) rfl (ci := 7) rfl g_Mod_147 hd_Mod_cornerOf rfl ⟨Nat.le_of_ble_eq_true rfl, Nat.le_of_ble_eq_true rfl⟩ ⟨Nat.zero_le _, Nat.zero_le _⟩ hl rfl (Nat.le_of_ble_eq_true rfl) dX7_away_13 ?_
      refine lv_istore (pc := 16) (lv' := [(5, .int v2), (0, .ref (ad 0)), (1, .int x1), (2, .int x2), (3, .int x3), (4, .int x4)]) hx hb dX7_away_16 hl (by decide) rfl (fun ls hl => ?_)
      refine lv_aload_n (pc := 18) hx hb dX7_away_18 rfl (lv_at hl 1 rfl) ?_
      refine lv_iload_n (pc := 19) hx hb dX7_away_19 rfl (lv_at hl 2 rfl) ?_
      refine lv_iload (pc := 20) hx hb dX7_away_20 (lv_at hl 5 rfl) ?_
      refine lv_iconst (v := (1 : Int32)) (pc := 22) hx hb dX7_away_22 (by decide) ?_
      refine lv_iadd (pc := 23) hx hb dX7_away_23 ?_
      obtain ⟨v3, h_v3, h⟩ := ob h
      refine rdV (pc := 24) (As := [.int x1, .int (x4 + (1 : Int32))]) (rest := []) hx hb hml hown hts hG hP (c_Mod_cornerOf l K ad mthr mnow mold mols msav miss minp mlen mat medg mcor mtri mkep mkee mwor mnum mmet x1 (x4 + (1 : Int32)) h_v3) [0, 1, 2, 3, 4, 5, 6, 7, 8, 9, 10, 11] rfl (q0 := 0) rfl (ci := 7) rfl g_Mod_147 hd_Mod_cornerOf rfl ⟨Nat.le_of_ble_eq_true rfl, Nat.le_of_ble_eq_true rfl⟩ ⟨Nat.zero_le _, Nat.zero_le _⟩ hl rfl (Nat.le_of_ble_eq_true rfl) dX7_away_24 ?_
      refine lv_istore (pc := 27) (lv' := [(6, .int v3), (5, .int v2), (0, .ref (ad 0)), (1, .int x1), (2, .int x2), (3, .int x3), (4, .int x4)]) hx hb dX7_away_27 hl (by decide) rfl (fun ls hl => ?_)
      refine lv_aload_n (pc := 29) hx hb dX7_away_29 rfl (lv_at hl 2 rfl) ?_
      refine lv_iload (pc := 30) hx hb dX7_away_30 (lv_at hl 1 rfl) ?_
      obtain ⟨v4, h_v4, h⟩ := ob h
      refine rdV (pc := 32) (As := [.int v2]) (rest := []) hx hb hml hown hts hG hP (c_Mod_x l K ad mthr mnow mold mols msav miss minp mlen mat medg mcor mtri mkep mkee mwor mnum mmet v2 h_v4) [0, 1, 2, 3, 4, 5, 6, 7, 8, 9, 10, 11] rfl (q0 := 0) rfl (ci := 7) rfl g_Mod_65 hd_Mod_x rfl ⟨Nat.le_of_ble_eq_true rfl, Nat.le_of_ble_eq_true rfl⟩ ⟨Nat.zero_le _, Nat.zero_le _⟩ hl rfl (Nat.le_of_ble_eq_true rfl) dX7_away_32 ?_
      refine lv_aload_n (pc := 35) hx hb dX7_away_35 rfl (lv_at hl 2 rfl) ?_
      refine lv_iload (pc := 36) hx hb dX7_away_36 (lv_at hl 1 rfl) ?_
      obtain ⟨v5, h_v5, h⟩ := ob h
      refine rdV (pc := 38) (As := [.int v2]) (rest := [.int v4]) hx hb hml hown hts hG hP (c_Mod_y l K ad mthr mnow mold mols msav miss minp mlen mat medg mcor mtri mkep mkee mwor mnum mmet v2 h_v5) [0, 1, 2, 3, 4, 5, 6, 7, 8, 9, 10, 11] rfl (q0 := 0) rfl (ci := 7) rfl g_Mod_68 hd_Mod_y rfl ⟨Nat.le_of_ble_eq_true rfl, Nat.le_of_ble_eq_true rfl⟩ ⟨Nat.zero_le _, Nat.zero_le _⟩ hl rfl (Nat.le_of_ble_eq_true rfl) dX7_away_38 ?_
      refine lv_aload_n (pc := 41) hx hb dX7_away_41 rfl (lv_at hl 2 rfl) ?_
      refine lv_iload (pc := 42) hx hb dX7_away_42 (lv_at hl 0 rfl) ?_
      obtain ⟨v6, h_v6, h⟩ := ob h
      refine rdV (pc := 44) (As := [.int v3]) (rest := [.int v5, .int v4]) hx hb hml hown hts hG hP (c_Mod_x l K ad mthr mnow mold mols msav miss minp mlen mat medg mcor mtri mkep mkee mwor mnum mmet v3 h_v6) [0, 1, 2, 3, 4, 5, 6, 7, 8, 9, 10, 11] rfl (q0 := 0) rfl (ci := 7) rfl g_Mod_65 hd_Mod_x rfl ⟨Nat.le_of_ble_eq_true rfl, Nat.le_of_ble_eq_true rfl⟩ ⟨Nat.zero_le _, Nat.zero_le _⟩ hl rfl (Nat.le_of_ble_eq_true rfl) dX7_away_44 ?_
      refine lv_aload_n (pc := 47) hx hb dX7_away_47 rfl (lv_at hl 2 rfl) ?_
      refine lv_iload (pc := 48) hx hb dX7_away_48 (lv_at hl 0 rfl) ?_
      obtain ⟨v7, h_v7, h⟩ := ob h
      refine rdV (pc := 50) (As := [.int v3]) (rest := [.int v6, .int v5, .int v4]) hx hb hml hown hts hG hP (c_Mod_y l K ad mthr mnow mold mols msav miss minp mlen mat medg mcor mtri mkep mkee mwor mnum mmet v3 h_v7) [0, 1, 2, 3, 4, 5, 6, 7, 8, 9, 10, 11] rfl (q0 := 0) rfl (ci := 7) rfl g_Mod_68 hd_Mod_y rfl ⟨Nat.le_of_ble_eq_true rfl, Nat.le_of_ble_eq_true rfl⟩ ⟨Nat.zero_le _, Nat.zero_le _⟩ hl rfl (Nat.le_of_ble_eq_true rfl) dX7_away_50 ?_
      refine lv_iload_n (pc := 53) hx hb dX7_away_53 rfl (lv_at hl 4 rfl) ?_
      refine lv_iload_n (pc := 54) hx hb dX7_away_54 rfl (lv_at hl 5 rfl) ?_
      refine rdS (pc := 55) (As := [.int v4, .int v5, .int v6, .int v7, .int x2, .int x3]) (rest := []) hx hb hml hown hts hG (c_Mod_turnOf l K v4 v5 v6 v7 x2 x3) g_Mod_71 hd_Mod_turnOf rfl ⟨Nat.le_of_ble_eq_true rfl, Nat.le_of_ble_eq_true rfl⟩ ⟨Nat.zero_le _, Nat.zero_le _⟩ hl rfl (Nat.le_of_ble_eq_true rfl) dX7_away_55 ?_
      refine lv_if_ge (tgt := 64) (pc := 58) hx hb dX7_away_58 (by decide) (fun c8 => ?_) (fun c8 => ?_)
      · have h := it_t c8 h
        refine lv_iinc (v := (x4 + (1 : Int32))) (pc := 64) (lv' := [(4, .int (x4 + (1 : Int32))), (6, .int v3), (5, .int v2), (0, .ref (ad 0)), (1, .int x1), (2, .int x2), (3, .int x3)]) hx hb dX7_away_64 hl (k := 6) rfl rfl (by decide) rfl (fun ls hl => ?_)
        refine lv_goto (tgt := 3) (pc := 67) hx hb dX7_away_67 (by decide) ?_
        exact ih (x4 + (1 : Int32)) out h ls (lv_sub hl [3, 4, 5, 6, 0] rfl) Kx Kr
      · have h := it_f c8 h
        refine lv_iload (pc := 61) hx hb dX7_away_61 (lv_at hl 6 rfl) ?_
        obtain rfl := Option.some.inj h
        exact Kr _ _ _ rfl dX7_away_63
set_option maxHeartbeats 4000000 in
set_option maxRecDepth 100000 in
theorem c_Mod_away (l : Launch) (K : KT) (ad : Nat → Nat) (mthr : Int32) (mnow : Nat → Int32) (mold : Nat → Int32) (mols : Int32) (msav : Nat → Int32) (miss : Bool) (minp : Nat → Int32) (mlen : Int32) (mat : Int32) (medg : Nat → Int32) (mcor : Nat → Int32) (mtri : Int32) (mkep : Nat → Int32) (mkee : Nat → Int32) (mwor : Nat → Int32) (mnum : Nat → Int32) (mmet : Nat → Int32) (a0 : Int32) (a1 : Int32) (a2 : Int32) (F : Nat) {o : Int32} (h : s_Mod_away F mnow mcor a0 a1 a2 = some o) : Rd l K 2 yX7_away cX7_away 7 .int [.ref (ad 0), .int a0, .int a1, .int a2] (wMod K ad mthr mnow mold mols msav miss minp mlen mat medg mcor mtri mkep mkee mwor mnum mmet) o := by
  refine Rd.of (by decide +kernel) (Nat.le_of_ble_eq_true rfl) ?_
  unfold s_Mod_away at h
  intro p e s m below meth c hx hb hr hml hown hts hlk hP hG ls hl
  have C0 : Ctx p m c cX7_away 7 s (Array.mk [.ref (ad 0), .int a0, .int a1, .int a2]) RX7 K meth (some .int) := ⟨hx, hb, hml, hown, hts, hG, hr, hlk⟩
  have hl : lv_has ls 7 [(0, .ref (ad 0)), (1, .int a0), (2, .int a1), (3, .int a2)] := hl
  refine lv_iconst (v := (0 : Int32)) (pc := 0) hx hb dX7_away_0 (by decide) ?_
  refine lv_istore (pc := 1) (lv' := [(4, .int (0 : Int32)), (0, .ref (ad 0)), (1, .int a0), (2, .int a1), (3, .int a2)]) hx hb dX7_away_1 hl (by decide) rfl (fun ls hl => ?_)
  obtain ⟨o9, h_o9, h⟩ := ob h
  refine l_Mod_away_L3 C0 F ad mthr mnow mold mols msav miss minp mlen mat medg mcor mtri mkep mkee mwor mnum mmet a0 a1 a2 hP F (0 : Int32) _ h_o9 ls (lv_sub hl [1, 2, 3, 4, 0] rfl) (fun o9x ls eo hl => ?_) (fun q_o pcR ls eo hdR => ?_)
  · subst o9
    have h := se_r h
    refine lv_iconst (v := (-1 : Int32)) (pc := 70) hx hb dX7_away_70 (by decide) ?_
    obtain rfl := Option.some.inj h
    exact W.iret hx hb hr (fun t ht hW => ⟨rfl, ht⟩) (fun q hq => absurd hq List.not_mem_nil) dX7_away_71 hlk
  · subst o9
    have h := se_l h
    obtain rfl := Option.some.inj h
    exact W.iret hx hb hr (fun t ht hW => ⟨rfl, ht⟩) (fun q hq => absurd hq List.not_mem_nil) hdR hlk
