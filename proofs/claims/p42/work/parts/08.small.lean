set_option maxHeartbeats 4000000 in
set_option maxRecDepth 100000 in
theorem c_Input_clear (l : Launch) (K : KT) (ad : Nat → Nat) (ich : Nat → Int32) (ifs : Nat → Int32) (isc : Nat → Int32) (isg : Nat → Int32) (iln : Int32) (ien : Int32) (iin : Bool) (idg : Int32) (iva : Int32) : Wr l K 0 yX1_clear cX1_clear 1 none [.ref (ad 0)] (wInput K ad ich ifs isc isg iln ien iin idg iva) none (wInput K ad ich ifs isc isg ((s_Input_clear ).1) ((s_Input_clear ).2) iin idg iva) := by
  generalize h : s_Input_clear  = o
  refine Wr.of (by decide +kernel) (Nat.le_of_ble_eq_true rfl) ?_
  unfold s_Input_clear at h
  intro p e s m below meth c hx hb hr hml hown hts hlk H locs hP hG hD hS ls hl
  have C0 : Ctx p m c cX1_clear 1 s (Array.mk [.ref (ad 0)]) RX1 K meth none := ⟨hx, hb, hml, hown, hts, hG, hr, hlk⟩
  have hl : lv_has ls 1 [(0, .ref (ad 0))] := hl
  refine lv_aload_n (pc := 0) hx hb dX1_clear_0 rfl (lv_at hl 0 rfl) ?_
  refine lv_iconst (v := (0 : Int32)) (pc := 1) hx hb dX1_clear_1 (by decide) ?_
  refine va_put (D := K.1) (ci := 1) (v := .int (0 : Int32)) (ty := .int) (C := RX1) (T := TX1) (N := 9) (pc := 2) hx hb hts inT1 tyX1 tyX1_ok nmX1 hown hG.1 hP hD hS 0 rfl rfl 4 (by decide) (hts _ qf_Input_29) (fun _ h9 => h9) rfl (by decide +kernel) rfl rfl (Nat.le_of_ble_eq_true rfl) dX1_clear_2 (fun H locs hP hD hS => ?_)
  have hP : va_P K.1 vC (wInput K ad ich ifs isc isg (0 : Int32) ien iin idg iva) H := hP
  have hD : va_D _ (wInput K ad ich ifs isc isg (0 : Int32) ien iin idg iva) := hD
  refine lv_aload_n (pc := 5) hx hb dX1_clear_5 rfl (lv_at hl 0 rfl) ?_
  refine lv_iconst (v := (0 : Int32)) (pc := 6) hx hb dX1_clear_6 (by decide) ?_
  refine va_put (D := K.1) (ci := 1) (v := .int (0 : Int32)) (ty := .int) (C := RX1) (T := TX1) (N := 9) (pc := 7) hx hb hts inT1 tyX1 tyX1_ok nmX1 hown hG.1 hP hD hS 0 rfl rfl 5 (by decide) (hts _ qf_Input_33) (fun _ h9 => h9) rfl (by decide +kernel) rfl rfl (Nat.le_of_ble_eq_true rfl) dX1_clear_7 (fun H locs hP hD hS => ?_)
  have hP : va_P K.1 vC (wInput K ad ich ifs isc isg (0 : Int32) (0 : Int32) iin idg iva) H := hP
  have hD : va_D _ (wInput K ad ich ifs isc isg (0 : Int32) (0 : Int32) iin idg iva) := hD
  subst h
  exact W.vret hx hb hr (fun t ht hW => ⟨⟨rfl, by rw [ht]; exact hP⟩, hS.F ht⟩) hS.2.2 dX1_clear_10 hlk
set_option maxHeartbeats 4000000 in
set_option maxRecDepth 100000 in
theorem c_Input_entries (l : Launch) (K : KT) (ad : Nat → Nat) (ich : Nat → Int32) (ifs : Nat → Int32) (isc : Nat → Int32) (isg : Nat → Int32) (iln : Int32) (ien : Int32) (iin : Bool) (idg : Int32) (iva : Int32) : Rd l K 0 yX1_entries cX1_entries 1 .int [.ref (ad 0)] (wInput K ad ich ifs isc isg iln ien iin idg iva) (s_Input_entries ien) := by
  generalize h : s_Input_entries ien = o
  refine Rd.of (by decide +kernel) (Nat.le_of_ble_eq_true rfl) ?_
  unfold s_Input_entries at h
  intro p e s m below meth c hx hb hr hml hown hts hlk hP hG ls hl
  have C0 : Ctx p m c cX1_entries 1 s (Array.mk [.ref (ad 0)]) RX1 K meth (some .int) := ⟨hx, hb, hml, hown, hts, hG, hr, hlk⟩
  have hl : lv_has ls 1 [(0, .ref (ad 0))] := hl
  refine lv_aload_n (pc := 0) hx hb dX1_entries_0 rfl (lv_at hl 0 rfl) ?_
  refine va_get (D := K.1) (ci := 1) (v := .int ien) (C := RX1) (T := TX1) (N := 9) (pc := 1) hx hb hts inT1 hown hG.1 hP 0 rfl rfl 5 (by decide) (hts _ qf_Input_33) (fun _ h9 => h9) rfl dX1_entries_1 ?_
  subst h
  exact W.iret hx hb hr (fun t ht hW => ⟨rfl, ht⟩) (fun q hq => absurd hq List.not_mem_nil) dX1_entries_4 hlk
set_option maxHeartbeats 4000000 in
set_option maxRecDepth 100000 in
theorem c_Row_get (l : Launch) (K : KT) (ad : Nat → Nat) (rn : Nat) (hrn : rn < 2147483648) (rf : Nat → Int32) (a0 : Int32) : Rd l K 0 yX4_get cX4_get 2 .int [.ref (ad 0), .int a0] (wRow K ad rn rf) (s_Row_get rn rf a0) := by
  generalize h : s_Row_get rn rf a0 = o
  refine Rd.of (by decide +kernel) (Nat.le_of_ble_eq_true rfl) ?_
  unfold s_Row_get at h
  intro p e s m below meth c hx hb hr hml hown hts hlk hP hG ls hl
  have C0 : Ctx p m c cX4_get 2 s (Array.mk [.ref (ad 0), .int a0]) RX4 K meth (some .int) := ⟨hx, hb, hml, hown, hts, hG, hr, hlk⟩
  have hl : lv_has ls 2 [(0, .ref (ad 0)), (1, .int a0)] := hl
  refine lv_iload_n (pc := 0) hx hb dX4_get_0 rfl (lv_at hl 1 rfl) ?_
  refine lv_if_lt (tgt := 22) (pc := 1) hx hb dX4_get_1 (by decide) (fun c1 => ?_) (fun c1 => ?_)
  · have h := it_t c1 h
    refine lv_iconst (v := (0 : Int32)) (pc := 22) hx hb dX4_get_22 (by decide) ?_
    subst h
    exact W.iret hx hb hr (fun t ht hW => ⟨rfl, ht⟩) (fun q hq => absurd hq List.not_mem_nil) dX4_get_23 hlk
  · have h := it_f c1 h
    refine lv_iload_n (pc := 4) hx hb dX4_get_4 rfl (lv_at hl 1 rfl) ?_
    refine lv_aload_n (pc := 5) hx hb dX4_get_5 rfl (lv_at hl 0 rfl) ?_
    refine va_get (D := K.1) (ci := 4) (v := .ref (ad 1)) (C := RX4) (T := TX4) (N := 1) (pc := 6) hx hb hts inT4 hown hG.1 hP 0 rfl rfl 0 (by decide) (hts _ qf_Row_13) (fun _ h9 => h9) rfl dX4_get_6 ?_
    refine va_alen (pc := 9) hx hb hG.1 hP 1 0 rfl rfl (v := (Int32.ofNat rn)) rfl dX4_get_9 ?_
    refine lv_icmp_ge (tgt := 22) (pc := 10) hx hb dX4_get_10 (by decide) (fun c2 => ?_) (fun c2 => ?_)
    · have h := it_t c2 h
      refine lv_iconst (v := (0 : Int32)) (pc := 22) hx hb dX4_get_22 (by decide) ?_
      subst h
      exact W.iret hx hb hr (fun t ht hW => ⟨rfl, ht⟩) (fun q hq => absurd hq List.not_mem_nil) dX4_get_23 hlk
    · have h := it_f c2 h
      refine lv_aload_n (pc := 13) hx hb dX4_get_13 rfl (lv_at hl 0 rfl) ?_
      refine va_get (D := K.1) (ci := 4) (v := .ref (ad 1)) (C := RX4) (T := TX4) (N := 1) (pc := 14) hx hb hts inT4 hown hG.1 hP 0 rfl rfl 0 (by decide) (hts _ qf_Row_13) (fun _ h9 => h9) rfl dX4_get_14 ?_
      refine lv_iload_n (pc := 17) hx hb dX4_get_17 rfl (lv_at hl 1 rfl) ?_
      refine va_iald (pc := 18) hx hb hG.1 hP 1 0 rfl rfl (vin hrn (by assumption) (by assumption)) dX4_get_18 ?_
      refine lv_goto (tgt := 23) (pc := 19) hx hb dX4_get_19 (by decide) ?_
      subst h
      exact W.iret hx hb hr (fun t ht hW => ⟨rfl, ht⟩) (fun q hq => absurd hq List.not_mem_nil) dX4_get_23 hlk
set_option maxHeartbeats 4000000 in
set_option maxRecDepth 100000 in
theorem c_Input_firstOf (l : Launch) (K : KT) (ad : Nat → Nat) (ich : Nat → Int32) (ifs : Nat → Int32) (isc : Nat → Int32) (isg : Nat → Int32) (iln : Int32) (ien : Int32) (iin : Bool) (idg : Int32) (iva : Int32) (a0 : Int32) : Rd l K 1 yX1_firstOf cX1_firstOf 2 .int [.ref (ad 0), .int a0] (wInput K ad ich ifs isc isg iln ien iin idg iva) (s_Input_firstOf ifs a0) := by
  generalize h : s_Input_firstOf ifs a0 = o
  refine Rd.of (by decide +kernel) (Nat.le_of_ble_eq_true rfl) ?_
  unfold s_Input_firstOf at h
  intro p e s m below meth c hx hb hr hml hown hts hlk hP hG ls hl
  have C0 : Ctx p m c cX1_firstOf 2 s (Array.mk [.ref (ad 0), .int a0]) RX1 K meth (some .int) := ⟨hx, hb, hml, hown, hts, hG, hr, hlk⟩
  have hl : lv_has ls 2 [(0, .ref (ad 0)), (1, .int a0)] := hl
  refine lv_aload_n (pc := 0) hx hb dX1_firstOf_0 rfl (lv_at hl 0 rfl) ?_
  refine va_get (D := K.1) (ci := 1) (v := .ref (ad 3)) (C := RX1) (T := TX1) (N := 9) (pc := 1) hx hb hts inT1 hown hG.1 hP 0 rfl rfl 1 (by decide) (hts _ qf_Input_20) (fun _ h9 => h9) rfl dX1_firstOf_1 ?_
  refine lv_iload_n (pc := 4) hx hb dX1_firstOf_4 rfl (lv_at hl 1 rfl) ?_
  refine rdV (pc := 5) (As := [.int a0]) (rest := []) hx hb hml hown hts hG hP (c_Row_get l K (fun k => ad (k + 3)) 15 (by decide) ifs a0) [3, 4] rfl (q0 := 3) rfl (ci := 4) rfl g_Input_50 hd_Row_get rfl ⟨Nat.le_of_ble_eq_true rfl, Nat.le_of_ble_eq_true rfl⟩ ⟨Nat.zero_le _, Nat.zero_le _⟩ hl rfl (Nat.le_of_ble_eq_true rfl) dX1_firstOf_5 ?_
  subst h
  exact W.iret hx hb hr (fun t ht hW => ⟨rfl, ht⟩) (fun q hq => absurd hq List.not_mem_nil) dX1_firstOf_8 hlk
set_option maxHeartbeats 4000000 in
set_option maxRecDepth 100000 in
theorem c_Input_secondOf (l : Launch) (K : KT) (ad : Nat → Nat) (ich : Nat → Int32) (ifs : Nat → Int32) (isc : Nat → Int32) (isg : Nat → Int32) (iln : Int32) (ien : Int32) (iin : Bool) (idg : Int32) (iva : Int32) (a0 : Int32) : Rd l K 1 yX1_secondOf cX1_secondOf 2 .int [.ref (ad 0), .int a0] (wInput K ad ich ifs isc isg iln ien iin idg iva) (s_Input_secondOf isc a0) := by
  generalize h : s_Input_secondOf isc a0 = o
  refine Rd.of (by decide +kernel) (Nat.le_of_ble_eq_true rfl) ?_
  unfold s_Input_secondOf at h
  intro p e s m below meth c hx hb hr hml hown hts hlk hP hG ls hl
  have C0 : Ctx p m c cX1_secondOf 2 s (Array.mk [.ref (ad 0), .int a0]) RX1 K meth (some .int) := ⟨hx, hb, hml, hown, hts, hG, hr, hlk⟩
  have hl : lv_has ls 2 [(0, .ref (ad 0)), (1, .int a0)] := hl
  refine lv_aload_n (pc := 0) hx hb dX1_secondOf_0 rfl (lv_at hl 0 rfl) ?_
  refine va_get (D := K.1) (ci := 1) (v := .ref (ad 5)) (C := RX1) (T := TX1) (N := 9) (pc := 1) hx hb hts inT1 hown hG.1 hP 0 rfl rfl 2 (by decide) (hts _ qf_Input_23) (fun _ h9 => h9) rfl dX1_secondOf_1 ?_
  refine lv_iload_n (pc := 4) hx hb dX1_secondOf_4 rfl (lv_at hl 1 rfl) ?_
  refine rdV (pc := 5) (As := [.int a0]) (rest := []) hx hb hml hown hts hG hP (c_Row_get l K (fun k => ad (k + 5)) 15 (by decide) isc a0) [5, 6] rfl (q0 := 5) rfl (ci := 4) rfl g_Input_50 hd_Row_get rfl ⟨Nat.le_of_ble_eq_true rfl, Nat.le_of_ble_eq_true rfl⟩ ⟨Nat.zero_le _, Nat.zero_le _⟩ hl rfl (Nat.le_of_ble_eq_true rfl) dX1_secondOf_5 ?_
  subst h
  exact W.iret hx hb hr (fun t ht hW => ⟨rfl, ht⟩) (fun q hq => absurd hq List.not_mem_nil) dX1_secondOf_8 hlk
set_option maxHeartbeats 4000000 in
set_option maxRecDepth 100000 in
theorem c_Input_isSegment (l : Launch) (K : KT) (ad : Nat → Nat) (ich : Nat → Int32) (ifs : Nat → Int32) (isc : Nat → Int32) (isg : Nat → Int32) (iln : Int32) (ien : Int32) (iin : Bool) (idg : Int32) (iva : Int32) (a0 : Int32) : Rd l K 1 yX1_isSegment cX1_isSegment 2 .boolean [.ref (ad 0), .int a0] (wInput K ad ich ifs isc isg iln ien iin idg iva) (bI (s_Input_isSegment isg a0)) := by
  generalize h : s_Input_isSegment isg a0 = o
  refine Rd.of (by decide +kernel) (Nat.le_of_ble_eq_true rfl) ?_
  unfold s_Input_isSegment at h
  intro p e s m below meth c hx hb hr hml hown hts hlk hP hG ls hl
  have C0 : Ctx p m c cX1_isSegment 2 s (Array.mk [.ref (ad 0), .int a0]) RX1 K meth (some .boolean) := ⟨hx, hb, hml, hown, hts, hG, hr, hlk⟩
  have hl : lv_has ls 2 [(0, .ref (ad 0)), (1, .int a0)] := hl
  refine lv_aload_n (pc := 0) hx hb dX1_isSegment_0 rfl (lv_at hl 0 rfl) ?_
  refine va_get (D := K.1) (ci := 1) (v := .ref (ad 7)) (C := RX1) (T := TX1) (N := 9) (pc := 1) hx hb hts inT1 hown hG.1 hP 0 rfl rfl 3 (by decide) (hts _ qf_Input_26) (fun _ h9 => h9) rfl dX1_isSegment_1 ?_
  refine lv_iload_n (pc := 4) hx hb dX1_isSegment_4 rfl (lv_at hl 1 rfl) ?_
  refine rdV (pc := 5) (As := [.int a0]) (rest := []) hx hb hml hown hts hG hP (c_Row_get l K (fun k => ad (k + 7)) 15 (by decide) isg a0) [7, 8] rfl (q0 := 7) rfl (ci := 4) rfl g_Input_50 hd_Row_get rfl ⟨Nat.le_of_ble_eq_true rfl, Nat.le_of_ble_eq_true rfl⟩ ⟨Nat.zero_le _, Nat.zero_le _⟩ hl rfl (Nat.le_of_ble_eq_true rfl) dX1_isSegment_5 ?_
  refine lv_if_eq (tgt := 15) (pc := 8) hx hb dX1_isSegment_8 (by decide) (fun c1 => ?_) (fun c1 => ?_)
  · have h := it_t c1 h
    refine lv_iconst (v := (0 : Int32)) (pc := 15) hx hb dX1_isSegment_15 (by decide) ?_
    subst h
    exact W.zret hx hb hr (rfl) (fun t ht hW => ⟨rfl, ht⟩) (fun q hq => absurd hq List.not_mem_nil) dX1_isSegment_16 hlk
  · have h := it_f c1 h
    refine lv_iconst (v := (1 : Int32)) (pc := 11) hx hb dX1_isSegment_11 (by decide) ?_
    refine lv_goto (tgt := 16) (pc := 12) hx hb dX1_isSegment_12 (by decide) ?_
    subst h
    exact W.zret hx hb hr (rfl) (fun t ht hW => ⟨rfl, ht⟩) (fun q hq => absurd hq List.not_mem_nil) dX1_isSegment_16 hlk
set_option maxHeartbeats 4000000 in
set_option maxRecDepth 100000 in
theorem c_Input_startNumber (l : Launch) (K : KT) (ad : Nat → Nat) (ich : Nat → Int32) (ifs : Nat → Int32) (isc : Nat → Int32) (isg : Nat → Int32) (iln : Int32) (ien : Int32) (iin : Bool) (idg : Int32) (iva : Int32) : Wr l K 0 yX1_startNumber cX1_startNumber 1 none [.ref (ad 0)] (wInput K ad ich ifs isc isg iln ien iin idg iva) none (wInput K ad ich ifs isc isg iln ien iin ((s_Input_startNumber ).1) ((s_Input_startNumber ).2)) := by
  generalize h : s_Input_startNumber  = o
  refine Wr.of (by decide +kernel) (Nat.le_of_ble_eq_true rfl) ?_
  unfold s_Input_startNumber at h
  intro p e s m below meth c hx hb hr hml hown hts hlk H locs hP hG hD hS ls hl
  have C0 : Ctx p m c cX1_startNumber 1 s (Array.mk [.ref (ad 0)]) RX1 K meth none := ⟨hx, hb, hml, hown, hts, hG, hr, hlk⟩
  have hl : lv_has ls 1 [(0, .ref (ad 0))] := hl
  refine lv_aload_n (pc := 0) hx hb dX1_startNumber_0 rfl (lv_at hl 0 rfl) ?_
  refine lv_iconst (v := (0 : Int32)) (pc := 1) hx hb dX1_startNumber_1 (by decide) ?_
  refine va_put (D := K.1) (ci := 1) (v := .int (0 : Int32)) (ty := .int) (C := RX1) (T := TX1) (N := 9) (pc := 2) hx hb hts inT1 tyX1 tyX1_ok nmX1 hown hG.1 hP hD hS 0 rfl rfl 7 (by decide) (hts _ qf_Input_40) (fun _ h9 => h9) rfl (by decide +kernel) rfl rfl (Nat.le_of_ble_eq_true rfl) dX1_startNumber_2 (fun H locs hP hD hS => ?_)
  have hP : va_P K.1 vC (wInput K ad ich ifs isc isg iln ien iin (0 : Int32) iva) H := hP
  have hD : va_D _ (wInput K ad ich ifs isc isg iln ien iin (0 : Int32) iva) := hD
  refine lv_aload_n (pc := 5) hx hb dX1_startNumber_5 rfl (lv_at hl 0 rfl) ?_
  refine lv_iconst (v := (0 : Int32)) (pc := 6) hx hb dX1_startNumber_6 (by decide) ?_
  refine va_put (D := K.1) (ci := 1) (v := .int (0 : Int32)) (ty := .int) (C := RX1) (T := TX1) (N := 9) (pc := 7) hx hb hts inT1 tyX1 tyX1_ok nmX1 hown hG.1 hP hD hS 0 rfl rfl 8 (by decide) (hts _ qf_Input_43) (fun _ h9 => h9) rfl (by decide +kernel) rfl rfl (Nat.le_of_ble_eq_true rfl) dX1_startNumber_7 (fun H locs hP hD hS => ?_)
  have hP : va_P K.1 vC (wInput K ad ich ifs isc isg iln ien iin (0 : Int32) (0 : Int32)) H := hP
  have hD : va_D _ (wInput K ad ich ifs isc isg iln ien iin (0 : Int32) (0 : Int32)) := hD
  subst h
  exact W.vret hx hb hr (fun t ht hW => ⟨⟨rfl, by rw [ht]; exact hP⟩, hS.F ht⟩) hS.2.2 dX1_startNumber_10 hlk
set_option maxHeartbeats 4000000 in
set_option maxRecDepth 100000 in
theorem c_Input_takesDigit (l : Launch) (K : KT) (ad : Nat → Nat) (ich : Nat → Int32) (ifs : Nat → Int32) (isc : Nat → Int32) (isg : Nat → Int32) (iln : Int32) (ien : Int32) (iin : Bool) (idg : Int32) (iva : Int32) (a0 : Int32) : Wr l K 0 yX1_takesDigit cX1_takesDigit 2 (some .boolean) [.ref (ad 0), .int a0] (wInput K ad ich ifs isc isg iln ien iin idg iva) (some (.int (bI ((s_Input_takesDigit idg iva a0).1)))) (wInput K ad ich ifs isc isg iln ien iin ((s_Input_takesDigit idg iva a0).2.1) ((s_Input_takesDigit idg iva a0).2.2)) := by
  generalize h : s_Input_takesDigit idg iva a0 = o
  refine Wr.of (by decide +kernel) (Nat.le_of_ble_eq_true rfl) ?_
  unfold s_Input_takesDigit at h
  intro p e s m below meth c hx hb hr hml hown hts hlk H locs hP hG hD hS ls hl
  have C0 : Ctx p m c cX1_takesDigit 2 s (Array.mk [.ref (ad 0), .int a0]) RX1 K meth (some .boolean) := ⟨hx, hb, hml, hown, hts, hG, hr, hlk⟩
  have hl : lv_has ls 2 [(0, .ref (ad 0)), (1, .int a0)] := hl
  refine lv_aload_n (pc := 0) hx hb dX1_takesDigit_0 rfl (lv_at hl 0 rfl) ?_
  refine va_get (D := K.1) (ci := 1) (v := .int idg) (C := RX1) (T := TX1) (N := 9) (pc := 1) hx hb hts inT1 hown hG.1 hP 0 rfl rfl 7 (by decide) (hts _ qf_Input_40) (fun _ h9 => h9) rfl dX1_takesDigit_1 ?_
  refine lv_iconst (v := (3 : Int32)) (pc := 4) hx hb dX1_takesDigit_4 (by decide) ?_
  refine lv_icmp_ne (tgt := 10) (pc := 5) hx hb dX1_takesDigit_5 (by decide) (fun c1 => ?_) (fun c1 => ?_)
  · have h := it_f c1 h
    refine lv_aload_n (pc := 10) hx hb dX1_takesDigit_10 rfl (lv_at hl 0 rfl) ?_
    refine lv_bipush (v := (10 : Int32)) (pc := 11) hx hb dX1_takesDigit_11 (by decide) ?_
    refine lv_aload_n (pc := 13) hx hb dX1_takesDigit_13 rfl (lv_at hl 0 rfl) ?_
    refine va_get (D := K.1) (ci := 1) (v := .int iva) (C := RX1) (T := TX1) (N := 9) (pc := 14) hx hb hts inT1 hown hG.1 hP 0 rfl rfl 8 (by decide) (hts _ qf_Input_43) (fun _ h9 => h9) rfl dX1_takesDigit_14 ?_
    refine lv_imul (pc := 17) hx hb dX1_takesDigit_17 ?_
    refine lv_iload_n (pc := 18) hx hb dX1_takesDigit_18 rfl (lv_at hl 1 rfl) ?_
    refine lv_iadd (pc := 19) hx hb dX1_takesDigit_19 ?_
    refine va_put (D := K.1) (ci := 1) (v := .int (((10 : Int32) * iva) + a0)) (ty := .int) (C := RX1) (T := TX1) (N := 9) (pc := 20) hx hb hts inT1 tyX1 tyX1_ok nmX1 hown hG.1 hP hD hS 0 rfl rfl 8 (by decide) (hts _ qf_Input_43) (fun _ h9 => h9) rfl (by decide +kernel) rfl rfl (Nat.le_of_ble_eq_true rfl) dX1_takesDigit_20 (fun H locs hP hD hS => ?_)
    have hP : va_P K.1 vC (wInput K ad ich ifs isc isg iln ien iin idg (((10 : Int32) * iva) + a0)) H := hP
    have hD : va_D _ (wInput K ad ich ifs isc isg iln ien iin idg (((10 : Int32) * iva) + a0)) := hD
    refine lv_aload_n (pc := 23) hx hb dX1_takesDigit_23 rfl (lv_at hl 0 rfl) ?_
    refine lv_dup (pc := 24) hx hb dX1_takesDigit_24 rfl ?_
    refine va_get (D := K.1) (ci := 1) (v := .int idg) (C := RX1) (T := TX1) (N := 9) (pc := 25) hx hb hts inT1 hown hG.1 hP 0 rfl rfl 7 (by decide) (hts _ qf_Input_40) (fun _ h9 => h9) rfl dX1_takesDigit_25 ?_
    refine lv_iconst (v := (1 : Int32)) (pc := 28) hx hb dX1_takesDigit_28 (by decide) ?_
    refine lv_iadd (pc := 29) hx hb dX1_takesDigit_29 ?_
    refine va_put (D := K.1) (ci := 1) (v := .int (idg + (1 : Int32))) (ty := .int) (C := RX1) (T := TX1) (N := 9) (pc := 30) hx hb hts inT1 tyX1 tyX1_ok nmX1 hown hG.1 hP hD hS 0 rfl rfl 7 (by decide) (hts _ qf_Input_40) (fun _ h9 => h9) rfl (by decide +kernel) rfl rfl (Nat.le_of_ble_eq_true rfl) dX1_takesDigit_30 (fun H locs hP hD hS => ?_)
    have hP : va_P K.1 vC (wInput K ad ich ifs isc isg iln ien iin (idg + (1 : Int32)) (((10 : Int32) * iva) + a0)) H := hP
    have hD : va_D _ (wInput K ad ich ifs isc isg iln ien iin (idg + (1 : Int32)) (((10 : Int32) * iva) + a0)) := hD
    refine lv_iconst (v := (1 : Int32)) (pc := 33) hx hb dX1_takesDigit_33 (by decide) ?_
    subst h
    exact W.zret hx hb hr (rfl) (fun t ht hW => ⟨⟨rfl, by rw [ht]; exact hP⟩, hS.F ht⟩) hS.2.2 dX1_takesDigit_34 hlk
  · have h := it_t c1 h
    refine lv_iconst (v := (0 : Int32)) (pc := 8) hx hb dX1_takesDigit_8 (by decide) ?_
    subst h
    exact W.zret hx hb hr (rfl) (fun t ht hW => ⟨⟨rfl, by rw [ht]; exact hP⟩, hS.F ht⟩) hS.2.2 dX1_takesDigit_9 hlk
set_option maxHeartbeats 4000000 in
set_option maxRecDepth 100000 in
theorem c_Row_set (l : Launch) (K : KT) (ad : Nat → Nat) (rn : Nat) (hrn : rn < 2147483648) (rf : Nat → Int32) (a0 : Int32) (a1 : Int32) : Wr l K 0 yX4_set cX4_set 3 none [.ref (ad 0), .int a0, .int a1] (wRow K ad rn rf) none (wRow K ad rn (s_Row_set rn rf a0 a1)) := by
  generalize h : s_Row_set rn rf a0 a1 = o
  refine Wr.of (by decide +kernel) (Nat.le_of_ble_eq_true rfl) ?_
  unfold s_Row_set at h
  intro p e s m below meth c hx hb hr hml hown hts hlk H locs hP hG hD hS ls hl
  have C0 : Ctx p m c cX4_set 3 s (Array.mk [.ref (ad 0), .int a0, .int a1]) RX4 K meth none := ⟨hx, hb, hml, hown, hts, hG, hr, hlk⟩
  have hl : lv_has ls 3 [(0, .ref (ad 0)), (1, .int a0), (2, .int a1)] := hl
  refine lv_iload_n (pc := 0) hx hb dX4_set_0 rfl (lv_at hl 1 rfl) ?_
  refine lv_if_lt (tgt := 20) (pc := 1) hx hb dX4_set_1 (by decide) (fun c1 => ?_) (fun c1 => ?_)
  · have h := it_t c1 h
    subst h
    exact W.vret hx hb hr (fun t ht hW => ⟨⟨rfl, by rw [ht]; exact hP⟩, hS.F ht⟩) hS.2.2 dX4_set_20 hlk
  · have h := it_f c1 h
    refine lv_iload_n (pc := 4) hx hb dX4_set_4 rfl (lv_at hl 1 rfl) ?_
    refine lv_aload_n (pc := 5) hx hb dX4_set_5 rfl (lv_at hl 0 rfl) ?_
    refine va_get (D := K.1) (ci := 4) (v := .ref (ad 1)) (C := RX4) (T := TX4) (N := 1) (pc := 6) hx hb hts inT4 hown hG.1 hP 0 rfl rfl 0 (by decide) (hts _ qf_Row_13) (fun _ h9 => h9) rfl dX4_set_6 ?_
    refine va_alen (pc := 9) hx hb hG.1 hP 1 0 rfl rfl (v := (Int32.ofNat rn)) rfl dX4_set_9 ?_
    refine lv_icmp_ge (tgt := 20) (pc := 10) hx hb dX4_set_10 (by decide) (fun c2 => ?_) (fun c2 => ?_)
    · have h := it_t c2 h
      subst h
      exact W.vret hx hb hr (fun t ht hW => ⟨⟨rfl, by rw [ht]; exact hP⟩, hS.F ht⟩) hS.2.2 dX4_set_20 hlk
    · have h := it_f c2 h
      refine lv_aload_n (pc := 13) hx hb dX4_set_13 rfl (lv_at hl 0 rfl) ?_
      refine va_get (D := K.1) (ci := 4) (v := .ref (ad 1)) (C := RX4) (T := TX4) (N := 1) (pc := 14) hx hb hts inT4 hown hG.1 hP 0 rfl rfl 0 (by decide) (hts _ qf_Row_13) (fun _ h9 => h9) rfl dX4_set_14 ?_
      refine lv_iload_n (pc := 17) hx hb dX4_set_17 rfl (lv_at hl 1 rfl) ?_
      refine lv_iload_n (pc := 18) hx hb dX4_set_18 rfl (lv_at hl 2 rfl) ?_
      refine va_iast (pc := 19) hx hb hG.1 hP hD hS 1 0 rfl rfl (vin hrn (by assumption) (by assumption)) dX4_set_19 (fun H locs hP hD hS => ?_)
      have hP : va_P K.1 vC (wRow K ad rn (upd rf (a0).toNatClampNeg a1)) H := hP
      have hD : va_D _ (wRow K ad rn (upd rf (a0).toNatClampNeg a1)) := hD
      subst h
      exact W.vret hx hb hr (fun t ht hW => ⟨⟨rfl, by rw [ht]; exact hP⟩, hS.F ht⟩) hS.2.2 dX4_set_20 hlk
set_option maxHeartbeats 4000000 in
set_option maxRecDepth 100000 in
theorem c_Input_endEntry (l : Launch) (K : KT) (ad : Nat → Nat) (ich : Nat → Int32) (ifs : Nat → Int32) (isc : Nat → Int32) (isg : Nat → Int32) (iln : Int32) (ien : Int32) (iin : Bool) (idg : Int32) (iva : Int32) : Wr l K 1 yX1_endEntry cX1_endEntry 1 none [.ref (ad 0)] (wInput K ad ich ifs isc isg iln ien iin idg iva) none (wInput K ad ich ifs ((s_Input_endEntry isc ien iva).1) isg iln ((s_Input_endEntry isc ien iva).2.1) ((s_Input_endEntry isc ien iva).2.2.1) ((s_Input_endEntry isc ien iva).2.2.2.1) ((s_Input_endEntry isc ien iva).2.2.2.2)) := by
  generalize h : s_Input_endEntry isc ien iva = o
  refine Wr.of (by decide +kernel) (Nat.le_of_ble_eq_true rfl) ?_
  unfold s_Input_endEntry at h
  intro p e s m below meth c hx hb hr hml hown hts hlk H locs hP hG hD hS ls hl
  have C0 : Ctx p m c cX1_endEntry 1 s (Array.mk [.ref (ad 0)]) RX1 K meth none := ⟨hx, hb, hml, hown, hts, hG, hr, hlk⟩
  have hl : lv_has ls 1 [(0, .ref (ad 0))] := hl
  refine lv_aload_n (pc := 0) hx hb dX1_endEntry_0 rfl (lv_at hl 0 rfl) ?_
  refine va_get (D := K.1) (ci := 1) (v := .ref (ad 5)) (C := RX1) (T := TX1) (N := 9) (pc := 1) hx hb hts inT1 hown hG.1 hP 0 rfl rfl 2 (by decide) (hts _ qf_Input_23) (fun _ h9 => h9) rfl dX1_endEntry_1 ?_
  refine lv_aload_n (pc := 4) hx hb dX1_endEntry_4 rfl (lv_at hl 0 rfl) ?_
  refine va_get (D := K.1) (ci := 1) (v := .int ien) (C := RX1) (T := TX1) (N := 9) (pc := 5) hx hb hts inT1 hown hG.1 hP 0 rfl rfl 5 (by decide) (hts _ qf_Input_33) (fun _ h9 => h9) rfl dX1_endEntry_5 ?_
  refine lv_aload_n (pc := 8) hx hb dX1_endEntry_8 rfl (lv_at hl 0 rfl) ?_
  refine va_get (D := K.1) (ci := 1) (v := .int iva) (C := RX1) (T := TX1) (N := 9) (pc := 9) hx hb hts inT1 hown hG.1 hP 0 rfl rfl 8 (by decide) (hts _ qf_Input_43) (fun _ h9 => h9) rfl dX1_endEntry_9 ?_
  refine wrVv (pc := 12) (As := [.int ien, .int iva]) (rest := []) (ws2 := wInput K ad ich ifs (s_Row_set 15 isc ien iva) isg iln ien iin idg iva) (as9 := [ad 5, ad 6]) hx hb hml hown hts hG hP hD hS (c_Row_set l K (fun k => ad (k + 5)) 15 (by decide) isc ien iva) [5, 6] rfl rfl rfl rfl [.inr 0, .inr 1, .inr 2, .inr 3, .inr 4, .inl 0, .inl 1, .inr 7, .inr 8] (by decide +kernel) rfl (q0 := 5) rfl (ci := 4) rfl g_Input_46 hd_Row_set rfl ⟨Nat.le_of_ble_eq_true rfl, Nat.le_of_ble_eq_true rfl⟩ ⟨Nat.zero_le _, Nat.zero_le _⟩ hl rfl (Nat.le_of_ble_eq_true rfl) dX1_endEntry_12 (fun H locs hP hD hS => ?_)
  refine lv_aload_n (pc := 15) hx hb dX1_endEntry_15 rfl (lv_at hl 0 rfl) ?_
  refine lv_dup (pc := 16) hx hb dX1_endEntry_16 rfl ?_
  refine va_get (D := K.1) (ci := 1) (v := .int ien) (C := RX1) (T := TX1) (N := 9) (pc := 17) hx hb hts inT1 hown hG.1 hP 0 rfl rfl 5 (by decide) (hts _ qf_Input_33) (fun _ h9 => h9) rfl dX1_endEntry_17 ?_
  refine lv_iconst (v := (1 : Int32)) (pc := 20) hx hb dX1_endEntry_20 (by decide) ?_
  refine lv_iadd (pc := 21) hx hb dX1_endEntry_21 ?_
  refine va_put (D := K.1) (ci := 1) (v := .int (ien + (1 : Int32))) (ty := .int) (C := RX1) (T := TX1) (N := 9) (pc := 22) hx hb hts inT1 tyX1 tyX1_ok nmX1 hown hG.1 hP hD hS 0 rfl rfl 5 (by decide) (hts _ qf_Input_33) (fun _ h9 => h9) rfl (by decide +kernel) rfl rfl (Nat.le_of_ble_eq_true rfl) dX1_endEntry_22 (fun H locs hP hD hS => ?_)
  have hP : va_P K.1 vC (wInput K ad ich ifs (s_Row_set 15 isc ien iva) isg iln (ien + (1 : Int32)) iin idg iva) H := hP
  have hD : va_D _ (wInput K ad ich ifs (s_Row_set 15 isc ien iva) isg iln (ien + (1 : Int32)) iin idg iva) := hD
  refine lv_aload_n (pc := 25) hx hb dX1_endEntry_25 rfl (lv_at hl 0 rfl) ?_
  refine lv_iconst (v := (0 : Int32)) (pc := 26) hx hb dX1_endEntry_26 (by decide) ?_
  refine va_put (D := K.1) (ci := 1) (v := .int (bI false)) (ty := .boolean) (C := RX1) (T := TX1) (N := 9) (pc := 27) hx hb hts inT1 tyX1 tyX1_ok nmX1 hown hG.1 hP hD hS 0 rfl rfl 6 (by decide) (hts _ qf_Input_36) (fun _ h9 => h9) rfl (by decide +kernel) (bI_nar _) (bI_fit _) (Nat.le_of_ble_eq_true rfl) dX1_endEntry_27 (fun H locs hP hD hS => ?_)
  have hP : va_P K.1 vC (wInput K ad ich ifs (s_Row_set 15 isc ien iva) isg iln (ien + (1 : Int32)) false idg iva) H := hP
  have hD : va_D _ (wInput K ad ich ifs (s_Row_set 15 isc ien iva) isg iln (ien + (1 : Int32)) false idg iva) := hD
  refine lv_aload_n (pc := 30) hx hb dX1_endEntry_30 rfl (lv_at hl 0 rfl) ?_
  refine wrVv (pc := 31) (As := []) (rest := []) (ws2 := wInput K ad ich ifs (s_Row_set 15 isc ien iva) isg iln (ien + (1 : Int32)) false ((s_Input_startNumber).1) ((s_Input_startNumber).2)) (as9 := [ad 0, ad 1, ad 2, ad 3, ad 4, ad 5, ad 6, ad 7, ad 8]) hx hb hml hown hts hG hP hD hS (c_Input_startNumber l K ad ich ifs (s_Row_set 15 isc ien iva) isg iln (ien + (1 : Int32)) false idg iva) [0, 1, 2, 3, 4, 5, 6, 7, 8] rfl rfl rfl rfl [.inl 0, .inl 1, .inl 2, .inl 3, .inl 4, .inl 5, .inl 6, .inl 7, .inl 8] (by decide +kernel) rfl (q0 := 0) rfl (ci := 1) rfl g_Input_54 hd_Input_startNumber rfl ⟨Nat.le_of_ble_eq_true rfl, Nat.le_of_ble_eq_true rfl⟩ ⟨Nat.zero_le _, Nat.zero_le _⟩ hl rfl (Nat.le_of_ble_eq_true rfl) dX1_endEntry_31 (fun H locs hP hD hS => ?_)
  subst h
  exact W.vret hx hb hr (fun t ht hW => ⟨⟨rfl, by rw [ht]; exact hP⟩, hS.F ht⟩) hS.2.2 dX1_endEntry_34 hlk
set_option maxHeartbeats 4000000 in
set_option maxRecDepth 100000 in
theorem c_Input_takesEnd (l : Launch) (K : KT) (ad : Nat → Nat) (ich : Nat → Int32) (ifs : Nat → Int32) (isc : Nat → Int32) (isg : Nat → Int32) (iln : Int32) (ien : Int32) (iin : Bool) (idg : Int32) (iva : Int32) (a0 : Int32) : Wr l K 2 yX1_takesEnd cX1_takesEnd 2 (some .boolean) [.ref (ad 0), .int a0] (wInput K ad ich ifs isc isg iln ien iin idg iva) (some (.int (bI ((s_Input_takesEnd isc ien iin idg iva a0).1)))) (wInput K ad ich ifs ((s_Input_takesEnd isc ien iin idg iva a0).2.1) isg iln ((s_Input_takesEnd isc ien iin idg iva a0).2.2.1) ((s_Input_takesEnd isc ien iin idg iva a0).2.2.2.1) ((s_Input_takesEnd isc ien iin idg iva a0).2.2.2.2.1) ((s_Input_takesEnd isc ien iin idg iva a0).2.2.2.2.2)) := by
  generalize h : s_Input_takesEnd isc ien iin idg iva a0 = o
  refine Wr.of (by decide +kernel) (Nat.le_of_ble_eq_true rfl) ?_
  unfold s_Input_takesEnd at h
  intro p e s m below meth c hx hb hr hml hown hts hlk H locs hP hG hD hS ls hl
  have C0 : Ctx p m c cX1_takesEnd 2 s (Array.mk [.ref (ad 0), .int a0]) RX1 K meth (some .boolean) := ⟨hx, hb, hml, hown, hts, hG, hr, hlk⟩
  have hl : lv_has ls 2 [(0, .ref (ad 0)), (1, .int a0)] := hl
  refine lv_iload_n (pc := 0) hx hb dX1_takesEnd_0 rfl (lv_at hl 1 rfl) ?_
  refine lv_bipush (v := (59 : Int32)) (pc := 1) hx hb dX1_takesEnd_1 (by decide) ?_
  refine lv_icmp_eq (tgt := 8) (pc := 3) hx hb dX1_takesEnd_3 (by decide) (fun c1 => ?_) (fun c1 => ?_)
  · have h := it_t c1 h
    refine lv_aload_n (pc := 8) hx hb dX1_takesEnd_8 rfl (lv_at hl 0 rfl) ?_
    refine wrVv (pc := 9) (As := []) (rest := []) (ws2 := wInput K ad ich ifs ((s_Input_endEntry isc ien iva).1) isg iln ((s_Input_endEntry isc ien iva).2.1) ((s_Input_endEntry isc ien iva).2.2.1) ((s_Input_endEntry isc ien iva).2.2.2.1) ((s_Input_endEntry isc ien iva).2.2.2.2)) (as9 := [ad 0, ad 1, ad 2, ad 3, ad 4, ad 5, ad 6, ad 7, ad 8]) hx hb hml hown hts hG hP hD hS (c_Input_endEntry l K ad ich ifs isc isg iln ien iin idg iva) [0, 1, 2, 3, 4, 5, 6, 7, 8] rfl rfl rfl rfl [.inl 0, .inl 1, .inl 2, .inl 3, .inl 4, .inl 5, .inl 6, .inl 7, .inl 8] (by decide +kernel) rfl (q0 := 0) rfl (ci := 1) rfl g_Input_61 hd_Input_endEntry rfl ⟨Nat.le_of_ble_eq_true rfl, Nat.le_of_ble_eq_true rfl⟩ ⟨Nat.zero_le _, Nat.zero_le _⟩ hl rfl (Nat.le_of_ble_eq_true rfl) dX1_takesEnd_9 (fun H locs hP hD hS => ?_)
    refine lv_iconst (v := (1 : Int32)) (pc := 12) hx hb dX1_takesEnd_12 (by decide) ?_
    subst h
    exact W.zret hx hb hr (rfl) (fun t ht hW => ⟨⟨rfl, by rw [ht]; exact hP⟩, hS.F ht⟩) hS.2.2 dX1_takesEnd_13 hlk
  · have h := it_f c1 h
    refine lv_iconst (v := (0 : Int32)) (pc := 6) hx hb dX1_takesEnd_6 (by decide) ?_
    subst h
    exact W.zret hx hb hr (rfl) (fun t ht hW => ⟨⟨rfl, by rw [ht]; exact hP⟩, hS.F ht⟩) hS.2.2 dX1_takesEnd_7 hlk
set_option maxHeartbeats 4000000 in
set_option maxRecDepth 100000 in
theorem c_Input_takesMiddle (l : Launch) (K : KT) (ad : Nat → Nat) (ich : Nat → Int32) (ifs : Nat → Int32) (isc : Nat → Int32) (isg : Nat → Int32) (iln : Int32) (ien : Int32) (iin : Bool) (idg : Int32) (iva : Int32) (a0 : Int32) : Wr l K 1 yX1_takesMiddle cX1_takesMiddle 2 (some .boolean) [.ref (ad 0), .int a0] (wInput K ad ich ifs isc isg iln ien iin idg iva) (some (.int (bI ((s_Input_takesMiddle ifs isg ien iin idg iva a0).1)))) (wInput K ad ich ((s_Input_takesMiddle ifs isg ien iin idg iva a0).2.1) isc ((s_Input_takesMiddle ifs isg ien iin idg iva a0).2.2.1) iln ien ((s_Input_takesMiddle ifs isg ien iin idg iva a0).2.2.2.1) ((s_Input_takesMiddle ifs isg ien iin idg iva a0).2.2.2.2.1) ((s_Input_takesMiddle ifs isg ien iin idg iva a0).2.2.2.2.2)) := by
  generalize h : s_Input_takesMiddle ifs isg ien iin idg iva a0 = o
  refine Wr.of (by decide +kernel) (Nat.le_of_ble_eq_true rfl) ?_
  unfold s_Input_takesMiddle at h
  intro p e s m below meth c hx hb hr hml hown hts hlk H locs hP hG hD hS ls hl
  have C0 : Ctx p m c cX1_takesMiddle 2 s (Array.mk [.ref (ad 0), .int a0]) RX1 K meth (some .boolean) := ⟨hx, hb, hml, hown, hts, hG, hr, hlk⟩
  have hl : lv_has ls 2 [(0, .ref (ad 0)), (1, .int a0)] := hl
  refine lv_iload_n (pc := 0) hx hb dX1_takesMiddle_0 rfl (lv_at hl 1 rfl) ?_
  refine lv_bipush (v := (44 : Int32)) (pc := 1) hx hb dX1_takesMiddle_1 (by decide) ?_
  refine lv_icmp_eq (tgt := 14) (pc := 3) hx hb dX1_takesMiddle_3 (by decide) (fun c1 => ?_) (fun c1 => ?_)
  · have h := it_t c1 h
    refine lv_aload_n (pc := 14) hx hb dX1_takesMiddle_14 rfl (lv_at hl 0 rfl) ?_
    refine va_get (D := K.1) (ci := 1) (v := .ref (ad 3)) (C := RX1) (T := TX1) (N := 9) (pc := 15) hx hb hts inT1 hown hG.1 hP 0 rfl rfl 1 (by decide) (hts _ qf_Input_20) (fun _ h9 => h9) rfl dX1_takesMiddle_15 ?_
    refine lv_aload_n (pc := 18) hx hb dX1_takesMiddle_18 rfl (lv_at hl 0 rfl) ?_
    refine va_get (D := K.1) (ci := 1) (v := .int ien) (C := RX1) (T := TX1) (N := 9) (pc := 19) hx hb hts inT1 hown hG.1 hP 0 rfl rfl 5 (by decide) (hts _ qf_Input_33) (fun _ h9 => h9) rfl dX1_takesMiddle_19 ?_
    refine lv_aload_n (pc := 22) hx hb dX1_takesMiddle_22 rfl (lv_at hl 0 rfl) ?_
    refine va_get (D := K.1) (ci := 1) (v := .int iva) (C := RX1) (T := TX1) (N := 9) (pc := 23) hx hb hts inT1 hown hG.1 hP 0 rfl rfl 8 (by decide) (hts _ qf_Input_43) (fun _ h9 => h9) rfl dX1_takesMiddle_23 ?_
    refine wrVv (pc := 26) (As := [.int ien, .int iva]) (rest := []) (ws2 := wInput K ad ich (s_Row_set 15 ifs ien iva) isc isg iln ien iin idg iva) (as9 := [ad 3, ad 4]) hx hb hml hown hts hG hP hD hS (c_Row_set l K (fun k => ad (k + 3)) 15 (by decide) ifs ien iva) [3, 4] rfl rfl rfl rfl [.inr 0, .inr 1, .inr 2, .inl 0, .inl 1, .inr 5, .inr 6, .inr 7, .inr 8] (by decide +kernel) rfl (q0 := 3) rfl (ci := 4) rfl g_Input_46 hd_Row_set rfl ⟨Nat.le_of_ble_eq_true rfl, Nat.le_of_ble_eq_true rfl⟩ ⟨Nat.zero_le _, Nat.zero_le _⟩ hl rfl (Nat.le_of_ble_eq_true rfl) dX1_takesMiddle_26 (fun H locs hP hD hS => ?_)
    refine lv_aload_n (pc := 29) hx hb dX1_takesMiddle_29 rfl (lv_at hl 0 rfl) ?_
    refine va_get (D := K.1) (ci := 1) (v := .ref (ad 7)) (C := RX1) (T := TX1) (N := 9) (pc := 30) hx hb hts inT1 hown hG.1 hP 0 rfl rfl 3 (by decide) (hts _ qf_Input_26) (fun _ h9 => h9) rfl dX1_takesMiddle_30 ?_
    refine lv_aload_n (pc := 33) hx hb dX1_takesMiddle_33 rfl (lv_at hl 0 rfl) ?_
    refine va_get (D := K.1) (ci := 1) (v := .int ien) (C := RX1) (T := TX1) (N := 9) (pc := 34) hx hb hts inT1 hown hG.1 hP 0 rfl rfl 5 (by decide) (hts _ qf_Input_33) (fun _ h9 => h9) rfl dX1_takesMiddle_34 ?_
    refine lv_iload_n (pc := 37) hx hb dX1_takesMiddle_37 rfl (lv_at hl 1 rfl) ?_
    refine lv_bipush (v := (45 : Int32)) (pc := 38) hx hb dX1_takesMiddle_38 (by decide) ?_
    refine lv_icmp_ne (tgt := 47) (pc := 40) hx hb dX1_takesMiddle_40 (by decide) (fun c2 => ?_) (fun c2 => ?_)
    · have h := it_f c2 h
      refine lv_iconst (v := (0 : Int32)) (pc := 47) hx hb dX1_takesMiddle_47 (by decide) ?_
      refine wrVv (pc := 48) (As := [.int ien, .int (0 : Int32)]) (rest := []) (ws2 := wInput K ad ich (s_Row_set 15 ifs ien iva) isc (s_Row_set 15 isg ien (0 : Int32)) iln ien iin idg iva) (as9 := [ad 7, ad 8]) hx hb hml hown hts hG hP hD hS (c_Row_set l K (fun k => ad (k + 7)) 15 (by decide) isg ien (0 : Int32)) [7, 8] rfl rfl rfl rfl [.inr 0, .inr 1, .inr 2, .inr 3, .inr 4, .inr 5, .inr 6, .inl 0, .inl 1] (by decide +kernel) rfl (q0 := 7) rfl (ci := 4) rfl g_Input_46 hd_Row_set rfl ⟨Nat.le_of_ble_eq_true rfl, Nat.le_of_ble_eq_true rfl⟩ ⟨Nat.zero_le _, Nat.zero_le _⟩ hl rfl (Nat.le_of_ble_eq_true rfl) dX1_takesMiddle_48 (fun H locs hP hD hS => ?_)
      refine lv_aload_n (pc := 51) hx hb dX1_takesMiddle_51 rfl (lv_at hl 0 rfl) ?_
      refine lv_iconst (v := (1 : Int32)) (pc := 52) hx hb dX1_takesMiddle_52 (by decide) ?_
      refine va_put (D := K.1) (ci := 1) (v := .int (bI true)) (ty := .boolean) (C := RX1) (T := TX1) (N := 9) (pc := 53) hx hb hts inT1 tyX1 tyX1_ok nmX1 hown hG.1 hP hD hS 0 rfl rfl 6 (by decide) (hts _ qf_Input_36) (fun _ h9 => h9) rfl (by decide +kernel) (bI_nar _) (bI_fit _) (Nat.le_of_ble_eq_true rfl) dX1_takesMiddle_53 (fun H locs hP hD hS => ?_)
      have hP : va_P K.1 vC (wInput K ad ich (s_Row_set 15 ifs ien iva) isc (s_Row_set 15 isg ien (0 : Int32)) iln ien true idg iva) H := hP
      have hD : va_D _ (wInput K ad ich (s_Row_set 15 ifs ien iva) isc (s_Row_set 15 isg ien (0 : Int32)) iln ien true idg iva) := hD
      refine lv_aload_n (pc := 56) hx hb dX1_takesMiddle_56 rfl (lv_at hl 0 rfl) ?_
      refine wrVv (pc := 57) (As := []) (rest := []) (ws2 := wInput K ad ich (s_Row_set 15 ifs ien iva) isc (s_Row_set 15 isg ien (0 : Int32)) iln ien true ((s_Input_startNumber).1) ((s_Input_startNumber).2)) (as9 := [ad 0, ad 1, ad 2, ad 3, ad 4, ad 5, ad 6, ad 7, ad 8]) hx hb hml hown hts hG hP hD hS (c_Input_startNumber l K ad ich (s_Row_set 15 ifs ien iva) isc (s_Row_set 15 isg ien (0 : Int32)) iln ien true idg iva) [0, 1, 2, 3, 4, 5, 6, 7, 8] rfl rfl rfl rfl [.inl 0, .inl 1, .inl 2, .inl 3, .inl 4, .inl 5, .inl 6, .inl 7, .inl 8] (by decide +kernel) rfl (q0 := 0) rfl (ci := 1) rfl g_Input_54 hd_Input_startNumber rfl ⟨Nat.le_of_ble_eq_true rfl, Nat.le_of_ble_eq_true rfl⟩ ⟨Nat.zero_le _, Nat.zero_le _⟩ hl rfl (Nat.le_of_ble_eq_true rfl) dX1_takesMiddle_57 (fun H locs hP hD hS => ?_)
      refine lv_iconst (v := (1 : Int32)) (pc := 60) hx hb dX1_takesMiddle_60 (by decide) ?_
      subst h
      exact W.zret hx hb hr (rfl) (fun t ht hW => ⟨⟨rfl, by rw [ht]; exact hP⟩, hS.F ht⟩) hS.2.2 dX1_takesMiddle_61 hlk
    · have h := it_t c2 h
      refine lv_iconst (v := (1 : Int32)) (pc := 43) hx hb dX1_takesMiddle_43 (by decide) ?_
      refine lv_goto (tgt := 48) (pc := 44) hx hb dX1_takesMiddle_44 (by decide) ?_
      refine wrVv (pc := 48) (As := [.int ien, .int (1 : Int32)]) (rest := []) (ws2 := wInput K ad ich (s_Row_set 15 ifs ien iva) isc (s_Row_set 15 isg ien (1 : Int32)) iln ien iin idg iva) (as9 := [ad 7, ad 8]) hx hb hml hown hts hG hP hD hS (c_Row_set l K (fun k => ad (k + 7)) 15 (by decide) isg ien (1 : Int32)) [7, 8] rfl rfl rfl rfl [.inr 0, .inr 1, .inr 2, .inr 3, .inr 4, .inr 5, .inr 6, .inl 0, .inl 1] (by decide +kernel) rfl (q0 := 7) rfl (ci := 4) rfl g_Input_46 hd_Row_set rfl ⟨Nat.le_of_ble_eq_true rfl, Nat.le_of_ble_eq_true rfl⟩ ⟨Nat.zero_le _, Nat.zero_le _⟩ hl rfl (Nat.le_of_ble_eq_true rfl) dX1_takesMiddle_48 (fun H locs hP hD hS => ?_)
      refine lv_aload_n (pc := 51) hx hb dX1_takesMiddle_51 rfl (lv_at hl 0 rfl) ?_
      refine lv_iconst (v := (1 : Int32)) (pc := 52) hx hb dX1_takesMiddle_52 (by decide) ?_
      refine va_put (D := K.1) (ci := 1) (v := .int (bI true)) (ty := .boolean) (C := RX1) (T := TX1) (N := 9) (pc := 53) hx hb hts inT1 tyX1 tyX1_ok nmX1 hown hG.1 hP hD hS 0 rfl rfl 6 (by decide) (hts _ qf_Input_36) (fun _ h9 => h9) rfl (by decide +kernel) (bI_nar _) (bI_fit _) (Nat.le_of_ble_eq_true rfl) dX1_takesMiddle_53 (fun H locs hP hD hS => ?_)
      have hP : va_P K.1 vC (wInput K ad ich (s_Row_set 15 ifs ien iva) isc (s_Row_set 15 isg ien (1 : Int32)) iln ien true idg iva) H := hP
      have hD : va_D _ (wInput K ad ich (s_Row_set 15 ifs ien iva) isc (s_Row_set 15 isg ien (1 : Int32)) iln ien true idg iva) := hD
      refine lv_aload_n (pc := 56) hx hb dX1_takesMiddle_56 rfl (lv_at hl 0 rfl) ?_
      refine wrVv (pc := 57) (As := []) (rest := []) (ws2 := wInput K ad ich (s_Row_set 15 ifs ien iva) isc (s_Row_set 15 isg ien (1 : Int32)) iln ien true ((s_Input_startNumber).1) ((s_Input_startNumber).2)) (as9 := [ad 0, ad 1, ad 2, ad 3, ad 4, ad 5, ad 6, ad 7, ad 8]) hx hb hml hown hts hG hP hD hS (c_Input_startNumber l K ad ich (s_Row_set 15 ifs ien iva) isc (s_Row_set 15 isg ien (1 : Int32)) iln ien true idg iva) [0, 1, 2, 3, 4, 5, 6, 7, 8] rfl rfl rfl rfl [.inl 0, .inl 1, .inl 2, .inl 3, .inl 4, .inl 5, .inl 6, .inl 7, .inl 8] (by decide +kernel) rfl (q0 := 0) rfl (ci := 1) rfl g_Input_54 hd_Input_startNumber rfl ⟨Nat.le_of_ble_eq_true rfl, Nat.le_of_ble_eq_true rfl⟩ ⟨Nat.zero_le _, Nat.zero_le _⟩ hl rfl (Nat.le_of_ble_eq_true rfl) dX1_takesMiddle_57 (fun H locs hP hD hS => ?_)
      refine lv_iconst (v := (1 : Int32)) (pc := 60) hx hb dX1_takesMiddle_60 (by decide) ?_
      subst h
      exact W.zret hx hb hr (rfl) (fun t ht hW => ⟨⟨rfl, by rw [ht]; exact hP⟩, hS.F ht⟩) hS.2.2 dX1_takesMiddle_61 hlk
  · have h := it_f c1 h
    refine lv_iload_n (pc := 6) hx hb dX1_takesMiddle_6 rfl (lv_at hl 1 rfl) ?_
    refine lv_bipush (v := (45 : Int32)) (pc := 7) hx hb dX1_takesMiddle_7 (by decide) ?_
    refine lv_icmp_eq (tgt := 14) (pc := 9) hx hb dX1_takesMiddle_9 (by decide) (fun c3 => ?_) (fun c3 => ?_)
    · have h := it_t c3 h
      refine lv_aload_n (pc := 14) hx hb dX1_takesMiddle_14 rfl (lv_at hl 0 rfl) ?_
      refine va_get (D := K.1) (ci := 1) (v := .ref (ad 3)) (C := RX1) (T := TX1) (N := 9) (pc := 15) hx hb hts inT1 hown hG.1 hP 0 rfl rfl 1 (by decide) (hts _ qf_Input_20) (fun _ h9 => h9) rfl dX1_takesMiddle_15 ?_
      refine lv_aload_n (pc := 18) hx hb dX1_takesMiddle_18 rfl (lv_at hl 0 rfl) ?_
      refine va_get (D := K.1) (ci := 1) (v := .int ien) (C := RX1) (T := TX1) (N := 9) (pc := 19) hx hb hts inT1 hown hG.1 hP 0 rfl rfl 5 (by decide) (hts _ qf_Input_33) (fun _ h9 => h9) rfl dX1_takesMiddle_19 ?_
      refine lv_aload_n (pc := 22) hx hb dX1_takesMiddle_22 rfl (lv_at hl 0 rfl) ?_
      refine va_get (D := K.1) (ci := 1) (v := .int iva) (C := RX1) (T := TX1) (N := 9) (pc := 23) hx hb hts inT1 hown hG.1 hP 0 rfl rfl 8 (by decide) (hts _ qf_Input_43) (fun _ h9 => h9) rfl dX1_takesMiddle_23 ?_
      refine wrVv (pc := 26) (As := [.int ien, .int iva]) (rest := []) (ws2 := wInput K ad ich (s_Row_set 15 ifs ien iva) isc isg iln ien iin idg iva) (as9 := [ad 3, ad 4]) hx hb hml hown hts hG hP hD hS (c_Row_set l K (fun k => ad (k + 3)) 15 (by decide) ifs ien iva) [3, 4] rfl rfl rfl rfl [.inr 0, .inr 1, .inr 2, .inl 0, .inl 1, .inr 5, .inr 6, .inr 7, .inr 8] (by decide +kernel) rfl (q0 := 3) rfl (ci := 4) rfl g_Input_46 hd_Row_set rfl ⟨Nat.le_of_ble_eq_true rfl, Nat.le_of_ble_eq_true rfl⟩ ⟨Nat.zero_le _, Nat.zero_le _⟩ hl rfl (Nat.le_of_ble_eq_true rfl) dX1_takesMiddle_26 (fun H locs hP hD hS => ?_)
      refine lv_aload_n (pc := 29) hx hb dX1_takesMiddle_29 rfl (lv_at hl 0 rfl) ?_
      refine va_get (D := K.1) (ci := 1) (v := .ref (ad 7)) (C := RX1) (T := TX1) (N := 9) (pc := 30) hx hb hts inT1 hown hG.1 hP 0 rfl rfl 3 (by decide) (hts _ qf_Input_26) (fun _ h9 => h9) rfl dX1_takesMiddle_30 ?_
      refine lv_aload_n (pc := 33) hx hb dX1_takesMiddle_33 rfl (lv_at hl 0 rfl) ?_
      refine va_get (D := K.1) (ci := 1) (v := .int ien) (C := RX1) (T := TX1) (N := 9) (pc := 34) hx hb hts inT1 hown hG.1 hP 0 rfl rfl 5 (by decide) (hts _ qf_Input_33) (fun _ h9 => h9) rfl dX1_takesMiddle_34 ?_
      refine lv_iload_n (pc := 37) hx hb dX1_takesMiddle_37 rfl (lv_at hl 1 rfl) ?_
      refine lv_bipush (v := (45 : Int32)) (pc := 38) hx hb dX1_takesMiddle_38 (by decide) ?_
      refine lv_icmp_ne (tgt := 47) (pc := 40) hx hb dX1_takesMiddle_40 (by decide) (fun c4 => ?_) (fun c4 => ?_)
      · have h := it_f c4 h
        refine lv_iconst (v := (0 : Int32)) (pc := 47) hx hb dX1_takesMiddle_47 (by decide) ?_
        refine wrVv (pc := 48) (As := [.int ien, .int (0 : Int32)]) (rest := []) (ws2 := wInput K ad ich (s_Row_set 15 ifs ien iva) isc (s_Row_set 15 isg ien (0 : Int32)) iln ien iin idg iva) (as9 := [ad 7, ad 8]) hx hb hml hown hts hG hP hD hS (c_Row_set l K (fun k => ad (k + 7)) 15 (by decide) isg ien (0 : Int32)) [7, 8] rfl rfl rfl rfl [.inr 0, .inr 1, .inr 2, .inr 3, .inr 4, .inr 5, .inr 6, .inl 0, .inl 1] (by decide +kernel) rfl (q0 := 7) rfl (ci := 4) rfl g_Input_46 hd_Row_set rfl ⟨Nat.le_of_ble_eq_true rfl, Nat.le_of_ble_eq_true rfl⟩ ⟨Nat.zero_le _, Nat.zero_le _⟩ hl rfl (Nat.le_of_ble_eq_true rfl) dX1_takesMiddle_48 (fun H locs hP hD hS => ?_)
        refine lv_aload_n (pc := 51) hx hb dX1_takesMiddle_51 rfl (lv_at hl 0 rfl) ?_
        refine lv_iconst (v := (1 : Int32)) (pc := 52) hx hb dX1_takesMiddle_52 (by decide) ?_
        refine va_put (D := K.1) (ci := 1) (v := .int (bI true)) (ty := .boolean) (C := RX1) (T := TX1) (N := 9) (pc := 53) hx hb hts inT1 tyX1 tyX1_ok nmX1 hown hG.1 hP hD hS 0 rfl rfl 6 (by decide) (hts _ qf_Input_36) (fun _ h9 => h9) rfl (by decide +kernel) (bI_nar _) (bI_fit _) (Nat.le_of_ble_eq_true rfl) dX1_takesMiddle_53 (fun H locs hP hD hS => ?_)
        have hP : va_P K.1 vC (wInput K ad ich (s_Row_set 15 ifs ien iva) isc (s_Row_set 15 isg ien (0 : Int32)) iln ien true idg iva) H := hP
        have hD : va_D _ (wInput K ad ich (s_Row_set 15 ifs ien iva) isc (s_Row_set 15 isg ien (0 : Int32)) iln ien true idg iva) := hD
        refine lv_aload_n (pc := 56) hx hb dX1_takesMiddle_56 rfl (lv_at hl 0 rfl) ?_
        refine wrVv (pc := 57) (As := []) (rest := []) (ws2 := wInput K ad ich (s_Row_set 15 ifs ien iva) isc (s_Row_set 15 isg ien (0 : Int32)) iln ien true ((s_Input_startNumber).1) ((s_Input_startNumber).2)) (as9 := [ad 0, ad 1, ad 2, ad 3, ad 4, ad 5, ad 6, ad 7, ad 8]) hx hb hml hown hts hG hP hD hS (c_Input_startNumber l K ad ich (s_Row_set 15 ifs ien iva) isc (s_Row_set 15 isg ien (0 : Int32)) iln ien true idg iva) [0, 1, 2, 3, 4, 5, 6, 7, 8] rfl rfl rfl rfl [.inl 0, .inl 1, .inl 2, .inl 3, .inl 4, .inl 5, .inl 6, .inl 7, .inl 8] (by decide +kernel) rfl (q0 := 0) rfl (ci := 1) rfl g_Input_54 hd_Input_startNumber rfl ⟨Nat.le_of_ble_eq_true rfl, Nat.le_of_ble_eq_true rfl⟩ ⟨Nat.zero_le _, Nat.zero_le _⟩ hl rfl (Nat.le_of_ble_eq_true rfl) dX1_takesMiddle_57 (fun H locs hP hD hS => ?_)
        refine lv_iconst (v := (1 : Int32)) (pc := 60) hx hb dX1_takesMiddle_60 (by decide) ?_
        subst h
        exact W.zret hx hb hr (rfl) (fun t ht hW => ⟨⟨rfl, by rw [ht]; exact hP⟩, hS.F ht⟩) hS.2.2 dX1_takesMiddle_61 hlk
      · have h := it_t c4 h
        refine lv_iconst (v := (1 : Int32)) (pc := 43) hx hb dX1_takesMiddle_43 (by decide) ?_
        refine lv_goto (tgt := 48) (pc := 44) hx hb dX1_takesMiddle_44 (by decide) ?_
        refine wrVv (pc := 48) (As := [.int ien, .int (1 : Int32)]) (rest := []) (ws2 := wInput K ad ich (s_Row_set 15 ifs ien iva) isc (s_Row_set 15 isg ien (1 : Int32)) iln ien iin idg iva) (as9 := [ad 7, ad 8]) hx hb hml hown hts hG hP hD hS (c_Row_set l K (fun k => ad (k + 7)) 15 (by decide) isg ien (1 : Int32)) [7, 8] rfl rfl rfl rfl [.inr 0, .inr 1, .inr 2, .inr 3, .inr 4, .inr 5, .inr 6, .inl 0, .inl 1] (by decide +kernel) rfl (q0 := 7) rfl (ci := 4) rfl g_Input_46 hd_Row_set rfl ⟨Nat.le_of_ble_eq_true rfl, Nat.le_of_ble_eq_true rfl⟩ ⟨Nat.zero_le _, Nat.zero_le _⟩ hl rfl (Nat.le_of_ble_eq_true rfl) dX1_takesMiddle_48 (fun H locs hP hD hS => ?_)
        refine lv_aload_n (pc := 51) hx hb dX1_takesMiddle_51 rfl (lv_at hl 0 rfl) ?_
        refine lv_iconst (v := (1 : Int32)) (pc := 52) hx hb dX1_takesMiddle_52 (by decide) ?_
        refine va_put (D := K.1) (ci := 1) (v := .int (bI true)) (ty := .boolean) (C := RX1) (T := TX1) (N := 9) (pc := 53) hx hb hts inT1 tyX1 tyX1_ok nmX1 hown hG.1 hP hD hS 0 rfl rfl 6 (by decide) (hts _ qf_Input_36) (fun _ h9 => h9) rfl (by decide +kernel) (bI_nar _) (bI_fit _) (Nat.le_of_ble_eq_true rfl) dX1_takesMiddle_53 (fun H locs hP hD hS => ?_)
        have hP : va_P K.1 vC (wInput K ad ich (s_Row_set 15 ifs ien iva) isc (s_Row_set 15 isg ien (1 : Int32)) iln ien true idg iva) H := hP
        have hD : va_D _ (wInput K ad ich (s_Row_set 15 ifs ien iva) isc (s_Row_set 15 isg ien (1 : Int32)) iln ien true idg iva) := hD
        refine lv_aload_n (pc := 56) hx hb dX1_takesMiddle_56 rfl (lv_at hl 0 rfl) ?_
        refine wrVv (pc := 57) (As := []) (rest := []) (ws2 := wInput K ad ich (s_Row_set 15 ifs ien iva) isc (s_Row_set 15 isg ien (1 : Int32)) iln ien true ((s_Input_startNumber).1) ((s_Input_startNumber).2)) (as9 := [ad 0, ad 1, ad 2, ad 3, ad 4, ad 5, ad 6, ad 7, ad 8]) hx hb hml hown hts hG hP hD hS (c_Input_startNumber l K ad ich (s_Row_set 15 ifs ien iva) isc (s_Row_set 15 isg ien (1 : Int32)) iln ien true idg iva) [0, 1, 2, 3, 4, 5, 6, 7, 8] rfl rfl rfl rfl [.inl 0, .inl 1, .inl 2, .inl 3, .inl 4, .inl 5, .inl 6, .inl 7, .inl 8] (by decide +kernel) rfl (q0 := 0) rfl (ci := 1) rfl g_Input_54 hd_Input_startNumber rfl ⟨Nat.le_of_ble_eq_true rfl, Nat.le_of_ble_eq_true rfl⟩ ⟨Nat.zero_le _, Nat.zero_le _⟩ hl rfl (Nat.le_of_ble_eq_true rfl) dX1_takesMiddle_57 (fun H locs hP hD hS => ?_)
        refine lv_iconst (v := (1 : Int32)) (pc := 60) hx hb dX1_takesMiddle_60 (by decide) ?_
        subst h
        exact W.zret hx hb hr (rfl) (fun t ht hW => ⟨⟨rfl, by rw [ht]; exact hP⟩, hS.F ht⟩) hS.2.2 dX1_takesMiddle_61 hlk
    · have h := it_f c3 h
      refine lv_iconst (v := (0 : Int32)) (pc := 12) hx hb dX1_takesMiddle_12 (by decide) ?_
      subst h
      exact W.zret hx hb hr (rfl) (fun t ht hW => ⟨⟨rfl, by rw [ht]; exact hP⟩, hS.F ht⟩) hS.2.2 dX1_takesMiddle_13 hlk
set_option maxHeartbeats 4000000 in
set_option maxRecDepth 100000 in
theorem c_Input_takes (l : Launch) (K : KT) (ad : Nat → Nat) (ich : Nat → Int32) (ifs : Nat → Int32) (isc : Nat → Int32) (isg : Nat → Int32) (iln : Int32) (ien : Int32) (iin : Bool) (idg : Int32) (iva : Int32) (a0 : Int32) : Wr l K 3 yX1_takes cX1_takes 2 (some .boolean) [.ref (ad 0), .int a0] (wInput K ad ich ifs isc isg iln ien iin idg iva) (some (.int (bI ((s_Input_takes ifs isc isg ien iin idg iva a0).1)))) (wInput K ad ich ((s_Input_takes ifs isc isg ien iin idg iva a0).2.1) ((s_Input_takes ifs isc isg ien iin idg iva a0).2.2.1) ((s_Input_takes ifs isc isg ien iin idg iva a0).2.2.2.1) iln ((s_Input_takes ifs isc isg ien iin idg iva a0).2.2.2.2.1) ((s_Input_takes ifs isc isg ien iin idg iva a0).2.2.2.2.2.1) ((s_Input_takes ifs isc isg ien iin idg iva a0).2.2.2.2.2.2.1) ((s_Input_takes ifs isc isg ien iin idg iva a0).2.2.2.2.2.2.2)) := by
  generalize h : s_Input_takes ifs isc isg ien iin idg iva a0 = o
  refine Wr.of (by decide +kernel) (Nat.le_of_ble_eq_true rfl) ?_
  unfold s_Input_takes at h
  intro p e s m below meth c hx hb hr hml hown hts hlk H locs hP hG hD hS ls hl
  have C0 : Ctx p m c cX1_takes 2 s (Array.mk [.ref (ad 0), .int a0]) RX1 K meth (some .boolean) := ⟨hx, hb, hml, hown, hts, hG, hr, hlk⟩
  have hl : lv_has ls 2 [(0, .ref (ad 0)), (1, .int a0)] := hl
  refine lv_iload_n (pc := 0) hx hb dX1_takes_0 rfl (lv_at hl 1 rfl) ?_
  refine lv_bipush (v := (48 : Int32)) (pc := 1) hx hb dX1_takes_1 (by decide) ?_
  refine lv_icmp_lt (tgt := 21) (pc := 3) hx hb dX1_takes_3 (by decide) (fun c1 => ?_) (fun c1 => ?_)
  · have h := it_t c1 h
    refine lv_aload_n (pc := 21) hx hb dX1_takes_21 rfl (lv_at hl 0 rfl) ?_
    refine va_get (D := K.1) (ci := 1) (v := .int idg) (C := RX1) (T := TX1) (N := 9) (pc := 22) hx hb hts inT1 hown hG.1 hP 0 rfl rfl 7 (by decide) (hts _ qf_Input_40) (fun _ h9 => h9) rfl dX1_takes_22 ?_
    refine lv_if_ne (tgt := 30) (pc := 25) hx hb dX1_takes_25 (by decide) (fun c2 => ?_) (fun c2 => ?_)
    · have h := it_f c2 h
      refine lv_aload_n (pc := 30) hx hb dX1_takes_30 rfl (lv_at hl 0 rfl) ?_
      refine va_get (D := K.1) (ci := 1) (v := .int (bI iin)) (C := RX1) (T := TX1) (N := 9) (pc := 31) hx hb hts inT1 hown hG.1 hP 0 rfl rfl 6 (by decide) (hts _ qf_Input_36) (fun _ h9 => h9) rfl dX1_takes_31 ?_
      refine lv_if_eq (tgt := 45) (pc := 34) hx hb dX1_takes_34 (by decide) (fun c3 => ?_) (fun c3 => ?_)
      · have h := it_t c3 h
        refine lv_aload_n (pc := 45) hx hb dX1_takes_45 rfl (lv_at hl 0 rfl) ?_
        refine lv_iload_n (pc := 46) hx hb dX1_takes_46 rfl (lv_at hl 1 rfl) ?_
        refine wrVi (pc := 47) (As := [.int a0]) (rest := []) (ws2 := wInput K ad ich ((s_Input_takesMiddle ifs isg ien iin idg iva a0).2.1) isc ((s_Input_takesMiddle ifs isg ien iin idg iva a0).2.2.1) iln ien ((s_Input_takesMiddle ifs isg ien iin idg iva a0).2.2.2.1) ((s_Input_takesMiddle ifs isg ien iin idg iva a0).2.2.2.2.1) ((s_Input_takesMiddle ifs isg ien iin idg iva a0).2.2.2.2.2)) (as9 := [ad 0, ad 1, ad 2, ad 3, ad 4, ad 5, ad 6, ad 7, ad 8]) hx hb hml hown hts hG hP hD hS (c_Input_takesMiddle l K ad ich ifs isc isg iln ien iin idg iva a0) [0, 1, 2, 3, 4, 5, 6, 7, 8] rfl rfl rfl rfl [.inl 0, .inl 1, .inl 2, .inl 3, .inl 4, .inl 5, .inl 6, .inl 7, .inl 8] (by decide +kernel) rfl (q0 := 0) rfl (ci := 1) rfl g_Input_70 hd_Input_takesMiddle rfl ⟨Nat.le_of_ble_eq_true rfl, Nat.le_of_ble_eq_true rfl⟩ ⟨Nat.zero_le _, Nat.zero_le _⟩ hl rfl (Nat.le_of_ble_eq_true rfl) dX1_takes_47 (fun H locs hP hD hS => ?_)
        subst h
        exact W.zret hx hb hr (bI_nar _) (fun t ht hW => ⟨⟨rfl, by rw [ht]; exact hP⟩, hS.F ht⟩) hS.2.2 dX1_takes_50 hlk
      · have h := it_f c3 h
        refine lv_aload_n (pc := 37) hx hb dX1_takes_37 rfl (lv_at hl 0 rfl) ?_
        refine lv_iload_n (pc := 38) hx hb dX1_takes_38 rfl (lv_at hl 1 rfl) ?_
        refine wrVi (pc := 39) (As := [.int a0]) (rest := []) (ws2 := wInput K ad ich ifs ((s_Input_takesEnd isc ien iin idg iva a0).2.1) isg iln ((s_Input_takesEnd isc ien iin idg iva a0).2.2.1) ((s_Input_takesEnd isc ien iin idg iva a0).2.2.2.1) ((s_Input_takesEnd isc ien iin idg iva a0).2.2.2.2.1) ((s_Input_takesEnd isc ien iin idg iva a0).2.2.2.2.2)) (as9 := [ad 0, ad 1, ad 2, ad 3, ad 4, ad 5, ad 6, ad 7, ad 8]) hx hb hml hown hts hG hP hD hS (c_Input_takesEnd l K ad ich ifs isc isg iln ien iin idg iva a0) [0, 1, 2, 3, 4, 5, 6, 7, 8] rfl rfl rfl rfl [.inl 0, .inl 1, .inl 2, .inl 3, .inl 4, .inl 5, .inl 6, .inl 7, .inl 8] (by decide +kernel) rfl (q0 := 0) rfl (ci := 1) rfl g_Input_67 hd_Input_takesEnd rfl ⟨Nat.le_of_ble_eq_true rfl, Nat.le_of_ble_eq_true rfl⟩ ⟨Nat.zero_le _, Nat.zero_le _⟩ hl rfl (Nat.le_of_ble_eq_true rfl) dX1_takes_39 (fun H locs hP hD hS => ?_)
        refine lv_goto (tgt := 50) (pc := 42) hx hb dX1_takes_42 (by decide) ?_
        subst h
        exact W.zret hx hb hr (bI_nar _) (fun t ht hW => ⟨⟨rfl, by rw [ht]; exact hP⟩, hS.F ht⟩) hS.2.2 dX1_takes_50 hlk
    · have h := it_t c2 h
      refine lv_iconst (v := (0 : Int32)) (pc := 28) hx hb dX1_takes_28 (by decide) ?_
      subst h
      exact W.zret hx hb hr (rfl) (fun t ht hW => ⟨⟨rfl, by rw [ht]; exact hP⟩, hS.F ht⟩) hS.2.2 dX1_takes_29 hlk
  · have h := it_f c1 h
    refine lv_iload_n (pc := 6) hx hb dX1_takes_6 rfl (lv_at hl 1 rfl) ?_
    refine lv_bipush (v := (57 : Int32)) (pc := 7) hx hb dX1_takes_7 (by decide) ?_
    refine lv_icmp_gt (tgt := 21) (pc := 9) hx hb dX1_takes_9 (by decide) (fun c4 => ?_) (fun c4 => ?_)
    · have h := it_t c4 h
      refine lv_aload_n (pc := 21) hx hb dX1_takes_21 rfl (lv_at hl 0 rfl) ?_
      refine va_get (D := K.1) (ci := 1) (v := .int idg) (C := RX1) (T := TX1) (N := 9) (pc := 22) hx hb hts inT1 hown hG.1 hP 0 rfl rfl 7 (by decide) (hts _ qf_Input_40) (fun _ h9 => h9) rfl dX1_takes_22 ?_
      refine lv_if_ne (tgt := 30) (pc := 25) hx hb dX1_takes_25 (by decide) (fun c5 => ?_) (fun c5 => ?_)
      · have h := it_f c5 h
        refine lv_aload_n (pc := 30) hx hb dX1_takes_30 rfl (lv_at hl 0 rfl) ?_
        refine va_get (D := K.1) (ci := 1) (v := .int (bI iin)) (C := RX1) (T := TX1) (N := 9) (pc := 31) hx hb hts inT1 hown hG.1 hP 0 rfl rfl 6 (by decide) (hts _ qf_Input_36) (fun _ h9 => h9) rfl dX1_takes_31 ?_
        refine lv_if_eq (tgt := 45) (pc := 34) hx hb dX1_takes_34 (by decide) (fun c6 => ?_) (fun c6 => ?_)
        · have h := it_t c6 h
          refine lv_aload_n (pc := 45) hx hb dX1_takes_45 rfl (lv_at hl 0 rfl) ?_
          refine lv_iload_n (pc := 46) hx hb dX1_takes_46 rfl (lv_at hl 1 rfl) ?_
          refine wrVi (pc := 47) (As := [.int a0]) (rest := []) (ws2 := wInput K ad ich ((s_Input_takesMiddle ifs isg ien iin idg iva a0).2.1) isc ((s_Input_takesMiddle ifs isg ien iin idg iva a0).2.2.1) iln ien ((s_Input_takesMiddle ifs isg ien iin idg iva a0).2.2.2.1) ((s_Input_takesMiddle ifs isg ien iin idg iva a0).2.2.2.2.1) ((s_Input_takesMiddle ifs isg ien iin idg iva a0).2.2.2.2.2)) (as9 := [ad 0, ad 1, ad 2, ad 3, ad 4, ad 5, ad 6, ad 7, ad 8]) hx hb hml hown hts hG hP hD hS (c_Input_takesMiddle l K ad ich ifs isc isg iln ien iin idg iva a0) [0, 1, 2, 3, 4, 5, 6, 7, 8] rfl rfl rfl rfl [.inl 0, .inl 1, .inl 2, .inl 3, .inl 4, .inl 5, .inl 6, .inl 7, .inl 8] (by decide +kernel) rfl (q0 := 0) rfl (ci := 1) rfl g_Input_70 hd_Input_takesMiddle rfl ⟨Nat.le_of_ble_eq_true rfl, Nat.le_of_ble_eq_true rfl⟩ ⟨Nat.zero_le _, Nat.zero_le _⟩ hl rfl (Nat.le_of_ble_eq_true rfl) dX1_takes_47 (fun H locs hP hD hS => ?_)
          subst h
          exact W.zret hx hb hr (bI_nar _) (fun t ht hW => ⟨⟨rfl, by rw [ht]; exact hP⟩, hS.F ht⟩) hS.2.2 dX1_takes_50 hlk
        · have h := it_f c6 h
          refine lv_aload_n (pc := 37) hx hb dX1_takes_37 rfl (lv_at hl 0 rfl) ?_
          refine lv_iload_n (pc := 38) hx hb dX1_takes_38 rfl (lv_at hl 1 rfl) ?_
          refine wrVi (pc := 39) (As := [.int a0]) (rest := []) (ws2 := wInput K ad ich ifs ((s_Input_takesEnd isc ien iin idg iva a0).2.1) isg iln ((s_Input_takesEnd isc ien iin idg iva a0).2.2.1) ((s_Input_takesEnd isc ien iin idg iva a0).2.2.2.1) ((s_Input_takesEnd isc ien iin idg iva a0).2.2.2.2.1) ((s_Input_takesEnd isc ien iin idg iva a0).2.2.2.2.2)) (as9 := [ad 0, ad 1, ad 2, ad 3, ad 4, ad 5, ad 6, ad 7, ad 8]) hx hb hml hown hts hG hP hD hS (c_Input_takesEnd l K ad ich ifs isc isg iln ien iin idg iva a0) [0, 1, 2, 3, 4, 5, 6, 7, 8] rfl rfl rfl rfl [.inl 0, .inl 1, .inl 2, .inl 3, .inl 4, .inl 5, .inl 6, .inl 7, .inl 8] (by decide +kernel) rfl (q0 := 0) rfl (ci := 1) rfl g_Input_67 hd_Input_takesEnd rfl ⟨Nat.le_of_ble_eq_true rfl, Nat.le_of_ble_eq_true rfl⟩ ⟨Nat.zero_le _, Nat.zero_le _⟩ hl rfl (Nat.le_of_ble_eq_true rfl) dX1_takes_39 (fun H locs hP hD hS => ?_)
          refine lv_goto (tgt := 50) (pc := 42) hx hb dX1_takes_42 (by decide) ?_
          subst h
          exact W.zret hx hb hr (bI_nar _) (fun t ht hW => ⟨⟨rfl, by rw [ht]; exact hP⟩, hS.F ht⟩) hS.2.2 dX1_takes_50 hlk
      · have h := it_t c5 h
        refine lv_iconst (v := (0 : Int32)) (pc := 28) hx hb dX1_takes_28 (by decide) ?_
        subst h
        exact W.zret hx hb hr (rfl) (fun t ht hW => ⟨⟨rfl, by rw [ht]; exact hP⟩, hS.F ht⟩) hS.2.2 dX1_takes_29 hlk
    · have h := it_f c4 h
      refine lv_aload_n (pc := 12) hx hb dX1_takes_12 rfl (lv_at hl 0 rfl) ?_
      refine lv_iload_n (pc := 13) hx hb dX1_takes_13 rfl (lv_at hl 1 rfl) ?_
      refine lv_bipush (v := (48 : Int32)) (pc := 14) hx hb dX1_takes_14 (by decide) ?_
      refine lv_isub (pc := 16) hx hb dX1_takes_16 ?_
      refine wrVi (pc := 17) (As := [.int (a0 - (48 : Int32))]) (rest := []) (ws2 := wInput K ad ich ifs isc isg iln ien iin ((s_Input_takesDigit idg iva (a0 - (48 : Int32))).2.1) ((s_Input_takesDigit idg iva (a0 - (48 : Int32))).2.2)) (as9 := [ad 0, ad 1, ad 2, ad 3, ad 4, ad 5, ad 6, ad 7, ad 8]) hx hb hml hown hts hG hP hD hS (c_Input_takesDigit l K ad ich ifs isc isg iln ien iin idg iva (a0 - (48 : Int32))) [0, 1, 2, 3, 4, 5, 6, 7, 8] rfl rfl rfl rfl [.inl 0, .inl 1, .inl 2, .inl 3, .inl 4, .inl 5, .inl 6, .inl 7, .inl 8] (by decide +kernel) rfl (q0 := 0) rfl (ci := 1) rfl g_Input_64 hd_Input_takesDigit rfl ⟨Nat.le_of_ble_eq_true rfl, Nat.le_of_ble_eq_true rfl⟩ ⟨Nat.zero_le _, Nat.zero_le _⟩ hl rfl (Nat.le_of_ble_eq_true rfl) dX1_takes_17 (fun H locs hP hD hS => ?_)
      subst h
      exact W.zret hx hb hr (bI_nar _) (fun t ht hW => ⟨⟨rfl, by rw [ht]; exact hP⟩, hS.F ht⟩) hS.2.2 dX1_takes_20 hlk
set_option maxHeartbeats 4000000 in
set_option maxRecDepth 100000 in
theorem l_Input_parse_L16 {p : Program} {l : Launch} {e : Env} {s : State} {m : MethodId} {args : Array Value} {below : List Frame} {meth : Method} {c : Code} {Q : State → Prop} {K : KT} {A : Nat → Prop} (C0 : Ctx p m c cX1_parse 2 s args RX1 K meth (some .int)) (F : Nat) (ad : Nat → Nat) (ich : Nat → Int32) (iln : Int32)  : ∀ (n : Nat) (x1 : Int32) (ifs : Nat → Int32) (isc : Nat → Int32) (isg : Nat → Int32) (ien : Int32) (iin : Bool) (idg : Int32) (iva : Int32) (out : (Int32 × (Nat → Int32) × (Nat → Int32) × (Nat → Int32) × Int32 × Bool × Int32 × Int32) ⊕ (Int32 × (Nat → Int32) × (Nat → Int32) × (Nat → Int32) × Int32 × Bool × Int32 × Int32)), s_Input_parse_L16 ich iln n x1 ifs isc isg ien iin idg iva = some out → ∀ (H : Heap) (locs : List Loc) (ls : Array Slot), va_P K.1 vC (wInput K ad ich ifs isc isg iln ien iin idg iva) H → va_D A (wInput K ad ich ifs isc isg iln ien iin idg iva) → va_S A s.heap H locs → lv_has ls 2 [(0, .ref (ad 0)), (1, .int x1)] → (∀ (o : Int32 × (Nat → Int32) × (Nat → Int32) × (Nat → Int32) × Int32 × Bool × Int32 × Int32) (H : Heap) (locs : List Loc) (ls : Array Slot), out = .inr o → va_P K.1 vC (wInput K ad ich o.2.1 o.2.2.1 o.2.2.2.1 iln o.2.2.2.2.1 o.2.2.2.2.2.1 o.2.2.2.2.2.2.1 o.2.2.2.2.2.2.2) H → va_D A (wInput K ad ich o.2.1 o.2.2.1 o.2.2.2.1 iln o.2.2.2.2.1 o.2.2.2.2.2.1 o.2.2.2.2.2.2.1 o.2.2.2.2.2.2.2) → va_S A s.heap H locs → lv_has ls 2 [(0, .ref (ad 0)), (1, .int o.1)] → W p l e (rmL 4) s m args below meth c H locs 0 0 Q (F0 m 47 ls [])) → (∀ (o : Int32 × (Nat → Int32) × (Nat → Int32) × (Nat → Int32) × Int32 × Bool × Int32 × Int32) (H : Heap) (locs : List Loc) (pcR : Nat) (ls : Array Slot), out = .inl o → va_P K.1 vC (wInput K ad ich o.2.1 o.2.2.1 o.2.2.2.1 iln o.2.2.2.2.1 o.2.2.2.2.2.1 o.2.2.2.2.2.2.1 o.2.2.2.2.2.2.2) H → va_D A (wInput K ad ich o.2.1 o.2.2.1 o.2.2.2.1 iln o.2.2.2.2.1 o.2.2.2.2.2.1 o.2.2.2.2.2.2.1 o.2.2.2.2.2.2.2) → va_S A s.heap H locs → decode cX1_parse pcR = .ok (.ireturn, 1) → W p l e (rmL 4) s m args below meth c H locs 0 0 Q (F0 m pcR ls [.int o.1])) → W p l e (rmL 4) s m args below meth c H locs 0 0 Q (F0 m 16 ls []) := by
  obtain ⟨hx, hb, hml, hown, hts, hG, hr, hlk⟩ := id C0
  intro n
  induction n with
  | zero =>
    intro x1 ifs isc isg ien iin idg iva out h
    cases h
  | succ n ih =>
    intro x1 ifs isc isg ien iin idg iva out h H locs ls hP hD hS hl Kx Kr
    rw [s_Input_parse_L16.eq_2] at h
    refine lv_iload_n (pc := 16) hx hb dX1_parse_16 rfl (lv_at hl 1 rfl) ?_
    refine lv_aload_n (pc := 17) hx hb dX1_parse_17 rfl (lv_at hl 0 rfl) ?_
    refine va_get (D := K.1) (ci := 1) (v := .int iln) (C := RX1) (T := TX1) (N := 9) (pc := 18) hx hb hts inT1 hown hG.1 hP 0 rfl rfl 4 (by decide) (hts _ qf_Input_29) (fun _ h9 => h9) rfl dX1_parse_18 ?_
    refine lv_icmp_ge (tgt := 47) (pc := 21) hx hb dX1_parse_21 (by decide) (fun c1 => ?_) (fun c1 => ?_)
    · have h := it_t c1 h
      obtain rfl := Option.some.inj h
      exact Kx _ H locs ls rfl hP hD hS (lv_sub hl [0, 1] rfl)
    · have h := it_f c1 h
      refine lv_aload_n (pc := 24) hx hb dX1_parse_24 rfl (lv_at hl 0 rfl) ?_
      refine lv_aload_n (pc := 25) hx hb dX1_parse_25 rfl (lv_at hl 0 rfl) ?_
      refine va_get (D := K.1) (ci := 1) (v := .ref (ad 1)) (C := RX1) (T := TX1) (N := 9) (pc := 26) hx hb hts inT1 hown hG.1 hP 0 rfl rfl 0 (by decide) (hts _ qf_Input_14) (fun _ h9 => h9) rfl dX1_parse_26 ?_
      refine lv_iload_n (pc := 29) hx hb dX1_parse_29 rfl (lv_at hl 1 rfl) ?_
      refine rdV (pc := 30) (As := [.int x1]) (rest := [.ref (ad 0)]) hx hb hml hown hts hG hP (c_Row_get l K (fun k => ad (k + 1)) 60 (by decide) ich x1) [1, 2] rfl (q0 := 1) rfl (ci := 4) rfl g_Input_50 hd_Row_get rfl ⟨Nat.le_of_ble_eq_true rfl, Nat.le_of_ble_eq_true rfl⟩ ⟨Nat.zero_le _, Nat.zero_le _⟩ hl rfl (Nat.le_of_ble_eq_true rfl) dX1_parse_30 ?_
      refine wrVi (pc := 33) (As := [.int (s_Row_get 60 ich x1)]) (rest := []) (ws2 := wInput K ad ich ((s_Input_takes ifs isc isg ien iin idg iva (s_Row_get 60 ich x1)).2.1) ((s_Input_takes ifs isc isg ien iin idg iva (s_Row_get 60 ich x1)).2.2.1) ((s_Input_takes ifs isc isg ien iin idg iva (s_Row_get 60 ich x1)).2.2.2.1) iln ((s_Input_takes ifs isc isg ien iin idg iva (s_Row_get 60 ich x1)).2.2.2.2.1) ((s_Input_takes ifs isc isg ien iin idg iva (s_Row_get 60 ich x1)).2.2.2.2.2.1) ((s_Input_takes ifs isc isg ien iin idg iva (s_Row_get 60 ich x1)).2.2.2.2.2.2.1) ((s_Input_takes ifs isc isg ien iin idg iva (s_Row_get 60 ich x1)).2.2.2.2.2.2.2)) (as9 := [ad 0, ad 1, ad 2, ad 3, ad 4, ad 5, ad 6, ad 7, ad 8]) hx hb hml hown hts hG hP hD hS (c_Input_takes l K ad ich ifs isc isg iln ien iin idg iva (s_Row_get 60 ich x1)) [0, 1, 2, 3, 4, 5, 6, 7, 8] rfl rfl rfl rfl [.inl 0, .inl 1, .inl 2, .inl 3, .inl 4, .inl 5, .inl 6, .inl 7, .inl 8] (by decide +kernel) rfl (q0 := 0) rfl (ci := 1) rfl g_Input_57 hd_Input_takes rfl ⟨Nat.le_of_ble_eq_true rfl, Nat.le_of_ble_eq_true rfl⟩ ⟨Nat.zero_le _, Nat.zero_le _⟩ hl rfl (Nat.le_of_ble_eq_true rfl) dX1_parse_33 (fun H locs hP hD hS => ?_)
      refine lv_if_ne (tgt := 41) (pc := 36) hx hb dX1_parse_36 (by decide) (fun c2 => ?_) (fun c2 => ?_)
      · have h := it_f c2 h
        refine lv_iinc (v := (x1 + (1 : Int32))) (pc := 41) (lv' := [(1, .int (x1 + (1 : Int32))), (0, .ref (ad 0))]) hx hb dX1_parse_41 hl (k := 1) rfl rfl (by decide) rfl (fun ls hl => ?_)
        refine lv_goto (tgt := 16) (pc := 44) hx hb dX1_parse_44 (by decide) ?_
        exact ih (x1 + (1 : Int32)) ((s_Input_takes ifs isc isg ien iin idg iva (s_Row_get 60 ich x1)).2.1) ((s_Input_takes ifs isc isg ien iin idg iva (s_Row_get 60 ich x1)).2.2.1) ((s_Input_takes ifs isc isg ien iin idg iva (s_Row_get 60 ich x1)).2.2.2.1) ((s_Input_takes ifs isc isg ien iin idg iva (s_Row_get 60 ich x1)).2.2.2.2.1) ((s_Input_takes ifs isc isg ien iin idg iva (s_Row_get 60 ich x1)).2.2.2.2.2.1) ((s_Input_takes ifs isc isg ien iin idg iva (s_Row_get 60 ich x1)).2.2.2.2.2.2.1) ((s_Input_takes ifs isc isg ien iin idg iva (s_Row_get 60 ich x1)).2.2.2.2.2.2.2) out h H locs ls hP hD hS (lv_sub hl [1, 0] rfl) Kx Kr
      · have h := it_t c2 h
        refine lv_iload_n (pc := 39) hx hb dX1_parse_39 rfl (lv_at hl 1 rfl) ?_
        obtain rfl := Option.some.inj h
        exact Kr _ _ _ _ _ rfl hP hD hS dX1_parse_40
set_option maxHeartbeats 4000000 in
set_option maxRecDepth 100000 in
theorem c_Input_parse (l : Launch) (K : KT) (ad : Nat → Nat) (ich : Nat → Int32) (ifs : Nat → Int32) (isc : Nat → Int32) (isg : Nat → Int32) (iln : Int32) (ien : Int32) (iin : Bool) (idg : Int32) (iva : Int32) (F : Nat) {o : Int32 × (Nat → Int32) × (Nat → Int32) × (Nat → Int32) × Int32 × Bool × Int32 × Int32} (h : s_Input_parse F ich ifs isc isg iln = some o) : Wr l K 4 yX1_parse cX1_parse 2 (some .int) [.ref (ad 0)] (wInput K ad ich ifs isc isg iln ien iin idg iva) (some (.int o.1)) (wInput K ad ich o.2.1 o.2.2.1 o.2.2.2.1 iln o.2.2.2.2.1 o.2.2.2.2.2.1 o.2.2.2.2.2.2.1 o.2.2.2.2.2.2.2) := by
  refine Wr.of (by decide +kernel) (Nat.le_of_ble_eq_true rfl) ?_
  unfold s_Input_parse at h
  intro p e s m below meth c hx hb hr hml hown hts hlk H locs hP hG hD hS ls hl
  have C0 : Ctx p m c cX1_parse 2 s (Array.mk [.ref (ad 0)]) RX1 K meth (some .int) := ⟨hx, hb, hml, hown, hts, hG, hr, hlk⟩
  have hl : lv_has ls 2 [(0, .ref (ad 0))] := hl
  refine lv_aload_n (pc := 0) hx hb dX1_parse_0 rfl (lv_at hl 0 rfl) ?_
  refine lv_iconst (v := (0 : Int32)) (pc := 1) hx hb dX1_parse_1 (by decide) ?_
  refine va_put (D := K.1) (ci := 1) (v := .int (0 : Int32)) (ty := .int) (C := RX1) (T := TX1) (N := 9) (pc := 2) hx hb hts inT1 tyX1 tyX1_ok nmX1 hown hG.1 hP hD hS 0 rfl rfl 5 (by decide) (hts _ qf_Input_33) (fun _ h9 => h9) rfl (by decide +kernel) rfl rfl (Nat.le_of_ble_eq_true rfl) dX1_parse_2 (fun H locs hP hD hS => ?_)
  have hP : va_P K.1 vC (wInput K ad ich ifs isc isg iln (0 : Int32) iin idg iva) H := hP
  have hD : va_D _ (wInput K ad ich ifs isc isg iln (0 : Int32) iin idg iva) := hD
  refine lv_aload_n (pc := 5) hx hb dX1_parse_5 rfl (lv_at hl 0 rfl) ?_
  refine lv_iconst (v := (0 : Int32)) (pc := 6) hx hb dX1_parse_6 (by decide) ?_
  refine va_put (D := K.1) (ci := 1) (v := .int (bI false)) (ty := .boolean) (C := RX1) (T := TX1) (N := 9) (pc := 7) hx hb hts inT1 tyX1 tyX1_ok nmX1 hown hG.1 hP hD hS 0 rfl rfl 6 (by decide) (hts _ qf_Input_36) (fun _ h9 => h9) rfl (by decide +kernel) (bI_nar _) (bI_fit _) (Nat.le_of_ble_eq_true rfl) dX1_parse_7 (fun H locs hP hD hS => ?_)
  have hP : va_P K.1 vC (wInput K ad ich ifs isc isg iln (0 : Int32) false idg iva) H := hP
  have hD : va_D _ (wInput K ad ich ifs isc isg iln (0 : Int32) false idg iva) := hD
  refine lv_aload_n (pc := 10) hx hb dX1_parse_10 rfl (lv_at hl 0 rfl) ?_
  refine wrVv (pc := 11) (As := []) (rest := []) (ws2 := wInput K ad ich ifs isc isg iln (0 : Int32) false ((s_Input_startNumber).1) ((s_Input_startNumber).2)) (as9 := [ad 0, ad 1, ad 2, ad 3, ad 4, ad 5, ad 6, ad 7, ad 8]) hx hb hml hown hts hG hP hD hS (c_Input_startNumber l K ad ich ifs isc isg iln (0 : Int32) false idg iva) [0, 1, 2, 3, 4, 5, 6, 7, 8] rfl rfl rfl rfl [.inl 0, .inl 1, .inl 2, .inl 3, .inl 4, .inl 5, .inl 6, .inl 7, .inl 8] (by decide +kernel) rfl (q0 := 0) rfl (ci := 1) rfl g_Input_54 hd_Input_startNumber rfl ⟨Nat.le_of_ble_eq_true rfl, Nat.le_of_ble_eq_true rfl⟩ ⟨Nat.zero_le _, Nat.zero_le _⟩ hl rfl (Nat.le_of_ble_eq_true rfl) dX1_parse_11 (fun H locs hP hD hS => ?_)
  refine lv_iconst (v := (0 : Int32)) (pc := 14) hx hb dX1_parse_14 (by decide) ?_
  refine lv_istore_n (pc := 15) (lv' := [(1, .int (0 : Int32)), (0, .ref (ad 0))]) hx hb dX1_parse_15 rfl hl (by decide) rfl (fun ls hl => ?_)
  obtain ⟨o3, h_o3, h⟩ := ob h
  refine l_Input_parse_L16 C0 F ad ich iln F (0 : Int32) ifs isc isg (0 : Int32) false ((s_Input_startNumber).1) ((s_Input_startNumber).2) _ h_o3 H locs ls hP hD hS (lv_sub hl [1, 0] rfl) (fun o3x H locs ls eo hP hD hS hl => ?_) (fun q_o H locs pcR ls eo hP hD hS hdR => ?_)
  · subst o3
    have h := se_r h
    refine lv_aload_n (pc := 47) hx hb dX1_parse_47 rfl (lv_at hl 0 rfl) ?_
    refine va_get (D := K.1) (ci := 1) (v := .int (bI o3x.2.2.2.2.2.1)) (C := RX1) (T := TX1) (N := 9) (pc := 48) hx hb hts inT1 hown hG.1 hP 0 rfl rfl 6 (by decide) (hts _ qf_Input_36) (fun _ h9 => h9) rfl dX1_parse_48 ?_
    refine lv_if_eq (tgt := 61) (pc := 51) hx hb dX1_parse_51 (by decide) (fun c4 => ?_) (fun c4 => ?_)
    · have h := it_t c4 h
      refine lv_aload_n (pc := 61) hx hb dX1_parse_61 rfl (lv_at hl 0 rfl) ?_
      refine va_get (D := K.1) (ci := 1) (v := .int iln) (C := RX1) (T := TX1) (N := 9) (pc := 62) hx hb hts inT1 hown hG.1 hP 0 rfl rfl 4 (by decide) (hts _ qf_Input_29) (fun _ h9 => h9) rfl dX1_parse_62 ?_
      obtain rfl := Option.some.inj h
      exact W.iret hx hb hr (fun t ht hW => ⟨⟨rfl, by rw [ht]; exact hP⟩, hS.F ht⟩) hS.2.2 dX1_parse_65 hlk
    · have h := it_f c4 h
      refine lv_aload_n (pc := 54) hx hb dX1_parse_54 rfl (lv_at hl 0 rfl) ?_
      refine va_get (D := K.1) (ci := 1) (v := .int o3x.2.2.2.2.2.2.1) (C := RX1) (T := TX1) (N := 9) (pc := 55) hx hb hts inT1 hown hG.1 hP 0 rfl rfl 7 (by decide) (hts _ qf_Input_40) (fun _ h9 => h9) rfl dX1_parse_55 ?_
      refine lv_if_ne (tgt := 66) (pc := 58) hx hb dX1_parse_58 (by decide) (fun c5 => ?_) (fun c5 => ?_)
      · have h := it_f c5 h
        refine lv_aload_n (pc := 66) hx hb dX1_parse_66 rfl (lv_at hl 0 rfl) ?_
        refine wrVv (pc := 67) (As := []) (rest := []) (ws2 := wInput K ad ich o3x.2.1 ((s_Input_endEntry o3x.2.2.1 o3x.2.2.2.2.1 o3x.2.2.2.2.2.2.2).1) o3x.2.2.2.1 iln ((s_Input_endEntry o3x.2.2.1 o3x.2.2.2.2.1 o3x.2.2.2.2.2.2.2).2.1) ((s_Input_endEntry o3x.2.2.1 o3x.2.2.2.2.1 o3x.2.2.2.2.2.2.2).2.2.1) ((s_Input_endEntry o3x.2.2.1 o3x.2.2.2.2.1 o3x.2.2.2.2.2.2.2).2.2.2.1) ((s_Input_endEntry o3x.2.2.1 o3x.2.2.2.2.1 o3x.2.2.2.2.2.2.2).2.2.2.2)) (as9 := [ad 0, ad 1, ad 2, ad 3, ad 4, ad 5, ad 6, ad 7, ad 8]) hx hb hml hown hts hG hP hD hS (c_Input_endEntry l K ad ich o3x.2.1 o3x.2.2.1 o3x.2.2.2.1 iln o3x.2.2.2.2.1 o3x.2.2.2.2.2.1 o3x.2.2.2.2.2.2.1 o3x.2.2.2.2.2.2.2) [0, 1, 2, 3, 4, 5, 6, 7, 8] rfl rfl rfl rfl [.inl 0, .inl 1, .inl 2, .inl 3, .inl 4, .inl 5, .inl 6, .inl 7, .inl 8] (by decide +kernel) rfl (q0 := 0) rfl (ci := 1) rfl g_Input_61 hd_Input_endEntry rfl ⟨Nat.le_of_ble_eq_true rfl, Nat.le_of_ble_eq_true rfl⟩ ⟨Nat.zero_le _, Nat.zero_le _⟩ hl rfl (Nat.le_of_ble_eq_true rfl) dX1_parse_67 (fun H locs hP hD hS => ?_)
        refine lv_iconst (v := (-1 : Int32)) (pc := 70) hx hb dX1_parse_70 (by decide) ?_
        obtain rfl := Option.some.inj h
        exact W.iret hx hb hr (fun t ht hW => ⟨⟨rfl, by rw [ht]; exact hP⟩, hS.F ht⟩) hS.2.2 dX1_parse_71 hlk
      · have h := it_t c5 h
        refine lv_aload_n (pc := 61) hx hb dX1_parse_61 rfl (lv_at hl 0 rfl) ?_
        refine va_get (D := K.1) (ci := 1) (v := .int iln) (C := RX1) (T := TX1) (N := 9) (pc := 62) hx hb hts inT1 hown hG.1 hP 0 rfl rfl 4 (by decide) (hts _ qf_Input_29) (fun _ h9 => h9) rfl dX1_parse_62 ?_
        obtain rfl := Option.some.inj h
        exact W.iret hx hb hr (fun t ht hW => ⟨⟨rfl, by rw [ht]; exact hP⟩, hS.F ht⟩) hS.2.2 dX1_parse_65 hlk
  · subst o3
    have h := se_l h
    obtain rfl := Option.some.inj h
    exact W.iret hx hb hr (fun t ht hW => ⟨⟨rfl, by rw [ht]; exact hP⟩, hS.F ht⟩) hS.2.2 hdR hlk
set_option maxHeartbeats 4000000 in
set_option maxRecDepth 100000 in
theorem l_Tab_clear_L2 {p : Program} {l : Launch} {e : Env} {s : State} {m : MethodId} {args : Array Value} {below : List Frame} {meth : Method} {c : Code} {Q : State → Prop} {K : KT} {A : Nat → Prop} (C0 : Ctx p m c cX5_clear 2 s args RX5 K meth none) (F : Nat) (ad : Nat → Nat) (tb : Int32)  : ∀ (n : Nat) (x1 : Int32) (tf : Nat → Int32) (out : Int32 × (Nat → Int32)), s_Tab_clear_L2 tb n x1 tf = some out → ∀ (H : Heap) (locs : List Loc) (ls : Array Slot), va_P K.1 vC (wTab K ad tb tf) H → va_D A (wTab K ad tb tf) → va_S A s.heap H locs → lv_has ls 2 [(0, .ref (ad 0)), (1, .int x1)] → (∀ (o : Int32 × (Nat → Int32)) (H : Heap) (locs : List Loc) (ls : Array Slot), out = o → va_P K.1 vC (wTab K ad tb o.2) H → va_D A (wTab K ad tb o.2) → va_S A s.heap H locs → lv_has ls 2 [(0, .ref (ad 0)), (1, .int o.1)] → W p l e (rmL 0) s m args below meth c H locs 0 0 Q (F0 m 27 ls [])) → W p l e (rmL 0) s m args below meth c H locs 0 0 Q (F0 m 2 ls []) := by
  obtain ⟨hx, hb, hml, hown, hts, hG, hr, hlk⟩ := id C0
  intro n
  induction n with
  | zero =>
    intro x1 tf out h
    cases h
  | succ n ih =>
    intro x1 tf out h H locs ls hP hD hS hl Kx 
    rw [s_Tab_clear_L2.eq_2] at h
    refine lv_iload_n (pc := 2) hx hb dX5_clear_2 rfl (lv_at hl 1 rfl) ?_
    refine lv_aload_n (pc := 3) hx hb dX5_clear_3 rfl (lv_at hl 0 rfl) ?_
    refine va_get (D := K.1) (ci := 5) (v := .ref (ad 1)) (C := RX5) (T := TX5) (N := 2) (pc := 4) hx hb hts inT5 hown hG.1 hP 0 rfl rfl 0 (by decide) (hts _ qf_Tab_9) (fun _ h9 => h9) rfl dX5_clear_4 ?_
    refine va_alen (pc := 7) hx hb hG.1 hP 1 0 rfl rfl (v := (256 : Int32)) rfl dX5_clear_7 ?_
    refine lv_icmp_ge (tgt := 27) (pc := 8) hx hb dX5_clear_8 (by decide) (fun c1 => ?_) (fun c1 => ?_)
    · have h := it_t c1 h
      obtain rfl := Option.some.inj h
      exact Kx _ H locs ls rfl hP hD hS (lv_sub hl [0, 1] rfl)
    · have h := it_f c1 h
      refine lv_aload_n (pc := 11) hx hb dX5_clear_11 rfl (lv_at hl 0 rfl) ?_
      refine va_get (D := K.1) (ci := 5) (v := .ref (ad 1)) (C := RX5) (T := TX5) (N := 2) (pc := 12) hx hb hts inT5 hown hG.1 hP 0 rfl rfl 0 (by decide) (hts _ qf_Tab_9) (fun _ h9 => h9) rfl dX5_clear_12 ?_
      refine lv_iload_n (pc := 15) hx hb dX5_clear_15 rfl (lv_at hl 1 rfl) ?_
      refine lv_aload_n (pc := 16) hx hb dX5_clear_16 rfl (lv_at hl 0 rfl) ?_
      refine va_get (D := K.1) (ci := 5) (v := .int tb) (C := RX5) (T := TX5) (N := 2) (pc := 17) hx hb hts inT5 hown hG.1 hP 0 rfl rfl 1 (by decide) (hts _ qf_Tab_15) (fun _ h9 => h9) rfl dX5_clear_17 ?_
      obtain ⟨v2, h_v2, h⟩ := ob h
      obtain ⟨hi_v2, e_v2⟩ := aset_in h_v2
      refine va_iast (pc := 20) hx hb hG.1 hP hD hS 1 0 rfl rfl hi_v2 dX5_clear_20 (fun H locs hP hD hS => ?_)
      rw [e_v2] at hP hD
      have hP : va_P K.1 vC (wTab K ad tb v2) H := hP
      have hD : va_D _ (wTab K ad tb v2) := hD
      refine lv_iinc (v := (x1 + (1 : Int32))) (pc := 21) (lv' := [(1, .int (x1 + (1 : Int32))), (0, .ref (ad 0))]) hx hb dX5_clear_21 hl (k := 1) rfl rfl (by decide) rfl (fun ls hl => ?_)
      refine lv_goto (tgt := 2) (pc := 24) hx hb dX5_clear_24 (by decide) ?_
      exact ih (x1 + (1 : Int32)) v2 out h H locs ls hP hD hS (lv_sub hl [1, 0] rfl) Kx 
set_option maxHeartbeats 4000000 in
set_option maxRecDepth 100000 in
theorem c_Tab_clear (l : Launch) (K : KT) (ad : Nat → Nat) (tb : Int32) (tf : Nat → Int32) (F : Nat) {o : (Nat → Int32)} (h : s_Tab_clear F tb tf = some o) : Wr l K 0 yX5_clear cX5_clear 2 none [.ref (ad 0)] (wTab K ad tb tf) none (wTab K ad tb o) := by
  refine Wr.of (by decide +kernel) (Nat.le_of_ble_eq_true rfl) ?_
  unfold s_Tab_clear at h
  intro p e s m below meth c hx hb hr hml hown hts hlk H locs hP hG hD hS ls hl
  have C0 : Ctx p m c cX5_clear 2 s (Array.mk [.ref (ad 0)]) RX5 K meth none := ⟨hx, hb, hml, hown, hts, hG, hr, hlk⟩
  have hl : lv_has ls 2 [(0, .ref (ad 0))] := hl
  refine lv_iconst (v := (0 : Int32)) (pc := 0) hx hb dX5_clear_0 (by decide) ?_
  refine lv_istore_n (pc := 1) (lv' := [(1, .int (0 : Int32)), (0, .ref (ad 0))]) hx hb dX5_clear_1 rfl hl (by decide) rfl (fun ls hl => ?_)
  obtain ⟨o3, h_o3, h⟩ := ob h
  refine l_Tab_clear_L2 C0 F ad tb F (0 : Int32) tf _ h_o3 H locs ls hP hD hS (lv_sub hl [1, 0] rfl) (fun o3x H locs ls eo hP hD hS hl => ?_)
  subst o3
  obtain rfl := Option.some.inj h
  exact W.vret hx hb hr (fun t ht hW => ⟨⟨rfl, by rw [ht]; exact hP⟩, hS.F ht⟩) hS.2.2 dX5_clear_27 hlk
set_option maxHeartbeats 4000000 in
set_option maxRecDepth 100000 in
theorem c_Plan_points (l : Launch) (K : KT) (ad : Nat → Nat) (pxs : Nat → Int32) (pys : Nat → Int32) (plo : Nat → Int32) (phi : Nat → Int32) (pn : Int32) (pm : Int32) : Rd l K 0 yX3_points cX3_points 1 .int [.ref (ad 0)] (wPlan K ad pxs pys plo phi pn pm) (s_Plan_points pn) := by
  generalize h : s_Plan_points pn = o
  refine Rd.of (by decide +kernel) (Nat.le_of_ble_eq_true rfl) ?_
  unfold s_Plan_points at h
  intro p e s m below meth c hx hb hr hml hown hts hlk hP hG ls hl
  have C0 : Ctx p m c cX3_points 1 s (Array.mk [.ref (ad 0)]) RX3 K meth (some .int) := ⟨hx, hb, hml, hown, hts, hG, hr, hlk⟩
  have hl : lv_has ls 1 [(0, .ref (ad 0))] := hl
  refine lv_aload_n (pc := 0) hx hb dX3_points_0 rfl (lv_at hl 0 rfl) ?_
  refine va_get (D := K.1) (ci := 3) (v := .int pn) (C := RX3) (T := TX3) (N := 6) (pc := 1) hx hb hts inT3 hown hG.1 hP 0 rfl rfl 4 (by decide) (hts _ qf_Plan_29) (fun _ h9 => h9) rfl dX3_points_1 ?_
  subst h
  exact W.iret hx hb hr (fun t ht hW => ⟨rfl, ht⟩) (fun q hq => absurd hq List.not_mem_nil) dX3_points_4 hlk
set_option maxHeartbeats 4000000 in
set_option maxRecDepth 100000 in
theorem c_Plan_twiceSignedArea (l : Launch) (K : KT) (ad : Nat → Nat) (pxs : Nat → Int32) (pys : Nat → Int32) (plo : Nat → Int32) (phi : Nat → Int32) (pn : Int32) (pm : Int32) (a0 : Int32) (a1 : Int32) (a2 : Int32) (a3 : Int32) : Rd l K 1 yX3_twiceSignedArea cX3_twiceSignedArea 7 .int [.ref (ad 0), .int a0, .int a1, .int a2, .int a3] (wPlan K ad pxs pys plo phi pn pm) (s_Plan_twiceSignedArea pxs pys a0 a1 a2 a3) := by
  generalize h : s_Plan_twiceSignedArea pxs pys a0 a1 a2 a3 = o
  refine Rd.of (by decide +kernel) (Nat.le_of_ble_eq_true rfl) ?_
  unfold s_Plan_twiceSignedArea at h
  intro p e s m below meth c hx hb hr hml hown hts hlk hP hG ls hl
  have C0 : Ctx p m c cX3_twiceSignedArea 7 s (Array.mk [.ref (ad 0), .int a0, .int a1, .int a2, .int a3]) RX3 K meth (some .int) := ⟨hx, hb, hml, hown, hts, hG, hr, hlk⟩
  have hl : lv_has ls 7 [(0, .ref (ad 0)), (1, .int a0), (2, .int a1), (3, .int a2), (4, .int a3)] := hl
  refine lv_aload_n (pc := 0) hx hb dX3_twiceSignedArea_0 rfl (lv_at hl 0 rfl) ?_
  refine va_get (D := K.1) (ci := 3) (v := .ref (ad 1)) (C := RX3) (T := TX3) (N := 6) (pc := 1) hx hb hts inT3 hown hG.1 hP 0 rfl rfl 0 (by decide) (hts _ qf_Plan_14) (fun _ h9 => h9) rfl dX3_twiceSignedArea_1 ?_
  refine lv_iload_n (pc := 4) hx hb dX3_twiceSignedArea_4 rfl (lv_at hl 1 rfl) ?_
  refine rdV (pc := 5) (As := [.int a0]) (rest := []) hx hb hml hown hts hG hP (c_Row_get l K (fun k => ad (k + 1)) 16 (by decide) pxs a0) [1, 2] rfl (q0 := 1) rfl (ci := 4) rfl g_Plan_40 hd_Row_get rfl ⟨Nat.le_of_ble_eq_true rfl, Nat.le_of_ble_eq_true rfl⟩ ⟨Nat.zero_le _, Nat.zero_le _⟩ hl rfl (Nat.le_of_ble_eq_true rfl) dX3_twiceSignedArea_5 ?_
  refine lv_istore (pc := 8) (lv' := [(5, .int (s_Row_get 16 pxs a0)), (0, .ref (ad 0)), (1, .int a0), (2, .int a1), (3, .int a2), (4, .int a3)]) hx hb dX3_twiceSignedArea_8 hl (by decide) rfl (fun ls hl => ?_)
  refine lv_aload_n (pc := 10) hx hb dX3_twiceSignedArea_10 rfl (lv_at hl 1 rfl) ?_
  refine va_get (D := K.1) (ci := 3) (v := .ref (ad 3)) (C := RX3) (T := TX3) (N := 6) (pc := 11) hx hb hts inT3 hown hG.1 hP 0 rfl rfl 1 (by decide) (hts _ qf_Plan_20) (fun _ h9 => h9) rfl dX3_twiceSignedArea_11 ?_
  refine lv_iload_n (pc := 14) hx hb dX3_twiceSignedArea_14 rfl (lv_at hl 2 rfl) ?_
  refine rdV (pc := 15) (As := [.int a0]) (rest := []) hx hb hml hown hts hG hP (c_Row_get l K (fun k => ad (k + 3)) 16 (by decide) pys a0) [3, 4] rfl (q0 := 3) rfl (ci := 4) rfl g_Plan_40 hd_Row_get rfl ⟨Nat.le_of_ble_eq_true rfl, Nat.le_of_ble_eq_true rfl⟩ ⟨Nat.zero_le _, Nat.zero_le _⟩ hl rfl (Nat.le_of_ble_eq_true rfl) dX3_twiceSignedArea_15 ?_
  refine lv_istore (pc := 18) (lv' := [(6, .int (s_Row_get 16 pys a0)), (5, .int (s_Row_get 16 pxs a0)), (0, .ref (ad 0)), (1, .int a0), (2, .int a1), (3, .int a2), (4, .int a3)]) hx hb dX3_twiceSignedArea_18 hl (by decide) rfl (fun ls hl => ?_)
  refine lv_aload_n (pc := 20) hx hb dX3_twiceSignedArea_20 rfl (lv_at hl 2 rfl) ?_
  refine va_get (D := K.1) (ci := 3) (v := .ref (ad 1)) (C := RX3) (T := TX3) (N := 6) (pc := 21) hx hb hts inT3 hown hG.1 hP 0 rfl rfl 0 (by decide) (hts _ qf_Plan_14) (fun _ h9 => h9) rfl dX3_twiceSignedArea_21 ?_
  refine lv_iload_n (pc := 24) hx hb dX3_twiceSignedArea_24 rfl (lv_at hl 4 rfl) ?_
  refine rdV (pc := 25) (As := [.int a1]) (rest := []) hx hb hml hown hts hG hP (c_Row_get l K (fun k => ad (k + 1)) 16 (by decide) pxs a1) [1, 2] rfl (q0 := 1) rfl (ci := 4) rfl g_Plan_40 hd_Row_get rfl ⟨Nat.le_of_ble_eq_true rfl, Nat.le_of_ble_eq_true rfl⟩ ⟨Nat.zero_le _, Nat.zero_le _⟩ hl rfl (Nat.le_of_ble_eq_true rfl) dX3_twiceSignedArea_25 ?_
  refine lv_iload (pc := 28) hx hb dX3_twiceSignedArea_28 (lv_at hl 1 rfl) ?_
  refine lv_isub (pc := 30) hx hb dX3_twiceSignedArea_30 ?_
  refine lv_iload (pc := 31) hx hb dX3_twiceSignedArea_31 (lv_at hl 6 rfl) ?_
  refine lv_iload (pc := 33) hx hb dX3_twiceSignedArea_33 (lv_at hl 0 rfl) ?_
  refine lv_isub (pc := 35) hx hb dX3_twiceSignedArea_35 ?_
  refine lv_imul (pc := 36) hx hb dX3_twiceSignedArea_36 ?_
  refine lv_aload_n (pc := 37) hx hb dX3_twiceSignedArea_37 rfl (lv_at hl 2 rfl) ?_
  refine va_get (D := K.1) (ci := 3) (v := .ref (ad 3)) (C := RX3) (T := TX3) (N := 6) (pc := 38) hx hb hts inT3 hown hG.1 hP 0 rfl rfl 1 (by decide) (hts _ qf_Plan_20) (fun _ h9 => h9) rfl dX3_twiceSignedArea_38 ?_
  refine lv_iload_n (pc := 41) hx hb dX3_twiceSignedArea_41 rfl (lv_at hl 4 rfl) ?_
  refine rdV (pc := 42) (As := [.int a1]) (rest := [.int (((s_Row_get 16 pxs a1) - (s_Row_get 16 pxs a0)) * (a3 - (s_Row_get 16 pys a0)))]) hx hb hml hown hts hG hP (c_Row_get l K (fun k => ad (k + 3)) 16 (by decide) pys a1) [3, 4] rfl (q0 := 3) rfl (ci := 4) rfl g_Plan_40 hd_Row_get rfl ⟨Nat.le_of_ble_eq_true rfl, Nat.le_of_ble_eq_true rfl⟩ ⟨Nat.zero_le _, Nat.zero_le _⟩ hl rfl (Nat.le_of_ble_eq_true rfl) dX3_twiceSignedArea_42 ?_
  refine lv_iload (pc := 45) hx hb dX3_twiceSignedArea_45 (lv_at hl 0 rfl) ?_
  refine lv_isub (pc := 47) hx hb dX3_twiceSignedArea_47 ?_
  refine lv_iload_n (pc := 48) hx hb dX3_twiceSignedArea_48 rfl (lv_at hl 5 rfl) ?_
  refine lv_iload (pc := 49) hx hb dX3_twiceSignedArea_49 (lv_at hl 1 rfl) ?_
  refine lv_isub (pc := 51) hx hb dX3_twiceSignedArea_51 ?_
  refine lv_imul (pc := 52) hx hb dX3_twiceSignedArea_52 ?_
  refine lv_isub (pc := 53) hx hb dX3_twiceSignedArea_53 ?_
  subst h
  exact W.iret hx hb hr (fun t ht hW => ⟨rfl, ht⟩) (fun q hq => absurd hq List.not_mem_nil) dX3_twiceSignedArea_54 hlk
set_option maxHeartbeats 4000000 in
set_option maxRecDepth 100000 in
theorem c_Top_signOf (l : Launch) (K : KT) (a0 : Int64) : Rd l K 0 yX6_signOf cX6_signOf 2 .int [.long a0] ([]) (s_Top_signOf a0) := by
  generalize h : s_Top_signOf a0 = o
  refine Rd.of (by decide +kernel) (Nat.le_of_ble_eq_true rfl) ?_
  unfold s_Top_signOf at h
  intro p e s m below meth c hx hb hr hml hown hts hlk hP hG ls hl
  have C0 : Ctx p m c cX6_signOf 2 s (Array.mk [.long a0]) RX6 K meth (some .int) := ⟨hx, hb, hml, hown, hts, hG, hr, hlk⟩
  have hl : lv_has ls 2 [(0, .long a0)] := hl
  refine lv_lload_n (pc := 0) hx hb dX6_signOf_0 rfl (lv_at hl 0 rfl) ?_
  refine lv_lconst (v := (0 : Int64)) (pc := 1) hx hb dX6_signOf_1 (by decide) ?_
  refine W.lcmp (pc := 2) hx hb dX6_signOf_2 ?_
  refine lv_if_le (tgt := 10) (pc := 3) hx hb dX6_signOf_3 (by decide) (fun c1 => ?_) (fun c1 => ?_)
  · have h := it_t c1 h
    refine lv_lload_n (pc := 10) hx hb dX6_signOf_10 rfl (lv_at hl 0 rfl) ?_
    refine lv_lconst (v := (0 : Int64)) (pc := 11) hx hb dX6_signOf_11 (by decide) ?_
    refine W.lcmp (pc := 12) hx hb dX6_signOf_12 ?_
    refine lv_if_ge (tgt := 20) (pc := 13) hx hb dX6_signOf_13 (by decide) (fun c2 => ?_) (fun c2 => ?_)
    · have h := it_t c2 h
      refine lv_iconst (v := (0 : Int32)) (pc := 20) hx hb dX6_signOf_20 (by decide) ?_
      subst h
      exact W.iret hx hb hr (fun t ht hW => ⟨rfl, ht⟩) (fun q hq => absurd hq List.not_mem_nil) dX6_signOf_21 hlk
    · have h := it_f c2 h
      refine lv_iconst (v := (-1 : Int32)) (pc := 16) hx hb dX6_signOf_16 (by decide) ?_
      refine lv_goto (tgt := 21) (pc := 17) hx hb dX6_signOf_17 (by decide) ?_
      subst h
      exact W.iret hx hb hr (fun t ht hW => ⟨rfl, ht⟩) (fun q hq => absurd hq List.not_mem_nil) dX6_signOf_21 hlk
  · have h := it_f c1 h
    refine lv_iconst (v := (1 : Int32)) (pc := 6) hx hb dX6_signOf_6 (by decide) ?_
    refine lv_goto (tgt := 21) (pc := 7) hx hb dX6_signOf_7 (by decide) ?_
    subst h
    exact W.iret hx hb hr (fun t ht hW => ⟨rfl, ht⟩) (fun q hq => absurd hq List.not_mem_nil) dX6_signOf_21 hlk
set_option maxHeartbeats 4000000 in
set_option maxRecDepth 100000 in
theorem c_Plan_side (l : Launch) (K : KT) (ad : Nat → Nat) (pxs : Nat → Int32) (pys : Nat → Int32) (plo : Nat → Int32) (phi : Nat → Int32) (pn : Int32) (pm : Int32) (a0 : Int32) (a1 : Int32) (a2 : Int32) : Rd l K 2 yX3_side cX3_side 4 .int [.ref (ad 0), .int a0, .int a1, .int a2] (wPlan K ad pxs pys plo phi pn pm) (s_Plan_side pxs pys a0 a1 a2) := by
  generalize h : s_Plan_side pxs pys a0 a1 a2 = o
  refine Rd.of (by decide +kernel) (Nat.le_of_ble_eq_true rfl) ?_
  unfold s_Plan_side at h
  intro p e s m below meth c hx hb hr hml hown hts hlk hP hG ls hl
  have C0 : Ctx p m c cX3_side 4 s (Array.mk [.ref (ad 0), .int a0, .int a1, .int a2]) RX3 K meth (some .int) := ⟨hx, hb, hml, hown, hts, hG, hr, hlk⟩
  have hl : lv_has ls 4 [(0, .ref (ad 0)), (1, .int a0), (2, .int a1), (3, .int a2)] := hl
  refine lv_aload_n (pc := 0) hx hb dX3_side_0 rfl (lv_at hl 0 rfl) ?_
  refine lv_iload_n (pc := 1) hx hb dX3_side_1 rfl (lv_at hl 1 rfl) ?_
  refine lv_iload_n (pc := 2) hx hb dX3_side_2 rfl (lv_at hl 2 rfl) ?_
  refine lv_aload_n (pc := 3) hx hb dX3_side_3 rfl (lv_at hl 0 rfl) ?_
  refine va_get (D := K.1) (ci := 3) (v := .ref (ad 1)) (C := RX3) (T := TX3) (N := 6) (pc := 4) hx hb hts inT3 hown hG.1 hP 0 rfl rfl 0 (by decide) (hts _ qf_Plan_14) (fun _ h9 => h9) rfl dX3_side_4 ?_
  refine lv_iload_n (pc := 7) hx hb dX3_side_7 rfl (lv_at hl 3 rfl) ?_
  refine rdV (pc := 8) (As := [.int a2]) (rest := [.int a1, .int a0, .ref (ad 0)]) hx hb hml hown hts hG hP (c_Row_get l K (fun k => ad (k + 1)) 16 (by decide) pxs a2) [1, 2] rfl (q0 := 1) rfl (ci := 4) rfl g_Plan_40 hd_Row_get rfl ⟨Nat.le_of_ble_eq_true rfl, Nat.le_of_ble_eq_true rfl⟩ ⟨Nat.zero_le _, Nat.zero_le _⟩ hl rfl (Nat.le_of_ble_eq_true rfl) dX3_side_8 ?_
  refine lv_aload_n (pc := 11) hx hb dX3_side_11 rfl (lv_at hl 0 rfl) ?_
  refine va_get (D := K.1) (ci := 3) (v := .ref (ad 3)) (C := RX3) (T := TX3) (N := 6) (pc := 12) hx hb hts inT3 hown hG.1 hP 0 rfl rfl 1 (by decide) (hts _ qf_Plan_20) (fun _ h9 => h9) rfl dX3_side_12 ?_
  refine lv_iload_n (pc := 15) hx hb dX3_side_15 rfl (lv_at hl 3 rfl) ?_
  refine rdV (pc := 16) (As := [.int a2]) (rest := [.int (s_Row_get 16 pxs a2), .int a1, .int a0, .ref (ad 0)]) hx hb hml hown hts hG hP (c_Row_get l K (fun k => ad (k + 3)) 16 (by decide) pys a2) [3, 4] rfl (q0 := 3) rfl (ci := 4) rfl g_Plan_40 hd_Row_get rfl ⟨Nat.le_of_ble_eq_true rfl, Nat.le_of_ble_eq_true rfl⟩ ⟨Nat.zero_le _, Nat.zero_le _⟩ hl rfl (Nat.le_of_ble_eq_true rfl) dX3_side_16 ?_
  refine rdV (pc := 19) (As := [.int a0, .int a1, .int (s_Row_get 16 pxs a2), .int (s_Row_get 16 pys a2)]) (rest := []) hx hb hml hown hts hG hP (c_Plan_twiceSignedArea l K ad pxs pys plo phi pn pm a0 a1 (s_Row_get 16 pxs a2) (s_Row_get 16 pys a2)) [0, 1, 2, 3, 4, 5, 6, 7, 8] rfl (q0 := 0) rfl (ci := 3) rfl g_Plan_87 hd_Plan_twiceSignedArea rfl ⟨Nat.le_of_ble_eq_true rfl, Nat.le_of_ble_eq_true rfl⟩ ⟨Nat.zero_le _, Nat.zero_le _⟩ hl rfl (Nat.le_of_ble_eq_true rfl) dX3_side_19 ?_
  refine lv_i2l (v := ((s_Plan_twiceSignedArea pxs pys a0 a1 (s_Row_get 16 pxs a2) (s_Row_get 16 pys a2))).toInt64) (pc := 22) hx hb dX3_side_22 rfl ?_
  refine rdSN (pc := 23) (As := [.long (((s_Plan_twiceSignedArea pxs pys a0 a1 (s_Row_get 16 pxs a2) (s_Row_get 16 pys a2))).toInt64)]) (rest := []) hx hb hml hown hts hG (c_Top_signOf l K (((s_Plan_twiceSignedArea pxs pys a0 a1 (s_Row_get 16 pxs a2) (s_Row_get 16 pys a2))).toInt64)) (gM qc_Top_signOf) hG.2 (hts _ qn_Top) (hts _ qt_Top_signOf) hd_Top_signOf rfl ⟨Nat.le_of_ble_eq_true rfl, Nat.le_of_ble_eq_true rfl⟩ ⟨Nat.zero_le _, Nat.zero_le _⟩ hl rfl (Nat.le_of_ble_eq_true rfl) dX3_side_23 ?_
  subst h
  exact W.iret hx hb hr (fun t ht hW => ⟨rfl, ht⟩) (fun q hq => absurd hq List.not_mem_nil) dX3_side_26 hlk
set_option maxHeartbeats 4000000 in
set_option maxRecDepth 100000 in
theorem c_Tab_set (l : Launch) (K : KT) (ad : Nat → Nat) (tb : Int32) (tf : Nat → Int32) (a0 : Int32) (a1 : Int32) (a2 : Int32) : Wr l K 0 yX5_set cX5_set 5 none [.ref (ad 0), .int a0, .int a1, .int a2] (wTab K ad tb tf) none (wTab K ad tb (s_Tab_set tf a0 a1 a2)) := by
  generalize h : s_Tab_set tf a0 a1 a2 = o
  refine Wr.of (by decide +kernel) (Nat.le_of_ble_eq_true rfl) ?_
  unfold s_Tab_set at h
  intro p e s m below meth c hx hb hr hml hown hts hlk H locs hP hG hD hS ls hl
  have C0 : Ctx p m c cX5_set 5 s (Array.mk [.ref (ad 0), .int a0, .int a1, .int a2]) RX5 K meth none := ⟨hx, hb, hml, hown, hts, hG, hr, hlk⟩
  have hl : lv_has ls 5 [(0, .ref (ad 0)), (1, .int a0), (2, .int a1), (3, .int a2)] := hl
  refine lv_iload_n (pc := 0) hx hb dX5_set_0 rfl (lv_at hl 1 rfl) ?_
  refine lv_bipush (v := (16 : Int32)) (pc := 1) hx hb dX5_set_1 (by decide) ?_
  refine lv_imul (pc := 3) hx hb dX5_set_3 ?_
  refine lv_iload_n (pc := 4) hx hb dX5_set_4 rfl (lv_at hl 2 rfl) ?_
  refine lv_iadd (pc := 5) hx hb dX5_set_5 ?_
  refine lv_istore (pc := 6) (lv' := [(4, .int ((a0 * (16 : Int32)) + a1)), (0, .ref (ad 0)), (1, .int a0), (2, .int a1), (3, .int a2)]) hx hb dX5_set_6 hl (by decide) rfl (fun ls hl => ?_)
  refine lv_iload (pc := 8) hx hb dX5_set_8 (lv_at hl 0 rfl) ?_
  refine lv_if_lt (tgt := 31) (pc := 10) hx hb dX5_set_10 (by decide) (fun c1 => ?_) (fun c1 => ?_)
  · have h := it_t c1 h
    subst h
    exact W.vret hx hb hr (fun t ht hW => ⟨⟨rfl, by rw [ht]; exact hP⟩, hS.F ht⟩) hS.2.2 dX5_set_31 hlk
  · have h := it_f c1 h
    refine lv_iload (pc := 13) hx hb dX5_set_13 (lv_at hl 0 rfl) ?_
    refine lv_aload_n (pc := 15) hx hb dX5_set_15 rfl (lv_at hl 1 rfl) ?_
    refine va_get (D := K.1) (ci := 5) (v := .ref (ad 1)) (C := RX5) (T := TX5) (N := 2) (pc := 16) hx hb hts inT5 hown hG.1 hP 0 rfl rfl 0 (by decide) (hts _ qf_Tab_9) (fun _ h9 => h9) rfl dX5_set_16 ?_
    refine va_alen (pc := 19) hx hb hG.1 hP 1 0 rfl rfl (v := (256 : Int32)) rfl dX5_set_19 ?_
    refine lv_icmp_ge (tgt := 31) (pc := 20) hx hb dX5_set_20 (by decide) (fun c2 => ?_) (fun c2 => ?_)
    · have h := it_t c2 h
      subst h
      exact W.vret hx hb hr (fun t ht hW => ⟨⟨rfl, by rw [ht]; exact hP⟩, hS.F ht⟩) hS.2.2 dX5_set_31 hlk
    · have h := it_f c2 h
      refine lv_aload_n (pc := 23) hx hb dX5_set_23 rfl (lv_at hl 1 rfl) ?_
      refine va_get (D := K.1) (ci := 5) (v := .ref (ad 1)) (C := RX5) (T := TX5) (N := 2) (pc := 24) hx hb hts inT5 hown hG.1 hP 0 rfl rfl 0 (by decide) (hts _ qf_Tab_9) (fun _ h9 => h9) rfl dX5_set_24 ?_
      refine lv_iload (pc := 27) hx hb dX5_set_27 (lv_at hl 0 rfl) ?_
      refine lv_iload_n (pc := 29) hx hb dX5_set_29 rfl (lv_at hl 4 rfl) ?_
      refine va_iast (pc := 30) hx hb hG.1 hP hD hS 1 0 rfl rfl (vin256 (by assumption) (by assumption)) dX5_set_30 (fun H locs hP hD hS => ?_)
      have hP : va_P K.1 vC (wTab K ad tb (upd tf (((a0 * (16 : Int32)) + a1)).toNatClampNeg a2)) H := hP
      have hD : va_D _ (wTab K ad tb (upd tf (((a0 * (16 : Int32)) + a1)).toNatClampNeg a2)) := hD
      subst h
      exact W.vret hx hb hr (fun t ht hW => ⟨⟨rfl, by rw [ht]; exact hP⟩, hS.F ht⟩) hS.2.2 dX5_set_31 hlk
set_option maxHeartbeats 4000000 in
set_option maxRecDepth 100000 in
theorem c_Plan_constraints (l : Launch) (K : KT) (ad : Nat → Nat) (pxs : Nat → Int32) (pys : Nat → Int32) (plo : Nat → Int32) (phi : Nat → Int32) (pn : Int32) (pm : Int32) : Rd l K 0 yX3_constraints cX3_constraints 1 .int [.ref (ad 0)] (wPlan K ad pxs pys plo phi pn pm) (s_Plan_constraints pm) := by
  generalize h : s_Plan_constraints pm = o
  refine Rd.of (by decide +kernel) (Nat.le_of_ble_eq_true rfl) ?_
  unfold s_Plan_constraints at h
  intro p e s m below meth c hx hb hr hml hown hts hlk hP hG ls hl
  have C0 : Ctx p m c cX3_constraints 1 s (Array.mk [.ref (ad 0)]) RX3 K meth (some .int) := ⟨hx, hb, hml, hown, hts, hG, hr, hlk⟩
  have hl : lv_has ls 1 [(0, .ref (ad 0))] := hl
  refine lv_aload_n (pc := 0) hx hb dX3_constraints_0 rfl (lv_at hl 0 rfl) ?_
  refine va_get (D := K.1) (ci := 3) (v := .int pm) (C := RX3) (T := TX3) (N := 6) (pc := 1) hx hb hts inT3 hown hG.1 hP 0 rfl rfl 5 (by decide) (hts _ qf_Plan_33) (fun _ h9 => h9) rfl dX3_constraints_1 ?_
  subst h
  exact W.iret hx hb hr (fun t ht hW => ⟨rfl, ht⟩) (fun q hq => absurd hq List.not_mem_nil) dX3_constraints_4 hlk
set_option maxHeartbeats 4000000 in
set_option maxRecDepth 100000 in
theorem c_Plan_lowEnd (l : Launch) (K : KT) (ad : Nat → Nat) (pxs : Nat → Int32) (pys : Nat → Int32) (plo : Nat → Int32) (phi : Nat → Int32) (pn : Int32) (pm : Int32) (a0 : Int32) : Rd l K 1 yX3_lowEnd cX3_lowEnd 2 .int [.ref (ad 0), .int a0] (wPlan K ad pxs pys plo phi pn pm) (s_Plan_lowEnd plo a0) := by
  generalize h : s_Plan_lowEnd plo a0 = o
  refine Rd.of (by decide +kernel) (Nat.le_of_ble_eq_true rfl) ?_
  unfold s_Plan_lowEnd at h
  intro p e s m below meth c hx hb hr hml hown hts hlk hP hG ls hl
  have C0 : Ctx p m c cX3_lowEnd 2 s (Array.mk [.ref (ad 0), .int a0]) RX3 K meth (some .int) := ⟨hx, hb, hml, hown, hts, hG, hr, hlk⟩
  have hl : lv_has ls 2 [(0, .ref (ad 0)), (1, .int a0)] := hl
  refine lv_aload_n (pc := 0) hx hb dX3_lowEnd_0 rfl (lv_at hl 0 rfl) ?_
  refine va_get (D := K.1) (ci := 3) (v := .ref (ad 5)) (C := RX3) (T := TX3) (N := 6) (pc := 1) hx hb hts inT3 hown hG.1 hP 0 rfl rfl 2 (by decide) (hts _ qf_Plan_23) (fun _ h9 => h9) rfl dX3_lowEnd_1 ?_
  refine lv_iload_n (pc := 4) hx hb dX3_lowEnd_4 rfl (lv_at hl 1 rfl) ?_
  refine rdV (pc := 5) (As := [.int a0]) (rest := []) hx hb hml hown hts hG hP (c_Row_get l K (fun k => ad (k + 5)) 10 (by decide) plo a0) [5, 6] rfl (q0 := 5) rfl (ci := 4) rfl g_Plan_40 hd_Row_get rfl ⟨Nat.le_of_ble_eq_true rfl, Nat.le_of_ble_eq_true rfl⟩ ⟨Nat.zero_le _, Nat.zero_le _⟩ hl rfl (Nat.le_of_ble_eq_true rfl) dX3_lowEnd_5 ?_
  subst h
  exact W.iret hx hb hr (fun t ht hW => ⟨rfl, ht⟩) (fun q hq => absurd hq List.not_mem_nil) dX3_lowEnd_8 hlk
set_option maxHeartbeats 4000000 in
set_option maxRecDepth 100000 in
theorem c_Plan_highEnd (l : Launch) (K : KT) (ad : Nat → Nat) (pxs : Nat → Int32) (pys : Nat → Int32) (plo : Nat → Int32) (phi : Nat → Int32) (pn : Int32) (pm : Int32) (a0 : Int32) : Rd l K 1 yX3_highEnd cX3_highEnd 2 .int [.ref (ad 0), .int a0] (wPlan K ad pxs pys plo phi pn pm) (s_Plan_highEnd phi a0) := by
  generalize h : s_Plan_highEnd phi a0 = o
  refine Rd.of (by decide +kernel) (Nat.le_of_ble_eq_true rfl) ?_
  unfold s_Plan_highEnd at h
  intro p e s m below meth c hx hb hr hml hown hts hlk hP hG ls hl
  have C0 : Ctx p m c cX3_highEnd 2 s (Array.mk [.ref (ad 0), .int a0]) RX3 K meth (some .int) := ⟨hx, hb, hml, hown, hts, hG, hr, hlk⟩
  have hl : lv_has ls 2 [(0, .ref (ad 0)), (1, .int a0)] := hl
  refine lv_aload_n (pc := 0) hx hb dX3_highEnd_0 rfl (lv_at hl 0 rfl) ?_
  refine va_get (D := K.1) (ci := 3) (v := .ref (ad 7)) (C := RX3) (T := TX3) (N := 6) (pc := 1) hx hb hts inT3 hown hG.1 hP 0 rfl rfl 3 (by decide) (hts _ qf_Plan_26) (fun _ h9 => h9) rfl dX3_highEnd_1 ?_
  refine lv_iload_n (pc := 4) hx hb dX3_highEnd_4 rfl (lv_at hl 1 rfl) ?_
  refine rdV (pc := 5) (As := [.int a0]) (rest := []) hx hb hml hown hts hG hP (c_Row_get l K (fun k => ad (k + 7)) 10 (by decide) phi a0) [7, 8] rfl (q0 := 7) rfl (ci := 4) rfl g_Plan_40 hd_Row_get rfl ⟨Nat.le_of_ble_eq_true rfl, Nat.le_of_ble_eq_true rfl⟩ ⟨Nat.zero_le _, Nat.zero_le _⟩ hl rfl (Nat.le_of_ble_eq_true rfl) dX3_highEnd_5 ?_
  subst h
  exact W.iret hx hb hr (fun t ht hW => ⟨rfl, ht⟩) (fun q hq => absurd hq List.not_mem_nil) dX3_highEnd_8 hlk
set_option maxHeartbeats 4000000 in
set_option maxRecDepth 100000 in
theorem c_Plan_covers (l : Launch) (K : KT) (ad : Nat → Nat) (pxs : Nat → Int32) (pys : Nat → Int32) (plo : Nat → Int32) (phi : Nat → Int32) (pn : Int32) (pm : Int32) (a0 : Int32) (a1 : Int32) (a2 : Int32) (a3 : Int32) : Rd l K 2 yX3_covers cX3_covers 5 .boolean [.ref (ad 0), .int a0, .int a1, .int a2, .int a3] (wPlan K ad pxs pys plo phi pn pm) (bI (s_Plan_covers pxs pys a0 a1 a2 a3)) := by
  generalize h : s_Plan_covers pxs pys a0 a1 a2 a3 = o
  refine Rd.of (by decide +kernel) (Nat.le_of_ble_eq_true rfl) ?_
  unfold s_Plan_covers at h
  intro p e s m below meth c hx hb hr hml hown hts hlk hP hG ls hl
  have C0 : Ctx p m c cX3_covers 5 s (Array.mk [.ref (ad 0), .int a0, .int a1, .int a2, .int a3]) RX3 K meth (some .boolean) := ⟨hx, hb, hml, hown, hts, hG, hr, hlk⟩
  have hl : lv_has ls 5 [(0, .ref (ad 0)), (1, .int a0), (2, .int a1), (3, .int a2), (4, .int a3)] := hl
  refine lv_aload_n (pc := 0) hx hb dX3_covers_0 rfl (lv_at hl 0 rfl) ?_
  refine lv_iload_n (pc := 1) hx hb dX3_covers_1 rfl (lv_at hl 1 rfl) ?_
  refine lv_iload_n (pc := 2) hx hb dX3_covers_2 rfl (lv_at hl 2 rfl) ?_
  refine lv_iload_n (pc := 3) hx hb dX3_covers_3 rfl (lv_at hl 3 rfl) ?_
  refine lv_iload (pc := 4) hx hb dX3_covers_4 (lv_at hl 4 rfl) ?_
  refine rdV (pc := 6) (As := [.int a0, .int a1, .int a2, .int a3]) (rest := []) hx hb hml hown hts hG hP (c_Plan_twiceSignedArea l K ad pxs pys plo phi pn pm a0 a1 a2 a3) [0, 1, 2, 3, 4, 5, 6, 7, 8] rfl (q0 := 0) rfl (ci := 3) rfl g_Plan_87 hd_Plan_twiceSignedArea rfl ⟨Nat.le_of_ble_eq_true rfl, Nat.le_of_ble_eq_true rfl⟩ ⟨Nat.zero_le _, Nat.zero_le _⟩ hl rfl (Nat.le_of_ble_eq_true rfl) dX3_covers_6 ?_
  refine lv_if_eq (tgt := 14) (pc := 9) hx hb dX3_covers_9 (by decide) (fun c1 => ?_) (fun c1 => ?_)
  · have h := it_t c1 h
    refine lv_aload_n (pc := 14) hx hb dX3_covers_14 rfl (lv_at hl 0 rfl) ?_
    refine va_get (D := K.1) (ci := 3) (v := .ref (ad 1)) (C := RX3) (T := TX3) (N := 6) (pc := 15) hx hb hts inT3 hown hG.1 hP 0 rfl rfl 0 (by decide) (hts _ qf_Plan_14) (fun _ h9 => h9) rfl dX3_covers_15 ?_
    refine lv_iload_n (pc := 18) hx hb dX3_covers_18 rfl (lv_at hl 1 rfl) ?_
    refine rdV (pc := 19) (As := [.int a0]) (rest := []) hx hb hml hown hts hG hP (c_Row_get l K (fun k => ad (k + 1)) 16 (by decide) pxs a0) [1, 2] rfl (q0 := 1) rfl (ci := 4) rfl g_Plan_40 hd_Row_get rfl ⟨Nat.le_of_ble_eq_true rfl, Nat.le_of_ble_eq_true rfl⟩ ⟨Nat.zero_le _, Nat.zero_le _⟩ hl rfl (Nat.le_of_ble_eq_true rfl) dX3_covers_19 ?_
    refine lv_iload_n (pc := 22) hx hb dX3_covers_22 rfl (lv_at hl 3 rfl) ?_
    refine lv_isub (pc := 23) hx hb dX3_covers_23 ?_
    refine lv_aload_n (pc := 24) hx hb dX3_covers_24 rfl (lv_at hl 0 rfl) ?_
    refine va_get (D := K.1) (ci := 3) (v := .ref (ad 1)) (C := RX3) (T := TX3) (N := 6) (pc := 25) hx hb hts inT3 hown hG.1 hP 0 rfl rfl 0 (by decide) (hts _ qf_Plan_14) (fun _ h9 => h9) rfl dX3_covers_25 ?_
    refine lv_iload_n (pc := 28) hx hb dX3_covers_28 rfl (lv_at hl 2 rfl) ?_
    refine rdV (pc := 29) (As := [.int a1]) (rest := [.int ((s_Row_get 16 pxs a0) - a2)]) hx hb hml hown hts hG hP (c_Row_get l K (fun k => ad (k + 1)) 16 (by decide) pxs a1) [1, 2] rfl (q0 := 1) rfl (ci := 4) rfl g_Plan_40 hd_Row_get rfl ⟨Nat.le_of_ble_eq_true rfl, Nat.le_of_ble_eq_true rfl⟩ ⟨Nat.zero_le _, Nat.zero_le _⟩ hl rfl (Nat.le_of_ble_eq_true rfl) dX3_covers_29 ?_
    refine lv_iload_n (pc := 32) hx hb dX3_covers_32 rfl (lv_at hl 3 rfl) ?_
    refine lv_isub (pc := 33) hx hb dX3_covers_33 ?_
    refine lv_imul (pc := 34) hx hb dX3_covers_34 ?_
    refine lv_aload_n (pc := 35) hx hb dX3_covers_35 rfl (lv_at hl 0 rfl) ?_
    refine va_get (D := K.1) (ci := 3) (v := .ref (ad 3)) (C := RX3) (T := TX3) (N := 6) (pc := 36) hx hb hts inT3 hown hG.1 hP 0 rfl rfl 1 (by decide) (hts _ qf_Plan_20) (fun _ h9 => h9) rfl dX3_covers_36 ?_
    refine lv_iload_n (pc := 39) hx hb dX3_covers_39 rfl (lv_at hl 1 rfl) ?_
    refine rdV (pc := 40) (As := [.int a0]) (rest := [.int (((s_Row_get 16 pxs a0) - a2) * ((s_Row_get 16 pxs a1) - a2))]) hx hb hml hown hts hG hP (c_Row_get l K (fun k => ad (k + 3)) 16 (by decide) pys a0) [3, 4] rfl (q0 := 3) rfl (ci := 4) rfl g_Plan_40 hd_Row_get rfl ⟨Nat.le_of_ble_eq_true rfl, Nat.le_of_ble_eq_true rfl⟩ ⟨Nat.zero_le _, Nat.zero_le _⟩ hl rfl (Nat.le_of_ble_eq_true rfl) dX3_covers_40 ?_
    refine lv_iload (pc := 43) hx hb dX3_covers_43 (lv_at hl 4 rfl) ?_
    refine lv_isub (pc := 45) hx hb dX3_covers_45 ?_
    refine lv_aload_n (pc := 46) hx hb dX3_covers_46 rfl (lv_at hl 0 rfl) ?_
    refine va_get (D := K.1) (ci := 3) (v := .ref (ad 3)) (C := RX3) (T := TX3) (N := 6) (pc := 47) hx hb hts inT3 hown hG.1 hP 0 rfl rfl 1 (by decide) (hts _ qf_Plan_20) (fun _ h9 => h9) rfl dX3_covers_47 ?_
    refine lv_iload_n (pc := 50) hx hb dX3_covers_50 rfl (lv_at hl 2 rfl) ?_
    refine rdV (pc := 51) (As := [.int a1]) (rest := [.int ((s_Row_get 16 pys a0) - a3), .int (((s_Row_get 16 pxs a0) - a2) * ((s_Row_get 16 pxs a1) - a2))]) hx hb hml hown hts hG hP (c_Row_get l K (fun k => ad (k + 3)) 16 (by decide) pys a1) [3, 4] rfl (q0 := 3) rfl (ci := 4) rfl g_Plan_40 hd_Row_get rfl ⟨Nat.le_of_ble_eq_true rfl, Nat.le_of_ble_eq_true rfl⟩ ⟨Nat.zero_le _, Nat.zero_le _⟩ hl rfl (Nat.le_of_ble_eq_true rfl) dX3_covers_51 ?_
    refine lv_iload (pc := 54) hx hb dX3_covers_54 (lv_at hl 4 rfl) ?_
    refine lv_isub (pc := 56) hx hb dX3_covers_56 ?_
    refine lv_imul (pc := 57) hx hb dX3_covers_57 ?_
    refine lv_iadd (pc := 58) hx hb dX3_covers_58 ?_
    refine lv_if_ge (tgt := 66) (pc := 59) hx hb dX3_covers_59 (by decide) (fun c2 => ?_) (fun c2 => ?_)
    · have h := it_t c2 h
      refine lv_iconst (v := (0 : Int32)) (pc := 66) hx hb dX3_covers_66 (by decide) ?_
      subst h
      exact W.zret hx hb hr (rfl) (fun t ht hW => ⟨rfl, ht⟩) (fun q hq => absurd hq List.not_mem_nil) dX3_covers_67 hlk
    · have h := it_f c2 h
      refine lv_iconst (v := (1 : Int32)) (pc := 62) hx hb dX3_covers_62 (by decide) ?_
      refine lv_goto (tgt := 67) (pc := 63) hx hb dX3_covers_63 (by decide) ?_
      subst h
      exact W.zret hx hb hr (rfl) (fun t ht hW => ⟨rfl, ht⟩) (fun q hq => absurd hq List.not_mem_nil) dX3_covers_67 hlk
  · have h := it_f c1 h
    refine lv_iconst (v := (0 : Int32)) (pc := 12) hx hb dX3_covers_12 (by decide) ?_
    subst h
    exact W.zret hx hb hr (rfl) (fun t ht hW => ⟨rfl, ht⟩) (fun q hq => absurd hq List.not_mem_nil) dX3_covers_13 hlk
set_option maxHeartbeats 4000000 in
set_option maxRecDepth 100000 in
theorem l_Plan_coversPoint_L2 {p : Program} {l : Launch} {e : Env} {s : State} {m : MethodId} {args : Array Value} {below : List Frame} {meth : Method} {c : Code} {Q : State → Prop} {K : KT} (C0 : Ctx p m c cX3_coversPoint 4 s args RX3 K meth (some .boolean)) (F : Nat) (ad : Nat → Nat) (pxs : Nat → Int32) (pys : Nat → Int32) (plo : Nat → Int32) (phi : Nat → Int32) (pn : Int32) (pm : Int32) (x1 : Int32) (x2 : Int32) (hP : va_P K.1 vC (wPlan K ad pxs pys plo phi pn pm) s.heap) : ∀ (n : Nat) (x3 : Int32) (out : (Bool) ⊕ (Int32)), s_Plan_coversPoint_L2 pxs pys pn x1 x2 n x3 = some out → ∀ (ls : Array Slot), lv_has ls 4 [(0, .ref (ad 0)), (1, .int x1), (2, .int x2), (3, .int x3)] → (∀ (o : Int32) (ls : Array Slot), out = .inr o → lv_has ls 4 [(0, .ref (ad 0)), (1, .int x1), (2, .int x2), (3, .int o)] → W p l e (rmL 3) s m args below meth c s.heap [] 0 0 Q (F0 m 43 ls [])) → (∀ (o : Bool) (pcR : Nat) (ls : Array Slot), out = .inl o → decode cX3_coversPoint pcR = .ok (.ireturn, 1) → W p l e (rmL 3) s m args below meth c s.heap [] 0 0 Q (F0 m pcR ls [.int (bI o)])) → W p l e (rmL 3) s m args below meth c s.heap [] 0 0 Q (F0 m 2 ls []) := by
  obtain ⟨hx, hb, hml, hown, hts, hG, hr, hlk⟩ := id C0
  intro n
  induction n with
  | zero =>
    intro x3 out h
    cases h
  | succ n ih =>
    intro x3 out h ls hl Kx Kr
    rw [s_Plan_coversPoint_L2.eq_2] at h
    refine lv_iload_n (pc := 2) hx hb dX3_coversPoint_2 rfl (lv_at hl 3 rfl) ?_
    refine lv_aload_n (pc := 3) hx hb dX3_coversPoint_3 rfl (lv_at hl 0 rfl) ?_
    refine va_get (D := K.1) (ci := 3) (v := .int pn) (C := RX3) (T := TX3) (N := 6) (pc := 4) hx hb hts inT3 hown hG.1 hP 0 rfl rfl 4 (by decide) (hts _ qf_Plan_29) (fun _ h9 => h9) rfl dX3_coversPoint_4 ?_
    refine lv_icmp_ge (tgt := 43) (pc := 7) hx hb dX3_coversPoint_7 (by decide) (fun c1 => ?_) (fun c1 => ?_)
    · have h := it_t c1 h
      obtain rfl := Option.some.inj h
      exact Kx _ ls rfl (lv_sub hl [0, 1, 2, 3] rfl)
    · have h := it_f c1 h
      refine lv_aload_n (pc := 10) hx hb dX3_coversPoint_10 rfl (lv_at hl 0 rfl) ?_
      refine lv_iload_n (pc := 11) hx hb dX3_coversPoint_11 rfl (lv_at hl 1 rfl) ?_
      refine lv_iload_n (pc := 12) hx hb dX3_coversPoint_12 rfl (lv_at hl 2 rfl) ?_
      refine lv_aload_n (pc := 13) hx hb dX3_coversPoint_13 rfl (lv_at hl 0 rfl) ?_
      refine va_get (D := K.1) (ci := 3) (v := .ref (ad 1)) (C := RX3) (T := TX3) (N := 6) (pc := 14) hx hb hts inT3 hown hG.1 hP 0 rfl rfl 0 (by decide) (hts _ qf_Plan_14) (fun _ h9 => h9) rfl dX3_coversPoint_14 ?_
      refine lv_iload_n (pc := 17) hx hb dX3_coversPoint_17 rfl (lv_at hl 3 rfl) ?_
      refine rdV (pc := 18) (As := [.int x3]) (rest := [.int x2, .int x1, .ref (ad 0)]) hx hb hml hown hts hG hP (c_Row_get l K (fun k => ad (k + 1)) 16 (by decide) pxs x3) [1, 2] rfl (q0 := 1) rfl (ci := 4) rfl g_Plan_40 hd_Row_get rfl ⟨Nat.le_of_ble_eq_true rfl, Nat.le_of_ble_eq_true rfl⟩ ⟨Nat.zero_le _, Nat.zero_le _⟩ hl rfl (Nat.le_of_ble_eq_true rfl) dX3_coversPoint_18 ?_
      refine lv_aload_n (pc := 21) hx hb dX3_coversPoint_21 rfl (lv_at hl 0 rfl) ?_
      refine va_get (D := K.1) (ci := 3) (v := .ref (ad 3)) (C := RX3) (T := TX3) (N := 6) (pc := 22) hx hb hts inT3 hown hG.1 hP 0 rfl rfl 1 (by decide) (hts _ qf_Plan_20) (fun _ h9 => h9) rfl dX3_coversPoint_22 ?_
      refine lv_iload_n (pc := 25) hx hb dX3_coversPoint_25 rfl (lv_at hl 3 rfl) ?_
      refine rdV (pc := 26) (As := [.int x3]) (rest := [.int (s_Row_get 16 pxs x3), .int x2, .int x1, .ref (ad 0)]) hx hb hml hown hts hG hP (c_Row_get l K (fun k => ad (k + 3)) 16 (by decide) pys x3) [3, 4] rfl (q0 := 3) rfl (ci := 4) rfl g_Plan_40 hd_Row_get rfl ⟨Nat.le_of_ble_eq_true rfl, Nat.le_of_ble_eq_true rfl⟩ ⟨Nat.zero_le _, Nat.zero_le _⟩ hl rfl (Nat.le_of_ble_eq_true rfl) dX3_coversPoint_26 ?_
      refine rdV (pc := 29) (As := [.int x1, .int x2, .int (s_Row_get 16 pxs x3), .int (s_Row_get 16 pys x3)]) (rest := []) hx hb hml hown hts hG hP (c_Plan_covers l K ad pxs pys plo phi pn pm x1 x2 (s_Row_get 16 pxs x3) (s_Row_get 16 pys x3)) [0, 1, 2, 3, 4, 5, 6, 7, 8] rfl (q0 := 0) rfl (ci := 3) rfl g_Plan_53 hd_Plan_covers rfl ⟨Nat.le_of_ble_eq_true rfl, Nat.le_of_ble_eq_true rfl⟩ ⟨Nat.zero_le _, Nat.zero_le _⟩ hl rfl (Nat.le_of_ble_eq_true rfl) dX3_coversPoint_29 ?_
      refine lv_if_eq (tgt := 37) (pc := 32) hx hb dX3_coversPoint_32 (by decide) (fun c2 => ?_) (fun c2 => ?_)
      · have h := it_t c2 h
        refine lv_iinc (v := (x3 + (1 : Int32))) (pc := 37) (lv' := [(3, .int (x3 + (1 : Int32))), (0, .ref (ad 0)), (1, .int x1), (2, .int x2)]) hx hb dX3_coversPoint_37 hl (k := 3) rfl rfl (by decide) rfl (fun ls hl => ?_)
        refine lv_goto (tgt := 2) (pc := 40) hx hb dX3_coversPoint_40 (by decide) ?_
        exact ih (x3 + (1 : Int32)) out h ls (lv_sub hl [1, 2, 3, 0] rfl) Kx Kr
      · have h := it_f c2 h
        refine lv_iconst (v := (1 : Int32)) (pc := 35) hx hb dX3_coversPoint_35 (by decide) ?_
        obtain rfl := Option.some.inj h
        exact Kr _ _ _ rfl dX3_coversPoint_36
set_option maxHeartbeats 4000000 in
set_option maxRecDepth 100000 in
theorem c_Plan_coversPoint (l : Launch) (K : KT) (ad : Nat → Nat) (pxs : Nat → Int32) (pys : Nat → Int32) (plo : Nat → Int32) (phi : Nat → Int32) (pn : Int32) (pm : Int32) (a0 : Int32) (a1 : Int32) (F : Nat) {o : Bool} (h : s_Plan_coversPoint F pxs pys pn a0 a1 = some o) : Rd l K 3 yX3_coversPoint cX3_coversPoint 4 .boolean [.ref (ad 0), .int a0, .int a1] (wPlan K ad pxs pys plo phi pn pm) (bI o) := by
  refine Rd.of (by decide +kernel) (Nat.le_of_ble_eq_true rfl) ?_
  unfold s_Plan_coversPoint at h
  intro p e s m below meth c hx hb hr hml hown hts hlk hP hG ls hl
  have C0 : Ctx p m c cX3_coversPoint 4 s (Array.mk [.ref (ad 0), .int a0, .int a1]) RX3 K meth (some .boolean) := ⟨hx, hb, hml, hown, hts, hG, hr, hlk⟩
  have hl : lv_has ls 4 [(0, .ref (ad 0)), (1, .int a0), (2, .int a1)] := hl
  refine lv_iconst (v := (0 : Int32)) (pc := 0) hx hb dX3_coversPoint_0 (by decide) ?_
  refine lv_istore_n (pc := 1) (lv' := [(3, .int (0 : Int32)), (0, .ref (ad 0)), (1, .int a0), (2, .int a1)]) hx hb dX3_coversPoint_1 rfl hl (by decide) rfl (fun ls hl => ?_)
  obtain ⟨o3, h_o3, h⟩ := ob h
  refine l_Plan_coversPoint_L2 C0 F ad pxs pys plo phi pn pm a0 a1 hP F (0 : Int32) _ h_o3 ls (lv_sub hl [1, 2, 3, 0] rfl) (fun o3x ls eo hl => ?_) (fun q_o pcR ls eo hdR => ?_)
  · subst o3
    have h := se_r h
    refine lv_iconst (v := (0 : Int32)) (pc := 43) hx hb dX3_coversPoint_43 (by decide) ?_
    obtain rfl := Option.some.inj h
    exact W.zret hx hb hr (rfl) (fun t ht hW => ⟨rfl, ht⟩) (fun q hq => absurd hq List.not_mem_nil) dX3_coversPoint_44 hlk
  · subst o3
    have h := se_l h
    obtain rfl := Option.some.inj h
    exact W.zret hx hb hr (bI_nar _) (fun t ht hW => ⟨rfl, ht⟩) (fun q hq => absurd hq List.not_mem_nil) hdR hlk
set_option maxHeartbeats 4000000 in
set_option maxRecDepth 100000 in
theorem c_Tab_get (l : Launch) (K : KT) (ad : Nat → Nat) (tb : Int32) (tf : Nat → Int32) (a0 : Int32) (a1 : Int32) : Rd l K 0 yX5_get cX5_get 4 .int [.ref (ad 0), .int a0, .int a1] (wTab K ad tb tf) (s_Tab_get tb tf a0 a1) := by
  generalize h : s_Tab_get tb tf a0 a1 = o
  refine Rd.of (by decide +kernel) (Nat.le_of_ble_eq_true rfl) ?_
  unfold s_Tab_get at h
  intro p e s m below meth c hx hb hr hml hown hts hlk hP hG ls hl
  have C0 : Ctx p m c cX5_get 4 s (Array.mk [.ref (ad 0), .int a0, .int a1]) RX5 K meth (some .int) := ⟨hx, hb, hml, hown, hts, hG, hr, hlk⟩
  have hl : lv_has ls 4 [(0, .ref (ad 0)), (1, .int a0), (2, .int a1)] := hl
  refine lv_iload_n (pc := 0) hx hb dX5_get_0 rfl (lv_at hl 1 rfl) ?_
  refine lv_bipush (v := (16 : Int32)) (pc := 1) hx hb dX5_get_1 (by decide) ?_
  refine lv_imul (pc := 3) hx hb dX5_get_3 ?_
  refine lv_iload_n (pc := 4) hx hb dX5_get_4 rfl (lv_at hl 2 rfl) ?_
  refine lv_iadd (pc := 5) hx hb dX5_get_5 ?_
  refine lv_istore_n (pc := 6) (lv' := [(3, .int ((a0 * (16 : Int32)) + a1)), (0, .ref (ad 0)), (1, .int a0), (2, .int a1)]) hx hb dX5_get_6 rfl hl (by decide) rfl (fun ls hl => ?_)
  refine lv_iload_n (pc := 7) hx hb dX5_get_7 rfl (lv_at hl 0 rfl) ?_
  refine lv_if_lt (tgt := 29) (pc := 8) hx hb dX5_get_8 (by decide) (fun c1 => ?_) (fun c1 => ?_)
  · have h := it_t c1 h
    refine lv_aload_n (pc := 29) hx hb dX5_get_29 rfl (lv_at hl 1 rfl) ?_
    refine va_get (D := K.1) (ci := 5) (v := .int tb) (C := RX5) (T := TX5) (N := 2) (pc := 30) hx hb hts inT5 hown hG.1 hP 0 rfl rfl 1 (by decide) (hts _ qf_Tab_15) (fun _ h9 => h9) rfl dX5_get_30 ?_
    subst h
    exact W.iret hx hb hr (fun t ht hW => ⟨rfl, ht⟩) (fun q hq => absurd hq List.not_mem_nil) dX5_get_33 hlk
  · have h := it_f c1 h
    refine lv_iload_n (pc := 11) hx hb dX5_get_11 rfl (lv_at hl 0 rfl) ?_
    refine lv_aload_n (pc := 12) hx hb dX5_get_12 rfl (lv_at hl 1 rfl) ?_
    refine va_get (D := K.1) (ci := 5) (v := .ref (ad 1)) (C := RX5) (T := TX5) (N := 2) (pc := 13) hx hb hts inT5 hown hG.1 hP 0 rfl rfl 0 (by decide) (hts _ qf_Tab_9) (fun _ h9 => h9) rfl dX5_get_13 ?_
    refine va_alen (pc := 16) hx hb hG.1 hP 1 0 rfl rfl (v := (256 : Int32)) rfl dX5_get_16 ?_
    refine lv_icmp_ge (tgt := 29) (pc := 17) hx hb dX5_get_17 (by decide) (fun c2 => ?_) (fun c2 => ?_)
    · have h := it_t c2 h
      refine lv_aload_n (pc := 29) hx hb dX5_get_29 rfl (lv_at hl 1 rfl) ?_
      refine va_get (D := K.1) (ci := 5) (v := .int tb) (C := RX5) (T := TX5) (N := 2) (pc := 30) hx hb hts inT5 hown hG.1 hP 0 rfl rfl 1 (by decide) (hts _ qf_Tab_15) (fun _ h9 => h9) rfl dX5_get_30 ?_
      subst h
      exact W.iret hx hb hr (fun t ht hW => ⟨rfl, ht⟩) (fun q hq => absurd hq List.not_mem_nil) dX5_get_33 hlk
    · have h := it_f c2 h
      refine lv_aload_n (pc := 20) hx hb dX5_get_20 rfl (lv_at hl 1 rfl) ?_
      refine va_get (D := K.1) (ci := 5) (v := .ref (ad 1)) (C := RX5) (T := TX5) (N := 2) (pc := 21) hx hb hts inT5 hown hG.1 hP 0 rfl rfl 0 (by decide) (hts _ qf_Tab_9) (fun _ h9 => h9) rfl dX5_get_21 ?_
      refine lv_iload_n (pc := 24) hx hb dX5_get_24 rfl (lv_at hl 0 rfl) ?_
      refine va_iald (pc := 25) hx hb hG.1 hP 1 0 rfl rfl (vin256 (by assumption) (by assumption)) dX5_get_25 ?_
      refine lv_goto (tgt := 33) (pc := 26) hx hb dX5_get_26 (by decide) ?_
      subst h
      exact W.iret hx hb hr (fun t ht hW => ⟨rfl, ht⟩) (fun q hq => absurd hq List.not_mem_nil) dX5_get_33 hlk
set_option maxHeartbeats 4000000 in
set_option maxRecDepth 100000 in
theorem c_Plan_squaredDistance (l : Launch) (K : KT) (ad : Nat → Nat) (pxs : Nat → Int32) (pys : Nat → Int32) (plo : Nat → Int32) (phi : Nat → Int32) (pn : Int32) (pm : Int32) (a0 : Int32) (a1 : Int32) : Rd l K 1 yX3_squaredDistance cX3_squaredDistance 5 .int [.ref (ad 0), .int a0, .int a1] (wPlan K ad pxs pys plo phi pn pm) (s_Plan_squaredDistance pxs pys a0 a1) := by
  generalize h : s_Plan_squaredDistance pxs pys a0 a1 = o
  refine Rd.of (by decide +kernel) (Nat.le_of_ble_eq_true rfl) ?_
  unfold s_Plan_squaredDistance at h
  intro p e s m below meth c hx hb hr hml hown hts hlk hP hG ls hl
  have C0 : Ctx p m c cX3_squaredDistance 5 s (Array.mk [.ref (ad 0), .int a0, .int a1]) RX3 K meth (some .int) := ⟨hx, hb, hml, hown, hts, hG, hr, hlk⟩
  have hl : lv_has ls 5 [(0, .ref (ad 0)), (1, .int a0), (2, .int a1)] := hl
  refine lv_aload_n (pc := 0) hx hb dX3_squaredDistance_0 rfl (lv_at hl 0 rfl) ?_
  refine va_get (D := K.1) (ci := 3) (v := .ref (ad 1)) (C := RX3) (T := TX3) (N := 6) (pc := 1) hx hb hts inT3 hown hG.1 hP 0 rfl rfl 0 (by decide) (hts _ qf_Plan_14) (fun _ h9 => h9) rfl dX3_squaredDistance_1 ?_
  refine lv_iload_n (pc := 4) hx hb dX3_squaredDistance_4 rfl (lv_at hl 1 rfl) ?_
  refine rdV (pc := 5) (As := [.int a0]) (rest := []) hx hb hml hown hts hG hP (c_Row_get l K (fun k => ad (k + 1)) 16 (by decide) pxs a0) [1, 2] rfl (q0 := 1) rfl (ci := 4) rfl g_Plan_40 hd_Row_get rfl ⟨Nat.le_of_ble_eq_true rfl, Nat.le_of_ble_eq_true rfl⟩ ⟨Nat.zero_le _, Nat.zero_le _⟩ hl rfl (Nat.le_of_ble_eq_true rfl) dX3_squaredDistance_5 ?_
  refine lv_aload_n (pc := 8) hx hb dX3_squaredDistance_8 rfl (lv_at hl 0 rfl) ?_
  refine va_get (D := K.1) (ci := 3) (v := .ref (ad 1)) (C := RX3) (T := TX3) (N := 6) (pc := 9) hx hb hts inT3 hown hG.1 hP 0 rfl rfl 0 (by decide) (hts _ qf_Plan_14) (fun _ h9 => h9) rfl dX3_squaredDistance_9 ?_
  refine lv_iload_n (pc := 12) hx hb dX3_squaredDistance_12 rfl (lv_at hl 2 rfl) ?_
  refine rdV (pc := 13) (As := [.int a1]) (rest := [.int (s_Row_get 16 pxs a0)]) hx hb hml hown hts hG hP (c_Row_get l K (fun k => ad (k + 1)) 16 (by decide) pxs a1) [1, 2] rfl (q0 := 1) rfl (ci := 4) rfl g_Plan_40 hd_Row_get rfl ⟨Nat.le_of_ble_eq_true rfl, Nat.le_of_ble_eq_true rfl⟩ ⟨Nat.zero_le _, Nat.zero_le _⟩ hl rfl (Nat.le_of_ble_eq_true rfl) dX3_squaredDistance_13 ?_
  refine lv_isub (pc := 16) hx hb dX3_squaredDistance_16 ?_
  refine lv_istore_n (pc := 17) (lv' := [(3, .int ((s_Row_get 16 pxs a0) - (s_Row_get 16 pxs a1))), (0, .ref (ad 0)), (1, .int a0), (2, .int a1)]) hx hb dX3_squaredDistance_17 rfl hl (by decide) rfl (fun ls hl => ?_)
  refine lv_aload_n (pc := 18) hx hb dX3_squaredDistance_18 rfl (lv_at hl 1 rfl) ?_
  refine va_get (D := K.1) (ci := 3) (v := .ref (ad 3)) (C := RX3) (T := TX3) (N := 6) (pc := 19) hx hb hts inT3 hown hG.1 hP 0 rfl rfl 1 (by decide) (hts _ qf_Plan_20) (fun _ h9 => h9) rfl dX3_squaredDistance_19 ?_
  refine lv_iload_n (pc := 22) hx hb dX3_squaredDistance_22 rfl (lv_at hl 2 rfl) ?_
  refine rdV (pc := 23) (As := [.int a0]) (rest := []) hx hb hml hown hts hG hP (c_Row_get l K (fun k => ad (k + 3)) 16 (by decide) pys a0) [3, 4] rfl (q0 := 3) rfl (ci := 4) rfl g_Plan_40 hd_Row_get rfl ⟨Nat.le_of_ble_eq_true rfl, Nat.le_of_ble_eq_true rfl⟩ ⟨Nat.zero_le _, Nat.zero_le _⟩ hl rfl (Nat.le_of_ble_eq_true rfl) dX3_squaredDistance_23 ?_
  refine lv_aload_n (pc := 26) hx hb dX3_squaredDistance_26 rfl (lv_at hl 1 rfl) ?_
  refine va_get (D := K.1) (ci := 3) (v := .ref (ad 3)) (C := RX3) (T := TX3) (N := 6) (pc := 27) hx hb hts inT3 hown hG.1 hP 0 rfl rfl 1 (by decide) (hts _ qf_Plan_20) (fun _ h9 => h9) rfl dX3_squaredDistance_27 ?_
  refine lv_iload_n (pc := 30) hx hb dX3_squaredDistance_30 rfl (lv_at hl 3 rfl) ?_
  refine rdV (pc := 31) (As := [.int a1]) (rest := [.int (s_Row_get 16 pys a0)]) hx hb hml hown hts hG hP (c_Row_get l K (fun k => ad (k + 3)) 16 (by decide) pys a1) [3, 4] rfl (q0 := 3) rfl (ci := 4) rfl g_Plan_40 hd_Row_get rfl ⟨Nat.le_of_ble_eq_true rfl, Nat.le_of_ble_eq_true rfl⟩ ⟨Nat.zero_le _, Nat.zero_le _⟩ hl rfl (Nat.le_of_ble_eq_true rfl) dX3_squaredDistance_31 ?_
  refine lv_isub (pc := 34) hx hb dX3_squaredDistance_34 ?_
  refine lv_istore (pc := 35) (lv' := [(4, .int ((s_Row_get 16 pys a0) - (s_Row_get 16 pys a1))), (3, .int ((s_Row_get 16 pxs a0) - (s_Row_get 16 pxs a1))), (0, .ref (ad 0)), (1, .int a0), (2, .int a1)]) hx hb dX3_squaredDistance_35 hl (by decide) rfl (fun ls hl => ?_)
  refine lv_iload_n (pc := 37) hx hb dX3_squaredDistance_37 rfl (lv_at hl 1 rfl) ?_
  refine lv_iload_n (pc := 38) hx hb dX3_squaredDistance_38 rfl (lv_at hl 1 rfl) ?_
  refine lv_imul (pc := 39) hx hb dX3_squaredDistance_39 ?_
  refine lv_iload (pc := 40) hx hb dX3_squaredDistance_40 (lv_at hl 0 rfl) ?_
  refine lv_iload (pc := 42) hx hb dX3_squaredDistance_42 (lv_at hl 0 rfl) ?_
  refine lv_imul (pc := 44) hx hb dX3_squaredDistance_44 ?_
  refine lv_iadd (pc := 45) hx hb dX3_squaredDistance_45 ?_
  subst h
  exact W.iret hx hb hr (fun t ht hW => ⟨rfl, ht⟩) (fun q hq => absurd hq List.not_mem_nil) dX3_squaredDistance_46 hlk
set_option maxHeartbeats 4000000 in
set_option maxRecDepth 100000 in
theorem c_Plan_twiceAreaFrom (l : Launch) (K : KT) (ad : Nat → Nat) (pxs : Nat → Int32) (pys : Nat → Int32) (plo : Nat → Int32) (phi : Nat → Int32) (pn : Int32) (pm : Int32) (a0 : Int32) (a1 : Int32) (a2 : Int32) (a3 : Int32) : Rd l K 1 yX3_twiceAreaFrom cX3_twiceAreaFrom 5 .int [.ref (ad 0), .int a0, .int a1, .int a2, .int a3] (wPlan K ad pxs pys plo phi pn pm) (s_Plan_twiceAreaFrom pxs pys a0 a1 a2 a3) := by
  generalize h : s_Plan_twiceAreaFrom pxs pys a0 a1 a2 a3 = o
  refine Rd.of (by decide +kernel) (Nat.le_of_ble_eq_true rfl) ?_
  unfold s_Plan_twiceAreaFrom at h
  intro p e s m below meth c hx hb hr hml hown hts hlk hP hG ls hl
  have C0 : Ctx p m c cX3_twiceAreaFrom 5 s (Array.mk [.ref (ad 0), .int a0, .int a1, .int a2, .int a3]) RX3 K meth (some .int) := ⟨hx, hb, hml, hown, hts, hG, hr, hlk⟩
  have hl : lv_has ls 5 [(0, .ref (ad 0)), (1, .int a0), (2, .int a1), (3, .int a2), (4, .int a3)] := hl
  refine lv_aload_n (pc := 0) hx hb dX3_twiceAreaFrom_0 rfl (lv_at hl 0 rfl) ?_
  refine va_get (D := K.1) (ci := 3) (v := .ref (ad 1)) (C := RX3) (T := TX3) (N := 6) (pc := 1) hx hb hts inT3 hown hG.1 hP 0 rfl rfl 0 (by decide) (hts _ qf_Plan_14) (fun _ h9 => h9) rfl dX3_twiceAreaFrom_1 ?_
  refine lv_iload_n (pc := 4) hx hb dX3_twiceAreaFrom_4 rfl (lv_at hl 3 rfl) ?_
  refine rdV (pc := 5) (As := [.int a2]) (rest := []) hx hb hml hown hts hG hP (c_Row_get l K (fun k => ad (k + 1)) 16 (by decide) pxs a2) [1, 2] rfl (q0 := 1) rfl (ci := 4) rfl g_Plan_40 hd_Row_get rfl ⟨Nat.le_of_ble_eq_true rfl, Nat.le_of_ble_eq_true rfl⟩ ⟨Nat.zero_le _, Nat.zero_le _⟩ hl rfl (Nat.le_of_ble_eq_true rfl) dX3_twiceAreaFrom_5 ?_
  refine lv_iload_n (pc := 8) hx hb dX3_twiceAreaFrom_8 rfl (lv_at hl 1 rfl) ?_
  refine lv_isub (pc := 9) hx hb dX3_twiceAreaFrom_9 ?_
  refine lv_aload_n (pc := 10) hx hb dX3_twiceAreaFrom_10 rfl (lv_at hl 0 rfl) ?_
  refine va_get (D := K.1) (ci := 3) (v := .ref (ad 3)) (C := RX3) (T := TX3) (N := 6) (pc := 11) hx hb hts inT3 hown hG.1 hP 0 rfl rfl 1 (by decide) (hts _ qf_Plan_20) (fun _ h9 => h9) rfl dX3_twiceAreaFrom_11 ?_
  refine lv_iload (pc := 14) hx hb dX3_twiceAreaFrom_14 (lv_at hl 4 rfl) ?_
  refine rdV (pc := 16) (As := [.int a3]) (rest := [.int ((s_Row_get 16 pxs a2) - a0)]) hx hb hml hown hts hG hP (c_Row_get l K (fun k => ad (k + 3)) 16 (by decide) pys a3) [3, 4] rfl (q0 := 3) rfl (ci := 4) rfl g_Plan_40 hd_Row_get rfl ⟨Nat.le_of_ble_eq_true rfl, Nat.le_of_ble_eq_true rfl⟩ ⟨Nat.zero_le _, Nat.zero_le _⟩ hl rfl (Nat.le_of_ble_eq_true rfl) dX3_twiceAreaFrom_16 ?_
  refine lv_iload_n (pc := 19) hx hb dX3_twiceAreaFrom_19 rfl (lv_at hl 2 rfl) ?_
  refine lv_isub (pc := 20) hx hb dX3_twiceAreaFrom_20 ?_
  refine lv_imul (pc := 21) hx hb dX3_twiceAreaFrom_21 ?_
  refine lv_aload_n (pc := 22) hx hb dX3_twiceAreaFrom_22 rfl (lv_at hl 0 rfl) ?_
  refine va_get (D := K.1) (ci := 3) (v := .ref (ad 3)) (C := RX3) (T := TX3) (N := 6) (pc := 23) hx hb hts inT3 hown hG.1 hP 0 rfl rfl 1 (by decide) (hts _ qf_Plan_20) (fun _ h9 => h9) rfl dX3_twiceAreaFrom_23 ?_
  refine lv_iload_n (pc := 26) hx hb dX3_twiceAreaFrom_26 rfl (lv_at hl 3 rfl) ?_
  refine rdV (pc := 27) (As := [.int a2]) (rest := [.int (((s_Row_get 16 pxs a2) - a0) * ((s_Row_get 16 pys a3) - a1))]) hx hb hml hown hts hG hP (c_Row_get l K (fun k => ad (k + 3)) 16 (by decide) pys a2) [3, 4] rfl (q0 := 3) rfl (ci := 4) rfl g_Plan_40 hd_Row_get rfl ⟨Nat.le_of_ble_eq_true rfl, Nat.le_of_ble_eq_true rfl⟩ ⟨Nat.zero_le _, Nat.zero_le _⟩ hl rfl (Nat.le_of_ble_eq_true rfl) dX3_twiceAreaFrom_27 ?_
  refine lv_iload_n (pc := 30) hx hb dX3_twiceAreaFrom_30 rfl (lv_at hl 2 rfl) ?_
  refine lv_isub (pc := 31) hx hb dX3_twiceAreaFrom_31 ?_
  refine lv_aload_n (pc := 32) hx hb dX3_twiceAreaFrom_32 rfl (lv_at hl 0 rfl) ?_
  refine va_get (D := K.1) (ci := 3) (v := .ref (ad 1)) (C := RX3) (T := TX3) (N := 6) (pc := 33) hx hb hts inT3 hown hG.1 hP 0 rfl rfl 0 (by decide) (hts _ qf_Plan_14) (fun _ h9 => h9) rfl dX3_twiceAreaFrom_33 ?_
  refine lv_iload (pc := 36) hx hb dX3_twiceAreaFrom_36 (lv_at hl 4 rfl) ?_
  refine rdV (pc := 38) (As := [.int a3]) (rest := [.int ((s_Row_get 16 pys a2) - a1), .int (((s_Row_get 16 pxs a2) - a0) * ((s_Row_get 16 pys a3) - a1))]) hx hb hml hown hts hG hP (c_Row_get l K (fun k => ad (k + 1)) 16 (by decide) pxs a3) [1, 2] rfl (q0 := 1) rfl (ci := 4) rfl g_Plan_40 hd_Row_get rfl ⟨Nat.le_of_ble_eq_true rfl, Nat.le_of_ble_eq_true rfl⟩ ⟨Nat.zero_le _, Nat.zero_le _⟩ hl rfl (Nat.le_of_ble_eq_true rfl) dX3_twiceAreaFrom_38 ?_
  refine lv_iload_n (pc := 41) hx hb dX3_twiceAreaFrom_41 rfl (lv_at hl 1 rfl) ?_
  refine lv_isub (pc := 42) hx hb dX3_twiceAreaFrom_42 ?_
  refine lv_imul (pc := 43) hx hb dX3_twiceAreaFrom_43 ?_
  refine lv_isub (pc := 44) hx hb dX3_twiceAreaFrom_44 ?_
  subst h
  exact W.iret hx hb hr (fun t ht hW => ⟨rfl, ht⟩) (fun q hq => absurd hq List.not_mem_nil) dX3_twiceAreaFrom_45 hlk
set_option maxHeartbeats 4000000 in
set_option maxRecDepth 100000 in
theorem c_Plan_circleSide (l : Launch) (K : KT) (ad : Nat → Nat) (pxs : Nat → Int32) (pys : Nat → Int32) (plo : Nat → Int32) (phi : Nat → Int32) (pn : Int32) (pm : Int32) (a0 : Int32) (a1 : Int32) (a2 : Int32) (a3 : Int32) : Rd l K 3 yX3_circleSide cX3_circleSide 9 .int [.ref (ad 0), .int a0, .int a1, .int a2, .int a3] (wPlan K ad pxs pys plo phi pn pm) (s_Plan_circleSide pxs pys a0 a1 a2 a3) := by
  generalize h : s_Plan_circleSide pxs pys a0 a1 a2 a3 = o
  refine Rd.of (by decide +kernel) (Nat.le_of_ble_eq_true rfl) ?_
  unfold s_Plan_circleSide at h
  intro p e s m below meth c hx hb hr hml hown hts hlk hP hG ls hl
  have C0 : Ctx p m c cX3_circleSide 9 s (Array.mk [.ref (ad 0), .int a0, .int a1, .int a2, .int a3]) RX3 K meth (some .int) := ⟨hx, hb, hml, hown, hts, hG, hr, hlk⟩
  have hl : lv_has ls 9 [(0, .ref (ad 0)), (1, .int a0), (2, .int a1), (3, .int a2), (4, .int a3)] := hl
  refine lv_aload_n (pc := 0) hx hb dX3_circleSide_0 rfl (lv_at hl 0 rfl) ?_
  refine va_get (D := K.1) (ci := 3) (v := .ref (ad 1)) (C := RX3) (T := TX3) (N := 6) (pc := 1) hx hb hts inT3 hown hG.1 hP 0 rfl rfl 0 (by decide) (hts _ qf_Plan_14) (fun _ h9 => h9) rfl dX3_circleSide_1 ?_
  refine lv_iload (pc := 4) hx hb dX3_circleSide_4 (lv_at hl 4 rfl) ?_
  refine rdV (pc := 6) (As := [.int a3]) (rest := []) hx hb hml hown hts hG hP (c_Row_get l K (fun k => ad (k + 1)) 16 (by decide) pxs a3) [1, 2] rfl (q0 := 1) rfl (ci := 4) rfl g_Plan_40 hd_Row_get rfl ⟨Nat.le_of_ble_eq_true rfl, Nat.le_of_ble_eq_true rfl⟩ ⟨Nat.zero_le _, Nat.zero_le _⟩ hl rfl (Nat.le_of_ble_eq_true rfl) dX3_circleSide_6 ?_
  refine lv_istore (pc := 9) (lv' := [(5, .int (s_Row_get 16 pxs a3)), (0, .ref (ad 0)), (1, .int a0), (2, .int a1), (3, .int a2), (4, .int a3)]) hx hb dX3_circleSide_9 hl (by decide) rfl (fun ls hl => ?_)
  refine lv_aload_n (pc := 11) hx hb dX3_circleSide_11 rfl (lv_at hl 1 rfl) ?_
  refine va_get (D := K.1) (ci := 3) (v := .ref (ad 3)) (C := RX3) (T := TX3) (N := 6) (pc := 12) hx hb hts inT3 hown hG.1 hP 0 rfl rfl 1 (by decide) (hts _ qf_Plan_20) (fun _ h9 => h9) rfl dX3_circleSide_12 ?_
  refine lv_iload (pc := 15) hx hb dX3_circleSide_15 (lv_at hl 5 rfl) ?_
  refine rdV (pc := 17) (As := [.int a3]) (rest := []) hx hb hml hown hts hG hP (c_Row_get l K (fun k => ad (k + 3)) 16 (by decide) pys a3) [3, 4] rfl (q0 := 3) rfl (ci := 4) rfl g_Plan_40 hd_Row_get rfl ⟨Nat.le_of_ble_eq_true rfl, Nat.le_of_ble_eq_true rfl⟩ ⟨Nat.zero_le _, Nat.zero_le _⟩ hl rfl (Nat.le_of_ble_eq_true rfl) dX3_circleSide_17 ?_
  refine lv_istore (pc := 20) (lv' := [(6, .int (s_Row_get 16 pys a3)), (5, .int (s_Row_get 16 pxs a3)), (0, .ref (ad 0)), (1, .int a0), (2, .int a1), (3, .int a2), (4, .int a3)]) hx hb dX3_circleSide_20 hl (by decide) rfl (fun ls hl => ?_)
  refine lv_aload_n (pc := 22) hx hb dX3_circleSide_22 rfl (lv_at hl 2 rfl) ?_
  refine lv_iload_n (pc := 23) hx hb dX3_circleSide_23 rfl (lv_at hl 3 rfl) ?_
  refine lv_iload (pc := 24) hx hb dX3_circleSide_24 (lv_at hl 6 rfl) ?_
  refine rdV (pc := 26) (As := [.int a0, .int a3]) (rest := []) hx hb hml hown hts hG hP (c_Plan_squaredDistance l K ad pxs pys plo phi pn pm a0 a3) [0, 1, 2, 3, 4, 5, 6, 7, 8] rfl (q0 := 0) rfl (ci := 3) rfl g_Plan_99 hd_Plan_squaredDistance rfl ⟨Nat.le_of_ble_eq_true rfl, Nat.le_of_ble_eq_true rfl⟩ ⟨Nat.zero_le _, Nat.zero_le _⟩ hl rfl (Nat.le_of_ble_eq_true rfl) dX3_circleSide_26 ?_
  refine lv_i2l (v := ((s_Plan_squaredDistance pxs pys a0 a3)).toInt64) (pc := 29) hx hb dX3_circleSide_29 rfl ?_
  refine lv_aload_n (pc := 30) hx hb dX3_circleSide_30 rfl (lv_at hl 2 rfl) ?_
  refine lv_iload (pc := 31) hx hb dX3_circleSide_31 (lv_at hl 1 rfl) ?_
  refine lv_iload (pc := 33) hx hb dX3_circleSide_33 (lv_at hl 0 rfl) ?_
  refine lv_iload_n (pc := 35) hx hb dX3_circleSide_35 rfl (lv_at hl 4 rfl) ?_
  refine lv_iload_n (pc := 36) hx hb dX3_circleSide_36 rfl (lv_at hl 5 rfl) ?_
  refine rdV (pc := 37) (As := [.int (s_Row_get 16 pxs a3), .int (s_Row_get 16 pys a3), .int a1, .int a2]) (rest := [.long (((s_Plan_squaredDistance pxs pys a0 a3)).toInt64)]) hx hb hml hown hts hG hP (c_Plan_twiceAreaFrom l K ad pxs pys plo phi pn pm (s_Row_get 16 pxs a3) (s_Row_get 16 pys a3) a1 a2) [0, 1, 2, 3, 4, 5, 6, 7, 8] rfl (q0 := 0) rfl (ci := 3) rfl g_Plan_102 hd_Plan_twiceAreaFrom rfl ⟨Nat.le_of_ble_eq_true rfl, Nat.le_of_ble_eq_true rfl⟩ ⟨Nat.zero_le _, Nat.zero_le _⟩ hl rfl (Nat.le_of_ble_eq_true rfl) dX3_circleSide_37 ?_
  refine lv_i2l (v := ((s_Plan_twiceAreaFrom pxs pys (s_Row_get 16 pxs a3) (s_Row_get 16 pys a3) a1 a2)).toInt64) (pc := 40) hx hb dX3_circleSide_40 rfl ?_
  refine lv_lmul (pc := 41) hx hb dX3_circleSide_41 ?_
  refine lv_aload_n (pc := 42) hx hb dX3_circleSide_42 rfl (lv_at hl 2 rfl) ?_
  refine lv_iload_n (pc := 43) hx hb dX3_circleSide_43 rfl (lv_at hl 4 rfl) ?_
  refine lv_iload (pc := 44) hx hb dX3_circleSide_44 (lv_at hl 6 rfl) ?_
  refine rdV (pc := 46) (As := [.int a1, .int a3]) (rest := [.long ((((s_Plan_squaredDistance pxs pys a0 a3)).toInt64) * (((s_Plan_twiceAreaFrom pxs pys (s_Row_get 16 pxs a3) (s_Row_get 16 pys a3) a1 a2)).toInt64))]) hx hb hml hown hts hG hP (c_Plan_squaredDistance l K ad pxs pys plo phi pn pm a1 a3) [0, 1, 2, 3, 4, 5, 6, 7, 8] rfl (q0 := 0) rfl (ci := 3) rfl g_Plan_99 hd_Plan_squaredDistance rfl ⟨Nat.le_of_ble_eq_true rfl, Nat.le_of_ble_eq_true rfl⟩ ⟨Nat.zero_le _, Nat.zero_le _⟩ hl rfl (Nat.le_of_ble_eq_true rfl) dX3_circleSide_46 ?_
  refine lv_i2l (v := ((s_Plan_squaredDistance pxs pys a1 a3)).toInt64) (pc := 49) hx hb dX3_circleSide_49 rfl ?_
  refine lv_aload_n (pc := 50) hx hb dX3_circleSide_50 rfl (lv_at hl 2 rfl) ?_
  refine lv_iload (pc := 51) hx hb dX3_circleSide_51 (lv_at hl 1 rfl) ?_
  refine lv_iload (pc := 53) hx hb dX3_circleSide_53 (lv_at hl 0 rfl) ?_
  refine lv_iload_n (pc := 55) hx hb dX3_circleSide_55 rfl (lv_at hl 5 rfl) ?_
  refine lv_iload_n (pc := 56) hx hb dX3_circleSide_56 rfl (lv_at hl 3 rfl) ?_
  refine rdV (pc := 57) (As := [.int (s_Row_get 16 pxs a3), .int (s_Row_get 16 pys a3), .int a2, .int a0]) (rest := [.long (((s_Plan_squaredDistance pxs pys a1 a3)).toInt64), .long ((((s_Plan_squaredDistance pxs pys a0 a3)).toInt64) * (((s_Plan_twiceAreaFrom pxs pys (s_Row_get 16 pxs a3) (s_Row_get 16 pys a3) a1 a2)).toInt64))]) hx hb hml hown hts hG hP (c_Plan_twiceAreaFrom l K ad pxs pys plo phi pn pm (s_Row_get 16 pxs a3) (s_Row_get 16 pys a3) a2 a0) [0, 1, 2, 3, 4, 5, 6, 7, 8] rfl (q0 := 0) rfl (ci := 3) rfl g_Plan_102 hd_Plan_twiceAreaFrom rfl ⟨Nat.le_of_ble_eq_true rfl, Nat.le_of_ble_eq_true rfl⟩ ⟨Nat.zero_le _, Nat.zero_le _⟩ hl rfl (Nat.le_of_ble_eq_true rfl) dX3_circleSide_57 ?_
  refine lv_i2l (v := ((s_Plan_twiceAreaFrom pxs pys (s_Row_get 16 pxs a3) (s_Row_get 16 pys a3) a2 a0)).toInt64) (pc := 60) hx hb dX3_circleSide_60 rfl ?_
  refine lv_lmul (pc := 61) hx hb dX3_circleSide_61 ?_
  refine lv_ladd (pc := 62) hx hb dX3_circleSide_62 ?_
  refine lv_aload_n (pc := 63) hx hb dX3_circleSide_63 rfl (lv_at hl 2 rfl) ?_
  refine lv_iload_n (pc := 64) hx hb dX3_circleSide_64 rfl (lv_at hl 5 rfl) ?_
  refine lv_iload (pc := 65) hx hb dX3_circleSide_65 (lv_at hl 6 rfl) ?_
  refine rdV (pc := 67) (As := [.int a2, .int a3]) (rest := [.long (((((s_Plan_squaredDistance pxs pys a0 a3)).toInt64) * (((s_Plan_twiceAreaFrom pxs pys (s_Row_get 16 pxs a3) (s_Row_get 16 pys a3) a1 a2)).toInt64)) + ((((s_Plan_squaredDistance pxs pys a1 a3)).toInt64) * (((s_Plan_twiceAreaFrom pxs pys (s_Row_get 16 pxs a3) (s_Row_get 16 pys a3) a2 a0)).toInt64)))]) hx hb hml hown hts hG hP (c_Plan_squaredDistance l K ad pxs pys plo phi pn pm a2 a3) [0, 1, 2, 3, 4, 5, 6, 7, 8] rfl (q0 := 0) rfl (ci := 3) rfl g_Plan_99 hd_Plan_squaredDistance rfl ⟨Nat.le_of_ble_eq_true rfl, Nat.le_of_ble_eq_true rfl⟩ ⟨Nat.zero_le _, Nat.zero_le _⟩ hl rfl (Nat.le_of_ble_eq_true rfl) dX3_circleSide_67 ?_
  refine lv_i2l (v := ((s_Plan_squaredDistance pxs pys a2 a3)).toInt64) (pc := 70) hx hb dX3_circleSide_70 rfl ?_
  refine lv_aload_n (pc := 71) hx hb dX3_circleSide_71 rfl (lv_at hl 2 rfl) ?_
  refine lv_iload (pc := 72) hx hb dX3_circleSide_72 (lv_at hl 1 rfl) ?_
  refine lv_iload (pc := 74) hx hb dX3_circleSide_74 (lv_at hl 0 rfl) ?_
  refine lv_iload_n (pc := 76) hx hb dX3_circleSide_76 rfl (lv_at hl 3 rfl) ?_
  refine lv_iload_n (pc := 77) hx hb dX3_circleSide_77 rfl (lv_at hl 4 rfl) ?_
  refine rdV (pc := 78) (As := [.int (s_Row_get 16 pxs a3), .int (s_Row_get 16 pys a3), .int a0, .int a1]) (rest := [.long (((s_Plan_squaredDistance pxs pys a2 a3)).toInt64), .long (((((s_Plan_squaredDistance pxs pys a0 a3)).toInt64) * (((s_Plan_twiceAreaFrom pxs pys (s_Row_get 16 pxs a3) (s_Row_get 16 pys a3) a1 a2)).toInt64)) + ((((s_Plan_squaredDistance pxs pys a1 a3)).toInt64) * (((s_Plan_twiceAreaFrom pxs pys (s_Row_get 16 pxs a3) (s_Row_get 16 pys a3) a2 a0)).toInt64)))]) hx hb hml hown hts hG hP (c_Plan_twiceAreaFrom l K ad pxs pys plo phi pn pm (s_Row_get 16 pxs a3) (s_Row_get 16 pys a3) a0 a1) [0, 1, 2, 3, 4, 5, 6, 7, 8] rfl (q0 := 0) rfl (ci := 3) rfl g_Plan_102 hd_Plan_twiceAreaFrom rfl ⟨Nat.le_of_ble_eq_true rfl, Nat.le_of_ble_eq_true rfl⟩ ⟨Nat.zero_le _, Nat.zero_le _⟩ hl rfl (Nat.le_of_ble_eq_true rfl) dX3_circleSide_78 ?_
  refine lv_i2l (v := ((s_Plan_twiceAreaFrom pxs pys (s_Row_get 16 pxs a3) (s_Row_get 16 pys a3) a0 a1)).toInt64) (pc := 81) hx hb dX3_circleSide_81 rfl ?_
  refine lv_lmul (pc := 82) hx hb dX3_circleSide_82 ?_
  refine lv_ladd (pc := 83) hx hb dX3_circleSide_83 ?_
  refine lv_lstore (pc := 84) (lv' := [(7, .long ((((((s_Plan_squaredDistance pxs pys a0 a3)).toInt64) * (((s_Plan_twiceAreaFrom pxs pys (s_Row_get 16 pxs a3) (s_Row_get 16 pys a3) a1 a2)).toInt64)) + ((((s_Plan_squaredDistance pxs pys a1 a3)).toInt64) * (((s_Plan_twiceAreaFrom pxs pys (s_Row_get 16 pxs a3) (s_Row_get 16 pys a3) a2 a0)).toInt64))) + ((((s_Plan_squaredDistance pxs pys a2 a3)).toInt64) * (((s_Plan_twiceAreaFrom pxs pys (s_Row_get 16 pxs a3) (s_Row_get 16 pys a3) a0 a1)).toInt64)))), (6, .int (s_Row_get 16 pys a3)), (5, .int (s_Row_get 16 pxs a3)), (0, .ref (ad 0)), (1, .int a0), (2, .int a1), (3, .int a2), (4, .int a3)]) hx hb dX3_circleSide_84 hl (by decide) rfl (fun ls hl => ?_)
  refine lv_lload (pc := 86) hx hb dX3_circleSide_86 (lv_at hl 0 rfl) ?_
  refine rdSN (pc := 88) (As := [.long ((((((s_Plan_squaredDistance pxs pys a0 a3)).toInt64) * (((s_Plan_twiceAreaFrom pxs pys (s_Row_get 16 pxs a3) (s_Row_get 16 pys a3) a1 a2)).toInt64)) + ((((s_Plan_squaredDistance pxs pys a1 a3)).toInt64) * (((s_Plan_twiceAreaFrom pxs pys (s_Row_get 16 pxs a3) (s_Row_get 16 pys a3) a2 a0)).toInt64))) + ((((s_Plan_squaredDistance pxs pys a2 a3)).toInt64) * (((s_Plan_twiceAreaFrom pxs pys (s_Row_get 16 pxs a3) (s_Row_get 16 pys a3) a0 a1)).toInt64)))]) (rest := []) hx hb hml hown hts hG (c_Top_signOf l K ((((((s_Plan_squaredDistance pxs pys a0 a3)).toInt64) * (((s_Plan_twiceAreaFrom pxs pys (s_Row_get 16 pxs a3) (s_Row_get 16 pys a3) a1 a2)).toInt64)) + ((((s_Plan_squaredDistance pxs pys a1 a3)).toInt64) * (((s_Plan_twiceAreaFrom pxs pys (s_Row_get 16 pxs a3) (s_Row_get 16 pys a3) a2 a0)).toInt64))) + ((((s_Plan_squaredDistance pxs pys a2 a3)).toInt64) * (((s_Plan_twiceAreaFrom pxs pys (s_Row_get 16 pxs a3) (s_Row_get 16 pys a3) a0 a1)).toInt64)))) (gM qc_Top_signOf) hG.2 (hts _ qn_Top) (hts _ qt_Top_signOf) hd_Top_signOf rfl ⟨Nat.le_of_ble_eq_true rfl, Nat.le_of_ble_eq_true rfl⟩ ⟨Nat.zero_le _, Nat.zero_le _⟩ hl rfl (Nat.le_of_ble_eq_true rfl) dX3_circleSide_88 ?_
  refine lv_aload_n (pc := 91) hx hb dX3_circleSide_91 rfl (lv_at hl 3 rfl) ?_
  refine lv_iload_n (pc := 92) hx hb dX3_circleSide_92 rfl (lv_at hl 4 rfl) ?_
  refine lv_iload_n (pc := 93) hx hb dX3_circleSide_93 rfl (lv_at hl 5 rfl) ?_
  refine lv_iload_n (pc := 94) hx hb dX3_circleSide_94 rfl (lv_at hl 6 rfl) ?_
  refine rdV (pc := 95) (As := [.int a0, .int a1, .int a2]) (rest := [.int (s_Top_signOf ((((((s_Plan_squaredDistance pxs pys a0 a3)).toInt64) * (((s_Plan_twiceAreaFrom pxs pys (s_Row_get 16 pxs a3) (s_Row_get 16 pys a3) a1 a2)).toInt64)) + ((((s_Plan_squaredDistance pxs pys a1 a3)).toInt64) * (((s_Plan_twiceAreaFrom pxs pys (s_Row_get 16 pxs a3) (s_Row_get 16 pys a3) a2 a0)).toInt64))) + ((((s_Plan_squaredDistance pxs pys a2 a3)).toInt64) * (((s_Plan_twiceAreaFrom pxs pys (s_Row_get 16 pxs a3) (s_Row_get 16 pys a3) a0 a1)).toInt64))))]) hx hb hml hown hts hG hP (c_Plan_side l K ad pxs pys plo phi pn pm a0 a1 a2) [0, 1, 2, 3, 4, 5, 6, 7, 8] rfl (q0 := 0) rfl (ci := 3) rfl g_Plan_95 hd_Plan_side rfl ⟨Nat.le_of_ble_eq_true rfl, Nat.le_of_ble_eq_true rfl⟩ ⟨Nat.zero_le _, Nat.zero_le _⟩ hl rfl (Nat.le_of_ble_eq_true rfl) dX3_circleSide_95 ?_
  refine lv_imul (pc := 98) hx hb dX3_circleSide_98 ?_
  subst h
  exact W.iret hx hb hr (fun t ht hW => ⟨rfl, ht⟩) (fun q hq => absurd hq List.not_mem_nil) dX3_circleSide_99 hlk
set_option maxHeartbeats 4000000 in
set_option maxRecDepth 100000 in
theorem l_Plan_isConstraint_L2 {p : Program} {l : Launch} {e : Env} {s : State} {m : MethodId} {args : Array Value} {below : List Frame} {meth : Method} {c : Code} {Q : State → Prop} {K : KT} (C0 : Ctx p m c cX3_isConstraint 4 s args RX3 K meth (some .boolean)) (F : Nat) (ad : Nat → Nat) (pxs : Nat → Int32) (pys : Nat → Int32) (plo : Nat → Int32) (phi : Nat → Int32) (pn : Int32) (pm : Int32) (x1 : Int32) (x2 : Int32) (hP : va_P K.1 vC (wPlan K ad pxs pys plo phi pn pm) s.heap) : ∀ (n : Nat) (x3 : Int32) (out : (Bool) ⊕ (Int32)), s_Plan_isConstraint_L2 plo phi pm x1 x2 n x3 = some out → ∀ (ls : Array Slot), lv_has ls 4 [(0, .ref (ad 0)), (1, .int x1), (2, .int x2), (3, .int x3)] → (∀ (o : Int32) (ls : Array Slot), out = .inr o → lv_has ls 4 [(0, .ref (ad 0)), (1, .int x1), (2, .int x2), (3, .int o)] → W p l e (rmL 1) s m args below meth c s.heap [] 0 0 Q (F0 m 50 ls [])) → (∀ (o : Bool) (pcR : Nat) (ls : Array Slot), out = .inl o → decode cX3_isConstraint pcR = .ok (.ireturn, 1) → W p l e (rmL 1) s m args below meth c s.heap [] 0 0 Q (F0 m pcR ls [.int (bI o)])) → W p l e (rmL 1) s m args below meth c s.heap [] 0 0 Q (F0 m 2 ls []) := by
  obtain ⟨hx, hb, hml, hown, hts, hG, hr, hlk⟩ := id C0
  intro n
  induction n with
  | zero =>
    intro x3 out h
    cases h
  | succ n ih =>
    intro x3 out h ls hl Kx Kr
    rw [s_Plan_isConstraint_L2.eq_2] at h
    refine lv_iload_n (pc := 2) hx hb dX3_isConstraint_2 rfl (lv_at hl 3 rfl) ?_
    refine lv_aload_n (pc := 3) hx hb dX3_isConstraint_3 rfl (lv_at hl 0 rfl) ?_
    refine va_get (D := K.1) (ci := 3) (v := .int pm) (C := RX3) (T := TX3) (N := 6) (pc := 4) hx hb hts inT3 hown hG.1 hP 0 rfl rfl 5 (by decide) (hts _ qf_Plan_33) (fun _ h9 => h9) rfl dX3_isConstraint_4 ?_
    refine lv_icmp_ge (tgt := 50) (pc := 7) hx hb dX3_isConstraint_7 (by decide) (fun c1 => ?_) (fun c1 => ?_)
    · have h := it_t c1 h
      obtain rfl := Option.some.inj h
      exact Kx _ ls rfl (lv_sub hl [0, 1, 2, 3] rfl)
    · have h := it_f c1 h
      refine lv_aload_n (pc := 10) hx hb dX3_isConstraint_10 rfl (lv_at hl 0 rfl) ?_
      refine va_get (D := K.1) (ci := 3) (v := .ref (ad 5)) (C := RX3) (T := TX3) (N := 6) (pc := 11) hx hb hts inT3 hown hG.1 hP 0 rfl rfl 2 (by decide) (hts _ qf_Plan_23) (fun _ h9 => h9) rfl dX3_isConstraint_11 ?_
      refine lv_iload_n (pc := 14) hx hb dX3_isConstraint_14 rfl (lv_at hl 3 rfl) ?_
      refine rdV (pc := 15) (As := [.int x3]) (rest := []) hx hb hml hown hts hG hP (c_Row_get l K (fun k => ad (k + 5)) 10 (by decide) plo x3) [5, 6] rfl (q0 := 5) rfl (ci := 4) rfl g_Plan_40 hd_Row_get rfl ⟨Nat.le_of_ble_eq_true rfl, Nat.le_of_ble_eq_true rfl⟩ ⟨Nat.zero_le _, Nat.zero_le _⟩ hl rfl (Nat.le_of_ble_eq_true rfl) dX3_isConstraint_15 ?_
      refine lv_iload_n (pc := 18) hx hb dX3_isConstraint_18 rfl (lv_at hl 1 rfl) ?_
      refine lv_iload_n (pc := 19) hx hb dX3_isConstraint_19 rfl (lv_at hl 2 rfl) ?_
      refine my_mmin (pc := 20) hx hb hml hl.1 hown hts qm_Plan_44 (Nat.le_of_ble_eq_true rfl) (Nat.le_of_ble_eq_true rfl) ⟨Nat.zero_le _, Nat.zero_le _⟩ dX3_isConstraint_20 ?_
      refine lv_icmp_ne (tgt := 44) (pc := 23) hx hb dX3_isConstraint_23 (by decide) (fun c2 => ?_) (fun c2 => ?_)
      · have h := it_f c2 h
        refine lv_iinc (v := (x3 + (1 : Int32))) (pc := 44) (lv' := [(3, .int (x3 + (1 : Int32))), (0, .ref (ad 0)), (1, .int x1), (2, .int x2)]) hx hb dX3_isConstraint_44 hl (k := 3) rfl rfl (by decide) rfl (fun ls hl => ?_)
        refine lv_goto (tgt := 2) (pc := 47) hx hb dX3_isConstraint_47 (by decide) ?_
        exact ih (x3 + (1 : Int32)) out h ls (lv_sub hl [1, 2, 3, 0] rfl) Kx Kr
      · have h := it_t c2 h
        refine lv_aload_n (pc := 26) hx hb dX3_isConstraint_26 rfl (lv_at hl 0 rfl) ?_
        refine va_get (D := K.1) (ci := 3) (v := .ref (ad 7)) (C := RX3) (T := TX3) (N := 6) (pc := 27) hx hb hts inT3 hown hG.1 hP 0 rfl rfl 3 (by decide) (hts _ qf_Plan_26) (fun _ h9 => h9) rfl dX3_isConstraint_27 ?_
        refine lv_iload_n (pc := 30) hx hb dX3_isConstraint_30 rfl (lv_at hl 3 rfl) ?_
        refine rdV (pc := 31) (As := [.int x3]) (rest := []) hx hb hml hown hts hG hP (c_Row_get l K (fun k => ad (k + 7)) 10 (by decide) phi x3) [7, 8] rfl (q0 := 7) rfl (ci := 4) rfl g_Plan_40 hd_Row_get rfl ⟨Nat.le_of_ble_eq_true rfl, Nat.le_of_ble_eq_true rfl⟩ ⟨Nat.zero_le _, Nat.zero_le _⟩ hl rfl (Nat.le_of_ble_eq_true rfl) dX3_isConstraint_31 ?_
        refine lv_iload_n (pc := 34) hx hb dX3_isConstraint_34 rfl (lv_at hl 1 rfl) ?_
        refine lv_iload_n (pc := 35) hx hb dX3_isConstraint_35 rfl (lv_at hl 2 rfl) ?_
        refine my_mmax (pc := 36) hx hb hml hl.1 hown hts qm_Plan_50 (Nat.le_of_ble_eq_true rfl) (Nat.le_of_ble_eq_true rfl) ⟨Nat.zero_le _, Nat.zero_le _⟩ dX3_isConstraint_36 ?_
        refine lv_icmp_ne (tgt := 44) (pc := 39) hx hb dX3_isConstraint_39 (by decide) (fun c3 => ?_) (fun c3 => ?_)
        · have h := it_f c3 h
          refine lv_iinc (v := (x3 + (1 : Int32))) (pc := 44) (lv' := [(3, .int (x3 + (1 : Int32))), (0, .ref (ad 0)), (1, .int x1), (2, .int x2)]) hx hb dX3_isConstraint_44 hl (k := 3) rfl rfl (by decide) rfl (fun ls hl => ?_)
          refine lv_goto (tgt := 2) (pc := 47) hx hb dX3_isConstraint_47 (by decide) ?_
          exact ih (x3 + (1 : Int32)) out h ls (lv_sub hl [1, 2, 3, 0] rfl) Kx Kr
        · have h := it_t c3 h
          refine lv_iconst (v := (1 : Int32)) (pc := 42) hx hb dX3_isConstraint_42 (by decide) ?_
          obtain rfl := Option.some.inj h
          exact Kr _ _ _ rfl dX3_isConstraint_43
set_option maxHeartbeats 4000000 in
set_option maxRecDepth 100000 in
theorem c_Plan_isConstraint (l : Launch) (K : KT) (ad : Nat → Nat) (pxs : Nat → Int32) (pys : Nat → Int32) (plo : Nat → Int32) (phi : Nat → Int32) (pn : Int32) (pm : Int32) (a0 : Int32) (a1 : Int32) (F : Nat) {o : Bool} (h : s_Plan_isConstraint F plo phi pm a0 a1 = some o) : Rd l K 1 yX3_isConstraint cX3_isConstraint 4 .boolean [.ref (ad 0), .int a0, .int a1] (wPlan K ad pxs pys plo phi pn pm) (bI o) := by
  refine Rd.of (by decide +kernel) (Nat.le_of_ble_eq_true rfl) ?_
  unfold s_Plan_isConstraint at h
  intro p e s m below meth c hx hb hr hml hown hts hlk hP hG ls hl
  have C0 : Ctx p m c cX3_isConstraint 4 s (Array.mk [.ref (ad 0), .int a0, .int a1]) RX3 K meth (some .boolean) := ⟨hx, hb, hml, hown, hts, hG, hr, hlk⟩
  have hl : lv_has ls 4 [(0, .ref (ad 0)), (1, .int a0), (2, .int a1)] := hl
  refine lv_iconst (v := (0 : Int32)) (pc := 0) hx hb dX3_isConstraint_0 (by decide) ?_
  refine lv_istore_n (pc := 1) (lv' := [(3, .int (0 : Int32)), (0, .ref (ad 0)), (1, .int a0), (2, .int a1)]) hx hb dX3_isConstraint_1 rfl hl (by decide) rfl (fun ls hl => ?_)
  obtain ⟨o4, h_o4, h⟩ := ob h
  refine l_Plan_isConstraint_L2 C0 F ad pxs pys plo phi pn pm a0 a1 hP F (0 : Int32) _ h_o4 ls (lv_sub hl [1, 2, 3, 0] rfl) (fun o4x ls eo hl => ?_) (fun q_o pcR ls eo hdR => ?_)
  · subst o4
    have h := se_r h
    refine lv_iconst (v := (0 : Int32)) (pc := 50) hx hb dX3_isConstraint_50 (by decide) ?_
    obtain rfl := Option.some.inj h
    exact W.zret hx hb hr (rfl) (fun t ht hW => ⟨rfl, ht⟩) (fun q hq => absurd hq List.not_mem_nil) dX3_isConstraint_51 hlk
  · subst o4
    have h := se_l h
    obtain rfl := Option.some.inj h
    exact W.zret hx hb hr (bI_nar _) (fun t ht hW => ⟨rfl, ht⟩) (fun q hq => absurd hq List.not_mem_nil) hdR hlk
set_option maxHeartbeats 4000000 in
set_option maxRecDepth 100000 in
theorem c_Tab_turnRound (l : Launch) (K : KT) (ad : Nat → Nat) (tb : Int32) (tf : Nat → Int32) (a0 : Int32) (a1 : Int32) (a2 : Int32) : Wr l K 1 yX5_turnRound cX5_turnRound 4 none [.ref (ad 0), .int a0, .int a1, .int a2] (wTab K ad tb tf) none (wTab K ad tb (s_Tab_turnRound tf a0 a1 a2)) := by
  generalize h : s_Tab_turnRound tf a0 a1 a2 = o
  refine Wr.of (by decide +kernel) (Nat.le_of_ble_eq_true rfl) ?_
  unfold s_Tab_turnRound at h
  intro p e s m below meth c hx hb hr hml hown hts hlk H locs hP hG hD hS ls hl
  have C0 : Ctx p m c cX5_turnRound 4 s (Array.mk [.ref (ad 0), .int a0, .int a1, .int a2]) RX5 K meth none := ⟨hx, hb, hml, hown, hts, hG, hr, hlk⟩
  have hl : lv_has ls 4 [(0, .ref (ad 0)), (1, .int a0), (2, .int a1), (3, .int a2)] := hl
  refine lv_aload_n (pc := 0) hx hb dX5_turnRound_0 rfl (lv_at hl 0 rfl) ?_
  refine lv_iload_n (pc := 1) hx hb dX5_turnRound_1 rfl (lv_at hl 1 rfl) ?_
  refine lv_iload_n (pc := 2) hx hb dX5_turnRound_2 rfl (lv_at hl 2 rfl) ?_
  refine lv_iload_n (pc := 3) hx hb dX5_turnRound_3 rfl (lv_at hl 3 rfl) ?_
  refine wrVv (pc := 4) (As := [.int a0, .int a1, .int a2]) (rest := []) (ws2 := wTab K ad tb (s_Tab_set tf a0 a1 a2)) (as9 := [ad 0, ad 1]) hx hb hml hown hts hG hP hD hS (c_Tab_set l K ad tb tf a0 a1 a2) [0, 1] rfl rfl rfl rfl [.inl 0, .inl 1] (by decide +kernel) rfl (q0 := 0) rfl (ci := 5) rfl g_Tab_19 hd_Tab_set rfl ⟨Nat.le_of_ble_eq_true rfl, Nat.le_of_ble_eq_true rfl⟩ ⟨Nat.zero_le _, Nat.zero_le _⟩ hl rfl (Nat.le_of_ble_eq_true rfl) dX5_turnRound_4 (fun H locs hP hD hS => ?_)
  refine lv_aload_n (pc := 7) hx hb dX5_turnRound_7 rfl (lv_at hl 0 rfl) ?_
  refine lv_iload_n (pc := 8) hx hb dX5_turnRound_8 rfl (lv_at hl 2 rfl) ?_
  refine lv_iload_n (pc := 9) hx hb dX5_turnRound_9 rfl (lv_at hl 3 rfl) ?_
  refine lv_iload_n (pc := 10) hx hb dX5_turnRound_10 rfl (lv_at hl 1 rfl) ?_
  refine wrVv (pc := 11) (As := [.int a1, .int a2, .int a0]) (rest := []) (ws2 := wTab K ad tb (s_Tab_set (s_Tab_set tf a0 a1 a2) a1 a2 a0)) (as9 := [ad 0, ad 1]) hx hb hml hown hts hG hP hD hS (c_Tab_set l K ad tb (s_Tab_set tf a0 a1 a2) a1 a2 a0) [0, 1] rfl rfl rfl rfl [.inl 0, .inl 1] (by decide +kernel) rfl (q0 := 0) rfl (ci := 5) rfl g_Tab_19 hd_Tab_set rfl ⟨Nat.le_of_ble_eq_true rfl, Nat.le_of_ble_eq_true rfl⟩ ⟨Nat.zero_le _, Nat.zero_le _⟩ hl rfl (Nat.le_of_ble_eq_true rfl) dX5_turnRound_11 (fun H locs hP hD hS => ?_)
  refine lv_aload_n (pc := 14) hx hb dX5_turnRound_14 rfl (lv_at hl 0 rfl) ?_
  refine lv_iload_n (pc := 15) hx hb dX5_turnRound_15 rfl (lv_at hl 3 rfl) ?_
  refine lv_iload_n (pc := 16) hx hb dX5_turnRound_16 rfl (lv_at hl 1 rfl) ?_
  refine lv_iload_n (pc := 17) hx hb dX5_turnRound_17 rfl (lv_at hl 2 rfl) ?_
  refine wrVv (pc := 18) (As := [.int a2, .int a0, .int a1]) (rest := []) (ws2 := wTab K ad tb (s_Tab_set (s_Tab_set (s_Tab_set tf a0 a1 a2) a1 a2 a0) a2 a0 a1)) (as9 := [ad 0, ad 1]) hx hb hml hown hts hG hP hD hS (c_Tab_set l K ad tb (s_Tab_set (s_Tab_set tf a0 a1 a2) a1 a2 a0) a2 a0 a1) [0, 1] rfl rfl rfl rfl [.inl 0, .inl 1] (by decide +kernel) rfl (q0 := 0) rfl (ci := 5) rfl g_Tab_19 hd_Tab_set rfl ⟨Nat.le_of_ble_eq_true rfl, Nat.le_of_ble_eq_true rfl⟩ ⟨Nat.zero_le _, Nat.zero_le _⟩ hl rfl (Nat.le_of_ble_eq_true rfl) dX5_turnRound_18 (fun H locs hP hD hS => ?_)
  subst h
  exact W.vret hx hb hr (fun t ht hW => ⟨⟨rfl, by rw [ht]; exact hP⟩, hS.F ht⟩) hS.2.2 dX5_turnRound_21 hlk
set_option maxHeartbeats 4000000 in
set_option maxRecDepth 100000 in
theorem c_J6_bitCount_0f7a4 (l : Launch) (K : KT) (a0 : Int32) : Rd l K 0 yJ6_bitCount_0f7a4 cJ6_bitCount_0f7a4 1 .int [.int a0] ([]) (s_J6_bitCount_0f7a4 a0) := by
  generalize h : s_J6_bitCount_0f7a4 a0 = o
  refine Rd.of (by decide +kernel) (Nat.le_of_ble_eq_true rfl) ?_
  unfold s_J6_bitCount_0f7a4 at h
  intro p e s m below meth c hx hb hr hml hown hts hlk hP hG ls hl
  have C0 : Ctx p m c cJ6_bitCount_0f7a4 1 s (Array.mk [.int a0]) RJ6 K meth (some .int) := ⟨hx, hb, hml, hown, hts, hG, hr, hlk⟩
  have hl : lv_has ls 1 [(0, .int a0)] := hl
  refine lv_iload_n (pc := 0) hx hb dJ6_bitCount_0f7a4_0 rfl (lv_at hl 0 rfl) ?_
  refine lv_iload_n (pc := 1) hx hb dJ6_bitCount_0f7a4_1 rfl (lv_at hl 0 rfl) ?_
  refine lv_iconst (v := (1 : Int32)) (pc := 2) hx hb dJ6_bitCount_0f7a4_2 (by decide) ?_
  refine lv_iushr (v := (iushr a0 (1 : Int32))) (pc := 3) hx hb dJ6_bitCount_0f7a4_3 rfl ?_
  refine lv_ldcw (v := (1431655765 : Int32)) (pc := 4) hx hb hown (hts _ qk_J6_265) dJ6_bitCount_0f7a4_4 ?_
  refine lv_iand (pc := 7) hx hb dJ6_bitCount_0f7a4_7 ?_
  refine lv_isub (pc := 8) hx hb dJ6_bitCount_0f7a4_8 ?_
  refine lv_istore_n (pc := 9) (lv' := [(0, .int (a0 - ((iushr a0 (1 : Int32)) &&& (1431655765 : Int32))))]) hx hb dJ6_bitCount_0f7a4_9 rfl hl (by decide) rfl (fun ls hl => ?_)
  refine lv_iload_n (pc := 10) hx hb dJ6_bitCount_0f7a4_10 rfl (lv_at hl 0 rfl) ?_
  refine lv_ldcw (v := (858993459 : Int32)) (pc := 11) hx hb hown (hts _ qk_J6_266) dJ6_bitCount_0f7a4_11 ?_
  refine lv_iand (pc := 14) hx hb dJ6_bitCount_0f7a4_14 ?_
  refine lv_iload_n (pc := 15) hx hb dJ6_bitCount_0f7a4_15 rfl (lv_at hl 0 rfl) ?_
  refine lv_iconst (v := (2 : Int32)) (pc := 16) hx hb dJ6_bitCount_0f7a4_16 (by decide) ?_
  refine lv_iushr (v := (iushr (a0 - ((iushr a0 (1 : Int32)) &&& (1431655765 : Int32))) (2 : Int32))) (pc := 17) hx hb dJ6_bitCount_0f7a4_17 rfl ?_
  refine lv_ldcw (v := (858993459 : Int32)) (pc := 18) hx hb hown (hts _ qk_J6_266) dJ6_bitCount_0f7a4_18 ?_
  refine lv_iand (pc := 21) hx hb dJ6_bitCount_0f7a4_21 ?_
  refine lv_iadd (pc := 22) hx hb dJ6_bitCount_0f7a4_22 ?_
  refine lv_istore_n (pc := 23) (lv' := [(0, .int (((a0 - ((iushr a0 (1 : Int32)) &&& (1431655765 : Int32))) &&& (858993459 : Int32)) + ((iushr (a0 - ((iushr a0 (1 : Int32)) &&& (1431655765 : Int32))) (2 : Int32)) &&& (858993459 : Int32))))]) hx hb dJ6_bitCount_0f7a4_23 rfl hl (by decide) rfl (fun ls hl => ?_)
  refine lv_iload_n (pc := 24) hx hb dJ6_bitCount_0f7a4_24 rfl (lv_at hl 0 rfl) ?_
  refine lv_iload_n (pc := 25) hx hb dJ6_bitCount_0f7a4_25 rfl (lv_at hl 0 rfl) ?_
  refine lv_iconst (v := (4 : Int32)) (pc := 26) hx hb dJ6_bitCount_0f7a4_26 (by decide) ?_
  refine lv_iushr (v := (iushr (((a0 - ((iushr a0 (1 : Int32)) &&& (1431655765 : Int32))) &&& (858993459 : Int32)) + ((iushr (a0 - ((iushr a0 (1 : Int32)) &&& (1431655765 : Int32))) (2 : Int32)) &&& (858993459 : Int32))) (4 : Int32))) (pc := 27) hx hb dJ6_bitCount_0f7a4_27 rfl ?_
  refine lv_iadd (pc := 28) hx hb dJ6_bitCount_0f7a4_28 ?_
  refine lv_ldcw (v := (252645135 : Int32)) (pc := 29) hx hb hown (hts _ qk_J6_267) dJ6_bitCount_0f7a4_29 ?_
  refine lv_iand (pc := 32) hx hb dJ6_bitCount_0f7a4_32 ?_
  refine lv_istore_n (pc := 33) (lv' := [(0, .int (((((a0 - ((iushr a0 (1 : Int32)) &&& (1431655765 : Int32))) &&& (858993459 : Int32)) + ((iushr (a0 - ((iushr a0 (1 : Int32)) &&& (1431655765 : Int32))) (2 : Int32)) &&& (858993459 : Int32))) + (iushr (((a0 - ((iushr a0 (1 : Int32)) &&& (1431655765 : Int32))) &&& (858993459 : Int32)) + ((iushr (a0 - ((iushr a0 (1 : Int32)) &&& (1431655765 : Int32))) (2 : Int32)) &&& (858993459 : Int32))) (4 : Int32))) &&& (252645135 : Int32)))]) hx hb dJ6_bitCount_0f7a4_33 rfl hl (by decide) rfl (fun ls hl => ?_)
  refine lv_iload_n (pc := 34) hx hb dJ6_bitCount_0f7a4_34 rfl (lv_at hl 0 rfl) ?_
  refine lv_iload_n (pc := 35) hx hb dJ6_bitCount_0f7a4_35 rfl (lv_at hl 0 rfl) ?_
  refine lv_bipush (v := (8 : Int32)) (pc := 36) hx hb dJ6_bitCount_0f7a4_36 (by decide) ?_
  refine lv_iushr (v := (iushr (((((a0 - ((iushr a0 (1 : Int32)) &&& (1431655765 : Int32))) &&& (858993459 : Int32)) + ((iushr (a0 - ((iushr a0 (1 : Int32)) &&& (1431655765 : Int32))) (2 : Int32)) &&& (858993459 : Int32))) + (iushr (((a0 - ((iushr a0 (1 : Int32)) &&& (1431655765 : Int32))) &&& (858993459 : Int32)) + ((iushr (a0 - ((iushr a0 (1 : Int32)) &&& (1431655765 : Int32))) (2 : Int32)) &&& (858993459 : Int32))) (4 : Int32))) &&& (252645135 : Int32)) (8 : Int32))) (pc := 38) hx hb dJ6_bitCount_0f7a4_38 rfl ?_
  refine lv_iadd (pc := 39) hx hb dJ6_bitCount_0f7a4_39 ?_
  refine lv_istore_n (pc := 40) (lv' := [(0, .int ((((((a0 - ((iushr a0 (1 : Int32)) &&& (1431655765 : Int32))) &&& (858993459 : Int32)) + ((iushr (a0 - ((iushr a0 (1 : Int32)) &&& (1431655765 : Int32))) (2 : Int32)) &&& (858993459 : Int32))) + (iushr (((a0 - ((iushr a0 (1 : Int32)) &&& (1431655765 : Int32))) &&& (858993459 : Int32)) + ((iushr (a0 - ((iushr a0 (1 : Int32)) &&& (1431655765 : Int32))) (2 : Int32)) &&& (858993459 : Int32))) (4 : Int32))) &&& (252645135 : Int32)) + (iushr (((((a0 - ((iushr a0 (1 : Int32)) &&& (1431655765 : Int32))) &&& (858993459 : Int32)) + ((iushr (a0 - ((iushr a0 (1 : Int32)) &&& (1431655765 : Int32))) (2 : Int32)) &&& (858993459 : Int32))) + (iushr (((a0 - ((iushr a0 (1 : Int32)) &&& (1431655765 : Int32))) &&& (858993459 : Int32)) + ((iushr (a0 - ((iushr a0 (1 : Int32)) &&& (1431655765 : Int32))) (2 : Int32)) &&& (858993459 : Int32))) (4 : Int32))) &&& (252645135 : Int32)) (8 : Int32))))]) hx hb dJ6_bitCount_0f7a4_40 rfl hl (by decide) rfl (fun ls hl => ?_)
  refine lv_iload_n (pc := 41) hx hb dJ6_bitCount_0f7a4_41 rfl (lv_at hl 0 rfl) ?_
  refine lv_iload_n (pc := 42) hx hb dJ6_bitCount_0f7a4_42 rfl (lv_at hl 0 rfl) ?_
  refine lv_bipush (v := (16 : Int32)) (pc := 43) hx hb dJ6_bitCount_0f7a4_43 (by decide) ?_
  refine lv_iushr (v := (iushr ((((((a0 - ((iushr a0 (1 : Int32)) &&& (1431655765 : Int32))) &&& (858993459 : Int32)) + ((iushr (a0 - ((iushr a0 (1 : Int32)) &&& (1431655765 : Int32))) (2 : Int32)) &&& (858993459 : Int32))) + (iushr (((a0 - ((iushr a0 (1 : Int32)) &&& (1431655765 : Int32))) &&& (858993459 : Int32)) + ((iushr (a0 - ((iushr a0 (1 : Int32)) &&& (1431655765 : Int32))) (2 : Int32)) &&& (858993459 : Int32))) (4 : Int32))) &&& (252645135 : Int32)) + (iushr (((((a0 - ((iushr a0 (1 : Int32)) &&& (1431655765 : Int32))) &&& (858993459 : Int32)) + ((iushr (a0 - ((iushr a0 (1 : Int32)) &&& (1431655765 : Int32))) (2 : Int32)) &&& (858993459 : Int32))) + (iushr (((a0 - ((iushr a0 (1 : Int32)) &&& (1431655765 : Int32))) &&& (858993459 : Int32)) + ((iushr (a0 - ((iushr a0 (1 : Int32)) &&& (1431655765 : Int32))) (2 : Int32)) &&& (858993459 : Int32))) (4 : Int32))) &&& (252645135 : Int32)) (8 : Int32))) (16 : Int32))) (pc := 45) hx hb dJ6_bitCount_0f7a4_45 rfl ?_
  refine lv_iadd (pc := 46) hx hb dJ6_bitCount_0f7a4_46 ?_
  refine lv_istore_n (pc := 47) (lv' := [(0, .int (((((((a0 - ((iushr a0 (1 : Int32)) &&& (1431655765 : Int32))) &&& (858993459 : Int32)) + ((iushr (a0 - ((iushr a0 (1 : Int32)) &&& (1431655765 : Int32))) (2 : Int32)) &&& (858993459 : Int32))) + (iushr (((a0 - ((iushr a0 (1 : Int32)) &&& (1431655765 : Int32))) &&& (858993459 : Int32)) + ((iushr (a0 - ((iushr a0 (1 : Int32)) &&& (1431655765 : Int32))) (2 : Int32)) &&& (858993459 : Int32))) (4 : Int32))) &&& (252645135 : Int32)) + (iushr (((((a0 - ((iushr a0 (1 : Int32)) &&& (1431655765 : Int32))) &&& (858993459 : Int32)) + ((iushr (a0 - ((iushr a0 (1 : Int32)) &&& (1431655765 : Int32))) (2 : Int32)) &&& (858993459 : Int32))) + (iushr (((a0 - ((iushr a0 (1 : Int32)) &&& (1431655765 : Int32))) &&& (858993459 : Int32)) + ((iushr (a0 - ((iushr a0 (1 : Int32)) &&& (1431655765 : Int32))) (2 : Int32)) &&& (858993459 : Int32))) (4 : Int32))) &&& (252645135 : Int32)) (8 : Int32))) + (iushr ((((((a0 - ((iushr a0 (1 : Int32)) &&& (1431655765 : Int32))) &&& (858993459 : Int32)) + ((iushr (a0 - ((iushr a0 (1 : Int32)) &&& (1431655765 : Int32))) (2 : Int32)) &&& (858993459 : Int32))) + (iushr (((a0 - ((iushr a0 (1 : Int32)) &&& (1431655765 : Int32))) &&& (858993459 : Int32)) + ((iushr (a0 - ((iushr a0 (1 : Int32)) &&& (1431655765 : Int32))) (2 : Int32)) &&& (858993459 : Int32))) (4 : Int32))) &&& (252645135 : Int32)) + (iushr (((((a0 - ((iushr a0 (1 : Int32)) &&& (1431655765 : Int32))) &&& (858993459 : Int32)) + ((iushr (a0 - ((iushr a0 (1 : Int32)) &&& (1431655765 : Int32))) (2 : Int32)) &&& (858993459 : Int32))) + (iushr (((a0 - ((iushr a0 (1 : Int32)) &&& (1431655765 : Int32))) &&& (858993459 : Int32)) + ((iushr (a0 - ((iushr a0 (1 : Int32)) &&& (1431655765 : Int32))) (2 : Int32)) &&& (858993459 : Int32))) (4 : Int32))) &&& (252645135 : Int32)) (8 : Int32))) (16 : Int32))))]) hx hb dJ6_bitCount_0f7a4_47 rfl hl (by decide) rfl (fun ls hl => ?_)
  refine lv_iload_n (pc := 48) hx hb dJ6_bitCount_0f7a4_48 rfl (lv_at hl 0 rfl) ?_
  refine lv_bipush (v := (63 : Int32)) (pc := 49) hx hb dJ6_bitCount_0f7a4_49 (by decide) ?_
  refine lv_iand (pc := 51) hx hb dJ6_bitCount_0f7a4_51 ?_
  subst h
  exact W.iret hx hb hr (fun t ht hW => ⟨rfl, ht⟩) (fun q hq => absurd hq List.not_mem_nil) dJ6_bitCount_0f7a4_52 hlk
set_option maxHeartbeats 4000000 in
set_option maxRecDepth 100000 in
theorem c_Plan_xOf (l : Launch) (K : KT) (ad : Nat → Nat) (pxs : Nat → Int32) (pys : Nat → Int32) (plo : Nat → Int32) (phi : Nat → Int32) (pn : Int32) (pm : Int32) (a0 : Int32) : Rd l K 1 yX3_xOf cX3_xOf 2 .int [.ref (ad 0), .int a0] (wPlan K ad pxs pys plo phi pn pm) (s_Plan_xOf pxs a0) := by
  generalize h : s_Plan_xOf pxs a0 = o
  refine Rd.of (by decide +kernel) (Nat.le_of_ble_eq_true rfl) ?_
  unfold s_Plan_xOf at h
  intro p e s m below meth c hx hb hr hml hown hts hlk hP hG ls hl
  have C0 : Ctx p m c cX3_xOf 2 s (Array.mk [.ref (ad 0), .int a0]) RX3 K meth (some .int) := ⟨hx, hb, hml, hown, hts, hG, hr, hlk⟩
  have hl : lv_has ls 2 [(0, .ref (ad 0)), (1, .int a0)] := hl
  refine lv_aload_n (pc := 0) hx hb dX3_xOf_0 rfl (lv_at hl 0 rfl) ?_
  refine va_get (D := K.1) (ci := 3) (v := .ref (ad 1)) (C := RX3) (T := TX3) (N := 6) (pc := 1) hx hb hts inT3 hown hG.1 hP 0 rfl rfl 0 (by decide) (hts _ qf_Plan_14) (fun _ h9 => h9) rfl dX3_xOf_1 ?_
  refine lv_iload_n (pc := 4) hx hb dX3_xOf_4 rfl (lv_at hl 1 rfl) ?_
  refine rdV (pc := 5) (As := [.int a0]) (rest := []) hx hb hml hown hts hG hP (c_Row_get l K (fun k => ad (k + 1)) 16 (by decide) pxs a0) [1, 2] rfl (q0 := 1) rfl (ci := 4) rfl g_Plan_40 hd_Row_get rfl ⟨Nat.le_of_ble_eq_true rfl, Nat.le_of_ble_eq_true rfl⟩ ⟨Nat.zero_le _, Nat.zero_le _⟩ hl rfl (Nat.le_of_ble_eq_true rfl) dX3_xOf_5 ?_
  subst h
  exact W.iret hx hb hr (fun t ht hW => ⟨rfl, ht⟩) (fun q hq => absurd hq List.not_mem_nil) dX3_xOf_8 hlk
set_option maxHeartbeats 4000000 in
set_option maxRecDepth 100000 in
theorem c_Plan_yOf (l : Launch) (K : KT) (ad : Nat → Nat) (pxs : Nat → Int32) (pys : Nat → Int32) (plo : Nat → Int32) (phi : Nat → Int32) (pn : Int32) (pm : Int32) (a0 : Int32) : Rd l K 1 yX3_yOf cX3_yOf 2 .int [.ref (ad 0), .int a0] (wPlan K ad pxs pys plo phi pn pm) (s_Plan_yOf pys a0) := by
  generalize h : s_Plan_yOf pys a0 = o
  refine Rd.of (by decide +kernel) (Nat.le_of_ble_eq_true rfl) ?_
  unfold s_Plan_yOf at h
  intro p e s m below meth c hx hb hr hml hown hts hlk hP hG ls hl
  have C0 : Ctx p m c cX3_yOf 2 s (Array.mk [.ref (ad 0), .int a0]) RX3 K meth (some .int) := ⟨hx, hb, hml, hown, hts, hG, hr, hlk⟩
  have hl : lv_has ls 2 [(0, .ref (ad 0)), (1, .int a0)] := hl
  refine lv_aload_n (pc := 0) hx hb dX3_yOf_0 rfl (lv_at hl 0 rfl) ?_
  refine va_get (D := K.1) (ci := 3) (v := .ref (ad 3)) (C := RX3) (T := TX3) (N := 6) (pc := 1) hx hb hts inT3 hown hG.1 hP 0 rfl rfl 1 (by decide) (hts _ qf_Plan_20) (fun _ h9 => h9) rfl dX3_yOf_1 ?_
  refine lv_iload_n (pc := 4) hx hb dX3_yOf_4 rfl (lv_at hl 1 rfl) ?_
  refine rdV (pc := 5) (As := [.int a0]) (rest := []) hx hb hml hown hts hG hP (c_Row_get l K (fun k => ad (k + 3)) 16 (by decide) pys a0) [3, 4] rfl (q0 := 3) rfl (ci := 4) rfl g_Plan_40 hd_Row_get rfl ⟨Nat.le_of_ble_eq_true rfl, Nat.le_of_ble_eq_true rfl⟩ ⟨Nat.zero_le _, Nat.zero_le _⟩ hl rfl (Nat.le_of_ble_eq_true rfl) dX3_yOf_5 ?_
  subst h
  exact W.iret hx hb hr (fun t ht hW => ⟨rfl, ht⟩) (fun q hq => absurd hq List.not_mem_nil) dX3_yOf_8 hlk
set_option maxHeartbeats 4000000 in
set_option maxRecDepth 100000 in
theorem l_Row_copyFrom_L2 {p : Program} {l : Launch} {e : Env} {s : State} {m : MethodId} {args : Array Value} {below : List Frame} {meth : Method} {c : Code} {Q : State → Prop} {K : KT} {A : Nat → Prop} (C0 : Ctx p m c cX4_copyFrom 3 s args RX4 K meth none) (F : Nat) (ad : Nat → Nat) (bd : Nat → Nat) (rn : Nat) (hrn : rn < 2147483648) (orf : Nat → Int32)  : ∀ (n : Nat) (x2 : Int32) (rf : Nat → Int32) (out : Int32 × (Nat → Int32)), s_Row_copyFrom_L2 rn orf n x2 rf = some out → ∀ (H : Heap) (locs : List Loc) (ls : Array Slot), va_P K.1 vC ((wRow K ad rn rf) ++ (wRow K bd rn orf)) H → va_D A ((wRow K ad rn rf) ++ (wRow K bd rn orf)) → va_S A s.heap H locs → lv_has ls 3 [(0, .ref (ad 0)), (1, .ref (bd 0)), (2, .int x2)] → (∀ (o : Int32 × (Nat → Int32)) (H : Heap) (locs : List Loc) (ls : Array Slot), out = o → va_P K.1 vC ((wRow K ad rn o.2) ++ (wRow K bd rn orf)) H → va_D A ((wRow K ad rn o.2) ++ (wRow K bd rn orf)) → va_S A s.heap H locs → lv_has ls 3 [(0, .ref (ad 0)), (1, .ref (bd 0)), (2, .int o.1)] → W p l e (rmL 1) s m args below meth c H locs 0 0 Q (F0 m 28 ls [])) → W p l e (rmL 1) s m args below meth c H locs 0 0 Q (F0 m 2 ls []) := by
  obtain ⟨hx, hb, hml, hown, hts, hG, hr, hlk⟩ := id C0
  intro n
  induction n with
  | zero =>
    intro x2 rf out h
    cases h
  | succ n ih =>
    intro x2 rf out h H locs ls hP hD hS hl Kx 
    rw [s_Row_copyFrom_L2.eq_2] at h
    refine lv_iload_n (pc := 2) hx hb dX4_copyFrom_2 rfl (lv_at hl 2 rfl) ?_
    refine lv_aload_n (pc := 3) hx hb dX4_copyFrom_3 rfl (lv_at hl 0 rfl) ?_
    refine va_get (D := K.1) (ci := 4) (v := .ref (ad 1)) (C := RX4) (T := TX4) (N := 1) (pc := 4) hx hb hts inT4 hown hG.1 hP 0 rfl rfl 0 (by decide) (hts _ qf_Row_13) (fun _ h9 => h9) rfl dX4_copyFrom_4 ?_
    refine va_alen (pc := 7) hx hb hG.1 hP 1 0 rfl rfl (v := (Int32.ofNat rn)) rfl dX4_copyFrom_7 ?_
    refine lv_icmp_ge (tgt := 28) (pc := 8) hx hb dX4_copyFrom_8 (by decide) (fun c1 => ?_) (fun c1 => ?_)
    · have h := it_t c1 h
      obtain rfl := Option.some.inj h
      exact Kx _ H locs ls rfl hP hD hS (lv_sub hl [0, 1, 2] rfl)
    · have h := it_f c1 h
      refine lv_aload_n (pc := 11) hx hb dX4_copyFrom_11 rfl (lv_at hl 0 rfl) ?_
      refine va_get (D := K.1) (ci := 4) (v := .ref (ad 1)) (C := RX4) (T := TX4) (N := 1) (pc := 12) hx hb hts inT4 hown hG.1 hP 0 rfl rfl 0 (by decide) (hts _ qf_Row_13) (fun _ h9 => h9) rfl dX4_copyFrom_12 ?_
      refine lv_iload_n (pc := 15) hx hb dX4_copyFrom_15 rfl (lv_at hl 2 rfl) ?_
      refine lv_aload_n (pc := 16) hx hb dX4_copyFrom_16 rfl (lv_at hl 1 rfl) ?_
      refine lv_iload_n (pc := 17) hx hb dX4_copyFrom_17 rfl (lv_at hl 2 rfl) ?_
      refine rdV (pc := 18) (As := [.int x2]) (rest := [.int x2, .ref (ad 1)]) hx hb hml hown hts hG hP (c_Row_get l K bd rn hrn orf x2) [2, 3] rfl (q0 := 2) rfl (ci := 4) rfl g_Row_19 hd_Row_get rfl ⟨Nat.le_of_ble_eq_true rfl, Nat.le_of_ble_eq_true rfl⟩ ⟨Nat.zero_le _, Nat.zero_le _⟩ hl rfl (Nat.le_of_ble_eq_true rfl) dX4_copyFrom_18 ?_
      obtain ⟨v2, h_v2, h⟩ := ob h
      obtain ⟨hi_v2, e_v2⟩ := aset_in h_v2
      refine va_iast (pc := 21) hx hb hG.1 hP hD hS 1 0 rfl rfl hi_v2 dX4_copyFrom_21 (fun H locs hP hD hS => ?_)
      rw [e_v2] at hP hD
      have hP : va_P K.1 vC ((wRow K ad rn v2) ++ (wRow K bd rn orf)) H := hP
      have hD : va_D _ ((wRow K ad rn v2) ++ (wRow K bd rn orf)) := hD
      refine lv_iinc (v := (x2 + (1 : Int32))) (pc := 22) (lv' := [(2, .int (x2 + (1 : Int32))), (0, .ref (ad 0)), (1, .ref (bd 0))]) hx hb dX4_copyFrom_22 hl (k := 2) rfl rfl (by decide) rfl (fun ls hl => ?_)
      refine lv_goto (tgt := 2) (pc := 25) hx hb dX4_copyFrom_25 (by decide) ?_
      exact ih (x2 + (1 : Int32)) v2 out h H locs ls hP hD hS (lv_sub hl [1, 2, 0] rfl) Kx 
set_option maxHeartbeats 4000000 in
set_option maxRecDepth 100000 in
theorem c_Row_copyFrom (l : Launch) (K : KT) (ad : Nat → Nat) (bd : Nat → Nat) (rn : Nat) (hrn : rn < 2147483648) (rf : Nat → Int32) (orf : Nat → Int32) (F : Nat) {o : (Nat → Int32)} (h : s_Row_copyFrom F rn rf orf = some o) : Wr l K 1 yX4_copyFrom cX4_copyFrom 3 none [.ref (ad 0), .ref (bd 0)] ((wRow K ad rn rf) ++ (wRow K bd rn orf)) none ((wRow K ad rn o) ++ (wRow K bd rn orf)) := by
  refine Wr.of (by decide +kernel) (Nat.le_of_ble_eq_true rfl) ?_
  unfold s_Row_copyFrom at h
  intro p e s m below meth c hx hb hr hml hown hts hlk H locs hP hG hD hS ls hl
  have C0 : Ctx p m c cX4_copyFrom 3 s (Array.mk [.ref (ad 0), .ref (bd 0)]) RX4 K meth none := ⟨hx, hb, hml, hown, hts, hG, hr, hlk⟩
  have hl : lv_has ls 3 [(0, .ref (ad 0)), (1, .ref (bd 0))] := hl
  refine lv_iconst (v := (0 : Int32)) (pc := 0) hx hb dX4_copyFrom_0 (by decide) ?_
  refine lv_istore_n (pc := 1) (lv' := [(2, .int (0 : Int32)), (0, .ref (ad 0)), (1, .ref (bd 0))]) hx hb dX4_copyFrom_1 rfl hl (by decide) rfl (fun ls hl => ?_)
  obtain ⟨o3, h_o3, h⟩ := ob h
  refine l_Row_copyFrom_L2 C0 F ad bd rn hrn orf F (0 : Int32) rf _ h_o3 H locs ls hP hD hS (lv_sub hl [1, 2, 0] rfl) (fun o3x H locs ls eo hP hD hS hl => ?_)
  subst o3
  obtain rfl := Option.some.inj h
  exact W.vret hx hb hr (fun t ht hW => ⟨⟨rfl, by rw [ht]; exact hP⟩, hS.F ht⟩) hS.2.2 dX4_copyFrom_28 hlk
set_option maxHeartbeats 4000000 in
set_option maxRecDepth 100000 in
theorem c_Plan_copyFrom (l : Launch) (K : KT) (ad : Nat → Nat) (bd : Nat → Nat) (pxs : Nat → Int32) (pys : Nat → Int32) (plo : Nat → Int32) (phi : Nat → Int32) (pn : Int32) (pm : Int32) (opxs : Nat → Int32) (opys : Nat → Int32) (oplo : Nat → Int32) (ophi : Nat → Int32) (opn : Int32) (opm : Int32) (F : Nat) {o : (Nat → Int32) × (Nat → Int32) × (Nat → Int32) × (Nat → Int32) × Int32 × Int32} (h : s_Plan_copyFrom F pxs pys plo phi opxs opys oplo ophi opn opm = some o) : Wr l K 2 yX3_copyFrom cX3_copyFrom 2 none [.ref (ad 0), .ref (bd 0)] ((wPlan K ad pxs pys plo phi pn pm) ++ (wPlan K bd opxs opys oplo ophi opn opm)) none ((wPlan K ad o.1 o.2.1 o.2.2.1 o.2.2.2.1 o.2.2.2.2.1 o.2.2.2.2.2) ++ (wPlan K bd opxs opys oplo ophi opn opm)) := by
  refine Wr.of (by decide +kernel) (Nat.le_of_ble_eq_true rfl) ?_
  unfold s_Plan_copyFrom at h
  intro p e s m below meth c hx hb hr hml hown hts hlk H locs hP hG hD hS ls hl
  have C0 : Ctx p m c cX3_copyFrom 2 s (Array.mk [.ref (ad 0), .ref (bd 0)]) RX3 K meth none := ⟨hx, hb, hml, hown, hts, hG, hr, hlk⟩
  have hl : lv_has ls 2 [(0, .ref (ad 0)), (1, .ref (bd 0))] := hl
  refine lv_aload_n (pc := 0) hx hb dX3_copyFrom_0 rfl (lv_at hl 0 rfl) ?_
  refine va_get (D := K.1) (ci := 3) (v := .ref (ad 1)) (C := RX3) (T := TX3) (N := 6) (pc := 1) hx hb hts inT3 hown hG.1 hP 0 rfl rfl 0 (by decide) (hts _ qf_Plan_14) (fun _ h9 => h9) rfl dX3_copyFrom_1 ?_
  refine lv_aload_n (pc := 4) hx hb dX3_copyFrom_4 rfl (lv_at hl 1 rfl) ?_
  refine va_get (D := K.1) (ci := 3) (v := .ref (bd 1)) (C := RX3) (T := TX3) (N := 6) (pc := 5) hx hb hts inT3 hown hG.1 hP 9 rfl rfl 0 (by decide) (hts _ qf_Plan_14) (fun _ h9 => h9) rfl dX3_copyFrom_5 ?_
  obtain ⟨v1, h_v1, h⟩ := ob h
  refine wrVv (pc := 8) (As := [.ref (bd 1)]) (rest := []) (ws2 := (wPlan K ad v1 pys plo phi pn pm) ++ (wPlan K bd opxs opys oplo ophi opn opm)) (as9 := [ad 1, ad 2, bd 1, bd 2]) hx hb hml hown hts hG hP hD hS (c_Row_copyFrom l K (fun k => ad (k + 1)) (fun k => bd (k + 1)) 16 (by decide) pxs opxs F h_v1) [1, 2, 10, 11] rfl rfl rfl rfl [.inr 0, .inl 0, .inl 1, .inr 3, .inr 4, .inr 5, .inr 6, .inr 7, .inr 8, .inr 9, .inl 2, .inl 3, .inr 12, .inr 13, .inr 14, .inr 15, .inr 16, .inr 17] (by decide +kernel) rfl (q0 := 1) rfl (ci := 4) rfl g_Plan_36 hd_Row_copyFrom rfl ⟨Nat.le_of_ble_eq_true rfl, Nat.le_of_ble_eq_true rfl⟩ ⟨Nat.zero_le _, Nat.zero_le _⟩ hl rfl (Nat.le_of_ble_eq_true rfl) dX3_copyFrom_8 (fun H locs hP hD hS => ?_)
  refine lv_aload_n (pc := 11) hx hb dX3_copyFrom_11 rfl (lv_at hl 0 rfl) ?_
  refine va_get (D := K.1) (ci := 3) (v := .ref (ad 3)) (C := RX3) (T := TX3) (N := 6) (pc := 12) hx hb hts inT3 hown hG.1 hP 0 rfl rfl 1 (by decide) (hts _ qf_Plan_20) (fun _ h9 => h9) rfl dX3_copyFrom_12 ?_
  refine lv_aload_n (pc := 15) hx hb dX3_copyFrom_15 rfl (lv_at hl 1 rfl) ?_
  refine va_get (D := K.1) (ci := 3) (v := .ref (bd 3)) (C := RX3) (T := TX3) (N := 6) (pc := 16) hx hb hts inT3 hown hG.1 hP 9 rfl rfl 1 (by decide) (hts _ qf_Plan_20) (fun _ h9 => h9) rfl dX3_copyFrom_16 ?_
  obtain ⟨v2, h_v2, h⟩ := ob h
  refine wrVv (pc := 19) (As := [.ref (bd 3)]) (rest := []) (ws2 := (wPlan K ad v1 v2 plo phi pn pm) ++ (wPlan K bd opxs opys oplo ophi opn opm)) (as9 := [ad 3, ad 4, bd 3, bd 4]) hx hb hml hown hts hG hP hD hS (c_Row_copyFrom l K (fun k => ad (k + 3)) (fun k => bd (k + 3)) 16 (by decide) pys opys F h_v2) [3, 4, 12, 13] rfl rfl rfl rfl [.inr 0, .inr 1, .inr 2, .inl 0, .inl 1, .inr 5, .inr 6, .inr 7, .inr 8, .inr 9, .inr 10, .inr 11, .inl 2, .inl 3, .inr 14, .inr 15, .inr 16, .inr 17] (by decide +kernel) rfl (q0 := 3) rfl (ci := 4) rfl g_Plan_36 hd_Row_copyFrom rfl ⟨Nat.le_of_ble_eq_true rfl, Nat.le_of_ble_eq_true rfl⟩ ⟨Nat.zero_le _, Nat.zero_le _⟩ hl rfl (Nat.le_of_ble_eq_true rfl) dX3_copyFrom_19 (fun H locs hP hD hS => ?_)
  refine lv_aload_n (pc := 22) hx hb dX3_copyFrom_22 rfl (lv_at hl 0 rfl) ?_
  refine va_get (D := K.1) (ci := 3) (v := .ref (ad 5)) (C := RX3) (T := TX3) (N := 6) (pc := 23) hx hb hts inT3 hown hG.1 hP 0 rfl rfl 2 (by decide) (hts _ qf_Plan_23) (fun _ h9 => h9) rfl dX3_copyFrom_23 ?_
  refine lv_aload_n (pc := 26) hx hb dX3_copyFrom_26 rfl (lv_at hl 1 rfl) ?_
  refine va_get (D := K.1) (ci := 3) (v := .ref (bd 5)) (C := RX3) (T := TX3) (N := 6) (pc := 27) hx hb hts inT3 hown hG.1 hP 9 rfl rfl 2 (by decide) (hts _ qf_Plan_23) (fun _ h9 => h9) rfl dX3_copyFrom_27 ?_
  obtain ⟨v3, h_v3, h⟩ := ob h
  refine wrVv (pc := 30) (As := [.ref (bd 5)]) (rest := []) (ws2 := (wPlan K ad v1 v2 v3 phi pn pm) ++ (wPlan K bd opxs opys oplo ophi opn opm)) (as9 := [ad 5, ad 6, bd 5, bd 6]) hx hb hml hown hts hG hP hD hS (c_Row_copyFrom l K (fun k => ad (k + 5)) (fun k => bd (k + 5)) 10 (by decide) plo oplo F h_v3) [5, 6, 14, 15] rfl rfl rfl rfl [.inr 0, .inr 1, .inr 2, .inr 3, .inr 4, .inl 0, .inl 1, .inr 7, .inr 8, .inr 9, .inr 10, .inr 11, .inr 12, .inr 13, .inl 2, .inl 3, .inr 16, .inr 17] (by decide +kernel) rfl (q0 := 5) rfl (ci := 4) rfl g_Plan_36 hd_Row_copyFrom rfl ⟨Nat.le_of_ble_eq_true rfl, Nat.le_of_ble_eq_true rfl⟩ ⟨Nat.zero_le _, Nat.zero_le _⟩ hl rfl (Nat.le_of_ble_eq_true rfl) dX3_copyFrom_30 (fun H locs hP hD hS => ?_)
  refine lv_aload_n (pc := 33) hx hb dX3_copyFrom_33 rfl (lv_at hl 0 rfl) ?_
  refine va_get (D := K.1) (ci := 3) (v := .ref (ad 7)) (C := RX3) (T := TX3) (N := 6) (pc := 34) hx hb hts inT3 hown hG.1 hP 0 rfl rfl 3 (by decide) (hts _ qf_Plan_26) (fun _ h9 => h9) rfl dX3_copyFrom_34 ?_
  refine lv_aload_n (pc := 37) hx hb dX3_copyFrom_37 rfl (lv_at hl 1 rfl) ?_
  refine va_get (D := K.1) (ci := 3) (v := .ref (bd 7)) (C := RX3) (T := TX3) (N := 6) (pc := 38) hx hb hts inT3 hown hG.1 hP 9 rfl rfl 3 (by decide) (hts _ qf_Plan_26) (fun _ h9 => h9) rfl dX3_copyFrom_38 ?_
  obtain ⟨v4, h_v4, h⟩ := ob h
  refine wrVv (pc := 41) (As := [.ref (bd 7)]) (rest := []) (ws2 := (wPlan K ad v1 v2 v3 v4 pn pm) ++ (wPlan K bd opxs opys oplo ophi opn opm)) (as9 := [ad 7, ad 8, bd 7, bd 8]) hx hb hml hown hts hG hP hD hS (c_Row_copyFrom l K (fun k => ad (k + 7)) (fun k => bd (k + 7)) 10 (by decide) phi ophi F h_v4) [7, 8, 16, 17] rfl rfl rfl rfl [.inr 0, .inr 1, .inr 2, .inr 3, .inr 4, .inr 5, .inr 6, .inl 0, .inl 1, .inr 9, .inr 10, .inr 11, .inr 12, .inr 13, .inr 14, .inr 15, .inl 2, .inl 3] (by decide +kernel) rfl (q0 := 7) rfl (ci := 4) rfl g_Plan_36 hd_Row_copyFrom rfl ⟨Nat.le_of_ble_eq_true rfl, Nat.le_of_ble_eq_true rfl⟩ ⟨Nat.zero_le _, Nat.zero_le _⟩ hl rfl (Nat.le_of_ble_eq_true rfl) dX3_copyFrom_41 (fun H locs hP hD hS => ?_)
  refine lv_aload_n (pc := 44) hx hb dX3_copyFrom_44 rfl (lv_at hl 0 rfl) ?_
  refine lv_aload_n (pc := 45) hx hb dX3_copyFrom_45 rfl (lv_at hl 1 rfl) ?_
  refine va_get (D := K.1) (ci := 3) (v := .int opn) (C := RX3) (T := TX3) (N := 6) (pc := 46) hx hb hts inT3 hown hG.1 hP 9 rfl rfl 4 (by decide) (hts _ qf_Plan_29) (fun _ h9 => h9) rfl dX3_copyFrom_46 ?_
  refine va_put (D := K.1) (ci := 3) (v := .int opn) (ty := .int) (C := RX3) (T := TX3) (N := 6) (pc := 49) hx hb hts inT3 tyX3 tyX3_ok nmX3 hown hG.1 hP hD hS 0 rfl rfl 4 (by decide) (hts _ qf_Plan_29) (fun _ h9 => h9) rfl (by decide +kernel) rfl rfl (Nat.le_of_ble_eq_true rfl) dX3_copyFrom_49 (fun H locs hP hD hS => ?_)
  have hP : va_P K.1 vC ((wPlan K ad v1 v2 v3 v4 opn pm) ++ (wPlan K bd opxs opys oplo ophi opn opm)) H := hP
  have hD : va_D _ ((wPlan K ad v1 v2 v3 v4 opn pm) ++ (wPlan K bd opxs opys oplo ophi opn opm)) := hD
  refine lv_aload_n (pc := 52) hx hb dX3_copyFrom_52 rfl (lv_at hl 0 rfl) ?_
  refine lv_aload_n (pc := 53) hx hb dX3_copyFrom_53 rfl (lv_at hl 1 rfl) ?_
  refine va_get (D := K.1) (ci := 3) (v := .int opm) (C := RX3) (T := TX3) (N := 6) (pc := 54) hx hb hts inT3 hown hG.1 hP 9 rfl rfl 5 (by decide) (hts _ qf_Plan_33) (fun _ h9 => h9) rfl dX3_copyFrom_54 ?_
  refine va_put (D := K.1) (ci := 3) (v := .int opm) (ty := .int) (C := RX3) (T := TX3) (N := 6) (pc := 57) hx hb hts inT3 tyX3 tyX3_ok nmX3 hown hG.1 hP hD hS 0 rfl rfl 5 (by decide) (hts _ qf_Plan_33) (fun _ h9 => h9) rfl (by decide +kernel) rfl rfl (Nat.le_of_ble_eq_true rfl) dX3_copyFrom_57 (fun H locs hP hD hS => ?_)
  have hP : va_P K.1 vC ((wPlan K ad v1 v2 v3 v4 opn opm) ++ (wPlan K bd opxs opys oplo ophi opn opm)) H := hP
  have hD : va_D _ ((wPlan K ad v1 v2 v3 v4 opn opm) ++ (wPlan K bd opxs opys oplo ophi opn opm)) := hD
  obtain rfl := Option.some.inj h
  exact W.vret hx hb hr (fun t ht hW => ⟨⟨rfl, by rw [ht]; exact hP⟩, hS.F ht⟩) hS.2.2 dX3_copyFrom_60 hlk
set_option maxHeartbeats 4000000 in
set_option maxRecDepth 100000 in
theorem c_Plan_hasPoint (l : Launch) (K : KT) (ad : Nat → Nat) (pxs : Nat → Int32) (pys : Nat → Int32) (plo : Nat → Int32) (phi : Nat → Int32) (pn : Int32) (pm : Int32) (a0 : Int32) : Rd l K 0 yX3_hasPoint cX3_hasPoint 2 .boolean [.ref (ad 0), .int a0] (wPlan K ad pxs pys plo phi pn pm) (bI (s_Plan_hasPoint pn a0)) := by
  generalize h : s_Plan_hasPoint pn a0 = o
  refine Rd.of (by decide +kernel) (Nat.le_of_ble_eq_true rfl) ?_
  unfold s_Plan_hasPoint at h
  intro p e s m below meth c hx hb hr hml hown hts hlk hP hG ls hl
  have C0 : Ctx p m c cX3_hasPoint 2 s (Array.mk [.ref (ad 0), .int a0]) RX3 K meth (some .boolean) := ⟨hx, hb, hml, hown, hts, hG, hr, hlk⟩
  have hl : lv_has ls 2 [(0, .ref (ad 0)), (1, .int a0)] := hl
  refine lv_iload_n (pc := 0) hx hb dX3_hasPoint_0 rfl (lv_at hl 1 rfl) ?_
  refine lv_if_lt (tgt := 16) (pc := 1) hx hb dX3_hasPoint_1 (by decide) (fun c1 => ?_) (fun c1 => ?_)
  · have h := it_t c1 h
    refine lv_iconst (v := (0 : Int32)) (pc := 16) hx hb dX3_hasPoint_16 (by decide) ?_
    subst h
    exact W.zret hx hb hr (rfl) (fun t ht hW => ⟨rfl, ht⟩) (fun q hq => absurd hq List.not_mem_nil) dX3_hasPoint_17 hlk
  · have h := it_f c1 h
    refine lv_iload_n (pc := 4) hx hb dX3_hasPoint_4 rfl (lv_at hl 1 rfl) ?_
    refine lv_aload_n (pc := 5) hx hb dX3_hasPoint_5 rfl (lv_at hl 0 rfl) ?_
    refine va_get (D := K.1) (ci := 3) (v := .int pn) (C := RX3) (T := TX3) (N := 6) (pc := 6) hx hb hts inT3 hown hG.1 hP 0 rfl rfl 4 (by decide) (hts _ qf_Plan_29) (fun _ h9 => h9) rfl dX3_hasPoint_6 ?_
    refine lv_icmp_ge (tgt := 16) (pc := 9) hx hb dX3_hasPoint_9 (by decide) (fun c2 => ?_) (fun c2 => ?_)
    · have h := it_t c2 h
      refine lv_iconst (v := (0 : Int32)) (pc := 16) hx hb dX3_hasPoint_16 (by decide) ?_
      subst h
      exact W.zret hx hb hr (rfl) (fun t ht hW => ⟨rfl, ht⟩) (fun q hq => absurd hq List.not_mem_nil) dX3_hasPoint_17 hlk
    · have h := it_f c2 h
      refine lv_iconst (v := (1 : Int32)) (pc := 12) hx hb dX3_hasPoint_12 (by decide) ?_
      refine lv_goto (tgt := 17) (pc := 13) hx hb dX3_hasPoint_13 (by decide) ?_
      subst h
      exact W.zret hx hb hr (rfl) (fun t ht hW => ⟨rfl, ht⟩) (fun q hq => absurd hq List.not_mem_nil) dX3_hasPoint_17 hlk
set_option maxHeartbeats 4000000 in
set_option maxRecDepth 100000 in
theorem l_Plan_pointAt_L2 {p : Program} {l : Launch} {e : Env} {s : State} {m : MethodId} {args : Array Value} {below : List Frame} {meth : Method} {c : Code} {Q : State → Prop} {K : KT} (C0 : Ctx p m c cX3_pointAt 4 s args RX3 K meth (some .int)) (F : Nat) (ad : Nat → Nat) (pxs : Nat → Int32) (pys : Nat → Int32) (plo : Nat → Int32) (phi : Nat → Int32) (pn : Int32) (pm : Int32) (x1 : Int32) (x2 : Int32) (hP : va_P K.1 vC (wPlan K ad pxs pys plo phi pn pm) s.heap) : ∀ (n : Nat) (x3 : Int32) (out : (Int32) ⊕ (Int32)), s_Plan_pointAt_L2 pxs pys pn x1 x2 n x3 = some out → ∀ (ls : Array Slot), lv_has ls 4 [(0, .ref (ad 0)), (1, .int x1), (2, .int x2), (3, .int x3)] → (∀ (o : Int32) (ls : Array Slot), out = .inr o → lv_has ls 4 [(0, .ref (ad 0)), (1, .int x1), (2, .int x2), (3, .int o)] → W p l e (rmL 1) s m args below meth c s.heap [] 0 0 Q (F0 m 42 ls [])) → (∀ (o : Int32) (pcR : Nat) (ls : Array Slot), out = .inl o → decode cX3_pointAt pcR = .ok (.ireturn, 1) → W p l e (rmL 1) s m args below meth c s.heap [] 0 0 Q (F0 m pcR ls [.int o])) → W p l e (rmL 1) s m args below meth c s.heap [] 0 0 Q (F0 m 2 ls []) := by
  obtain ⟨hx, hb, hml, hown, hts, hG, hr, hlk⟩ := id C0
  intro n
  induction n with
  | zero =>
    intro x3 out h
    cases h
  | succ n ih =>
    intro x3 out h ls hl Kx Kr
    rw [s_Plan_pointAt_L2.eq_2] at h
    refine lv_iload_n (pc := 2) hx hb dX3_pointAt_2 rfl (lv_at hl 3 rfl) ?_
    refine lv_aload_n (pc := 3) hx hb dX3_pointAt_3 rfl (lv_at hl 0 rfl) ?_
    refine va_get (D := K.1) (ci := 3) (v := .int pn) (C := RX3) (T := TX3) (N := 6) (pc := 4) hx hb hts inT3 hown hG.1 hP 0 rfl rfl 4 (by decide) (hts _ qf_Plan_29) (fun _ h9 => h9) rfl dX3_pointAt_4 ?_
    refine lv_icmp_ge (tgt := 42) (pc := 7) hx hb dX3_pointAt_7 (by decide) (fun c1 => ?_) (fun c1 => ?_)
    · have h := it_t c1 h
      obtain rfl := Option.some.inj h
      exact Kx _ ls rfl (lv_sub hl [0, 1, 2, 3] rfl)
    · have h := it_f c1 h
      refine lv_aload_n (pc := 10) hx hb dX3_pointAt_10 rfl (lv_at hl 0 rfl) ?_
      refine va_get (D := K.1) (ci := 3) (v := .ref (ad 1)) (C := RX3) (T := TX3) (N := 6) (pc := 11) hx hb hts inT3 hown hG.1 hP 0 rfl rfl 0 (by decide) (hts _ qf_Plan_14) (fun _ h9 => h9) rfl dX3_pointAt_11 ?_
      refine lv_iload_n (pc := 14) hx hb dX3_pointAt_14 rfl (lv_at hl 3 rfl) ?_
      refine rdV (pc := 15) (As := [.int x3]) (rest := []) hx hb hml hown hts hG hP (c_Row_get l K (fun k => ad (k + 1)) 16 (by decide) pxs x3) [1, 2] rfl (q0 := 1) rfl (ci := 4) rfl g_Plan_40 hd_Row_get rfl ⟨Nat.le_of_ble_eq_true rfl, Nat.le_of_ble_eq_true rfl⟩ ⟨Nat.zero_le _, Nat.zero_le _⟩ hl rfl (Nat.le_of_ble_eq_true rfl) dX3_pointAt_15 ?_
      refine lv_iload_n (pc := 18) hx hb dX3_pointAt_18 rfl (lv_at hl 1 rfl) ?_
      refine lv_icmp_ne (tgt := 36) (pc := 19) hx hb dX3_pointAt_19 (by decide) (fun c2 => ?_) (fun c2 => ?_)
      · have h := it_f c2 h
        refine lv_iinc (v := (x3 + (1 : Int32))) (pc := 36) (lv' := [(3, .int (x3 + (1 : Int32))), (0, .ref (ad 0)), (1, .int x1), (2, .int x2)]) hx hb dX3_pointAt_36 hl (k := 3) rfl rfl (by decide) rfl (fun ls hl => ?_)
        refine lv_goto (tgt := 2) (pc := 39) hx hb dX3_pointAt_39 (by decide) ?_
        exact ih (x3 + (1 : Int32)) out h ls (lv_sub hl [1, 2, 3, 0] rfl) Kx Kr
      · have h := it_t c2 h
        refine lv_aload_n (pc := 22) hx hb dX3_pointAt_22 rfl (lv_at hl 0 rfl) ?_
        refine va_get (D := K.1) (ci := 3) (v := .ref (ad 3)) (C := RX3) (T := TX3) (N := 6) (pc := 23) hx hb hts inT3 hown hG.1 hP 0 rfl rfl 1 (by decide) (hts _ qf_Plan_20) (fun _ h9 => h9) rfl dX3_pointAt_23 ?_
        refine lv_iload_n (pc := 26) hx hb dX3_pointAt_26 rfl (lv_at hl 3 rfl) ?_
        refine rdV (pc := 27) (As := [.int x3]) (rest := []) hx hb hml hown hts hG hP (c_Row_get l K (fun k => ad (k + 3)) 16 (by decide) pys x3) [3, 4] rfl (q0 := 3) rfl (ci := 4) rfl g_Plan_40 hd_Row_get rfl ⟨Nat.le_of_ble_eq_true rfl, Nat.le_of_ble_eq_true rfl⟩ ⟨Nat.zero_le _, Nat.zero_le _⟩ hl rfl (Nat.le_of_ble_eq_true rfl) dX3_pointAt_27 ?_
        refine lv_iload_n (pc := 30) hx hb dX3_pointAt_30 rfl (lv_at hl 2 rfl) ?_
        refine lv_icmp_ne (tgt := 36) (pc := 31) hx hb dX3_pointAt_31 (by decide) (fun c3 => ?_) (fun c3 => ?_)
        · have h := it_f c3 h
          refine lv_iinc (v := (x3 + (1 : Int32))) (pc := 36) (lv' := [(3, .int (x3 + (1 : Int32))), (0, .ref (ad 0)), (1, .int x1), (2, .int x2)]) hx hb dX3_pointAt_36 hl (k := 3) rfl rfl (by decide) rfl (fun ls hl => ?_)
          refine lv_goto (tgt := 2) (pc := 39) hx hb dX3_pointAt_39 (by decide) ?_
          exact ih (x3 + (1 : Int32)) out h ls (lv_sub hl [1, 2, 3, 0] rfl) Kx Kr
        · have h := it_t c3 h
          refine lv_iload_n (pc := 34) hx hb dX3_pointAt_34 rfl (lv_at hl 3 rfl) ?_
          obtain rfl := Option.some.inj h
          exact Kr _ _ _ rfl dX3_pointAt_35
set_option maxHeartbeats 4000000 in
set_option maxRecDepth 100000 in
theorem c_Plan_pointAt (l : Launch) (K : KT) (ad : Nat → Nat) (pxs : Nat → Int32) (pys : Nat → Int32) (plo : Nat → Int32) (phi : Nat → Int32) (pn : Int32) (pm : Int32) (a0 : Int32) (a1 : Int32) (F : Nat) {o : Int32} (h : s_Plan_pointAt F pxs pys pn a0 a1 = some o) : Rd l K 1 yX3_pointAt cX3_pointAt 4 .int [.ref (ad 0), .int a0, .int a1] (wPlan K ad pxs pys plo phi pn pm) o := by
  refine Rd.of (by decide +kernel) (Nat.le_of_ble_eq_true rfl) ?_
  unfold s_Plan_pointAt at h
  intro p e s m below meth c hx hb hr hml hown hts hlk hP hG ls hl
  have C0 : Ctx p m c cX3_pointAt 4 s (Array.mk [.ref (ad 0), .int a0, .int a1]) RX3 K meth (some .int) := ⟨hx, hb, hml, hown, hts, hG, hr, hlk⟩
  have hl : lv_has ls 4 [(0, .ref (ad 0)), (1, .int a0), (2, .int a1)] := hl
  refine lv_iconst (v := (0 : Int32)) (pc := 0) hx hb dX3_pointAt_0 (by decide) ?_
  refine lv_istore_n (pc := 1) (lv' := [(3, .int (0 : Int32)), (0, .ref (ad 0)), (1, .int a0), (2, .int a1)]) hx hb dX3_pointAt_1 rfl hl (by decide) rfl (fun ls hl => ?_)
  obtain ⟨o4, h_o4, h⟩ := ob h
  refine l_Plan_pointAt_L2 C0 F ad pxs pys plo phi pn pm a0 a1 hP F (0 : Int32) _ h_o4 ls (lv_sub hl [1, 2, 3, 0] rfl) (fun o4x ls eo hl => ?_) (fun q_o pcR ls eo hdR => ?_)
  · subst o4
    have h := se_r h
    refine lv_iconst (v := (-1 : Int32)) (pc := 42) hx hb dX3_pointAt_42 (by decide) ?_
    obtain rfl := Option.some.inj h
    exact W.iret hx hb hr (fun t ht hW => ⟨rfl, ht⟩) (fun q hq => absurd hq List.not_mem_nil) dX3_pointAt_43 hlk
  · subst o4
    have h := se_l h
    obtain rfl := Option.some.inj h
    exact W.iret hx hb hr (fun t ht hW => ⟨rfl, ht⟩) (fun q hq => absurd hq List.not_mem_nil) hdR hlk
set_option maxHeartbeats 4000000 in
set_option maxRecDepth 100000 in
theorem l_Plan_endsConstraint_L2 {p : Program} {l : Launch} {e : Env} {s : State} {m : MethodId} {args : Array Value} {below : List Frame} {meth : Method} {c : Code} {Q : State → Prop} {K : KT} (C0 : Ctx p m c cX3_endsConstraint 3 s args RX3 K meth (some .boolean)) (F : Nat) (ad : Nat → Nat) (pxs : Nat → Int32) (pys : Nat → Int32) (plo : Nat → Int32) (phi : Nat → Int32) (pn : Int32) (pm : Int32) (x1 : Int32) (hP : va_P K.1 vC (wPlan K ad pxs pys plo phi pn pm) s.heap) : ∀ (n : Nat) (x2 : Int32) (out : (Bool) ⊕ (Int32)), s_Plan_endsConstraint_L2 plo phi pm x1 n x2 = some out → ∀ (ls : Array Slot), lv_has ls 3 [(0, .ref (ad 0)), (1, .int x1), (2, .int x2)] → (∀ (o : Int32) (ls : Array Slot), out = .inr o → lv_has ls 3 [(0, .ref (ad 0)), (1, .int x1), (2, .int o)] → W p l e (rmL 1) s m args below meth c s.heap [] 0 0 Q (F0 m 42 ls [])) → (∀ (o : Bool) (pcR : Nat) (ls : Array Slot), out = .inl o → decode cX3_endsConstraint pcR = .ok (.ireturn, 1) → W p l e (rmL 1) s m args below meth c s.heap [] 0 0 Q (F0 m pcR ls [.int (bI o)])) → W p l e (rmL 1) s m args below meth c s.heap [] 0 0 Q (F0 m 2 ls []) := by
  obtain ⟨hx, hb, hml, hown, hts, hG, hr, hlk⟩ := id C0
  intro n
  induction n with
  | zero =>
    intro x2 out h
    cases h
  | succ n ih =>
    intro x2 out h ls hl Kx Kr
    rw [s_Plan_endsConstraint_L2.eq_2] at h
    refine lv_iload_n (pc := 2) hx hb dX3_endsConstraint_2 rfl (lv_at hl 2 rfl) ?_
    refine lv_aload_n (pc := 3) hx hb dX3_endsConstraint_3 rfl (lv_at hl 0 rfl) ?_
    refine va_get (D := K.1) (ci := 3) (v := .int pm) (C := RX3) (T := TX3) (N := 6) (pc := 4) hx hb hts inT3 hown hG.1 hP 0 rfl rfl 5 (by decide) (hts _ qf_Plan_33) (fun _ h9 => h9) rfl dX3_endsConstraint_4 ?_
    refine lv_icmp_ge (tgt := 42) (pc := 7) hx hb dX3_endsConstraint_7 (by decide) (fun c1 => ?_) (fun c1 => ?_)
    · have h := it_t c1 h
      obtain rfl := Option.some.inj h
      exact Kx _ ls rfl (lv_sub hl [0, 1, 2] rfl)
    · have h := it_f c1 h
      refine lv_aload_n (pc := 10) hx hb dX3_endsConstraint_10 rfl (lv_at hl 0 rfl) ?_
      refine va_get (D := K.1) (ci := 3) (v := .ref (ad 5)) (C := RX3) (T := TX3) (N := 6) (pc := 11) hx hb hts inT3 hown hG.1 hP 0 rfl rfl 2 (by decide) (hts _ qf_Plan_23) (fun _ h9 => h9) rfl dX3_endsConstraint_11 ?_
      refine lv_iload_n (pc := 14) hx hb dX3_endsConstraint_14 rfl (lv_at hl 2 rfl) ?_
      refine rdV (pc := 15) (As := [.int x2]) (rest := []) hx hb hml hown hts hG hP (c_Row_get l K (fun k => ad (k + 5)) 10 (by decide) plo x2) [5, 6] rfl (q0 := 5) rfl (ci := 4) rfl g_Plan_40 hd_Row_get rfl ⟨Nat.le_of_ble_eq_true rfl, Nat.le_of_ble_eq_true rfl⟩ ⟨Nat.zero_le _, Nat.zero_le _⟩ hl rfl (Nat.le_of_ble_eq_true rfl) dX3_endsConstraint_15 ?_
      refine lv_iload_n (pc := 18) hx hb dX3_endsConstraint_18 rfl (lv_at hl 1 rfl) ?_
      refine lv_icmp_eq (tgt := 34) (pc := 19) hx hb dX3_endsConstraint_19 (by decide) (fun c2 => ?_) (fun c2 => ?_)
      · have h := it_t c2 h
        refine lv_iconst (v := (1 : Int32)) (pc := 34) hx hb dX3_endsConstraint_34 (by decide) ?_
        obtain rfl := Option.some.inj h
        exact Kr _ _ _ rfl dX3_endsConstraint_35
      · have h := it_f c2 h
        refine lv_aload_n (pc := 22) hx hb dX3_endsConstraint_22 rfl (lv_at hl 0 rfl) ?_
        refine va_get (D := K.1) (ci := 3) (v := .ref (ad 7)) (C := RX3) (T := TX3) (N := 6) (pc := 23) hx hb hts inT3 hown hG.1 hP 0 rfl rfl 3 (by decide) (hts _ qf_Plan_26) (fun _ h9 => h9) rfl dX3_endsConstraint_23 ?_
        refine lv_iload_n (pc := 26) hx hb dX3_endsConstraint_26 rfl (lv_at hl 2 rfl) ?_
        refine rdV (pc := 27) (As := [.int x2]) (rest := []) hx hb hml hown hts hG hP (c_Row_get l K (fun k => ad (k + 7)) 10 (by decide) phi x2) [7, 8] rfl (q0 := 7) rfl (ci := 4) rfl g_Plan_40 hd_Row_get rfl ⟨Nat.le_of_ble_eq_true rfl, Nat.le_of_ble_eq_true rfl⟩ ⟨Nat.zero_le _, Nat.zero_le _⟩ hl rfl (Nat.le_of_ble_eq_true rfl) dX3_endsConstraint_27 ?_
        refine lv_iload_n (pc := 30) hx hb dX3_endsConstraint_30 rfl (lv_at hl 1 rfl) ?_
        refine lv_icmp_ne (tgt := 36) (pc := 31) hx hb dX3_endsConstraint_31 (by decide) (fun c3 => ?_) (fun c3 => ?_)
        · have h := it_f c3 h
          refine lv_iinc (v := (x2 + (1 : Int32))) (pc := 36) (lv' := [(2, .int (x2 + (1 : Int32))), (0, .ref (ad 0)), (1, .int x1)]) hx hb dX3_endsConstraint_36 hl (k := 2) rfl rfl (by decide) rfl (fun ls hl => ?_)
          refine lv_goto (tgt := 2) (pc := 39) hx hb dX3_endsConstraint_39 (by decide) ?_
          exact ih (x2 + (1 : Int32)) out h ls (lv_sub hl [1, 2, 0] rfl) Kx Kr
        · have h := it_t c3 h
          refine lv_iconst (v := (1 : Int32)) (pc := 34) hx hb dX3_endsConstraint_34 (by decide) ?_
          obtain rfl := Option.some.inj h
          exact Kr _ _ _ rfl dX3_endsConstraint_35
set_option maxHeartbeats 4000000 in
set_option maxRecDepth 100000 in
theorem c_Plan_endsConstraint (l : Launch) (K : KT) (ad : Nat → Nat) (pxs : Nat → Int32) (pys : Nat → Int32) (plo : Nat → Int32) (phi : Nat → Int32) (pn : Int32) (pm : Int32) (a0 : Int32) (F : Nat) {o : Bool} (h : s_Plan_endsConstraint F plo phi pm a0 = some o) : Rd l K 1 yX3_endsConstraint cX3_endsConstraint 3 .boolean [.ref (ad 0), .int a0] (wPlan K ad pxs pys plo phi pn pm) (bI o) := by
  refine Rd.of (by decide +kernel) (Nat.le_of_ble_eq_true rfl) ?_
  unfold s_Plan_endsConstraint at h
  intro p e s m below meth c hx hb hr hml hown hts hlk hP hG ls hl
  have C0 : Ctx p m c cX3_endsConstraint 3 s (Array.mk [.ref (ad 0), .int a0]) RX3 K meth (some .boolean) := ⟨hx, hb, hml, hown, hts, hG, hr, hlk⟩
  have hl : lv_has ls 3 [(0, .ref (ad 0)), (1, .int a0)] := hl
  refine lv_iconst (v := (0 : Int32)) (pc := 0) hx hb dX3_endsConstraint_0 (by decide) ?_
  refine lv_istore_n (pc := 1) (lv' := [(2, .int (0 : Int32)), (0, .ref (ad 0)), (1, .int a0)]) hx hb dX3_endsConstraint_1 rfl hl (by decide) rfl (fun ls hl => ?_)
  obtain ⟨o4, h_o4, h⟩ := ob h
  refine l_Plan_endsConstraint_L2 C0 F ad pxs pys plo phi pn pm a0 hP F (0 : Int32) _ h_o4 ls (lv_sub hl [1, 2, 0] rfl) (fun o4x ls eo hl => ?_) (fun q_o pcR ls eo hdR => ?_)
  · subst o4
    have h := se_r h
    refine lv_iconst (v := (0 : Int32)) (pc := 42) hx hb dX3_endsConstraint_42 (by decide) ?_
    obtain rfl := Option.some.inj h
    exact W.zret hx hb hr (rfl) (fun t ht hW => ⟨rfl, ht⟩) (fun q hq => absurd hq List.not_mem_nil) dX3_endsConstraint_43 hlk
  · subst o4
    have h := se_l h
    obtain rfl := Option.some.inj h
    exact W.zret hx hb hr (bI_nar _) (fun t ht hW => ⟨rfl, ht⟩) (fun q hq => absurd hq List.not_mem_nil) hdR hlk
set_option maxHeartbeats 4000000 in
set_option maxRecDepth 100000 in
theorem l_Plan_constraintCovers_L2 {p : Program} {l : Launch} {e : Env} {s : State} {m : MethodId} {args : Array Value} {below : List Frame} {meth : Method} {c : Code} {Q : State → Prop} {K : KT} (C0 : Ctx p m c cX3_constraintCovers 4 s args RX3 K meth (some .boolean)) (F : Nat) (ad : Nat → Nat) (pxs : Nat → Int32) (pys : Nat → Int32) (plo : Nat → Int32) (phi : Nat → Int32) (pn : Int32) (pm : Int32) (x1 : Int32) (x2 : Int32) (hP : va_P K.1 vC (wPlan K ad pxs pys plo phi pn pm) s.heap) : ∀ (n : Nat) (x3 : Int32) (out : (Bool) ⊕ (Int32)), s_Plan_constraintCovers_L2 pxs pys plo phi pm x1 x2 n x3 = some out → ∀ (ls : Array Slot), lv_has ls 4 [(0, .ref (ad 0)), (1, .int x1), (2, .int x2), (3, .int x3)] → (∀ (o : Int32) (ls : Array Slot), out = .inr o → lv_has ls 4 [(0, .ref (ad 0)), (1, .int x1), (2, .int x2), (3, .int o)] → W p l e (rmL 3) s m args below meth c s.heap [] 0 0 Q (F0 m 43 ls [])) → (∀ (o : Bool) (pcR : Nat) (ls : Array Slot), out = .inl o → decode cX3_constraintCovers pcR = .ok (.ireturn, 1) → W p l e (rmL 3) s m args below meth c s.heap [] 0 0 Q (F0 m pcR ls [.int (bI o)])) → W p l e (rmL 3) s m args below meth c s.heap [] 0 0 Q (F0 m 2 ls []) := by
  obtain ⟨hx, hb, hml, hown, hts, hG, hr, hlk⟩ := id C0
  intro n
  induction n with
  | zero =>
    intro x3 out h
    cases h
  | succ n ih =>
    intro x3 out h ls hl Kx Kr
    rw [s_Plan_constraintCovers_L2.eq_2] at h
    refine lv_iload_n (pc := 2) hx hb dX3_constraintCovers_2 rfl (lv_at hl 3 rfl) ?_
    refine lv_aload_n (pc := 3) hx hb dX3_constraintCovers_3 rfl (lv_at hl 0 rfl) ?_
    refine va_get (D := K.1) (ci := 3) (v := .int pm) (C := RX3) (T := TX3) (N := 6) (pc := 4) hx hb hts inT3 hown hG.1 hP 0 rfl rfl 5 (by decide) (hts _ qf_Plan_33) (fun _ h9 => h9) rfl dX3_constraintCovers_4 ?_
    refine lv_icmp_ge (tgt := 43) (pc := 7) hx hb dX3_constraintCovers_7 (by decide) (fun c1 => ?_) (fun c1 => ?_)
    · have h := it_t c1 h
      obtain rfl := Option.some.inj h
      exact Kx _ ls rfl (lv_sub hl [0, 1, 2, 3] rfl)
    · have h := it_f c1 h
      refine lv_aload_n (pc := 10) hx hb dX3_constraintCovers_10 rfl (lv_at hl 0 rfl) ?_
      refine lv_aload_n (pc := 11) hx hb dX3_constraintCovers_11 rfl (lv_at hl 0 rfl) ?_
      refine va_get (D := K.1) (ci := 3) (v := .ref (ad 5)) (C := RX3) (T := TX3) (N := 6) (pc := 12) hx hb hts inT3 hown hG.1 hP 0 rfl rfl 2 (by decide) (hts _ qf_Plan_23) (fun _ h9 => h9) rfl dX3_constraintCovers_12 ?_
      refine lv_iload_n (pc := 15) hx hb dX3_constraintCovers_15 rfl (lv_at hl 3 rfl) ?_
      refine rdV (pc := 16) (As := [.int x3]) (rest := [.ref (ad 0)]) hx hb hml hown hts hG hP (c_Row_get l K (fun k => ad (k + 5)) 10 (by decide) plo x3) [5, 6] rfl (q0 := 5) rfl (ci := 4) rfl g_Plan_40 hd_Row_get rfl ⟨Nat.le_of_ble_eq_true rfl, Nat.le_of_ble_eq_true rfl⟩ ⟨Nat.zero_le _, Nat.zero_le _⟩ hl rfl (Nat.le_of_ble_eq_true rfl) dX3_constraintCovers_16 ?_
      refine lv_aload_n (pc := 19) hx hb dX3_constraintCovers_19 rfl (lv_at hl 0 rfl) ?_
      refine va_get (D := K.1) (ci := 3) (v := .ref (ad 7)) (C := RX3) (T := TX3) (N := 6) (pc := 20) hx hb hts inT3 hown hG.1 hP 0 rfl rfl 3 (by decide) (hts _ qf_Plan_26) (fun _ h9 => h9) rfl dX3_constraintCovers_20 ?_
      refine lv_iload_n (pc := 23) hx hb dX3_constraintCovers_23 rfl (lv_at hl 3 rfl) ?_
      refine rdV (pc := 24) (As := [.int x3]) (rest := [.int (s_Row_get 10 plo x3), .ref (ad 0)]) hx hb hml hown hts hG hP (c_Row_get l K (fun k => ad (k + 7)) 10 (by decide) phi x3) [7, 8] rfl (q0 := 7) rfl (ci := 4) rfl g_Plan_40 hd_Row_get rfl ⟨Nat.le_of_ble_eq_true rfl, Nat.le_of_ble_eq_true rfl⟩ ⟨Nat.zero_le _, Nat.zero_le _⟩ hl rfl (Nat.le_of_ble_eq_true rfl) dX3_constraintCovers_24 ?_
      refine lv_iload_n (pc := 27) hx hb dX3_constraintCovers_27 rfl (lv_at hl 1 rfl) ?_
      refine lv_iload_n (pc := 28) hx hb dX3_constraintCovers_28 rfl (lv_at hl 2 rfl) ?_
      refine rdV (pc := 29) (As := [.int (s_Row_get 10 plo x3), .int (s_Row_get 10 phi x3), .int x1, .int x2]) (rest := []) hx hb hml hown hts hG hP (c_Plan_covers l K ad pxs pys plo phi pn pm (s_Row_get 10 plo x3) (s_Row_get 10 phi x3) x1 x2) [0, 1, 2, 3, 4, 5, 6, 7, 8] rfl (q0 := 0) rfl (ci := 3) rfl g_Plan_53 hd_Plan_covers rfl ⟨Nat.le_of_ble_eq_true rfl, Nat.le_of_ble_eq_true rfl⟩ ⟨Nat.zero_le _, Nat.zero_le _⟩ hl rfl (Nat.le_of_ble_eq_true rfl) dX3_constraintCovers_29 ?_
      refine lv_if_eq (tgt := 37) (pc := 32) hx hb dX3_constraintCovers_32 (by decide) (fun c2 => ?_) (fun c2 => ?_)
      · have h := it_t c2 h
        refine lv_iinc (v := (x3 + (1 : Int32))) (pc := 37) (lv' := [(3, .int (x3 + (1 : Int32))), (0, .ref (ad 0)), (1, .int x1), (2, .int x2)]) hx hb dX3_constraintCovers_37 hl (k := 3) rfl rfl (by decide) rfl (fun ls hl => ?_)
        refine lv_goto (tgt := 2) (pc := 40) hx hb dX3_constraintCovers_40 (by decide) ?_
        exact ih (x3 + (1 : Int32)) out h ls (lv_sub hl [1, 2, 3, 0] rfl) Kx Kr
      · have h := it_f c2 h
        refine lv_iconst (v := (1 : Int32)) (pc := 35) hx hb dX3_constraintCovers_35 (by decide) ?_
        obtain rfl := Option.some.inj h
        exact Kr _ _ _ rfl dX3_constraintCovers_36
set_option maxHeartbeats 4000000 in
set_option maxRecDepth 100000 in
theorem c_Plan_constraintCovers (l : Launch) (K : KT) (ad : Nat → Nat) (pxs : Nat → Int32) (pys : Nat → Int32) (plo : Nat → Int32) (phi : Nat → Int32) (pn : Int32) (pm : Int32) (a0 : Int32) (a1 : Int32) (F : Nat) {o : Bool} (h : s_Plan_constraintCovers F pxs pys plo phi pm a0 a1 = some o) : Rd l K 3 yX3_constraintCovers cX3_constraintCovers 4 .boolean [.ref (ad 0), .int a0, .int a1] (wPlan K ad pxs pys plo phi pn pm) (bI o) := by
  refine Rd.of (by decide +kernel) (Nat.le_of_ble_eq_true rfl) ?_
  unfold s_Plan_constraintCovers at h
  intro p e s m below meth c hx hb hr hml hown hts hlk hP hG ls hl
  have C0 : Ctx p m c cX3_constraintCovers 4 s (Array.mk [.ref (ad 0), .int a0, .int a1]) RX3 K meth (some .boolean) := ⟨hx, hb, hml, hown, hts, hG, hr, hlk⟩
  have hl : lv_has ls 4 [(0, .ref (ad 0)), (1, .int a0), (2, .int a1)] := hl
  refine lv_iconst (v := (0 : Int32)) (pc := 0) hx hb dX3_constraintCovers_0 (by decide) ?_
  refine lv_istore_n (pc := 1) (lv' := [(3, .int (0 : Int32)), (0, .ref (ad 0)), (1, .int a0), (2, .int a1)]) hx hb dX3_constraintCovers_1 rfl hl (by decide) rfl (fun ls hl => ?_)
  obtain ⟨o3, h_o3, h⟩ := ob h
  refine l_Plan_constraintCovers_L2 C0 F ad pxs pys plo phi pn pm a0 a1 hP F (0 : Int32) _ h_o3 ls (lv_sub hl [1, 2, 3, 0] rfl) (fun o3x ls eo hl => ?_) (fun q_o pcR ls eo hdR => ?_)
  · subst o3
    have h := se_r h
    refine lv_iconst (v := (0 : Int32)) (pc := 43) hx hb dX3_constraintCovers_43 (by decide) ?_
    obtain rfl := Option.some.inj h
    exact W.zret hx hb hr (rfl) (fun t ht hW => ⟨rfl, ht⟩) (fun q hq => absurd hq List.not_mem_nil) dX3_constraintCovers_44 hlk
  · subst o3
    have h := se_l h
    obtain rfl := Option.some.inj h
    exact W.zret hx hb hr (bI_nar _) (fun t ht hW => ⟨rfl, ht⟩) (fun q hq => absurd hq List.not_mem_nil) hdR hlk
set_option maxHeartbeats 4000000 in
set_option maxRecDepth 100000 in
theorem c_Plan_admitsPoint (l : Launch) (K : KT) (ad : Nat → Nat) (pxs : Nat → Int32) (pys : Nat → Int32) (plo : Nat → Int32) (phi : Nat → Int32) (pn : Int32) (pm : Int32) (a0 : Int32) (a1 : Int32) (F : Nat) {o : Bool} (h : s_Plan_admitsPoint F pxs pys plo phi pn pm a0 a1 = some o) : Rd l K 4 yX3_admitsPoint cX3_admitsPoint 3 .boolean [.ref (ad 0), .int a0, .int a1] (wPlan K ad pxs pys plo phi pn pm) (bI o) := by
  refine Rd.of (by decide +kernel) (Nat.le_of_ble_eq_true rfl) ?_
  unfold s_Plan_admitsPoint at h
  intro p e s m below meth c hx hb hr hml hown hts hlk hP hG ls hl
  have C0 : Ctx p m c cX3_admitsPoint 3 s (Array.mk [.ref (ad 0), .int a0, .int a1]) RX3 K meth (some .boolean) := ⟨hx, hb, hml, hown, hts, hG, hr, hlk⟩
  have hl : lv_has ls 3 [(0, .ref (ad 0)), (1, .int a0), (2, .int a1)] := hl
  refine lv_aload_n (pc := 0) hx hb dX3_admitsPoint_0 rfl (lv_at hl 0 rfl) ?_
  refine lv_iload_n (pc := 1) hx hb dX3_admitsPoint_1 rfl (lv_at hl 1 rfl) ?_
  refine lv_iload_n (pc := 2) hx hb dX3_admitsPoint_2 rfl (lv_at hl 2 rfl) ?_
  obtain ⟨v1, h_v1, h⟩ := ob h
  refine rdV (pc := 3) (As := [.int a0, .int a1]) (rest := []) hx hb hml hown hts hG hP (c_Plan_pointAt l K ad pxs pys plo phi pn pm a0 a1 F h_v1) [0, 1, 2, 3, 4, 5, 6, 7, 8] rfl (q0 := 0) rfl (ci := 3) rfl g_Plan_57 hd_Plan_pointAt rfl ⟨Nat.le_of_ble_eq_true rfl, Nat.le_of_ble_eq_true rfl⟩ ⟨Nat.zero_le _, Nat.zero_le _⟩ hl rfl (Nat.le_of_ble_eq_true rfl) dX3_admitsPoint_3 ?_
  refine lv_iconst (v := (-1 : Int32)) (pc := 6) hx hb dX3_admitsPoint_6 (by decide) ?_
  refine lv_icmp_ne (tgt := 23) (pc := 7) hx hb dX3_admitsPoint_7 (by decide) (fun c2 => ?_) (fun c2 => ?_)
  · have h := it_f c2 h
    refine lv_iconst (v := (0 : Int32)) (pc := 23) hx hb dX3_admitsPoint_23 (by decide) ?_
    obtain rfl := Option.some.inj h
    exact W.zret hx hb hr (rfl) (fun t ht hW => ⟨rfl, ht⟩) (fun q hq => absurd hq List.not_mem_nil) dX3_admitsPoint_24 hlk
  · have h := it_t c2 h
    refine lv_aload_n (pc := 10) hx hb dX3_admitsPoint_10 rfl (lv_at hl 0 rfl) ?_
    refine lv_iload_n (pc := 11) hx hb dX3_admitsPoint_11 rfl (lv_at hl 1 rfl) ?_
    refine lv_iload_n (pc := 12) hx hb dX3_admitsPoint_12 rfl (lv_at hl 2 rfl) ?_
    obtain ⟨v3, h_v3, h⟩ := ob h
    refine rdV (pc := 13) (As := [.int a0, .int a1]) (rest := []) hx hb hml hown hts hG hP (c_Plan_constraintCovers l K ad pxs pys plo phi pn pm a0 a1 F h_v3) [0, 1, 2, 3, 4, 5, 6, 7, 8] rfl (q0 := 0) rfl (ci := 3) rfl g_Plan_60 hd_Plan_constraintCovers rfl ⟨Nat.le_of_ble_eq_true rfl, Nat.le_of_ble_eq_true rfl⟩ ⟨Nat.zero_le _, Nat.zero_le _⟩ hl rfl (Nat.le_of_ble_eq_true rfl) dX3_admitsPoint_13 ?_
    refine lv_if_ne (tgt := 23) (pc := 16) hx hb dX3_admitsPoint_16 (by decide) (fun c4 => ?_) (fun c4 => ?_)
    · have h := it_f c4 h
      refine lv_iconst (v := (0 : Int32)) (pc := 23) hx hb dX3_admitsPoint_23 (by decide) ?_
      obtain rfl := Option.some.inj h
      exact W.zret hx hb hr (rfl) (fun t ht hW => ⟨rfl, ht⟩) (fun q hq => absurd hq List.not_mem_nil) dX3_admitsPoint_24 hlk
    · have h := it_t c4 h
      refine lv_iconst (v := (1 : Int32)) (pc := 19) hx hb dX3_admitsPoint_19 (by decide) ?_
      refine lv_goto (tgt := 24) (pc := 20) hx hb dX3_admitsPoint_20 (by decide) ?_
      obtain rfl := Option.some.inj h
      exact W.zret hx hb hr (rfl) (fun t ht hW => ⟨rfl, ht⟩) (fun q hq => absurd hq List.not_mem_nil) dX3_admitsPoint_24 hlk
set_option maxHeartbeats 4000000 in
set_option maxRecDepth 100000 in
theorem c_Plan_crosses (l : Launch) (K : KT) (ad : Nat → Nat) (pxs : Nat → Int32) (pys : Nat → Int32) (plo : Nat → Int32) (phi : Nat → Int32) (pn : Int32) (pm : Int32) (a0 : Int32) (a1 : Int32) (a2 : Int32) (a3 : Int32) : Rd l K 3 yX3_crosses cX3_crosses 5 .boolean [.ref (ad 0), .int a0, .int a1, .int a2, .int a3] (wPlan K ad pxs pys plo phi pn pm) (bI (s_Plan_crosses pxs pys a0 a1 a2 a3)) := by
  generalize h : s_Plan_crosses pxs pys a0 a1 a2 a3 = o
  refine Rd.of (by decide +kernel) (Nat.le_of_ble_eq_true rfl) ?_
  unfold s_Plan_crosses at h
  intro p e s m below meth c hx hb hr hml hown hts hlk hP hG ls hl
  have C0 : Ctx p m c cX3_crosses 5 s (Array.mk [.ref (ad 0), .int a0, .int a1, .int a2, .int a3]) RX3 K meth (some .boolean) := ⟨hx, hb, hml, hown, hts, hG, hr, hlk⟩
  have hl : lv_has ls 5 [(0, .ref (ad 0)), (1, .int a0), (2, .int a1), (3, .int a2), (4, .int a3)] := hl
  refine lv_aload_n (pc := 0) hx hb dX3_crosses_0 rfl (lv_at hl 0 rfl) ?_
  refine lv_iload_n (pc := 1) hx hb dX3_crosses_1 rfl (lv_at hl 1 rfl) ?_
  refine lv_iload_n (pc := 2) hx hb dX3_crosses_2 rfl (lv_at hl 2 rfl) ?_
  refine lv_iload_n (pc := 3) hx hb dX3_crosses_3 rfl (lv_at hl 3 rfl) ?_
  refine rdV (pc := 4) (As := [.int a0, .int a1, .int a2]) (rest := []) hx hb hml hown hts hG hP (c_Plan_side l K ad pxs pys plo phi pn pm a0 a1 a2) [0, 1, 2, 3, 4, 5, 6, 7, 8] rfl (q0 := 0) rfl (ci := 3) rfl g_Plan_95 hd_Plan_side rfl ⟨Nat.le_of_ble_eq_true rfl, Nat.le_of_ble_eq_true rfl⟩ ⟨Nat.zero_le _, Nat.zero_le _⟩ hl rfl (Nat.le_of_ble_eq_true rfl) dX3_crosses_4 ?_
  refine lv_aload_n (pc := 7) hx hb dX3_crosses_7 rfl (lv_at hl 0 rfl) ?_
  refine lv_iload_n (pc := 8) hx hb dX3_crosses_8 rfl (lv_at hl 1 rfl) ?_
  refine lv_iload_n (pc := 9) hx hb dX3_crosses_9 rfl (lv_at hl 2 rfl) ?_
  refine lv_iload (pc := 10) hx hb dX3_crosses_10 (lv_at hl 4 rfl) ?_
  refine rdV (pc := 12) (As := [.int a0, .int a1, .int a3]) (rest := [.int (s_Plan_side pxs pys a0 a1 a2)]) hx hb hml hown hts hG hP (c_Plan_side l K ad pxs pys plo phi pn pm a0 a1 a3) [0, 1, 2, 3, 4, 5, 6, 7, 8] rfl (q0 := 0) rfl (ci := 3) rfl g_Plan_95 hd_Plan_side rfl ⟨Nat.le_of_ble_eq_true rfl, Nat.le_of_ble_eq_true rfl⟩ ⟨Nat.zero_le _, Nat.zero_le _⟩ hl rfl (Nat.le_of_ble_eq_true rfl) dX3_crosses_12 ?_
  refine lv_imul (pc := 15) hx hb dX3_crosses_15 ?_
  refine lv_if_ge (tgt := 43) (pc := 16) hx hb dX3_crosses_16 (by decide) (fun c1 => ?_) (fun c1 => ?_)
  · have h := it_t c1 h
    refine lv_iconst (v := (0 : Int32)) (pc := 43) hx hb dX3_crosses_43 (by decide) ?_
    subst h
    exact W.zret hx hb hr (rfl) (fun t ht hW => ⟨rfl, ht⟩) (fun q hq => absurd hq List.not_mem_nil) dX3_crosses_44 hlk
  · have h := it_f c1 h
    refine lv_aload_n (pc := 19) hx hb dX3_crosses_19 rfl (lv_at hl 0 rfl) ?_
    refine lv_iload_n (pc := 20) hx hb dX3_crosses_20 rfl (lv_at hl 3 rfl) ?_
    refine lv_iload (pc := 21) hx hb dX3_crosses_21 (lv_at hl 4 rfl) ?_
    refine lv_iload_n (pc := 23) hx hb dX3_crosses_23 rfl (lv_at hl 1 rfl) ?_
    refine rdV (pc := 24) (As := [.int a2, .int a3, .int a0]) (rest := []) hx hb hml hown hts hG hP (c_Plan_side l K ad pxs pys plo phi pn pm a2 a3 a0) [0, 1, 2, 3, 4, 5, 6, 7, 8] rfl (q0 := 0) rfl (ci := 3) rfl g_Plan_95 hd_Plan_side rfl ⟨Nat.le_of_ble_eq_true rfl, Nat.le_of_ble_eq_true rfl⟩ ⟨Nat.zero_le _, Nat.zero_le _⟩ hl rfl (Nat.le_of_ble_eq_true rfl) dX3_crosses_24 ?_
    refine lv_aload_n (pc := 27) hx hb dX3_crosses_27 rfl (lv_at hl 0 rfl) ?_
    refine lv_iload_n (pc := 28) hx hb dX3_crosses_28 rfl (lv_at hl 3 rfl) ?_
    refine lv_iload (pc := 29) hx hb dX3_crosses_29 (lv_at hl 4 rfl) ?_
    refine lv_iload_n (pc := 31) hx hb dX3_crosses_31 rfl (lv_at hl 2 rfl) ?_
    refine rdV (pc := 32) (As := [.int a2, .int a3, .int a1]) (rest := [.int (s_Plan_side pxs pys a2 a3 a0)]) hx hb hml hown hts hG hP (c_Plan_side l K ad pxs pys plo phi pn pm a2 a3 a1) [0, 1, 2, 3, 4, 5, 6, 7, 8] rfl (q0 := 0) rfl (ci := 3) rfl g_Plan_95 hd_Plan_side rfl ⟨Nat.le_of_ble_eq_true rfl, Nat.le_of_ble_eq_true rfl⟩ ⟨Nat.zero_le _, Nat.zero_le _⟩ hl rfl (Nat.le_of_ble_eq_true rfl) dX3_crosses_32 ?_
    refine lv_imul (pc := 35) hx hb dX3_crosses_35 ?_
    refine lv_if_ge (tgt := 43) (pc := 36) hx hb dX3_crosses_36 (by decide) (fun c2 => ?_) (fun c2 => ?_)
    · have h := it_t c2 h
      refine lv_iconst (v := (0 : Int32)) (pc := 43) hx hb dX3_crosses_43 (by decide) ?_
      subst h
      exact W.zret hx hb hr (rfl) (fun t ht hW => ⟨rfl, ht⟩) (fun q hq => absurd hq List.not_mem_nil) dX3_crosses_44 hlk
    · have h := it_f c2 h
      refine lv_iconst (v := (1 : Int32)) (pc := 39) hx hb dX3_crosses_39 (by decide) ?_
      refine lv_goto (tgt := 44) (pc := 40) hx hb dX3_crosses_40 (by decide) ?_
      subst h
      exact W.zret hx hb hr (rfl) (fun t ht hW => ⟨rfl, ht⟩) (fun q hq => absurd hq List.not_mem_nil) dX3_crosses_44 hlk
set_option maxHeartbeats 4000000 in
set_option maxRecDepth 100000 in
theorem l_Plan_admitsSegment_L22 {p : Program} {l : Launch} {e : Env} {s : State} {m : MethodId} {args : Array Value} {below : List Frame} {meth : Method} {c : Code} {Q : State → Prop} {K : KT} (C0 : Ctx p m c cX3_admitsSegment 4 s args RX3 K meth (some .boolean)) (F : Nat) (ad : Nat → Nat) (pxs : Nat → Int32) (pys : Nat → Int32) (plo : Nat → Int32) (phi : Nat → Int32) (pn : Int32) (pm : Int32) (x1 : Int32) (x2 : Int32) (hP : va_P K.1 vC (wPlan K ad pxs pys plo phi pn pm) s.heap) : ∀ (n : Nat) (x3 : Int32) (out : (Bool) ⊕ (Int32)), s_Plan_admitsSegment_L22 pxs pys plo phi pm x1 x2 n x3 = some out → ∀ (ls : Array Slot), lv_has ls 4 [(0, .ref (ad 0)), (1, .int x1), (2, .int x2), (3, .int x3)] → (∀ (o : Int32) (ls : Array Slot), out = .inr o → lv_has ls 4 [(0, .ref (ad 0)), (1, .int x1), (2, .int x2), (3, .int o)] → W p l e (rmL 4) s m args below meth c s.heap [] 0 0 Q (F0 m 63 ls [])) → (∀ (o : Bool) (pcR : Nat) (ls : Array Slot), out = .inl o → decode cX3_admitsSegment pcR = .ok (.ireturn, 1) → W p l e (rmL 4) s m args below meth c s.heap [] 0 0 Q (F0 m pcR ls [.int (bI o)])) → W p l e (rmL 4) s m args below meth c s.heap [] 0 0 Q (F0 m 22 ls []) := by
  obtain ⟨hx, hb, hml, hown, hts, hG, hr, hlk⟩ := id C0
  intro n
  induction n with
  | zero =>
    intro x3 out h
    cases h
  | succ n ih =>
    intro x3 out h ls hl Kx Kr
    rw [s_Plan_admitsSegment_L22.eq_2] at h
    refine lv_iload_n (pc := 22) hx hb dX3_admitsSegment_22 rfl (lv_at hl 3 rfl) ?_
    refine lv_aload_n (pc := 23) hx hb dX3_admitsSegment_23 rfl (lv_at hl 0 rfl) ?_
    refine va_get (D := K.1) (ci := 3) (v := .int pm) (C := RX3) (T := TX3) (N := 6) (pc := 24) hx hb hts inT3 hown hG.1 hP 0 rfl rfl 5 (by decide) (hts _ qf_Plan_33) (fun _ h9 => h9) rfl dX3_admitsSegment_24 ?_
    refine lv_icmp_ge (tgt := 63) (pc := 27) hx hb dX3_admitsSegment_27 (by decide) (fun c5 => ?_) (fun c5 => ?_)
    · have h := it_t c5 h
      obtain rfl := Option.some.inj h
      exact Kx _ ls rfl (lv_sub hl [0, 1, 2, 3] rfl)
    · have h := it_f c5 h
      refine lv_aload_n (pc := 30) hx hb dX3_admitsSegment_30 rfl (lv_at hl 0 rfl) ?_
      refine lv_iload_n (pc := 31) hx hb dX3_admitsSegment_31 rfl (lv_at hl 1 rfl) ?_
      refine lv_iload_n (pc := 32) hx hb dX3_admitsSegment_32 rfl (lv_at hl 2 rfl) ?_
      refine lv_aload_n (pc := 33) hx hb dX3_admitsSegment_33 rfl (lv_at hl 0 rfl) ?_
      refine va_get (D := K.1) (ci := 3) (v := .ref (ad 5)) (C := RX3) (T := TX3) (N := 6) (pc := 34) hx hb hts inT3 hown hG.1 hP 0 rfl rfl 2 (by decide) (hts _ qf_Plan_23) (fun _ h9 => h9) rfl dX3_admitsSegment_34 ?_
      refine lv_iload_n (pc := 37) hx hb dX3_admitsSegment_37 rfl (lv_at hl 3 rfl) ?_
      refine rdV (pc := 38) (As := [.int x3]) (rest := [.int x2, .int x1, .ref (ad 0)]) hx hb hml hown hts hG hP (c_Row_get l K (fun k => ad (k + 5)) 10 (by decide) plo x3) [5, 6] rfl (q0 := 5) rfl (ci := 4) rfl g_Plan_40 hd_Row_get rfl ⟨Nat.le_of_ble_eq_true rfl, Nat.le_of_ble_eq_true rfl⟩ ⟨Nat.zero_le _, Nat.zero_le _⟩ hl rfl (Nat.le_of_ble_eq_true rfl) dX3_admitsSegment_38 ?_
      refine lv_aload_n (pc := 41) hx hb dX3_admitsSegment_41 rfl (lv_at hl 0 rfl) ?_
      refine va_get (D := K.1) (ci := 3) (v := .ref (ad 7)) (C := RX3) (T := TX3) (N := 6) (pc := 42) hx hb hts inT3 hown hG.1 hP 0 rfl rfl 3 (by decide) (hts _ qf_Plan_26) (fun _ h9 => h9) rfl dX3_admitsSegment_42 ?_
      refine lv_iload_n (pc := 45) hx hb dX3_admitsSegment_45 rfl (lv_at hl 3 rfl) ?_
      refine rdV (pc := 46) (As := [.int x3]) (rest := [.int (s_Row_get 10 plo x3), .int x2, .int x1, .ref (ad 0)]) hx hb hml hown hts hG hP (c_Row_get l K (fun k => ad (k + 7)) 10 (by decide) phi x3) [7, 8] rfl (q0 := 7) rfl (ci := 4) rfl g_Plan_40 hd_Row_get rfl ⟨Nat.le_of_ble_eq_true rfl, Nat.le_of_ble_eq_true rfl⟩ ⟨Nat.zero_le _, Nat.zero_le _⟩ hl rfl (Nat.le_of_ble_eq_true rfl) dX3_admitsSegment_46 ?_
      refine rdV (pc := 49) (As := [.int x1, .int x2, .int (s_Row_get 10 plo x3), .int (s_Row_get 10 phi x3)]) (rest := []) hx hb hml hown hts hG hP (c_Plan_crosses l K ad pxs pys plo phi pn pm x1 x2 (s_Row_get 10 plo x3) (s_Row_get 10 phi x3)) [0, 1, 2, 3, 4, 5, 6, 7, 8] rfl (q0 := 0) rfl (ci := 3) rfl g_Plan_70 hd_Plan_crosses rfl ⟨Nat.le_of_ble_eq_true rfl, Nat.le_of_ble_eq_true rfl⟩ ⟨Nat.zero_le _, Nat.zero_le _⟩ hl rfl (Nat.le_of_ble_eq_true rfl) dX3_admitsSegment_49 ?_
      refine lv_if_eq (tgt := 57) (pc := 52) hx hb dX3_admitsSegment_52 (by decide) (fun c6 => ?_) (fun c6 => ?_)
      · have h := it_t c6 h
        refine lv_iinc (v := (x3 + (1 : Int32))) (pc := 57) (lv' := [(3, .int (x3 + (1 : Int32))), (0, .ref (ad 0)), (1, .int x1), (2, .int x2)]) hx hb dX3_admitsSegment_57 hl (k := 3) rfl rfl (by decide) rfl (fun ls hl => ?_)
        refine lv_goto (tgt := 22) (pc := 60) hx hb dX3_admitsSegment_60 (by decide) ?_
        exact ih (x3 + (1 : Int32)) out h ls (lv_sub hl [1, 2, 3, 0] rfl) Kx Kr
      · have h := it_f c6 h
        refine lv_iconst (v := (0 : Int32)) (pc := 55) hx hb dX3_admitsSegment_55 (by decide) ?_
        obtain rfl := Option.some.inj h
        exact Kr _ _ _ rfl dX3_admitsSegment_56
set_option maxHeartbeats 4000000 in
set_option maxRecDepth 100000 in
theorem c_Plan_admitsSegment (l : Launch) (K : KT) (ad : Nat → Nat) (pxs : Nat → Int32) (pys : Nat → Int32) (plo : Nat → Int32) (phi : Nat → Int32) (pn : Int32) (pm : Int32) (a0 : Int32) (a1 : Int32) (F : Nat) {o : Bool} (h : s_Plan_admitsSegment F pxs pys plo phi pn pm a0 a1 = some o) : Rd l K 4 yX3_admitsSegment cX3_admitsSegment 4 .boolean [.ref (ad 0), .int a0, .int a1] (wPlan K ad pxs pys plo phi pn pm) (bI o) := by
  refine Rd.of (by decide +kernel) (Nat.le_of_ble_eq_true rfl) ?_
  unfold s_Plan_admitsSegment at h
  intro p e s m below meth c hx hb hr hml hown hts hlk hP hG ls hl
  have C0 : Ctx p m c cX3_admitsSegment 4 s (Array.mk [.ref (ad 0), .int a0, .int a1]) RX3 K meth (some .boolean) := ⟨hx, hb, hml, hown, hts, hG, hr, hlk⟩
  have hl : lv_has ls 4 [(0, .ref (ad 0)), (1, .int a0), (2, .int a1)] := hl
  refine lv_aload_n (pc := 0) hx hb dX3_admitsSegment_0 rfl (lv_at hl 0 rfl) ?_
  refine lv_iload_n (pc := 1) hx hb dX3_admitsSegment_1 rfl (lv_at hl 1 rfl) ?_
  refine lv_iload_n (pc := 2) hx hb dX3_admitsSegment_2 rfl (lv_at hl 2 rfl) ?_
  obtain ⟨v1, h_v1, h⟩ := ob h
  refine rdV (pc := 3) (As := [.int a0, .int a1]) (rest := []) hx hb hml hown hts hG hP (c_Plan_isConstraint l K ad pxs pys plo phi pn pm a0 a1 F h_v1) [0, 1, 2, 3, 4, 5, 6, 7, 8] rfl (q0 := 0) rfl (ci := 3) rfl g_Plan_64 hd_Plan_isConstraint rfl ⟨Nat.le_of_ble_eq_true rfl, Nat.le_of_ble_eq_true rfl⟩ ⟨Nat.zero_le _, Nat.zero_le _⟩ hl rfl (Nat.le_of_ble_eq_true rfl) dX3_admitsSegment_3 ?_
  refine lv_if_ne (tgt := 18) (pc := 6) hx hb dX3_admitsSegment_6 (by decide) (fun c2 => ?_) (fun c2 => ?_)
  · have h := it_f c2 h
    refine lv_iconst (v := (0 : Int32)) (pc := 18) hx hb dX3_admitsSegment_18 (by decide) ?_
    obtain rfl := Option.some.inj h
    exact W.zret hx hb hr (rfl) (fun t ht hW => ⟨rfl, ht⟩) (fun q hq => absurd hq List.not_mem_nil) dX3_admitsSegment_19 hlk
  · have h := it_t c2 h
    refine lv_aload_n (pc := 9) hx hb dX3_admitsSegment_9 rfl (lv_at hl 0 rfl) ?_
    refine lv_iload_n (pc := 10) hx hb dX3_admitsSegment_10 rfl (lv_at hl 1 rfl) ?_
    refine lv_iload_n (pc := 11) hx hb dX3_admitsSegment_11 rfl (lv_at hl 2 rfl) ?_
    obtain ⟨v3, h_v3, h⟩ := ob h
    refine rdV (pc := 12) (As := [.int a0, .int a1]) (rest := []) hx hb hml hown hts hG hP (c_Plan_coversPoint l K ad pxs pys plo phi pn pm a0 a1 F h_v3) [0, 1, 2, 3, 4, 5, 6, 7, 8] rfl (q0 := 0) rfl (ci := 3) rfl g_Plan_67 hd_Plan_coversPoint rfl ⟨Nat.le_of_ble_eq_true rfl, Nat.le_of_ble_eq_true rfl⟩ ⟨Nat.zero_le _, Nat.zero_le _⟩ hl rfl (Nat.le_of_ble_eq_true rfl) dX3_admitsSegment_12 ?_
    refine lv_if_eq (tgt := 20) (pc := 15) hx hb dX3_admitsSegment_15 (by decide) (fun c4 => ?_) (fun c4 => ?_)
    · have h := it_t c4 h
      refine lv_iconst (v := (0 : Int32)) (pc := 20) hx hb dX3_admitsSegment_20 (by decide) ?_
      refine lv_istore_n (pc := 21) (lv' := [(3, .int (0 : Int32)), (0, .ref (ad 0)), (1, .int a0), (2, .int a1)]) hx hb dX3_admitsSegment_21 rfl hl (by decide) rfl (fun ls hl => ?_)
      obtain ⟨o7, h_o7, h⟩ := ob h
      refine l_Plan_admitsSegment_L22 C0 F ad pxs pys plo phi pn pm a0 a1 hP F (0 : Int32) _ h_o7 ls (lv_sub hl [1, 2, 3, 0] rfl) (fun o7x ls eo hl => ?_) (fun q_o pcR ls eo hdR => ?_)
      · subst o7
        have h := se_r h
        refine lv_iconst (v := (1 : Int32)) (pc := 63) hx hb dX3_admitsSegment_63 (by decide) ?_
        obtain rfl := Option.some.inj h
        exact W.zret hx hb hr (rfl) (fun t ht hW => ⟨rfl, ht⟩) (fun q hq => absurd hq List.not_mem_nil) dX3_admitsSegment_64 hlk
      · subst o7
        have h := se_l h
        obtain rfl := Option.some.inj h
        exact W.zret hx hb hr (bI_nar _) (fun t ht hW => ⟨rfl, ht⟩) (fun q hq => absurd hq List.not_mem_nil) hdR hlk
    · have h := it_f c4 h
      refine lv_iconst (v := (0 : Int32)) (pc := 18) hx hb dX3_admitsSegment_18 (by decide) ?_
      obtain rfl := Option.some.inj h
      exact W.zret hx hb hr (rfl) (fun t ht hW => ⟨rfl, ht⟩) (fun q hq => absurd hq List.not_mem_nil) dX3_admitsSegment_19 hlk
set_option maxHeartbeats 4000000 in
set_option maxRecDepth 100000 in
theorem c_Plan_placePoint (l : Launch) (K : KT) (ad : Nat → Nat) (pxs : Nat → Int32) (pys : Nat → Int32) (plo : Nat → Int32) (phi : Nat → Int32) (pn : Int32) (pm : Int32) (a0 : Int32) (a1 : Int32) (a2 : Int32) : Wr l K 1 yX3_placePoint cX3_placePoint 4 none [.ref (ad 0), .int a0, .int a1, .int a2] (wPlan K ad pxs pys plo phi pn pm) none (wPlan K ad ((s_Plan_placePoint pxs pys a0 a1 a2).1) ((s_Plan_placePoint pxs pys a0 a1 a2).2) plo phi pn pm) := by
  generalize h : s_Plan_placePoint pxs pys a0 a1 a2 = o
  refine Wr.of (by decide +kernel) (Nat.le_of_ble_eq_true rfl) ?_
  unfold s_Plan_placePoint at h
  intro p e s m below meth c hx hb hr hml hown hts hlk H locs hP hG hD hS ls hl
  have C0 : Ctx p m c cX3_placePoint 4 s (Array.mk [.ref (ad 0), .int a0, .int a1, .int a2]) RX3 K meth none := ⟨hx, hb, hml, hown, hts, hG, hr, hlk⟩
  have hl : lv_has ls 4 [(0, .ref (ad 0)), (1, .int a0), (2, .int a1), (3, .int a2)] := hl
  refine lv_aload_n (pc := 0) hx hb dX3_placePoint_0 rfl (lv_at hl 0 rfl) ?_
  refine va_get (D := K.1) (ci := 3) (v := .ref (ad 1)) (C := RX3) (T := TX3) (N := 6) (pc := 1) hx hb hts inT3 hown hG.1 hP 0 rfl rfl 0 (by decide) (hts _ qf_Plan_14) (fun _ h9 => h9) rfl dX3_placePoint_1 ?_
  refine lv_iload_n (pc := 4) hx hb dX3_placePoint_4 rfl (lv_at hl 1 rfl) ?_
  refine lv_iload_n (pc := 5) hx hb dX3_placePoint_5 rfl (lv_at hl 2 rfl) ?_
  refine wrVv (pc := 6) (As := [.int a0, .int a1]) (rest := []) (ws2 := wPlan K ad (s_Row_set 16 pxs a0 a1) pys plo phi pn pm) (as9 := [ad 1, ad 2]) hx hb hml hown hts hG hP hD hS (c_Row_set l K (fun k => ad (k + 1)) 16 (by decide) pxs a0 a1) [1, 2] rfl rfl rfl rfl [.inr 0, .inl 0, .inl 1, .inr 3, .inr 4, .inr 5, .inr 6, .inr 7, .inr 8] (by decide +kernel) rfl (q0 := 1) rfl (ci := 4) rfl g_Plan_77 hd_Row_set rfl ⟨Nat.le_of_ble_eq_true rfl, Nat.le_of_ble_eq_true rfl⟩ ⟨Nat.zero_le _, Nat.zero_le _⟩ hl rfl (Nat.le_of_ble_eq_true rfl) dX3_placePoint_6 (fun H locs hP hD hS => ?_)
  refine lv_aload_n (pc := 9) hx hb dX3_placePoint_9 rfl (lv_at hl 0 rfl) ?_
  refine va_get (D := K.1) (ci := 3) (v := .ref (ad 3)) (C := RX3) (T := TX3) (N := 6) (pc := 10) hx hb hts inT3 hown hG.1 hP 0 rfl rfl 1 (by decide) (hts _ qf_Plan_20) (fun _ h9 => h9) rfl dX3_placePoint_10 ?_
  refine lv_iload_n (pc := 13) hx hb dX3_placePoint_13 rfl (lv_at hl 1 rfl) ?_
  refine lv_iload_n (pc := 14) hx hb dX3_placePoint_14 rfl (lv_at hl 3 rfl) ?_
  refine wrVv (pc := 15) (As := [.int a0, .int a2]) (rest := []) (ws2 := wPlan K ad (s_Row_set 16 pxs a0 a1) (s_Row_set 16 pys a0 a2) plo phi pn pm) (as9 := [ad 3, ad 4]) hx hb hml hown hts hG hP hD hS (c_Row_set l K (fun k => ad (k + 3)) 16 (by decide) pys a0 a2) [3, 4] rfl rfl rfl rfl [.inr 0, .inr 1, .inr 2, .inl 0, .inl 1, .inr 5, .inr 6, .inr 7, .inr 8] (by decide +kernel) rfl (q0 := 3) rfl (ci := 4) rfl g_Plan_77 hd_Row_set rfl ⟨Nat.le_of_ble_eq_true rfl, Nat.le_of_ble_eq_true rfl⟩ ⟨Nat.zero_le _, Nat.zero_le _⟩ hl rfl (Nat.le_of_ble_eq_true rfl) dX3_placePoint_15 (fun H locs hP hD hS => ?_)
  subst h
  exact W.vret hx hb hr (fun t ht hW => ⟨⟨rfl, by rw [ht]; exact hP⟩, hS.F ht⟩) hS.2.2 dX3_placePoint_18 hlk
set_option maxHeartbeats 4000000 in
set_option maxRecDepth 100000 in
theorem c_Plan_appendPoint (l : Launch) (K : KT) (ad : Nat → Nat) (pxs : Nat → Int32) (pys : Nat → Int32) (plo : Nat → Int32) (phi : Nat → Int32) (pn : Int32) (pm : Int32) (a0 : Int32) (a1 : Int32) : Wr l K 2 yX3_appendPoint cX3_appendPoint 3 none [.ref (ad 0), .int a0, .int a1] (wPlan K ad pxs pys plo phi pn pm) none (wPlan K ad ((s_Plan_appendPoint pxs pys pn a0 a1).1) ((s_Plan_appendPoint pxs pys pn a0 a1).2.1) plo phi ((s_Plan_appendPoint pxs pys pn a0 a1).2.2) pm) := by
  generalize h : s_Plan_appendPoint pxs pys pn a0 a1 = o
  refine Wr.of (by decide +kernel) (Nat.le_of_ble_eq_true rfl) ?_
  unfold s_Plan_appendPoint at h
  intro p e s m below meth c hx hb hr hml hown hts hlk H locs hP hG hD hS ls hl
  have C0 : Ctx p m c cX3_appendPoint 3 s (Array.mk [.ref (ad 0), .int a0, .int a1]) RX3 K meth none := ⟨hx, hb, hml, hown, hts, hG, hr, hlk⟩
  have hl : lv_has ls 3 [(0, .ref (ad 0)), (1, .int a0), (2, .int a1)] := hl
  refine lv_aload_n (pc := 0) hx hb dX3_appendPoint_0 rfl (lv_at hl 0 rfl) ?_
  refine lv_aload_n (pc := 1) hx hb dX3_appendPoint_1 rfl (lv_at hl 0 rfl) ?_
  refine va_get (D := K.1) (ci := 3) (v := .int pn) (C := RX3) (T := TX3) (N := 6) (pc := 2) hx hb hts inT3 hown hG.1 hP 0 rfl rfl 4 (by decide) (hts _ qf_Plan_29) (fun _ h9 => h9) rfl dX3_appendPoint_2 ?_
  refine lv_iload_n (pc := 5) hx hb dX3_appendPoint_5 rfl (lv_at hl 1 rfl) ?_
  refine lv_iload_n (pc := 6) hx hb dX3_appendPoint_6 rfl (lv_at hl 2 rfl) ?_
  refine wrVv (pc := 7) (As := [.int pn, .int a0, .int a1]) (rest := []) (ws2 := wPlan K ad ((s_Plan_placePoint pxs pys pn a0 a1).1) ((s_Plan_placePoint pxs pys pn a0 a1).2) plo phi pn pm) (as9 := [ad 0, ad 1, ad 2, ad 3, ad 4, ad 5, ad 6, ad 7, ad 8]) hx hb hml hown hts hG hP hD hS (c_Plan_placePoint l K ad pxs pys plo phi pn pm pn a0 a1) [0, 1, 2, 3, 4, 5, 6, 7, 8] rfl rfl rfl rfl [.inl 0, .inl 1, .inl 2, .inl 3, .inl 4, .inl 5, .inl 6, .inl 7, .inl 8] (by decide +kernel) rfl (q0 := 0) rfl (ci := 3) rfl g_Plan_73 hd_Plan_placePoint rfl ⟨Nat.le_of_ble_eq_true rfl, Nat.le_of_ble_eq_true rfl⟩ ⟨Nat.zero_le _, Nat.zero_le _⟩ hl rfl (Nat.le_of_ble_eq_true rfl) dX3_appendPoint_7 (fun H locs hP hD hS => ?_)
  refine lv_aload_n (pc := 10) hx hb dX3_appendPoint_10 rfl (lv_at hl 0 rfl) ?_
  refine lv_dup (pc := 11) hx hb dX3_appendPoint_11 rfl ?_
  refine va_get (D := K.1) (ci := 3) (v := .int pn) (C := RX3) (T := TX3) (N := 6) (pc := 12) hx hb hts inT3 hown hG.1 hP 0 rfl rfl 4 (by decide) (hts _ qf_Plan_29) (fun _ h9 => h9) rfl dX3_appendPoint_12 ?_
  refine lv_iconst (v := (1 : Int32)) (pc := 15) hx hb dX3_appendPoint_15 (by decide) ?_
  refine lv_iadd (pc := 16) hx hb dX3_appendPoint_16 ?_
  refine va_put (D := K.1) (ci := 3) (v := .int (pn + (1 : Int32))) (ty := .int) (C := RX3) (T := TX3) (N := 6) (pc := 17) hx hb hts inT3 tyX3 tyX3_ok nmX3 hown hG.1 hP hD hS 0 rfl rfl 4 (by decide) (hts _ qf_Plan_29) (fun _ h9 => h9) rfl (by decide +kernel) rfl rfl (Nat.le_of_ble_eq_true rfl) dX3_appendPoint_17 (fun H locs hP hD hS => ?_)
  have hP : va_P K.1 vC (wPlan K ad ((s_Plan_placePoint pxs pys pn a0 a1).1) ((s_Plan_placePoint pxs pys pn a0 a1).2) plo phi (pn + (1 : Int32)) pm) H := hP
  have hD : va_D _ (wPlan K ad ((s_Plan_placePoint pxs pys pn a0 a1).1) ((s_Plan_placePoint pxs pys pn a0 a1).2) plo phi (pn + (1 : Int32)) pm) := hD
  subst h
  exact W.vret hx hb hr (fun t ht hW => ⟨⟨rfl, by rw [ht]; exact hP⟩, hS.F ht⟩) hS.2.2 dX3_appendPoint_20 hlk
set_option maxHeartbeats 4000000 in
set_option maxRecDepth 100000 in
theorem l_Row_closeGap_L6 {p : Program} {l : Launch} {e : Env} {s : State} {m : MethodId} {args : Array Value} {below : List Frame} {meth : Method} {c : Code} {Q : State → Prop} {K : KT} {A : Nat → Prop} (C0 : Ctx p m c cX4_closeGap 3 s args RX4 K meth none) (F : Nat) (ad : Nat → Nat) (rn : Nat) (hrn : rn < 2147483648)  : ∀ (n : Nat) (x2 : Int32) (rf : Nat → Int32) (out : Int32 × (Nat → Int32)), s_Row_closeGap_L6 rn n x2 rf = some out → ∀ (H : Heap) (locs : List Loc) (ls : Array Slot), va_P K.1 vC (wRow K ad rn rf) H → va_D A (wRow K ad rn rf) → va_S A s.heap H locs → lv_has ls 3 [(0, .ref (ad 0)), (2, .int x2)] → (∀ (o : Int32 × (Nat → Int32)) (H : Heap) (locs : List Loc) (ls : Array Slot), out = o → va_P K.1 vC (wRow K ad rn o.2) H → va_D A (wRow K ad rn o.2) → va_S A s.heap H locs → lv_has ls 3 [(0, .ref (ad 0)), (2, .int o.1)] → W p l e (rmL 1) s m args below meth c H locs 0 0 Q (F0 m 37 ls [])) → W p l e (rmL 1) s m args below meth c H locs 0 0 Q (F0 m 6 ls []) := by
  obtain ⟨hx, hb, hml, hown, hts, hG, hr, hlk⟩ := id C0
  intro n
  induction n with
  | zero =>
    intro x2 rf out h
    cases h
  | succ n ih =>
    intro x2 rf out h H locs ls hP hD hS hl Kx 
    rw [s_Row_closeGap_L6.eq_2] at h
    refine lv_iload_n (pc := 6) hx hb dX4_closeGap_6 rfl (lv_at hl 1 rfl) ?_
    refine lv_aload_n (pc := 7) hx hb dX4_closeGap_7 rfl (lv_at hl 0 rfl) ?_
    refine va_get (D := K.1) (ci := 4) (v := .ref (ad 1)) (C := RX4) (T := TX4) (N := 1) (pc := 8) hx hb hts inT4 hown hG.1 hP 0 rfl rfl 0 (by decide) (hts _ qf_Row_13) (fun _ h9 => h9) rfl dX4_closeGap_8 ?_
    refine va_alen (pc := 11) hx hb hG.1 hP 1 0 rfl rfl (v := (Int32.ofNat rn)) rfl dX4_closeGap_11 ?_
    refine lv_iconst (v := (1 : Int32)) (pc := 12) hx hb dX4_closeGap_12 (by decide) ?_
    refine lv_isub (pc := 13) hx hb dX4_closeGap_13 ?_
    refine lv_icmp_ge (tgt := 37) (pc := 14) hx hb dX4_closeGap_14 (by decide) (fun c1 => ?_) (fun c1 => ?_)
    · have h := it_t c1 h
      obtain rfl := Option.some.inj h
      exact Kx _ H locs ls rfl hP hD hS (lv_sub hl [0, 1] rfl)
    · have h := it_f c1 h
      refine lv_aload_n (pc := 17) hx hb dX4_closeGap_17 rfl (lv_at hl 0 rfl) ?_
      refine va_get (D := K.1) (ci := 4) (v := .ref (ad 1)) (C := RX4) (T := TX4) (N := 1) (pc := 18) hx hb hts inT4 hown hG.1 hP 0 rfl rfl 0 (by decide) (hts _ qf_Row_13) (fun _ h9 => h9) rfl dX4_closeGap_18 ?_
      refine lv_iload_n (pc := 21) hx hb dX4_closeGap_21 rfl (lv_at hl 1 rfl) ?_
      refine lv_aload_n (pc := 22) hx hb dX4_closeGap_22 rfl (lv_at hl 0 rfl) ?_
      refine va_get (D := K.1) (ci := 4) (v := .ref (ad 1)) (C := RX4) (T := TX4) (N := 1) (pc := 23) hx hb hts inT4 hown hG.1 hP 0 rfl rfl 0 (by decide) (hts _ qf_Row_13) (fun _ h9 => h9) rfl dX4_closeGap_23 ?_
      refine lv_iload_n (pc := 26) hx hb dX4_closeGap_26 rfl (lv_at hl 1 rfl) ?_
      refine lv_iconst (v := (1 : Int32)) (pc := 27) hx hb dX4_closeGap_27 (by decide) ?_
      refine lv_iadd (pc := 28) hx hb dX4_closeGap_28 ?_
      obtain ⟨v2, h_v2, h⟩ := ob h
      obtain ⟨hi_v2, e_v2⟩ := aget_in h_v2
      refine va_iald (pc := 29) hx hb hG.1 hP 1 0 rfl rfl hi_v2 dX4_closeGap_29 ?_
      rw [e_v2]
      obtain ⟨v3, h_v3, h⟩ := ob h
      obtain ⟨hi_v3, e_v3⟩ := aset_in h_v3
      refine va_iast (pc := 30) hx hb hG.1 hP hD hS 1 0 rfl rfl hi_v3 dX4_closeGap_30 (fun H locs hP hD hS => ?_)
      rw [e_v3] at hP hD
      have hP : va_P K.1 vC (wRow K ad rn v3) H := hP
      have hD : va_D _ (wRow K ad rn v3) := hD
      refine lv_iinc (v := (x2 + (1 : Int32))) (pc := 31) (lv' := [(2, .int (x2 + (1 : Int32))), (0, .ref (ad 0))]) hx hb dX4_closeGap_31 hl (k := 1) rfl rfl (by decide) rfl (fun ls hl => ?_)
      refine lv_goto (tgt := 6) (pc := 34) hx hb dX4_closeGap_34 (by decide) ?_
      exact ih (x2 + (1 : Int32)) v3 out h H locs ls hP hD hS (lv_sub hl [1, 0] rfl) Kx 
set_option maxHeartbeats 4000000 in
set_option maxRecDepth 100000 in
theorem c_Row_closeGap (l : Launch) (K : KT) (ad : Nat → Nat) (rn : Nat) (hrn : rn < 2147483648) (rf : Nat → Int32) (a0 : Int32) (F : Nat) {o : (Nat → Int32)} (h : s_Row_closeGap F rn rf a0 = some o) : Wr l K 1 yX4_closeGap cX4_closeGap 3 none [.ref (ad 0), .int a0] (wRow K ad rn rf) none (wRow K ad rn o) := by
  refine Wr.of (by decide +kernel) (Nat.le_of_ble_eq_true rfl) ?_
  unfold s_Row_closeGap at h
  intro p e s m below meth c hx hb hr hml hown hts hlk H locs hP hG hD hS ls hl
  have C0 : Ctx p m c cX4_closeGap 3 s (Array.mk [.ref (ad 0), .int a0]) RX4 K meth none := ⟨hx, hb, hml, hown, hts, hG, hr, hlk⟩
  have hl : lv_has ls 3 [(0, .ref (ad 0)), (1, .int a0)] := hl
  refine lv_iconst (v := (0 : Int32)) (pc := 0) hx hb dX4_closeGap_0 (by decide) ?_
  refine lv_iload_n (pc := 1) hx hb dX4_closeGap_1 rfl (lv_at hl 1 rfl) ?_
  refine my_mmax (pc := 2) hx hb hml hl.1 hown hts qm_Row_7 (Nat.le_of_ble_eq_true rfl) (Nat.le_of_ble_eq_true rfl) ⟨Nat.zero_le _, Nat.zero_le _⟩ dX4_closeGap_2 ?_
  refine lv_istore_n (pc := 5) (lv' := [(2, .int (imax (0 : Int32) a0)), (0, .ref (ad 0)), (1, .int a0)]) hx hb dX4_closeGap_5 rfl hl (by decide) rfl (fun ls hl => ?_)
  obtain ⟨o4, h_o4, h⟩ := ob h
  refine l_Row_closeGap_L6 C0 F ad rn hrn F (imax (0 : Int32) a0) rf _ h_o4 H locs ls hP hD hS (lv_sub hl [1, 0] rfl) (fun o4x H locs ls eo hP hD hS hl => ?_)
  subst o4
  obtain rfl := Option.some.inj h
  exact W.vret hx hb hr (fun t ht hW => ⟨⟨rfl, by rw [ht]; exact hP⟩, hS.F ht⟩) hS.2.2 dX4_closeGap_37 hlk
set_option maxHeartbeats 4000000 in
set_option maxRecDepth 100000 in
theorem c_Plan_numberAfter (l : Launch) (K : KT) (a0 : Int32) (a1 : Int32) : Rd l K 0 yX3_numberAfter cX3_numberAfter 2 .int [.int a0, .int a1] ([]) (s_Plan_numberAfter a0 a1) := by
  generalize h : s_Plan_numberAfter a0 a1 = o
  refine Rd.of (by decide +kernel) (Nat.le_of_ble_eq_true rfl) ?_
  unfold s_Plan_numberAfter at h
  intro p e s m below meth c hx hb hr hml hown hts hlk hP hG ls hl
  have C0 : Ctx p m c cX3_numberAfter 2 s (Array.mk [.int a0, .int a1]) RX3 K meth (some .int) := ⟨hx, hb, hml, hown, hts, hG, hr, hlk⟩
  have hl : lv_has ls 2 [(0, .int a0), (1, .int a1)] := hl
  refine lv_iload_n (pc := 0) hx hb dX3_numberAfter_0 rfl (lv_at hl 0 rfl) ?_
  refine lv_iload_n (pc := 1) hx hb dX3_numberAfter_1 rfl (lv_at hl 1 rfl) ?_
  refine lv_icmp_le (tgt := 11) (pc := 2) hx hb dX3_numberAfter_2 (by decide) (fun c1 => ?_) (fun c1 => ?_)
  · have h := it_t c1 h
    refine lv_iload_n (pc := 11) hx hb dX3_numberAfter_11 rfl (lv_at hl 0 rfl) ?_
    subst h
    exact W.iret hx hb hr (fun t ht hW => ⟨rfl, ht⟩) (fun q hq => absurd hq List.not_mem_nil) dX3_numberAfter_12 hlk
  · have h := it_f c1 h
    refine lv_iload_n (pc := 5) hx hb dX3_numberAfter_5 rfl (lv_at hl 0 rfl) ?_
    refine lv_iconst (v := (1 : Int32)) (pc := 6) hx hb dX3_numberAfter_6 (by decide) ?_
    refine lv_isub (pc := 7) hx hb dX3_numberAfter_7 ?_
    refine lv_goto (tgt := 12) (pc := 8) hx hb dX3_numberAfter_8 (by decide) ?_
    subst h
    exact W.iret hx hb hr (fun t ht hW => ⟨rfl, ht⟩) (fun q hq => absurd hq List.not_mem_nil) dX3_numberAfter_12 hlk
set_option maxHeartbeats 4000000 in
set_option maxRecDepth 100000 in
theorem l_Plan_dropPoint_L28 {p : Program} {l : Launch} {e : Env} {s : State} {m : MethodId} {args : Array Value} {below : List Frame} {meth : Method} {c : Code} {Q : State → Prop} {K : KT} {A : Nat → Prop} (C0 : Ctx p m c cX3_dropPoint 3 s args RX3 K meth none) (F : Nat) (ad : Nat → Nat) (pxs : Nat → Int32) (pys : Nat → Int32) (pn : Int32) (pm : Int32) (x1 : Int32)  : ∀ (n : Nat) (x2 : Int32) (plo : Nat → Int32) (phi : Nat → Int32) (out : Int32 × (Nat → Int32) × (Nat → Int32)), s_Plan_dropPoint_L28 pm x1 n x2 plo phi = some out → ∀ (H : Heap) (locs : List Loc) (ls : Array Slot), va_P K.1 vC (wPlan K ad pxs pys plo phi pn pm) H → va_D A (wPlan K ad pxs pys plo phi pn pm) → va_S A s.heap H locs → lv_has ls 3 [(0, .ref (ad 0)), (1, .int x1), (2, .int x2)] → (∀ (o : Int32 × (Nat → Int32) × (Nat → Int32)) (H : Heap) (locs : List Loc) (ls : Array Slot), out = o → va_P K.1 vC (wPlan K ad pxs pys o.2.1 o.2.2 pn pm) H → va_D A (wPlan K ad pxs pys o.2.1 o.2.2 pn pm) → va_S A s.heap H locs → lv_has ls 3 [(0, .ref (ad 0)), (1, .int x1), (2, .int o.1)] → W p l e (rmL 2) s m args below meth c H locs 0 0 Q (F0 m 82 ls [])) → W p l e (rmL 2) s m args below meth c H locs 0 0 Q (F0 m 28 ls []) := by
  obtain ⟨hx, hb, hml, hown, hts, hG, hr, hlk⟩ := id C0
  intro n
  induction n with
  | zero =>
    intro x2 plo phi out h
    cases h
  | succ n ih =>
    intro x2 plo phi out h H locs ls hP hD hS hl Kx 
    rw [s_Plan_dropPoint_L28.eq_2] at h
    refine lv_iload_n (pc := 28) hx hb dX3_dropPoint_28 rfl (lv_at hl 2 rfl) ?_
    refine lv_aload_n (pc := 29) hx hb dX3_dropPoint_29 rfl (lv_at hl 0 rfl) ?_
    refine va_get (D := K.1) (ci := 3) (v := .int pm) (C := RX3) (T := TX3) (N := 6) (pc := 30) hx hb hts inT3 hown hG.1 hP 0 rfl rfl 5 (by decide) (hts _ qf_Plan_33) (fun _ h9 => h9) rfl dX3_dropPoint_30 ?_
    refine lv_icmp_ge (tgt := 82) (pc := 33) hx hb dX3_dropPoint_33 (by decide) (fun c3 => ?_) (fun c3 => ?_)
    · have h := it_t c3 h
      obtain rfl := Option.some.inj h
      exact Kx _ H locs ls rfl hP hD hS (lv_sub hl [0, 1, 2] rfl)
    · have h := it_f c3 h
      refine lv_aload_n (pc := 36) hx hb dX3_dropPoint_36 rfl (lv_at hl 0 rfl) ?_
      refine va_get (D := K.1) (ci := 3) (v := .ref (ad 5)) (C := RX3) (T := TX3) (N := 6) (pc := 37) hx hb hts inT3 hown hG.1 hP 0 rfl rfl 2 (by decide) (hts _ qf_Plan_23) (fun _ h9 => h9) rfl dX3_dropPoint_37 ?_
      refine lv_iload_n (pc := 40) hx hb dX3_dropPoint_40 rfl (lv_at hl 2 rfl) ?_
      refine lv_aload_n (pc := 41) hx hb dX3_dropPoint_41 rfl (lv_at hl 0 rfl) ?_
      refine va_get (D := K.1) (ci := 3) (v := .ref (ad 5)) (C := RX3) (T := TX3) (N := 6) (pc := 42) hx hb hts inT3 hown hG.1 hP 0 rfl rfl 2 (by decide) (hts _ qf_Plan_23) (fun _ h9 => h9) rfl dX3_dropPoint_42 ?_
      refine lv_iload_n (pc := 45) hx hb dX3_dropPoint_45 rfl (lv_at hl 2 rfl) ?_
      refine rdV (pc := 46) (As := [.int x2]) (rest := [.int x2, .ref (ad 5)]) hx hb hml hown hts hG hP (c_Row_get l K (fun k => ad (k + 5)) 10 (by decide) plo x2) [5, 6] rfl (q0 := 5) rfl (ci := 4) rfl g_Plan_40 hd_Row_get rfl ⟨Nat.le_of_ble_eq_true rfl, Nat.le_of_ble_eq_true rfl⟩ ⟨Nat.zero_le _, Nat.zero_le _⟩ hl rfl (Nat.le_of_ble_eq_true rfl) dX3_dropPoint_46 ?_
      refine lv_iload_n (pc := 49) hx hb dX3_dropPoint_49 rfl (lv_at hl 1 rfl) ?_
      refine rdS (pc := 50) (As := [.int (s_Row_get 10 plo x2), .int x1]) (rest := [.int x2, .ref (ad 5)]) hx hb hml hown hts hG (c_Plan_numberAfter l K (s_Row_get 10 plo x2) x1) g_Plan_84 hd_Plan_numberAfter rfl ⟨Nat.le_of_ble_eq_true rfl, Nat.le_of_ble_eq_true rfl⟩ ⟨Nat.zero_le _, Nat.zero_le _⟩ hl rfl (Nat.le_of_ble_eq_true rfl) dX3_dropPoint_50 ?_
      refine wrVv (pc := 53) (As := [.int x2, .int (s_Plan_numberAfter (s_Row_get 10 plo x2) x1)]) (rest := []) (ws2 := wPlan K ad pxs pys (s_Row_set 10 plo x2 (s_Plan_numberAfter (s_Row_get 10 plo x2) x1)) phi pn pm) (as9 := [ad 5, ad 6]) hx hb hml hown hts hG hP hD hS (c_Row_set l K (fun k => ad (k + 5)) 10 (by decide) plo x2 (s_Plan_numberAfter (s_Row_get 10 plo x2) x1)) [5, 6] rfl rfl rfl rfl [.inr 0, .inr 1, .inr 2, .inr 3, .inr 4, .inl 0, .inl 1, .inr 7, .inr 8] (by decide +kernel) rfl (q0 := 5) rfl (ci := 4) rfl g_Plan_77 hd_Row_set rfl ⟨Nat.le_of_ble_eq_true rfl, Nat.le_of_ble_eq_true rfl⟩ ⟨Nat.zero_le _, Nat.zero_le _⟩ hl rfl (Nat.le_of_ble_eq_true rfl) dX3_dropPoint_53 (fun H locs hP hD hS => ?_)
      refine lv_aload_n (pc := 56) hx hb dX3_dropPoint_56 rfl (lv_at hl 0 rfl) ?_
      refine va_get (D := K.1) (ci := 3) (v := .ref (ad 7)) (C := RX3) (T := TX3) (N := 6) (pc := 57) hx hb hts inT3 hown hG.1 hP 0 rfl rfl 3 (by decide) (hts _ qf_Plan_26) (fun _ h9 => h9) rfl dX3_dropPoint_57 ?_
      refine lv_iload_n (pc := 60) hx hb dX3_dropPoint_60 rfl (lv_at hl 2 rfl) ?_
      refine lv_aload_n (pc := 61) hx hb dX3_dropPoint_61 rfl (lv_at hl 0 rfl) ?_
      refine va_get (D := K.1) (ci := 3) (v := .ref (ad 7)) (C := RX3) (T := TX3) (N := 6) (pc := 62) hx hb hts inT3 hown hG.1 hP 0 rfl rfl 3 (by decide) (hts _ qf_Plan_26) (fun _ h9 => h9) rfl dX3_dropPoint_62 ?_
      refine lv_iload_n (pc := 65) hx hb dX3_dropPoint_65 rfl (lv_at hl 2 rfl) ?_
      refine rdV (pc := 66) (As := [.int x2]) (rest := [.int x2, .ref (ad 7)]) hx hb hml hown hts hG hP (c_Row_get l K (fun k => ad (k + 7)) 10 (by decide) phi x2) [7, 8] rfl (q0 := 7) rfl (ci := 4) rfl g_Plan_40 hd_Row_get rfl ⟨Nat.le_of_ble_eq_true rfl, Nat.le_of_ble_eq_true rfl⟩ ⟨Nat.zero_le _, Nat.zero_le _⟩ hl rfl (Nat.le_of_ble_eq_true rfl) dX3_dropPoint_66 ?_
      refine lv_iload_n (pc := 69) hx hb dX3_dropPoint_69 rfl (lv_at hl 1 rfl) ?_
      refine rdS (pc := 70) (As := [.int (s_Row_get 10 phi x2), .int x1]) (rest := [.int x2, .ref (ad 7)]) hx hb hml hown hts hG (c_Plan_numberAfter l K (s_Row_get 10 phi x2) x1) g_Plan_84 hd_Plan_numberAfter rfl ⟨Nat.le_of_ble_eq_true rfl, Nat.le_of_ble_eq_true rfl⟩ ⟨Nat.zero_le _, Nat.zero_le _⟩ hl rfl (Nat.le_of_ble_eq_true rfl) dX3_dropPoint_70 ?_
      refine wrVv (pc := 73) (As := [.int x2, .int (s_Plan_numberAfter (s_Row_get 10 phi x2) x1)]) (rest := []) (ws2 := wPlan K ad pxs pys (s_Row_set 10 plo x2 (s_Plan_numberAfter (s_Row_get 10 plo x2) x1)) (s_Row_set 10 phi x2 (s_Plan_numberAfter (s_Row_get 10 phi x2) x1)) pn pm) (as9 := [ad 7, ad 8]) hx hb hml hown hts hG hP hD hS (c_Row_set l K (fun k => ad (k + 7)) 10 (by decide) phi x2 (s_Plan_numberAfter (s_Row_get 10 phi x2) x1)) [7, 8] rfl rfl rfl rfl [.inr 0, .inr 1, .inr 2, .inr 3, .inr 4, .inr 5, .inr 6, .inl 0, .inl 1] (by decide +kernel) rfl (q0 := 7) rfl (ci := 4) rfl g_Plan_77 hd_Row_set rfl ⟨Nat.le_of_ble_eq_true rfl, Nat.le_of_ble_eq_true rfl⟩ ⟨Nat.zero_le _, Nat.zero_le _⟩ hl rfl (Nat.le_of_ble_eq_true rfl) dX3_dropPoint_73 (fun H locs hP hD hS => ?_)
      refine lv_iinc (v := (x2 + (1 : Int32))) (pc := 76) (lv' := [(2, .int (x2 + (1 : Int32))), (0, .ref (ad 0)), (1, .int x1)]) hx hb dX3_dropPoint_76 hl (k := 2) rfl rfl (by decide) rfl (fun ls hl => ?_)
      refine lv_goto (tgt := 28) (pc := 79) hx hb dX3_dropPoint_79 (by decide) ?_
      exact ih (x2 + (1 : Int32)) (s_Row_set 10 plo x2 (s_Plan_numberAfter (s_Row_get 10 plo x2) x1)) (s_Row_set 10 phi x2 (s_Plan_numberAfter (s_Row_get 10 phi x2) x1)) out h H locs ls hP hD hS (lv_sub hl [1, 2, 0] rfl) Kx 
set_option maxHeartbeats 4000000 in
set_option maxRecDepth 100000 in
theorem c_Plan_dropPoint (l : Launch) (K : KT) (ad : Nat → Nat) (pxs : Nat → Int32) (pys : Nat → Int32) (plo : Nat → Int32) (phi : Nat → Int32) (pn : Int32) (pm : Int32) (a0 : Int32) (F : Nat) {o : (Nat → Int32) × (Nat → Int32) × (Nat → Int32) × (Nat → Int32) × Int32} (h : s_Plan_dropPoint F pxs pys plo phi pn pm a0 = some o) : Wr l K 2 yX3_dropPoint cX3_dropPoint 3 none [.ref (ad 0), .int a0] (wPlan K ad pxs pys plo phi pn pm) none (wPlan K ad o.1 o.2.1 o.2.2.1 o.2.2.2.1 o.2.2.2.2 pm) := by
  refine Wr.of (by decide +kernel) (Nat.le_of_ble_eq_true rfl) ?_
  unfold s_Plan_dropPoint at h
  intro p e s m below meth c hx hb hr hml hown hts hlk H locs hP hG hD hS ls hl
  have C0 : Ctx p m c cX3_dropPoint 3 s (Array.mk [.ref (ad 0), .int a0]) RX3 K meth none := ⟨hx, hb, hml, hown, hts, hG, hr, hlk⟩
  have hl : lv_has ls 3 [(0, .ref (ad 0)), (1, .int a0)] := hl
  refine lv_aload_n (pc := 0) hx hb dX3_dropPoint_0 rfl (lv_at hl 0 rfl) ?_
  refine va_get (D := K.1) (ci := 3) (v := .ref (ad 1)) (C := RX3) (T := TX3) (N := 6) (pc := 1) hx hb hts inT3 hown hG.1 hP 0 rfl rfl 0 (by decide) (hts _ qf_Plan_14) (fun _ h9 => h9) rfl dX3_dropPoint_1 ?_
  refine lv_iload_n (pc := 4) hx hb dX3_dropPoint_4 rfl (lv_at hl 1 rfl) ?_
  obtain ⟨v1, h_v1, h⟩ := ob h
  refine wrVv (pc := 5) (As := [.int a0]) (rest := []) (ws2 := wPlan K ad v1 pys plo phi pn pm) (as9 := [ad 1, ad 2]) hx hb hml hown hts hG hP hD hS (c_Row_closeGap l K (fun k => ad (k + 1)) 16 (by decide) pxs a0 F h_v1) [1, 2] rfl rfl rfl rfl [.inr 0, .inl 0, .inl 1, .inr 3, .inr 4, .inr 5, .inr 6, .inr 7, .inr 8] (by decide +kernel) rfl (q0 := 1) rfl (ci := 4) rfl g_Plan_81 hd_Row_closeGap rfl ⟨Nat.le_of_ble_eq_true rfl, Nat.le_of_ble_eq_true rfl⟩ ⟨Nat.zero_le _, Nat.zero_le _⟩ hl rfl (Nat.le_of_ble_eq_true rfl) dX3_dropPoint_5 (fun H locs hP hD hS => ?_)
  refine lv_aload_n (pc := 8) hx hb dX3_dropPoint_8 rfl (lv_at hl 0 rfl) ?_
  refine va_get (D := K.1) (ci := 3) (v := .ref (ad 3)) (C := RX3) (T := TX3) (N := 6) (pc := 9) hx hb hts inT3 hown hG.1 hP 0 rfl rfl 1 (by decide) (hts _ qf_Plan_20) (fun _ h9 => h9) rfl dX3_dropPoint_9 ?_
  refine lv_iload_n (pc := 12) hx hb dX3_dropPoint_12 rfl (lv_at hl 1 rfl) ?_
  obtain ⟨v2, h_v2, h⟩ := ob h
  refine wrVv (pc := 13) (As := [.int a0]) (rest := []) (ws2 := wPlan K ad v1 v2 plo phi pn pm) (as9 := [ad 3, ad 4]) hx hb hml hown hts hG hP hD hS (c_Row_closeGap l K (fun k => ad (k + 3)) 16 (by decide) pys a0 F h_v2) [3, 4] rfl rfl rfl rfl [.inr 0, .inr 1, .inr 2, .inl 0, .inl 1, .inr 5, .inr 6, .inr 7, .inr 8] (by decide +kernel) rfl (q0 := 3) rfl (ci := 4) rfl g_Plan_81 hd_Row_closeGap rfl ⟨Nat.le_of_ble_eq_true rfl, Nat.le_of_ble_eq_true rfl⟩ ⟨Nat.zero_le _, Nat.zero_le _⟩ hl rfl (Nat.le_of_ble_eq_true rfl) dX3_dropPoint_13 (fun H locs hP hD hS => ?_)
  refine lv_aload_n (pc := 16) hx hb dX3_dropPoint_16 rfl (lv_at hl 0 rfl) ?_
  refine lv_dup (pc := 17) hx hb dX3_dropPoint_17 rfl ?_
  refine va_get (D := K.1) (ci := 3) (v := .int pn) (C := RX3) (T := TX3) (N := 6) (pc := 18) hx hb hts inT3 hown hG.1 hP 0 rfl rfl 4 (by decide) (hts _ qf_Plan_29) (fun _ h9 => h9) rfl dX3_dropPoint_18 ?_
  refine lv_iconst (v := (1 : Int32)) (pc := 21) hx hb dX3_dropPoint_21 (by decide) ?_
  refine lv_isub (pc := 22) hx hb dX3_dropPoint_22 ?_
  refine va_put (D := K.1) (ci := 3) (v := .int (pn - (1 : Int32))) (ty := .int) (C := RX3) (T := TX3) (N := 6) (pc := 23) hx hb hts inT3 tyX3 tyX3_ok nmX3 hown hG.1 hP hD hS 0 rfl rfl 4 (by decide) (hts _ qf_Plan_29) (fun _ h9 => h9) rfl (by decide +kernel) rfl rfl (Nat.le_of_ble_eq_true rfl) dX3_dropPoint_23 (fun H locs hP hD hS => ?_)
  have hP : va_P K.1 vC (wPlan K ad v1 v2 plo phi (pn - (1 : Int32)) pm) H := hP
  have hD : va_D _ (wPlan K ad v1 v2 plo phi (pn - (1 : Int32)) pm) := hD
  refine lv_iconst (v := (0 : Int32)) (pc := 26) hx hb dX3_dropPoint_26 (by decide) ?_
  refine lv_istore_n (pc := 27) (lv' := [(2, .int (0 : Int32)), (0, .ref (ad 0)), (1, .int a0)]) hx hb dX3_dropPoint_27 rfl hl (by decide) rfl (fun ls hl => ?_)
  obtain ⟨o4, h_o4, h⟩ := ob h
  refine l_Plan_dropPoint_L28 C0 F ad v1 v2 (pn - (1 : Int32)) pm a0 F (0 : Int32) plo phi _ h_o4 H locs ls hP hD hS (lv_sub hl [1, 2, 0] rfl) (fun o4x H locs ls eo hP hD hS hl => ?_)
  subst o4
  obtain rfl := Option.some.inj h
  exact W.vret hx hb hr (fun t ht hW => ⟨⟨rfl, by rw [ht]; exact hP⟩, hS.F ht⟩) hS.2.2 dX3_dropPoint_82 hlk
set_option maxHeartbeats 4000000 in
set_option maxRecDepth 100000 in
theorem c_Plan_appendConstraint (l : Launch) (K : KT) (ad : Nat → Nat) (pxs : Nat → Int32) (pys : Nat → Int32) (plo : Nat → Int32) (phi : Nat → Int32) (pn : Int32) (pm : Int32) (a0 : Int32) (a1 : Int32) : Wr l K 1 yX3_appendConstraint cX3_appendConstraint 3 none [.ref (ad 0), .int a0, .int a1] (wPlan K ad pxs pys plo phi pn pm) none (wPlan K ad pxs pys ((s_Plan_appendConstraint plo phi pm a0 a1).1) ((s_Plan_appendConstraint plo phi pm a0 a1).2.1) pn ((s_Plan_appendConstraint plo phi pm a0 a1).2.2)) := by
  generalize h : s_Plan_appendConstraint plo phi pm a0 a1 = o
  refine Wr.of (by decide +kernel) (Nat.le_of_ble_eq_true rfl) ?_
  unfold s_Plan_appendConstraint at h
  intro p e s m below meth c hx hb hr hml hown hts hlk H locs hP hG hD hS ls hl
  have C0 : Ctx p m c cX3_appendConstraint 3 s (Array.mk [.ref (ad 0), .int a0, .int a1]) RX3 K meth none := ⟨hx, hb, hml, hown, hts, hG, hr, hlk⟩
  have hl : lv_has ls 3 [(0, .ref (ad 0)), (1, .int a0), (2, .int a1)] := hl
  refine lv_aload_n (pc := 0) hx hb dX3_appendConstraint_0 rfl (lv_at hl 0 rfl) ?_
  refine va_get (D := K.1) (ci := 3) (v := .ref (ad 5)) (C := RX3) (T := TX3) (N := 6) (pc := 1) hx hb hts inT3 hown hG.1 hP 0 rfl rfl 2 (by decide) (hts _ qf_Plan_23) (fun _ h9 => h9) rfl dX3_appendConstraint_1 ?_
  refine lv_aload_n (pc := 4) hx hb dX3_appendConstraint_4 rfl (lv_at hl 0 rfl) ?_
  refine va_get (D := K.1) (ci := 3) (v := .int pm) (C := RX3) (T := TX3) (N := 6) (pc := 5) hx hb hts inT3 hown hG.1 hP 0 rfl rfl 5 (by decide) (hts _ qf_Plan_33) (fun _ h9 => h9) rfl dX3_appendConstraint_5 ?_
  refine lv_iload_n (pc := 8) hx hb dX3_appendConstraint_8 rfl (lv_at hl 1 rfl) ?_
  refine lv_iload_n (pc := 9) hx hb dX3_appendConstraint_9 rfl (lv_at hl 2 rfl) ?_
  refine my_mmin (pc := 10) hx hb hml hl.1 hown hts qm_Plan_44 (Nat.le_of_ble_eq_true rfl) (Nat.le_of_ble_eq_true rfl) ⟨Nat.zero_le _, Nat.zero_le _⟩ dX3_appendConstraint_10 ?_
  refine wrVv (pc := 13) (As := [.int pm, .int (imin a0 a1)]) (rest := []) (ws2 := wPlan K ad pxs pys (s_Row_set 10 plo pm (imin a0 a1)) phi pn pm) (as9 := [ad 5, ad 6]) hx hb hml hown hts hG hP hD hS (c_Row_set l K (fun k => ad (k + 5)) 10 (by decide) plo pm (imin a0 a1)) [5, 6] rfl rfl rfl rfl [.inr 0, .inr 1, .inr 2, .inr 3, .inr 4, .inl 0, .inl 1, .inr 7, .inr 8] (by decide +kernel) rfl (q0 := 5) rfl (ci := 4) rfl g_Plan_77 hd_Row_set rfl ⟨Nat.le_of_ble_eq_true rfl, Nat.le_of_ble_eq_true rfl⟩ ⟨Nat.zero_le _, Nat.zero_le _⟩ hl rfl (Nat.le_of_ble_eq_true rfl) dX3_appendConstraint_13 (fun H locs hP hD hS => ?_)
  refine lv_aload_n (pc := 16) hx hb dX3_appendConstraint_16 rfl (lv_at hl 0 rfl) ?_
  refine va_get (D := K.1) (ci := 3) (v := .ref (ad 7)) (C := RX3) (T := TX3) (N := 6) (pc := 17) hx hb hts inT3 hown hG.1 hP 0 rfl rfl 3 (by decide) (hts _ qf_Plan_26) (fun _ h9 => h9) rfl dX3_appendConstraint_17 ?_
  refine lv_aload_n (pc := 20) hx hb dX3_appendConstraint_20 rfl (lv_at hl 0 rfl) ?_
  refine va_get (D := K.1) (ci := 3) (v := .int pm) (C := RX3) (T := TX3) (N := 6) (pc := 21) hx hb hts inT3 hown hG.1 hP 0 rfl rfl 5 (by decide) (hts _ qf_Plan_33) (fun _ h9 => h9) rfl dX3_appendConstraint_21 ?_
  refine lv_iload_n (pc := 24) hx hb dX3_appendConstraint_24 rfl (lv_at hl 1 rfl) ?_
  refine lv_iload_n (pc := 25) hx hb dX3_appendConstraint_25 rfl (lv_at hl 2 rfl) ?_
  refine my_mmax (pc := 26) hx hb hml hl.1 hown hts qm_Plan_50 (Nat.le_of_ble_eq_true rfl) (Nat.le_of_ble_eq_true rfl) ⟨Nat.zero_le _, Nat.zero_le _⟩ dX3_appendConstraint_26 ?_
  refine wrVv (pc := 29) (As := [.int pm, .int (imax a0 a1)]) (rest := []) (ws2 := wPlan K ad pxs pys (s_Row_set 10 plo pm (imin a0 a1)) (s_Row_set 10 phi pm (imax a0 a1)) pn pm) (as9 := [ad 7, ad 8]) hx hb hml hown hts hG hP hD hS (c_Row_set l K (fun k => ad (k + 7)) 10 (by decide) phi pm (imax a0 a1)) [7, 8] rfl rfl rfl rfl [.inr 0, .inr 1, .inr 2, .inr 3, .inr 4, .inr 5, .inr 6, .inl 0, .inl 1] (by decide +kernel) rfl (q0 := 7) rfl (ci := 4) rfl g_Plan_77 hd_Row_set rfl ⟨Nat.le_of_ble_eq_true rfl, Nat.le_of_ble_eq_true rfl⟩ ⟨Nat.zero_le _, Nat.zero_le _⟩ hl rfl (Nat.le_of_ble_eq_true rfl) dX3_appendConstraint_29 (fun H locs hP hD hS => ?_)
  refine lv_aload_n (pc := 32) hx hb dX3_appendConstraint_32 rfl (lv_at hl 0 rfl) ?_
  refine lv_dup (pc := 33) hx hb dX3_appendConstraint_33 rfl ?_
  refine va_get (D := K.1) (ci := 3) (v := .int pm) (C := RX3) (T := TX3) (N := 6) (pc := 34) hx hb hts inT3 hown hG.1 hP 0 rfl rfl 5 (by decide) (hts _ qf_Plan_33) (fun _ h9 => h9) rfl dX3_appendConstraint_34 ?_
  refine lv_iconst (v := (1 : Int32)) (pc := 37) hx hb dX3_appendConstraint_37 (by decide) ?_
  refine lv_iadd (pc := 38) hx hb dX3_appendConstraint_38 ?_
  refine va_put (D := K.1) (ci := 3) (v := .int (pm + (1 : Int32))) (ty := .int) (C := RX3) (T := TX3) (N := 6) (pc := 39) hx hb hts inT3 tyX3 tyX3_ok nmX3 hown hG.1 hP hD hS 0 rfl rfl 5 (by decide) (hts _ qf_Plan_33) (fun _ h9 => h9) rfl (by decide +kernel) rfl rfl (Nat.le_of_ble_eq_true rfl) dX3_appendConstraint_39 (fun H locs hP hD hS => ?_)
  have hP : va_P K.1 vC (wPlan K ad pxs pys (s_Row_set 10 plo pm (imin a0 a1)) (s_Row_set 10 phi pm (imax a0 a1)) pn (pm + (1 : Int32))) H := hP
  have hD : va_D _ (wPlan K ad pxs pys (s_Row_set 10 plo pm (imin a0 a1)) (s_Row_set 10 phi pm (imax a0 a1)) pn (pm + (1 : Int32))) := hD
  subst h
  exact W.vret hx hb hr (fun t ht hW => ⟨⟨rfl, by rw [ht]; exact hP⟩, hS.F ht⟩) hS.2.2 dX3_appendConstraint_42 hlk
set_option maxHeartbeats 4000000 in
set_option maxRecDepth 100000 in
theorem c_Plan_dropConstraint (l : Launch) (K : KT) (ad : Nat → Nat) (pxs : Nat → Int32) (pys : Nat → Int32) (plo : Nat → Int32) (phi : Nat → Int32) (pn : Int32) (pm : Int32) (a0 : Int32) (F : Nat) {o : (Nat → Int32) × (Nat → Int32) × Int32} (h : s_Plan_dropConstraint F plo phi pm a0 = some o) : Wr l K 2 yX3_dropConstraint cX3_dropConstraint 2 none [.ref (ad 0), .int a0] (wPlan K ad pxs pys plo phi pn pm) none (wPlan K ad pxs pys o.1 o.2.1 pn o.2.2) := by
  refine Wr.of (by decide +kernel) (Nat.le_of_ble_eq_true rfl) ?_
  unfold s_Plan_dropConstraint at h
  intro p e s m below meth c hx hb hr hml hown hts hlk H locs hP hG hD hS ls hl
  have C0 : Ctx p m c cX3_dropConstraint 2 s (Array.mk [.ref (ad 0), .int a0]) RX3 K meth none := ⟨hx, hb, hml, hown, hts, hG, hr, hlk⟩
  have hl : lv_has ls 2 [(0, .ref (ad 0)), (1, .int a0)] := hl
  refine lv_aload_n (pc := 0) hx hb dX3_dropConstraint_0 rfl (lv_at hl 0 rfl) ?_
  refine va_get (D := K.1) (ci := 3) (v := .ref (ad 5)) (C := RX3) (T := TX3) (N := 6) (pc := 1) hx hb hts inT3 hown hG.1 hP 0 rfl rfl 2 (by decide) (hts _ qf_Plan_23) (fun _ h9 => h9) rfl dX3_dropConstraint_1 ?_
  refine lv_iload_n (pc := 4) hx hb dX3_dropConstraint_4 rfl (lv_at hl 1 rfl) ?_
  obtain ⟨v1, h_v1, h⟩ := ob h
  refine wrVv (pc := 5) (As := [.int a0]) (rest := []) (ws2 := wPlan K ad pxs pys v1 phi pn pm) (as9 := [ad 5, ad 6]) hx hb hml hown hts hG hP hD hS (c_Row_closeGap l K (fun k => ad (k + 5)) 10 (by decide) plo a0 F h_v1) [5, 6] rfl rfl rfl rfl [.inr 0, .inr 1, .inr 2, .inr 3, .inr 4, .inl 0, .inl 1, .inr 7, .inr 8] (by decide +kernel) rfl (q0 := 5) rfl (ci := 4) rfl g_Plan_81 hd_Row_closeGap rfl ⟨Nat.le_of_ble_eq_true rfl, Nat.le_of_ble_eq_true rfl⟩ ⟨Nat.zero_le _, Nat.zero_le _⟩ hl rfl (Nat.le_of_ble_eq_true rfl) dX3_dropConstraint_5 (fun H locs hP hD hS => ?_)
  refine lv_aload_n (pc := 8) hx hb dX3_dropConstraint_8 rfl (lv_at hl 0 rfl) ?_
  refine va_get (D := K.1) (ci := 3) (v := .ref (ad 7)) (C := RX3) (T := TX3) (N := 6) (pc := 9) hx hb hts inT3 hown hG.1 hP 0 rfl rfl 3 (by decide) (hts _ qf_Plan_26) (fun _ h9 => h9) rfl dX3_dropConstraint_9 ?_
  refine lv_iload_n (pc := 12) hx hb dX3_dropConstraint_12 rfl (lv_at hl 1 rfl) ?_
  obtain ⟨v2, h_v2, h⟩ := ob h
  refine wrVv (pc := 13) (As := [.int a0]) (rest := []) (ws2 := wPlan K ad pxs pys v1 v2 pn pm) (as9 := [ad 7, ad 8]) hx hb hml hown hts hG hP hD hS (c_Row_closeGap l K (fun k => ad (k + 7)) 10 (by decide) phi a0 F h_v2) [7, 8] rfl rfl rfl rfl [.inr 0, .inr 1, .inr 2, .inr 3, .inr 4, .inr 5, .inr 6, .inl 0, .inl 1] (by decide +kernel) rfl (q0 := 7) rfl (ci := 4) rfl g_Plan_81 hd_Row_closeGap rfl ⟨Nat.le_of_ble_eq_true rfl, Nat.le_of_ble_eq_true rfl⟩ ⟨Nat.zero_le _, Nat.zero_le _⟩ hl rfl (Nat.le_of_ble_eq_true rfl) dX3_dropConstraint_13 (fun H locs hP hD hS => ?_)
  refine lv_aload_n (pc := 16) hx hb dX3_dropConstraint_16 rfl (lv_at hl 0 rfl) ?_
  refine lv_dup (pc := 17) hx hb dX3_dropConstraint_17 rfl ?_
  refine va_get (D := K.1) (ci := 3) (v := .int pm) (C := RX3) (T := TX3) (N := 6) (pc := 18) hx hb hts inT3 hown hG.1 hP 0 rfl rfl 5 (by decide) (hts _ qf_Plan_33) (fun _ h9 => h9) rfl dX3_dropConstraint_18 ?_
  refine lv_iconst (v := (1 : Int32)) (pc := 21) hx hb dX3_dropConstraint_21 (by decide) ?_
  refine lv_isub (pc := 22) hx hb dX3_dropConstraint_22 ?_
  refine va_put (D := K.1) (ci := 3) (v := .int (pm - (1 : Int32))) (ty := .int) (C := RX3) (T := TX3) (N := 6) (pc := 23) hx hb hts inT3 tyX3 tyX3_ok nmX3 hown hG.1 hP hD hS 0 rfl rfl 5 (by decide) (hts _ qf_Plan_33) (fun _ h9 => h9) rfl (by decide +kernel) rfl rfl (Nat.le_of_ble_eq_true rfl) dX3_dropConstraint_23 (fun H locs hP hD hS => ?_)
  have hP : va_P K.1 vC (wPlan K ad pxs pys v1 v2 pn (pm - (1 : Int32))) H := hP
  have hD : va_D _ (wPlan K ad pxs pys v1 v2 pn (pm - (1 : Int32))) := hD
  obtain rfl := Option.some.inj h
  exact W.vret hx hb hr (fun t ht hW => ⟨⟨rfl, by rw [ht]; exact hP⟩, hS.F ht⟩) hS.2.2 dX3_dropConstraint_26 hlk
