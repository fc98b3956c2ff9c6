set_option maxHeartbeats 4000000 in
set_option maxRecDepth 100000 in
theorem c_Top_constraintEnd (l : Launch) (K : KT) (hl0 : l.stackTraces = false) (ad : Nat → Nat) (pxs : Nat → Int32) (pys : Nat → Int32) (plo : Nat → Int32) (phi : Nat → Int32) (pn : Int32) (pm : Int32) (lf : Nat → Int32) (th : Nat → Int32) (ow : Nat → Int32) (lk : Nat → Int32) (el : Nat → Int32) (eh : Nat → Int32) (co : Nat → Int32) (hu : Nat → Int32) (ne : Int32) (nt : Int32) (nh : Int32) (tpxs : Nat → Int32) (tpys : Nat → Int32) (tplo : Nat → Int32) (tphi : Nat → Int32) (tpn : Int32) (tpm : Int32) (tlf : Nat → Int32) (tth : Nat → Int32) (tow : Nat → Int32) (tlk : Nat → Int32) (tel : Nat → Int32) (teh : Nat → Int32) (tco : Nat → Int32) (thu : Nat → Int32) (tne : Int32) (tnt : Int32) (tnh : Int32) (spxs : Nat → Int32) (spys : Nat → Int32) (splo : Nat → Int32) (sphi : Nat → Int32) (spn : Int32) (spm : Int32) (ich : Nat → Int32) (ifs : Nat → Int32) (isc : Nat → Int32) (isg : Nat → Int32) (iln : Int32) (ien : Int32) (iin : Bool) (idg : Int32) (iva : Int32) (hp : Nat → PlanS) (hnx : Int32) (hkp : Int32) (hsv : Bool) (a0 : Int32) (a1 : Int32) : Xm l K 7 2 yX6_constraintEnd cX6_constraintEnd 3 (some .int) [.ref (ad 0), .int a0, .int a1] (wTop K ad pxs pys plo phi pn pm lf th ow lk el eh co hu ne nt nh tpxs tpys tplo tphi tpn tpm tlf tth tow tlk tel teh tco thu tne tnt tnh spxs spys splo sphi spn spm ich ifs isc isg iln ien iin idg iva hp hnx hkp hsv) (Sum.map id (fun q => (some (.int q), wTop K ad pxs pys plo phi pn pm lf th ow lk el eh co hu ne nt nh tpxs tpys tplo tphi tpn tpm tlf tth tow tlk tel teh tco thu tne tnt tnh spxs spys splo sphi spn spm ich ifs isc isg iln ien iin idg iva hp hnx hkp hsv)) (s_Top_constraintEnd plo phi pm a0 a1)) := by
  generalize h : s_Top_constraintEnd plo phi pm a0 a1 = o
  refine Xm.of hl0 (by decide +kernel) (Nat.le_of_ble_eq_true rfl) ?_
  unfold s_Top_constraintEnd at h
  intro p e s m below meth c C0X H locs hP hD hS ls hl
  obtain ⟨⟨hx, hb, hml, hown, hts, hG, hr, hlk⟩, hl1, htb, hG1, hZ⟩ := id C0X
  have C0 := C0X.1
  have hl : lv_has ls 3 [(0, .ref (ad 0)), (1, .int a0), (2, .int a1)] := hl
  refine lv_aload_n (pc := 0) hx hb dX6_constraintEnd_0 rfl (lv_at hl 0 rfl) ?_
  refine lv_iload_n (pc := 1) hx hb dX6_constraintEnd_1 rfl (lv_at hl 1 rfl) ?_
  refine xVs (pc := 2) (mc := 2) (As := [.int a0]) (rest := []) (so := (s_Top_requireConstraint pm a0)) C0X hP hD hS (c_Top_requireConstraint l K hl0 ad pxs pys plo phi pn pm lf th ow lk el eh co hu ne nt nh tpxs tpys tplo tphi tpn tpm tlf tth tow tlk tel teh tco thu tne tnt tnh spxs spys splo sphi spn spm ich ifs isc isg iln ien iin idg iva hp hnx hkp hsv a0) (q0 := 0) rfl (ci := 6) rfl g_Top_130 hd_Top_requireConstraint rfl ⟨(Nat.le_of_ble_eq_true rfl), (Nat.le_of_ble_eq_true rfl)⟩ ⟨(Nat.le_of_ble_eq_true rfl), (Nat.le_of_ble_eq_true rfl)⟩ ⟨(Nat.le_of_ble_eq_true rfl), (Nat.le_of_ble_eq_true rfl)⟩ hl rfl (Nat.le_of_ble_eq_true rfl) dX6_constraintEnd_2 (fun E hE => ?_) (fun hE H locs hP hS => ?_)
  · rw [hE] at h
    have h := se_l h
    subst h
    rfl
  · rw [hE] at h
    have h := se_r h
    refine lv_aload_n (pc := 5) hx hb dX6_constraintEnd_5 rfl (lv_at hl 0 rfl) ?_
    refine lv_iload_n (pc := 6) hx hb dX6_constraintEnd_6 rfl (lv_at hl 2 rfl) ?_
    refine xVs (pc := 7) (mc := 2) (As := [.int a1]) (rest := []) (so := (s_Top_requireBit a1)) C0X hP hD hS (c_Top_requireBit l K hl0 ad pxs pys plo phi pn pm lf th ow lk el eh co hu ne nt nh tpxs tpys tplo tphi tpn tpm tlf tth tow tlk tel teh tco thu tne tnt tnh spxs spys splo sphi spn spm ich ifs isc isg iln ien iin idg iva hp hnx hkp hsv a1) (q0 := 0) rfl (ci := 6) rfl g_Top_101 hd_Top_requireBit rfl ⟨(Nat.le_of_ble_eq_true rfl), (Nat.le_of_ble_eq_true rfl)⟩ ⟨(Nat.le_of_ble_eq_true rfl), (Nat.le_of_ble_eq_true rfl)⟩ ⟨(Nat.le_of_ble_eq_true rfl), (Nat.le_of_ble_eq_true rfl)⟩ hl rfl (Nat.le_of_ble_eq_true rfl) dX6_constraintEnd_7 (fun E hE => ?_) (fun hE H locs hP hS => ?_)
    · rw [hE] at h
      have h := se_l h
      subst h
      rfl
    · rw [hE] at h
      have h := se_r h
      refine lv_iload_n (pc := 10) hx hb dX6_constraintEnd_10 rfl (lv_at hl 2 rfl) ?_
      refine lv_if_ne (tgt := 25) (pc := 11) hx hb dX6_constraintEnd_11 (by decide) (fun c1 => ?_) (fun c1 => ?_)
      · have h := it_f c1 h
        refine lv_aload_n (pc := 25) hx hb dX6_constraintEnd_25 rfl (lv_at hl 0 rfl) ?_
        refine va_get (D := K.1) (ci := 6) (v := .ref (ad 2)) (C := RX6) (T := TX6) (N := 8) (pc := 26) hx hb hts inT6 hown hG.1 hP 0 rfl rfl 0 (by decide) (hts _ qf_Top_10) (fun _ h9 => h9) rfl dX6_constraintEnd_26 ?_
        refine lv_iload_n (pc := 29) hx hb dX6_constraintEnd_29 rfl (lv_at hl 1 rfl) ?_
        refine rdV (pc := 30) (As := [.int a0]) (rest := []) hx hb hml hown hts hG hP (c_Plan_highEnd l K (fun k => ad (k + 2)) pxs pys plo phi pn pm a0) [2, 3, 4, 5, 6, 7, 8, 9, 10] rfl (q0 := 2) rfl (ci := 3) rfl g_Top_139 hd_Plan_highEnd rfl ⟨Nat.le_of_ble_eq_true rfl, Nat.le_of_ble_eq_true rfl⟩ ⟨Nat.le_of_ble_eq_true rfl, Nat.le_of_ble_eq_true rfl⟩ hl rfl (Nat.le_of_ble_eq_true rfl) dX6_constraintEnd_30 ?_
        subst h
        refine vx_ret ?_
        refine W.widen (k := 2) (n := 12) (Nat.le_of_ble_eq_true rfl) (Nat.le_of_ble_eq_true rfl) ?_
        exact W.iret hx hb hr (fun t ht hW => ⟨⟨_, _, rfl, rfl, by rw [ht]; exact hP⟩, hS.F ht⟩) hS.2.2 dX6_constraintEnd_33 hlk
      · have h := it_t c1 h
        refine lv_aload_n (pc := 14) hx hb dX6_constraintEnd_14 rfl (lv_at hl 0 rfl) ?_
        refine va_get (D := K.1) (ci := 6) (v := .ref (ad 2)) (C := RX6) (T := TX6) (N := 8) (pc := 15) hx hb hts inT6 hown hG.1 hP 0 rfl rfl 0 (by decide) (hts _ qf_Top_10) (fun _ h9 => h9) rfl dX6_constraintEnd_15 ?_
        refine lv_iload_n (pc := 18) hx hb dX6_constraintEnd_18 rfl (lv_at hl 1 rfl) ?_
        refine rdV (pc := 19) (As := [.int a0]) (rest := []) hx hb hml hown hts hG hP (c_Plan_lowEnd l K (fun k => ad (k + 2)) pxs pys plo phi pn pm a0) [2, 3, 4, 5, 6, 7, 8, 9, 10] rfl (q0 := 2) rfl (ci := 3) rfl g_Top_136 hd_Plan_lowEnd rfl ⟨Nat.le_of_ble_eq_true rfl, Nat.le_of_ble_eq_true rfl⟩ ⟨Nat.le_of_ble_eq_true rfl, Nat.le_of_ble_eq_true rfl⟩ hl rfl (Nat.le_of_ble_eq_true rfl) dX6_constraintEnd_19 ?_
        refine lv_goto (tgt := 33) (pc := 22) hx hb dX6_constraintEnd_22 (by decide) ?_
        subst h
        refine vx_ret ?_
        refine W.widen (k := 2) (n := 12) (Nat.le_of_ble_eq_true rfl) (Nat.le_of_ble_eq_true rfl) ?_
        exact W.iret hx hb hr (fun t ht hW => ⟨⟨_, _, rfl, rfl, by rw [ht]; exact hP⟩, hS.F ht⟩) hS.2.2 dX6_constraintEnd_33 hlk
set_option maxHeartbeats 4000000 in
set_option maxRecDepth 100000 in
theorem c_Top_feed (l : Launch) (K : KT) (hl0 : l.stackTraces = false) (ad : Nat → Nat) (pxs : Nat → Int32) (pys : Nat → Int32) (plo : Nat → Int32) (phi : Nat → Int32) (pn : Int32) (pm : Int32) (lf : Nat → Int32) (th : Nat → Int32) (ow : Nat → Int32) (lk : Nat → Int32) (el : Nat → Int32) (eh : Nat → Int32) (co : Nat → Int32) (hu : Nat → Int32) (ne : Int32) (nt : Int32) (nh : Int32) (tpxs : Nat → Int32) (tpys : Nat → Int32) (tplo : Nat → Int32) (tphi : Nat → Int32) (tpn : Int32) (tpm : Int32) (tlf : Nat → Int32) (tth : Nat → Int32) (tow : Nat → Int32) (tlk : Nat → Int32) (tel : Nat → Int32) (teh : Nat → Int32) (tco : Nat → Int32) (thu : Nat → Int32) (tne : Int32) (tnt : Int32) (tnh : Int32) (spxs : Nat → Int32) (spys : Nat → Int32) (splo : Nat → Int32) (sphi : Nat → Int32) (spn : Int32) (spm : Int32) (ich : Nat → Int32) (ifs : Nat → Int32) (isc : Nat → Int32) (isg : Nat → Int32) (iln : Int32) (ien : Int32) (iin : Bool) (idg : Int32) (iva : Int32) (hp : Nat → PlanS) (hnx : Int32) (hkp : Int32) (hsv : Bool) (a0 : Int32) : Xm l K 6 1 yX6_feed cX6_feed 2 (some .int) [.ref (ad 0), .int a0] (wTop K ad pxs pys plo phi pn pm lf th ow lk el eh co hu ne nt nh tpxs tpys tplo tphi tpn tpm tlf tth tow tlk tel teh tco thu tne tnt tnh spxs spys splo sphi spn spm ich ifs isc isg iln ien iin idg iva hp hnx hkp hsv) (Sum.map id (fun q => (some (.int q.1), wTop K ad pxs pys plo phi pn pm lf th ow lk el eh co hu ne nt nh tpxs tpys tplo tphi tpn tpm tlf tth tow tlk tel teh tco thu tne tnt tnh spxs spys splo sphi spn spm q.2.1 ifs isc isg q.2.2 ien iin idg iva hp hnx hkp hsv)) (s_Top_feed ich iln a0)) := by
  generalize h : s_Top_feed ich iln a0 = o
  refine Xm.of hl0 (by decide +kernel) (Nat.le_of_ble_eq_true rfl) ?_
  unfold s_Top_feed at h
  intro p e s m below meth c C0X H locs hP hD hS ls hl
  obtain ⟨⟨hx, hb, hml, hown, hts, hG, hr, hlk⟩, hl1, htb, hG1, hZ⟩ := id C0X
  have C0 := C0X.1
  have hl : lv_has ls 2 [(0, .ref (ad 0)), (1, .int a0)] := hl
  refine lv_aload_n (pc := 0) hx hb dX6_feed_0 rfl (lv_at hl 0 rfl) ?_
  refine va_get (D := K.1) (ci := 6) (v := .ref (ad 62)) (C := RX6) (T := TX6) (N := 8) (pc := 1) hx hb hts inT6 hown hG.1 hP 0 rfl rfl 6 (by decide) (hts _ qf_Top_44) (fun _ h9 => h9) rfl dX6_feed_1 ?_
  refine rdV (pc := 4) (As := []) (rest := []) hx hb hml hown hts hG hP (c_Input_length l K (fun k => ad (k + 62)) ich ifs isc isg iln ien iin idg iva) [62, 63, 64, 65, 66, 67, 68, 69, 70] rfl (q0 := 62) rfl (ci := 1) rfl g_Top_142 hd_Input_length rfl ⟨Nat.le_of_ble_eq_true rfl, Nat.le_of_ble_eq_true rfl⟩ ⟨Nat.le_of_ble_eq_true rfl, Nat.le_of_ble_eq_true rfl⟩ hl rfl (Nat.le_of_ble_eq_true rfl) dX6_feed_4 ?_
  refine lv_bipush (v := (60 : Int32)) (pc := 7) hx hb dX6_feed_7 (by decide) ?_
  refine lv_icmp_lt (tgt := 22) (pc := 9) hx hb dX6_feed_9 (by decide) (fun c1 => ?_) (fun c1 => ?_)
  · have h := it_t c1 h
    refine lv_aload_n (pc := 22) hx hb dX6_feed_22 rfl (lv_at hl 0 rfl) ?_
    refine va_get (D := K.1) (ci := 6) (v := .ref (ad 62)) (C := RX6) (T := TX6) (N := 8) (pc := 23) hx hb hts inT6 hown hG.1 hP 0 rfl rfl 6 (by decide) (hts _ qf_Top_44) (fun _ h9 => h9) rfl dX6_feed_23 ?_
    refine lv_iload_n (pc := 26) hx hb dX6_feed_26 rfl (lv_at hl 1 rfl) ?_
    refine wrVv (pc := 27) (As := [.int a0]) (rest := []) (ws2 := wTop K ad pxs pys plo phi pn pm lf th ow lk el eh co hu ne nt nh tpxs tpys tplo tphi tpn tpm tlf tth tow tlk tel teh tco thu tne tnt tnh spxs spys splo sphi spn spm ((s_Input_append ich iln a0).1) ifs isc isg ((s_Input_append ich iln a0).2) ien iin idg iva hp hnx hkp hsv) (as9 := [ad 62, ad 63, ad 64, ad 65, ad 66, ad 67, ad 68, ad 69, ad 70]) hx hb hml hown hts hG hP hD hS (c_Input_append l K (fun k => ad (k + 62)) ich ifs isc isg iln ien iin idg iva a0) [62, 63, 64, 65, 66, 67, 68, 69, 70] rfl rfl rfl rfl [.inr 0, .inr 1, .inr 2, .inr 3, .inr 4, .inr 5, .inr 6, .inr 7, .inr 8, .inr 9, .inr 10, .inr 11, .inr 12, .inr 13, .inr 14, .inr 15, .inr 16, .inr 17, .inr 18, .inr 19, .inr 20, .inr 21, .inr 22, .inr 23, .inr 24, .inr 25, .inr 26, .inr 27, .inr 28, .inr 29, .inr 30, .inr 31, .inr 32, .inr 33, .inr 34, .inr 35, .inr 36, .inr 37, .inr 38, .inr 39, .inr 40, .inr 41, .inr 42, .inr 43, .inr 44, .inr 45, .inr 46, .inr 47, .inr 48, .inr 49, .inr 50, .inr 51, .inr 52, .inr 53, .inr 54, .inr 55, .inr 56, .inr 57, .inr 58, .inr 59, .inr 60, .inr 61, .inl 0, .inl 1, .inl 2, .inl 3, .inl 4, .inl 5, .inl 6, .inl 7, .inl 8, .inr 71, .inr 72, .inr 73, .inr 74, .inr 75, .inr 76, .inr 77, .inr 78, .inr 79, .inr 80, .inr 81, .inr 82, .inr 83, .inr 84, .inr 85, .inr 86, .inr 87, .inr 88, .inr 89, .inr 90, .inr 91, .inr 92, .inr 93, .inr 94, .inr 95, .inr 96, .inr 97, .inr 98, .inr 99, .inr 100, .inr 101, .inr 102, .inr 103, .inr 104, .inr 105, .inr 106, .inr 107, .inr 108, .inr 109, .inr 110, .inr 111, .inr 112, .inr 113, .inr 114, .inr 115, .inr 116, .inr 117, .inr 118, .inr 119, .inr 120, .inr 121, .inr 122, .inr 123, .inr 124, .inr 125, .inr 126, .inr 127, .inr 128, .inr 129, .inr 130, .inr 131, .inr 132, .inr 133, .inr 134, .inr 135, .inr 136, .inr 137, .inr 138, .inr 139, .inr 140, .inr 141, .inr 142, .inr 143, .inr 144, .inr 145, .inr 146, .inr 147, .inr 148, .inr 149, .inr 150, .inr 151, .inr 152, .inr 153, .inr 154, .inr 155, .inr 156, .inr 157, .inr 158, .inr 159, .inr 160, .inr 161, .inr 162, .inr 163, .inr 164, .inr 165, .inr 166, .inr 167, .inr 168, .inr 169, .inr 170, .inr 171, .inr 172, .inr 173, .inr 174, .inr 175, .inr 176, .inr 177, .inr 178, .inr 179, .inr 180] (by decide +kernel) rfl (q0 := 62) rfl (ci := 1) rfl g_Top_147 hd_Input_append rfl ⟨Nat.le_of_ble_eq_true rfl, Nat.le_of_ble_eq_true rfl⟩ ⟨Nat.le_of_ble_eq_true rfl, Nat.le_of_ble_eq_true rfl⟩ hl rfl (Nat.le_of_ble_eq_true rfl) dX6_feed_27 (fun H locs hP hD hS => ?_)
    refine lv_aload_n (pc := 30) hx hb dX6_feed_30 rfl (lv_at hl 0 rfl) ?_
    refine va_get (D := K.1) (ci := 6) (v := .ref (ad 62)) (C := RX6) (T := TX6) (N := 8) (pc := 31) hx hb hts inT6 hown hG.1 hP 0 rfl rfl 6 (by decide) (hts _ qf_Top_44) (fun _ h9 => h9) rfl dX6_feed_31 ?_
    refine rdV (pc := 34) (As := []) (rest := []) hx hb hml hown hts hG hP (c_Input_length l K (fun k => ad (k + 62)) ((s_Input_append ich iln a0).1) ifs isc isg ((s_Input_append ich iln a0).2) ien iin idg iva) [62, 63, 64, 65, 66, 67, 68, 69, 70] rfl (q0 := 62) rfl (ci := 1) rfl g_Top_142 hd_Input_length rfl ⟨Nat.le_of_ble_eq_true rfl, Nat.le_of_ble_eq_true rfl⟩ ⟨Nat.le_of_ble_eq_true rfl, Nat.le_of_ble_eq_true rfl⟩ hl rfl (Nat.le_of_ble_eq_true rfl) dX6_feed_34 ?_
    subst h
    refine vx_ret ?_
    refine W.widen (k := 1) (n := 6) (Nat.le_of_ble_eq_true rfl) (Nat.le_of_ble_eq_true rfl) ?_
    exact W.iret hx hb hr (fun t ht hW => ⟨⟨_, _, rfl, rfl, by rw [ht]; exact hP⟩, hS.F ht⟩) hS.2.2 dX6_feed_37 hlk
  · have h := it_f c1 h
    subst h
    exact xThrow (pc := 12) (mc := 1) C0X ef_ISE ql_Top_117 qn_ISE (by decide +kernel : (145, "the input has 60 characters") ∈ strs) hP hS hl dX6_feed_12 dX6_feed_15 dX6_feed_16 dX6_feed_18 dX6_feed_21 (Nat.le_of_ble_eq_true rfl) (Nat.le_of_ble_eq_true rfl) (Nat.le_of_ble_eq_true rfl) (Nat.le_of_ble_eq_true rfl) (Nat.le_of_ble_eq_true rfl) (Nat.le_of_ble_eq_true rfl) rfl
