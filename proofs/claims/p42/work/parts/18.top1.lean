set_option maxHeartbeats 4000000 in
set_option maxRecDepth 100000 in
theorem c_Top_constraintEnd (l : Launch) (K : KT) (hl0 : l.stackTraces = false) (ad : Nat → Nat) (pxs : Nat → Int32) (pys : Nat → Int32) (plo : Nat → Int32) (phi : Nat → Int32) (pn : Int32) (pm : Int32) (lf : Nat → Int32) (th : Nat → Int32) (ow : Nat → Int32) (lk : Nat → Int32) (el : Nat → Int32) (eh : Nat → Int32) (co : Nat → Int32) (hu : Nat → Int32) (ne : Int32) (nt : Int32) (nh : Int32) (tpxs : Nat → Int32) (tpys : Nat → Int32) (tplo : Nat → Int32) (tphi : Nat → Int32) (tpn : Int32) (tpm : Int32) (tlf : Nat → Int32) (tth : Nat → Int32) (tow : Nat → Int32) (tlk : Nat → Int32) (tel : Nat → Int32) (teh : Nat → Int32) (tco : Nat → Int32) (thu : Nat → Int32) (tne : Int32) (tnt : Int32) (tnh : Int32) (spxs : Nat → Int32) (spys : Nat → Int32) (splo : Nat → Int32) (sphi : Nat → Int32) (spn : Int32) (spm : Int32) (ich : Nat → Int32) (ifs : Nat → Int32) (isc : Nat → Int32) (isg : Nat → Int32) (iln : Int32) (ien : Int32) (iin : Bool) (idg : Int32) (iva : Int32) (hp : Nat → PlanS) (hnx : Int32) (hkp : Int32) (hsv : Bool) (a0 : Int32) (a1 : Int32) : Xm l K 7 2 yX6_constraintEnd cX6_constraintEnd 3 (some .int) [.ref (ad 0), .int a0, .int a1] (wTop K ad pxs pys plo phi pn pm lf th ow lk el eh co hu ne nt nh tpxs tpys tplo tphi tpn tpm tlf tth tow tlk tel teh tco thu tne tnt tnh spxs spys splo sphi spn spm ich ifs isc isg iln ien iin idg iva hp hnx hkp hsv) (Sum.map id (fun q => (some (.int q), wTop K ad pxs pys plo phi pn pm lf th ow lk el eh co hu ne nt nh tpxs tpys tplo tphi tpn tpm tlf tth tow tlk tel teh tco thu tne tnt tnh spxs spys splo sphi spn spm ich ifs isc isg iln ien iin idg iva hp hnx hkp hsv)) (s_Top_constraintEnd plo phi pm a0 a1)) := by
  generalize h : s_Top_constraintEnd plo phi pm a0 a1 = o
  refine Xm.of hl0 (by decide +kernel) (Nat.le_of_ble_eq_true rfl) ?_
  unfold s_Top_constraintEnd at h
  intro p e s m below meth c C0X H locs hP hD hS ls hl
  obtain ⟨⟨hx, hb, hml, hown, hts, hG, hr, hlk⟩, hl1, htb, hG1, hZ⟩ := id C0X
  have C0 := C0X.1
  have hl : lv_has ls 3 [(0, .ref (ad 0)), (1, .int a0), (2, .int a1)] := hl
  refine lv_aload_n (pc := 0) hx hb dX6_constraintEnd_0 rfl (lv_at hl 0 rfl) ?_
  refine lv_iload_n (pc := 1) hx hb dX6_constraintEnd_1 rfl (lv_at hl 1 rfl) ?_
  refine xVs (pc := 2) (mc := 2) (As := [.int a0]) (rest := []) (so := (s_Top_requireConstraint pm a0)) C0X hP hD hS (c_Top_requireConstraint l K hl0 ad pxs pys plo phi pn pm lf th ow lk el eh co hu ne nt nh tpxs tpys tplo tphi tpn tpm tlf tth tow tlk tel teh tco thu tne tnt tnh spxs spys splo sphi spn spm ich ifs isc isg iln ien iin idg iva hp hnx hkp hsv a0) (q0 := 0) rfl (ci := 6) rfl g_Top_130 hd_Top_requireConstraint rfl ⟨(Nat.le_of_ble_eq_true rfl), (Nat.le_of_ble_eq_true rfl)⟩ ⟨(Nat.le_of_ble_eq_true rfl), (Nat.le_of_ble_eq_true rfl)⟩ ⟨(Nat.le_of_ble_eq_true rfl), (Nat.le_of_ble_eq_true rfl)⟩ hl rfl (Nat.le_of_ble_eq_true rfl) dX6_constraintEnd_2 (fun E hE => ?_) (fun hE H locs hP hS => ?_)
  · rw [hE] at h
    have h := se_l h
    subst h
    rfl
  · rw [hE] at h
    have h := se_r h
    refine lv_aload_n (pc := 5) hx hb dX6_constraintEnd_5 rfl (lv_at hl 0 rfl) ?_
    refine lv_iload_n (pc := 6) hx hb dX6_constraintEnd_6 rfl (lv_at hl 2 rfl) ?_
    refine xVs (pc := 7) (mc := 2) (As := [.int a1]) (rest := []) (so := (s_Top_requireBit a1)) C0X hP hD hS (c_Top_requireBit l K hl0 ad pxs pys plo phi pn pm lf th ow lk el eh co hu ne nt nh tpxs tpys tplo tphi tpn tpm tlf tth tow tlk tel teh tco thu tne tnt tnh spxs spys splo sphi spn spm ich ifs isc isg iln ien iin idg iva hp hnx hkp hsv a1) (q0 := 0) rfl (ci := 6) rfl g_Top_101 hd_Top_requireBit rfl ⟨(Nat.le_of_ble_eq_true rfl), (Nat.le_of_ble_eq_true rfl)⟩ ⟨(Nat.le_of_ble_eq_true rfl), (Nat.le_of_ble_eq_true rfl)⟩ ⟨(Nat.le_of_ble_eq_true rfl), (Nat.le_of_ble_eq_true rfl)⟩ hl rfl (Nat.le_of_ble_eq_true rfl) dX6_constraintEnd_7 (fun E hE => ?_) (fun hE H locs hP hS => ?_)
    · rw [hE] at h
      have h := se_l h
      subst h
      rfl
    · rw [hE] at h
      have h := se_r h
      refine lv_iload_n (pc := 10) hx hb dX6_constraintEnd_10 rfl (lv_at hl 2 rfl) ?_
      refine lv_if_ne (tgt := 25) (pc := 11) hx hb dX6_constraintEnd_11 (by decide) (fun c1 => ?_) (fun c1 => ?_)
      · have h := it_f c1 h
        refine lv_aload_n (pc := 25) hx hb dX6_constraintEnd_25 rfl (lv_at hl 0 rfl) ?_
        refine va_get (D := K.1) (ci := 6) (v := .ref (ad 2)) (C := RX6) (T := TX6) (N := 8) (pc := 26) hx hb hts inT6 hown hG.1 hP 0 rfl rfl 0 (by decide) (hts _ qf_Top_10) (fun _ h9 => h9) rfl dX6_constraintEnd_26 ?_
        refine lv_iload_n (pc := 29) hx hb dX6_constraintEnd_29 rfl (lv_at hl 1 rfl) ?_
        refine rdV (pc := 30) (As := [.int a0]) (rest := []) hx hb hml hown hts hG hP (c_Plan_highEnd l K (fun k => ad (k + 2)) pxs pys plo phi pn pm a0) [2, 3, 4, 5, 6, 7, 8, 9, 10] rfl (q0 := 2) rfl (ci := 3) rfl g_Top_139 hd_Plan_highEnd rfl ⟨Nat.le_of_ble_eq_true rfl, Nat.le_of_ble_eq_true rfl⟩ ⟨Nat.le_of_ble_eq_true rfl, Nat.le_of_ble_eq_true rfl⟩ hl rfl (Nat.le_of_ble_eq_true rfl) dX6_constraintEnd_30 ?_
        subst h
        refine vx_ret ?_
        refine W.widen (k := 2) (n := 12) (Nat.le_of_ble_eq_true rfl) (Nat.le_of_ble_eq_true rfl) ?_
        exact W.iret hx hb hr (fun t ht hW => ⟨⟨_, _, rfl, rfl, by rw [ht]; exact hP⟩, hS.F ht⟩) hS.2.2 dX6_constraintEnd_33 hlk
      · have h := it_t c1 h
        refine lv_aload_n (pc := 14) hx hb dX6_constraintEnd_14 rfl (lv_at hl 0 rfl) ?_
        refine va_get (D := K.1) (ci := 6) (v := .ref (ad 2)) (C := RX6) (T := TX6) (N := 8) (pc := 15) hx hb hts inT6 hown hG.1 hP 0 rfl rfl 0 (by decide) (hts _ qf_Top_10) (fun _ h9 => h9) rfl dX6_constraintEnd_15 ?_
        refine lv_iload_n (pc := 18) hx hb dX6_constraintEnd_18 rfl (lv_at hl 1 rfl) ?_
        refine rdV (pc := 19) (As := [.int a0]) (rest := []) hx hb hml hown hts hG hP (c_Plan_lowEnd l K (fun k => ad (k + 2)) pxs pys plo phi pn pm a0) [2, 3, 4, 5, 6, 7, 8, 9, 10] rfl (q0 := 2) rfl (ci := 3) rfl g_Top_136 hd_Plan_lowEnd rfl ⟨Nat.le_of_ble_eq_true rfl, Nat.le_of_ble_eq_true rfl⟩ ⟨Nat.le_of_ble_eq_true rfl, Nat.le_of_ble_eq_true rfl⟩ hl rfl (Nat.le_of_ble_eq_true rfl) dX6_constraintEnd_19 ?_
        refine lv_goto (tgt := 33) (pc := 22) hx hb dX6_constraintEnd_22 (by decide) ?_
        subst h
        refine vx_ret ?_
        refine W.widen (k := 2) (n := 12) (Nat.le_of_ble_eq_true rfl) (Nat.le_of_ble_eq_true rfl) ?_
        exact W.iret hx hb hr (fun t ht hW => ⟨⟨_, _, rfl, rfl, by rw [ht]; exact hP⟩, hS.F ht⟩) hS.2.2 dX6_constraintEnd_33 hlk
