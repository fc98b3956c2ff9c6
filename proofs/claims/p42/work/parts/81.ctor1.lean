set_option maxHeartbeats 8000000 in
set_option maxRecDepth 100000 in
theorem i_Plan (l : Launch) (K : KT)  : In l K 2 8 56 yX3_init cX3_init 1 3 [] [.null, .null, .null, .null, .int 0, .int 0] (fun ad => wPlan K ad (fun _ => 0) (fun _ => 0) (fun _ => 0) (fun _ => 0) 0 0) := by
  refine In.of (by decide +kernel) rfl (fun _ => Nat.le_of_ble_eq_true rfl) ?_
  intro h0 p e s m below meth c C0 hO hin A hA hP hD ls hl
  obtain ⟨hx, hb, hml, hown, hts, hG, hr, hlk⟩ := id C0
  have hS : va_S A s.heap s.heap [] := va_S.rf
  have hl : lv_has ls 1 [(0, .ref h0)] := hl
  refine lv_aload_n (pc := 0) hx hb dX3_init_0 rfl (lv_at hl 0 rfl) ?_
  refine W.objInit hx hb hown (hts _ zo_Plan) (hts _ zoi) (hts _ zoc) rfl (by rw [hml]; exact hl.1) rfl dX3_init_1 (Nat.le_of_ble_eq_true rfl) (Nat.le_of_ble_eq_true rfl) ?_
  refine W.eq (g2 := F0 m 4 ls []) rfl ?_
  refine lv_aload_n (pc := 4) hx hb dX3_init_4 rfl (lv_at hl 0 rfl) ?_
  refine va_new (ci := 4) (fs := [.null]) (C := RX4) (T := TX4) (N := 1) (pc := 5) hx hb hts inT4 tyX4 tyX4_ok hown (hts _ zl_Plan_9) (hts _ zk_Row) (hts _ zn_Row) hG.1 hP hD hS hA rfl (by decide) (Nat.le_of_ble_eq_true rfl) (Nat.le_of_ble_eq_true rfl) dX3_init_5 (fun q0 H hP hD hS => ?_)
  refine W.widen (k := 1) (n := 1) (by omega) (by omega) ?_
  have hP : va_P K.1 vC ([(h0, .inr (3, [.null, .null, .null, .null, .int 0, .int 0]))] ++ (([(q0, .inr (4, [.null]))]))) H := hP
  have hD : va_D A ([(h0, .inr (3, [.null, .null, .null, .null, .int 0, .int 0]))] ++ (([(q0, .inr (4, [.null]))]))) := hD
  refine lv_dup (pc := 8) hx hb dX3_init_8 rfl ?_
  refine lv_bipush (v := (16 : Int32)) (pc := 9) hx hb dX3_init_9 (by decide) ?_
  refine inC (pc := 11) (As := [.int (i32 16)]) (rest := [.ref q0, .ref h0]) (wr := ([(h0, .inr (3, [.null, .null, .null, .null, .int 0, .int 0]))])) hx hb hml hown hts hG hO hP hD hS hA (i_Row l K 16 (by omega)) 1 [0] rfl rfl (by decide) (by decide) (gM zc_Row) zn_Row zm_Plan_11 zi_Row rfl (by decide +kernel) rfl ⟨Nat.le_of_ble_eq_true rfl, Nat.le_of_ble_eq_true rfl⟩ ⟨Nat.le_of_ble_eq_true rfl, Nat.le_of_ble_eq_true rfl⟩ hl rfl (Nat.le_of_ble_eq_true rfl) dX3_init_11 (fun a0 H locs hq hPn hDn hS => ?_)
  subst hq
  have hP := hPn
  have hD := hDn
  have hP : va_P K.1 vC ([(h0, .inr (3, [.null, .null, .null, .null, .int 0, .int 0]))] ++ ((wRow K a0 16 (fun _ => 0)))) H := hP
  have hD : va_D A ([(h0, .inr (3, [.null, .null, .null, .null, .int 0, .int 0]))] ++ ((wRow K a0 16 (fun _ => 0)))) := hD
  refine W.widen (k := 2) (n := 17) (by omega) (by omega) ?_
  refine va_putF (D := K.1) (ci := 3) (v := .ref (a0 0)) (ty := (.object "ConstrainedDelaunay$Row")) (C := RX3) (T := TX3) (N := 6) (pc := 14) hx hb hts inT3 tyX3 tyX3_ok nmX3 hown hG.1 hP hD hS 0 rfl rfl 0 (by decide) (hts _ zf_Plan_14) (fun _ h9 => h9) rfl hin rfl (by decide +kernel) rfl rfl (Nat.le_of_ble_eq_true rfl) dX3_init_14 (fun H locs hP hD hS => ?_)
  have hP : va_P K.1 vC ([(h0, .inr (3, [.ref (a0 0), .null, .null, .null, .int 0, .int 0]))] ++ ((wRow K a0 16 (fun _ => 0)))) H := hP
  have hD : va_D A ([(h0, .inr (3, [.ref (a0 0), .null, .null, .null, .int 0, .int 0]))] ++ ((wRow K a0 16 (fun _ => 0)))) := hD
  refine lv_aload_n (pc := 17) hx hb dX3_init_17 rfl (lv_at hl 0 rfl) ?_
  refine va_new (ci := 4) (fs := [.null]) (C := RX4) (T := TX4) (N := 1) (pc := 18) hx hb hts inT4 tyX4 tyX4_ok hown (hts _ zl_Plan_9) (hts _ zk_Row) (hts _ zn_Row) hG.1 hP hD hS hA rfl (by decide) (Nat.le_of_ble_eq_true rfl) (Nat.le_of_ble_eq_true rfl) dX3_init_18 (fun q1 H hP hD hS => ?_)
  refine W.widen (k := 3) (n := 18) (by omega) (by omega) ?_
  have hP : va_P K.1 vC ([(h0, .inr (3, [.ref (a0 0), .null, .null, .null, .int 0, .int 0]))] ++ ((wRow K a0 16 (fun _ => 0)) ++ (([(q1, .inr (4, [.null]))])))) H := hP
  have hD : va_D A ([(h0, .inr (3, [.ref (a0 0), .null, .null, .null, .int 0, .int 0]))] ++ ((wRow K a0 16 (fun _ => 0)) ++ (([(q1, .inr (4, [.null]))])))) := hD
  refine lv_dup (pc := 21) hx hb dX3_init_21 rfl ?_
  refine lv_bipush (v := (16 : Int32)) (pc := 22) hx hb dX3_init_22 (by decide) ?_
  refine inC (pc := 24) (As := [.int (i32 16)]) (rest := [.ref q1, .ref h0]) (wr := ([(h0, .inr (3, [.ref (a0 0), .null, .null, .null, .int 0, .int 0]))] ++ ((wRow K a0 16 (fun _ => 0))))) hx hb hml hown hts hG hO hP hD hS hA (i_Row l K 16 (by omega)) 3 [0, 1, 2] rfl rfl (by decide) (by decide) (gM zc_Row) zn_Row zm_Plan_11 zi_Row rfl (by decide +kernel) rfl ⟨Nat.le_of_ble_eq_true rfl, Nat.le_of_ble_eq_true rfl⟩ ⟨Nat.le_of_ble_eq_true rfl, Nat.le_of_ble_eq_true rfl⟩ hl rfl (Nat.le_of_ble_eq_true rfl) dX3_init_24 (fun a1 H locs hq hPn hDn hS => ?_)
  subst hq
  have hP := hPn
  have hD := hDn
  have hP : va_P K.1 vC ([(h0, .inr (3, [.ref (a0 0), .null, .null, .null, .int 0, .int 0]))] ++ ((wRow K a0 16 (fun _ => 0)) ++ ((wRow K a1 16 (fun _ => 0))))) H := hP
  have hD : va_D A ([(h0, .inr (3, [.ref (a0 0), .null, .null, .null, .int 0, .int 0]))] ++ ((wRow K a0 16 (fun _ => 0)) ++ ((wRow K a1 16 (fun _ => 0))))) := hD
  refine W.widen (k := 4) (n := 34) (by omega) (by omega) ?_
  refine va_putF (D := K.1) (ci := 3) (v := .ref (a1 0)) (ty := (.object "ConstrainedDelaunay$Row")) (C := RX3) (T := TX3) (N := 6) (pc := 27) hx hb hts inT3 tyX3 tyX3_ok nmX3 hown hG.1 hP hD hS 0 rfl rfl 1 (by decide) (hts _ zf_Plan_20) (fun _ h9 => h9) rfl hin rfl (by decide +kernel) rfl rfl (Nat.le_of_ble_eq_true rfl) dX3_init_27 (fun H locs hP hD hS => ?_)
  have hP : va_P K.1 vC ([(h0, .inr (3, [.ref (a0 0), .ref (a1 0), .null, .null, .int 0, .int 0]))] ++ ((wRow K a0 16 (fun _ => 0)) ++ ((wRow K a1 16 (fun _ => 0))))) H := hP
  have hD : va_D A ([(h0, .inr (3, [.ref (a0 0), .ref (a1 0), .null, .null, .int 0, .int 0]))] ++ ((wRow K a0 16 (fun _ => 0)) ++ ((wRow K a1 16 (fun _ => 0))))) := hD
  refine lv_aload_n (pc := 30) hx hb dX3_init_30 rfl (lv_at hl 0 rfl) ?_
  refine va_new (ci := 4) (fs := [.null]) (C := RX4) (T := TX4) (N := 1) (pc := 31) hx hb hts inT4 tyX4 tyX4_ok hown (hts _ zl_Plan_9) (hts _ zk_Row) (hts _ zn_Row) hG.1 hP hD hS hA rfl (by decide) (Nat.le_of_ble_eq_true rfl) (Nat.le_of_ble_eq_true rfl) dX3_init_31 (fun q2 H hP hD hS => ?_)
  refine W.widen (k := 5) (n := 35) (by omega) (by omega) ?_
  have hP : va_P K.1 vC ([(h0, .inr (3, [.ref (a0 0), .ref (a1 0), .null, .null, .int 0, .int 0]))] ++ ((wRow K a0 16 (fun _ => 0)) ++ ((wRow K a1 16 (fun _ => 0)) ++ (([(q2, .inr (4, [.null]))]))))) H := hP
  have hD : va_D A ([(h0, .inr (3, [.ref (a0 0), .ref (a1 0), .null, .null, .int 0, .int 0]))] ++ ((wRow K a0 16 (fun _ => 0)) ++ ((wRow K a1 16 (fun _ => 0)) ++ (([(q2, .inr (4, [.null]))]))))) := hD
  refine lv_dup (pc := 34) hx hb dX3_init_34 rfl ?_
  refine lv_bipush (v := (10 : Int32)) (pc := 35) hx hb dX3_init_35 (by decide) ?_
  refine inC (pc := 37) (As := [.int (i32 10)]) (rest := [.ref q2, .ref h0]) (wr := ([(h0, .inr (3, [.ref (a0 0), .ref (a1 0), .null, .null, .int 0, .int 0]))] ++ ((wRow K a0 16 (fun _ => 0)) ++ ((wRow K a1 16 (fun _ => 0)))))) hx hb hml hown hts hG hO hP hD hS hA (i_Row l K 10 (by omega)) 5 [0, 1, 2, 3, 4] rfl rfl (by decide) (by decide) (gM zc_Row) zn_Row zm_Plan_11 zi_Row rfl (by decide +kernel) rfl ⟨Nat.le_of_ble_eq_true rfl, Nat.le_of_ble_eq_true rfl⟩ ⟨Nat.le_of_ble_eq_true rfl, Nat.le_of_ble_eq_true rfl⟩ hl rfl (Nat.le_of_ble_eq_true rfl) dX3_init_37 (fun a2 H locs hq hPn hDn hS => ?_)
  subst hq
  have hP := hPn
  have hD := hDn
  have hP : va_P K.1 vC ([(h0, .inr (3, [.ref (a0 0), .ref (a1 0), .null, .null, .int 0, .int 0]))] ++ ((wRow K a0 16 (fun _ => 0)) ++ ((wRow K a1 16 (fun _ => 0)) ++ ((wRow K a2 10 (fun _ => 0)))))) H := hP
  have hD : va_D A ([(h0, .inr (3, [.ref (a0 0), .ref (a1 0), .null, .null, .int 0, .int 0]))] ++ ((wRow K a0 16 (fun _ => 0)) ++ ((wRow K a1 16 (fun _ => 0)) ++ ((wRow K a2 10 (fun _ => 0)))))) := hD
  refine W.widen (k := 6) (n := 45) (by omega) (by omega) ?_
  refine va_putF (D := K.1) (ci := 3) (v := .ref (a2 0)) (ty := (.object "ConstrainedDelaunay$Row")) (C := RX3) (T := TX3) (N := 6) (pc := 40) hx hb hts inT3 tyX3 tyX3_ok nmX3 hown hG.1 hP hD hS 0 rfl rfl 2 (by decide) (hts _ zf_Plan_23) (fun _ h9 => h9) rfl hin rfl (by decide +kernel) rfl rfl (Nat.le_of_ble_eq_true rfl) dX3_init_40 (fun H locs hP hD hS => ?_)
  have hP : va_P K.1 vC ([(h0, .inr (3, [.ref (a0 0), .ref (a1 0), .ref (a2 0), .null, .int 0, .int 0]))] ++ ((wRow K a0 16 (fun _ => 0)) ++ ((wRow K a1 16 (fun _ => 0)) ++ ((wRow K a2 10 (fun _ => 0)))))) H := hP
  have hD : va_D A ([(h0, .inr (3, [.ref (a0 0), .ref (a1 0), .ref (a2 0), .null, .int 0, .int 0]))] ++ ((wRow K a0 16 (fun _ => 0)) ++ ((wRow K a1 16 (fun _ => 0)) ++ ((wRow K a2 10 (fun _ => 0)))))) := hD
  refine lv_aload_n (pc := 43) hx hb dX3_init_43 rfl (lv_at hl 0 rfl) ?_
  refine va_new (ci := 4) (fs := [.null]) (C := RX4) (T := TX4) (N := 1) (pc := 44) hx hb hts inT4 tyX4 tyX4_ok hown (hts _ zl_Plan_9) (hts _ zk_Row) (hts _ zn_Row) hG.1 hP hD hS hA rfl (by decide) (Nat.le_of_ble_eq_true rfl) (Nat.le_of_ble_eq_true rfl) dX3_init_44 (fun q3 H hP hD hS => ?_)
  refine W.widen (k := 7) (n := 46) (by omega) (by omega) ?_
  have hP : va_P K.1 vC ([(h0, .inr (3, [.ref (a0 0), .ref (a1 0), .ref (a2 0), .null, .int 0, .int 0]))] ++ ((wRow K a0 16 (fun _ => 0)) ++ ((wRow K a1 16 (fun _ => 0)) ++ ((wRow K a2 10 (fun _ => 0)) ++ (([(q3, .inr (4, [.null]))])))))) H := hP
  have hD : va_D A ([(h0, .inr (3, [.ref (a0 0), .ref (a1 0), .ref (a2 0), .null, .int 0, .int 0]))] ++ ((wRow K a0 16 (fun _ => 0)) ++ ((wRow K a1 16 (fun _ => 0)) ++ ((wRow K a2 10 (fun _ => 0)) ++ (([(q3, .inr (4, [.null]))])))))) := hD
  refine lv_dup (pc := 47) hx hb dX3_init_47 rfl ?_
  refine lv_bipush (v := (10 : Int32)) (pc := 48) hx hb dX3_init_48 (by decide) ?_
  refine inC (pc := 50) (As := [.int (i32 10)]) (rest := [.ref q3, .ref h0]) (wr := ([(h0, .inr (3, [.ref (a0 0), .ref (a1 0), .ref (a2 0), .null, .int 0, .int 0]))] ++ ((wRow K a0 16 (fun _ => 0)) ++ ((wRow K a1 16 (fun _ => 0)) ++ ((wRow K a2 10 (fun _ => 0))))))) hx hb hml hown hts hG hO hP hD hS hA (i_Row l K 10 (by omega)) 7 [0, 1, 2, 3, 4, 5, 6] rfl rfl (by decide) (by decide) (gM zc_Row) zn_Row zm_Plan_11 zi_Row rfl (by decide +kernel) rfl ⟨Nat.le_of_ble_eq_true rfl, Nat.le_of_ble_eq_true rfl⟩ ⟨Nat.le_of_ble_eq_true rfl, Nat.le_of_ble_eq_true rfl⟩ hl rfl (Nat.le_of_ble_eq_true rfl) dX3_init_50 (fun a3 H locs hq hPn hDn hS => ?_)
  subst hq
  have hP := hPn
  have hD := hDn
  have hP : va_P K.1 vC ([(h0, .inr (3, [.ref (a0 0), .ref (a1 0), .ref (a2 0), .null, .int 0, .int 0]))] ++ ((wRow K a0 16 (fun _ => 0)) ++ ((wRow K a1 16 (fun _ => 0)) ++ ((wRow K a2 10 (fun _ => 0)) ++ ((wRow K a3 10 (fun _ => 0))))))) H := hP
  have hD : va_D A ([(h0, .inr (3, [.ref (a0 0), .ref (a1 0), .ref (a2 0), .null, .int 0, .int 0]))] ++ ((wRow K a0 16 (fun _ => 0)) ++ ((wRow K a1 16 (fun _ => 0)) ++ ((wRow K a2 10 (fun _ => 0)) ++ ((wRow K a3 10 (fun _ => 0))))))) := hD
  refine W.widen (k := 8) (n := 56) (by omega) (by omega) ?_
  refine va_putF (D := K.1) (ci := 3) (v := .ref (a3 0)) (ty := (.object "ConstrainedDelaunay$Row")) (C := RX3) (T := TX3) (N := 6) (pc := 53) hx hb hts inT3 tyX3 tyX3_ok nmX3 hown hG.1 hP hD hS 0 rfl rfl 3 (by decide) (hts _ zf_Plan_26) (fun _ h9 => h9) rfl hin rfl (by decide +kernel) rfl rfl (Nat.le_of_ble_eq_true rfl) dX3_init_53 (fun H locs hP hD hS => ?_)
  have hP : va_P K.1 vC ([(h0, .inr (3, [.ref (a0 0), .ref (a1 0), .ref (a2 0), .ref (a3 0), .int 0, .int 0]))] ++ ((wRow K a0 16 (fun _ => 0)) ++ ((wRow K a1 16 (fun _ => 0)) ++ ((wRow K a2 10 (fun _ => 0)) ++ ((wRow K a3 10 (fun _ => 0))))))) H := hP
  have hD : va_D A ([(h0, .inr (3, [.ref (a0 0), .ref (a1 0), .ref (a2 0), .ref (a3 0), .int 0, .int 0]))] ++ ((wRow K a0 16 (fun _ => 0)) ++ ((wRow K a1 16 (fun _ => 0)) ++ ((wRow K a2 10 (fun _ => 0)) ++ ((wRow K a3 10 (fun _ => 0))))))) := hD
  refine lv_aload_n (pc := 56) hx hb dX3_init_56 rfl (lv_at hl 0 rfl) ?_
  refine lv_iconst (v := (0 : Int32)) (pc := 57) hx hb dX3_init_57 (by decide) ?_
  refine va_put (D := K.1) (ci := 3) (v := .int (0 : Int32)) (ty := .int) (C := RX3) (T := TX3) (N := 6) (pc := 58) hx hb hts inT3 tyX3 tyX3_ok nmX3 hown hG.1 hP hD hS 0 rfl rfl 4 (by decide) (hts _ zf_Plan_29) (fun _ h9 => h9) rfl (by decide +kernel) rfl rfl (Nat.le_of_ble_eq_true rfl) dX3_init_58 (fun H locs hP hD hS => ?_)
  have hP : va_P K.1 vC ([(h0, .inr (3, [.ref (a0 0), .ref (a1 0), .ref (a2 0), .ref (a3 0), .int (0 : Int32), .int 0]))] ++ ((wRow K a0 16 (fun _ => 0)) ++ ((wRow K a1 16 (fun _ => 0)) ++ ((wRow K a2 10 (fun _ => 0)) ++ ((wRow K a3 10 (fun _ => 0))))))) H := hP
  have hD : va_D A ([(h0, .inr (3, [.ref (a0 0), .ref (a1 0), .ref (a2 0), .ref (a3 0), .int (0 : Int32), .int 0]))] ++ ((wRow K a0 16 (fun _ => 0)) ++ ((wRow K a1 16 (fun _ => 0)) ++ ((wRow K a2 10 (fun _ => 0)) ++ ((wRow K a3 10 (fun _ => 0))))))) := hD
  refine lv_aload_n (pc := 61) hx hb dX3_init_61 rfl (lv_at hl 0 rfl) ?_
  refine lv_iconst (v := (0 : Int32)) (pc := 62) hx hb dX3_init_62 (by decide) ?_
  refine va_put (D := K.1) (ci := 3) (v := .int (0 : Int32)) (ty := .int) (C := RX3) (T := TX3) (N := 6) (pc := 63) hx hb hts inT3 tyX3 tyX3_ok nmX3 hown hG.1 hP hD hS 0 rfl rfl 5 (by decide) (hts _ zf_Plan_33) (fun _ h9 => h9) rfl (by decide +kernel) rfl rfl (Nat.le_of_ble_eq_true rfl) dX3_init_63 (fun H locs hP hD hS => ?_)
  have hP : va_P K.1 vC ([(h0, .inr (3, [.ref (a0 0), .ref (a1 0), .ref (a2 0), .ref (a3 0), .int (0 : Int32), .int (0 : Int32)]))] ++ ((wRow K a0 16 (fun _ => 0)) ++ ((wRow K a1 16 (fun _ => 0)) ++ ((wRow K a2 10 (fun _ => 0)) ++ ((wRow K a3 10 (fun _ => 0))))))) H := hP
  have hD : va_D A ([(h0, .inr (3, [.ref (a0 0), .ref (a1 0), .ref (a2 0), .ref (a3 0), .int (0 : Int32), .int (0 : Int32)]))] ++ ((wRow K a0 16 (fun _ => 0)) ++ ((wRow K a1 16 (fun _ => 0)) ++ ((wRow K a2 10 (fun _ => 0)) ++ ((wRow K a3 10 (fun _ => 0))))))) := hD
  have hP9 : va_P K.1 vC (wPlan K (fun k => ([h0, a0 0, a0 1, a1 0, a1 1, a2 0, a2 1, a3 0, a3 1] : List Nat).getD k 0) (fun _ => 0) (fun _ => 0) (fun _ => 0) (fun _ => 0) 0 0) H := hP
  have hD9 : va_D A (wPlan K (fun k => ([h0, a0 0, a0 1, a1 0, a1 1, a2 0, a2 1, a3 0, a3 1] : List Nat).getD k 0) (fun _ => 0) (fun _ => 0) (fun _ => 0) (fun _ => 0) 0 0) := hD
  exact W.vret hx hb hr (fun t ht hW => ⟨⟨(fun k => ([h0, a0 0, a0 1, a1 0, a1 1, a2 0, a2 1, a3 0, a3 1] : List Nat).getD k 0), rfl, rfl, by rw [ht]; exact hP9, hD9⟩, hS.F ht⟩) hS.2.2 dX3_init_66 hlk
set_option maxHeartbeats 8000000 in
set_option maxRecDepth 100000 in
theorem i_Input (l : Launch) (K : KT)  : In l K 2 8 109 yX1_init cX1_init 1 1 [] [.null, .null, .null, .null, .int 0, .int 0, .int 0, .int 0, .int 0] (fun ad => wInput K ad (fun _ => 0) (fun _ => 0) (fun _ => 0) (fun _ => 0) 0 0 false 0 0) := by
  refine In.of (by decide +kernel) rfl (fun _ => Nat.le_of_ble_eq_true rfl) ?_
  intro h0 p e s m below meth c C0 hO hin A hA hP hD ls hl
  obtain ⟨hx, hb, hml, hown, hts, hG, hr, hlk⟩ := id C0
  have hS : va_S A s.heap s.heap [] := va_S.rf
  have hl : lv_has ls 1 [(0, .ref h0)] := hl
  refine lv_aload_n (pc := 0) hx hb dX1_init_0 rfl (lv_at hl 0 rfl) ?_
  refine W.objInit hx hb hown (hts _ zo_Input) (hts _ zoi) (hts _ zoc) rfl (by rw [hml]; exact hl.1) rfl dX1_init_1 (Nat.le_of_ble_eq_true rfl) (Nat.le_of_ble_eq_true rfl) ?_
  refine W.eq (g2 := F0 m 4 ls []) rfl ?_
  refine lv_aload_n (pc := 4) hx hb dX1_init_4 rfl (lv_at hl 0 rfl) ?_
  refine va_new (ci := 4) (fs := [.null]) (C := RX4) (T := TX4) (N := 1) (pc := 5) hx hb hts inT4 tyX4 tyX4_ok hown (hts _ zl_Input_9) (hts _ zk_Row) (hts _ zn_Row) hG.1 hP hD hS hA rfl (by decide) (Nat.le_of_ble_eq_true rfl) (Nat.le_of_ble_eq_true rfl) dX1_init_5 (fun q0 H hP hD hS => ?_)
  refine W.widen (k := 1) (n := 1) (by omega) (by omega) ?_
  have hP : va_P K.1 vC ([(h0, .inr (1, [.null, .null, .null, .null, .int 0, .int 0, .int 0, .int 0, .int 0]))] ++ (([(q0, .inr (4, [.null]))]))) H := hP
  have hD : va_D A ([(h0, .inr (1, [.null, .null, .null, .null, .int 0, .int 0, .int 0, .int 0, .int 0]))] ++ (([(q0, .inr (4, [.null]))]))) := hD
  refine lv_dup (pc := 8) hx hb dX1_init_8 rfl ?_
  refine lv_bipush (v := (60 : Int32)) (pc := 9) hx hb dX1_init_9 (by decide) ?_
  refine inC (pc := 11) (As := [.int (i32 60)]) (rest := [.ref q0, .ref h0]) (wr := ([(h0, .inr (1, [.null, .null, .null, .null, .int 0, .int 0, .int 0, .int 0, .int 0]))])) hx hb hml hown hts hG hO hP hD hS hA (i_Row l K 60 (by omega)) 1 [0] rfl rfl (by decide) (by decide) (gM zc_Row) zn_Row zm_Input_11 zi_Row rfl (by decide +kernel) rfl ⟨Nat.le_of_ble_eq_true rfl, Nat.le_of_ble_eq_true rfl⟩ ⟨Nat.le_of_ble_eq_true rfl, Nat.le_of_ble_eq_true rfl⟩ hl rfl (Nat.le_of_ble_eq_true rfl) dX1_init_11 (fun a0 H locs hq hPn hDn hS => ?_)
  subst hq
  have hP := hPn
  have hD := hDn
  have hP : va_P K.1 vC ([(h0, .inr (1, [.null, .null, .null, .null, .int 0, .int 0, .int 0, .int 0, .int 0]))] ++ ((wRow K a0 60 (fun _ => 0)))) H := hP
  have hD : va_D A ([(h0, .inr (1, [.null, .null, .null, .null, .int 0, .int 0, .int 0, .int 0, .int 0]))] ++ ((wRow K a0 60 (fun _ => 0)))) := hD
  refine W.widen (k := 2) (n := 61) (by omega) (by omega) ?_
  refine va_putF (D := K.1) (ci := 1) (v := .ref (a0 0)) (ty := (.object "ConstrainedDelaunay$Row")) (C := RX1) (T := TX1) (N := 9) (pc := 14) hx hb hts inT1 tyX1 tyX1_ok nmX1 hown hG.1 hP hD hS 0 rfl rfl 0 (by decide) (hts _ zf_Input_14) (fun _ h9 => h9) rfl hin rfl (by decide +kernel) rfl rfl (Nat.le_of_ble_eq_true rfl) dX1_init_14 (fun H locs hP hD hS => ?_)
  have hP : va_P K.1 vC ([(h0, .inr (1, [.ref (a0 0), .null, .null, .null, .int 0, .int 0, .int 0, .int 0, .int 0]))] ++ ((wRow K a0 60 (fun _ => 0)))) H := hP
  have hD : va_D A ([(h0, .inr (1, [.ref (a0 0), .null, .null, .null, .int 0, .int 0, .int 0, .int 0, .int 0]))] ++ ((wRow K a0 60 (fun _ => 0)))) := hD
  refine lv_aload_n (pc := 17) hx hb dX1_init_17 rfl (lv_at hl 0 rfl) ?_
  refine va_new (ci := 4) (fs := [.null]) (C := RX4) (T := TX4) (N := 1) (pc := 18) hx hb hts inT4 tyX4 tyX4_ok hown (hts _ zl_Input_9) (hts _ zk_Row) (hts _ zn_Row) hG.1 hP hD hS hA rfl (by decide) (Nat.le_of_ble_eq_true rfl) (Nat.le_of_ble_eq_true rfl) dX1_init_18 (fun q1 H hP hD hS => ?_)
  refine W.widen (k := 3) (n := 62) (by omega) (by omega) ?_
  have hP : va_P K.1 vC ([(h0, .inr (1, [.ref (a0 0), .null, .null, .null, .int 0, .int 0, .int 0, .int 0, .int 0]))] ++ ((wRow K a0 60 (fun _ => 0)) ++ (([(q1, .inr (4, [.null]))])))) H := hP
  have hD : va_D A ([(h0, .inr (1, [.ref (a0 0), .null, .null, .null, .int 0, .int 0, .int 0, .int 0, .int 0]))] ++ ((wRow K a0 60 (fun _ => 0)) ++ (([(q1, .inr (4, [.null]))])))) := hD
  refine lv_dup (pc := 21) hx hb dX1_init_21 rfl ?_
  refine lv_bipush (v := (15 : Int32)) (pc := 22) hx hb dX1_init_22 (by decide) ?_
  refine inC (pc := 24) (As := [.int (i32 15)]) (rest := [.ref q1, .ref h0]) (wr := ([(h0, .inr (1, [.ref (a0 0), .null, .null, .null, .int 0, .int 0, .int 0, .int 0, .int 0]))] ++ ((wRow K a0 60 (fun _ => 0))))) hx hb hml hown hts hG hO hP hD hS hA (i_Row l K 15 (by omega)) 3 [0, 1, 2] rfl rfl (by decide) (by decide) (gM zc_Row) zn_Row zm_Input_11 zi_Row rfl (by decide +kernel) rfl ⟨Nat.le_of_ble_eq_true rfl, Nat.le_of_ble_eq_true rfl⟩ ⟨Nat.le_of_ble_eq_true rfl, Nat.le_of_ble_eq_true rfl⟩ hl rfl (Nat.le_of_ble_eq_true rfl) dX1_init_24 (fun a1 H locs hq hPn hDn hS => ?_)
  subst hq
  have hP := hPn
  have hD := hDn
  have hP : va_P K.1 vC ([(h0, .inr (1, [.ref (a0 0), .null, .null, .null, .int 0, .int 0, .int 0, .int 0, .int 0]))] ++ ((wRow K a0 60 (fun _ => 0)) ++ ((wRow K a1 15 (fun _ => 0))))) H := hP
  have hD : va_D A ([(h0, .inr (1, [.ref (a0 0), .null, .null, .null, .int 0, .int 0, .int 0, .int 0, .int 0]))] ++ ((wRow K a0 60 (fun _ => 0)) ++ ((wRow K a1 15 (fun _ => 0))))) := hD
  refine W.widen (k := 4) (n := 77) (by omega) (by omega) ?_
  refine va_putF (D := K.1) (ci := 1) (v := .ref (a1 0)) (ty := (.object "ConstrainedDelaunay$Row")) (C := RX1) (T := TX1) (N := 9) (pc := 27) hx hb hts inT1 tyX1 tyX1_ok nmX1 hown hG.1 hP hD hS 0 rfl rfl 1 (by decide) (hts _ zf_Input_20) (fun _ h9 => h9) rfl hin rfl (by decide +kernel) rfl rfl (Nat.le_of_ble_eq_true rfl) dX1_init_27 (fun H locs hP hD hS => ?_)
  have hP : va_P K.1 vC ([(h0, .inr (1, [.ref (a0 0), .ref (a1 0), .null, .null, .int 0, .int 0, .int 0, .int 0, .int 0]))] ++ ((wRow K a0 60 (fun _ => 0)) ++ ((wRow K a1 15 (fun _ => 0))))) H := hP
  have hD : va_D A ([(h0, .inr (1, [.ref (a0 0), .ref (a1 0), .null, .null, .int 0, .int 0, .int 0, .int 0, .int 0]))] ++ ((wRow K a0 60 (fun _ => 0)) ++ ((wRow K a1 15 (fun _ => 0))))) := hD
  refine lv_aload_n (pc := 30) hx hb dX1_init_30 rfl (lv_at hl 0 rfl) ?_
  refine va_new (ci := 4) (fs := [.null]) (C := RX4) (T := TX4) (N := 1) (pc := 31) hx hb hts inT4 tyX4 tyX4_ok hown (hts _ zl_Input_9) (hts _ zk_Row) (hts _ zn_Row) hG.1 hP hD hS hA rfl (by decide) (Nat.le_of_ble_eq_true rfl) (Nat.le_of_ble_eq_true rfl) dX1_init_31 (fun q2 H hP hD hS => ?_)
  refine W.widen (k := 5) (n := 78) (by omega) (by omega) ?_
  have hP : va_P K.1 vC ([(h0, .inr (1, [.ref (a0 0), .ref (a1 0), .null, .null, .int 0, .int 0, .int 0, .int 0, .int 0]))] ++ ((wRow K a0 60 (fun _ => 0)) ++ ((wRow K a1 15 (fun _ => 0)) ++ (([(q2, .inr (4, [.null]))]))))) H := hP
  have hD : va_D A ([(h0, .inr (1, [.ref (a0 0), .ref (a1 0), .null, .null, .int 0, .int 0, .int 0, .int 0, .int 0]))] ++ ((wRow K a0 60 (fun _ => 0)) ++ ((wRow K a1 15 (fun _ => 0)) ++ (([(q2, .inr (4, [.null]))]))))) := hD
  refine lv_dup (pc := 34) hx hb dX1_init_34 rfl ?_
  refine lv_bipush (v := (15 : Int32)) (pc := 35) hx hb dX1_init_35 (by decide) ?_
  refine inC (pc := 37) (As := [.int (i32 15)]) (rest := [.ref q2, .ref h0]) (wr := ([(h0, .inr (1, [.ref (a0 0), .ref (a1 0), .null, .null, .int 0, .int 0, .int 0, .int 0, .int 0]))] ++ ((wRow K a0 60 (fun _ => 0)) ++ ((wRow K a1 15 (fun _ => 0)))))) hx hb hml hown hts hG hO hP hD hS hA (i_Row l K 15 (by omega)) 5 [0, 1, 2, 3, 4] rfl rfl (by decide) (by decide) (gM zc_Row) zn_Row zm_Input_11 zi_Row rfl (by decide +kernel) rfl ⟨Nat.le_of_ble_eq_true rfl, Nat.le_of_ble_eq_true rfl⟩ ⟨Nat.le_of_ble_eq_true rfl, Nat.le_of_ble_eq_true rfl⟩ hl rfl (Nat.le_of_ble_eq_true rfl) dX1_init_37 (fun a2 H locs hq hPn hDn hS => ?_)
  subst hq
  have hP := hPn
  have hD := hDn
  have hP : va_P K.1 vC ([(h0, .inr (1, [.ref (a0 0), .ref (a1 0), .null, .null, .int 0, .int 0, .int 0, .int 0, .int 0]))] ++ ((wRow K a0 60 (fun _ => 0)) ++ ((wRow K a1 15 (fun _ => 0)) ++ ((wRow K a2 15 (fun _ => 0)))))) H := hP
  have hD : va_D A ([(h0, .inr (1, [.ref (a0 0), .ref (a1 0), .null, .null, .int 0, .int 0, .int 0, .int 0, .int 0]))] ++ ((wRow K a0 60 (fun _ => 0)) ++ ((wRow K a1 15 (fun _ => 0)) ++ ((wRow K a2 15 (fun _ => 0)))))) := hD
  refine W.widen (k := 6) (n := 93) (by omega) (by omega) ?_
  refine va_putF (D := K.1) (ci := 1) (v := .ref (a2 0)) (ty := (.object "ConstrainedDelaunay$Row")) (C := RX1) (T := TX1) (N := 9) (pc := 40) hx hb hts inT1 tyX1 tyX1_ok nmX1 hown hG.1 hP hD hS 0 rfl rfl 2 (by decide) (hts _ zf_Input_23) (fun _ h9 => h9) rfl hin rfl (by decide +kernel) rfl rfl (Nat.le_of_ble_eq_true rfl) dX1_init_40 (fun H locs hP hD hS => ?_)
  have hP : va_P K.1 vC ([(h0, .inr (1, [.ref (a0 0), .ref (a1 0), .ref (a2 0), .null, .int 0, .int 0, .int 0, .int 0, .int 0]))] ++ ((wRow K a0 60 (fun _ => 0)) ++ ((wRow K a1 15 (fun _ => 0)) ++ ((wRow K a2 15 (fun _ => 0)))))) H := hP
  have hD : va_D A ([(h0, .inr (1, [.ref (a0 0), .ref (a1 0), .ref (a2 0), .null, .int 0, .int 0, .int 0, .int 0, .int 0]))] ++ ((wRow K a0 60 (fun _ => 0)) ++ ((wRow K a1 15 (fun _ => 0)) ++ ((wRow K a2 15 (fun _ => 0)))))) := hD
  refine lv_aload_n (pc := 43) hx hb dX1_init_43 rfl (lv_at hl 0 rfl) ?_
  refine va_new (ci := 4) (fs := [.null]) (C := RX4) (T := TX4) (N := 1) (pc := 44) hx hb hts inT4 tyX4 tyX4_ok hown (hts _ zl_Input_9) (hts _ zk_Row) (hts _ zn_Row) hG.1 hP hD hS hA rfl (by decide) (Nat.le_of_ble_eq_true rfl) (Nat.le_of_ble_eq_true rfl) dX1_init_44 (fun q3 H hP hD hS => ?_)
  refine W.widen (k := 7) (n := 94) (by omega) (by omega) ?_
  have hP : va_P K.1 vC ([(h0, .inr (1, [.ref (a0 0), .ref (a1 0), .ref (a2 0), .null, .int 0, .int 0, .int 0, .int 0, .int 0]))] ++ ((wRow K a0 60 (fun _ => 0)) ++ ((wRow K a1 15 (fun _ => 0)) ++ ((wRow K a2 15 (fun _ => 0)) ++ (([(q3, .inr (4, [.null]))])))))) H := hP
  have hD : va_D A ([(h0, .inr (1, [.ref (a0 0), .ref (a1 0), .ref (a2 0), .null, .int 0, .int 0, .int 0, .int 0, .int 0]))] ++ ((wRow K a0 60 (fun _ => 0)) ++ ((wRow K a1 15 (fun _ => 0)) ++ ((wRow K a2 15 (fun _ => 0)) ++ (([(q3, .inr (4, [.null]))])))))) := hD
  refine lv_dup (pc := 47) hx hb dX1_init_47 rfl ?_
  refine lv_bipush (v := (15 : Int32)) (pc := 48) hx hb dX1_init_48 (by decide) ?_
  refine inC (pc := 50) (As := [.int (i32 15)]) (rest := [.ref q3, .ref h0]) (wr := ([(h0, .inr (1, [.ref (a0 0), .ref (a1 0), .ref (a2 0), .null, .int 0, .int 0, .int 0, .int 0, .int 0]))] ++ ((wRow K a0 60 (fun _ => 0)) ++ ((wRow K a1 15 (fun _ => 0)) ++ ((wRow K a2 15 (fun _ => 0))))))) hx hb hml hown hts hG hO hP hD hS hA (i_Row l K 15 (by omega)) 7 [0, 1, 2, 3, 4, 5, 6] rfl rfl (by decide) (by decide) (gM zc_Row) zn_Row zm_Input_11 zi_Row rfl (by decide +kernel) rfl ⟨Nat.le_of_ble_eq_true rfl, Nat.le_of_ble_eq_true rfl⟩ ⟨Nat.le_of_ble_eq_true rfl, Nat.le_of_ble_eq_true rfl⟩ hl rfl (Nat.le_of_ble_eq_true rfl) dX1_init_50 (fun a3 H locs hq hPn hDn hS => ?_)
  subst hq
  have hP := hPn
  have hD := hDn
  have hP : va_P K.1 vC ([(h0, .inr (1, [.ref (a0 0), .ref (a1 0), .ref (a2 0), .null, .int 0, .int 0, .int 0, .int 0, .int 0]))] ++ ((wRow K a0 60 (fun _ => 0)) ++ ((wRow K a1 15 (fun _ => 0)) ++ ((wRow K a2 15 (fun _ => 0)) ++ ((wRow K a3 15 (fun _ => 0))))))) H := hP
  have hD : va_D A ([(h0, .inr (1, [.ref (a0 0), .ref (a1 0), .ref (a2 0), .null, .int 0, .int 0, .int 0, .int 0, .int 0]))] ++ ((wRow K a0 60 (fun _ => 0)) ++ ((wRow K a1 15 (fun _ => 0)) ++ ((wRow K a2 15 (fun _ => 0)) ++ ((wRow K a3 15 (fun _ => 0))))))) := hD
  refine W.widen (k := 8) (n := 109) (by omega) (by omega) ?_
  refine va_putF (D := K.1) (ci := 1) (v := .ref (a3 0)) (ty := (.object "ConstrainedDelaunay$Row")) (C := RX1) (T := TX1) (N := 9) (pc := 53) hx hb hts inT1 tyX1 tyX1_ok nmX1 hown hG.1 hP hD hS 0 rfl rfl 3 (by decide) (hts _ zf_Input_26) (fun _ h9 => h9) rfl hin rfl (by decide +kernel) rfl rfl (Nat.le_of_ble_eq_true rfl) dX1_init_53 (fun H locs hP hD hS => ?_)
  have hP : va_P K.1 vC ([(h0, .inr (1, [.ref (a0 0), .ref (a1 0), .ref (a2 0), .ref (a3 0), .int 0, .int 0, .int 0, .int 0, .int 0]))] ++ ((wRow K a0 60 (fun _ => 0)) ++ ((wRow K a1 15 (fun _ => 0)) ++ ((wRow K a2 15 (fun _ => 0)) ++ ((wRow K a3 15 (fun _ => 0))))))) H := hP
  have hD : va_D A ([(h0, .inr (1, [.ref (a0 0), .ref (a1 0), .ref (a2 0), .ref (a3 0), .int 0, .int 0, .int 0, .int 0, .int 0]))] ++ ((wRow K a0 60 (fun _ => 0)) ++ ((wRow K a1 15 (fun _ => 0)) ++ ((wRow K a2 15 (fun _ => 0)) ++ ((wRow K a3 15 (fun _ => 0))))))) := hD
  refine lv_aload_n (pc := 56) hx hb dX1_init_56 rfl (lv_at hl 0 rfl) ?_
  refine lv_iconst (v := (0 : Int32)) (pc := 57) hx hb dX1_init_57 (by decide) ?_
  refine va_put (D := K.1) (ci := 1) (v := .int (0 : Int32)) (ty := .int) (C := RX1) (T := TX1) (N := 9) (pc := 58) hx hb hts inT1 tyX1 tyX1_ok nmX1 hown hG.1 hP hD hS 0 rfl rfl 4 (by decide) (hts _ zf_Input_29) (fun _ h9 => h9) rfl (by decide +kernel) rfl rfl (Nat.le_of_ble_eq_true rfl) dX1_init_58 (fun H locs hP hD hS => ?_)
  have hP : va_P K.1 vC ([(h0, .inr (1, [.ref (a0 0), .ref (a1 0), .ref (a2 0), .ref (a3 0), .int (0 : Int32), .int 0, .int 0, .int 0, .int 0]))] ++ ((wRow K a0 60 (fun _ => 0)) ++ ((wRow K a1 15 (fun _ => 0)) ++ ((wRow K a2 15 (fun _ => 0)) ++ ((wRow K a3 15 (fun _ => 0))))))) H := hP
  have hD : va_D A ([(h0, .inr (1, [.ref (a0 0), .ref (a1 0), .ref (a2 0), .ref (a3 0), .int (0 : Int32), .int 0, .int 0, .int 0, .int 0]))] ++ ((wRow K a0 60 (fun _ => 0)) ++ ((wRow K a1 15 (fun _ => 0)) ++ ((wRow K a2 15 (fun _ => 0)) ++ ((wRow K a3 15 (fun _ => 0))))))) := hD
  refine lv_aload_n (pc := 61) hx hb dX1_init_61 rfl (lv_at hl 0 rfl) ?_
  refine lv_iconst (v := (0 : Int32)) (pc := 62) hx hb dX1_init_62 (by decide) ?_
  refine va_put (D := K.1) (ci := 1) (v := .int (0 : Int32)) (ty := .int) (C := RX1) (T := TX1) (N := 9) (pc := 63) hx hb hts inT1 tyX1 tyX1_ok nmX1 hown hG.1 hP hD hS 0 rfl rfl 5 (by decide) (hts _ zf_Input_33) (fun _ h9 => h9) rfl (by decide +kernel) rfl rfl (Nat.le_of_ble_eq_true rfl) dX1_init_63 (fun H locs hP hD hS => ?_)
  have hP : va_P K.1 vC ([(h0, .inr (1, [.ref (a0 0), .ref (a1 0), .ref (a2 0), .ref (a3 0), .int (0 : Int32), .int (0 : Int32), .int 0, .int 0, .int 0]))] ++ ((wRow K a0 60 (fun _ => 0)) ++ ((wRow K a1 15 (fun _ => 0)) ++ ((wRow K a2 15 (fun _ => 0)) ++ ((wRow K a3 15 (fun _ => 0))))))) H := hP
  have hD : va_D A ([(h0, .inr (1, [.ref (a0 0), .ref (a1 0), .ref (a2 0), .ref (a3 0), .int (0 : Int32), .int (0 : Int32), .int 0, .int 0, .int 0]))] ++ ((wRow K a0 60 (fun _ => 0)) ++ ((wRow K a1 15 (fun _ => 0)) ++ ((wRow K a2 15 (fun _ => 0)) ++ ((wRow K a3 15 (fun _ => 0))))))) := hD
  refine lv_aload_n (pc := 66) hx hb dX1_init_66 rfl (lv_at hl 0 rfl) ?_
  refine lv_iconst (v := (0 : Int32)) (pc := 67) hx hb dX1_init_67 (by decide) ?_
  refine va_put (D := K.1) (ci := 1) (v := .int (0 : Int32)) (ty := .boolean) (C := RX1) (T := TX1) (N := 9) (pc := 68) hx hb hts inT1 tyX1 tyX1_ok nmX1 hown hG.1 hP hD hS 0 rfl rfl 6 (by decide) (hts _ zf_Input_36) (fun _ h9 => h9) rfl (by decide +kernel) rfl rfl (Nat.le_of_ble_eq_true rfl) dX1_init_68 (fun H locs hP hD hS => ?_)
  have hP : va_P K.1 vC ([(h0, .inr (1, [.ref (a0 0), .ref (a1 0), .ref (a2 0), .ref (a3 0), .int (0 : Int32), .int (0 : Int32), .int (0 : Int32), .int 0, .int 0]))] ++ ((wRow K a0 60 (fun _ => 0)) ++ ((wRow K a1 15 (fun _ => 0)) ++ ((wRow K a2 15 (fun _ => 0)) ++ ((wRow K a3 15 (fun _ => 0))))))) H := hP
  have hD : va_D A ([(h0, .inr (1, [.ref (a0 0), .ref (a1 0), .ref (a2 0), .ref (a3 0), .int (0 : Int32), .int (0 : Int32), .int (0 : Int32), .int 0, .int 0]))] ++ ((wRow K a0 60 (fun _ => 0)) ++ ((wRow K a1 15 (fun _ => 0)) ++ ((wRow K a2 15 (fun _ => 0)) ++ ((wRow K a3 15 (fun _ => 0))))))) := hD
  refine lv_aload_n (pc := 71) hx hb dX1_init_71 rfl (lv_at hl 0 rfl) ?_
  refine lv_iconst (v := (0 : Int32)) (pc := 72) hx hb dX1_init_72 (by decide) ?_
  refine va_put (D := K.1) (ci := 1) (v := .int (0 : Int32)) (ty := .int) (C := RX1) (T := TX1) (N := 9) (pc := 73) hx hb hts inT1 tyX1 tyX1_ok nmX1 hown hG.1 hP hD hS 0 rfl rfl 7 (by decide) (hts _ zf_Input_40) (fun _ h9 => h9) rfl (by decide +kernel) rfl rfl (Nat.le_of_ble_eq_true rfl) dX1_init_73 (fun H locs hP hD hS => ?_)
  have hP : va_P K.1 vC ([(h0, .inr (1, [.ref (a0 0), .ref (a1 0), .ref (a2 0), .ref (a3 0), .int (0 : Int32), .int (0 : Int32), .int (0 : Int32), .int (0 : Int32), .int 0]))] ++ ((wRow K a0 60 (fun _ => 0)) ++ ((wRow K a1 15 (fun _ => 0)) ++ ((wRow K a2 15 (fun _ => 0)) ++ ((wRow K a3 15 (fun _ => 0))))))) H := hP
  have hD : va_D A ([(h0, .inr (1, [.ref (a0 0), .ref (a1 0), .ref (a2 0), .ref (a3 0), .int (0 : Int32), .int (0 : Int32), .int (0 : Int32), .int (0 : Int32), .int 0]))] ++ ((wRow K a0 60 (fun _ => 0)) ++ ((wRow K a1 15 (fun _ => 0)) ++ ((wRow K a2 15 (fun _ => 0)) ++ ((wRow K a3 15 (fun _ => 0))))))) := hD
  refine lv_aload_n (pc := 76) hx hb dX1_init_76 rfl (lv_at hl 0 rfl) ?_
  refine lv_iconst (v := (0 : Int32)) (pc := 77) hx hb dX1_init_77 (by decide) ?_
  refine va_put (D := K.1) (ci := 1) (v := .int (0 : Int32)) (ty := .int) (C := RX1) (T := TX1) (N := 9) (pc := 78) hx hb hts inT1 tyX1 tyX1_ok nmX1 hown hG.1 hP hD hS 0 rfl rfl 8 (by decide) (hts _ zf_Input_43) (fun _ h9 => h9) rfl (by decide +kernel) rfl rfl (Nat.le_of_ble_eq_true rfl) dX1_init_78 (fun H locs hP hD hS => ?_)
  have hP : va_P K.1 vC ([(h0, .inr (1, [.ref (a0 0), .ref (a1 0), .ref (a2 0), .ref (a3 0), .int (0 : Int32), .int (0 : Int32), .int (0 : Int32), .int (0 : Int32), .int (0 : Int32)]))] ++ ((wRow K a0 60 (fun _ => 0)) ++ ((wRow K a1 15 (fun _ => 0)) ++ ((wRow K a2 15 (fun _ => 0)) ++ ((wRow K a3 15 (fun _ => 0))))))) H := hP
  have hD : va_D A ([(h0, .inr (1, [.ref (a0 0), .ref (a1 0), .ref (a2 0), .ref (a3 0), .int (0 : Int32), .int (0 : Int32), .int (0 : Int32), .int (0 : Int32), .int (0 : Int32)]))] ++ ((wRow K a0 60 (fun _ => 0)) ++ ((wRow K a1 15 (fun _ => 0)) ++ ((wRow K a2 15 (fun _ => 0)) ++ ((wRow K a3 15 (fun _ => 0))))))) := hD
  have hP9 : va_P K.1 vC (wInput K (fun k => ([h0, a0 0, a0 1, a1 0, a1 1, a2 0, a2 1, a3 0, a3 1] : List Nat).getD k 0) (fun _ => 0) (fun _ => 0) (fun _ => 0) (fun _ => 0) 0 0 false 0 0) H := hP
  have hD9 : va_D A (wInput K (fun k => ([h0, a0 0, a0 1, a1 0, a1 1, a2 0, a2 1, a3 0, a3 1] : List Nat).getD k 0) (fun _ => 0) (fun _ => 0) (fun _ => 0) (fun _ => 0) 0 0 false 0 0) := hD
  exact W.vret hx hb hr (fun t ht hW => ⟨⟨(fun k => ([h0, a0 0, a0 1, a1 0, a1 1, a2 0, a2 1, a3 0, a3 1] : List Nat).getD k 0), rfl, rfl, by rw [ht]; exact hP9, hD9⟩, hS.F ht⟩) hS.2.2 dX1_init_81 hlk
set_option maxHeartbeats 8000000 in
set_option maxRecDepth 100000 in
theorem i_Mesh (l : Launch) (K : KT) (pq : Nat) : In l K 2 16 976 yX2_init cX2_init 2 2 [.ref pq] [.null, .null, .null, .null, .null, .null, .null, .null, .null, .int 0, .int 0, .int 0] (fun ad => wMeshO K ad pq) := by
  refine In.of (by decide +kernel) rfl (fun _ => Nat.le_of_ble_eq_true rfl) ?_
  intro h0 p e s m below meth c C0 hO hin A hA hP hD ls hl
  obtain ⟨hx, hb, hml, hown, hts, hG, hr, hlk⟩ := id C0
  have hS : va_S A s.heap s.heap [] := va_S.rf
  have hl : lv_has ls 2 [(0, .ref h0), (1, .ref pq)] := hl
  refine lv_aload_n (pc := 0) hx hb dX2_init_0 rfl (lv_at hl 0 rfl) ?_
  refine W.objInit hx hb hown (hts _ zo_Mesh) (hts _ zoi) (hts _ zoc) rfl (by rw [hml]; exact hl.1) rfl dX2_init_1 (Nat.le_of_ble_eq_true rfl) (Nat.le_of_ble_eq_true rfl) ?_
  refine W.eq (g2 := F0 m 4 ls []) rfl ?_
  refine lv_aload_n (pc := 4) hx hb dX2_init_4 rfl (lv_at hl 0 rfl) ?_
  refine lv_aload_n (pc := 5) hx hb dX2_init_5 rfl (lv_at hl 1 rfl) ?_
  refine va_putF (D := K.1) (ci := 2) (v := .ref pq) (ty := (.object "ConstrainedDelaunay$Plan")) (C := RX2) (T := TX2) (N := 12) (pc := 6) hx hb hts inT2 tyX2 tyX2_ok nmX2 hown hG.1 hP hD hS 0 rfl rfl 0 (by decide) (hts _ zf_Mesh_9) (fun _ h9 => h9) rfl hin rfl (by decide +kernel) rfl rfl (Nat.le_of_ble_eq_true rfl) dX2_init_6 (fun H locs hP hD hS => ?_)
  have hP : va_P K.1 vC ([(h0, .inr (2, [.ref pq, .null, .null, .null, .null, .null, .null, .null, .null, .int 0, .int 0, .int 0]))]) H := hP
  have hD : va_D A ([(h0, .inr (2, [.ref pq, .null, .null, .null, .null, .null, .null, .null, .null, .int 0, .int 0, .int 0]))]) := hD
  refine lv_aload_n (pc := 9) hx hb dX2_init_9 rfl (lv_at hl 0 rfl) ?_
  refine va_new (ci := 5) (fs := [.null, .int 0]) (C := RX5) (T := TX5) (N := 2) (pc := 10) hx hb hts inT5 tyX5 tyX5_ok hown (hts _ zl_Mesh_15) (hts _ zk_Tab) (hts _ zn_Tab) hG.1 hP hD hS hA rfl (by decide) (Nat.le_of_ble_eq_true rfl) (Nat.le_of_ble_eq_true rfl) dX2_init_10 (fun q0 H hP hD hS => ?_)
  refine W.widen (k := 1) (n := 2) (by omega) (by omega) ?_
  have hP : va_P K.1 vC ([(h0, .inr (2, [.ref pq, .null, .null, .null, .null, .null, .null, .null, .null, .int 0, .int 0, .int 0]))] ++ (([(q0, .inr (5, [.null, .int 0]))]))) H := hP
  have hD : va_D A ([(h0, .inr (2, [.ref pq, .null, .null, .null, .null, .null, .null, .null, .null, .int 0, .int 0, .int 0]))] ++ (([(q0, .inr (5, [.null, .int 0]))]))) := hD
  refine lv_dup (pc := 13) hx hb dX2_init_13 rfl ?_
  refine lv_iconst (v := (0 : Int32)) (pc := 14) hx hb dX2_init_14 (by decide) ?_
  refine inC (pc := 15) (As := [.int (0 : Int32)]) (rest := [.ref q0, .ref h0]) (wr := ([(h0, .inr (2, [.ref pq, .null, .null, .null, .null, .null, .null, .null, .null, .int 0, .int 0, .int 0]))])) hx hb hml hown hts hG hO hP hD hS hA (i_Tab l K (0 : Int32)) 1 [0] rfl rfl (by decide) (by decide) (gM zc_Tab) zn_Tab zm_Mesh_17 zi_Tab rfl (by decide +kernel) rfl ⟨Nat.le_of_ble_eq_true rfl, Nat.le_of_ble_eq_true rfl⟩ ⟨Nat.le_of_ble_eq_true rfl, Nat.le_of_ble_eq_true rfl⟩ hl rfl (Nat.le_of_ble_eq_true rfl) dX2_init_15 (fun a0 H locs hq hPn hDn hS => ?_)
  subst hq
  have hP := hPn
  have hD := hDn
  have hP : va_P K.1 vC ([(h0, .inr (2, [.ref pq, .null, .null, .null, .null, .null, .null, .null, .null, .int 0, .int 0, .int 0]))] ++ ((wTab K a0 (0 : Int32) (fun _ => 0)))) H := hP
  have hD : va_D A ([(h0, .inr (2, [.ref pq, .null, .null, .null, .null, .null, .null, .null, .null, .int 0, .int 0, .int 0]))] ++ ((wTab K a0 (0 : Int32) (fun _ => 0)))) := hD
  refine W.widen (k := 2) (n := 258) (by omega) (by omega) ?_
  refine va_putF (D := K.1) (ci := 2) (v := .ref (a0 0)) (ty := (.object "ConstrainedDelaunay$Table")) (C := RX2) (T := TX2) (N := 12) (pc := 18) hx hb hts inT2 tyX2 tyX2_ok nmX2 hown hG.1 hP hD hS 0 rfl rfl 1 (by decide) (hts _ zf_Mesh_20) (fun _ h9 => h9) rfl hin rfl (by decide +kernel) rfl rfl (Nat.le_of_ble_eq_true rfl) dX2_init_18 (fun H locs hP hD hS => ?_)
  have hP : va_P K.1 vC ([(h0, .inr (2, [.ref pq, .ref (a0 0), .null, .null, .null, .null, .null, .null, .null, .int 0, .int 0, .int 0]))] ++ ((wTab K a0 (0 : Int32) (fun _ => 0)))) H := hP
  have hD : va_D A ([(h0, .inr (2, [.ref pq, .ref (a0 0), .null, .null, .null, .null, .null, .null, .null, .int 0, .int 0, .int 0]))] ++ ((wTab K a0 (0 : Int32) (fun _ => 0)))) := hD
  refine lv_aload_n (pc := 21) hx hb dX2_init_21 rfl (lv_at hl 0 rfl) ?_
  refine va_new (ci := 5) (fs := [.null, .int 0]) (C := RX5) (T := TX5) (N := 2) (pc := 22) hx hb hts inT5 tyX5 tyX5_ok hown (hts _ zl_Mesh_15) (hts _ zk_Tab) (hts _ zn_Tab) hG.1 hP hD hS hA rfl (by decide) (Nat.le_of_ble_eq_true rfl) (Nat.le_of_ble_eq_true rfl) dX2_init_22 (fun q1 H hP hD hS => ?_)
  refine W.widen (k := 3) (n := 260) (by omega) (by omega) ?_
  have hP : va_P K.1 vC ([(h0, .inr (2, [.ref pq, .ref (a0 0), .null, .null, .null, .null, .null, .null, .null, .int 0, .int 0, .int 0]))] ++ ((wTab K a0 (0 : Int32) (fun _ => 0)) ++ (([(q1, .inr (5, [.null, .int 0]))])))) H := hP
  have hD : va_D A ([(h0, .inr (2, [.ref pq, .ref (a0 0), .null, .null, .null, .null, .null, .null, .null, .int 0, .int 0, .int 0]))] ++ ((wTab K a0 (0 : Int32) (fun _ => 0)) ++ (([(q1, .inr (5, [.null, .int 0]))])))) := hD
  refine lv_dup (pc := 25) hx hb dX2_init_25 rfl ?_
  refine lv_iconst (v := (-1 : Int32)) (pc := 26) hx hb dX2_init_26 (by decide) ?_
  refine inC (pc := 27) (As := [.int (-1 : Int32)]) (rest := [.ref q1, .ref h0]) (wr := ([(h0, .inr (2, [.ref pq, .ref (a0 0), .null, .null, .null, .null, .null, .null, .null, .int 0, .int 0, .int 0]))] ++ ((wTab K a0 (0 : Int32) (fun _ => 0))))) hx hb hml hown hts hG hO hP hD hS hA (i_Tab l K (-1 : Int32)) 3 [0, 1, 2] rfl rfl (by decide) (by decide) (gM zc_Tab) zn_Tab zm_Mesh_17 zi_Tab rfl (by decide +kernel) rfl ⟨Nat.le_of_ble_eq_true rfl, Nat.le_of_ble_eq_true rfl⟩ ⟨Nat.le_of_ble_eq_true rfl, Nat.le_of_ble_eq_true rfl⟩ hl rfl (Nat.le_of_ble_eq_true rfl) dX2_init_27 (fun a1 H locs hq hPn hDn hS => ?_)
  subst hq
  have hP := hPn
  have hD := hDn
  have hP : va_P K.1 vC ([(h0, .inr (2, [.ref pq, .ref (a0 0), .null, .null, .null, .null, .null, .null, .null, .int 0, .int 0, .int 0]))] ++ ((wTab K a0 (0 : Int32) (fun _ => 0)) ++ ((wTab K a1 (-1 : Int32) (fun _ => 0))))) H := hP
  have hD : va_D A ([(h0, .inr (2, [.ref pq, .ref (a0 0), .null, .null, .null, .null, .null, .null, .null, .int 0, .int 0, .int 0]))] ++ ((wTab K a0 (0 : Int32) (fun _ => 0)) ++ ((wTab K a1 (-1 : Int32) (fun _ => 0))))) := hD
  refine W.widen (k := 4) (n := 516) (by omega) (by omega) ?_
  refine va_putF (D := K.1) (ci := 2) (v := .ref (a1 0)) (ty := (.object "ConstrainedDelaunay$Table")) (C := RX2) (T := TX2) (N := 12) (pc := 30) hx hb hts inT2 tyX2 tyX2_ok nmX2 hown hG.1 hP hD hS 0 rfl rfl 2 (by decide) (hts _ zf_Mesh_24) (fun _ h9 => h9) rfl hin rfl (by decide +kernel) rfl rfl (Nat.le_of_ble_eq_true rfl) dX2_init_30 (fun H locs hP hD hS => ?_)
  have hP : va_P K.1 vC ([(h0, .inr (2, [.ref pq, .ref (a0 0), .ref (a1 0), .null, .null, .null, .null, .null, .null, .int 0, .int 0, .int 0]))] ++ ((wTab K a0 (0 : Int32) (fun _ => 0)) ++ ((wTab K a1 (-1 : Int32) (fun _ => 0))))) H := hP
  have hD : va_D A ([(h0, .inr (2, [.ref pq, .ref (a0 0), .ref (a1 0), .null, .null, .null, .null, .null, .null, .int 0, .int 0, .int 0]))] ++ ((wTab K a0 (0 : Int32) (fun _ => 0)) ++ ((wTab K a1 (-1 : Int32) (fun _ => 0))))) := hD
  refine lv_aload_n (pc := 33) hx hb dX2_init_33 rfl (lv_at hl 0 rfl) ?_
  refine va_new (ci := 5) (fs := [.null, .int 0]) (C := RX5) (T := TX5) (N := 2) (pc := 34) hx hb hts inT5 tyX5 tyX5_ok hown (hts _ zl_Mesh_15) (hts _ zk_Tab) (hts _ zn_Tab) hG.1 hP hD hS hA rfl (by decide) (Nat.le_of_ble_eq_true rfl) (Nat.le_of_ble_eq_true rfl) dX2_init_34 (fun q2 H hP hD hS => ?_)
  refine W.widen (k := 5) (n := 518) (by omega) (by omega) ?_
  have hP : va_P K.1 vC ([(h0, .inr (2, [.ref pq, .ref (a0 0), .ref (a1 0), .null, .null, .null, .null, .null, .null, .int 0, .int 0, .int 0]))] ++ ((wTab K a0 (0 : Int32) (fun _ => 0)) ++ ((wTab K a1 (-1 : Int32) (fun _ => 0)) ++ (([(q2, .inr (5, [.null, .int 0]))]))))) H := hP
  have hD : va_D A ([(h0, .inr (2, [.ref pq, .ref (a0 0), .ref (a1 0), .null, .null, .null, .null, .null, .null, .int 0, .int 0, .int 0]))] ++ ((wTab K a0 (0 : Int32) (fun _ => 0)) ++ ((wTab K a1 (-1 : Int32) (fun _ => 0)) ++ (([(q2, .inr (5, [.null, .int 0]))]))))) := hD
  refine lv_dup (pc := 37) hx hb dX2_init_37 rfl ?_
  refine lv_iconst (v := (-1 : Int32)) (pc := 38) hx hb dX2_init_38 (by decide) ?_
  refine inC (pc := 39) (As := [.int (-1 : Int32)]) (rest := [.ref q2, .ref h0]) (wr := ([(h0, .inr (2, [.ref pq, .ref (a0 0), .ref (a1 0), .null, .null, .null, .null, .null, .null, .int 0, .int 0, .int 0]))] ++ ((wTab K a0 (0 : Int32) (fun _ => 0)) ++ ((wTab K a1 (-1 : Int32) (fun _ => 0)))))) hx hb hml hown hts hG hO hP hD hS hA (i_Tab l K (-1 : Int32)) 5 [0, 1, 2, 3, 4] rfl rfl (by decide) (by decide) (gM zc_Tab) zn_Tab zm_Mesh_17 zi_Tab rfl (by decide +kernel) rfl ⟨Nat.le_of_ble_eq_true rfl, Nat.le_of_ble_eq_true rfl⟩ ⟨Nat.le_of_ble_eq_true rfl, Nat.le_of_ble_eq_true rfl⟩ hl rfl (Nat.le_of_ble_eq_true rfl) dX2_init_39 (fun a2 H locs hq hPn hDn hS => ?_)
  subst hq
  have hP := hPn
  have hD := hDn
  have hP : va_P K.1 vC ([(h0, .inr (2, [.ref pq, .ref (a0 0), .ref (a1 0), .null, .null, .null, .null, .null, .null, .int 0, .int 0, .int 0]))] ++ ((wTab K a0 (0 : Int32) (fun _ => 0)) ++ ((wTab K a1 (-1 : Int32) (fun _ => 0)) ++ ((wTab K a2 (-1 : Int32) (fun _ => 0)))))) H := hP
  have hD : va_D A ([(h0, .inr (2, [.ref pq, .ref (a0 0), .ref (a1 0), .null, .null, .null, .null, .null, .null, .int 0, .int 0, .int 0]))] ++ ((wTab K a0 (0 : Int32) (fun _ => 0)) ++ ((wTab K a1 (-1 : Int32) (fun _ => 0)) ++ ((wTab K a2 (-1 : Int32) (fun _ => 0)))))) := hD
  refine W.widen (k := 6) (n := 774) (by omega) (by omega) ?_
  refine va_putF (D := K.1) (ci := 2) (v := .ref (a2 0)) (ty := (.object "ConstrainedDelaunay$Table")) (C := RX2) (T := TX2) (N := 12) (pc := 42) hx hb hts inT2 tyX2 tyX2_ok nmX2 hown hG.1 hP hD hS 0 rfl rfl 3 (by decide) (hts _ zf_Mesh_27) (fun _ h9 => h9) rfl hin rfl (by decide +kernel) rfl rfl (Nat.le_of_ble_eq_true rfl) dX2_init_42 (fun H locs hP hD hS => ?_)
  have hP : va_P K.1 vC ([(h0, .inr (2, [.ref pq, .ref (a0 0), .ref (a1 0), .ref (a2 0), .null, .null, .null, .null, .null, .int 0, .int 0, .int 0]))] ++ ((wTab K a0 (0 : Int32) (fun _ => 0)) ++ ((wTab K a1 (-1 : Int32) (fun _ => 0)) ++ ((wTab K a2 (-1 : Int32) (fun _ => 0)))))) H := hP
  have hD : va_D A ([(h0, .inr (2, [.ref pq, .ref (a0 0), .ref (a1 0), .ref (a2 0), .null, .null, .null, .null, .null, .int 0, .int 0, .int 0]))] ++ ((wTab K a0 (0 : Int32) (fun _ => 0)) ++ ((wTab K a1 (-1 : Int32) (fun _ => 0)) ++ ((wTab K a2 (-1 : Int32) (fun _ => 0)))))) := hD
  refine lv_aload_n (pc := 45) hx hb dX2_init_45 rfl (lv_at hl 0 rfl) ?_
  refine va_new (ci := 4) (fs := [.null]) (C := RX4) (T := TX4) (N := 1) (pc := 46) hx hb hts inT4 tyX4 tyX4_ok hown (hts _ zl_Mesh_30) (hts _ zk_Row) (hts _ zn_Row) hG.1 hP hD hS hA rfl (by decide) (Nat.le_of_ble_eq_true rfl) (Nat.le_of_ble_eq_true rfl) dX2_init_46 (fun q3 H hP hD hS => ?_)
  refine W.widen (k := 7) (n := 775) (by omega) (by omega) ?_
  have hP : va_P K.1 vC ([(h0, .inr (2, [.ref pq, .ref (a0 0), .ref (a1 0), .ref (a2 0), .null, .null, .null, .null, .null, .int 0, .int 0, .int 0]))] ++ ((wTab K a0 (0 : Int32) (fun _ => 0)) ++ ((wTab K a1 (-1 : Int32) (fun _ => 0)) ++ ((wTab K a2 (-1 : Int32) (fun _ => 0)) ++ (([(q3, .inr (4, [.null]))])))))) H := hP
  have hD : va_D A ([(h0, .inr (2, [.ref pq, .ref (a0 0), .ref (a1 0), .ref (a2 0), .null, .null, .null, .null, .null, .int 0, .int 0, .int 0]))] ++ ((wTab K a0 (0 : Int32) (fun _ => 0)) ++ ((wTab K a1 (-1 : Int32) (fun _ => 0)) ++ ((wTab K a2 (-1 : Int32) (fun _ => 0)) ++ (([(q3, .inr (4, [.null]))])))))) := hD
  refine lv_dup (pc := 49) hx hb dX2_init_49 rfl ?_
  refine lv_bipush (v := (16 : Int32)) (pc := 50) hx hb dX2_init_50 (by decide) ?_
  refine inC (pc := 52) (As := [.int (i32 16)]) (rest := [.ref q3, .ref h0]) (wr := ([(h0, .inr (2, [.ref pq, .ref (a0 0), .ref (a1 0), .ref (a2 0), .null, .null, .null, .null, .null, .int 0, .int 0, .int 0]))] ++ ((wTab K a0 (0 : Int32) (fun _ => 0)) ++ ((wTab K a1 (-1 : Int32) (fun _ => 0)) ++ ((wTab K a2 (-1 : Int32) (fun _ => 0))))))) hx hb hml hown hts hG hO hP hD hS hA (i_Row l K 16 (by omega)) 7 [0, 1, 2, 3, 4, 5, 6] rfl rfl (by decide) (by decide) (gM zc_Row) zn_Row zm_Mesh_32 zi_Row rfl (by decide +kernel) rfl ⟨Nat.le_of_ble_eq_true rfl, Nat.le_of_ble_eq_true rfl⟩ ⟨Nat.le_of_ble_eq_true rfl, Nat.le_of_ble_eq_true rfl⟩ hl rfl (Nat.le_of_ble_eq_true rfl) dX2_init_52 (fun a3 H locs hq hPn hDn hS => ?_)
  subst hq
  have hP := hPn
  have hD := hDn
  have hP : va_P K.1 vC ([(h0, .inr (2, [.ref pq, .ref (a0 0), .ref (a1 0), .ref (a2 0), .null, .null, .null, .null, .null, .int 0, .int 0, .int 0]))] ++ ((wTab K a0 (0 : Int32) (fun _ => 0)) ++ ((wTab K a1 (-1 : Int32) (fun _ => 0)) ++ ((wTab K a2 (-1 : Int32) (fun _ => 0)) ++ ((wRow K a3 16 (fun _ => 0))))))) H := hP
  have hD : va_D A ([(h0, .inr (2, [.ref pq, .ref (a0 0), .ref (a1 0), .ref (a2 0), .null, .null, .null, .null, .null, .int 0, .int 0, .int 0]))] ++ ((wTab K a0 (0 : Int32) (fun _ => 0)) ++ ((wTab K a1 (-1 : Int32) (fun _ => 0)) ++ ((wTab K a2 (-1 : Int32) (fun _ => 0)) ++ ((wRow K a3 16 (fun _ => 0))))))) := hD
  refine W.widen (k := 8) (n := 791) (by omega) (by omega) ?_
  refine va_putF (D := K.1) (ci := 2) (v := .ref (a3 0)) (ty := (.object "ConstrainedDelaunay$Row")) (C := RX2) (T := TX2) (N := 12) (pc := 55) hx hb hts inT2 tyX2 tyX2_ok nmX2 hown hG.1 hP hD hS 0 rfl rfl 4 (by decide) (hts _ zf_Mesh_33) (fun _ h9 => h9) rfl hin rfl (by decide +kernel) rfl rfl (Nat.le_of_ble_eq_true rfl) dX2_init_55 (fun H locs hP hD hS => ?_)
  have hP : va_P K.1 vC ([(h0, .inr (2, [.ref pq, .ref (a0 0), .ref (a1 0), .ref (a2 0), .ref (a3 0), .null, .null, .null, .null, .int 0, .int 0, .int 0]))] ++ ((wTab K a0 (0 : Int32) (fun _ => 0)) ++ ((wTab K a1 (-1 : Int32) (fun _ => 0)) ++ ((wTab K a2 (-1 : Int32) (fun _ => 0)) ++ ((wRow K a3 16 (fun _ => 0))))))) H := hP
  have hD : va_D A ([(h0, .inr (2, [.ref pq, .ref (a0 0), .ref (a1 0), .ref (a2 0), .ref (a3 0), .null, .null, .null, .null, .int 0, .int 0, .int 0]))] ++ ((wTab K a0 (0 : Int32) (fun _ => 0)) ++ ((wTab K a1 (-1 : Int32) (fun _ => 0)) ++ ((wTab K a2 (-1 : Int32) (fun _ => 0)) ++ ((wRow K a3 16 (fun _ => 0))))))) := hD
  refine lv_aload_n (pc := 58) hx hb dX2_init_58 rfl (lv_at hl 0 rfl) ?_
  refine va_new (ci := 4) (fs := [.null]) (C := RX4) (T := TX4) (N := 1) (pc := 59) hx hb hts inT4 tyX4 tyX4_ok hown (hts _ zl_Mesh_30) (hts _ zk_Row) (hts _ zn_Row) hG.1 hP hD hS hA rfl (by decide) (Nat.le_of_ble_eq_true rfl) (Nat.le_of_ble_eq_true rfl) dX2_init_59 (fun q4 H hP hD hS => ?_)
  refine W.widen (k := 9) (n := 792) (by omega) (by omega) ?_
  have hP : va_P K.1 vC ([(h0, .inr (2, [.ref pq, .ref (a0 0), .ref (a1 0), .ref (a2 0), .ref (a3 0), .null, .null, .null, .null, .int 0, .int 0, .int 0]))] ++ ((wTab K a0 (0 : Int32) (fun _ => 0)) ++ ((wTab K a1 (-1 : Int32) (fun _ => 0)) ++ ((wTab K a2 (-1 : Int32) (fun _ => 0)) ++ ((wRow K a3 16 (fun _ => 0)) ++ (([(q4, .inr (4, [.null]))]))))))) H := hP
  have hD : va_D A ([(h0, .inr (2, [.ref pq, .ref (a0 0), .ref (a1 0), .ref (a2 0), .ref (a3 0), .null, .null, .null, .null, .int 0, .int 0, .int 0]))] ++ ((wTab K a0 (0 : Int32) (fun _ => 0)) ++ ((wTab K a1 (-1 : Int32) (fun _ => 0)) ++ ((wTab K a2 (-1 : Int32) (fun _ => 0)) ++ ((wRow K a3 16 (fun _ => 0)) ++ (([(q4, .inr (4, [.null]))]))))))) := hD
  refine lv_dup (pc := 62) hx hb dX2_init_62 rfl ?_
  refine lv_bipush (v := (42 : Int32)) (pc := 63) hx hb dX2_init_63 (by decide) ?_
  refine inC (pc := 65) (As := [.int (i32 42)]) (rest := [.ref q4, .ref h0]) (wr := ([(h0, .inr (2, [.ref pq, .ref (a0 0), .ref (a1 0), .ref (a2 0), .ref (a3 0), .null, .null, .null, .null, .int 0, .int 0, .int 0]))] ++ ((wTab K a0 (0 : Int32) (fun _ => 0)) ++ ((wTab K a1 (-1 : Int32) (fun _ => 0)) ++ ((wTab K a2 (-1 : Int32) (fun _ => 0)) ++ ((wRow K a3 16 (fun _ => 0)))))))) hx hb hml hown hts hG hO hP hD hS hA (i_Row l K 42 (by omega)) 9 [0, 1, 2, 3, 4, 5, 6, 7, 8] rfl rfl (by decide) (by decide) (gM zc_Row) zn_Row zm_Mesh_32 zi_Row rfl (by decide +kernel) rfl ⟨Nat.le_of_ble_eq_true rfl, Nat.le_of_ble_eq_true rfl⟩ ⟨Nat.le_of_ble_eq_true rfl, Nat.le_of_ble_eq_true rfl⟩ hl rfl (Nat.le_of_ble_eq_true rfl) dX2_init_65 (fun a4 H locs hq hPn hDn hS => ?_)
  subst hq
  have hP := hPn
  have hD := hDn
  have hP : va_P K.1 vC ([(h0, .inr (2, [.ref pq, .ref (a0 0), .ref (a1 0), .ref (a2 0), .ref (a3 0), .null, .null, .null, .null, .int 0, .int 0, .int 0]))] ++ ((wTab K a0 (0 : Int32) (fun _ => 0)) ++ ((wTab K a1 (-1 : Int32) (fun _ => 0)) ++ ((wTab K a2 (-1 : Int32) (fun _ => 0)) ++ ((wRow K a3 16 (fun _ => 0)) ++ ((wRow K a4 42 (fun _ => 0)))))))) H := hP
  have hD : va_D A ([(h0, .inr (2, [.ref pq, .ref (a0 0), .ref (a1 0), .ref (a2 0), .ref (a3 0), .null, .null, .null, .null, .int 0, .int 0, .int 0]))] ++ ((wTab K a0 (0 : Int32) (fun _ => 0)) ++ ((wTab K a1 (-1 : Int32) (fun _ => 0)) ++ ((wTab K a2 (-1 : Int32) (fun _ => 0)) ++ ((wRow K a3 16 (fun _ => 0)) ++ ((wRow K a4 42 (fun _ => 0)))))))) := hD
  refine W.widen (k := 10) (n := 834) (by omega) (by omega) ?_
  refine va_putF (D := K.1) (ci := 2) (v := .ref (a4 0)) (ty := (.object "ConstrainedDelaunay$Row")) (C := RX2) (T := TX2) (N := 12) (pc := 68) hx hb hts inT2 tyX2 tyX2_ok nmX2 hown hG.1 hP hD hS 0 rfl rfl 5 (by decide) (hts _ zf_Mesh_37) (fun _ h9 => h9) rfl hin rfl (by decide +kernel) rfl rfl (Nat.le_of_ble_eq_true rfl) dX2_init_68 (fun H locs hP hD hS => ?_)
  have hP : va_P K.1 vC ([(h0, .inr (2, [.ref pq, .ref (a0 0), .ref (a1 0), .ref (a2 0), .ref (a3 0), .ref (a4 0), .null, .null, .null, .int 0, .int 0, .int 0]))] ++ ((wTab K a0 (0 : Int32) (fun _ => 0)) ++ ((wTab K a1 (-1 : Int32) (fun _ => 0)) ++ ((wTab K a2 (-1 : Int32) (fun _ => 0)) ++ ((wRow K a3 16 (fun _ => 0)) ++ ((wRow K a4 42 (fun _ => 0)))))))) H := hP
  have hD : va_D A ([(h0, .inr (2, [.ref pq, .ref (a0 0), .ref (a1 0), .ref (a2 0), .ref (a3 0), .ref (a4 0), .null, .null, .null, .int 0, .int 0, .int 0]))] ++ ((wTab K a0 (0 : Int32) (fun _ => 0)) ++ ((wTab K a1 (-1 : Int32) (fun _ => 0)) ++ ((wTab K a2 (-1 : Int32) (fun _ => 0)) ++ ((wRow K a3 16 (fun _ => 0)) ++ ((wRow K a4 42 (fun _ => 0)))))))) := hD
  refine lv_aload_n (pc := 71) hx hb dX2_init_71 rfl (lv_at hl 0 rfl) ?_
  refine va_new (ci := 4) (fs := [.null]) (C := RX4) (T := TX4) (N := 1) (pc := 72) hx hb hts inT4 tyX4 tyX4_ok hown (hts _ zl_Mesh_30) (hts _ zk_Row) (hts _ zn_Row) hG.1 hP hD hS hA rfl (by decide) (Nat.le_of_ble_eq_true rfl) (Nat.le_of_ble_eq_true rfl) dX2_init_72 (fun q5 H hP hD hS => ?_)
  refine W.widen (k := 11) (n := 835) (by omega) (by omega) ?_
  have hP : va_P K.1 vC ([(h0, .inr (2, [.ref pq, .ref (a0 0), .ref (a1 0), .ref (a2 0), .ref (a3 0), .ref (a4 0), .null, .null, .null, .int 0, .int 0, .int 0]))] ++ ((wTab K a0 (0 : Int32) (fun _ => 0)) ++ ((wTab K a1 (-1 : Int32) (fun _ => 0)) ++ ((wTab K a2 (-1 : Int32) (fun _ => 0)) ++ ((wRow K a3 16 (fun _ => 0)) ++ ((wRow K a4 42 (fun _ => 0)) ++ (([(q5, .inr (4, [.null]))])))))))) H := hP
  have hD : va_D A ([(h0, .inr (2, [.ref pq, .ref (a0 0), .ref (a1 0), .ref (a2 0), .ref (a3 0), .ref (a4 0), .null, .null, .null, .int 0, .int 0, .int 0]))] ++ ((wTab K a0 (0 : Int32) (fun _ => 0)) ++ ((wTab K a1 (-1 : Int32) (fun _ => 0)) ++ ((wTab K a2 (-1 : Int32) (fun _ => 0)) ++ ((wRow K a3 16 (fun _ => 0)) ++ ((wRow K a4 42 (fun _ => 0)) ++ (([(q5, .inr (4, [.null]))])))))))) := hD
  refine lv_dup (pc := 75) hx hb dX2_init_75 rfl ?_
  refine lv_bipush (v := (42 : Int32)) (pc := 76) hx hb dX2_init_76 (by decide) ?_
  refine inC (pc := 78) (As := [.int (i32 42)]) (rest := [.ref q5, .ref h0]) (wr := ([(h0, .inr (2, [.ref pq, .ref (a0 0), .ref (a1 0), .ref (a2 0), .ref (a3 0), .ref (a4 0), .null, .null, .null, .int 0, .int 0, .int 0]))] ++ ((wTab K a0 (0 : Int32) (fun _ => 0)) ++ ((wTab K a1 (-1 : Int32) (fun _ => 0)) ++ ((wTab K a2 (-1 : Int32) (fun _ => 0)) ++ ((wRow K a3 16 (fun _ => 0)) ++ ((wRow K a4 42 (fun _ => 0))))))))) hx hb hml hown hts hG hO hP hD hS hA (i_Row l K 42 (by omega)) 11 [0, 1, 2, 3, 4, 5, 6, 7, 8, 9, 10] rfl rfl (by decide) (by decide) (gM zc_Row) zn_Row zm_Mesh_32 zi_Row rfl (by decide +kernel) rfl ⟨Nat.le_of_ble_eq_true rfl, Nat.le_of_ble_eq_true rfl⟩ ⟨Nat.le_of_ble_eq_true rfl, Nat.le_of_ble_eq_true rfl⟩ hl rfl (Nat.le_of_ble_eq_true rfl) dX2_init_78 (fun a5 H locs hq hPn hDn hS => ?_)
  subst hq
  have hP := hPn
  have hD := hDn
  have hP : va_P K.1 vC ([(h0, .inr (2, [.ref pq, .ref (a0 0), .ref (a1 0), .ref (a2 0), .ref (a3 0), .ref (a4 0), .null, .null, .null, .int 0, .int 0, .int 0]))] ++ ((wTab K a0 (0 : Int32) (fun _ => 0)) ++ ((wTab K a1 (-1 : Int32) (fun _ => 0)) ++ ((wTab K a2 (-1 : Int32) (fun _ => 0)) ++ ((wRow K a3 16 (fun _ => 0)) ++ ((wRow K a4 42 (fun _ => 0)) ++ ((wRow K a5 42 (fun _ => 0))))))))) H := hP
  have hD : va_D A ([(h0, .inr (2, [.ref pq, .ref (a0 0), .ref (a1 0), .ref (a2 0), .ref (a3 0), .ref (a4 0), .null, .null, .null, .int 0, .int 0, .int 0]))] ++ ((wTab K a0 (0 : Int32) (fun _ => 0)) ++ ((wTab K a1 (-1 : Int32) (fun _ => 0)) ++ ((wTab K a2 (-1 : Int32) (fun _ => 0)) ++ ((wRow K a3 16 (fun _ => 0)) ++ ((wRow K a4 42 (fun _ => 0)) ++ ((wRow K a5 42 (fun _ => 0))))))))) := hD
  refine W.widen (k := 12) (n := 877) (by omega) (by omega) ?_
  refine va_putF (D := K.1) (ci := 2) (v := .ref (a5 0)) (ty := (.object "ConstrainedDelaunay$Row")) (C := RX2) (T := TX2) (N := 12) (pc := 81) hx hb hts inT2 tyX2 tyX2_ok nmX2 hown hG.1 hP hD hS 0 rfl rfl 6 (by decide) (hts _ zf_Mesh_40) (fun _ h9 => h9) rfl hin rfl (by decide +kernel) rfl rfl (Nat.le_of_ble_eq_true rfl) dX2_init_81 (fun H locs hP hD hS => ?_)
  have hP : va_P K.1 vC ([(h0, .inr (2, [.ref pq, .ref (a0 0), .ref (a1 0), .ref (a2 0), .ref (a3 0), .ref (a4 0), .ref (a5 0), .null, .null, .int 0, .int 0, .int 0]))] ++ ((wTab K a0 (0 : Int32) (fun _ => 0)) ++ ((wTab K a1 (-1 : Int32) (fun _ => 0)) ++ ((wTab K a2 (-1 : Int32) (fun _ => 0)) ++ ((wRow K a3 16 (fun _ => 0)) ++ ((wRow K a4 42 (fun _ => 0)) ++ ((wRow K a5 42 (fun _ => 0))))))))) H := hP
  have hD : va_D A ([(h0, .inr (2, [.ref pq, .ref (a0 0), .ref (a1 0), .ref (a2 0), .ref (a3 0), .ref (a4 0), .ref (a5 0), .null, .null, .int 0, .int 0, .int 0]))] ++ ((wTab K a0 (0 : Int32) (fun _ => 0)) ++ ((wTab K a1 (-1 : Int32) (fun _ => 0)) ++ ((wTab K a2 (-1 : Int32) (fun _ => 0)) ++ ((wRow K a3 16 (fun _ => 0)) ++ ((wRow K a4 42 (fun _ => 0)) ++ ((wRow K a5 42 (fun _ => 0))))))))) := hD
  refine lv_aload_n (pc := 84) hx hb dX2_init_84 rfl (lv_at hl 0 rfl) ?_
  refine va_new (ci := 4) (fs := [.null]) (C := RX4) (T := TX4) (N := 1) (pc := 85) hx hb hts inT4 tyX4 tyX4_ok hown (hts _ zl_Mesh_30) (hts _ zk_Row) (hts _ zn_Row) hG.1 hP hD hS hA rfl (by decide) (Nat.le_of_ble_eq_true rfl) (Nat.le_of_ble_eq_true rfl) dX2_init_85 (fun q6 H hP hD hS => ?_)
  refine W.widen (k := 13) (n := 878) (by omega) (by omega) ?_
  have hP : va_P K.1 vC ([(h0, .inr (2, [.ref pq, .ref (a0 0), .ref (a1 0), .ref (a2 0), .ref (a3 0), .ref (a4 0), .ref (a5 0), .null, .null, .int 0, .int 0, .int 0]))] ++ ((wTab K a0 (0 : Int32) (fun _ => 0)) ++ ((wTab K a1 (-1 : Int32) (fun _ => 0)) ++ ((wTab K a2 (-1 : Int32) (fun _ => 0)) ++ ((wRow K a3 16 (fun _ => 0)) ++ ((wRow K a4 42 (fun _ => 0)) ++ ((wRow K a5 42 (fun _ => 0)) ++ (([(q6, .inr (4, [.null]))]))))))))) H := hP
  have hD : va_D A ([(h0, .inr (2, [.ref pq, .ref (a0 0), .ref (a1 0), .ref (a2 0), .ref (a3 0), .ref (a4 0), .ref (a5 0), .null, .null, .int 0, .int 0, .int 0]))] ++ ((wTab K a0 (0 : Int32) (fun _ => 0)) ++ ((wTab K a1 (-1 : Int32) (fun _ => 0)) ++ ((wTab K a2 (-1 : Int32) (fun _ => 0)) ++ ((wRow K a3 16 (fun _ => 0)) ++ ((wRow K a4 42 (fun _ => 0)) ++ ((wRow K a5 42 (fun _ => 0)) ++ (([(q6, .inr (4, [.null]))]))))))))) := hD
  refine lv_dup (pc := 88) hx hb dX2_init_88 rfl ?_
  refine lv_bipush (v := (81 : Int32)) (pc := 89) hx hb dX2_init_89 (by decide) ?_
  refine inC (pc := 91) (As := [.int (i32 81)]) (rest := [.ref q6, .ref h0]) (wr := ([(h0, .inr (2, [.ref pq, .ref (a0 0), .ref (a1 0), .ref (a2 0), .ref (a3 0), .ref (a4 0), .ref (a5 0), .null, .null, .int 0, .int 0, .int 0]))] ++ ((wTab K a0 (0 : Int32) (fun _ => 0)) ++ ((wTab K a1 (-1 : Int32) (fun _ => 0)) ++ ((wTab K a2 (-1 : Int32) (fun _ => 0)) ++ ((wRow K a3 16 (fun _ => 0)) ++ ((wRow K a4 42 (fun _ => 0)) ++ ((wRow K a5 42 (fun _ => 0)))))))))) hx hb hml hown hts hG hO hP hD hS hA (i_Row l K 81 (by omega)) 13 [0, 1, 2, 3, 4, 5, 6, 7, 8, 9, 10, 11, 12] rfl rfl (by decide) (by decide) (gM zc_Row) zn_Row zm_Mesh_32 zi_Row rfl (by decide +kernel) rfl ⟨Nat.le_of_ble_eq_true rfl, Nat.le_of_ble_eq_true rfl⟩ ⟨Nat.le_of_ble_eq_true rfl, Nat.le_of_ble_eq_true rfl⟩ hl rfl (Nat.le_of_ble_eq_true rfl) dX2_init_91 (fun a6 H locs hq hPn hDn hS => ?_)
  subst hq
  have hP := hPn
  have hD := hDn
  have hP : va_P K.1 vC ([(h0, .inr (2, [.ref pq, .ref (a0 0), .ref (a1 0), .ref (a2 0), .ref (a3 0), .ref (a4 0), .ref (a5 0), .null, .null, .int 0, .int 0, .int 0]))] ++ ((wTab K a0 (0 : Int32) (fun _ => 0)) ++ ((wTab K a1 (-1 : Int32) (fun _ => 0)) ++ ((wTab K a2 (-1 : Int32) (fun _ => 0)) ++ ((wRow K a3 16 (fun _ => 0)) ++ ((wRow K a4 42 (fun _ => 0)) ++ ((wRow K a5 42 (fun _ => 0)) ++ ((wRow K a6 81 (fun _ => 0)))))))))) H := hP
  have hD : va_D A ([(h0, .inr (2, [.ref pq, .ref (a0 0), .ref (a1 0), .ref (a2 0), .ref (a3 0), .ref (a4 0), .ref (a5 0), .null, .null, .int 0, .int 0, .int 0]))] ++ ((wTab K a0 (0 : Int32) (fun _ => 0)) ++ ((wTab K a1 (-1 : Int32) (fun _ => 0)) ++ ((wTab K a2 (-1 : Int32) (fun _ => 0)) ++ ((wRow K a3 16 (fun _ => 0)) ++ ((wRow K a4 42 (fun _ => 0)) ++ ((wRow K a5 42 (fun _ => 0)) ++ ((wRow K a6 81 (fun _ => 0)))))))))) := hD
  refine W.widen (k := 14) (n := 959) (by omega) (by omega) ?_
  refine va_putF (D := K.1) (ci := 2) (v := .ref (a6 0)) (ty := (.object "ConstrainedDelaunay$Row")) (C := RX2) (T := TX2) (N := 12) (pc := 94) hx hb hts inT2 tyX2 tyX2_ok nmX2 hown hG.1 hP hD hS 0 rfl rfl 7 (by decide) (hts _ zf_Mesh_43) (fun _ h9 => h9) rfl hin rfl (by decide +kernel) rfl rfl (Nat.le_of_ble_eq_true rfl) dX2_init_94 (fun H locs hP hD hS => ?_)
  have hP : va_P K.1 vC ([(h0, .inr (2, [.ref pq, .ref (a0 0), .ref (a1 0), .ref (a2 0), .ref (a3 0), .ref (a4 0), .ref (a5 0), .ref (a6 0), .null, .int 0, .int 0, .int 0]))] ++ ((wTab K a0 (0 : Int32) (fun _ => 0)) ++ ((wTab K a1 (-1 : Int32) (fun _ => 0)) ++ ((wTab K a2 (-1 : Int32) (fun _ => 0)) ++ ((wRow K a3 16 (fun _ => 0)) ++ ((wRow K a4 42 (fun _ => 0)) ++ ((wRow K a5 42 (fun _ => 0)) ++ ((wRow K a6 81 (fun _ => 0)))))))))) H := hP
  have hD : va_D A ([(h0, .inr (2, [.ref pq, .ref (a0 0), .ref (a1 0), .ref (a2 0), .ref (a3 0), .ref (a4 0), .ref (a5 0), .ref (a6 0), .null, .int 0, .int 0, .int 0]))] ++ ((wTab K a0 (0 : Int32) (fun _ => 0)) ++ ((wTab K a1 (-1 : Int32) (fun _ => 0)) ++ ((wTab K a2 (-1 : Int32) (fun _ => 0)) ++ ((wRow K a3 16 (fun _ => 0)) ++ ((wRow K a4 42 (fun _ => 0)) ++ ((wRow K a5 42 (fun _ => 0)) ++ ((wRow K a6 81 (fun _ => 0)))))))))) := hD
  refine lv_aload_n (pc := 97) hx hb dX2_init_97 rfl (lv_at hl 0 rfl) ?_
  refine va_new (ci := 4) (fs := [.null]) (C := RX4) (T := TX4) (N := 1) (pc := 98) hx hb hts inT4 tyX4 tyX4_ok hown (hts _ zl_Mesh_30) (hts _ zk_Row) (hts _ zn_Row) hG.1 hP hD hS hA rfl (by decide) (Nat.le_of_ble_eq_true rfl) (Nat.le_of_ble_eq_true rfl) dX2_init_98 (fun q7 H hP hD hS => ?_)
  refine W.widen (k := 15) (n := 960) (by omega) (by omega) ?_
  have hP : va_P K.1 vC ([(h0, .inr (2, [.ref pq, .ref (a0 0), .ref (a1 0), .ref (a2 0), .ref (a3 0), .ref (a4 0), .ref (a5 0), .ref (a6 0), .null, .int 0, .int 0, .int 0]))] ++ ((wTab K a0 (0 : Int32) (fun _ => 0)) ++ ((wTab K a1 (-1 : Int32) (fun _ => 0)) ++ ((wTab K a2 (-1 : Int32) (fun _ => 0)) ++ ((wRow K a3 16 (fun _ => 0)) ++ ((wRow K a4 42 (fun _ => 0)) ++ ((wRow K a5 42 (fun _ => 0)) ++ ((wRow K a6 81 (fun _ => 0)) ++ (([(q7, .inr (4, [.null]))])))))))))) H := hP
  have hD : va_D A ([(h0, .inr (2, [.ref pq, .ref (a0 0), .ref (a1 0), .ref (a2 0), .ref (a3 0), .ref (a4 0), .ref (a5 0), .ref (a6 0), .null, .int 0, .int 0, .int 0]))] ++ ((wTab K a0 (0 : Int32) (fun _ => 0)) ++ ((wTab K a1 (-1 : Int32) (fun _ => 0)) ++ ((wTab K a2 (-1 : Int32) (fun _ => 0)) ++ ((wRow K a3 16 (fun _ => 0)) ++ ((wRow K a4 42 (fun _ => 0)) ++ ((wRow K a5 42 (fun _ => 0)) ++ ((wRow K a6 81 (fun _ => 0)) ++ (([(q7, .inr (4, [.null]))])))))))))) := hD
  refine lv_dup (pc := 101) hx hb dX2_init_101 rfl ?_
  refine lv_bipush (v := (16 : Int32)) (pc := 102) hx hb dX2_init_102 (by decide) ?_
  refine inC (pc := 104) (As := [.int (i32 16)]) (rest := [.ref q7, .ref h0]) (wr := ([(h0, .inr (2, [.ref pq, .ref (a0 0), .ref (a1 0), .ref (a2 0), .ref (a3 0), .ref (a4 0), .ref (a5 0), .ref (a6 0), .null, .int 0, .int 0, .int 0]))] ++ ((wTab K a0 (0 : Int32) (fun _ => 0)) ++ ((wTab K a1 (-1 : Int32) (fun _ => 0)) ++ ((wTab K a2 (-1 : Int32) (fun _ => 0)) ++ ((wRow K a3 16 (fun _ => 0)) ++ ((wRow K a4 42 (fun _ => 0)) ++ ((wRow K a5 42 (fun _ => 0)) ++ ((wRow K a6 81 (fun _ => 0))))))))))) hx hb hml hown hts hG hO hP hD hS hA (i_Row l K 16 (by omega)) 15 [0, 1, 2, 3, 4, 5, 6, 7, 8, 9, 10, 11, 12, 13, 14] rfl rfl (by decide) (by decide) (gM zc_Row) zn_Row zm_Mesh_32 zi_Row rfl (by decide +kernel) rfl ⟨Nat.le_of_ble_eq_true rfl, Nat.le_of_ble_eq_true rfl⟩ ⟨Nat.le_of_ble_eq_true rfl, Nat.le_of_ble_eq_true rfl⟩ hl rfl (Nat.le_of_ble_eq_true rfl) dX2_init_104 (fun a7 H locs hq hPn hDn hS => ?_)
  subst hq
  have hP := hPn
  have hD := hDn
  have hP : va_P K.1 vC ([(h0, .inr (2, [.ref pq, .ref (a0 0), .ref (a1 0), .ref (a2 0), .ref (a3 0), .ref (a4 0), .ref (a5 0), .ref (a6 0), .null, .int 0, .int 0, .int 0]))] ++ ((wTab K a0 (0 : Int32) (fun _ => 0)) ++ ((wTab K a1 (-1 : Int32) (fun _ => 0)) ++ ((wTab K a2 (-1 : Int32) (fun _ => 0)) ++ ((wRow K a3 16 (fun _ => 0)) ++ ((wRow K a4 42 (fun _ => 0)) ++ ((wRow K a5 42 (fun _ => 0)) ++ ((wRow K a6 81 (fun _ => 0)) ++ ((wRow K a7 16 (fun _ => 0))))))))))) H := hP
  have hD : va_D A ([(h0, .inr (2, [.ref pq, .ref (a0 0), .ref (a1 0), .ref (a2 0), .ref (a3 0), .ref (a4 0), .ref (a5 0), .ref (a6 0), .null, .int 0, .int 0, .int 0]))] ++ ((wTab K a0 (0 : Int32) (fun _ => 0)) ++ ((wTab K a1 (-1 : Int32) (fun _ => 0)) ++ ((wTab K a2 (-1 : Int32) (fun _ => 0)) ++ ((wRow K a3 16 (fun _ => 0)) ++ ((wRow K a4 42 (fun _ => 0)) ++ ((wRow K a5 42 (fun _ => 0)) ++ ((wRow K a6 81 (fun _ => 0)) ++ ((wRow K a7 16 (fun _ => 0))))))))))) := hD
  refine W.widen (k := 16) (n := 976) (by omega) (by omega) ?_
  refine va_putF (D := K.1) (ci := 2) (v := .ref (a7 0)) (ty := (.object "ConstrainedDelaunay$Row")) (C := RX2) (T := TX2) (N := 12) (pc := 107) hx hb hts inT2 tyX2 tyX2_ok nmX2 hown hG.1 hP hD hS 0 rfl rfl 8 (by decide) (hts _ zf_Mesh_46) (fun _ h9 => h9) rfl hin rfl (by decide +kernel) rfl rfl (Nat.le_of_ble_eq_true rfl) dX2_init_107 (fun H locs hP hD hS => ?_)
  have hP : va_P K.1 vC ([(h0, .inr (2, [.ref pq, .ref (a0 0), .ref (a1 0), .ref (a2 0), .ref (a3 0), .ref (a4 0), .ref (a5 0), .ref (a6 0), .ref (a7 0), .int 0, .int 0, .int 0]))] ++ ((wTab K a0 (0 : Int32) (fun _ => 0)) ++ ((wTab K a1 (-1 : Int32) (fun _ => 0)) ++ ((wTab K a2 (-1 : Int32) (fun _ => 0)) ++ ((wRow K a3 16 (fun _ => 0)) ++ ((wRow K a4 42 (fun _ => 0)) ++ ((wRow K a5 42 (fun _ => 0)) ++ ((wRow K a6 81 (fun _ => 0)) ++ ((wRow K a7 16 (fun _ => 0))))))))))) H := hP
  have hD : va_D A ([(h0, .inr (2, [.ref pq, .ref (a0 0), .ref (a1 0), .ref (a2 0), .ref (a3 0), .ref (a4 0), .ref (a5 0), .ref (a6 0), .ref (a7 0), .int 0, .int 0, .int 0]))] ++ ((wTab K a0 (0 : Int32) (fun _ => 0)) ++ ((wTab K a1 (-1 : Int32) (fun _ => 0)) ++ ((wTab K a2 (-1 : Int32) (fun _ => 0)) ++ ((wRow K a3 16 (fun _ => 0)) ++ ((wRow K a4 42 (fun _ => 0)) ++ ((wRow K a5 42 (fun _ => 0)) ++ ((wRow K a6 81 (fun _ => 0)) ++ ((wRow K a7 16 (fun _ => 0))))))))))) := hD
  refine lv_aload_n (pc := 110) hx hb dX2_init_110 rfl (lv_at hl 0 rfl) ?_
  refine lv_iconst (v := (0 : Int32)) (pc := 111) hx hb dX2_init_111 (by decide) ?_
  refine va_put (D := K.1) (ci := 2) (v := .int (0 : Int32)) (ty := .int) (C := RX2) (T := TX2) (N := 12) (pc := 112) hx hb hts inT2 tyX2 tyX2_ok nmX2 hown hG.1 hP hD hS 0 rfl rfl 9 (by decide) (hts _ zf_Mesh_49) (fun _ h9 => h9) rfl (by decide +kernel) rfl rfl (Nat.le_of_ble_eq_true rfl) dX2_init_112 (fun H locs hP hD hS => ?_)
  have hP : va_P K.1 vC ([(h0, .inr (2, [.ref pq, .ref (a0 0), .ref (a1 0), .ref (a2 0), .ref (a3 0), .ref (a4 0), .ref (a5 0), .ref (a6 0), .ref (a7 0), .int (0 : Int32), .int 0, .int 0]))] ++ ((wTab K a0 (0 : Int32) (fun _ => 0)) ++ ((wTab K a1 (-1 : Int32) (fun _ => 0)) ++ ((wTab K a2 (-1 : Int32) (fun _ => 0)) ++ ((wRow K a3 16 (fun _ => 0)) ++ ((wRow K a4 42 (fun _ => 0)) ++ ((wRow K a5 42 (fun _ => 0)) ++ ((wRow K a6 81 (fun _ => 0)) ++ ((wRow K a7 16 (fun _ => 0))))))))))) H := hP
  have hD : va_D A ([(h0, .inr (2, [.ref pq, .ref (a0 0), .ref (a1 0), .ref (a2 0), .ref (a3 0), .ref (a4 0), .ref (a5 0), .ref (a6 0), .ref (a7 0), .int (0 : Int32), .int 0, .int 0]))] ++ ((wTab K a0 (0 : Int32) (fun _ => 0)) ++ ((wTab K a1 (-1 : Int32) (fun _ => 0)) ++ ((wTab K a2 (-1 : Int32) (fun _ => 0)) ++ ((wRow K a3 16 (fun _ => 0)) ++ ((wRow K a4 42 (fun _ => 0)) ++ ((wRow K a5 42 (fun _ => 0)) ++ ((wRow K a6 81 (fun _ => 0)) ++ ((wRow K a7 16 (fun _ => 0))))))))))) := hD
  refine lv_aload_n (pc := 115) hx hb dX2_init_115 rfl (lv_at hl 0 rfl) ?_
  refine lv_iconst (v := (0 : Int32)) (pc := 116) hx hb dX2_init_116 (by decide) ?_
  refine va_put (D := K.1) (ci := 2) (v := .int (0 : Int32)) (ty := .int) (C := RX2) (T := TX2) (N := 12) (pc := 117) hx hb hts inT2 tyX2 tyX2_ok nmX2 hown hG.1 hP hD hS 0 rfl rfl 10 (by decide) (hts _ zf_Mesh_53) (fun _ h9 => h9) rfl (by decide +kernel) rfl rfl (Nat.le_of_ble_eq_true rfl) dX2_init_117 (fun H locs hP hD hS => ?_)
  have hP : va_P K.1 vC ([(h0, .inr (2, [.ref pq, .ref (a0 0), .ref (a1 0), .ref (a2 0), .ref (a3 0), .ref (a4 0), .ref (a5 0), .ref (a6 0), .ref (a7 0), .int (0 : Int32), .int (0 : Int32), .int 0]))] ++ ((wTab K a0 (0 : Int32) (fun _ => 0)) ++ ((wTab K a1 (-1 : Int32) (fun _ => 0)) ++ ((wTab K a2 (-1 : Int32) (fun _ => 0)) ++ ((wRow K a3 16 (fun _ => 0)) ++ ((wRow K a4 42 (fun _ => 0)) ++ ((wRow K a5 42 (fun _ => 0)) ++ ((wRow K a6 81 (fun _ => 0)) ++ ((wRow K a7 16 (fun _ => 0))))))))))) H := hP
  have hD : va_D A ([(h0, .inr (2, [.ref pq, .ref (a0 0), .ref (a1 0), .ref (a2 0), .ref (a3 0), .ref (a4 0), .ref (a5 0), .ref (a6 0), .ref (a7 0), .int (0 : Int32), .int (0 : Int32), .int 0]))] ++ ((wTab K a0 (0 : Int32) (fun _ => 0)) ++ ((wTab K a1 (-1 : Int32) (fun _ => 0)) ++ ((wTab K a2 (-1 : Int32) (fun _ => 0)) ++ ((wRow K a3 16 (fun _ => 0)) ++ ((wRow K a4 42 (fun _ => 0)) ++ ((wRow K a5 42 (fun _ => 0)) ++ ((wRow K a6 81 (fun _ => 0)) ++ ((wRow K a7 16 (fun _ => 0))))))))))) := hD
  refine lv_aload_n (pc := 120) hx hb dX2_init_120 rfl (lv_at hl 0 rfl) ?_
  refine lv_iconst (v := (0 : Int32)) (pc := 121) hx hb dX2_init_121 (by decide) ?_
  refine va_put (D := K.1) (ci := 2) (v := .int (0 : Int32)) (ty := .int) (C := RX2) (T := TX2) (N := 12) (pc := 122) hx hb hts inT2 tyX2 tyX2_ok nmX2 hown hG.1 hP hD hS 0 rfl rfl 11 (by decide) (hts _ zf_Mesh_56) (fun _ h9 => h9) rfl (by decide +kernel) rfl rfl (Nat.le_of_ble_eq_true rfl) dX2_init_122 (fun H locs hP hD hS => ?_)
  have hP : va_P K.1 vC ([(h0, .inr (2, [.ref pq, .ref (a0 0), .ref (a1 0), .ref (a2 0), .ref (a3 0), .ref (a4 0), .ref (a5 0), .ref (a6 0), .ref (a7 0), .int (0 : Int32), .int (0 : Int32), .int (0 : Int32)]))] ++ ((wTab K a0 (0 : Int32) (fun _ => 0)) ++ ((wTab K a1 (-1 : Int32) (fun _ => 0)) ++ ((wTab K a2 (-1 : Int32) (fun _ => 0)) ++ ((wRow K a3 16 (fun _ => 0)) ++ ((wRow K a4 42 (fun _ => 0)) ++ ((wRow K a5 42 (fun _ => 0)) ++ ((wRow K a6 81 (fun _ => 0)) ++ ((wRow K a7 16 (fun _ => 0))))))))))) H := hP
  have hD : va_D A ([(h0, .inr (2, [.ref pq, .ref (a0 0), .ref (a1 0), .ref (a2 0), .ref (a3 0), .ref (a4 0), .ref (a5 0), .ref (a6 0), .ref (a7 0), .int (0 : Int32), .int (0 : Int32), .int (0 : Int32)]))] ++ ((wTab K a0 (0 : Int32) (fun _ => 0)) ++ ((wTab K a1 (-1 : Int32) (fun _ => 0)) ++ ((wTab K a2 (-1 : Int32) (fun _ => 0)) ++ ((wRow K a3 16 (fun _ => 0)) ++ ((wRow K a4 42 (fun _ => 0)) ++ ((wRow K a5 42 (fun _ => 0)) ++ ((wRow K a6 81 (fun _ => 0)) ++ ((wRow K a7 16 (fun _ => 0))))))))))) := hD
  have hP9 : va_P K.1 vC (wMeshO K (fun k => ([h0, 0, 0, 0, 0, 0, 0, 0, 0, 0, a0 0, a0 1, a1 0, a1 1, a2 0, a2 1, a3 0, a3 1, a4 0, a4 1, a5 0, a5 1, a6 0, a6 1, a7 0, a7 1] : List Nat).getD k 0) pq) H := hP
  have hD9 : va_D A (wMeshO K (fun k => ([h0, 0, 0, 0, 0, 0, 0, 0, 0, 0, a0 0, a0 1, a1 0, a1 1, a2 0, a2 1, a3 0, a3 1, a4 0, a4 1, a5 0, a5 1, a6 0, a6 1, a7 0, a7 1] : List Nat).getD k 0) pq) := hD
  exact W.vret hx hb hr (fun t ht hW => ⟨⟨(fun k => ([h0, 0, 0, 0, 0, 0, 0, 0, 0, 0, a0 0, a0 1, a1 0, a1 1, a2 0, a2 1, a3 0, a3 1, a4 0, a4 1, a5 0, a5 1, a6 0, a6 1, a7 0, a7 1] : List Nat).getD k 0), rfl, rfl, by rw [ht]; exact hP9, hD9⟩, hS.F ht⟩) hS.2.2 dX2_init_125 hlk
