set_option maxHeartbeats 4000000 in
set_option maxRecDepth 100000 in
theorem c_Hist_kept (l : Launch) (K : KT) (ad : Nat → Nat) (hp : Nat → PlanS) (hnx : Int32) (hkp : Int32) : Rd l K 0 yX0_kept cX0_kept 1 .int [.ref (ad 0)] (wHist K ad hp hnx hkp) (s_Hist_kept hkp) := by
  generalize h : s_Hist_kept hkp = o
  refine Rd.of (by decide +kernel) (Nat.le_of_ble_eq_true rfl) ?_
  unfold s_Hist_kept at h
  intro p e s m below meth c hx hb hr hml hown hts hlk hP hG ls hl
  have C0 : Ctx p m c cX0_kept 1 s (Array.mk [.ref (ad 0)]) RX0 K meth (some .int) := ⟨hx, hb, hml, hown, hts, hG, hr, hlk⟩
  have hl : lv_has ls 1 [(0, .ref (ad 0))] := hl
  refine lv_aload_n (pc := 0) hx hb dX0_kept_0 rfl (lv_at hl 0 rfl) ?_
  refine va_get (D := K.1) (ci := 0) (v := .int hkp) (C := RX0) (T := TX0) (N := 3) (pc := 1) hx hb hts inT0 hown hG.1 hP 0 rfl rfl 2 (by decide) (hts _ qf_Hist_22) (fun _ h9 => h9) rfl dX0_kept_1 ?_
  subst h
  exact W.iret hx hb hr (fun t ht hW => ⟨rfl, ht⟩) (fun q hq => absurd hq List.not_mem_nil) dX0_kept_4 hlk
set_option maxHeartbeats 4000000 in
set_option maxRecDepth 100000 in
theorem c_Hist_clear (l : Launch) (K : KT) (ad : Nat → Nat) (hp : Nat → PlanS) (hnx : Int32) (hkp : Int32) : Wr l K 0 yX0_clear cX0_clear 1 none [.ref (ad 0)] (wHist K ad hp hnx hkp) none (wHist K ad hp hnx (s_Hist_clear )) := by
  generalize h : s_Hist_clear  = o
  refine Wr.of (by decide +kernel) (Nat.le_of_ble_eq_true rfl) ?_
  unfold s_Hist_clear at h
  intro p e s m below meth c hx hb hr hml hown hts hlk H locs hP hG hD hS ls hl
  have C0 : Ctx p m c cX0_clear 1 s (Array.mk [.ref (ad 0)]) RX0 K meth none := ⟨hx, hb, hml, hown, hts, hG, hr, hlk⟩
  have hl : lv_has ls 1 [(0, .ref (ad 0))] := hl
  refine lv_aload_n (pc := 0) hx hb dX0_clear_0 rfl (lv_at hl 0 rfl) ?_
  refine lv_iconst (v := (0 : Int32)) (pc := 1) hx hb dX0_clear_1 (by decide) ?_
  refine va_put (D := K.1) (ci := 0) (v := .int (0 : Int32)) (ty := .int) (C := RX0) (T := TX0) (N := 3) (pc := 2) hx hb hts inT0 tyX0 tyX0_ok nmX0 hown hG.1 hP hD hS 0 rfl rfl 2 (by decide) (hts _ qf_Hist_22) (fun _ h9 => h9) rfl (by decide +kernel) rfl rfl (Nat.le_of_ble_eq_true rfl) dX0_clear_2 (fun H locs hP hD hS => ?_)
  have hP : va_P K.1 vC (wHist K ad hp hnx (0 : Int32)) H := hP
  have hD : va_D _ (wHist K ad hp hnx (0 : Int32)) := hD
  subst h
  exact W.vret hx hb hr (fun t ht hW => ⟨⟨rfl, by rw [ht]; exact hP⟩, hS.F ht⟩) hS.2.2 dX0_clear_5 hlk
set_option maxHeartbeats 8000000 in
set_option maxRecDepth 100000 in
theorem c_Hist_remember (l : Launch) (K : KT) (ad bd : Nat → Nat) (hp : Nat → PlanS) (hnx hkp : Int32) (opxs opys oplo ophi : Nat → Int32) (opn opm : Int32) (F : Nat) {o : (Nat → PlanS) × Int32 × Int32} (h : s_Hist_remember F hp hnx hkp opxs opys oplo ophi opn opm = some o) : Wr l K 3 yX0_remember cX0_remember 2 none [.ref (ad 0), .ref (bd 0)] ((wHist K ad hp hnx hkp) ++ (wPlan K bd opxs opys oplo ophi opn opm)) none ((wHist K ad o.1 o.2.1 o.2.2) ++ (wPlan K bd opxs opys oplo ophi opn opm)) := by
  refine Wr.of (by decide +kernel) (Nat.le_of_ble_eq_true rfl) ?_
  intro p e s m below meth c hx hb hr hml hown hts hlk H locs hP hG hD hS ls hl
  have hl : lv_has ls 2 [(0, .ref (ad 0)), (1, .ref (bd 0))] := hl
  have tail : ∀ (hp9 : Nat → PlanS) (H : Heap) (locs : List Loc), va_P K.1 vC ((wHist K ad hp9 hnx hkp) ++ (wPlan K bd opxs opys oplo ophi opn opm)) H → va_D (adI ((wHist K ad hp hnx hkp) ++ (wPlan K bd opxs opys oplo ophi opn opm))) ((wHist K ad hp9 hnx hkp) ++ (wPlan K bd opxs opys oplo ophi opn opm)) → va_S (adI ((wHist K ad hp hnx hkp) ++ (wPlan K bd opxs opys oplo ophi opn opm))) s.heap H locs → some (hp9, (if (12 : Int32) ≤ hnx + (1 : Int32) then 0 else hnx + (1 : Int32)), imin (hkp + (1 : Int32)) 12) = some o → W p l e (rmL 3) s m (Array.mk [.ref (ad 0), .ref (bd 0)]) below meth c H locs 0 0 (MQ below (fun _ st o1 t => (o1 = .returned none ∧ va_P K.1 vC ((wHist K ad o.1 o.2.1 o.2.2) ++ (wPlan K bd opxs opys oplo ophi opn opm)) t.heap) ∧ va_F (adI ((wHist K ad hp hnx hkp) ++ (wPlan K bd opxs opys oplo ophi opn opm))) st t) (Array.mk [.ref (ad 0), .ref (bd 0)]) s 0 0 (adI ((wHist K ad hp hnx hkp) ++ (wPlan K bd opxs opys oplo ophi opn opm)))) (F0 m 44 ls []) := by
    intro hp9 H locs hP hD hS ho
    refine lv_aload_n (pc := 44) hx hb dX0_remember_44 rfl (lv_at hl 0 rfl) ?_
    refine lv_aload_n (pc := 45) hx hb dX0_remember_45 rfl (lv_at hl 0 rfl) ?_
    refine va_get (D := K.1) (ci := 0) (v := .int hnx) (C := RX0) (T := TX0) (N := 3) (pc := 46) hx hb hts inT0 hown hG.1 hP 0 rfl rfl 1 (by decide) (hts _ qf_Hist_18) (fun _ h9 => h9) rfl dX0_remember_46 ?_
    refine lv_iconst (v := (1 : Int32)) (pc := 49) hx hb dX0_remember_49 (by decide) ?_
    refine lv_iadd (pc := 50) hx hb dX0_remember_50 ?_
    refine lv_bipush (v := (12 : Int32)) (pc := 51) hx hb dX0_remember_51 (by decide) ?_
    refine lv_icmp_ge (tgt := 65) (pc := 53) hx hb dX0_remember_53 (by decide) (fun c1 => ?_) (fun c1 => ?_)
    · rw [if_pos c1] at ho
      obtain rfl := Option.some.inj ho
      refine lv_iconst (v := (0 : Int32)) (pc := 65) hx hb dX0_remember_65 (by decide) ?_
      refine va_put (D := K.1) (ci := 0) (v := .int (0 : Int32)) (ty := .int) (C := RX0) (T := TX0) (N := 3) (pc := 66) hx hb hts inT0 tyX0 tyX0_ok nmX0 hown hG.1 hP hD hS 0 rfl rfl 1 (by decide) (hts _ qf_Hist_18) (fun _ h9 => h9) rfl (by decide +kernel) rfl rfl (Nat.le_of_ble_eq_true rfl) dX0_remember_66 (fun H locs hP hD hS => ?_)
      have hP : va_P K.1 vC ((wHist K ad hp9 (0 : Int32) hkp) ++ (wPlan K bd opxs opys oplo ophi opn opm)) H := hP
      have hD : va_D _ ((wHist K ad hp9 (0 : Int32) hkp) ++ (wPlan K bd opxs opys oplo ophi opn opm)) := hD
      refine lv_aload_n (pc := 69) hx hb dX0_remember_69 rfl (lv_at hl 0 rfl) ?_
      refine lv_aload_n (pc := 70) hx hb dX0_remember_70 rfl (lv_at hl 0 rfl) ?_
      refine va_get (D := K.1) (ci := 0) (v := .int hkp) (C := RX0) (T := TX0) (N := 3) (pc := 71) hx hb hts inT0 hown hG.1 hP 0 rfl rfl 2 (by decide) (hts _ qf_Hist_22) (fun _ h9 => h9) rfl dX0_remember_71 ?_
      refine lv_iconst (v := (1 : Int32)) (pc := 74) hx hb dX0_remember_74 (by decide) ?_
      refine lv_iadd (pc := 75) hx hb dX0_remember_75 ?_
      refine lv_bipush (v := (12 : Int32)) (pc := 76) hx hb dX0_remember_76 (by decide) ?_
      refine my_mmin (pc := 78) hx hb hml hl.1 hown hts qm_Hist_29 (Nat.le_of_ble_eq_true rfl) (Nat.le_of_ble_eq_true rfl) ⟨Nat.zero_le _, Nat.zero_le _⟩ dX0_remember_78 ?_
      refine va_put (D := K.1) (ci := 0) (v := .int (imin (hkp + (1 : Int32)) 12)) (ty := .int) (C := RX0) (T := TX0) (N := 3) (pc := 81) hx hb hts inT0 tyX0 tyX0_ok nmX0 hown hG.1 hP hD hS 0 rfl rfl 2 (by decide) (hts _ qf_Hist_22) (fun _ h9 => h9) rfl (by decide +kernel) rfl rfl (Nat.le_of_ble_eq_true rfl) dX0_remember_81 (fun H locs hP hD hS => ?_)
      have hP : va_P K.1 vC ((wHist K ad hp9 (0 : Int32) (imin (hkp + (1 : Int32)) 12)) ++ (wPlan K bd opxs opys oplo ophi opn opm)) H := hP
      have hD : va_D _ ((wHist K ad hp9 (0 : Int32) (imin (hkp + (1 : Int32)) 12)) ++ (wPlan K bd opxs opys oplo ophi opn opm)) := hD
      exact W.vret hx hb hr (fun t ht hW => ⟨⟨rfl, by rw [ht]; exact hP⟩, hS.F ht⟩) hS.2.2 dX0_remember_84 hlk
    · rw [if_neg c1] at ho
      obtain rfl := Option.some.inj ho
      refine lv_aload_n (pc := 56) hx hb dX0_remember_56 rfl (lv_at hl 0 rfl) ?_
      refine va_get (D := K.1) (ci := 0) (v := .int hnx) (C := RX0) (T := TX0) (N := 3) (pc := 57) hx hb hts inT0 hown hG.1 hP 0 rfl rfl 1 (by decide) (hts _ qf_Hist_18) (fun _ h9 => h9) rfl dX0_remember_57 ?_
      refine lv_iconst (v := (1 : Int32)) (pc := 60) hx hb dX0_remember_60 (by decide) ?_
      refine lv_iadd (pc := 61) hx hb dX0_remember_61 ?_
      refine lv_goto (tgt := 66) (pc := 62) hx hb dX0_remember_62 (by decide) ?_
      refine va_put (D := K.1) (ci := 0) (v := .int (hnx + (1 : Int32))) (ty := .int) (C := RX0) (T := TX0) (N := 3) (pc := 66) hx hb hts inT0 tyX0 tyX0_ok nmX0 hown hG.1 hP hD hS 0 rfl rfl 1 (by decide) (hts _ qf_Hist_18) (fun _ h9 => h9) rfl (by decide +kernel) rfl rfl (Nat.le_of_ble_eq_true rfl) dX0_remember_66 (fun H locs hP hD hS => ?_)
      have hP : va_P K.1 vC ((wHist K ad hp9 (hnx + (1 : Int32)) hkp) ++ (wPlan K bd opxs opys oplo ophi opn opm)) H := hP
      have hD : va_D _ ((wHist K ad hp9 (hnx + (1 : Int32)) hkp) ++ (wPlan K bd opxs opys oplo ophi opn opm)) := hD
      refine lv_aload_n (pc := 69) hx hb dX0_remember_69 rfl (lv_at hl 0 rfl) ?_
      refine lv_aload_n (pc := 70) hx hb dX0_remember_70 rfl (lv_at hl 0 rfl) ?_
      refine va_get (D := K.1) (ci := 0) (v := .int hkp) (C := RX0) (T := TX0) (N := 3) (pc := 71) hx hb hts inT0 hown hG.1 hP 0 rfl rfl 2 (by decide) (hts _ qf_Hist_22) (fun _ h9 => h9) rfl dX0_remember_71 ?_
      refine lv_iconst (v := (1 : Int32)) (pc := 74) hx hb dX0_remember_74 (by decide) ?_
      refine lv_iadd (pc := 75) hx hb dX0_remember_75 ?_
      refine lv_bipush (v := (12 : Int32)) (pc := 76) hx hb dX0_remember_76 (by decide) ?_
      refine my_mmin (pc := 78) hx hb hml hl.1 hown hts qm_Hist_29 (Nat.le_of_ble_eq_true rfl) (Nat.le_of_ble_eq_true rfl) ⟨Nat.zero_le _, Nat.zero_le _⟩ dX0_remember_78 ?_
      refine va_put (D := K.1) (ci := 0) (v := .int (imin (hkp + (1 : Int32)) 12)) (ty := .int) (C := RX0) (T := TX0) (N := 3) (pc := 81) hx hb hts inT0 tyX0 tyX0_ok nmX0 hown hG.1 hP hD hS 0 rfl rfl 2 (by decide) (hts _ qf_Hist_22) (fun _ h9 => h9) rfl (by decide +kernel) rfl rfl (Nat.le_of_ble_eq_true rfl) dX0_remember_81 (fun H locs hP hD hS => ?_)
      have hP : va_P K.1 vC ((wHist K ad hp9 (hnx + (1 : Int32)) (imin (hkp + (1 : Int32)) 12)) ++ (wPlan K bd opxs opys oplo ophi opn opm)) H := hP
      have hD : va_D _ ((wHist K ad hp9 (hnx + (1 : Int32)) (imin (hkp + (1 : Int32)) 12)) ++ (wPlan K bd opxs opys oplo ophi opn opm)) := hD
      exact W.vret hx hb hr (fun t ht hW => ⟨⟨rfl, by rw [ht]; exact hP⟩, hS.F ht⟩) hS.2.2 dX0_remember_84 hlk
  unfold s_Hist_remember at h
  refine lv_aload_n (pc := 0) hx hb dX0_remember_0 rfl (lv_at hl 0 rfl) ?_
  refine va_get (D := K.1) (ci := 0) (v := .int hnx) (C := RX0) (T := TX0) (N := 3) (pc := 1) hx hb hts inT0 hown hG.1 hP 0 rfl rfl 1 (by decide) (hts _ qf_Hist_18) (fun _ h9 => h9) rfl dX0_remember_1 ?_
  refine lv_if_lt (tgt := 44) (pc := 4) hx hb dX0_remember_4 (by decide) (fun c1 => ?_) (fun c1 => ?_)
  · exact tail _ _ _ hP hD hS (it_t c1 h)
  have h := it_f c1 h
  refine lv_aload_n (pc := 7) hx hb dX0_remember_7 rfl (lv_at hl 0 rfl) ?_
  refine va_get (D := K.1) (ci := 0) (v := .int hnx) (C := RX0) (T := TX0) (N := 3) (pc := 8) hx hb hts inT0 hown hG.1 hP 0 rfl rfl 1 (by decide) (hts _ qf_Hist_18) (fun _ h9 => h9) rfl dX0_remember_8 ?_
  refine lv_aload_n (pc := 11) hx hb dX0_remember_11 rfl (lv_at hl 0 rfl) ?_
  refine va_get (D := K.1) (ci := 0) (v := .ref (ad 1)) (C := RX0) (T := TX0) (N := 3) (pc := 12) hx hb hts inT0 hown hG.1 hP 0 rfl rfl 0 (by decide) (hts _ qf_Hist_11) (fun _ h9 => h9) rfl dX0_remember_12 ?_
  refine va_alen (pc := 15) hx hb hG.1 hP 1 2 rfl rfl (v := (12 : Int32)) rfl dX0_remember_15 ?_
  refine lv_icmp_ge (tgt := 44) (pc := 16) hx hb dX0_remember_16 (by decide) (fun c2 => ?_) (fun c2 => ?_)
  · exact tail _ _ _ hP hD hS (it_t c2 h)
  have h := it_f c2 h
  obtain ⟨v, hv, h⟩ := ob h
  have hin : vp_in hnx 12 := vin (n := 12) (by decide) c1 c2
  refine lv_aload_n (pc := 19) hx hb dX0_remember_19 rfl (lv_at hl 0 rfl) ?_
  refine va_get (D := K.1) (ci := 0) (v := .ref (ad 1)) (C := RX0) (T := TX0) (N := 3) (pc := 20) hx hb hts inT0 hown hG.1 hP 0 rfl rfl 0 (by decide) (hts _ qf_Hist_11) (fun _ h9 => h9) rfl dX0_remember_20 ?_
  refine lv_aload_n (pc := 23) hx hb dX0_remember_23 rfl (lv_at hl 0 rfl) ?_
  refine va_get (D := K.1) (ci := 0) (v := .int hnx) (C := RX0) (T := TX0) (N := 3) (pc := 24) hx hb hts inT0 hown hG.1 hP 0 rfl rfl 1 (by decide) (hts _ qf_Hist_18) (fun _ h9 => h9) rfl dX0_remember_24 ?_
  refine va_aldq (pc := 27) hx hb hG.1 hP 1 2 rfl rfl hin dX0_remember_27 ?_
  have key : ∀ j : Nat, j < 12 → hnx.toNatClampNeg = j → hnx.toNatClampNeg = j := fun _ _ e => e
  have hj : hnx.toNatClampNeg < 12 := Nat.not_le.mp fun q => hin (Or.inr q)
  generalize ej : hnx.toNatClampNeg = j at hj h hv ⊢
  rcases (show j = 0 ∨ j = 1 ∨ j = 2 ∨ j = 3 ∨ j = 4 ∨ j = 5 ∨ j = 6 ∨ j = 7 ∨ j = 8 ∨ j = 9 ∨ j = 10 ∨ j = 11 by omega) with rfl | rfl | rfl | rfl | rfl | rfl | rfl | rfl | rfl | rfl | rfl | rfl
  · refine W.eq (g2 := F0 m 28 ls [.ref (ad 2)]) rfl ?_
    refine lv_ifnull (pc := 28) hx hb dX0_remember_28 ?_
    refine lv_aload_n (pc := 31) hx hb dX0_remember_31 rfl (lv_at hl 0 rfl) ?_
    refine va_get (D := K.1) (ci := 0) (v := .ref (ad 1)) (C := RX0) (T := TX0) (N := 3) (pc := 32) hx hb hts inT0 hown hG.1 hP 0 rfl rfl 0 (by decide) (hts _ qf_Hist_11) (fun _ h9 => h9) rfl dX0_remember_32 ?_
    refine lv_aload_n (pc := 35) hx hb dX0_remember_35 rfl (lv_at hl 0 rfl) ?_
    refine va_get (D := K.1) (ci := 0) (v := .int hnx) (C := RX0) (T := TX0) (N := 3) (pc := 36) hx hb hts inT0 hown hG.1 hP 0 rfl rfl 1 (by decide) (hts _ qf_Hist_18) (fun _ h9 => h9) rfl dX0_remember_36 ?_
    refine va_aldq (pc := 39) hx hb hG.1 hP 1 2 rfl rfl hin dX0_remember_39 ?_
    rw [ej]
    refine W.eq (g2 := F0 m 40 ls [.ref (ad 2)]) rfl ?_
    refine lv_aload_n (pc := 40) hx hb dX0_remember_40 rfl (lv_at hl 1 rfl) ?_
    refine wrVv (pc := 41) (As := [.ref (bd 0)]) (rest := []) (ws2 := (wHist K ad (va_up hp 0 v) hnx hkp) ++ (wPlan K bd opxs opys oplo ophi opn opm)) (as9 := [ad 2, ad 3, ad 4, ad 5, ad 6, ad 7, ad 8, ad 9, ad 10, bd 0, bd 1, bd 2, bd 3, bd 4, bd 5, bd 6, bd 7, bd 8]) hx hb hml hown hts hG hP hD hS (c_Plan_copyFrom l K (fun k => ad (k + 2)) bd (hp 0).1 (hp 0).2.1 (hp 0).2.2.1 (hp 0).2.2.2.1 (hp 0).2.2.2.2.1 (hp 0).2.2.2.2.2 opxs opys oplo ophi opn opm F hv) [2, 3, 4, 5, 6, 7, 8, 9, 10, 110, 111, 112, 113, 114, 115, 116, 117, 118] rfl rfl rfl rfl [.inr 0, .inr 1, .inl 0, .inl 1, .inl 2, .inl 3, .inl 4, .inl 5, .inl 6, .inl 7, .inl 8, .inr 11, .inr 12, .inr 13, .inr 14, .inr 15, .inr 16, .inr 17, .inr 18, .inr 19, .inr 20, .inr 21, .inr 22, .inr 23, .inr 24, .inr 25, .inr 26, .inr 27, .inr 28, .inr 29, .inr 30, .inr 31, .inr 32, .inr 33, .inr 34, .inr 35, .inr 36, .inr 37, .inr 38, .inr 39, .inr 40, .inr 41, .inr 42, .inr 43, .inr 44, .inr 45, .inr 46, .inr 47, .inr 48, .inr 49, .inr 50, .inr 51, .inr 52, .inr 53, .inr 54, .inr 55, .inr 56, .inr 57, .inr 58, .inr 59, .inr 60, .inr 61, .inr 62, .inr 63, .inr 64, .inr 65, .inr 66, .inr 67, .inr 68, .inr 69, .inr 70, .inr 71, .inr 72, .inr 73, .inr 74, .inr 75, .inr 76, .inr 77, .inr 78, .inr 79, .inr 80, .inr 81, .inr 82, .inr 83, .inr 84, .inr 85, .inr 86, .inr 87, .inr 88, .inr 89, .inr 90, .inr 91, .inr 92, .inr 93, .inr 94, .inr 95, .inr 96, .inr 97, .inr 98, .inr 99, .inr 100, .inr 101, .inr 102, .inr 103, .inr 104, .inr 105, .inr 106, .inr 107, .inr 108, .inr 109, .inl 9, .inl 10, .inl 11, .inl 12, .inl 13, .inl 14, .inl 15, .inl 16, .inl 17] (by decide +kernel) rfl (q0 := 2) rfl (ci := 3) rfl g_Hist_25 hd_Plan_copyFrom rfl ⟨Nat.le_of_ble_eq_true rfl, Nat.le_of_ble_eq_true rfl⟩ ⟨Nat.zero_le _, Nat.zero_le _⟩ hl rfl (Nat.le_of_ble_eq_true rfl) dX0_remember_41 (fun H locs hP hD hS => ?_)
    exact tail _ _ _ hP hD hS h
  · refine W.eq (g2 := F0 m 28 ls [.ref (ad 11)]) rfl ?_
    refine lv_ifnull (pc := 28) hx hb dX0_remember_28 ?_
    refine lv_aload_n (pc := 31) hx hb dX0_remember_31 rfl (lv_at hl 0 rfl) ?_
    refine va_get (D := K.1) (ci := 0) (v := .ref (ad 1)) (C := RX0) (T := TX0) (N := 3) (pc := 32) hx hb hts inT0 hown hG.1 hP 0 rfl rfl 0 (by decide) (hts _ qf_Hist_11) (fun _ h9 => h9) rfl dX0_remember_32 ?_
    refine lv_aload_n (pc := 35) hx hb dX0_remember_35 rfl (lv_at hl 0 rfl) ?_
    refine va_get (D := K.1) (ci := 0) (v := .int hnx) (C := RX0) (T := TX0) (N := 3) (pc := 36) hx hb hts inT0 hown hG.1 hP 0 rfl rfl 1 (by decide) (hts _ qf_Hist_18) (fun _ h9 => h9) rfl dX0_remember_36 ?_
    refine va_aldq (pc := 39) hx hb hG.1 hP 1 2 rfl rfl hin dX0_remember_39 ?_
    rw [ej]
    refine W.eq (g2 := F0 m 40 ls [.ref (ad 11)]) rfl ?_
    refine lv_aload_n (pc := 40) hx hb dX0_remember_40 rfl (lv_at hl 1 rfl) ?_
    refine wrVv (pc := 41) (As := [.ref (bd 0)]) (rest := []) (ws2 := (wHist K ad (va_up hp 1 v) hnx hkp) ++ (wPlan K bd opxs opys oplo ophi opn opm)) (as9 := [ad 11, ad 12, ad 13, ad 14, ad 15, ad 16, ad 17, ad 18, ad 19, bd 0, bd 1, bd 2, bd 3, bd 4, bd 5, bd 6, bd 7, bd 8]) hx hb hml hown hts hG hP hD hS (c_Plan_copyFrom l K (fun k => ad (k + 11)) bd (hp 1).1 (hp 1).2.1 (hp 1).2.2.1 (hp 1).2.2.2.1 (hp 1).2.2.2.2.1 (hp 1).2.2.2.2.2 opxs opys oplo ophi opn opm F hv) [11, 12, 13, 14, 15, 16, 17, 18, 19, 110, 111, 112, 113, 114, 115, 116, 117, 118] rfl rfl rfl rfl [.inr 0, .inr 1, .inr 2, .inr 3, .inr 4, .inr 5, .inr 6, .inr 7, .inr 8, .inr 9, .inr 10, .inl 0, .inl 1, .inl 2, .inl 3, .inl 4, .inl 5, .inl 6, .inl 7, .inl 8, .inr 20, .inr 21, .inr 22, .inr 23, .inr 24, .inr 25, .inr 26, .inr 27, .inr 28, .inr 29, .inr 30, .inr 31, .inr 32, .inr 33, .inr 34, .inr 35, .inr 36, .inr 37, .inr 38, .inr 39, .inr 40, .inr 41, .inr 42, .inr 43, .inr 44, .inr 45, .inr 46, .inr 47, .inr 48, .inr 49, .inr 50, .inr 51, .inr 52, .inr 53, .inr 54, .inr 55, .inr 56, .inr 57, .inr 58, .inr 59, .inr 60, .inr 61, .inr 62, .inr 63, .inr 64, .inr 65, .inr 66, .inr 67, .inr 68, .inr 69, .inr 70, .inr 71, .inr 72, .inr 73, .inr 74, .inr 75, .inr 76, .inr 77, .inr 78, .inr 79, .inr 80, .inr 81, .inr 82, .inr 83, .inr 84, .inr 85, .inr 86, .inr 87, .inr 88, .inr 89, .inr 90, .inr 91, .inr 92, .inr 93, .inr 94, .inr 95, .inr 96, .inr 97, .inr 98, .inr 99, .inr 100, .inr 101, .inr 102, .inr 103, .inr 104, .inr 105, .inr 106, .inr 107, .inr 108, .inr 109, .inl 9, .inl 10, .inl 11, .inl 12, .inl 13, .inl 14, .inl 15, .inl 16, .inl 17] (by decide +kernel) rfl (q0 := 11) rfl (ci := 3) rfl g_Hist_25 hd_Plan_copyFrom rfl ⟨Nat.le_of_ble_eq_true rfl, Nat.le_of_ble_eq_true rfl⟩ ⟨Nat.zero_le _, Nat.zero_le _⟩ hl rfl (Nat.le_of_ble_eq_true rfl) dX0_remember_41 (fun H locs hP hD hS => ?_)
    exact tail _ _ _ hP hD hS h
  · refine W.eq (g2 := F0 m 28 ls [.ref (ad 20)]) rfl ?_
    refine lv_ifnull (pc := 28) hx hb dX0_remember_28 ?_
    refine lv_aload_n (pc := 31) hx hb dX0_remember_31 rfl (lv_at hl 0 rfl) ?_
    refine va_get (D := K.1) (ci := 0) (v := .ref (ad 1)) (C := RX0) (T := TX0) (N := 3) (pc := 32) hx hb hts inT0 hown hG.1 hP 0 rfl rfl 0 (by decide) (hts _ qf_Hist_11) (fun _ h9 => h9) rfl dX0_remember_32 ?_
    refine lv_aload_n (pc := 35) hx hb dX0_remember_35 rfl (lv_at hl 0 rfl) ?_
    refine va_get (D := K.1) (ci := 0) (v := .int hnx) (C := RX0) (T := TX0) (N := 3) (pc := 36) hx hb hts inT0 hown hG.1 hP 0 rfl rfl 1 (by decide) (hts _ qf_Hist_18) (fun _ h9 => h9) rfl dX0_remember_36 ?_
    refine va_aldq (pc := 39) hx hb hG.1 hP 1 2 rfl rfl hin dX0_remember_39 ?_
    rw [ej]
    refine W.eq (g2 := F0 m 40 ls [.ref (ad 20)]) rfl ?_
    refine lv_aload_n (pc := 40) hx hb dX0_remember_40 rfl (lv_at hl 1 rfl) ?_
    refine wrVv (pc := 41) (As := [.ref (bd 0)]) (rest := []) (ws2 := (wHist K ad (va_up hp 2 v) hnx hkp) ++ (wPlan K bd opxs opys oplo ophi opn opm)) (as9 := [ad 20, ad 21, ad 22, ad 23, ad 24, ad 25, ad 26, ad 27, ad 28, bd 0, bd 1, bd 2, bd 3, bd 4, bd 5, bd 6, bd 7, bd 8]) hx hb hml hown hts hG hP hD hS (c_Plan_copyFrom l K (fun k => ad (k + 20)) bd (hp 2).1 (hp 2).2.1 (hp 2).2.2.1 (hp 2).2.2.2.1 (hp 2).2.2.2.2.1 (hp 2).2.2.2.2.2 opxs opys oplo ophi opn opm F hv) [20, 21, 22, 23, 24, 25, 26, 27, 28, 110, 111, 112, 113, 114, 115, 116, 117, 118] rfl rfl rfl rfl [.inr 0, .inr 1, .inr 2, .inr 3, .inr 4, .inr 5, .inr 6, .inr 7, .inr 8, .inr 9, .inr 10, .inr 11, .inr 12, .inr 13, .inr 14, .inr 15, .inr 16, .inr 17, .inr 18, .inr 19, .inl 0, .inl 1, .inl 2, .inl 3, .inl 4, .inl 5, .inl 6, .inl 7, .inl 8, .inr 29, .inr 30, .inr 31, .inr 32, .inr 33, .inr 34, .inr 35, .inr 36, .inr 37, .inr 38, .inr 39, .inr 40, .inr 41, .inr 42, .inr 43, .inr 44, .inr 45, .inr 46, .inr 47, .inr 48, .inr 49, .inr 50, .inr 51, .inr 52, .inr 53, .inr 54, .inr 55, .inr 56, .inr 57, .inr 58, .inr 59, .inr 60, .inr 61, .inr 62, .inr 63, .inr 64, .inr 65, .inr 66, .inr 67, .inr 68, .inr 69, .inr 70, .inr 71, .inr 72, .inr 73, .inr 74, .inr 75, .inr 76, .inr 77, .inr 78, .inr 79, .inr 80, .inr 81, .inr 82, .inr 83, .inr 84, .inr 85, .inr 86, .inr 87, .inr 88, .inr 89, .inr 90, .inr 91, .inr 92, .inr 93, .inr 94, .inr 95, .inr 96, .inr 97, .inr 98, .inr 99, .inr 100, .inr 101, .inr 102, .inr 103, .inr 104, .inr 105, .inr 106, .inr 107, .inr 108, .inr 109, .inl 9, .inl 10, .inl 11, .inl 12, .inl 13, .inl 14, .inl 15, .inl 16, .inl 17] (by decide +kernel) rfl (q0 := 20) rfl (ci := 3) rfl g_Hist_25 hd_Plan_copyFrom rfl ⟨Nat.le_of_ble_eq_true rfl, Nat.le_of_ble_eq_true rfl⟩ ⟨Nat.zero_le _, Nat.zero_le _⟩ hl rfl (Nat.le_of_ble_eq_true rfl) dX0_remember_41 (fun H locs hP hD hS => ?_)
    exact tail _ _ _ hP hD hS h
  · refine W.eq (g2 := F0 m 28 ls [.ref (ad 29)]) rfl ?_
    refine lv_ifnull (pc := 28) hx hb dX0_remember_28 ?_
    refine lv_aload_n (pc := 31) hx hb dX0_remember_31 rfl (lv_at hl 0 rfl) ?_
    refine va_get (D := K.1) (ci := 0) (v := .ref (ad 1)) (C := RX0) (T := TX0) (N := 3) (pc := 32) hx hb hts inT0 hown hG.1 hP 0 rfl rfl 0 (by decide) (hts _ qf_Hist_11) (fun _ h9 => h9) rfl dX0_remember_32 ?_
    refine lv_aload_n (pc := 35) hx hb dX0_remember_35 rfl (lv_at hl 0 rfl) ?_
    refine va_get (D := K.1) (ci := 0) (v := .int hnx) (C := RX0) (T := TX0) (N := 3) (pc := 36) hx hb hts inT0 hown hG.1 hP 0 rfl rfl 1 (by decide) (hts _ qf_Hist_18) (fun _ h9 => h9) rfl dX0_remember_36 ?_
    refine va_aldq (pc := 39) hx hb hG.1 hP 1 2 rfl rfl hin dX0_remember_39 ?_
    rw [ej]
    refine W.eq (g2 := F0 m 40 ls [.ref (ad 29)]) rfl ?_
    refine lv_aload_n (pc := 40) hx hb dX0_remember_40 rfl (lv_at hl 1 rfl) ?_
    refine wrVv (pc := 41) (As := [.ref (bd 0)]) (rest := []) (ws2 := (wHist K ad (va_up hp 3 v) hnx hkp) ++ (wPlan K bd opxs opys oplo ophi opn opm)) (as9 := [ad 29, ad 30, ad 31, ad 32, ad 33, ad 34, ad 35, ad 36, ad 37, bd 0, bd 1, bd 2, bd 3, bd 4, bd 5, bd 6, bd 7, bd 8]) hx hb hml hown hts hG hP hD hS (c_Plan_copyFrom l K (fun k => ad (k + 29)) bd (hp 3).1 (hp 3).2.1 (hp 3).2.2.1 (hp 3).2.2.2.1 (hp 3).2.2.2.2.1 (hp 3).2.2.2.2.2 opxs opys oplo ophi opn opm F hv) [29, 30, 31, 32, 33, 34, 35, 36, 37, 110, 111, 112, 113, 114, 115, 116, 117, 118] rfl rfl rfl rfl [.inr 0, .inr 1, .inr 2, .inr 3, .inr 4, .inr 5, .inr 6, .inr 7, .inr 8, .inr 9, .inr 10, .inr 11, .inr 12, .inr 13, .inr 14, .inr 15, .inr 16, .inr 17, .inr 18, .inr 19, .inr 20, .inr 21, .inr 22, .inr 23, .inr 24, .inr 25, .inr 26, .inr 27, .inr 28, .inl 0, .inl 1, .inl 2, .inl 3, .inl 4, .inl 5, .inl 6, .inl 7, .inl 8, .inr 38, .inr 39, .inr 40, .inr 41, .inr 42, .inr 43, .inr 44, .inr 45, .inr 46, .inr 47, .inr 48, .inr 49, .inr 50, .inr 51, .inr 52, .inr 53, .inr 54, .inr 55, .inr 56, .inr 57, .inr 58, .inr 59, .inr 60, .inr 61, .inr 62, .inr 63, .inr 64, .inr 65, .inr 66, .inr 67, .inr 68, .inr 69, .inr 70, .inr 71, .inr 72, .inr 73, .inr 74, .inr 75, .inr 76, .inr 77, .inr 78, .inr 79, .inr 80, .inr 81, .inr 82, .inr 83, .inr 84, .inr 85, .inr 86, .inr 87, .inr 88, .inr 89, .inr 90, .inr 91, .inr 92, .inr 93, .inr 94, .inr 95, .inr 96, .inr 97, .inr 98, .inr 99, .inr 100, .inr 101, .inr 102, .inr 103, .inr 104, .inr 105, .inr 106, .inr 107, .inr 108, .inr 109, .inl 9, .inl 10, .inl 11, .inl 12, .inl 13, .inl 14, .inl 15, .inl 16, .inl 17] (by decide +kernel) rfl (q0 := 29) rfl (ci := 3) rfl g_Hist_25 hd_Plan_copyFrom rfl ⟨Nat.le_of_ble_eq_true rfl, Nat.le_of_ble_eq_true rfl⟩ ⟨Nat.zero_le _, Nat.zero_le _⟩ hl rfl (Nat.le_of_ble_eq_true rfl) dX0_remember_41 (fun H locs hP hD hS => ?_)
    exact tail _ _ _ hP hD hS h
  · refine W.eq (g2 := F0 m 28 ls [.ref (ad 38)]) rfl ?_
    refine lv_ifnull (pc := 28) hx hb dX0_remember_28 ?_
    refine lv_aload_n (pc := 31) hx hb dX0_remember_31 rfl (lv_at hl 0 rfl) ?_
    refine va_get (D := K.1) (ci := 0) (v := .ref (ad 1)) (C := RX0) (T := TX0) (N := 3) (pc := 32) hx hb hts inT0 hown hG.1 hP 0 rfl rfl 0 (by decide) (hts _ qf_Hist_11) (fun _ h9 => h9) rfl dX0_remember_32 ?_
    refine lv_aload_n (pc := 35) hx hb dX0_remember_35 rfl (lv_at hl 0 rfl) ?_
    refine va_get (D := K.1) (ci := 0) (v := .int hnx) (C := RX0) (T := TX0) (N := 3) (pc := 36) hx hb hts inT0 hown hG.1 hP 0 rfl rfl 1 (by decide) (hts _ qf_Hist_18) (fun _ h9 => h9) rfl dX0_remember_36 ?_
    refine va_aldq (pc := 39) hx hb hG.1 hP 1 2 rfl rfl hin dX0_remember_39 ?_
    rw [ej]
    refine W.eq (g2 := F0 m 40 ls [.ref (ad 38)]) rfl ?_
    refine lv_aload_n (pc := 40) hx hb dX0_remember_40 rfl (lv_at hl 1 rfl) ?_
    refine wrVv (pc := 41) (As := [.ref (bd 0)]) (rest := []) (ws2 := (wHist K ad (va_up hp 4 v) hnx hkp) ++ (wPlan K bd opxs opys oplo ophi opn opm)) (as9 := [ad 38, ad 39, ad 40, ad 41, ad 42, ad 43, ad 44, ad 45, ad 46, bd 0, bd 1, bd 2, bd 3, bd 4, bd 5, bd 6, bd 7, bd 8]) hx hb hml hown hts hG hP hD hS (c_Plan_copyFrom l K (fun k => ad (k + 38)) bd (hp 4).1 (hp 4).2.1 (hp 4).2.2.1 (hp 4).2.2.2.1 (hp 4).2.2.2.2.1 (hp 4).2.2.2.2.2 opxs opys oplo ophi opn opm F hv) [38, 39, 40, 41, 42, 43, 44, 45, 46, 110, 111, 112, 113, 114, 115, 116, 117, 118] rfl rfl rfl rfl [.inr 0, .inr 1, .inr 2, .inr 3, .inr 4, .inr 5, .inr 6, .inr 7, .inr 8, .inr 9, .inr 10, .inr 11, .inr 12, .inr 13, .inr 14, .inr 15, .inr 16, .inr 17, .inr 18, .inr 19, .inr 20, .inr 21, .inr 22, .inr 23, .inr 24, .inr 25, .inr 26, .inr 27, .inr 28, .inr 29, .inr 30, .inr 31, .inr 32, .inr 33, .inr 34, .inr 35, .inr 36, .inr 37, .inl 0, .inl 1, .inl 2, .inl 3, .inl 4, .inl 5, .inl 6, .inl 7, .inl 8, .inr 47, .inr 48, .inr 49, .inr 50, .inr 51, .inr 52, .inr 53, .inr 54, .inr 55, .inr 56, .inr 57, .inr 58, .inr 59, .inr 60, .inr 61, .inr 62, .inr 63, .inr 64, .inr 65, .inr 66, .inr 67, .inr 68, .inr 69, .inr 70, .inr 71, .inr 72, .inr 73, .inr 74, .inr 75, .inr 76, .inr 77, .inr 78, .inr 79, .inr 80, .inr 81, .inr 82, .inr 83, .inr 84, .inr 85, .inr 86, .inr 87, .inr 88, .inr 89, .inr 90, .inr 91, .inr 92, .inr 93, .inr 94, .inr 95, .inr 96, .inr 97, .inr 98, .inr 99, .inr 100, .inr 101, .inr 102, .inr 103, .inr 104, .inr 105, .inr 106, .inr 107, .inr 108, .inr 109, .inl 9, .inl 10, .inl 11, .inl 12, .inl 13, .inl 14, .inl 15, .inl 16, .inl 17] (by decide +kernel) rfl (q0 := 38) rfl (ci := 3) rfl g_Hist_25 hd_Plan_copyFrom rfl ⟨Nat.le_of_ble_eq_true rfl, Nat.le_of_ble_eq_true rfl⟩ ⟨Nat.zero_le _, Nat.zero_le _⟩ hl rfl (Nat.le_of_ble_eq_true rfl) dX0_remember_41 (fun H locs hP hD hS => ?_)
    exact tail _ _ _ hP hD hS h
  · refine W.eq (g2 := F0 m 28 ls [.ref (ad 47)]) rfl ?_
    refine lv_ifnull (pc := 28) hx hb dX0_remember_28 ?_
    refine lv_aload_n (pc := 31) hx hb dX0_remember_31 rfl (lv_at hl 0 rfl) ?_
    refine va_get (D := K.1) (ci := 0) (v := .ref (ad 1)) (C := RX0) (T := TX0) (N := 3) (pc := 32) hx hb hts inT0 hown hG.1 hP 0 rfl rfl 0 (by decide) (hts _ qf_Hist_11) (fun _ h9 => h9) rfl dX0_remember_32 ?_
    refine lv_aload_n (pc := 35) hx hb dX0_remember_35 rfl (lv_at hl 0 rfl) ?_
    refine va_get (D := K.1) (ci := 0) (v := .int hnx) (C := RX0) (T := TX0) (N := 3) (pc := 36) hx hb hts inT0 hown hG.1 hP 0 rfl rfl 1 (by decide) (hts _ qf_Hist_18) (fun _ h9 => h9) rfl dX0_remember_36 ?_
    refine va_aldq (pc := 39) hx hb hG.1 hP 1 2 rfl rfl hin dX0_remember_39 ?_
    rw [ej]
    refine W.eq (g2 := F0 m 40 ls [.ref (ad 47)]) rfl ?_
    refine lv_aload_n (pc := 40) hx hb dX0_remember_40 rfl (lv_at hl 1 rfl) ?_
    refine wrVv (pc := 41) (As := [.ref (bd 0)]) (rest := []) (ws2 := (wHist K ad (va_up hp 5 v) hnx hkp) ++ (wPlan K bd opxs opys oplo ophi opn opm)) (as9 := [ad 47, ad 48, ad 49, ad 50, ad 51, ad 52, ad 53, ad 54, ad 55, bd 0, bd 1, bd 2, bd 3, bd 4, bd 5, bd 6, bd 7, bd 8]) hx hb hml hown hts hG hP hD hS (c_Plan_copyFrom l K (fun k => ad (k + 47)) bd (hp 5).1 (hp 5).2.1 (hp 5).2.2.1 (hp 5).2.2.2.1 (hp 5).2.2.2.2.1 (hp 5).2.2.2.2.2 opxs opys oplo ophi opn opm F hv) [47, 48, 49, 50, 51, 52, 53, 54, 55, 110, 111, 112, 113, 114, 115, 116, 117, 118] rfl rfl rfl rfl [.inr 0, .inr 1, .inr 2, .inr 3, .inr 4, .inr 5, .inr 6, .inr 7, .inr 8, .inr 9, .inr 10, .inr 11, .inr 12, .inr 13, .inr 14, .inr 15, .inr 16, .inr 17, .inr 18, .inr 19, .inr 20, .inr 21, .inr 22, .inr 23, .inr 24, .inr 25, .inr 26, .inr 27, .inr 28, .inr 29, .inr 30, .inr 31, .inr 32, .inr 33, .inr 34, .inr 35, .inr 36, .inr 37, .inr 38, .inr 39, .inr 40, .inr 41, .inr 42, .inr 43, .inr 44, .inr 45, .inr 46, .inl 0, .inl 1, .inl 2, .inl 3, .inl 4, .inl 5, .inl 6, .inl 7, .inl 8, .inr 56, .inr 57, .inr 58, .inr 59, .inr 60, .inr 61, .inr 62, .inr 63, .inr 64, .inr 65, .inr 66, .inr 67, .inr 68, .inr 69, .inr 70, .inr 71, .inr 72, .inr 73, .inr 74, .inr 75, .inr 76, .inr 77, .inr 78, .inr 79, .inr 80, .inr 81, .inr 82, .inr 83, .inr 84, .inr 85, .inr 86, .inr 87, .inr 88, .inr 89, .inr 90, .inr 91, .inr 92, .inr 93, .inr 94, .inr 95, .inr 96, .inr 97, .inr 98, .inr 99, .inr 100, .inr 101, .inr 102, .inr 103, .inr 104, .inr 105, .inr 106, .inr 107, .inr 108, .inr 109, .inl 9, .inl 10, .inl 11, .inl 12, .inl 13, .inl 14, .inl 15, .inl 16, .inl 17] (by decide +kernel) rfl (q0 := 47) rfl (ci := 3) rfl g_Hist_25 hd_Plan_copyFrom rfl ⟨Nat.le_of_ble_eq_true rfl, Nat.le_of_ble_eq_true rfl⟩ ⟨Nat.zero_le _, Nat.zero_le _⟩ hl rfl (Nat.le_of_ble_eq_true rfl) dX0_remember_41 (fun H locs hP hD hS => ?_)
    exact tail _ _ _ hP hD hS h
  · refine W.eq (g2 := F0 m 28 ls [.ref (ad 56)]) rfl ?_
    refine lv_ifnull (pc := 28) hx hb dX0_remember_28 ?_
    refine lv_aload_n (pc := 31) hx hb dX0_remember_31 rfl (lv_at hl 0 rfl) ?_
    refine va_get (D := K.1) (ci := 0) (v := .ref (ad 1)) (C := RX0) (T := TX0) (N := 3) (pc := 32) hx hb hts inT0 hown hG.1 hP 0 rfl rfl 0 (by decide) (hts _ qf_Hist_11) (fun _ h9 => h9) rfl dX0_remember_32 ?_
    refine lv_aload_n (pc := 35) hx hb dX0_remember_35 rfl (lv_at hl 0 rfl) ?_
    refine va_get (D := K.1) (ci := 0) (v := .int hnx) (C := RX0) (T := TX0) (N := 3) (pc := 36) hx hb hts inT0 hown hG.1 hP 0 rfl rfl 1 (by decide) (hts _ qf_Hist_18) (fun _ h9 => h9) rfl dX0_remember_36 ?_
    refine va_aldq (pc := 39) hx hb hG.1 hP 1 2 rfl rfl hin dX0_remember_39 ?_
    rw [ej]
    refine W.eq (g2 := F0 m 40 ls [.ref (ad 56)]) rfl ?_
    refine lv_aload_n (pc := 40) hx hb dX0_remember_40 rfl (lv_at hl 1 rfl) ?_
    refine wrVv (pc := 41) (As := [.ref (bd 0)]) (rest := []) (ws2 := (wHist K ad (va_up hp 6 v) hnx hkp) ++ (wPlan K bd opxs opys oplo ophi opn opm)) (as9 := [ad 56, ad 57, ad 58, ad 59, ad 60, ad 61, ad 62, ad 63, ad 64, bd 0, bd 1, bd 2, bd 3, bd 4, bd 5, bd 6, bd 7, bd 8]) hx hb hml hown hts hG hP hD hS (c_Plan_copyFrom l K (fun k => ad (k + 56)) bd (hp 6).1 (hp 6).2.1 (hp 6).2.2.1 (hp 6).2.2.2.1 (hp 6).2.2.2.2.1 (hp 6).2.2.2.2.2 opxs opys oplo ophi opn opm F hv) [56, 57, 58, 59, 60, 61, 62, 63, 64, 110, 111, 112, 113, 114, 115, 116, 117, 118] rfl rfl rfl rfl [.inr 0, .inr 1, .inr 2, .inr 3, .inr 4, .inr 5, .inr 6, .inr 7, .inr 8, .inr 9, .inr 10, .inr 11, .inr 12, .inr 13, .inr 14, .inr 15, .inr 16, .inr 17, .inr 18, .inr 19, .inr 20, .inr 21, .inr 22, .inr 23, .inr 24, .inr 25, .inr 26, .inr 27, .inr 28, .inr 29, .inr 30, .inr 31, .inr 32, .inr 33, .inr 34, .inr 35, .inr 36, .inr 37, .inr 38, .inr 39, .inr 40, .inr 41, .inr 42, .inr 43, .inr 44, .inr 45, .inr 46, .inr 47, .inr 48, .inr 49, .inr 50, .inr 51, .inr 52, .inr 53, .inr 54, .inr 55, .inl 0, .inl 1, .inl 2, .inl 3, .inl 4, .inl 5, .inl 6, .inl 7, .inl 8, .inr 65, .inr 66, .inr 67, .inr 68, .inr 69, .inr 70, .inr 71, .inr 72, .inr 73, .inr 74, .inr 75, .inr 76, .inr 77, .inr 78, .inr 79, .inr 80, .inr 81, .inr 82, .inr 83, .inr 84, .inr 85, .inr 86, .inr 87, .inr 88, .inr 89, .inr 90, .inr 91, .inr 92, .inr 93, .inr 94, .inr 95, .inr 96, .inr 97, .inr 98, .inr 99, .inr 100, .inr 101, .inr 102, .inr 103, .inr 104, .inr 105, .inr 106, .inr 107, .inr 108, .inr 109, .inl 9, .inl 10, .inl 11, .inl 12, .inl 13, .inl 14, .inl 15, .inl 16, .inl 17] (by decide +kernel) rfl (q0 := 56) rfl (ci := 3) rfl g_Hist_25 hd_Plan_copyFrom rfl ⟨Nat.le_of_ble_eq_true rfl, Nat.le_of_ble_eq_true rfl⟩ ⟨Nat.zero_le _, Nat.zero_le _⟩ hl rfl (Nat.le_of_ble_eq_true rfl) dX0_remember_41 (fun H locs hP hD hS => ?_)
    exact tail _ _ _ hP hD hS h
  · refine W.eq (g2 := F0 m 28 ls [.ref (ad 65)]) rfl ?_
    refine lv_ifnull (pc := 28) hx hb dX0_remember_28 ?_
    refine lv_aload_n (pc := 31) hx hb dX0_remember_31 rfl (lv_at hl 0 rfl) ?_
    refine va_get (D := K.1) (ci := 0) (v := .ref (ad 1)) (C := RX0) (T := TX0) (N := 3) (pc := 32) hx hb hts inT0 hown hG.1 hP 0 rfl rfl 0 (by decide) (hts _ qf_Hist_11) (fun _ h9 => h9) rfl dX0_remember_32 ?_
    refine lv_aload_n (pc := 35) hx hb dX0_remember_35 rfl (lv_at hl 0 rfl) ?_
    refine va_get (D := K.1) (ci := 0) (v := .int hnx) (C := RX0) (T := TX0) (N := 3) (pc := 36) hx hb hts inT0 hown hG.1 hP 0 rfl rfl 1 (by decide) (hts _ qf_Hist_18) (fun _ h9 => h9) rfl dX0_remember_36 ?_
    refine va_aldq (pc := 39) hx hb hG.1 hP 1 2 rfl rfl hin dX0_remember_39 ?_
    rw [ej]
    refine W.eq (g2 := F0 m 40 ls [.ref (ad 65)]) rfl ?_
    refine lv_aload_n (pc := 40) hx hb dX0_remember_40 rfl (lv_at hl 1 rfl) ?_
    refine wrVv (pc := 41) (As := [.ref (bd 0)]) (rest := []) (ws2 := (wHist K ad (va_up hp 7 v) hnx hkp) ++ (wPlan K bd opxs opys oplo ophi opn opm)) (as9 := [ad 65, ad 66, ad 67, ad 68, ad 69, ad 70, ad 71, ad 72, ad 73, bd 0, bd 1, bd 2, bd 3, bd 4, bd 5, bd 6, bd 7, bd 8]) hx hb hml hown hts hG hP hD hS (c_Plan_copyFrom l K (fun k => ad (k + 65)) bd (hp 7).1 (hp 7).2.1 (hp 7).2.2.1 (hp 7).2.2.2.1 (hp 7).2.2.2.2.1 (hp 7).2.2.2.2.2 opxs opys oplo ophi opn opm F hv) [65, 66, 67, 68, 69, 70, 71, 72, 73, 110, 111, 112, 113, 114, 115, 116, 117, 118] rfl rfl rfl rfl [.inr 0, .inr 1, .inr 2, .inr 3, .inr 4, .inr 5, .inr 6, .inr 7, .inr 8, .inr 9, .inr 10, .inr 11, .inr 12, .inr 13, .inr 14, .inr 15, .inr 16, .inr 17, .inr 18, .inr 19, .inr 20, .inr 21, .inr 22, .inr 23, .inr 24, .inr 25, .inr 26, .inr 27, .inr 28, .inr 29, .inr 30, .inr 31, .inr 32, .inr 33, .inr 34, .inr 35, .inr 36, .inr 37, .inr 38, .inr 39, .inr 40, .inr 41, .inr 42, .inr 43, .inr 44, .inr 45, .inr 46, .inr 47, .inr 48, .inr 49, .inr 50, .inr 51, .inr 52, .inr 53, .inr 54, .inr 55, .inr 56, .inr 57, .inr 58, .inr 59, .inr 60, .inr 61, .inr 62, .inr 63, .inr 64, .inl 0, .inl 1, .inl 2, .inl 3, .inl 4, .inl 5, .inl 6, .inl 7, .inl 8, .inr 74, .inr 75, .inr 76, .inr 77, .inr 78, .inr 79, .inr 80, .inr 81, .inr 82, .inr 83, .inr 84, .inr 85, .inr 86, .inr 87, .inr 88, .inr 89, .inr 90, .inr 91, .inr 92, .inr 93, .inr 94, .inr 95, .inr 96, .inr 97, .inr 98, .inr 99, .inr 100, .inr 101, .inr 102, .inr 103, .inr 104, .inr 105, .inr 106, .inr 107, .inr 108, .inr 109, .inl 9, .inl 10, .inl 11, .inl 12, .inl 13, .inl 14, .inl 15, .inl 16, .inl 17] (by decide +kernel) rfl (q0 := 65) rfl (ci := 3) rfl g_Hist_25 hd_Plan_copyFrom rfl ⟨Nat.le_of_ble_eq_true rfl, Nat.le_of_ble_eq_true rfl⟩ ⟨Nat.zero_le _, Nat.zero_le _⟩ hl rfl (Nat.le_of_ble_eq_true rfl) dX0_remember_41 (fun H locs hP hD hS => ?_)
    exact tail _ _ _ hP hD hS h
  · refine W.eq (g2 := F0 m 28 ls [.ref (ad 74)]) rfl ?_
    refine lv_ifnull (pc := 28) hx hb dX0_remember_28 ?_
    refine lv_aload_n (pc := 31) hx hb dX0_remember_31 rfl (lv_at hl 0 rfl) ?_
    refine va_get (D := K.1) (ci := 0) (v := .ref (ad 1)) (C := RX0) (T := TX0) (N := 3) (pc := 32) hx hb hts inT0 hown hG.1 hP 0 rfl rfl 0 (by decide) (hts _ qf_Hist_11) (fun _ h9 => h9) rfl dX0_remember_32 ?_
    refine lv_aload_n (pc := 35) hx hb dX0_remember_35 rfl (lv_at hl 0 rfl) ?_
    refine va_get (D := K.1) (ci := 0) (v := .int hnx) (C := RX0) (T := TX0) (N := 3) (pc := 36) hx hb hts inT0 hown hG.1 hP 0 rfl rfl 1 (by decide) (hts _ qf_Hist_18) (fun _ h9 => h9) rfl dX0_remember_36 ?_
    refine va_aldq (pc := 39) hx hb hG.1 hP 1 2 rfl rfl hin dX0_remember_39 ?_
    rw [ej]
    refine W.eq (g2 := F0 m 40 ls [.ref (ad 74)]) rfl ?_
    refine lv_aload_n (pc := 40) hx hb dX0_remember_40 rfl (lv_at hl 1 rfl) ?_
    refine wrVv (pc := 41) (As := [.ref (bd 0)]) (rest := []) (ws2 := (wHist K ad (va_up hp 8 v) hnx hkp) ++ (wPlan K bd opxs opys oplo ophi opn opm)) (as9 := [ad 74, ad 75, ad 76, ad 77, ad 78, ad 79, ad 80, ad 81, ad 82, bd 0, bd 1, bd 2, bd 3, bd 4, bd 5, bd 6, bd 7, bd 8]) hx hb hml hown hts hG hP hD hS (c_Plan_copyFrom l K (fun k => ad (k + 74)) bd (hp 8).1 (hp 8).2.1 (hp 8).2.2.1 (hp 8).2.2.2.1 (hp 8).2.2.2.2.1 (hp 8).2.2.2.2.2 opxs opys oplo ophi opn opm F hv) [74, 75, 76, 77, 78, 79, 80, 81, 82, 110, 111, 112, 113, 114, 115, 116, 117, 118] rfl rfl rfl rfl [.inr 0, .inr 1, .inr 2, .inr 3, .inr 4, .inr 5, .inr 6, .inr 7, .inr 8, .inr 9, .inr 10, .inr 11, .inr 12, .inr 13, .inr 14, .inr 15, .inr 16, .inr 17, .inr 18, .inr 19, .inr 20, .inr 21, .inr 22, .inr 23, .inr 24, .inr 25, .inr 26, .inr 27, .inr 28, .inr 29, .inr 30, .inr 31, .inr 32, .inr 33, .inr 34, .inr 35, .inr 36, .inr 37, .inr 38, .inr 39, .inr 40, .inr 41, .inr 42, .inr 43, .inr 44, .inr 45, .inr 46, .inr 47, .inr 48, .inr 49, .inr 50, .inr 51, .inr 52, .inr 53, .inr 54, .inr 55, .inr 56, .inr 57, .inr 58, .inr 59, .inr 60, .inr 61, .inr 62, .inr 63, .inr 64, .inr 65, .inr 66, .inr 67, .inr 68, .inr 69, .inr 70, .inr 71, .inr 72, .inr 73, .inl 0, .inl 1, .inl 2, .inl 3, .inl 4, .inl 5, .inl 6, .inl 7, .inl 8, .inr 83, .inr 84, .inr 85, .inr 86, .inr 87, .inr 88, .inr 89, .inr 90, .inr 91, .inr 92, .inr 93, .inr 94, .inr 95, .inr 96, .inr 97, .inr 98, .inr 99, .inr 100, .inr 101, .inr 102, .inr 103, .inr 104, .inr 105, .inr 106, .inr 107, .inr 108, .inr 109, .inl 9, .inl 10, .inl 11, .inl 12, .inl 13, .inl 14, .inl 15, .inl 16, .inl 17] (by decide +kernel) rfl (q0 := 74) rfl (ci := 3) rfl g_Hist_25 hd_Plan_copyFrom rfl ⟨Nat.le_of_ble_eq_true rfl, Nat.le_of_ble_eq_true rfl⟩ ⟨Nat.zero_le _, Nat.zero_le _⟩ hl rfl (Nat.le_of_ble_eq_true rfl) dX0_remember_41 (fun H locs hP hD hS => ?_)
    exact tail _ _ _ hP hD hS h
  · refine W.eq (g2 := F0 m 28 ls [.ref (ad 83)]) rfl ?_
    refine lv_ifnull (pc := 28) hx hb dX0_remember_28 ?_
    refine lv_aload_n (pc := 31) hx hb dX0_remember_31 rfl (lv_at hl 0 rfl) ?_
    refine va_get (D := K.1) (ci := 0) (v := .ref (ad 1)) (C := RX0) (T := TX0) (N := 3) (pc := 32) hx hb hts inT0 hown hG.1 hP 0 rfl rfl 0 (by decide) (hts _ qf_Hist_11) (fun _ h9 => h9) rfl dX0_remember_32 ?_
    refine lv_aload_n (pc := 35) hx hb dX0_remember_35 rfl (lv_at hl 0 rfl) ?_
    refine va_get (D := K.1) (ci := 0) (v := .int hnx) (C := RX0) (T := TX0) (N := 3) (pc := 36) hx hb hts inT0 hown hG.1 hP 0 rfl rfl 1 (by decide) (hts _ qf_Hist_18) (fun _ h9 => h9) rfl dX0_remember_36 ?_
    refine va_aldq (pc := 39) hx hb hG.1 hP 1 2 rfl rfl hin dX0_remember_39 ?_
    rw [ej]
    refine W.eq (g2 := F0 m 40 ls [.ref (ad 83)]) rfl ?_
    refine lv_aload_n (pc := 40) hx hb dX0_remember_40 rfl (lv_at hl 1 rfl) ?_
    refine wrVv (pc := 41) (As := [.ref (bd 0)]) (rest := []) (ws2 := (wHist K ad (va_up hp 9 v) hnx hkp) ++ (wPlan K bd opxs opys oplo ophi opn opm)) (as9 := [ad 83, ad 84, ad 85, ad 86, ad 87, ad 88, ad 89, ad 90, ad 91, bd 0, bd 1, bd 2, bd 3, bd 4, bd 5, bd 6, bd 7, bd 8]) hx hb hml hown hts hG hP hD hS (c_Plan_copyFrom l K (fun k => ad (k + 83)) bd (hp 9).1 (hp 9).2.1 (hp 9).2.2.1 (hp 9).2.2.2.1 (hp 9).2.2.2.2.1 (hp 9).2.2.2.2.2 opxs opys oplo ophi opn opm F hv) [83, 84, 85, 86, 87, 88, 89, 90, 91, 110, 111, 112, 113, 114, 115, 116, 117, 118] rfl rfl rfl rfl [.inr 0, .inr 1, .inr 2, .inr 3, .inr 4, .inr 5, .inr 6, .inr 7, .inr 8, .inr 9, .inr 10, .inr 11, .inr 12, .inr 13, .inr 14, .inr 15, .inr 16, .inr 17, .inr 18, .inr 19, .inr 20, .inr 21, .inr 22, .inr 23, .inr 24, .inr 25, .inr 26, .inr 27, .inr 28, .inr 29, .inr 30, .inr 31, .inr 32, .inr 33, .inr 34, .inr 35, .inr 36, .inr 37, .inr 38, .inr 39, .inr 40, .inr 41, .inr 42, .inr 43, .inr 44, .inr 45, .inr 46, .inr 47, .inr 48, .inr 49, .inr 50, .inr 51, .inr 52, .inr 53, .inr 54, .inr 55, .inr 56, .inr 57, .inr 58, .inr 59, .inr 60, .inr 61, .inr 62, .inr 63, .inr 64, .inr 65, .inr 66, .inr 67, .inr 68, .inr 69, .inr 70, .inr 71, .inr 72, .inr 73, .inr 74, .inr 75, .inr 76, .inr 77, .inr 78, .inr 79, .inr 80, .inr 81, .inr 82, .inl 0, .inl 1, .inl 2, .inl 3, .inl 4, .inl 5, .inl 6, .inl 7, .inl 8, .inr 92, .inr 93, .inr 94, .inr 95, .inr 96, .inr 97, .inr 98, .inr 99, .inr 100, .inr 101, .inr 102, .inr 103, .inr 104, .inr 105, .inr 106, .inr 107, .inr 108, .inr 109, .inl 9, .inl 10, .inl 11, .inl 12, .inl 13, .inl 14, .inl 15, .inl 16, .inl 17] (by decide +kernel) rfl (q0 := 83) rfl (ci := 3) rfl g_Hist_25 hd_Plan_copyFrom rfl ⟨Nat.le_of_ble_eq_true rfl, Nat.le_of_ble_eq_true rfl⟩ ⟨Nat.zero_le _, Nat.zero_le _⟩ hl rfl (Nat.le_of_ble_eq_true rfl) dX0_remember_41 (fun H locs hP hD hS => ?_)
    exact tail _ _ _ hP hD hS h
  · refine W.eq (g2 := F0 m 28 ls [.ref (ad 92)]) rfl ?_
    refine lv_ifnull (pc := 28) hx hb dX0_remember_28 ?_
    refine lv_aload_n (pc := 31) hx hb dX0_remember_31 rfl (lv_at hl 0 rfl) ?_
    refine va_get (D := K.1) (ci := 0) (v := .ref (ad 1)) (C := RX0) (T := TX0) (N := 3) (pc := 32) hx hb hts inT0 hown hG.1 hP 0 rfl rfl 0 (by decide) (hts _ qf_Hist_11) (fun _ h9 => h9) rfl dX0_remember_32 ?_
    refine lv_aload_n (pc := 35) hx hb dX0_remember_35 rfl (lv_at hl 0 rfl) ?_
    refine va_get (D := K.1) (ci := 0) (v := .int hnx) (C := RX0) (T := TX0) (N := 3) (pc := 36) hx hb hts inT0 hown hG.1 hP 0 rfl rfl 1 (by decide) (hts _ qf_Hist_18) (fun _ h9 => h9) rfl dX0_remember_36 ?_
    refine va_aldq (pc := 39) hx hb hG.1 hP 1 2 rfl rfl hin dX0_remember_39 ?_
    rw [ej]
    refine W.eq (g2 := F0 m 40 ls [.ref (ad 92)]) rfl ?_
    refine lv_aload_n (pc := 40) hx hb dX0_remember_40 rfl (lv_at hl 1 rfl) ?_
    refine wrVv (pc := 41) (As := [.ref (bd 0)]) (rest := []) (ws2 := (wHist K ad (va_up hp 10 v) hnx hkp) ++ (wPlan K bd opxs opys oplo ophi opn opm)) (as9 := [ad 92, ad 93, ad 94, ad 95, ad 96, ad 97, ad 98, ad 99, ad 100, bd 0, bd 1, bd 2, bd 3, bd 4, bd 5, bd 6, bd 7, bd 8]) hx hb hml hown hts hG hP hD hS (c_Plan_copyFrom l K (fun k => ad (k + 92)) bd (hp 10).1 (hp 10).2.1 (hp 10).2.2.1 (hp 10).2.2.2.1 (hp 10).2.2.2.2.1 (hp 10).2.2.2.2.2 opxs opys oplo ophi opn opm F hv) [92, 93, 94, 95, 96, 97, 98, 99, 100, 110, 111, 112, 113, 114, 115, 116, 117, 118] rfl rfl rfl rfl [.inr 0, .inr 1, .inr 2, .inr 3, .inr 4, .inr 5, .inr 6, .inr 7, .inr 8, .inr 9, .inr 10, .inr 11, .inr 12, .inr 13, .inr 14, .inr 15, .inr 16, .inr 17, .inr 18, .inr 19, .inr 20, .inr 21, .inr 22, .inr 23, .inr 24, .inr 25, .inr 26, .inr 27, .inr 28, .inr 29, .inr 30, .inr 31, .inr 32, .inr 33, .inr 34, .inr 35, .inr 36, .inr 37, .inr 38, .inr 39, .inr 40, .inr 41, .inr 42, .inr 43, .inr 44, .inr 45, .inr 46, .inr 47, .inr 48, .inr 49, .inr 50, .inr 51, .inr 52, .inr 53, .inr 54, .inr 55, .inr 56, .inr 57, .inr 58, .inr 59, .inr 60, .inr 61, .inr 62, .inr 63, .inr 64, .inr 65, .inr 66, .inr 67, .inr 68, .inr 69, .inr 70, .inr 71, .inr 72, .inr 73, .inr 74, .inr 75, .inr 76, .inr 77, .inr 78, .inr 79, .inr 80, .inr 81, .inr 82, .inr 83, .inr 84, .inr 85, .inr 86, .inr 87, .inr 88, .inr 89, .inr 90, .inr 91, .inl 0, .inl 1, .inl 2, .inl 3, .inl 4, .inl 5, .inl 6, .inl 7, .inl 8, .inr 101, .inr 102, .inr 103, .inr 104, .inr 105, .inr 106, .inr 107, .inr 108, .inr 109, .inl 9, .inl 10, .inl 11, .inl 12, .inl 13, .inl 14, .inl 15, .inl 16, .inl 17] (by decide +kernel) rfl (q0 := 92) rfl (ci := 3) rfl g_Hist_25 hd_Plan_copyFrom rfl ⟨Nat.le_of_ble_eq_true rfl, Nat.le_of_ble_eq_true rfl⟩ ⟨Nat.zero_le _, Nat.zero_le _⟩ hl rfl (Nat.le_of_ble_eq_true rfl) dX0_remember_41 (fun H locs hP hD hS => ?_)
    exact tail _ _ _ hP hD hS h
  · refine W.eq (g2 := F0 m 28 ls [.ref (ad 101)]) rfl ?_
    refine lv_ifnull (pc := 28) hx hb dX0_remember_28 ?_
    refine lv_aload_n (pc := 31) hx hb dX0_remember_31 rfl (lv_at hl 0 rfl) ?_
    refine va_get (D := K.1) (ci := 0) (v := .ref (ad 1)) (C := RX0) (T := TX0) (N := 3) (pc := 32) hx hb hts inT0 hown hG.1 hP 0 rfl rfl 0 (by decide) (hts _ qf_Hist_11) (fun _ h9 => h9) rfl dX0_remember_32 ?_
    refine lv_aload_n (pc := 35) hx hb dX0_remember_35 rfl (lv_at hl 0 rfl) ?_
    refine va_get (D := K.1) (ci := 0) (v := .int hnx) (C := RX0) (T := TX0) (N := 3) (pc := 36) hx hb hts inT0 hown hG.1 hP 0 rfl rfl 1 (by decide) (hts _ qf_Hist_18) (fun _ h9 => h9) rfl dX0_remember_36 ?_
    refine va_aldq (pc := 39) hx hb hG.1 hP 1 2 rfl rfl hin dX0_remember_39 ?_
    rw [ej]
    refine W.eq (g2 := F0 m 40 ls [.ref (ad 101)]) rfl ?_
    refine lv_aload_n (pc := 40) hx hb dX0_remember_40 rfl (lv_at hl 1 rfl) ?_
    refine wrVv (pc := 41) (As := [.ref (bd 0)]) (rest := []) (ws2 := (wHist K ad (va_up hp 11 v) hnx hkp) ++ (wPlan K bd opxs opys oplo ophi opn opm)) (as9 := [ad 101, ad 102, ad 103, ad 104, ad 105, ad 106, ad 107, ad 108, ad 109, bd 0, bd 1, bd 2, bd 3, bd 4, bd 5, bd 6, bd 7, bd 8]) hx hb hml hown hts hG hP hD hS (c_Plan_copyFrom l K (fun k => ad (k + 101)) bd (hp 11).1 (hp 11).2.1 (hp 11).2.2.1 (hp 11).2.2.2.1 (hp 11).2.2.2.2.1 (hp 11).2.2.2.2.2 opxs opys oplo ophi opn opm F hv) [101, 102, 103, 104, 105, 106, 107, 108, 109, 110, 111, 112, 113, 114, 115, 116, 117, 118] rfl rfl rfl rfl [.inr 0, .inr 1, .inr 2, .inr 3, .inr 4, .inr 5, .inr 6, .inr 7, .inr 8, .inr 9, .inr 10, .inr 11, .inr 12, .inr 13, .inr 14, .inr 15, .inr 16, .inr 17, .inr 18, .inr 19, .inr 20, .inr 21, .inr 22, .inr 23, .inr 24, .inr 25, .inr 26, .inr 27, .inr 28, .inr 29, .inr 30, .inr 31, .inr 32, .inr 33, .inr 34, .inr 35, .inr 36, .inr 37, .inr 38, .inr 39, .inr 40, .inr 41, .inr 42, .inr 43, .inr 44, .inr 45, .inr 46, .inr 47, .inr 48, .inr 49, .inr 50, .inr 51, .inr 52, .inr 53, .inr 54, .inr 55, .inr 56, .inr 57, .inr 58, .inr 59, .inr 60, .inr 61, .inr 62, .inr 63, .inr 64, .inr 65, .inr 66, .inr 67, .inr 68, .inr 69, .inr 70, .inr 71, .inr 72, .inr 73, .inr 74, .inr 75, .inr 76, .inr 77, .inr 78, .inr 79, .inr 80, .inr 81, .inr 82, .inr 83, .inr 84, .inr 85, .inr 86, .inr 87, .inr 88, .inr 89, .inr 90, .inr 91, .inr 92, .inr 93, .inr 94, .inr 95, .inr 96, .inr 97, .inr 98, .inr 99, .inr 100, .inl 0, .inl 1, .inl 2, .inl 3, .inl 4, .inl 5, .inl 6, .inl 7, .inl 8, .inl 9, .inl 10, .inl 11, .inl 12, .inl 13, .inl 14, .inl 15, .inl 16, .inl 17] (by decide +kernel) rfl (q0 := 101) rfl (ci := 3) rfl g_Hist_25 hd_Plan_copyFrom rfl ⟨Nat.le_of_ble_eq_true rfl, Nat.le_of_ble_eq_true rfl⟩ ⟨Nat.zero_le _, Nat.zero_le _⟩ hl rfl (Nat.le_of_ble_eq_true rfl) dX0_remember_41 (fun H locs hP hD hS => ?_)
    exact tail _ _ _ hP hD hS h

set_option maxHeartbeats 8000000 in
set_option maxRecDepth 100000 in
theorem c_Hist_recallInto (l : Launch) (K : KT) (ad bd : Nat → Nat) (hp : Nat → PlanS) (hnx hkp : Int32) (opxs opys oplo ophi : Nat → Int32) (opn opm : Int32) (F : Nat) {o : Int32 × Int32 × (Nat → Int32) × (Nat → Int32) × (Nat → Int32) × (Nat → Int32) × Int32 × Int32} (h : s_Hist_recallInto F hp hnx hkp opxs opys oplo ophi opn opm = some o) : Wr l K 3 yX0_recallInto cX0_recallInto 2 none [.ref (ad 0), .ref (bd 0)] ((wHist K ad hp hnx hkp) ++ (wPlan K bd opxs opys oplo ophi opn opm)) none ((wHist K ad hp o.1 o.2.1) ++ (wPlan K bd o.2.2.1 o.2.2.2.1 o.2.2.2.2.1 o.2.2.2.2.2.1 o.2.2.2.2.2.2.1 o.2.2.2.2.2.2.2)) := by
  refine Wr.of (by decide +kernel) (Nat.le_of_ble_eq_true rfl) ?_
  intro p e s m below meth c hx hb hr hml hown hts hlk H locs hP hG hD hS ls hl
  have hl : lv_has ls 2 [(0, .ref (ad 0)), (1, .ref (bd 0))] := hl
  have tail : ∀ (nx kp : Int32) (H : Heap) (locs : List Loc), va_P K.1 vC ((wHist K ad hp nx kp) ++ (wPlan K bd opxs opys oplo ophi opn opm)) H → va_D (adI ((wHist K ad hp hnx hkp) ++ (wPlan K bd opxs opys oplo ophi opn opm))) ((wHist K ad hp nx kp) ++ (wPlan K bd opxs opys oplo ophi opn opm)) → va_S (adI ((wHist K ad hp hnx hkp) ++ (wPlan K bd opxs opys oplo ophi opn opm))) s.heap H locs → s_Hist_back F hp nx kp opxs opys oplo ophi opn opm = some o → W p l e (rmL 3) s m (Array.mk [.ref (ad 0), .ref (bd 0)]) below meth c H locs 0 0 (MQ below (fun _ st o1 t => (o1 = .returned none ∧ va_P K.1 vC ((wHist K ad hp o.1 o.2.1) ++ (wPlan K bd o.2.2.1 o.2.2.2.1 o.2.2.2.2.1 o.2.2.2.2.2.1 o.2.2.2.2.2.2.1 o.2.2.2.2.2.2.2)) t.heap) ∧ va_F (adI ((wHist K ad hp hnx hkp) ++ (wPlan K bd opxs opys oplo ophi opn opm))) st t) (Array.mk [.ref (ad 0), .ref (bd 0)]) s 0 0 (adI ((wHist K ad hp hnx hkp) ++ (wPlan K bd opxs opys oplo ophi opn opm)))) (F0 m 36 ls []) := by
    intro nx kp H locs hP hD hS h
    unfold s_Hist_back at h
    refine lv_aload_n (pc := 36) hx hb dX0_recallInto_36 rfl (lv_at hl 0 rfl) ?_
    refine va_get (D := K.1) (ci := 0) (v := .int nx) (C := RX0) (T := TX0) (N := 3) (pc := 37) hx hb hts inT0 hown hG.1 hP 0 rfl rfl 1 (by decide) (hts _ qf_Hist_18) (fun _ h9 => h9) rfl dX0_recallInto_37 ?_
    refine lv_if_lt (tgt := 80) (pc := 40) hx hb dX0_recallInto_40 (by decide) (fun c1 => ?_) (fun c1 => ?_)
    · have h := it_t c1 h
      obtain rfl := Option.some.inj h
      exact W.vret hx hb hr (fun t ht hW => ⟨⟨rfl, by rw [ht]; exact hP⟩, hS.F ht⟩) hS.2.2 dX0_recallInto_80 hlk
    have h := it_f c1 h
    refine lv_aload_n (pc := 43) hx hb dX0_recallInto_43 rfl (lv_at hl 0 rfl) ?_
    refine va_get (D := K.1) (ci := 0) (v := .int nx) (C := RX0) (T := TX0) (N := 3) (pc := 44) hx hb hts inT0 hown hG.1 hP 0 rfl rfl 1 (by decide) (hts _ qf_Hist_18) (fun _ h9 => h9) rfl dX0_recallInto_44 ?_
    refine lv_aload_n (pc := 47) hx hb dX0_recallInto_47 rfl (lv_at hl 0 rfl) ?_
    refine va_get (D := K.1) (ci := 0) (v := .ref (ad 1)) (C := RX0) (T := TX0) (N := 3) (pc := 48) hx hb hts inT0 hown hG.1 hP 0 rfl rfl 0 (by decide) (hts _ qf_Hist_11) (fun _ h9 => h9) rfl dX0_recallInto_48 ?_
    refine va_alen (pc := 51) hx hb hG.1 hP 1 2 rfl rfl (v := (12 : Int32)) rfl dX0_recallInto_51 ?_
    refine lv_icmp_ge (tgt := 80) (pc := 52) hx hb dX0_recallInto_52 (by decide) (fun c2 => ?_) (fun c2 => ?_)
    · have h := it_t c2 h
      obtain rfl := Option.some.inj h
      exact W.vret hx hb hr (fun t ht hW => ⟨⟨rfl, by rw [ht]; exact hP⟩, hS.F ht⟩) hS.2.2 dX0_recallInto_80 hlk
    have h := it_f c2 h
    obtain ⟨v, hv, h⟩ := ob h
    obtain rfl := Option.some.inj h
    have hin : vp_in nx 12 := vin (n := 12) (by decide) c1 c2
    refine lv_aload_n (pc := 55) hx hb dX0_recallInto_55 rfl (lv_at hl 0 rfl) ?_
    refine va_get (D := K.1) (ci := 0) (v := .ref (ad 1)) (C := RX0) (T := TX0) (N := 3) (pc := 56) hx hb hts inT0 hown hG.1 hP 0 rfl rfl 0 (by decide) (hts _ qf_Hist_11) (fun _ h9 => h9) rfl dX0_recallInto_56 ?_
    refine lv_aload_n (pc := 59) hx hb dX0_recallInto_59 rfl (lv_at hl 0 rfl) ?_
    refine va_get (D := K.1) (ci := 0) (v := .int nx) (C := RX0) (T := TX0) (N := 3) (pc := 60) hx hb hts inT0 hown hG.1 hP 0 rfl rfl 1 (by decide) (hts _ qf_Hist_18) (fun _ h9 => h9) rfl dX0_recallInto_60 ?_
    refine va_aldq (pc := 63) hx hb hG.1 hP 1 2 rfl rfl hin dX0_recallInto_63 ?_
    have hj : nx.toNatClampNeg < 12 := Nat.not_le.mp fun q => hin (Or.inr q)
    generalize ej : nx.toNatClampNeg = j at hj hv ⊢
    rcases (show j = 0 ∨ j = 1 ∨ j = 2 ∨ j = 3 ∨ j = 4 ∨ j = 5 ∨ j = 6 ∨ j = 7 ∨ j = 8 ∨ j = 9 ∨ j = 10 ∨ j = 11 by omega) with rfl | rfl | rfl | rfl | rfl | rfl | rfl | rfl | rfl | rfl | rfl | rfl
    · refine W.eq (g2 := F0 m 64 ls [.ref (ad 2)]) rfl ?_
      refine lv_ifnull (pc := 64) hx hb dX0_recallInto_64 ?_
      refine lv_aload_n (pc := 67) hx hb dX0_recallInto_67 rfl (lv_at hl 1 rfl) ?_
      refine lv_aload_n (pc := 68) hx hb dX0_recallInto_68 rfl (lv_at hl 0 rfl) ?_
      refine va_get (D := K.1) (ci := 0) (v := .ref (ad 1)) (C := RX0) (T := TX0) (N := 3) (pc := 69) hx hb hts inT0 hown hG.1 hP 0 rfl rfl 0 (by decide) (hts _ qf_Hist_11) (fun _ h9 => h9) rfl dX0_recallInto_69 ?_
      refine lv_aload_n (pc := 72) hx hb dX0_recallInto_72 rfl (lv_at hl 0 rfl) ?_
      refine va_get (D := K.1) (ci := 0) (v := .int nx) (C := RX0) (T := TX0) (N := 3) (pc := 73) hx hb hts inT0 hown hG.1 hP 0 rfl rfl 1 (by decide) (hts _ qf_Hist_18) (fun _ h9 => h9) rfl dX0_recallInto_73 ?_
      refine va_aldq (pc := 76) hx hb hG.1 hP 1 2 rfl rfl hin dX0_recallInto_76 ?_
      rw [ej]
      refine W.eq (g2 := F0 m 77 ls [.ref (ad 2), .ref (bd 0)]) rfl ?_
      refine wrVv (pc := 77) (As := [.ref (ad 2)]) (rest := []) (ws2 := (wHist K ad hp nx kp) ++ (wPlan K bd v.1 v.2.1 v.2.2.1 v.2.2.2.1 v.2.2.2.2.1 v.2.2.2.2.2)) (as9 := [bd 0, bd 1, bd 2, bd 3, bd 4, bd 5, bd 6, bd 7, bd 8, ad 2, ad 3, ad 4, ad 5, ad 6, ad 7, ad 8, ad 9, ad 10]) hx hb hml hown hts hG hP hD hS (c_Plan_copyFrom l K bd (fun k => ad (k + 2)) opxs opys oplo ophi opn opm (hp 0).1 (hp 0).2.1 (hp 0).2.2.1 (hp 0).2.2.2.1 (hp 0).2.2.2.2.1 (hp 0).2.2.2.2.2 F hv) [110, 111, 112, 113, 114, 115, 116, 117, 118, 2, 3, 4, 5, 6, 7, 8, 9, 10] rfl rfl rfl rfl [.inr 0, .inr 1, .inl 9, .inl 10, .inl 11, .inl 12, .inl 13, .inl 14, .inl 15, .inl 16, .inl 17, .inr 11, .inr 12, .inr 13, .inr 14, .inr 15, .inr 16, .inr 17, .inr 18, .inr 19, .inr 20, .inr 21, .inr 22, .inr 23, .inr 24, .inr 25, .inr 26, .inr 27, .inr 28, .inr 29, .inr 30, .inr 31, .inr 32, .inr 33, .inr 34, .inr 35, .inr 36, .inr 37, .inr 38, .inr 39, .inr 40, .inr 41, .inr 42, .inr 43, .inr 44, .inr 45, .inr 46, .inr 47, .inr 48, .inr 49, .inr 50, .inr 51, .inr 52, .inr 53, .inr 54, .inr 55, .inr 56, .inr 57, .inr 58, .inr 59, .inr 60, .inr 61, .inr 62, .inr 63, .inr 64, .inr 65, .inr 66, .inr 67, .inr 68, .inr 69, .inr 70, .inr 71, .inr 72, .inr 73, .inr 74, .inr 75, .inr 76, .inr 77, .inr 78, .inr 79, .inr 80, .inr 81, .inr 82, .inr 83, .inr 84, .inr 85, .inr 86, .inr 87, .inr 88, .inr 89, .inr 90, .inr 91, .inr 92, .inr 93, .inr 94, .inr 95, .inr 96, .inr 97, .inr 98, .inr 99, .inr 100, .inr 101, .inr 102, .inr 103, .inr 104, .inr 105, .inr 106, .inr 107, .inr 108, .inr 109, .inl 0, .inl 1, .inl 2, .inl 3, .inl 4, .inl 5, .inl 6, .inl 7, .inl 8] (by decide +kernel) rfl (q0 := 110) rfl (ci := 3) rfl g_Hist_25 hd_Plan_copyFrom rfl ⟨Nat.le_of_ble_eq_true rfl, Nat.le_of_ble_eq_true rfl⟩ ⟨Nat.zero_le _, Nat.zero_le _⟩ hl rfl (Nat.le_of_ble_eq_true rfl) dX0_recallInto_77 (fun H locs hP hD hS => ?_)
      exact W.vret hx hb hr (fun t ht hW => ⟨⟨rfl, by rw [ht]; exact hP⟩, hS.F ht⟩) hS.2.2 dX0_recallInto_80 hlk
    · refine W.eq (g2 := F0 m 64 ls [.ref (ad 11)]) rfl ?_
      refine lv_ifnull (pc := 64) hx hb dX0_recallInto_64 ?_
      refine lv_aload_n (pc := 67) hx hb dX0_recallInto_67 rfl (lv_at hl 1 rfl) ?_
      refine lv_aload_n (pc := 68) hx hb dX0_recallInto_68 rfl (lv_at hl 0 rfl) ?_
      refine va_get (D := K.1) (ci := 0) (v := .ref (ad 1)) (C := RX0) (T := TX0) (N := 3) (pc := 69) hx hb hts inT0 hown hG.1 hP 0 rfl rfl 0 (by decide) (hts _ qf_Hist_11) (fun _ h9 => h9) rfl dX0_recallInto_69 ?_
      refine lv_aload_n (pc := 72) hx hb dX0_recallInto_72 rfl (lv_at hl 0 rfl) ?_
      refine va_get (D := K.1) (ci := 0) (v := .int nx) (C := RX0) (T := TX0) (N := 3) (pc := 73) hx hb hts inT0 hown hG.1 hP 0 rfl rfl 1 (by decide) (hts _ qf_Hist_18) (fun _ h9 => h9) rfl dX0_recallInto_73 ?_
      refine va_aldq (pc := 76) hx hb hG.1 hP 1 2 rfl rfl hin dX0_recallInto_76 ?_
      rw [ej]
      refine W.eq (g2 := F0 m 77 ls [.ref (ad 11), .ref (bd 0)]) rfl ?_
      refine wrVv (pc := 77) (As := [.ref (ad 11)]) (rest := []) (ws2 := (wHist K ad hp nx kp) ++ (wPlan K bd v.1 v.2.1 v.2.2.1 v.2.2.2.1 v.2.2.2.2.1 v.2.2.2.2.2)) (as9 := [bd 0, bd 1, bd 2, bd 3, bd 4, bd 5, bd 6, bd 7, bd 8, ad 11, ad 12, ad 13, ad 14, ad 15, ad 16, ad 17, ad 18, ad 19]) hx hb hml hown hts hG hP hD hS (c_Plan_copyFrom l K bd (fun k => ad (k + 11)) opxs opys oplo ophi opn opm (hp 1).1 (hp 1).2.1 (hp 1).2.2.1 (hp 1).2.2.2.1 (hp 1).2.2.2.2.1 (hp 1).2.2.2.2.2 F hv) [110, 111, 112, 113, 114, 115, 116, 117, 118, 11, 12, 13, 14, 15, 16, 17, 18, 19] rfl rfl rfl rfl [.inr 0, .inr 1, .inr 2, .inr 3, .inr 4, .inr 5, .inr 6, .inr 7, .inr 8, .inr 9, .inr 10, .inl 9, .inl 10, .inl 11, .inl 12, .inl 13, .inl 14, .inl 15, .inl 16, .inl 17, .inr 20, .inr 21, .inr 22, .inr 23, .inr 24, .inr 25, .inr 26, .inr 27, .inr 28, .inr 29, .inr 30, .inr 31, .inr 32, .inr 33, .inr 34, .inr 35, .inr 36, .inr 37, .inr 38, .inr 39, .inr 40, .inr 41, .inr 42, .inr 43, .inr 44, .inr 45, .inr 46, .inr 47, .inr 48, .inr 49, .inr 50, .inr 51, .inr 52, .inr 53, .inr 54, .inr 55, .inr 56, .inr 57, .inr 58, .inr 59, .inr 60, .inr 61, .inr 62, .inr 63, .inr 64, .inr 65, .inr 66, .inr 67, .inr 68, .inr 69, .inr 70, .inr 71, .inr 72, .inr 73, .inr 74, .inr 75, .inr 76, .inr 77, .inr 78, .inr 79, .inr 80, .inr 81, .inr 82, .inr 83, .inr 84, .inr 85, .inr 86, .inr 87, .inr 88, .inr 89, .inr 90, .inr 91, .inr 92, .inr 93, .inr 94, .inr 95, .inr 96, .inr 97, .inr 98, .inr 99, .inr 100, .inr 101, .inr 102, .inr 103, .inr 104, .inr 105, .inr 106, .inr 107, .inr 108, .inr 109, .inl 0, .inl 1, .inl 2, .inl 3, .inl 4, .inl 5, .inl 6, .inl 7, .inl 8] (by decide +kernel) rfl (q0 := 110) rfl (ci := 3) rfl g_Hist_25 hd_Plan_copyFrom rfl ⟨Nat.le_of_ble_eq_true rfl, Nat.le_of_ble_eq_true rfl⟩ ⟨Nat.zero_le _, Nat.zero_le _⟩ hl rfl (Nat.le_of_ble_eq_true rfl) dX0_recallInto_77 (fun H locs hP hD hS => ?_)
      exact W.vret hx hb hr (fun t ht hW => ⟨⟨rfl, by rw [ht]; exact hP⟩, hS.F ht⟩) hS.2.2 dX0_recallInto_80 hlk
    · refine W.eq (g2 := F0 m 64 ls [.ref (ad 20)]) rfl ?_
      refine lv_ifnull (pc := 64) hx hb dX0_recallInto_64 ?_
      refine lv_aload_n (pc := 67) hx hb dX0_recallInto_67 rfl (lv_at hl 1 rfl) ?_
      refine lv_aload_n (pc := 68) hx hb dX0_recallInto_68 rfl (lv_at hl 0 rfl) ?_
      refine va_get (D := K.1) (ci := 0) (v := .ref (ad 1)) (C := RX0) (T := TX0) (N := 3) (pc := 69) hx hb hts inT0 hown hG.1 hP 0 rfl rfl 0 (by decide) (hts _ qf_Hist_11) (fun _ h9 => h9) rfl dX0_recallInto_69 ?_
      refine lv_aload_n (pc := 72) hx hb dX0_recallInto_72 rfl (lv_at hl 0 rfl) ?_
      refine va_get (D := K.1) (ci := 0) (v := .int nx) (C := RX0) (T := TX0) (N := 3) (pc := 73) hx hb hts inT0 hown hG.1 hP 0 rfl rfl 1 (by decide) (hts _ qf_Hist_18) (fun _ h9 => h9) rfl dX0_recallInto_73 ?_
      refine va_aldq (pc := 76) hx hb hG.1 hP 1 2 rfl rfl hin dX0_recallInto_76 ?_
      rw [ej]
      refine W.eq (g2 := F0 m 77 ls [.ref (ad 20), .ref (bd 0)]) rfl ?_
      refine wrVv (pc := 77) (As := [.ref (ad 20)]) (rest := []) (ws2 := (wHist K ad hp nx kp) ++ (wPlan K bd v.1 v.2.1 v.2.2.1 v.2.2.2.1 v.2.2.2.2.1 v.2.2.2.2.2)) (as9 := [bd 0, bd 1, bd 2, bd 3, bd 4, bd 5, bd 6, bd 7, bd 8, ad 20, ad 21, ad 22, ad 23, ad 24, ad 25, ad 26, ad 27, ad 28]) hx hb hml hown hts hG hP hD hS (c_Plan_copyFrom l K bd (fun k => ad (k + 20)) opxs opys oplo ophi opn opm (hp 2).1 (hp 2).2.1 (hp 2).2.2.1 (hp 2).2.2.2.1 (hp 2).2.2.2.2.1 (hp 2).2.2.2.2.2 F hv) [110, 111, 112, 113, 114, 115, 116, 117, 118, 20, 21, 22, 23, 24, 25, 26, 27, 28] rfl rfl rfl rfl [.inr 0, .inr 1, .inr 2, .inr 3, .inr 4, .inr 5, .inr 6, .inr 7, .inr 8, .inr 9, .inr 10, .inr 11, .inr 12, .inr 13, .inr 14, .inr 15, .inr 16, .inr 17, .inr 18, .inr 19, .inl 9, .inl 10, .inl 11, .inl 12, .inl 13, .inl 14, .inl 15, .inl 16, .inl 17, .inr 29, .inr 30, .inr 31, .inr 32, .inr 33, .inr 34, .inr 35, .inr 36, .inr 37, .inr 38, .inr 39, .inr 40, .inr 41, .inr 42, .inr 43, .inr 44, .inr 45, .inr 46, .inr 47, .inr 48, .inr 49, .inr 50, .inr 51, .inr 52, .inr 53, .inr 54, .inr 55, .inr 56, .inr 57, .inr 58, .inr 59, .inr 60, .inr 61, .inr 62, .inr 63, .inr 64, .inr 65, .inr 66, .inr 67, .inr 68, .inr 69, .inr 70, .inr 71, .inr 72, .inr 73, .inr 74, .inr 75, .inr 76, .inr 77, .inr 78, .inr 79, .inr 80, .inr 81, .inr 82, .inr 83, .inr 84, .inr 85, .inr 86, .inr 87, .inr 88, .inr 89, .inr 90, .inr 91, .inr 92, .inr 93, .inr 94, .inr 95, .inr 96, .inr 97, .inr 98, .inr 99, .inr 100, .inr 101, .inr 102, .inr 103, .inr 104, .inr 105, .inr 106, .inr 107, .inr 108, .inr 109, .inl 0, .inl 1, .inl 2, .inl 3, .inl 4, .inl 5, .inl 6, .inl 7, .inl 8] (by decide +kernel) rfl (q0 := 110) rfl (ci := 3) rfl g_Hist_25 hd_Plan_copyFrom rfl ⟨Nat.le_of_ble_eq_true rfl, Nat.le_of_ble_eq_true rfl⟩ ⟨Nat.zero_le _, Nat.zero_le _⟩ hl rfl (Nat.le_of_ble_eq_true rfl) dX0_recallInto_77 (fun H locs hP hD hS => ?_)
      exact W.vret hx hb hr (fun t ht hW => ⟨⟨rfl, by rw [ht]; exact hP⟩, hS.F ht⟩) hS.2.2 dX0_recallInto_80 hlk
    · refine W.eq (g2 := F0 m 64 ls [.ref (ad 29)]) rfl ?_
      refine lv_ifnull (pc := 64) hx hb dX0_recallInto_64 ?_
      refine lv_aload_n (pc := 67) hx hb dX0_recallInto_67 rfl (lv_at hl 1 rfl) ?_
      refine lv_aload_n (pc := 68) hx hb dX0_recallInto_68 rfl (lv_at hl 0 rfl) ?_
      refine va_get (D := K.1) (ci := 0) (v := .ref (ad 1)) (C := RX0) (T := TX0) (N := 3) (pc := 69) hx hb hts inT0 hown hG.1 hP 0 rfl rfl 0 (by decide) (hts _ qf_Hist_11) (fun _ h9 => h9) rfl dX0_recallInto_69 ?_
      refine lv_aload_n (pc := 72) hx hb dX0_recallInto_72 rfl (lv_at hl 0 rfl) ?_
      refine va_get (D := K.1) (ci := 0) (v := .int nx) (C := RX0) (T := TX0) (N := 3) (pc := 73) hx hb hts inT0 hown hG.1 hP 0 rfl rfl 1 (by decide) (hts _ qf_Hist_18) (fun _ h9 => h9) rfl dX0_recallInto_73 ?_
      refine va_aldq (pc := 76) hx hb hG.1 hP 1 2 rfl rfl hin dX0_recallInto_76 ?_
      rw [ej]
      refine W.eq (g2 := F0 m 77 ls [.ref (ad 29), .ref (bd 0)]) rfl ?_
      refine wrVv (pc := 77) (As := [.ref (ad 29)]) (rest := []) (ws2 := (wHist K ad hp nx kp) ++ (wPlan K bd v.1 v.2.1 v.2.2.1 v.2.2.2.1 v.2.2.2.2.1 v.2.2.2.2.2)) (as9 := [bd 0, bd 1, bd 2, bd 3, bd 4, bd 5, bd 6, bd 7, bd 8, ad 29, ad 30, ad 31, ad 32, ad 33, ad 34, ad 35, ad 36, ad 37]) hx hb hml hown hts hG hP hD hS (c_Plan_copyFrom l K bd (fun k => ad (k + 29)) opxs opys oplo ophi opn opm (hp 3).1 (hp 3).2.1 (hp 3).2.2.1 (hp 3).2.2.2.1 (hp 3).2.2.2.2.1 (hp 3).2.2.2.2.2 F hv) [110, 111, 112, 113, 114, 115, 116, 117, 118, 29, 30, 31, 32, 33, 34, 35, 36, 37] rfl rfl rfl rfl [.inr 0, .inr 1, .inr 2, .inr 3, .inr 4, .inr 5, .inr 6, .inr 7, .inr 8, .inr 9, .inr 10, .inr 11, .inr 12, .inr 13, .inr 14, .inr 15, .inr 16, .inr 17, .inr 18, .inr 19, .inr 20, .inr 21, .inr 22, .inr 23, .inr 24, .inr 25, .inr 26, .inr 27, .inr 28, .inl 9, .inl 10, .inl 11, .inl 12, .inl 13, .inl 14, .inl 15, .inl 16, .inl 17, .inr 38, .inr 39, .inr 40, .inr 41, .inr 42, .inr 43, .inr 44, .inr 45, .inr 46, .inr 47, .inr 48, .inr 49, .inr 50, .inr 51, .inr 52, .inr 53, .inr 54, .inr 55, .inr 56, .inr 57, .inr 58, .inr 59, .inr 60, .inr 61, .inr 62, .inr 63, .inr 64, .inr 65, .inr 66, .inr 67, .inr 68, .inr 69, .inr 70, .inr 71, .inr 72, .inr 73, .inr 74, .inr 75, .inr 76, .inr 77, .inr 78, .inr 79, .inr 80, .inr 81, .inr 82, .inr 83, .inr 84, .inr 85, .inr 86, .inr 87, .inr 88, .inr 89, .inr 90, .inr 91, .inr 92, .inr 93, .inr 94, .inr 95, .inr 96, .inr 97, .inr 98, .inr 99, .inr 100, .inr 101, .inr 102, .inr 103, .inr 104, .inr 105, .inr 106, .inr 107, .inr 108, .inr 109, .inl 0, .inl 1, .inl 2, .inl 3, .inl 4, .inl 5, .inl 6, .inl 7, .inl 8] (by decide +kernel) rfl (q0 := 110) rfl (ci := 3) rfl g_Hist_25 hd_Plan_copyFrom rfl ⟨Nat.le_of_ble_eq_true rfl, Nat.le_of_ble_eq_true rfl⟩ ⟨Nat.zero_le _, Nat.zero_le _⟩ hl rfl (Nat.le_of_ble_eq_true rfl) dX0_recallInto_77 (fun H locs hP hD hS => ?_)
      exact W.vret hx hb hr (fun t ht hW => ⟨⟨rfl, by rw [ht]; exact hP⟩, hS.F ht⟩) hS.2.2 dX0_recallInto_80 hlk
    · refine W.eq (g2 := F0 m 64 ls [.ref (ad 38)]) rfl ?_
      refine lv_ifnull (pc := 64) hx hb dX0_recallInto_64 ?_
      refine lv_aload_n (pc := 67) hx hb dX0_recallInto_67 rfl (lv_at hl 1 rfl) ?_
      refine lv_aload_n (pc := 68) hx hb dX0_recallInto_68 rfl (lv_at hl 0 rfl) ?_
      refine va_get (D := K.1) (ci := 0) (v := .ref (ad 1)) (C := RX0) (T := TX0) (N := 3) (pc := 69) hx hb hts inT0 hown hG.1 hP 0 rfl rfl 0 (by decide) (hts _ qf_Hist_11) (fun _ h9 => h9) rfl dX0_recallInto_69 ?_
      refine lv_aload_n (pc := 72) hx hb dX0_recallInto_72 rfl (lv_at hl 0 rfl) ?_
      refine va_get (D := K.1) (ci := 0) (v := .int nx) (C := RX0) (T := TX0) (N := 3) (pc := 73) hx hb hts inT0 hown hG.1 hP 0 rfl rfl 1 (by decide) (hts _ qf_Hist_18) (fun _ h9 => h9) rfl dX0_recallInto_73 ?_
      refine va_aldq (pc := 76) hx hb hG.1 hP 1 2 rfl rfl hin dX0_recallInto_76 ?_
      rw [ej]
      refine W.eq (g2 := F0 m 77 ls [.ref (ad 38), .ref (bd 0)]) rfl ?_
      refine wrVv (pc := 77) (As := [.ref (ad 38)]) (rest := []) (ws2 := (wHist K ad hp nx kp) ++ (wPlan K bd v.1 v.2.1 v.2.2.1 v.2.2.2.1 v.2.2.2.2.1 v.2.2.2.2.2)) (as9 := [bd 0, bd 1, bd 2, bd 3, bd 4, bd 5, bd 6, bd 7, bd 8, ad 38, ad 39, ad 40, ad 41, ad 42, ad 43, ad 44, ad 45, ad 46]) hx hb hml hown hts hG hP hD hS (c_Plan_copyFrom l K bd (fun k => ad (k + 38)) opxs opys oplo ophi opn opm (hp 4).1 (hp 4).2.1 (hp 4).2.2.1 (hp 4).2.2.2.1 (hp 4).2.2.2.2.1 (hp 4).2.2.2.2.2 F hv) [110, 111, 112, 113, 114, 115, 116, 117, 118, 38, 39, 40, 41, 42, 43, 44, 45, 46] rfl rfl rfl rfl [.inr 0, .inr 1, .inr 2, .inr 3, .inr 4, .inr 5, .inr 6, .inr 7, .inr 8, .inr 9, .inr 10, .inr 11, .inr 12, .inr 13, .inr 14, .inr 15, .inr 16, .inr 17, .inr 18, .inr 19, .inr 20, .inr 21, .inr 22, .inr 23, .inr 24, .inr 25, .inr 26, .inr 27, .inr 28, .inr 29, .inr 30, .inr 31, .inr 32, .inr 33, .inr 34, .inr 35, .inr 36, .inr 37, .inl 9, .inl 10, .inl 11, .inl 12, .inl 13, .inl 14, .inl 15, .inl 16, .inl 17, .inr 47, .inr 48, .inr 49, .inr 50, .inr 51, .inr 52, .inr 53, .inr 54, .inr 55, .inr 56, .inr 57, .inr 58, .inr 59, .inr 60, .inr 61, .inr 62, .inr 63, .inr 64, .inr 65, .inr 66, .inr 67, .inr 68, .inr 69, .inr 70, .inr 71, .inr 72, .inr 73, .inr 74, .inr 75, .inr 76, .inr 77, .inr 78, .inr 79, .inr 80, .inr 81, .inr 82, .inr 83, .inr 84, .inr 85, .inr 86, .inr 87, .inr 88, .inr 89, .inr 90, .inr 91, .inr 92, .inr 93, .inr 94, .inr 95, .inr 96, .inr 97, .inr 98, .inr 99, .inr 100, .inr 101, .inr 102, .inr 103, .inr 104, .inr 105, .inr 106, .inr 107, .inr 108, .inr 109, .inl 0, .inl 1, .inl 2, .inl 3, .inl 4, .inl 5, .inl 6, .inl 7, .inl 8] (by decide +kernel) rfl (q0 := 110) rfl (ci := 3) rfl g_Hist_25 hd_Plan_copyFrom rfl ⟨Nat.le_of_ble_eq_true rfl, Nat.le_of_ble_eq_true rfl⟩ ⟨Nat.zero_le _, Nat.zero_le _⟩ hl rfl (Nat.le_of_ble_eq_true rfl) dX0_recallInto_77 (fun H locs hP hD hS => ?_)
      exact W.vret hx hb hr (fun t ht hW => ⟨⟨rfl, by rw [ht]; exact hP⟩, hS.F ht⟩) hS.2.2 dX0_recallInto_80 hlk
    · refine W.eq (g2 := F0 m 64 ls [.ref (ad 47)]) rfl ?_
      refine lv_ifnull (pc := 64) hx hb dX0_recallInto_64 ?_
      refine lv_aload_n (pc := 67) hx hb dX0_recallInto_67 rfl (lv_at hl 1 rfl) ?_
      refine lv_aload_n (pc := 68) hx hb dX0_recallInto_68 rfl (lv_at hl 0 rfl) ?_
      refine va_get (D := K.1) (ci := 0) (v := .ref (ad 1)) (C := RX0) (T := TX0) (N := 3) (pc := 69) hx hb hts inT0 hown hG.1 hP 0 rfl rfl 0 (by decide) (hts _ qf_Hist_11) (fun _ h9 => h9) rfl dX0_recallInto_69 ?_
      refine lv_aload_n (pc := 72) hx hb dX0_recallInto_72 rfl (lv_at hl 0 rfl) ?_
      refine va_get (D := K.1) (ci := 0) (v := .int nx) (C := RX0) (T := TX0) (N := 3) (pc := 73) hx hb hts inT0 hown hG.1 hP 0 rfl rfl 1 (by decide) (hts _ qf_Hist_18) (fun _ h9 => h9) rfl dX0_recallInto_73 ?_
      refine va_aldq (pc := 76) hx hb hG.1 hP 1 2 rfl rfl hin dX0_recallInto_76 ?_
      rw [ej]
      refine W.eq (g2 := F0 m 77 ls [.ref (ad 47), .ref (bd 0)]) rfl ?_
      refine wrVv (pc := 77) (As := [.ref (ad 47)]) (rest := []) (ws2 := (wHist K ad hp nx kp) ++ (wPlan K bd v.1 v.2.1 v.2.2.1 v.2.2.2.1 v.2.2.2.2.1 v.2.2.2.2.2)) (as9 := [bd 0, bd 1, bd 2, bd 3, bd 4, bd 5, bd 6, bd 7, bd 8, ad 47, ad 48, ad 49, ad 50, ad 51, ad 52, ad 53, ad 54, ad 55]) hx hb hml hown hts hG hP hD hS (c_Plan_copyFrom l K bd (fun k => ad (k + 47)) opxs opys oplo ophi opn opm (hp 5).1 (hp 5).2.1 (hp 5).2.2.1 (hp 5).2.2.2.1 (hp 5).2.2.2.2.1 (hp 5).2.2.2.2.2 F hv) [110, 111, 112, 113, 114, 115, 116, 117, 118, 47, 48, 49, 50, 51, 52, 53, 54, 55] rfl rfl rfl rfl [.inr 0, .inr 1, .inr 2, .inr 3, .inr 4, .inr 5, .inr 6, .inr 7, .inr 8, .inr 9, .inr 10, .inr 11, .inr 12, .inr 13, .inr 14, .inr 15, .inr 16, .inr 17, .inr 18, .inr 19, .inr 20, .inr 21, .inr 22, .inr 23, .inr 24, .inr 25, .inr 26, .inr 27, .inr 28, .inr 29, .inr 30, .inr 31, .inr 32, .inr 33, .inr 34, .inr 35, .inr 36, .inr 37, .inr 38, .inr 39, .inr 40, .inr 41, .inr 42, .inr 43, .inr 44, .inr 45, .inr 46, .inl 9, .inl 10, .inl 11, .inl 12, .inl 13, .inl 14, .inl 15, .inl 16, .inl 17, .inr 56, .inr 57, .inr 58, .inr 59, .inr 60, .inr 61, .inr 62, .inr 63, .inr 64, .inr 65, .inr 66, .inr 67, .inr 68, .inr 69, .inr 70, .inr 71, .inr 72, .inr 73, .inr 74, .inr 75, .inr 76, .inr 77, .inr 78, .inr 79, .inr 80, .inr 81, .inr 82, .inr 83, .inr 84, .inr 85, .inr 86, .inr 87, .inr 88, .inr 89, .inr 90, .inr 91, .inr 92, .inr 93, .inr 94, .inr 95, .inr 96, .inr 97, .inr 98, .inr 99, .inr 100, .inr 101, .inr 102, .inr 103, .inr 104, .inr 105, .inr 106, .inr 107, .inr 108, .inr 109, .inl 0, .inl 1, .inl 2, .inl 3, .inl 4, .inl 5, .inl 6, .inl 7, .inl 8] (by decide +kernel) rfl (q0 := 110) rfl (ci := 3) rfl g_Hist_25 hd_Plan_copyFrom rfl ⟨Nat.le_of_ble_eq_true rfl, Nat.le_of_ble_eq_true rfl⟩ ⟨Nat.zero_le _, Nat.zero_le _⟩ hl rfl (Nat.le_of_ble_eq_true rfl) dX0_recallInto_77 (fun H locs hP hD hS => ?_)
      exact W.vret hx hb hr (fun t ht hW => ⟨⟨rfl, by rw [ht]; exact hP⟩, hS.F ht⟩) hS.2.2 dX0_recallInto_80 hlk
    · refine W.eq (g2 := F0 m 64 ls [.ref (ad 56)]) rfl ?_
      refine lv_ifnull (pc := 64) hx hb dX0_recallInto_64 ?_
      refine lv_aload_n (pc := 67) hx hb dX0_recallInto_67 rfl (lv_at hl 1 rfl) ?_
      refine lv_aload_n (pc := 68) hx hb dX0_recallInto_68 rfl (lv_at hl 0 rfl) ?_
      refine va_get (D := K.1) (ci := 0) (v := .ref (ad 1)) (C := RX0) (T := TX0) (N := 3) (pc := 69) hx hb hts inT0 hown hG.1 hP 0 rfl rfl 0 (by decide) (hts _ qf_Hist_11) (fun _ h9 => h9) rfl dX0_recallInto_69 ?_
      refine lv_aload_n (pc := 72) hx hb dX0_recallInto_72 rfl (lv_at hl 0 rfl) ?_
      refine va_get (D := K.1) (ci := 0) (v := .int nx) (C := RX0) (T := TX0) (N := 3) (pc := 73) hx hb hts inT0 hown hG.1 hP 0 rfl rfl 1 (by decide) (hts _ qf_Hist_18) (fun _ h9 => h9) rfl dX0_recallInto_73 ?_
      refine va_aldq (pc := 76) hx hb hG.1 hP 1 2 rfl rfl hin dX0_recallInto_76 ?_
      rw [ej]
      refine W.eq (g2 := F0 m 77 ls [.ref (ad 56), .ref (bd 0)]) rfl ?_
      refine wrVv (pc := 77) (As := [.ref (ad 56)]) (rest := []) (ws2 := (wHist K ad hp nx kp) ++ (wPlan K bd v.1 v.2.1 v.2.2.1 v.2.2.2.1 v.2.2.2.2.1 v.2.2.2.2.2)) (as9 := [bd 0, bd 1, bd 2, bd 3, bd 4, bd 5, bd 6, bd 7, bd 8, ad 56, ad 57, ad 58, ad 59, ad 60, ad 61, ad 62, ad 63, ad 64]) hx hb hml hown hts hG hP hD hS (c_Plan_copyFrom l K bd (fun k => ad (k + 56)) opxs opys oplo ophi opn opm (hp 6).1 (hp 6).2.1 (hp 6).2.2.1 (hp 6).2.2.2.1 (hp 6).2.2.2.2.1 (hp 6).2.2.2.2.2 F hv) [110, 111, 112, 113, 114, 115, 116, 117, 118, 56, 57, 58, 59, 60, 61, 62, 63, 64] rfl rfl rfl rfl [.inr 0, .inr 1, .inr 2, .inr 3, .inr 4, .inr 5, .inr 6, .inr 7, .inr 8, .inr 9, .inr 10, .inr 11, .inr 12, .inr 13, .inr 14, .inr 15, .inr 16, .inr 17, .inr 18, .inr 19, .inr 20, .inr 21, .inr 22, .inr 23, .inr 24, .inr 25, .inr 26, .inr 27, .inr 28, .inr 29, .inr 30, .inr 31, .inr 32, .inr 33, .inr 34, .inr 35, .inr 36, .inr 37, .inr 38, .inr 39, .inr 40, .inr 41, .inr 42, .inr 43, .inr 44, .inr 45, .inr 46, .inr 47, .inr 48, .inr 49, .inr 50, .inr 51, .inr 52, .inr 53, .inr 54, .inr 55, .inl 9, .inl 10, .inl 11, .inl 12, .inl 13, .inl 14, .inl 15, .inl 16, .inl 17, .inr 65, .inr 66, .inr 67, .inr 68, .inr 69, .inr 70, .inr 71, .inr 72, .inr 73, .inr 74, .inr 75, .inr 76, .inr 77, .inr 78, .inr 79, .inr 80, .inr 81, .inr 82, .inr 83, .inr 84, .inr 85, .inr 86, .inr 87, .inr 88, .inr 89, .inr 90, .inr 91, .inr 92, .inr 93, .inr 94, .inr 95, .inr 96, .inr 97, .inr 98, .inr 99, .inr 100, .inr 101, .inr 102, .inr 103, .inr 104, .inr 105, .inr 106, .inr 107, .inr 108, .inr 109, .inl 0, .inl 1, .inl 2, .inl 3, .inl 4, .inl 5, .inl 6, .inl 7, .inl 8] (by decide +kernel) rfl (q0 := 110) rfl (ci := 3) rfl g_Hist_25 hd_Plan_copyFrom rfl ⟨Nat.le_of_ble_eq_true rfl, Nat.le_of_ble_eq_true rfl⟩ ⟨Nat.zero_le _, Nat.zero_le _⟩ hl rfl (Nat.le_of_ble_eq_true rfl) dX0_recallInto_77 (fun H locs hP hD hS => ?_)
      exact W.vret hx hb hr (fun t ht hW => ⟨⟨rfl, by rw [ht]; exact hP⟩, hS.F ht⟩) hS.2.2 dX0_recallInto_80 hlk
    · refine W.eq (g2 := F0 m 64 ls [.ref (ad 65)]) rfl ?_
      refine lv_ifnull (pc := 64) hx hb dX0_recallInto_64 ?_
      refine lv_aload_n (pc := 67) hx hb dX0_recallInto_67 rfl (lv_at hl 1 rfl) ?_
      refine lv_aload_n (pc := 68) hx hb dX0_recallInto_68 rfl (lv_at hl 0 rfl) ?_
      refine va_get (D := K.1) (ci := 0) (v := .ref (ad 1)) (C := RX0) (T := TX0) (N := 3) (pc := 69) hx hb hts inT0 hown hG.1 hP 0 rfl rfl 0 (by decide) (hts _ qf_Hist_11) (fun _ h9 => h9) rfl dX0_recallInto_69 ?_
      refine lv_aload_n (pc := 72) hx hb dX0_recallInto_72 rfl (lv_at hl 0 rfl) ?_
      refine va_get (D := K.1) (ci := 0) (v := .int nx) (C := RX0) (T := TX0) (N := 3) (pc := 73) hx hb hts inT0 hown hG.1 hP 0 rfl rfl 1 (by decide) (hts _ qf_Hist_18) (fun _ h9 => h9) rfl dX0_recallInto_73 ?_
      refine va_aldq (pc := 76) hx hb hG.1 hP 1 2 rfl rfl hin dX0_recallInto_76 ?_
      rw [ej]
      refine W.eq (g2 := F0 m 77 ls [.ref (ad 65), .ref (bd 0)]) rfl ?_
      refine wrVv (pc := 77) (As := [.ref (ad 65)]) (rest := []) (ws2 := (wHist K ad hp nx kp) ++ (wPlan K bd v.1 v.2.1 v.2.2.1 v.2.2.2.1 v.2.2.2.2.1 v.2.2.2.2.2)) (as9 := [bd 0, bd 1, bd 2, bd 3, bd 4, bd 5, bd 6, bd 7, bd 8, ad 65, ad 66, ad 67, ad 68, ad 69, ad 70, ad 71, ad 72, ad 73]) hx hb hml hown hts hG hP hD hS (c_Plan_copyFrom l K bd (fun k => ad (k + 65)) opxs opys oplo ophi opn opm (hp 7).1 (hp 7).2.1 (hp 7).2.2.1 (hp 7).2.2.2.1 (hp 7).2.2.2.2.1 (hp 7).2.2.2.2.2 F hv) [110, 111, 112, 113, 114, 115, 116, 117, 118, 65, 66, 67, 68, 69, 70, 71, 72, 73] rfl rfl rfl rfl [.inr 0, .inr 1, .inr 2, .inr 3, .inr 4, .inr 5, .inr 6, .inr 7, .inr 8, .inr 9, .inr 10, .inr 11, .inr 12, .inr 13, .inr 14, .inr 15, .inr 16, .inr 17, .inr 18, .inr 19, .inr 20, .inr 21, .inr 22, .inr 23, .inr 24, .inr 25, .inr 26, .inr 27, .inr 28, .inr 29, .inr 30, .inr 31, .inr 32, .inr 33, .inr 34, .inr 35, .inr 36, .inr 37, .inr 38, .inr 39, .inr 40, .inr 41, .inr 42, .inr 43, .inr 44, .inr 45, .inr 46, .inr 47, .inr 48, .inr 49, .inr 50, .inr 51, .inr 52, .inr 53, .inr 54, .inr 55, .inr 56, .inr 57, .inr 58, .inr 59, .inr 60, .inr 61, .inr 62, .inr 63, .inr 64, .inl 9, .inl 10, .inl 11, .inl 12, .inl 13, .inl 14, .inl 15, .inl 16, .inl 17, .inr 74, .inr 75, .inr 76, .inr 77, .inr 78, .inr 79, .inr 80, .inr 81, .inr 82, .inr 83, .inr 84, .inr 85, .inr 86, .inr 87, .inr 88, .inr 89, .inr 90, .inr 91, .inr 92, .inr 93, .inr 94, .inr 95, .inr 96, .inr 97, .inr 98, .inr 99, .inr 100, .inr 101, .inr 102, .inr 103, .inr 104, .inr 105, .inr 106, .inr 107, .inr 108, .inr 109, .inl 0, .inl 1, .inl 2, .inl 3, .inl 4, .inl 5, .inl 6, .inl 7, .inl 8] (by decide +kernel) rfl (q0 := 110) rfl (ci := 3) rfl g_Hist_25 hd_Plan_copyFrom rfl ⟨Nat.le_of_ble_eq_true rfl, Nat.le_of_ble_eq_true rfl⟩ ⟨Nat.zero_le _, Nat.zero_le _⟩ hl rfl (Nat.le_of_ble_eq_true rfl) dX0_recallInto_77 (fun H locs hP hD hS => ?_)
      exact W.vret hx hb hr (fun t ht hW => ⟨⟨rfl, by rw [ht]; exact hP⟩, hS.F ht⟩) hS.2.2 dX0_recallInto_80 hlk
    · refine W.eq (g2 := F0 m 64 ls [.ref (ad 74)]) rfl ?_
      refine lv_ifnull (pc := 64) hx hb dX0_recallInto_64 ?_
      refine lv_aload_n (pc := 67) hx hb dX0_recallInto_67 rfl (lv_at hl 1 rfl) ?_
      refine lv_aload_n (pc := 68) hx hb dX0_recallInto_68 rfl (lv_at hl 0 rfl) ?_
      refine va_get (D := K.1) (ci := 0) (v := .ref (ad 1)) (C := RX0) (T := TX0) (N := 3) (pc := 69) hx hb hts inT0 hown hG.1 hP 0 rfl rfl 0 (by decide) (hts _ qf_Hist_11) (fun _ h9 => h9) rfl dX0_recallInto_69 ?_
      refine lv_aload_n (pc := 72) hx hb dX0_recallInto_72 rfl (lv_at hl 0 rfl) ?_
      refine va_get (D := K.1) (ci := 0) (v := .int nx) (C := RX0) (T := TX0) (N := 3) (pc := 73) hx hb hts inT0 hown hG.1 hP 0 rfl rfl 1 (by decide) (hts _ qf_Hist_18) (fun _ h9 => h9) rfl dX0_recallInto_73 ?_
      refine va_aldq (pc := 76) hx hb hG.1 hP 1 2 rfl rfl hin dX0_recallInto_76 ?_
      rw [ej]
      refine W.eq (g2 := F0 m 77 ls [.ref (ad 74), .ref (bd 0)]) rfl ?_
      refine wrVv (pc := 77) (As := [.ref (ad 74)]) (rest := []) (ws2 := (wHist K ad hp nx kp) ++ (wPlan K bd v.1 v.2.1 v.2.2.1 v.2.2.2.1 v.2.2.2.2.1 v.2.2.2.2.2)) (as9 := [bd 0, bd 1, bd 2, bd 3, bd 4, bd 5, bd 6, bd 7, bd 8, ad 74, ad 75, ad 76, ad 77, ad 78, ad 79, ad 80, ad 81, ad 82]) hx hb hml hown hts hG hP hD hS (c_Plan_copyFrom l K bd (fun k => ad (k + 74)) opxs opys oplo ophi opn opm (hp 8).1 (hp 8).2.1 (hp 8).2.2.1 (hp 8).2.2.2.1 (hp 8).2.2.2.2.1 (hp 8).2.2.2.2.2 F hv) [110, 111, 112, 113, 114, 115, 116, 117, 118, 74, 75, 76, 77, 78, 79, 80, 81, 82] rfl rfl rfl rfl [.inr 0, .inr 1, .inr 2, .inr 3, .inr 4, .inr 5, .inr 6, .inr 7, .inr 8, .inr 9, .inr 10, .inr 11, .inr 12, .inr 13, .inr 14, .inr 15, .inr 16, .inr 17, .inr 18, .inr 19, .inr 20, .inr 21, .inr 22, .inr 23, .inr 24, .inr 25, .inr 26, .inr 27, .inr 28, .inr 29, .inr 30, .inr 31, .inr 32, .inr 33, .inr 34, .inr 35, .inr 36, .inr 37, .inr 38, .inr 39, .inr 40, .inr 41, .inr 42, .inr 43, .inr 44, .inr 45, .inr 46, .inr 47, .inr 48, .inr 49, .inr 50, .inr 51, .inr 52, .inr 53, .inr 54, .inr 55, .inr 56, .inr 57, .inr 58, .inr 59, .inr 60, .inr 61, .inr 62, .inr 63, .inr 64, .inr 65, .inr 66, .inr 67, .inr 68, .inr 69, .inr 70, .inr 71, .inr 72, .inr 73, .inl 9, .inl 10, .inl 11, .inl 12, .inl 13, .inl 14, .inl 15, .inl 16, .inl 17, .inr 83, .inr 84, .inr 85, .inr 86, .inr 87, .inr 88, .inr 89, .inr 90, .inr 91, .inr 92, .inr 93, .inr 94, .inr 95, .inr 96, .inr 97, .inr 98, .inr 99, .inr 100, .inr 101, .inr 102, .inr 103, .inr 104, .inr 105, .inr 106, .inr 107, .inr 108, .inr 109, .inl 0, .inl 1, .inl 2, .inl 3, .inl 4, .inl 5, .inl 6, .inl 7, .inl 8] (by decide +kernel) rfl (q0 := 110) rfl (ci := 3) rfl g_Hist_25 hd_Plan_copyFrom rfl ⟨Nat.le_of_ble_eq_true rfl, Nat.le_of_ble_eq_true rfl⟩ ⟨Nat.zero_le _, Nat.zero_le _⟩ hl rfl (Nat.le_of_ble_eq_true rfl) dX0_recallInto_77 (fun H locs hP hD hS => ?_)
      exact W.vret hx hb hr (fun t ht hW => ⟨⟨rfl, by rw [ht]; exact hP⟩, hS.F ht⟩) hS.2.2 dX0_recallInto_80 hlk
    · refine W.eq (g2 := F0 m 64 ls [.ref (ad 83)]) rfl ?_
      refine lv_ifnull (pc := 64) hx hb dX0_recallInto_64 ?_
      refine lv_aload_n (pc := 67) hx hb dX0_recallInto_67 rfl (lv_at hl 1 rfl) ?_
      refine lv_aload_n (pc := 68) hx hb dX0_recallInto_68 rfl (lv_at hl 0 rfl) ?_
      refine va_get (D := K.1) (ci := 0) (v := .ref (ad 1)) (C := RX0) (T := TX0) (N := 3) (pc := 69) hx hb hts inT0 hown hG.1 hP 0 rfl rfl 0 (by decide) (hts _ qf_Hist_11) (fun _ h9 => h9) rfl dX0_recallInto_69 ?_
      refine lv_aload_n (pc := 72) hx hb dX0_recallInto_72 rfl (lv_at hl 0 rfl) ?_
      refine va_get (D := K.1) (ci := 0) (v := .int nx) (C := RX0) (T := TX0) (N := 3) (pc := 73) hx hb hts inT0 hown hG.1 hP 0 rfl rfl 1 (by decide) (hts _ qf_Hist_18) (fun _ h9 => h9) rfl dX0_recallInto_73 ?_
      refine va_aldq (pc := 76) hx hb hG.1 hP 1 2 rfl rfl hin dX0_recallInto_76 ?_
      rw [ej]
      refine W.eq (g2 := F0 m 77 ls [.ref (ad 83), .ref (bd 0)]) rfl ?_
      refine wrVv (pc := 77) (As := [.ref (ad 83)]) (rest := []) (ws2 := (wHist K ad hp nx kp) ++ (wPlan K bd v.1 v.2.1 v.2.2.1 v.2.2.2.1 v.2.2.2.2.1 v.2.2.2.2.2)) (as9 := [bd 0, bd 1, bd 2, bd 3, bd 4, bd 5, bd 6, bd 7, bd 8, ad 83, ad 84, ad 85, ad 86, ad 87, ad 88, ad 89, ad 90, ad 91]) hx hb hml hown hts hG hP hD hS (c_Plan_copyFrom l K bd (fun k => ad (k + 83)) opxs opys oplo ophi opn opm (hp 9).1 (hp 9).2.1 (hp 9).2.2.1 (hp 9).2.2.2.1 (hp 9).2.2.2.2.1 (hp 9).2.2.2.2.2 F hv) [110, 111, 112, 113, 114, 115, 116, 117, 118, 83, 84, 85, 86, 87, 88, 89, 90, 91] rfl rfl rfl rfl [.inr 0, .inr 1, .inr 2, .inr 3, .inr 4, .inr 5, .inr 6, .inr 7, .inr 8, .inr 9, .inr 10, .inr 11, .inr 12, .inr 13, .inr 14, .inr 15, .inr 16, .inr 17, .inr 18, .inr 19, .inr 20, .inr 21, .inr 22, .inr 23, .inr 24, .inr 25, .inr 26, .inr 27, .inr 28, .inr 29, .inr 30, .inr 31, .inr 32, .inr 33, .inr 34, .inr 35, .inr 36, .inr 37, .inr 38, .inr 39, .inr 40, .inr 41, .inr 42, .inr 43, .inr 44, .inr 45, .inr 46, .inr 47, .inr 48, .inr 49, .inr 50, .inr 51, .inr 52, .inr 53, .inr 54, .inr 55, .inr 56, .inr 57, .inr 58, .inr 59, .inr 60, .inr 61, .inr 62, .inr 63, .inr 64, .inr 65, .inr 66, .inr 67, .inr 68, .inr 69, .inr 70, .inr 71, .inr 72, .inr 73, .inr 74, .inr 75, .inr 76, .inr 77, .inr 78, .inr 79, .inr 80, .inr 81, .inr 82, .inl 9, .inl 10, .inl 11, .inl 12, .inl 13, .inl 14, .inl 15, .inl 16, .inl 17, .inr 92, .inr 93, .inr 94, .inr 95, .inr 96, .inr 97, .inr 98, .inr 99, .inr 100, .inr 101, .inr 102, .inr 103, .inr 104, .inr 105, .inr 106, .inr 107, .inr 108, .inr 109, .inl 0, .inl 1, .inl 2, .inl 3, .inl 4, .inl 5, .inl 6, .inl 7, .inl 8] (by decide +kernel) rfl (q0 := 110) rfl (ci := 3) rfl g_Hist_25 hd_Plan_copyFrom rfl ⟨Nat.le_of_ble_eq_true rfl, Nat.le_of_ble_eq_true rfl⟩ ⟨Nat.zero_le _, Nat.zero_le _⟩ hl rfl (Nat.le_of_ble_eq_true rfl) dX0_recallInto_77 (fun H locs hP hD hS => ?_)
      exact W.vret hx hb hr (fun t ht hW => ⟨⟨rfl, by rw [ht]; exact hP⟩, hS.F ht⟩) hS.2.2 dX0_recallInto_80 hlk
    · refine W.eq (g2 := F0 m 64 ls [.ref (ad 92)]) rfl ?_
      refine lv_ifnull (pc := 64) hx hb dX0_recallInto_64 ?_
      refine lv_aload_n (pc := 67) hx hb dX0_recallInto_67 rfl (lv_at hl 1 rfl) ?_
      refine lv_aload_n (pc := 68) hx hb dX0_recallInto_68 rfl (lv_at hl 0 rfl) ?_
      refine va_get (D := K.1) (ci := 0) (v := .ref (ad 1)) (C := RX0) (T := TX0) (N := 3) (pc := 69) hx hb hts inT0 hown hG.1 hP 0 rfl rfl 0 (by decide) (hts _ qf_Hist_11) (fun _ h9 => h9) rfl dX0_recallInto_69 ?_
      refine lv_aload_n (pc := 72) hx hb dX0_recallInto_72 rfl (lv_at hl 0 rfl) ?_
      refine va_get (D := K.1) (ci := 0) (v := .int nx) (C := RX0) (T := TX0) (N := 3) (pc := 73) hx hb hts inT0 hown hG.1 hP 0 rfl rfl 1 (by decide) (hts _ qf_Hist_18) (fun _ h9 => h9) rfl dX0_recallInto_73 ?_
      refine va_aldq (pc := 76) hx hb hG.1 hP 1 2 rfl rfl hin dX0_recallInto_76 ?_
      rw [ej]
      refine W.eq (g2 := F0 m 77 ls [.ref (ad 92), .ref (bd 0)]) rfl ?_
      refine wrVv (pc := 77) (As := [.ref (ad 92)]) (rest := []) (ws2 := (wHist K ad hp nx kp) ++ (wPlan K bd v.1 v.2.1 v.2.2.1 v.2.2.2.1 v.2.2.2.2.1 v.2.2.2.2.2)) (as9 := [bd 0, bd 1, bd 2, bd 3, bd 4, bd 5, bd 6, bd 7, bd 8, ad 92, ad 93, ad 94, ad 95, ad 96, ad 97, ad 98, ad 99, ad 100]) hx hb hml hown hts hG hP hD hS (c_Plan_copyFrom l K bd (fun k => ad (k + 92)) opxs opys oplo ophi opn opm (hp 10).1 (hp 10).2.1 (hp 10).2.2.1 (hp 10).2.2.2.1 (hp 10).2.2.2.2.1 (hp 10).2.2.2.2.2 F hv) [110, 111, 112, 113, 114, 115, 116, 117, 118, 92, 93, 94, 95, 96, 97, 98, 99, 100] rfl rfl rfl rfl [.inr 0, .inr 1, .inr 2, .inr 3, .inr 4, .inr 5, .inr 6, .inr 7, .inr 8, .inr 9, .inr 10, .inr 11, .inr 12, .inr 13, .inr 14, .inr 15, .inr 16, .inr 17, .inr 18, .inr 19, .inr 20, .inr 21, .inr 22, .inr 23, .inr 24, .inr 25, .inr 26, .inr 27, .inr 28, .inr 29, .inr 30, .inr 31, .inr 32, .inr 33, .inr 34, .inr 35, .inr 36, .inr 37, .inr 38, .inr 39, .inr 40, .inr 41, .inr 42, .inr 43, .inr 44, .inr 45, .inr 46, .inr 47, .inr 48, .inr 49, .inr 50, .inr 51, .inr 52, .inr 53, .inr 54, .inr 55, .inr 56, .inr 57, .inr 58, .inr 59, .inr 60, .inr 61, .inr 62, .inr 63, .inr 64, .inr 65, .inr 66, .inr 67, .inr 68, .inr 69, .inr 70, .inr 71, .inr 72, .inr 73, .inr 74, .inr 75, .inr 76, .inr 77, .inr 78, .inr 79, .inr 80, .inr 81, .inr 82, .inr 83, .inr 84, .inr 85, .inr 86, .inr 87, .inr 88, .inr 89, .inr 90, .inr 91, .inl 9, .inl 10, .inl 11, .inl 12, .inl 13, .inl 14, .inl 15, .inl 16, .inl 17, .inr 101, .inr 102, .inr 103, .inr 104, .inr 105, .inr 106, .inr 107, .inr 108, .inr 109, .inl 0, .inl 1, .inl 2, .inl 3, .inl 4, .inl 5, .inl 6, .inl 7, .inl 8] (by decide +kernel) rfl (q0 := 110) rfl (ci := 3) rfl g_Hist_25 hd_Plan_copyFrom rfl ⟨Nat.le_of_ble_eq_true rfl, Nat.le_of_ble_eq_true rfl⟩ ⟨Nat.zero_le _, Nat.zero_le _⟩ hl rfl (Nat.le_of_ble_eq_true rfl) dX0_recallInto_77 (fun H locs hP hD hS => ?_)
      exact W.vret hx hb hr (fun t ht hW => ⟨⟨rfl, by rw [ht]; exact hP⟩, hS.F ht⟩) hS.2.2 dX0_recallInto_80 hlk
    · refine W.eq (g2 := F0 m 64 ls [.ref (ad 101)]) rfl ?_
      refine lv_ifnull (pc := 64) hx hb dX0_recallInto_64 ?_
      refine lv_aload_n (pc := 67) hx hb dX0_recallInto_67 rfl (lv_at hl 1 rfl) ?_
      refine lv_aload_n (pc := 68) hx hb dX0_recallInto_68 rfl (lv_at hl 0 rfl) ?_
      refine va_get (D := K.1) (ci := 0) (v := .ref (ad 1)) (C := RX0) (T := TX0) (N := 3) (pc := 69) hx hb hts inT0 hown hG.1 hP 0 rfl rfl 0 (by decide) (hts _ qf_Hist_11) (fun _ h9 => h9) rfl dX0_recallInto_69 ?_
      refine lv_aload_n (pc := 72) hx hb dX0_recallInto_72 rfl (lv_at hl 0 rfl) ?_
      refine va_get (D := K.1) (ci := 0) (v := .int nx) (C := RX0) (T := TX0) (N := 3) (pc := 73) hx hb hts inT0 hown hG.1 hP 0 rfl rfl 1 (by decide) (hts _ qf_Hist_18) (fun _ h9 => h9) rfl dX0_recallInto_73 ?_
      refine va_aldq (pc := 76) hx hb hG.1 hP 1 2 rfl rfl hin dX0_recallInto_76 ?_
      rw [ej]
      refine W.eq (g2 := F0 m 77 ls [.ref (ad 101), .ref (bd 0)]) rfl ?_
      refine wrVv (pc := 77) (As := [.ref (ad 101)]) (rest := []) (ws2 := (wHist K ad hp nx kp) ++ (wPlan K bd v.1 v.2.1 v.2.2.1 v.2.2.2.1 v.2.2.2.2.1 v.2.2.2.2.2)) (as9 := [bd 0, bd 1, bd 2, bd 3, bd 4, bd 5, bd 6, bd 7, bd 8, ad 101, ad 102, ad 103, ad 104, ad 105, ad 106, ad 107, ad 108, ad 109]) hx hb hml hown hts hG hP hD hS (c_Plan_copyFrom l K bd (fun k => ad (k + 101)) opxs opys oplo ophi opn opm (hp 11).1 (hp 11).2.1 (hp 11).2.2.1 (hp 11).2.2.2.1 (hp 11).2.2.2.2.1 (hp 11).2.2.2.2.2 F hv) [110, 111, 112, 113, 114, 115, 116, 117, 118, 101, 102, 103, 104, 105, 106, 107, 108, 109] rfl rfl rfl rfl [.inr 0, .inr 1, .inr 2, .inr 3, .inr 4, .inr 5, .inr 6, .inr 7, .inr 8, .inr 9, .inr 10, .inr 11, .inr 12, .inr 13, .inr 14, .inr 15, .inr 16, .inr 17, .inr 18, .inr 19, .inr 20, .inr 21, .inr 22, .inr 23, .inr 24, .inr 25, .inr 26, .inr 27, .inr 28, .inr 29, .inr 30, .inr 31, .inr 32, .inr 33, .inr 34, .inr 35, .inr 36, .inr 37, .inr 38, .inr 39, .inr 40, .inr 41, .inr 42, .inr 43, .inr 44, .inr 45, .inr 46, .inr 47, .inr 48, .inr 49, .inr 50, .inr 51, .inr 52, .inr 53, .inr 54, .inr 55, .inr 56, .inr 57, .inr 58, .inr 59, .inr 60, .inr 61, .inr 62, .inr 63, .inr 64, .inr 65, .inr 66, .inr 67, .inr 68, .inr 69, .inr 70, .inr 71, .inr 72, .inr 73, .inr 74, .inr 75, .inr 76, .inr 77, .inr 78, .inr 79, .inr 80, .inr 81, .inr 82, .inr 83, .inr 84, .inr 85, .inr 86, .inr 87, .inr 88, .inr 89, .inr 90, .inr 91, .inr 92, .inr 93, .inr 94, .inr 95, .inr 96, .inr 97, .inr 98, .inr 99, .inr 100, .inl 9, .inl 10, .inl 11, .inl 12, .inl 13, .inl 14, .inl 15, .inl 16, .inl 17, .inl 0, .inl 1, .inl 2, .inl 3, .inl 4, .inl 5, .inl 6, .inl 7, .inl 8] (by decide +kernel) rfl (q0 := 110) rfl (ci := 3) rfl g_Hist_25 hd_Plan_copyFrom rfl ⟨Nat.le_of_ble_eq_true rfl, Nat.le_of_ble_eq_true rfl⟩ ⟨Nat.zero_le _, Nat.zero_le _⟩ hl rfl (Nat.le_of_ble_eq_true rfl) dX0_recallInto_77 (fun H locs hP hD hS => ?_)
      exact W.vret hx hb hr (fun t ht hW => ⟨⟨rfl, by rw [ht]; exact hP⟩, hS.F ht⟩) hS.2.2 dX0_recallInto_80 hlk
  unfold s_Hist_recallInto at h
  refine lv_aload_n (pc := 0) hx hb dX0_recallInto_0 rfl (lv_at hl 0 rfl) ?_
  refine lv_aload_n (pc := 1) hx hb dX0_recallInto_1 rfl (lv_at hl 0 rfl) ?_
  refine va_get (D := K.1) (ci := 0) (v := .int hnx) (C := RX0) (T := TX0) (N := 3) (pc := 2) hx hb hts inT0 hown hG.1 hP 0 rfl rfl 1 (by decide) (hts _ qf_Hist_18) (fun _ h9 => h9) rfl dX0_recallInto_2 ?_
  refine lv_if_le (tgt := 17) (pc := 5) hx hb dX0_recallInto_5 (by decide) (fun c1 => ?_) (fun c1 => ?_)
  · rw [if_pos c1] at h
    refine lv_bipush (v := (11 : Int32)) (pc := 17) hx hb dX0_recallInto_17 (by decide) ?_
    refine va_put (D := K.1) (ci := 0) (v := .int (11 : Int32)) (ty := .int) (C := RX0) (T := TX0) (N := 3) (pc := 19) hx hb hts inT0 tyX0 tyX0_ok nmX0 hown hG.1 hP hD hS 0 rfl rfl 1 (by decide) (hts _ qf_Hist_18) (fun _ h9 => h9) rfl (by decide +kernel) rfl rfl (Nat.le_of_ble_eq_true rfl) dX0_recallInto_19 (fun H locs hP hD hS => ?_)
    have hP : va_P K.1 vC ((wHist K ad hp (11 : Int32) hkp) ++ (wPlan K bd opxs opys oplo ophi opn opm)) H := hP
    have hD : va_D _ ((wHist K ad hp (11 : Int32) hkp) ++ (wPlan K bd opxs opys oplo ophi opn opm)) := hD
    refine lv_aload_n (pc := 22) hx hb dX0_recallInto_22 rfl (lv_at hl 0 rfl) ?_
    refine lv_aload_n (pc := 23) hx hb dX0_recallInto_23 rfl (lv_at hl 0 rfl) ?_
    refine va_get (D := K.1) (ci := 0) (v := .int hkp) (C := RX0) (T := TX0) (N := 3) (pc := 24) hx hb hts inT0 hown hG.1 hP 0 rfl rfl 2 (by decide) (hts _ qf_Hist_22) (fun _ h9 => h9) rfl dX0_recallInto_24 ?_
    refine lv_iconst (v := (1 : Int32)) (pc := 27) hx hb dX0_recallInto_27 (by decide) ?_
    refine lv_isub (pc := 28) hx hb dX0_recallInto_28 ?_
    refine lv_iconst (v := (0 : Int32)) (pc := 29) hx hb dX0_recallInto_29 (by decide) ?_
    refine my_mmax (pc := 30) hx hb hml hl.1 hown hts qm_Hist_35 (Nat.le_of_ble_eq_true rfl) (Nat.le_of_ble_eq_true rfl) ⟨Nat.zero_le _, Nat.zero_le _⟩ dX0_recallInto_30 ?_
    refine va_put (D := K.1) (ci := 0) (v := .int (imax (hkp - (1 : Int32)) 0)) (ty := .int) (C := RX0) (T := TX0) (N := 3) (pc := 33) hx hb hts inT0 tyX0 tyX0_ok nmX0 hown hG.1 hP hD hS 0 rfl rfl 2 (by decide) (hts _ qf_Hist_22) (fun _ h9 => h9) rfl (by decide +kernel) rfl rfl (Nat.le_of_ble_eq_true rfl) dX0_recallInto_33 (fun H locs hP hD hS => ?_)
    have hP : va_P K.1 vC ((wHist K ad hp (11 : Int32) (imax (hkp - (1 : Int32)) 0)) ++ (wPlan K bd opxs opys oplo ophi opn opm)) H := hP
    have hD : va_D _ ((wHist K ad hp (11 : Int32) (imax (hkp - (1 : Int32)) 0)) ++ (wPlan K bd opxs opys oplo ophi opn opm)) := hD
    exact tail _ _ _ _ hP hD hS h
  · rw [if_neg c1] at h
    refine lv_aload_n (pc := 8) hx hb dX0_recallInto_8 rfl (lv_at hl 0 rfl) ?_
    refine va_get (D := K.1) (ci := 0) (v := .int hnx) (C := RX0) (T := TX0) (N := 3) (pc := 9) hx hb hts inT0 hown hG.1 hP 0 rfl rfl 1 (by decide) (hts _ qf_Hist_18) (fun _ h9 => h9) rfl dX0_recallInto_9 ?_
    refine lv_iconst (v := (1 : Int32)) (pc := 12) hx hb dX0_recallInto_12 (by decide) ?_
    refine lv_isub (pc := 13) hx hb dX0_recallInto_13 ?_
    refine lv_goto (tgt := 19) (pc := 14) hx hb dX0_recallInto_14 (by decide) ?_
    refine va_put (D := K.1) (ci := 0) (v := .int (hnx - (1 : Int32))) (ty := .int) (C := RX0) (T := TX0) (N := 3) (pc := 19) hx hb hts inT0 tyX0 tyX0_ok nmX0 hown hG.1 hP hD hS 0 rfl rfl 1 (by decide) (hts _ qf_Hist_18) (fun _ h9 => h9) rfl (by decide +kernel) rfl rfl (Nat.le_of_ble_eq_true rfl) dX0_recallInto_19 (fun H locs hP hD hS => ?_)
    have hP : va_P K.1 vC ((wHist K ad hp (hnx - (1 : Int32)) hkp) ++ (wPlan K bd opxs opys oplo ophi opn opm)) H := hP
    have hD : va_D _ ((wHist K ad hp (hnx - (1 : Int32)) hkp) ++ (wPlan K bd opxs opys oplo ophi opn opm)) := hD
    refine lv_aload_n (pc := 22) hx hb dX0_recallInto_22 rfl (lv_at hl 0 rfl) ?_
    refine lv_aload_n (pc := 23) hx hb dX0_recallInto_23 rfl (lv_at hl 0 rfl) ?_
    refine va_get (D := K.1) (ci := 0) (v := .int hkp) (C := RX0) (T := TX0) (N := 3) (pc := 24) hx hb hts inT0 hown hG.1 hP 0 rfl rfl 2 (by decide) (hts _ qf_Hist_22) (fun _ h9 => h9) rfl dX0_recallInto_24 ?_
    refine lv_iconst (v := (1 : Int32)) (pc := 27) hx hb dX0_recallInto_27 (by decide) ?_
    refine lv_isub (pc := 28) hx hb dX0_recallInto_28 ?_
    refine lv_iconst (v := (0 : Int32)) (pc := 29) hx hb dX0_recallInto_29 (by decide) ?_
    refine my_mmax (pc := 30) hx hb hml hl.1 hown hts qm_Hist_35 (Nat.le_of_ble_eq_true rfl) (Nat.le_of_ble_eq_true rfl) ⟨Nat.zero_le _, Nat.zero_le _⟩ dX0_recallInto_30 ?_
    refine va_put (D := K.1) (ci := 0) (v := .int (imax (hkp - (1 : Int32)) 0)) (ty := .int) (C := RX0) (T := TX0) (N := 3) (pc := 33) hx hb hts inT0 tyX0 tyX0_ok nmX0 hown hG.1 hP hD hS 0 rfl rfl 2 (by decide) (hts _ qf_Hist_22) (fun _ h9 => h9) rfl (by decide +kernel) rfl rfl (Nat.le_of_ble_eq_true rfl) dX0_recallInto_33 (fun H locs hP hD hS => ?_)
    have hP : va_P K.1 vC ((wHist K ad hp (hnx - (1 : Int32)) (imax (hkp - (1 : Int32)) 0)) ++ (wPlan K bd opxs opys oplo ophi opn opm)) H := hP
    have hD : va_D _ ((wHist K ad hp (hnx - (1 : Int32)) (imax (hkp - (1 : Int32)) 0)) ++ (wPlan K bd opxs opys oplo ophi opn opm)) := hD
    exact tail _ _ _ _ hP hD hS h
