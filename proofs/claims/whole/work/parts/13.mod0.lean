set_option maxHeartbeats 4000000 in
set_option maxRecDepth 100000 in
theorem c_Mod_thrown (l : Launch) (K : KT) (ad : Nat → Nat) (mthr : Int32) (mnow : Nat → Int32) (mold : Nat → Int32) (mols : Int32) (msav : Nat → Int32) (miss : Bool) (minp : Nat → Int32) (mlen : Int32) (mat : Int32) (medg : Nat → Int32) (mcor : Nat → Int32) (mtri : Int32) (mkep : Nat → Int32) (mkee : Nat → Int32) (mwor : Nat → Int32) (mnum : Nat → Int32) (mmet : Nat → Int32) : Rd l K 0 yX7_thrown cX7_thrown 1 .int [.ref (ad 0)] (wMod K ad mthr mnow mold mols msav miss minp mlen mat medg mcor mtri mkep mkee mwor mnum mmet) (s_Mod_thrown mthr) := by
  generalize h : s_Mod_thrown mthr = o
  refine Rd.of (by decide +kernel) (Nat.le_of_ble_eq_true rfl) ?_
  unfold s_Mod_thrown at h
  intro p e s m below meth c hx hb hr hml hown hts hlk hP hG ls hl
  have C0 : Ctx p m c cX7_thrown 1 s (Array.mk [.ref (ad 0)]) RX7 K meth (some .int) := ⟨hx, hb, hml, hown, hts, hG, hr, hlk⟩
  have hl : lv_has ls 1 [(0, .ref (ad 0))] := hl
  refine lv_aload_n (pc := 0) hx hb dX7_thrown_0 rfl (lv_at hl 0 rfl) ?_
  refine va_get (D := K.1) (ci := 7) (v := .int mthr) (C := RX7) (T := TX7) (N := 17) (pc := 1) hx hb hts inT7 hown hG.1 hP 0 rfl rfl 0 (by decide) (hts _ qf_Mod_44) (fun _ h9 => h9) rfl dX7_thrown_1 ?_
  subst h
  exact W.iret hx hb hr (fun t ht hW => ⟨rfl, ht⟩) (fun q hq => absurd hq List.not_mem_nil) dX7_thrown_4 hlk
set_option maxHeartbeats 4000000 in
set_option maxRecDepth 100000 in
theorem c_Mod_in (l : Launch) (K : KT) (a0 : Int32) (a1 : Int32) (a2 : Int32) : Rd l K 0 yX7_in cX7_in 3 .boolean [.int a0, .int a1, .int a2] ([]) (bI (s_Mod_in a0 a1 a2)) := by
  generalize h : s_Mod_in a0 a1 a2 = o
  refine Rd.of (by decide +kernel) (Nat.le_of_ble_eq_true rfl) ?_
  unfold s_Mod_in at h
  intro p e s m below meth c hx hb hr hml hown hts hlk hP hG ls hl
  have C0 : Ctx p m c cX7_in 3 s (Array.mk [.int a0, .int a1, .int a2]) RX7 K meth (some .boolean) := ⟨hx, hb, hml, hown, hts, hG, hr, hlk⟩
  have hl : lv_has ls 3 [(0, .int a0), (1, .int a1), (2, .int a2)] := hl
  refine lv_iload_n (pc := 0) hx hb dX7_in_0 rfl (lv_at hl 0 rfl) ?_
  refine lv_iload_n (pc := 1) hx hb dX7_in_1 rfl (lv_at hl 1 rfl) ?_
  refine lv_icmp_lt (tgt := 14) (pc := 2) hx hb dX7_in_2 (by decide) (fun c1 => ?_) (fun c1 => ?_)
  · have h := it_t c1 h
    refine lv_iconst (v := (0 : Int32)) (pc := 14) hx hb dX7_in_14 (by decide) ?_
    subst h
    exact W.zret hx hb hr (rfl) (fun t ht hW => ⟨rfl, ht⟩) (fun q hq => absurd hq List.not_mem_nil) dX7_in_15 hlk
  · have h := it_f c1 h
    refine lv_iload_n (pc := 5) hx hb dX7_in_5 rfl (lv_at hl 0 rfl) ?_
    refine lv_iload_n (pc := 6) hx hb dX7_in_6 rfl (lv_at hl 2 rfl) ?_
    refine lv_icmp_gt (tgt := 14) (pc := 7) hx hb dX7_in_7 (by decide) (fun c2 => ?_) (fun c2 => ?_)
    · have h := it_t c2 h
      refine lv_iconst (v := (0 : Int32)) (pc := 14) hx hb dX7_in_14 (by decide) ?_
      subst h
      exact W.zret hx hb hr (rfl) (fun t ht hW => ⟨rfl, ht⟩) (fun q hq => absurd hq List.not_mem_nil) dX7_in_15 hlk
    · have h := it_f c2 h
      refine lv_iconst (v := (1 : Int32)) (pc := 10) hx hb dX7_in_10 (by decide) ?_
      refine lv_goto (tgt := 15) (pc := 11) hx hb dX7_in_11 (by decide) ?_
      subst h
      exact W.zret hx hb hr (rfl) (fun t ht hW => ⟨rfl, ht⟩) (fun q hq => absurd hq List.not_mem_nil) dX7_in_15 hlk
set_option maxHeartbeats 4000000 in
set_option maxRecDepth 100000 in
theorem c_Mod_raises (l : Launch) (K : KT) (ad : Nat → Nat) (mthr : Int32) (mnow : Nat → Int32) (mold : Nat → Int32) (mols : Int32) (msav : Nat → Int32) (miss : Bool) (minp : Nat → Int32) (mlen : Int32) (mat : Int32) (medg : Nat → Int32) (mcor : Nat → Int32) (mtri : Int32) (mkep : Nat → Int32) (mkee : Nat → Int32) (mwor : Nat → Int32) (mnum : Nat → Int32) (mmet : Nat → Int32) (a0 : Int32) : Wr l K 0 yX7_raises cX7_raises 2 (some .int) [.ref (ad 0), .int a0] (wMod K ad mthr mnow mold mols msav miss minp mlen mat medg mcor mtri mkep mkee mwor mnum mmet) (some (.int ((s_Mod_raises a0).1))) (wMod K ad ((s_Mod_raises a0).2) mnow mold mols msav miss minp mlen mat medg mcor mtri mkep mkee mwor mnum mmet) := by
  generalize h : s_Mod_raises a0 = o
  refine Wr.of (by decide +kernel) (Nat.le_of_ble_eq_true rfl) ?_
  unfold s_Mod_raises at h
  intro p e s m below meth c hx hb hr hml hown hts hlk H locs hP hG hD hS ls hl
  have C0 : Ctx p m c cX7_raises 2 s (Array.mk [.ref (ad 0), .int a0]) RX7 K meth (some .int) := ⟨hx, hb, hml, hown, hts, hG, hr, hlk⟩
  have hl : lv_has ls 2 [(0, .ref (ad 0)), (1, .int a0)] := hl
  refine lv_aload_n (pc := 0) hx hb dX7_raises_0 rfl (lv_at hl 0 rfl) ?_
  refine lv_iload_n (pc := 1) hx hb dX7_raises_1 rfl (lv_at hl 1 rfl) ?_
  refine va_put (D := K.1) (ci := 7) (v := .int a0) (ty := .int) (C := RX7) (T := TX7) (N := 17) (pc := 2) hx hb hts inT7 tyX7 tyX7_ok nmX7 hown hG.1 hP hD hS 0 rfl rfl 0 (by decide) (hts _ qf_Mod_44) (fun _ h9 => h9) rfl (by decide +kernel) rfl rfl (Nat.le_of_ble_eq_true rfl) dX7_raises_2 (fun H locs hP hD hS => ?_)
  have hP : va_P K.1 vC (wMod K ad a0 mnow mold mols msav miss minp mlen mat medg mcor mtri mkep mkee mwor mnum mmet) H := hP
  have hD : va_D _ (wMod K ad a0 mnow mold mols msav miss minp mlen mat medg mcor mtri mkep mkee mwor mnum mmet) := hD
  refine lv_iconst (v := (0 : Int32)) (pc := 5) hx hb dX7_raises_5 (by decide) ?_
  subst h
  exact W.iret hx hb hr (fun t ht hW => ⟨⟨rfl, by rw [ht]; exact hP⟩, hS.F ht⟩) hS.2.2 dX7_raises_6 hlk
set_option maxHeartbeats 4000000 in
set_option maxRecDepth 100000 in
theorem c_Mod_n (l : Launch) (K : KT) (ad : Nat → Nat) (mthr : Int32) (mnow : Nat → Int32) (mold : Nat → Int32) (mols : Int32) (msav : Nat → Int32) (miss : Bool) (minp : Nat → Int32) (mlen : Int32) (mat : Int32) (medg : Nat → Int32) (mcor : Nat → Int32) (mtri : Int32) (mkep : Nat → Int32) (mkee : Nat → Int32) (mwor : Nat → Int32) (mnum : Nat → Int32) (mmet : Nat → Int32) {o : Int32} (h : s_Mod_n mnow = some o) : Rd l K 0 yX7_n cX7_n 1 .int [.ref (ad 0)] (wMod K ad mthr mnow mold mols msav miss minp mlen mat medg mcor mtri mkep mkee mwor mnum mmet) o := by
  refine Rd.of (by decide +kernel) (Nat.le_of_ble_eq_true rfl) ?_
  unfold s_Mod_n at h
  intro p e s m below meth c hx hb hr hml hown hts hlk hP hG ls hl
  have C0 : Ctx p m c cX7_n 1 s (Array.mk [.ref (ad 0)]) RX7 K meth (some .int) := ⟨hx, hb, hml, hown, hts, hG, hr, hlk⟩
  have hl : lv_has ls 1 [(0, .ref (ad 0))] := hl
  refine lv_aload_n (pc := 0) hx hb dX7_n_0 rfl (lv_at hl 0 rfl) ?_
  refine va_get (D := K.1) (ci := 7) (v := .ref (ad 1)) (C := RX7) (T := TX7) (N := 17) (pc := 1) hx hb hts inT7 hown hG.1 hP 0 rfl rfl 1 (by decide) (hts _ qf_Mod_9) (fun _ h9 => h9) rfl dX7_n_1 ?_
  refine lv_iconst (v := (0 : Int32)) (pc := 4) hx hb dX7_n_4 (by decide) ?_
  obtain ⟨v1, h_v1, h⟩ := ob h
  obtain ⟨hi_v1, e_v1⟩ := aget_in h_v1
  refine va_iald (pc := 5) hx hb hG.1 hP 1 0 rfl rfl hi_v1 dX7_n_5 ?_
  rw [e_v1]
  obtain rfl := Option.some.inj h
  exact W.iret hx hb hr (fun t ht hW => ⟨rfl, ht⟩) (fun q hq => absurd hq List.not_mem_nil) dX7_n_6 hlk
set_option maxHeartbeats 4000000 in
set_option maxRecDepth 100000 in
theorem c_Mod_m (l : Launch) (K : KT) (ad : Nat → Nat) (mthr : Int32) (mnow : Nat → Int32) (mold : Nat → Int32) (mols : Int32) (msav : Nat → Int32) (miss : Bool) (minp : Nat → Int32) (mlen : Int32) (mat : Int32) (medg : Nat → Int32) (mcor : Nat → Int32) (mtri : Int32) (mkep : Nat → Int32) (mkee : Nat → Int32) (mwor : Nat → Int32) (mnum : Nat → Int32) (mmet : Nat → Int32) {o : Int32} (h : s_Mod_m mnow = some o) : Rd l K 0 yX7_m cX7_m 1 .int [.ref (ad 0)] (wMod K ad mthr mnow mold mols msav miss minp mlen mat medg mcor mtri mkep mkee mwor mnum mmet) o := by
  refine Rd.of (by decide +kernel) (Nat.le_of_ble_eq_true rfl) ?_
  unfold s_Mod_m at h
  intro p e s m below meth c hx hb hr hml hown hts hlk hP hG ls hl
  have C0 : Ctx p m c cX7_m 1 s (Array.mk [.ref (ad 0)]) RX7 K meth (some .int) := ⟨hx, hb, hml, hown, hts, hG, hr, hlk⟩
  have hl : lv_has ls 1 [(0, .ref (ad 0))] := hl
  refine lv_aload_n (pc := 0) hx hb dX7_m_0 rfl (lv_at hl 0 rfl) ?_
  refine va_get (D := K.1) (ci := 7) (v := .ref (ad 1)) (C := RX7) (T := TX7) (N := 17) (pc := 1) hx hb hts inT7 hown hG.1 hP 0 rfl rfl 1 (by decide) (hts _ qf_Mod_9) (fun _ h9 => h9) rfl dX7_m_1 ?_
  refine lv_iconst (v := (1 : Int32)) (pc := 4) hx hb dX7_m_4 (by decide) ?_
  obtain ⟨v1, h_v1, h⟩ := ob h
  obtain ⟨hi_v1, e_v1⟩ := aget_in h_v1
  refine va_iald (pc := 5) hx hb hG.1 hP 1 0 rfl rfl hi_v1 dX7_m_5 ?_
  rw [e_v1]
  obtain rfl := Option.some.inj h
  exact W.iret hx hb hr (fun t ht hW => ⟨rfl, ht⟩) (fun q hq => absurd hq List.not_mem_nil) dX7_m_6 hlk
set_option maxHeartbeats 4000000 in
set_option maxRecDepth 100000 in
theorem c_Mod_x (l : Launch) (K : KT) (ad : Nat → Nat) (mthr : Int32) (mnow : Nat → Int32) (mold : Nat → Int32) (mols : Int32) (msav : Nat → Int32) (miss : Bool) (minp : Nat → Int32) (mlen : Int32) (mat : Int32) (medg : Nat → Int32) (mcor : Nat → Int32) (mtri : Int32) (mkep : Nat → Int32) (mkee : Nat → Int32) (mwor : Nat → Int32) (mnum : Nat → Int32) (mmet : Nat → Int32) (a0 : Int32) {o : Int32} (h : s_Mod_x mnow a0 = some o) : Rd l K 0 yX7_x cX7_x 2 .int [.ref (ad 0), .int a0] (wMod K ad mthr mnow mold mols msav miss minp mlen mat medg mcor mtri mkep mkee mwor mnum mmet) o := by
  refine Rd.of (by decide +kernel) (Nat.le_of_ble_eq_true rfl) ?_
  unfold s_Mod_x at h
  intro p e s m below meth c hx hb hr hml hown hts hlk hP hG ls hl
  have C0 : Ctx p m c cX7_x 2 s (Array.mk [.ref (ad 0), .int a0]) RX7 K meth (some .int) := ⟨hx, hb, hml, hown, hts, hG, hr, hlk⟩
  have hl : lv_has ls 2 [(0, .ref (ad 0)), (1, .int a0)] := hl
  refine lv_aload_n (pc := 0) hx hb dX7_x_0 rfl (lv_at hl 0 rfl) ?_
  refine va_get (D := K.1) (ci := 7) (v := .ref (ad 1)) (C := RX7) (T := TX7) (N := 17) (pc := 1) hx hb hts inT7 hown hG.1 hP 0 rfl rfl 1 (by decide) (hts _ qf_Mod_9) (fun _ h9 => h9) rfl dX7_x_1 ?_
  refine lv_iconst (v := (2 : Int32)) (pc := 4) hx hb dX7_x_4 (by decide) ?_
  refine lv_iload_n (pc := 5) hx hb dX7_x_5 rfl (lv_at hl 1 rfl) ?_
  refine lv_iadd (pc := 6) hx hb dX7_x_6 ?_
  obtain ⟨v1, h_v1, h⟩ := ob h
  obtain ⟨hi_v1, e_v1⟩ := aget_in h_v1
  refine va_iald (pc := 7) hx hb hG.1 hP 1 0 rfl rfl hi_v1 dX7_x_7 ?_
  rw [e_v1]
  obtain rfl := Option.some.inj h
  exact W.iret hx hb hr (fun t ht hW => ⟨rfl, ht⟩) (fun q hq => absurd hq List.not_mem_nil) dX7_x_8 hlk
set_option maxHeartbeats 4000000 in
set_option maxRecDepth 100000 in
theorem c_Mod_y (l : Launch) (K : KT) (ad : Nat → Nat) (mthr : Int32) (mnow : Nat → Int32) (mold : Nat → Int32) (mols : Int32) (msav : Nat → Int32) (miss : Bool) (minp : Nat → Int32) (mlen : Int32) (mat : Int32) (medg : Nat → Int32) (mcor : Nat → Int32) (mtri : Int32) (mkep : Nat → Int32) (mkee : Nat → Int32) (mwor : Nat → Int32) (mnum : Nat → Int32) (mmet : Nat → Int32) (a0 : Int32) {o : Int32} (h : s_Mod_y mnow a0 = some o) : Rd l K 0 yX7_y cX7_y 2 .int [.ref (ad 0), .int a0] (wMod K ad mthr mnow mold mols msav miss minp mlen mat medg mcor mtri mkep mkee mwor mnum mmet) o := by
  refine Rd.of (by decide +kernel) (Nat.le_of_ble_eq_true rfl) ?_
  unfold s_Mod_y at h
  intro p e s m below meth c hx hb hr hml hown hts hlk hP hG ls hl
  have C0 : Ctx p m c cX7_y 2 s (Array.mk [.ref (ad 0), .int a0]) RX7 K meth (some .int) := ⟨hx, hb, hml, hown, hts, hG, hr, hlk⟩
  have hl : lv_has ls 2 [(0, .ref (ad 0)), (1, .int a0)] := hl
  refine lv_aload_n (pc := 0) hx hb dX7_y_0 rfl (lv_at hl 0 rfl) ?_
  refine va_get (D := K.1) (ci := 7) (v := .ref (ad 1)) (C := RX7) (T := TX7) (N := 17) (pc := 1) hx hb hts inT7 hown hG.1 hP 0 rfl rfl 1 (by decide) (hts _ qf_Mod_9) (fun _ h9 => h9) rfl dX7_y_1 ?_
  refine lv_bipush (v := (19 : Int32)) (pc := 4) hx hb dX7_y_4 (by decide) ?_
  refine lv_iload_n (pc := 6) hx hb dX7_y_6 rfl (lv_at hl 1 rfl) ?_
  refine lv_iadd (pc := 7) hx hb dX7_y_7 ?_
  obtain ⟨v1, h_v1, h⟩ := ob h
  obtain ⟨hi_v1, e_v1⟩ := aget_in h_v1
  refine va_iald (pc := 8) hx hb hG.1 hP 1 0 rfl rfl hi_v1 dX7_y_8 ?_
  rw [e_v1]
  obtain rfl := Option.some.inj h
  exact W.iret hx hb hr (fun t ht hW => ⟨rfl, ht⟩) (fun q hq => absurd hq List.not_mem_nil) dX7_y_9 hlk
set_option maxHeartbeats 4000000 in
set_option maxRecDepth 100000 in
theorem c_Mod_end (l : Launch) (K : KT) (ad : Nat → Nat) (mthr : Int32) (mnow : Nat → Int32) (mold : Nat → Int32) (mols : Int32) (msav : Nat → Int32) (miss : Bool) (minp : Nat → Int32) (mlen : Int32) (mat : Int32) (medg : Nat → Int32) (mcor : Nat → Int32) (mtri : Int32) (mkep : Nat → Int32) (mkee : Nat → Int32) (mwor : Nat → Int32) (mnum : Nat → Int32) (mmet : Nat → Int32) (a0 : Int32) (a1 : Int32) {o : Int32} (h : s_Mod_end mnow a0 a1 = some o) : Rd l K 0 yX7_end cX7_end 3 .int [.ref (ad 0), .int a0, .int a1] (wMod K ad mthr mnow mold mols msav miss minp mlen mat medg mcor mtri mkep mkee mwor mnum mmet) o := by
  refine Rd.of (by decide +kernel) (Nat.le_of_ble_eq_true rfl) ?_
  unfold s_Mod_end at h
  intro p e s m below meth c hx hb hr hml hown hts hlk hP hG ls hl
  have C0 : Ctx p m c cX7_end 3 s (Array.mk [.ref (ad 0), .int a0, .int a1]) RX7 K meth (some .int) := ⟨hx, hb, hml, hown, hts, hG, hr, hlk⟩
  have hl : lv_has ls 3 [(0, .ref (ad 0)), (1, .int a0), (2, .int a1)] := hl
  refine lv_aload_n (pc := 0) hx hb dX7_end_0 rfl (lv_at hl 0 rfl) ?_
  refine va_get (D := K.1) (ci := 7) (v := .ref (ad 1)) (C := RX7) (T := TX7) (N := 17) (pc := 1) hx hb hts inT7 hown hG.1 hP 0 rfl rfl 1 (by decide) (hts _ qf_Mod_9) (fun _ h9 => h9) rfl dX7_end_1 ?_
  refine lv_bipush (v := (36 : Int32)) (pc := 4) hx hb dX7_end_4 (by decide) ?_
  refine lv_iconst (v := (2 : Int32)) (pc := 6) hx hb dX7_end_6 (by decide) ?_
  refine lv_iload_n (pc := 7) hx hb dX7_end_7 rfl (lv_at hl 1 rfl) ?_
  refine lv_imul (pc := 8) hx hb dX7_end_8 ?_
  refine lv_iadd (pc := 9) hx hb dX7_end_9 ?_
  refine lv_iload_n (pc := 10) hx hb dX7_end_10 rfl (lv_at hl 2 rfl) ?_
  refine lv_iadd (pc := 11) hx hb dX7_end_11 ?_
  obtain ⟨v1, h_v1, h⟩ := ob h
  obtain ⟨hi_v1, e_v1⟩ := aget_in h_v1
  refine va_iald (pc := 12) hx hb hG.1 hP 1 0 rfl rfl hi_v1 dX7_end_12 ?_
  rw [e_v1]
  obtain rfl := Option.some.inj h
  exact W.iret hx hb hr (fun t ht hW => ⟨rfl, ht⟩) (fun q hq => absurd hq List.not_mem_nil) dX7_end_13 hlk
set_option maxHeartbeats 4000000 in
set_option maxRecDepth 100000 in
theorem c_Mod_isPoint (l : Launch) (K : KT) (ad : Nat → Nat) (mthr : Int32) (mnow : Nat → Int32) (mold : Nat → Int32) (mols : Int32) (msav : Nat → Int32) (miss : Bool) (minp : Nat → Int32) (mlen : Int32) (mat : Int32) (medg : Nat → Int32) (mcor : Nat → Int32) (mtri : Int32) (mkep : Nat → Int32) (mkee : Nat → Int32) (mwor : Nat → Int32) (mnum : Nat → Int32) (mmet : Nat → Int32) (a0 : Int32) {o : Bool} (h : s_Mod_isPoint mnow a0 = some o) : Rd l K 1 yX7_isPoint cX7_isPoint 2 .boolean [.ref (ad 0), .int a0] (wMod K ad mthr mnow mold mols msav miss minp mlen mat medg mcor mtri mkep mkee mwor mnum mmet) (bI o) := by
  refine Rd.of (by decide +kernel) (Nat.le_of_ble_eq_true rfl) ?_
  unfold s_Mod_isPoint at h
  intro p e s m below meth c hx hb hr hml hown hts hlk hP hG ls hl
  have C0 : Ctx p m c cX7_isPoint 2 s (Array.mk [.ref (ad 0), .int a0]) RX7 K meth (some .boolean) := ⟨hx, hb, hml, hown, hts, hG, hr, hlk⟩
  have hl : lv_has ls 2 [(0, .ref (ad 0)), (1, .int a0)] := hl
  refine lv_iload_n (pc := 0) hx hb dX7_isPoint_0 rfl (lv_at hl 1 rfl) ?_
  refine lv_iconst (v := (0 : Int32)) (pc := 1) hx hb dX7_isPoint_1 (by decide) ?_
  refine lv_aload_n (pc := 2) hx hb dX7_isPoint_2 rfl (lv_at hl 0 rfl) ?_
  obtain ⟨v1, h_v1, h⟩ := ob h
  refine rdV (pc := 3) (As := []) (rest := [.int (0 : Int32), .int a0]) hx hb hml hown hts hG hP (c_Mod_n l K ad mthr mnow mold mols msav miss minp mlen mat medg mcor mtri mkep mkee mwor mnum mmet h_v1) [0, 1, 2, 3, 4, 5, 6, 7, 8, 9, 10, 11] rfl (q0 := 0) rfl (ci := 7) rfl g_Mod_48 hd_Mod_n rfl ⟨Nat.le_of_ble_eq_true rfl, Nat.le_of_ble_eq_true rfl⟩ ⟨Nat.zero_le _, Nat.zero_le _⟩ hl rfl (Nat.le_of_ble_eq_true rfl) dX7_isPoint_3 ?_
  refine lv_iconst (v := (1 : Int32)) (pc := 6) hx hb dX7_isPoint_6 (by decide) ?_
  refine lv_isub (pc := 7) hx hb dX7_isPoint_7 ?_
  refine rdS (pc := 8) (As := [.int a0, .int (0 : Int32), .int (v1 - (1 : Int32))]) (rest := []) hx hb hml hown hts hG (c_Mod_in l K a0 (0 : Int32) (v1 - (1 : Int32))) g_Mod_52 hd_Mod_in rfl ⟨Nat.le_of_ble_eq_true rfl, Nat.le_of_ble_eq_true rfl⟩ ⟨Nat.zero_le _, Nat.zero_le _⟩ hl rfl (Nat.le_of_ble_eq_true rfl) dX7_isPoint_8 ?_
  obtain rfl := Option.some.inj h
  exact W.zret hx hb hr (bI_nar _) (fun t ht hW => ⟨rfl, ht⟩) (fun q hq => absurd hq List.not_mem_nil) dX7_isPoint_11 hlk
set_option maxHeartbeats 4000000 in
set_option maxRecDepth 100000 in
theorem c_Mod_isConstraint (l : Launch) (K : KT) (ad : Nat → Nat) (mthr : Int32) (mnow : Nat → Int32) (mold : Nat → Int32) (mols : Int32) (msav : Nat → Int32) (miss : Bool) (minp : Nat → Int32) (mlen : Int32) (mat : Int32) (medg : Nat → Int32) (mcor : Nat → Int32) (mtri : Int32) (mkep : Nat → Int32) (mkee : Nat → Int32) (mwor : Nat → Int32) (mnum : Nat → Int32) (mmet : Nat → Int32) (a0 : Int32) {o : Bool} (h : s_Mod_isConstraint mnow a0 = some o) : Rd l K 1 yX7_isConstraint cX7_isConstraint 2 .boolean [.ref (ad 0), .int a0] (wMod K ad mthr mnow mold mols msav miss minp mlen mat medg mcor mtri mkep mkee mwor mnum mmet) (bI o) := by
  refine Rd.of (by decide +kernel) (Nat.le_of_ble_eq_true rfl) ?_
  unfold s_Mod_isConstraint at h
  intro p e s m below meth c hx hb hr hml hown hts hlk hP hG ls hl
  have C0 : Ctx p m c cX7_isConstraint 2 s (Array.mk [.ref (ad 0), .int a0]) RX7 K meth (some .boolean) := ⟨hx, hb, hml, hown, hts, hG, hr, hlk⟩
  have hl : lv_has ls 2 [(0, .ref (ad 0)), (1, .int a0)] := hl
  refine lv_iload_n (pc := 0) hx hb dX7_isConstraint_0 rfl (lv_at hl 1 rfl) ?_
  refine lv_iconst (v := (0 : Int32)) (pc := 1) hx hb dX7_isConstraint_1 (by decide) ?_
  refine lv_aload_n (pc := 2) hx hb dX7_isConstraint_2 rfl (lv_at hl 0 rfl) ?_
  obtain ⟨v1, h_v1, h⟩ := ob h
  refine rdV (pc := 3) (As := []) (rest := [.int (0 : Int32), .int a0]) hx hb hml hown hts hG hP (c_Mod_m l K ad mthr mnow mold mols msav miss minp mlen mat medg mcor mtri mkep mkee mwor mnum mmet h_v1) [0, 1, 2, 3, 4, 5, 6, 7, 8, 9, 10, 11] rfl (q0 := 0) rfl (ci := 7) rfl g_Mod_56 hd_Mod_m rfl ⟨Nat.le_of_ble_eq_true rfl, Nat.le_of_ble_eq_true rfl⟩ ⟨Nat.zero_le _, Nat.zero_le _⟩ hl rfl (Nat.le_of_ble_eq_true rfl) dX7_isConstraint_3 ?_
  refine lv_iconst (v := (1 : Int32)) (pc := 6) hx hb dX7_isConstraint_6 (by decide) ?_
  refine lv_isub (pc := 7) hx hb dX7_isConstraint_7 ?_
  refine rdS (pc := 8) (As := [.int a0, .int (0 : Int32), .int (v1 - (1 : Int32))]) (rest := []) hx hb hml hown hts hG (c_Mod_in l K a0 (0 : Int32) (v1 - (1 : Int32))) g_Mod_52 hd_Mod_in rfl ⟨Nat.le_of_ble_eq_true rfl, Nat.le_of_ble_eq_true rfl⟩ ⟨Nat.zero_le _, Nat.zero_le _⟩ hl rfl (Nat.le_of_ble_eq_true rfl) dX7_isConstraint_8 ?_
  obtain rfl := Option.some.inj h
  exact W.zret hx hb hr (bI_nar _) (fun t ht hW => ⟨rfl, ht⟩) (fun q hq => absurd hq List.not_mem_nil) dX7_isConstraint_11 hlk
set_option maxHeartbeats 4000000 in
set_option maxRecDepth 100000 in
theorem c_Mod_isPlace (l : Launch) (K : KT) (a0 : Int32) (a1 : Int32) : Rd l K 1 yX7_isPlace cX7_isPlace 2 .boolean [.int a0, .int a1] ([]) (bI (s_Mod_isPlace a0 a1)) := by
  generalize h : s_Mod_isPlace a0 a1 = o
  refine Rd.of (by decide +kernel) (Nat.le_of_ble_eq_true rfl) ?_
  unfold s_Mod_isPlace at h
  intro p e s m below meth c hx hb hr hml hown hts hlk hP hG ls hl
  have C0 : Ctx p m c cX7_isPlace 2 s (Array.mk [.int a0, .int a1]) RX7 K meth (some .boolean) := ⟨hx, hb, hml, hown, hts, hG, hr, hlk⟩
  have hl : lv_has ls 2 [(0, .int a0), (1, .int a1)] := hl
  refine lv_iload_n (pc := 0) hx hb dX7_isPlace_0 rfl (lv_at hl 0 rfl) ?_
  refine lv_iconst (v := (0 : Int32)) (pc := 1) hx hb dX7_isPlace_1 (by decide) ?_
  refine lv_bipush (v := (100 : Int32)) (pc := 2) hx hb dX7_isPlace_2 (by decide) ?_
  refine rdS (pc := 4) (As := [.int a0, .int (0 : Int32), .int (100 : Int32)]) (rest := []) hx hb hml hown hts hG (c_Mod_in l K a0 (0 : Int32) (100 : Int32)) g_Mod_52 hd_Mod_in rfl ⟨Nat.le_of_ble_eq_true rfl, Nat.le_of_ble_eq_true rfl⟩ ⟨Nat.zero_le _, Nat.zero_le _⟩ hl rfl (Nat.le_of_ble_eq_true rfl) dX7_isPlace_4 ?_
  refine lv_if_eq (tgt := 24) (pc := 7) hx hb dX7_isPlace_7 (by decide) (fun c1 => ?_) (fun c1 => ?_)
  · have h := it_t c1 h
    refine lv_iconst (v := (0 : Int32)) (pc := 24) hx hb dX7_isPlace_24 (by decide) ?_
    subst h
    exact W.zret hx hb hr (rfl) (fun t ht hW => ⟨rfl, ht⟩) (fun q hq => absurd hq List.not_mem_nil) dX7_isPlace_25 hlk
  · have h := it_f c1 h
    refine lv_iload_n (pc := 10) hx hb dX7_isPlace_10 rfl (lv_at hl 1 rfl) ?_
    refine lv_iconst (v := (0 : Int32)) (pc := 11) hx hb dX7_isPlace_11 (by decide) ?_
    refine lv_bipush (v := (100 : Int32)) (pc := 12) hx hb dX7_isPlace_12 (by decide) ?_
    refine rdS (pc := 14) (As := [.int a1, .int (0 : Int32), .int (100 : Int32)]) (rest := []) hx hb hml hown hts hG (c_Mod_in l K a1 (0 : Int32) (100 : Int32)) g_Mod_52 hd_Mod_in rfl ⟨Nat.le_of_ble_eq_true rfl, Nat.le_of_ble_eq_true rfl⟩ ⟨Nat.zero_le _, Nat.zero_le _⟩ hl rfl (Nat.le_of_ble_eq_true rfl) dX7_isPlace_14 ?_
    refine lv_if_eq (tgt := 24) (pc := 17) hx hb dX7_isPlace_17 (by decide) (fun c2 => ?_) (fun c2 => ?_)
    · have h := it_t c2 h
      refine lv_iconst (v := (0 : Int32)) (pc := 24) hx hb dX7_isPlace_24 (by decide) ?_
      subst h
      exact W.zret hx hb hr (rfl) (fun t ht hW => ⟨rfl, ht⟩) (fun q hq => absurd hq List.not_mem_nil) dX7_isPlace_25 hlk
    · have h := it_f c2 h
      refine lv_iconst (v := (1 : Int32)) (pc := 20) hx hb dX7_isPlace_20 (by decide) ?_
      refine lv_goto (tgt := 25) (pc := 21) hx hb dX7_isPlace_21 (by decide) ?_
      subst h
      exact W.zret hx hb hr (rfl) (fun t ht hW => ⟨rfl, ht⟩) (fun q hq => absurd hq List.not_mem_nil) dX7_isPlace_25 hlk
set_option maxHeartbeats 4000000 in
set_option maxRecDepth 100000 in
theorem c_J6_signum_0f7a4 (l : Launch) (K : KT) (a0 : Int32) : Rd l K 0 yJ6_signum_0f7a4 cJ6_signum_0f7a4 1 .int [.int a0] ([]) (s_J6_signum_0f7a4 a0) := by
  generalize h : s_J6_signum_0f7a4 a0 = o
  refine Rd.of (by decide +kernel) (Nat.le_of_ble_eq_true rfl) ?_
  unfold s_J6_signum_0f7a4 at h
  intro p e s m below meth c hx hb hr hml hown hts hlk hP hG ls hl
  have C0 : Ctx p m c cJ6_signum_0f7a4 1 s (Array.mk [.int a0]) RJ6 K meth (some .int) := ⟨hx, hb, hml, hown, hts, hG, hr, hlk⟩
  have hl : lv_has ls 1 [(0, .int a0)] := hl
  refine lv_iload_n (pc := 0) hx hb dJ6_signum_0f7a4_0 rfl (lv_at hl 0 rfl) ?_
  refine lv_bipush (v := (31 : Int32)) (pc := 1) hx hb dJ6_signum_0f7a4_1 (by decide) ?_
  refine lv_ishr (pc := 3) hx hb dJ6_signum_0f7a4_3 ?_
  refine lv_iload_n (pc := 4) hx hb dJ6_signum_0f7a4_4 rfl (lv_at hl 0 rfl) ?_
  refine lv_ineg (pc := 5) hx hb dJ6_signum_0f7a4_5 ?_
  refine lv_bipush (v := (31 : Int32)) (pc := 6) hx hb dJ6_signum_0f7a4_6 (by decide) ?_
  refine lv_iushr (v := (iushr (-a0) (31 : Int32))) (pc := 8) hx hb dJ6_signum_0f7a4_8 rfl ?_
  refine lv_ior (pc := 9) hx hb dJ6_signum_0f7a4_9 ?_
  subst h
  exact W.iret hx hb hr (fun t ht hW => ⟨rfl, ht⟩) (fun q hq => absurd hq List.not_mem_nil) dJ6_signum_0f7a4_10 hlk
set_option maxHeartbeats 4000000 in
set_option maxRecDepth 100000 in
theorem c_Mod_turnOf (l : Launch) (K : KT) (a0 : Int32) (a1 : Int32) (a2 : Int32) (a3 : Int32) (a4 : Int32) (a5 : Int32) : Rd l K 1 yX7_turnOf cX7_turnOf 6 .int [.int a0, .int a1, .int a2, .int a3, .int a4, .int a5] ([]) (s_Mod_turnOf a0 a1 a2 a3 a4 a5) := by
  generalize h : s_Mod_turnOf a0 a1 a2 a3 a4 a5 = o
  refine Rd.of (by decide +kernel) (Nat.le_of_ble_eq_true rfl) ?_
  unfold s_Mod_turnOf at h
  intro p e s m below meth c hx hb hr hml hown hts hlk hP hG ls hl
  have C0 : Ctx p m c cX7_turnOf 6 s (Array.mk [.int a0, .int a1, .int a2, .int a3, .int a4, .int a5]) RX7 K meth (some .int) := ⟨hx, hb, hml, hown, hts, hG, hr, hlk⟩
  have hl : lv_has ls 6 [(0, .int a0), (1, .int a1), (2, .int a2), (3, .int a3), (4, .int a4), (5, .int a5)] := hl
  refine lv_iload_n (pc := 0) hx hb dX7_turnOf_0 rfl (lv_at hl 2 rfl) ?_
  refine lv_iload_n (pc := 1) hx hb dX7_turnOf_1 rfl (lv_at hl 0 rfl) ?_
  refine lv_isub (pc := 2) hx hb dX7_turnOf_2 ?_
  refine lv_iload (pc := 3) hx hb dX7_turnOf_3 (lv_at hl 5 rfl) ?_
  refine lv_iload_n (pc := 5) hx hb dX7_turnOf_5 rfl (lv_at hl 1 rfl) ?_
  refine lv_isub (pc := 6) hx hb dX7_turnOf_6 ?_
  refine lv_imul (pc := 7) hx hb dX7_turnOf_7 ?_
  refine lv_iload_n (pc := 8) hx hb dX7_turnOf_8 rfl (lv_at hl 3 rfl) ?_
  refine lv_iload_n (pc := 9) hx hb dX7_turnOf_9 rfl (lv_at hl 1 rfl) ?_
  refine lv_isub (pc := 10) hx hb dX7_turnOf_10 ?_
  refine lv_iload (pc := 11) hx hb dX7_turnOf_11 (lv_at hl 4 rfl) ?_
  refine lv_iload_n (pc := 13) hx hb dX7_turnOf_13 rfl (lv_at hl 0 rfl) ?_
  refine lv_isub (pc := 14) hx hb dX7_turnOf_14 ?_
  refine lv_imul (pc := 15) hx hb dX7_turnOf_15 ?_
  refine lv_isub (pc := 16) hx hb dX7_turnOf_16 ?_
  refine rdSU (pc := 17) (As := [.int (((a2 - a0) * (a5 - a1)) - ((a3 - a1) * (a4 - a0)))]) (rest := []) hx hb hml hown hts hG (c_J6_signum_0f7a4 l K (((a2 - a0) * (a5 - a1)) - ((a3 - a1) * (a4 - a0)))) (gSU qm_Mod_59 qt_J6_signum_0f7a4 qn_J6 qc_J6_signum_0f7a4) hd_J6_signum_0f7a4 rfl ⟨Nat.le_of_ble_eq_true rfl, Nat.le_of_ble_eq_true rfl⟩ ⟨Nat.zero_le _, Nat.zero_le _⟩ hl rfl (Nat.le_of_ble_eq_true rfl) dX7_turnOf_17 ?_
  subst h
  exact W.iret hx hb hr (fun t ht hW => ⟨rfl, ht⟩) (fun q hq => absurd hq List.not_mem_nil) dX7_turnOf_20 hlk
set_option maxHeartbeats 4000000 in
set_option maxRecDepth 100000 in
theorem c_Mod_turns (l : Launch) (K : KT) (ad : Nat → Nat) (mthr : Int32) (mnow : Nat → Int32) (mold : Nat → Int32) (mols : Int32) (msav : Nat → Int32) (miss : Bool) (minp : Nat → Int32) (mlen : Int32) (mat : Int32) (medg : Nat → Int32) (mcor : Nat → Int32) (mtri : Int32) (mkep : Nat → Int32) (mkee : Nat → Int32) (mwor : Nat → Int32) (mnum : Nat → Int32) (mmet : Nat → Int32) (a0 : Int32) (a1 : Int32) (a2 : Int32) {o : Int32} (h : s_Mod_turns mnow a0 a1 a2 = some o) : Rd l K 2 yX7_turns cX7_turns 4 .int [.ref (ad 0), .int a0, .int a1, .int a2] (wMod K ad mthr mnow mold mols msav miss minp mlen mat medg mcor mtri mkep mkee mwor mnum mmet) o := by
  refine Rd.of (by decide +kernel) (Nat.le_of_ble_eq_true rfl) ?_
  unfold s_Mod_turns at h
  intro p e s m below meth c hx hb hr hml hown hts hlk hP hG ls hl
  have C0 : Ctx p m c cX7_turns 4 s (Array.mk [.ref (ad 0), .int a0, .int a1, .int a2]) RX7 K meth (some .int) := ⟨hx, hb, hml, hown, hts, hG, hr, hlk⟩
  have hl : lv_has ls 4 [(0, .ref (ad 0)), (1, .int a0), (2, .int a1), (3, .int a2)] := hl
  refine lv_aload_n (pc := 0) hx hb dX7_turns_0 rfl (lv_at hl 0 rfl) ?_
  refine lv_iload_n (pc := 1) hx hb dX7_turns_1 rfl (lv_at hl 1 rfl) ?_
  obtain ⟨v1, h_v1, h⟩ := ob h
  refine rdV (pc := 2) (As := [.int a0]) (rest := []) hx hb hml hown hts hG hP (c_Mod_x l K ad mthr mnow mold mols msav miss minp mlen mat medg mcor mtri mkep mkee mwor mnum mmet a0 h_v1) [0, 1, 2, 3, 4, 5, 6, 7, 8, 9, 10, 11] rfl (q0 := 0) rfl (ci := 7) rfl g_Mod_65 hd_Mod_x rfl ⟨Nat.le_of_ble_eq_true rfl, Nat.le_of_ble_eq_true rfl⟩ ⟨Nat.zero_le _, Nat.zero_le _⟩ hl rfl (Nat.le_of_ble_eq_true rfl) dX7_turns_2 ?_
  refine lv_aload_n (pc := 5) hx hb dX7_turns_5 rfl (lv_at hl 0 rfl) ?_
  refine lv_iload_n (pc := 6) hx hb dX7_turns_6 rfl (lv_at hl 1 rfl) ?_
  obtain ⟨v2, h_v2, h⟩ := ob h
  refine rdV (pc := 7) (As := [.int a0]) (rest := [.int v1]) hx hb hml hown hts hG hP (c_Mod_y l K ad mthr mnow mold mols msav miss minp mlen mat medg mcor mtri mkep mkee mwor mnum mmet a0 h_v2) [0, 1, 2, 3, 4, 5, 6, 7, 8, 9, 10, 11] rfl (q0 := 0) rfl (ci := 7) rfl g_Mod_68 hd_Mod_y rfl ⟨Nat.le_of_ble_eq_true rfl, Nat.le_of_ble_eq_true rfl⟩ ⟨Nat.zero_le _, Nat.zero_le _⟩ hl rfl (Nat.le_of_ble_eq_true rfl) dX7_turns_7 ?_
  refine lv_aload_n (pc := 10) hx hb dX7_turns_10 rfl (lv_at hl 0 rfl) ?_
  refine lv_iload_n (pc := 11) hx hb dX7_turns_11 rfl (lv_at hl 2 rfl) ?_
  obtain ⟨v3, h_v3, h⟩ := ob h
  refine rdV (pc := 12) (As := [.int a1]) (rest := [.int v2, .int v1]) hx hb hml hown hts hG hP (c_Mod_x l K ad mthr mnow mold mols msav miss minp mlen mat medg mcor mtri mkep mkee mwor mnum mmet a1 h_v3) [0, 1, 2, 3, 4, 5, 6, 7, 8, 9, 10, 11] rfl (q0 := 0) rfl (ci := 7) rfl g_Mod_65 hd_Mod_x rfl ⟨Nat.le_of_ble_eq_true rfl, Nat.le_of_ble_eq_true rfl⟩ ⟨Nat.zero_le _, Nat.zero_le _⟩ hl rfl (Nat.le_of_ble_eq_true rfl) dX7_turns_12 ?_
  refine lv_aload_n (pc := 15) hx hb dX7_turns_15 rfl (lv_at hl 0 rfl) ?_
  refine lv_iload_n (pc := 16) hx hb dX7_turns_16 rfl (lv_at hl 2 rfl) ?_
  obtain ⟨v4, h_v4, h⟩ := ob h
  refine rdV (pc := 17) (As := [.int a1]) (rest := [.int v3, .int v2, .int v1]) hx hb hml hown hts hG hP (c_Mod_y l K ad mthr mnow mold mols msav miss minp mlen mat medg mcor mtri mkep mkee mwor mnum mmet a1 h_v4) [0, 1, 2, 3, 4, 5, 6, 7, 8, 9, 10, 11] rfl (q0 := 0) rfl (ci := 7) rfl g_Mod_68 hd_Mod_y rfl ⟨Nat.le_of_ble_eq_true rfl, Nat.le_of_ble_eq_true rfl⟩ ⟨Nat.zero_le _, Nat.zero_le _⟩ hl rfl (Nat.le_of_ble_eq_true rfl) dX7_turns_17 ?_
  refine lv_aload_n (pc := 20) hx hb dX7_turns_20 rfl (lv_at hl 0 rfl) ?_
  refine lv_iload_n (pc := 21) hx hb dX7_turns_21 rfl (lv_at hl 3 rfl) ?_
  obtain ⟨v5, h_v5, h⟩ := ob h
  refine rdV (pc := 22) (As := [.int a2]) (rest := [.int v4, .int v3, .int v2, .int v1]) hx hb hml hown hts hG hP (c_Mod_x l K ad mthr mnow mold mols msav miss minp mlen mat medg mcor mtri mkep mkee mwor mnum mmet a2 h_v5) [0, 1, 2, 3, 4, 5, 6, 7, 8, 9, 10, 11] rfl (q0 := 0) rfl (ci := 7) rfl g_Mod_65 hd_Mod_x rfl ⟨Nat.le_of_ble_eq_true rfl, Nat.le_of_ble_eq_true rfl⟩ ⟨Nat.zero_le _, Nat.zero_le _⟩ hl rfl (Nat.le_of_ble_eq_true rfl) dX7_turns_22 ?_
  refine lv_aload_n (pc := 25) hx hb dX7_turns_25 rfl (lv_at hl 0 rfl) ?_
  refine lv_iload_n (pc := 26) hx hb dX7_turns_26 rfl (lv_at hl 3 rfl) ?_
  obtain ⟨v6, h_v6, h⟩ := ob h
  refine rdV (pc := 27) (As := [.int a2]) (rest := [.int v5, .int v4, .int v3, .int v2, .int v1]) hx hb hml hown hts hG hP (c_Mod_y l K ad mthr mnow mold mols msav miss minp mlen mat medg mcor mtri mkep mkee mwor mnum mmet a2 h_v6) [0, 1, 2, 3, 4, 5, 6, 7, 8, 9, 10, 11] rfl (q0 := 0) rfl (ci := 7) rfl g_Mod_68 hd_Mod_y rfl ⟨Nat.le_of_ble_eq_true rfl, Nat.le_of_ble_eq_true rfl⟩ ⟨Nat.zero_le _, Nat.zero_le _⟩ hl rfl (Nat.le_of_ble_eq_true rfl) dX7_turns_27 ?_
  refine rdS (pc := 30) (As := [.int v1, .int v2, .int v3, .int v4, .int v5, .int v6]) (rest := []) hx hb hml hown hts hG (c_Mod_turnOf l K v1 v2 v3 v4 v5 v6) g_Mod_71 hd_Mod_turnOf rfl ⟨Nat.le_of_ble_eq_true rfl, Nat.le_of_ble_eq_true rfl⟩ ⟨Nat.zero_le _, Nat.zero_le _⟩ hl rfl (Nat.le_of_ble_eq_true rfl) dX7_turns_30 ?_
  obtain rfl := Option.some.inj h
  exact W.iret hx hb hr (fun t ht hW => ⟨rfl, ht⟩) (fun q hq => absurd hq List.not_mem_nil) dX7_turns_33 hlk
set_option maxHeartbeats 4000000 in
set_option maxRecDepth 100000 in
theorem c_Mod_isOn (l : Launch) (K : KT) (ad : Nat → Nat) (mthr : Int32) (mnow : Nat → Int32) (mold : Nat → Int32) (mols : Int32) (msav : Nat → Int32) (miss : Bool) (minp : Nat → Int32) (mlen : Int32) (mat : Int32) (medg : Nat → Int32) (mcor : Nat → Int32) (mtri : Int32) (mkep : Nat → Int32) (mkee : Nat → Int32) (mwor : Nat → Int32) (mnum : Nat → Int32) (mmet : Nat → Int32) (a0 : Int32) (a1 : Int32) (a2 : Int32) (a3 : Int32) {o : Bool} (h : s_Mod_isOn mnow a0 a1 a2 a3 = some o) : Rd l K 2 yX7_isOn cX7_isOn 6 .boolean [.ref (ad 0), .int a0, .int a1, .int a2, .int a3] (wMod K ad mthr mnow mold mols msav miss minp mlen mat medg mcor mtri mkep mkee mwor mnum mmet) (bI o) := by
  refine Rd.of (by decide +kernel) (Nat.le_of_ble_eq_true rfl) ?_
  unfold s_Mod_isOn at h
  intro p e s m below meth c hx hb hr hml hown hts hlk hP hG ls hl
  have C0 : Ctx p m c cX7_isOn 6 s (Array.mk [.ref (ad 0), .int a0, .int a1, .int a2, .int a3]) RX7 K meth (some .boolean) := ⟨hx, hb, hml, hown, hts, hG, hr, hlk⟩
  have hl : lv_has ls 6 [(0, .ref (ad 0)), (1, .int a0), (2, .int a1), (3, .int a2), (4, .int a3)] := hl
  refine lv_aload_n (pc := 0) hx hb dX7_isOn_0 rfl (lv_at hl 0 rfl) ?_
  refine lv_iload_n (pc := 1) hx hb dX7_isOn_1 rfl (lv_at hl 1 rfl) ?_
  obtain ⟨v1, h_v1, h⟩ := ob h
  refine rdV (pc := 2) (As := [.int a0]) (rest := []) hx hb hml hown hts hG hP (c_Mod_x l K ad mthr mnow mold mols msav miss minp mlen mat medg mcor mtri mkep mkee mwor mnum mmet a0 h_v1) [0, 1, 2, 3, 4, 5, 6, 7, 8, 9, 10, 11] rfl (q0 := 0) rfl (ci := 7) rfl g_Mod_65 hd_Mod_x rfl ⟨Nat.le_of_ble_eq_true rfl, Nat.le_of_ble_eq_true rfl⟩ ⟨Nat.zero_le _, Nat.zero_le _⟩ hl rfl (Nat.le_of_ble_eq_true rfl) dX7_isOn_2 ?_
  refine lv_aload_n (pc := 5) hx hb dX7_isOn_5 rfl (lv_at hl 0 rfl) ?_
  refine lv_iload_n (pc := 6) hx hb dX7_isOn_6 rfl (lv_at hl 1 rfl) ?_
  obtain ⟨v2, h_v2, h⟩ := ob h
  refine rdV (pc := 7) (As := [.int a0]) (rest := [.int v1]) hx hb hml hown hts hG hP (c_Mod_y l K ad mthr mnow mold mols msav miss minp mlen mat medg mcor mtri mkep mkee mwor mnum mmet a0 h_v2) [0, 1, 2, 3, 4, 5, 6, 7, 8, 9, 10, 11] rfl (q0 := 0) rfl (ci := 7) rfl g_Mod_68 hd_Mod_y rfl ⟨Nat.le_of_ble_eq_true rfl, Nat.le_of_ble_eq_true rfl⟩ ⟨Nat.zero_le _, Nat.zero_le _⟩ hl rfl (Nat.le_of_ble_eq_true rfl) dX7_isOn_7 ?_
  refine lv_aload_n (pc := 10) hx hb dX7_isOn_10 rfl (lv_at hl 0 rfl) ?_
  refine lv_iload_n (pc := 11) hx hb dX7_isOn_11 rfl (lv_at hl 2 rfl) ?_
  obtain ⟨v3, h_v3, h⟩ := ob h
  refine rdV (pc := 12) (As := [.int a1]) (rest := [.int v2, .int v1]) hx hb hml hown hts hG hP (c_Mod_x l K ad mthr mnow mold mols msav miss minp mlen mat medg mcor mtri mkep mkee mwor mnum mmet a1 h_v3) [0, 1, 2, 3, 4, 5, 6, 7, 8, 9, 10, 11] rfl (q0 := 0) rfl (ci := 7) rfl g_Mod_65 hd_Mod_x rfl ⟨Nat.le_of_ble_eq_true rfl, Nat.le_of_ble_eq_true rfl⟩ ⟨Nat.zero_le _, Nat.zero_le _⟩ hl rfl (Nat.le_of_ble_eq_true rfl) dX7_isOn_12 ?_
  refine lv_aload_n (pc := 15) hx hb dX7_isOn_15 rfl (lv_at hl 0 rfl) ?_
  refine lv_iload_n (pc := 16) hx hb dX7_isOn_16 rfl (lv_at hl 2 rfl) ?_
  obtain ⟨v4, h_v4, h⟩ := ob h
  refine rdV (pc := 17) (As := [.int a1]) (rest := [.int v3, .int v2, .int v1]) hx hb hml hown hts hG hP (c_Mod_y l K ad mthr mnow mold mols msav miss minp mlen mat medg mcor mtri mkep mkee mwor mnum mmet a1 h_v4) [0, 1, 2, 3, 4, 5, 6, 7, 8, 9, 10, 11] rfl (q0 := 0) rfl (ci := 7) rfl g_Mod_68 hd_Mod_y rfl ⟨Nat.le_of_ble_eq_true rfl, Nat.le_of_ble_eq_true rfl⟩ ⟨Nat.zero_le _, Nat.zero_le _⟩ hl rfl (Nat.le_of_ble_eq_true rfl) dX7_isOn_17 ?_
  refine lv_iload_n (pc := 20) hx hb dX7_isOn_20 rfl (lv_at hl 3 rfl) ?_
  refine lv_iload (pc := 21) hx hb dX7_isOn_21 (lv_at hl 4 rfl) ?_
  refine rdS (pc := 23) (As := [.int v1, .int v2, .int v3, .int v4, .int a2, .int a3]) (rest := []) hx hb hml hown hts hG (c_Mod_turnOf l K v1 v2 v3 v4 a2 a3) g_Mod_71 hd_Mod_turnOf rfl ⟨Nat.le_of_ble_eq_true rfl, Nat.le_of_ble_eq_true rfl⟩ ⟨Nat.zero_le _, Nat.zero_le _⟩ hl rfl (Nat.le_of_ble_eq_true rfl) dX7_isOn_23 ?_
  refine lv_if_eq (tgt := 31) (pc := 26) hx hb dX7_isOn_26 (by decide) (fun c5 => ?_) (fun c5 => ?_)
  · have h := it_t c5 h
    refine lv_iload_n (pc := 31) hx hb dX7_isOn_31 rfl (lv_at hl 3 rfl) ?_
    refine lv_aload_n (pc := 32) hx hb dX7_isOn_32 rfl (lv_at hl 0 rfl) ?_
    refine lv_iload_n (pc := 33) hx hb dX7_isOn_33 rfl (lv_at hl 1 rfl) ?_
    obtain ⟨v6, h_v6, h⟩ := ob h
    refine rdV (pc := 34) (As := [.int a0]) (rest := [.int a2]) hx hb hml hown hts hG hP (c_Mod_x l K ad mthr mnow mold mols msav miss minp mlen mat medg mcor mtri mkep mkee mwor mnum mmet a0 h_v6) [0, 1, 2, 3, 4, 5, 6, 7, 8, 9, 10, 11] rfl (q0 := 0) rfl (ci := 7) rfl g_Mod_65 hd_Mod_x rfl ⟨Nat.le_of_ble_eq_true rfl, Nat.le_of_ble_eq_true rfl⟩ ⟨Nat.zero_le _, Nat.zero_le _⟩ hl rfl (Nat.le_of_ble_eq_true rfl) dX7_isOn_34 ?_
    refine lv_isub (pc := 37) hx hb dX7_isOn_37 ?_
    refine lv_iload_n (pc := 38) hx hb dX7_isOn_38 rfl (lv_at hl 3 rfl) ?_
    refine lv_aload_n (pc := 39) hx hb dX7_isOn_39 rfl (lv_at hl 0 rfl) ?_
    refine lv_iload_n (pc := 40) hx hb dX7_isOn_40 rfl (lv_at hl 2 rfl) ?_
    obtain ⟨v7, h_v7, h⟩ := ob h
    refine rdV (pc := 41) (As := [.int a1]) (rest := [.int a2, .int (a2 - v6)]) hx hb hml hown hts hG hP (c_Mod_x l K ad mthr mnow mold mols msav miss minp mlen mat medg mcor mtri mkep mkee mwor mnum mmet a1 h_v7) [0, 1, 2, 3, 4, 5, 6, 7, 8, 9, 10, 11] rfl (q0 := 0) rfl (ci := 7) rfl g_Mod_65 hd_Mod_x rfl ⟨Nat.le_of_ble_eq_true rfl, Nat.le_of_ble_eq_true rfl⟩ ⟨Nat.zero_le _, Nat.zero_le _⟩ hl rfl (Nat.le_of_ble_eq_true rfl) dX7_isOn_41 ?_
    refine lv_isub (pc := 44) hx hb dX7_isOn_44 ?_
    refine lv_imul (pc := 45) hx hb dX7_isOn_45 ?_
    refine lv_iload (pc := 46) hx hb dX7_isOn_46 (lv_at hl 4 rfl) ?_
    refine lv_aload_n (pc := 48) hx hb dX7_isOn_48 rfl (lv_at hl 0 rfl) ?_
    refine lv_iload_n (pc := 49) hx hb dX7_isOn_49 rfl (lv_at hl 1 rfl) ?_
    obtain ⟨v8, h_v8, h⟩ := ob h
    refine rdV (pc := 50) (As := [.int a0]) (rest := [.int a3, .int ((a2 - v6) * (a2 - v7))]) hx hb hml hown hts hG hP (c_Mod_y l K ad mthr mnow mold mols msav miss minp mlen mat medg mcor mtri mkep mkee mwor mnum mmet a0 h_v8) [0, 1, 2, 3, 4, 5, 6, 7, 8, 9, 10, 11] rfl (q0 := 0) rfl (ci := 7) rfl g_Mod_68 hd_Mod_y rfl ⟨Nat.le_of_ble_eq_true rfl, Nat.le_of_ble_eq_true rfl⟩ ⟨Nat.zero_le _, Nat.zero_le _⟩ hl rfl (Nat.le_of_ble_eq_true rfl) dX7_isOn_50 ?_
    refine lv_isub (pc := 53) hx hb dX7_isOn_53 ?_
    refine lv_iload (pc := 54) hx hb dX7_isOn_54 (lv_at hl 4 rfl) ?_
    refine lv_aload_n (pc := 56) hx hb dX7_isOn_56 rfl (lv_at hl 0 rfl) ?_
    refine lv_iload_n (pc := 57) hx hb dX7_isOn_57 rfl (lv_at hl 2 rfl) ?_
    obtain ⟨v9, h_v9, h⟩ := ob h
    refine rdV (pc := 58) (As := [.int a1]) (rest := [.int a3, .int (a3 - v8), .int ((a2 - v6) * (a2 - v7))]) hx hb hml hown hts hG hP (c_Mod_y l K ad mthr mnow mold mols msav miss minp mlen mat medg mcor mtri mkep mkee mwor mnum mmet a1 h_v9) [0, 1, 2, 3, 4, 5, 6, 7, 8, 9, 10, 11] rfl (q0 := 0) rfl (ci := 7) rfl g_Mod_68 hd_Mod_y rfl ⟨Nat.le_of_ble_eq_true rfl, Nat.le_of_ble_eq_true rfl⟩ ⟨Nat.zero_le _, Nat.zero_le _⟩ hl rfl (Nat.le_of_ble_eq_true rfl) dX7_isOn_58 ?_
    refine lv_isub (pc := 61) hx hb dX7_isOn_61 ?_
    refine lv_imul (pc := 62) hx hb dX7_isOn_62 ?_
    refine lv_iadd (pc := 63) hx hb dX7_isOn_63 ?_
    refine lv_istore (pc := 64) (lv' := [(5, .int (((a2 - v6) * (a2 - v7)) + ((a3 - v8) * (a3 - v9)))), (0, .ref (ad 0)), (1, .int a0), (2, .int a1), (3, .int a2), (4, .int a3)]) hx hb dX7_isOn_64 hl (by decide) rfl (fun ls hl => ?_)
    refine lv_iload (pc := 66) hx hb dX7_isOn_66 (lv_at hl 0 rfl) ?_
    refine lv_if_ge (tgt := 75) (pc := 68) hx hb dX7_isOn_68 (by decide) (fun c10 => ?_) (fun c10 => ?_)
    · have h := it_t c10 h
      refine lv_iconst (v := (0 : Int32)) (pc := 75) hx hb dX7_isOn_75 (by decide) ?_
      obtain rfl := Option.some.inj h
      exact W.zret hx hb hr (rfl) (fun t ht hW => ⟨rfl, ht⟩) (fun q hq => absurd hq List.not_mem_nil) dX7_isOn_76 hlk
    · have h := it_f c10 h
      refine lv_iconst (v := (1 : Int32)) (pc := 71) hx hb dX7_isOn_71 (by decide) ?_
      refine lv_goto (tgt := 76) (pc := 72) hx hb dX7_isOn_72 (by decide) ?_
      obtain rfl := Option.some.inj h
      exact W.zret hx hb hr (rfl) (fun t ht hW => ⟨rfl, ht⟩) (fun q hq => absurd hq List.not_mem_nil) dX7_isOn_76 hlk
  · have h := it_f c5 h
    refine lv_iconst (v := (0 : Int32)) (pc := 29) hx hb dX7_isOn_29 (by decide) ?_
    obtain rfl := Option.some.inj h
    exact W.zret hx hb hr (rfl) (fun t ht hW => ⟨rfl, ht⟩) (fun q hq => absurd hq List.not_mem_nil) dX7_isOn_30 hlk
set_option maxHeartbeats 4000000 in
set_option maxRecDepth 100000 in
theorem l_Mod_hasPointOn_L2 {p : Program} {l : Launch} {e : Env} {s : State} {m : MethodId} {args : Array Value} {below : List Frame} {meth : Method} {c : Code} {Q : State → Prop} {K : KT} (C0 : Ctx p m c cX7_hasPointOn 4 s args RX7 K meth (some .boolean)) (F : Nat) (ad : Nat → Nat) (mthr : Int32) (mnow : Nat → Int32) (mold : Nat → Int32) (mols : Int32) (msav : Nat → Int32) (miss : Bool) (minp : Nat → Int32) (mlen : Int32) (mat : Int32) (medg : Nat → Int32) (mcor : Nat → Int32) (mtri : Int32) (mkep : Nat → Int32) (mkee : Nat → Int32) (mwor : Nat → Int32) (mnum : Nat → Int32) (mmet : Nat → Int32) (x1 : Int32) (x2 : Int32) (hP : va_P K.1 vC (wMod K ad mthr mnow mold mols msav miss minp mlen mat medg mcor mtri mkep mkee mwor mnum mmet) s.heap) : ∀ (n : Nat) (x3 : Int32) (out : (Bool) ⊕ (Int32)), s_Mod_hasPointOn_L2 mnow x1 x2 n x3 = some out → ∀ (ls : Array Slot), lv_has ls 4 [(0, .ref (ad 0)), (1, .int x1), (2, .int x2), (3, .int x3)] → (∀ (o : Int32) (ls : Array Slot), out = .inr o → lv_has ls 4 [(0, .ref (ad 0)), (1, .int x1), (2, .int x2), (3, .int o)] → W p l e (rmL 3) s m args below meth c s.heap [] 0 0 Q (F0 m 37 ls [])) → (∀ (o : Bool) (pcR : Nat) (ls : Array Slot), out = .inl o → decode cX7_hasPointOn pcR = .ok (.ireturn, 1) → W p l e (rmL 3) s m args below meth c s.heap [] 0 0 Q (F0 m pcR ls [.int (bI o)])) → W p l e (rmL 3) s m args below meth c s.heap [] 0 0 Q (F0 m 2 ls []) := by
  obtain ⟨hx, hb, hml, hown, hts, hG, hr, hlk⟩ := id C0
  intro n
  induction n with
  | zero =>
    intro x3 out h
    cases h
  | succ n ih =>
    intro x3 out h ls hl Kx Kr
    rw [s_Mod_hasPointOn_L2.eq_2] at h
    refine lv_iload_n (pc := 2) hx hb dX7_hasPointOn_2 rfl (lv_at hl 3 rfl) ?_
    refine lv_aload_n (pc := 3) hx hb dX7_hasPointOn_3 rfl (lv_at hl 0 rfl) ?_
    obtain ⟨v1, h_v1, h⟩ := ob h
    refine rdV (pc := 4) (As := []) (rest := [.int x3]) hx hb hml hown hts hG hP (c_Mod_n l K ad mthr mnow mold mols msav miss minp mlen mat medg mcor mtri mkep mkee mwor mnum mmet h_v1) [0, 1, 2, 3, 4, 5, 6, 7, 8, 9, 10, 11] rfl (q0 := 0) rfl (ci := 7) rfl g_Mod_48 hd_Mod_n rfl ⟨Nat.le_of_ble_eq_true rfl, Nat.le_of_ble_eq_true rfl⟩ ⟨Nat.zero_le _, Nat.zero_le _⟩ hl rfl (Nat.le_of_ble_eq_true rfl) dX7_hasPointOn_4 ?_
    refine lv_icmp_ge (tgt := 37) (pc := 7) hx hb dX7_hasPointOn_7 (by decide) (fun c2 => ?_) (fun c2 => ?_)
    · have h := it_t c2 h
      obtain rfl := Option.some.inj h
      exact Kx _ ls rfl (lv_sub hl [0, 1, 2, 3] rfl)
    · have h := it_f c2 h
      refine lv_aload_n (pc := 10) hx hb dX7_hasPointOn_10 rfl (lv_at hl 0 rfl) ?_
      refine lv_iload_n (pc := 11) hx hb dX7_hasPointOn_11 rfl (lv_at hl 1 rfl) ?_
      refine lv_iload_n (pc := 12) hx hb dX7_hasPointOn_12 rfl (lv_at hl 2 rfl) ?_
      refine lv_aload_n (pc := 13) hx hb dX7_hasPointOn_13 rfl (lv_at hl 0 rfl) ?_
      refine lv_iload_n (pc := 14) hx hb dX7_hasPointOn_14 rfl (lv_at hl 3 rfl) ?_
      obtain ⟨v3, h_v3, h⟩ := ob h
      refine rdV (pc := 15) (As := [.int x3]) (rest := [.int x2, .int x1, .ref (ad 0)]) hx hb hml hown hts hG hP (c_Mod_x l K ad mthr mnow mold mols msav miss minp mlen mat medg mcor mtri mkep mkee mwor mnum mmet x3 h_v3) [0, 1, 2, 3, 4, 5, 6, 7, 8, 9, 10, 11] rfl (q0 := 0) rfl (ci := 7) rfl g_Mod_65 hd_Mod_x rfl ⟨Nat.le_of_ble_eq_true rfl, Nat.le_of_ble_eq_true rfl⟩ ⟨Nat.zero_le _, Nat.zero_le _⟩ hl rfl (Nat.le_of_ble_eq_true rfl) dX7_hasPointOn_15 ?_
      refine lv_aload_n (pc := 18) hx hb dX7_hasPointOn_18 rfl (lv_at hl 0 rfl) ?_
      refine lv_iload_n (pc := 19) hx hb dX7_hasPointOn_19 rfl (lv_at hl 3 rfl) ?_
      obtain ⟨v4, h_v4, h⟩ := ob h
      refine rdV (pc := 20) (As := [.int x3]) (rest := [.int v3, .int x2, .int x1, .ref (ad 0)]) hx hb hml hown hts hG hP (c_Mod_y l K ad mthr mnow mold mols msav miss minp mlen mat medg mcor mtri mkep mkee mwor mnum mmet x3 h_v4) [0, 1, 2, 3, 4, 5, 6, 7, 8, 9, 10, 11] rfl (q0 := 0) rfl (ci := 7) rfl g_Mod_68 hd_Mod_y rfl ⟨Nat.le_of_ble_eq_true rfl, Nat.le_of_ble_eq_true rfl⟩ ⟨Nat.zero_le _, Nat.zero_le _⟩ hl rfl (Nat.le_of_ble_eq_true rfl) dX7_hasPointOn_20 ?_
      obtain ⟨v5, h_v5, h⟩ := ob h
      refine rdV (pc := 23) (As := [.int x1, .int x2, .int v3, .int v4]) (rest := []) hx hb hml hown hts hG hP (c_Mod_isOn l K ad mthr mnow mold mols msav miss minp mlen mat medg mcor mtri mkep mkee mwor mnum mmet x1 x2 v3 v4 h_v5) [0, 1, 2, 3, 4, 5, 6, 7, 8, 9, 10, 11] rfl (q0 := 0) rfl (ci := 7) rfl g_Mod_75 hd_Mod_isOn rfl ⟨Nat.le_of_ble_eq_true rfl, Nat.le_of_ble_eq_true rfl⟩ ⟨Nat.zero_le _, Nat.zero_le _⟩ hl rfl (Nat.le_of_ble_eq_true rfl) dX7_hasPointOn_23 ?_
      refine lv_if_eq (tgt := 31) (pc := 26) hx hb dX7_hasPointOn_26 (by decide) (fun c6 => ?_) (fun c6 => ?_)
      · have h := it_t c6 h
        refine lv_iinc (v := (x3 + (1 : Int32))) (pc := 31) (lv' := [(3, .int (x3 + (1 : Int32))), (0, .ref (ad 0)), (1, .int x1), (2, .int x2)]) hx hb dX7_hasPointOn_31 hl (k := 3) rfl rfl (by decide) rfl (fun ls hl => ?_)
        refine lv_goto (tgt := 2) (pc := 34) hx hb dX7_hasPointOn_34 (by decide) ?_
        exact ih (x3 + (1 : Int32)) out h ls (lv_sub hl [1, 2, 3, 0] rfl) Kx Kr
      · have h := it_f c6 h
        refine lv_iconst (v := (1 : Int32)) (pc := 29) hx hb dX7_hasPointOn_29 (by decide) ?_
        obtain rfl := Option.some.inj h
        exact Kr _ _ _ rfl dX7_hasPointOn_30
set_option maxHeartbeats 4000000 in
set_option maxRecDepth 100000 in
theorem c_Mod_hasPointOn (l : Launch) (K : KT) (ad : Nat → Nat) (mthr : Int32) (mnow : Nat → Int32) (mold : Nat → Int32) (mols : Int32) (msav : Nat → Int32) (miss : Bool) (minp : Nat → Int32) (mlen : Int32) (mat : Int32) (medg : Nat → Int32) (mcor : Nat → Int32) (mtri : Int32) (mkep : Nat → Int32) (mkee : Nat → Int32) (mwor : Nat → Int32) (mnum : Nat → Int32) (mmet : Nat → Int32) (a0 : Int32) (a1 : Int32) (F : Nat) {o : Bool} (h : s_Mod_hasPointOn F mnow a0 a1 = some o) : Rd l K 3 yX7_hasPointOn cX7_hasPointOn 4 .boolean [.ref (ad 0), .int a0, .int a1] (wMod K ad mthr mnow mold mols msav miss minp mlen mat medg mcor mtri mkep mkee mwor mnum mmet) (bI o) := by
  refine Rd.of (by decide +kernel) (Nat.le_of_ble_eq_true rfl) ?_
  unfold s_Mod_hasPointOn at h
  intro p e s m below meth c hx hb hr hml hown hts hlk hP hG ls hl
  have C0 : Ctx p m c cX7_hasPointOn 4 s (Array.mk [.ref (ad 0), .int a0, .int a1]) RX7 K meth (some .boolean) := ⟨hx, hb, hml, hown, hts, hG, hr, hlk⟩
  have hl : lv_has ls 4 [(0, .ref (ad 0)), (1, .int a0), (2, .int a1)] := hl
  refine lv_iconst (v := (0 : Int32)) (pc := 0) hx hb dX7_hasPointOn_0 (by decide) ?_
  refine lv_istore_n (pc := 1) (lv' := [(3, .int (0 : Int32)), (0, .ref (ad 0)), (1, .int a0), (2, .int a1)]) hx hb dX7_hasPointOn_1 rfl hl (by decide) rfl (fun ls hl => ?_)
  obtain ⟨o7, h_o7, h⟩ := ob h
  refine l_Mod_hasPointOn_L2 C0 F ad mthr mnow mold mols msav miss minp mlen mat medg mcor mtri mkep mkee mwor mnum mmet a0 a1 hP F (0 : Int32) _ h_o7 ls (lv_sub hl [1, 2, 3, 0] rfl) (fun o7x ls eo hl => ?_) (fun q_o pcR ls eo hdR => ?_)
  · subst o7
    have h := se_r h
    refine lv_iconst (v := (0 : Int32)) (pc := 37) hx hb dX7_hasPointOn_37 (by decide) ?_
    obtain rfl := Option.some.inj h
    exact W.zret hx hb hr (rfl) (fun t ht hW => ⟨rfl, ht⟩) (fun q hq => absurd hq List.not_mem_nil) dX7_hasPointOn_38 hlk
  · subst o7
    have h := se_l h
    obtain rfl := Option.some.inj h
    exact W.zret hx hb hr (bI_nar _) (fun t ht hW => ⟨rfl, ht⟩) (fun q hq => absurd hq List.not_mem_nil) hdR hlk
set_option maxHeartbeats 4000000 in
set_option maxRecDepth 100000 in
theorem c_Mod_cross (l : Launch) (K : KT) (ad : Nat → Nat) (mthr : Int32) (mnow : Nat → Int32) (mold : Nat → Int32) (mols : Int32) (msav : Nat → Int32) (miss : Bool) (minp : Nat → Int32) (mlen : Int32) (mat : Int32) (medg : Nat → Int32) (mcor : Nat → Int32) (mtri : Int32) (mkep : Nat → Int32) (mkee : Nat → Int32) (mwor : Nat → Int32) (mnum : Nat → Int32) (mmet : Nat → Int32) (a0 : Int32) (a1 : Int32) (a2 : Int32) (a3 : Int32) {o : Bool} (h : s_Mod_cross mnow a0 a1 a2 a3 = some o) : Rd l K 3 yX7_cross cX7_cross 6 .boolean [.ref (ad 0), .int a0, .int a1, .int a2, .int a3] (wMod K ad mthr mnow mold mols msav miss minp mlen mat medg mcor mtri mkep mkee mwor mnum mmet) (bI o) := by
  refine Rd.of (by decide +kernel) (Nat.le_of_ble_eq_true rfl) ?_
  unfold s_Mod_cross at h
  intro p e s m below meth c hx hb hr hml hown hts hlk hP hG ls hl
  have C0 : Ctx p m c cX7_cross 6 s (Array.mk [.ref (ad 0), .int a0, .int a1, .int a2, .int a3]) RX7 K meth (some .boolean) := ⟨hx, hb, hml, hown, hts, hG, hr, hlk⟩
  have hl : lv_has ls 6 [(0, .ref (ad 0)), (1, .int a0), (2, .int a1), (3, .int a2), (4, .int a3)] := hl
  refine lv_aload_n (pc := 0) hx hb dX7_cross_0 rfl (lv_at hl 0 rfl) ?_
  refine lv_iload_n (pc := 1) hx hb dX7_cross_1 rfl (lv_at hl 1 rfl) ?_
  refine lv_iload_n (pc := 2) hx hb dX7_cross_2 rfl (lv_at hl 2 rfl) ?_
  refine lv_iload_n (pc := 3) hx hb dX7_cross_3 rfl (lv_at hl 3 rfl) ?_
  obtain ⟨v1, h_v1, h⟩ := ob h
  refine rdV (pc := 4) (As := [.int a0, .int a1, .int a2]) (rest := []) hx hb hml hown hts hG hP (c_Mod_turns l K ad mthr mnow mold mols msav miss minp mlen mat medg mcor mtri mkep mkee mwor mnum mmet a0 a1 a2 h_v1) [0, 1, 2, 3, 4, 5, 6, 7, 8, 9, 10, 11] rfl (q0 := 0) rfl (ci := 7) rfl g_Mod_79 hd_Mod_turns rfl ⟨Nat.le_of_ble_eq_true rfl, Nat.le_of_ble_eq_true rfl⟩ ⟨Nat.zero_le _, Nat.zero_le _⟩ hl rfl (Nat.le_of_ble_eq_true rfl) dX7_cross_4 ?_
  refine lv_aload_n (pc := 7) hx hb dX7_cross_7 rfl (lv_at hl 0 rfl) ?_
  refine lv_iload_n (pc := 8) hx hb dX7_cross_8 rfl (lv_at hl 1 rfl) ?_
  refine lv_iload_n (pc := 9) hx hb dX7_cross_9 rfl (lv_at hl 2 rfl) ?_
  refine lv_iload (pc := 10) hx hb dX7_cross_10 (lv_at hl 4 rfl) ?_
  obtain ⟨v2, h_v2, h⟩ := ob h
  refine rdV (pc := 12) (As := [.int a0, .int a1, .int a3]) (rest := [.int v1]) hx hb hml hown hts hG hP (c_Mod_turns l K ad mthr mnow mold mols msav miss minp mlen mat medg mcor mtri mkep mkee mwor mnum mmet a0 a1 a3 h_v2) [0, 1, 2, 3, 4, 5, 6, 7, 8, 9, 10, 11] rfl (q0 := 0) rfl (ci := 7) rfl g_Mod_79 hd_Mod_turns rfl ⟨Nat.le_of_ble_eq_true rfl, Nat.le_of_ble_eq_true rfl⟩ ⟨Nat.zero_le _, Nat.zero_le _⟩ hl rfl (Nat.le_of_ble_eq_true rfl) dX7_cross_12 ?_
  refine lv_imul (pc := 15) hx hb dX7_cross_15 ?_
  refine lv_if_ge (tgt := 41) (pc := 16) hx hb dX7_cross_16 (by decide) (fun c3 => ?_) (fun c3 => ?_)
  · have h := it_t c3 h
    refine lv_aload_n (pc := 41) hx hb dX7_cross_41 rfl (lv_at hl 0 rfl) ?_
    refine lv_iload_n (pc := 42) hx hb dX7_cross_42 rfl (lv_at hl 1 rfl) ?_
    refine lv_iload_n (pc := 43) hx hb dX7_cross_43 rfl (lv_at hl 2 rfl) ?_
    refine lv_iload_n (pc := 44) hx hb dX7_cross_44 rfl (lv_at hl 3 rfl) ?_
    obtain ⟨v4, h_v4, h⟩ := ob h
    refine rdV (pc := 45) (As := [.int a0, .int a1, .int a2]) (rest := []) hx hb hml hown hts hG hP (c_Mod_turns l K ad mthr mnow mold mols msav miss minp mlen mat medg mcor mtri mkep mkee mwor mnum mmet a0 a1 a2 h_v4) [0, 1, 2, 3, 4, 5, 6, 7, 8, 9, 10, 11] rfl (q0 := 0) rfl (ci := 7) rfl g_Mod_79 hd_Mod_turns rfl ⟨Nat.le_of_ble_eq_true rfl, Nat.le_of_ble_eq_true rfl⟩ ⟨Nat.zero_le _, Nat.zero_le _⟩ hl rfl (Nat.le_of_ble_eq_true rfl) dX7_cross_45 ?_
    refine lv_if_ne (tgt := 62) (pc := 48) hx hb dX7_cross_48 (by decide) (fun c5 => ?_) (fun c5 => ?_)
    · have h := it_f c5 h
      refine lv_iconst (v := (0 : Int32)) (pc := 62) hx hb dX7_cross_62 (by decide) ?_
      obtain rfl := Option.some.inj h
      exact W.zret hx hb hr (rfl) (fun t ht hW => ⟨rfl, ht⟩) (fun q hq => absurd hq List.not_mem_nil) dX7_cross_63 hlk
    · have h := it_t c5 h
      refine lv_aload_n (pc := 51) hx hb dX7_cross_51 rfl (lv_at hl 0 rfl) ?_
      refine lv_iload_n (pc := 52) hx hb dX7_cross_52 rfl (lv_at hl 1 rfl) ?_
      refine lv_iload_n (pc := 53) hx hb dX7_cross_53 rfl (lv_at hl 2 rfl) ?_
      refine lv_iload (pc := 54) hx hb dX7_cross_54 (lv_at hl 4 rfl) ?_
      obtain ⟨v6, h_v6, h⟩ := ob h
      refine rdV (pc := 56) (As := [.int a0, .int a1, .int a3]) (rest := []) hx hb hml hown hts hG hP (c_Mod_turns l K ad mthr mnow mold mols msav miss minp mlen mat medg mcor mtri mkep mkee mwor mnum mmet a0 a1 a3 h_v6) [0, 1, 2, 3, 4, 5, 6, 7, 8, 9, 10, 11] rfl (q0 := 0) rfl (ci := 7) rfl g_Mod_79 hd_Mod_turns rfl ⟨Nat.le_of_ble_eq_true rfl, Nat.le_of_ble_eq_true rfl⟩ ⟨Nat.zero_le _, Nat.zero_le _⟩ hl rfl (Nat.le_of_ble_eq_true rfl) dX7_cross_56 ?_
      refine lv_if_eq (tgt := 64) (pc := 59) hx hb dX7_cross_59 (by decide) (fun c7 => ?_) (fun c7 => ?_)
      · have h := it_t c7 h
        refine lv_iload_n (pc := 64) hx hb dX7_cross_64 rfl (lv_at hl 1 rfl) ?_
        refine lv_iload_n (pc := 65) hx hb dX7_cross_65 rfl (lv_at hl 2 rfl) ?_
        refine my_mmin (pc := 66) hx hb hml hl.1 hown hts qm_Mod_83 (Nat.le_of_ble_eq_true rfl) (Nat.le_of_ble_eq_true rfl) ⟨Nat.zero_le _, Nat.zero_le _⟩ dX7_cross_66 ?_
        refine lv_iload_n (pc := 69) hx hb dX7_cross_69 rfl (lv_at hl 3 rfl) ?_
        refine lv_iload (pc := 70) hx hb dX7_cross_70 (lv_at hl 4 rfl) ?_
        refine my_mmin (pc := 72) hx hb hml hl.1 hown hts qm_Mod_83 (Nat.le_of_ble_eq_true rfl) (Nat.le_of_ble_eq_true rfl) ⟨Nat.zero_le _, Nat.zero_le _⟩ dX7_cross_72 ?_
        refine lv_icmp_ne (tgt := 96) (pc := 75) hx hb dX7_cross_75 (by decide) (fun c8 => ?_) (fun c8 => ?_)
        · have h := it_f c8 h
          refine lv_iconst (v := (0 : Int32)) (pc := 96) hx hb dX7_cross_96 (by decide) ?_
          refine lv_istore (pc := 97) (lv' := [(5, .int (0 : Int32)), (0, .ref (ad 0)), (1, .int a0), (2, .int a1), (3, .int a2), (4, .int a3)]) hx hb dX7_cross_97 hl (by decide) rfl (fun ls hl => ?_)
          refine lv_iload (pc := 99) hx hb dX7_cross_99 (lv_at hl 0 rfl) ?_
          refine lv_if_ne (tgt := 184) (pc := 101) hx hb dX7_cross_101 (by decide) (fun c9 => ?_) (fun c9 => ?_)
          · have h := it_f c9 h
            refine lv_iconst (v := (1 : Int32)) (pc := 184) hx hb dX7_cross_184 (by decide) ?_
            refine lv_goto (tgt := 189) (pc := 185) hx hb dX7_cross_185 (by decide) ?_
            obtain rfl := Option.some.inj h
            exact W.zret hx hb hr (rfl) (fun t ht hW => ⟨rfl, ht⟩) (fun q hq => absurd hq List.not_mem_nil) dX7_cross_189 hlk
          · have h := it_t c9 h
            refine lv_aload_n (pc := 104) hx hb dX7_cross_104 rfl (lv_at hl 1 rfl) ?_
            refine lv_iload_n (pc := 105) hx hb dX7_cross_105 rfl (lv_at hl 2 rfl) ?_
            refine lv_iload_n (pc := 106) hx hb dX7_cross_106 rfl (lv_at hl 3 rfl) ?_
            refine lv_aload_n (pc := 107) hx hb dX7_cross_107 rfl (lv_at hl 1 rfl) ?_
            refine lv_iload_n (pc := 108) hx hb dX7_cross_108 rfl (lv_at hl 4 rfl) ?_
            obtain ⟨v10, h_v10, h⟩ := ob h
            refine rdV (pc := 109) (As := [.int a2]) (rest := [.int a1, .int a0, .ref (ad 0)]) hx hb hml hown hts hG hP (c_Mod_x l K ad mthr mnow mold mols msav miss minp mlen mat medg mcor mtri mkep mkee mwor mnum mmet a2 h_v10) [0, 1, 2, 3, 4, 5, 6, 7, 8, 9, 10, 11] rfl (q0 := 0) rfl (ci := 7) rfl g_Mod_65 hd_Mod_x rfl ⟨Nat.le_of_ble_eq_true rfl, Nat.le_of_ble_eq_true rfl⟩ ⟨Nat.zero_le _, Nat.zero_le _⟩ hl rfl (Nat.le_of_ble_eq_true rfl) dX7_cross_109 ?_
            refine lv_aload_n (pc := 112) hx hb dX7_cross_112 rfl (lv_at hl 1 rfl) ?_
            refine lv_iload_n (pc := 113) hx hb dX7_cross_113 rfl (lv_at hl 4 rfl) ?_
            obtain ⟨v11, h_v11, h⟩ := ob h
            refine rdV (pc := 114) (As := [.int a2]) (rest := [.int v10, .int a1, .int a0, .ref (ad 0)]) hx hb hml hown hts hG hP (c_Mod_y l K ad mthr mnow mold mols msav miss minp mlen mat medg mcor mtri mkep mkee mwor mnum mmet a2 h_v11) [0, 1, 2, 3, 4, 5, 6, 7, 8, 9, 10, 11] rfl (q0 := 0) rfl (ci := 7) rfl g_Mod_68 hd_Mod_y rfl ⟨Nat.le_of_ble_eq_true rfl, Nat.le_of_ble_eq_true rfl⟩ ⟨Nat.zero_le _, Nat.zero_le _⟩ hl rfl (Nat.le_of_ble_eq_true rfl) dX7_cross_114 ?_
            obtain ⟨v12, h_v12, h⟩ := ob h
            refine rdV (pc := 117) (As := [.int a0, .int a1, .int v10, .int v11]) (rest := []) hx hb hml hown hts hG hP (c_Mod_isOn l K ad mthr mnow mold mols msav miss minp mlen mat medg mcor mtri mkep mkee mwor mnum mmet a0 a1 v10 v11 h_v12) [0, 1, 2, 3, 4, 5, 6, 7, 8, 9, 10, 11] rfl (q0 := 0) rfl (ci := 7) rfl g_Mod_75 hd_Mod_isOn rfl ⟨Nat.le_of_ble_eq_true rfl, Nat.le_of_ble_eq_true rfl⟩ ⟨Nat.zero_le _, Nat.zero_le _⟩ hl rfl (Nat.le_of_ble_eq_true rfl) dX7_cross_117 ?_
            refine lv_if_ne (tgt := 184) (pc := 120) hx hb dX7_cross_120 (by decide) (fun c13 => ?_) (fun c13 => ?_)
            · have h := it_f c13 h
              refine lv_iconst (v := (1 : Int32)) (pc := 184) hx hb dX7_cross_184 (by decide) ?_
              refine lv_goto (tgt := 189) (pc := 185) hx hb dX7_cross_185 (by decide) ?_
              obtain rfl := Option.some.inj h
              exact W.zret hx hb hr (rfl) (fun t ht hW => ⟨rfl, ht⟩) (fun q hq => absurd hq List.not_mem_nil) dX7_cross_189 hlk
            · have h := it_t c13 h
              refine lv_aload_n (pc := 123) hx hb dX7_cross_123 rfl (lv_at hl 1 rfl) ?_
              refine lv_iload_n (pc := 124) hx hb dX7_cross_124 rfl (lv_at hl 2 rfl) ?_
              refine lv_iload_n (pc := 125) hx hb dX7_cross_125 rfl (lv_at hl 3 rfl) ?_
              refine lv_aload_n (pc := 126) hx hb dX7_cross_126 rfl (lv_at hl 1 rfl) ?_
              refine lv_iload (pc := 127) hx hb dX7_cross_127 (lv_at hl 5 rfl) ?_
              obtain ⟨v14, h_v14, h⟩ := ob h
              refine rdV (pc := 129) (As := [.int a3]) (rest := [.int a1, .int a0, .ref (ad 0)]) hx hb hml hown hts hG hP (c_Mod_x l K ad mthr mnow mold mols msav miss minp mlen mat medg mcor mtri mkep mkee mwor mnum mmet a3 h_v14) [0, 1, 2, 3, 4, 5, 6, 7, 8, 9, 10, 11] rfl (q0 := 0) rfl (ci := 7) rfl g_Mod_65 hd_Mod_x rfl ⟨Nat.le_of_ble_eq_true rfl, Nat.le_of_ble_eq_true rfl⟩ ⟨Nat.zero_le _, Nat.zero_le _⟩ hl rfl (Nat.le_of_ble_eq_true rfl) dX7_cross_129 ?_
              refine lv_aload_n (pc := 132) hx hb dX7_cross_132 rfl (lv_at hl 1 rfl) ?_
              refine lv_iload (pc := 133) hx hb dX7_cross_133 (lv_at hl 5 rfl) ?_
              obtain ⟨v15, h_v15, h⟩ := ob h
              refine rdV (pc := 135) (As := [.int a3]) (rest := [.int v14, .int a1, .int a0, .ref (ad 0)]) hx hb hml hown hts hG hP (c_Mod_y l K ad mthr mnow mold mols msav miss minp mlen mat medg mcor mtri mkep mkee mwor mnum mmet a3 h_v15) [0, 1, 2, 3, 4, 5, 6, 7, 8, 9, 10, 11] rfl (q0 := 0) rfl (ci := 7) rfl g_Mod_68 hd_Mod_y rfl ⟨Nat.le_of_ble_eq_true rfl, Nat.le_of_ble_eq_true rfl⟩ ⟨Nat.zero_le _, Nat.zero_le _⟩ hl rfl (Nat.le_of_ble_eq_true rfl) dX7_cross_135 ?_
              obtain ⟨v16, h_v16, h⟩ := ob h
              refine rdV (pc := 138) (As := [.int a0, .int a1, .int v14, .int v15]) (rest := []) hx hb hml hown hts hG hP (c_Mod_isOn l K ad mthr mnow mold mols msav miss minp mlen mat medg mcor mtri mkep mkee mwor mnum mmet a0 a1 v14 v15 h_v16) [0, 1, 2, 3, 4, 5, 6, 7, 8, 9, 10, 11] rfl (q0 := 0) rfl (ci := 7) rfl g_Mod_75 hd_Mod_isOn rfl ⟨Nat.le_of_ble_eq_true rfl, Nat.le_of_ble_eq_true rfl⟩ ⟨Nat.zero_le _, Nat.zero_le _⟩ hl rfl (Nat.le_of_ble_eq_true rfl) dX7_cross_138 ?_
              refine lv_if_ne (tgt := 184) (pc := 141) hx hb dX7_cross_141 (by decide) (fun c17 => ?_) (fun c17 => ?_)
              · have h := it_f c17 h
                refine lv_iconst (v := (1 : Int32)) (pc := 184) hx hb dX7_cross_184 (by decide) ?_
                refine lv_goto (tgt := 189) (pc := 185) hx hb dX7_cross_185 (by decide) ?_
                obtain rfl := Option.some.inj h
                exact W.zret hx hb hr (rfl) (fun t ht hW => ⟨rfl, ht⟩) (fun q hq => absurd hq List.not_mem_nil) dX7_cross_189 hlk
              · have h := it_t c17 h
                refine lv_aload_n (pc := 144) hx hb dX7_cross_144 rfl (lv_at hl 1 rfl) ?_
                refine lv_iload_n (pc := 145) hx hb dX7_cross_145 rfl (lv_at hl 4 rfl) ?_
                refine lv_iload (pc := 146) hx hb dX7_cross_146 (lv_at hl 5 rfl) ?_
                refine lv_aload_n (pc := 148) hx hb dX7_cross_148 rfl (lv_at hl 1 rfl) ?_
                refine lv_iload_n (pc := 149) hx hb dX7_cross_149 rfl (lv_at hl 2 rfl) ?_
                obtain ⟨v18, h_v18, h⟩ := ob h
                refine rdV (pc := 150) (As := [.int a0]) (rest := [.int a3, .int a2, .ref (ad 0)]) hx hb hml hown hts hG hP (c_Mod_x l K ad mthr mnow mold mols msav miss minp mlen mat medg mcor mtri mkep mkee mwor mnum mmet a0 h_v18) [0, 1, 2, 3, 4, 5, 6, 7, 8, 9, 10, 11] rfl (q0 := 0) rfl (ci := 7) rfl g_Mod_65 hd_Mod_x rfl ⟨Nat.le_of_ble_eq_true rfl, Nat.le_of_ble_eq_true rfl⟩ ⟨Nat.zero_le _, Nat.zero_le _⟩ hl rfl (Nat.le_of_ble_eq_true rfl) dX7_cross_150 ?_
                refine lv_aload_n (pc := 153) hx hb dX7_cross_153 rfl (lv_at hl 1 rfl) ?_
                refine lv_iload_n (pc := 154) hx hb dX7_cross_154 rfl (lv_at hl 2 rfl) ?_
                obtain ⟨v19, h_v19, h⟩ := ob h
                refine rdV (pc := 155) (As := [.int a0]) (rest := [.int v18, .int a3, .int a2, .ref (ad 0)]) hx hb hml hown hts hG hP (c_Mod_y l K ad mthr mnow mold mols msav miss minp mlen mat medg mcor mtri mkep mkee mwor mnum mmet a0 h_v19) [0, 1, 2, 3, 4, 5, 6, 7, 8, 9, 10, 11] rfl (q0 := 0) rfl (ci := 7) rfl g_Mod_68 hd_Mod_y rfl ⟨Nat.le_of_ble_eq_true rfl, Nat.le_of_ble_eq_true rfl⟩ ⟨Nat.zero_le _, Nat.zero_le _⟩ hl rfl (Nat.le_of_ble_eq_true rfl) dX7_cross_155 ?_
                obtain ⟨v20, h_v20, h⟩ := ob h
                refine rdV (pc := 158) (As := [.int a2, .int a3, .int v18, .int v19]) (rest := []) hx hb hml hown hts hG hP (c_Mod_isOn l K ad mthr mnow mold mols msav miss minp mlen mat medg mcor mtri mkep mkee mwor mnum mmet a2 a3 v18 v19 h_v20) [0, 1, 2, 3, 4, 5, 6, 7, 8, 9, 10, 11] rfl (q0 := 0) rfl (ci := 7) rfl g_Mod_75 hd_Mod_isOn rfl ⟨Nat.le_of_ble_eq_true rfl, Nat.le_of_ble_eq_true rfl⟩ ⟨Nat.zero_le _, Nat.zero_le _⟩ hl rfl (Nat.le_of_ble_eq_true rfl) dX7_cross_158 ?_
                refine lv_if_ne (tgt := 184) (pc := 161) hx hb dX7_cross_161 (by decide) (fun c21 => ?_) (fun c21 => ?_)
                · have h := it_f c21 h
                  refine lv_iconst (v := (1 : Int32)) (pc := 184) hx hb dX7_cross_184 (by decide) ?_
                  refine lv_goto (tgt := 189) (pc := 185) hx hb dX7_cross_185 (by decide) ?_
                  obtain rfl := Option.some.inj h
                  exact W.zret hx hb hr (rfl) (fun t ht hW => ⟨rfl, ht⟩) (fun q hq => absurd hq List.not_mem_nil) dX7_cross_189 hlk
                · have h := it_t c21 h
                  refine lv_aload_n (pc := 164) hx hb dX7_cross_164 rfl (lv_at hl 1 rfl) ?_
                  refine lv_iload_n (pc := 165) hx hb dX7_cross_165 rfl (lv_at hl 4 rfl) ?_
                  refine lv_iload (pc := 166) hx hb dX7_cross_166 (lv_at hl 5 rfl) ?_
                  refine lv_aload_n (pc := 168) hx hb dX7_cross_168 rfl (lv_at hl 1 rfl) ?_
                  refine lv_iload_n (pc := 169) hx hb dX7_cross_169 rfl (lv_at hl 3 rfl) ?_
                  obtain ⟨v22, h_v22, h⟩ := ob h
                  refine rdV (pc := 170) (As := [.int a1]) (rest := [.int a3, .int a2, .ref (ad 0)]) hx hb hml hown hts hG hP (c_Mod_x l K ad mthr mnow mold mols msav miss minp mlen mat medg mcor mtri mkep mkee mwor mnum mmet a1 h_v22) [0, 1, 2, 3, 4, 5, 6, 7, 8, 9, 10, 11] rfl (q0 := 0) rfl (ci := 7) rfl g_Mod_65 hd_Mod_x rfl ⟨Nat.le_of_ble_eq_true rfl, Nat.le_of_ble_eq_true rfl⟩ ⟨Nat.zero_le _, Nat.zero_le _⟩ hl rfl (Nat.le_of_ble_eq_true rfl) dX7_cross_170 ?_
                  refine lv_aload_n (pc := 173) hx hb dX7_cross_173 rfl (lv_at hl 1 rfl) ?_
                  refine lv_iload_n (pc := 174) hx hb dX7_cross_174 rfl (lv_at hl 3 rfl) ?_
                  obtain ⟨v23, h_v23, h⟩ := ob h
                  refine rdV (pc := 175) (As := [.int a1]) (rest := [.int v22, .int a3, .int a2, .ref (ad 0)]) hx hb hml hown hts hG hP (c_Mod_y l K ad mthr mnow mold mols msav miss minp mlen mat medg mcor mtri mkep mkee mwor mnum mmet a1 h_v23) [0, 1, 2, 3, 4, 5, 6, 7, 8, 9, 10, 11] rfl (q0 := 0) rfl (ci := 7) rfl g_Mod_68 hd_Mod_y rfl ⟨Nat.le_of_ble_eq_true rfl, Nat.le_of_ble_eq_true rfl⟩ ⟨Nat.zero_le _, Nat.zero_le _⟩ hl rfl (Nat.le_of_ble_eq_true rfl) dX7_cross_175 ?_
                  obtain ⟨v24, h_v24, h⟩ := ob h
                  refine rdV (pc := 178) (As := [.int a2, .int a3, .int v22, .int v23]) (rest := []) hx hb hml hown hts hG hP (c_Mod_isOn l K ad mthr mnow mold mols msav miss minp mlen mat medg mcor mtri mkep mkee mwor mnum mmet a2 a3 v22 v23 h_v24) [0, 1, 2, 3, 4, 5, 6, 7, 8, 9, 10, 11] rfl (q0 := 0) rfl (ci := 7) rfl g_Mod_75 hd_Mod_isOn rfl ⟨Nat.le_of_ble_eq_true rfl, Nat.le_of_ble_eq_true rfl⟩ ⟨Nat.zero_le _, Nat.zero_le _⟩ hl rfl (Nat.le_of_ble_eq_true rfl) dX7_cross_178 ?_
                  refine lv_if_eq (tgt := 188) (pc := 181) hx hb dX7_cross_181 (by decide) (fun c25 => ?_) (fun c25 => ?_)
                  · have h := it_t c25 h
                    refine lv_iconst (v := (0 : Int32)) (pc := 188) hx hb dX7_cross_188 (by decide) ?_
                    obtain rfl := Option.some.inj h
                    exact W.zret hx hb hr (rfl) (fun t ht hW => ⟨rfl, ht⟩) (fun q hq => absurd hq List.not_mem_nil) dX7_cross_189 hlk
                  · have h := it_f c25 h
                    refine lv_iconst (v := (1 : Int32)) (pc := 184) hx hb dX7_cross_184 (by decide) ?_
                    refine lv_goto (tgt := 189) (pc := 185) hx hb dX7_cross_185 (by decide) ?_
                    obtain rfl := Option.some.inj h
                    exact W.zret hx hb hr (rfl) (fun t ht hW => ⟨rfl, ht⟩) (fun q hq => absurd hq List.not_mem_nil) dX7_cross_189 hlk
        · have h := it_t c8 h
          refine lv_iload_n (pc := 78) hx hb dX7_cross_78 rfl (lv_at hl 1 rfl) ?_
          refine lv_iload_n (pc := 79) hx hb dX7_cross_79 rfl (lv_at hl 2 rfl) ?_
          refine my_mmax (pc := 80) hx hb hml hl.1 hown hts qm_Mod_89 (Nat.le_of_ble_eq_true rfl) (Nat.le_of_ble_eq_true rfl) ⟨Nat.zero_le _, Nat.zero_le _⟩ dX7_cross_80 ?_
          refine lv_iload_n (pc := 83) hx hb dX7_cross_83 rfl (lv_at hl 3 rfl) ?_
          refine lv_iload (pc := 84) hx hb dX7_cross_84 (lv_at hl 4 rfl) ?_
          refine my_mmax (pc := 86) hx hb hml hl.1 hown hts qm_Mod_89 (Nat.le_of_ble_eq_true rfl) (Nat.le_of_ble_eq_true rfl) ⟨Nat.zero_le _, Nat.zero_le _⟩ dX7_cross_86 ?_
          refine lv_icmp_ne (tgt := 96) (pc := 89) hx hb dX7_cross_89 (by decide) (fun c26 => ?_) (fun c26 => ?_)
          · have h := it_f c26 h
            refine lv_iconst (v := (0 : Int32)) (pc := 96) hx hb dX7_cross_96 (by decide) ?_
            refine lv_istore (pc := 97) (lv' := [(5, .int (0 : Int32)), (0, .ref (ad 0)), (1, .int a0), (2, .int a1), (3, .int a2), (4, .int a3)]) hx hb dX7_cross_97 hl (by decide) rfl (fun ls hl => ?_)
            refine lv_iload (pc := 99) hx hb dX7_cross_99 (lv_at hl 0 rfl) ?_
            refine lv_if_ne (tgt := 184) (pc := 101) hx hb dX7_cross_101 (by decide) (fun c27 => ?_) (fun c27 => ?_)
            · have h := it_f c27 h
              refine lv_iconst (v := (1 : Int32)) (pc := 184) hx hb dX7_cross_184 (by decide) ?_
              refine lv_goto (tgt := 189) (pc := 185) hx hb dX7_cross_185 (by decide) ?_
              obtain rfl := Option.some.inj h
              exact W.zret hx hb hr (rfl) (fun t ht hW => ⟨rfl, ht⟩) (fun q hq => absurd hq List.not_mem_nil) dX7_cross_189 hlk
            · have h := it_t c27 h
              refine lv_aload_n (pc := 104) hx hb dX7_cross_104 rfl (lv_at hl 1 rfl) ?_
              refine lv_iload_n (pc := 105) hx hb dX7_cross_105 rfl (lv_at hl 2 rfl) ?_
              refine lv_iload_n (pc := 106) hx hb dX7_cross_106 rfl (lv_at hl 3 rfl) ?_
              refine lv_aload_n (pc := 107) hx hb dX7_cross_107 rfl (lv_at hl 1 rfl) ?_
              refine lv_iload_n (pc := 108) hx hb dX7_cross_108 rfl (lv_at hl 4 rfl) ?_
              obtain ⟨v28, h_v28, h⟩ := ob h
              refine rdV (pc := 109) (As := [.int a2]) (rest := [.int a1, .int a0, .ref (ad 0)]) hx hb hml hown hts hG hP (c_Mod_x l K ad mthr mnow mold mols msav miss minp mlen mat medg mcor mtri mkep mkee mwor mnum mmet a2 h_v28) [0, 1, 2, 3, 4, 5, 6, 7, 8, 9, 10, 11] rfl (q0 := 0) rfl (ci := 7) rfl g_Mod_65 hd_Mod_x rfl ⟨Nat.le_of_ble_eq_true rfl, Nat.le_of_ble_eq_true rfl⟩ ⟨Nat.zero_le _, Nat.zero_le _⟩ hl rfl (Nat.le_of_ble_eq_true rfl) dX7_cross_109 ?_
              refine lv_aload_n (pc := 112) hx hb dX7_cross_112 rfl (lv_at hl 1 rfl) ?_
              refine lv_iload_n (pc := 113) hx hb dX7_cross_113 rfl (lv_at hl 4 rfl) ?_
              obtain ⟨v29, h_v29, h⟩ := ob h
              refine rdV (pc := 114) (As := [.int a2]) (rest := [.int v28, .int a1, .int a0, .ref (ad 0)]) hx hb hml hown hts hG hP (c_Mod_y l K ad mthr mnow mold mols msav miss minp mlen mat medg mcor mtri mkep mkee mwor mnum mmet a2 h_v29) [0, 1, 2, 3, 4, 5, 6, 7, 8, 9, 10, 11] rfl (q0 := 0) rfl (ci := 7) rfl g_Mod_68 hd_Mod_y rfl ⟨Nat.le_of_ble_eq_true rfl, Nat.le_of_ble_eq_true rfl⟩ ⟨Nat.zero_le _, Nat.zero_le _⟩ hl rfl (Nat.le_of_ble_eq_true rfl) dX7_cross_114 ?_
              obtain ⟨v30, h_v30, h⟩ := ob h
              refine rdV (pc := 117) (As := [.int a0, .int a1, .int v28, .int v29]) (rest := []) hx hb hml hown hts hG hP (c_Mod_isOn l K ad mthr mnow mold mols msav miss minp mlen mat medg mcor mtri mkep mkee mwor mnum mmet a0 a1 v28 v29 h_v30) [0, 1, 2, 3, 4, 5, 6, 7, 8, 9, 10, 11] rfl (q0 := 0) rfl (ci := 7) rfl g_Mod_75 hd_Mod_isOn rfl ⟨Nat.le_of_ble_eq_true rfl, Nat.le_of_ble_eq_true rfl⟩ ⟨Nat.zero_le _, Nat.zero_le _⟩ hl rfl (Nat.le_of_ble_eq_true rfl) dX7_cross_117 ?_
              refine lv_if_ne (tgt := 184) (pc := 120) hx hb dX7_cross_120 (by decide) (fun c31 => ?_) (fun c31 => ?_)
              · have h := it_f c31 h
                refine lv_iconst (v := (1 : Int32)) (pc := 184) hx hb dX7_cross_184 (by decide) ?_
                refine lv_goto (tgt := 189) (pc := 185) hx hb dX7_cross_185 (by decide) ?_
                obtain rfl := Option.some.inj h
                exact W.zret hx hb hr (rfl) (fun t ht hW => ⟨rfl, ht⟩) (fun q hq => absurd hq List.not_mem_nil) dX7_cross_189 hlk
              · have h := it_t c31 h
                refine lv_aload_n (pc := 123) hx hb dX7_cross_123 rfl (lv_at hl 1 rfl) ?_
                refine lv_iload_n (pc := 124) hx hb dX7_cross_124 rfl (lv_at hl 2 rfl) ?_
                refine lv_iload_n (pc := 125) hx hb dX7_cross_125 rfl (lv_at hl 3 rfl) ?_
                refine lv_aload_n (pc := 126) hx hb dX7_cross_126 rfl (lv_at hl 1 rfl) ?_
                refine lv_iload (pc := 127) hx hb dX7_cross_127 (lv_at hl 5 rfl) ?_
                obtain ⟨v32, h_v32, h⟩ := ob h
                refine rdV (pc := 129) (As := [.int a3]) (rest := [.int a1, .int a0, .ref (ad 0)]) hx hb hml hown hts hG hP (c_Mod_x l K ad mthr mnow mold mols msav miss minp mlen mat medg mcor mtri mkep mkee mwor mnum mmet a3 h_v32) [0, 1, 2, 3, 4, 5, 6, 7, 8, 9, 10, 11] rfl (q0 := 0) rfl (ci := 7) rfl g_Mod_65 hd_Mod_x rfl ⟨Nat.le_of_ble_eq_true rfl, Nat.le_of_ble_eq_true rfl⟩ ⟨Nat.zero_le _, Nat.zero_le _⟩ hl rfl (Nat.le_of_ble_eq_true rfl) dX7_cross_129 ?_
                refine lv_aload_n (pc := 132) hx hb dX7_cross_132 rfl (lv_at hl 1 rfl) ?_
                refine lv_iload (pc := 133) hx hb dX7_cross_133 (lv_at hl 5 rfl) ?_
                obtain ⟨v33, h_v33, h⟩ := ob h
                refine rdV (pc := 135) (As := [.int a3]) (rest := [.int v32, .int a1, .int a0, .ref (ad 0)]) hx hb hml hown hts hG hP (c_Mod_y l K ad mthr mnow mold mols msav miss minp mlen mat medg mcor mtri mkep mkee mwor mnum mmet a3 h_v33) [0, 1, 2, 3, 4, 5, 6, 7, 8, 9, 10, 11] rfl (q0 := 0) rfl (ci := 7) rfl g_Mod_68 hd_Mod_y rfl ⟨Nat.le_of_ble_eq_true rfl, Nat.le_of_ble_eq_true rfl⟩ ⟨Nat.zero_le _, Nat.zero_le _⟩ hl rfl (Nat.le_of_ble_eq_true rfl) dX7_cross_135 ?_
                obtain ⟨v34, h_v34, h⟩ := ob h
                refine rdV (pc := 138) (As := [.int a0, .int a1, .int v32, .int v33]) (rest := []) hx hb hml hown hts hG hP (c_Mod_isOn l K ad mthr mnow mold mols msav miss minp mlen mat medg mcor mtri mkep mkee mwor mnum mmet a0 a1 v32 v33 h_v34) [0, 1, 2, 3, 4, 5, 6, 7, 8, 9, 10, 11] rfl (q0 := 0) rfl (ci := 7) rfl g_Mod_75 hd_Mod_isOn rfl ⟨Nat.le_of_ble_eq_true rfl, Nat.le_of_ble_eq_true rfl⟩ ⟨Nat.zero_le _, Nat.zero_le _⟩ hl rfl (Nat.le_of_ble_eq_true rfl) dX7_cross_138 ?_
                refine lv_if_ne (tgt := 184) (pc := 141) hx hb dX7_cross_141 (by decide) (fun c35 => ?_) (fun c35 => ?_)
                · have h := it_f c35 h
                  refine lv_iconst (v := (1 : Int32)) (pc := 184) hx hb dX7_cross_184 (by decide) ?_
                  refine lv_goto (tgt := 189) (pc := 185) hx hb dX7_cross_185 (by decide) ?_
                  obtain rfl := Option.some.inj h
                  exact W.zret hx hb hr (rfl) (fun t ht hW => ⟨rfl, ht⟩) (fun q hq => absurd hq List.not_mem_nil) dX7_cross_189 hlk
                · have h := it_t c35 h
                  refine lv_aload_n (pc := 144) hx hb dX7_cross_144 rfl (lv_at hl 1 rfl) ?_
                  refine lv_iload_n (pc := 145) hx hb dX7_cross_145 rfl (lv_at hl 4 rfl) ?_
                  refine lv_iload (pc := 146) hx hb dX7_cross_146 (lv_at hl 5 rfl) ?_
                  refine lv_aload_n (pc := 148) hx hb dX7_cross_148 rfl (lv_at hl 1 rfl) ?_
                  refine lv_iload_n (pc := 149) hx hb dX7_cross_149 rfl (lv_at hl 2 rfl) ?_
                  obtain ⟨v36, h_v36, h⟩ := ob h
                  refine rdV (pc := 150) (As := [.int a0]) (rest := [.int a3, .int a2, .ref (ad 0)]) hx hb hml hown hts hG hP (c_Mod_x l K ad mthr mnow mold mols msav miss minp mlen mat medg mcor mtri mkep mkee mwor mnum mmet a0 h_v36) [0, 1, 2, 3, 4, 5, 6, 7, 8, 9, 10, 11] rfl (q0 := 0) rfl (ci := 7) rfl g_Mod_65 hd_Mod_x rfl ⟨Nat.le_of_ble_eq_true rfl, Nat.le_of_ble_eq_true rfl⟩ ⟨Nat.zero_le _, Nat.zero_le _⟩ hl rfl (Nat.le_of_ble_eq_true rfl) dX7_cross_150 ?_
                  refine lv_aload_n (pc := 153) hx hb dX7_cross_153 rfl (lv_at hl 1 rfl) ?_
                  refine lv_iload_n (pc := 154) hx hb dX7_cross_154 rfl (lv_at hl 2 rfl) ?_
                  obtain ⟨v37, h_v37, h⟩ := ob h
                  refine rdV (pc := 155) (As := [.int a0]) (rest := [.int v36, .int a3, .int a2, .ref (ad 0)]) hx hb hml hown hts hG hP (c_Mod_y l K ad mthr mnow mold mols msav miss minp mlen mat medg mcor mtri mkep mkee mwor mnum mmet a0 h_v37) [0, 1, 2, 3, 4, 5, 6, 7, 8, 9, 10, 11] rfl (q0 := 0) rfl (ci := 7) rfl g_Mod_68 hd_Mod_y rfl ⟨Nat.le_of_ble_eq_true rfl, Nat.le_of_ble_eq_true rfl⟩ ⟨Nat.zero_le _, Nat.zero_le _⟩ hl rfl (Nat.le_of_ble_eq_true rfl) dX7_cross_155 ?_
                  obtain ⟨v38, h_v38, h⟩ := ob h
                  refine rdV (pc := 158) (As := [.int a2, .int a3, .int v36, .int v37]) (rest := []) hx hb hml hown hts hG hP (c_Mod_isOn l K ad mthr mnow mold mols msav miss minp mlen mat medg mcor mtri mkep mkee mwor mnum mmet a2 a3 v36 v37 h_v38) [0, 1, 2, 3, 4, 5, 6, 7, 8, 9, 10, 11] rfl (q0 := 0) rfl (ci := 7) rfl g_Mod_75 hd_Mod_isOn rfl ⟨Nat.le_of_ble_eq_true rfl, Nat.le_of_ble_eq_true rfl⟩ ⟨Nat.zero_le _, Nat.zero_le _⟩ hl rfl (Nat.le_of_ble_eq_true rfl) dX7_cross_158 ?_
                  refine lv_if_ne (tgt := 184) (pc := 161) hx hb dX7_cross_161 (by decide) (fun c39 => ?_) (fun c39 => ?_)
                  · have h := it_f c39 h
                    refine lv_iconst (v := (1 : Int32)) (pc := 184) hx hb dX7_cross_184 (by decide) ?_
                    refine lv_goto (tgt := 189) (pc := 185) hx hb dX7_cross_185 (by decide) ?_
                    obtain rfl := Option.some.inj h
                    exact W.zret hx hb hr (rfl) (fun t ht hW => ⟨rfl, ht⟩) (fun q hq => absurd hq List.not_mem_nil) dX7_cross_189 hlk
                  · have h := it_t c39 h
                    refine lv_aload_n (pc := 164) hx hb dX7_cross_164 rfl (lv_at hl 1 rfl) ?_
                    refine lv_iload_n (pc := 165) hx hb dX7_cross_165 rfl (lv_at hl 4 rfl) ?_
                    refine lv_iload (pc := 166) hx hb dX7_cross_166 (lv_at hl 5 rfl) ?_
                    refine lv_aload_n (pc := 168) hx hb dX7_cross_168 rfl (lv_at hl 1 rfl) ?_
                    refine lv_iload_n (pc := 169) hx hb dX7_cross_169 rfl (lv_at hl 3 rfl) ?_
                    obtain ⟨v40, h_v40, h⟩ := ob h
                    refine rdV (pc := 170) (As := [.int a1]) (rest := [.int a3, .int a2, .ref (ad 0)]) hx hb hml hown hts hG hP (c_Mod_x l K ad mthr mnow mold mols msav miss minp mlen mat medg mcor mtri mkep mkee mwor mnum mmet a1 h_v40) [0, 1, 2, 3, 4, 5, 6, 7, 8, 9, 10, 11] rfl (q0 := 0) rfl (ci := 7) rfl g_Mod_65 hd_Mod_x rfl ⟨Nat.le_of_ble_eq_true rfl, Nat.le_of_ble_eq_true rfl⟩ ⟨Nat.zero_le _, Nat.zero_le _⟩ hl rfl (Nat.le_of_ble_eq_true rfl) dX7_cross_170 ?_
                    refine lv_aload_n (pc := 173) hx hb dX7_cross_173 rfl (lv_at hl 1 rfl) ?_
                    refine lv_iload_n (pc := 174) hx hb dX7_cross_174 rfl (lv_at hl 3 rfl) ?_
                    obtain ⟨v41, h_v41, h⟩ := ob h
                    refine rdV (pc := 175) (As := [.int a1]) (rest := [.int v40, .int a3, .int a2, .ref (ad 0)]) hx hb hml hown hts hG hP (c_Mod_y l K ad mthr mnow mold mols msav miss minp mlen mat medg mcor mtri mkep mkee mwor mnum mmet a1 h_v41) [0, 1, 2, 3, 4, 5, 6, 7, 8, 9, 10, 11] rfl (q0 := 0) rfl (ci := 7) rfl g_Mod_68 hd_Mod_y rfl ⟨Nat.le_of_ble_eq_true rfl, Nat.le_of_ble_eq_true rfl⟩ ⟨Nat.zero_le _, Nat.zero_le _⟩ hl rfl (Nat.le_of_ble_eq_true rfl) dX7_cross_175 ?_
                    obtain ⟨v42, h_v42, h⟩ := ob h
                    refine rdV (pc := 178) (As := [.int a2, .int a3, .int v40, .int v41]) (rest := []) hx hb hml hown hts hG hP (c_Mod_isOn l K ad mthr mnow mold mols msav miss minp mlen mat medg mcor mtri mkep mkee mwor mnum mmet a2 a3 v40 v41 h_v42) [0, 1, 2, 3, 4, 5, 6, 7, 8, 9, 10, 11] rfl (q0 := 0) rfl (ci := 7) rfl g_Mod_75 hd_Mod_isOn rfl ⟨Nat.le_of_ble_eq_true rfl, Nat.le_of_ble_eq_true rfl⟩ ⟨Nat.zero_le _, Nat.zero_le _⟩ hl rfl (Nat.le_of_ble_eq_true rfl) dX7_cross_178 ?_
                    refine lv_if_eq (tgt := 188) (pc := 181) hx hb dX7_cross_181 (by decide) (fun c43 => ?_) (fun c43 => ?_)
                    · have h := it_t c43 h
                      refine lv_iconst (v := (0 : Int32)) (pc := 188) hx hb dX7_cross_188 (by decide) ?_
                      obtain rfl := Option.some.inj h
                      exact W.zret hx hb hr (rfl) (fun t ht hW => ⟨rfl, ht⟩) (fun q hq => absurd hq List.not_mem_nil) dX7_cross_189 hlk
                    · have h := it_f c43 h
                      refine lv_iconst (v := (1 : Int32)) (pc := 184) hx hb dX7_cross_184 (by decide) ?_
                      refine lv_goto (tgt := 189) (pc := 185) hx hb dX7_cross_185 (by decide) ?_
                      obtain rfl := Option.some.inj h
                      exact W.zret hx hb hr (rfl) (fun t ht hW => ⟨rfl, ht⟩) (fun q hq => absurd hq List.not_mem_nil) dX7_cross_189 hlk
          · have h := it_t c26 h
            refine lv_iconst (v := (1 : Int32)) (pc := 92) hx hb dX7_cross_92 (by decide) ?_
            refine lv_goto (tgt := 97) (pc := 93) hx hb dX7_cross_93 (by decide) ?_
            refine lv_istore (pc := 97) (lv' := [(5, .int (1 : Int32)), (0, .ref (ad 0)), (1, .int a0), (2, .int a1), (3, .int a2), (4, .int a3)]) hx hb dX7_cross_97 hl (by decide) rfl (fun ls hl => ?_)
            refine lv_iload (pc := 99) hx hb dX7_cross_99 (lv_at hl 0 rfl) ?_
            refine lv_if_ne (tgt := 184) (pc := 101) hx hb dX7_cross_101 (by decide) (fun c44 => ?_) (fun c44 => ?_)
            · have h := it_f c44 h
              refine lv_iconst (v := (1 : Int32)) (pc := 184) hx hb dX7_cross_184 (by decide) ?_
              refine lv_goto (tgt := 189) (pc := 185) hx hb dX7_cross_185 (by decide) ?_
              obtain rfl := Option.some.inj h
              exact W.zret hx hb hr (rfl) (fun t ht hW => ⟨rfl, ht⟩) (fun q hq => absurd hq List.not_mem_nil) dX7_cross_189 hlk
            · have h := it_t c44 h
              refine lv_aload_n (pc := 104) hx hb dX7_cross_104 rfl (lv_at hl 1 rfl) ?_
              refine lv_iload_n (pc := 105) hx hb dX7_cross_105 rfl (lv_at hl 2 rfl) ?_
              refine lv_iload_n (pc := 106) hx hb dX7_cross_106 rfl (lv_at hl 3 rfl) ?_
              refine lv_aload_n (pc := 107) hx hb dX7_cross_107 rfl (lv_at hl 1 rfl) ?_
              refine lv_iload_n (pc := 108) hx hb dX7_cross_108 rfl (lv_at hl 4 rfl) ?_
              obtain ⟨v45, h_v45, h⟩ := ob h
              refine rdV (pc := 109) (As := [.int a2]) (rest := [.int a1, .int a0, .ref (ad 0)]) hx hb hml hown hts hG hP (c_Mod_x l K ad mthr mnow mold mols msav miss minp mlen mat medg mcor mtri mkep mkee mwor mnum mmet a2 h_v45) [0, 1, 2, 3, 4, 5, 6, 7, 8, 9, 10, 11] rfl (q0 := 0) rfl (ci := 7) rfl g_Mod_65 hd_Mod_x rfl ⟨Nat.le_of_ble_eq_true rfl, Nat.le_of_ble_eq_true rfl⟩ ⟨Nat.zero_le _, Nat.zero_le _⟩ hl rfl (Nat.le_of_ble_eq_true rfl) dX7_cross_109 ?_
              refine lv_aload_n (pc := 112) hx hb dX7_cross_112 rfl (lv_at hl 1 rfl) ?_
              refine lv_iload_n (pc := 113) hx hb dX7_cross_113 rfl (lv_at hl 4 rfl) ?_
              obtain ⟨v46, h_v46, h⟩ := ob h
              refine rdV (pc := 114) (As := [.int a2]) (rest := [.int v45, .int a1, .int a0, .ref (ad 0)]) hx hb hml hown hts hG hP (c_Mod_y l K ad mthr mnow mold mols msav miss minp mlen mat medg mcor mtri mkep mkee mwor mnum mmet a2 h_v46) [0, 1, 2, 3, 4, 5, 6, 7, 8, 9, 10, 11] rfl (q0 := 0) rfl (ci := 7) rfl g_Mod_68 hd_Mod_y rfl ⟨Nat.le_of_ble_eq_true rfl, Nat.le_of_ble_eq_true rfl⟩ ⟨Nat.zero_le _, Nat.zero_le _⟩ hl rfl (Nat.le_of_ble_eq_true rfl) dX7_cross_114 ?_
              obtain ⟨v47, h_v47, h⟩ := ob h
              refine rdV (pc := 117) (As := [.int a0, .int a1, .int v45, .int v46]) (rest := []) hx hb hml hown hts hG hP (c_Mod_isOn l K ad mthr mnow mold mols msav miss minp mlen mat medg mcor mtri mkep mkee mwor mnum mmet a0 a1 v45 v46 h_v47) [0, 1, 2, 3, 4, 5, 6, 7, 8, 9, 10, 11] rfl (q0 := 0) rfl (ci := 7) rfl g_Mod_75 hd_Mod_isOn rfl ⟨Nat.le_of_ble_eq_true rfl, Nat.le_of_ble_eq_true rfl⟩ ⟨Nat.zero_le _, Nat.zero_le _⟩ hl rfl (Nat.le_of_ble_eq_true rfl) dX7_cross_117 ?_
              refine lv_if_ne (tgt := 184) (pc := 120) hx hb dX7_cross_120 (by decide) (fun c48 => ?_) (fun c48 => ?_)
              · have h := it_f c48 h
                refine lv_iconst (v := (1 : Int32)) (pc := 184) hx hb dX7_cross_184 (by decide) ?_
                refine lv_goto (tgt := 189) (pc := 185) hx hb dX7_cross_185 (by decide) ?_
                obtain rfl := Option.some.inj h
                exact W.zret hx hb hr (rfl) (fun t ht hW => ⟨rfl, ht⟩) (fun q hq => absurd hq List.not_mem_nil) dX7_cross_189 hlk
              · have h := it_t c48 h
                refine lv_aload_n (pc := 123) hx hb dX7_cross_123 rfl (lv_at hl 1 rfl) ?_
                refine lv_iload_n (pc := 124) hx hb dX7_cross_124 rfl (lv_at hl 2 rfl) ?_
                refine lv_iload_n (pc := 125) hx hb dX7_cross_125 rfl (lv_at hl 3 rfl) ?_
                refine lv_aload_n (pc := 126) hx hb dX7_cross_126 rfl (lv_at hl 1 rfl) ?_
                refine lv_iload (pc := 127) hx hb dX7_cross_127 (lv_at hl 5 rfl) ?_
                obtain ⟨v49, h_v49, h⟩ := ob h
                refine rdV (pc := 129) (As := [.int a3]) (rest := [.int a1, .int a0, .ref (ad 0)]) hx hb hml hown hts hG hP (c_Mod_x l K ad mthr mnow mold mols msav miss minp mlen mat medg mcor mtri mkep mkee mwor mnum mmet a3 h_v49) [0, 1, 2, 3, 4, 5, 6, 7, 8, 9, 10, 11] rfl (q0 := 0) rfl (ci := 7) rfl g_Mod_65 hd_Mod_x rfl ⟨Nat.le_of_ble_eq_true rfl, Nat.le_of_ble_eq_true rfl⟩ ⟨Nat.zero_le _, Nat.zero_le _⟩ hl rfl (Nat.le_of_ble_eq_true rfl) dX7_cross_129 ?_
                refine lv_aload_n (pc := 132) hx hb dX7_cross_132 rfl (lv_at hl 1 rfl) ?_
                refine lv_iload (pc := 133) hx hb dX7_cross_133 (lv_at hl 5 rfl) ?_
                obtain ⟨v50, h_v50, h⟩ := ob h
                refine rdV (pc := 135) (As := [.int a3]) (rest := [.int v49, .int a1, .int a0, .ref (ad 0)]) hx hb hml hown hts hG hP (c_Mod_y l K ad mthr mnow mold mols msav miss minp mlen mat medg mcor mtri mkep mkee mwor mnum mmet a3 h_v50) [0, 1, 2, 3, 4, 5, 6, 7, 8, 9, 10, 11] rfl (q0 := 0) rfl (ci := 7) rfl g_Mod_68 hd_Mod_y rfl ⟨Nat.le_of_ble_eq_true rfl, Nat.le_of_ble_eq_true rfl⟩ ⟨Nat.zero_le _, Nat.zero_le _⟩ hl rfl (Nat.le_of_ble_eq_true rfl) dX7_cross_135 ?_
                obtain ⟨v51, h_v51, h⟩ := ob h
                refine rdV (pc := 138) (As := [.int a0, .int a1, .int v49, .int v50]) (rest := []) hx hb hml hown hts hG hP (c_Mod_isOn l K ad mthr mnow mold mols msav miss minp mlen mat medg mcor mtri mkep mkee mwor mnum mmet a0 a1 v49 v50 h_v51) [0, 1, 2, 3, 4, 5, 6, 7, 8, 9, 10, 11] rfl (q0 := 0) rfl (ci := 7) rfl g_Mod_75 hd_Mod_isOn rfl ⟨Nat.le_of_ble_eq_true rfl, Nat.le_of_ble_eq_true rfl⟩ ⟨Nat.zero_le _, Nat.zero_le _⟩ hl rfl (Nat.le_of_ble_eq_true rfl) dX7_cross_138 ?_
                refine lv_if_ne (tgt := 184) (pc := 141) hx hb dX7_cross_141 (by decide) (fun c52 => ?_) (fun c52 => ?_)
                · have h := it_f c52 h
                  refine lv_iconst (v := (1 : Int32)) (pc := 184) hx hb dX7_cross_184 (by decide) ?_
                  refine lv_goto (tgt := 189) (pc := 185) hx hb dX7_cross_185 (by decide) ?_
                  obtain rfl := Option.some.inj h
                  exact W.zret hx hb hr (rfl) (fun t ht hW => ⟨rfl, ht⟩) (fun q hq => absurd hq List.not_mem_nil) dX7_cross_189 hlk
                · have h := it_t c52 h
                  refine lv_aload_n (pc := 144) hx hb dX7_cross_144 rfl (lv_at hl 1 rfl) ?_
                  refine lv_iload_n (pc := 145) hx hb dX7_cross_145 rfl (lv_at hl 4 rfl) ?_
                  refine lv_iload (pc := 146) hx hb dX7_cross_146 (lv_at hl 5 rfl) ?_
                  refine lv_aload_n (pc := 148) hx hb dX7_cross_148 rfl (lv_at hl 1 rfl) ?_
                  refine lv_iload_n (pc := 149) hx hb dX7_cross_149 rfl (lv_at hl 2 rfl) ?_
                  obtain ⟨v53, h_v53, h⟩ := ob h
                  refine rdV (pc := 150) (As := [.int a0]) (rest := [.int a3, .int a2, .ref (ad 0)]) hx hb hml hown hts hG hP (c_Mod_x l K ad mthr mnow mold mols msav miss minp mlen mat medg mcor mtri mkep mkee mwor mnum mmet a0 h_v53) [0, 1, 2, 3, 4, 5, 6, 7, 8, 9, 10, 11] rfl (q0 := 0) rfl (ci := 7) rfl g_Mod_65 hd_Mod_x rfl ⟨Nat.le_of_ble_eq_true rfl, Nat.le_of_ble_eq_true rfl⟩ ⟨Nat.zero_le _, Nat.zero_le _⟩ hl rfl (Nat.le_of_ble_eq_true rfl) dX7_cross_150 ?_
                  refine lv_aload_n (pc := 153) hx hb dX7_cross_153 rfl (lv_at hl 1 rfl) ?_
                  refine lv_iload_n (pc := 154) hx hb dX7_cross_154 rfl (lv_at hl 2 rfl) ?_
                  obtain ⟨v54, h_v54, h⟩ := ob h
                  refine rdV (pc := 155) (As := [.int a0]) (rest := [.int v53, .int a3, .int a2, .ref (ad 0)]) hx hb hml hown hts hG hP (c_Mod_y l K ad mthr mnow mold mols msav miss minp mlen mat medg mcor mtri mkep mkee mwor mnum mmet a0 h_v54) [0, 1, 2, 3, 4, 5, 6, 7, 8, 9, 10, 11] rfl (q0 := 0) rfl (ci := 7) rfl g_Mod_68 hd_Mod_y rfl ⟨Nat.le_of_ble_eq_true rfl, Nat.le_of_ble_eq_true rfl⟩ ⟨Nat.zero_le _, Nat.zero_le _⟩ hl rfl (Nat.le_of_ble_eq_true rfl) dX7_cross_155 ?_
                  obtain ⟨v55, h_v55, h⟩ := ob h
                  refine rdV (pc := 158) (As := [.int a2, .int a3, .int v53, .int v54]) (rest := []) hx hb hml hown hts hG hP (c_Mod_isOn l K ad mthr mnow mold mols msav miss minp mlen mat medg mcor mtri mkep mkee mwor mnum mmet a2 a3 v53 v54 h_v55) [0, 1, 2, 3, 4, 5, 6, 7, 8, 9, 10, 11] rfl (q0 := 0) rfl (ci := 7) rfl g_Mod_75 hd_Mod_isOn rfl ⟨Nat.le_of_ble_eq_true rfl, Nat.le_of_ble_eq_true rfl⟩ ⟨Nat.zero_le _, Nat.zero_le _⟩ hl rfl (Nat.le_of_ble_eq_true rfl) dX7_cross_158 ?_
                  refine lv_if_ne (tgt := 184) (pc := 161) hx hb dX7_cross_161 (by decide) (fun c56 => ?_) (fun c56 => ?_)
                  · have h := it_f c56 h
                    refine lv_iconst (v := (1 : Int32)) (pc := 184) hx hb dX7_cross_184 (by decide) ?_
                    refine lv_goto (tgt := 189) (pc := 185) hx hb dX7_cross_185 (by decide) ?_
                    obtain rfl := Option.some.inj h
                    exact W.zret hx hb hr (rfl) (fun t ht hW => ⟨rfl, ht⟩) (fun q hq => absurd hq List.not_mem_nil) dX7_cross_189 hlk
                  · have h := it_t c56 h
                    refine lv_aload_n (pc := 164) hx hb dX7_cross_164 rfl (lv_at hl 1 rfl) ?_
                    refine lv_iload_n (pc := 165) hx hb dX7_cross_165 rfl (lv_at hl 4 rfl) ?_
                    refine lv_iload (pc := 166) hx hb dX7_cross_166 (lv_at hl 5 rfl) ?_
                    refine lv_aload_n (pc := 168) hx hb dX7_cross_168 rfl (lv_at hl 1 rfl) ?_
                    refine lv_iload_n (pc := 169) hx hb dX7_cross_169 rfl (lv_at hl 3 rfl) ?_
                    obtain ⟨v57, h_v57, h⟩ := ob h
                    refine rdV (pc := 170) (As := [.int a1]) (rest := [.int a3, .int a2, .ref (ad 0)]) hx hb hml hown hts hG hP (c_Mod_x l K ad mthr mnow mold mols msav miss minp mlen mat medg mcor mtri mkep mkee mwor mnum mmet a1 h_v57) [0, 1, 2, 3, 4, 5, 6, 7, 8, 9, 10, 11] rfl (q0 := 0) rfl (ci := 7) rfl g_Mod_65 hd_Mod_x rfl ⟨Nat.le_of_ble_eq_true rfl, Nat.le_of_ble_eq_true rfl⟩ ⟨Nat.zero_le _, Nat.zero_le _⟩ hl rfl (Nat.le_of_ble_eq_true rfl) dX7_cross_170 ?_
                    refine lv_aload_n (pc := 173) hx hb dX7_cross_173 rfl (lv_at hl 1 rfl) ?_
                    refine lv_iload_n (pc := 174) hx hb dX7_cross_174 rfl (lv_at hl 3 rfl) ?_
                    obtain ⟨v58, h_v58, h⟩ := ob h
                    refine rdV (pc := 175) (As := [.int a1]) (rest := [.int v57, .int a3, .int a2, .ref (ad 0)]) hx hb hml hown hts hG hP (c_Mod_y l K ad mthr mnow mold mols msav miss minp mlen mat medg mcor mtri mkep mkee mwor mnum mmet a1 h_v58) [0, 1, 2, 3, 4, 5, 6, 7, 8, 9, 10, 11] rfl (q0 := 0) rfl (ci := 7) rfl g_Mod_68 hd_Mod_y rfl ⟨Nat.le_of_ble_eq_true rfl, Nat.le_of_ble_eq_true rfl⟩ ⟨Nat.zero_le _, Nat.zero_le _⟩ hl rfl (Nat.le_of_ble_eq_true rfl) dX7_cross_175 ?_
                    obtain ⟨v59, h_v59, h⟩ := ob h
                    refine rdV (pc := 178) (As := [.int a2, .int a3, .int v57, .int v58]) (rest := []) hx hb hml hown hts hG hP (c_Mod_isOn l K ad mthr mnow mold mols msav miss minp mlen mat medg mcor mtri mkep mkee mwor mnum mmet a2 a3 v57 v58 h_v59) [0, 1, 2, 3, 4, 5, 6, 7, 8, 9, 10, 11] rfl (q0 := 0) rfl (ci := 7) rfl g_Mod_75 hd_Mod_isOn rfl ⟨Nat.le_of_ble_eq_true rfl, Nat.le_of_ble_eq_true rfl⟩ ⟨Nat.zero_le _, Nat.zero_le _⟩ hl rfl (Nat.le_of_ble_eq_true rfl) dX7_cross_178 ?_
                    refine lv_if_eq (tgt := 188) (pc := 181) hx hb dX7_cross_181 (by decide) (fun c60 => ?_) (fun c60 => ?_)
                    · have h := it_t c60 h
                      refine lv_iconst (v := (0 : Int32)) (pc := 188) hx hb dX7_cross_188 (by decide) ?_
                      obtain rfl := Option.some.inj h
                      exact W.zret hx hb hr (rfl) (fun t ht hW => ⟨rfl, ht⟩) (fun q hq => absurd hq List.not_mem_nil) dX7_cross_189 hlk
                    · have h := it_f c60 h
                      refine lv_iconst (v := (1 : Int32)) (pc := 184) hx hb dX7_cross_184 (by decide) ?_
                      refine lv_goto (tgt := 189) (pc := 185) hx hb dX7_cross_185 (by decide) ?_
                      obtain rfl := Option.some.inj h
                      exact W.zret hx hb hr (rfl) (fun t ht hW => ⟨rfl, ht⟩) (fun q hq => absurd hq List.not_mem_nil) dX7_cross_189 hlk
      · have h := it_f c7 h
        refine lv_iconst (v := (0 : Int32)) (pc := 62) hx hb dX7_cross_62 (by decide) ?_
        obtain rfl := Option.some.inj h
        exact W.zret hx hb hr (rfl) (fun t ht hW => ⟨rfl, ht⟩) (fun q hq => absurd hq List.not_mem_nil) dX7_cross_63 hlk
  · have h := it_f c3 h
    refine lv_aload_n (pc := 19) hx hb dX7_cross_19 rfl (lv_at hl 0 rfl) ?_
    refine lv_iload_n (pc := 20) hx hb dX7_cross_20 rfl (lv_at hl 3 rfl) ?_
    refine lv_iload (pc := 21) hx hb dX7_cross_21 (lv_at hl 4 rfl) ?_
    refine lv_iload_n (pc := 23) hx hb dX7_cross_23 rfl (lv_at hl 1 rfl) ?_
    obtain ⟨v61, h_v61, h⟩ := ob h
    refine rdV (pc := 24) (As := [.int a2, .int a3, .int a0]) (rest := []) hx hb hml hown hts hG hP (c_Mod_turns l K ad mthr mnow mold mols msav miss minp mlen mat medg mcor mtri mkep mkee mwor mnum mmet a2 a3 a0 h_v61) [0, 1, 2, 3, 4, 5, 6, 7, 8, 9, 10, 11] rfl (q0 := 0) rfl (ci := 7) rfl g_Mod_79 hd_Mod_turns rfl ⟨Nat.le_of_ble_eq_true rfl, Nat.le_of_ble_eq_true rfl⟩ ⟨Nat.zero_le _, Nat.zero_le _⟩ hl rfl (Nat.le_of_ble_eq_true rfl) dX7_cross_24 ?_
    refine lv_aload_n (pc := 27) hx hb dX7_cross_27 rfl (lv_at hl 0 rfl) ?_
    refine lv_iload_n (pc := 28) hx hb dX7_cross_28 rfl (lv_at hl 3 rfl) ?_
    refine lv_iload (pc := 29) hx hb dX7_cross_29 (lv_at hl 4 rfl) ?_
    refine lv_iload_n (pc := 31) hx hb dX7_cross_31 rfl (lv_at hl 2 rfl) ?_
    obtain ⟨v62, h_v62, h⟩ := ob h
    refine rdV (pc := 32) (As := [.int a2, .int a3, .int a1]) (rest := [.int v61]) hx hb hml hown hts hG hP (c_Mod_turns l K ad mthr mnow mold mols msav miss minp mlen mat medg mcor mtri mkep mkee mwor mnum mmet a2 a3 a1 h_v62) [0, 1, 2, 3, 4, 5, 6, 7, 8, 9, 10, 11] rfl (q0 := 0) rfl (ci := 7) rfl g_Mod_79 hd_Mod_turns rfl ⟨Nat.le_of_ble_eq_true rfl, Nat.le_of_ble_eq_true rfl⟩ ⟨Nat.zero_le _, Nat.zero_le _⟩ hl rfl (Nat.le_of_ble_eq_true rfl) dX7_cross_32 ?_
    refine lv_imul (pc := 35) hx hb dX7_cross_35 ?_
    refine lv_if_ge (tgt := 41) (pc := 36) hx hb dX7_cross_36 (by decide) (fun c63 => ?_) (fun c63 => ?_)
    · have h := it_t c63 h
      refine lv_aload_n (pc := 41) hx hb dX7_cross_41 rfl (lv_at hl 0 rfl) ?_
      refine lv_iload_n (pc := 42) hx hb dX7_cross_42 rfl (lv_at hl 1 rfl) ?_
      refine lv_iload_n (pc := 43) hx hb dX7_cross_43 rfl (lv_at hl 2 rfl) ?_
      refine lv_iload_n (pc := 44) hx hb dX7_cross_44 rfl (lv_at hl 3 rfl) ?_
      obtain ⟨v64, h_v64, h⟩ := ob h
      refine rdV (pc := 45) (As := [.int a0, .int a1, .int a2]) (rest := []) hx hb hml hown hts hG hP (c_Mod_turns l K ad mthr mnow mold mols msav miss minp mlen mat medg mcor mtri mkep mkee mwor mnum mmet a0 a1 a2 h_v64) [0, 1, 2, 3, 4, 5, 6, 7, 8, 9, 10, 11] rfl (q0 := 0) rfl (ci := 7) rfl g_Mod_79 hd_Mod_turns rfl ⟨Nat.le_of_ble_eq_true rfl, Nat.le_of_ble_eq_true rfl⟩ ⟨Nat.zero_le _, Nat.zero_le _⟩ hl rfl (Nat.le_of_ble_eq_true rfl) dX7_cross_45 ?_
      refine lv_if_ne (tgt := 62) (pc := 48) hx hb dX7_cross_48 (by decide) (fun c65 => ?_) (fun c65 => ?_)
      · have h := it_f c65 h
        refine lv_iconst (v := (0 : Int32)) (pc := 62) hx hb dX7_cross_62 (by decide) ?_
        obtain rfl := Option.some.inj h
        exact W.zret hx hb hr (rfl) (fun t ht hW => ⟨rfl, ht⟩) (fun q hq => absurd hq List.not_mem_nil) dX7_cross_63 hlk
      · have h := it_t c65 h
        refine lv_aload_n (pc := 51) hx hb dX7_cross_51 rfl (lv_at hl 0 rfl) ?_
        refine lv_iload_n (pc := 52) hx hb dX7_cross_52 rfl (lv_at hl 1 rfl) ?_
        refine lv_iload_n (pc := 53) hx hb dX7_cross_53 rfl (lv_at hl 2 rfl) ?_
        refine lv_iload (pc := 54) hx hb dX7_cross_54 (lv_at hl 4 rfl) ?_
        obtain ⟨v66, h_v66, h⟩ := ob h
        refine rdV (pc := 56) (As := [.int a0, .int a1, .int a3]) (rest := []) hx hb hml hown hts hG hP (c_Mod_turns l K ad mthr mnow mold mols msav miss minp mlen mat medg mcor mtri mkep mkee mwor mnum mmet a0 a1 a3 h_v66) [0, 1, 2, 3, 4, 5, 6, 7, 8, 9, 10, 11] rfl (q0 := 0) rfl (ci := 7) rfl g_Mod_79 hd_Mod_turns rfl ⟨Nat.le_of_ble_eq_true rfl, Nat.le_of_ble_eq_true rfl⟩ ⟨Nat.zero_le _, Nat.zero_le _⟩ hl rfl (Nat.le_of_ble_eq_true rfl) dX7_cross_56 ?_
        refine lv_if_eq (tgt := 64) (pc := 59) hx hb dX7_cross_59 (by decide) (fun c67 => ?_) (fun c67 => ?_)
        · have h := it_t c67 h
          refine lv_iload_n (pc := 64) hx hb dX7_cross_64 rfl (lv_at hl 1 rfl) ?_
          refine lv_iload_n (pc := 65) hx hb dX7_cross_65 rfl (lv_at hl 2 rfl) ?_
          refine my_mmin (pc := 66) hx hb hml hl.1 hown hts qm_Mod_83 (Nat.le_of_ble_eq_true rfl) (Nat.le_of_ble_eq_true rfl) ⟨Nat.zero_le _, Nat.zero_le _⟩ dX7_cross_66 ?_
          refine lv_iload_n (pc := 69) hx hb dX7_cross_69 rfl (lv_at hl 3 rfl) ?_
          refine lv_iload (pc := 70) hx hb dX7_cross_70 (lv_at hl 4 rfl) ?_
          refine my_mmin (pc := 72) hx hb hml hl.1 hown hts qm_Mod_83 (Nat.le_of_ble_eq_true rfl) (Nat.le_of_ble_eq_true rfl) ⟨Nat.zero_le _, Nat.zero_le _⟩ dX7_cross_72 ?_
          refine lv_icmp_ne (tgt := 96) (pc := 75) hx hb dX7_cross_75 (by decide) (fun c68 => ?_) (fun c68 => ?_)
          · have h := it_f c68 h
            refine lv_iconst (v := (0 : Int32)) (pc := 96) hx hb dX7_cross_96 (by decide) ?_
            refine lv_istore (pc := 97) (lv' := [(5, .int (0 : Int32)), (0, .ref (ad 0)), (1, .int a0), (2, .int a1), (3, .int a2), (4, .int a3)]) hx hb dX7_cross_97 hl (by decide) rfl (fun ls hl => ?_)
            refine lv_iload (pc := 99) hx hb dX7_cross_99 (lv_at hl 0 rfl) ?_
            refine lv_if_ne (tgt := 184) (pc := 101) hx hb dX7_cross_101 (by decide) (fun c69 => ?_) (fun c69 => ?_)
            · have h := it_f c69 h
              refine lv_iconst (v := (1 : Int32)) (pc := 184) hx hb dX7_cross_184 (by decide) ?_
              refine lv_goto (tgt := 189) (pc := 185) hx hb dX7_cross_185 (by decide) ?_
              obtain rfl := Option.some.inj h
              exact W.zret hx hb hr (rfl) (fun t ht hW => ⟨rfl, ht⟩) (fun q hq => absurd hq List.not_mem_nil) dX7_cross_189 hlk
            · have h := it_t c69 h
              refine lv_aload_n (pc := 104) hx hb dX7_cross_104 rfl (lv_at hl 1 rfl) ?_
              refine lv_iload_n (pc := 105) hx hb dX7_cross_105 rfl (lv_at hl 2 rfl) ?_
              refine lv_iload_n (pc := 106) hx hb dX7_cross_106 rfl (lv_at hl 3 rfl) ?_
              refine lv_aload_n (pc := 107) hx hb dX7_cross_107 rfl (lv_at hl 1 rfl) ?_
              refine lv_iload_n (pc := 108) hx hb dX7_cross_108 rfl (lv_at hl 4 rfl) ?_
              obtain ⟨v70, h_v70, h⟩ := ob h
              refine rdV (pc := 109) (As := [.int a2]) (rest := [.int a1, .int a0, .ref (ad 0)]) hx hb hml hown hts hG hP (c_Mod_x l K ad mthr mnow mold mols msav miss minp mlen mat medg mcor mtri mkep mkee mwor mnum mmet a2 h_v70) [0, 1, 2, 3, 4, 5, 6, 7, 8, 9, 10, 11] rfl (q0 := 0) rfl (ci := 7) rfl g_Mod_65 hd_Mod_x rfl ⟨Nat.le_of_ble_eq_true rfl, Nat.le_of_ble_eq_true rfl⟩ ⟨Nat.zero_le _, Nat.zero_le _⟩ hl rfl (Nat.le_of_ble_eq_true rfl) dX7_cross_109 ?_
              refine lv_aload_n (pc := 112) hx hb dX7_cross_112 rfl (lv_at hl 1 rfl) ?_
              refine lv_iload_n (pc := 113) hx hb dX7_cross_113 rfl (lv_at hl 4 rfl) ?_
              obtain ⟨v71, h_v71, h⟩ := ob h
              refine rdV (pc := 114) (As := [.int a2]) (rest := [.int v70, .int a1, .int a0, .ref (ad 0)]) hx hb hml hown hts hG hP (c_Mod_y l K ad mthr mnow mold mols msav miss minp mlen mat medg mcor mtri mkep mkee mwor mnum mmet a2 h_v71) [0, 1, 2, 3, 4, 5, 6, 7, 8, 9, 10, 11] rfl (q0 := 0) rfl (ci := 7) rfl g_Mod_68 hd_Mod_y rfl ⟨Nat.le_of_ble_eq_true rfl, Nat.le_of_ble_eq_true rfl⟩ ⟨Nat.zero_le _, Nat.zero_le _⟩ hl rfl (Nat.le_of_ble_eq_true rfl) dX7_cross_114 ?_
              obtain ⟨v72, h_v72, h⟩ := ob h
              refine rdV (pc := 117) (As := [.int a0, .int a1, .int v70, .int v71]) (rest := []) hx hb hml hown hts hG hP (c_Mod_isOn l K ad mthr mnow mold mols msav miss minp mlen mat medg mcor mtri mkep mkee mwor mnum mmet a0 a1 v70 v71 h_v72) [0, 1, 2, 3, 4, 5, 6, 7, 8, 9, 10, 11] rfl (q0 := 0) rfl (ci := 7) rfl g_Mod_75 hd_Mod_isOn rfl ⟨Nat.le_of_ble_eq_true rfl, Nat.le_of_ble_eq_true rfl⟩ ⟨Nat.zero_le _, Nat.zero_le _⟩ hl rfl (Nat.le_of_ble_eq_true rfl) dX7_cross_117 ?_
              refine lv_if_ne (tgt := 184) (pc := 120) hx hb dX7_cross_120 (by decide) (fun c73 => ?_) (fun c73 => ?_)
              · have h := it_f c73 h
                refine lv_iconst (v := (1 : Int32)) (pc := 184) hx hb dX7_cross_184 (by decide) ?_
                refine lv_goto (tgt := 189) (pc := 185) hx hb dX7_cross_185 (by decide) ?_
                obtain rfl := Option.some.inj h
                exact W.zret hx hb hr (rfl) (fun t ht hW => ⟨rfl, ht⟩) (fun q hq => absurd hq List.not_mem_nil) dX7_cross_189 hlk
              · have h := it_t c73 h
                refine lv_aload_n (pc := 123) hx hb dX7_cross_123 rfl (lv_at hl 1 rfl) ?_
                refine lv_iload_n (pc := 124) hx hb dX7_cross_124 rfl (lv_at hl 2 rfl) ?_
                refine lv_iload_n (pc := 125) hx hb dX7_cross_125 rfl (lv_at hl 3 rfl) ?_
                refine lv_aload_n (pc := 126) hx hb dX7_cross_126 rfl (lv_at hl 1 rfl) ?_
                refine lv_iload (pc := 127) hx hb dX7_cross_127 (lv_at hl 5 rfl) ?_
                obtain ⟨v74, h_v74, h⟩ := ob h
                refine rdV (pc := 129) (As := [.int a3]) (rest := [.int a1, .int a0, .ref (ad 0)]) hx hb hml hown hts hG hP (c_Mod_x l K ad mthr mnow mold mols msav miss minp mlen mat medg mcor mtri mkep mkee mwor mnum mmet a3 h_v74) [0, 1, 2, 3, 4, 5, 6, 7, 8, 9, 10, 11] rfl (q0 := 0) rfl (ci := 7) rfl g_Mod_65 hd_Mod_x rfl ⟨Nat.le_of_ble_eq_true rfl, Nat.le_of_ble_eq_true rfl⟩ ⟨Nat.zero_le _, Nat.zero_le _⟩ hl rfl (Nat.le_of_ble_eq_true rfl) dX7_cross_129 ?_
                refine lv_aload_n (pc := 132) hx hb dX7_cross_132 rfl (lv_at hl 1 rfl) ?_
                refine lv_iload (pc := 133) hx hb dX7_cross_133 (lv_at hl 5 rfl) ?_
                obtain ⟨v75, h_v75, h⟩ := ob h
                refine rdV (pc := 135) (As := [.int a3]) (rest := [.int v74, .int a1, .int a0, .ref (ad 0)]) hx hb hml hown hts hG hP (c_Mod_y l K ad mthr mnow mold mols msav miss minp mlen mat medg mcor mtri mkep mkee mwor mnum mmet a3 h_v75) [0, 1, 2, 3, 4, 5, 6, 7, 8, 9, 10, 11] rfl (q0 := 0) rfl (ci := 7) rfl g_Mod_68 hd_Mod_y rfl ⟨Nat.le_of_ble_eq_true rfl, Nat.le_of_ble_eq_true rfl⟩ ⟨Nat.zero_le _, Nat.zero_le _⟩ hl rfl (Nat.le_of_ble_eq_true rfl) dX7_cross_135 ?_
                obtain ⟨v76, h_v76, h⟩ := ob h
                refine rdV (pc := 138) (As := [.int a0, .int a1, .int v74, .int v75]) (rest := []) hx hb hml hown hts hG hP (c_Mod_isOn l K ad mthr mnow mold mols msav miss minp mlen mat medg mcor mtri mkep mkee mwor mnum mmet a0 a1 v74 v75 h_v76) [0, 1, 2, 3, 4, 5, 6, 7, 8, 9, 10, 11] rfl (q0 := 0) rfl (ci := 7) rfl g_Mod_75 hd_Mod_isOn rfl ⟨Nat.le_of_ble_eq_true rfl, Nat.le_of_ble_eq_true rfl⟩ ⟨Nat.zero_le _, Nat.zero_le _⟩ hl rfl (Nat.le_of_ble_eq_true rfl) dX7_cross_138 ?_
                refine lv_if_ne (tgt := 184) (pc := 141) hx hb dX7_cross_141 (by decide) (fun c77 => ?_) (fun c77 => ?_)
                · have h := it_f c77 h
                  refine lv_iconst (v := (1 : Int32)) (pc := 184) hx hb dX7_cross_184 (by decide) ?_
                  refine lv_goto (tgt := 189) (pc := 185) hx hb dX7_cross_185 (by decide) ?_
                  obtain rfl := Option.some.inj h
                  exact W.zret hx hb hr (rfl) (fun t ht hW => ⟨rfl, ht⟩) (fun q hq => absurd hq List.not_mem_nil) dX7_cross_189 hlk
                · have h := it_t c77 h
                  refine lv_aload_n (pc := 144) hx hb dX7_cross_144 rfl (lv_at hl 1 rfl) ?_
                  refine lv_iload_n (pc := 145) hx hb dX7_cross_145 rfl (lv_at hl 4 rfl) ?_
                  refine lv_iload (pc := 146) hx hb dX7_cross_146 (lv_at hl 5 rfl) ?_
                  refine lv_aload_n (pc := 148) hx hb dX7_cross_148 rfl (lv_at hl 1 rfl) ?_
                  refine lv_iload_n (pc := 149) hx hb dX7_cross_149 rfl (lv_at hl 2 rfl) ?_
                  obtain ⟨v78, h_v78, h⟩ := ob h
                  refine rdV (pc := 150) (As := [.int a0]) (rest := [.int a3, .int a2, .ref (ad 0)]) hx hb hml hown hts hG hP (c_Mod_x l K ad mthr mnow mold mols msav miss minp mlen mat medg mcor mtri mkep mkee mwor mnum mmet a0 h_v78) [0, 1, 2, 3, 4, 5, 6, 7, 8, 9, 10, 11] rfl (q0 := 0) rfl (ci := 7) rfl g_Mod_65 hd_Mod_x rfl ⟨Nat.le_of_ble_eq_true rfl, Nat.le_of_ble_eq_true rfl⟩ ⟨Nat.zero_le _, Nat.zero_le _⟩ hl rfl (Nat.le_of_ble_eq_true rfl) dX7_cross_150 ?_
                  refine lv_aload_n (pc := 153) hx hb dX7_cross_153 rfl (lv_at hl 1 rfl) ?_
                  refine lv_iload_n (pc := 154) hx hb dX7_cross_154 rfl (lv_at hl 2 rfl) ?_
                  obtain ⟨v79, h_v79, h⟩ := ob h
                  refine rdV (pc := 155) (As := [.int a0]) (rest := [.int v78, .int a3, .int a2, .ref (ad 0)]) hx hb hml hown hts hG hP (c_Mod_y l K ad mthr mnow mold mols msav miss minp mlen mat medg mcor mtri mkep mkee mwor mnum mmet a0 h_v79) [0, 1, 2, 3, 4, 5, 6, 7, 8, 9, 10, 11] rfl (q0 := 0) rfl (ci := 7) rfl g_Mod_68 hd_Mod_y rfl ⟨Nat.le_of_ble_eq_true rfl, Nat.le_of_ble_eq_true rfl⟩ ⟨Nat.zero_le _, Nat.zero_le _⟩ hl rfl (Nat.le_of_ble_eq_true rfl) dX7_cross_155 ?_
                  obtain ⟨v80, h_v80, h⟩ := ob h
                  refine rdV (pc := 158) (As := [.int a2, .int a3, .int v78, .int v79]) (rest := []) hx hb hml hown hts hG hP (c_Mod_isOn l K ad mthr mnow mold mols msav miss minp mlen mat medg mcor mtri mkep mkee mwor mnum mmet a2 a3 v78 v79 h_v80) [0, 1, 2, 3, 4, 5, 6, 7, 8, 9, 10, 11] rfl (q0 := 0) rfl (ci := 7) rfl g_Mod_75 hd_Mod_isOn rfl ⟨Nat.le_of_ble_eq_true rfl, Nat.le_of_ble_eq_true rfl⟩ ⟨Nat.zero_le _, Nat.zero_le _⟩ hl rfl (Nat.le_of_ble_eq_true rfl) dX7_cross_158 ?_
                  refine lv_if_ne (tgt := 184) (pc := 161) hx hb dX7_cross_161 (by decide) (fun c81 => ?_) (fun c81 => ?_)
                  · have h := it_f c81 h
                    refine lv_iconst (v := (1 : Int32)) (pc := 184) hx hb dX7_cross_184 (by decide) ?_
                    refine lv_goto (tgt := 189) (pc := 185) hx hb dX7_cross_185 (by decide) ?_
                    obtain rfl := Option.some.inj h
                    exact W.zret hx hb hr (rfl) (fun t ht hW => ⟨rfl, ht⟩) (fun q hq => absurd hq List.not_mem_nil) dX7_cross_189 hlk
                  · have h := it_t c81 h
                    refine lv_aload_n (pc := 164) hx hb dX7_cross_164 rfl (lv_at hl 1 rfl) ?_
                    refine lv_iload_n (pc := 165) hx hb dX7_cross_165 rfl (lv_at hl 4 rfl) ?_
                    refine lv_iload (pc := 166) hx hb dX7_cross_166 (lv_at hl 5 rfl) ?_
                    refine lv_aload_n (pc := 168) hx hb dX7_cross_168 rfl (lv_at hl 1 rfl) ?_
                    refine lv_iload_n (pc := 169) hx hb dX7_cross_169 rfl (lv_at hl 3 rfl) ?_
                    obtain ⟨v82, h_v82, h⟩ := ob h
                    refine rdV (pc := 170) (As := [.int a1]) (rest := [.int a3, .int a2, .ref (ad 0)]) hx hb hml hown hts hG hP (c_Mod_x l K ad mthr mnow mold mols msav miss minp mlen mat medg mcor mtri mkep mkee mwor mnum mmet a1 h_v82) [0, 1, 2, 3, 4, 5, 6, 7, 8, 9, 10, 11] rfl (q0 := 0) rfl (ci := 7) rfl g_Mod_65 hd_Mod_x rfl ⟨Nat.le_of_ble_eq_true rfl, Nat.le_of_ble_eq_true rfl⟩ ⟨Nat.zero_le _, Nat.zero_le _⟩ hl rfl (Nat.le_of_ble_eq_true rfl) dX7_cross_170 ?_
                    refine lv_aload_n (pc := 173) hx hb dX7_cross_173 rfl (lv_at hl 1 rfl) ?_
                    refine lv_iload_n (pc := 174) hx hb dX7_cross_174 rfl (lv_at hl 3 rfl) ?_
                    obtain ⟨v83, h_v83, h⟩ := ob h
                    refine rdV (pc := 175) (As := [.int a1]) (rest := [.int v82, .int a3, .int a2, .ref (ad 0)]) hx hb hml hown hts hG hP (c_Mod_y l K ad mthr mnow mold mols msav miss minp mlen mat medg mcor mtri mkep mkee mwor mnum mmet a1 h_v83) [0, 1, 2, 3, 4, 5, 6, 7, 8, 9, 10, 11] rfl (q0 := 0) rfl (ci := 7) rfl g_Mod_68 hd_Mod_y rfl ⟨Nat.le_of_ble_eq_true rfl, Nat.le_of_ble_eq_true rfl⟩ ⟨Nat.zero_le _, Nat.zero_le _⟩ hl rfl (Nat.le_of_ble_eq_true rfl) dX7_cross_175 ?_
                    obtain ⟨v84, h_v84, h⟩ := ob h
                    refine rdV (pc := 178) (As := [.int a2, .int a3, .int v82, .int v83]) (rest := []) hx hb hml hown hts hG hP (c_Mod_isOn l K ad mthr mnow mold mols msav miss minp mlen mat medg mcor mtri mkep mkee mwor mnum mmet a2 a3 v82 v83 h_v84) [0, 1, 2, 3, 4, 5, 6, 7, 8, 9, 10, 11] rfl (q0 := 0) rfl (ci := 7) rfl g_Mod_75 hd_Mod_isOn rfl ⟨Nat.le_of_ble_eq_true rfl, Nat.le_of_ble_eq_true rfl⟩ ⟨Nat.zero_le _, Nat.zero_le _⟩ hl rfl (Nat.le_of_ble_eq_true rfl) dX7_cross_178 ?_
                    refine lv_if_eq (tgt := 188) (pc := 181) hx hb dX7_cross_181 (by decide) (fun c85 => ?_) (fun c85 => ?_)
                    · have h := it_t c85 h
                      refine lv_iconst (v := (0 : Int32)) (pc := 188) hx hb dX7_cross_188 (by decide) ?_
                      obtain rfl := Option.some.inj h
                      exact W.zret hx hb hr (rfl) (fun t ht hW => ⟨rfl, ht⟩) (fun q hq => absurd hq List.not_mem_nil) dX7_cross_189 hlk
                    · have h := it_f c85 h
                      refine lv_iconst (v := (1 : Int32)) (pc := 184) hx hb dX7_cross_184 (by decide) ?_
                      refine lv_goto (tgt := 189) (pc := 185) hx hb dX7_cross_185 (by decide) ?_
                      obtain rfl := Option.some.inj h
                      exact W.zret hx hb hr (rfl) (fun t ht hW => ⟨rfl, ht⟩) (fun q hq => absurd hq List.not_mem_nil) dX7_cross_189 hlk
          · have h := it_t c68 h
            refine lv_iload_n (pc := 78) hx hb dX7_cross_78 rfl (lv_at hl 1 rfl) ?_
            refine lv_iload_n (pc := 79) hx hb dX7_cross_79 rfl (lv_at hl 2 rfl) ?_
            refine my_mmax (pc := 80) hx hb hml hl.1 hown hts qm_Mod_89 (Nat.le_of_ble_eq_true rfl) (Nat.le_of_ble_eq_true rfl) ⟨Nat.zero_le _, Nat.zero_le _⟩ dX7_cross_80 ?_
            refine lv_iload_n (pc := 83) hx hb dX7_cross_83 rfl (lv_at hl 3 rfl) ?_
            refine lv_iload (pc := 84) hx hb dX7_cross_84 (lv_at hl 4 rfl) ?_
            refine my_mmax (pc := 86) hx hb hml hl.1 hown hts qm_Mod_89 (Nat.le_of_ble_eq_true rfl) (Nat.le_of_ble_eq_true rfl) ⟨Nat.zero_le _, Nat.zero_le _⟩ dX7_cross_86 ?_
            refine lv_icmp_ne (tgt := 96) (pc := 89) hx hb dX7_cross_89 (by decide) (fun c86 => ?_) (fun c86 => ?_)
            · have h := it_f c86 h
              refine lv_iconst (v := (0 : Int32)) (pc := 96) hx hb dX7_cross_96 (by decide) ?_
              refine lv_istore (pc := 97) (lv' := [(5, .int (0 : Int32)), (0, .ref (ad 0)), (1, .int a0), (2, .int a1), (3, .int a2), (4, .int a3)]) hx hb dX7_cross_97 hl (by decide) rfl (fun ls hl => ?_)
              refine lv_iload (pc := 99) hx hb dX7_cross_99 (lv_at hl 0 rfl) ?_
              refine lv_if_ne (tgt := 184) (pc := 101) hx hb dX7_cross_101 (by decide) (fun c87 => ?_) (fun c87 => ?_)
              · have h := it_f c87 h
                refine lv_iconst (v := (1 : Int32)) (pc := 184) hx hb dX7_cross_184 (by decide) ?_
                refine lv_goto (tgt := 189) (pc := 185) hx hb dX7_cross_185 (by decide) ?_
                obtain rfl := Option.some.inj h
                exact W.zret hx hb hr (rfl) (fun t ht hW => ⟨rfl, ht⟩) (fun q hq => absurd hq List.not_mem_nil) dX7_cross_189 hlk
              · have h := it_t c87 h
                refine lv_aload_n (pc := 104) hx hb dX7_cross_104 rfl (lv_at hl 1 rfl) ?_
                refine lv_iload_n (pc := 105) hx hb dX7_cross_105 rfl (lv_at hl 2 rfl) ?_
                refine lv_iload_n (pc := 106) hx hb dX7_cross_106 rfl (lv_at hl 3 rfl) ?_
                refine lv_aload_n (pc := 107) hx hb dX7_cross_107 rfl (lv_at hl 1 rfl) ?_
                refine lv_iload_n (pc := 108) hx hb dX7_cross_108 rfl (lv_at hl 4 rfl) ?_
                obtain ⟨v88, h_v88, h⟩ := ob h
                refine rdV (pc := 109) (As := [.int a2]) (rest := [.int a1, .int a0, .ref (ad 0)]) hx hb hml hown hts hG hP (c_Mod_x l K ad mthr mnow mold mols msav miss minp mlen mat medg mcor mtri mkep mkee mwor mnum mmet a2 h_v88) [0, 1, 2, 3, 4, 5, 6, 7, 8, 9, 10, 11] rfl (q0 := 0) rfl (ci := 7) rfl g_Mod_65 hd_Mod_x rfl ⟨Nat.le_of_ble_eq_true rfl, Nat.le_of_ble_eq_true rfl⟩ ⟨Nat.zero_le _, Nat.zero_le _⟩ hl rfl (Nat.le_of_ble_eq_true rfl) dX7_cross_109 ?_
                refine lv_aload_n (pc := 112) hx hb dX7_cross_112 rfl (lv_at hl 1 rfl) ?_
                refine lv_iload_n (pc := 113) hx hb dX7_cross_113 rfl (lv_at hl 4 rfl) ?_
                obtain ⟨v89, h_v89, h⟩ := ob h
                refine rdV (pc := 114) (As := [.int a2]) (rest := [.int v88, .int a1, .int a0, .ref (ad 0)]) hx hb hml hown hts hG hP (c_Mod_y l K ad mthr mnow mold mols msav miss minp mlen mat medg mcor mtri mkep mkee mwor mnum mmet a2 h_v89) [0, 1, 2, 3, 4, 5, 6, 7, 8, 9, 10, 11] rfl (q0 := 0) rfl (ci := 7) rfl g_Mod_68 hd_Mod_y rfl ⟨Nat.le_of_ble_eq_true rfl, Nat.le_of_ble_eq_true rfl⟩ ⟨Nat.zero_le _, Nat.zero_le _⟩ hl rfl (Nat.le_of_ble_eq_true rfl) dX7_cross_114 ?_
                obtain ⟨v90, h_v90, h⟩ := ob h
                refine rdV (pc := 117) (As := [.int a0, .int a1, .int v88, .int v89]) (rest := []) hx hb hml hown hts hG hP (c_Mod_isOn l K ad mthr mnow mold mols msav miss minp mlen mat medg mcor mtri mkep mkee mwor mnum mmet a0 a1 v88 v89 h_v90) [0, 1, 2, 3, 4, 5, 6, 7, 8, 9, 10, 11] rfl (q0 := 0) rfl (ci := 7) rfl g_Mod_75 hd_Mod_isOn rfl ⟨Nat.le_of_ble_eq_true rfl, Nat.le_of_ble_eq_true rfl⟩ ⟨Nat.zero_le _, Nat.zero_le _⟩ hl rfl (Nat.le_of_ble_eq_true rfl) dX7_cross_117 ?_
                refine lv_if_ne (tgt := 184) (pc := 120) hx hb dX7_cross_120 (by decide) (fun c91 => ?_) (fun c91 => ?_)
                · have h := it_f c91 h
                  refine lv_iconst (v := (1 : Int32)) (pc := 184) hx hb dX7_cross_184 (by decide) ?_
                  refine lv_goto (tgt := 189) (pc := 185) hx hb dX7_cross_185 (by decide) ?_
                  obtain rfl := Option.some.inj h
                  exact W.zret hx hb hr (rfl) (fun t ht hW => ⟨rfl, ht⟩) (fun q hq => absurd hq List.not_mem_nil) dX7_cross_189 hlk
                · have h := it_t c91 h
                  refine lv_aload_n (pc := 123) hx hb dX7_cross_123 rfl (lv_at hl 1 rfl) ?_
                  refine lv_iload_n (pc := 124) hx hb dX7_cross_124 rfl (lv_at hl 2 rfl) ?_
                  refine lv_iload_n (pc := 125) hx hb dX7_cross_125 rfl (lv_at hl 3 rfl) ?_
                  refine lv_aload_n (pc := 126) hx hb dX7_cross_126 rfl (lv_at hl 1 rfl) ?_
                  refine lv_iload (pc := 127) hx hb dX7_cross_127 (lv_at hl 5 rfl) ?_
                  obtain ⟨v92, h_v92, h⟩ := ob h
                  refine rdV (pc := 129) (As := [.int a3]) (rest := [.int a1, .int a0, .ref (ad 0)]) hx hb hml hown hts hG hP (c_Mod_x l K ad mthr mnow mold mols msav miss minp mlen mat medg mcor mtri mkep mkee mwor mnum mmet a3 h_v92) [0, 1, 2, 3, 4, 5, 6, 7, 8, 9, 10, 11] rfl (q0 := 0) rfl (ci := 7) rfl g_Mod_65 hd_Mod_x rfl ⟨Nat.le_of_ble_eq_true rfl, Nat.le_of_ble_eq_true rfl⟩ ⟨Nat.zero_le _, Nat.zero_le _⟩ hl rfl (Nat.le_of_ble_eq_true rfl) dX7_cross_129 ?_
                  refine lv_aload_n (pc := 132) hx hb dX7_cross_132 rfl (lv_at hl 1 rfl) ?_
                  refine lv_iload (pc := 133) hx hb dX7_cross_133 (lv_at hl 5 rfl) ?_
                  obtain ⟨v93, h_v93, h⟩ := ob h
                  refine rdV (pc := 135) (As := [.int a3]) (rest := [.int v92, .int a1, .int a0, .ref (ad 0)]) hx hb hml hown hts hG hP (c_Mod_y l K ad mthr mnow mold mols msav miss minp mlen mat medg mcor mtri mkep mkee mwor mnum mmet a3 h_v93) [0, 1, 2, 3, 4, 5, 6, 7, 8, 9, 10, 11] rfl (q0 := 0) rfl (ci := 7) rfl g_Mod_68 hd_Mod_y rfl ⟨Nat.le_of_ble_eq_true rfl, Nat.le_of_ble_eq_true rfl⟩ ⟨Nat.zero_le _, Nat.zero_le _⟩ hl rfl (Nat.le_of_ble_eq_true rfl) dX7_cross_135 ?_
                  obtain ⟨v94, h_v94, h⟩ := ob h
                  refine rdV (pc := 138) (As := [.int a0, .int a1, .int v92, .int v93]) (rest := []) hx hb hml hown hts hG hP (c_Mod_isOn l K ad mthr mnow mold mols msav miss minp mlen mat medg mcor mtri mkep mkee mwor mnum mmet a0 a1 v92 v93 h_v94) [0, 1, 2, 3, 4, 5, 6, 7, 8, 9, 10, 11] rfl (q0 := 0) rfl (ci := 7) rfl g_Mod_75 hd_Mod_isOn rfl ⟨Nat.le_of_ble_eq_true rfl, Nat.le_of_ble_eq_true rfl⟩ ⟨Nat.zero_le _, Nat.zero_le _⟩ hl rfl (Nat.le_of_ble_eq_true rfl) dX7_cross_138 ?_
                  refine lv_if_ne (tgt := 184) (pc := 141) hx hb dX7_cross_141 (by decide) (fun c95 => ?_) (fun c95 => ?_)
                  · have h := it_f c95 h
                    refine lv_iconst (v := (1 : Int32)) (pc := 184) hx hb dX7_cross_184 (by decide) ?_
                    refine lv_goto (tgt := 189) (pc := 185) hx hb dX7_cross_185 (by decide) ?_
                    obtain rfl := Option.some.inj h
                    exact W.zret hx hb hr (rfl) (fun t ht hW => ⟨rfl, ht⟩) (fun q hq => absurd hq List.not_mem_nil) dX7_cross_189 hlk
                  · have h := it_t c95 h
                    refine lv_aload_n (pc := 144) hx hb dX7_cross_144 rfl (lv_at hl 1 rfl) ?_
                    refine lv_iload_n (pc := 145) hx hb dX7_cross_145 rfl (lv_at hl 4 rfl) ?_
                    refine lv_iload (pc := 146) hx hb dX7_cross_146 (lv_at hl 5 rfl) ?_
                    refine lv_aload_n (pc := 148) hx hb dX7_cross_148 rfl (lv_at hl 1 rfl) ?_
                    refine lv_iload_n (pc := 149) hx hb dX7_cross_149 rfl (lv_at hl 2 rfl) ?_
                    obtain ⟨v96, h_v96, h⟩ := ob h
                    refine rdV (pc := 150) (As := [.int a0]) (rest := [.int a3, .int a2, .ref (ad 0)]) hx hb hml hown hts hG hP (c_Mod_x l K ad mthr mnow mold mols msav miss minp mlen mat medg mcor mtri mkep mkee mwor mnum mmet a0 h_v96) [0, 1, 2, 3, 4, 5, 6, 7, 8, 9, 10, 11] rfl (q0 := 0) rfl (ci := 7) rfl g_Mod_65 hd_Mod_x rfl ⟨Nat.le_of_ble_eq_true rfl, Nat.le_of_ble_eq_true rfl⟩ ⟨Nat.zero_le _, Nat.zero_le _⟩ hl rfl (Nat.le_of_ble_eq_true rfl) dX7_cross_150 ?_
                    refine lv_aload_n (pc := 153) hx hb dX7_cross_153 rfl (lv_at hl 1 rfl) ?_
                    refine lv_iload_n (pc := 154) hx hb dX7_cross_154 rfl (lv_at hl 2 rfl) ?_
                    obtain ⟨v97, h_v97, h⟩ := ob h
                    refine rdV (pc := 155) (As := [.int a0]) (rest := [.int v96, .int a3, .int a2, .ref (ad 0)]) hx hb hml hown hts hG hP (c_Mod_y l K ad mthr mnow mold mols msav miss minp mlen mat medg mcor mtri mkep mkee mwor mnum mmet a0 h_v97) [0, 1, 2, 3, 4, 5, 6, 7, 8, 9, 10, 11] rfl (q0 := 0) rfl (ci := 7) rfl g_Mod_68 hd_Mod_y rfl ⟨Nat.le_of_ble_eq_true rfl, Nat.le_of_ble_eq_true rfl⟩ ⟨Nat.zero_le _, Nat.zero_le _⟩ hl rfl (Nat.le_of_ble_eq_true rfl) dX7_cross_155 ?_
                    obtain ⟨v98, h_v98, h⟩ := ob h
                    refine rdV (pc := 158) (As := [.int a2, .int a3, .int v96, .int v97]) (rest := []) hx hb hml hown hts hG hP (c_Mod_isOn l K ad mthr mnow mold mols msav miss minp mlen mat medg mcor mtri mkep mkee mwor mnum mmet a2 a3 v96 v97 h_v98) [0, 1, 2, 3, 4, 5, 6, 7, 8, 9, 10, 11] rfl (q0 := 0) rfl (ci := 7) rfl g_Mod_75 hd_Mod_isOn rfl ⟨Nat.le_of_ble_eq_true rfl, Nat.le_of_ble_eq_true rfl⟩ ⟨Nat.zero_le _, Nat.zero_le _⟩ hl rfl (Nat.le_of_ble_eq_true rfl) dX7_cross_158 ?_
                    refine lv_if_ne (tgt := 184) (pc := 161) hx hb dX7_cross_161 (by decide) (fun c99 => ?_) (fun c99 => ?_)
                    · have h := it_f c99 h
                      refine lv_iconst (v := (1 : Int32)) (pc := 184) hx hb dX7_cross_184 (by decide) ?_
                      refine lv_goto (tgt := 189) (pc := 185) hx hb dX7_cross_185 (by decide) ?_
                      obtain rfl := Option.some.inj h
                      exact W.zret hx hb hr (rfl) (fun t ht hW => ⟨rfl, ht⟩) (fun q hq => absurd hq List.not_mem_nil) dX7_cross_189 hlk
                    · have h := it_t c99 h
                      refine lv_aload_n (pc := 164) hx hb dX7_cross_164 rfl (lv_at hl 1 rfl) ?_
                      refine lv_iload_n (pc := 165) hx hb dX7_cross_165 rfl (lv_at hl 4 rfl) ?_
                      refine lv_iload (pc := 166) hx hb dX7_cross_166 (lv_at hl 5 rfl) ?_
                      refine lv_aload_n (pc := 168) hx hb dX7_cross_168 rfl (lv_at hl 1 rfl) ?_
                      refine lv_iload_n (pc := 169) hx hb dX7_cross_169 rfl (lv_at hl 3 rfl) ?_
                      obtain ⟨v100, h_v100, h⟩ := ob h
                      refine rdV (pc := 170) (As := [.int a1]) (rest := [.int a3, .int a2, .ref (ad 0)]) hx hb hml hown hts hG hP (c_Mod_x l K ad mthr mnow mold mols msav miss minp mlen mat medg mcor mtri mkep mkee mwor mnum mmet a1 h_v100) [0, 1, 2, 3, 4, 5, 6, 7, 8, 9, 10, 11] rfl (q0 := 0) rfl (ci := 7) rfl g_Mod_65 hd_Mod_x rfl ⟨Nat.le_of_ble_eq_true rfl, Nat.le_of_ble_eq_true rfl⟩ ⟨Nat.zero_le _, Nat.zero_le _⟩ hl rfl (Nat.le_of_ble_eq_true rfl) dX7_cross_170 ?_
                      refine lv_aload_n (pc := 173) hx hb dX7_cross_173 rfl (lv_at hl 1 rfl) ?_
                      refine lv_iload_n (pc := 174) hx hb dX7_cross_174 rfl (lv_at hl 3 rfl) ?_
                      obtain ⟨v101, h_v101, h⟩ := ob h
                      refine rdV (pc := 175) (As := [.int a1]) (rest := [.int v100, .int a3, .int a2, .ref (ad 0)]) hx hb hml hown hts hG hP (c_Mod_y l K ad mthr mnow mold mols msav miss minp mlen mat medg mcor mtri mkep mkee mwor mnum mmet a1 h_v101) [0, 1, 2, 3, 4, 5, 6, 7, 8, 9, 10, 11] rfl (q0 := 0) rfl (ci := 7) rfl g_Mod_68 hd_Mod_y rfl ⟨Nat.le_of_ble_eq_true rfl, Nat.le_of_ble_eq_true rfl⟩ ⟨Nat.zero_le _, Nat.zero_le _⟩ hl rfl (Nat.le_of_ble_eq_true rfl) dX7_cross_175 ?_
                      obtain ⟨v102, h_v102, h⟩ := ob h
                      refine rdV (pc := 178) (As := [.int a2, .int a3, .int v100, .int v101]) (rest := []) hx hb hml hown hts hG hP (c_Mod_isOn l K ad mthr mnow mold mols msav miss minp mlen mat medg mcor mtri mkep mkee mwor mnum mmet a2 a3 v100 v101 h_v102) [0, 1, 2, 3, 4, 5, 6, 7, 8, 9, 10, 11] rfl (q0 := 0) rfl (ci := 7) rfl g_Mod_75 hd_Mod_isOn rfl ⟨Nat.le_of_ble_eq_true rfl, Nat.le_of_ble_eq_true rfl⟩ ⟨Nat.zero_le _, Nat.zero_le _⟩ hl rfl (Nat.le_of_ble_eq_true rfl) dX7_cross_178 ?_
                      refine lv_if_eq (tgt := 188) (pc := 181) hx hb dX7_cross_181 (by decide) (fun c103 => ?_) (fun c103 => ?_)
                      · have h := it_t c103 h
                        refine lv_iconst (v := (0 : Int32)) (pc := 188) hx hb dX7_cross_188 (by decide) ?_
                        obtain rfl := Option.some.inj h
                        exact W.zret hx hb hr (rfl) (fun t ht hW => ⟨rfl, ht⟩) (fun q hq => absurd hq List.not_mem_nil) dX7_cross_189 hlk
                      · have h := it_f c103 h
                        refine lv_iconst (v := (1 : Int32)) (pc := 184) hx hb dX7_cross_184 (by decide) ?_
                        refine lv_goto (tgt := 189) (pc := 185) hx hb dX7_cross_185 (by decide) ?_
                        obtain rfl := Option.some.inj h
                        exact W.zret hx hb hr (rfl) (fun t ht hW => ⟨rfl, ht⟩) (fun q hq => absurd hq List.not_mem_nil) dX7_cross_189 hlk
            · have h := it_t c86 h
              refine lv_iconst (v := (1 : Int32)) (pc := 92) hx hb dX7_cross_92 (by decide) ?_
              refine lv_goto (tgt := 97) (pc := 93) hx hb dX7_cross_93 (by decide) ?_
              refine lv_istore (pc := 97) (lv' := [(5, .int (1 : Int32)), (0, .ref (ad 0)), (1, .int a0), (2, .int a1), (3, .int a2), (4, .int a3)]) hx hb dX7_cross_97 hl (by decide) rfl (fun ls hl => ?_)
              refine lv_iload (pc := 99) hx hb dX7_cross_99 (lv_at hl 0 rfl) ?_
              refine lv_if_ne (tgt := 184) (pc := 101) hx hb dX7_cross_101 (by decide) (fun c104 => ?_) (fun c104 => ?_)
              · have h := it_f c104 h
                refine lv_iconst (v := (1 : Int32)) (pc := 184) hx hb dX7_cross_184 (by decide) ?_
                refine lv_goto (tgt := 189) (pc := 185) hx hb dX7_cross_185 (by decide) ?_
                obtain rfl := Option.some.inj h
                exact W.zret hx hb hr (rfl) (fun t ht hW => ⟨rfl, ht⟩) (fun q hq => absurd hq List.not_mem_nil) dX7_cross_189 hlk
              · have h := it_t c104 h
                refine lv_aload_n (pc := 104) hx hb dX7_cross_104 rfl (lv_at hl 1 rfl) ?_
                refine lv_iload_n (pc := 105) hx hb dX7_cross_105 rfl (lv_at hl 2 rfl) ?_
                refine lv_iload_n (pc := 106) hx hb dX7_cross_106 rfl (lv_at hl 3 rfl) ?_
                refine lv_aload_n (pc := 107) hx hb dX7_cross_107 rfl (lv_at hl 1 rfl) ?_
                refine lv_iload_n (pc := 108) hx hb dX7_cross_108 rfl (lv_at hl 4 rfl) ?_
                obtain ⟨v105, h_v105, h⟩ := ob h
                refine rdV (pc := 109) (As := [.int a2]) (rest := [.int a1, .int a0, .ref (ad 0)]) hx hb hml hown hts hG hP (c_Mod_x l K ad mthr mnow mold mols msav miss minp mlen mat medg mcor mtri mkep mkee mwor mnum mmet a2 h_v105) [0, 1, 2, 3, 4, 5, 6, 7, 8, 9, 10, 11] rfl (q0 := 0) rfl (ci := 7) rfl g_Mod_65 hd_Mod_x rfl ⟨Nat.le_of_ble_eq_true rfl, Nat.le_of_ble_eq_true rfl⟩ ⟨Nat.zero_le _, Nat.zero_le _⟩ hl rfl (Nat.le_of_ble_eq_true rfl) dX7_cross_109 ?_
                refine lv_aload_n (pc := 112) hx hb dX7_cross_112 rfl (lv_at hl 1 rfl) ?_
                refine lv_iload_n (pc := 113) hx hb dX7_cross_113 rfl (lv_at hl 4 rfl) ?_
                obtain ⟨v106, h_v106, h⟩ := ob h
                refine rdV (pc := 114) (As := [.int a2]) (rest := [.int v105, .int a1, .int a0, .ref (ad 0)]) hx hb hml hown hts hG hP (c_Mod_y l K ad mthr mnow mold mols msav miss minp mlen mat medg mcor mtri mkep mkee mwor mnum mmet a2 h_v106) [0, 1, 2, 3, 4, 5, 6, 7, 8, 9, 10, 11] rfl (q0 := 0) rfl (ci := 7) rfl g_Mod_68 hd_Mod_y rfl ⟨Nat.le_of_ble_eq_true rfl, Nat.le_of_ble_eq_true rfl⟩ ⟨Nat.zero_le _, Nat.zero_le _⟩ hl rfl (Nat.le_of_ble_eq_true rfl) dX7_cross_114 ?_
                obtain ⟨v107, h_v107, h⟩ := ob h
                refine rdV (pc := 117) (As := [.int a0, .int a1, .int v105, .int v106]) (rest := []) hx hb hml hown hts hG hP (c_Mod_isOn l K ad mthr mnow mold mols msav miss minp mlen mat medg mcor mtri mkep mkee mwor mnum mmet a0 a1 v105 v106 h_v107) [0, 1, 2, 3, 4, 5, 6, 7, 8, 9, 10, 11] rfl (q0 := 0) rfl (ci := 7) rfl g_Mod_75 hd_Mod_isOn rfl ⟨Nat.le_of_ble_eq_true rfl, Nat.le_of_ble_eq_true rfl⟩ ⟨Nat.zero_le _, Nat.zero_le _⟩ hl rfl (Nat.le_of_ble_eq_true rfl) dX7_cross_117 ?_
                refine lv_if_ne (tgt := 184) (pc := 120) hx hb dX7_cross_120 (by decide) (fun c108 => ?_) (fun c108 => ?_)
                · have h := it_f c108 h
                  refine lv_iconst (v := (1 : Int32)) (pc := 184) hx hb dX7_cross_184 (by decide) ?_
                  refine lv_goto (tgt := 189) (pc := 185) hx hb dX7_cross_185 (by decide) ?_
                  obtain rfl := Option.some.inj h
                  exact W.zret hx hb hr (rfl) (fun t ht hW => ⟨rfl, ht⟩) (fun q hq => absurd hq List.not_mem_nil) dX7_cross_189 hlk
                · have h := it_t c108 h
                  refine lv_aload_n (pc := 123) hx hb dX7_cross_123 rfl (lv_at hl 1 rfl) ?_
                  refine lv_iload_n (pc := 124) hx hb dX7_cross_124 rfl (lv_at hl 2 rfl) ?_
                  refine lv_iload_n (pc := 125) hx hb dX7_cross_125 rfl (lv_at hl 3 rfl) ?_
                  refine lv_aload_n (pc := 126) hx hb dX7_cross_126 rfl (lv_at hl 1 rfl) ?_
                  refine lv_iload (pc := 127) hx hb dX7_cross_127 (lv_at hl 5 rfl) ?_
                  obtain ⟨v109, h_v109, h⟩ := ob h
                  refine rdV (pc := 129) (As := [.int a3]) (rest := [.int a1, .int a0, .ref (ad 0)]) hx hb hml hown hts hG hP (c_Mod_x l K ad mthr mnow mold mols msav miss minp mlen mat medg mcor mtri mkep mkee mwor mnum mmet a3 h_v109) [0, 1, 2, 3, 4, 5, 6, 7, 8, 9, 10, 11] rfl (q0 := 0) rfl (ci := 7) rfl g_Mod_65 hd_Mod_x rfl ⟨Nat.le_of_ble_eq_true rfl, Nat.le_of_ble_eq_true rfl⟩ ⟨Nat.zero_le _, Nat.zero_le _⟩ hl rfl (Nat.le_of_ble_eq_true rfl) dX7_cross_129 ?_
                  refine lv_aload_n (pc := 132) hx hb dX7_cross_132 rfl (lv_at hl 1 rfl) ?_
                  refine lv_iload (pc := 133) hx hb dX7_cross_133 (lv_at hl 5 rfl) ?_
                  obtain ⟨v110, h_v110, h⟩ := ob h
                  refine rdV (pc := 135) (As := [.int a3]) (rest := [.int v109, .int a1, .int a0, .ref (ad 0)]) hx hb hml hown hts hG hP (c_Mod_y l K ad mthr mnow mold mols msav miss minp mlen mat medg mcor mtri mkep mkee mwor mnum mmet a3 h_v110) [0, 1, 2, 3, 4, 5, 6, 7, 8, 9, 10, 11] rfl (q0 := 0) rfl (ci := 7) rfl g_Mod_68 hd_Mod_y rfl ⟨Nat.le_of_ble_eq_true rfl, Nat.le_of_ble_eq_true rfl⟩ ⟨Nat.zero_le _, Nat.zero_le _⟩ hl rfl (Nat.le_of_ble_eq_true rfl) dX7_cross_135 ?_
                  obtain ⟨v111, h_v111, h⟩ := ob h
                  refine rdV (pc := 138) (As := [.int a0, .int a1, .int v109, .int v110]) (rest := []) hx hb hml hown hts hG hP (c_Mod_isOn l K ad mthr mnow mold mols msav miss minp mlen mat medg mcor mtri mkep mkee mwor mnum mmet a0 a1 v109 v110 h_v111) [0, 1, 2, 3, 4, 5, 6, 7, 8, 9, 10, 11] rfl (q0 := 0) rfl (ci := 7) rfl g_Mod_75 hd_Mod_isOn rfl ⟨Nat.le_of_ble_eq_true rfl, Nat.le_of_ble_eq_true rfl⟩ ⟨Nat.zero_le _, Nat.zero_le _⟩ hl rfl (Nat.le_of_ble_eq_true rfl) dX7_cross_138 ?_
                  refine lv_if_ne (tgt := 184) (pc := 141) hx hb dX7_cross_141 (by decide) (fun c112 => ?_) (fun c112 => ?_)
                  · have h := it_f c112 h
                    refine lv_iconst (v := (1 : Int32)) (pc := 184) hx hb dX7_cross_184 (by decide) ?_
                    refine lv_goto (tgt := 189) (pc := 185) hx hb dX7_cross_185 (by decide) ?_
                    obtain rfl := Option.some.inj h
                    exact W.zret hx hb hr (rfl) (fun t ht hW => ⟨rfl, ht⟩) (fun q hq => absurd hq List.not_mem_nil) dX7_cross_189 hlk
                  · have h := it_t c112 h
                    refine lv_aload_n (pc := 144) hx hb dX7_cross_144 rfl (lv_at hl 1 rfl) ?_
                    refine lv_iload_n (pc := 145) hx hb dX7_cross_145 rfl (lv_at hl 4 rfl) ?_
                    refine lv_iload (pc := 146) hx hb dX7_cross_146 (lv_at hl 5 rfl) ?_
                    refine lv_aload_n (pc := 148) hx hb dX7_cross_148 rfl (lv_at hl 1 rfl) ?_
                    refine lv_iload_n (pc := 149) hx hb dX7_cross_149 rfl (lv_at hl 2 rfl) ?_
                    obtain ⟨v113, h_v113, h⟩ := ob h
                    refine rdV (pc := 150) (As := [.int a0]) (rest := [.int a3, .int a2, .ref (ad 0)]) hx hb hml hown hts hG hP (c_Mod_x l K ad mthr mnow mold mols msav miss minp mlen mat medg mcor mtri mkep mkee mwor mnum mmet a0 h_v113) [0, 1, 2, 3, 4, 5, 6, 7, 8, 9, 10, 11] rfl (q0 := 0) rfl (ci := 7) rfl g_Mod_65 hd_Mod_x rfl ⟨Nat.le_of_ble_eq_true rfl, Nat.le_of_ble_eq_true rfl⟩ ⟨Nat.zero_le _, Nat.zero_le _⟩ hl rfl (Nat.le_of_ble_eq_true rfl) dX7_cross_150 ?_
                    refine lv_aload_n (pc := 153) hx hb dX7_cross_153 rfl (lv_at hl 1 rfl) ?_
                    refine lv_iload_n (pc := 154) hx hb dX7_cross_154 rfl (lv_at hl 2 rfl) ?_
                    obtain ⟨v114, h_v114, h⟩ := ob h
                    refine rdV (pc := 155) (As := [.int a0]) (rest := [.int v113, .int a3, .int a2, .ref (ad 0)]) hx hb hml hown hts hG hP (c_Mod_y l K ad mthr mnow mold mols msav miss minp mlen mat medg mcor mtri mkep mkee mwor mnum mmet a0 h_v114) [0, 1, 2, 3, 4, 5, 6, 7, 8, 9, 10, 11] rfl (q0 := 0) rfl (ci := 7) rfl g_Mod_68 hd_Mod_y rfl ⟨Nat.le_of_ble_eq_true rfl, Nat.le_of_ble_eq_true rfl⟩ ⟨Nat.zero_le _, Nat.zero_le _⟩ hl rfl (Nat.le_of_ble_eq_true rfl) dX7_cross_155 ?_
                    obtain ⟨v115, h_v115, h⟩ := ob h
                    refine rdV (pc := 158) (As := [.int a2, .int a3, .int v113, .int v114]) (rest := []) hx hb hml hown hts hG hP (c_Mod_isOn l K ad mthr mnow mold mols msav miss minp mlen mat medg mcor mtri mkep mkee mwor mnum mmet a2 a3 v113 v114 h_v115) [0, 1, 2, 3, 4, 5, 6, 7, 8, 9, 10, 11] rfl (q0 := 0) rfl (ci := 7) rfl g_Mod_75 hd_Mod_isOn rfl ⟨Nat.le_of_ble_eq_true rfl, Nat.le_of_ble_eq_true rfl⟩ ⟨Nat.zero_le _, Nat.zero_le _⟩ hl rfl (Nat.le_of_ble_eq_true rfl) dX7_cross_158 ?_
                    refine lv_if_ne (tgt := 184) (pc := 161) hx hb dX7_cross_161 (by decide) (fun c116 => ?_) (fun c116 => ?_)
                    · have h := it_f c116 h
                      refine lv_iconst (v := (1 : Int32)) (pc := 184) hx hb dX7_cross_184 (by decide) ?_
                      refine lv_goto (tgt := 189) (pc := 185) hx hb dX7_cross_185 (by decide) ?_
                      obtain rfl := Option.some.inj h
                      exact W.zret hx hb hr (rfl) (fun t ht hW => ⟨rfl, ht⟩) (fun q hq => absurd hq List.not_mem_nil) dX7_cross_189 hlk
                    · have h := it_t c116 h
                      refine lv_aload_n (pc := 164) hx hb dX7_cross_164 rfl (lv_at hl 1 rfl) ?_
                      refine lv_iload_n (pc := 165) hx hb dX7_cross_165 rfl (lv_at hl 4 rfl) ?_
                      refine lv_iload (pc := 166) hx hb dX7_cross_166 (lv_at hl 5 rfl) ?_
                      refine lv_aload_n (pc := 168) hx hb dX7_cross_168 rfl (lv_at hl 1 rfl) ?_
                      refine lv_iload_n (pc := 169) hx hb dX7_cross_169 rfl (lv_at hl 3 rfl) ?_
                      obtain ⟨v117, h_v117, h⟩ := ob h
                      refine rdV (pc := 170) (As := [.int a1]) (rest := [.int a3, .int a2, .ref (ad 0)]) hx hb hml hown hts hG hP (c_Mod_x l K ad mthr mnow mold mols msav miss minp mlen mat medg mcor mtri mkep mkee mwor mnum mmet a1 h_v117) [0, 1, 2, 3, 4, 5, 6, 7, 8, 9, 10, 11] rfl (q0 := 0) rfl (ci := 7) rfl g_Mod_65 hd_Mod_x rfl ⟨Nat.le_of_ble_eq_true rfl, Nat.le_of_ble_eq_true rfl⟩ ⟨Nat.zero_le _, Nat.zero_le _⟩ hl rfl (Nat.le_of_ble_eq_true rfl) dX7_cross_170 ?_
                      refine lv_aload_n (pc := 173) hx hb dX7_cross_173 rfl (lv_at hl 1 rfl) ?_
                      refine lv_iload_n (pc := 174) hx hb dX7_cross_174 rfl (lv_at hl 3 rfl) ?_
                      obtain ⟨v118, h_v118, h⟩ := ob h
                      refine rdV (pc := 175) (As := [.int a1]) (rest := [.int v117, .int a3, .int a2, .ref (ad 0)]) hx hb hml hown hts hG hP (c_Mod_y l K ad mthr mnow mold mols msav miss minp mlen mat medg mcor mtri mkep mkee mwor mnum mmet a1 h_v118) [0, 1, 2, 3, 4, 5, 6, 7, 8, 9, 10, 11] rfl (q0 := 0) rfl (ci := 7) rfl g_Mod_68 hd_Mod_y rfl ⟨Nat.le_of_ble_eq_true rfl, Nat.le_of_ble_eq_true rfl⟩ ⟨Nat.zero_le _, Nat.zero_le _⟩ hl rfl (Nat.le_of_ble_eq_true rfl) dX7_cross_175 ?_
                      obtain ⟨v119, h_v119, h⟩ := ob h
                      refine rdV (pc := 178) (As := [.int a2, .int a3, .int v117, .int v118]) (rest := []) hx hb hml hown hts hG hP (c_Mod_isOn l K ad mthr mnow mold mols msav miss minp mlen mat medg mcor mtri mkep mkee mwor mnum mmet a2 a3 v117 v118 h_v119) [0, 1, 2, 3, 4, 5, 6, 7, 8, 9, 10, 11] rfl (q0 := 0) rfl (ci := 7) rfl g_Mod_75 hd_Mod_isOn rfl ⟨Nat.le_of_ble_eq_true rfl, Nat.le_of_ble_eq_true rfl⟩ ⟨Nat.zero_le _, Nat.zero_le _⟩ hl rfl (Nat.le_of_ble_eq_true rfl) dX7_cross_178 ?_
                      refine lv_if_eq (tgt := 188) (pc := 181) hx hb dX7_cross_181 (by decide) (fun c120 => ?_) (fun c120 => ?_)
                      · have h := it_t c120 h
                        refine lv_iconst (v := (0 : Int32)) (pc := 188) hx hb dX7_cross_188 (by decide) ?_
                        obtain rfl := Option.some.inj h
                        exact W.zret hx hb hr (rfl) (fun t ht hW => ⟨rfl, ht⟩) (fun q hq => absurd hq List.not_mem_nil) dX7_cross_189 hlk
                      · have h := it_f c120 h
                        refine lv_iconst (v := (1 : Int32)) (pc := 184) hx hb dX7_cross_184 (by decide) ?_
                        refine lv_goto (tgt := 189) (pc := 185) hx hb dX7_cross_185 (by decide) ?_
                        obtain rfl := Option.some.inj h
                        exact W.zret hx hb hr (rfl) (fun t ht hW => ⟨rfl, ht⟩) (fun q hq => absurd hq List.not_mem_nil) dX7_cross_189 hlk
        · have h := it_f c67 h
          refine lv_iconst (v := (0 : Int32)) (pc := 62) hx hb dX7_cross_62 (by decide) ?_
          obtain rfl := Option.some.inj h
          exact W.zret hx hb hr (rfl) (fun t ht hW => ⟨rfl, ht⟩) (fun q hq => absurd hq List.not_mem_nil) dX7_cross_63 hlk
    · have h := it_f c63 h
      refine lv_iconst (v := (1 : Int32)) (pc := 39) hx hb dX7_cross_39 (by decide) ?_
      obtain rfl := Option.some.inj h
      exact W.zret hx hb hr (rfl) (fun t ht hW => ⟨rfl, ht⟩) (fun q hq => absurd hq List.not_mem_nil) dX7_cross_40 hlk
set_option maxHeartbeats 4000000 in
set_option maxRecDepth 100000 in
theorem c_J13_signum_95d88 (l : Launch) (K : KT) (a0 : Int64) : Rd l K 0 yJ13_signum_95d88 cJ13_signum_95d88 2 .int [.long a0] ([]) (s_J13_signum_95d88 a0) := by
  generalize h : s_J13_signum_95d88 a0 = o
  refine Rd.of (by decide +kernel) (Nat.le_of_ble_eq_true rfl) ?_
  unfold s_J13_signum_95d88 at h
  intro p e s m below meth c hx hb hr hml hown hts hlk hP hG ls hl
  have C0 : Ctx p m c cJ13_signum_95d88 2 s (Array.mk [.long a0]) RJ13 K meth (some .int) := ⟨hx, hb, hml, hown, hts, hG, hr, hlk⟩
  have hl : lv_has ls 2 [(0, .long a0)] := hl
  refine lv_lload_n (pc := 0) hx hb dJ13_signum_95d88_0 rfl (lv_at hl 0 rfl) ?_
  refine lv_bipush (v := (63 : Int32)) (pc := 1) hx hb dJ13_signum_95d88_1 (by decide) ?_
  refine lv_lshr (v := (lshr a0 (63 : Int32))) (pc := 3) hx hb dJ13_signum_95d88_3 rfl ?_
  refine lv_lload_n (pc := 4) hx hb dJ13_signum_95d88_4 rfl (lv_at hl 0 rfl) ?_
  refine lv_lneg (pc := 5) hx hb dJ13_signum_95d88_5 ?_
  refine lv_bipush (v := (63 : Int32)) (pc := 6) hx hb dJ13_signum_95d88_6 (by decide) ?_
  refine lv_lushr (v := (lushr (-a0) (63 : Int32))) (pc := 8) hx hb dJ13_signum_95d88_8 rfl ?_
  refine lv_lor (pc := 9) hx hb dJ13_signum_95d88_9 ?_
  refine lv_l2i (v := (((lshr a0 (63 : Int32)) ||| (lushr (-a0) (63 : Int32)))).toInt32) (pc := 10) hx hb dJ13_signum_95d88_10 rfl ?_
  subst h
  exact W.iret hx hb hr (fun t ht hW => ⟨rfl, ht⟩) (fun q hq => absurd hq List.not_mem_nil) dJ13_signum_95d88_11 hlk
set_option maxHeartbeats 4000000 in
set_option maxRecDepth 100000 in
theorem c_Mod_circle (l : Launch) (K : KT) (ad : Nat → Nat) (mthr : Int32) (mnow : Nat → Int32) (mold : Nat → Int32) (mols : Int32) (msav : Nat → Int32) (miss : Bool) (minp : Nat → Int32) (mlen : Int32) (mat : Int32) (medg : Nat → Int32) (mcor : Nat → Int32) (mtri : Int32) (mkep : Nat → Int32) (mkee : Nat → Int32) (mwor : Nat → Int32) (mnum : Nat → Int32) (mmet : Nat → Int32) (a0 : Int32) (a1 : Int32) (a2 : Int32) (a3 : Int32) {o : Int32} (h : s_Mod_circle mnow a0 a1 a2 a3 = some o) : Rd l K 3 yX7_circle cX7_circle 19 .int [.ref (ad 0), .int a0, .int a1, .int a2, .int a3] (wMod K ad mthr mnow mold mols msav miss minp mlen mat medg mcor mtri mkep mkee mwor mnum mmet) o := by
  refine Rd.of (by decide +kernel) (Nat.le_of_ble_eq_true rfl) ?_
  unfold s_Mod_circle at h
  intro p e s m below meth c hx hb hr hml hown hts hlk hP hG ls hl
  have C0 : Ctx p m c cX7_circle 19 s (Array.mk [.ref (ad 0), .int a0, .int a1, .int a2, .int a3]) RX7 K meth (some .int) := ⟨hx, hb, hml, hown, hts, hG, hr, hlk⟩
  have hl : lv_has ls 19 [(0, .ref (ad 0)), (1, .int a0), (2, .int a1), (3, .int a2), (4, .int a3)] := hl
  refine lv_aload_n (pc := 0) hx hb dX7_circle_0 rfl (lv_at hl 0 rfl) ?_
  refine lv_iload_n (pc := 1) hx hb dX7_circle_1 rfl (lv_at hl 1 rfl) ?_
  obtain ⟨v1, h_v1, h⟩ := ob h
  refine rdV (pc := 2) (As := [.int a0]) (rest := []) hx hb hml hown hts hG hP (c_Mod_x l K ad mthr mnow mold mols msav miss minp mlen mat medg mcor mtri mkep mkee mwor mnum mmet a0 h_v1) [0, 1, 2, 3, 4, 5, 6, 7, 8, 9, 10, 11] rfl (q0 := 0) rfl (ci := 7) rfl g_Mod_65 hd_Mod_x rfl ⟨Nat.le_of_ble_eq_true rfl, Nat.le_of_ble_eq_true rfl⟩ ⟨Nat.zero_le _, Nat.zero_le _⟩ hl rfl (Nat.le_of_ble_eq_true rfl) dX7_circle_2 ?_
  refine lv_aload_n (pc := 5) hx hb dX7_circle_5 rfl (lv_at hl 0 rfl) ?_
  refine lv_iload (pc := 6) hx hb dX7_circle_6 (lv_at hl 4 rfl) ?_
  obtain ⟨v2, h_v2, h⟩ := ob h
  refine rdV (pc := 8) (As := [.int a3]) (rest := [.int v1]) hx hb hml hown hts hG hP (c_Mod_x l K ad mthr mnow mold mols msav miss minp mlen mat medg mcor mtri mkep mkee mwor mnum mmet a3 h_v2) [0, 1, 2, 3, 4, 5, 6, 7, 8, 9, 10, 11] rfl (q0 := 0) rfl (ci := 7) rfl g_Mod_65 hd_Mod_x rfl ⟨Nat.le_of_ble_eq_true rfl, Nat.le_of_ble_eq_true rfl⟩ ⟨Nat.zero_le _, Nat.zero_le _⟩ hl rfl (Nat.le_of_ble_eq_true rfl) dX7_circle_8 ?_
  refine lv_isub (pc := 11) hx hb dX7_circle_11 ?_
  refine lv_i2l (v := ((v1 - v2)).toInt64) (pc := 12) hx hb dX7_circle_12 rfl ?_
  refine lv_lstore (pc := 13) (lv' := [(5, .long (((v1 - v2)).toInt64)), (0, .ref (ad 0)), (1, .int a0), (2, .int a1), (3, .int a2), (4, .int a3)]) hx hb dX7_circle_13 hl (by decide) rfl (fun ls hl => ?_)
  refine lv_aload_n (pc := 15) hx hb dX7_circle_15 rfl (lv_at hl 1 rfl) ?_
  refine lv_iload_n (pc := 16) hx hb dX7_circle_16 rfl (lv_at hl 2 rfl) ?_
  obtain ⟨v3, h_v3, h⟩ := ob h
  refine rdV (pc := 17) (As := [.int a0]) (rest := []) hx hb hml hown hts hG hP (c_Mod_y l K ad mthr mnow mold mols msav miss minp mlen mat medg mcor mtri mkep mkee mwor mnum mmet a0 h_v3) [0, 1, 2, 3, 4, 5, 6, 7, 8, 9, 10, 11] rfl (q0 := 0) rfl (ci := 7) rfl g_Mod_68 hd_Mod_y rfl ⟨Nat.le_of_ble_eq_true rfl, Nat.le_of_ble_eq_true rfl⟩ ⟨Nat.zero_le _, Nat.zero_le _⟩ hl rfl (Nat.le_of_ble_eq_true rfl) dX7_circle_17 ?_
  refine lv_aload_n (pc := 20) hx hb dX7_circle_20 rfl (lv_at hl 1 rfl) ?_
  refine lv_iload (pc := 21) hx hb dX7_circle_21 (lv_at hl 5 rfl) ?_
  obtain ⟨v4, h_v4, h⟩ := ob h
  refine rdV (pc := 23) (As := [.int a3]) (rest := [.int v3]) hx hb hml hown hts hG hP (c_Mod_y l K ad mthr mnow mold mols msav miss minp mlen mat medg mcor mtri mkep mkee mwor mnum mmet a3 h_v4) [0, 1, 2, 3, 4, 5, 6, 7, 8, 9, 10, 11] rfl (q0 := 0) rfl (ci := 7) rfl g_Mod_68 hd_Mod_y rfl ⟨Nat.le_of_ble_eq_true rfl, Nat.le_of_ble_eq_true rfl⟩ ⟨Nat.zero_le _, Nat.zero_le _⟩ hl rfl (Nat.le_of_ble_eq_true rfl) dX7_circle_23 ?_
  refine lv_isub (pc := 26) hx hb dX7_circle_26 ?_
  refine lv_i2l (v := ((v3 - v4)).toInt64) (pc := 27) hx hb dX7_circle_27 rfl ?_
  refine lv_lstore (pc := 28) (lv' := [(7, .long (((v3 - v4)).toInt64)), (5, .long (((v1 - v2)).toInt64)), (0, .ref (ad 0)), (1, .int a0), (2, .int a1), (3, .int a2), (4, .int a3)]) hx hb dX7_circle_28 hl (by decide) rfl (fun ls hl => ?_)
  refine lv_aload_n (pc := 30) hx hb dX7_circle_30 rfl (lv_at hl 2 rfl) ?_
  refine lv_iload_n (pc := 31) hx hb dX7_circle_31 rfl (lv_at hl 4 rfl) ?_
  obtain ⟨v5, h_v5, h⟩ := ob h
  refine rdV (pc := 32) (As := [.int a1]) (rest := []) hx hb hml hown hts hG hP (c_Mod_x l K ad mthr mnow mold mols msav miss minp mlen mat medg mcor mtri mkep mkee mwor mnum mmet a1 h_v5) [0, 1, 2, 3, 4, 5, 6, 7, 8, 9, 10, 11] rfl (q0 := 0) rfl (ci := 7) rfl g_Mod_65 hd_Mod_x rfl ⟨Nat.le_of_ble_eq_true rfl, Nat.le_of_ble_eq_true rfl⟩ ⟨Nat.zero_le _, Nat.zero_le _⟩ hl rfl (Nat.le_of_ble_eq_true rfl) dX7_circle_32 ?_
  refine lv_aload_n (pc := 35) hx hb dX7_circle_35 rfl (lv_at hl 2 rfl) ?_
  refine lv_iload (pc := 36) hx hb dX7_circle_36 (lv_at hl 6 rfl) ?_
  obtain ⟨v6, h_v6, h⟩ := ob h
  refine rdV (pc := 38) (As := [.int a3]) (rest := [.int v5]) hx hb hml hown hts hG hP (c_Mod_x l K ad mthr mnow mold mols msav miss minp mlen mat medg mcor mtri mkep mkee mwor mnum mmet a3 h_v6) [0, 1, 2, 3, 4, 5, 6, 7, 8, 9, 10, 11] rfl (q0 := 0) rfl (ci := 7) rfl g_Mod_65 hd_Mod_x rfl ⟨Nat.le_of_ble_eq_true rfl, Nat.le_of_ble_eq_true rfl⟩ ⟨Nat.zero_le _, Nat.zero_le _⟩ hl rfl (Nat.le_of_ble_eq_true rfl) dX7_circle_38 ?_
  refine lv_isub (pc := 41) hx hb dX7_circle_41 ?_
  refine lv_i2l (v := ((v5 - v6)).toInt64) (pc := 42) hx hb dX7_circle_42 rfl ?_
  refine lv_lstore (pc := 43) (lv' := [(9, .long (((v5 - v6)).toInt64)), (7, .long (((v3 - v4)).toInt64)), (5, .long (((v1 - v2)).toInt64)), (0, .ref (ad 0)), (1, .int a0), (2, .int a1), (3, .int a2), (4, .int a3)]) hx hb dX7_circle_43 hl (by decide) rfl (fun ls hl => ?_)
  refine lv_aload_n (pc := 45) hx hb dX7_circle_45 rfl (lv_at hl 3 rfl) ?_
  refine lv_iload_n (pc := 46) hx hb dX7_circle_46 rfl (lv_at hl 5 rfl) ?_
  obtain ⟨v7, h_v7, h⟩ := ob h
  refine rdV (pc := 47) (As := [.int a1]) (rest := []) hx hb hml hown hts hG hP (c_Mod_y l K ad mthr mnow mold mols msav miss minp mlen mat medg mcor mtri mkep mkee mwor mnum mmet a1 h_v7) [0, 1, 2, 3, 4, 5, 6, 7, 8, 9, 10, 11] rfl (q0 := 0) rfl (ci := 7) rfl g_Mod_68 hd_Mod_y rfl ⟨Nat.le_of_ble_eq_true rfl, Nat.le_of_ble_eq_true rfl⟩ ⟨Nat.zero_le _, Nat.zero_le _⟩ hl rfl (Nat.le_of_ble_eq_true rfl) dX7_circle_47 ?_
  refine lv_aload_n (pc := 50) hx hb dX7_circle_50 rfl (lv_at hl 3 rfl) ?_
  refine lv_iload (pc := 51) hx hb dX7_circle_51 (lv_at hl 7 rfl) ?_
  obtain ⟨v8, h_v8, h⟩ := ob h
  refine rdV (pc := 53) (As := [.int a3]) (rest := [.int v7]) hx hb hml hown hts hG hP (c_Mod_y l K ad mthr mnow mold mols msav miss minp mlen mat medg mcor mtri mkep mkee mwor mnum mmet a3 h_v8) [0, 1, 2, 3, 4, 5, 6, 7, 8, 9, 10, 11] rfl (q0 := 0) rfl (ci := 7) rfl g_Mod_68 hd_Mod_y rfl ⟨Nat.le_of_ble_eq_true rfl, Nat.le_of_ble_eq_true rfl⟩ ⟨Nat.zero_le _, Nat.zero_le _⟩ hl rfl (Nat.le_of_ble_eq_true rfl) dX7_circle_53 ?_
  refine lv_isub (pc := 56) hx hb dX7_circle_56 ?_
  refine lv_i2l (v := ((v7 - v8)).toInt64) (pc := 57) hx hb dX7_circle_57 rfl ?_
  refine lv_lstore (pc := 58) (lv' := [(11, .long (((v7 - v8)).toInt64)), (9, .long (((v5 - v6)).toInt64)), (7, .long (((v3 - v4)).toInt64)), (5, .long (((v1 - v2)).toInt64)), (0, .ref (ad 0)), (1, .int a0), (2, .int a1), (3, .int a2), (4, .int a3)]) hx hb dX7_circle_58 hl (by decide) rfl (fun ls hl => ?_)
  refine lv_aload_n (pc := 60) hx hb dX7_circle_60 rfl (lv_at hl 4 rfl) ?_
  refine lv_iload_n (pc := 61) hx hb dX7_circle_61 rfl (lv_at hl 7 rfl) ?_
  obtain ⟨v9, h_v9, h⟩ := ob h
  refine rdV (pc := 62) (As := [.int a2]) (rest := []) hx hb hml hown hts hG hP (c_Mod_x l K ad mthr mnow mold mols msav miss minp mlen mat medg mcor mtri mkep mkee mwor mnum mmet a2 h_v9) [0, 1, 2, 3, 4, 5, 6, 7, 8, 9, 10, 11] rfl (q0 := 0) rfl (ci := 7) rfl g_Mod_65 hd_Mod_x rfl ⟨Nat.le_of_ble_eq_true rfl, Nat.le_of_ble_eq_true rfl⟩ ⟨Nat.zero_le _, Nat.zero_le _⟩ hl rfl (Nat.le_of_ble_eq_true rfl) dX7_circle_62 ?_
  refine lv_aload_n (pc := 65) hx hb dX7_circle_65 rfl (lv_at hl 4 rfl) ?_
  refine lv_iload (pc := 66) hx hb dX7_circle_66 (lv_at hl 8 rfl) ?_
  obtain ⟨v10, h_v10, h⟩ := ob h
  refine rdV (pc := 68) (As := [.int a3]) (rest := [.int v9]) hx hb hml hown hts hG hP (c_Mod_x l K ad mthr mnow mold mols msav miss minp mlen mat medg mcor mtri mkep mkee mwor mnum mmet a3 h_v10) [0, 1, 2, 3, 4, 5, 6, 7, 8, 9, 10, 11] rfl (q0 := 0) rfl (ci := 7) rfl g_Mod_65 hd_Mod_x rfl ⟨Nat.le_of_ble_eq_true rfl, Nat.le_of_ble_eq_true rfl⟩ ⟨Nat.zero_le _, Nat.zero_le _⟩ hl rfl (Nat.le_of_ble_eq_true rfl) dX7_circle_68 ?_
  refine lv_isub (pc := 71) hx hb dX7_circle_71 ?_
  refine lv_i2l (v := ((v9 - v10)).toInt64) (pc := 72) hx hb dX7_circle_72 rfl ?_
  refine lv_lstore (pc := 73) (lv' := [(13, .long (((v9 - v10)).toInt64)), (11, .long (((v7 - v8)).toInt64)), (9, .long (((v5 - v6)).toInt64)), (7, .long (((v3 - v4)).toInt64)), (5, .long (((v1 - v2)).toInt64)), (0, .ref (ad 0)), (1, .int a0), (2, .int a1), (3, .int a2), (4, .int a3)]) hx hb dX7_circle_73 hl (by decide) rfl (fun ls hl => ?_)
  refine lv_aload_n (pc := 75) hx hb dX7_circle_75 rfl (lv_at hl 5 rfl) ?_
  refine lv_iload_n (pc := 76) hx hb dX7_circle_76 rfl (lv_at hl 8 rfl) ?_
  obtain ⟨v11, h_v11, h⟩ := ob h
  refine rdV (pc := 77) (As := [.int a2]) (rest := []) hx hb hml hown hts hG hP (c_Mod_y l K ad mthr mnow mold mols msav miss minp mlen mat medg mcor mtri mkep mkee mwor mnum mmet a2 h_v11) [0, 1, 2, 3, 4, 5, 6, 7, 8, 9, 10, 11] rfl (q0 := 0) rfl (ci := 7) rfl g_Mod_68 hd_Mod_y rfl ⟨Nat.le_of_ble_eq_true rfl, Nat.le_of_ble_eq_true rfl⟩ ⟨Nat.zero_le _, Nat.zero_le _⟩ hl rfl (Nat.le_of_ble_eq_true rfl) dX7_circle_77 ?_
  refine lv_aload_n (pc := 80) hx hb dX7_circle_80 rfl (lv_at hl 5 rfl) ?_
  refine lv_iload (pc := 81) hx hb dX7_circle_81 (lv_at hl 9 rfl) ?_
  obtain ⟨v12, h_v12, h⟩ := ob h
  refine rdV (pc := 83) (As := [.int a3]) (rest := [.int v11]) hx hb hml hown hts hG hP (c_Mod_y l K ad mthr mnow mold mols msav miss minp mlen mat medg mcor mtri mkep mkee mwor mnum mmet a3 h_v12) [0, 1, 2, 3, 4, 5, 6, 7, 8, 9, 10, 11] rfl (q0 := 0) rfl (ci := 7) rfl g_Mod_68 hd_Mod_y rfl ⟨Nat.le_of_ble_eq_true rfl, Nat.le_of_ble_eq_true rfl⟩ ⟨Nat.zero_le _, Nat.zero_le _⟩ hl rfl (Nat.le_of_ble_eq_true rfl) dX7_circle_83 ?_
  refine lv_isub (pc := 86) hx hb dX7_circle_86 ?_
  refine lv_i2l (v := ((v11 - v12)).toInt64) (pc := 87) hx hb dX7_circle_87 rfl ?_
  refine lv_lstore (pc := 88) (lv' := [(15, .long (((v11 - v12)).toInt64)), (13, .long (((v9 - v10)).toInt64)), (11, .long (((v7 - v8)).toInt64)), (9, .long (((v5 - v6)).toInt64)), (7, .long (((v3 - v4)).toInt64)), (5, .long (((v1 - v2)).toInt64)), (0, .ref (ad 0)), (1, .int a0), (2, .int a1), (3, .int a2), (4, .int a3)]) hx hb dX7_circle_88 hl (by decide) rfl (fun ls hl => ?_)
  refine lv_lload (pc := 90) hx hb dX7_circle_90 (lv_at hl 5 rfl) ?_
  refine lv_lload (pc := 92) hx hb dX7_circle_92 (lv_at hl 5 rfl) ?_
  refine lv_lmul (pc := 94) hx hb dX7_circle_94 ?_
  refine lv_lload (pc := 95) hx hb dX7_circle_95 (lv_at hl 4 rfl) ?_
  refine lv_lload (pc := 97) hx hb dX7_circle_97 (lv_at hl 4 rfl) ?_
  refine lv_lmul (pc := 99) hx hb dX7_circle_99 ?_
  refine lv_ladd (pc := 100) hx hb dX7_circle_100 ?_
  refine lv_lload (pc := 101) hx hb dX7_circle_101 (lv_at hl 3 rfl) ?_
  refine lv_lload (pc := 103) hx hb dX7_circle_103 (lv_at hl 0 rfl) ?_
  refine lv_lmul (pc := 105) hx hb dX7_circle_105 ?_
  refine lv_lload (pc := 106) hx hb dX7_circle_106 (lv_at hl 1 rfl) ?_
  refine lv_lload (pc := 108) hx hb dX7_circle_108 (lv_at hl 2 rfl) ?_
  refine lv_lmul (pc := 110) hx hb dX7_circle_110 ?_
  refine lv_lsub (pc := 111) hx hb dX7_circle_111 ?_
  refine lv_lmul (pc := 112) hx hb dX7_circle_112 ?_
  refine lv_lload (pc := 113) hx hb dX7_circle_113 (lv_at hl 3 rfl) ?_
  refine lv_lload (pc := 115) hx hb dX7_circle_115 (lv_at hl 3 rfl) ?_
  refine lv_lmul (pc := 117) hx hb dX7_circle_117 ?_
  refine lv_lload (pc := 118) hx hb dX7_circle_118 (lv_at hl 2 rfl) ?_
  refine lv_lload (pc := 120) hx hb dX7_circle_120 (lv_at hl 2 rfl) ?_
  refine lv_lmul (pc := 122) hx hb dX7_circle_122 ?_
  refine lv_ladd (pc := 123) hx hb dX7_circle_123 ?_
  refine lv_lload (pc := 124) hx hb dX7_circle_124 (lv_at hl 5 rfl) ?_
  refine lv_lload (pc := 126) hx hb dX7_circle_126 (lv_at hl 0 rfl) ?_
  refine lv_lmul (pc := 128) hx hb dX7_circle_128 ?_
  refine lv_lload (pc := 129) hx hb dX7_circle_129 (lv_at hl 1 rfl) ?_
  refine lv_lload (pc := 131) hx hb dX7_circle_131 (lv_at hl 4 rfl) ?_
  refine lv_lmul (pc := 133) hx hb dX7_circle_133 ?_
  refine lv_lsub (pc := 134) hx hb dX7_circle_134 ?_
  refine lv_lmul (pc := 135) hx hb dX7_circle_135 ?_
  refine lv_lsub (pc := 136) hx hb dX7_circle_136 ?_
  refine lv_lload (pc := 137) hx hb dX7_circle_137 (lv_at hl 1 rfl) ?_
  refine lv_lload (pc := 139) hx hb dX7_circle_139 (lv_at hl 1 rfl) ?_
  refine lv_lmul (pc := 141) hx hb dX7_circle_141 ?_
  refine lv_lload (pc := 142) hx hb dX7_circle_142 (lv_at hl 0 rfl) ?_
  refine lv_lload (pc := 144) hx hb dX7_circle_144 (lv_at hl 0 rfl) ?_
  refine lv_lmul (pc := 146) hx hb dX7_circle_146 ?_
  refine lv_ladd (pc := 147) hx hb dX7_circle_147 ?_
  refine lv_lload (pc := 148) hx hb dX7_circle_148 (lv_at hl 5 rfl) ?_
  refine lv_lload (pc := 150) hx hb dX7_circle_150 (lv_at hl 2 rfl) ?_
  refine lv_lmul (pc := 152) hx hb dX7_circle_152 ?_
  refine lv_lload (pc := 153) hx hb dX7_circle_153 (lv_at hl 3 rfl) ?_
  refine lv_lload (pc := 155) hx hb dX7_circle_155 (lv_at hl 4 rfl) ?_
  refine lv_lmul (pc := 157) hx hb dX7_circle_157 ?_
  refine lv_lsub (pc := 158) hx hb dX7_circle_158 ?_
  refine lv_lmul (pc := 159) hx hb dX7_circle_159 ?_
  refine lv_ladd (pc := 160) hx hb dX7_circle_160 ?_
  refine lv_lstore (pc := 161) (lv' := [(17, .long ((((((((v1 - v2)).toInt64) * (((v1 - v2)).toInt64)) + ((((v3 - v4)).toInt64) * (((v3 - v4)).toInt64))) * (((((v5 - v6)).toInt64) * (((v11 - v12)).toInt64)) - ((((v9 - v10)).toInt64) * (((v7 - v8)).toInt64)))) - ((((((v5 - v6)).toInt64) * (((v5 - v6)).toInt64)) + ((((v7 - v8)).toInt64) * (((v7 - v8)).toInt64))) * (((((v1 - v2)).toInt64) * (((v11 - v12)).toInt64)) - ((((v9 - v10)).toInt64) * (((v3 - v4)).toInt64))))) + ((((((v9 - v10)).toInt64) * (((v9 - v10)).toInt64)) + ((((v11 - v12)).toInt64) * (((v11 - v12)).toInt64))) * (((((v1 - v2)).toInt64) * (((v7 - v8)).toInt64)) - ((((v5 - v6)).toInt64) * (((v3 - v4)).toInt64)))))), (15, .long (((v11 - v12)).toInt64)), (13, .long (((v9 - v10)).toInt64)), (11, .long (((v7 - v8)).toInt64)), (9, .long (((v5 - v6)).toInt64)), (7, .long (((v3 - v4)).toInt64)), (5, .long (((v1 - v2)).toInt64)), (0, .ref (ad 0)), (1, .int a0), (2, .int a1), (3, .int a2), (4, .int a3)]) hx hb dX7_circle_161 hl (by decide) rfl (fun ls hl => ?_)
  refine lv_lload (pc := 163) hx hb dX7_circle_163 (lv_at hl 0 rfl) ?_
  refine rdSU (pc := 165) (As := [.long ((((((((v1 - v2)).toInt64) * (((v1 - v2)).toInt64)) + ((((v3 - v4)).toInt64) * (((v3 - v4)).toInt64))) * (((((v5 - v6)).toInt64) * (((v11 - v12)).toInt64)) - ((((v9 - v10)).toInt64) * (((v7 - v8)).toInt64)))) - ((((((v5 - v6)).toInt64) * (((v5 - v6)).toInt64)) + ((((v7 - v8)).toInt64) * (((v7 - v8)).toInt64))) * (((((v1 - v2)).toInt64) * (((v11 - v12)).toInt64)) - ((((v9 - v10)).toInt64) * (((v3 - v4)).toInt64))))) + ((((((v9 - v10)).toInt64) * (((v9 - v10)).toInt64)) + ((((v11 - v12)).toInt64) * (((v11 - v12)).toInt64))) * (((((v1 - v2)).toInt64) * (((v7 - v8)).toInt64)) - ((((v5 - v6)).toInt64) * (((v3 - v4)).toInt64)))))]) (rest := []) hx hb hml hown hts hG (c_J13_signum_95d88 l K ((((((((v1 - v2)).toInt64) * (((v1 - v2)).toInt64)) + ((((v3 - v4)).toInt64) * (((v3 - v4)).toInt64))) * (((((v5 - v6)).toInt64) * (((v11 - v12)).toInt64)) - ((((v9 - v10)).toInt64) * (((v7 - v8)).toInt64)))) - ((((((v5 - v6)).toInt64) * (((v5 - v6)).toInt64)) + ((((v7 - v8)).toInt64) * (((v7 - v8)).toInt64))) * (((((v1 - v2)).toInt64) * (((v11 - v12)).toInt64)) - ((((v9 - v10)).toInt64) * (((v3 - v4)).toInt64))))) + ((((((v9 - v10)).toInt64) * (((v9 - v10)).toInt64)) + ((((v11 - v12)).toInt64) * (((v11 - v12)).toInt64))) * (((((v1 - v2)).toInt64) * (((v7 - v8)).toInt64)) - ((((v5 - v6)).toInt64) * (((v3 - v4)).toInt64)))))) (gSU qm_Mod_92 qt_J13_signum_95d88 qn_J13 qc_J13_signum_95d88) hd_J13_signum_95d88 rfl ⟨Nat.le_of_ble_eq_true rfl, Nat.le_of_ble_eq_true rfl⟩ ⟨Nat.zero_le _, Nat.zero_le _⟩ hl rfl (Nat.le_of_ble_eq_true rfl) dX7_circle_165 ?_
  refine lv_aload_n (pc := 168) hx hb dX7_circle_168 rfl (lv_at hl 7 rfl) ?_
  refine lv_iload_n (pc := 169) hx hb dX7_circle_169 rfl (lv_at hl 8 rfl) ?_
  refine lv_iload_n (pc := 170) hx hb dX7_circle_170 rfl (lv_at hl 9 rfl) ?_
  refine lv_iload_n (pc := 171) hx hb dX7_circle_171 rfl (lv_at hl 10 rfl) ?_
  obtain ⟨v13, h_v13, h⟩ := ob h
  refine rdV (pc := 172) (As := [.int a0, .int a1, .int a2]) (rest := [.int (s_J13_signum_95d88 ((((((((v1 - v2)).toInt64) * (((v1 - v2)).toInt64)) + ((((v3 - v4)).toInt64) * (((v3 - v4)).toInt64))) * (((((v5 - v6)).toInt64) * (((v11 - v12)).toInt64)) - ((((v9 - v10)).toInt64) * (((v7 - v8)).toInt64)))) - ((((((v5 - v6)).toInt64) * (((v5 - v6)).toInt64)) + ((((v7 - v8)).toInt64) * (((v7 - v8)).toInt64))) * (((((v1 - v2)).toInt64) * (((v11 - v12)).toInt64)) - ((((v9 - v10)).toInt64) * (((v3 - v4)).toInt64))))) + ((((((v9 - v10)).toInt64) * (((v9 - v10)).toInt64)) + ((((v11 - v12)).toInt64) * (((v11 - v12)).toInt64))) * (((((v1 - v2)).toInt64) * (((v7 - v8)).toInt64)) - ((((v5 - v6)).toInt64) * (((v3 - v4)).toInt64))))))]) hx hb hml hown hts hG hP (c_Mod_turns l K ad mthr mnow mold mols msav miss minp mlen mat medg mcor mtri mkep mkee mwor mnum mmet a0 a1 a2 h_v13) [0, 1, 2, 3, 4, 5, 6, 7, 8, 9, 10, 11] rfl (q0 := 0) rfl (ci := 7) rfl g_Mod_79 hd_Mod_turns rfl ⟨Nat.le_of_ble_eq_true rfl, Nat.le_of_ble_eq_true rfl⟩ ⟨Nat.zero_le _, Nat.zero_le _⟩ hl rfl (Nat.le_of_ble_eq_true rfl) dX7_circle_172 ?_
  refine lv_imul (pc := 175) hx hb dX7_circle_175 ?_
  obtain rfl := Option.some.inj h
  exact W.iret hx hb hr (fun t ht hW => ⟨rfl, ht⟩) (fun q hq => absurd hq List.not_mem_nil) dX7_circle_176 hlk
set_option maxHeartbeats 4000000 in
set_option maxRecDepth 100000 in
theorem c_Mod_good (l : Launch) (K : KT) (ad : Nat → Nat) (mthr : Int32) (mnow : Nat → Int32) (mold : Nat → Int32) (mols : Int32) (msav : Nat → Int32) (miss : Bool) (minp : Nat → Int32) (mlen : Int32) (mat : Int32) (medg : Nat → Int32) (mcor : Nat → Int32) (mtri : Int32) (mkep : Nat → Int32) (mkee : Nat → Int32) (mwor : Nat → Int32) (mnum : Nat → Int32) (mmet : Nat → Int32) (a0 : Int32) (a1 : Int32) (a2 : Int32) (a3 : Int32) {o : Bool} (h : s_Mod_good mnow a0 a1 a2 a3 = some o) : Rd l K 4 yX7_good cX7_good 6 .boolean [.ref (ad 0), .int a0, .int a1, .int a2, .int a3] (wMod K ad mthr mnow mold mols msav miss minp mlen mat medg mcor mtri mkep mkee mwor mnum mmet) (bI o) := by
  refine Rd.of (by decide +kernel) (Nat.le_of_ble_eq_true rfl) ?_
  unfold s_Mod_good at h
  intro p e s m below meth c hx hb hr hml hown hts hlk hP hG ls hl
  have C0 : Ctx p m c cX7_good 6 s (Array.mk [.ref (ad 0), .int a0, .int a1, .int a2, .int a3]) RX7 K meth (some .boolean) := ⟨hx, hb, hml, hown, hts, hG, hr, hlk⟩
  have hl : lv_has ls 6 [(0, .ref (ad 0)), (1, .int a0), (2, .int a1), (3, .int a2), (4, .int a3)] := hl
  refine lv_aload_n (pc := 0) hx hb dX7_good_0 rfl (lv_at hl 0 rfl) ?_
  refine lv_iload_n (pc := 1) hx hb dX7_good_1 rfl (lv_at hl 1 rfl) ?_
  refine lv_iload_n (pc := 2) hx hb dX7_good_2 rfl (lv_at hl 2 rfl) ?_
  refine lv_iload_n (pc := 3) hx hb dX7_good_3 rfl (lv_at hl 3 rfl) ?_
  refine lv_iload (pc := 4) hx hb dX7_good_4 (lv_at hl 4 rfl) ?_
  obtain ⟨v1, h_v1, h⟩ := ob h
  refine rdV (pc := 6) (As := [.int a0, .int a1, .int a2, .int a3]) (rest := []) hx hb hml hown hts hG hP (c_Mod_circle l K ad mthr mnow mold mols msav miss minp mlen mat medg mcor mtri mkep mkee mwor mnum mmet a0 a1 a2 a3 h_v1) [0, 1, 2, 3, 4, 5, 6, 7, 8, 9, 10, 11] rfl (q0 := 0) rfl (ci := 7) rfl g_Mod_97 hd_Mod_circle rfl ⟨Nat.le_of_ble_eq_true rfl, Nat.le_of_ble_eq_true rfl⟩ ⟨Nat.zero_le _, Nat.zero_le _⟩ hl rfl (Nat.le_of_ble_eq_true rfl) dX7_good_6 ?_
  refine lv_istore (pc := 9) (lv' := [(5, .int v1), (0, .ref (ad 0)), (1, .int a0), (2, .int a1), (3, .int a2), (4, .int a3)]) hx hb dX7_good_9 hl (by decide) rfl (fun ls hl => ?_)
  refine lv_iload (pc := 11) hx hb dX7_good_11 (lv_at hl 0 rfl) ?_
  refine lv_if_lt (tgt := 35) (pc := 13) hx hb dX7_good_13 (by decide) (fun c2 => ?_) (fun c2 => ?_)
  · have h := it_t c2 h
    refine lv_iconst (v := (1 : Int32)) (pc := 35) hx hb dX7_good_35 (by decide) ?_
    refine lv_goto (tgt := 40) (pc := 36) hx hb dX7_good_36 (by decide) ?_
    obtain rfl := Option.some.inj h
    exact W.zret hx hb hr (rfl) (fun t ht hW => ⟨rfl, ht⟩) (fun q hq => absurd hq List.not_mem_nil) dX7_good_40 hlk
  · have h := it_f c2 h
    refine lv_iload (pc := 16) hx hb dX7_good_16 (lv_at hl 0 rfl) ?_
    refine lv_if_ne (tgt := 39) (pc := 18) hx hb dX7_good_18 (by decide) (fun c3 => ?_) (fun c3 => ?_)
    · have h := it_f c3 h
      refine lv_iconst (v := (0 : Int32)) (pc := 39) hx hb dX7_good_39 (by decide) ?_
      obtain rfl := Option.some.inj h
      exact W.zret hx hb hr (rfl) (fun t ht hW => ⟨rfl, ht⟩) (fun q hq => absurd hq List.not_mem_nil) dX7_good_40 hlk
    · have h := it_t c3 h
      refine lv_iload_n (pc := 21) hx hb dX7_good_21 rfl (lv_at hl 4 rfl) ?_
      refine lv_iload (pc := 22) hx hb dX7_good_22 (lv_at hl 5 rfl) ?_
      refine my_mmax (pc := 24) hx hb hml hl.1 hown hts qm_Mod_89 (Nat.le_of_ble_eq_true rfl) (Nat.le_of_ble_eq_true rfl) ⟨Nat.zero_le _, Nat.zero_le _⟩ dX7_good_24 ?_
      refine lv_iload_n (pc := 27) hx hb dX7_good_27 rfl (lv_at hl 2 rfl) ?_
      refine lv_iload_n (pc := 28) hx hb dX7_good_28 rfl (lv_at hl 3 rfl) ?_
      refine my_mmax (pc := 29) hx hb hml hl.1 hown hts qm_Mod_89 (Nat.le_of_ble_eq_true rfl) (Nat.le_of_ble_eq_true rfl) ⟨Nat.zero_le _, Nat.zero_le _⟩ dX7_good_29 ?_
      refine lv_icmp_le (tgt := 39) (pc := 32) hx hb dX7_good_32 (by decide) (fun c4 => ?_) (fun c4 => ?_)
      · have h := it_t c4 h
        refine lv_iconst (v := (0 : Int32)) (pc := 39) hx hb dX7_good_39 (by decide) ?_
        obtain rfl := Option.some.inj h
        exact W.zret hx hb hr (rfl) (fun t ht hW => ⟨rfl, ht⟩) (fun q hq => absurd hq List.not_mem_nil) dX7_good_40 hlk
      · have h := it_f c4 h
        refine lv_iconst (v := (1 : Int32)) (pc := 35) hx hb dX7_good_35 (by decide) ?_
        refine lv_goto (tgt := 40) (pc := 36) hx hb dX7_good_36 (by decide) ?_
        obtain rfl := Option.some.inj h
        exact W.zret hx hb hr (rfl) (fun t ht hW => ⟨rfl, ht⟩) (fun q hq => absurd hq List.not_mem_nil) dX7_good_40 hlk
set_option maxHeartbeats 4000000 in
set_option maxRecDepth 100000 in
theorem c_Mod_has (l : Launch) (K : KT) (ad : Nat → Nat) (mthr : Int32) (mnow : Nat → Int32) (mold : Nat → Int32) (mols : Int32) (msav : Nat → Int32) (miss : Bool) (minp : Nat → Int32) (mlen : Int32) (mat : Int32) (medg : Nat → Int32) (mcor : Nat → Int32) (mtri : Int32) (mkep : Nat → Int32) (mkee : Nat → Int32) (mwor : Nat → Int32) (mnum : Nat → Int32) (mmet : Nat → Int32) (a0 : Int32) (a1 : Int32) {o : Bool} (h : s_Mod_has medg a0 a1 = some o) : Rd l K 0 yX7_has cX7_has 3 .boolean [.ref (ad 0), .int a0, .int a1] (wMod K ad mthr mnow mold mols msav miss minp mlen mat medg mcor mtri mkep mkee mwor mnum mmet) (bI o) := by
  refine Rd.of (by decide +kernel) (Nat.le_of_ble_eq_true rfl) ?_
  unfold s_Mod_has at h
  intro p e s m below meth c hx hb hr hml hown hts hlk hP hG ls hl
  have C0 : Ctx p m c cX7_has 3 s (Array.mk [.ref (ad 0), .int a0, .int a1]) RX7 K meth (some .boolean) := ⟨hx, hb, hml, hown, hts, hG, hr, hlk⟩
  have hl : lv_has ls 3 [(0, .ref (ad 0)), (1, .int a0), (2, .int a1)] := hl
  refine lv_aload_n (pc := 0) hx hb dX7_has_0 rfl (lv_at hl 0 rfl) ?_
  refine va_get (D := K.1) (ci := 7) (v := .ref (ad 5)) (C := RX7) (T := TX7) (N := 17) (pc := 1) hx hb hts inT7 hown hG.1 hP 0 rfl rfl 9 (by decide) (hts _ qf_Mod_22) (fun _ h9 => h9) rfl dX7_has_1 ?_
  refine lv_bipush (v := (17 : Int32)) (pc := 4) hx hb dX7_has_4 (by decide) ?_
  refine lv_iload_n (pc := 6) hx hb dX7_has_6 rfl (lv_at hl 1 rfl) ?_
  refine lv_imul (pc := 7) hx hb dX7_has_7 ?_
  refine lv_iload_n (pc := 8) hx hb dX7_has_8 rfl (lv_at hl 2 rfl) ?_
  refine lv_iadd (pc := 9) hx hb dX7_has_9 ?_
  obtain ⟨v1, h_v1, h⟩ := ob h
  obtain ⟨hi_v1, e_v1⟩ := aget_in h_v1
  refine va_zald (pc := 10) hx hb hG.1 hP 5 1 rfl rfl hi_v1 dX7_has_10 ?_
  rw [e_v1]
  by_cases c2 : v1 = 0
  · have h := it_t c2 h
    obtain rfl := Option.some.inj h
    rw [c2]
    exact W.zret hx hb hr (rfl) (fun t ht hW => ⟨rfl, ht⟩) (fun q hq => absurd hq List.not_mem_nil) dX7_has_11 hlk
  · have h := it_f c2 h
    by_cases c3 : v1 = 1
    · have h := it_t c3 h
      obtain rfl := Option.some.inj h
      rw [c3]
      exact W.zret hx hb hr (rfl) (fun t ht hW => ⟨rfl, ht⟩) (fun q hq => absurd hq List.not_mem_nil) dX7_has_11 hlk
    · have h := it_f c3 h
      cases h
set_option maxHeartbeats 4000000 in
set_option maxRecDepth 100000 in
theorem c_Mod_puts (l : Launch) (K : KT) (ad : Nat → Nat) (mthr : Int32) (mnow : Nat → Int32) (mold : Nat → Int32) (mols : Int32) (msav : Nat → Int32) (miss : Bool) (minp : Nat → Int32) (mlen : Int32) (mat : Int32) (medg : Nat → Int32) (mcor : Nat → Int32) (mtri : Int32) (mkep : Nat → Int32) (mkee : Nat → Int32) (mwor : Nat → Int32) (mnum : Nat → Int32) (mmet : Nat → Int32) (a0 : Int32) (a1 : Int32) (a2 : Bool) {o : (Nat → Int32)} (h : s_Mod_puts medg a0 a1 a2 = some o) : Wr l K 0 yX7_puts cX7_puts 4 none [.ref (ad 0), .int a0, .int a1, .int (bI a2)] (wMod K ad mthr mnow mold mols msav miss minp mlen mat medg mcor mtri mkep mkee mwor mnum mmet) none (wMod K ad mthr mnow mold mols msav miss minp mlen mat o mcor mtri mkep mkee mwor mnum mmet) := by
  refine Wr.of (by decide +kernel) (Nat.le_of_ble_eq_true rfl) ?_
  unfold s_Mod_puts at h
  intro p e s m below meth c hx hb hr hml hown hts hlk H locs hP hG hD hS ls hl
  have C0 : Ctx p m c cX7_puts 4 s (Array.mk [.ref (ad 0), .int a0, .int a1, .int (bI a2)]) RX7 K meth none := ⟨hx, hb, hml, hown, hts, hG, hr, hlk⟩
  have hl : lv_has ls 4 [(0, .ref (ad 0)), (1, .int a0), (2, .int a1), (3, .int (bI a2))] := hl
  refine lv_aload_n (pc := 0) hx hb dX7_puts_0 rfl (lv_at hl 0 rfl) ?_
  refine va_get (D := K.1) (ci := 7) (v := .ref (ad 5)) (C := RX7) (T := TX7) (N := 17) (pc := 1) hx hb hts inT7 hown hG.1 hP 0 rfl rfl 9 (by decide) (hts _ qf_Mod_22) (fun _ h9 => h9) rfl dX7_puts_1 ?_
  refine lv_bipush (v := (17 : Int32)) (pc := 4) hx hb dX7_puts_4 (by decide) ?_
  refine lv_iload_n (pc := 6) hx hb dX7_puts_6 rfl (lv_at hl 1 rfl) ?_
  refine lv_imul (pc := 7) hx hb dX7_puts_7 ?_
  refine lv_iload_n (pc := 8) hx hb dX7_puts_8 rfl (lv_at hl 2 rfl) ?_
  refine lv_iadd (pc := 9) hx hb dX7_puts_9 ?_
  refine lv_iload_n (pc := 10) hx hb dX7_puts_10 rfl (lv_at hl 3 rfl) ?_
  obtain ⟨v1, h_v1, h⟩ := ob h
  obtain ⟨hi_v1, e_v1⟩ := aset_in h_v1
  refine va_zast (pc := 11) hx hb hG.1 hP hD hS 5 1 rfl rfl hi_v1 dX7_puts_11 (fun H locs hP hD hS => ?_)
  rw [e_v1] at hP hD
  have hP : va_P K.1 vC (wMod K ad mthr mnow mold mols msav miss minp mlen mat v1 mcor mtri mkep mkee mwor mnum mmet) H := hP
  have hD : va_D _ (wMod K ad mthr mnow mold mols msav miss minp mlen mat v1 mcor mtri mkep mkee mwor mnum mmet) := hD
  refine lv_aload_n (pc := 12) hx hb dX7_puts_12 rfl (lv_at hl 0 rfl) ?_
  refine va_get (D := K.1) (ci := 7) (v := .ref (ad 5)) (C := RX7) (T := TX7) (N := 17) (pc := 13) hx hb hts inT7 hown hG.1 hP 0 rfl rfl 9 (by decide) (hts _ qf_Mod_22) (fun _ h9 => h9) rfl dX7_puts_13 ?_
  refine lv_bipush (v := (17 : Int32)) (pc := 16) hx hb dX7_puts_16 (by decide) ?_
  refine lv_iload_n (pc := 18) hx hb dX7_puts_18 rfl (lv_at hl 2 rfl) ?_
  refine lv_imul (pc := 19) hx hb dX7_puts_19 ?_
  refine lv_iload_n (pc := 20) hx hb dX7_puts_20 rfl (lv_at hl 1 rfl) ?_
  refine lv_iadd (pc := 21) hx hb dX7_puts_21 ?_
  refine lv_iload_n (pc := 22) hx hb dX7_puts_22 rfl (lv_at hl 3 rfl) ?_
  obtain ⟨v2, h_v2, h⟩ := ob h
  obtain ⟨hi_v2, e_v2⟩ := aset_in h_v2
  refine va_zast (pc := 23) hx hb hG.1 hP hD hS 5 1 rfl rfl hi_v2 dX7_puts_23 (fun H locs hP hD hS => ?_)
  rw [e_v2] at hP hD
  have hP : va_P K.1 vC (wMod K ad mthr mnow mold mols msav miss minp mlen mat v2 mcor mtri mkep mkee mwor mnum mmet) H := hP
  have hD : va_D _ (wMod K ad mthr mnow mold mols msav miss minp mlen mat v2 mcor mtri mkep mkee mwor mnum mmet) := hD
  obtain rfl := Option.some.inj h
  exact W.vret hx hb hr (fun t ht hW => ⟨⟨rfl, by rw [ht]; exact hP⟩, hS.F ht⟩) hS.2.2 dX7_puts_24 hlk
set_option maxHeartbeats 4000000 in
set_option maxRecDepth 100000 in
theorem l_Mod_isTied_L2 {p : Program} {l : Launch} {e : Env} {s : State} {m : MethodId} {args : Array Value} {below : List Frame} {meth : Method} {c : Code} {Q : State → Prop} {K : KT} (C0 : Ctx p m c cX7_isTied 4 s args RX7 K meth (some .boolean)) (F : Nat) (ad : Nat → Nat) (mthr : Int32) (mnow : Nat → Int32) (mold : Nat → Int32) (mols : Int32) (msav : Nat → Int32) (miss : Bool) (minp : Nat → Int32) (mlen : Int32) (mat : Int32) (medg : Nat → Int32) (mcor : Nat → Int32) (mtri : Int32) (mkep : Nat → Int32) (mkee : Nat → Int32) (mwor : Nat → Int32) (mnum : Nat → Int32) (mmet : Nat → Int32) (x1 : Int32) (x2 : Int32) (hP : va_P K.1 vC (wMod K ad mthr mnow mold mols msav miss minp mlen mat medg mcor mtri mkep mkee mwor mnum mmet) s.heap) : ∀ (n : Nat) (x3 : Int32) (out : (Bool) ⊕ (Int32)), s_Mod_isTied_L2 mnow x1 x2 n x3 = some out → ∀ (ls : Array Slot), lv_has ls 4 [(0, .ref (ad 0)), (1, .int x1), (2, .int x2), (3, .int x3)] → (∀ (o : Int32) (ls : Array Slot), out = .inr o → lv_has ls 4 [(0, .ref (ad 0)), (1, .int x1), (2, .int x2), (3, .int o)] → W p l e (rmL 1) s m args below meth c s.heap [] 0 0 Q (F0 m 46 ls [])) → (∀ (o : Bool) (pcR : Nat) (ls : Array Slot), out = .inl o → decode cX7_isTied pcR = .ok (.ireturn, 1) → W p l e (rmL 1) s m args below meth c s.heap [] 0 0 Q (F0 m pcR ls [.int (bI o)])) → W p l e (rmL 1) s m args below meth c s.heap [] 0 0 Q (F0 m 2 ls []) := by
  obtain ⟨hx, hb, hml, hown, hts, hG, hr, hlk⟩ := id C0
  intro n
  induction n with
  | zero =>
    intro x3 out h
    cases h
  | succ n ih =>
    intro x3 out h ls hl Kx Kr
    rw [s_Mod_isTied_L2.eq_2] at h
    refine lv_iload_n (pc := 2) hx hb dX7_isTied_2 rfl (lv_at hl 3 rfl) ?_
    refine lv_aload_n (pc := 3) hx hb dX7_isTied_3 rfl (lv_at hl 0 rfl) ?_
    obtain ⟨v1, h_v1, h⟩ := ob h
    refine rdV (pc := 4) (As := []) (rest := [.int x3]) hx hb hml hown hts hG hP (c_Mod_m l K ad mthr mnow mold mols msav miss minp mlen mat medg mcor mtri mkep mkee mwor mnum mmet h_v1) [0, 1, 2, 3, 4, 5, 6, 7, 8, 9, 10, 11] rfl (q0 := 0) rfl (ci := 7) rfl g_Mod_56 hd_Mod_m rfl ⟨Nat.le_of_ble_eq_true rfl, Nat.le_of_ble_eq_true rfl⟩ ⟨Nat.zero_le _, Nat.zero_le _⟩ hl rfl (Nat.le_of_ble_eq_true rfl) dX7_isTied_4 ?_
    refine lv_icmp_ge (tgt := 46) (pc := 7) hx hb dX7_isTied_7 (by decide) (fun c2 => ?_) (fun c2 => ?_)
    · have h := it_t c2 h
      obtain rfl := Option.some.inj h
      exact Kx _ ls rfl (lv_sub hl [0, 1, 2, 3] rfl)
    · have h := it_f c2 h
      refine lv_aload_n (pc := 10) hx hb dX7_isTied_10 rfl (lv_at hl 0 rfl) ?_
      refine lv_iload_n (pc := 11) hx hb dX7_isTied_11 rfl (lv_at hl 3 rfl) ?_
      refine lv_iconst (v := (0 : Int32)) (pc := 12) hx hb dX7_isTied_12 (by decide) ?_
      obtain ⟨v3, h_v3, h⟩ := ob h
      refine rdV (pc := 13) (As := [.int x3, .int (0 : Int32)]) (rest := []) hx hb hml hown hts hG hP (c_Mod_end l K ad mthr mnow mold mols msav miss minp mlen mat medg mcor mtri mkep mkee mwor mnum mmet x3 (0 : Int32) h_v3) [0, 1, 2, 3, 4, 5, 6, 7, 8, 9, 10, 11] rfl (q0 := 0) rfl (ci := 7) rfl g_Mod_101 hd_Mod_end rfl ⟨Nat.le_of_ble_eq_true rfl, Nat.le_of_ble_eq_true rfl⟩ ⟨Nat.zero_le _, Nat.zero_le _⟩ hl rfl (Nat.le_of_ble_eq_true rfl) dX7_isTied_13 ?_
      refine lv_iload_n (pc := 16) hx hb dX7_isTied_16 rfl (lv_at hl 1 rfl) ?_
      refine lv_iload_n (pc := 17) hx hb dX7_isTied_17 rfl (lv_at hl 2 rfl) ?_
      refine my_mmin (pc := 18) hx hb hml hl.1 hown hts qm_Mod_83 (Nat.le_of_ble_eq_true rfl) (Nat.le_of_ble_eq_true rfl) ⟨Nat.zero_le _, Nat.zero_le _⟩ dX7_isTied_18 ?_
      refine lv_icmp_ne (tgt := 40) (pc := 21) hx hb dX7_isTied_21 (by decide) (fun c4 => ?_) (fun c4 => ?_)
      · have h := it_f c4 h
        refine lv_iinc (v := (x3 + (1 : Int32))) (pc := 40) (lv' := [(3, .int (x3 + (1 : Int32))), (0, .ref (ad 0)), (1, .int x1), (2, .int x2)]) hx hb dX7_isTied_40 hl (k := 3) rfl rfl (by decide) rfl (fun ls hl => ?_)
        refine lv_goto (tgt := 2) (pc := 43) hx hb dX7_isTied_43 (by decide) ?_
        exact ih (x3 + (1 : Int32)) out h ls (lv_sub hl [1, 2, 3, 0] rfl) Kx Kr
      · have h := it_t c4 h
        refine lv_aload_n (pc := 24) hx hb dX7_isTied_24 rfl (lv_at hl 0 rfl) ?_
        refine lv_iload_n (pc := 25) hx hb dX7_isTied_25 rfl (lv_at hl 3 rfl) ?_
        refine lv_iconst (v := (1 : Int32)) (pc := 26) hx hb dX7_isTied_26 (by decide) ?_
        obtain ⟨v5, h_v5, h⟩ := ob h
        refine rdV (pc := 27) (As := [.int x3, .int (1 : Int32)]) (rest := []) hx hb hml hown hts hG hP (c_Mod_end l K ad mthr mnow mold mols msav miss minp mlen mat medg mcor mtri mkep mkee mwor mnum mmet x3 (1 : Int32) h_v5) [0, 1, 2, 3, 4, 5, 6, 7, 8, 9, 10, 11] rfl (q0 := 0) rfl (ci := 7) rfl g_Mod_101 hd_Mod_end rfl ⟨Nat.le_of_ble_eq_true rfl, Nat.le_of_ble_eq_true rfl⟩ ⟨Nat.zero_le _, Nat.zero_le _⟩ hl rfl (Nat.le_of_ble_eq_true rfl) dX7_isTied_27 ?_
        refine lv_iload_n (pc := 30) hx hb dX7_isTied_30 rfl (lv_at hl 1 rfl) ?_
        refine lv_iload_n (pc := 31) hx hb dX7_isTied_31 rfl (lv_at hl 2 rfl) ?_
        refine my_mmax (pc := 32) hx hb hml hl.1 hown hts qm_Mod_89 (Nat.le_of_ble_eq_true rfl) (Nat.le_of_ble_eq_true rfl) ⟨Nat.zero_le _, Nat.zero_le _⟩ dX7_isTied_32 ?_
        refine lv_icmp_ne (tgt := 40) (pc := 35) hx hb dX7_isTied_35 (by decide) (fun c6 => ?_) (fun c6 => ?_)
        · have h := it_f c6 h
          refine lv_iinc (v := (x3 + (1 : Int32))) (pc := 40) (lv' := [(3, .int (x3 + (1 : Int32))), (0, .ref (ad 0)), (1, .int x1), (2, .int x2)]) hx hb dX7_isTied_40 hl (k := 3) rfl rfl (by decide) rfl (fun ls hl => ?_)
          refine lv_goto (tgt := 2) (pc := 43) hx hb dX7_isTied_43 (by decide) ?_
          exact ih (x3 + (1 : Int32)) out h ls (lv_sub hl [1, 2, 3, 0] rfl) Kx Kr
        · have h := it_t c6 h
          refine lv_iconst (v := (1 : Int32)) (pc := 38) hx hb dX7_isTied_38 (by decide) ?_
          obtain rfl := Option.some.inj h
          exact Kr _ _ _ rfl dX7_isTied_39
set_option maxHeartbeats 4000000 in
set_option maxRecDepth 100000 in
theorem c_Mod_isTied (l : Launch) (K : KT) (ad : Nat → Nat) (mthr : Int32) (mnow : Nat → Int32) (mold : Nat → Int32) (mols : Int32) (msav : Nat → Int32) (miss : Bool) (minp : Nat → Int32) (mlen : Int32) (mat : Int32) (medg : Nat → Int32) (mcor : Nat → Int32) (mtri : Int32) (mkep : Nat → Int32) (mkee : Nat → Int32) (mwor : Nat → Int32) (mnum : Nat → Int32) (mmet : Nat → Int32) (a0 : Int32) (a1 : Int32) (F : Nat) {o : Bool} (h : s_Mod_isTied F mnow a0 a1 = some o) : Rd l K 1 yX7_isTied cX7_isTied 4 .boolean [.ref (ad 0), .int a0, .int a1] (wMod K ad mthr mnow mold mols msav miss minp mlen mat medg mcor mtri mkep mkee mwor mnum mmet) (bI o) := by
  refine Rd.of (by decide +kernel) (Nat.le_of_ble_eq_true rfl) ?_
  unfold s_Mod_isTied at h
  intro p e s m below meth c hx hb hr hml hown hts hlk hP hG ls hl
  have C0 : Ctx p m c cX7_isTied 4 s (Array.mk [.ref (ad 0), .int a0, .int a1]) RX7 K meth (some .boolean) := ⟨hx, hb, hml, hown, hts, hG, hr, hlk⟩
  have hl : lv_has ls 4 [(0, .ref (ad 0)), (1, .int a0), (2, .int a1)] := hl
  refine lv_iconst (v := (0 : Int32)) (pc := 0) hx hb dX7_isTied_0 (by decide) ?_
  refine lv_istore_n (pc := 1) (lv' := [(3, .int (0 : Int32)), (0, .ref (ad 0)), (1, .int a0), (2, .int a1)]) hx hb dX7_isTied_1 rfl hl (by decide) rfl (fun ls hl => ?_)
  obtain ⟨o7, h_o7, h⟩ := ob h
  refine l_Mod_isTied_L2 C0 F ad mthr mnow mold mols msav miss minp mlen mat medg mcor mtri mkep mkee mwor mnum mmet a0 a1 hP F (0 : Int32) _ h_o7 ls (lv_sub hl [1, 2, 3, 0] rfl) (fun o7x ls eo hl => ?_) (fun q_o pcR ls eo hdR => ?_)
  · subst o7
    have h := se_r h
    refine lv_iconst (v := (0 : Int32)) (pc := 46) hx hb dX7_isTied_46 (by decide) ?_
    obtain rfl := Option.some.inj h
    exact W.zret hx hb hr (rfl) (fun t ht hW => ⟨rfl, ht⟩) (fun q hq => absurd hq List.not_mem_nil) dX7_isTied_47 hlk
  · subst o7
    have h := se_l h
    obtain rfl := Option.some.inj h
    exact W.zret hx hb hr (bI_nar _) (fun t ht hW => ⟨rfl, ht⟩) (fun q hq => absurd hq List.not_mem_nil) hdR hlk
set_option maxHeartbeats 4000000 in
set_option maxRecDepth 100000 in
theorem l_Mod_isEmpty_L3 {p : Program} {l : Launch} {e : Env} {s : State} {m : MethodId} {args : Array Value} {below : List Frame} {meth : Method} {c : Code} {Q : State → Prop} {K : KT} (C0 : Ctx p m c cX7_isEmpty 5 s args RX7 K meth (some .boolean)) (F : Nat) (ad : Nat → Nat) (mthr : Int32) (mnow : Nat → Int32) (mold : Nat → Int32) (mols : Int32) (msav : Nat → Int32) (miss : Bool) (minp : Nat → Int32) (mlen : Int32) (mat : Int32) (medg : Nat → Int32) (mcor : Nat → Int32) (mtri : Int32) (mkep : Nat → Int32) (mkee : Nat → Int32) (mwor : Nat → Int32) (mnum : Nat → Int32) (mmet : Nat → Int32) (x1 : Int32) (x2 : Int32) (x3 : Int32) (hP : va_P K.1 vC (wMod K ad mthr mnow mold mols msav miss minp mlen mat medg mcor mtri mkep mkee mwor mnum mmet) s.heap) : ∀ (n : Nat) (x4 : Int32) (out : (Bool) ⊕ (Int32)), s_Mod_isEmpty_L3 mnow x1 x2 x3 n x4 = some out → ∀ (ls : Array Slot), lv_has ls 5 [(0, .ref (ad 0)), (1, .int x1), (2, .int x2), (3, .int x3), (4, .int x4)] → (∀ (o : Int32) (ls : Array Slot), out = .inr o → lv_has ls 5 [(0, .ref (ad 0)), (1, .int x1), (2, .int x2), (3, .int x3), (4, .int o)] → W p l e (rmL 3) s m args below meth c s.heap [] 0 0 Q (F0 m 71 ls [])) → (∀ (o : Bool) (pcR : Nat) (ls : Array Slot), out = .inl o → decode cX7_isEmpty pcR = .ok (.ireturn, 1) → W p l e (rmL 3) s m args below meth c s.heap [] 0 0 Q (F0 m pcR ls [.int (bI o)])) → W p l e (rmL 3) s m args below meth c s.heap [] 0 0 Q (F0 m 3 ls []) := by
  obtain ⟨hx, hb, hml, hown, hts, hG, hr, hlk⟩ := id C0
  intro n
  induction n with
  | zero =>
    intro x4 out h
    cases h
  | succ n ih =>
    intro x4 out h ls hl Kx Kr
    rw [s_Mod_isEmpty_L3.eq_2] at h
    refine lv_iload (pc := 3) hx hb dX7_isEmpty_3 (lv_at hl 4 rfl) ?_
    refine lv_aload_n (pc := 5) hx hb dX7_isEmpty_5 rfl (lv_at hl 0 rfl) ?_
    obtain ⟨v1, h_v1, h⟩ := ob h
    refine rdV (pc := 6) (As := []) (rest := [.int x4]) hx hb hml hown hts hG hP (c_Mod_n l K ad mthr mnow mold mols msav miss minp mlen mat medg mcor mtri mkep mkee mwor mnum mmet h_v1) [0, 1, 2, 3, 4, 5, 6, 7, 8, 9, 10, 11] rfl (q0 := 0) rfl (ci := 7) rfl g_Mod_48 hd_Mod_n rfl ⟨Nat.le_of_ble_eq_true rfl, Nat.le_of_ble_eq_true rfl⟩ ⟨Nat.zero_le _, Nat.zero_le _⟩ hl rfl (Nat.le_of_ble_eq_true rfl) dX7_isEmpty_6 ?_
    refine lv_icmp_ge (tgt := 71) (pc := 9) hx hb dX7_isEmpty_9 (by decide) (fun c2 => ?_) (fun c2 => ?_)
    · have h := it_t c2 h
      obtain rfl := Option.some.inj h
      exact Kx _ ls rfl (lv_sub hl [0, 1, 2, 3, 4] rfl)
    · have h := it_f c2 h
      refine lv_iload (pc := 12) hx hb dX7_isEmpty_12 (lv_at hl 4 rfl) ?_
      refine lv_iload_n (pc := 14) hx hb dX7_isEmpty_14 rfl (lv_at hl 1 rfl) ?_
      refine lv_icmp_eq (tgt := 65) (pc := 15) hx hb dX7_isEmpty_15 (by decide) (fun c3 => ?_) (fun c3 => ?_)
      · have h := it_t c3 h
        refine lv_iinc (v := (x4 + (1 : Int32))) (pc := 65) (lv' := [(4, .int (x4 + (1 : Int32))), (0, .ref (ad 0)), (1, .int x1), (2, .int x2), (3, .int x3)]) hx hb dX7_isEmpty_65 hl (k := 4) rfl rfl (by decide) rfl (fun ls hl => ?_)
        refine lv_goto (tgt := 3) (pc := 68) hx hb dX7_isEmpty_68 (by decide) ?_
        exact ih (x4 + (1 : Int32)) out h ls (lv_sub hl [1, 2, 3, 4, 0] rfl) Kx Kr
      · have h := it_f c3 h
        refine lv_iload (pc := 18) hx hb dX7_isEmpty_18 (lv_at hl 4 rfl) ?_
        refine lv_iload_n (pc := 20) hx hb dX7_isEmpty_20 rfl (lv_at hl 2 rfl) ?_
        refine lv_icmp_eq (tgt := 65) (pc := 21) hx hb dX7_isEmpty_21 (by decide) (fun c4 => ?_) (fun c4 => ?_)
        · have h := it_t c4 h
          refine lv_iinc (v := (x4 + (1 : Int32))) (pc := 65) (lv' := [(4, .int (x4 + (1 : Int32))), (0, .ref (ad 0)), (1, .int x1), (2, .int x2), (3, .int x3)]) hx hb dX7_isEmpty_65 hl (k := 4) rfl rfl (by decide) rfl (fun ls hl => ?_)
          refine lv_goto (tgt := 3) (pc := 68) hx hb dX7_isEmpty_68 (by decide) ?_
          exact ih (x4 + (1 : Int32)) out h ls (lv_sub hl [1, 2, 3, 4, 0] rfl) Kx Kr
        · have h := it_f c4 h
          refine lv_iload (pc := 24) hx hb dX7_isEmpty_24 (lv_at hl 4 rfl) ?_
          refine lv_iload_n (pc := 26) hx hb dX7_isEmpty_26 rfl (lv_at hl 3 rfl) ?_
          refine lv_icmp_eq (tgt := 65) (pc := 27) hx hb dX7_isEmpty_27 (by decide) (fun c5 => ?_) (fun c5 => ?_)
          · have h := it_t c5 h
            refine lv_iinc (v := (x4 + (1 : Int32))) (pc := 65) (lv' := [(4, .int (x4 + (1 : Int32))), (0, .ref (ad 0)), (1, .int x1), (2, .int x2), (3, .int x3)]) hx hb dX7_isEmpty_65 hl (k := 4) rfl rfl (by decide) rfl (fun ls hl => ?_)
            refine lv_goto (tgt := 3) (pc := 68) hx hb dX7_isEmpty_68 (by decide) ?_
            exact ih (x4 + (1 : Int32)) out h ls (lv_sub hl [1, 2, 3, 4, 0] rfl) Kx Kr
          · have h := it_f c5 h
            refine lv_aload_n (pc := 30) hx hb dX7_isEmpty_30 rfl (lv_at hl 0 rfl) ?_
            refine lv_iload_n (pc := 31) hx hb dX7_isEmpty_31 rfl (lv_at hl 1 rfl) ?_
            refine lv_iload_n (pc := 32) hx hb dX7_isEmpty_32 rfl (lv_at hl 2 rfl) ?_
            refine lv_iload (pc := 33) hx hb dX7_isEmpty_33 (lv_at hl 4 rfl) ?_
            obtain ⟨v6, h_v6, h⟩ := ob h
            refine rdV (pc := 35) (As := [.int x1, .int x2, .int x4]) (rest := []) hx hb hml hown hts hG hP (c_Mod_turns l K ad mthr mnow mold mols msav miss minp mlen mat medg mcor mtri mkep mkee mwor mnum mmet x1 x2 x4 h_v6) [0, 1, 2, 3, 4, 5, 6, 7, 8, 9, 10, 11] rfl (q0 := 0) rfl (ci := 7) rfl g_Mod_79 hd_Mod_turns rfl ⟨Nat.le_of_ble_eq_true rfl, Nat.le_of_ble_eq_true rfl⟩ ⟨Nat.zero_le _, Nat.zero_le _⟩ hl rfl (Nat.le_of_ble_eq_true rfl) dX7_isEmpty_35 ?_
            refine lv_if_lt (tgt := 65) (pc := 38) hx hb dX7_isEmpty_38 (by decide) (fun c7 => ?_) (fun c7 => ?_)
            · have h := it_t c7 h
              refine lv_iinc (v := (x4 + (1 : Int32))) (pc := 65) (lv' := [(4, .int (x4 + (1 : Int32))), (0, .ref (ad 0)), (1, .int x1), (2, .int x2), (3, .int x3)]) hx hb dX7_isEmpty_65 hl (k := 4) rfl rfl (by decide) rfl (fun ls hl => ?_)
              refine lv_goto (tgt := 3) (pc := 68) hx hb dX7_isEmpty_68 (by decide) ?_
              exact ih (x4 + (1 : Int32)) out h ls (lv_sub hl [1, 2, 3, 4, 0] rfl) Kx Kr
            · have h := it_f c7 h
              refine lv_aload_n (pc := 41) hx hb dX7_isEmpty_41 rfl (lv_at hl 0 rfl) ?_
              refine lv_iload_n (pc := 42) hx hb dX7_isEmpty_42 rfl (lv_at hl 2 rfl) ?_
              refine lv_iload_n (pc := 43) hx hb dX7_isEmpty_43 rfl (lv_at hl 3 rfl) ?_
              refine lv_iload (pc := 44) hx hb dX7_isEmpty_44 (lv_at hl 4 rfl) ?_
              obtain ⟨v8, h_v8, h⟩ := ob h
              refine rdV (pc := 46) (As := [.int x2, .int x3, .int x4]) (rest := []) hx hb hml hown hts hG hP (c_Mod_turns l K ad mthr mnow mold mols msav miss minp mlen mat medg mcor mtri mkep mkee mwor mnum mmet x2 x3 x4 h_v8) [0, 1, 2, 3, 4, 5, 6, 7, 8, 9, 10, 11] rfl (q0 := 0) rfl (ci := 7) rfl g_Mod_79 hd_Mod_turns rfl ⟨Nat.le_of_ble_eq_true rfl, Nat.le_of_ble_eq_true rfl⟩ ⟨Nat.zero_le _, Nat.zero_le _⟩ hl rfl (Nat.le_of_ble_eq_true rfl) dX7_isEmpty_46 ?_
              refine lv_if_lt (tgt := 65) (pc := 49) hx hb dX7_isEmpty_49 (by decide) (fun c9 => ?_) (fun c9 => ?_)
              · have h := it_t c9 h
                refine lv_iinc (v := (x4 + (1 : Int32))) (pc := 65) (lv' := [(4, .int (x4 + (1 : Int32))), (0, .ref (ad 0)), (1, .int x1), (2, .int x2), (3, .int x3)]) hx hb dX7_isEmpty_65 hl (k := 4) rfl rfl (by decide) rfl (fun ls hl => ?_)
                refine lv_goto (tgt := 3) (pc := 68) hx hb dX7_isEmpty_68 (by decide) ?_
                exact ih (x4 + (1 : Int32)) out h ls (lv_sub hl [1, 2, 3, 4, 0] rfl) Kx Kr
              · have h := it_f c9 h
                refine lv_aload_n (pc := 52) hx hb dX7_isEmpty_52 rfl (lv_at hl 0 rfl) ?_
                refine lv_iload_n (pc := 53) hx hb dX7_isEmpty_53 rfl (lv_at hl 3 rfl) ?_
                refine lv_iload_n (pc := 54) hx hb dX7_isEmpty_54 rfl (lv_at hl 1 rfl) ?_
                refine lv_iload (pc := 55) hx hb dX7_isEmpty_55 (lv_at hl 4 rfl) ?_
                obtain ⟨v10, h_v10, h⟩ := ob h
                refine rdV (pc := 57) (As := [.int x3, .int x1, .int x4]) (rest := []) hx hb hml hown hts hG hP (c_Mod_turns l K ad mthr mnow mold mols msav miss minp mlen mat medg mcor mtri mkep mkee mwor mnum mmet x3 x1 x4 h_v10) [0, 1, 2, 3, 4, 5, 6, 7, 8, 9, 10, 11] rfl (q0 := 0) rfl (ci := 7) rfl g_Mod_79 hd_Mod_turns rfl ⟨Nat.le_of_ble_eq_true rfl, Nat.le_of_ble_eq_true rfl⟩ ⟨Nat.zero_le _, Nat.zero_le _⟩ hl rfl (Nat.le_of_ble_eq_true rfl) dX7_isEmpty_57 ?_
                refine lv_if_lt (tgt := 65) (pc := 60) hx hb dX7_isEmpty_60 (by decide) (fun c11 => ?_) (fun c11 => ?_)
                · have h := it_t c11 h
                  refine lv_iinc (v := (x4 + (1 : Int32))) (pc := 65) (lv' := [(4, .int (x4 + (1 : Int32))), (0, .ref (ad 0)), (1, .int x1), (2, .int x2), (3, .int x3)]) hx hb dX7_isEmpty_65 hl (k := 4) rfl rfl (by decide) rfl (fun ls hl => ?_)
                  refine lv_goto (tgt := 3) (pc := 68) hx hb dX7_isEmpty_68 (by decide) ?_
                  exact ih (x4 + (1 : Int32)) out h ls (lv_sub hl [1, 2, 3, 4, 0] rfl) Kx Kr
                · have h := it_f c11 h
                  refine lv_iconst (v := (0 : Int32)) (pc := 63) hx hb dX7_isEmpty_63 (by decide) ?_
                  obtain rfl := Option.some.inj h
                  exact Kr _ _ _ rfl dX7_isEmpty_64
set_option maxHeartbeats 4000000 in
set_option maxRecDepth 100000 in
theorem c_Mod_isEmpty (l : Launch) (K : KT) (ad : Nat → Nat) (mthr : Int32) (mnow : Nat → Int32) (mold : Nat → Int32) (mols : Int32) (msav : Nat → Int32) (miss : Bool) (minp : Nat → Int32) (mlen : Int32) (mat : Int32) (medg : Nat → Int32) (mcor : Nat → Int32) (mtri : Int32) (mkep : Nat → Int32) (mkee : Nat → Int32) (mwor : Nat → Int32) (mnum : Nat → Int32) (mmet : Nat → Int32) (a0 : Int32) (a1 : Int32) (a2 : Int32) (F : Nat) {o : Bool} (h : s_Mod_isEmpty F mnow a0 a1 a2 = some o) : Rd l K 3 yX7_isEmpty cX7_isEmpty 5 .boolean [.ref (ad 0), .int a0, .int a1, .int a2] (wMod K ad mthr mnow mold mols msav miss minp mlen mat medg mcor mtri mkep mkee mwor mnum mmet) (bI o) := by
  refine Rd.of (by decide +kernel) (Nat.le_of_ble_eq_true rfl) ?_
  unfold s_Mod_isEmpty at h
  intro p e s m below meth c hx hb hr hml hown hts hlk hP hG ls hl
  have C0 : Ctx p m c cX7_isEmpty 5 s (Array.mk [.ref (ad 0), .int a0, .int a1, .int a2]) RX7 K meth (some .boolean) := ⟨hx, hb, hml, hown, hts, hG, hr, hlk⟩
  have hl : lv_has ls 5 [(0, .ref (ad 0)), (1, .int a0), (2, .int a1), (3, .int a2)] := hl
  refine lv_iconst (v := (0 : Int32)) (pc := 0) hx hb dX7_isEmpty_0 (by decide) ?_
  refine lv_istore (pc := 1) (lv' := [(4, .int (0 : Int32)), (0, .ref (ad 0)), (1, .int a0), (2, .int a1), (3, .int a2)]) hx hb dX7_isEmpty_1 hl (by decide) rfl (fun ls hl => ?_)
  obtain ⟨o12, h_o12, h⟩ := ob h
  refine l_Mod_isEmpty_L3 C0 F ad mthr mnow mold mols msav miss minp mlen mat medg mcor mtri mkep mkee mwor mnum mmet a0 a1 a2 hP F (0 : Int32) _ h_o12 ls (lv_sub hl [1, 2, 3, 4, 0] rfl) (fun o12x ls eo hl => ?_) (fun q_o pcR ls eo hdR => ?_)
  · subst o12
    have h := se_r h
    refine lv_iconst (v := (1 : Int32)) (pc := 71) hx hb dX7_isEmpty_71 (by decide) ?_
    obtain rfl := Option.some.inj h
    exact W.zret hx hb hr (rfl) (fun t ht hW => ⟨rfl, ht⟩) (fun q hq => absurd hq List.not_mem_nil) dX7_isEmpty_72 hlk
  · subst o12
    have h := se_l h
    obtain rfl := Option.some.inj h
    exact W.zret hx hb hr (bI_nar _) (fun t ht hW => ⟨rfl, ht⟩) (fun q hq => absurd hq List.not_mem_nil) hdR hlk
set_option maxHeartbeats 4000000 in
set_option maxRecDepth 100000 in
theorem l_Mod_apex_L2 {p : Program} {l : Launch} {e : Env} {s : State} {m : MethodId} {args : Array Value} {below : List Frame} {meth : Method} {c : Code} {Q : State → Prop} {K : KT} (C0 : Ctx p m c cX7_apex 4 s args RX7 K meth (some .int)) (F : Nat) (ad : Nat → Nat) (mthr : Int32) (mnow : Nat → Int32) (mold : Nat → Int32) (mols : Int32) (msav : Nat → Int32) (miss : Bool) (minp : Nat → Int32) (mlen : Int32) (mat : Int32) (medg : Nat → Int32) (mcor : Nat → Int32) (mtri : Int32) (mkep : Nat → Int32) (mkee : Nat → Int32) (mwor : Nat → Int32) (mnum : Nat → Int32) (mmet : Nat → Int32) (x1 : Int32) (x2 : Int32) (hP : va_P K.1 vC (wMod K ad mthr mnow mold mols msav miss minp mlen mat medg mcor mtri mkep mkee mwor mnum mmet) s.heap) : ∀ (n : Nat) (x3 : Int32) (out : (Int32) ⊕ (Int32)), s_Mod_apex_L2 F mnow medg x1 x2 n x3 = some out → ∀ (ls : Array Slot), lv_has ls 4 [(0, .ref (ad 0)), (1, .int x1), (2, .int x2), (3, .int x3)] → (∀ (o : Int32) (ls : Array Slot), out = .inr o → lv_has ls 4 [(0, .ref (ad 0)), (1, .int x1), (2, .int x2), (3, .int o)] → W p l e (rmL 4) s m args below meth c s.heap [] 0 0 Q (F0 m 66 ls [])) → (∀ (o : Int32) (pcR : Nat) (ls : Array Slot), out = .inl o → decode cX7_apex pcR = .ok (.ireturn, 1) → W p l e (rmL 4) s m args below meth c s.heap [] 0 0 Q (F0 m pcR ls [.int o])) → W p l e (rmL 4) s m args below meth c s.heap [] 0 0 Q (F0 m 2 ls []) := by
  obtain ⟨hx, hb, hml, hown, hts, hG, hr, hlk⟩ := id C0
  intro n
  induction n with
  | zero =>
    intro x3 out h
    cases h
  | succ n ih =>
    intro x3 out h ls hl Kx Kr
    rw [s_Mod_apex_L2.eq_2] at h
    refine lv_iload_n (pc := 2) hx hb dX7_apex_2 rfl (lv_at hl 3 rfl) ?_
    refine lv_aload_n (pc := 3) hx hb dX7_apex_3 rfl (lv_at hl 0 rfl) ?_
    obtain ⟨v1, h_v1, h⟩ := ob h
    refine rdV (pc := 4) (As := []) (rest := [.int x3]) hx hb hml hown hts hG hP (c_Mod_n l K ad mthr mnow mold mols msav miss minp mlen mat medg mcor mtri mkep mkee mwor mnum mmet h_v1) [0, 1, 2, 3, 4, 5, 6, 7, 8, 9, 10, 11] rfl (q0 := 0) rfl (ci := 7) rfl g_Mod_48 hd_Mod_n rfl ⟨Nat.le_of_ble_eq_true rfl, Nat.le_of_ble_eq_true rfl⟩ ⟨Nat.zero_le _, Nat.zero_le _⟩ hl rfl (Nat.le_of_ble_eq_true rfl) dX7_apex_4 ?_
    refine lv_icmp_ge (tgt := 66) (pc := 7) hx hb dX7_apex_7 (by decide) (fun c2 => ?_) (fun c2 => ?_)
    · have h := it_t c2 h
      obtain rfl := Option.some.inj h
      exact Kx _ ls rfl (lv_sub hl [0, 1, 2, 3] rfl)
    · have h := it_f c2 h
      refine lv_iload_n (pc := 10) hx hb dX7_apex_10 rfl (lv_at hl 3 rfl) ?_
      refine lv_iload_n (pc := 11) hx hb dX7_apex_11 rfl (lv_at hl 1 rfl) ?_
      refine lv_icmp_eq (tgt := 60) (pc := 12) hx hb dX7_apex_12 (by decide) (fun c3 => ?_) (fun c3 => ?_)
      · have h := it_t c3 h
        refine lv_iinc (v := (x3 + (1 : Int32))) (pc := 60) (lv' := [(3, .int (x3 + (1 : Int32))), (0, .ref (ad 0)), (1, .int x1), (2, .int x2)]) hx hb dX7_apex_60 hl (k := 3) rfl rfl (by decide) rfl (fun ls hl => ?_)
        refine lv_goto (tgt := 2) (pc := 63) hx hb dX7_apex_63 (by decide) ?_
        exact ih (x3 + (1 : Int32)) out h ls (lv_sub hl [1, 2, 3, 0] rfl) Kx Kr
      · have h := it_f c3 h
        refine lv_iload_n (pc := 15) hx hb dX7_apex_15 rfl (lv_at hl 3 rfl) ?_
        refine lv_iload_n (pc := 16) hx hb dX7_apex_16 rfl (lv_at hl 2 rfl) ?_
        refine lv_icmp_eq (tgt := 60) (pc := 17) hx hb dX7_apex_17 (by decide) (fun c4 => ?_) (fun c4 => ?_)
        · have h := it_t c4 h
          refine lv_iinc (v := (x3 + (1 : Int32))) (pc := 60) (lv' := [(3, .int (x3 + (1 : Int32))), (0, .ref (ad 0)), (1, .int x1), (2, .int x2)]) hx hb dX7_apex_60 hl (k := 3) rfl rfl (by decide) rfl (fun ls hl => ?_)
          refine lv_goto (tgt := 2) (pc := 63) hx hb dX7_apex_63 (by decide) ?_
          exact ih (x3 + (1 : Int32)) out h ls (lv_sub hl [1, 2, 3, 0] rfl) Kx Kr
        · have h := it_f c4 h
          refine lv_aload_n (pc := 20) hx hb dX7_apex_20 rfl (lv_at hl 0 rfl) ?_
          refine lv_iload_n (pc := 21) hx hb dX7_apex_21 rfl (lv_at hl 1 rfl) ?_
          refine lv_iload_n (pc := 22) hx hb dX7_apex_22 rfl (lv_at hl 3 rfl) ?_
          obtain ⟨v5, h_v5, h⟩ := ob h
          refine rdV (pc := 23) (As := [.int x1, .int x3]) (rest := []) hx hb hml hown hts hG hP (c_Mod_has l K ad mthr mnow mold mols msav miss minp mlen mat medg mcor mtri mkep mkee mwor mnum mmet x1 x3 h_v5) [0, 1, 2, 3, 4, 5, 6, 7, 8, 9, 10, 11] rfl (q0 := 0) rfl (ci := 7) rfl g_Mod_104 hd_Mod_has rfl ⟨Nat.le_of_ble_eq_true rfl, Nat.le_of_ble_eq_true rfl⟩ ⟨Nat.zero_le _, Nat.zero_le _⟩ hl rfl (Nat.le_of_ble_eq_true rfl) dX7_apex_23 ?_
          refine lv_if_eq (tgt := 60) (pc := 26) hx hb dX7_apex_26 (by decide) (fun c6 => ?_) (fun c6 => ?_)
          · have h := it_t c6 h
            refine lv_iinc (v := (x3 + (1 : Int32))) (pc := 60) (lv' := [(3, .int (x3 + (1 : Int32))), (0, .ref (ad 0)), (1, .int x1), (2, .int x2)]) hx hb dX7_apex_60 hl (k := 3) rfl rfl (by decide) rfl (fun ls hl => ?_)
            refine lv_goto (tgt := 2) (pc := 63) hx hb dX7_apex_63 (by decide) ?_
            exact ih (x3 + (1 : Int32)) out h ls (lv_sub hl [1, 2, 3, 0] rfl) Kx Kr
          · have h := it_f c6 h
            refine lv_aload_n (pc := 29) hx hb dX7_apex_29 rfl (lv_at hl 0 rfl) ?_
            refine lv_iload_n (pc := 30) hx hb dX7_apex_30 rfl (lv_at hl 2 rfl) ?_
            refine lv_iload_n (pc := 31) hx hb dX7_apex_31 rfl (lv_at hl 3 rfl) ?_
            obtain ⟨v7, h_v7, h⟩ := ob h
            refine rdV (pc := 32) (As := [.int x2, .int x3]) (rest := []) hx hb hml hown hts hG hP (c_Mod_has l K ad mthr mnow mold mols msav miss minp mlen mat medg mcor mtri mkep mkee mwor mnum mmet x2 x3 h_v7) [0, 1, 2, 3, 4, 5, 6, 7, 8, 9, 10, 11] rfl (q0 := 0) rfl (ci := 7) rfl g_Mod_104 hd_Mod_has rfl ⟨Nat.le_of_ble_eq_true rfl, Nat.le_of_ble_eq_true rfl⟩ ⟨Nat.zero_le _, Nat.zero_le _⟩ hl rfl (Nat.le_of_ble_eq_true rfl) dX7_apex_32 ?_
            refine lv_if_eq (tgt := 60) (pc := 35) hx hb dX7_apex_35 (by decide) (fun c8 => ?_) (fun c8 => ?_)
            · have h := it_t c8 h
              refine lv_iinc (v := (x3 + (1 : Int32))) (pc := 60) (lv' := [(3, .int (x3 + (1 : Int32))), (0, .ref (ad 0)), (1, .int x1), (2, .int x2)]) hx hb dX7_apex_60 hl (k := 3) rfl rfl (by decide) rfl (fun ls hl => ?_)
              refine lv_goto (tgt := 2) (pc := 63) hx hb dX7_apex_63 (by decide) ?_
              exact ih (x3 + (1 : Int32)) out h ls (lv_sub hl [1, 2, 3, 0] rfl) Kx Kr
            · have h := it_f c8 h
              refine lv_aload_n (pc := 38) hx hb dX7_apex_38 rfl (lv_at hl 0 rfl) ?_
              refine lv_iload_n (pc := 39) hx hb dX7_apex_39 rfl (lv_at hl 1 rfl) ?_
              refine lv_iload_n (pc := 40) hx hb dX7_apex_40 rfl (lv_at hl 2 rfl) ?_
              refine lv_iload_n (pc := 41) hx hb dX7_apex_41 rfl (lv_at hl 3 rfl) ?_
              obtain ⟨v9, h_v9, h⟩ := ob h
              refine rdV (pc := 42) (As := [.int x1, .int x2, .int x3]) (rest := []) hx hb hml hown hts hG hP (c_Mod_turns l K ad mthr mnow mold mols msav miss minp mlen mat medg mcor mtri mkep mkee mwor mnum mmet x1 x2 x3 h_v9) [0, 1, 2, 3, 4, 5, 6, 7, 8, 9, 10, 11] rfl (q0 := 0) rfl (ci := 7) rfl g_Mod_79 hd_Mod_turns rfl ⟨Nat.le_of_ble_eq_true rfl, Nat.le_of_ble_eq_true rfl⟩ ⟨Nat.zero_le _, Nat.zero_le _⟩ hl rfl (Nat.le_of_ble_eq_true rfl) dX7_apex_42 ?_
              refine lv_if_le (tgt := 60) (pc := 45) hx hb dX7_apex_45 (by decide) (fun c10 => ?_) (fun c10 => ?_)
              · have h := it_t c10 h
                refine lv_iinc (v := (x3 + (1 : Int32))) (pc := 60) (lv' := [(3, .int (x3 + (1 : Int32))), (0, .ref (ad 0)), (1, .int x1), (2, .int x2)]) hx hb dX7_apex_60 hl (k := 3) rfl rfl (by decide) rfl (fun ls hl => ?_)
                refine lv_goto (tgt := 2) (pc := 63) hx hb dX7_apex_63 (by decide) ?_
                exact ih (x3 + (1 : Int32)) out h ls (lv_sub hl [1, 2, 3, 0] rfl) Kx Kr
              · have h := it_f c10 h
                refine lv_aload_n (pc := 48) hx hb dX7_apex_48 rfl (lv_at hl 0 rfl) ?_
                refine lv_iload_n (pc := 49) hx hb dX7_apex_49 rfl (lv_at hl 1 rfl) ?_
                refine lv_iload_n (pc := 50) hx hb dX7_apex_50 rfl (lv_at hl 2 rfl) ?_
                refine lv_iload_n (pc := 51) hx hb dX7_apex_51 rfl (lv_at hl 3 rfl) ?_
                obtain ⟨v11, h_v11, h⟩ := ob h
                refine rdV (pc := 52) (As := [.int x1, .int x2, .int x3]) (rest := []) hx hb hml hown hts hG hP (c_Mod_isEmpty l K ad mthr mnow mold mols msav miss minp mlen mat medg mcor mtri mkep mkee mwor mnum mmet x1 x2 x3 F h_v11) [0, 1, 2, 3, 4, 5, 6, 7, 8, 9, 10, 11] rfl (q0 := 0) rfl (ci := 7) rfl g_Mod_108 hd_Mod_isEmpty rfl ⟨Nat.le_of_ble_eq_true rfl, Nat.le_of_ble_eq_true rfl⟩ ⟨Nat.zero_le _, Nat.zero_le _⟩ hl rfl (Nat.le_of_ble_eq_true rfl) dX7_apex_52 ?_
                refine lv_if_eq (tgt := 60) (pc := 55) hx hb dX7_apex_55 (by decide) (fun c12 => ?_) (fun c12 => ?_)
                · have h := it_t c12 h
                  refine lv_iinc (v := (x3 + (1 : Int32))) (pc := 60) (lv' := [(3, .int (x3 + (1 : Int32))), (0, .ref (ad 0)), (1, .int x1), (2, .int x2)]) hx hb dX7_apex_60 hl (k := 3) rfl rfl (by decide) rfl (fun ls hl => ?_)
                  refine lv_goto (tgt := 2) (pc := 63) hx hb dX7_apex_63 (by decide) ?_
                  exact ih (x3 + (1 : Int32)) out h ls (lv_sub hl [1, 2, 3, 0] rfl) Kx Kr
                · have h := it_f c12 h
                  refine lv_iload_n (pc := 58) hx hb dX7_apex_58 rfl (lv_at hl 3 rfl) ?_
                  obtain rfl := Option.some.inj h
                  exact Kr _ _ _ rfl dX7_apex_59
set_option maxHeartbeats 4000000 in
set_option maxRecDepth 100000 in
theorem c_Mod_apex (l : Launch) (K : KT) (ad : Nat → Nat) (mthr : Int32) (mnow : Nat → Int32) (mold : Nat → Int32) (mols : Int32) (msav : Nat → Int32) (miss : Bool) (minp : Nat → Int32) (mlen : Int32) (mat : Int32) (medg : Nat → Int32) (mcor : Nat → Int32) (mtri : Int32) (mkep : Nat → Int32) (mkee : Nat → Int32) (mwor : Nat → Int32) (mnum : Nat → Int32) (mmet : Nat → Int32) (a0 : Int32) (a1 : Int32) (F : Nat) {o : Int32} (h : s_Mod_apex F mnow medg a0 a1 = some o) : Rd l K 4 yX7_apex cX7_apex 4 .int [.ref (ad 0), .int a0, .int a1] (wMod K ad mthr mnow mold mols msav miss minp mlen mat medg mcor mtri mkep mkee mwor mnum mmet) o := by
  refine Rd.of (by decide +kernel) (Nat.le_of_ble_eq_true rfl) ?_
  unfold s_Mod_apex at h
  intro p e s m below meth c hx hb hr hml hown hts hlk hP hG ls hl
  have C0 : Ctx p m c cX7_apex 4 s (Array.mk [.ref (ad 0), .int a0, .int a1]) RX7 K meth (some .int) := ⟨hx, hb, hml, hown, hts, hG, hr, hlk⟩
  have hl : lv_has ls 4 [(0, .ref (ad 0)), (1, .int a0), (2, .int a1)] := hl
  refine lv_iconst (v := (0 : Int32)) (pc := 0) hx hb dX7_apex_0 (by decide) ?_
  refine lv_istore_n (pc := 1) (lv' := [(3, .int (0 : Int32)), (0, .ref (ad 0)), (1, .int a0), (2, .int a1)]) hx hb dX7_apex_1 rfl hl (by decide) rfl (fun ls hl => ?_)
  obtain ⟨o13, h_o13, h⟩ := ob h
  refine l_Mod_apex_L2 C0 F ad mthr mnow mold mols msav miss minp mlen mat medg mcor mtri mkep mkee mwor mnum mmet a0 a1 hP F (0 : Int32) _ h_o13 ls (lv_sub hl [1, 2, 3, 0] rfl) (fun o13x ls eo hl => ?_) (fun q_o pcR ls eo hdR => ?_)
  · subst o13
    have h := se_r h
    refine lv_iconst (v := (-1 : Int32)) (pc := 66) hx hb dX7_apex_66 (by decide) ?_
    obtain rfl := Option.some.inj h
    exact W.iret hx hb hr (fun t ht hW => ⟨rfl, ht⟩) (fun q hq => absurd hq List.not_mem_nil) dX7_apex_67 hlk
  · subst o13
    have h := se_l h
    obtain rfl := Option.some.inj h
    exact W.iret hx hb hr (fun t ht hW => ⟨rfl, ht⟩) (fun q hq => absurd hq List.not_mem_nil) hdR hlk
set_option maxHeartbeats 4000000 in
set_option maxRecDepth 100000 in
theorem l_Mod_crossesAny_L15 {p : Program} {l : Launch} {e : Env} {s : State} {m : MethodId} {args : Array Value} {below : List Frame} {meth : Method} {c : Code} {Q : State → Prop} {K : KT} (C0 : Ctx p m c cX7_crossesAny 5 s args RX7 K meth (some .boolean)) (F : Nat) (ad : Nat → Nat) (mthr : Int32) (mnow : Nat → Int32) (mold : Nat → Int32) (mols : Int32) (msav : Nat → Int32) (miss : Bool) (minp : Nat → Int32) (mlen : Int32) (mat : Int32) (medg : Nat → Int32) (mcor : Nat → Int32) (mtri : Int32) (mkep : Nat → Int32) (mkee : Nat → Int32) (mwor : Nat → Int32) (mnum : Nat → Int32) (mmet : Nat → Int32) (x1 : Int32) (x2 : Int32) (x3 : Int32) (hP : va_P K.1 vC (wMod K ad mthr mnow mold mols msav miss minp mlen mat medg mcor mtri mkep mkee mwor mnum mmet) s.heap) : ∀ (n : Nat) (x4 : Int32) (out : (Bool) ⊕ (Int32)), s_Mod_crossesAny_L15 mnow medg x1 x2 x3 n x4 = some out → ∀ (ls : Array Slot), lv_has ls 5 [(0, .ref (ad 0)), (1, .int x1), (2, .int x2), (3, .int x3), (4, .int x4)] → (∀ (o : Int32) (ls : Array Slot), out = .inr o → lv_has ls 5 [(0, .ref (ad 0)), (1, .int x1), (2, .int x2), (3, .int x3), (4, .int o)] → W p l e (rmL 4) s m args below meth c s.heap [] 0 0 Q (F0 m 54 ls [])) → (∀ (o : Bool) (pcR : Nat) (ls : Array Slot), out = .inl o → decode cX7_crossesAny pcR = .ok (.ireturn, 1) → W p l e (rmL 4) s m args below meth c s.heap [] 0 0 Q (F0 m pcR ls [.int (bI o)])) → W p l e (rmL 4) s m args below meth c s.heap [] 0 0 Q (F0 m 15 ls []) := by
  obtain ⟨hx, hb, hml, hown, hts, hG, hr, hlk⟩ := id C0
  intro n
  induction n with
  | zero =>
    intro x4 out h
    cases h
  | succ n ih =>
    intro x4 out h ls hl Kx Kr
    rw [s_Mod_crossesAny_L15.eq_2] at h
    refine lv_iload (pc := 15) hx hb dX7_crossesAny_15 (lv_at hl 4 rfl) ?_
    refine lv_aload_n (pc := 17) hx hb dX7_crossesAny_17 rfl (lv_at hl 0 rfl) ?_
    obtain ⟨v3, h_v3, h⟩ := ob h
    refine rdV (pc := 18) (As := []) (rest := [.int x4]) hx hb hml hown hts hG hP (c_Mod_n l K ad mthr mnow mold mols msav miss minp mlen mat medg mcor mtri mkep mkee mwor mnum mmet h_v3) [0, 1, 2, 3, 4, 5, 6, 7, 8, 9, 10, 11] rfl (q0 := 0) rfl (ci := 7) rfl g_Mod_48 hd_Mod_n rfl ⟨Nat.le_of_ble_eq_true rfl, Nat.le_of_ble_eq_true rfl⟩ ⟨Nat.zero_le _, Nat.zero_le _⟩ hl rfl (Nat.le_of_ble_eq_true rfl) dX7_crossesAny_18 ?_
    refine lv_icmp_ge (tgt := 54) (pc := 21) hx hb dX7_crossesAny_21 (by decide) (fun c4 => ?_) (fun c4 => ?_)
    · have h := it_t c4 h
      obtain rfl := Option.some.inj h
      exact Kx _ ls rfl (lv_sub hl [0, 1, 2, 3, 4] rfl)
    · have h := it_f c4 h
      refine lv_aload_n (pc := 24) hx hb dX7_crossesAny_24 rfl (lv_at hl 0 rfl) ?_
      refine lv_iload_n (pc := 25) hx hb dX7_crossesAny_25 rfl (lv_at hl 3 rfl) ?_
      refine lv_iload (pc := 26) hx hb dX7_crossesAny_26 (lv_at hl 4 rfl) ?_
      obtain ⟨v5, h_v5, h⟩ := ob h
      refine rdV (pc := 28) (As := [.int x3, .int x4]) (rest := []) hx hb hml hown hts hG hP (c_Mod_has l K ad mthr mnow mold mols msav miss minp mlen mat medg mcor mtri mkep mkee mwor mnum mmet x3 x4 h_v5) [0, 1, 2, 3, 4, 5, 6, 7, 8, 9, 10, 11] rfl (q0 := 0) rfl (ci := 7) rfl g_Mod_104 hd_Mod_has rfl ⟨Nat.le_of_ble_eq_true rfl, Nat.le_of_ble_eq_true rfl⟩ ⟨Nat.zero_le _, Nat.zero_le _⟩ hl rfl (Nat.le_of_ble_eq_true rfl) dX7_crossesAny_28 ?_
      refine lv_if_eq (tgt := 48) (pc := 31) hx hb dX7_crossesAny_31 (by decide) (fun c6 => ?_) (fun c6 => ?_)
      · have h := it_t c6 h
        refine lv_iinc (v := (x4 + (1 : Int32))) (pc := 48) (lv' := [(4, .int (x4 + (1 : Int32))), (0, .ref (ad 0)), (1, .int x1), (2, .int x2), (3, .int x3)]) hx hb dX7_crossesAny_48 hl (k := 4) rfl rfl (by decide) rfl (fun ls hl => ?_)
        refine lv_goto (tgt := 15) (pc := 51) hx hb dX7_crossesAny_51 (by decide) ?_
        exact ih (x4 + (1 : Int32)) out h ls (lv_sub hl [1, 2, 3, 4, 0] rfl) Kx Kr
      · have h := it_f c6 h
        refine lv_aload_n (pc := 34) hx hb dX7_crossesAny_34 rfl (lv_at hl 0 rfl) ?_
        refine lv_iload_n (pc := 35) hx hb dX7_crossesAny_35 rfl (lv_at hl 1 rfl) ?_
        refine lv_iload_n (pc := 36) hx hb dX7_crossesAny_36 rfl (lv_at hl 2 rfl) ?_
        refine lv_iload_n (pc := 37) hx hb dX7_crossesAny_37 rfl (lv_at hl 3 rfl) ?_
        refine lv_iload (pc := 38) hx hb dX7_crossesAny_38 (lv_at hl 4 rfl) ?_
        obtain ⟨v7, h_v7, h⟩ := ob h
        refine rdV (pc := 40) (As := [.int x1, .int x2, .int x3, .int x4]) (rest := []) hx hb hml hown hts hG hP (c_Mod_cross l K ad mthr mnow mold mols msav miss minp mlen mat medg mcor mtri mkep mkee mwor mnum mmet x1 x2 x3 x4 h_v7) [0, 1, 2, 3, 4, 5, 6, 7, 8, 9, 10, 11] rfl (q0 := 0) rfl (ci := 7) rfl g_Mod_111 hd_Mod_cross rfl ⟨Nat.le_of_ble_eq_true rfl, Nat.le_of_ble_eq_true rfl⟩ ⟨Nat.zero_le _, Nat.zero_le _⟩ hl rfl (Nat.le_of_ble_eq_true rfl) dX7_crossesAny_40 ?_
        refine lv_if_eq (tgt := 48) (pc := 43) hx hb dX7_crossesAny_43 (by decide) (fun c8 => ?_) (fun c8 => ?_)
        · have h := it_t c8 h
          refine lv_iinc (v := (x4 + (1 : Int32))) (pc := 48) (lv' := [(4, .int (x4 + (1 : Int32))), (0, .ref (ad 0)), (1, .int x1), (2, .int x2), (3, .int x3)]) hx hb dX7_crossesAny_48 hl (k := 4) rfl rfl (by decide) rfl (fun ls hl => ?_)
          refine lv_goto (tgt := 15) (pc := 51) hx hb dX7_crossesAny_51 (by decide) ?_
          exact ih (x4 + (1 : Int32)) out h ls (lv_sub hl [1, 2, 3, 4, 0] rfl) Kx Kr
        · have h := it_f c8 h
          refine lv_iconst (v := (1 : Int32)) (pc := 46) hx hb dX7_crossesAny_46 (by decide) ?_
          obtain rfl := Option.some.inj h
          exact Kr _ _ _ rfl dX7_crossesAny_47
set_option maxHeartbeats 4000000 in
set_option maxRecDepth 100000 in
theorem l_Mod_crossesAny_L2 {p : Program} {l : Launch} {e : Env} {s : State} {m : MethodId} {args : Array Value} {below : List Frame} {meth : Method} {c : Code} {Q : State → Prop} {K : KT} (C0 : Ctx p m c cX7_crossesAny 5 s args RX7 K meth (some .boolean)) (F : Nat) (ad : Nat → Nat) (mthr : Int32) (mnow : Nat → Int32) (mold : Nat → Int32) (mols : Int32) (msav : Nat → Int32) (miss : Bool) (minp : Nat → Int32) (mlen : Int32) (mat : Int32) (medg : Nat → Int32) (mcor : Nat → Int32) (mtri : Int32) (mkep : Nat → Int32) (mkee : Nat → Int32) (mwor : Nat → Int32) (mnum : Nat → Int32) (mmet : Nat → Int32) (x1 : Int32) (x2 : Int32) (hP : va_P K.1 vC (wMod K ad mthr mnow mold mols msav miss minp mlen mat medg mcor mtri mkep mkee mwor mnum mmet) s.heap) : ∀ (n : Nat) (x3 : Int32) (out : (Bool) ⊕ (Int32)), s_Mod_crossesAny_L2 F mnow medg x1 x2 n x3 = some out → ∀ (ls : Array Slot), lv_has ls 5 [(0, .ref (ad 0)), (1, .int x1), (2, .int x2), (3, .int x3)] → (∀ (o : Int32) (ls : Array Slot), out = .inr o → lv_has ls 5 [(0, .ref (ad 0)), (1, .int x1), (2, .int x2), (3, .int o)] → W p l e (rmL 4) s m args below meth c s.heap [] 0 0 Q (F0 m 60 ls [])) → (∀ (o : Bool) (pcR : Nat) (ls : Array Slot), out = .inl o → decode cX7_crossesAny pcR = .ok (.ireturn, 1) → W p l e (rmL 4) s m args below meth c s.heap [] 0 0 Q (F0 m pcR ls [.int (bI o)])) → W p l e (rmL 4) s m args below meth c s.heap [] 0 0 Q (F0 m 2 ls []) := by
  obtain ⟨hx, hb, hml, hown, hts, hG, hr, hlk⟩ := id C0
  intro n
  induction n with
  | zero =>
    intro x3 out h
    cases h
  | succ n ih =>
    intro x3 out h ls hl Kx Kr
    rw [s_Mod_crossesAny_L2.eq_2] at h
    refine lv_iload_n (pc := 2) hx hb dX7_crossesAny_2 rfl (lv_at hl 3 rfl) ?_
    refine lv_aload_n (pc := 3) hx hb dX7_crossesAny_3 rfl (lv_at hl 0 rfl) ?_
    obtain ⟨v1, h_v1, h⟩ := ob h
    refine rdV (pc := 4) (As := []) (rest := [.int x3]) hx hb hml hown hts hG hP (c_Mod_n l K ad mthr mnow mold mols msav miss minp mlen mat medg mcor mtri mkep mkee mwor mnum mmet h_v1) [0, 1, 2, 3, 4, 5, 6, 7, 8, 9, 10, 11] rfl (q0 := 0) rfl (ci := 7) rfl g_Mod_48 hd_Mod_n rfl ⟨Nat.le_of_ble_eq_true rfl, Nat.le_of_ble_eq_true rfl⟩ ⟨Nat.zero_le _, Nat.zero_le _⟩ hl rfl (Nat.le_of_ble_eq_true rfl) dX7_crossesAny_4 ?_
    refine lv_icmp_ge (tgt := 60) (pc := 7) hx hb dX7_crossesAny_7 (by decide) (fun c2 => ?_) (fun c2 => ?_)
    · have h := it_t c2 h
      obtain rfl := Option.some.inj h
      exact Kx _ ls rfl (lv_sub hl [0, 1, 2, 3] rfl)
    · have h := it_f c2 h
      refine lv_iload_n (pc := 10) hx hb dX7_crossesAny_10 rfl (lv_at hl 3 rfl) ?_
      refine lv_iconst (v := (1 : Int32)) (pc := 11) hx hb dX7_crossesAny_11 (by decide) ?_
      refine lv_iadd (pc := 12) hx hb dX7_crossesAny_12 ?_
      refine lv_istore (pc := 13) (lv' := [(4, .int (x3 + (1 : Int32))), (0, .ref (ad 0)), (1, .int x1), (2, .int x2), (3, .int x3)]) hx hb dX7_crossesAny_13 hl (by decide) rfl (fun ls hl => ?_)
      obtain ⟨o9, h_o9, h⟩ := ob h
      refine l_Mod_crossesAny_L15 C0 F ad mthr mnow mold mols msav miss minp mlen mat medg mcor mtri mkep mkee mwor mnum mmet x1 x2 x3 hP F (x3 + (1 : Int32)) _ h_o9 ls (lv_sub hl [1, 2, 3, 4, 0] rfl) (fun o9x ls eo hl => ?_) (fun q_o pcR ls eo hdR => ?_)
      · subst o9
        have h := se_r h
        refine lv_iinc (v := (x3 + (1 : Int32))) (pc := 54) (lv' := [(3, .int (x3 + (1 : Int32))), (0, .ref (ad 0)), (1, .int x1), (2, .int x2), (4, .int o9x)]) hx hb dX7_crossesAny_54 hl (k := 3) rfl rfl (by decide) rfl (fun ls hl => ?_)
        refine lv_goto (tgt := 2) (pc := 57) hx hb dX7_crossesAny_57 (by decide) ?_
        exact ih (x3 + (1 : Int32)) out h ls (lv_sub hl [1, 2, 3, 0] rfl) Kx Kr
      · subst o9
        have h := se_l h
        obtain rfl := Option.some.inj h
        exact Kr _ _ _ rfl hdR
set_option maxHeartbeats 4000000 in
set_option maxRecDepth 100000 in
theorem c_Mod_crossesAny (l : Launch) (K : KT) (ad : Nat → Nat) (mthr : Int32) (mnow : Nat → Int32) (mold : Nat → Int32) (mols : Int32) (msav : Nat → Int32) (miss : Bool) (minp : Nat → Int32) (mlen : Int32) (mat : Int32) (medg : Nat → Int32) (mcor : Nat → Int32) (mtri : Int32) (mkep : Nat → Int32) (mkee : Nat → Int32) (mwor : Nat → Int32) (mnum : Nat → Int32) (mmet : Nat → Int32) (a0 : Int32) (a1 : Int32) (F : Nat) {o : Bool} (h : s_Mod_crossesAny F mnow medg a0 a1 = some o) : Rd l K 4 yX7_crossesAny cX7_crossesAny 5 .boolean [.ref (ad 0), .int a0, .int a1] (wMod K ad mthr mnow mold mols msav miss minp mlen mat medg mcor mtri mkep mkee mwor mnum mmet) (bI o) := by
  refine Rd.of (by decide +kernel) (Nat.le_of_ble_eq_true rfl) ?_
  unfold s_Mod_crossesAny at h
  intro p e s m below meth c hx hb hr hml hown hts hlk hP hG ls hl
  have C0 : Ctx p m c cX7_crossesAny 5 s (Array.mk [.ref (ad 0), .int a0, .int a1]) RX7 K meth (some .boolean) := ⟨hx, hb, hml, hown, hts, hG, hr, hlk⟩
  have hl : lv_has ls 5 [(0, .ref (ad 0)), (1, .int a0), (2, .int a1)] := hl
  refine lv_iconst (v := (0 : Int32)) (pc := 0) hx hb dX7_crossesAny_0 (by decide) ?_
  refine lv_istore_n (pc := 1) (lv' := [(3, .int (0 : Int32)), (0, .ref (ad 0)), (1, .int a0), (2, .int a1)]) hx hb dX7_crossesAny_1 rfl hl (by decide) rfl (fun ls hl => ?_)
  obtain ⟨o10, h_o10, h⟩ := ob h
  refine l_Mod_crossesAny_L2 C0 F ad mthr mnow mold mols msav miss minp mlen mat medg mcor mtri mkep mkee mwor mnum mmet a0 a1 hP F (0 : Int32) _ h_o10 ls (lv_sub hl [1, 2, 3, 0] rfl) (fun o10x ls eo hl => ?_) (fun q_o pcR ls eo hdR => ?_)
  · subst o10
    have h := se_r h
    refine lv_iconst (v := (0 : Int32)) (pc := 60) hx hb dX7_crossesAny_60 (by decide) ?_
    obtain rfl := Option.some.inj h
    exact W.zret hx hb hr (rfl) (fun t ht hW => ⟨rfl, ht⟩) (fun q hq => absurd hq List.not_mem_nil) dX7_crossesAny_61 hlk
  · subst o10
    have h := se_l h
    obtain rfl := Option.some.inj h
    exact W.zret hx hb hr (bI_nar _) (fun t ht hW => ⟨rfl, ht⟩) (fun q hq => absurd hq List.not_mem_nil) hdR hlk
set_option maxHeartbeats 4000000 in
set_option maxRecDepth 100000 in
theorem l_Mod_isLine_L2 {p : Program} {l : Launch} {e : Env} {s : State} {m : MethodId} {args : Array Value} {below : List Frame} {meth : Method} {c : Code} {Q : State → Prop} {K : KT} (C0 : Ctx p m c cX7_isLine 2 s args RX7 K meth (some .boolean)) (F : Nat) (ad : Nat → Nat) (mthr : Int32) (mnow : Nat → Int32) (mold : Nat → Int32) (mols : Int32) (msav : Nat → Int32) (miss : Bool) (minp : Nat → Int32) (mlen : Int32) (mat : Int32) (medg : Nat → Int32) (mcor : Nat → Int32) (mtri : Int32) (mkep : Nat → Int32) (mkee : Nat → Int32) (mwor : Nat → Int32) (mnum : Nat → Int32) (mmet : Nat → Int32) (hP : va_P K.1 vC (wMod K ad mthr mnow mold mols msav miss minp mlen mat medg mcor mtri mkep mkee mwor mnum mmet) s.heap) : ∀ (n : Nat) (x1 : Int32) (out : (Bool) ⊕ (Int32)), s_Mod_isLine_L2 mnow n x1 = some out → ∀ (ls : Array Slot), lv_has ls 2 [(0, .ref (ad 0)), (1, .int x1)] → (∀ (o : Int32) (ls : Array Slot), out = .inr o → lv_has ls 2 [(0, .ref (ad 0)), (1, .int o)] → W p l e (rmL 3) s m args below meth c s.heap [] 0 0 Q (F0 m 28 ls [])) → (∀ (o : Bool) (pcR : Nat) (ls : Array Slot), out = .inl o → decode cX7_isLine pcR = .ok (.ireturn, 1) → W p l e (rmL 3) s m args below meth c s.heap [] 0 0 Q (F0 m pcR ls [.int (bI o)])) → W p l e (rmL 3) s m args below meth c s.heap [] 0 0 Q (F0 m 2 ls []) := by
  obtain ⟨hx, hb, hml, hown, hts, hG, hr, hlk⟩ := id C0
  intro n
  induction n with
  | zero =>
    intro x1 out h
    cases h
  | succ n ih =>
    intro x1 out h ls hl Kx Kr
    rw [s_Mod_isLine_L2.eq_2] at h
    refine lv_iload_n (pc := 2) hx hb dX7_isLine_2 rfl (lv_at hl 1 rfl) ?_
    refine lv_aload_n (pc := 3) hx hb dX7_isLine_3 rfl (lv_at hl 0 rfl) ?_
    obtain ⟨v1, h_v1, h⟩ := ob h
    refine rdV (pc := 4) (As := []) (rest := [.int x1]) hx hb hml hown hts hG hP (c_Mod_n l K ad mthr mnow mold mols msav miss minp mlen mat medg mcor mtri mkep mkee mwor mnum mmet h_v1) [0, 1, 2, 3, 4, 5, 6, 7, 8, 9, 10, 11] rfl (q0 := 0) rfl (ci := 7) rfl g_Mod_48 hd_Mod_n rfl ⟨Nat.le_of_ble_eq_true rfl, Nat.le_of_ble_eq_true rfl⟩ ⟨Nat.zero_le _, Nat.zero_le _⟩ hl rfl (Nat.le_of_ble_eq_true rfl) dX7_isLine_4 ?_
    refine lv_icmp_ge (tgt := 28) (pc := 7) hx hb dX7_isLine_7 (by decide) (fun c2 => ?_) (fun c2 => ?_)
    · have h := it_t c2 h
      obtain rfl := Option.some.inj h
      exact Kx _ ls rfl (lv_sub hl [0, 1] rfl)
    · have h := it_f c2 h
      refine lv_aload_n (pc := 10) hx hb dX7_isLine_10 rfl (lv_at hl 0 rfl) ?_
      refine lv_iconst (v := (0 : Int32)) (pc := 11) hx hb dX7_isLine_11 (by decide) ?_
      refine lv_iconst (v := (1 : Int32)) (pc := 12) hx hb dX7_isLine_12 (by decide) ?_
      refine lv_iload_n (pc := 13) hx hb dX7_isLine_13 rfl (lv_at hl 1 rfl) ?_
      obtain ⟨v3, h_v3, h⟩ := ob h
      refine rdV (pc := 14) (As := [.int (0 : Int32), .int (1 : Int32), .int x1]) (rest := []) hx hb hml hown hts hG hP (c_Mod_turns l K ad mthr mnow mold mols msav miss minp mlen mat medg mcor mtri mkep mkee mwor mnum mmet (0 : Int32) (1 : Int32) x1 h_v3) [0, 1, 2, 3, 4, 5, 6, 7, 8, 9, 10, 11] rfl (q0 := 0) rfl (ci := 7) rfl g_Mod_79 hd_Mod_turns rfl ⟨Nat.le_of_ble_eq_true rfl, Nat.le_of_ble_eq_true rfl⟩ ⟨Nat.zero_le _, Nat.zero_le _⟩ hl rfl (Nat.le_of_ble_eq_true rfl) dX7_isLine_14 ?_
      refine lv_if_eq (tgt := 22) (pc := 17) hx hb dX7_isLine_17 (by decide) (fun c4 => ?_) (fun c4 => ?_)
      · have h := it_t c4 h
        refine lv_iinc (v := (x1 + (1 : Int32))) (pc := 22) (lv' := [(1, .int (x1 + (1 : Int32))), (0, .ref (ad 0))]) hx hb dX7_isLine_22 hl (k := 1) rfl rfl (by decide) rfl (fun ls hl => ?_)
        refine lv_goto (tgt := 2) (pc := 25) hx hb dX7_isLine_25 (by decide) ?_
        exact ih (x1 + (1 : Int32)) out h ls (lv_sub hl [1, 0] rfl) Kx Kr
      · have h := it_f c4 h
        refine lv_iconst (v := (0 : Int32)) (pc := 20) hx hb dX7_isLine_20 (by decide) ?_
        obtain rfl := Option.some.inj h
        exact Kr _ _ _ rfl dX7_isLine_21
set_option maxHeartbeats 4000000 in
set_option maxRecDepth 100000 in
theorem c_Mod_isLine (l : Launch) (K : KT) (ad : Nat → Nat) (mthr : Int32) (mnow : Nat → Int32) (mold : Nat → Int32) (mols : Int32) (msav : Nat → Int32) (miss : Bool) (minp : Nat → Int32) (mlen : Int32) (mat : Int32) (medg : Nat → Int32) (mcor : Nat → Int32) (mtri : Int32) (mkep : Nat → Int32) (mkee : Nat → Int32) (mwor : Nat → Int32) (mnum : Nat → Int32) (mmet : Nat → Int32) (F : Nat) {o : Bool} (h : s_Mod_isLine F mnow = some o) : Rd l K 3 yX7_isLine cX7_isLine 2 .boolean [.ref (ad 0)] (wMod K ad mthr mnow mold mols msav miss minp mlen mat medg mcor mtri mkep mkee mwor mnum mmet) (bI o) := by
  refine Rd.of (by decide +kernel) (Nat.le_of_ble_eq_true rfl) ?_
  unfold s_Mod_isLine at h
  intro p e s m below meth c hx hb hr hml hown hts hlk hP hG ls hl
  have C0 : Ctx p m c cX7_isLine 2 s (Array.mk [.ref (ad 0)]) RX7 K meth (some .boolean) := ⟨hx, hb, hml, hown, hts, hG, hr, hlk⟩
  have hl : lv_has ls 2 [(0, .ref (ad 0))] := hl
  refine lv_iconst (v := (2 : Int32)) (pc := 0) hx hb dX7_isLine_0 (by decide) ?_
  refine lv_istore_n (pc := 1) (lv' := [(1, .int (2 : Int32)), (0, .ref (ad 0))]) hx hb dX7_isLine_1 rfl hl (by decide) rfl (fun ls hl => ?_)
  obtain ⟨o5, h_o5, h⟩ := ob h
  refine l_Mod_isLine_L2 C0 F ad mthr mnow mold mols msav miss minp mlen mat medg mcor mtri mkep mkee mwor mnum mmet hP F (2 : Int32) _ h_o5 ls (lv_sub hl [1, 0] rfl) (fun o5x ls eo hl => ?_) (fun q_o pcR ls eo hdR => ?_)
  · subst o5
    have h := se_r h
    refine lv_iconst (v := (1 : Int32)) (pc := 28) hx hb dX7_isLine_28 (by decide) ?_
    obtain rfl := Option.some.inj h
    exact W.zret hx hb hr (rfl) (fun t ht hW => ⟨rfl, ht⟩) (fun q hq => absurd hq List.not_mem_nil) dX7_isLine_29 hlk
  · subst o5
    have h := se_l h
    obtain rfl := Option.some.inj h
    exact W.zret hx hb hr (bI_nar _) (fun t ht hW => ⟨rfl, ht⟩) (fun q hq => absurd hq List.not_mem_nil) hdR hlk
set_option maxHeartbeats 4000000 in
set_option maxRecDepth 100000 in
theorem c_Mod_flips (l : Launch) (K : KT) (ad : Nat → Nat) (mthr : Int32) (mnow : Nat → Int32) (mold : Nat → Int32) (mols : Int32) (msav : Nat → Int32) (miss : Bool) (minp : Nat → Int32) (mlen : Int32) (mat : Int32) (medg : Nat → Int32) (mcor : Nat → Int32) (mtri : Int32) (mkep : Nat → Int32) (mkee : Nat → Int32) (mwor : Nat → Int32) (mnum : Nat → Int32) (mmet : Nat → Int32) (a0 : Int32) (a1 : Int32) (F : Nat) {o : Bool × (Nat → Int32)} (h : s_Mod_flips F mnow medg a0 a1 = some o) : Wr l K 5 yX7_flips cX7_flips 5 (some .boolean) [.ref (ad 0), .int a0, .int a1] (wMod K ad mthr mnow mold mols msav miss minp mlen mat medg mcor mtri mkep mkee mwor mnum mmet) (some (.int (bI o.1))) (wMod K ad mthr mnow mold mols msav miss minp mlen mat o.2 mcor mtri mkep mkee mwor mnum mmet) := by
  refine Wr.of (by decide +kernel) (Nat.le_of_ble_eq_true rfl) ?_
  unfold s_Mod_flips at h
  intro p e s m below meth c hx hb hr hml hown hts hlk H locs hP hG hD hS ls hl
  have C0 : Ctx p m c cX7_flips 5 s (Array.mk [.ref (ad 0), .int a0, .int a1]) RX7 K meth (some .boolean) := ⟨hx, hb, hml, hown, hts, hG, hr, hlk⟩
  have hl : lv_has ls 5 [(0, .ref (ad 0)), (1, .int a0), (2, .int a1)] := hl
  refine lv_aload_n (pc := 0) hx hb dX7_flips_0 rfl (lv_at hl 0 rfl) ?_
  refine lv_iload_n (pc := 1) hx hb dX7_flips_1 rfl (lv_at hl 1 rfl) ?_
  refine lv_iload_n (pc := 2) hx hb dX7_flips_2 rfl (lv_at hl 2 rfl) ?_
  obtain ⟨v1, h_v1, h⟩ := ob h
  refine rdV (pc := 3) (As := [.int a0, .int a1]) (rest := []) hx hb hml hown hts hG hP (c_Mod_has l K ad mthr mnow mold mols msav miss minp mlen mat medg mcor mtri mkep mkee mwor mnum mmet a0 a1 h_v1) [0, 1, 2, 3, 4, 5, 6, 7, 8, 9, 10, 11] rfl (q0 := 0) rfl (ci := 7) rfl g_Mod_104 hd_Mod_has rfl ⟨Nat.le_of_ble_eq_true rfl, Nat.le_of_ble_eq_true rfl⟩ ⟨Nat.zero_le _, Nat.zero_le _⟩ hl rfl (Nat.le_of_ble_eq_true rfl) dX7_flips_3 ?_
  refine lv_if_eq (tgt := 18) (pc := 6) hx hb dX7_flips_6 (by decide) (fun c2 => ?_) (fun c2 => ?_)
  · have h := it_t c2 h
    refine lv_iconst (v := (0 : Int32)) (pc := 18) hx hb dX7_flips_18 (by decide) ?_
    obtain rfl := Option.some.inj h
    exact W.zret hx hb hr (rfl) (fun t ht hW => ⟨⟨rfl, by rw [ht]; exact hP⟩, hS.F ht⟩) hS.2.2 dX7_flips_19 hlk
  · have h := it_f c2 h
    refine lv_aload_n (pc := 9) hx hb dX7_flips_9 rfl (lv_at hl 0 rfl) ?_
    refine lv_iload_n (pc := 10) hx hb dX7_flips_10 rfl (lv_at hl 1 rfl) ?_
    refine lv_iload_n (pc := 11) hx hb dX7_flips_11 rfl (lv_at hl 2 rfl) ?_
    obtain ⟨v3, h_v3, h⟩ := ob h
    refine rdV (pc := 12) (As := [.int a0, .int a1]) (rest := []) hx hb hml hown hts hG hP (c_Mod_isTied l K ad mthr mnow mold mols msav miss minp mlen mat medg mcor mtri mkep mkee mwor mnum mmet a0 a1 F h_v3) [0, 1, 2, 3, 4, 5, 6, 7, 8, 9, 10, 11] rfl (q0 := 0) rfl (ci := 7) rfl g_Mod_138 hd_Mod_isTied rfl ⟨Nat.le_of_ble_eq_true rfl, Nat.le_of_ble_eq_true rfl⟩ ⟨Nat.zero_le _, Nat.zero_le _⟩ hl rfl (Nat.le_of_ble_eq_true rfl) dX7_flips_12 ?_
    refine lv_if_eq (tgt := 20) (pc := 15) hx hb dX7_flips_15 (by decide) (fun c4 => ?_) (fun c4 => ?_)
    · have h := it_t c4 h
      refine lv_aload_n (pc := 20) hx hb dX7_flips_20 rfl (lv_at hl 0 rfl) ?_
      refine lv_iload_n (pc := 21) hx hb dX7_flips_21 rfl (lv_at hl 1 rfl) ?_
      refine lv_iload_n (pc := 22) hx hb dX7_flips_22 rfl (lv_at hl 2 rfl) ?_
      obtain ⟨v5, h_v5, h⟩ := ob h
      refine rdV (pc := 23) (As := [.int a0, .int a1]) (rest := []) hx hb hml hown hts hG hP (c_Mod_apex l K ad mthr mnow mold mols msav miss minp mlen mat medg mcor mtri mkep mkee mwor mnum mmet a0 a1 F h_v5) [0, 1, 2, 3, 4, 5, 6, 7, 8, 9, 10, 11] rfl (q0 := 0) rfl (ci := 7) rfl g_Mod_141 hd_Mod_apex rfl ⟨Nat.le_of_ble_eq_true rfl, Nat.le_of_ble_eq_true rfl⟩ ⟨Nat.zero_le _, Nat.zero_le _⟩ hl rfl (Nat.le_of_ble_eq_true rfl) dX7_flips_23 ?_
      refine lv_istore_n (pc := 26) (lv' := [(3, .int v5), (0, .ref (ad 0)), (1, .int a0), (2, .int a1)]) hx hb dX7_flips_26 rfl hl (by decide) rfl (fun ls hl => ?_)
      refine lv_aload_n (pc := 27) hx hb dX7_flips_27 rfl (lv_at hl 1 rfl) ?_
      refine lv_iload_n (pc := 28) hx hb dX7_flips_28 rfl (lv_at hl 3 rfl) ?_
      refine lv_iload_n (pc := 29) hx hb dX7_flips_29 rfl (lv_at hl 2 rfl) ?_
      obtain ⟨v6, h_v6, h⟩ := ob h
      refine rdV (pc := 30) (As := [.int a1, .int a0]) (rest := []) hx hb hml hown hts hG hP (c_Mod_apex l K ad mthr mnow mold mols msav miss minp mlen mat medg mcor mtri mkep mkee mwor mnum mmet a1 a0 F h_v6) [0, 1, 2, 3, 4, 5, 6, 7, 8, 9, 10, 11] rfl (q0 := 0) rfl (ci := 7) rfl g_Mod_141 hd_Mod_apex rfl ⟨Nat.le_of_ble_eq_true rfl, Nat.le_of_ble_eq_true rfl⟩ ⟨Nat.zero_le _, Nat.zero_le _⟩ hl rfl (Nat.le_of_ble_eq_true rfl) dX7_flips_30 ?_
      refine lv_istore (pc := 33) (lv' := [(4, .int v6), (3, .int v5), (0, .ref (ad 0)), (1, .int a0), (2, .int a1)]) hx hb dX7_flips_33 hl (by decide) rfl (fun ls hl => ?_)
      refine lv_iload_n (pc := 35) hx hb dX7_flips_35 rfl (lv_at hl 1 rfl) ?_
      refine lv_if_lt (tgt := 56) (pc := 36) hx hb dX7_flips_36 (by decide) (fun c7 => ?_) (fun c7 => ?_)
      · have h := it_t c7 h
        refine lv_iconst (v := (0 : Int32)) (pc := 56) hx hb dX7_flips_56 (by decide) ?_
        obtain rfl := Option.some.inj h
        exact W.zret hx hb hr (rfl) (fun t ht hW => ⟨⟨rfl, by rw [ht]; exact hP⟩, hS.F ht⟩) hS.2.2 dX7_flips_57 hlk
      · have h := it_f c7 h
        refine lv_iload (pc := 39) hx hb dX7_flips_39 (lv_at hl 0 rfl) ?_
        refine lv_if_lt (tgt := 56) (pc := 41) hx hb dX7_flips_41 (by decide) (fun c8 => ?_) (fun c8 => ?_)
        · have h := it_t c8 h
          refine lv_iconst (v := (0 : Int32)) (pc := 56) hx hb dX7_flips_56 (by decide) ?_
          obtain rfl := Option.some.inj h
          exact W.zret hx hb hr (rfl) (fun t ht hW => ⟨⟨rfl, by rw [ht]; exact hP⟩, hS.F ht⟩) hS.2.2 dX7_flips_57 hlk
        · have h := it_f c8 h
          refine lv_aload_n (pc := 44) hx hb dX7_flips_44 rfl (lv_at hl 2 rfl) ?_
          refine lv_iload_n (pc := 45) hx hb dX7_flips_45 rfl (lv_at hl 3 rfl) ?_
          refine lv_iload_n (pc := 46) hx hb dX7_flips_46 rfl (lv_at hl 4 rfl) ?_
          refine lv_iload_n (pc := 47) hx hb dX7_flips_47 rfl (lv_at hl 1 rfl) ?_
          refine lv_iload (pc := 48) hx hb dX7_flips_48 (lv_at hl 0 rfl) ?_
          obtain ⟨v9, h_v9, h⟩ := ob h
          refine rdV (pc := 50) (As := [.int a0, .int a1, .int v5, .int v6]) (rest := []) hx hb hml hown hts hG hP (c_Mod_good l K ad mthr mnow mold mols msav miss minp mlen mat medg mcor mtri mkep mkee mwor mnum mmet a0 a1 v5 v6 h_v9) [0, 1, 2, 3, 4, 5, 6, 7, 8, 9, 10, 11] rfl (q0 := 0) rfl (ci := 7) rfl g_Mod_144 hd_Mod_good rfl ⟨Nat.le_of_ble_eq_true rfl, Nat.le_of_ble_eq_true rfl⟩ ⟨Nat.zero_le _, Nat.zero_le _⟩ hl rfl (Nat.le_of_ble_eq_true rfl) dX7_flips_50 ?_
          refine lv_if_eq (tgt := 58) (pc := 53) hx hb dX7_flips_53 (by decide) (fun c10 => ?_) (fun c10 => ?_)
          · have h := it_t c10 h
            refine lv_aload_n (pc := 58) hx hb dX7_flips_58 rfl (lv_at hl 2 rfl) ?_
            refine lv_iload_n (pc := 59) hx hb dX7_flips_59 rfl (lv_at hl 3 rfl) ?_
            refine lv_iload_n (pc := 60) hx hb dX7_flips_60 rfl (lv_at hl 4 rfl) ?_
            refine lv_iconst (v := (0 : Int32)) (pc := 61) hx hb dX7_flips_61 (by decide) ?_
            obtain ⟨v11, h_v11, h⟩ := ob h
            refine wrVv (pc := 62) (As := [.int a0, .int a1, .int (0 : Int32)]) (rest := []) (ws2 := wMod K ad mthr mnow mold mols msav miss minp mlen mat v11 mcor mtri mkep mkee mwor mnum mmet) (as9 := [ad 0, ad 1, ad 2, ad 3, ad 4, ad 5, ad 6, ad 7, ad 8, ad 9, ad 10, ad 11]) hx hb hml hown hts hG hP hD hS (c_Mod_puts l K ad mthr mnow mold mols msav miss minp mlen mat medg mcor mtri mkep mkee mwor mnum mmet a0 a1 false h_v11) [0, 1, 2, 3, 4, 5, 6, 7, 8, 9, 10, 11] rfl rfl rfl rfl [.inl 0, .inl 1, .inl 2, .inl 3, .inl 4, .inl 5, .inl 6, .inl 7, .inl 8, .inl 9, .inl 10, .inl 11] (by decide +kernel) rfl (q0 := 0) rfl (ci := 7) rfl g_Mod_117 hd_Mod_puts rfl ⟨Nat.le_of_ble_eq_true rfl, Nat.le_of_ble_eq_true rfl⟩ ⟨Nat.zero_le _, Nat.zero_le _⟩ hl rfl (Nat.le_of_ble_eq_true rfl) dX7_flips_62 (fun H locs hP hD hS => ?_)
            refine lv_aload_n (pc := 65) hx hb dX7_flips_65 rfl (lv_at hl 2 rfl) ?_
            refine lv_iload_n (pc := 66) hx hb dX7_flips_66 rfl (lv_at hl 1 rfl) ?_
            refine lv_iload (pc := 67) hx hb dX7_flips_67 (lv_at hl 0 rfl) ?_
            refine lv_iconst (v := (1 : Int32)) (pc := 69) hx hb dX7_flips_69 (by decide) ?_
            obtain ⟨v12, h_v12, h⟩ := ob h
            refine wrVv (pc := 70) (As := [.int v5, .int v6, .int (1 : Int32)]) (rest := []) (ws2 := wMod K ad mthr mnow mold mols msav miss minp mlen mat v12 mcor mtri mkep mkee mwor mnum mmet) (as9 := [ad 0, ad 1, ad 2, ad 3, ad 4, ad 5, ad 6, ad 7, ad 8, ad 9, ad 10, ad 11]) hx hb hml hown hts hG hP hD hS (c_Mod_puts l K ad mthr mnow mold mols msav miss minp mlen mat v11 mcor mtri mkep mkee mwor mnum mmet v5 v6 true h_v12) [0, 1, 2, 3, 4, 5, 6, 7, 8, 9, 10, 11] rfl rfl rfl rfl [.inl 0, .inl 1, .inl 2, .inl 3, .inl 4, .inl 5, .inl 6, .inl 7, .inl 8, .inl 9, .inl 10, .inl 11] (by decide +kernel) rfl (q0 := 0) rfl (ci := 7) rfl g_Mod_117 hd_Mod_puts rfl ⟨Nat.le_of_ble_eq_true rfl, Nat.le_of_ble_eq_true rfl⟩ ⟨Nat.zero_le _, Nat.zero_le _⟩ hl rfl (Nat.le_of_ble_eq_true rfl) dX7_flips_70 (fun H locs hP hD hS => ?_)
            refine lv_iconst (v := (1 : Int32)) (pc := 73) hx hb dX7_flips_73 (by decide) ?_
            obtain rfl := Option.some.inj h
            exact W.zret hx hb hr (rfl) (fun t ht hW => ⟨⟨rfl, by rw [ht]; exact hP⟩, hS.F ht⟩) hS.2.2 dX7_flips_74 hlk
          · have h := it_f c10 h
            refine lv_iconst (v := (0 : Int32)) (pc := 56) hx hb dX7_flips_56 (by decide) ?_
            obtain rfl := Option.some.inj h
            exact W.zret hx hb hr (rfl) (fun t ht hW => ⟨⟨rfl, by rw [ht]; exact hP⟩, hS.F ht⟩) hS.2.2 dX7_flips_57 hlk
    · have h := it_f c4 h
      refine lv_iconst (v := (0 : Int32)) (pc := 18) hx hb dX7_flips_18 (by decide) ?_
      obtain rfl := Option.some.inj h
      exact W.zret hx hb hr (rfl) (fun t ht hW => ⟨⟨rfl, by rw [ht]; exact hP⟩, hS.F ht⟩) hS.2.2 dX7_flips_19 hlk
