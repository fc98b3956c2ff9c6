set_option maxHeartbeats 4000000 in
set_option maxRecDepth 100000 in
theorem l_Mesh_numberTriangles_L29 {p : Program} {l : Launch} {e : Env} {s : State} {m : MethodId} {args : Array Value} {below : List Frame} {meth : Method} {c : Code} {Q : State → Prop} {K : KT} {A : Nat → Prop} (C0 : Ctx p m c cX2_numberTriangles 4 s args RX2 K meth none) (F : Nat) (ad : Nat → Nat) (pxs : Nat → Int32) (pys : Nat → Int32) (plo : Nat → Int32) (phi : Nat → Int32) (pn : Int32) (pm : Int32) (lf : Nat → Int32) (th : Nat → Int32) (lk : Nat → Int32) (el : Nat → Int32) (eh : Nat → Int32) (hu : Nat → Int32) (ne : Int32) (nh : Int32) (x1 : Int32)  : ∀ (n : Nat) (x2 : Int32) (ow : Nat → Int32) (co : Nat → Int32) (nt : Int32) (out : Int32 × (Nat → Int32) × (Nat → Int32) × Int32), s_Mesh_numberTriangles_L29 pn th x1 n x2 ow co nt = some out → ∀ (H : Heap) (locs : List Loc) (ls : Array Slot), va_P K.1 vC (wMesh K ad pxs pys plo phi pn pm lf th ow lk el eh co hu ne nt nh) H → va_D A (wMesh K ad pxs pys plo phi pn pm lf th ow lk el eh co hu ne nt nh) → va_S A s.heap H locs → lv_has ls 4 [(0, .ref (ad 0)), (1, .int x1), (2, .int x2)] → (∀ (o : Int32 × (Nat → Int32) × (Nat → Int32) × Int32) (H : Heap) (locs : List Loc) (ls : Array Slot), out = o → va_P K.1 vC (wMesh K ad pxs pys plo phi pn pm lf th o.2.1 lk el eh o.2.2.1 hu ne o.2.2.2 nh) H → va_D A (wMesh K ad pxs pys plo phi pn pm lf th o.2.1 lk el eh o.2.2.1 hu ne o.2.2.2 nh) → va_S A s.heap H locs → lv_has ls 4 [(0, .ref (ad 0)), (1, .int x1), (2, .int o.1)] → W p l e (rmL 2) s m args below meth c H locs 0 0 Q (F0 m 68 ls [])) → W p l e (rmL 2) s m args below meth c H locs 0 0 Q (F0 m 29 ls []) := by
  obtain ⟨hx, hb, hml, hown, hts, hG, hr, hlk⟩ := id C0
  intro n
  induction n with
  | zero =>
    intro x2 ow co nt out h
    cases h
  | succ n ih =>
    intro x2 ow co nt out h H locs ls hP hD hS hl Kx 
    rw [s_Mesh_numberTriangles_L29.eq_2] at h
    refine lv_iload_n (pc := 29) hx hb dX2_numberTriangles_29 rfl (lv_at hl 2 rfl) ?_
    refine lv_aload_n (pc := 30) hx hb dX2_numberTriangles_30 rfl (lv_at hl 0 rfl) ?_
    refine va_get (D := K.1) (ci := 2) (v := .ref (ad 1)) (C := RX2) (T := TX2) (N := 12) (pc := 31) hx hb hts inT2 hown hG.1 hP 0 rfl rfl 0 (by decide) (hts _ qf_Mesh_9) (fun _ h9 => h9) rfl dX2_numberTriangles_31 ?_
    refine rdV (pc := 34) (As := []) (rest := [.int x2]) hx hb hml hown hts hG hP (c_Plan_points l K (fun k => ad (k + 1)) pxs pys plo phi pn pm) [1, 2, 3, 4, 5, 6, 7, 8, 9] rfl (q0 := 1) rfl (ci := 3) rfl g_Mesh_84 hd_Plan_points rfl ⟨Nat.le_of_ble_eq_true rfl, Nat.le_of_ble_eq_true rfl⟩ ⟨Nat.zero_le _, Nat.zero_le _⟩ hl rfl (Nat.le_of_ble_eq_true rfl) dX2_numberTriangles_34 ?_
    refine lv_icmp_ge (tgt := 68) (pc := 37) hx hb dX2_numberTriangles_37 (by decide) (fun c3 => ?_) (fun c3 => ?_)
    · have h := it_t c3 h
      obtain rfl := Option.some.inj h
      exact Kx _ H locs ls rfl hP hD hS (lv_sub hl [0, 1, 2] rfl)
    · have h := it_f c3 h
      refine lv_aload_n (pc := 40) hx hb dX2_numberTriangles_40 rfl (lv_at hl 0 rfl) ?_
      refine va_get (D := K.1) (ci := 2) (v := .ref (ad 12)) (C := RX2) (T := TX2) (N := 12) (pc := 41) hx hb hts inT2 hown hG.1 hP 0 rfl rfl 2 (by decide) (hts _ qf_Mesh_24) (fun _ h9 => h9) rfl dX2_numberTriangles_41 ?_
      refine lv_iload_n (pc := 44) hx hb dX2_numberTriangles_44 rfl (lv_at hl 1 rfl) ?_
      refine lv_iload_n (pc := 45) hx hb dX2_numberTriangles_45 rfl (lv_at hl 2 rfl) ?_
      refine rdV (pc := 46) (As := [.int x1, .int x2]) (rest := []) hx hb hml hown hts hG hP (c_Tab_get l K (fun k => ad (k + 12)) (-1) th x1 x2) [12, 13] rfl (q0 := 12) rfl (ci := 5) rfl g_Mesh_140 hd_Tab_get rfl ⟨Nat.le_of_ble_eq_true rfl, Nat.le_of_ble_eq_true rfl⟩ ⟨Nat.zero_le _, Nat.zero_le _⟩ hl rfl (Nat.le_of_ble_eq_true rfl) dX2_numberTriangles_46 ?_
      refine lv_istore_n (pc := 49) (lv' := [(3, .int (s_Tab_get (-1) th x1 x2)), (0, .ref (ad 0)), (1, .int x1), (2, .int x2)]) hx hb dX2_numberTriangles_49 rfl hl (by decide) rfl (fun ls hl => ?_)
      refine lv_iload_n (pc := 50) hx hb dX2_numberTriangles_50 rfl (lv_at hl 0 rfl) ?_
      refine lv_iload_n (pc := 51) hx hb dX2_numberTriangles_51 rfl (lv_at hl 2 rfl) ?_
      refine lv_icmp_le (tgt := 62) (pc := 52) hx hb dX2_numberTriangles_52 (by decide) (fun c4 => ?_) (fun c4 => ?_)
      · have h := it_t c4 h
        refine lv_iinc (v := (x2 + (1 : Int32))) (pc := 62) (lv' := [(2, .int (x2 + (1 : Int32))), (3, .int (s_Tab_get (-1) th x1 x2)), (0, .ref (ad 0)), (1, .int x1)]) hx hb dX2_numberTriangles_62 hl (k := 3) rfl rfl (by decide) rfl (fun ls hl => ?_)
        refine lv_goto (tgt := 29) (pc := 65) hx hb dX2_numberTriangles_65 (by decide) ?_
        exact ih (x2 + (1 : Int32)) ow co nt out h H locs ls hP hD hS (lv_sub hl [2, 3, 0] rfl) Kx 
      · have h := it_f c4 h
        refine lv_aload_n (pc := 55) hx hb dX2_numberTriangles_55 rfl (lv_at hl 1 rfl) ?_
        refine lv_iload_n (pc := 56) hx hb dX2_numberTriangles_56 rfl (lv_at hl 2 rfl) ?_
        refine lv_iload_n (pc := 57) hx hb dX2_numberTriangles_57 rfl (lv_at hl 3 rfl) ?_
        refine lv_iload_n (pc := 58) hx hb dX2_numberTriangles_58 rfl (lv_at hl 0 rfl) ?_
        refine wrVv (pc := 59) (As := [.int x1, .int x2, .int (s_Tab_get (-1) th x1 x2)]) (rest := []) (ws2 := wMesh K ad pxs pys plo phi pn pm lf th ((s_Mesh_addTriangle ow co nt x1 x2 (s_Tab_get (-1) th x1 x2)).1) lk el eh ((s_Mesh_addTriangle ow co nt x1 x2 (s_Tab_get (-1) th x1 x2)).2.1) hu ne ((s_Mesh_addTriangle ow co nt x1 x2 (s_Tab_get (-1) th x1 x2)).2.2) nh) (as9 := [ad 0, ad 1, ad 2, ad 3, ad 4, ad 5, ad 6, ad 7, ad 8, ad 9, ad 10, ad 11, ad 12, ad 13, ad 14, ad 15, ad 16, ad 17, ad 18, ad 19, ad 20, ad 21, ad 22, ad 23, ad 24, ad 25]) hx hb hml hown hts hG hP hD hS (c_Mesh_addTriangle l K ad pxs pys plo phi pn pm lf th ow lk el eh co hu ne nt nh x1 x2 (s_Tab_get (-1) th x1 x2)) [0, 1, 2, 3, 4, 5, 6, 7, 8, 9, 10, 11, 12, 13, 14, 15, 16, 17, 18, 19, 20, 21, 22, 23, 24, 25] rfl rfl rfl rfl [.inl 0, .inl 1, .inl 2, .inl 3, .inl 4, .inl 5, .inl 6, .inl 7, .inl 8, .inl 9, .inl 10, .inl 11, .inl 12, .inl 13, .inl 14, .inl 15, .inl 16, .inl 17, .inl 18, .inl 19, .inl 20, .inl 21, .inl 22, .inl 23, .inl 24, .inl 25] (by decide +kernel) rfl (q0 := 0) rfl (ci := 2) rfl g_Mesh_173 hd_Mesh_addTriangle rfl ⟨Nat.le_of_ble_eq_true rfl, Nat.le_of_ble_eq_true rfl⟩ ⟨Nat.zero_le _, Nat.zero_le _⟩ hl rfl (Nat.le_of_ble_eq_true rfl) dX2_numberTriangles_59 (fun H locs hP hD hS => ?_)
        refine lv_iinc (v := (x2 + (1 : Int32))) (pc := 62) (lv' := [(2, .int (x2 + (1 : Int32))), (3, .int (s_Tab_get (-1) th x1 x2)), (0, .ref (ad 0)), (1, .int x1)]) hx hb dX2_numberTriangles_62 hl (k := 3) rfl rfl (by decide) rfl (fun ls hl => ?_)
        refine lv_goto (tgt := 29) (pc := 65) hx hb dX2_numberTriangles_65 (by decide) ?_
        exact ih (x2 + (1 : Int32)) ((s_Mesh_addTriangle ow co nt x1 x2 (s_Tab_get (-1) th x1 x2)).1) ((s_Mesh_addTriangle ow co nt x1 x2 (s_Tab_get (-1) th x1 x2)).2.1) ((s_Mesh_addTriangle ow co nt x1 x2 (s_Tab_get (-1) th x1 x2)).2.2) out h H locs ls hP hD hS (lv_sub hl [2, 3, 0] rfl) Kx 
set_option maxHeartbeats 4000000 in
set_option maxRecDepth 100000 in
theorem l_Mesh_numberTriangles_L14 {p : Program} {l : Launch} {e : Env} {s : State} {m : MethodId} {args : Array Value} {below : List Frame} {meth : Method} {c : Code} {Q : State → Prop} {K : KT} {A : Nat → Prop} (C0 : Ctx p m c cX2_numberTriangles 4 s args RX2 K meth none) (F : Nat) (ad : Nat → Nat) (pxs : Nat → Int32) (pys : Nat → Int32) (plo : Nat → Int32) (phi : Nat → Int32) (pn : Int32) (pm : Int32) (lf : Nat → Int32) (th : Nat → Int32) (lk : Nat → Int32) (el : Nat → Int32) (eh : Nat → Int32) (hu : Nat → Int32) (ne : Int32) (nh : Int32)  : ∀ (n : Nat) (x1 : Int32) (ow : Nat → Int32) (co : Nat → Int32) (nt : Int32) (out : Int32 × (Nat → Int32) × (Nat → Int32) × Int32), s_Mesh_numberTriangles_L14 F pn th n x1 ow co nt = some out → ∀ (H : Heap) (locs : List Loc) (ls : Array Slot), va_P K.1 vC (wMesh K ad pxs pys plo phi pn pm lf th ow lk el eh co hu ne nt nh) H → va_D A (wMesh K ad pxs pys plo phi pn pm lf th ow lk el eh co hu ne nt nh) → va_S A s.heap H locs → lv_has ls 4 [(0, .ref (ad 0)), (1, .int x1)] → (∀ (o : Int32 × (Nat → Int32) × (Nat → Int32) × Int32) (H : Heap) (locs : List Loc) (ls : Array Slot), out = o → va_P K.1 vC (wMesh K ad pxs pys plo phi pn pm lf th o.2.1 lk el eh o.2.2.1 hu ne o.2.2.2 nh) H → va_D A (wMesh K ad pxs pys plo phi pn pm lf th o.2.1 lk el eh o.2.2.1 hu ne o.2.2.2 nh) → va_S A s.heap H locs → lv_has ls 4 [(0, .ref (ad 0)), (1, .int o.1)] → W p l e (rmL 2) s m args below meth c H locs 0 0 Q (F0 m 74 ls [])) → W p l e (rmL 2) s m args below meth c H locs 0 0 Q (F0 m 14 ls []) := by
  obtain ⟨hx, hb, hml, hown, hts, hG, hr, hlk⟩ := id C0
  intro n
  induction n with
  | zero =>
    intro x1 ow co nt out h
    cases h
  | succ n ih =>
    intro x1 ow co nt out h H locs ls hP hD hS hl Kx 
    rw [s_Mesh_numberTriangles_L14.eq_2] at h
    refine lv_iload_n (pc := 14) hx hb dX2_numberTriangles_14 rfl (lv_at hl 1 rfl) ?_
    refine lv_aload_n (pc := 15) hx hb dX2_numberTriangles_15 rfl (lv_at hl 0 rfl) ?_
    refine va_get (D := K.1) (ci := 2) (v := .ref (ad 1)) (C := RX2) (T := TX2) (N := 12) (pc := 16) hx hb hts inT2 hown hG.1 hP 0 rfl rfl 0 (by decide) (hts _ qf_Mesh_9) (fun _ h9 => h9) rfl dX2_numberTriangles_16 ?_
    refine rdV (pc := 19) (As := []) (rest := [.int x1]) hx hb hml hown hts hG hP (c_Plan_points l K (fun k => ad (k + 1)) pxs pys plo phi pn pm) [1, 2, 3, 4, 5, 6, 7, 8, 9] rfl (q0 := 1) rfl (ci := 3) rfl g_Mesh_84 hd_Plan_points rfl ⟨Nat.le_of_ble_eq_true rfl, Nat.le_of_ble_eq_true rfl⟩ ⟨Nat.zero_le _, Nat.zero_le _⟩ hl rfl (Nat.le_of_ble_eq_true rfl) dX2_numberTriangles_19 ?_
    refine lv_icmp_ge (tgt := 74) (pc := 22) hx hb dX2_numberTriangles_22 (by decide) (fun c2 => ?_) (fun c2 => ?_)
    · have h := it_t c2 h
      obtain rfl := Option.some.inj h
      exact Kx _ H locs ls rfl hP hD hS (lv_sub hl [0, 1] rfl)
    · have h := it_f c2 h
      refine lv_iload_n (pc := 25) hx hb dX2_numberTriangles_25 rfl (lv_at hl 1 rfl) ?_
      refine lv_iconst (v := (1 : Int32)) (pc := 26) hx hb dX2_numberTriangles_26 (by decide) ?_
      refine lv_iadd (pc := 27) hx hb dX2_numberTriangles_27 ?_
      refine lv_istore_n (pc := 28) (lv' := [(2, .int (x1 + (1 : Int32))), (0, .ref (ad 0)), (1, .int x1)]) hx hb dX2_numberTriangles_28 rfl hl (by decide) rfl (fun ls hl => ?_)
      obtain ⟨o5, h_o5, h⟩ := ob h
      refine l_Mesh_numberTriangles_L29 C0 F ad pxs pys plo phi pn pm lf th lk el eh hu ne nh x1 F (x1 + (1 : Int32)) ow co nt _ h_o5 H locs ls hP hD hS (lv_sub hl [1, 2, 0] rfl) (fun o5x H locs ls eo hP hD hS hl => ?_)
      subst o5
      refine lv_iinc (v := (x1 + (1 : Int32))) (pc := 68) (lv' := [(1, .int (x1 + (1 : Int32))), (0, .ref (ad 0)), (2, .int o5x.1)]) hx hb dX2_numberTriangles_68 hl (k := 1) rfl rfl (by decide) rfl (fun ls hl => ?_)
      refine lv_goto (tgt := 14) (pc := 71) hx hb dX2_numberTriangles_71 (by decide) ?_
      exact ih (x1 + (1 : Int32)) o5x.2.1 o5x.2.2.1 o5x.2.2.2 out h H locs ls hP hD hS (lv_sub hl [1, 0] rfl) Kx 
set_option maxHeartbeats 4000000 in
set_option maxRecDepth 100000 in
theorem c_Mesh_numberTriangles (l : Launch) (K : KT) (ad : Nat → Nat) (pxs : Nat → Int32) (pys : Nat → Int32) (plo : Nat → Int32) (phi : Nat → Int32) (pn : Int32) (pm : Int32) (lf : Nat → Int32) (th : Nat → Int32) (ow : Nat → Int32) (lk : Nat → Int32) (el : Nat → Int32) (eh : Nat → Int32) (co : Nat → Int32) (hu : Nat → Int32) (ne : Int32) (nt : Int32) (nh : Int32) (F : Nat) {o : (Nat → Int32) × (Nat → Int32) × Int32} (h : s_Mesh_numberTriangles F pn th ow co = some o) : Wr l K 2 yX2_numberTriangles cX2_numberTriangles 4 none [.ref (ad 0)] (wMesh K ad pxs pys plo phi pn pm lf th ow lk el eh co hu ne nt nh) none (wMesh K ad pxs pys plo phi pn pm lf th o.1 lk el eh o.2.1 hu ne o.2.2 nh) := by
  refine Wr.of (by decide +kernel) (Nat.le_of_ble_eq_true rfl) ?_
  unfold s_Mesh_numberTriangles at h
  intro p e s m below meth c hx hb hr hml hown hts hlk H locs hP hG hD hS ls hl
  have C0 : Ctx p m c cX2_numberTriangles 4 s (Array.mk [.ref (ad 0)]) RX2 K meth none := ⟨hx, hb, hml, hown, hts, hG, hr, hlk⟩
  have hl : lv_has ls 4 [(0, .ref (ad 0))] := hl
  refine lv_aload_n (pc := 0) hx hb dX2_numberTriangles_0 rfl (lv_at hl 0 rfl) ?_
  refine va_get (D := K.1) (ci := 2) (v := .ref (ad 14)) (C := RX2) (T := TX2) (N := 12) (pc := 1) hx hb hts inT2 hown hG.1 hP 0 rfl rfl 3 (by decide) (hts _ qf_Mesh_27) (fun _ h9 => h9) rfl dX2_numberTriangles_1 ?_
  obtain ⟨v1, h_v1, h⟩ := ob h
  refine wrVv (pc := 4) (As := []) (rest := []) (ws2 := wMesh K ad pxs pys plo phi pn pm lf th v1 lk el eh co hu ne nt nh) (as9 := [ad 14, ad 15]) hx hb hml hown hts hG hP hD hS (c_Tab_clear l K (fun k => ad (k + 14)) (-1) ow F h_v1) [14, 15] rfl rfl rfl rfl [.inr 0, .inr 1, .inr 2, .inr 3, .inr 4, .inr 5, .inr 6, .inr 7, .inr 8, .inr 9, .inr 10, .inr 11, .inr 12, .inr 13, .inl 0, .inl 1, .inr 16, .inr 17, .inr 18, .inr 19, .inr 20, .inr 21, .inr 22, .inr 23, .inr 24, .inr 25] (by decide +kernel) rfl (q0 := 14) rfl (ci := 5) rfl g_Mesh_81 hd_Tab_clear rfl ⟨Nat.le_of_ble_eq_true rfl, Nat.le_of_ble_eq_true rfl⟩ ⟨Nat.zero_le _, Nat.zero_le _⟩ hl rfl (Nat.le_of_ble_eq_true rfl) dX2_numberTriangles_4 (fun H locs hP hD hS => ?_)
  refine lv_aload_n (pc := 7) hx hb dX2_numberTriangles_7 rfl (lv_at hl 0 rfl) ?_
  refine lv_iconst (v := (0 : Int32)) (pc := 8) hx hb dX2_numberTriangles_8 (by decide) ?_
  refine va_put (D := K.1) (ci := 2) (v := .int (0 : Int32)) (ty := .int) (C := RX2) (T := TX2) (N := 12) (pc := 9) hx hb hts inT2 tyX2 tyX2_ok nmX2 hown hG.1 hP hD hS 0 rfl rfl 10 (by decide) (hts _ qf_Mesh_53) (fun _ h9 => h9) rfl (by decide +kernel) rfl rfl (Nat.le_of_ble_eq_true rfl) dX2_numberTriangles_9 (fun H locs hP hD hS => ?_)
  have hP : va_P K.1 vC (wMesh K ad pxs pys plo phi pn pm lf th v1 lk el eh co hu ne (0 : Int32) nh) H := hP
  have hD : va_D _ (wMesh K ad pxs pys plo phi pn pm lf th v1 lk el eh co hu ne (0 : Int32) nh) := hD
  refine lv_iconst (v := (0 : Int32)) (pc := 12) hx hb dX2_numberTriangles_12 (by decide) ?_
  refine lv_istore_n (pc := 13) (lv' := [(1, .int (0 : Int32)), (0, .ref (ad 0))]) hx hb dX2_numberTriangles_13 rfl hl (by decide) rfl (fun ls hl => ?_)
  obtain ⟨o6, h_o6, h⟩ := ob h
  refine l_Mesh_numberTriangles_L14 C0 F ad pxs pys plo phi pn pm lf th lk el eh hu ne nh F (0 : Int32) v1 co (0 : Int32) _ h_o6 H locs ls hP hD hS (lv_sub hl [1, 0] rfl) (fun o6x H locs ls eo hP hD hS hl => ?_)
  subst o6
  obtain rfl := Option.some.inj h
  exact W.vret hx hb hr (fun t ht hW => ⟨⟨rfl, by rw [ht]; exact hP⟩, hS.F ht⟩) hS.2.2 dX2_numberTriangles_74 hlk
set_option maxHeartbeats 4000000 in
set_option maxRecDepth 100000 in
theorem l_Mesh_nextOnHull_L2 {p : Program} {l : Launch} {e : Env} {s : State} {m : MethodId} {args : Array Value} {below : List Frame} {meth : Method} {c : Code} {Q : State → Prop} {K : KT} (C0 : Ctx p m c cX2_nextOnHull 3 s args RX2 K meth (some .int)) (F : Nat) (ad : Nat → Nat) (pxs : Nat → Int32) (pys : Nat → Int32) (plo : Nat → Int32) (phi : Nat → Int32) (pn : Int32) (pm : Int32) (lf : Nat → Int32) (th : Nat → Int32) (ow : Nat → Int32) (lk : Nat → Int32) (el : Nat → Int32) (eh : Nat → Int32) (co : Nat → Int32) (hu : Nat → Int32) (ne : Int32) (nt : Int32) (nh : Int32) (x1 : Int32) (hP : va_P K.1 vC (wMesh K ad pxs pys plo phi pn pm lf th ow lk el eh co hu ne nt nh) s.heap) : ∀ (n : Nat) (x2 : Int32) (out : (Int32) ⊕ (Int32)), s_Mesh_nextOnHull_L2 pn th x1 n x2 = some out → ∀ (ls : Array Slot), lv_has ls 3 [(0, .ref (ad 0)), (1, .int x1), (2, .int x2)] → (∀ (o : Int32) (ls : Array Slot), out = .inr o → lv_has ls 3 [(0, .ref (ad 0)), (1, .int x1), (2, .int o)] → W p l e (rmL 1) s m args below meth c s.heap [] 0 0 Q (F0 m 47 ls [])) → (∀ (o : Int32) (pcR : Nat) (ls : Array Slot), out = .inl o → decode cX2_nextOnHull pcR = .ok (.ireturn, 1) → W p l e (rmL 1) s m args below meth c s.heap [] 0 0 Q (F0 m pcR ls [.int o])) → W p l e (rmL 1) s m args below meth c s.heap [] 0 0 Q (F0 m 2 ls []) := by
  obtain ⟨hx, hb, hml, hown, hts, hG, hr, hlk⟩ := id C0
  intro n
  induction n with
  | zero =>
    intro x2 out h
    cases h
  | succ n ih =>
    intro x2 out h ls hl Kx Kr
    rw [s_Mesh_nextOnHull_L2.eq_2] at h
    refine lv_iload_n (pc := 2) hx hb dX2_nextOnHull_2 rfl (lv_at hl 2 rfl) ?_
    refine lv_aload_n (pc := 3) hx hb dX2_nextOnHull_3 rfl (lv_at hl 0 rfl) ?_
    refine va_get (D := K.1) (ci := 2) (v := .ref (ad 1)) (C := RX2) (T := TX2) (N := 12) (pc := 4) hx hb hts inT2 hown hG.1 hP 0 rfl rfl 0 (by decide) (hts _ qf_Mesh_9) (fun _ h9 => h9) rfl dX2_nextOnHull_4 ?_
    refine rdV (pc := 7) (As := []) (rest := [.int x2]) hx hb hml hown hts hG hP (c_Plan_points l K (fun k => ad (k + 1)) pxs pys plo phi pn pm) [1, 2, 3, 4, 5, 6, 7, 8, 9] rfl (q0 := 1) rfl (ci := 3) rfl g_Mesh_84 hd_Plan_points rfl ⟨Nat.le_of_ble_eq_true rfl, Nat.le_of_ble_eq_true rfl⟩ ⟨Nat.zero_le _, Nat.zero_le _⟩ hl rfl (Nat.le_of_ble_eq_true rfl) dX2_nextOnHull_7 ?_
    refine lv_icmp_ge (tgt := 47) (pc := 10) hx hb dX2_nextOnHull_10 (by decide) (fun c1 => ?_) (fun c1 => ?_)
    · have h := it_t c1 h
      obtain rfl := Option.some.inj h
      exact Kx _ ls rfl (lv_sub hl [0, 1, 2] rfl)
    · have h := it_f c1 h
      refine lv_aload_n (pc := 13) hx hb dX2_nextOnHull_13 rfl (lv_at hl 0 rfl) ?_
      refine va_get (D := K.1) (ci := 2) (v := .ref (ad 12)) (C := RX2) (T := TX2) (N := 12) (pc := 14) hx hb hts inT2 hown hG.1 hP 0 rfl rfl 2 (by decide) (hts _ qf_Mesh_24) (fun _ h9 => h9) rfl dX2_nextOnHull_14 ?_
      refine lv_iload_n (pc := 17) hx hb dX2_nextOnHull_17 rfl (lv_at hl 1 rfl) ?_
      refine lv_iload_n (pc := 18) hx hb dX2_nextOnHull_18 rfl (lv_at hl 2 rfl) ?_
      refine rdV (pc := 19) (As := [.int x1, .int x2]) (rest := []) hx hb hml hown hts hG hP (c_Tab_get l K (fun k => ad (k + 12)) (-1) th x1 x2) [12, 13] rfl (q0 := 12) rfl (ci := 5) rfl g_Mesh_140 hd_Tab_get rfl ⟨Nat.le_of_ble_eq_true rfl, Nat.le_of_ble_eq_true rfl⟩ ⟨Nat.zero_le _, Nat.zero_le _⟩ hl rfl (Nat.le_of_ble_eq_true rfl) dX2_nextOnHull_19 ?_
      refine lv_iconst (v := (-1 : Int32)) (pc := 22) hx hb dX2_nextOnHull_22 (by decide) ?_
      refine lv_icmp_eq (tgt := 41) (pc := 23) hx hb dX2_nextOnHull_23 (by decide) (fun c2 => ?_) (fun c2 => ?_)
      · have h := it_t c2 h
        refine lv_iinc (v := (x2 + (1 : Int32))) (pc := 41) (lv' := [(2, .int (x2 + (1 : Int32))), (0, .ref (ad 0)), (1, .int x1)]) hx hb dX2_nextOnHull_41 hl (k := 2) rfl rfl (by decide) rfl (fun ls hl => ?_)
        refine lv_goto (tgt := 2) (pc := 44) hx hb dX2_nextOnHull_44 (by decide) ?_
        exact ih (x2 + (1 : Int32)) out h ls (lv_sub hl [1, 2, 0] rfl) Kx Kr
      · have h := it_f c2 h
        refine lv_aload_n (pc := 26) hx hb dX2_nextOnHull_26 rfl (lv_at hl 0 rfl) ?_
        refine va_get (D := K.1) (ci := 2) (v := .ref (ad 12)) (C := RX2) (T := TX2) (N := 12) (pc := 27) hx hb hts inT2 hown hG.1 hP 0 rfl rfl 2 (by decide) (hts _ qf_Mesh_24) (fun _ h9 => h9) rfl dX2_nextOnHull_27 ?_
        refine lv_iload_n (pc := 30) hx hb dX2_nextOnHull_30 rfl (lv_at hl 2 rfl) ?_
        refine lv_iload_n (pc := 31) hx hb dX2_nextOnHull_31 rfl (lv_at hl 1 rfl) ?_
        refine rdV (pc := 32) (As := [.int x2, .int x1]) (rest := []) hx hb hml hown hts hG hP (c_Tab_get l K (fun k => ad (k + 12)) (-1) th x2 x1) [12, 13] rfl (q0 := 12) rfl (ci := 5) rfl g_Mesh_140 hd_Tab_get rfl ⟨Nat.le_of_ble_eq_true rfl, Nat.le_of_ble_eq_true rfl⟩ ⟨Nat.zero_le _, Nat.zero_le _⟩ hl rfl (Nat.le_of_ble_eq_true rfl) dX2_nextOnHull_32 ?_
        refine lv_iconst (v := (-1 : Int32)) (pc := 35) hx hb dX2_nextOnHull_35 (by decide) ?_
        refine lv_icmp_ne (tgt := 41) (pc := 36) hx hb dX2_nextOnHull_36 (by decide) (fun c3 => ?_) (fun c3 => ?_)
        · have h := it_f c3 h
          refine lv_iinc (v := (x2 + (1 : Int32))) (pc := 41) (lv' := [(2, .int (x2 + (1 : Int32))), (0, .ref (ad 0)), (1, .int x1)]) hx hb dX2_nextOnHull_41 hl (k := 2) rfl rfl (by decide) rfl (fun ls hl => ?_)
          refine lv_goto (tgt := 2) (pc := 44) hx hb dX2_nextOnHull_44 (by decide) ?_
          exact ih (x2 + (1 : Int32)) out h ls (lv_sub hl [1, 2, 0] rfl) Kx Kr
        · have h := it_t c3 h
          refine lv_iload_n (pc := 39) hx hb dX2_nextOnHull_39 rfl (lv_at hl 2 rfl) ?_
          obtain rfl := Option.some.inj h
          exact Kr _ _ _ rfl dX2_nextOnHull_40
set_option maxHeartbeats 4000000 in
set_option maxRecDepth 100000 in
theorem c_Mesh_nextOnHull (l : Launch) (K : KT) (ad : Nat → Nat) (pxs : Nat → Int32) (pys : Nat → Int32) (plo : Nat → Int32) (phi : Nat → Int32) (pn : Int32) (pm : Int32) (lf : Nat → Int32) (th : Nat → Int32) (ow : Nat → Int32) (lk : Nat → Int32) (el : Nat → Int32) (eh : Nat → Int32) (co : Nat → Int32) (hu : Nat → Int32) (ne : Int32) (nt : Int32) (nh : Int32) (a0 : Int32) (F : Nat) {o : Int32} (h : s_Mesh_nextOnHull F pn th a0 = some o) : Rd l K 1 yX2_nextOnHull cX2_nextOnHull 3 .int [.ref (ad 0), .int a0] (wMesh K ad pxs pys plo phi pn pm lf th ow lk el eh co hu ne nt nh) o := by
  refine Rd.of (by decide +kernel) (Nat.le_of_ble_eq_true rfl) ?_
  unfold s_Mesh_nextOnHull at h
  intro p e s m below meth c hx hb hr hml hown hts hlk hP hG ls hl
  have C0 : Ctx p m c cX2_nextOnHull 3 s (Array.mk [.ref (ad 0), .int a0]) RX2 K meth (some .int) := ⟨hx, hb, hml, hown, hts, hG, hr, hlk⟩
  have hl : lv_has ls 3 [(0, .ref (ad 0)), (1, .int a0)] := hl
  refine lv_iconst (v := (0 : Int32)) (pc := 0) hx hb dX2_nextOnHull_0 (by decide) ?_
  refine lv_istore_n (pc := 1) (lv' := [(2, .int (0 : Int32)), (0, .ref (ad 0)), (1, .int a0)]) hx hb dX2_nextOnHull_1 rfl hl (by decide) rfl (fun ls hl => ?_)
  obtain ⟨o4, h_o4, h⟩ := ob h
  refine l_Mesh_nextOnHull_L2 C0 F ad pxs pys plo phi pn pm lf th ow lk el eh co hu ne nt nh a0 hP F (0 : Int32) _ h_o4 ls (lv_sub hl [1, 2, 0] rfl) (fun o4x ls eo hl => ?_) (fun q_o pcR ls eo hdR => ?_)
  · subst o4
    have h := se_r h
    refine lv_iconst (v := (-1 : Int32)) (pc := 47) hx hb dX2_nextOnHull_47 (by decide) ?_
    obtain rfl := Option.some.inj h
    exact W.iret hx hb hr (fun t ht hW => ⟨rfl, ht⟩) (fun q hq => absurd hq List.not_mem_nil) dX2_nextOnHull_48 hlk
  · subst o4
    have h := se_l h
    obtain rfl := Option.some.inj h
    exact W.iret hx hb hr (fun t ht hW => ⟨rfl, ht⟩) (fun q hq => absurd hq List.not_mem_nil) hdR hlk
set_option maxHeartbeats 4000000 in
set_option maxRecDepth 100000 in
theorem l_Mesh_firstOnHull_L2 {p : Program} {l : Launch} {e : Env} {s : State} {m : MethodId} {args : Array Value} {below : List Frame} {meth : Method} {c : Code} {Q : State → Prop} {K : KT} (C0 : Ctx p m c cX2_firstOnHull 2 s args RX2 K meth (some .int)) (F : Nat) (ad : Nat → Nat) (pxs : Nat → Int32) (pys : Nat → Int32) (plo : Nat → Int32) (phi : Nat → Int32) (pn : Int32) (pm : Int32) (lf : Nat → Int32) (th : Nat → Int32) (ow : Nat → Int32) (lk : Nat → Int32) (el : Nat → Int32) (eh : Nat → Int32) (co : Nat → Int32) (hu : Nat → Int32) (ne : Int32) (nt : Int32) (nh : Int32) (hP : va_P K.1 vC (wMesh K ad pxs pys plo phi pn pm lf th ow lk el eh co hu ne nt nh) s.heap) : ∀ (n : Nat) (x1 : Int32) (out : (Int32) ⊕ (Int32)), s_Mesh_firstOnHull_L2 F pn th n x1 = some out → ∀ (ls : Array Slot), lv_has ls 2 [(0, .ref (ad 0)), (1, .int x1)] → (∀ (o : Int32) (ls : Array Slot), out = .inr o → lv_has ls 2 [(0, .ref (ad 0)), (1, .int o)] → W p l e (rmL 2) s m args below meth c s.heap [] 0 0 Q (F0 m 30 ls [])) → (∀ (o : Int32) (pcR : Nat) (ls : Array Slot), out = .inl o → decode cX2_firstOnHull pcR = .ok (.ireturn, 1) → W p l e (rmL 2) s m args below meth c s.heap [] 0 0 Q (F0 m pcR ls [.int o])) → W p l e (rmL 2) s m args below meth c s.heap [] 0 0 Q (F0 m 2 ls []) := by
  obtain ⟨hx, hb, hml, hown, hts, hG, hr, hlk⟩ := id C0
  intro n
  induction n with
  | zero =>
    intro x1 out h
    cases h
  | succ n ih =>
    intro x1 out h ls hl Kx Kr
    rw [s_Mesh_firstOnHull_L2.eq_2] at h
    refine lv_iload_n (pc := 2) hx hb dX2_firstOnHull_2 rfl (lv_at hl 1 rfl) ?_
    refine lv_aload_n (pc := 3) hx hb dX2_firstOnHull_3 rfl (lv_at hl 0 rfl) ?_
    refine va_get (D := K.1) (ci := 2) (v := .ref (ad 1)) (C := RX2) (T := TX2) (N := 12) (pc := 4) hx hb hts inT2 hown hG.1 hP 0 rfl rfl 0 (by decide) (hts _ qf_Mesh_9) (fun _ h9 => h9) rfl dX2_firstOnHull_4 ?_
    refine rdV (pc := 7) (As := []) (rest := [.int x1]) hx hb hml hown hts hG hP (c_Plan_points l K (fun k => ad (k + 1)) pxs pys plo phi pn pm) [1, 2, 3, 4, 5, 6, 7, 8, 9] rfl (q0 := 1) rfl (ci := 3) rfl g_Mesh_84 hd_Plan_points rfl ⟨Nat.le_of_ble_eq_true rfl, Nat.le_of_ble_eq_true rfl⟩ ⟨Nat.zero_le _, Nat.zero_le _⟩ hl rfl (Nat.le_of_ble_eq_true rfl) dX2_firstOnHull_7 ?_
    refine lv_icmp_ge (tgt := 30) (pc := 10) hx hb dX2_firstOnHull_10 (by decide) (fun c1 => ?_) (fun c1 => ?_)
    · have h := it_t c1 h
      obtain rfl := Option.some.inj h
      exact Kx _ ls rfl (lv_sub hl [0, 1] rfl)
    · have h := it_f c1 h
      refine lv_aload_n (pc := 13) hx hb dX2_firstOnHull_13 rfl (lv_at hl 0 rfl) ?_
      refine lv_iload_n (pc := 14) hx hb dX2_firstOnHull_14 rfl (lv_at hl 1 rfl) ?_
      obtain ⟨v2, h_v2, h⟩ := ob h
      refine rdV (pc := 15) (As := [.int x1]) (rest := []) hx hb hml hown hts hG hP (c_Mesh_nextOnHull l K ad pxs pys plo phi pn pm lf th ow lk el eh co hu ne nt nh x1 F h_v2) [0, 1, 2, 3, 4, 5, 6, 7, 8, 9, 10, 11, 12, 13, 14, 15, 16, 17, 18, 19, 20, 21, 22, 23, 24, 25] rfl (q0 := 0) rfl (ci := 2) rfl g_Mesh_179 hd_Mesh_nextOnHull rfl ⟨Nat.le_of_ble_eq_true rfl, Nat.le_of_ble_eq_true rfl⟩ ⟨Nat.zero_le _, Nat.zero_le _⟩ hl rfl (Nat.le_of_ble_eq_true rfl) dX2_firstOnHull_15 ?_
      refine lv_iconst (v := (-1 : Int32)) (pc := 18) hx hb dX2_firstOnHull_18 (by decide) ?_
      refine lv_icmp_eq (tgt := 24) (pc := 19) hx hb dX2_firstOnHull_19 (by decide) (fun c3 => ?_) (fun c3 => ?_)
      · have h := it_t c3 h
        refine lv_iinc (v := (x1 + (1 : Int32))) (pc := 24) (lv' := [(1, .int (x1 + (1 : Int32))), (0, .ref (ad 0))]) hx hb dX2_firstOnHull_24 hl (k := 1) rfl rfl (by decide) rfl (fun ls hl => ?_)
        refine lv_goto (tgt := 2) (pc := 27) hx hb dX2_firstOnHull_27 (by decide) ?_
        exact ih (x1 + (1 : Int32)) out h ls (lv_sub hl [1, 0] rfl) Kx Kr
      · have h := it_f c3 h
        refine lv_iload_n (pc := 22) hx hb dX2_firstOnHull_22 rfl (lv_at hl 1 rfl) ?_
        obtain rfl := Option.some.inj h
        exact Kr _ _ _ rfl dX2_firstOnHull_23
set_option maxHeartbeats 4000000 in
set_option maxRecDepth 100000 in
theorem c_Mesh_firstOnHull (l : Launch) (K : KT) (ad : Nat → Nat) (pxs : Nat → Int32) (pys : Nat → Int32) (plo : Nat → Int32) (phi : Nat → Int32) (pn : Int32) (pm : Int32) (lf : Nat → Int32) (th : Nat → Int32) (ow : Nat → Int32) (lk : Nat → Int32) (el : Nat → Int32) (eh : Nat → Int32) (co : Nat → Int32) (hu : Nat → Int32) (ne : Int32) (nt : Int32) (nh : Int32) (F : Nat) {o : Int32} (h : s_Mesh_firstOnHull F pn th = some o) : Rd l K 2 yX2_firstOnHull cX2_firstOnHull 2 .int [.ref (ad 0)] (wMesh K ad pxs pys plo phi pn pm lf th ow lk el eh co hu ne nt nh) o := by
  refine Rd.of (by decide +kernel) (Nat.le_of_ble_eq_true rfl) ?_
  unfold s_Mesh_firstOnHull at h
  intro p e s m below meth c hx hb hr hml hown hts hlk hP hG ls hl
  have C0 : Ctx p m c cX2_firstOnHull 2 s (Array.mk [.ref (ad 0)]) RX2 K meth (some .int) := ⟨hx, hb, hml, hown, hts, hG, hr, hlk⟩
  have hl : lv_has ls 2 [(0, .ref (ad 0))] := hl
  refine lv_iconst (v := (0 : Int32)) (pc := 0) hx hb dX2_firstOnHull_0 (by decide) ?_
  refine lv_istore_n (pc := 1) (lv' := [(1, .int (0 : Int32)), (0, .ref (ad 0))]) hx hb dX2_firstOnHull_1 rfl hl (by decide) rfl (fun ls hl => ?_)
  obtain ⟨o4, h_o4, h⟩ := ob h
  refine l_Mesh_firstOnHull_L2 C0 F ad pxs pys plo phi pn pm lf th ow lk el eh co hu ne nt nh hP F (0 : Int32) _ h_o4 ls (lv_sub hl [1, 0] rfl) (fun o4x ls eo hl => ?_) (fun q_o pcR ls eo hdR => ?_)
  · subst o4
    have h := se_r h
    refine lv_iconst (v := (-1 : Int32)) (pc := 30) hx hb dX2_firstOnHull_30 (by decide) ?_
    obtain rfl := Option.some.inj h
    exact W.iret hx hb hr (fun t ht hW => ⟨rfl, ht⟩) (fun q hq => absurd hq List.not_mem_nil) dX2_firstOnHull_31 hlk
  · subst o4
    have h := se_l h
    obtain rfl := Option.some.inj h
    exact W.iret hx hb hr (fun t ht hW => ⟨rfl, ht⟩) (fun q hq => absurd hq List.not_mem_nil) hdR hlk
set_option maxHeartbeats 4000000 in
set_option maxRecDepth 100000 in
theorem l_Mesh_numberHull_L10 {p : Program} {l : Launch} {e : Env} {s : State} {m : MethodId} {args : Array Value} {below : List Frame} {meth : Method} {c : Code} {Q : State → Prop} {K : KT} {A : Nat → Prop} (C0 : Ctx p m c cX2_numberHull 2 s args RX2 K meth none) (F : Nat) (ad : Nat → Nat) (pxs : Nat → Int32) (pys : Nat → Int32) (plo : Nat → Int32) (phi : Nat → Int32) (pn : Int32) (pm : Int32) (lf : Nat → Int32) (th : Nat → Int32) (ow : Nat → Int32) (lk : Nat → Int32) (el : Nat → Int32) (eh : Nat → Int32) (co : Nat → Int32) (ne : Int32) (nt : Int32)  : ∀ (n : Nat) (x1 : Int32) (hu : Nat → Int32) (nh : Int32) (out : Int32 × (Nat → Int32) × Int32), s_Mesh_numberHull_L10 F pn th n x1 hu nh = some out → ∀ (H : Heap) (locs : List Loc) (ls : Array Slot), va_P K.1 vC (wMesh K ad pxs pys plo phi pn pm lf th ow lk el eh co hu ne nt nh) H → va_D A (wMesh K ad pxs pys plo phi pn pm lf th ow lk el eh co hu ne nt nh) → va_S A s.heap H locs → lv_has ls 2 [(0, .ref (ad 0)), (1, .int x1)] → (∀ (o : Int32 × (Nat → Int32) × Int32) (H : Heap) (locs : List Loc) (ls : Array Slot), out = o → va_P K.1 vC (wMesh K ad pxs pys plo phi pn pm lf th ow lk el eh co o.2.1 ne nt o.2.2) H → va_D A (wMesh K ad pxs pys plo phi pn pm lf th ow lk el eh co o.2.1 ne nt o.2.2) → va_S A s.heap H locs → lv_has ls 2 [(0, .ref (ad 0)), (1, .int o.1)] → W p l e (rmL 3) s m args below meth c H locs 0 0 Q (F0 m 69 ls [])) → W p l e (rmL 3) s m args below meth c H locs 0 0 Q (F0 m 10 ls []) := by
  obtain ⟨hx, hb, hml, hown, hts, hG, hr, hlk⟩ := id C0
  intro n
  induction n with
  | zero =>
    intro x1 hu nh out h
    cases h
  | succ n ih =>
    intro x1 hu nh out h H locs ls hP hD hS hl Kx 
    rw [s_Mesh_numberHull_L10.eq_2] at h
    refine lv_aload_n (pc := 10) hx hb dX2_numberHull_10 rfl (lv_at hl 0 rfl) ?_
    refine va_get (D := K.1) (ci := 2) (v := .int nh) (C := RX2) (T := TX2) (N := 12) (pc := 11) hx hb hts inT2 hown hG.1 hP 0 rfl rfl 11 (by decide) (hts _ qf_Mesh_56) (fun _ h9 => h9) rfl dX2_numberHull_11 ?_
    refine lv_bipush (v := (16 : Int32)) (pc := 14) hx hb dX2_numberHull_14 (by decide) ?_
    refine lv_icmp_ge (tgt := 69) (pc := 16) hx hb dX2_numberHull_16 (by decide) (fun c2 => ?_) (fun c2 => ?_)
    · have h := it_t c2 h
      obtain rfl := Option.some.inj h
      exact Kx _ H locs ls rfl hP hD hS (lv_sub hl [0, 1] rfl)
    · have h := it_f c2 h
      refine lv_iload_n (pc := 19) hx hb dX2_numberHull_19 rfl (lv_at hl 1 rfl) ?_
      refine lv_iconst (v := (-1 : Int32)) (pc := 20) hx hb dX2_numberHull_20 (by decide) ?_
      refine lv_icmp_eq (tgt := 69) (pc := 21) hx hb dX2_numberHull_21 (by decide) (fun c3 => ?_) (fun c3 => ?_)
      · have h := it_t c3 h
        obtain rfl := Option.some.inj h
        exact Kx _ H locs ls rfl hP hD hS (lv_sub hl [0, 1] rfl)
      · have h := it_f c3 h
        refine lv_aload_n (pc := 24) hx hb dX2_numberHull_24 rfl (lv_at hl 0 rfl) ?_
        refine va_get (D := K.1) (ci := 2) (v := .ref (ad 24)) (C := RX2) (T := TX2) (N := 12) (pc := 25) hx hb hts inT2 hown hG.1 hP 0 rfl rfl 8 (by decide) (hts _ qf_Mesh_46) (fun _ h9 => h9) rfl dX2_numberHull_25 ?_
        refine lv_aload_n (pc := 28) hx hb dX2_numberHull_28 rfl (lv_at hl 0 rfl) ?_
        refine va_get (D := K.1) (ci := 2) (v := .int nh) (C := RX2) (T := TX2) (N := 12) (pc := 29) hx hb hts inT2 hown hG.1 hP 0 rfl rfl 11 (by decide) (hts _ qf_Mesh_56) (fun _ h9 => h9) rfl dX2_numberHull_29 ?_
        refine lv_iload_n (pc := 32) hx hb dX2_numberHull_32 rfl (lv_at hl 1 rfl) ?_
        refine wrVv (pc := 33) (As := [.int nh, .int x1]) (rest := []) (ws2 := wMesh K ad pxs pys plo phi pn pm lf th ow lk el eh co (s_Row_set 16 hu nh x1) ne nt nh) (as9 := [ad 24, ad 25]) hx hb hml hown hts hG hP hD hS (c_Row_set l K (fun k => ad (k + 24)) 16 (by decide) hu nh x1) [24, 25] rfl rfl rfl rfl [.inr 0, .inr 1, .inr 2, .inr 3, .inr 4, .inr 5, .inr 6, .inr 7, .inr 8, .inr 9, .inr 10, .inr 11, .inr 12, .inr 13, .inr 14, .inr 15, .inr 16, .inr 17, .inr 18, .inr 19, .inr 20, .inr 21, .inr 22, .inr 23, .inl 0, .inl 1] (by decide +kernel) rfl (q0 := 24) rfl (ci := 4) rfl g_Mesh_102 hd_Row_set rfl ⟨Nat.le_of_ble_eq_true rfl, Nat.le_of_ble_eq_true rfl⟩ ⟨Nat.zero_le _, Nat.zero_le _⟩ hl rfl (Nat.le_of_ble_eq_true rfl) dX2_numberHull_33 (fun H locs hP hD hS => ?_)
        refine lv_aload_n (pc := 36) hx hb dX2_numberHull_36 rfl (lv_at hl 0 rfl) ?_
        refine lv_dup (pc := 37) hx hb dX2_numberHull_37 rfl ?_
        refine va_get (D := K.1) (ci := 2) (v := .int nh) (C := RX2) (T := TX2) (N := 12) (pc := 38) hx hb hts inT2 hown hG.1 hP 0 rfl rfl 11 (by decide) (hts _ qf_Mesh_56) (fun _ h9 => h9) rfl dX2_numberHull_38 ?_
        refine lv_iconst (v := (1 : Int32)) (pc := 41) hx hb dX2_numberHull_41 (by decide) ?_
        refine lv_iadd (pc := 42) hx hb dX2_numberHull_42 ?_
        refine va_put (D := K.1) (ci := 2) (v := .int (nh + (1 : Int32))) (ty := .int) (C := RX2) (T := TX2) (N := 12) (pc := 43) hx hb hts inT2 tyX2 tyX2_ok nmX2 hown hG.1 hP hD hS 0 rfl rfl 11 (by decide) (hts _ qf_Mesh_56) (fun _ h9 => h9) rfl (by decide +kernel) rfl rfl (Nat.le_of_ble_eq_true rfl) dX2_numberHull_43 (fun H locs hP hD hS => ?_)
        have hP : va_P K.1 vC (wMesh K ad pxs pys plo phi pn pm lf th ow lk el eh co (s_Row_set 16 hu nh x1) ne nt (nh + (1 : Int32))) H := hP
        have hD : va_D _ (wMesh K ad pxs pys plo phi pn pm lf th ow lk el eh co (s_Row_set 16 hu nh x1) ne nt (nh + (1 : Int32))) := hD
        refine lv_aload_n (pc := 46) hx hb dX2_numberHull_46 rfl (lv_at hl 0 rfl) ?_
        refine lv_iload_n (pc := 47) hx hb dX2_numberHull_47 rfl (lv_at hl 1 rfl) ?_
        obtain ⟨v4, h_v4, h⟩ := ob h
        refine rdV (pc := 48) (As := [.int x1]) (rest := []) hx hb hml hown hts hG hP (c_Mesh_nextOnHull l K ad pxs pys plo phi pn pm lf th ow lk el eh co (s_Row_set 16 hu nh x1) ne nt (nh + (1 : Int32)) x1 F h_v4) [0, 1, 2, 3, 4, 5, 6, 7, 8, 9, 10, 11, 12, 13, 14, 15, 16, 17, 18, 19, 20, 21, 22, 23, 24, 25] rfl (q0 := 0) rfl (ci := 2) rfl g_Mesh_179 hd_Mesh_nextOnHull rfl ⟨Nat.le_of_ble_eq_true rfl, Nat.le_of_ble_eq_true rfl⟩ ⟨Nat.zero_le _, Nat.zero_le _⟩ hl rfl (Nat.le_of_ble_eq_true rfl) dX2_numberHull_48 ?_
        refine lv_istore_n (pc := 51) (lv' := [(1, .int v4), (0, .ref (ad 0))]) hx hb dX2_numberHull_51 rfl hl (by decide) rfl (fun ls hl => ?_)
        refine lv_iload_n (pc := 52) hx hb dX2_numberHull_52 rfl (lv_at hl 0 rfl) ?_
        refine lv_aload_n (pc := 53) hx hb dX2_numberHull_53 rfl (lv_at hl 1 rfl) ?_
        refine va_get (D := K.1) (ci := 2) (v := .ref (ad 24)) (C := RX2) (T := TX2) (N := 12) (pc := 54) hx hb hts inT2 hown hG.1 hP 0 rfl rfl 8 (by decide) (hts _ qf_Mesh_46) (fun _ h9 => h9) rfl dX2_numberHull_54 ?_
        refine lv_iconst (v := (0 : Int32)) (pc := 57) hx hb dX2_numberHull_57 (by decide) ?_
        refine rdV (pc := 58) (As := [.int (0 : Int32)]) (rest := [.int v4]) hx hb hml hown hts hG hP (c_Row_get l K (fun k => ad (k + 24)) 16 (by decide) (s_Row_set 16 hu nh x1) (0 : Int32)) [24, 25] rfl (q0 := 24) rfl (ci := 4) rfl g_Mesh_127 hd_Row_get rfl ⟨Nat.le_of_ble_eq_true rfl, Nat.le_of_ble_eq_true rfl⟩ ⟨Nat.zero_le _, Nat.zero_le _⟩ hl rfl (Nat.le_of_ble_eq_true rfl) dX2_numberHull_58 ?_
        refine lv_icmp_ne (tgt := 10) (pc := 61) hx hb dX2_numberHull_61 (by decide) (fun c5 => ?_) (fun c5 => ?_)
        · have h := it_f c5 h
          exact ih v4 (s_Row_set 16 hu nh x1) (nh + (1 : Int32)) out h H locs ls hP hD hS (lv_sub hl [1, 0] rfl) Kx 
        · have h := it_t c5 h
          refine lv_iconst (v := (-1 : Int32)) (pc := 64) hx hb dX2_numberHull_64 (by decide) ?_
          refine lv_istore_n (pc := 65) (lv' := [(1, .int (-1 : Int32)), (0, .ref (ad 0))]) hx hb dX2_numberHull_65 rfl hl (by decide) rfl (fun ls hl => ?_)
          refine lv_goto (tgt := 10) (pc := 66) hx hb dX2_numberHull_66 (by decide) ?_
          exact ih (-1 : Int32) (s_Row_set 16 hu nh x1) (nh + (1 : Int32)) out h H locs ls hP hD hS (lv_sub hl [1, 0] rfl) Kx 
set_option maxHeartbeats 4000000 in
set_option maxRecDepth 100000 in
theorem c_Mesh_numberHull (l : Launch) (K : KT) (ad : Nat → Nat) (pxs : Nat → Int32) (pys : Nat → Int32) (plo : Nat → Int32) (phi : Nat → Int32) (pn : Int32) (pm : Int32) (lf : Nat → Int32) (th : Nat → Int32) (ow : Nat → Int32) (lk : Nat → Int32) (el : Nat → Int32) (eh : Nat → Int32) (co : Nat → Int32) (hu : Nat → Int32) (ne : Int32) (nt : Int32) (nh : Int32) (F : Nat) {o : (Nat → Int32) × Int32} (h : s_Mesh_numberHull F pn th hu = some o) : Wr l K 3 yX2_numberHull cX2_numberHull 2 none [.ref (ad 0)] (wMesh K ad pxs pys plo phi pn pm lf th ow lk el eh co hu ne nt nh) none (wMesh K ad pxs pys plo phi pn pm lf th ow lk el eh co o.1 ne nt o.2) := by
  refine Wr.of (by decide +kernel) (Nat.le_of_ble_eq_true rfl) ?_
  unfold s_Mesh_numberHull at h
  intro p e s m below meth c hx hb hr hml hown hts hlk H locs hP hG hD hS ls hl
  have C0 : Ctx p m c cX2_numberHull 2 s (Array.mk [.ref (ad 0)]) RX2 K meth none := ⟨hx, hb, hml, hown, hts, hG, hr, hlk⟩
  have hl : lv_has ls 2 [(0, .ref (ad 0))] := hl
  refine lv_aload_n (pc := 0) hx hb dX2_numberHull_0 rfl (lv_at hl 0 rfl) ?_
  refine lv_iconst (v := (0 : Int32)) (pc := 1) hx hb dX2_numberHull_1 (by decide) ?_
  refine va_put (D := K.1) (ci := 2) (v := .int (0 : Int32)) (ty := .int) (C := RX2) (T := TX2) (N := 12) (pc := 2) hx hb hts inT2 tyX2 tyX2_ok nmX2 hown hG.1 hP hD hS 0 rfl rfl 11 (by decide) (hts _ qf_Mesh_56) (fun _ h9 => h9) rfl (by decide +kernel) rfl rfl (Nat.le_of_ble_eq_true rfl) dX2_numberHull_2 (fun H locs hP hD hS => ?_)
  have hP : va_P K.1 vC (wMesh K ad pxs pys plo phi pn pm lf th ow lk el eh co hu ne nt (0 : Int32)) H := hP
  have hD : va_D _ (wMesh K ad pxs pys plo phi pn pm lf th ow lk el eh co hu ne nt (0 : Int32)) := hD
  refine lv_aload_n (pc := 5) hx hb dX2_numberHull_5 rfl (lv_at hl 0 rfl) ?_
  obtain ⟨v1, h_v1, h⟩ := ob h
  refine rdV (pc := 6) (As := []) (rest := []) hx hb hml hown hts hG hP (c_Mesh_firstOnHull l K ad pxs pys plo phi pn pm lf th ow lk el eh co hu ne nt (0 : Int32) F h_v1) [0, 1, 2, 3, 4, 5, 6, 7, 8, 9, 10, 11, 12, 13, 14, 15, 16, 17, 18, 19, 20, 21, 22, 23, 24, 25] rfl (q0 := 0) rfl (ci := 2) rfl g_Mesh_176 hd_Mesh_firstOnHull rfl ⟨Nat.le_of_ble_eq_true rfl, Nat.le_of_ble_eq_true rfl⟩ ⟨Nat.zero_le _, Nat.zero_le _⟩ hl rfl (Nat.le_of_ble_eq_true rfl) dX2_numberHull_6 ?_
  refine lv_istore_n (pc := 9) (lv' := [(1, .int v1), (0, .ref (ad 0))]) hx hb dX2_numberHull_9 rfl hl (by decide) rfl (fun ls hl => ?_)
  obtain ⟨o6, h_o6, h⟩ := ob h
  refine l_Mesh_numberHull_L10 C0 F ad pxs pys plo phi pn pm lf th ow lk el eh co ne nt F v1 hu (0 : Int32) _ h_o6 H locs ls hP hD hS (lv_sub hl [1, 0] rfl) (fun o6x H locs ls eo hP hD hS hl => ?_)
  subst o6
  obtain rfl := Option.some.inj h
  exact W.vret hx hb hr (fun t ht hW => ⟨⟨rfl, by rw [ht]; exact hP⟩, hS.F ht⟩) hS.2.2 dX2_numberHull_69 hlk
set_option maxHeartbeats 4000000 in
set_option maxRecDepth 100000 in
theorem l_Mesh_draw_L16 {p : Program} {l : Launch} {e : Env} {s : State} {m : MethodId} {args : Array Value} {below : List Frame} {meth : Method} {c : Code} {Q : State → Prop} {K : KT} {A : Nat → Prop} (C0 : Ctx p m c cX2_draw 3 s args RX2 K meth none) (F : Nat) (ad : Nat → Nat) (pxs : Nat → Int32) (pys : Nat → Int32) (plo : Nat → Int32) (phi : Nat → Int32) (pn : Int32) (pm : Int32) (lf : Nat → Int32) (ow : Nat → Int32) (el : Nat → Int32) (eh : Nat → Int32) (co : Nat → Int32) (hu : Nat → Int32) (ne : Int32) (nt : Int32) (nh : Int32)  : ∀ (n : Nat) (x1 : Int32) (x2 : Int32) (th : Nat → Int32) (lk : Nat → Int32) (out : Int32 × Int32 × (Nat → Int32) × (Nat → Int32)), s_Mesh_draw_L16 F pxs pys plo phi pn pm n x1 x2 th lk = some out → ∀ (H : Heap) (locs : List Loc) (ls : Array Slot), va_P K.1 vC (wMesh K ad pxs pys plo phi pn pm lf th ow lk el eh co hu ne nt nh) H → va_D A (wMesh K ad pxs pys plo phi pn pm lf th ow lk el eh co hu ne nt nh) → va_S A s.heap H locs → lv_has ls 3 [(0, .ref (ad 0)), (1, .int x1), (2, .int x2)] → (∀ (o : Int32 × Int32 × (Nat → Int32) × (Nat → Int32)) (H : Heap) (locs : List Loc) (ls : Array Slot), out = o → va_P K.1 vC (wMesh K ad pxs pys plo phi pn pm lf o.2.2.1 ow o.2.2.2 el eh co hu ne nt nh) H → va_D A (wMesh K ad pxs pys plo phi pn pm lf o.2.2.1 ow o.2.2.2 el eh co hu ne nt nh) → va_S A s.heap H locs → lv_has ls 3 [(0, .ref (ad 0)), (1, .int o.1), (2, .int o.2.1)] → W p l e (rmL 6) s m args below meth c H locs 0 0 Q (F0 m 38 ls [])) → W p l e (rmL 6) s m args below meth c H locs 0 0 Q (F0 m 16 ls []) := by
  obtain ⟨hx, hb, hml, hown, hts, hG, hr, hlk⟩ := id C0
  intro n
  induction n with
  | zero =>
    intro x1 x2 th lk out h
    cases h
  | succ n ih =>
    intro x1 x2 th lk out h H locs ls hP hD hS hl Kx 
    rw [s_Mesh_draw_L16.eq_2] at h
    refine lv_iload_n (pc := 16) hx hb dX2_draw_16 rfl (lv_at hl 2 rfl) ?_
    refine lv_sipush (v := (1000 : Int32)) (pc := 17) hx hb dX2_draw_17 (by decide) ?_
    refine lv_icmp_ge (tgt := 38) (pc := 20) hx hb dX2_draw_20 (by decide) (fun c4 => ?_) (fun c4 => ?_)
    · have h := it_t c4 h
      obtain rfl := Option.some.inj h
      exact Kx _ H locs ls rfl hP hD hS (lv_sub hl [0, 1, 2] rfl)
    · have h := it_f c4 h
      refine lv_iload_n (pc := 23) hx hb dX2_draw_23 rfl (lv_at hl 1 rfl) ?_
      refine lv_if_eq (tgt := 38) (pc := 24) hx hb dX2_draw_24 (by decide) (fun c5 => ?_) (fun c5 => ?_)
      · have h := it_t c5 h
        obtain rfl := Option.some.inj h
        exact Kx _ H locs ls rfl hP hD hS (lv_sub hl [0, 1, 2] rfl)
      · have h := it_f c5 h
        refine lv_aload_n (pc := 27) hx hb dX2_draw_27 rfl (lv_at hl 0 rfl) ?_
        obtain ⟨v6, h_v6, h⟩ := ob h
        refine wrVi (pc := 28) (As := []) (rest := []) (ws2 := wMesh K ad pxs pys plo phi pn pm lf v6.2.1 ow v6.2.2 el eh co hu ne nt nh) (as9 := [ad 0, ad 1, ad 2, ad 3, ad 4, ad 5, ad 6, ad 7, ad 8, ad 9, ad 10, ad 11, ad 12, ad 13, ad 14, ad 15, ad 16, ad 17, ad 18, ad 19, ad 20, ad 21, ad 22, ad 23, ad 24, ad 25]) hx hb hml hown hts hG hP hD hS (c_Mesh_flipBadEdges l K ad pxs pys plo phi pn pm lf th ow lk el eh co hu ne nt nh F h_v6) [0, 1, 2, 3, 4, 5, 6, 7, 8, 9, 10, 11, 12, 13, 14, 15, 16, 17, 18, 19, 20, 21, 22, 23, 24, 25] rfl rfl rfl rfl [.inl 0, .inl 1, .inl 2, .inl 3, .inl 4, .inl 5, .inl 6, .inl 7, .inl 8, .inl 9, .inl 10, .inl 11, .inl 12, .inl 13, .inl 14, .inl 15, .inl 16, .inl 17, .inl 18, .inl 19, .inl 20, .inl 21, .inl 22, .inl 23, .inl 24, .inl 25] (by decide +kernel) rfl (q0 := 0) rfl (ci := 2) rfl g_Mesh_68 hd_Mesh_flipBadEdges rfl ⟨Nat.le_of_ble_eq_true rfl, Nat.le_of_ble_eq_true rfl⟩ ⟨Nat.zero_le _, Nat.zero_le _⟩ hl rfl (Nat.le_of_ble_eq_true rfl) dX2_draw_28 (fun H locs hP hD hS => ?_)
        refine lv_istore_n (pc := 31) (lv' := [(1, .int (bI v6.1)), (0, .ref (ad 0)), (2, .int x2)]) hx hb dX2_draw_31 rfl hl (by decide) rfl (fun ls hl => ?_)
        refine lv_iinc (v := (x2 + (1 : Int32))) (pc := 32) (lv' := [(2, .int (x2 + (1 : Int32))), (1, .int (bI v6.1)), (0, .ref (ad 0))]) hx hb dX2_draw_32 hl (k := 2) rfl rfl (by decide) rfl (fun ls hl => ?_)
        refine lv_goto (tgt := 16) (pc := 35) hx hb dX2_draw_35 (by decide) ?_
        exact ih (bI v6.1) (x2 + (1 : Int32)) v6.2.1 v6.2.2 out h H locs ls hP hD hS (lv_sub hl [2, 1, 0] rfl) Kx 
set_option maxHeartbeats 4000000 in
set_option maxRecDepth 100000 in
theorem c_Mesh_draw (l : Launch) (K : KT) (ad : Nat → Nat) (pxs : Nat → Int32) (pys : Nat → Int32) (plo : Nat → Int32) (phi : Nat → Int32) (pn : Int32) (pm : Int32) (lf : Nat → Int32) (th : Nat → Int32) (ow : Nat → Int32) (lk : Nat → Int32) (el : Nat → Int32) (eh : Nat → Int32) (co : Nat → Int32) (hu : Nat → Int32) (ne : Int32) (nt : Int32) (nh : Int32) (F : Nat) {o : (Nat → Int32) × (Nat → Int32) × (Nat → Int32) × (Nat → Int32) × (Nat → Int32) × (Nat → Int32) × (Nat → Int32) × (Nat → Int32) × Int32 × Int32 × Int32} (h : s_Mesh_draw F pxs pys plo phi pn pm lf th ow lk el eh co hu = some o) : Wr l K 6 yX2_draw cX2_draw 3 none [.ref (ad 0)] (wMesh K ad pxs pys plo phi pn pm lf th ow lk el eh co hu ne nt nh) none (wMesh K ad pxs pys plo phi pn pm o.1 o.2.1 o.2.2.1 o.2.2.2.1 o.2.2.2.2.1 o.2.2.2.2.2.1 o.2.2.2.2.2.2.1 o.2.2.2.2.2.2.2.1 o.2.2.2.2.2.2.2.2.1 o.2.2.2.2.2.2.2.2.2.1 o.2.2.2.2.2.2.2.2.2.2) := by
  refine Wr.of (by decide +kernel) (Nat.le_of_ble_eq_true rfl) ?_
  unfold s_Mesh_draw at h
  intro p e s m below meth c hx hb hr hml hown hts hlk H locs hP hG hD hS ls hl
  have C0 : Ctx p m c cX2_draw 3 s (Array.mk [.ref (ad 0)]) RX2 K meth none := ⟨hx, hb, hml, hown, hts, hG, hr, hlk⟩
  have hl : lv_has ls 3 [(0, .ref (ad 0))] := hl
  refine lv_aload_n (pc := 0) hx hb dX2_draw_0 rfl (lv_at hl 0 rfl) ?_
  obtain ⟨v1, h_v1, h⟩ := ob h
  refine wrVv (pc := 1) (As := []) (rest := []) (ws2 := wMesh K ad pxs pys plo phi pn pm v1 th ow lk el eh co hu ne nt nh) (as9 := [ad 0, ad 1, ad 2, ad 3, ad 4, ad 5, ad 6, ad 7, ad 8, ad 9, ad 10, ad 11, ad 12, ad 13, ad 14, ad 15, ad 16, ad 17, ad 18, ad 19, ad 20, ad 21, ad 22, ad 23, ad 24, ad 25]) hx hb hml hown hts hG hP hD hS (c_Mesh_findSides l K ad pxs pys plo phi pn pm lf th ow lk el eh co hu ne nt nh F h_v1) [0, 1, 2, 3, 4, 5, 6, 7, 8, 9, 10, 11, 12, 13, 14, 15, 16, 17, 18, 19, 20, 21, 22, 23, 24, 25] rfl rfl rfl rfl [.inl 0, .inl 1, .inl 2, .inl 3, .inl 4, .inl 5, .inl 6, .inl 7, .inl 8, .inl 9, .inl 10, .inl 11, .inl 12, .inl 13, .inl 14, .inl 15, .inl 16, .inl 17, .inl 18, .inl 19, .inl 20, .inl 21, .inl 22, .inl 23, .inl 24, .inl 25] (by decide +kernel) rfl (q0 := 0) rfl (ci := 2) rfl g_Mesh_59 hd_Mesh_findSides rfl ⟨Nat.le_of_ble_eq_true rfl, Nat.le_of_ble_eq_true rfl⟩ ⟨Nat.zero_le _, Nat.zero_le _⟩ hl rfl (Nat.le_of_ble_eq_true rfl) dX2_draw_1 (fun H locs hP hD hS => ?_)
  refine lv_aload_n (pc := 4) hx hb dX2_draw_4 rfl (lv_at hl 0 rfl) ?_
  obtain ⟨v2, h_v2, h⟩ := ob h
  refine wrVv (pc := 5) (As := []) (rest := []) (ws2 := wMesh K ad pxs pys plo phi pn pm v1 th ow v2.1 v2.2.1 v2.2.2.1 co hu v2.2.2.2 nt nh) (as9 := [ad 0, ad 1, ad 2, ad 3, ad 4, ad 5, ad 6, ad 7, ad 8, ad 9, ad 10, ad 11, ad 12, ad 13, ad 14, ad 15, ad 16, ad 17, ad 18, ad 19, ad 20, ad 21, ad 22, ad 23, ad 24, ad 25]) hx hb hml hown hts hG hP hD hS (c_Mesh_drawSomeEdges l K ad pxs pys plo phi pn pm v1 th ow lk el eh co hu ne nt nh F h_v2) [0, 1, 2, 3, 4, 5, 6, 7, 8, 9, 10, 11, 12, 13, 14, 15, 16, 17, 18, 19, 20, 21, 22, 23, 24, 25] rfl rfl rfl rfl [.inl 0, .inl 1, .inl 2, .inl 3, .inl 4, .inl 5, .inl 6, .inl 7, .inl 8, .inl 9, .inl 10, .inl 11, .inl 12, .inl 13, .inl 14, .inl 15, .inl 16, .inl 17, .inl 18, .inl 19, .inl 20, .inl 21, .inl 22, .inl 23, .inl 24, .inl 25] (by decide +kernel) rfl (q0 := 0) rfl (ci := 2) rfl g_Mesh_62 hd_Mesh_drawSomeEdges rfl ⟨Nat.le_of_ble_eq_true rfl, Nat.le_of_ble_eq_true rfl⟩ ⟨Nat.zero_le _, Nat.zero_le _⟩ hl rfl (Nat.le_of_ble_eq_true rfl) dX2_draw_5 (fun H locs hP hD hS => ?_)
  refine lv_aload_n (pc := 8) hx hb dX2_draw_8 rfl (lv_at hl 0 rfl) ?_
  obtain ⟨v3, h_v3, h⟩ := ob h
  refine wrVv (pc := 9) (As := []) (rest := []) (ws2 := wMesh K ad pxs pys plo phi pn pm v1 v3 ow v2.1 v2.2.1 v2.2.2.1 co hu v2.2.2.2 nt nh) (as9 := [ad 0, ad 1, ad 2, ad 3, ad 4, ad 5, ad 6, ad 7, ad 8, ad 9, ad 10, ad 11, ad 12, ad 13, ad 14, ad 15, ad 16, ad 17, ad 18, ad 19, ad 20, ad 21, ad 22, ad 23, ad 24, ad 25]) hx hb hml hown hts hG hP hD hS (c_Mesh_findThirds l K ad pxs pys plo phi pn pm v1 th ow v2.1 v2.2.1 v2.2.2.1 co hu v2.2.2.2 nt nh F h_v3) [0, 1, 2, 3, 4, 5, 6, 7, 8, 9, 10, 11, 12, 13, 14, 15, 16, 17, 18, 19, 20, 21, 22, 23, 24, 25] rfl rfl rfl rfl [.inl 0, .inl 1, .inl 2, .inl 3, .inl 4, .inl 5, .inl 6, .inl 7, .inl 8, .inl 9, .inl 10, .inl 11, .inl 12, .inl 13, .inl 14, .inl 15, .inl 16, .inl 17, .inl 18, .inl 19, .inl 20, .inl 21, .inl 22, .inl 23, .inl 24, .inl 25] (by decide +kernel) rfl (q0 := 0) rfl (ci := 2) rfl g_Mesh_65 hd_Mesh_findThirds rfl ⟨Nat.le_of_ble_eq_true rfl, Nat.le_of_ble_eq_true rfl⟩ ⟨Nat.zero_le _, Nat.zero_le _⟩ hl rfl (Nat.le_of_ble_eq_true rfl) dX2_draw_9 (fun H locs hP hD hS => ?_)
  refine lv_iconst (v := (1 : Int32)) (pc := 12) hx hb dX2_draw_12 (by decide) ?_
  refine lv_istore_n (pc := 13) (lv' := [(1, .int (1 : Int32)), (0, .ref (ad 0))]) hx hb dX2_draw_13 rfl hl (by decide) rfl (fun ls hl => ?_)
  refine lv_iconst (v := (0 : Int32)) (pc := 14) hx hb dX2_draw_14 (by decide) ?_
  refine lv_istore_n (pc := 15) (lv' := [(2, .int (0 : Int32)), (1, .int (1 : Int32)), (0, .ref (ad 0))]) hx hb dX2_draw_15 rfl hl (by decide) rfl (fun ls hl => ?_)
  obtain ⟨o7, h_o7, h⟩ := ob h
  refine l_Mesh_draw_L16 C0 F ad pxs pys plo phi pn pm v1 ow v2.2.1 v2.2.2.1 co hu v2.2.2.2 nt nh F (1 : Int32) (0 : Int32) v3 v2.1 _ h_o7 H locs ls hP hD hS (lv_sub hl [2, 1, 0] rfl) (fun o7x H locs ls eo hP hD hS hl => ?_)
  subst o7
  refine lv_aload_n (pc := 38) hx hb dX2_draw_38 rfl (lv_at hl 0 rfl) ?_
  obtain ⟨v8, h_v8, h⟩ := ob h
  refine wrVv (pc := 39) (As := []) (rest := []) (ws2 := wMesh K ad pxs pys plo phi pn pm v1 o7x.2.2.1 ow o7x.2.2.2 v8.1 v8.2.1 co hu v8.2.2 nt nh) (as9 := [ad 0, ad 1, ad 2, ad 3, ad 4, ad 5, ad 6, ad 7, ad 8, ad 9, ad 10, ad 11, ad 12, ad 13, ad 14, ad 15, ad 16, ad 17, ad 18, ad 19, ad 20, ad 21, ad 22, ad 23, ad 24, ad 25]) hx hb hml hown hts hG hP hD hS (c_Mesh_numberEdges l K ad pxs pys plo phi pn pm v1 o7x.2.2.1 ow o7x.2.2.2 v2.2.1 v2.2.2.1 co hu v2.2.2.2 nt nh F h_v8) [0, 1, 2, 3, 4, 5, 6, 7, 8, 9, 10, 11, 12, 13, 14, 15, 16, 17, 18, 19, 20, 21, 22, 23, 24, 25] rfl rfl rfl rfl [.inl 0, .inl 1, .inl 2, .inl 3, .inl 4, .inl 5, .inl 6, .inl 7, .inl 8, .inl 9, .inl 10, .inl 11, .inl 12, .inl 13, .inl 14, .inl 15, .inl 16, .inl 17, .inl 18, .inl 19, .inl 20, .inl 21, .inl 22, .inl 23, .inl 24, .inl 25] (by decide +kernel) rfl (q0 := 0) rfl (ci := 2) rfl g_Mesh_72 hd_Mesh_numberEdges rfl ⟨Nat.le_of_ble_eq_true rfl, Nat.le_of_ble_eq_true rfl⟩ ⟨Nat.zero_le _, Nat.zero_le _⟩ hl rfl (Nat.le_of_ble_eq_true rfl) dX2_draw_39 (fun H locs hP hD hS => ?_)
  refine lv_aload_n (pc := 42) hx hb dX2_draw_42 rfl (lv_at hl 0 rfl) ?_
  obtain ⟨v9, h_v9, h⟩ := ob h
  refine wrVv (pc := 43) (As := []) (rest := []) (ws2 := wMesh K ad pxs pys plo phi pn pm v1 o7x.2.2.1 v9.1 o7x.2.2.2 v8.1 v8.2.1 v9.2.1 hu v8.2.2 v9.2.2 nh) (as9 := [ad 0, ad 1, ad 2, ad 3, ad 4, ad 5, ad 6, ad 7, ad 8, ad 9, ad 10, ad 11, ad 12, ad 13, ad 14, ad 15, ad 16, ad 17, ad 18, ad 19, ad 20, ad 21, ad 22, ad 23, ad 24, ad 25]) hx hb hml hown hts hG hP hD hS (c_Mesh_numberTriangles l K ad pxs pys plo phi pn pm v1 o7x.2.2.1 ow o7x.2.2.2 v8.1 v8.2.1 co hu v8.2.2 nt nh F h_v9) [0, 1, 2, 3, 4, 5, 6, 7, 8, 9, 10, 11, 12, 13, 14, 15, 16, 17, 18, 19, 20, 21, 22, 23, 24, 25] rfl rfl rfl rfl [.inl 0, .inl 1, .inl 2, .inl 3, .inl 4, .inl 5, .inl 6, .inl 7, .inl 8, .inl 9, .inl 10, .inl 11, .inl 12, .inl 13, .inl 14, .inl 15, .inl 16, .inl 17, .inl 18, .inl 19, .inl 20, .inl 21, .inl 22, .inl 23, .inl 24, .inl 25] (by decide +kernel) rfl (q0 := 0) rfl (ci := 2) rfl g_Mesh_75 hd_Mesh_numberTriangles rfl ⟨Nat.le_of_ble_eq_true rfl, Nat.le_of_ble_eq_true rfl⟩ ⟨Nat.zero_le _, Nat.zero_le _⟩ hl rfl (Nat.le_of_ble_eq_true rfl) dX2_draw_43 (fun H locs hP hD hS => ?_)
  refine lv_aload_n (pc := 46) hx hb dX2_draw_46 rfl (lv_at hl 0 rfl) ?_
  obtain ⟨v10, h_v10, h⟩ := ob h
  refine wrVv (pc := 47) (As := []) (rest := []) (ws2 := wMesh K ad pxs pys plo phi pn pm v1 o7x.2.2.1 v9.1 o7x.2.2.2 v8.1 v8.2.1 v9.2.1 v10.1 v8.2.2 v9.2.2 v10.2) (as9 := [ad 0, ad 1, ad 2, ad 3, ad 4, ad 5, ad 6, ad 7, ad 8, ad 9, ad 10, ad 11, ad 12, ad 13, ad 14, ad 15, ad 16, ad 17, ad 18, ad 19, ad 20, ad 21, ad 22, ad 23, ad 24, ad 25]) hx hb hml hown hts hG hP hD hS (c_Mesh_numberHull l K ad pxs pys plo phi pn pm v1 o7x.2.2.1 v9.1 o7x.2.2.2 v8.1 v8.2.1 v9.2.1 hu v8.2.2 v9.2.2 nh F h_v10) [0, 1, 2, 3, 4, 5, 6, 7, 8, 9, 10, 11, 12, 13, 14, 15, 16, 17, 18, 19, 20, 21, 22, 23, 24, 25] rfl rfl rfl rfl [.inl 0, .inl 1, .inl 2, .inl 3, .inl 4, .inl 5, .inl 6, .inl 7, .inl 8, .inl 9, .inl 10, .inl 11, .inl 12, .inl 13, .inl 14, .inl 15, .inl 16, .inl 17, .inl 18, .inl 19, .inl 20, .inl 21, .inl 22, .inl 23, .inl 24, .inl 25] (by decide +kernel) rfl (q0 := 0) rfl (ci := 2) rfl g_Mesh_78 hd_Mesh_numberHull rfl ⟨Nat.le_of_ble_eq_true rfl, Nat.le_of_ble_eq_true rfl⟩ ⟨Nat.zero_le _, Nat.zero_le _⟩ hl rfl (Nat.le_of_ble_eq_true rfl) dX2_draw_47 (fun H locs hP hD hS => ?_)
  obtain rfl := Option.some.inj h
  exact W.vret hx hb hr (fun t ht hW => ⟨⟨rfl, by rw [ht]; exact hP⟩, hS.F ht⟩) hS.2.2 dX2_draw_50 hlk
set_option maxHeartbeats 4000000 in
set_option maxRecDepth 100000 in
theorem c_Mesh_triangles (l : Launch) (K : KT) (ad : Nat → Nat) (pxs : Nat → Int32) (pys : Nat → Int32) (plo : Nat → Int32) (phi : Nat → Int32) (pn : Int32) (pm : Int32) (lf : Nat → Int32) (th : Nat → Int32) (ow : Nat → Int32) (lk : Nat → Int32) (el : Nat → Int32) (eh : Nat → Int32) (co : Nat → Int32) (hu : Nat → Int32) (ne : Int32) (nt : Int32) (nh : Int32) : Rd l K 0 yX2_triangles cX2_triangles 1 .int [.ref (ad 0)] (wMesh K ad pxs pys plo phi pn pm lf th ow lk el eh co hu ne nt nh) (s_Mesh_triangles nt) := by
  generalize h : s_Mesh_triangles nt = o
  refine Rd.of (by decide +kernel) (Nat.le_of_ble_eq_true rfl) ?_
  unfold s_Mesh_triangles at h
  intro p e s m below meth c hx hb hr hml hown hts hlk hP hG ls hl
  have C0 : Ctx p m c cX2_triangles 1 s (Array.mk [.ref (ad 0)]) RX2 K meth (some .int) := ⟨hx, hb, hml, hown, hts, hG, hr, hlk⟩
  have hl : lv_has ls 1 [(0, .ref (ad 0))] := hl
  refine lv_aload_n (pc := 0) hx hb dX2_triangles_0 rfl (lv_at hl 0 rfl) ?_
  refine va_get (D := K.1) (ci := 2) (v := .int nt) (C := RX2) (T := TX2) (N := 12) (pc := 1) hx hb hts inT2 hown hG.1 hP 0 rfl rfl 10 (by decide) (hts _ qf_Mesh_53) (fun _ h9 => h9) rfl dX2_triangles_1 ?_
  subst h
  exact W.iret hx hb hr (fun t ht hW => ⟨rfl, ht⟩) (fun q hq => absurd hq List.not_mem_nil) dX2_triangles_4 hlk
set_option maxHeartbeats 4000000 in
set_option maxRecDepth 100000 in
theorem c_Mesh_edges (l : Launch) (K : KT) (ad : Nat → Nat) (pxs : Nat → Int32) (pys : Nat → Int32) (plo : Nat → Int32) (phi : Nat → Int32) (pn : Int32) (pm : Int32) (lf : Nat → Int32) (th : Nat → Int32) (ow : Nat → Int32) (lk : Nat → Int32) (el : Nat → Int32) (eh : Nat → Int32) (co : Nat → Int32) (hu : Nat → Int32) (ne : Int32) (nt : Int32) (nh : Int32) : Rd l K 0 yX2_edges cX2_edges 1 .int [.ref (ad 0)] (wMesh K ad pxs pys plo phi pn pm lf th ow lk el eh co hu ne nt nh) (s_Mesh_edges ne) := by
  generalize h : s_Mesh_edges ne = o
  refine Rd.of (by decide +kernel) (Nat.le_of_ble_eq_true rfl) ?_
  unfold s_Mesh_edges at h
  intro p e s m below meth c hx hb hr hml hown hts hlk hP hG ls hl
  have C0 : Ctx p m c cX2_edges 1 s (Array.mk [.ref (ad 0)]) RX2 K meth (some .int) := ⟨hx, hb, hml, hown, hts, hG, hr, hlk⟩
  have hl : lv_has ls 1 [(0, .ref (ad 0))] := hl
  refine lv_aload_n (pc := 0) hx hb dX2_edges_0 rfl (lv_at hl 0 rfl) ?_
  refine va_get (D := K.1) (ci := 2) (v := .int ne) (C := RX2) (T := TX2) (N := 12) (pc := 1) hx hb hts inT2 hown hG.1 hP 0 rfl rfl 9 (by decide) (hts _ qf_Mesh_49) (fun _ h9 => h9) rfl dX2_edges_1 ?_
  subst h
  exact W.iret hx hb hr (fun t ht hW => ⟨rfl, ht⟩) (fun q hq => absurd hq List.not_mem_nil) dX2_edges_4 hlk
set_option maxHeartbeats 4000000 in
set_option maxRecDepth 100000 in
theorem c_Mesh_hullPoints (l : Launch) (K : KT) (ad : Nat → Nat) (pxs : Nat → Int32) (pys : Nat → Int32) (plo : Nat → Int32) (phi : Nat → Int32) (pn : Int32) (pm : Int32) (lf : Nat → Int32) (th : Nat → Int32) (ow : Nat → Int32) (lk : Nat → Int32) (el : Nat → Int32) (eh : Nat → Int32) (co : Nat → Int32) (hu : Nat → Int32) (ne : Int32) (nt : Int32) (nh : Int32) : Rd l K 0 yX2_hullPoints cX2_hullPoints 1 .int [.ref (ad 0)] (wMesh K ad pxs pys plo phi pn pm lf th ow lk el eh co hu ne nt nh) (s_Mesh_hullPoints nh) := by
  generalize h : s_Mesh_hullPoints nh = o
  refine Rd.of (by decide +kernel) (Nat.le_of_ble_eq_true rfl) ?_
  unfold s_Mesh_hullPoints at h
  intro p e s m below meth c hx hb hr hml hown hts hlk hP hG ls hl
  have C0 : Ctx p m c cX2_hullPoints 1 s (Array.mk [.ref (ad 0)]) RX2 K meth (some .int) := ⟨hx, hb, hml, hown, hts, hG, hr, hlk⟩
  have hl : lv_has ls 1 [(0, .ref (ad 0))] := hl
  refine lv_aload_n (pc := 0) hx hb dX2_hullPoints_0 rfl (lv_at hl 0 rfl) ?_
  refine va_get (D := K.1) (ci := 2) (v := .int nh) (C := RX2) (T := TX2) (N := 12) (pc := 1) hx hb hts inT2 hown hG.1 hP 0 rfl rfl 11 (by decide) (hts _ qf_Mesh_56) (fun _ h9 => h9) rfl dX2_hullPoints_1 ?_
  subst h
  exact W.iret hx hb hr (fun t ht hW => ⟨rfl, ht⟩) (fun q hq => absurd hq List.not_mem_nil) dX2_hullPoints_4 hlk
set_option maxHeartbeats 4000000 in
set_option maxRecDepth 100000 in
theorem c_Mesh_hullPointAt (l : Launch) (K : KT) (ad : Nat → Nat) (pxs : Nat → Int32) (pys : Nat → Int32) (plo : Nat → Int32) (phi : Nat → Int32) (pn : Int32) (pm : Int32) (lf : Nat → Int32) (th : Nat → Int32) (ow : Nat → Int32) (lk : Nat → Int32) (el : Nat → Int32) (eh : Nat → Int32) (co : Nat → Int32) (hu : Nat → Int32) (ne : Int32) (nt : Int32) (nh : Int32) (a0 : Int32) : Rd l K 1 yX2_hullPointAt cX2_hullPointAt 2 .int [.ref (ad 0), .int a0] (wMesh K ad pxs pys plo phi pn pm lf th ow lk el eh co hu ne nt nh) (s_Mesh_hullPointAt hu a0) := by
  generalize h : s_Mesh_hullPointAt hu a0 = o
  refine Rd.of (by decide +kernel) (Nat.le_of_ble_eq_true rfl) ?_
  unfold s_Mesh_hullPointAt at h
  intro p e s m below meth c hx hb hr hml hown hts hlk hP hG ls hl
  have C0 : Ctx p m c cX2_hullPointAt 2 s (Array.mk [.ref (ad 0), .int a0]) RX2 K meth (some .int) := ⟨hx, hb, hml, hown, hts, hG, hr, hlk⟩
  have hl : lv_has ls 2 [(0, .ref (ad 0)), (1, .int a0)] := hl
  refine lv_aload_n (pc := 0) hx hb dX2_hullPointAt_0 rfl (lv_at hl 0 rfl) ?_
  refine va_get (D := K.1) (ci := 2) (v := .ref (ad 24)) (C := RX2) (T := TX2) (N := 12) (pc := 1) hx hb hts inT2 hown hG.1 hP 0 rfl rfl 8 (by decide) (hts _ qf_Mesh_46) (fun _ h9 => h9) rfl dX2_hullPointAt_1 ?_
  refine lv_iload_n (pc := 4) hx hb dX2_hullPointAt_4 rfl (lv_at hl 1 rfl) ?_
  refine rdV (pc := 5) (As := [.int a0]) (rest := []) hx hb hml hown hts hG hP (c_Row_get l K (fun k => ad (k + 24)) 16 (by decide) hu a0) [24, 25] rfl (q0 := 24) rfl (ci := 4) rfl g_Mesh_127 hd_Row_get rfl ⟨Nat.le_of_ble_eq_true rfl, Nat.le_of_ble_eq_true rfl⟩ ⟨Nat.zero_le _, Nat.zero_le _⟩ hl rfl (Nat.le_of_ble_eq_true rfl) dX2_hullPointAt_5 ?_
  subst h
  exact W.iret hx hb hr (fun t ht hW => ⟨rfl, ht⟩) (fun q hq => absurd hq List.not_mem_nil) dX2_hullPointAt_8 hlk
set_option maxHeartbeats 4000000 in
set_option maxRecDepth 100000 in
theorem c_Mesh_cornerOf (l : Launch) (K : KT) (ad : Nat → Nat) (pxs : Nat → Int32) (pys : Nat → Int32) (plo : Nat → Int32) (phi : Nat → Int32) (pn : Int32) (pm : Int32) (lf : Nat → Int32) (th : Nat → Int32) (ow : Nat → Int32) (lk : Nat → Int32) (el : Nat → Int32) (eh : Nat → Int32) (co : Nat → Int32) (hu : Nat → Int32) (ne : Int32) (nt : Int32) (nh : Int32) (a0 : Int32) (a1 : Int32) : Rd l K 1 yX2_cornerOf cX2_cornerOf 3 .int [.ref (ad 0), .int a0, .int a1] (wMesh K ad pxs pys plo phi pn pm lf th ow lk el eh co hu ne nt nh) (s_Mesh_cornerOf co a0 a1) := by
  generalize h : s_Mesh_cornerOf co a0 a1 = o
  refine Rd.of (by decide +kernel) (Nat.le_of_ble_eq_true rfl) ?_
  unfold s_Mesh_cornerOf at h
  intro p e s m below meth c hx hb hr hml hown hts hlk hP hG ls hl
  have C0 : Ctx p m c cX2_cornerOf 3 s (Array.mk [.ref (ad 0), .int a0, .int a1]) RX2 K meth (some .int) := ⟨hx, hb, hml, hown, hts, hG, hr, hlk⟩
  have hl : lv_has ls 3 [(0, .ref (ad 0)), (1, .int a0), (2, .int a1)] := hl
  refine lv_aload_n (pc := 0) hx hb dX2_cornerOf_0 rfl (lv_at hl 0 rfl) ?_
  refine va_get (D := K.1) (ci := 2) (v := .ref (ad 22)) (C := RX2) (T := TX2) (N := 12) (pc := 1) hx hb hts inT2 hown hG.1 hP 0 rfl rfl 7 (by decide) (hts _ qf_Mesh_43) (fun _ h9 => h9) rfl dX2_cornerOf_1 ?_
  refine lv_iconst (v := (3 : Int32)) (pc := 4) hx hb dX2_cornerOf_4 (by decide) ?_
  refine lv_iload_n (pc := 5) hx hb dX2_cornerOf_5 rfl (lv_at hl 1 rfl) ?_
  refine lv_imul (pc := 6) hx hb dX2_cornerOf_6 ?_
  refine lv_iload_n (pc := 7) hx hb dX2_cornerOf_7 rfl (lv_at hl 2 rfl) ?_
  refine lv_iadd (pc := 8) hx hb dX2_cornerOf_8 ?_
  refine rdV (pc := 9) (As := [.int (((3 : Int32) * a0) + a1)]) (rest := []) hx hb hml hown hts hG hP (c_Row_get l K (fun k => ad (k + 22)) 81 (by decide) co (((3 : Int32) * a0) + a1)) [22, 23] rfl (q0 := 22) rfl (ci := 4) rfl g_Mesh_127 hd_Row_get rfl ⟨Nat.le_of_ble_eq_true rfl, Nat.le_of_ble_eq_true rfl⟩ ⟨Nat.zero_le _, Nat.zero_le _⟩ hl rfl (Nat.le_of_ble_eq_true rfl) dX2_cornerOf_9 ?_
  subst h
  exact W.iret hx hb hr (fun t ht hW => ⟨rfl, ht⟩) (fun q hq => absurd hq List.not_mem_nil) dX2_cornerOf_12 hlk
set_option maxHeartbeats 4000000 in
set_option maxRecDepth 100000 in
theorem c_Mesh_cornerAfter (l : Launch) (K : KT) (ad : Nat → Nat) (pxs : Nat → Int32) (pys : Nat → Int32) (plo : Nat → Int32) (phi : Nat → Int32) (pn : Int32) (pm : Int32) (lf : Nat → Int32) (th : Nat → Int32) (ow : Nat → Int32) (lk : Nat → Int32) (el : Nat → Int32) (eh : Nat → Int32) (co : Nat → Int32) (hu : Nat → Int32) (ne : Int32) (nt : Int32) (nh : Int32) (a0 : Int32) (a1 : Int32) : Rd l K 2 yX2_cornerAfter cX2_cornerAfter 3 .int [.ref (ad 0), .int a0, .int a1] (wMesh K ad pxs pys plo phi pn pm lf th ow lk el eh co hu ne nt nh) (s_Mesh_cornerAfter co a0 a1) := by
  generalize h : s_Mesh_cornerAfter co a0 a1 = o
  refine Rd.of (by decide +kernel) (Nat.le_of_ble_eq_true rfl) ?_
  unfold s_Mesh_cornerAfter at h
  intro p e s m below meth c hx hb hr hml hown hts hlk hP hG ls hl
  have C0 : Ctx p m c cX2_cornerAfter 3 s (Array.mk [.ref (ad 0), .int a0, .int a1]) RX2 K meth (some .int) := ⟨hx, hb, hml, hown, hts, hG, hr, hlk⟩
  have hl : lv_has ls 3 [(0, .ref (ad 0)), (1, .int a0), (2, .int a1)] := hl
  refine lv_aload_n (pc := 0) hx hb dX2_cornerAfter_0 rfl (lv_at hl 0 rfl) ?_
  refine lv_iload_n (pc := 1) hx hb dX2_cornerAfter_1 rfl (lv_at hl 1 rfl) ?_
  refine lv_iload_n (pc := 2) hx hb dX2_cornerAfter_2 rfl (lv_at hl 2 rfl) ?_
  refine lv_iconst (v := (2 : Int32)) (pc := 3) hx hb dX2_cornerAfter_3 (by decide) ?_
  refine lv_icmp_ne (tgt := 11) (pc := 4) hx hb dX2_cornerAfter_4 (by decide) (fun c1 => ?_) (fun c1 => ?_)
  · have h := it_f c1 h
    refine lv_iload_n (pc := 11) hx hb dX2_cornerAfter_11 rfl (lv_at hl 2 rfl) ?_
    refine lv_iconst (v := (1 : Int32)) (pc := 12) hx hb dX2_cornerAfter_12 (by decide) ?_
    refine lv_iadd (pc := 13) hx hb dX2_cornerAfter_13 ?_
    refine rdV (pc := 14) (As := [.int a0, .int (a1 + (1 : Int32))]) (rest := []) hx hb hml hown hts hG hP (c_Mesh_cornerOf l K ad pxs pys plo phi pn pm lf th ow lk el eh co hu ne nt nh a0 (a1 + (1 : Int32))) [0, 1, 2, 3, 4, 5, 6, 7, 8, 9, 10, 11, 12, 13, 14, 15, 16, 17, 18, 19, 20, 21, 22, 23, 24, 25] rfl (q0 := 0) rfl (ci := 2) rfl g_Mesh_182 hd_Mesh_cornerOf rfl ⟨Nat.le_of_ble_eq_true rfl, Nat.le_of_ble_eq_true rfl⟩ ⟨Nat.zero_le _, Nat.zero_le _⟩ hl rfl (Nat.le_of_ble_eq_true rfl) dX2_cornerAfter_14 ?_
    subst h
    exact W.iret hx hb hr (fun t ht hW => ⟨rfl, ht⟩) (fun q hq => absurd hq List.not_mem_nil) dX2_cornerAfter_17 hlk
  · have h := it_t c1 h
    refine lv_iconst (v := (0 : Int32)) (pc := 7) hx hb dX2_cornerAfter_7 (by decide) ?_
    refine lv_goto (tgt := 14) (pc := 8) hx hb dX2_cornerAfter_8 (by decide) ?_
    refine rdV (pc := 14) (As := [.int a0, .int (0 : Int32)]) (rest := []) hx hb hml hown hts hG hP (c_Mesh_cornerOf l K ad pxs pys plo phi pn pm lf th ow lk el eh co hu ne nt nh a0 (0 : Int32)) [0, 1, 2, 3, 4, 5, 6, 7, 8, 9, 10, 11, 12, 13, 14, 15, 16, 17, 18, 19, 20, 21, 22, 23, 24, 25] rfl (q0 := 0) rfl (ci := 2) rfl g_Mesh_182 hd_Mesh_cornerOf rfl ⟨Nat.le_of_ble_eq_true rfl, Nat.le_of_ble_eq_true rfl⟩ ⟨Nat.zero_le _, Nat.zero_le _⟩ hl rfl (Nat.le_of_ble_eq_true rfl) dX2_cornerAfter_14 ?_
    subst h
    exact W.iret hx hb hr (fun t ht hW => ⟨rfl, ht⟩) (fun q hq => absurd hq List.not_mem_nil) dX2_cornerAfter_17 hlk
set_option maxHeartbeats 4000000 in
set_option maxRecDepth 100000 in
theorem c_Mesh_hasTriangle (l : Launch) (K : KT) (ad : Nat → Nat) (pxs : Nat → Int32) (pys : Nat → Int32) (plo : Nat → Int32) (phi : Nat → Int32) (pn : Int32) (pm : Int32) (lf : Nat → Int32) (th : Nat → Int32) (ow : Nat → Int32) (lk : Nat → Int32) (el : Nat → Int32) (eh : Nat → Int32) (co : Nat → Int32) (hu : Nat → Int32) (ne : Int32) (nt : Int32) (nh : Int32) (a0 : Int32) (a1 : Int32) (a2 : Int32) : Rd l K 1 yX2_hasTriangle cX2_hasTriangle 4 .boolean [.ref (ad 0), .int a0, .int a1, .int a2] (wMesh K ad pxs pys plo phi pn pm lf th ow lk el eh co hu ne nt nh) (bI (s_Mesh_hasTriangle th a0 a1 a2)) := by
  generalize h : s_Mesh_hasTriangle th a0 a1 a2 = o
  refine Rd.of (by decide +kernel) (Nat.le_of_ble_eq_true rfl) ?_
  unfold s_Mesh_hasTriangle at h
  intro p e s m below meth c hx hb hr hml hown hts hlk hP hG ls hl
  have C0 : Ctx p m c cX2_hasTriangle 4 s (Array.mk [.ref (ad 0), .int a0, .int a1, .int a2]) RX2 K meth (some .boolean) := ⟨hx, hb, hml, hown, hts, hG, hr, hlk⟩
  have hl : lv_has ls 4 [(0, .ref (ad 0)), (1, .int a0), (2, .int a1), (3, .int a2)] := hl
  refine lv_aload_n (pc := 0) hx hb dX2_hasTriangle_0 rfl (lv_at hl 0 rfl) ?_
  refine va_get (D := K.1) (ci := 2) (v := .ref (ad 12)) (C := RX2) (T := TX2) (N := 12) (pc := 1) hx hb hts inT2 hown hG.1 hP 0 rfl rfl 2 (by decide) (hts _ qf_Mesh_24) (fun _ h9 => h9) rfl dX2_hasTriangle_1 ?_
  refine lv_iload_n (pc := 4) hx hb dX2_hasTriangle_4 rfl (lv_at hl 1 rfl) ?_
  refine lv_iload_n (pc := 5) hx hb dX2_hasTriangle_5 rfl (lv_at hl 2 rfl) ?_
  refine rdV (pc := 6) (As := [.int a0, .int a1]) (rest := []) hx hb hml hown hts hG hP (c_Tab_get l K (fun k => ad (k + 12)) (-1) th a0 a1) [12, 13] rfl (q0 := 12) rfl (ci := 5) rfl g_Mesh_140 hd_Tab_get rfl ⟨Nat.le_of_ble_eq_true rfl, Nat.le_of_ble_eq_true rfl⟩ ⟨Nat.zero_le _, Nat.zero_le _⟩ hl rfl (Nat.le_of_ble_eq_true rfl) dX2_hasTriangle_6 ?_
  refine lv_iload_n (pc := 9) hx hb dX2_hasTriangle_9 rfl (lv_at hl 3 rfl) ?_
  refine lv_icmp_ne (tgt := 17) (pc := 10) hx hb dX2_hasTriangle_10 (by decide) (fun c1 => ?_) (fun c1 => ?_)
  · have h := it_f c1 h
    refine lv_iconst (v := (0 : Int32)) (pc := 17) hx hb dX2_hasTriangle_17 (by decide) ?_
    subst h
    exact W.zret hx hb hr (rfl) (fun t ht hW => ⟨rfl, ht⟩) (fun q hq => absurd hq List.not_mem_nil) dX2_hasTriangle_18 hlk
  · have h := it_t c1 h
    refine lv_iconst (v := (1 : Int32)) (pc := 13) hx hb dX2_hasTriangle_13 (by decide) ?_
    refine lv_goto (tgt := 18) (pc := 14) hx hb dX2_hasTriangle_14 (by decide) ?_
    subst h
    exact W.zret hx hb hr (rfl) (fun t ht hW => ⟨rfl, ht⟩) (fun q hq => absurd hq List.not_mem_nil) dX2_hasTriangle_18 hlk
set_option maxHeartbeats 4000000 in
set_option maxRecDepth 100000 in
theorem c_Mesh_triangleAcross (l : Launch) (K : KT) (ad : Nat → Nat) (pxs : Nat → Int32) (pys : Nat → Int32) (plo : Nat → Int32) (phi : Nat → Int32) (pn : Int32) (pm : Int32) (lf : Nat → Int32) (th : Nat → Int32) (ow : Nat → Int32) (lk : Nat → Int32) (el : Nat → Int32) (eh : Nat → Int32) (co : Nat → Int32) (hu : Nat → Int32) (ne : Int32) (nt : Int32) (nh : Int32) (a0 : Int32) (a1 : Int32) : Rd l K 3 yX2_triangleAcross cX2_triangleAcross 3 .int [.ref (ad 0), .int a0, .int a1] (wMesh K ad pxs pys plo phi pn pm lf th ow lk el eh co hu ne nt nh) (s_Mesh_triangleAcross ow co a0 a1) := by
  generalize h : s_Mesh_triangleAcross ow co a0 a1 = o
  refine Rd.of (by decide +kernel) (Nat.le_of_ble_eq_true rfl) ?_
  unfold s_Mesh_triangleAcross at h
  intro p e s m below meth c hx hb hr hml hown hts hlk hP hG ls hl
  have C0 : Ctx p m c cX2_triangleAcross 3 s (Array.mk [.ref (ad 0), .int a0, .int a1]) RX2 K meth (some .int) := ⟨hx, hb, hml, hown, hts, hG, hr, hlk⟩
  have hl : lv_has ls 3 [(0, .ref (ad 0)), (1, .int a0), (2, .int a1)] := hl
  refine lv_aload_n (pc := 0) hx hb dX2_triangleAcross_0 rfl (lv_at hl 0 rfl) ?_
  refine va_get (D := K.1) (ci := 2) (v := .ref (ad 14)) (C := RX2) (T := TX2) (N := 12) (pc := 1) hx hb hts inT2 hown hG.1 hP 0 rfl rfl 3 (by decide) (hts _ qf_Mesh_27) (fun _ h9 => h9) rfl dX2_triangleAcross_1 ?_
  refine lv_aload_n (pc := 4) hx hb dX2_triangleAcross_4 rfl (lv_at hl 0 rfl) ?_
  refine lv_iload_n (pc := 5) hx hb dX2_triangleAcross_5 rfl (lv_at hl 1 rfl) ?_
  refine lv_iload_n (pc := 6) hx hb dX2_triangleAcross_6 rfl (lv_at hl 2 rfl) ?_
  refine rdV (pc := 7) (As := [.int a0, .int a1]) (rest := [.ref (ad 14)]) hx hb hml hown hts hG hP (c_Mesh_cornerAfter l K ad pxs pys plo phi pn pm lf th ow lk el eh co hu ne nt nh a0 a1) [0, 1, 2, 3, 4, 5, 6, 7, 8, 9, 10, 11, 12, 13, 14, 15, 16, 17, 18, 19, 20, 21, 22, 23, 24, 25] rfl (q0 := 0) rfl (ci := 2) rfl g_Mesh_185 hd_Mesh_cornerAfter rfl ⟨Nat.le_of_ble_eq_true rfl, Nat.le_of_ble_eq_true rfl⟩ ⟨Nat.zero_le _, Nat.zero_le _⟩ hl rfl (Nat.le_of_ble_eq_true rfl) dX2_triangleAcross_7 ?_
  refine lv_aload_n (pc := 10) hx hb dX2_triangleAcross_10 rfl (lv_at hl 0 rfl) ?_
  refine lv_iload_n (pc := 11) hx hb dX2_triangleAcross_11 rfl (lv_at hl 1 rfl) ?_
  refine lv_iload_n (pc := 12) hx hb dX2_triangleAcross_12 rfl (lv_at hl 2 rfl) ?_
  refine rdV (pc := 13) (As := [.int a0, .int a1]) (rest := [.int (s_Mesh_cornerAfter co a0 a1), .ref (ad 14)]) hx hb hml hown hts hG hP (c_Mesh_cornerOf l K ad pxs pys plo phi pn pm lf th ow lk el eh co hu ne nt nh a0 a1) [0, 1, 2, 3, 4, 5, 6, 7, 8, 9, 10, 11, 12, 13, 14, 15, 16, 17, 18, 19, 20, 21, 22, 23, 24, 25] rfl (q0 := 0) rfl (ci := 2) rfl g_Mesh_182 hd_Mesh_cornerOf rfl ⟨Nat.le_of_ble_eq_true rfl, Nat.le_of_ble_eq_true rfl⟩ ⟨Nat.zero_le _, Nat.zero_le _⟩ hl rfl (Nat.le_of_ble_eq_true rfl) dX2_triangleAcross_13 ?_
  refine rdV (pc := 16) (As := [.int (s_Mesh_cornerAfter co a0 a1), .int (s_Mesh_cornerOf co a0 a1)]) (rest := []) hx hb hml hown hts hG hP (c_Tab_get l K (fun k => ad (k + 14)) (-1) ow (s_Mesh_cornerAfter co a0 a1) (s_Mesh_cornerOf co a0 a1)) [14, 15] rfl (q0 := 14) rfl (ci := 5) rfl g_Mesh_140 hd_Tab_get rfl ⟨Nat.le_of_ble_eq_true rfl, Nat.le_of_ble_eq_true rfl⟩ ⟨Nat.zero_le _, Nat.zero_le _⟩ hl rfl (Nat.le_of_ble_eq_true rfl) dX2_triangleAcross_16 ?_
  subst h
  exact W.iret hx hb hr (fun t ht hW => ⟨rfl, ht⟩) (fun q hq => absurd hq List.not_mem_nil) dX2_triangleAcross_19 hlk
set_option maxHeartbeats 4000000 in
set_option maxRecDepth 100000 in
theorem c_Mesh_lowEnd (l : Launch) (K : KT) (ad : Nat → Nat) (pxs : Nat → Int32) (pys : Nat → Int32) (plo : Nat → Int32) (phi : Nat → Int32) (pn : Int32) (pm : Int32) (lf : Nat → Int32) (th : Nat → Int32) (ow : Nat → Int32) (lk : Nat → Int32) (el : Nat → Int32) (eh : Nat → Int32) (co : Nat → Int32) (hu : Nat → Int32) (ne : Int32) (nt : Int32) (nh : Int32) (a0 : Int32) : Rd l K 1 yX2_lowEnd cX2_lowEnd 2 .int [.ref (ad 0), .int a0] (wMesh K ad pxs pys plo phi pn pm lf th ow lk el eh co hu ne nt nh) (s_Mesh_lowEnd el a0) := by
  generalize h : s_Mesh_lowEnd el a0 = o
  refine Rd.of (by decide +kernel) (Nat.le_of_ble_eq_true rfl) ?_
  unfold s_Mesh_lowEnd at h
  intro p e s m below meth c hx hb hr hml hown hts hlk hP hG ls hl
  have C0 : Ctx p m c cX2_lowEnd 2 s (Array.mk [.ref (ad 0), .int a0]) RX2 K meth (some .int) := ⟨hx, hb, hml, hown, hts, hG, hr, hlk⟩
  have hl : lv_has ls 2 [(0, .ref (ad 0)), (1, .int a0)] := hl
  refine lv_aload_n (pc := 0) hx hb dX2_lowEnd_0 rfl (lv_at hl 0 rfl) ?_
  refine va_get (D := K.1) (ci := 2) (v := .ref (ad 18)) (C := RX2) (T := TX2) (N := 12) (pc := 1) hx hb hts inT2 hown hG.1 hP 0 rfl rfl 5 (by decide) (hts _ qf_Mesh_37) (fun _ h9 => h9) rfl dX2_lowEnd_1 ?_
  refine lv_iload_n (pc := 4) hx hb dX2_lowEnd_4 rfl (lv_at hl 1 rfl) ?_
  refine rdV (pc := 5) (As := [.int a0]) (rest := []) hx hb hml hown hts hG hP (c_Row_get l K (fun k => ad (k + 18)) 42 (by decide) el a0) [18, 19] rfl (q0 := 18) rfl (ci := 4) rfl g_Mesh_127 hd_Row_get rfl ⟨Nat.le_of_ble_eq_true rfl, Nat.le_of_ble_eq_true rfl⟩ ⟨Nat.zero_le _, Nat.zero_le _⟩ hl rfl (Nat.le_of_ble_eq_true rfl) dX2_lowEnd_5 ?_
  subst h
  exact W.iret hx hb hr (fun t ht hW => ⟨rfl, ht⟩) (fun q hq => absurd hq List.not_mem_nil) dX2_lowEnd_8 hlk
set_option maxHeartbeats 4000000 in
set_option maxRecDepth 100000 in
theorem c_Mesh_highEnd (l : Launch) (K : KT) (ad : Nat → Nat) (pxs : Nat → Int32) (pys : Nat → Int32) (plo : Nat → Int32) (phi : Nat → Int32) (pn : Int32) (pm : Int32) (lf : Nat → Int32) (th : Nat → Int32) (ow : Nat → Int32) (lk : Nat → Int32) (el : Nat → Int32) (eh : Nat → Int32) (co : Nat → Int32) (hu : Nat → Int32) (ne : Int32) (nt : Int32) (nh : Int32) (a0 : Int32) : Rd l K 1 yX2_highEnd cX2_highEnd 2 .int [.ref (ad 0), .int a0] (wMesh K ad pxs pys plo phi pn pm lf th ow lk el eh co hu ne nt nh) (s_Mesh_highEnd eh a0) := by
  generalize h : s_Mesh_highEnd eh a0 = o
  refine Rd.of (by decide +kernel) (Nat.le_of_ble_eq_true rfl) ?_
  unfold s_Mesh_highEnd at h
  intro p e s m below meth c hx hb hr hml hown hts hlk hP hG ls hl
  have C0 : Ctx p m c cX2_highEnd 2 s (Array.mk [.ref (ad 0), .int a0]) RX2 K meth (some .int) := ⟨hx, hb, hml, hown, hts, hG, hr, hlk⟩
  have hl : lv_has ls 2 [(0, .ref (ad 0)), (1, .int a0)] := hl
  refine lv_aload_n (pc := 0) hx hb dX2_highEnd_0 rfl (lv_at hl 0 rfl) ?_
  refine va_get (D := K.1) (ci := 2) (v := .ref (ad 20)) (C := RX2) (T := TX2) (N := 12) (pc := 1) hx hb hts inT2 hown hG.1 hP 0 rfl rfl 6 (by decide) (hts _ qf_Mesh_40) (fun _ h9 => h9) rfl dX2_highEnd_1 ?_
  refine lv_iload_n (pc := 4) hx hb dX2_highEnd_4 rfl (lv_at hl 1 rfl) ?_
  refine rdV (pc := 5) (As := [.int a0]) (rest := []) hx hb hml hown hts hG hP (c_Row_get l K (fun k => ad (k + 20)) 42 (by decide) eh a0) [20, 21] rfl (q0 := 20) rfl (ci := 4) rfl g_Mesh_127 hd_Row_get rfl ⟨Nat.le_of_ble_eq_true rfl, Nat.le_of_ble_eq_true rfl⟩ ⟨Nat.zero_le _, Nat.zero_le _⟩ hl rfl (Nat.le_of_ble_eq_true rfl) dX2_highEnd_5 ?_
  subst h
  exact W.iret hx hb hr (fun t ht hW => ⟨rfl, ht⟩) (fun q hq => absurd hq List.not_mem_nil) dX2_highEnd_8 hlk
set_option maxHeartbeats 4000000 in
set_option maxRecDepth 100000 in
theorem l_Mesh_edgeOf_L2 {p : Program} {l : Launch} {e : Env} {s : State} {m : MethodId} {args : Array Value} {below : List Frame} {meth : Method} {c : Code} {Q : State → Prop} {K : KT} (C0 : Ctx p m c cX2_edgeOf 4 s args RX2 K meth (some .int)) (F : Nat) (ad : Nat → Nat) (pxs : Nat → Int32) (pys : Nat → Int32) (plo : Nat → Int32) (phi : Nat → Int32) (pn : Int32) (pm : Int32) (lf : Nat → Int32) (th : Nat → Int32) (ow : Nat → Int32) (lk : Nat → Int32) (el : Nat → Int32) (eh : Nat → Int32) (co : Nat → Int32) (hu : Nat → Int32) (ne : Int32) (nt : Int32) (nh : Int32) (x1 : Int32) (x2 : Int32) (hP : va_P K.1 vC (wMesh K ad pxs pys plo phi pn pm lf th ow lk el eh co hu ne nt nh) s.heap) : ∀ (n : Nat) (x3 : Int32) (out : (Int32) ⊕ (Int32)), s_Mesh_edgeOf_L2 el eh ne x1 x2 n x3 = some out → ∀ (ls : Array Slot), lv_has ls 4 [(0, .ref (ad 0)), (1, .int x1), (2, .int x2), (3, .int x3)] → (∀ (o : Int32) (ls : Array Slot), out = .inr o → lv_has ls 4 [(0, .ref (ad 0)), (1, .int x1), (2, .int x2), (3, .int o)] → W p l e (rmL 1) s m args below meth c s.heap [] 0 0 Q (F0 m 50 ls [])) → (∀ (o : Int32) (pcR : Nat) (ls : Array Slot), out = .inl o → decode cX2_edgeOf pcR = .ok (.ireturn, 1) → W p l e (rmL 1) s m args below meth c s.heap [] 0 0 Q (F0 m pcR ls [.int o])) → W p l e (rmL 1) s m args below meth c s.heap [] 0 0 Q (F0 m 2 ls []) := by
  obtain ⟨hx, hb, hml, hown, hts, hG, hr, hlk⟩ := id C0
  intro n
  induction n with
  | zero =>
    intro x3 out h
    cases h
  | succ n ih =>
    intro x3 out h ls hl Kx Kr
    rw [s_Mesh_edgeOf_L2.eq_2] at h
    refine lv_iload_n (pc := 2) hx hb dX2_edgeOf_2 rfl (lv_at hl 3 rfl) ?_
    refine lv_aload_n (pc := 3) hx hb dX2_edgeOf_3 rfl (lv_at hl 0 rfl) ?_
    refine va_get (D := K.1) (ci := 2) (v := .int ne) (C := RX2) (T := TX2) (N := 12) (pc := 4) hx hb hts inT2 hown hG.1 hP 0 rfl rfl 9 (by decide) (hts _ qf_Mesh_49) (fun _ h9 => h9) rfl dX2_edgeOf_4 ?_
    refine lv_icmp_ge (tgt := 50) (pc := 7) hx hb dX2_edgeOf_7 (by decide) (fun c1 => ?_) (fun c1 => ?_)
    · have h := it_t c1 h
      obtain rfl := Option.some.inj h
      exact Kx _ ls rfl (lv_sub hl [0, 1, 2, 3] rfl)
    · have h := it_f c1 h
      refine lv_aload_n (pc := 10) hx hb dX2_edgeOf_10 rfl (lv_at hl 0 rfl) ?_
      refine va_get (D := K.1) (ci := 2) (v := .ref (ad 18)) (C := RX2) (T := TX2) (N := 12) (pc := 11) hx hb hts inT2 hown hG.1 hP 0 rfl rfl 5 (by decide) (hts _ qf_Mesh_37) (fun _ h9 => h9) rfl dX2_edgeOf_11 ?_
      refine lv_iload_n (pc := 14) hx hb dX2_edgeOf_14 rfl (lv_at hl 3 rfl) ?_
      refine rdV (pc := 15) (As := [.int x3]) (rest := []) hx hb hml hown hts hG hP (c_Row_get l K (fun k => ad (k + 18)) 42 (by decide) el x3) [18, 19] rfl (q0 := 18) rfl (ci := 4) rfl g_Mesh_127 hd_Row_get rfl ⟨Nat.le_of_ble_eq_true rfl, Nat.le_of_ble_eq_true rfl⟩ ⟨Nat.zero_le _, Nat.zero_le _⟩ hl rfl (Nat.le_of_ble_eq_true rfl) dX2_edgeOf_15 ?_
      refine lv_iload_n (pc := 18) hx hb dX2_edgeOf_18 rfl (lv_at hl 1 rfl) ?_
      refine lv_iload_n (pc := 19) hx hb dX2_edgeOf_19 rfl (lv_at hl 2 rfl) ?_
      refine my_mmin (pc := 20) hx hb hml hl.1 hown hts qm_Mesh_188 (Nat.le_of_ble_eq_true rfl) (Nat.le_of_ble_eq_true rfl) ⟨Nat.zero_le _, Nat.zero_le _⟩ dX2_edgeOf_20 ?_
      refine lv_icmp_ne (tgt := 44) (pc := 23) hx hb dX2_edgeOf_23 (by decide) (fun c2 => ?_) (fun c2 => ?_)
      · have h := it_f c2 h
        refine lv_iinc (v := (x3 + (1 : Int32))) (pc := 44) (lv' := [(3, .int (x3 + (1 : Int32))), (0, .ref (ad 0)), (1, .int x1), (2, .int x2)]) hx hb dX2_edgeOf_44 hl (k := 3) rfl rfl (by decide) rfl (fun ls hl => ?_)
        refine lv_goto (tgt := 2) (pc := 47) hx hb dX2_edgeOf_47 (by decide) ?_
        exact ih (x3 + (1 : Int32)) out h ls (lv_sub hl [1, 2, 3, 0] rfl) Kx Kr
      · have h := it_t c2 h
        refine lv_aload_n (pc := 26) hx hb dX2_edgeOf_26 rfl (lv_at hl 0 rfl) ?_
        refine va_get (D := K.1) (ci := 2) (v := .ref (ad 20)) (C := RX2) (T := TX2) (N := 12) (pc := 27) hx hb hts inT2 hown hG.1 hP 0 rfl rfl 6 (by decide) (hts _ qf_Mesh_40) (fun _ h9 => h9) rfl dX2_edgeOf_27 ?_
        refine lv_iload_n (pc := 30) hx hb dX2_edgeOf_30 rfl (lv_at hl 3 rfl) ?_
        refine rdV (pc := 31) (As := [.int x3]) (rest := []) hx hb hml hown hts hG hP (c_Row_get l K (fun k => ad (k + 20)) 42 (by decide) eh x3) [20, 21] rfl (q0 := 20) rfl (ci := 4) rfl g_Mesh_127 hd_Row_get rfl ⟨Nat.le_of_ble_eq_true rfl, Nat.le_of_ble_eq_true rfl⟩ ⟨Nat.zero_le _, Nat.zero_le _⟩ hl rfl (Nat.le_of_ble_eq_true rfl) dX2_edgeOf_31 ?_
        refine lv_iload_n (pc := 34) hx hb dX2_edgeOf_34 rfl (lv_at hl 1 rfl) ?_
        refine lv_iload_n (pc := 35) hx hb dX2_edgeOf_35 rfl (lv_at hl 2 rfl) ?_
        refine my_mmax (pc := 36) hx hb hml hl.1 hown hts qm_Mesh_168 (Nat.le_of_ble_eq_true rfl) (Nat.le_of_ble_eq_true rfl) ⟨Nat.zero_le _, Nat.zero_le _⟩ dX2_edgeOf_36 ?_
        refine lv_icmp_ne (tgt := 44) (pc := 39) hx hb dX2_edgeOf_39 (by decide) (fun c3 => ?_) (fun c3 => ?_)
        · have h := it_f c3 h
          refine lv_iinc (v := (x3 + (1 : Int32))) (pc := 44) (lv' := [(3, .int (x3 + (1 : Int32))), (0, .ref (ad 0)), (1, .int x1), (2, .int x2)]) hx hb dX2_edgeOf_44 hl (k := 3) rfl rfl (by decide) rfl (fun ls hl => ?_)
          refine lv_goto (tgt := 2) (pc := 47) hx hb dX2_edgeOf_47 (by decide) ?_
          exact ih (x3 + (1 : Int32)) out h ls (lv_sub hl [1, 2, 3, 0] rfl) Kx Kr
        · have h := it_t c3 h
          refine lv_iload_n (pc := 42) hx hb dX2_edgeOf_42 rfl (lv_at hl 3 rfl) ?_
          obtain rfl := Option.some.inj h
          exact Kr _ _ _ rfl dX2_edgeOf_43
set_option maxHeartbeats 4000000 in
set_option maxRecDepth 100000 in
theorem c_Mesh_edgeOf (l : Launch) (K : KT) (ad : Nat → Nat) (pxs : Nat → Int32) (pys : Nat → Int32) (plo : Nat → Int32) (phi : Nat → Int32) (pn : Int32) (pm : Int32) (lf : Nat → Int32) (th : Nat → Int32) (ow : Nat → Int32) (lk : Nat → Int32) (el : Nat → Int32) (eh : Nat → Int32) (co : Nat → Int32) (hu : Nat → Int32) (ne : Int32) (nt : Int32) (nh : Int32) (a0 : Int32) (a1 : Int32) (F : Nat) {o : Int32} (h : s_Mesh_edgeOf F el eh ne a0 a1 = some o) : Rd l K 1 yX2_edgeOf cX2_edgeOf 4 .int [.ref (ad 0), .int a0, .int a1] (wMesh K ad pxs pys plo phi pn pm lf th ow lk el eh co hu ne nt nh) o := by
  refine Rd.of (by decide +kernel) (Nat.le_of_ble_eq_true rfl) ?_
  unfold s_Mesh_edgeOf at h
  intro p e s m below meth c hx hb hr hml hown hts hlk hP hG ls hl
  have C0 : Ctx p m c cX2_edgeOf 4 s (Array.mk [.ref (ad 0), .int a0, .int a1]) RX2 K meth (some .int) := ⟨hx, hb, hml, hown, hts, hG, hr, hlk⟩
  have hl : lv_has ls 4 [(0, .ref (ad 0)), (1, .int a0), (2, .int a1)] := hl
  refine lv_iconst (v := (0 : Int32)) (pc := 0) hx hb dX2_edgeOf_0 (by decide) ?_
  refine lv_istore_n (pc := 1) (lv' := [(3, .int (0 : Int32)), (0, .ref (ad 0)), (1, .int a0), (2, .int a1)]) hx hb dX2_edgeOf_1 rfl hl (by decide) rfl (fun ls hl => ?_)
  obtain ⟨o4, h_o4, h⟩ := ob h
  refine l_Mesh_edgeOf_L2 C0 F ad pxs pys plo phi pn pm lf th ow lk el eh co hu ne nt nh a0 a1 hP F (0 : Int32) _ h_o4 ls (lv_sub hl [1, 2, 3, 0] rfl) (fun o4x ls eo hl => ?_) (fun q_o pcR ls eo hdR => ?_)
  · subst o4
    have h := se_r h
    refine lv_iconst (v := (-1 : Int32)) (pc := 50) hx hb dX2_edgeOf_50 (by decide) ?_
    obtain rfl := Option.some.inj h
    exact W.iret hx hb hr (fun t ht hW => ⟨rfl, ht⟩) (fun q hq => absurd hq List.not_mem_nil) dX2_edgeOf_51 hlk
  · subst o4
    have h := se_l h
    obtain rfl := Option.some.inj h
    exact W.iret hx hb hr (fun t ht hW => ⟨rfl, ht⟩) (fun q hq => absurd hq List.not_mem_nil) hdR hlk
set_option maxHeartbeats 4000000 in
set_option maxRecDepth 100000 in
theorem c_Mesh_degreeOf (l : Launch) (K : KT) (ad : Nat → Nat) (pxs : Nat → Int32) (pys : Nat → Int32) (plo : Nat → Int32) (phi : Nat → Int32) (pn : Int32) (pm : Int32) (lf : Nat → Int32) (th : Nat → Int32) (ow : Nat → Int32) (lk : Nat → Int32) (el : Nat → Int32) (eh : Nat → Int32) (co : Nat → Int32) (hu : Nat → Int32) (ne : Int32) (nt : Int32) (nh : Int32) (a0 : Int32) : Rd l K 1 yX2_degreeOf cX2_degreeOf 2 .int [.ref (ad 0), .int a0] (wMesh K ad pxs pys plo phi pn pm lf th ow lk el eh co hu ne nt nh) (s_Mesh_degreeOf lk a0) := by
  generalize h : s_Mesh_degreeOf lk a0 = o
  refine Rd.of (by decide +kernel) (Nat.le_of_ble_eq_true rfl) ?_
  unfold s_Mesh_degreeOf at h
  intro p e s m below meth c hx hb hr hml hown hts hlk hP hG ls hl
  have C0 : Ctx p m c cX2_degreeOf 2 s (Array.mk [.ref (ad 0), .int a0]) RX2 K meth (some .int) := ⟨hx, hb, hml, hown, hts, hG, hr, hlk⟩
  have hl : lv_has ls 2 [(0, .ref (ad 0)), (1, .int a0)] := hl
  refine lv_aload_n (pc := 0) hx hb dX2_degreeOf_0 rfl (lv_at hl 0 rfl) ?_
  refine va_get (D := K.1) (ci := 2) (v := .ref (ad 16)) (C := RX2) (T := TX2) (N := 12) (pc := 1) hx hb hts inT2 hown hG.1 hP 0 rfl rfl 4 (by decide) (hts _ qf_Mesh_33) (fun _ h9 => h9) rfl dX2_degreeOf_1 ?_
  refine lv_iload_n (pc := 4) hx hb dX2_degreeOf_4 rfl (lv_at hl 1 rfl) ?_
  refine rdV (pc := 5) (As := [.int a0]) (rest := []) hx hb hml hown hts hG hP (c_Row_get l K (fun k => ad (k + 16)) 16 (by decide) lk a0) [16, 17] rfl (q0 := 16) rfl (ci := 4) rfl g_Mesh_127 hd_Row_get rfl ⟨Nat.le_of_ble_eq_true rfl, Nat.le_of_ble_eq_true rfl⟩ ⟨Nat.zero_le _, Nat.zero_le _⟩ hl rfl (Nat.le_of_ble_eq_true rfl) dX2_degreeOf_5 ?_
  refine rdSU (pc := 8) (As := [.int (s_Row_get 16 lk a0)]) (rest := []) hx hb hml hown hts hG (c_J6_bitCount_0f7a4 l K (s_Row_get 16 lk a0)) (gSU qm_Mesh_191 qt_J6_bitCount_0f7a4 qn_J6 qc_J6_bitCount_0f7a4) hd_J6_bitCount_0f7a4 rfl ⟨Nat.le_of_ble_eq_true rfl, Nat.le_of_ble_eq_true rfl⟩ ⟨Nat.zero_le _, Nat.zero_le _⟩ hl rfl (Nat.le_of_ble_eq_true rfl) dX2_degreeOf_8 ?_
  subst h
  exact W.iret hx hb hr (fun t ht hW => ⟨rfl, ht⟩) (fun q hq => absurd hq List.not_mem_nil) dX2_degreeOf_11 hlk
set_option maxHeartbeats 4000000 in
set_option maxRecDepth 100000 in
theorem l_Mesh_neighbourOf_L5 {p : Program} {l : Launch} {e : Env} {s : State} {m : MethodId} {args : Array Value} {below : List Frame} {meth : Method} {c : Code} {Q : State → Prop} {K : KT} (C0 : Ctx p m c cX2_neighbourOf 5 s args RX2 K meth (some .int)) (F : Nat) (ad : Nat → Nat) (pxs : Nat → Int32) (pys : Nat → Int32) (plo : Nat → Int32) (phi : Nat → Int32) (pn : Int32) (pm : Int32) (lf : Nat → Int32) (th : Nat → Int32) (ow : Nat → Int32) (lk : Nat → Int32) (el : Nat → Int32) (eh : Nat → Int32) (co : Nat → Int32) (hu : Nat → Int32) (ne : Int32) (nt : Int32) (nh : Int32) (x1 : Int32) (x2 : Int32) (hP : va_P K.1 vC (wMesh K ad pxs pys plo phi pn pm lf th ow lk el eh co hu ne nt nh) s.heap) : ∀ (n : Nat) (x3 : Int32) (x4 : Int32) (out : (Int32) ⊕ (Int32 × Int32)), s_Mesh_neighbourOf_L5 pn lk x1 x2 n x3 x4 = some out → ∀ (ls : Array Slot), lv_has ls 5 [(0, .ref (ad 0)), (1, .int x1), (2, .int x2), (3, .int x3), (4, .int x4)] → (∀ (o : Int32 × Int32) (ls : Array Slot), out = .inr o → lv_has ls 5 [(0, .ref (ad 0)), (1, .int x1), (2, .int x2), (3, .int o.1), (4, .int o.2)] → W p l e (rmL 2) s m args below meth c s.heap [] 0 0 Q (F0 m 44 ls [])) → (∀ (o : Int32) (pcR : Nat) (ls : Array Slot), out = .inl o → decode cX2_neighbourOf pcR = .ok (.ireturn, 1) → W p l e (rmL 2) s m args below meth c s.heap [] 0 0 Q (F0 m pcR ls [.int o])) → W p l e (rmL 2) s m args below meth c s.heap [] 0 0 Q (F0 m 5 ls []) := by
  obtain ⟨hx, hb, hml, hown, hts, hG, hr, hlk⟩ := id C0
  intro n
  induction n with
  | zero =>
    intro x3 x4 out h
    cases h
  | succ n ih =>
    intro x3 x4 out h ls hl Kx Kr
    rw [s_Mesh_neighbourOf_L5.eq_2] at h
    refine lv_iload (pc := 5) hx hb dX2_neighbourOf_5 (lv_at hl 4 rfl) ?_
    refine lv_aload_n (pc := 7) hx hb dX2_neighbourOf_7 rfl (lv_at hl 0 rfl) ?_
    refine va_get (D := K.1) (ci := 2) (v := .ref (ad 1)) (C := RX2) (T := TX2) (N := 12) (pc := 8) hx hb hts inT2 hown hG.1 hP 0 rfl rfl 0 (by decide) (hts _ qf_Mesh_9) (fun _ h9 => h9) rfl dX2_neighbourOf_8 ?_
    refine rdV (pc := 11) (As := []) (rest := [.int x4]) hx hb hml hown hts hG hP (c_Plan_points l K (fun k => ad (k + 1)) pxs pys plo phi pn pm) [1, 2, 3, 4, 5, 6, 7, 8, 9] rfl (q0 := 1) rfl (ci := 3) rfl g_Mesh_84 hd_Plan_points rfl ⟨Nat.le_of_ble_eq_true rfl, Nat.le_of_ble_eq_true rfl⟩ ⟨Nat.zero_le _, Nat.zero_le _⟩ hl rfl (Nat.le_of_ble_eq_true rfl) dX2_neighbourOf_11 ?_
    refine lv_icmp_ge (tgt := 44) (pc := 14) hx hb dX2_neighbourOf_14 (by decide) (fun c1 => ?_) (fun c1 => ?_)
    · have h := it_t c1 h
      obtain rfl := Option.some.inj h
      exact Kx _ ls rfl (lv_sub hl [0, 1, 2, 3, 4] rfl)
    · have h := it_f c1 h
      refine lv_aload_n (pc := 17) hx hb dX2_neighbourOf_17 rfl (lv_at hl 0 rfl) ?_
      refine lv_iload_n (pc := 18) hx hb dX2_neighbourOf_18 rfl (lv_at hl 1 rfl) ?_
      refine lv_iload (pc := 19) hx hb dX2_neighbourOf_19 (lv_at hl 4 rfl) ?_
      refine rdV (pc := 21) (As := [.int x1, .int x4]) (rest := []) hx hb hml hown hts hG hP (c_Mesh_isLinked l K ad pxs pys plo phi pn pm lf th ow lk el eh co hu ne nt nh x1 x4) [0, 1, 2, 3, 4, 5, 6, 7, 8, 9, 10, 11, 12, 13, 14, 15, 16, 17, 18, 19, 20, 21, 22, 23, 24, 25] rfl (q0 := 0) rfl (ci := 2) rfl g_Mesh_117 hd_Mesh_isLinked rfl ⟨Nat.le_of_ble_eq_true rfl, Nat.le_of_ble_eq_true rfl⟩ ⟨Nat.zero_le _, Nat.zero_le _⟩ hl rfl (Nat.le_of_ble_eq_true rfl) dX2_neighbourOf_21 ?_
      refine lv_if_eq (tgt := 38) (pc := 24) hx hb dX2_neighbourOf_24 (by decide) (fun c2 => ?_) (fun c2 => ?_)
      · have h := it_t c2 h
        refine lv_iinc (v := (x4 + (1 : Int32))) (pc := 38) (lv' := [(4, .int (x4 + (1 : Int32))), (0, .ref (ad 0)), (1, .int x1), (2, .int x2), (3, .int x3)]) hx hb dX2_neighbourOf_38 hl (k := 4) rfl rfl (by decide) rfl (fun ls hl => ?_)
        refine lv_goto (tgt := 5) (pc := 41) hx hb dX2_neighbourOf_41 (by decide) ?_
        exact ih x3 (x4 + (1 : Int32)) out h ls (lv_sub hl [1, 2, 3, 4, 0] rfl) Kx Kr
      · have h := it_f c2 h
        refine lv_iload_n (pc := 27) hx hb dX2_neighbourOf_27 rfl (lv_at hl 3 rfl) ?_
        refine lv_iload_n (pc := 28) hx hb dX2_neighbourOf_28 rfl (lv_at hl 2 rfl) ?_
        refine lv_icmp_ne (tgt := 35) (pc := 29) hx hb dX2_neighbourOf_29 (by decide) (fun c3 => ?_) (fun c3 => ?_)
        · have h := it_f c3 h
          refine lv_iinc (v := (x3 + (1 : Int32))) (pc := 35) (lv' := [(3, .int (x3 + (1 : Int32))), (0, .ref (ad 0)), (1, .int x1), (2, .int x2), (4, .int x4)]) hx hb dX2_neighbourOf_35 hl (k := 3) rfl rfl (by decide) rfl (fun ls hl => ?_)
          refine lv_iinc (v := (x4 + (1 : Int32))) (pc := 38) (lv' := [(4, .int (x4 + (1 : Int32))), (3, .int (x3 + (1 : Int32))), (0, .ref (ad 0)), (1, .int x1), (2, .int x2)]) hx hb dX2_neighbourOf_38 hl (k := 4) rfl rfl (by decide) rfl (fun ls hl => ?_)
          refine lv_goto (tgt := 5) (pc := 41) hx hb dX2_neighbourOf_41 (by decide) ?_
          exact ih (x3 + (1 : Int32)) (x4 + (1 : Int32)) out h ls (lv_sub hl [2, 3, 4, 1, 0] rfl) Kx Kr
        · have h := it_t c3 h
          refine lv_iload (pc := 32) hx hb dX2_neighbourOf_32 (lv_at hl 4 rfl) ?_
          obtain rfl := Option.some.inj h
          exact Kr _ _ _ rfl dX2_neighbourOf_34
set_option maxHeartbeats 4000000 in
set_option maxRecDepth 100000 in
theorem c_Mesh_neighbourOf (l : Launch) (K : KT) (ad : Nat → Nat) (pxs : Nat → Int32) (pys : Nat → Int32) (plo : Nat → Int32) (phi : Nat → Int32) (pn : Int32) (pm : Int32) (lf : Nat → Int32) (th : Nat → Int32) (ow : Nat → Int32) (lk : Nat → Int32) (el : Nat → Int32) (eh : Nat → Int32) (co : Nat → Int32) (hu : Nat → Int32) (ne : Int32) (nt : Int32) (nh : Int32) (a0 : Int32) (a1 : Int32) (F : Nat) {o : Int32} (h : s_Mesh_neighbourOf F pn lk a0 a1 = some o) : Rd l K 2 yX2_neighbourOf cX2_neighbourOf 5 .int [.ref (ad 0), .int a0, .int a1] (wMesh K ad pxs pys plo phi pn pm lf th ow lk el eh co hu ne nt nh) o := by
  refine Rd.of (by decide +kernel) (Nat.le_of_ble_eq_true rfl) ?_
  unfold s_Mesh_neighbourOf at h
  intro p e s m below meth c hx hb hr hml hown hts hlk hP hG ls hl
  have C0 : Ctx p m c cX2_neighbourOf 5 s (Array.mk [.ref (ad 0), .int a0, .int a1]) RX2 K meth (some .int) := ⟨hx, hb, hml, hown, hts, hG, hr, hlk⟩
  have hl : lv_has ls 5 [(0, .ref (ad 0)), (1, .int a0), (2, .int a1)] := hl
  refine lv_iconst (v := (0 : Int32)) (pc := 0) hx hb dX2_neighbourOf_0 (by decide) ?_
  refine lv_istore_n (pc := 1) (lv' := [(3, .int (0 : Int32)), (0, .ref (ad 0)), (1, .int a0), (2, .int a1)]) hx hb dX2_neighbourOf_1 rfl hl (by decide) rfl (fun ls hl => ?_)
  refine lv_iconst (v := (0 : Int32)) (pc := 2) hx hb dX2_neighbourOf_2 (by decide) ?_
  refine lv_istore (pc := 3) (lv' := [(4, .int (0 : Int32)), (3, .int (0 : Int32)), (0, .ref (ad 0)), (1, .int a0), (2, .int a1)]) hx hb dX2_neighbourOf_3 hl (by decide) rfl (fun ls hl => ?_)
  obtain ⟨o4, h_o4, h⟩ := ob h
  refine l_Mesh_neighbourOf_L5 C0 F ad pxs pys plo phi pn pm lf th ow lk el eh co hu ne nt nh a0 a1 hP F (0 : Int32) (0 : Int32) _ h_o4 ls (lv_sub hl [2, 3, 4, 1, 0] rfl) (fun o4x ls eo hl => ?_) (fun q_o pcR ls eo hdR => ?_)
  · subst o4
    have h := se_r h
    refine lv_iconst (v := (-1 : Int32)) (pc := 44) hx hb dX2_neighbourOf_44 (by decide) ?_
    obtain rfl := Option.some.inj h
    exact W.iret hx hb hr (fun t ht hW => ⟨rfl, ht⟩) (fun q hq => absurd hq List.not_mem_nil) dX2_neighbourOf_45 hlk
  · subst o4
    have h := se_l h
    obtain rfl := Option.some.inj h
    exact W.iret hx hb hr (fun t ht hW => ⟨rfl, ht⟩) (fun q hq => absurd hq List.not_mem_nil) hdR hlk
set_option maxHeartbeats 4000000 in
set_option maxRecDepth 100000 in
theorem c_Mesh_areaOf (l : Launch) (K : KT) (ad : Nat → Nat) (pxs : Nat → Int32) (pys : Nat → Int32) (plo : Nat → Int32) (phi : Nat → Int32) (pn : Int32) (pm : Int32) (lf : Nat → Int32) (th : Nat → Int32) (ow : Nat → Int32) (lk : Nat → Int32) (el : Nat → Int32) (eh : Nat → Int32) (co : Nat → Int32) (hu : Nat → Int32) (ne : Int32) (nt : Int32) (nh : Int32) (a0 : Int32) : Rd l K 2 yX2_areaOf cX2_areaOf 3 .int [.ref (ad 0), .int a0] (wMesh K ad pxs pys plo phi pn pm lf th ow lk el eh co hu ne nt nh) (s_Mesh_areaOf pxs pys co a0) := by
  generalize h : s_Mesh_areaOf pxs pys co a0 = o
  refine Rd.of (by decide +kernel) (Nat.le_of_ble_eq_true rfl) ?_
  unfold s_Mesh_areaOf at h
  intro p e s m below meth c hx hb hr hml hown hts hlk hP hG ls hl
  have C0 : Ctx p m c cX2_areaOf 3 s (Array.mk [.ref (ad 0), .int a0]) RX2 K meth (some .int) := ⟨hx, hb, hml, hown, hts, hG, hr, hlk⟩
  have hl : lv_has ls 3 [(0, .ref (ad 0)), (1, .int a0)] := hl
  refine lv_aload_n (pc := 0) hx hb dX2_areaOf_0 rfl (lv_at hl 0 rfl) ?_
  refine lv_iload_n (pc := 1) hx hb dX2_areaOf_1 rfl (lv_at hl 1 rfl) ?_
  refine lv_iconst (v := (2 : Int32)) (pc := 2) hx hb dX2_areaOf_2 (by decide) ?_
  refine rdV (pc := 3) (As := [.int a0, .int (2 : Int32)]) (rest := []) hx hb hml hown hts hG hP (c_Mesh_cornerOf l K ad pxs pys plo phi pn pm lf th ow lk el eh co hu ne nt nh a0 (2 : Int32)) [0, 1, 2, 3, 4, 5, 6, 7, 8, 9, 10, 11, 12, 13, 14, 15, 16, 17, 18, 19, 20, 21, 22, 23, 24, 25] rfl (q0 := 0) rfl (ci := 2) rfl g_Mesh_182 hd_Mesh_cornerOf rfl ⟨Nat.le_of_ble_eq_true rfl, Nat.le_of_ble_eq_true rfl⟩ ⟨Nat.zero_le _, Nat.zero_le _⟩ hl rfl (Nat.le_of_ble_eq_true rfl) dX2_areaOf_3 ?_
  refine lv_istore_n (pc := 6) (lv' := [(2, .int (s_Mesh_cornerOf co a0 (2 : Int32))), (0, .ref (ad 0)), (1, .int a0)]) hx hb dX2_areaOf_6 rfl hl (by decide) rfl (fun ls hl => ?_)
  refine lv_aload_n (pc := 7) hx hb dX2_areaOf_7 rfl (lv_at hl 1 rfl) ?_
  refine va_get (D := K.1) (ci := 2) (v := .ref (ad 1)) (C := RX2) (T := TX2) (N := 12) (pc := 8) hx hb hts inT2 hown hG.1 hP 0 rfl rfl 0 (by decide) (hts _ qf_Mesh_9) (fun _ h9 => h9) rfl dX2_areaOf_8 ?_
  refine lv_aload_n (pc := 11) hx hb dX2_areaOf_11 rfl (lv_at hl 1 rfl) ?_
  refine lv_iload_n (pc := 12) hx hb dX2_areaOf_12 rfl (lv_at hl 2 rfl) ?_
  refine lv_iconst (v := (0 : Int32)) (pc := 13) hx hb dX2_areaOf_13 (by decide) ?_
  refine rdV (pc := 14) (As := [.int a0, .int (0 : Int32)]) (rest := [.ref (ad 1)]) hx hb hml hown hts hG hP (c_Mesh_cornerOf l K ad pxs pys plo phi pn pm lf th ow lk el eh co hu ne nt nh a0 (0 : Int32)) [0, 1, 2, 3, 4, 5, 6, 7, 8, 9, 10, 11, 12, 13, 14, 15, 16, 17, 18, 19, 20, 21, 22, 23, 24, 25] rfl (q0 := 0) rfl (ci := 2) rfl g_Mesh_182 hd_Mesh_cornerOf rfl ⟨Nat.le_of_ble_eq_true rfl, Nat.le_of_ble_eq_true rfl⟩ ⟨Nat.zero_le _, Nat.zero_le _⟩ hl rfl (Nat.le_of_ble_eq_true rfl) dX2_areaOf_14 ?_
  refine lv_aload_n (pc := 17) hx hb dX2_areaOf_17 rfl (lv_at hl 1 rfl) ?_
  refine lv_iload_n (pc := 18) hx hb dX2_areaOf_18 rfl (lv_at hl 2 rfl) ?_
  refine lv_iconst (v := (1 : Int32)) (pc := 19) hx hb dX2_areaOf_19 (by decide) ?_
  refine rdV (pc := 20) (As := [.int a0, .int (1 : Int32)]) (rest := [.int (s_Mesh_cornerOf co a0 (0 : Int32)), .ref (ad 1)]) hx hb hml hown hts hG hP (c_Mesh_cornerOf l K ad pxs pys plo phi pn pm lf th ow lk el eh co hu ne nt nh a0 (1 : Int32)) [0, 1, 2, 3, 4, 5, 6, 7, 8, 9, 10, 11, 12, 13, 14, 15, 16, 17, 18, 19, 20, 21, 22, 23, 24, 25] rfl (q0 := 0) rfl (ci := 2) rfl g_Mesh_182 hd_Mesh_cornerOf rfl ⟨Nat.le_of_ble_eq_true rfl, Nat.le_of_ble_eq_true rfl⟩ ⟨Nat.zero_le _, Nat.zero_le _⟩ hl rfl (Nat.le_of_ble_eq_true rfl) dX2_areaOf_20 ?_
  refine lv_aload_n (pc := 23) hx hb dX2_areaOf_23 rfl (lv_at hl 1 rfl) ?_
  refine va_get (D := K.1) (ci := 2) (v := .ref (ad 1)) (C := RX2) (T := TX2) (N := 12) (pc := 24) hx hb hts inT2 hown hG.1 hP 0 rfl rfl 0 (by decide) (hts _ qf_Mesh_9) (fun _ h9 => h9) rfl dX2_areaOf_24 ?_
  refine lv_iload_n (pc := 27) hx hb dX2_areaOf_27 rfl (lv_at hl 0 rfl) ?_
  refine rdV (pc := 28) (As := [.int (s_Mesh_cornerOf co a0 (2 : Int32))]) (rest := [.int (s_Mesh_cornerOf co a0 (1 : Int32)), .int (s_Mesh_cornerOf co a0 (0 : Int32)), .ref (ad 1)]) hx hb hml hown hts hG hP (c_Plan_xOf l K (fun k => ad (k + 1)) pxs pys plo phi pn pm (s_Mesh_cornerOf co a0 (2 : Int32))) [1, 2, 3, 4, 5, 6, 7, 8, 9] rfl (q0 := 1) rfl (ci := 3) rfl g_Mesh_196 hd_Plan_xOf rfl ⟨Nat.le_of_ble_eq_true rfl, Nat.le_of_ble_eq_true rfl⟩ ⟨Nat.zero_le _, Nat.zero_le _⟩ hl rfl (Nat.le_of_ble_eq_true rfl) dX2_areaOf_28 ?_
  refine lv_aload_n (pc := 31) hx hb dX2_areaOf_31 rfl (lv_at hl 1 rfl) ?_
  refine va_get (D := K.1) (ci := 2) (v := .ref (ad 1)) (C := RX2) (T := TX2) (N := 12) (pc := 32) hx hb hts inT2 hown hG.1 hP 0 rfl rfl 0 (by decide) (hts _ qf_Mesh_9) (fun _ h9 => h9) rfl dX2_areaOf_32 ?_
  refine lv_iload_n (pc := 35) hx hb dX2_areaOf_35 rfl (lv_at hl 0 rfl) ?_
  refine rdV (pc := 36) (As := [.int (s_Mesh_cornerOf co a0 (2 : Int32))]) (rest := [.int (s_Plan_xOf pxs (s_Mesh_cornerOf co a0 (2 : Int32))), .int (s_Mesh_cornerOf co a0 (1 : Int32)), .int (s_Mesh_cornerOf co a0 (0 : Int32)), .ref (ad 1)]) hx hb hml hown hts hG hP (c_Plan_yOf l K (fun k => ad (k + 1)) pxs pys plo phi pn pm (s_Mesh_cornerOf co a0 (2 : Int32))) [1, 2, 3, 4, 5, 6, 7, 8, 9] rfl (q0 := 1) rfl (ci := 3) rfl g_Mesh_199 hd_Plan_yOf rfl ⟨Nat.le_of_ble_eq_true rfl, Nat.le_of_ble_eq_true rfl⟩ ⟨Nat.zero_le _, Nat.zero_le _⟩ hl rfl (Nat.le_of_ble_eq_true rfl) dX2_areaOf_36 ?_
  refine rdV (pc := 39) (As := [.int (s_Mesh_cornerOf co a0 (0 : Int32)), .int (s_Mesh_cornerOf co a0 (1 : Int32)), .int (s_Plan_xOf pxs (s_Mesh_cornerOf co a0 (2 : Int32))), .int (s_Plan_yOf pys (s_Mesh_cornerOf co a0 (2 : Int32)))]) (rest := []) hx hb hml hown hts hG hP (c_Plan_twiceSignedArea l K (fun k => ad (k + 1)) pxs pys plo phi pn pm (s_Mesh_cornerOf co a0 (0 : Int32)) (s_Mesh_cornerOf co a0 (1 : Int32)) (s_Plan_xOf pxs (s_Mesh_cornerOf co a0 (2 : Int32))) (s_Plan_yOf pys (s_Mesh_cornerOf co a0 (2 : Int32)))) [1, 2, 3, 4, 5, 6, 7, 8, 9] rfl (q0 := 1) rfl (ci := 3) rfl g_Mesh_202 hd_Plan_twiceSignedArea rfl ⟨Nat.le_of_ble_eq_true rfl, Nat.le_of_ble_eq_true rfl⟩ ⟨Nat.zero_le _, Nat.zero_le _⟩ hl rfl (Nat.le_of_ble_eq_true rfl) dX2_areaOf_39 ?_
  subst h
  exact W.iret hx hb hr (fun t ht hW => ⟨rfl, ht⟩) (fun q hq => absurd hq List.not_mem_nil) dX2_areaOf_42 hlk
set_option maxHeartbeats 4000000 in
set_option maxRecDepth 100000 in
theorem l_Mesh_hullArea_L4 {p : Program} {l : Launch} {e : Env} {s : State} {m : MethodId} {args : Array Value} {below : List Frame} {meth : Method} {c : Code} {Q : State → Prop} {K : KT} (C0 : Ctx p m c cX2_hullArea 3 s args RX2 K meth (some .int)) (F : Nat) (ad : Nat → Nat) (pxs : Nat → Int32) (pys : Nat → Int32) (plo : Nat → Int32) (phi : Nat → Int32) (pn : Int32) (pm : Int32) (lf : Nat → Int32) (th : Nat → Int32) (ow : Nat → Int32) (lk : Nat → Int32) (el : Nat → Int32) (eh : Nat → Int32) (co : Nat → Int32) (hu : Nat → Int32) (ne : Int32) (nt : Int32) (nh : Int32) (hP : va_P K.1 vC (wMesh K ad pxs pys plo phi pn pm lf th ow lk el eh co hu ne nt nh) s.heap) : ∀ (n : Nat) (x1 : Int32) (x2 : Int32) (out : Int32 × Int32), s_Mesh_hullArea_L4 pxs pys co nt n x1 x2 = some out → ∀ (ls : Array Slot), lv_has ls 3 [(0, .ref (ad 0)), (1, .int x1), (2, .int x2)] → (∀ (o : Int32 × Int32) (ls : Array Slot), out = o → lv_has ls 3 [(0, .ref (ad 0)), (1, .int o.1), (2, .int o.2)] → W p l e (rmL 3) s m args below meth c s.heap [] 0 0 Q (F0 m 26 ls [])) → W p l e (rmL 3) s m args below meth c s.heap [] 0 0 Q (F0 m 4 ls []) := by
  obtain ⟨hx, hb, hml, hown, hts, hG, hr, hlk⟩ := id C0
  intro n
  induction n with
  | zero =>
    intro x1 x2 out h
    cases h
  | succ n ih =>
    intro x1 x2 out h ls hl Kx 
    rw [s_Mesh_hullArea_L4.eq_2] at h
    refine lv_iload_n (pc := 4) hx hb dX2_hullArea_4 rfl (lv_at hl 2 rfl) ?_
    refine lv_aload_n (pc := 5) hx hb dX2_hullArea_5 rfl (lv_at hl 0 rfl) ?_
    refine va_get (D := K.1) (ci := 2) (v := .int nt) (C := RX2) (T := TX2) (N := 12) (pc := 6) hx hb hts inT2 hown hG.1 hP 0 rfl rfl 10 (by decide) (hts _ qf_Mesh_53) (fun _ h9 => h9) rfl dX2_hullArea_6 ?_
    refine lv_icmp_ge (tgt := 26) (pc := 9) hx hb dX2_hullArea_9 (by decide) (fun c1 => ?_) (fun c1 => ?_)
    · have h := it_t c1 h
      obtain rfl := Option.some.inj h
      exact Kx _ ls rfl (lv_sub hl [0, 1, 2] rfl)
    · have h := it_f c1 h
      refine lv_iload_n (pc := 12) hx hb dX2_hullArea_12 rfl (lv_at hl 1 rfl) ?_
      refine lv_aload_n (pc := 13) hx hb dX2_hullArea_13 rfl (lv_at hl 0 rfl) ?_
      refine lv_iload_n (pc := 14) hx hb dX2_hullArea_14 rfl (lv_at hl 2 rfl) ?_
      refine rdV (pc := 15) (As := [.int x2]) (rest := [.int x1]) hx hb hml hown hts hG hP (c_Mesh_areaOf l K ad pxs pys plo phi pn pm lf th ow lk el eh co hu ne nt nh x2) [0, 1, 2, 3, 4, 5, 6, 7, 8, 9, 10, 11, 12, 13, 14, 15, 16, 17, 18, 19, 20, 21, 22, 23, 24, 25] rfl (q0 := 0) rfl (ci := 2) rfl g_Mesh_205 hd_Mesh_areaOf rfl ⟨Nat.le_of_ble_eq_true rfl, Nat.le_of_ble_eq_true rfl⟩ ⟨Nat.zero_le _, Nat.zero_le _⟩ hl rfl (Nat.le_of_ble_eq_true rfl) dX2_hullArea_15 ?_
      refine lv_iadd (pc := 18) hx hb dX2_hullArea_18 ?_
      refine lv_istore_n (pc := 19) (lv' := [(1, .int (x1 + (s_Mesh_areaOf pxs pys co x2))), (0, .ref (ad 0)), (2, .int x2)]) hx hb dX2_hullArea_19 rfl hl (by decide) rfl (fun ls hl => ?_)
      refine lv_iinc (v := (x2 + (1 : Int32))) (pc := 20) (lv' := [(2, .int (x2 + (1 : Int32))), (1, .int (x1 + (s_Mesh_areaOf pxs pys co x2))), (0, .ref (ad 0))]) hx hb dX2_hullArea_20 hl (k := 2) rfl rfl (by decide) rfl (fun ls hl => ?_)
      refine lv_goto (tgt := 4) (pc := 23) hx hb dX2_hullArea_23 (by decide) ?_
      exact ih (x1 + (s_Mesh_areaOf pxs pys co x2)) (x2 + (1 : Int32)) out h ls (lv_sub hl [2, 1, 0] rfl) Kx 
set_option maxHeartbeats 4000000 in
set_option maxRecDepth 100000 in
theorem c_Mesh_hullArea (l : Launch) (K : KT) (ad : Nat → Nat) (pxs : Nat → Int32) (pys : Nat → Int32) (plo : Nat → Int32) (phi : Nat → Int32) (pn : Int32) (pm : Int32) (lf : Nat → Int32) (th : Nat → Int32) (ow : Nat → Int32) (lk : Nat → Int32) (el : Nat → Int32) (eh : Nat → Int32) (co : Nat → Int32) (hu : Nat → Int32) (ne : Int32) (nt : Int32) (nh : Int32) (F : Nat) {o : Int32} (h : s_Mesh_hullArea F pxs pys co nt = some o) : Rd l K 3 yX2_hullArea cX2_hullArea 3 .int [.ref (ad 0)] (wMesh K ad pxs pys plo phi pn pm lf th ow lk el eh co hu ne nt nh) o := by
  refine Rd.of (by decide +kernel) (Nat.le_of_ble_eq_true rfl) ?_
  unfold s_Mesh_hullArea at h
  intro p e s m below meth c hx hb hr hml hown hts hlk hP hG ls hl
  have C0 : Ctx p m c cX2_hullArea 3 s (Array.mk [.ref (ad 0)]) RX2 K meth (some .int) := ⟨hx, hb, hml, hown, hts, hG, hr, hlk⟩
  have hl : lv_has ls 3 [(0, .ref (ad 0))] := hl
  refine lv_iconst (v := (0 : Int32)) (pc := 0) hx hb dX2_hullArea_0 (by decide) ?_
  refine lv_istore_n (pc := 1) (lv' := [(1, .int (0 : Int32)), (0, .ref (ad 0))]) hx hb dX2_hullArea_1 rfl hl (by decide) rfl (fun ls hl => ?_)
  refine lv_iconst (v := (0 : Int32)) (pc := 2) hx hb dX2_hullArea_2 (by decide) ?_
  refine lv_istore_n (pc := 3) (lv' := [(2, .int (0 : Int32)), (1, .int (0 : Int32)), (0, .ref (ad 0))]) hx hb dX2_hullArea_3 rfl hl (by decide) rfl (fun ls hl => ?_)
  obtain ⟨o2, h_o2, h⟩ := ob h
  refine l_Mesh_hullArea_L4 C0 F ad pxs pys plo phi pn pm lf th ow lk el eh co hu ne nt nh hP F (0 : Int32) (0 : Int32) _ h_o2 ls (lv_sub hl [2, 1, 0] rfl) (fun o2x ls eo hl => ?_)
  subst o2
  refine lv_iload_n (pc := 26) hx hb dX2_hullArea_26 rfl (lv_at hl 1 rfl) ?_
  obtain rfl := Option.some.inj h
  exact W.iret hx hb hr (fun t ht hW => ⟨rfl, ht⟩) (fun q hq => absurd hq List.not_mem_nil) dX2_hullArea_27 hlk
set_option maxHeartbeats 4000000 in
set_option maxRecDepth 100000 in
theorem c_Mesh_lengthOf (l : Launch) (K : KT) (ad : Nat → Nat) (pxs : Nat → Int32) (pys : Nat → Int32) (plo : Nat → Int32) (phi : Nat → Int32) (pn : Int32) (pm : Int32) (lf : Nat → Int32) (th : Nat → Int32) (ow : Nat → Int32) (lk : Nat → Int32) (el : Nat → Int32) (eh : Nat → Int32) (co : Nat → Int32) (hu : Nat → Int32) (ne : Int32) (nt : Int32) (nh : Int32) (a0 : Int32) : Rd l K 2 yX2_lengthOf cX2_lengthOf 2 .int [.ref (ad 0), .int a0] (wMesh K ad pxs pys plo phi pn pm lf th ow lk el eh co hu ne nt nh) (s_Mesh_lengthOf pxs pys el eh a0) := by
  generalize h : s_Mesh_lengthOf pxs pys el eh a0 = o
  refine Rd.of (by decide +kernel) (Nat.le_of_ble_eq_true rfl) ?_
  unfold s_Mesh_lengthOf at h
  intro p e s m below meth c hx hb hr hml hown hts hlk hP hG ls hl
  have C0 : Ctx p m c cX2_lengthOf 2 s (Array.mk [.ref (ad 0), .int a0]) RX2 K meth (some .int) := ⟨hx, hb, hml, hown, hts, hG, hr, hlk⟩
  have hl : lv_has ls 2 [(0, .ref (ad 0)), (1, .int a0)] := hl
  refine lv_aload_n (pc := 0) hx hb dX2_lengthOf_0 rfl (lv_at hl 0 rfl) ?_
  refine va_get (D := K.1) (ci := 2) (v := .ref (ad 1)) (C := RX2) (T := TX2) (N := 12) (pc := 1) hx hb hts inT2 hown hG.1 hP 0 rfl rfl 0 (by decide) (hts _ qf_Mesh_9) (fun _ h9 => h9) rfl dX2_lengthOf_1 ?_
  refine lv_aload_n (pc := 4) hx hb dX2_lengthOf_4 rfl (lv_at hl 0 rfl) ?_
  refine va_get (D := K.1) (ci := 2) (v := .ref (ad 18)) (C := RX2) (T := TX2) (N := 12) (pc := 5) hx hb hts inT2 hown hG.1 hP 0 rfl rfl 5 (by decide) (hts _ qf_Mesh_37) (fun _ h9 => h9) rfl dX2_lengthOf_5 ?_
  refine lv_iload_n (pc := 8) hx hb dX2_lengthOf_8 rfl (lv_at hl 1 rfl) ?_
  refine rdV (pc := 9) (As := [.int a0]) (rest := [.ref (ad 1)]) hx hb hml hown hts hG hP (c_Row_get l K (fun k => ad (k + 18)) 42 (by decide) el a0) [18, 19] rfl (q0 := 18) rfl (ci := 4) rfl g_Mesh_127 hd_Row_get rfl ⟨Nat.le_of_ble_eq_true rfl, Nat.le_of_ble_eq_true rfl⟩ ⟨Nat.zero_le _, Nat.zero_le _⟩ hl rfl (Nat.le_of_ble_eq_true rfl) dX2_lengthOf_9 ?_
  refine lv_aload_n (pc := 12) hx hb dX2_lengthOf_12 rfl (lv_at hl 0 rfl) ?_
  refine va_get (D := K.1) (ci := 2) (v := .ref (ad 20)) (C := RX2) (T := TX2) (N := 12) (pc := 13) hx hb hts inT2 hown hG.1 hP 0 rfl rfl 6 (by decide) (hts _ qf_Mesh_40) (fun _ h9 => h9) rfl dX2_lengthOf_13 ?_
  refine lv_iload_n (pc := 16) hx hb dX2_lengthOf_16 rfl (lv_at hl 1 rfl) ?_
  refine rdV (pc := 17) (As := [.int a0]) (rest := [.int (s_Row_get 42 el a0), .ref (ad 1)]) hx hb hml hown hts hG hP (c_Row_get l K (fun k => ad (k + 20)) 42 (by decide) eh a0) [20, 21] rfl (q0 := 20) rfl (ci := 4) rfl g_Mesh_127 hd_Row_get rfl ⟨Nat.le_of_ble_eq_true rfl, Nat.le_of_ble_eq_true rfl⟩ ⟨Nat.zero_le _, Nat.zero_le _⟩ hl rfl (Nat.le_of_ble_eq_true rfl) dX2_lengthOf_17 ?_
  refine rdV (pc := 20) (As := [.int (s_Row_get 42 el a0), .int (s_Row_get 42 eh a0)]) (rest := []) hx hb hml hown hts hG hP (c_Plan_squaredDistance l K (fun k => ad (k + 1)) pxs pys plo phi pn pm (s_Row_get 42 el a0) (s_Row_get 42 eh a0)) [1, 2, 3, 4, 5, 6, 7, 8, 9] rfl (q0 := 1) rfl (ci := 3) rfl g_Mesh_208 hd_Plan_squaredDistance rfl ⟨Nat.le_of_ble_eq_true rfl, Nat.le_of_ble_eq_true rfl⟩ ⟨Nat.zero_le _, Nat.zero_le _⟩ hl rfl (Nat.le_of_ble_eq_true rfl) dX2_lengthOf_20 ?_
  subst h
  exact W.iret hx hb hr (fun t ht hW => ⟨rfl, ht⟩) (fun q hq => absurd hq List.not_mem_nil) dX2_lengthOf_23 hlk
set_option maxHeartbeats 4000000 in
set_option maxRecDepth 100000 in
theorem l_Mesh_leastLength_L8 {p : Program} {l : Launch} {e : Env} {s : State} {m : MethodId} {args : Array Value} {below : List Frame} {meth : Method} {c : Code} {Q : State → Prop} {K : KT} (C0 : Ctx p m c cX2_leastLength 3 s args RX2 K meth (some .int)) (F : Nat) (ad : Nat → Nat) (pxs : Nat → Int32) (pys : Nat → Int32) (plo : Nat → Int32) (phi : Nat → Int32) (pn : Int32) (pm : Int32) (lf : Nat → Int32) (th : Nat → Int32) (ow : Nat → Int32) (lk : Nat → Int32) (el : Nat → Int32) (eh : Nat → Int32) (co : Nat → Int32) (hu : Nat → Int32) (ne : Int32) (nt : Int32) (nh : Int32) (hP : va_P K.1 vC (wMesh K ad pxs pys plo phi pn pm lf th ow lk el eh co hu ne nt nh) s.heap) : ∀ (n : Nat) (x1 : Int32) (x2 : Int32) (out : Int32 × Int32), s_Mesh_leastLength_L8 pxs pys el eh ne n x1 x2 = some out → ∀ (ls : Array Slot), lv_has ls 3 [(0, .ref (ad 0)), (1, .int x1), (2, .int x2)] → (∀ (o : Int32 × Int32) (ls : Array Slot), out = o → lv_has ls 3 [(0, .ref (ad 0)), (1, .int o.1), (2, .int o.2)] → W p l e (rmL 3) s m args below meth c s.heap [] 0 0 Q (F0 m 32 ls [])) → W p l e (rmL 3) s m args below meth c s.heap [] 0 0 Q (F0 m 8 ls []) := by
  obtain ⟨hx, hb, hml, hown, hts, hG, hr, hlk⟩ := id C0
  intro n
  induction n with
  | zero =>
    intro x1 x2 out h
    cases h
  | succ n ih =>
    intro x1 x2 out h ls hl Kx 
    rw [s_Mesh_leastLength_L8.eq_2] at h
    refine lv_iload_n (pc := 8) hx hb dX2_leastLength_8 rfl (lv_at hl 2 rfl) ?_
    refine lv_aload_n (pc := 9) hx hb dX2_leastLength_9 rfl (lv_at hl 0 rfl) ?_
    refine va_get (D := K.1) (ci := 2) (v := .int ne) (C := RX2) (T := TX2) (N := 12) (pc := 10) hx hb hts inT2 hown hG.1 hP 0 rfl rfl 9 (by decide) (hts _ qf_Mesh_49) (fun _ h9 => h9) rfl dX2_leastLength_10 ?_
    refine lv_icmp_ge (tgt := 32) (pc := 13) hx hb dX2_leastLength_13 (by decide) (fun c1 => ?_) (fun c1 => ?_)
    · have h := it_t c1 h
      obtain rfl := Option.some.inj h
      exact Kx _ ls rfl (lv_sub hl [0, 1, 2] rfl)
    · have h := it_f c1 h
      refine lv_iload_n (pc := 16) hx hb dX2_leastLength_16 rfl (lv_at hl 1 rfl) ?_
      refine lv_aload_n (pc := 17) hx hb dX2_leastLength_17 rfl (lv_at hl 0 rfl) ?_
      refine lv_iload_n (pc := 18) hx hb dX2_leastLength_18 rfl (lv_at hl 2 rfl) ?_
      refine rdV (pc := 19) (As := [.int x2]) (rest := [.int x1]) hx hb hml hown hts hG hP (c_Mesh_lengthOf l K ad pxs pys plo phi pn pm lf th ow lk el eh co hu ne nt nh x2) [0, 1, 2, 3, 4, 5, 6, 7, 8, 9, 10, 11, 12, 13, 14, 15, 16, 17, 18, 19, 20, 21, 22, 23, 24, 25] rfl (q0 := 0) rfl (ci := 2) rfl g_Mesh_211 hd_Mesh_lengthOf rfl ⟨Nat.le_of_ble_eq_true rfl, Nat.le_of_ble_eq_true rfl⟩ ⟨Nat.zero_le _, Nat.zero_le _⟩ hl rfl (Nat.le_of_ble_eq_true rfl) dX2_leastLength_19 ?_
      refine my_mmin (pc := 22) hx hb hml hl.1 hown hts qm_Mesh_188 (Nat.le_of_ble_eq_true rfl) (Nat.le_of_ble_eq_true rfl) ⟨Nat.zero_le _, Nat.zero_le _⟩ dX2_leastLength_22 ?_
      refine lv_istore_n (pc := 25) (lv' := [(1, .int (imin x1 (s_Mesh_lengthOf pxs pys el eh x2))), (0, .ref (ad 0)), (2, .int x2)]) hx hb dX2_leastLength_25 rfl hl (by decide) rfl (fun ls hl => ?_)
      refine lv_iinc (v := (x2 + (1 : Int32))) (pc := 26) (lv' := [(2, .int (x2 + (1 : Int32))), (1, .int (imin x1 (s_Mesh_lengthOf pxs pys el eh x2))), (0, .ref (ad 0))]) hx hb dX2_leastLength_26 hl (k := 2) rfl rfl (by decide) rfl (fun ls hl => ?_)
      refine lv_goto (tgt := 8) (pc := 29) hx hb dX2_leastLength_29 (by decide) ?_
      exact ih (imin x1 (s_Mesh_lengthOf pxs pys el eh x2)) (x2 + (1 : Int32)) out h ls (lv_sub hl [2, 1, 0] rfl) Kx 
set_option maxHeartbeats 4000000 in
set_option maxRecDepth 100000 in
theorem c_Mesh_leastLength (l : Launch) (K : KT) (ad : Nat → Nat) (pxs : Nat → Int32) (pys : Nat → Int32) (plo : Nat → Int32) (phi : Nat → Int32) (pn : Int32) (pm : Int32) (lf : Nat → Int32) (th : Nat → Int32) (ow : Nat → Int32) (lk : Nat → Int32) (el : Nat → Int32) (eh : Nat → Int32) (co : Nat → Int32) (hu : Nat → Int32) (ne : Int32) (nt : Int32) (nh : Int32) (F : Nat) {o : Int32} (h : s_Mesh_leastLength F pxs pys el eh ne = some o) : Rd l K 3 yX2_leastLength cX2_leastLength 3 .int [.ref (ad 0)] (wMesh K ad pxs pys plo phi pn pm lf th ow lk el eh co hu ne nt nh) o := by
  refine Rd.of (by decide +kernel) (Nat.le_of_ble_eq_true rfl) ?_
  unfold s_Mesh_leastLength at h
  intro p e s m below meth c hx hb hr hml hown hts hlk hP hG ls hl
  have C0 : Ctx p m c cX2_leastLength 3 s (Array.mk [.ref (ad 0)]) RX2 K meth (some .int) := ⟨hx, hb, hml, hown, hts, hG, hr, hlk⟩
  have hl : lv_has ls 3 [(0, .ref (ad 0))] := hl
  refine lv_aload_n (pc := 0) hx hb dX2_leastLength_0 rfl (lv_at hl 0 rfl) ?_
  refine lv_iconst (v := (0 : Int32)) (pc := 1) hx hb dX2_leastLength_1 (by decide) ?_
  refine rdV (pc := 2) (As := [.int (0 : Int32)]) (rest := []) hx hb hml hown hts hG hP (c_Mesh_lengthOf l K ad pxs pys plo phi pn pm lf th ow lk el eh co hu ne nt nh (0 : Int32)) [0, 1, 2, 3, 4, 5, 6, 7, 8, 9, 10, 11, 12, 13, 14, 15, 16, 17, 18, 19, 20, 21, 22, 23, 24, 25] rfl (q0 := 0) rfl (ci := 2) rfl g_Mesh_211 hd_Mesh_lengthOf rfl ⟨Nat.le_of_ble_eq_true rfl, Nat.le_of_ble_eq_true rfl⟩ ⟨Nat.zero_le _, Nat.zero_le _⟩ hl rfl (Nat.le_of_ble_eq_true rfl) dX2_leastLength_2 ?_
  refine lv_istore_n (pc := 5) (lv' := [(1, .int (s_Mesh_lengthOf pxs pys el eh (0 : Int32))), (0, .ref (ad 0))]) hx hb dX2_leastLength_5 rfl hl (by decide) rfl (fun ls hl => ?_)
  refine lv_iconst (v := (1 : Int32)) (pc := 6) hx hb dX2_leastLength_6 (by decide) ?_
  refine lv_istore_n (pc := 7) (lv' := [(2, .int (1 : Int32)), (1, .int (s_Mesh_lengthOf pxs pys el eh (0 : Int32))), (0, .ref (ad 0))]) hx hb dX2_leastLength_7 rfl hl (by decide) rfl (fun ls hl => ?_)
  obtain ⟨o2, h_o2, h⟩ := ob h
  refine l_Mesh_leastLength_L8 C0 F ad pxs pys plo phi pn pm lf th ow lk el eh co hu ne nt nh hP F (s_Mesh_lengthOf pxs pys el eh (0 : Int32)) (1 : Int32) _ h_o2 ls (lv_sub hl [2, 1, 0] rfl) (fun o2x ls eo hl => ?_)
  subst o2
  refine lv_iload_n (pc := 32) hx hb dX2_leastLength_32 rfl (lv_at hl 1 rfl) ?_
  obtain rfl := Option.some.inj h
  exact W.iret hx hb hr (fun t ht hW => ⟨rfl, ht⟩) (fun q hq => absurd hq List.not_mem_nil) dX2_leastLength_33 hlk
set_option maxHeartbeats 4000000 in
set_option maxRecDepth 100000 in
theorem l_Mesh_greatestLength_L8 {p : Program} {l : Launch} {e : Env} {s : State} {m : MethodId} {args : Array Value} {below : List Frame} {meth : Method} {c : Code} {Q : State → Prop} {K : KT} (C0 : Ctx p m c cX2_greatestLength 3 s args RX2 K meth (some .int)) (F : Nat) (ad : Nat → Nat) (pxs : Nat → Int32) (pys : Nat → Int32) (plo : Nat → Int32) (phi : Nat → Int32) (pn : Int32) (pm : Int32) (lf : Nat → Int32) (th : Nat → Int32) (ow : Nat → Int32) (lk : Nat → Int32) (el : Nat → Int32) (eh : Nat → Int32) (co : Nat → Int32) (hu : Nat → Int32) (ne : Int32) (nt : Int32) (nh : Int32) (hP : va_P K.1 vC (wMesh K ad pxs pys plo phi pn pm lf th ow lk el eh co hu ne nt nh) s.heap) : ∀ (n : Nat) (x1 : Int32) (x2 : Int32) (out : Int32 × Int32), s_Mesh_greatestLength_L8 pxs pys el eh ne n x1 x2 = some out → ∀ (ls : Array Slot), lv_has ls 3 [(0, .ref (ad 0)), (1, .int x1), (2, .int x2)] → (∀ (o : Int32 × Int32) (ls : Array Slot), out = o → lv_has ls 3 [(0, .ref (ad 0)), (1, .int o.1), (2, .int o.2)] → W p l e (rmL 3) s m args below meth c s.heap [] 0 0 Q (F0 m 32 ls [])) → W p l e (rmL 3) s m args below meth c s.heap [] 0 0 Q (F0 m 8 ls []) := by
  obtain ⟨hx, hb, hml, hown, hts, hG, hr, hlk⟩ := id C0
  intro n
  induction n with
  | zero =>
    intro x1 x2 out h
    cases h
  | succ n ih =>
    intro x1 x2 out h ls hl Kx 
    rw [s_Mesh_greatestLength_L8.eq_2] at h
    refine lv_iload_n (pc := 8) hx hb dX2_greatestLength_8 rfl (lv_at hl 2 rfl) ?_
    refine lv_aload_n (pc := 9) hx hb dX2_greatestLength_9 rfl (lv_at hl 0 rfl) ?_
    refine va_get (D := K.1) (ci := 2) (v := .int ne) (C := RX2) (T := TX2) (N := 12) (pc := 10) hx hb hts inT2 hown hG.1 hP 0 rfl rfl 9 (by decide) (hts _ qf_Mesh_49) (fun _ h9 => h9) rfl dX2_greatestLength_10 ?_
    refine lv_icmp_ge (tgt := 32) (pc := 13) hx hb dX2_greatestLength_13 (by decide) (fun c1 => ?_) (fun c1 => ?_)
    · have h := it_t c1 h
      obtain rfl := Option.some.inj h
      exact Kx _ ls rfl (lv_sub hl [0, 1, 2] rfl)
    · have h := it_f c1 h
      refine lv_iload_n (pc := 16) hx hb dX2_greatestLength_16 rfl (lv_at hl 1 rfl) ?_
      refine lv_aload_n (pc := 17) hx hb dX2_greatestLength_17 rfl (lv_at hl 0 rfl) ?_
      refine lv_iload_n (pc := 18) hx hb dX2_greatestLength_18 rfl (lv_at hl 2 rfl) ?_
      refine rdV (pc := 19) (As := [.int x2]) (rest := [.int x1]) hx hb hml hown hts hG hP (c_Mesh_lengthOf l K ad pxs pys plo phi pn pm lf th ow lk el eh co hu ne nt nh x2) [0, 1, 2, 3, 4, 5, 6, 7, 8, 9, 10, 11, 12, 13, 14, 15, 16, 17, 18, 19, 20, 21, 22, 23, 24, 25] rfl (q0 := 0) rfl (ci := 2) rfl g_Mesh_211 hd_Mesh_lengthOf rfl ⟨Nat.le_of_ble_eq_true rfl, Nat.le_of_ble_eq_true rfl⟩ ⟨Nat.zero_le _, Nat.zero_le _⟩ hl rfl (Nat.le_of_ble_eq_true rfl) dX2_greatestLength_19 ?_
      refine my_mmax (pc := 22) hx hb hml hl.1 hown hts qm_Mesh_168 (Nat.le_of_ble_eq_true rfl) (Nat.le_of_ble_eq_true rfl) ⟨Nat.zero_le _, Nat.zero_le _⟩ dX2_greatestLength_22 ?_
      refine lv_istore_n (pc := 25) (lv' := [(1, .int (imax x1 (s_Mesh_lengthOf pxs pys el eh x2))), (0, .ref (ad 0)), (2, .int x2)]) hx hb dX2_greatestLength_25 rfl hl (by decide) rfl (fun ls hl => ?_)
      refine lv_iinc (v := (x2 + (1 : Int32))) (pc := 26) (lv' := [(2, .int (x2 + (1 : Int32))), (1, .int (imax x1 (s_Mesh_lengthOf pxs pys el eh x2))), (0, .ref (ad 0))]) hx hb dX2_greatestLength_26 hl (k := 2) rfl rfl (by decide) rfl (fun ls hl => ?_)
      refine lv_goto (tgt := 8) (pc := 29) hx hb dX2_greatestLength_29 (by decide) ?_
      exact ih (imax x1 (s_Mesh_lengthOf pxs pys el eh x2)) (x2 + (1 : Int32)) out h ls (lv_sub hl [2, 1, 0] rfl) Kx 
set_option maxHeartbeats 4000000 in
set_option maxRecDepth 100000 in
theorem c_Mesh_greatestLength (l : Launch) (K : KT) (ad : Nat → Nat) (pxs : Nat → Int32) (pys : Nat → Int32) (plo : Nat → Int32) (phi : Nat → Int32) (pn : Int32) (pm : Int32) (lf : Nat → Int32) (th : Nat → Int32) (ow : Nat → Int32) (lk : Nat → Int32) (el : Nat → Int32) (eh : Nat → Int32) (co : Nat → Int32) (hu : Nat → Int32) (ne : Int32) (nt : Int32) (nh : Int32) (F : Nat) {o : Int32} (h : s_Mesh_greatestLength F pxs pys el eh ne = some o) : Rd l K 3 yX2_greatestLength cX2_greatestLength 3 .int [.ref (ad 0)] (wMesh K ad pxs pys plo phi pn pm lf th ow lk el eh co hu ne nt nh) o := by
  refine Rd.of (by decide +kernel) (Nat.le_of_ble_eq_true rfl) ?_
  unfold s_Mesh_greatestLength at h
  intro p e s m below meth c hx hb hr hml hown hts hlk hP hG ls hl
  have C0 : Ctx p m c cX2_greatestLength 3 s (Array.mk [.ref (ad 0)]) RX2 K meth (some .int) := ⟨hx, hb, hml, hown, hts, hG, hr, hlk⟩
  have hl : lv_has ls 3 [(0, .ref (ad 0))] := hl
  refine lv_aload_n (pc := 0) hx hb dX2_greatestLength_0 rfl (lv_at hl 0 rfl) ?_
  refine lv_iconst (v := (0 : Int32)) (pc := 1) hx hb dX2_greatestLength_1 (by decide) ?_
  refine rdV (pc := 2) (As := [.int (0 : Int32)]) (rest := []) hx hb hml hown hts hG hP (c_Mesh_lengthOf l K ad pxs pys plo phi pn pm lf th ow lk el eh co hu ne nt nh (0 : Int32)) [0, 1, 2, 3, 4, 5, 6, 7, 8, 9, 10, 11, 12, 13, 14, 15, 16, 17, 18, 19, 20, 21, 22, 23, 24, 25] rfl (q0 := 0) rfl (ci := 2) rfl g_Mesh_211 hd_Mesh_lengthOf rfl ⟨Nat.le_of_ble_eq_true rfl, Nat.le_of_ble_eq_true rfl⟩ ⟨Nat.zero_le _, Nat.zero_le _⟩ hl rfl (Nat.le_of_ble_eq_true rfl) dX2_greatestLength_2 ?_
  refine lv_istore_n (pc := 5) (lv' := [(1, .int (s_Mesh_lengthOf pxs pys el eh (0 : Int32))), (0, .ref (ad 0))]) hx hb dX2_greatestLength_5 rfl hl (by decide) rfl (fun ls hl => ?_)
  refine lv_iconst (v := (1 : Int32)) (pc := 6) hx hb dX2_greatestLength_6 (by decide) ?_
  refine lv_istore_n (pc := 7) (lv' := [(2, .int (1 : Int32)), (1, .int (s_Mesh_lengthOf pxs pys el eh (0 : Int32))), (0, .ref (ad 0))]) hx hb dX2_greatestLength_7 rfl hl (by decide) rfl (fun ls hl => ?_)
  obtain ⟨o2, h_o2, h⟩ := ob h
  refine l_Mesh_greatestLength_L8 C0 F ad pxs pys plo phi pn pm lf th ow lk el eh co hu ne nt nh hP F (s_Mesh_lengthOf pxs pys el eh (0 : Int32)) (1 : Int32) _ h_o2 ls (lv_sub hl [2, 1, 0] rfl) (fun o2x ls eo hl => ?_)
  subst o2
  refine lv_iload_n (pc := 32) hx hb dX2_greatestLength_32 rfl (lv_at hl 1 rfl) ?_
  obtain rfl := Option.some.inj h
  exact W.iret hx hb hr (fun t ht hW => ⟨rfl, ht⟩) (fun q hq => absurd hq List.not_mem_nil) dX2_greatestLength_33 hlk
set_option maxHeartbeats 4000000 in
set_option maxRecDepth 100000 in
theorem l_Mesh_shortestLeaving_L4 {p : Program} {l : Launch} {e : Env} {s : State} {m : MethodId} {args : Array Value} {below : List Frame} {meth : Method} {c : Code} {Q : State → Prop} {K : KT} (C0 : Ctx p m c cX2_shortestLeaving 5 s args RX2 K meth (some .int)) (F : Nat) (ad : Nat → Nat) (pxs : Nat → Int32) (pys : Nat → Int32) (plo : Nat → Int32) (phi : Nat → Int32) (pn : Int32) (pm : Int32) (lf : Nat → Int32) (th : Nat → Int32) (ow : Nat → Int32) (lk : Nat → Int32) (el : Nat → Int32) (eh : Nat → Int32) (co : Nat → Int32) (hu : Nat → Int32) (ne : Int32) (nt : Int32) (nh : Int32) (x1 : Int32) (hP : va_P K.1 vC (wMesh K ad pxs pys plo phi pn pm lf th ow lk el eh co hu ne nt nh) s.heap) : ∀ (n : Nat) (x2 : Int32) (x3 : Int32) (out : Int32 × Int32), s_Mesh_shortestLeaving_L4 pxs pys el eh ne x1 n x2 x3 = some out → ∀ (ls : Array Slot), lv_has ls 5 [(0, .ref (ad 0)), (1, .int x1), (2, .int x2), (3, .int x3)] → (∀ (o : Int32 × Int32) (ls : Array Slot), out = o → lv_has ls 5 [(0, .ref (ad 0)), (1, .int x1), (2, .int o.1), (3, .int o.2)] → W p l e (rmL 3) s m args below meth c s.heap [] 0 0 Q (F0 m 76 ls [])) → W p l e (rmL 3) s m args below meth c s.heap [] 0 0 Q (F0 m 4 ls []) := by
  obtain ⟨hx, hb, hml, hown, hts, hG, hr, hlk⟩ := id C0
  intro n
  induction n with
  | zero =>
    intro x2 x3 out h
    cases h
  | succ n ih =>
    intro x2 x3 out h ls hl Kx 
    rw [s_Mesh_shortestLeaving_L4.eq_2] at h
    refine lv_iload_n (pc := 4) hx hb dX2_shortestLeaving_4 rfl (lv_at hl 3 rfl) ?_
    refine lv_aload_n (pc := 5) hx hb dX2_shortestLeaving_5 rfl (lv_at hl 0 rfl) ?_
    refine va_get (D := K.1) (ci := 2) (v := .int ne) (C := RX2) (T := TX2) (N := 12) (pc := 6) hx hb hts inT2 hown hG.1 hP 0 rfl rfl 9 (by decide) (hts _ qf_Mesh_49) (fun _ h9 => h9) rfl dX2_shortestLeaving_6 ?_
    refine lv_icmp_ge (tgt := 76) (pc := 9) hx hb dX2_shortestLeaving_9 (by decide) (fun c1 => ?_) (fun c1 => ?_)
    · have h := it_t c1 h
      obtain rfl := Option.some.inj h
      exact Kx _ ls rfl (lv_sub hl [0, 1, 2, 3] rfl)
    · have h := it_f c1 h
      refine lv_iload_n (pc := 12) hx hb dX2_shortestLeaving_12 rfl (lv_at hl 1 rfl) ?_
      refine lv_aload_n (pc := 13) hx hb dX2_shortestLeaving_13 rfl (lv_at hl 0 rfl) ?_
      refine va_get (D := K.1) (ci := 2) (v := .ref (ad 18)) (C := RX2) (T := TX2) (N := 12) (pc := 14) hx hb hts inT2 hown hG.1 hP 0 rfl rfl 5 (by decide) (hts _ qf_Mesh_37) (fun _ h9 => h9) rfl dX2_shortestLeaving_14 ?_
      refine lv_iload_n (pc := 17) hx hb dX2_shortestLeaving_17 rfl (lv_at hl 3 rfl) ?_
      refine rdV (pc := 18) (As := [.int x3]) (rest := [.int x1]) hx hb hml hown hts hG hP (c_Row_get l K (fun k => ad (k + 18)) 42 (by decide) el x3) [18, 19] rfl (q0 := 18) rfl (ci := 4) rfl g_Mesh_127 hd_Row_get rfl ⟨Nat.le_of_ble_eq_true rfl, Nat.le_of_ble_eq_true rfl⟩ ⟨Nat.zero_le _, Nat.zero_le _⟩ hl rfl (Nat.le_of_ble_eq_true rfl) dX2_shortestLeaving_18 ?_
      refine lv_ishr (pc := 21) hx hb dX2_shortestLeaving_21 ?_
      refine lv_iload_n (pc := 22) hx hb dX2_shortestLeaving_22 rfl (lv_at hl 1 rfl) ?_
      refine lv_aload_n (pc := 23) hx hb dX2_shortestLeaving_23 rfl (lv_at hl 0 rfl) ?_
      refine va_get (D := K.1) (ci := 2) (v := .ref (ad 20)) (C := RX2) (T := TX2) (N := 12) (pc := 24) hx hb hts inT2 hown hG.1 hP 0 rfl rfl 6 (by decide) (hts _ qf_Mesh_40) (fun _ h9 => h9) rfl dX2_shortestLeaving_24 ?_
      refine lv_iload_n (pc := 27) hx hb dX2_shortestLeaving_27 rfl (lv_at hl 3 rfl) ?_
      refine rdV (pc := 28) (As := [.int x3]) (rest := [.int x1, .int (x1 >>> ((s_Row_get 42 el x3) &&& 31))]) hx hb hml hown hts hG hP (c_Row_get l K (fun k => ad (k + 20)) 42 (by decide) eh x3) [20, 21] rfl (q0 := 20) rfl (ci := 4) rfl g_Mesh_127 hd_Row_get rfl ⟨Nat.le_of_ble_eq_true rfl, Nat.le_of_ble_eq_true rfl⟩ ⟨Nat.zero_le _, Nat.zero_le _⟩ hl rfl (Nat.le_of_ble_eq_true rfl) dX2_shortestLeaving_28 ?_
      refine lv_ishr (pc := 31) hx hb dX2_shortestLeaving_31 ?_
      refine lv_ixor (pc := 32) hx hb dX2_shortestLeaving_32 ?_
      refine lv_iconst (v := (1 : Int32)) (pc := 33) hx hb dX2_shortestLeaving_33 (by decide) ?_
      refine lv_iand (pc := 34) hx hb dX2_shortestLeaving_34 ?_
      refine lv_if_eq (tgt := 42) (pc := 35) hx hb dX2_shortestLeaving_35 (by decide) (fun c2 => ?_) (fun c2 => ?_)
      · have h := it_t c2 h
        refine lv_iconst (v := (0 : Int32)) (pc := 42) hx hb dX2_shortestLeaving_42 (by decide) ?_
        refine lv_istore (pc := 43) (lv' := [(4, .int (0 : Int32)), (0, .ref (ad 0)), (1, .int x1), (2, .int x2), (3, .int x3)]) hx hb dX2_shortestLeaving_43 hl (by decide) rfl (fun ls hl => ?_)
        refine lv_iload (pc := 45) hx hb dX2_shortestLeaving_45 (lv_at hl 0 rfl) ?_
        refine lv_if_eq (tgt := 70) (pc := 47) hx hb dX2_shortestLeaving_47 (by decide) (fun c3 => ?_) (fun c3 => ?_)
        · have h := it_t c3 h
          refine lv_iinc (v := (x3 + (1 : Int32))) (pc := 70) (lv' := [(3, .int (x3 + (1 : Int32))), (4, .int (0 : Int32)), (0, .ref (ad 0)), (1, .int x1), (2, .int x2)]) hx hb dX2_shortestLeaving_70 hl (k := 4) rfl rfl (by decide) rfl (fun ls hl => ?_)
          refine lv_goto (tgt := 4) (pc := 73) hx hb dX2_shortestLeaving_73 (by decide) ?_
          exact ih x2 (x3 + (1 : Int32)) out h ls (lv_sub hl [2, 3, 4, 0] rfl) Kx 
        · have h := it_f c3 h
          refine lv_iload_n (pc := 50) hx hb dX2_shortestLeaving_50 rfl (lv_at hl 3 rfl) ?_
          refine lv_iconst (v := (-1 : Int32)) (pc := 51) hx hb dX2_shortestLeaving_51 (by decide) ?_
          refine lv_icmp_eq (tgt := 68) (pc := 52) hx hb dX2_shortestLeaving_52 (by decide) (fun c4 => ?_) (fun c4 => ?_)
          · have h := it_t c4 h
            refine lv_iload_n (pc := 68) hx hb dX2_shortestLeaving_68 rfl (lv_at hl 4 rfl) ?_
            refine lv_istore_n (pc := 69) (lv' := [(2, .int x3), (4, .int (0 : Int32)), (0, .ref (ad 0)), (1, .int x1), (3, .int x3)]) hx hb dX2_shortestLeaving_69 rfl hl (by decide) rfl (fun ls hl => ?_)
            refine lv_iinc (v := (x3 + (1 : Int32))) (pc := 70) (lv' := [(3, .int (x3 + (1 : Int32))), (2, .int x3), (4, .int (0 : Int32)), (0, .ref (ad 0)), (1, .int x1)]) hx hb dX2_shortestLeaving_70 hl (k := 4) rfl rfl (by decide) rfl (fun ls hl => ?_)
            refine lv_goto (tgt := 4) (pc := 73) hx hb dX2_shortestLeaving_73 (by decide) ?_
            exact ih x3 (x3 + (1 : Int32)) out h ls (lv_sub hl [3, 4, 1, 0] rfl) Kx 
          · have h := it_f c4 h
            refine lv_aload_n (pc := 55) hx hb dX2_shortestLeaving_55 rfl (lv_at hl 1 rfl) ?_
            refine lv_iload_n (pc := 56) hx hb dX2_shortestLeaving_56 rfl (lv_at hl 4 rfl) ?_
            refine rdV (pc := 57) (As := [.int x3]) (rest := []) hx hb hml hown hts hG hP (c_Mesh_lengthOf l K ad pxs pys plo phi pn pm lf th ow lk el eh co hu ne nt nh x3) [0, 1, 2, 3, 4, 5, 6, 7, 8, 9, 10, 11, 12, 13, 14, 15, 16, 17, 18, 19, 20, 21, 22, 23, 24, 25] rfl (q0 := 0) rfl (ci := 2) rfl g_Mesh_211 hd_Mesh_lengthOf rfl ⟨Nat.le_of_ble_eq_true rfl, Nat.le_of_ble_eq_true rfl⟩ ⟨Nat.zero_le _, Nat.zero_le _⟩ hl rfl (Nat.le_of_ble_eq_true rfl) dX2_shortestLeaving_57 ?_
            refine lv_aload_n (pc := 60) hx hb dX2_shortestLeaving_60 rfl (lv_at hl 1 rfl) ?_
            refine lv_iload_n (pc := 61) hx hb dX2_shortestLeaving_61 rfl (lv_at hl 3 rfl) ?_
            refine rdV (pc := 62) (As := [.int x2]) (rest := [.int (s_Mesh_lengthOf pxs pys el eh x3)]) hx hb hml hown hts hG hP (c_Mesh_lengthOf l K ad pxs pys plo phi pn pm lf th ow lk el eh co hu ne nt nh x2) [0, 1, 2, 3, 4, 5, 6, 7, 8, 9, 10, 11, 12, 13, 14, 15, 16, 17, 18, 19, 20, 21, 22, 23, 24, 25] rfl (q0 := 0) rfl (ci := 2) rfl g_Mesh_211 hd_Mesh_lengthOf rfl ⟨Nat.le_of_ble_eq_true rfl, Nat.le_of_ble_eq_true rfl⟩ ⟨Nat.zero_le _, Nat.zero_le _⟩ hl rfl (Nat.le_of_ble_eq_true rfl) dX2_shortestLeaving_62 ?_
            refine lv_icmp_ge (tgt := 70) (pc := 65) hx hb dX2_shortestLeaving_65 (by decide) (fun c5 => ?_) (fun c5 => ?_)
            · have h := it_t c5 h
              refine lv_iinc (v := (x3 + (1 : Int32))) (pc := 70) (lv' := [(3, .int (x3 + (1 : Int32))), (4, .int (0 : Int32)), (0, .ref (ad 0)), (1, .int x1), (2, .int x2)]) hx hb dX2_shortestLeaving_70 hl (k := 4) rfl rfl (by decide) rfl (fun ls hl => ?_)
              refine lv_goto (tgt := 4) (pc := 73) hx hb dX2_shortestLeaving_73 (by decide) ?_
              exact ih x2 (x3 + (1 : Int32)) out h ls (lv_sub hl [2, 3, 4, 0] rfl) Kx 
            · have h := it_f c5 h
              refine lv_iload_n (pc := 68) hx hb dX2_shortestLeaving_68 rfl (lv_at hl 4 rfl) ?_
              refine lv_istore_n (pc := 69) (lv' := [(2, .int x3), (4, .int (0 : Int32)), (0, .ref (ad 0)), (1, .int x1), (3, .int x3)]) hx hb dX2_shortestLeaving_69 rfl hl (by decide) rfl (fun ls hl => ?_)
              refine lv_iinc (v := (x3 + (1 : Int32))) (pc := 70) (lv' := [(3, .int (x3 + (1 : Int32))), (2, .int x3), (4, .int (0 : Int32)), (0, .ref (ad 0)), (1, .int x1)]) hx hb dX2_shortestLeaving_70 hl (k := 4) rfl rfl (by decide) rfl (fun ls hl => ?_)
              refine lv_goto (tgt := 4) (pc := 73) hx hb dX2_shortestLeaving_73 (by decide) ?_
              exact ih x3 (x3 + (1 : Int32)) out h ls (lv_sub hl [3, 4, 1, 0] rfl) Kx 
      · have h := it_f c2 h
        refine lv_iconst (v := (1 : Int32)) (pc := 38) hx hb dX2_shortestLeaving_38 (by decide) ?_
        refine lv_goto (tgt := 43) (pc := 39) hx hb dX2_shortestLeaving_39 (by decide) ?_
        refine lv_istore (pc := 43) (lv' := [(4, .int (1 : Int32)), (0, .ref (ad 0)), (1, .int x1), (2, .int x2), (3, .int x3)]) hx hb dX2_shortestLeaving_43 hl (by decide) rfl (fun ls hl => ?_)
        refine lv_iload (pc := 45) hx hb dX2_shortestLeaving_45 (lv_at hl 0 rfl) ?_
        refine lv_if_eq (tgt := 70) (pc := 47) hx hb dX2_shortestLeaving_47 (by decide) (fun c6 => ?_) (fun c6 => ?_)
        · have h := it_t c6 h
          refine lv_iinc (v := (x3 + (1 : Int32))) (pc := 70) (lv' := [(3, .int (x3 + (1 : Int32))), (4, .int (1 : Int32)), (0, .ref (ad 0)), (1, .int x1), (2, .int x2)]) hx hb dX2_shortestLeaving_70 hl (k := 4) rfl rfl (by decide) rfl (fun ls hl => ?_)
          refine lv_goto (tgt := 4) (pc := 73) hx hb dX2_shortestLeaving_73 (by decide) ?_
          exact ih x2 (x3 + (1 : Int32)) out h ls (lv_sub hl [2, 3, 4, 0] rfl) Kx 
        · have h := it_f c6 h
          refine lv_iload_n (pc := 50) hx hb dX2_shortestLeaving_50 rfl (lv_at hl 3 rfl) ?_
          refine lv_iconst (v := (-1 : Int32)) (pc := 51) hx hb dX2_shortestLeaving_51 (by decide) ?_
          refine lv_icmp_eq (tgt := 68) (pc := 52) hx hb dX2_shortestLeaving_52 (by decide) (fun c7 => ?_) (fun c7 => ?_)
          · have h := it_t c7 h
            refine lv_iload_n (pc := 68) hx hb dX2_shortestLeaving_68 rfl (lv_at hl 4 rfl) ?_
            refine lv_istore_n (pc := 69) (lv' := [(2, .int x3), (4, .int (1 : Int32)), (0, .ref (ad 0)), (1, .int x1), (3, .int x3)]) hx hb dX2_shortestLeaving_69 rfl hl (by decide) rfl (fun ls hl => ?_)
            refine lv_iinc (v := (x3 + (1 : Int32))) (pc := 70) (lv' := [(3, .int (x3 + (1 : Int32))), (2, .int x3), (4, .int (1 : Int32)), (0, .ref (ad 0)), (1, .int x1)]) hx hb dX2_shortestLeaving_70 hl (k := 4) rfl rfl (by decide) rfl (fun ls hl => ?_)
            refine lv_goto (tgt := 4) (pc := 73) hx hb dX2_shortestLeaving_73 (by decide) ?_
            exact ih x3 (x3 + (1 : Int32)) out h ls (lv_sub hl [3, 4, 1, 0] rfl) Kx 
          · have h := it_f c7 h
            refine lv_aload_n (pc := 55) hx hb dX2_shortestLeaving_55 rfl (lv_at hl 1 rfl) ?_
            refine lv_iload_n (pc := 56) hx hb dX2_shortestLeaving_56 rfl (lv_at hl 4 rfl) ?_
            refine rdV (pc := 57) (As := [.int x3]) (rest := []) hx hb hml hown hts hG hP (c_Mesh_lengthOf l K ad pxs pys plo phi pn pm lf th ow lk el eh co hu ne nt nh x3) [0, 1, 2, 3, 4, 5, 6, 7, 8, 9, 10, 11, 12, 13, 14, 15, 16, 17, 18, 19, 20, 21, 22, 23, 24, 25] rfl (q0 := 0) rfl (ci := 2) rfl g_Mesh_211 hd_Mesh_lengthOf rfl ⟨Nat.le_of_ble_eq_true rfl, Nat.le_of_ble_eq_true rfl⟩ ⟨Nat.zero_le _, Nat.zero_le _⟩ hl rfl (Nat.le_of_ble_eq_true rfl) dX2_shortestLeaving_57 ?_
            refine lv_aload_n (pc := 60) hx hb dX2_shortestLeaving_60 rfl (lv_at hl 1 rfl) ?_
            refine lv_iload_n (pc := 61) hx hb dX2_shortestLeaving_61 rfl (lv_at hl 3 rfl) ?_
            refine rdV (pc := 62) (As := [.int x2]) (rest := [.int (s_Mesh_lengthOf pxs pys el eh x3)]) hx hb hml hown hts hG hP (c_Mesh_lengthOf l K ad pxs pys plo phi pn pm lf th ow lk el eh co hu ne nt nh x2) [0, 1, 2, 3, 4, 5, 6, 7, 8, 9, 10, 11, 12, 13, 14, 15, 16, 17, 18, 19, 20, 21, 22, 23, 24, 25] rfl (q0 := 0) rfl (ci := 2) rfl g_Mesh_211 hd_Mesh_lengthOf rfl ⟨Nat.le_of_ble_eq_true rfl, Nat.le_of_ble_eq_true rfl⟩ ⟨Nat.zero_le _, Nat.zero_le _⟩ hl rfl (Nat.le_of_ble_eq_true rfl) dX2_shortestLeaving_62 ?_
            refine lv_icmp_ge (tgt := 70) (pc := 65) hx hb dX2_shortestLeaving_65 (by decide) (fun c8 => ?_) (fun c8 => ?_)
            · have h := it_t c8 h
              refine lv_iinc (v := (x3 + (1 : Int32))) (pc := 70) (lv' := [(3, .int (x3 + (1 : Int32))), (4, .int (1 : Int32)), (0, .ref (ad 0)), (1, .int x1), (2, .int x2)]) hx hb dX2_shortestLeaving_70 hl (k := 4) rfl rfl (by decide) rfl (fun ls hl => ?_)
              refine lv_goto (tgt := 4) (pc := 73) hx hb dX2_shortestLeaving_73 (by decide) ?_
              exact ih x2 (x3 + (1 : Int32)) out h ls (lv_sub hl [2, 3, 4, 0] rfl) Kx 
            · have h := it_f c8 h
              refine lv_iload_n (pc := 68) hx hb dX2_shortestLeaving_68 rfl (lv_at hl 4 rfl) ?_
              refine lv_istore_n (pc := 69) (lv' := [(2, .int x3), (4, .int (1 : Int32)), (0, .ref (ad 0)), (1, .int x1), (3, .int x3)]) hx hb dX2_shortestLeaving_69 rfl hl (by decide) rfl (fun ls hl => ?_)
              refine lv_iinc (v := (x3 + (1 : Int32))) (pc := 70) (lv' := [(3, .int (x3 + (1 : Int32))), (2, .int x3), (4, .int (1 : Int32)), (0, .ref (ad 0)), (1, .int x1)]) hx hb dX2_shortestLeaving_70 hl (k := 4) rfl rfl (by decide) rfl (fun ls hl => ?_)
              refine lv_goto (tgt := 4) (pc := 73) hx hb dX2_shortestLeaving_73 (by decide) ?_
              exact ih x3 (x3 + (1 : Int32)) out h ls (lv_sub hl [3, 4, 1, 0] rfl) Kx 
set_option maxHeartbeats 4000000 in
set_option maxRecDepth 100000 in
theorem c_Mesh_shortestLeaving (l : Launch) (K : KT) (ad : Nat → Nat) (pxs : Nat → Int32) (pys : Nat → Int32) (plo : Nat → Int32) (phi : Nat → Int32) (pn : Int32) (pm : Int32) (lf : Nat → Int32) (th : Nat → Int32) (ow : Nat → Int32) (lk : Nat → Int32) (el : Nat → Int32) (eh : Nat → Int32) (co : Nat → Int32) (hu : Nat → Int32) (ne : Int32) (nt : Int32) (nh : Int32) (a0 : Int32) (F : Nat) {o : Int32} (h : s_Mesh_shortestLeaving F pxs pys el eh ne a0 = some o) : Rd l K 3 yX2_shortestLeaving cX2_shortestLeaving 5 .int [.ref (ad 0), .int a0] (wMesh K ad pxs pys plo phi pn pm lf th ow lk el eh co hu ne nt nh) o := by
  refine Rd.of (by decide +kernel) (Nat.le_of_ble_eq_true rfl) ?_
  unfold s_Mesh_shortestLeaving at h
  intro p e s m below meth c hx hb hr hml hown hts hlk hP hG ls hl
  have C0 : Ctx p m c cX2_shortestLeaving 5 s (Array.mk [.ref (ad 0), .int a0]) RX2 K meth (some .int) := ⟨hx, hb, hml, hown, hts, hG, hr, hlk⟩
  have hl : lv_has ls 5 [(0, .ref (ad 0)), (1, .int a0)] := hl
  refine lv_iconst (v := (-1 : Int32)) (pc := 0) hx hb dX2_shortestLeaving_0 (by decide) ?_
  refine lv_istore_n (pc := 1) (lv' := [(2, .int (-1 : Int32)), (0, .ref (ad 0)), (1, .int a0)]) hx hb dX2_shortestLeaving_1 rfl hl (by decide) rfl (fun ls hl => ?_)
  refine lv_iconst (v := (0 : Int32)) (pc := 2) hx hb dX2_shortestLeaving_2 (by decide) ?_
  refine lv_istore_n (pc := 3) (lv' := [(3, .int (0 : Int32)), (2, .int (-1 : Int32)), (0, .ref (ad 0)), (1, .int a0)]) hx hb dX2_shortestLeaving_3 rfl hl (by decide) rfl (fun ls hl => ?_)
  obtain ⟨o9, h_o9, h⟩ := ob h
  refine l_Mesh_shortestLeaving_L4 C0 F ad pxs pys plo phi pn pm lf th ow lk el eh co hu ne nt nh a0 hP F (-1 : Int32) (0 : Int32) _ h_o9 ls (lv_sub hl [2, 3, 1, 0] rfl) (fun o9x ls eo hl => ?_)
  subst o9
  refine lv_iload_n (pc := 76) hx hb dX2_shortestLeaving_76 rfl (lv_at hl 2 rfl) ?_
  obtain rfl := Option.some.inj h
  exact W.iret hx hb hr (fun t ht hW => ⟨rfl, ht⟩) (fun q hq => absurd hq List.not_mem_nil) dX2_shortestLeaving_77 hlk
set_option maxHeartbeats 4000000 in
set_option maxRecDepth 100000 in
theorem l_Mesh_leastTree_L6 {p : Program} {l : Launch} {e : Env} {s : State} {m : MethodId} {args : Array Value} {below : List Frame} {meth : Method} {c : Code} {Q : State → Prop} {K : KT} (C0 : Ctx p m c cX2_leastTree 5 s args RX2 K meth (some .int)) (F : Nat) (ad : Nat → Nat) (pxs : Nat → Int32) (pys : Nat → Int32) (plo : Nat → Int32) (phi : Nat → Int32) (pn : Int32) (pm : Int32) (lf : Nat → Int32) (th : Nat → Int32) (ow : Nat → Int32) (lk : Nat → Int32) (el : Nat → Int32) (eh : Nat → Int32) (co : Nat → Int32) (hu : Nat → Int32) (ne : Int32) (nt : Int32) (nh : Int32) (hP : va_P K.1 vC (wMesh K ad pxs pys plo phi pn pm lf th ow lk el eh co hu ne nt nh) s.heap) : ∀ (n : Nat) (x1 : Int32) (x2 : Int32) (x3 : Int32) (out : Int32 × Int32 × Int32), s_Mesh_leastTree_L6 F pxs pys pn el eh ne n x1 x2 x3 = some out → ∀ (ls : Array Slot), lv_has ls 5 [(0, .ref (ad 0)), (1, .int x1), (2, .int x2), (3, .int x3)] → (∀ (o : Int32 × Int32 × Int32) (ls : Array Slot), out = o → lv_has ls 5 [(0, .ref (ad 0)), (1, .int o.1), (2, .int o.2.1), (3, .int o.2.2)] → W p l e (rmL 4) s m args below meth c s.heap [] 0 0 Q (F0 m 74 ls [])) → W p l e (rmL 4) s m args below meth c s.heap [] 0 0 Q (F0 m 6 ls []) := by
  obtain ⟨hx, hb, hml, hown, hts, hG, hr, hlk⟩ := id C0
  intro n
  induction n with
  | zero =>
    intro x1 x2 x3 out h
    cases h
  | succ n ih =>
    intro x1 x2 x3 out h ls hl Kx 
    rw [s_Mesh_leastTree_L6.eq_2] at h
    refine lv_iload_n (pc := 6) hx hb dX2_leastTree_6 rfl (lv_at hl 3 rfl) ?_
    refine lv_aload_n (pc := 7) hx hb dX2_leastTree_7 rfl (lv_at hl 0 rfl) ?_
    refine va_get (D := K.1) (ci := 2) (v := .ref (ad 1)) (C := RX2) (T := TX2) (N := 12) (pc := 8) hx hb hts inT2 hown hG.1 hP 0 rfl rfl 0 (by decide) (hts _ qf_Mesh_9) (fun _ h9 => h9) rfl dX2_leastTree_8 ?_
    refine rdV (pc := 11) (As := []) (rest := [.int x3]) hx hb hml hown hts hG hP (c_Plan_points l K (fun k => ad (k + 1)) pxs pys plo phi pn pm) [1, 2, 3, 4, 5, 6, 7, 8, 9] rfl (q0 := 1) rfl (ci := 3) rfl g_Mesh_84 hd_Plan_points rfl ⟨Nat.le_of_ble_eq_true rfl, Nat.le_of_ble_eq_true rfl⟩ ⟨Nat.zero_le _, Nat.zero_le _⟩ hl rfl (Nat.le_of_ble_eq_true rfl) dX2_leastTree_11 ?_
    refine lv_icmp_ge (tgt := 74) (pc := 14) hx hb dX2_leastTree_14 (by decide) (fun c1 => ?_) (fun c1 => ?_)
    · have h := it_t c1 h
      obtain rfl := Option.some.inj h
      exact Kx _ ls rfl (lv_sub hl [0, 1, 2, 3] rfl)
    · have h := it_f c1 h
      refine lv_aload_n (pc := 17) hx hb dX2_leastTree_17 rfl (lv_at hl 0 rfl) ?_
      refine lv_iload_n (pc := 18) hx hb dX2_leastTree_18 rfl (lv_at hl 2 rfl) ?_
      obtain ⟨v2, h_v2, h⟩ := ob h
      refine rdV (pc := 19) (As := [.int x2]) (rest := []) hx hb hml hown hts hG hP (c_Mesh_shortestLeaving l K ad pxs pys plo phi pn pm lf th ow lk el eh co hu ne nt nh x2 F h_v2) [0, 1, 2, 3, 4, 5, 6, 7, 8, 9, 10, 11, 12, 13, 14, 15, 16, 17, 18, 19, 20, 21, 22, 23, 24, 25] rfl (q0 := 0) rfl (ci := 2) rfl g_Mesh_214 hd_Mesh_shortestLeaving rfl ⟨Nat.le_of_ble_eq_true rfl, Nat.le_of_ble_eq_true rfl⟩ ⟨Nat.zero_le _, Nat.zero_le _⟩ hl rfl (Nat.le_of_ble_eq_true rfl) dX2_leastTree_19 ?_
      refine lv_istore (pc := 22) (lv' := [(4, .int v2), (0, .ref (ad 0)), (1, .int x1), (2, .int x2), (3, .int x3)]) hx hb dX2_leastTree_22 hl (by decide) rfl (fun ls hl => ?_)
      refine lv_iload (pc := 24) hx hb dX2_leastTree_24 (lv_at hl 0 rfl) ?_
      refine lv_iconst (v := (-1 : Int32)) (pc := 26) hx hb dX2_leastTree_26 (by decide) ?_
      refine lv_icmp_ne (tgt := 33) (pc := 27) hx hb dX2_leastTree_27 (by decide) (fun c3 => ?_) (fun c3 => ?_)
      · have h := it_f c3 h
        refine lv_iload_n (pc := 33) hx hb dX2_leastTree_33 rfl (lv_at hl 2 rfl) ?_
        refine lv_aload_n (pc := 34) hx hb dX2_leastTree_34 rfl (lv_at hl 1 rfl) ?_
        refine lv_iload (pc := 35) hx hb dX2_leastTree_35 (lv_at hl 0 rfl) ?_
        refine rdV (pc := 37) (As := [.int v2]) (rest := [.int x1]) hx hb hml hown hts hG hP (c_Mesh_lengthOf l K ad pxs pys plo phi pn pm lf th ow lk el eh co hu ne nt nh v2) [0, 1, 2, 3, 4, 5, 6, 7, 8, 9, 10, 11, 12, 13, 14, 15, 16, 17, 18, 19, 20, 21, 22, 23, 24, 25] rfl (q0 := 0) rfl (ci := 2) rfl g_Mesh_211 hd_Mesh_lengthOf rfl ⟨Nat.le_of_ble_eq_true rfl, Nat.le_of_ble_eq_true rfl⟩ ⟨Nat.zero_le _, Nat.zero_le _⟩ hl rfl (Nat.le_of_ble_eq_true rfl) dX2_leastTree_37 ?_
        refine lv_iadd (pc := 40) hx hb dX2_leastTree_40 ?_
        refine lv_istore_n (pc := 41) (lv' := [(1, .int (x1 + (s_Mesh_lengthOf pxs pys el eh v2))), (4, .int v2), (0, .ref (ad 0)), (2, .int x2), (3, .int x3)]) hx hb dX2_leastTree_41 rfl hl (by decide) rfl (fun ls hl => ?_)
        refine lv_iload_n (pc := 42) hx hb dX2_leastTree_42 rfl (lv_at hl 3 rfl) ?_
        refine lv_iconst (v := (1 : Int32)) (pc := 43) hx hb dX2_leastTree_43 (by decide) ?_
        refine lv_aload_n (pc := 44) hx hb dX2_leastTree_44 rfl (lv_at hl 2 rfl) ?_
        refine va_get (D := K.1) (ci := 2) (v := .ref (ad 18)) (C := RX2) (T := TX2) (N := 12) (pc := 45) hx hb hts inT2 hown hG.1 hP 0 rfl rfl 5 (by decide) (hts _ qf_Mesh_37) (fun _ h9 => h9) rfl dX2_leastTree_45 ?_
        refine lv_iload (pc := 48) hx hb dX2_leastTree_48 (lv_at hl 1 rfl) ?_
        refine rdV (pc := 50) (As := [.int v2]) (rest := [.int (1 : Int32), .int x2]) hx hb hml hown hts hG hP (c_Row_get l K (fun k => ad (k + 18)) 42 (by decide) el v2) [18, 19] rfl (q0 := 18) rfl (ci := 4) rfl g_Mesh_127 hd_Row_get rfl ⟨Nat.le_of_ble_eq_true rfl, Nat.le_of_ble_eq_true rfl⟩ ⟨Nat.zero_le _, Nat.zero_le _⟩ hl rfl (Nat.le_of_ble_eq_true rfl) dX2_leastTree_50 ?_
        refine lv_ishl (pc := 53) hx hb dX2_leastTree_53 ?_
        refine lv_iconst (v := (1 : Int32)) (pc := 54) hx hb dX2_leastTree_54 (by decide) ?_
        refine lv_aload_n (pc := 55) hx hb dX2_leastTree_55 rfl (lv_at hl 2 rfl) ?_
        refine va_get (D := K.1) (ci := 2) (v := .ref (ad 20)) (C := RX2) (T := TX2) (N := 12) (pc := 56) hx hb hts inT2 hown hG.1 hP 0 rfl rfl 6 (by decide) (hts _ qf_Mesh_40) (fun _ h9 => h9) rfl dX2_leastTree_56 ?_
        refine lv_iload (pc := 59) hx hb dX2_leastTree_59 (lv_at hl 1 rfl) ?_
        refine rdV (pc := 61) (As := [.int v2]) (rest := [.int (1 : Int32), .int ((1 : Int32) <<< ((s_Row_get 42 el v2) &&& 31)), .int x2]) hx hb hml hown hts hG hP (c_Row_get l K (fun k => ad (k + 20)) 42 (by decide) eh v2) [20, 21] rfl (q0 := 20) rfl (ci := 4) rfl g_Mesh_127 hd_Row_get rfl ⟨Nat.le_of_ble_eq_true rfl, Nat.le_of_ble_eq_true rfl⟩ ⟨Nat.zero_le _, Nat.zero_le _⟩ hl rfl (Nat.le_of_ble_eq_true rfl) dX2_leastTree_61 ?_
        refine lv_ishl (pc := 64) hx hb dX2_leastTree_64 ?_
        refine lv_ior (pc := 65) hx hb dX2_leastTree_65 ?_
        refine lv_ior (pc := 66) hx hb dX2_leastTree_66 ?_
        refine lv_istore_n (pc := 67) (lv' := [(2, .int (x2 ||| (((1 : Int32) <<< ((s_Row_get 42 el v2) &&& 31)) ||| ((1 : Int32) <<< ((s_Row_get 42 eh v2) &&& 31))))), (1, .int (x1 + (s_Mesh_lengthOf pxs pys el eh v2))), (4, .int v2), (0, .ref (ad 0)), (3, .int x3)]) hx hb dX2_leastTree_67 rfl hl (by decide) rfl (fun ls hl => ?_)
        refine lv_iinc (v := (x3 + (1 : Int32))) (pc := 68) (lv' := [(3, .int (x3 + (1 : Int32))), (2, .int (x2 ||| (((1 : Int32) <<< ((s_Row_get 42 el v2) &&& 31)) ||| ((1 : Int32) <<< ((s_Row_get 42 eh v2) &&& 31))))), (1, .int (x1 + (s_Mesh_lengthOf pxs pys el eh v2))), (4, .int v2), (0, .ref (ad 0))]) hx hb dX2_leastTree_68 hl (k := 4) rfl rfl (by decide) rfl (fun ls hl => ?_)
        refine lv_goto (tgt := 6) (pc := 71) hx hb dX2_leastTree_71 (by decide) ?_
        exact ih (x1 + (s_Mesh_lengthOf pxs pys el eh v2)) (x2 ||| (((1 : Int32) <<< ((s_Row_get 42 el v2) &&& 31)) ||| ((1 : Int32) <<< ((s_Row_get 42 eh v2) &&& 31)))) (x3 + (1 : Int32)) out h ls (lv_sub hl [4, 2, 1, 0] rfl) Kx 
      · have h := it_t c3 h
        refine lv_goto (tgt := 74) (pc := 30) hx hb dX2_leastTree_30 (by decide) ?_
        obtain rfl := Option.some.inj h
        exact Kx _ ls rfl (lv_sub hl [1, 2, 3, 4] rfl)
set_option maxHeartbeats 4000000 in
set_option maxRecDepth 100000 in
theorem c_Mesh_leastTree (l : Launch) (K : KT) (ad : Nat → Nat) (pxs : Nat → Int32) (pys : Nat → Int32) (plo : Nat → Int32) (phi : Nat → Int32) (pn : Int32) (pm : Int32) (lf : Nat → Int32) (th : Nat → Int32) (ow : Nat → Int32) (lk : Nat → Int32) (el : Nat → Int32) (eh : Nat → Int32) (co : Nat → Int32) (hu : Nat → Int32) (ne : Int32) (nt : Int32) (nh : Int32) (F : Nat) {o : Int32} (h : s_Mesh_leastTree F pxs pys pn el eh ne = some o) : Rd l K 4 yX2_leastTree cX2_leastTree 5 .int [.ref (ad 0)] (wMesh K ad pxs pys plo phi pn pm lf th ow lk el eh co hu ne nt nh) o := by
  refine Rd.of (by decide +kernel) (Nat.le_of_ble_eq_true rfl) ?_
  unfold s_Mesh_leastTree at h
  intro p e s m below meth c hx hb hr hml hown hts hlk hP hG ls hl
  have C0 : Ctx p m c cX2_leastTree 5 s (Array.mk [.ref (ad 0)]) RX2 K meth (some .int) := ⟨hx, hb, hml, hown, hts, hG, hr, hlk⟩
  have hl : lv_has ls 5 [(0, .ref (ad 0))] := hl
  refine lv_iconst (v := (0 : Int32)) (pc := 0) hx hb dX2_leastTree_0 (by decide) ?_
  refine lv_istore_n (pc := 1) (lv' := [(1, .int (0 : Int32)), (0, .ref (ad 0))]) hx hb dX2_leastTree_1 rfl hl (by decide) rfl (fun ls hl => ?_)
  refine lv_iconst (v := (1 : Int32)) (pc := 2) hx hb dX2_leastTree_2 (by decide) ?_
  refine lv_istore_n (pc := 3) (lv' := [(2, .int (1 : Int32)), (1, .int (0 : Int32)), (0, .ref (ad 0))]) hx hb dX2_leastTree_3 rfl hl (by decide) rfl (fun ls hl => ?_)
  refine lv_iconst (v := (1 : Int32)) (pc := 4) hx hb dX2_leastTree_4 (by decide) ?_
  refine lv_istore_n (pc := 5) (lv' := [(3, .int (1 : Int32)), (2, .int (1 : Int32)), (1, .int (0 : Int32)), (0, .ref (ad 0))]) hx hb dX2_leastTree_5 rfl hl (by decide) rfl (fun ls hl => ?_)
  obtain ⟨o4, h_o4, h⟩ := ob h
  refine l_Mesh_leastTree_L6 C0 F ad pxs pys plo phi pn pm lf th ow lk el eh co hu ne nt nh hP F (0 : Int32) (1 : Int32) (1 : Int32) _ h_o4 ls (lv_sub hl [3, 2, 1, 0] rfl) (fun o4x ls eo hl => ?_)
  subst o4
  refine lv_iload_n (pc := 74) hx hb dX2_leastTree_74 rfl (lv_at hl 1 rfl) ?_
  obtain rfl := Option.some.inj h
  exact W.iret hx hb hr (fun t ht hW => ⟨rfl, ht⟩) (fun q hq => absurd hq List.not_mem_nil) dX2_leastTree_75 hlk
set_option maxHeartbeats 4000000 in
set_option maxRecDepth 100000 in
theorem l_Mesh_edgeAt_L2 {p : Program} {l : Launch} {e : Env} {s : State} {m : MethodId} {args : Array Value} {below : List Frame} {meth : Method} {c : Code} {Q : State → Prop} {K : KT} (C0 : Ctx p m c cX2_edgeAt 4 s args RX2 K meth (some .int)) (F : Nat) (ad : Nat → Nat) (pxs : Nat → Int32) (pys : Nat → Int32) (plo : Nat → Int32) (phi : Nat → Int32) (pn : Int32) (pm : Int32) (lf : Nat → Int32) (th : Nat → Int32) (ow : Nat → Int32) (lk : Nat → Int32) (el : Nat → Int32) (eh : Nat → Int32) (co : Nat → Int32) (hu : Nat → Int32) (ne : Int32) (nt : Int32) (nh : Int32) (x1 : Int32) (x2 : Int32) (hP : va_P K.1 vC (wMesh K ad pxs pys plo phi pn pm lf th ow lk el eh co hu ne nt nh) s.heap) : ∀ (n : Nat) (x3 : Int32) (out : (Int32) ⊕ (Int32)), s_Mesh_edgeAt_L2 pxs pys el eh ne x1 x2 n x3 = some out → ∀ (ls : Array Slot), lv_has ls 4 [(0, .ref (ad 0)), (1, .int x1), (2, .int x2), (3, .int x3)] → (∀ (o : Int32) (ls : Array Slot), out = .inr o → lv_has ls 4 [(0, .ref (ad 0)), (1, .int x1), (2, .int x2), (3, .int o)] → W p l e (rmL 3) s m args below meth c s.heap [] 0 0 Q (F0 m 46 ls [])) → (∀ (o : Int32) (pcR : Nat) (ls : Array Slot), out = .inl o → decode cX2_edgeAt pcR = .ok (.ireturn, 1) → W p l e (rmL 3) s m args below meth c s.heap [] 0 0 Q (F0 m pcR ls [.int o])) → W p l e (rmL 3) s m args below meth c s.heap [] 0 0 Q (F0 m 2 ls []) := by
  obtain ⟨hx, hb, hml, hown, hts, hG, hr, hlk⟩ := id C0
  intro n
  induction n with
  | zero =>
    intro x3 out h
    cases h
  | succ n ih =>
    intro x3 out h ls hl Kx Kr
    rw [s_Mesh_edgeAt_L2.eq_2] at h
    refine lv_iload_n (pc := 2) hx hb dX2_edgeAt_2 rfl (lv_at hl 3 rfl) ?_
    refine lv_aload_n (pc := 3) hx hb dX2_edgeAt_3 rfl (lv_at hl 0 rfl) ?_
    refine va_get (D := K.1) (ci := 2) (v := .int ne) (C := RX2) (T := TX2) (N := 12) (pc := 4) hx hb hts inT2 hown hG.1 hP 0 rfl rfl 9 (by decide) (hts _ qf_Mesh_49) (fun _ h9 => h9) rfl dX2_edgeAt_4 ?_
    refine lv_icmp_ge (tgt := 46) (pc := 7) hx hb dX2_edgeAt_7 (by decide) (fun c1 => ?_) (fun c1 => ?_)
    · have h := it_t c1 h
      obtain rfl := Option.some.inj h
      exact Kx _ ls rfl (lv_sub hl [0, 1, 2, 3] rfl)
    · have h := it_f c1 h
      refine lv_aload_n (pc := 10) hx hb dX2_edgeAt_10 rfl (lv_at hl 0 rfl) ?_
      refine va_get (D := K.1) (ci := 2) (v := .ref (ad 1)) (C := RX2) (T := TX2) (N := 12) (pc := 11) hx hb hts inT2 hown hG.1 hP 0 rfl rfl 0 (by decide) (hts _ qf_Mesh_9) (fun _ h9 => h9) rfl dX2_edgeAt_11 ?_
      refine lv_aload_n (pc := 14) hx hb dX2_edgeAt_14 rfl (lv_at hl 0 rfl) ?_
      refine va_get (D := K.1) (ci := 2) (v := .ref (ad 18)) (C := RX2) (T := TX2) (N := 12) (pc := 15) hx hb hts inT2 hown hG.1 hP 0 rfl rfl 5 (by decide) (hts _ qf_Mesh_37) (fun _ h9 => h9) rfl dX2_edgeAt_15 ?_
      refine lv_iload_n (pc := 18) hx hb dX2_edgeAt_18 rfl (lv_at hl 3 rfl) ?_
      refine rdV (pc := 19) (As := [.int x3]) (rest := [.ref (ad 1)]) hx hb hml hown hts hG hP (c_Row_get l K (fun k => ad (k + 18)) 42 (by decide) el x3) [18, 19] rfl (q0 := 18) rfl (ci := 4) rfl g_Mesh_127 hd_Row_get rfl ⟨Nat.le_of_ble_eq_true rfl, Nat.le_of_ble_eq_true rfl⟩ ⟨Nat.zero_le _, Nat.zero_le _⟩ hl rfl (Nat.le_of_ble_eq_true rfl) dX2_edgeAt_19 ?_
      refine lv_aload_n (pc := 22) hx hb dX2_edgeAt_22 rfl (lv_at hl 0 rfl) ?_
      refine va_get (D := K.1) (ci := 2) (v := .ref (ad 20)) (C := RX2) (T := TX2) (N := 12) (pc := 23) hx hb hts inT2 hown hG.1 hP 0 rfl rfl 6 (by decide) (hts _ qf_Mesh_40) (fun _ h9 => h9) rfl dX2_edgeAt_23 ?_
      refine lv_iload_n (pc := 26) hx hb dX2_edgeAt_26 rfl (lv_at hl 3 rfl) ?_
      refine rdV (pc := 27) (As := [.int x3]) (rest := [.int (s_Row_get 42 el x3), .ref (ad 1)]) hx hb hml hown hts hG hP (c_Row_get l K (fun k => ad (k + 20)) 42 (by decide) eh x3) [20, 21] rfl (q0 := 20) rfl (ci := 4) rfl g_Mesh_127 hd_Row_get rfl ⟨Nat.le_of_ble_eq_true rfl, Nat.le_of_ble_eq_true rfl⟩ ⟨Nat.zero_le _, Nat.zero_le _⟩ hl rfl (Nat.le_of_ble_eq_true rfl) dX2_edgeAt_27 ?_
      refine lv_iload_n (pc := 30) hx hb dX2_edgeAt_30 rfl (lv_at hl 1 rfl) ?_
      refine lv_iload_n (pc := 31) hx hb dX2_edgeAt_31 rfl (lv_at hl 2 rfl) ?_
      refine rdV (pc := 32) (As := [.int (s_Row_get 42 el x3), .int (s_Row_get 42 eh x3), .int x1, .int x2]) (rest := []) hx hb hml hown hts hG hP (c_Plan_covers l K (fun k => ad (k + 1)) pxs pys plo phi pn pm (s_Row_get 42 el x3) (s_Row_get 42 eh x3) x1 x2) [1, 2, 3, 4, 5, 6, 7, 8, 9] rfl (q0 := 1) rfl (ci := 3) rfl g_Mesh_217 hd_Plan_covers rfl ⟨Nat.le_of_ble_eq_true rfl, Nat.le_of_ble_eq_true rfl⟩ ⟨Nat.zero_le _, Nat.zero_le _⟩ hl rfl (Nat.le_of_ble_eq_true rfl) dX2_edgeAt_32 ?_
      refine lv_if_eq (tgt := 40) (pc := 35) hx hb dX2_edgeAt_35 (by decide) (fun c2 => ?_) (fun c2 => ?_)
      · have h := it_t c2 h
        refine lv_iinc (v := (x3 + (1 : Int32))) (pc := 40) (lv' := [(3, .int (x3 + (1 : Int32))), (0, .ref (ad 0)), (1, .int x1), (2, .int x2)]) hx hb dX2_edgeAt_40 hl (k := 3) rfl rfl (by decide) rfl (fun ls hl => ?_)
        refine lv_goto (tgt := 2) (pc := 43) hx hb dX2_edgeAt_43 (by decide) ?_
        exact ih (x3 + (1 : Int32)) out h ls (lv_sub hl [1, 2, 3, 0] rfl) Kx Kr
      · have h := it_f c2 h
        refine lv_iload_n (pc := 38) hx hb dX2_edgeAt_38 rfl (lv_at hl 3 rfl) ?_
        obtain rfl := Option.some.inj h
        exact Kr _ _ _ rfl dX2_edgeAt_39
set_option maxHeartbeats 4000000 in
set_option maxRecDepth 100000 in
theorem c_Mesh_edgeAt (l : Launch) (K : KT) (ad : Nat → Nat) (pxs : Nat → Int32) (pys : Nat → Int32) (plo : Nat → Int32) (phi : Nat → Int32) (pn : Int32) (pm : Int32) (lf : Nat → Int32) (th : Nat → Int32) (ow : Nat → Int32) (lk : Nat → Int32) (el : Nat → Int32) (eh : Nat → Int32) (co : Nat → Int32) (hu : Nat → Int32) (ne : Int32) (nt : Int32) (nh : Int32) (a0 : Int32) (a1 : Int32) (F : Nat) {o : Int32} (h : s_Mesh_edgeAt F pxs pys el eh ne a0 a1 = some o) : Rd l K 3 yX2_edgeAt cX2_edgeAt 4 .int [.ref (ad 0), .int a0, .int a1] (wMesh K ad pxs pys plo phi pn pm lf th ow lk el eh co hu ne nt nh) o := by
  refine Rd.of (by decide +kernel) (Nat.le_of_ble_eq_true rfl) ?_
  unfold s_Mesh_edgeAt at h
  intro p e s m below meth c hx hb hr hml hown hts hlk hP hG ls hl
  have C0 : Ctx p m c cX2_edgeAt 4 s (Array.mk [.ref (ad 0), .int a0, .int a1]) RX2 K meth (some .int) := ⟨hx, hb, hml, hown, hts, hG, hr, hlk⟩
  have hl : lv_has ls 4 [(0, .ref (ad 0)), (1, .int a0), (2, .int a1)] := hl
  refine lv_iconst (v := (0 : Int32)) (pc := 0) hx hb dX2_edgeAt_0 (by decide) ?_
  refine lv_istore_n (pc := 1) (lv' := [(3, .int (0 : Int32)), (0, .ref (ad 0)), (1, .int a0), (2, .int a1)]) hx hb dX2_edgeAt_1 rfl hl (by decide) rfl (fun ls hl => ?_)
  obtain ⟨o3, h_o3, h⟩ := ob h
  refine l_Mesh_edgeAt_L2 C0 F ad pxs pys plo phi pn pm lf th ow lk el eh co hu ne nt nh a0 a1 hP F (0 : Int32) _ h_o3 ls (lv_sub hl [1, 2, 3, 0] rfl) (fun o3x ls eo hl => ?_) (fun q_o pcR ls eo hdR => ?_)
  · subst o3
    have h := se_r h
    refine lv_iconst (v := (-1 : Int32)) (pc := 46) hx hb dX2_edgeAt_46 (by decide) ?_
    obtain rfl := Option.some.inj h
    exact W.iret hx hb hr (fun t ht hW => ⟨rfl, ht⟩) (fun q hq => absurd hq List.not_mem_nil) dX2_edgeAt_47 hlk
  · subst o3
    have h := se_l h
    obtain rfl := Option.some.inj h
    exact W.iret hx hb hr (fun t ht hW => ⟨rfl, ht⟩) (fun q hq => absurd hq List.not_mem_nil) hdR hlk
set_option maxHeartbeats 4000000 in
set_option maxRecDepth 100000 in
theorem l_Mesh_exitTowards_L3 {p : Program} {l : Launch} {e : Env} {s : State} {m : MethodId} {args : Array Value} {below : List Frame} {meth : Method} {c : Code} {Q : State → Prop} {K : KT} (C0 : Ctx p m c cX2_exitTowards 6 s args RX2 K meth (some .int)) (F : Nat) (ad : Nat → Nat) (pxs : Nat → Int32) (pys : Nat → Int32) (plo : Nat → Int32) (phi : Nat → Int32) (pn : Int32) (pm : Int32) (lf : Nat → Int32) (th : Nat → Int32) (ow : Nat → Int32) (lk : Nat → Int32) (el : Nat → Int32) (eh : Nat → Int32) (co : Nat → Int32) (hu : Nat → Int32) (ne : Int32) (nt : Int32) (nh : Int32) (x1 : Int32) (x2 : Int32) (x3 : Int32) (hP : va_P K.1 vC (wMesh K ad pxs pys plo phi pn pm lf th ow lk el eh co hu ne nt nh) s.heap) : ∀ (n : Nat) (x4 : Int32) (out : (Int32) ⊕ (Int32)), s_Mesh_exitTowards_L3 pxs pys co x1 x2 x3 n x4 = some out → ∀ (ls : Array Slot), lv_has ls 6 [(0, .ref (ad 0)), (1, .int x1), (2, .int x2), (3, .int x3), (4, .int x4)] → (∀ (o : Int32) (ls : Array Slot), out = .inr o → lv_has ls 6 [(0, .ref (ad 0)), (1, .int x1), (2, .int x2), (3, .int x3), (4, .int o)] → W p l e (rmL 3) s m args below meth c s.heap [] 0 0 Q (F0 m 48 ls [])) → (∀ (o : Int32) (pcR : Nat) (ls : Array Slot), out = .inl o → decode cX2_exitTowards pcR = .ok (.ireturn, 1) → W p l e (rmL 3) s m args below meth c s.heap [] 0 0 Q (F0 m pcR ls [.int o])) → W p l e (rmL 3) s m args below meth c s.heap [] 0 0 Q (F0 m 3 ls []) := by
  obtain ⟨hx, hb, hml, hown, hts, hG, hr, hlk⟩ := id C0
  intro n
  induction n with
  | zero =>
    intro x4 out h
    cases h
  | succ n ih =>
    intro x4 out h ls hl Kx Kr
    rw [s_Mesh_exitTowards_L3.eq_2] at h
    refine lv_iload (pc := 3) hx hb dX2_exitTowards_3 (lv_at hl 4 rfl) ?_
    refine lv_iconst (v := (3 : Int32)) (pc := 5) hx hb dX2_exitTowards_5 (by decide) ?_
    refine lv_icmp_ge (tgt := 48) (pc := 6) hx hb dX2_exitTowards_6 (by decide) (fun c1 => ?_) (fun c1 => ?_)
    · have h := it_t c1 h
      obtain rfl := Option.some.inj h
      exact Kx _ ls rfl (lv_sub hl [0, 1, 2, 3, 4] rfl)
    · have h := it_f c1 h
      refine lv_aload_n (pc := 9) hx hb dX2_exitTowards_9 rfl (lv_at hl 0 rfl) ?_
      refine lv_iload_n (pc := 10) hx hb dX2_exitTowards_10 rfl (lv_at hl 1 rfl) ?_
      refine lv_iload (pc := 11) hx hb dX2_exitTowards_11 (lv_at hl 4 rfl) ?_
      refine rdV (pc := 13) (As := [.int x1, .int x4]) (rest := []) hx hb hml hown hts hG hP (c_Mesh_cornerOf l K ad pxs pys plo phi pn pm lf th ow lk el eh co hu ne nt nh x1 x4) [0, 1, 2, 3, 4, 5, 6, 7, 8, 9, 10, 11, 12, 13, 14, 15, 16, 17, 18, 19, 20, 21, 22, 23, 24, 25] rfl (q0 := 0) rfl (ci := 2) rfl g_Mesh_182 hd_Mesh_cornerOf rfl ⟨Nat.le_of_ble_eq_true rfl, Nat.le_of_ble_eq_true rfl⟩ ⟨Nat.zero_le _, Nat.zero_le _⟩ hl rfl (Nat.le_of_ble_eq_true rfl) dX2_exitTowards_13 ?_
      refine lv_istore (pc := 16) (lv' := [(5, .int (s_Mesh_cornerOf co x1 x4)), (0, .ref (ad 0)), (1, .int x1), (2, .int x2), (3, .int x3), (4, .int x4)]) hx hb dX2_exitTowards_16 hl (by decide) rfl (fun ls hl => ?_)
      refine lv_aload_n (pc := 18) hx hb dX2_exitTowards_18 rfl (lv_at hl 1 rfl) ?_
      refine va_get (D := K.1) (ci := 2) (v := .ref (ad 1)) (C := RX2) (T := TX2) (N := 12) (pc := 19) hx hb hts inT2 hown hG.1 hP 0 rfl rfl 0 (by decide) (hts _ qf_Mesh_9) (fun _ h9 => h9) rfl dX2_exitTowards_19 ?_
      refine lv_iload (pc := 22) hx hb dX2_exitTowards_22 (lv_at hl 0 rfl) ?_
      refine lv_aload_n (pc := 24) hx hb dX2_exitTowards_24 rfl (lv_at hl 1 rfl) ?_
      refine lv_iload_n (pc := 25) hx hb dX2_exitTowards_25 rfl (lv_at hl 2 rfl) ?_
      refine lv_iload (pc := 26) hx hb dX2_exitTowards_26 (lv_at hl 5 rfl) ?_
      refine rdV (pc := 28) (As := [.int x1, .int x4]) (rest := [.int (s_Mesh_cornerOf co x1 x4), .ref (ad 1)]) hx hb hml hown hts hG hP (c_Mesh_cornerAfter l K ad pxs pys plo phi pn pm lf th ow lk el eh co hu ne nt nh x1 x4) [0, 1, 2, 3, 4, 5, 6, 7, 8, 9, 10, 11, 12, 13, 14, 15, 16, 17, 18, 19, 20, 21, 22, 23, 24, 25] rfl (q0 := 0) rfl (ci := 2) rfl g_Mesh_185 hd_Mesh_cornerAfter rfl ⟨Nat.le_of_ble_eq_true rfl, Nat.le_of_ble_eq_true rfl⟩ ⟨Nat.zero_le _, Nat.zero_le _⟩ hl rfl (Nat.le_of_ble_eq_true rfl) dX2_exitTowards_28 ?_
      refine lv_iload_n (pc := 31) hx hb dX2_exitTowards_31 rfl (lv_at hl 3 rfl) ?_
      refine lv_iload_n (pc := 32) hx hb dX2_exitTowards_32 rfl (lv_at hl 4 rfl) ?_
      refine rdV (pc := 33) (As := [.int (s_Mesh_cornerOf co x1 x4), .int (s_Mesh_cornerAfter co x1 x4), .int x2, .int x3]) (rest := []) hx hb hml hown hts hG hP (c_Plan_twiceSignedArea l K (fun k => ad (k + 1)) pxs pys plo phi pn pm (s_Mesh_cornerOf co x1 x4) (s_Mesh_cornerAfter co x1 x4) x2 x3) [1, 2, 3, 4, 5, 6, 7, 8, 9] rfl (q0 := 1) rfl (ci := 3) rfl g_Mesh_202 hd_Plan_twiceSignedArea rfl ⟨Nat.le_of_ble_eq_true rfl, Nat.le_of_ble_eq_true rfl⟩ ⟨Nat.zero_le _, Nat.zero_le _⟩ hl rfl (Nat.le_of_ble_eq_true rfl) dX2_exitTowards_33 ?_
      refine lv_if_ge (tgt := 42) (pc := 36) hx hb dX2_exitTowards_36 (by decide) (fun c2 => ?_) (fun c2 => ?_)
      · have h := it_t c2 h
        refine lv_iinc (v := (x4 + (1 : Int32))) (pc := 42) (lv' := [(4, .int (x4 + (1 : Int32))), (5, .int (s_Mesh_cornerOf co x1 x4)), (0, .ref (ad 0)), (1, .int x1), (2, .int x2), (3, .int x3)]) hx hb dX2_exitTowards_42 hl (k := 5) rfl rfl (by decide) rfl (fun ls hl => ?_)
        refine lv_goto (tgt := 3) (pc := 45) hx hb dX2_exitTowards_45 (by decide) ?_
        exact ih (x4 + (1 : Int32)) out h ls (lv_sub hl [2, 3, 4, 5, 0] rfl) Kx Kr
      · have h := it_f c2 h
        refine lv_iload (pc := 39) hx hb dX2_exitTowards_39 (lv_at hl 5 rfl) ?_
        obtain rfl := Option.some.inj h
        exact Kr _ _ _ rfl dX2_exitTowards_41
set_option maxHeartbeats 4000000 in
set_option maxRecDepth 100000 in
theorem c_Mesh_exitTowards (l : Launch) (K : KT) (ad : Nat → Nat) (pxs : Nat → Int32) (pys : Nat → Int32) (plo : Nat → Int32) (phi : Nat → Int32) (pn : Int32) (pm : Int32) (lf : Nat → Int32) (th : Nat → Int32) (ow : Nat → Int32) (lk : Nat → Int32) (el : Nat → Int32) (eh : Nat → Int32) (co : Nat → Int32) (hu : Nat → Int32) (ne : Int32) (nt : Int32) (nh : Int32) (a0 : Int32) (a1 : Int32) (a2 : Int32) (F : Nat) {o : Int32} (h : s_Mesh_exitTowards F pxs pys co a0 a1 a2 = some o) : Rd l K 3 yX2_exitTowards cX2_exitTowards 6 .int [.ref (ad 0), .int a0, .int a1, .int a2] (wMesh K ad pxs pys plo phi pn pm lf th ow lk el eh co hu ne nt nh) o := by
  refine Rd.of (by decide +kernel) (Nat.le_of_ble_eq_true rfl) ?_
  unfold s_Mesh_exitTowards at h
  intro p e s m below meth c hx hb hr hml hown hts hlk hP hG ls hl
  have C0 : Ctx p m c cX2_exitTowards 6 s (Array.mk [.ref (ad 0), .int a0, .int a1, .int a2]) RX2 K meth (some .int) := ⟨hx, hb, hml, hown, hts, hG, hr, hlk⟩
  have hl : lv_has ls 6 [(0, .ref (ad 0)), (1, .int a0), (2, .int a1), (3, .int a2)] := hl
  refine lv_iconst (v := (0 : Int32)) (pc := 0) hx hb dX2_exitTowards_0 (by decide) ?_
  refine lv_istore (pc := 1) (lv' := [(4, .int (0 : Int32)), (0, .ref (ad 0)), (1, .int a0), (2, .int a1), (3, .int a2)]) hx hb dX2_exitTowards_1 hl (by decide) rfl (fun ls hl => ?_)
  obtain ⟨o3, h_o3, h⟩ := ob h
  refine l_Mesh_exitTowards_L3 C0 F ad pxs pys plo phi pn pm lf th ow lk el eh co hu ne nt nh a0 a1 a2 hP F (0 : Int32) _ h_o3 ls (lv_sub hl [1, 2, 3, 4, 0] rfl) (fun o3x ls eo hl => ?_) (fun q_o pcR ls eo hdR => ?_)
  · subst o3
    have h := se_r h
    refine lv_iconst (v := (-1 : Int32)) (pc := 48) hx hb dX2_exitTowards_48 (by decide) ?_
    obtain rfl := Option.some.inj h
    exact W.iret hx hb hr (fun t ht hW => ⟨rfl, ht⟩) (fun q hq => absurd hq List.not_mem_nil) dX2_exitTowards_49 hlk
  · subst o3
    have h := se_l h
    obtain rfl := Option.some.inj h
    exact W.iret hx hb hr (fun t ht hW => ⟨rfl, ht⟩) (fun q hq => absurd hq List.not_mem_nil) hdR hlk
set_option maxHeartbeats 4000000 in
set_option maxRecDepth 100000 in
theorem l_Mesh_triangleAt_L2 {p : Program} {l : Launch} {e : Env} {s : State} {m : MethodId} {args : Array Value} {below : List Frame} {meth : Method} {c : Code} {Q : State → Prop} {K : KT} (C0 : Ctx p m c cX2_triangleAt 4 s args RX2 K meth (some .int)) (F : Nat) (ad : Nat → Nat) (pxs : Nat → Int32) (pys : Nat → Int32) (plo : Nat → Int32) (phi : Nat → Int32) (pn : Int32) (pm : Int32) (lf : Nat → Int32) (th : Nat → Int32) (ow : Nat → Int32) (lk : Nat → Int32) (el : Nat → Int32) (eh : Nat → Int32) (co : Nat → Int32) (hu : Nat → Int32) (ne : Int32) (nt : Int32) (nh : Int32) (x1 : Int32) (x2 : Int32) (hP : va_P K.1 vC (wMesh K ad pxs pys plo phi pn pm lf th ow lk el eh co hu ne nt nh) s.heap) : ∀ (n : Nat) (x3 : Int32) (out : (Int32) ⊕ (Int32)), s_Mesh_triangleAt_L2 F pxs pys co nt x1 x2 n x3 = some out → ∀ (ls : Array Slot), lv_has ls 4 [(0, .ref (ad 0)), (1, .int x1), (2, .int x2), (3, .int x3)] → (∀ (o : Int32) (ls : Array Slot), out = .inr o → lv_has ls 4 [(0, .ref (ad 0)), (1, .int x1), (2, .int x2), (3, .int o)] → W p l e (rmL 4) s m args below meth c s.heap [] 0 0 Q (F0 m 29 ls [])) → (∀ (o : Int32) (pcR : Nat) (ls : Array Slot), out = .inl o → decode cX2_triangleAt pcR = .ok (.ireturn, 1) → W p l e (rmL 4) s m args below meth c s.heap [] 0 0 Q (F0 m pcR ls [.int o])) → W p l e (rmL 4) s m args below meth c s.heap [] 0 0 Q (F0 m 2 ls []) := by
  obtain ⟨hx, hb, hml, hown, hts, hG, hr, hlk⟩ := id C0
  intro n
  induction n with
  | zero =>
    intro x3 out h
    cases h
  | succ n ih =>
    intro x3 out h ls hl Kx Kr
    rw [s_Mesh_triangleAt_L2.eq_2] at h
    refine lv_iload_n (pc := 2) hx hb dX2_triangleAt_2 rfl (lv_at hl 3 rfl) ?_
    refine lv_aload_n (pc := 3) hx hb dX2_triangleAt_3 rfl (lv_at hl 0 rfl) ?_
    refine va_get (D := K.1) (ci := 2) (v := .int nt) (C := RX2) (T := TX2) (N := 12) (pc := 4) hx hb hts inT2 hown hG.1 hP 0 rfl rfl 10 (by decide) (hts _ qf_Mesh_53) (fun _ h9 => h9) rfl dX2_triangleAt_4 ?_
    refine lv_icmp_ge (tgt := 29) (pc := 7) hx hb dX2_triangleAt_7 (by decide) (fun c1 => ?_) (fun c1 => ?_)
    · have h := it_t c1 h
      obtain rfl := Option.some.inj h
      exact Kx _ ls rfl (lv_sub hl [0, 1, 2, 3] rfl)
    · have h := it_f c1 h
      refine lv_aload_n (pc := 10) hx hb dX2_triangleAt_10 rfl (lv_at hl 0 rfl) ?_
      refine lv_iload_n (pc := 11) hx hb dX2_triangleAt_11 rfl (lv_at hl 3 rfl) ?_
      refine lv_iload_n (pc := 12) hx hb dX2_triangleAt_12 rfl (lv_at hl 1 rfl) ?_
      refine lv_iload_n (pc := 13) hx hb dX2_triangleAt_13 rfl (lv_at hl 2 rfl) ?_
      obtain ⟨v2, h_v2, h⟩ := ob h
      refine rdV (pc := 14) (As := [.int x3, .int x1, .int x2]) (rest := []) hx hb hml hown hts hG hP (c_Mesh_exitTowards l K ad pxs pys plo phi pn pm lf th ow lk el eh co hu ne nt nh x3 x1 x2 F h_v2) [0, 1, 2, 3, 4, 5, 6, 7, 8, 9, 10, 11, 12, 13, 14, 15, 16, 17, 18, 19, 20, 21, 22, 23, 24, 25] rfl (q0 := 0) rfl (ci := 2) rfl g_Mesh_220 hd_Mesh_exitTowards rfl ⟨Nat.le_of_ble_eq_true rfl, Nat.le_of_ble_eq_true rfl⟩ ⟨Nat.zero_le _, Nat.zero_le _⟩ hl rfl (Nat.le_of_ble_eq_true rfl) dX2_triangleAt_14 ?_
      refine lv_iconst (v := (-1 : Int32)) (pc := 17) hx hb dX2_triangleAt_17 (by decide) ?_
      refine lv_icmp_ne (tgt := 23) (pc := 18) hx hb dX2_triangleAt_18 (by decide) (fun c3 => ?_) (fun c3 => ?_)
      · have h := it_f c3 h
        refine lv_iinc (v := (x3 + (1 : Int32))) (pc := 23) (lv' := [(3, .int (x3 + (1 : Int32))), (0, .ref (ad 0)), (1, .int x1), (2, .int x2)]) hx hb dX2_triangleAt_23 hl (k := 3) rfl rfl (by decide) rfl (fun ls hl => ?_)
        refine lv_goto (tgt := 2) (pc := 26) hx hb dX2_triangleAt_26 (by decide) ?_
        exact ih (x3 + (1 : Int32)) out h ls (lv_sub hl [1, 2, 3, 0] rfl) Kx Kr
      · have h := it_t c3 h
        refine lv_iload_n (pc := 21) hx hb dX2_triangleAt_21 rfl (lv_at hl 3 rfl) ?_
        obtain rfl := Option.some.inj h
        exact Kr _ _ _ rfl dX2_triangleAt_22
set_option maxHeartbeats 4000000 in
set_option maxRecDepth 100000 in
theorem c_Mesh_triangleAt (l : Launch) (K : KT) (ad : Nat → Nat) (pxs : Nat → Int32) (pys : Nat → Int32) (plo : Nat → Int32) (phi : Nat → Int32) (pn : Int32) (pm : Int32) (lf : Nat → Int32) (th : Nat → Int32) (ow : Nat → Int32) (lk : Nat → Int32) (el : Nat → Int32) (eh : Nat → Int32) (co : Nat → Int32) (hu : Nat → Int32) (ne : Int32) (nt : Int32) (nh : Int32) (a0 : Int32) (a1 : Int32) (F : Nat) {o : Int32} (h : s_Mesh_triangleAt F pxs pys co nt a0 a1 = some o) : Rd l K 4 yX2_triangleAt cX2_triangleAt 4 .int [.ref (ad 0), .int a0, .int a1] (wMesh K ad pxs pys plo phi pn pm lf th ow lk el eh co hu ne nt nh) o := by
  refine Rd.of (by decide +kernel) (Nat.le_of_ble_eq_true rfl) ?_
  unfold s_Mesh_triangleAt at h
  intro p e s m below meth c hx hb hr hml hown hts hlk hP hG ls hl
  have C0 : Ctx p m c cX2_triangleAt 4 s (Array.mk [.ref (ad 0), .int a0, .int a1]) RX2 K meth (some .int) := ⟨hx, hb, hml, hown, hts, hG, hr, hlk⟩
  have hl : lv_has ls 4 [(0, .ref (ad 0)), (1, .int a0), (2, .int a1)] := hl
  refine lv_iconst (v := (0 : Int32)) (pc := 0) hx hb dX2_triangleAt_0 (by decide) ?_
  refine lv_istore_n (pc := 1) (lv' := [(3, .int (0 : Int32)), (0, .ref (ad 0)), (1, .int a0), (2, .int a1)]) hx hb dX2_triangleAt_1 rfl hl (by decide) rfl (fun ls hl => ?_)
  obtain ⟨o4, h_o4, h⟩ := ob h
  refine l_Mesh_triangleAt_L2 C0 F ad pxs pys plo phi pn pm lf th ow lk el eh co hu ne nt nh a0 a1 hP F (0 : Int32) _ h_o4 ls (lv_sub hl [1, 2, 3, 0] rfl) (fun o4x ls eo hl => ?_) (fun q_o pcR ls eo hdR => ?_)
  · subst o4
    have h := se_r h
    refine lv_iconst (v := (-1 : Int32)) (pc := 29) hx hb dX2_triangleAt_29 (by decide) ?_
    obtain rfl := Option.some.inj h
    exact W.iret hx hb hr (fun t ht hW => ⟨rfl, ht⟩) (fun q hq => absurd hq List.not_mem_nil) dX2_triangleAt_30 hlk
  · subst o4
    have h := se_l h
    obtain rfl := Option.some.inj h
    exact W.iret hx hb hr (fun t ht hW => ⟨rfl, ht⟩) (fun q hq => absurd hq List.not_mem_nil) hdR hlk
set_option maxHeartbeats 4000000 in
set_option maxRecDepth 100000 in
theorem c_Mesh_reaches (l : Launch) (K : KT) (ad : Nat → Nat) (pxs : Nat → Int32) (pys : Nat → Int32) (plo : Nat → Int32) (phi : Nat → Int32) (pn : Int32) (pm : Int32) (lf : Nat → Int32) (th : Nat → Int32) (ow : Nat → Int32) (lk : Nat → Int32) (el : Nat → Int32) (eh : Nat → Int32) (co : Nat → Int32) (hu : Nat → Int32) (ne : Int32) (nt : Int32) (nh : Int32) (a0 : Int32) (a1 : Int32) (a2 : Int32) : Rd l K 3 yX2_reaches cX2_reaches 4 .boolean [.ref (ad 0), .int a0, .int a1, .int a2] (wMesh K ad pxs pys plo phi pn pm lf th ow lk el eh co hu ne nt nh) (bI (s_Mesh_reaches pxs pys a0 a1 a2)) := by
  generalize h : s_Mesh_reaches pxs pys a0 a1 a2 = o
  refine Rd.of (by decide +kernel) (Nat.le_of_ble_eq_true rfl) ?_
  unfold s_Mesh_reaches at h
  intro p e s m below meth c hx hb hr hml hown hts hlk hP hG ls hl
  have C0 : Ctx p m c cX2_reaches 4 s (Array.mk [.ref (ad 0), .int a0, .int a1, .int a2]) RX2 K meth (some .boolean) := ⟨hx, hb, hml, hown, hts, hG, hr, hlk⟩
  have hl : lv_has ls 4 [(0, .ref (ad 0)), (1, .int a0), (2, .int a1), (3, .int a2)] := hl
  refine lv_iload_n (pc := 0) hx hb dX2_reaches_0 rfl (lv_at hl 3 rfl) ?_
  refine lv_iload_n (pc := 1) hx hb dX2_reaches_1 rfl (lv_at hl 1 rfl) ?_
  refine lv_icmp_eq (tgt := 38) (pc := 2) hx hb dX2_reaches_2 (by decide) (fun c1 => ?_) (fun c1 => ?_)
  · have h := it_t c1 h
    refine lv_iconst (v := (1 : Int32)) (pc := 38) hx hb dX2_reaches_38 (by decide) ?_
    refine lv_goto (tgt := 43) (pc := 39) hx hb dX2_reaches_39 (by decide) ?_
    subst h
    exact W.zret hx hb hr (rfl) (fun t ht hW => ⟨rfl, ht⟩) (fun q hq => absurd hq List.not_mem_nil) dX2_reaches_43 hlk
  · have h := it_f c1 h
    refine lv_iload_n (pc := 5) hx hb dX2_reaches_5 rfl (lv_at hl 3 rfl) ?_
    refine lv_iload_n (pc := 6) hx hb dX2_reaches_6 rfl (lv_at hl 2 rfl) ?_
    refine lv_icmp_eq (tgt := 38) (pc := 7) hx hb dX2_reaches_7 (by decide) (fun c2 => ?_) (fun c2 => ?_)
    · have h := it_t c2 h
      refine lv_iconst (v := (1 : Int32)) (pc := 38) hx hb dX2_reaches_38 (by decide) ?_
      refine lv_goto (tgt := 43) (pc := 39) hx hb dX2_reaches_39 (by decide) ?_
      subst h
      exact W.zret hx hb hr (rfl) (fun t ht hW => ⟨rfl, ht⟩) (fun q hq => absurd hq List.not_mem_nil) dX2_reaches_43 hlk
    · have h := it_f c2 h
      refine lv_aload_n (pc := 10) hx hb dX2_reaches_10 rfl (lv_at hl 0 rfl) ?_
      refine va_get (D := K.1) (ci := 2) (v := .ref (ad 1)) (C := RX2) (T := TX2) (N := 12) (pc := 11) hx hb hts inT2 hown hG.1 hP 0 rfl rfl 0 (by decide) (hts _ qf_Mesh_9) (fun _ h9 => h9) rfl dX2_reaches_11 ?_
      refine lv_iload_n (pc := 14) hx hb dX2_reaches_14 rfl (lv_at hl 1 rfl) ?_
      refine lv_iload_n (pc := 15) hx hb dX2_reaches_15 rfl (lv_at hl 2 rfl) ?_
      refine lv_aload_n (pc := 16) hx hb dX2_reaches_16 rfl (lv_at hl 0 rfl) ?_
      refine va_get (D := K.1) (ci := 2) (v := .ref (ad 1)) (C := RX2) (T := TX2) (N := 12) (pc := 17) hx hb hts inT2 hown hG.1 hP 0 rfl rfl 0 (by decide) (hts _ qf_Mesh_9) (fun _ h9 => h9) rfl dX2_reaches_17 ?_
      refine lv_iload_n (pc := 20) hx hb dX2_reaches_20 rfl (lv_at hl 3 rfl) ?_
      refine rdV (pc := 21) (As := [.int a2]) (rest := [.int a1, .int a0, .ref (ad 1)]) hx hb hml hown hts hG hP (c_Plan_xOf l K (fun k => ad (k + 1)) pxs pys plo phi pn pm a2) [1, 2, 3, 4, 5, 6, 7, 8, 9] rfl (q0 := 1) rfl (ci := 3) rfl g_Mesh_196 hd_Plan_xOf rfl ⟨Nat.le_of_ble_eq_true rfl, Nat.le_of_ble_eq_true rfl⟩ ⟨Nat.zero_le _, Nat.zero_le _⟩ hl rfl (Nat.le_of_ble_eq_true rfl) dX2_reaches_21 ?_
      refine lv_aload_n (pc := 24) hx hb dX2_reaches_24 rfl (lv_at hl 0 rfl) ?_
      refine va_get (D := K.1) (ci := 2) (v := .ref (ad 1)) (C := RX2) (T := TX2) (N := 12) (pc := 25) hx hb hts inT2 hown hG.1 hP 0 rfl rfl 0 (by decide) (hts _ qf_Mesh_9) (fun _ h9 => h9) rfl dX2_reaches_25 ?_
      refine lv_iload_n (pc := 28) hx hb dX2_reaches_28 rfl (lv_at hl 3 rfl) ?_
      refine rdV (pc := 29) (As := [.int a2]) (rest := [.int (s_Plan_xOf pxs a2), .int a1, .int a0, .ref (ad 1)]) hx hb hml hown hts hG hP (c_Plan_yOf l K (fun k => ad (k + 1)) pxs pys plo phi pn pm a2) [1, 2, 3, 4, 5, 6, 7, 8, 9] rfl (q0 := 1) rfl (ci := 3) rfl g_Mesh_199 hd_Plan_yOf rfl ⟨Nat.le_of_ble_eq_true rfl, Nat.le_of_ble_eq_true rfl⟩ ⟨Nat.zero_le _, Nat.zero_le _⟩ hl rfl (Nat.le_of_ble_eq_true rfl) dX2_reaches_29 ?_
      refine rdV (pc := 32) (As := [.int a0, .int a1, .int (s_Plan_xOf pxs a2), .int (s_Plan_yOf pys a2)]) (rest := []) hx hb hml hown hts hG hP (c_Plan_covers l K (fun k => ad (k + 1)) pxs pys plo phi pn pm a0 a1 (s_Plan_xOf pxs a2) (s_Plan_yOf pys a2)) [1, 2, 3, 4, 5, 6, 7, 8, 9] rfl (q0 := 1) rfl (ci := 3) rfl g_Mesh_217 hd_Plan_covers rfl ⟨Nat.le_of_ble_eq_true rfl, Nat.le_of_ble_eq_true rfl⟩ ⟨Nat.zero_le _, Nat.zero_le _⟩ hl rfl (Nat.le_of_ble_eq_true rfl) dX2_reaches_32 ?_
      refine lv_if_eq (tgt := 42) (pc := 35) hx hb dX2_reaches_35 (by decide) (fun c3 => ?_) (fun c3 => ?_)
      · have h := it_t c3 h
        refine lv_iconst (v := (0 : Int32)) (pc := 42) hx hb dX2_reaches_42 (by decide) ?_
        subst h
        exact W.zret hx hb hr (rfl) (fun t ht hW => ⟨rfl, ht⟩) (fun q hq => absurd hq List.not_mem_nil) dX2_reaches_43 hlk
      · have h := it_f c3 h
        refine lv_iconst (v := (1 : Int32)) (pc := 38) hx hb dX2_reaches_38 (by decide) ?_
        refine lv_goto (tgt := 43) (pc := 39) hx hb dX2_reaches_39 (by decide) ?_
        subst h
        exact W.zret hx hb hr (rfl) (fun t ht hW => ⟨rfl, ht⟩) (fun q hq => absurd hq List.not_mem_nil) dX2_reaches_43 hlk
set_option maxHeartbeats 4000000 in
set_option maxRecDepth 100000 in
theorem c_Mesh_edgeMeets (l : Launch) (K : KT) (ad : Nat → Nat) (pxs : Nat → Int32) (pys : Nat → Int32) (plo : Nat → Int32) (phi : Nat → Int32) (pn : Int32) (pm : Int32) (lf : Nat → Int32) (th : Nat → Int32) (ow : Nat → Int32) (lk : Nat → Int32) (el : Nat → Int32) (eh : Nat → Int32) (co : Nat → Int32) (hu : Nat → Int32) (ne : Int32) (nt : Int32) (nh : Int32) (a0 : Int32) (a1 : Int32) (a2 : Int32) : Rd l K 4 yX2_edgeMeets cX2_edgeMeets 6 .boolean [.ref (ad 0), .int a0, .int a1, .int a2] (wMesh K ad pxs pys plo phi pn pm lf th ow lk el eh co hu ne nt nh) (bI (s_Mesh_edgeMeets pxs pys lf el eh a0 a1 a2)) := by
  generalize h : s_Mesh_edgeMeets pxs pys lf el eh a0 a1 a2 = o
  refine Rd.of (by decide +kernel) (Nat.le_of_ble_eq_true rfl) ?_
  unfold s_Mesh_edgeMeets at h
  intro p e s m below meth c hx hb hr hml hown hts hlk hP hG ls hl
  have C0 : Ctx p m c cX2_edgeMeets 6 s (Array.mk [.ref (ad 0), .int a0, .int a1, .int a2]) RX2 K meth (some .boolean) := ⟨hx, hb, hml, hown, hts, hG, hr, hlk⟩
  have hl : lv_has ls 6 [(0, .ref (ad 0)), (1, .int a0), (2, .int a1), (3, .int a2)] := hl
  refine lv_aload_n (pc := 0) hx hb dX2_edgeMeets_0 rfl (lv_at hl 0 rfl) ?_
  refine va_get (D := K.1) (ci := 2) (v := .ref (ad 18)) (C := RX2) (T := TX2) (N := 12) (pc := 1) hx hb hts inT2 hown hG.1 hP 0 rfl rfl 5 (by decide) (hts _ qf_Mesh_37) (fun _ h9 => h9) rfl dX2_edgeMeets_1 ?_
  refine lv_iload_n (pc := 4) hx hb dX2_edgeMeets_4 rfl (lv_at hl 1 rfl) ?_
  refine rdV (pc := 5) (As := [.int a0]) (rest := []) hx hb hml hown hts hG hP (c_Row_get l K (fun k => ad (k + 18)) 42 (by decide) el a0) [18, 19] rfl (q0 := 18) rfl (ci := 4) rfl g_Mesh_127 hd_Row_get rfl ⟨Nat.le_of_ble_eq_true rfl, Nat.le_of_ble_eq_true rfl⟩ ⟨Nat.zero_le _, Nat.zero_le _⟩ hl rfl (Nat.le_of_ble_eq_true rfl) dX2_edgeMeets_5 ?_
  refine lv_istore (pc := 8) (lv' := [(4, .int (s_Row_get 42 el a0)), (0, .ref (ad 0)), (1, .int a0), (2, .int a1), (3, .int a2)]) hx hb dX2_edgeMeets_8 hl (by decide) rfl (fun ls hl => ?_)
  refine lv_aload_n (pc := 10) hx hb dX2_edgeMeets_10 rfl (lv_at hl 1 rfl) ?_
  refine va_get (D := K.1) (ci := 2) (v := .ref (ad 20)) (C := RX2) (T := TX2) (N := 12) (pc := 11) hx hb hts inT2 hown hG.1 hP 0 rfl rfl 6 (by decide) (hts _ qf_Mesh_40) (fun _ h9 => h9) rfl dX2_edgeMeets_11 ?_
  refine lv_iload_n (pc := 14) hx hb dX2_edgeMeets_14 rfl (lv_at hl 2 rfl) ?_
  refine rdV (pc := 15) (As := [.int a0]) (rest := []) hx hb hml hown hts hG hP (c_Row_get l K (fun k => ad (k + 20)) 42 (by decide) eh a0) [20, 21] rfl (q0 := 20) rfl (ci := 4) rfl g_Mesh_127 hd_Row_get rfl ⟨Nat.le_of_ble_eq_true rfl, Nat.le_of_ble_eq_true rfl⟩ ⟨Nat.zero_le _, Nat.zero_le _⟩ hl rfl (Nat.le_of_ble_eq_true rfl) dX2_edgeMeets_15 ?_
  refine lv_istore (pc := 18) (lv' := [(5, .int (s_Row_get 42 eh a0)), (4, .int (s_Row_get 42 el a0)), (0, .ref (ad 0)), (1, .int a0), (2, .int a1), (3, .int a2)]) hx hb dX2_edgeMeets_18 hl (by decide) rfl (fun ls hl => ?_)
  refine lv_aload_n (pc := 20) hx hb dX2_edgeMeets_20 rfl (lv_at hl 2 rfl) ?_
  refine lv_iload_n (pc := 21) hx hb dX2_edgeMeets_21 rfl (lv_at hl 4 rfl) ?_
  refine lv_iload_n (pc := 22) hx hb dX2_edgeMeets_22 rfl (lv_at hl 5 rfl) ?_
  refine lv_iload (pc := 23) hx hb dX2_edgeMeets_23 (lv_at hl 1 rfl) ?_
  refine lv_iload (pc := 25) hx hb dX2_edgeMeets_25 (lv_at hl 0 rfl) ?_
  refine rdV (pc := 27) (As := [.int a1, .int a2, .int (s_Row_get 42 el a0), .int (s_Row_get 42 eh a0)]) (rest := []) hx hb hml hown hts hG hP (c_Mesh_splits l K ad pxs pys plo phi pn pm lf th ow lk el eh co hu ne nt nh a1 a2 (s_Row_get 42 el a0) (s_Row_get 42 eh a0)) [0, 1, 2, 3, 4, 5, 6, 7, 8, 9, 10, 11, 12, 13, 14, 15, 16, 17, 18, 19, 20, 21, 22, 23, 24, 25] rfl (q0 := 0) rfl (ci := 2) rfl g_Mesh_130 hd_Mesh_splits rfl ⟨Nat.le_of_ble_eq_true rfl, Nat.le_of_ble_eq_true rfl⟩ ⟨Nat.zero_le _, Nat.zero_le _⟩ hl rfl (Nat.le_of_ble_eq_true rfl) dX2_edgeMeets_27 ?_
  refine lv_if_ne (tgt := 55) (pc := 30) hx hb dX2_edgeMeets_30 (by decide) (fun c1 => ?_) (fun c1 => ?_)
  · have h := it_f c1 h
    refine lv_iconst (v := (1 : Int32)) (pc := 55) hx hb dX2_edgeMeets_55 (by decide) ?_
    refine lv_goto (tgt := 60) (pc := 56) hx hb dX2_edgeMeets_56 (by decide) ?_
    subst h
    exact W.zret hx hb hr (rfl) (fun t ht hW => ⟨rfl, ht⟩) (fun q hq => absurd hq List.not_mem_nil) dX2_edgeMeets_60 hlk
  · have h := it_t c1 h
    refine lv_aload_n (pc := 33) hx hb dX2_edgeMeets_33 rfl (lv_at hl 2 rfl) ?_
    refine lv_iload_n (pc := 34) hx hb dX2_edgeMeets_34 rfl (lv_at hl 4 rfl) ?_
    refine lv_iload_n (pc := 35) hx hb dX2_edgeMeets_35 rfl (lv_at hl 5 rfl) ?_
    refine lv_iload (pc := 36) hx hb dX2_edgeMeets_36 (lv_at hl 1 rfl) ?_
    refine rdV (pc := 38) (As := [.int a1, .int a2, .int (s_Row_get 42 el a0)]) (rest := []) hx hb hml hown hts hG hP (c_Mesh_reaches l K ad pxs pys plo phi pn pm lf th ow lk el eh co hu ne nt nh a1 a2 (s_Row_get 42 el a0)) [0, 1, 2, 3, 4, 5, 6, 7, 8, 9, 10, 11, 12, 13, 14, 15, 16, 17, 18, 19, 20, 21, 22, 23, 24, 25] rfl (q0 := 0) rfl (ci := 2) rfl g_Mesh_223 hd_Mesh_reaches rfl ⟨Nat.le_of_ble_eq_true rfl, Nat.le_of_ble_eq_true rfl⟩ ⟨Nat.zero_le _, Nat.zero_le _⟩ hl rfl (Nat.le_of_ble_eq_true rfl) dX2_edgeMeets_38 ?_
    refine lv_if_eq (tgt := 59) (pc := 41) hx hb dX2_edgeMeets_41 (by decide) (fun c2 => ?_) (fun c2 => ?_)
    · have h := it_t c2 h
      refine lv_iconst (v := (0 : Int32)) (pc := 59) hx hb dX2_edgeMeets_59 (by decide) ?_
      subst h
      exact W.zret hx hb hr (rfl) (fun t ht hW => ⟨rfl, ht⟩) (fun q hq => absurd hq List.not_mem_nil) dX2_edgeMeets_60 hlk
    · have h := it_f c2 h
      refine lv_aload_n (pc := 44) hx hb dX2_edgeMeets_44 rfl (lv_at hl 2 rfl) ?_
      refine lv_iload_n (pc := 45) hx hb dX2_edgeMeets_45 rfl (lv_at hl 4 rfl) ?_
      refine lv_iload_n (pc := 46) hx hb dX2_edgeMeets_46 rfl (lv_at hl 5 rfl) ?_
      refine lv_iload (pc := 47) hx hb dX2_edgeMeets_47 (lv_at hl 0 rfl) ?_
      refine rdV (pc := 49) (As := [.int a1, .int a2, .int (s_Row_get 42 eh a0)]) (rest := []) hx hb hml hown hts hG hP (c_Mesh_reaches l K ad pxs pys plo phi pn pm lf th ow lk el eh co hu ne nt nh a1 a2 (s_Row_get 42 eh a0)) [0, 1, 2, 3, 4, 5, 6, 7, 8, 9, 10, 11, 12, 13, 14, 15, 16, 17, 18, 19, 20, 21, 22, 23, 24, 25] rfl (q0 := 0) rfl (ci := 2) rfl g_Mesh_223 hd_Mesh_reaches rfl ⟨Nat.le_of_ble_eq_true rfl, Nat.le_of_ble_eq_true rfl⟩ ⟨Nat.zero_le _, Nat.zero_le _⟩ hl rfl (Nat.le_of_ble_eq_true rfl) dX2_edgeMeets_49 ?_
      refine lv_if_eq (tgt := 59) (pc := 52) hx hb dX2_edgeMeets_52 (by decide) (fun c3 => ?_) (fun c3 => ?_)
      · have h := it_t c3 h
        refine lv_iconst (v := (0 : Int32)) (pc := 59) hx hb dX2_edgeMeets_59 (by decide) ?_
        subst h
        exact W.zret hx hb hr (rfl) (fun t ht hW => ⟨rfl, ht⟩) (fun q hq => absurd hq List.not_mem_nil) dX2_edgeMeets_60 hlk
      · have h := it_f c3 h
        refine lv_iconst (v := (1 : Int32)) (pc := 55) hx hb dX2_edgeMeets_55 (by decide) ?_
        refine lv_goto (tgt := 60) (pc := 56) hx hb dX2_edgeMeets_56 (by decide) ?_
        subst h
        exact W.zret hx hb hr (rfl) (fun t ht hW => ⟨rfl, ht⟩) (fun q hq => absurd hq List.not_mem_nil) dX2_edgeMeets_60 hlk
