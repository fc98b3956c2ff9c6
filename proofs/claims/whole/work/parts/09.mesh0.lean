set_option maxHeartbeats 4000000 in
set_option maxRecDepth 100000 in
theorem l_Mesh_findSidesOf_L8 {p : Program} {l : Launch} {e : Env} {s : State} {m : MethodId} {args : Array Value} {below : List Frame} {meth : Method} {c : Code} {Q : State → Prop} {K : KT} {A : Nat → Prop} (C0 : Ctx p m c cX2_findSidesOf 7 s args RX2 K meth none) (F : Nat) (ad : Nat → Nat) (pxs : Nat → Int32) (pys : Nat → Int32) (plo : Nat → Int32) (phi : Nat → Int32) (pn : Int32) (pm : Int32) (lf : Nat → Int32) (th : Nat → Int32) (ow : Nat → Int32) (lk : Nat → Int32) (el : Nat → Int32) (eh : Nat → Int32) (co : Nat → Int32) (hu : Nat → Int32) (ne : Int32) (nt : Int32) (nh : Int32) (x1 : Int32) (x2 : Int32)  : ∀ (n : Nat) (x3 : Int32) (x4 : Int32) (x5 : Int32) (out : Int32 × Int32 × Int32), s_Mesh_findSidesOf_L8 pxs pys pn x1 x2 n x3 x4 x5 = some out → ∀ (H : Heap) (locs : List Loc) (ls : Array Slot), va_P K.1 vC (wMesh K ad pxs pys plo phi pn pm lf th ow lk el eh co hu ne nt nh) H → va_D A (wMesh K ad pxs pys plo phi pn pm lf th ow lk el eh co hu ne nt nh) → va_S A s.heap H locs → lv_has ls 7 [(0, .ref (ad 0)), (1, .int x1), (2, .int x2), (3, .int x3), (4, .int x4), (5, .int x5)] → (∀ (o : Int32 × Int32 × Int32) (H : Heap) (locs : List Loc) (ls : Array Slot), out = o → va_P K.1 vC (wMesh K ad pxs pys plo phi pn pm lf th ow lk el eh co hu ne nt nh) H → va_D A (wMesh K ad pxs pys plo phi pn pm lf th ow lk el eh co hu ne nt nh) → va_S A s.heap H locs → lv_has ls 7 [(0, .ref (ad 0)), (1, .int x1), (2, .int x2), (3, .int o.1), (4, .int o.2.1), (5, .int o.2.2)] → W p l e (rmL 3) s m args below meth c H locs 0 0 Q (F0 m 68 ls [])) → W p l e (rmL 3) s m args below meth c H locs 0 0 Q (F0 m 8 ls []) := by
  obtain ⟨hx, hb, hml, hown, hts, hG, hr, hlk⟩ := id C0
  intro n
  induction n with
  | zero =>
    intro x3 x4 x5 out h
    cases h
  | succ n ih =>
    intro x3 x4 x5 out h H locs ls hP hD hS hl Kx 
    rw [s_Mesh_findSidesOf_L8.eq_2] at h
    refine lv_iload (pc := 8) hx hb dX2_findSidesOf_8 (lv_at hl 5 rfl) ?_
    refine lv_aload_n (pc := 10) hx hb dX2_findSidesOf_10 rfl (lv_at hl 0 rfl) ?_
    refine va_get (D := K.1) (ci := 2) (v := .ref (ad 1)) (C := RX2) (T := TX2) (N := 12) (pc := 11) hx hb hts inT2 hown hG.1 hP 0 rfl rfl 0 (by decide) (hts _ qf_Mesh_9) (fun _ h9 => h9) rfl dX2_findSidesOf_11 ?_
    refine rdV (pc := 14) (As := []) (rest := [.int x5]) hx hb hml hown hts hG hP (c_Plan_points l K (fun k => ad (k + 1)) pxs pys plo phi pn pm) [1, 2, 3, 4, 5, 6, 7, 8, 9] rfl (q0 := 1) rfl (ci := 3) rfl g_Mesh_84 hd_Plan_points rfl ⟨Nat.le_of_ble_eq_true rfl, Nat.le_of_ble_eq_true rfl⟩ ⟨Nat.zero_le _, Nat.zero_le _⟩ hl rfl (Nat.le_of_ble_eq_true rfl) dX2_findSidesOf_14 ?_
    refine lv_icmp_ge (tgt := 68) (pc := 17) hx hb dX2_findSidesOf_17 (by decide) (fun c1 => ?_) (fun c1 => ?_)
    · have h := it_t c1 h
      obtain rfl := Option.some.inj h
      exact Kx _ H locs ls rfl hP hD hS (lv_sub hl [0, 1, 2, 3, 4, 5] rfl)
    · have h := it_f c1 h
      refine lv_aload_n (pc := 20) hx hb dX2_findSidesOf_20 rfl (lv_at hl 0 rfl) ?_
      refine va_get (D := K.1) (ci := 2) (v := .ref (ad 1)) (C := RX2) (T := TX2) (N := 12) (pc := 21) hx hb hts inT2 hown hG.1 hP 0 rfl rfl 0 (by decide) (hts _ qf_Mesh_9) (fun _ h9 => h9) rfl dX2_findSidesOf_21 ?_
      refine lv_iload_n (pc := 24) hx hb dX2_findSidesOf_24 rfl (lv_at hl 1 rfl) ?_
      refine lv_iload_n (pc := 25) hx hb dX2_findSidesOf_25 rfl (lv_at hl 2 rfl) ?_
      refine lv_iload (pc := 26) hx hb dX2_findSidesOf_26 (lv_at hl 5 rfl) ?_
      refine rdV (pc := 28) (As := [.int x1, .int x2, .int x5]) (rest := []) hx hb hml hown hts hG hP (c_Plan_side l K (fun k => ad (k + 1)) pxs pys plo phi pn pm x1 x2 x5) [1, 2, 3, 4, 5, 6, 7, 8, 9] rfl (q0 := 1) rfl (ci := 3) rfl g_Mesh_94 hd_Plan_side rfl ⟨Nat.le_of_ble_eq_true rfl, Nat.le_of_ble_eq_true rfl⟩ ⟨Nat.zero_le _, Nat.zero_le _⟩ hl rfl (Nat.le_of_ble_eq_true rfl) dX2_findSidesOf_28 ?_
      refine lv_istore (pc := 31) (lv' := [(6, .int (s_Plan_side pxs pys x1 x2 x5)), (0, .ref (ad 0)), (1, .int x1), (2, .int x2), (3, .int x3), (4, .int x4), (5, .int x5)]) hx hb dX2_findSidesOf_31 hl (by decide) rfl (fun ls hl => ?_)
      refine lv_iload (pc := 33) hx hb dX2_findSidesOf_33 (lv_at hl 0 rfl) ?_
      refine lv_if_le (tgt := 48) (pc := 35) hx hb dX2_findSidesOf_35 (by decide) (fun c2 => ?_) (fun c2 => ?_)
      · have h := it_t c2 h
        refine lv_iload (pc := 48) hx hb dX2_findSidesOf_48 (lv_at hl 0 rfl) ?_
        refine lv_if_ge (tgt := 62) (pc := 50) hx hb dX2_findSidesOf_50 (by decide) (fun c3 => ?_) (fun c3 => ?_)
        · have h := it_t c3 h
          refine lv_iinc (v := (x5 + (1 : Int32))) (pc := 62) (lv' := [(5, .int (x5 + (1 : Int32))), (6, .int (s_Plan_side pxs pys x1 x2 x5)), (0, .ref (ad 0)), (1, .int x1), (2, .int x2), (3, .int x3), (4, .int x4)]) hx hb dX2_findSidesOf_62 hl (k := 6) rfl rfl (by decide) rfl (fun ls hl => ?_)
          refine lv_goto (tgt := 8) (pc := 65) hx hb dX2_findSidesOf_65 (by decide) ?_
          exact ih x3 x4 (x5 + (1 : Int32)) out h H locs ls hP hD hS (lv_sub hl [2, 3, 4, 5, 6, 0] rfl) Kx 
        · have h := it_f c3 h
          refine lv_iload (pc := 53) hx hb dX2_findSidesOf_53 (lv_at hl 5 rfl) ?_
          refine lv_iconst (v := (1 : Int32)) (pc := 55) hx hb dX2_findSidesOf_55 (by decide) ?_
          refine lv_iload (pc := 56) hx hb dX2_findSidesOf_56 (lv_at hl 6 rfl) ?_
          refine lv_ishl (pc := 58) hx hb dX2_findSidesOf_58 ?_
          refine lv_ior (pc := 59) hx hb dX2_findSidesOf_59 ?_
          refine lv_istore (pc := 60) (lv' := [(4, .int (x4 ||| ((1 : Int32) <<< (x5 &&& 31)))), (6, .int (s_Plan_side pxs pys x1 x2 x5)), (0, .ref (ad 0)), (1, .int x1), (2, .int x2), (3, .int x3), (5, .int x5)]) hx hb dX2_findSidesOf_60 hl (by decide) rfl (fun ls hl => ?_)
          refine lv_iinc (v := (x5 + (1 : Int32))) (pc := 62) (lv' := [(5, .int (x5 + (1 : Int32))), (4, .int (x4 ||| ((1 : Int32) <<< (x5 &&& 31)))), (6, .int (s_Plan_side pxs pys x1 x2 x5)), (0, .ref (ad 0)), (1, .int x1), (2, .int x2), (3, .int x3)]) hx hb dX2_findSidesOf_62 hl (k := 6) rfl rfl (by decide) rfl (fun ls hl => ?_)
          refine lv_goto (tgt := 8) (pc := 65) hx hb dX2_findSidesOf_65 (by decide) ?_
          exact ih x3 (x4 ||| ((1 : Int32) <<< (x5 &&& 31))) (x5 + (1 : Int32)) out h H locs ls hP hD hS (lv_sub hl [3, 4, 5, 6, 1, 0] rfl) Kx 
      · have h := it_f c2 h
        refine lv_iload_n (pc := 38) hx hb dX2_findSidesOf_38 rfl (lv_at hl 4 rfl) ?_
        refine lv_iconst (v := (1 : Int32)) (pc := 39) hx hb dX2_findSidesOf_39 (by decide) ?_
        refine lv_iload (pc := 40) hx hb dX2_findSidesOf_40 (lv_at hl 6 rfl) ?_
        refine lv_ishl (pc := 42) hx hb dX2_findSidesOf_42 ?_
        refine lv_ior (pc := 43) hx hb dX2_findSidesOf_43 ?_
        refine lv_istore_n (pc := 44) (lv' := [(3, .int (x3 ||| ((1 : Int32) <<< (x5 &&& 31)))), (6, .int (s_Plan_side pxs pys x1 x2 x5)), (0, .ref (ad 0)), (1, .int x1), (2, .int x2), (4, .int x4), (5, .int x5)]) hx hb dX2_findSidesOf_44 rfl hl (by decide) rfl (fun ls hl => ?_)
        refine lv_goto (tgt := 62) (pc := 45) hx hb dX2_findSidesOf_45 (by decide) ?_
        refine lv_iinc (v := (x5 + (1 : Int32))) (pc := 62) (lv' := [(5, .int (x5 + (1 : Int32))), (3, .int (x3 ||| ((1 : Int32) <<< (x5 &&& 31)))), (6, .int (s_Plan_side pxs pys x1 x2 x5)), (0, .ref (ad 0)), (1, .int x1), (2, .int x2), (4, .int x4)]) hx hb dX2_findSidesOf_62 hl (k := 6) rfl rfl (by decide) rfl (fun ls hl => ?_)
        refine lv_goto (tgt := 8) (pc := 65) hx hb dX2_findSidesOf_65 (by decide) ?_
        exact ih (x3 ||| ((1 : Int32) <<< (x5 &&& 31))) x4 (x5 + (1 : Int32)) out h H locs ls hP hD hS (lv_sub hl [3, 4, 5, 1, 6, 0] rfl) Kx 
set_option maxHeartbeats 4000000 in
set_option maxRecDepth 100000 in
theorem c_Mesh_findSidesOf (l : Launch) (K : KT) (ad : Nat → Nat) (pxs : Nat → Int32) (pys : Nat → Int32) (plo : Nat → Int32) (phi : Nat → Int32) (pn : Int32) (pm : Int32) (lf : Nat → Int32) (th : Nat → Int32) (ow : Nat → Int32) (lk : Nat → Int32) (el : Nat → Int32) (eh : Nat → Int32) (co : Nat → Int32) (hu : Nat → Int32) (ne : Int32) (nt : Int32) (nh : Int32) (a0 : Int32) (a1 : Int32) (F : Nat) {o : (Nat → Int32)} (h : s_Mesh_findSidesOf F pxs pys pn lf a0 a1 = some o) : Wr l K 3 yX2_findSidesOf cX2_findSidesOf 7 none [.ref (ad 0), .int a0, .int a1] (wMesh K ad pxs pys plo phi pn pm lf th ow lk el eh co hu ne nt nh) none (wMesh K ad pxs pys plo phi pn pm o th ow lk el eh co hu ne nt nh) := by
  refine Wr.of (by decide +kernel) (Nat.le_of_ble_eq_true rfl) ?_
  unfold s_Mesh_findSidesOf at h
  intro p e s m below meth c hx hb hr hml hown hts hlk H locs hP hG hD hS ls hl
  have C0 : Ctx p m c cX2_findSidesOf 7 s (Array.mk [.ref (ad 0), .int a0, .int a1]) RX2 K meth none := ⟨hx, hb, hml, hown, hts, hG, hr, hlk⟩
  have hl : lv_has ls 7 [(0, .ref (ad 0)), (1, .int a0), (2, .int a1)] := hl
  refine lv_iconst (v := (0 : Int32)) (pc := 0) hx hb dX2_findSidesOf_0 (by decide) ?_
  refine lv_istore_n (pc := 1) (lv' := [(3, .int (0 : Int32)), (0, .ref (ad 0)), (1, .int a0), (2, .int a1)]) hx hb dX2_findSidesOf_1 rfl hl (by decide) rfl (fun ls hl => ?_)
  refine lv_iconst (v := (0 : Int32)) (pc := 2) hx hb dX2_findSidesOf_2 (by decide) ?_
  refine lv_istore (pc := 3) (lv' := [(4, .int (0 : Int32)), (3, .int (0 : Int32)), (0, .ref (ad 0)), (1, .int a0), (2, .int a1)]) hx hb dX2_findSidesOf_3 hl (by decide) rfl (fun ls hl => ?_)
  refine lv_iconst (v := (0 : Int32)) (pc := 5) hx hb dX2_findSidesOf_5 (by decide) ?_
  refine lv_istore (pc := 6) (lv' := [(5, .int (0 : Int32)), (4, .int (0 : Int32)), (3, .int (0 : Int32)), (0, .ref (ad 0)), (1, .int a0), (2, .int a1)]) hx hb dX2_findSidesOf_6 hl (by decide) rfl (fun ls hl => ?_)
  obtain ⟨o4, h_o4, h⟩ := ob h
  refine l_Mesh_findSidesOf_L8 C0 F ad pxs pys plo phi pn pm lf th ow lk el eh co hu ne nt nh a0 a1 F (0 : Int32) (0 : Int32) (0 : Int32) _ h_o4 H locs ls hP hD hS (lv_sub hl [3, 4, 5, 2, 1, 0] rfl) (fun o4x H locs ls eo hP hD hS hl => ?_)
  subst eo
  refine lv_aload_n (pc := 68) hx hb dX2_findSidesOf_68 rfl (lv_at hl 0 rfl) ?_
  refine va_get (D := K.1) (ci := 2) (v := .ref (ad 10)) (C := RX2) (T := TX2) (N := 12) (pc := 69) hx hb hts inT2 hown hG.1 hP 0 rfl rfl 1 (by decide) (hts _ qf_Mesh_20) (fun _ h9 => h9) rfl dX2_findSidesOf_69 ?_
  refine lv_iload_n (pc := 72) hx hb dX2_findSidesOf_72 rfl (lv_at hl 1 rfl) ?_
  refine lv_iload_n (pc := 73) hx hb dX2_findSidesOf_73 rfl (lv_at hl 2 rfl) ?_
  refine lv_iload_n (pc := 74) hx hb dX2_findSidesOf_74 rfl (lv_at hl 3 rfl) ?_
  refine wrVv (pc := 75) (As := [.int a0, .int a1, .int o4x.1]) (rest := []) (ws2 := wMesh K ad pxs pys plo phi pn pm (s_Tab_set lf a0 a1 o4x.1) th ow lk el eh co hu ne nt nh) (as9 := [ad 10, ad 11]) hx hb hml hown hts hG hP hD hS (c_Tab_set l K (fun k => ad (k + 10)) 0 lf a0 a1 o4x.1) [10, 11] rfl rfl rfl rfl rfl (q0 := 10) rfl (ci := 5) rfl g_Mesh_98 hd_Tab_set rfl ⟨Nat.le_of_ble_eq_true rfl, Nat.le_of_ble_eq_true rfl⟩ ⟨Nat.zero_le _, Nat.zero_le _⟩ hl rfl (Nat.le_of_ble_eq_true rfl) dX2_findSidesOf_75 (fun H locs hP hD hS => ?_)
  refine lv_aload_n (pc := 78) hx hb dX2_findSidesOf_78 rfl (lv_at hl 0 rfl) ?_
  refine va_get (D := K.1) (ci := 2) (v := .ref (ad 10)) (C := RX2) (T := TX2) (N := 12) (pc := 79) hx hb hts inT2 hown hG.1 hP 0 rfl rfl 1 (by decide) (hts _ qf_Mesh_20) (fun _ h9 => h9) rfl dX2_findSidesOf_79 ?_
  refine lv_iload_n (pc := 82) hx hb dX2_findSidesOf_82 rfl (lv_at hl 2 rfl) ?_
  refine lv_iload_n (pc := 83) hx hb dX2_findSidesOf_83 rfl (lv_at hl 1 rfl) ?_
  refine lv_iload (pc := 84) hx hb dX2_findSidesOf_84 (lv_at hl 4 rfl) ?_
  refine wrVv (pc := 86) (As := [.int a1, .int a0, .int o4x.2.1]) (rest := []) (ws2 := wMesh K ad pxs pys plo phi pn pm (s_Tab_set (s_Tab_set lf a0 a1 o4x.1) a1 a0 o4x.2.1) th ow lk el eh co hu ne nt nh) (as9 := [ad 10, ad 11]) hx hb hml hown hts hG hP hD hS (c_Tab_set l K (fun k => ad (k + 10)) 0 (s_Tab_set lf a0 a1 o4x.1) a1 a0 o4x.2.1) [10, 11] rfl rfl rfl rfl rfl (q0 := 10) rfl (ci := 5) rfl g_Mesh_98 hd_Tab_set rfl ⟨Nat.le_of_ble_eq_true rfl, Nat.le_of_ble_eq_true rfl⟩ ⟨Nat.zero_le _, Nat.zero_le _⟩ hl rfl (Nat.le_of_ble_eq_true rfl) dX2_findSidesOf_86 (fun H locs hP hD hS => ?_)
  obtain rfl := Option.some.inj h
  exact W.vret hx hb hr (fun t ht hW => ⟨⟨rfl, by rw [ht]; exact hP⟩, hS.F ht⟩) hS.2.2 dX2_findSidesOf_89 hlk
set_option maxHeartbeats 4000000 in
set_option maxRecDepth 100000 in
theorem l_Mesh_findSides_L24 {p : Program} {l : Launch} {e : Env} {s : State} {m : MethodId} {args : Array Value} {below : List Frame} {meth : Method} {c : Code} {Q : State → Prop} {K : KT} {A : Nat → Prop} (C0 : Ctx p m c cX2_findSides 3 s args RX2 K meth none) (F : Nat) (ad : Nat → Nat) (pxs : Nat → Int32) (pys : Nat → Int32) (plo : Nat → Int32) (phi : Nat → Int32) (pn : Int32) (pm : Int32) (th : Nat → Int32) (ow : Nat → Int32) (lk : Nat → Int32) (el : Nat → Int32) (eh : Nat → Int32) (co : Nat → Int32) (hu : Nat → Int32) (ne : Int32) (nt : Int32) (nh : Int32) (x1 : Int32)  : ∀ (n : Nat) (x2 : Int32) (lf : Nat → Int32) (out : Int32 × (Nat → Int32)), s_Mesh_findSides_L24 F pxs pys pn x1 n x2 lf = some out → ∀ (H : Heap) (locs : List Loc) (ls : Array Slot), va_P K.1 vC (wMesh K ad pxs pys plo phi pn pm lf th ow lk el eh co hu ne nt nh) H → va_D A (wMesh K ad pxs pys plo phi pn pm lf th ow lk el eh co hu ne nt nh) → va_S A s.heap H locs → lv_has ls 3 [(0, .ref (ad 0)), (1, .int x1), (2, .int x2)] → (∀ (o : Int32 × (Nat → Int32)) (H : Heap) (locs : List Loc) (ls : Array Slot), out = o → va_P K.1 vC (wMesh K ad pxs pys plo phi pn pm o.2 th ow lk el eh co hu ne nt nh) H → va_D A (wMesh K ad pxs pys plo phi pn pm o.2 th ow lk el eh co hu ne nt nh) → va_S A s.heap H locs → lv_has ls 3 [(0, .ref (ad 0)), (1, .int x1), (2, .int o.1)] → W p l e (rmL 4) s m args below meth c H locs 0 0 Q (F0 m 47 ls [])) → W p l e (rmL 4) s m args below meth c H locs 0 0 Q (F0 m 24 ls []) := by
  obtain ⟨hx, hb, hml, hown, hts, hG, hr, hlk⟩ := id C0
  intro n
  induction n with
  | zero =>
    intro x2 lf out h
    cases h
  | succ n ih =>
    intro x2 lf out h H locs ls hP hD hS hl Kx 
    rw [s_Mesh_findSides_L24.eq_2] at h
    refine lv_iload_n (pc := 24) hx hb dX2_findSides_24 rfl (lv_at hl 2 rfl) ?_
    refine lv_aload_n (pc := 25) hx hb dX2_findSides_25 rfl (lv_at hl 0 rfl) ?_
    refine va_get (D := K.1) (ci := 2) (v := .ref (ad 1)) (C := RX2) (T := TX2) (N := 12) (pc := 26) hx hb hts inT2 hown hG.1 hP 0 rfl rfl 0 (by decide) (hts _ qf_Mesh_9) (fun _ h9 => h9) rfl dX2_findSides_26 ?_
    refine rdV (pc := 29) (As := []) (rest := [.int x2]) hx hb hml hown hts hG hP (c_Plan_points l K (fun k => ad (k + 1)) pxs pys plo phi pn pm) [1, 2, 3, 4, 5, 6, 7, 8, 9] rfl (q0 := 1) rfl (ci := 3) rfl g_Mesh_84 hd_Plan_points rfl ⟨Nat.le_of_ble_eq_true rfl, Nat.le_of_ble_eq_true rfl⟩ ⟨Nat.zero_le _, Nat.zero_le _⟩ hl rfl (Nat.le_of_ble_eq_true rfl) dX2_findSides_29 ?_
    refine lv_icmp_ge (tgt := 47) (pc := 32) hx hb dX2_findSides_32 (by decide) (fun c3 => ?_) (fun c3 => ?_)
    · have h := it_t c3 h
      obtain rfl := Option.some.inj h
      exact Kx _ H locs ls rfl hP hD hS (lv_sub hl [0, 1, 2] rfl)
    · have h := it_f c3 h
      refine lv_aload_n (pc := 35) hx hb dX2_findSides_35 rfl (lv_at hl 0 rfl) ?_
      refine lv_iload_n (pc := 36) hx hb dX2_findSides_36 rfl (lv_at hl 1 rfl) ?_
      refine lv_iload_n (pc := 37) hx hb dX2_findSides_37 rfl (lv_at hl 2 rfl) ?_
      obtain ⟨v4, h_v4, h⟩ := ob h
      refine wrVv (pc := 38) (As := [.int x1, .int x2]) (rest := []) (ws2 := wMesh K ad pxs pys plo phi pn pm v4 th ow lk el eh co hu ne nt nh) (as9 := [ad 0, ad 1, ad 2, ad 3, ad 4, ad 5, ad 6, ad 7, ad 8, ad 9, ad 10, ad 11, ad 12, ad 13, ad 14, ad 15, ad 16, ad 17, ad 18, ad 19, ad 20, ad 21, ad 22, ad 23, ad 24, ad 25]) hx hb hml hown hts hG hP hD hS (c_Mesh_findSidesOf l K ad pxs pys plo phi pn pm lf th ow lk el eh co hu ne nt nh x1 x2 F h_v4) [0, 1, 2, 3, 4, 5, 6, 7, 8, 9, 10, 11, 12, 13, 14, 15, 16, 17, 18, 19, 20, 21, 22, 23, 24, 25] rfl rfl rfl rfl rfl (q0 := 0) rfl (ci := 2) rfl g_Mesh_90 hd_Mesh_findSidesOf rfl ⟨Nat.le_of_ble_eq_true rfl, Nat.le_of_ble_eq_true rfl⟩ ⟨Nat.zero_le _, Nat.zero_le _⟩ hl rfl (Nat.le_of_ble_eq_true rfl) dX2_findSides_38 (fun H locs hP hD hS => ?_)
      refine lv_iinc (v := (x2 + (1 : Int32))) (pc := 41) (lv' := [(2, .int (x2 + (1 : Int32))), (0, .ref (ad 0)), (1, .int x1)]) hx hb dX2_findSides_41 hl (k := 2) rfl rfl (by decide) rfl (fun ls hl => ?_)
      refine lv_goto (tgt := 24) (pc := 44) hx hb dX2_findSides_44 (by decide) ?_
      exact ih (x2 + (1 : Int32)) v4 out h H locs ls hP hD hS (lv_sub hl [1, 2, 0] rfl) Kx 
set_option maxHeartbeats 4000000 in
set_option maxRecDepth 100000 in
theorem l_Mesh_findSides_L9 {p : Program} {l : Launch} {e : Env} {s : State} {m : MethodId} {args : Array Value} {below : List Frame} {meth : Method} {c : Code} {Q : State → Prop} {K : KT} {A : Nat → Prop} (C0 : Ctx p m c cX2_findSides 3 s args RX2 K meth none) (F : Nat) (ad : Nat → Nat) (pxs : Nat → Int32) (pys : Nat → Int32) (plo : Nat → Int32) (phi : Nat → Int32) (pn : Int32) (pm : Int32) (th : Nat → Int32) (ow : Nat → Int32) (lk : Nat → Int32) (el : Nat → Int32) (eh : Nat → Int32) (co : Nat → Int32) (hu : Nat → Int32) (ne : Int32) (nt : Int32) (nh : Int32)  : ∀ (n : Nat) (x1 : Int32) (lf : Nat → Int32) (out : Int32 × (Nat → Int32)), s_Mesh_findSides_L9 F pxs pys pn n x1 lf = some out → ∀ (H : Heap) (locs : List Loc) (ls : Array Slot), va_P K.1 vC (wMesh K ad pxs pys plo phi pn pm lf th ow lk el eh co hu ne nt nh) H → va_D A (wMesh K ad pxs pys plo phi pn pm lf th ow lk el eh co hu ne nt nh) → va_S A s.heap H locs → lv_has ls 3 [(0, .ref (ad 0)), (1, .int x1)] → (∀ (o : Int32 × (Nat → Int32)) (H : Heap) (locs : List Loc) (ls : Array Slot), out = o → va_P K.1 vC (wMesh K ad pxs pys plo phi pn pm o.2 th ow lk el eh co hu ne nt nh) H → va_D A (wMesh K ad pxs pys plo phi pn pm o.2 th ow lk el eh co hu ne nt nh) → va_S A s.heap H locs → lv_has ls 3 [(0, .ref (ad 0)), (1, .int o.1)] → W p l e (rmL 4) s m args below meth c H locs 0 0 Q (F0 m 53 ls [])) → W p l e (rmL 4) s m args below meth c H locs 0 0 Q (F0 m 9 ls []) := by
  obtain ⟨hx, hb, hml, hown, hts, hG, hr, hlk⟩ := id C0
  intro n
  induction n with
  | zero =>
    intro x1 lf out h
    cases h
  | succ n ih =>
    intro x1 lf out h H locs ls hP hD hS hl Kx 
    rw [s_Mesh_findSides_L9.eq_2] at h
    refine lv_iload_n (pc := 9) hx hb dX2_findSides_9 rfl (lv_at hl 1 rfl) ?_
    refine lv_aload_n (pc := 10) hx hb dX2_findSides_10 rfl (lv_at hl 0 rfl) ?_
    refine va_get (D := K.1) (ci := 2) (v := .ref (ad 1)) (C := RX2) (T := TX2) (N := 12) (pc := 11) hx hb hts inT2 hown hG.1 hP 0 rfl rfl 0 (by decide) (hts _ qf_Mesh_9) (fun _ h9 => h9) rfl dX2_findSides_11 ?_
    refine rdV (pc := 14) (As := []) (rest := [.int x1]) hx hb hml hown hts hG hP (c_Plan_points l K (fun k => ad (k + 1)) pxs pys plo phi pn pm) [1, 2, 3, 4, 5, 6, 7, 8, 9] rfl (q0 := 1) rfl (ci := 3) rfl g_Mesh_84 hd_Plan_points rfl ⟨Nat.le_of_ble_eq_true rfl, Nat.le_of_ble_eq_true rfl⟩ ⟨Nat.zero_le _, Nat.zero_le _⟩ hl rfl (Nat.le_of_ble_eq_true rfl) dX2_findSides_14 ?_
    refine lv_icmp_ge (tgt := 53) (pc := 17) hx hb dX2_findSides_17 (by decide) (fun c2 => ?_) (fun c2 => ?_)
    · have h := it_t c2 h
      obtain rfl := Option.some.inj h
      exact Kx _ H locs ls rfl hP hD hS (lv_sub hl [0, 1] rfl)
    · have h := it_f c2 h
      refine lv_iload_n (pc := 20) hx hb dX2_findSides_20 rfl (lv_at hl 1 rfl) ?_
      refine lv_iconst (v := (1 : Int32)) (pc := 21) hx hb dX2_findSides_21 (by decide) ?_
      refine lv_iadd (pc := 22) hx hb dX2_findSides_22 ?_
      refine lv_istore_n (pc := 23) (lv' := [(2, .int (x1 + (1 : Int32))), (0, .ref (ad 0)), (1, .int x1)]) hx hb dX2_findSides_23 rfl hl (by decide) rfl (fun ls hl => ?_)
      obtain ⟨o5, h_o5, h⟩ := ob h
      refine l_Mesh_findSides_L24 C0 F ad pxs pys plo phi pn pm th ow lk el eh co hu ne nt nh x1 F (x1 + (1 : Int32)) lf _ h_o5 H locs ls hP hD hS (lv_sub hl [1, 2, 0] rfl) (fun o5x H locs ls eo hP hD hS hl => ?_)
      subst eo
      refine lv_iinc (v := (x1 + (1 : Int32))) (pc := 47) (lv' := [(1, .int (x1 + (1 : Int32))), (0, .ref (ad 0)), (2, .int o5x.1)]) hx hb dX2_findSides_47 hl (k := 1) rfl rfl (by decide) rfl (fun ls hl => ?_)
      refine lv_goto (tgt := 9) (pc := 50) hx hb dX2_findSides_50 (by decide) ?_
      exact ih (x1 + (1 : Int32)) o5x.2 out h H locs ls hP hD hS (lv_sub hl [1, 0] rfl) Kx 
set_option maxHeartbeats 4000000 in
set_option maxRecDepth 100000 in
theorem c_Mesh_findSides (l : Launch) (K : KT) (ad : Nat → Nat) (pxs : Nat → Int32) (pys : Nat → Int32) (plo : Nat → Int32) (phi : Nat → Int32) (pn : Int32) (pm : Int32) (lf : Nat → Int32) (th : Nat → Int32) (ow : Nat → Int32) (lk : Nat → Int32) (el : Nat → Int32) (eh : Nat → Int32) (co : Nat → Int32) (hu : Nat → Int32) (ne : Int32) (nt : Int32) (nh : Int32) (F : Nat) {o : (Nat → Int32)} (h : s_Mesh_findSides F pxs pys pn lf = some o) : Wr l K 4 yX2_findSides cX2_findSides 3 none [.ref (ad 0)] (wMesh K ad pxs pys plo phi pn pm lf th ow lk el eh co hu ne nt nh) none (wMesh K ad pxs pys plo phi pn pm o th ow lk el eh co hu ne nt nh) := by
  refine Wr.of (by decide +kernel) (Nat.le_of_ble_eq_true rfl) ?_
  unfold s_Mesh_findSides at h
  intro p e s m below meth c hx hb hr hml hown hts hlk H locs hP hG hD hS ls hl
  have C0 : Ctx p m c cX2_findSides 3 s (Array.mk [.ref (ad 0)]) RX2 K meth none := ⟨hx, hb, hml, hown, hts, hG, hr, hlk⟩
  have hl : lv_has ls 3 [(0, .ref (ad 0))] := hl
  refine lv_aload_n (pc := 0) hx hb dX2_findSides_0 rfl (lv_at hl 0 rfl) ?_
  refine va_get (D := K.1) (ci := 2) (v := .ref (ad 10)) (C := RX2) (T := TX2) (N := 12) (pc := 1) hx hb hts inT2 hown hG.1 hP 0 rfl rfl 1 (by decide) (hts _ qf_Mesh_20) (fun _ h9 => h9) rfl dX2_findSides_1 ?_
  obtain ⟨v1, h_v1, h⟩ := ob h
  refine wrVv (pc := 4) (As := []) (rest := []) (ws2 := wMesh K ad pxs pys plo phi pn pm v1 th ow lk el eh co hu ne nt nh) (as9 := [ad 10, ad 11]) hx hb hml hown hts hG hP hD hS (c_Tab_clear l K (fun k => ad (k + 10)) 0 lf F h_v1) [10, 11] rfl rfl rfl rfl rfl (q0 := 10) rfl (ci := 5) rfl g_Mesh_81 hd_Tab_clear rfl ⟨Nat.le_of_ble_eq_true rfl, Nat.le_of_ble_eq_true rfl⟩ ⟨Nat.zero_le _, Nat.zero_le _⟩ hl rfl (Nat.le_of_ble_eq_true rfl) dX2_findSides_4 (fun H locs hP hD hS => ?_)
  refine lv_iconst (v := (0 : Int32)) (pc := 7) hx hb dX2_findSides_7 (by decide) ?_
  refine lv_istore_n (pc := 8) (lv' := [(1, .int (0 : Int32)), (0, .ref (ad 0))]) hx hb dX2_findSides_8 rfl hl (by decide) rfl (fun ls hl => ?_)
  obtain ⟨o6, h_o6, h⟩ := ob h
  refine l_Mesh_findSides_L9 C0 F ad pxs pys plo phi pn pm th ow lk el eh co hu ne nt nh F (0 : Int32) v1 _ h_o6 H locs ls hP hD hS (lv_sub hl [1, 0] rfl) (fun o6x H locs ls eo hP hD hS hl => ?_)
  subst eo
  obtain rfl := Option.some.inj h
  exact W.vret hx hb hr (fun t ht hW => ⟨⟨rfl, by rw [ht]; exact hP⟩, hS.F ht⟩) hS.2.2 dX2_findSides_53 hlk
set_option maxHeartbeats 4000000 in
set_option maxRecDepth 100000 in
theorem c_Mesh_link (l : Launch) (K : KT) (ad : Nat → Nat) (pxs : Nat → Int32) (pys : Nat → Int32) (plo : Nat → Int32) (phi : Nat → Int32) (pn : Int32) (pm : Int32) (lf : Nat → Int32) (th : Nat → Int32) (ow : Nat → Int32) (lk : Nat → Int32) (el : Nat → Int32) (eh : Nat → Int32) (co : Nat → Int32) (hu : Nat → Int32) (ne : Int32) (nt : Int32) (nh : Int32) (a0 : Int32) (a1 : Int32) : Wr l K 1 yX2_link cX2_link 3 none [.ref (ad 0), .int a0, .int a1] (wMesh K ad pxs pys plo phi pn pm lf th ow lk el eh co hu ne nt nh) none (wMesh K ad pxs pys plo phi pn pm lf th ow (s_Mesh_link lk a0 a1) el eh co hu ne nt nh) := by
  generalize h : s_Mesh_link lk a0 a1 = o
  refine Wr.of (by decide +kernel) (Nat.le_of_ble_eq_true rfl) ?_
  unfold s_Mesh_link at h
  intro p e s m below meth c hx hb hr hml hown hts hlk H locs hP hG hD hS ls hl
  have C0 : Ctx p m c cX2_link 3 s (Array.mk [.ref (ad 0), .int a0, .int a1]) RX2 K meth none := ⟨hx, hb, hml, hown, hts, hG, hr, hlk⟩
  have hl : lv_has ls 3 [(0, .ref (ad 0)), (1, .int a0), (2, .int a1)] := hl
  refine lv_aload_n (pc := 0) hx hb dX2_link_0 rfl (lv_at hl 0 rfl) ?_
  refine va_get (D := K.1) (ci := 2) (v := .ref (ad 16)) (C := RX2) (T := TX2) (N := 12) (pc := 1) hx hb hts inT2 hown hG.1 hP 0 rfl rfl 4 (by decide) (hts _ qf_Mesh_33) (fun _ h9 => h9) rfl dX2_link_1 ?_
  refine lv_iload_n (pc := 4) hx hb dX2_link_4 rfl (lv_at hl 1 rfl) ?_
  refine lv_aload_n (pc := 5) hx hb dX2_link_5 rfl (lv_at hl 0 rfl) ?_
  refine va_get (D := K.1) (ci := 2) (v := .ref (ad 16)) (C := RX2) (T := TX2) (N := 12) (pc := 6) hx hb hts inT2 hown hG.1 hP 0 rfl rfl 4 (by decide) (hts _ qf_Mesh_33) (fun _ h9 => h9) rfl dX2_link_6 ?_
  refine lv_iload_n (pc := 9) hx hb dX2_link_9 rfl (lv_at hl 1 rfl) ?_
  refine rdV (pc := 10) (As := [.int a0]) (rest := [.int a0, .ref (ad 16)]) hx hb hml hown hts hG hP (c_Row_get l K (fun k => ad (k + 16)) 16 (by decide) lk a0) [16, 17] rfl (q0 := 16) rfl (ci := 4) rfl g_Mesh_127 hd_Row_get rfl ⟨Nat.le_of_ble_eq_true rfl, Nat.le_of_ble_eq_true rfl⟩ ⟨Nat.zero_le _, Nat.zero_le _⟩ hl rfl (Nat.le_of_ble_eq_true rfl) dX2_link_10 ?_
  refine lv_iconst (v := (1 : Int32)) (pc := 13) hx hb dX2_link_13 (by decide) ?_
  refine lv_iload_n (pc := 14) hx hb dX2_link_14 rfl (lv_at hl 2 rfl) ?_
  refine lv_ishl (pc := 15) hx hb dX2_link_15 ?_
  refine lv_ior (pc := 16) hx hb dX2_link_16 ?_
  refine wrVv (pc := 17) (As := [.int a0, .int ((s_Row_get 16 lk a0) ||| ((1 : Int32) <<< (a1 &&& 31)))]) (rest := []) (ws2 := wMesh K ad pxs pys plo phi pn pm lf th ow (s_Row_set 16 lk a0 ((s_Row_get 16 lk a0) ||| ((1 : Int32) <<< (a1 &&& 31)))) el eh co hu ne nt nh) (as9 := [ad 16, ad 17]) hx hb hml hown hts hG hP hD hS (c_Row_set l K (fun k => ad (k + 16)) 16 (by decide) lk a0 ((s_Row_get 16 lk a0) ||| ((1 : Int32) <<< (a1 &&& 31)))) [16, 17] rfl rfl rfl rfl rfl (q0 := 16) rfl (ci := 4) rfl g_Mesh_102 hd_Row_set rfl ⟨Nat.le_of_ble_eq_true rfl, Nat.le_of_ble_eq_true rfl⟩ ⟨Nat.zero_le _, Nat.zero_le _⟩ hl rfl (Nat.le_of_ble_eq_true rfl) dX2_link_17 (fun H locs hP hD hS => ?_)
  refine lv_aload_n (pc := 20) hx hb dX2_link_20 rfl (lv_at hl 0 rfl) ?_
  refine va_get (D := K.1) (ci := 2) (v := .ref (ad 16)) (C := RX2) (T := TX2) (N := 12) (pc := 21) hx hb hts inT2 hown hG.1 hP 0 rfl rfl 4 (by decide) (hts _ qf_Mesh_33) (fun _ h9 => h9) rfl dX2_link_21 ?_
  refine lv_iload_n (pc := 24) hx hb dX2_link_24 rfl (lv_at hl 2 rfl) ?_
  refine lv_aload_n (pc := 25) hx hb dX2_link_25 rfl (lv_at hl 0 rfl) ?_
  refine va_get (D := K.1) (ci := 2) (v := .ref (ad 16)) (C := RX2) (T := TX2) (N := 12) (pc := 26) hx hb hts inT2 hown hG.1 hP 0 rfl rfl 4 (by decide) (hts _ qf_Mesh_33) (fun _ h9 => h9) rfl dX2_link_26 ?_
  refine lv_iload_n (pc := 29) hx hb dX2_link_29 rfl (lv_at hl 2 rfl) ?_
  refine rdV (pc := 30) (As := [.int a1]) (rest := [.int a1, .ref (ad 16)]) hx hb hml hown hts hG hP (c_Row_get l K (fun k => ad (k + 16)) 16 (by decide) (s_Row_set 16 lk a0 ((s_Row_get 16 lk a0) ||| ((1 : Int32) <<< (a1 &&& 31)))) a1) [16, 17] rfl (q0 := 16) rfl (ci := 4) rfl g_Mesh_127 hd_Row_get rfl ⟨Nat.le_of_ble_eq_true rfl, Nat.le_of_ble_eq_true rfl⟩ ⟨Nat.zero_le _, Nat.zero_le _⟩ hl rfl (Nat.le_of_ble_eq_true rfl) dX2_link_30 ?_
  refine lv_iconst (v := (1 : Int32)) (pc := 33) hx hb dX2_link_33 (by decide) ?_
  refine lv_iload_n (pc := 34) hx hb dX2_link_34 rfl (lv_at hl 1 rfl) ?_
  refine lv_ishl (pc := 35) hx hb dX2_link_35 ?_
  refine lv_ior (pc := 36) hx hb dX2_link_36 ?_
  refine wrVv (pc := 37) (As := [.int a1, .int ((s_Row_get 16 (s_Row_set 16 lk a0 ((s_Row_get 16 lk a0) ||| ((1 : Int32) <<< (a1 &&& 31)))) a1) ||| ((1 : Int32) <<< (a0 &&& 31)))]) (rest := []) (ws2 := wMesh K ad pxs pys plo phi pn pm lf th ow (s_Row_set 16 (s_Row_set 16 lk a0 ((s_Row_get 16 lk a0) ||| ((1 : Int32) <<< (a1 &&& 31)))) a1 ((s_Row_get 16 (s_Row_set 16 lk a0 ((s_Row_get 16 lk a0) ||| ((1 : Int32) <<< (a1 &&& 31)))) a1) ||| ((1 : Int32) <<< (a0 &&& 31)))) el eh co hu ne nt nh) (as9 := [ad 16, ad 17]) hx hb hml hown hts hG hP hD hS (c_Row_set l K (fun k => ad (k + 16)) 16 (by decide) (s_Row_set 16 lk a0 ((s_Row_get 16 lk a0) ||| ((1 : Int32) <<< (a1 &&& 31)))) a1 ((s_Row_get 16 (s_Row_set 16 lk a0 ((s_Row_get 16 lk a0) ||| ((1 : Int32) <<< (a1 &&& 31)))) a1) ||| ((1 : Int32) <<< (a0 &&& 31)))) [16, 17] rfl rfl rfl rfl rfl (q0 := 16) rfl (ci := 4) rfl g_Mesh_102 hd_Row_set rfl ⟨Nat.le_of_ble_eq_true rfl, Nat.le_of_ble_eq_true rfl⟩ ⟨Nat.zero_le _, Nat.zero_le _⟩ hl rfl (Nat.le_of_ble_eq_true rfl) dX2_link_37 (fun H locs hP hD hS => ?_)
  subst h
  exact W.vret hx hb hr (fun t ht hW => ⟨⟨rfl, by rw [ht]; exact hP⟩, hS.F ht⟩) hS.2.2 dX2_link_40 hlk
set_option maxHeartbeats 4000000 in
set_option maxRecDepth 100000 in
theorem c_Mesh_drawEdge (l : Launch) (K : KT) (ad : Nat → Nat) (pxs : Nat → Int32) (pys : Nat → Int32) (plo : Nat → Int32) (phi : Nat → Int32) (pn : Int32) (pm : Int32) (lf : Nat → Int32) (th : Nat → Int32) (ow : Nat → Int32) (lk : Nat → Int32) (el : Nat → Int32) (eh : Nat → Int32) (co : Nat → Int32) (hu : Nat → Int32) (ne : Int32) (nt : Int32) (nh : Int32) (a0 : Int32) (a1 : Int32) : Wr l K 2 yX2_drawEdge cX2_drawEdge 3 none [.ref (ad 0), .int a0, .int a1] (wMesh K ad pxs pys plo phi pn pm lf th ow lk el eh co hu ne nt nh) none (wMesh K ad pxs pys plo phi pn pm lf th ow ((s_Mesh_drawEdge lk el eh ne a0 a1).1) ((s_Mesh_drawEdge lk el eh ne a0 a1).2.1) ((s_Mesh_drawEdge lk el eh ne a0 a1).2.2.1) co hu ((s_Mesh_drawEdge lk el eh ne a0 a1).2.2.2) nt nh) := by
  generalize h : s_Mesh_drawEdge lk el eh ne a0 a1 = o
  refine Wr.of (by decide +kernel) (Nat.le_of_ble_eq_true rfl) ?_
  unfold s_Mesh_drawEdge at h
  intro p e s m below meth c hx hb hr hml hown hts hlk H locs hP hG hD hS ls hl
  have C0 : Ctx p m c cX2_drawEdge 3 s (Array.mk [.ref (ad 0), .int a0, .int a1]) RX2 K meth none := ⟨hx, hb, hml, hown, hts, hG, hr, hlk⟩
  have hl : lv_has ls 3 [(0, .ref (ad 0)), (1, .int a0), (2, .int a1)] := hl
  refine lv_aload_n (pc := 0) hx hb dX2_drawEdge_0 rfl (lv_at hl 0 rfl) ?_
  refine va_get (D := K.1) (ci := 2) (v := .ref (ad 18)) (C := RX2) (T := TX2) (N := 12) (pc := 1) hx hb hts inT2 hown hG.1 hP 0 rfl rfl 5 (by decide) (hts _ qf_Mesh_37) (fun _ h9 => h9) rfl dX2_drawEdge_1 ?_
  refine lv_aload_n (pc := 4) hx hb dX2_drawEdge_4 rfl (lv_at hl 0 rfl) ?_
  refine va_get (D := K.1) (ci := 2) (v := .int ne) (C := RX2) (T := TX2) (N := 12) (pc := 5) hx hb hts inT2 hown hG.1 hP 0 rfl rfl 9 (by decide) (hts _ qf_Mesh_49) (fun _ h9 => h9) rfl dX2_drawEdge_5 ?_
  refine lv_iload_n (pc := 8) hx hb dX2_drawEdge_8 rfl (lv_at hl 1 rfl) ?_
  refine wrVv (pc := 9) (As := [.int ne, .int a0]) (rest := []) (ws2 := wMesh K ad pxs pys plo phi pn pm lf th ow lk (s_Row_set 42 el ne a0) eh co hu ne nt nh) (as9 := [ad 18, ad 19]) hx hb hml hown hts hG hP hD hS (c_Row_set l K (fun k => ad (k + 18)) 42 (by decide) el ne a0) [18, 19] rfl rfl rfl rfl rfl (q0 := 18) rfl (ci := 4) rfl g_Mesh_102 hd_Row_set rfl ⟨Nat.le_of_ble_eq_true rfl, Nat.le_of_ble_eq_true rfl⟩ ⟨Nat.zero_le _, Nat.zero_le _⟩ hl rfl (Nat.le_of_ble_eq_true rfl) dX2_drawEdge_9 (fun H locs hP hD hS => ?_)
  refine lv_aload_n (pc := 12) hx hb dX2_drawEdge_12 rfl (lv_at hl 0 rfl) ?_
  refine va_get (D := K.1) (ci := 2) (v := .ref (ad 20)) (C := RX2) (T := TX2) (N := 12) (pc := 13) hx hb hts inT2 hown hG.1 hP 0 rfl rfl 6 (by decide) (hts _ qf_Mesh_40) (fun _ h9 => h9) rfl dX2_drawEdge_13 ?_
  refine lv_aload_n (pc := 16) hx hb dX2_drawEdge_16 rfl (lv_at hl 0 rfl) ?_
  refine va_get (D := K.1) (ci := 2) (v := .int ne) (C := RX2) (T := TX2) (N := 12) (pc := 17) hx hb hts inT2 hown hG.1 hP 0 rfl rfl 9 (by decide) (hts _ qf_Mesh_49) (fun _ h9 => h9) rfl dX2_drawEdge_17 ?_
  refine lv_iload_n (pc := 20) hx hb dX2_drawEdge_20 rfl (lv_at hl 2 rfl) ?_
  refine wrVv (pc := 21) (As := [.int ne, .int a1]) (rest := []) (ws2 := wMesh K ad pxs pys plo phi pn pm lf th ow lk (s_Row_set 42 el ne a0) (s_Row_set 42 eh ne a1) co hu ne nt nh) (as9 := [ad 20, ad 21]) hx hb hml hown hts hG hP hD hS (c_Row_set l K (fun k => ad (k + 20)) 42 (by decide) eh ne a1) [20, 21] rfl rfl rfl rfl rfl (q0 := 20) rfl (ci := 4) rfl g_Mesh_102 hd_Row_set rfl ⟨Nat.le_of_ble_eq_true rfl, Nat.le_of_ble_eq_true rfl⟩ ⟨Nat.zero_le _, Nat.zero_le _⟩ hl rfl (Nat.le_of_ble_eq_true rfl) dX2_drawEdge_21 (fun H locs hP hD hS => ?_)
  refine lv_aload_n (pc := 24) hx hb dX2_drawEdge_24 rfl (lv_at hl 0 rfl) ?_
  refine lv_dup (pc := 25) hx hb dX2_drawEdge_25 rfl ?_
  refine va_get (D := K.1) (ci := 2) (v := .int ne) (C := RX2) (T := TX2) (N := 12) (pc := 26) hx hb hts inT2 hown hG.1 hP 0 rfl rfl 9 (by decide) (hts _ qf_Mesh_49) (fun _ h9 => h9) rfl dX2_drawEdge_26 ?_
  refine lv_iconst (v := (1 : Int32)) (pc := 29) hx hb dX2_drawEdge_29 (by decide) ?_
  refine lv_iadd (pc := 30) hx hb dX2_drawEdge_30 ?_
  refine va_put (D := K.1) (ci := 2) (v := .int (ne + (1 : Int32))) (ty := .int) (C := RX2) (T := TX2) (N := 12) (pc := 31) hx hb hts inT2 tyX2 tyX2_ok nmX2 hown hG.1 hP hD hS 0 rfl rfl 9 (by decide) (hts _ qf_Mesh_49) (fun _ h9 => h9) rfl (by decide +kernel) rfl rfl (Nat.le_of_ble_eq_true rfl) dX2_drawEdge_31 (fun H locs hP hD hS => ?_)
  have hP : va_P K.1 vC (wMesh K ad pxs pys plo phi pn pm lf th ow lk (s_Row_set 42 el ne a0) (s_Row_set 42 eh ne a1) co hu (ne + (1 : Int32)) nt nh) H := hP
  have hD : va_D _ (wMesh K ad pxs pys plo phi pn pm lf th ow lk (s_Row_set 42 el ne a0) (s_Row_set 42 eh ne a1) co hu (ne + (1 : Int32)) nt nh) := hD
  refine lv_aload_n (pc := 34) hx hb dX2_drawEdge_34 rfl (lv_at hl 0 rfl) ?_
  refine lv_iload_n (pc := 35) hx hb dX2_drawEdge_35 rfl (lv_at hl 1 rfl) ?_
  refine lv_iload_n (pc := 36) hx hb dX2_drawEdge_36 rfl (lv_at hl 2 rfl) ?_
  refine wrVv (pc := 37) (As := [.int a0, .int a1]) (rest := []) (ws2 := wMesh K ad pxs pys plo phi pn pm lf th ow (s_Mesh_link lk a0 a1) (s_Row_set 42 el ne a0) (s_Row_set 42 eh ne a1) co hu (ne + (1 : Int32)) nt nh) (as9 := [ad 0, ad 1, ad 2, ad 3, ad 4, ad 5, ad 6, ad 7, ad 8, ad 9, ad 10, ad 11, ad 12, ad 13, ad 14, ad 15, ad 16, ad 17, ad 18, ad 19, ad 20, ad 21, ad 22, ad 23, ad 24, ad 25]) hx hb hml hown hts hG hP hD hS (c_Mesh_link l K ad pxs pys plo phi pn pm lf th ow lk (s_Row_set 42 el ne a0) (s_Row_set 42 eh ne a1) co hu (ne + (1 : Int32)) nt nh a0 a1) [0, 1, 2, 3, 4, 5, 6, 7, 8, 9, 10, 11, 12, 13, 14, 15, 16, 17, 18, 19, 20, 21, 22, 23, 24, 25] rfl rfl rfl rfl rfl (q0 := 0) rfl (ci := 2) rfl g_Mesh_134 hd_Mesh_link rfl ⟨Nat.le_of_ble_eq_true rfl, Nat.le_of_ble_eq_true rfl⟩ ⟨Nat.zero_le _, Nat.zero_le _⟩ hl rfl (Nat.le_of_ble_eq_true rfl) dX2_drawEdge_37 (fun H locs hP hD hS => ?_)
  subst h
  exact W.vret hx hb hr (fun t ht hW => ⟨⟨rfl, by rw [ht]; exact hP⟩, hS.F ht⟩) hS.2.2 dX2_drawEdge_40 hlk
set_option maxHeartbeats 4000000 in
set_option maxRecDepth 100000 in
theorem c_Mesh_isLinked (l : Launch) (K : KT) (ad : Nat → Nat) (pxs : Nat → Int32) (pys : Nat → Int32) (plo : Nat → Int32) (phi : Nat → Int32) (pn : Int32) (pm : Int32) (lf : Nat → Int32) (th : Nat → Int32) (ow : Nat → Int32) (lk : Nat → Int32) (el : Nat → Int32) (eh : Nat → Int32) (co : Nat → Int32) (hu : Nat → Int32) (ne : Int32) (nt : Int32) (nh : Int32) (a0 : Int32) (a1 : Int32) : Rd l K 1 yX2_isLinked cX2_isLinked 3 .boolean [.ref (ad 0), .int a0, .int a1] (wMesh K ad pxs pys plo phi pn pm lf th ow lk el eh co hu ne nt nh) (bI (s_Mesh_isLinked lk a0 a1)) := by
  generalize h : s_Mesh_isLinked lk a0 a1 = o
  refine Rd.of (by decide +kernel) (Nat.le_of_ble_eq_true rfl) ?_
  unfold s_Mesh_isLinked at h
  intro p e s m below meth c hx hb hr hml hown hts hlk hP hG ls hl
  have C0 : Ctx p m c cX2_isLinked 3 s (Array.mk [.ref (ad 0), .int a0, .int a1]) RX2 K meth (some .boolean) := ⟨hx, hb, hml, hown, hts, hG, hr, hlk⟩
  have hl : lv_has ls 3 [(0, .ref (ad 0)), (1, .int a0), (2, .int a1)] := hl
  refine lv_aload_n (pc := 0) hx hb dX2_isLinked_0 rfl (lv_at hl 0 rfl) ?_
  refine va_get (D := K.1) (ci := 2) (v := .ref (ad 16)) (C := RX2) (T := TX2) (N := 12) (pc := 1) hx hb hts inT2 hown hG.1 hP 0 rfl rfl 4 (by decide) (hts _ qf_Mesh_33) (fun _ h9 => h9) rfl dX2_isLinked_1 ?_
  refine lv_iload_n (pc := 4) hx hb dX2_isLinked_4 rfl (lv_at hl 1 rfl) ?_
  refine rdV (pc := 5) (As := [.int a0]) (rest := []) hx hb hml hown hts hG hP (c_Row_get l K (fun k => ad (k + 16)) 16 (by decide) lk a0) [16, 17] rfl (q0 := 16) rfl (ci := 4) rfl g_Mesh_127 hd_Row_get rfl ⟨Nat.le_of_ble_eq_true rfl, Nat.le_of_ble_eq_true rfl⟩ ⟨Nat.zero_le _, Nat.zero_le _⟩ hl rfl (Nat.le_of_ble_eq_true rfl) dX2_isLinked_5 ?_
  refine lv_iload_n (pc := 8) hx hb dX2_isLinked_8 rfl (lv_at hl 2 rfl) ?_
  refine lv_ishr (pc := 9) hx hb dX2_isLinked_9 ?_
  refine lv_iconst (v := (1 : Int32)) (pc := 10) hx hb dX2_isLinked_10 (by decide) ?_
  refine lv_iand (pc := 11) hx hb dX2_isLinked_11 ?_
  refine lv_if_eq (tgt := 19) (pc := 12) hx hb dX2_isLinked_12 (by decide) (fun c1 => ?_) (fun c1 => ?_)
  · have h := it_t c1 h
    refine lv_iconst (v := (0 : Int32)) (pc := 19) hx hb dX2_isLinked_19 (by decide) ?_
    subst h
    exact W.zret hx hb hr (rfl) (fun t ht hW => ⟨rfl, ht⟩) (fun q hq => absurd hq List.not_mem_nil) dX2_isLinked_20 hlk
  · have h := it_f c1 h
    refine lv_iconst (v := (1 : Int32)) (pc := 15) hx hb dX2_isLinked_15 (by decide) ?_
    refine lv_goto (tgt := 20) (pc := 16) hx hb dX2_isLinked_16 (by decide) ?_
    subst h
    exact W.zret hx hb hr (rfl) (fun t ht hW => ⟨rfl, ht⟩) (fun q hq => absurd hq List.not_mem_nil) dX2_isLinked_20 hlk
set_option maxHeartbeats 4000000 in
set_option maxRecDepth 100000 in
theorem c_Mesh_parts (l : Launch) (K : KT) (ad : Nat → Nat) (pxs : Nat → Int32) (pys : Nat → Int32) (plo : Nat → Int32) (phi : Nat → Int32) (pn : Int32) (pm : Int32) (lf : Nat → Int32) (th : Nat → Int32) (ow : Nat → Int32) (lk : Nat → Int32) (el : Nat → Int32) (eh : Nat → Int32) (co : Nat → Int32) (hu : Nat → Int32) (ne : Int32) (nt : Int32) (nh : Int32) (a0 : Int32) (a1 : Int32) (a2 : Int32) (a3 : Int32) : Rd l K 1 yX2_parts cX2_parts 7 .boolean [.ref (ad 0), .int a0, .int a1, .int a2, .int a3] (wMesh K ad pxs pys plo phi pn pm lf th ow lk el eh co hu ne nt nh) (bI (s_Mesh_parts lf a0 a1 a2 a3)) := by
  generalize h : s_Mesh_parts lf a0 a1 a2 a3 = o
  refine Rd.of (by decide +kernel) (Nat.le_of_ble_eq_true rfl) ?_
  unfold s_Mesh_parts at h
  intro p e s m below meth c hx hb hr hml hown hts hlk hP hG ls hl
  have C0 : Ctx p m c cX2_parts 7 s (Array.mk [.ref (ad 0), .int a0, .int a1, .int a2, .int a3]) RX2 K meth (some .boolean) := ⟨hx, hb, hml, hown, hts, hG, hr, hlk⟩
  have hl : lv_has ls 7 [(0, .ref (ad 0)), (1, .int a0), (2, .int a1), (3, .int a2), (4, .int a3)] := hl
  refine lv_aload_n (pc := 0) hx hb dX2_parts_0 rfl (lv_at hl 0 rfl) ?_
  refine va_get (D := K.1) (ci := 2) (v := .ref (ad 10)) (C := RX2) (T := TX2) (N := 12) (pc := 1) hx hb hts inT2 hown hG.1 hP 0 rfl rfl 1 (by decide) (hts _ qf_Mesh_20) (fun _ h9 => h9) rfl dX2_parts_1 ?_
  refine lv_iload_n (pc := 4) hx hb dX2_parts_4 rfl (lv_at hl 1 rfl) ?_
  refine lv_iload_n (pc := 5) hx hb dX2_parts_5 rfl (lv_at hl 2 rfl) ?_
  refine rdV (pc := 6) (As := [.int a0, .int a1]) (rest := []) hx hb hml hown hts hG hP (c_Tab_get l K (fun k => ad (k + 10)) 0 lf a0 a1) [10, 11] rfl (q0 := 10) rfl (ci := 5) rfl g_Mesh_140 hd_Tab_get rfl ⟨Nat.le_of_ble_eq_true rfl, Nat.le_of_ble_eq_true rfl⟩ ⟨Nat.zero_le _, Nat.zero_le _⟩ hl rfl (Nat.le_of_ble_eq_true rfl) dX2_parts_6 ?_
  refine lv_istore (pc := 9) (lv' := [(5, .int (s_Tab_get 0 lf a0 a1)), (0, .ref (ad 0)), (1, .int a0), (2, .int a1), (3, .int a2), (4, .int a3)]) hx hb dX2_parts_9 hl (by decide) rfl (fun ls hl => ?_)
  refine lv_aload_n (pc := 11) hx hb dX2_parts_11 rfl (lv_at hl 1 rfl) ?_
  refine va_get (D := K.1) (ci := 2) (v := .ref (ad 10)) (C := RX2) (T := TX2) (N := 12) (pc := 12) hx hb hts inT2 hown hG.1 hP 0 rfl rfl 1 (by decide) (hts _ qf_Mesh_20) (fun _ h9 => h9) rfl dX2_parts_12 ?_
  refine lv_iload_n (pc := 15) hx hb dX2_parts_15 rfl (lv_at hl 3 rfl) ?_
  refine lv_iload_n (pc := 16) hx hb dX2_parts_16 rfl (lv_at hl 2 rfl) ?_
  refine rdV (pc := 17) (As := [.int a1, .int a0]) (rest := []) hx hb hml hown hts hG hP (c_Tab_get l K (fun k => ad (k + 10)) 0 lf a1 a0) [10, 11] rfl (q0 := 10) rfl (ci := 5) rfl g_Mesh_140 hd_Tab_get rfl ⟨Nat.le_of_ble_eq_true rfl, Nat.le_of_ble_eq_true rfl⟩ ⟨Nat.zero_le _, Nat.zero_le _⟩ hl rfl (Nat.le_of_ble_eq_true rfl) dX2_parts_17 ?_
  refine lv_istore (pc := 20) (lv' := [(6, .int (s_Tab_get 0 lf a1 a0)), (5, .int (s_Tab_get 0 lf a0 a1)), (0, .ref (ad 0)), (1, .int a0), (2, .int a1), (3, .int a2), (4, .int a3)]) hx hb dX2_parts_20 hl (by decide) rfl (fun ls hl => ?_)
  refine lv_iload (pc := 22) hx hb dX2_parts_22 (lv_at hl 1 rfl) ?_
  refine lv_iload_n (pc := 24) hx hb dX2_parts_24 rfl (lv_at hl 5 rfl) ?_
  refine lv_ishr (pc := 25) hx hb dX2_parts_25 ?_
  refine lv_iload (pc := 26) hx hb dX2_parts_26 (lv_at hl 0 rfl) ?_
  refine lv_iload (pc := 28) hx hb dX2_parts_28 (lv_at hl 6 rfl) ?_
  refine lv_ishr (pc := 30) hx hb dX2_parts_30 ?_
  refine lv_iand (pc := 31) hx hb dX2_parts_31 ?_
  refine lv_iload (pc := 32) hx hb dX2_parts_32 (lv_at hl 1 rfl) ?_
  refine lv_iload (pc := 34) hx hb dX2_parts_34 (lv_at hl 6 rfl) ?_
  refine lv_ishr (pc := 36) hx hb dX2_parts_36 ?_
  refine lv_iload (pc := 37) hx hb dX2_parts_37 (lv_at hl 0 rfl) ?_
  refine lv_iload_n (pc := 39) hx hb dX2_parts_39 rfl (lv_at hl 5 rfl) ?_
  refine lv_ishr (pc := 40) hx hb dX2_parts_40 ?_
  refine lv_iand (pc := 41) hx hb dX2_parts_41 ?_
  refine lv_ior (pc := 42) hx hb dX2_parts_42 ?_
  refine lv_iconst (v := (1 : Int32)) (pc := 43) hx hb dX2_parts_43 (by decide) ?_
  refine lv_iand (pc := 44) hx hb dX2_parts_44 ?_
  refine lv_if_eq (tgt := 52) (pc := 45) hx hb dX2_parts_45 (by decide) (fun c1 => ?_) (fun c1 => ?_)
  · have h := it_t c1 h
    refine lv_iconst (v := (0 : Int32)) (pc := 52) hx hb dX2_parts_52 (by decide) ?_
    subst h
    exact W.zret hx hb hr (rfl) (fun t ht hW => ⟨rfl, ht⟩) (fun q hq => absurd hq List.not_mem_nil) dX2_parts_53 hlk
  · have h := it_f c1 h
    refine lv_iconst (v := (1 : Int32)) (pc := 48) hx hb dX2_parts_48 (by decide) ?_
    refine lv_goto (tgt := 53) (pc := 49) hx hb dX2_parts_49 (by decide) ?_
    subst h
    exact W.zret hx hb hr (rfl) (fun t ht hW => ⟨rfl, ht⟩) (fun q hq => absurd hq List.not_mem_nil) dX2_parts_53 hlk
