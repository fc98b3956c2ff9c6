set_option maxHeartbeats 4000000 in
set_option maxRecDepth 100000 in
theorem l_Mesh_findSidesOf_L8 {p : Program} {l : Launch} {e : Env} {s : State} {m : MethodId} {args : Array Value} {below : List Frame} {meth : Method} {c : Code} {Q : State → Prop} {K : KT} {A : Nat → Prop} (C0 : Ctx p m c cX2_findSidesOf 7 s args RX2 K meth none) (F : Nat) (ad : Nat → Nat) (pxs : Nat → Int32) (pys : Nat → Int32) (plo : Nat → Int32) (phi : Nat → Int32) (pn : Int32) (pm : Int32) (lf : Nat → Int32) (th : Nat → Int32) (ow : Nat → Int32) (lk : Nat → Int32) (el : Nat → Int32) (eh : Nat → Int32) (co : Nat → Int32) (hu : Nat → Int32) (ne : Int32) (nt : Int32) (nh : Int32) (x1 : Int32) (x2 : Int32)  : ∀ (n : Nat) (x3 : Int32) (x4 : Int32) (x5 : Int32) (out : Int32 × Int32 × Int32), s_Mesh_findSidesOf_L8 pxs pys pn x1 x2 n x3 x4 x5 = some out → ∀ (H : Heap) (locs : List Loc) (ls : Array Slot), va_P K.1 vC (wMesh K ad pxs pys plo phi pn pm lf th ow lk el eh co hu ne nt nh) H → va_D A (wMesh K ad pxs pys plo phi pn pm lf th ow lk el eh co hu ne nt nh) → va_S A s.heap H locs → lv_has ls 7 [(0, .ref (ad 0)), (1, .int x1), (2, .int x2), (3, .int x3), (4, .int x4), (5, .int x5)] → (∀ (o : Int32 × Int32 × Int32) (H : Heap) (locs : List Loc) (ls : Array Slot), out = o → va_P K.1 vC (wMesh K ad pxs pys plo phi pn pm lf th ow lk el eh co hu ne nt nh) H → va_D A (wMesh K ad pxs pys plo phi pn pm lf th ow lk el eh co hu ne nt nh) → va_S A s.heap H locs → lv_has ls 7 [(0, .ref (ad 0)), (1, .int x1), (2, .int x2), (3, .int o.1), (4, .int o.2.1), (5, .int o.2.2)] → W p l e (rmL 3) s m args below meth c H locs 0 0 Q (F0 m 68 ls [])) → W p l e (rmL 3) s m args below meth c H locs 0 0 Q (F0 m 8 ls []) := by
  obtain ⟨hx, hb, hml, hown, hts, hG, hr, hlk⟩ := id C0
  intro n
  induction n with
  | zero =>
    intro x3 x4 x5 out h
    cases h
  | succ n ih =>
    intro x3 x4 x5 out h H locs ls hP hD hS hl Kx 
    rw [s_Mesh_findSidesOf_L8.eq_2] at h
    refine lv_iload (pc := 8) hx hb dX2_findSidesOf_8 (lv_at hl 5 rfl) ?_
    refine lv_aload_n (pc := 10) hx hb dX2_findSidesOf_10 rfl (lv_at hl 0 rfl) ?_
    refine va_get (D := K.1) (ci := 2) (v := .ref (ad 1)) (C := RX2) (T := TX2) (N := 12) (pc := 11) hx hb hts inT2 hown hG.1 hP 0 rfl rfl 0 (by decide) (hts _ qf_Mesh_9) (fun _ h9 => h9) rfl dX2_findSidesOf_11 ?_
    refine rdV (pc := 14) (As := []) (rest := [.int x5]) hx hb hml hown hts hG hP (c_Plan_points l K (fun k => ad (k + 1)) pxs pys plo phi pn pm) [1, 2, 3, 4, 5, 6, 7, 8, 9] rfl (q0 := 1) rfl (ci := 3) rfl g_Mesh_84 hd_Plan_points rfl ⟨Nat.le_of_ble_eq_true rfl, Nat.le_of_ble_eq_true rfl⟩ ⟨Nat.zero_le _, Nat.zero_le _⟩ hl rfl (Nat.le_of_ble_eq_true rfl) dX2_findSidesOf_14 ?_
    refine lv_icmp_ge (tgt := 68) (pc := 17) hx hb dX2_findSidesOf_17 (by decide) (fun c1 => ?_) (fun c1 => ?_)
    · have h := it_t c1 h
      obtain rfl := Option.some.inj h
      exact Kx _ H locs ls rfl hP hD hS (lv_sub hl [0, 1, 2, 3, 4, 5] rfl)
    · have h := it_f c1 h
      refine lv_aload_n (pc := 20) hx hb dX2_findSidesOf_20 rfl (lv_at hl 0 rfl) ?_
      refine va_get (D := K.1) (ci := 2) (v := .ref (ad 1)) (C := RX2) (T := TX2) (N := 12) (pc := 21) hx hb hts inT2 hown hG.1 hP 0 rfl rfl 0 (by decide) (hts _ qf_Mesh_9) (fun _ h9 => h9) rfl dX2_findSidesOf_21 ?_
      refine lv_iload_n (pc := 24) hx hb dX2_findSidesOf_24 rfl (lv_at hl 1 rfl) ?_
      refine lv_iload_n (pc := 25) hx hb dX2_findSidesOf_25 rfl (lv_at hl 2 rfl) ?_
      refine lv_iload (pc := 26) hx hb dX2_findSidesOf_26 (lv_at hl 5 rfl) ?_
      refine rdV (pc := 28) (As := [.int x1, .int x2, .int x5]) (rest := []) hx hb hml hown hts hG hP (c_Plan_side l K (fun k => ad (k + 1)) pxs pys plo phi pn pm x1 x2 x5) [1, 2, 3, 4, 5, 6, 7, 8, 9] rfl (q0 := 1) rfl (ci := 3) rfl g_Mesh_94 hd_Plan_side rfl ⟨Nat.le_of_ble_eq_true rfl, Nat.le_of_ble_eq_true rfl⟩ ⟨Nat.zero_le _, Nat.zero_le _⟩ hl rfl (Nat.le_of_ble_eq_true rfl) dX2_findSidesOf_28 ?_
      refine lv_istore (pc := 31) (lv' := [(6, .int (s_Plan_side pxs pys x1 x2 x5)), (0, .ref (ad 0)), (1, .int x1), (2, .int x2), (3, .int x3), (4, .int x4), (5, .int x5)]) hx hb dX2_findSidesOf_31 hl (by decide) rfl (fun ls hl => ?_)
      refine lv_iload (pc := 33) hx hb dX2_findSidesOf_33 (lv_at hl 0 rfl) ?_
      refine lv_if_le (tgt := 48) (pc := 35) hx hb dX2_findSidesOf_35 (by decide) (fun c2 => ?_) (fun c2 => ?_)
      · have h := it_t c2 h
        refine lv_iload (pc := 48) hx hb dX2_findSidesOf_48 (lv_at hl 0 rfl) ?_
        refine lv_if_ge (tgt := 62) (pc := 50) hx hb dX2_findSidesOf_50 (by decide) (fun c3 => ?_) (fun c3 => ?_)
        · have h := it_t c3 h
          refine lv_iinc (v := (x5 + (1 : Int32))) (pc := 62) (lv' := [(5, .int (x5 + (1 : Int32))), (6, .int (s_Plan_side pxs pys x1 x2 x5)), (0, .ref (ad 0)), (1, .int x1), (2, .int x2), (3, .int x3), (4, .int x4)]) hx hb dX2_findSidesOf_62 hl (k := 6) rfl rfl (by decide) rfl (fun ls hl => ?_)
          refine lv_goto (tgt := 8) (pc := 65) hx hb dX2_findSidesOf_65 (by decide) ?_
          exact ih x3 x4 (x5 + (1 : Int32)) out h H locs ls hP hD hS (lv_sub hl [2, 3, 4, 5, 6, 0] rfl) Kx 
        · have h := it_f c3 h
          refine lv_iload (pc := 53) hx hb dX2_findSidesOf_53 (lv_at hl 5 rfl) ?_
          refine lv_iconst (v := (1 : Int32)) (pc := 55) hx hb dX2_findSidesOf_55 (by decide) ?_
          refine lv_iload (pc := 56) hx hb dX2_findSidesOf_56 (lv_at hl 6 rfl) ?_
          refine lv_ishl (pc := 58) hx hb dX2_findSidesOf_58 ?_
          refine lv_ior (pc := 59) hx hb dX2_findSidesOf_59 ?_
          refine lv_istore (pc := 60) (lv' := [(4, .int (x4 ||| ((1 : Int32) <<< (x5 &&& 31)))), (6, .int (s_Plan_side pxs pys x1 x2 x5)), (0, .ref (ad 0)), (1, .int x1), (2, .int x2), (3, .int x3), (5, .int x5)]) hx hb dX2_findSidesOf_60 hl (by decide) rfl (fun ls hl => ?_)
          refine lv_iinc (v := (x5 + (1 : Int32))) (pc := 62) (lv' := [(5, .int (x5 + (1 : Int32))), (4, .int (x4 ||| ((1 : Int32) <<< (x5 &&& 31)))), (6, .int (s_Plan_side pxs pys x1 x2 x5)), (0, .ref (ad 0)), (1, .int x1), (2, .int x2), (3, .int x3)]) hx hb dX2_findSidesOf_62 hl (k := 6) rfl rfl (by decide) rfl (fun ls hl => ?_)
          refine lv_goto (tgt := 8) (pc := 65) hx hb dX2_findSidesOf_65 (by decide) ?_
          exact ih x3 (x4 ||| ((1 : Int32) <<< (x5 &&& 31))) (x5 + (1 : Int32)) out h H locs ls hP hD hS (lv_sub hl [3, 4, 5, 6, 1, 0] rfl) Kx 
      · have h := it_f c2 h
        refine lv_iload_n (pc := 38) hx hb dX2_findSidesOf_38 rfl (lv_at hl 4 rfl) ?_
        refine lv_iconst (v := (1 : Int32)) (pc := 39) hx hb dX2_findSidesOf_39 (by decide) ?_
        refine lv_iload (pc := 40) hx hb dX2_findSidesOf_40 (lv_at hl 6 rfl) ?_
        refine lv_ishl (pc := 42) hx hb dX2_findSidesOf_42 ?_
        refine lv_ior (pc := 43) hx hb dX2_findSidesOf_43 ?_
        refine lv_istore_n (pc := 44) (lv' := [(3, .int (x3 ||| ((1 : Int32) <<< (x5 &&& 31)))), (6, .int (s_Plan_side pxs pys x1 x2 x5)), (0, .ref (ad 0)), (1, .int x1), (2, .int x2), (4, .int x4), (5, .int x5)]) hx hb dX2_findSidesOf_44 rfl hl (by decide) rfl (fun ls hl => ?_)
        refine lv_goto (tgt := 62) (pc := 45) hx hb dX2_findSidesOf_45 (by decide) ?_
        refine lv_iinc (v := (x5 + (1 : Int32))) (pc := 62) (lv' := [(5, .int (x5 + (1 : Int32))), (3, .int (x3 ||| ((1 : Int32) <<< (x5 &&& 31)))), (6, .int (s_Plan_side pxs pys x1 x2 x5)), (0, .ref (ad 0)), (1, .int x1), (2, .int x2), (4, .int x4)]) hx hb dX2_findSidesOf_62 hl (k := 6) rfl rfl (by decide) rfl (fun ls hl => ?_)
        refine lv_goto (tgt := 8) (pc := 65) hx hb dX2_findSidesOf_65 (by decide) ?_
        exact ih (x3 ||| ((1 : Int32) <<< (x5 &&& 31))) x4 (x5 + (1 : Int32)) out h H locs ls hP hD hS (lv_sub hl [3, 4, 5, 1, 6, 0] rfl) Kx 
set_option maxHeartbeats 4000000 in
set_option maxRecDepth 100000 in
theorem c_Mesh_findSidesOf (l : Launch) (K : KT) (ad : Nat → Nat) (pxs : Nat → Int32) (pys : Nat → Int32) (plo : Nat → Int32) (phi : Nat → Int32) (pn : Int32) (pm : Int32) (lf : Nat → Int32) (th : Nat → Int32) (ow : Nat → Int32) (lk : Nat → Int32) (el : Nat → Int32) (eh : Nat → Int32) (co : Nat → Int32) (hu : Nat → Int32) (ne : Int32) (nt : Int32) (nh : Int32) (a0 : Int32) (a1 : Int32) (F : Nat) {o : (Nat → Int32)} (h : s_Mesh_findSidesOf F pxs pys pn lf a0 a1 = some o) : Wr l K 3 yX2_findSidesOf cX2_findSidesOf 7 none [.ref (ad 0), .int a0, .int a1] (wMesh K ad pxs pys plo phi pn pm lf th ow lk el eh co hu ne nt nh) none (wMesh K ad pxs pys plo phi pn pm o th ow lk el eh co hu ne nt nh) := by
  refine Wr.of (by decide +kernel) (Nat.le_of_ble_eq_true rfl) ?_
  unfold s_Mesh_findSidesOf at h
  intro p e s m below meth c hx hb hr hml hown hts hlk H locs hP hG hD hS ls hl
  have C0 : Ctx p m c cX2_findSidesOf 7 s (Array.mk [.ref (ad 0), .int a0, .int a1]) RX2 K meth none := ⟨hx, hb, hml, hown, hts, hG, hr, hlk⟩
  have hl : lv_has ls 7 [(0, .ref (ad 0)), (1, .int a0), (2, .int a1)] := hl
  refine lv_iconst (v := (0 : Int32)) (pc := 0) hx hb dX2_findSidesOf_0 (by decide) ?_
  refine lv_istore_n (pc := 1) (lv' := [(3, .int (0 : Int32)), (0, .ref (ad 0)), (1, .int a0), (2, .int a1)]) hx hb dX2_findSidesOf_1 rfl hl (by decide) rfl (fun ls hl => ?_)
  refine lv_iconst (v := (0 : Int32)) (pc := 2) hx hb dX2_findSidesOf_2 (by decide) ?_
  refine lv_istore (pc := 3) (lv' := [(4, .int (0 : Int32)), (3, .int (0 : Int32)), (0, .ref (ad 0)), (1, .int a0), (2, .int a1)]) hx hb dX2_findSidesOf_3 hl (by decide) rfl (fun ls hl => ?_)
  refine lv_iconst (v := (0 : Int32)) (pc := 5) hx hb dX2_findSidesOf_5 (by decide) ?_
  refine lv_istore (pc := 6) (lv' := [(5, .int (0 : Int32)), (4, .int (0 : Int32)), (3, .int (0 : Int32)), (0, .ref (ad 0)), (1, .int a0), (2, .int a1)]) hx hb dX2_findSidesOf_6 hl (by decide) rfl (fun ls hl => ?_)
  obtain ⟨o4, h_o4, h⟩ := ob h
  refine l_Mesh_findSidesOf_L8 C0 F ad pxs pys plo phi pn pm lf th ow lk el eh co hu ne nt nh a0 a1 F (0 : Int32) (0 : Int32) (0 : Int32) _ h_o4 H locs ls hP hD hS (lv_sub hl [3, 4, 5, 2, 1, 0] rfl) (fun o4x H locs ls eo hP hD hS hl => ?_)
  subst o4
  refine lv_aload_n (pc := 68) hx hb dX2_findSidesOf_68 rfl (lv_at hl 0 rfl) ?_
  refine va_get (D := K.1) (ci := 2) (v := .ref (ad 10)) (C := RX2) (T := TX2) (N := 12) (pc := 69) hx hb hts inT2 hown hG.1 hP 0 rfl rfl 1 (by decide) (hts _ qf_Mesh_20) (fun _ h9 => h9) rfl dX2_findSidesOf_69 ?_
  refine lv_iload_n (pc := 72) hx hb dX2_findSidesOf_72 rfl (lv_at hl 1 rfl) ?_
  refine lv_iload_n (pc := 73) hx hb dX2_findSidesOf_73 rfl (lv_at hl 2 rfl) ?_
  refine lv_iload_n (pc := 74) hx hb dX2_findSidesOf_74 rfl (lv_at hl 3 rfl) ?_
  refine wrVv (pc := 75) (As := [.int a0, .int a1, .int o4x.1]) (rest := []) (ws2 := wMesh K ad pxs pys plo phi pn pm (s_Tab_set lf a0 a1 o4x.1) th ow lk el eh co hu ne nt nh) (as9 := [ad 10, ad 11]) hx hb hml hown hts hG hP hD hS (c_Tab_set l K (fun k => ad (k + 10)) 0 lf a0 a1 o4x.1) [10, 11] rfl rfl rfl rfl [.inr 0, .inr 1, .inr 2, .inr 3, .inr 4, .inr 5, .inr 6, .inr 7, .inr 8, .inr 9, .inl 0, .inl 1, .inr 12, .inr 13, .inr 14, .inr 15, .inr 16, .inr 17, .inr 18, .inr 19, .inr 20, .inr 21, .inr 22, .inr 23, .inr 24, .inr 25] (by decide +kernel) rfl (q0 := 10) rfl (ci := 5) rfl g_Mesh_98 hd_Tab_set rfl ⟨Nat.le_of_ble_eq_true rfl, Nat.le_of_ble_eq_true rfl⟩ ⟨Nat.zero_le _, Nat.zero_le _⟩ hl rfl (Nat.le_of_ble_eq_true rfl) dX2_findSidesOf_75 (fun H locs hP hD hS => ?_)
  refine lv_aload_n (pc := 78) hx hb dX2_findSidesOf_78 rfl (lv_at hl 0 rfl) ?_
  refine va_get (D := K.1) (ci := 2) (v := .ref (ad 10)) (C := RX2) (T := TX2) (N := 12) (pc := 79) hx hb hts inT2 hown hG.1 hP 0 rfl rfl 1 (by decide) (hts _ qf_Mesh_20) (fun _ h9 => h9) rfl dX2_findSidesOf_79 ?_
  refine lv_iload_n (pc := 82) hx hb dX2_findSidesOf_82 rfl (lv_at hl 2 rfl) ?_
  refine lv_iload_n (pc := 83) hx hb dX2_findSidesOf_83 rfl (lv_at hl 1 rfl) ?_
  refine lv_iload (pc := 84) hx hb dX2_findSidesOf_84 (lv_at hl 4 rfl) ?_
  refine wrVv (pc := 86) (As := [.int a1, .int a0, .int o4x.2.1]) (rest := []) (ws2 := wMesh K ad pxs pys plo phi pn pm (s_Tab_set (s_Tab_set lf a0 a1 o4x.1) a1 a0 o4x.2.1) th ow lk el eh co hu ne nt nh) (as9 := [ad 10, ad 11]) hx hb hml hown hts hG hP hD hS (c_Tab_set l K (fun k => ad (k + 10)) 0 (s_Tab_set lf a0 a1 o4x.1) a1 a0 o4x.2.1) [10, 11] rfl rfl rfl rfl [.inr 0, .inr 1, .inr 2, .inr 3, .inr 4, .inr 5, .inr 6, .inr 7, .inr 8, .inr 9, .inl 0, .inl 1, .inr 12, .inr 13, .inr 14, .inr 15, .inr 16, .inr 17, .inr 18, .inr 19, .inr 20, .inr 21, .inr 22, .inr 23, .inr 24, .inr 25] (by decide +kernel) rfl (q0 := 10) rfl (ci := 5) rfl g_Mesh_98 hd_Tab_set rfl ⟨Nat.le_of_ble_eq_true rfl, Nat.le_of_ble_eq_true rfl⟩ ⟨Nat.zero_le _, Nat.zero_le _⟩ hl rfl (Nat.le_of_ble_eq_true rfl) dX2_findSidesOf_86 (fun H locs hP hD hS => ?_)
  obtain rfl := Option.some.inj h
  exact W.vret hx hb hr (fun t ht hW => ⟨⟨rfl, by rw [ht]; exact hP⟩, hS.F ht⟩) hS.2.2 dX2_findSidesOf_89 hlk
set_option maxHeartbeats 4000000 in
set_option maxRecDepth 100000 in
theorem l_Mesh_findSides_L24 {p : Program} {l : Launch} {e : Env} {s : State} {m : MethodId} {args : Array Value} {below : List Frame} {meth : Method} {c : Code} {Q : State → Prop} {K : KT} {A : Nat → Prop} (C0 : Ctx p m c cX2_findSides 3 s args RX2 K meth none) (F : Nat) (ad : Nat → Nat) (pxs : Nat → Int32) (pys : Nat → Int32) (plo : Nat → Int32) (phi : Nat → Int32) (pn : Int32) (pm : Int32) (th : Nat → Int32) (ow : Nat → Int32) (lk : Nat → Int32) (el : Nat → Int32) (eh : Nat → Int32) (co : Nat → Int32) (hu : Nat → Int32) (ne : Int32) (nt : Int32) (nh : Int32) (x1 : Int32)  : ∀ (n : Nat) (x2 : Int32) (lf : Nat → Int32) (out : Int32 × (Nat → Int32)), s_Mesh_findSides_L24 F pxs pys pn x1 n x2 lf = some out → ∀ (H : Heap) (locs : List Loc) (ls : Array Slot), va_P K.1 vC (wMesh K ad pxs pys plo phi pn pm lf th ow lk el eh co hu ne nt nh) H → va_D A (wMesh K ad pxs pys plo phi pn pm lf th ow lk el eh co hu ne nt nh) → va_S A s.heap H locs → lv_has ls 3 [(0, .ref (ad 0)), (1, .int x1), (2, .int x2)] → (∀ (o : Int32 × (Nat → Int32)) (H : Heap) (locs : List Loc) (ls : Array Slot), out = o → va_P K.1 vC (wMesh K ad pxs pys plo phi pn pm o.2 th ow lk el eh co hu ne nt nh) H → va_D A (wMesh K ad pxs pys plo phi pn pm o.2 th ow lk el eh co hu ne nt nh) → va_S A s.heap H locs → lv_has ls 3 [(0, .ref (ad 0)), (1, .int x1), (2, .int o.1)] → W p l e (rmL 4) s m args below meth c H locs 0 0 Q (F0 m 47 ls [])) → W p l e (rmL 4) s m args below meth c H locs 0 0 Q (F0 m 24 ls []) := by
  obtain ⟨hx, hb, hml, hown, hts, hG, hr, hlk⟩ := id C0
  intro n
  induction n with
  | zero =>
    intro x2 lf out h
    cases h
  | succ n ih =>
    intro x2 lf out h H locs ls hP hD hS hl Kx 
    rw [s_Mesh_findSides_L24.eq_2] at h
    refine lv_iload_n (pc := 24) hx hb dX2_findSides_24 rfl (lv_at hl 2 rfl) ?_
    refine lv_aload_n (pc := 25) hx hb dX2_findSides_25 rfl (lv_at hl 0 rfl) ?_
    refine va_get (D := K.1) (ci := 2) (v := .ref (ad 1)) (C := RX2) (T := TX2) (N := 12) (pc := 26) hx hb hts inT2 hown hG.1 hP 0 rfl rfl 0 (by decide) (hts _ qf_Mesh_9) (fun _ h9 => h9) rfl dX2_findSides_26 ?_
    refine rdV (pc := 29) (As := []) (rest := [.int x2]) hx hb hml hown hts hG hP (c_Plan_points l K (fun k => ad (k + 1)) pxs pys plo phi pn pm) [1, 2, 3, 4, 5, 6, 7, 8, 9] rfl (q0 := 1) rfl (ci := 3) rfl g_Mesh_84 hd_Plan_points rfl ⟨Nat.le_of_ble_eq_true rfl, Nat.le_of_ble_eq_true rfl⟩ ⟨Nat.zero_le _, Nat.zero_le _⟩ hl rfl (Nat.le_of_ble_eq_true rfl) dX2_findSides_29 ?_
    refine lv_icmp_ge (tgt := 47) (pc := 32) hx hb dX2_findSides_32 (by decide) (fun c3 => ?_) (fun c3 => ?_)
    · have h := it_t c3 h
      obtain rfl := Option.some.inj h
      exact Kx _ H locs ls rfl hP hD hS (lv_sub hl [0, 1, 2] rfl)
    · have h := it_f c3 h
      refine lv_aload_n (pc := 35) hx hb dX2_findSides_35 rfl (lv_at hl 0 rfl) ?_
      refine lv_iload_n (pc := 36) hx hb dX2_findSides_36 rfl (lv_at hl 1 rfl) ?_
      refine lv_iload_n (pc := 37) hx hb dX2_findSides_37 rfl (lv_at hl 2 rfl) ?_
      obtain ⟨v4, h_v4, h⟩ := ob h
      refine wrVv (pc := 38) (As := [.int x1, .int x2]) (rest := []) (ws2 := wMesh K ad pxs pys plo phi pn pm v4 th ow lk el eh co hu ne nt nh) (as9 := [ad 0, ad 1, ad 2, ad 3, ad 4, ad 5, ad 6, ad 7, ad 8, ad 9, ad 10, ad 11, ad 12, ad 13, ad 14, ad 15, ad 16, ad 17, ad 18, ad 19, ad 20, ad 21, ad 22, ad 23, ad 24, ad 25]) hx hb hml hown hts hG hP hD hS (c_Mesh_findSidesOf l K ad pxs pys plo phi pn pm lf th ow lk el eh co hu ne nt nh x1 x2 F h_v4) [0, 1, 2, 3, 4, 5, 6, 7, 8, 9, 10, 11, 12, 13, 14, 15, 16, 17, 18, 19, 20, 21, 22, 23, 24, 25] rfl rfl rfl rfl [.inl 0, .inl 1, .inl 2, .inl 3, .inl 4, .inl 5, .inl 6, .inl 7, .inl 8, .inl 9, .inl 10, .inl 11, .inl 12, .inl 13, .inl 14, .inl 15, .inl 16, .inl 17, .inl 18, .inl 19, .inl 20, .inl 21, .inl 22, .inl 23, .inl 24, .inl 25] (by decide +kernel) rfl (q0 := 0) rfl (ci := 2) rfl g_Mesh_90 hd_Mesh_findSidesOf rfl ⟨Nat.le_of_ble_eq_true rfl, Nat.le_of_ble_eq_true rfl⟩ ⟨Nat.zero_le _, Nat.zero_le _⟩ hl rfl (Nat.le_of_ble_eq_true rfl) dX2_findSides_38 (fun H locs hP hD hS => ?_)
      refine lv_iinc (v := (x2 + (1 : Int32))) (pc := 41) (lv' := [(2, .int (x2 + (1 : Int32))), (0, .ref (ad 0)), (1, .int x1)]) hx hb dX2_findSides_41 hl (k := 2) rfl rfl (by decide) rfl (fun ls hl => ?_)
      refine lv_goto (tgt := 24) (pc := 44) hx hb dX2_findSides_44 (by decide) ?_
      exact ih (x2 + (1 : Int32)) v4 out h H locs ls hP hD hS (lv_sub hl [1, 2, 0] rfl) Kx 
set_option maxHeartbeats 4000000 in
set_option maxRecDepth 100000 in
theorem l_Mesh_findSides_L9 {p : Program} {l : Launch} {e : Env} {s : State} {m : MethodId} {args : Array Value} {below : List Frame} {meth : Method} {c : Code} {Q : State → Prop} {K : KT} {A : Nat → Prop} (C0 : Ctx p m c cX2_findSides 3 s args RX2 K meth none) (F : Nat) (ad : Nat → Nat) (pxs : Nat → Int32) (pys : Nat → Int32) (plo : Nat → Int32) (phi : Nat → Int32) (pn : Int32) (pm : Int32) (th : Nat → Int32) (ow : Nat → Int32) (lk : Nat → Int32) (el : Nat → Int32) (eh : Nat → Int32) (co : Nat → Int32) (hu : Nat → Int32) (ne : Int32) (nt : Int32) (nh : Int32)  : ∀ (n : Nat) (x1 : Int32) (lf : Nat → Int32) (out : Int32 × (Nat → Int32)), s_Mesh_findSides_L9 F pxs pys pn n x1 lf = some out → ∀ (H : Heap) (locs : List Loc) (ls : Array Slot), va_P K.1 vC (wMesh K ad pxs pys plo phi pn pm lf th ow lk el eh co hu ne nt nh) H → va_D A (wMesh K ad pxs pys plo phi pn pm lf th ow lk el eh co hu ne nt nh) → va_S A s.heap H locs → lv_has ls 3 [(0, .ref (ad 0)), (1, .int x1)] → (∀ (o : Int32 × (Nat → Int32)) (H : Heap) (locs : List Loc) (ls : Array Slot), out = o → va_P K.1 vC (wMesh K ad pxs pys plo phi pn pm o.2 th ow lk el eh co hu ne nt nh) H → va_D A (wMesh K ad pxs pys plo phi pn pm o.2 th ow lk el eh co hu ne nt nh) → va_S A s.heap H locs → lv_has ls 3 [(0, .ref (ad 0)), (1, .int o.1)] → W p l e (rmL 4) s m args below meth c H locs 0 0 Q (F0 m 53 ls [])) → W p l e (rmL 4) s m args below meth c H locs 0 0 Q (F0 m 9 ls []) := by
  obtain ⟨hx, hb, hml, hown, hts, hG, hr, hlk⟩ := id C0
  intro n
  induction n with
  | zero =>
    intro x1 lf out h
    cases h
  | succ n ih =>
    intro x1 lf out h H locs ls hP hD hS hl Kx 
    rw [s_Mesh_findSides_L9.eq_2] at h
    refine lv_iload_n (pc := 9) hx hb dX2_findSides_9 rfl (lv_at hl 1 rfl) ?_
    refine lv_aload_n (pc := 10) hx hb dX2_findSides_10 rfl (lv_at hl 0 rfl) ?_
    refine va_get (D := K.1) (ci := 2) (v := .ref (ad 1)) (C := RX2) (T := TX2) (N := 12) (pc := 11) hx hb hts inT2 hown hG.1 hP 0 rfl rfl 0 (by decide) (hts _ qf_Mesh_9) (fun _ h9 => h9) rfl dX2_findSides_11 ?_
    refine rdV (pc := 14) (As := []) (rest := [.int x1]) hx hb hml hown hts hG hP (c_Plan_points l K (fun k => ad (k + 1)) pxs pys plo phi pn pm) [1, 2, 3, 4, 5, 6, 7, 8, 9] rfl (q0 := 1) rfl (ci := 3) rfl g_Mesh_84 hd_Plan_points rfl ⟨Nat.le_of_ble_eq_true rfl, Nat.le_of_ble_eq_true rfl⟩ ⟨Nat.zero_le _, Nat.zero_le _⟩ hl rfl (Nat.le_of_ble_eq_true rfl) dX2_findSides_14 ?_
    refine lv_icmp_ge (tgt := 53) (pc := 17) hx hb dX2_findSides_17 (by decide) (fun c2 => ?_) (fun c2 => ?_)
    · have h := it_t c2 h
      obtain rfl := Option.some.inj h
      exact Kx _ H locs ls rfl hP hD hS (lv_sub hl [0, 1] rfl)
    · have h := it_f c2 h
      refine lv_iload_n (pc := 20) hx hb dX2_findSides_20 rfl (lv_at hl 1 rfl) ?_
      refine lv_iconst (v := (1 : Int32)) (pc := 21) hx hb dX2_findSides_21 (by decide) ?_
      refine lv_iadd (pc := 22) hx hb dX2_findSides_22 ?_
      refine lv_istore_n (pc := 23) (lv' := [(2, .int (x1 + (1 : Int32))), (0, .ref (ad 0)), (1, .int x1)]) hx hb dX2_findSides_23 rfl hl (by decide) rfl (fun ls hl => ?_)
      obtain ⟨o5, h_o5, h⟩ := ob h
      refine l_Mesh_findSides_L24 C0 F ad pxs pys plo phi pn pm th ow lk el eh co hu ne nt nh x1 F (x1 + (1 : Int32)) lf _ h_o5 H locs ls hP hD hS (lv_sub hl [1, 2, 0] rfl) (fun o5x H locs ls eo hP hD hS hl => ?_)
      subst o5
      refine lv_iinc (v := (x1 + (1 : Int32))) (pc := 47) (lv' := [(1, .int (x1 + (1 : Int32))), (0, .ref (ad 0)), (2, .int o5x.1)]) hx hb dX2_findSides_47 hl (k := 1) rfl rfl (by decide) rfl (fun ls hl => ?_)
      refine lv_goto (tgt := 9) (pc := 50) hx hb dX2_findSides_50 (by decide) ?_
      exact ih (x1 + (1 : Int32)) o5x.2 out h H locs ls hP hD hS (lv_sub hl [1, 0] rfl) Kx 
set_option maxHeartbeats 4000000 in
set_option maxRecDepth 100000 in
theorem c_Mesh_findSides (l : Launch) (K : KT) (ad : Nat → Nat) (pxs : Nat → Int32) (pys : Nat → Int32) (plo : Nat → Int32) (phi : Nat → Int32) (pn : Int32) (pm : Int32) (lf : Nat → Int32) (th : Nat → Int32) (ow : Nat → Int32) (lk : Nat → Int32) (el : Nat → Int32) (eh : Nat → Int32) (co : Nat → Int32) (hu : Nat → Int32) (ne : Int32) (nt : Int32) (nh : Int32) (F : Nat) {o : (Nat → Int32)} (h : s_Mesh_findSides F pxs pys pn lf = some o) : Wr l K 4 yX2_findSides cX2_findSides 3 none [.ref (ad 0)] (wMesh K ad pxs pys plo phi pn pm lf th ow lk el eh co hu ne nt nh) none (wMesh K ad pxs pys plo phi pn pm o th ow lk el eh co hu ne nt nh) := by
  refine Wr.of (by decide +kernel) (Nat.le_of_ble_eq_true rfl) ?_
  unfold s_Mesh_findSides at h
  intro p e s m below meth c hx hb hr hml hown hts hlk H locs hP hG hD hS ls hl
  have C0 : Ctx p m c cX2_findSides 3 s (Array.mk [.ref (ad 0)]) RX2 K meth none := ⟨hx, hb, hml, hown, hts, hG, hr, hlk⟩
  have hl : lv_has ls 3 [(0, .ref (ad 0))] := hl
  refine lv_aload_n (pc := 0) hx hb dX2_findSides_0 rfl (lv_at hl 0 rfl) ?_
  refine va_get (D := K.1) (ci := 2) (v := .ref (ad 10)) (C := RX2) (T := TX2) (N := 12) (pc := 1) hx hb hts inT2 hown hG.1 hP 0 rfl rfl 1 (by decide) (hts _ qf_Mesh_20) (fun _ h9 => h9) rfl dX2_findSides_1 ?_
  obtain ⟨v1, h_v1, h⟩ := ob h
  refine wrVv (pc := 4) (As := []) (rest := []) (ws2 := wMesh K ad pxs pys plo phi pn pm v1 th ow lk el eh co hu ne nt nh) (as9 := [ad 10, ad 11]) hx hb hml hown hts hG hP hD hS (c_Tab_clear l K (fun k => ad (k + 10)) 0 lf F h_v1) [10, 11] rfl rfl rfl rfl [.inr 0, .inr 1, .inr 2, .inr 3, .inr 4, .inr 5, .inr 6, .inr 7, .inr 8, .inr 9, .inl 0, .inl 1, .inr 12, .inr 13, .inr 14, .inr 15, .inr 16, .inr 17, .inr 18, .inr 19, .inr 20, .inr 21, .inr 22, .inr 23, .inr 24, .inr 25] (by decide +kernel) rfl (q0 := 10) rfl (ci := 5) rfl g_Mesh_81 hd_Tab_clear rfl ⟨Nat.le_of_ble_eq_true rfl, Nat.le_of_ble_eq_true rfl⟩ ⟨Nat.zero_le _, Nat.zero_le _⟩ hl rfl (Nat.le_of_ble_eq_true rfl) dX2_findSides_4 (fun H locs hP hD hS => ?_)
  refine lv_iconst (v := (0 : Int32)) (pc := 7) hx hb dX2_findSides_7 (by decide) ?_
  refine lv_istore_n (pc := 8) (lv' := [(1, .int (0 : Int32)), (0, .ref (ad 0))]) hx hb dX2_findSides_8 rfl hl (by decide) rfl (fun ls hl => ?_)
  obtain ⟨o6, h_o6, h⟩ := ob h
  refine l_Mesh_findSides_L9 C0 F ad pxs pys plo phi pn pm th ow lk el eh co hu ne nt nh F (0 : Int32) v1 _ h_o6 H locs ls hP hD hS (lv_sub hl [1, 0] rfl) (fun o6x H locs ls eo hP hD hS hl => ?_)
  subst o6
  obtain rfl := Option.some.inj h
  exact W.vret hx hb hr (fun t ht hW => ⟨⟨rfl, by rw [ht]; exact hP⟩, hS.F ht⟩) hS.2.2 dX2_findSides_53 hlk
set_option maxHeartbeats 4000000 in
set_option maxRecDepth 100000 in
theorem c_Mesh_link (l : Launch) (K : KT) (ad : Nat → Nat) (pxs : Nat → Int32) (pys : Nat → Int32) (plo : Nat → Int32) (phi : Nat → Int32) (pn : Int32) (pm : Int32) (lf : Nat → Int32) (th : Nat → Int32) (ow : Nat → Int32) (lk : Nat → Int32) (el : Nat → Int32) (eh : Nat → Int32) (co : Nat → Int32) (hu : Nat → Int32) (ne : Int32) (nt : Int32) (nh : Int32) (a0 : Int32) (a1 : Int32) : Wr l K 1 yX2_link cX2_link 3 none [.ref (ad 0), .int a0, .int a1] (wMesh K ad pxs pys plo phi pn pm lf th ow lk el eh co hu ne nt nh) none (wMesh K ad pxs pys plo phi pn pm lf th ow (s_Mesh_link lk a0 a1) el eh co hu ne nt nh) := by
  generalize h : s_Mesh_link lk a0 a1 = o
  refine Wr.of (by decide +kernel) (Nat.le_of_ble_eq_true rfl) ?_
  unfold s_Mesh_link at h
  intro p e s m below meth c hx hb hr hml hown hts hlk H locs hP hG hD hS ls hl
  have C0 : Ctx p m c cX2_link 3 s (Array.mk [.ref (ad 0), .int a0, .int a1]) RX2 K meth none := ⟨hx, hb, hml, hown, hts, hG, hr, hlk⟩
  have hl : lv_has ls 3 [(0, .ref (ad 0)), (1, .int a0), (2, .int a1)] := hl
  refine lv_aload_n (pc := 0) hx hb dX2_link_0 rfl (lv_at hl 0 rfl) ?_
  refine va_get (D := K.1) (ci := 2) (v := .ref (ad 16)) (C := RX2) (T := TX2) (N := 12) (pc := 1) hx hb hts inT2 hown hG.1 hP 0 rfl rfl 4 (by decide) (hts _ qf_Mesh_33) (fun _ h9 => h9) rfl dX2_link_1 ?_
  refine lv_iload_n (pc := 4) hx hb dX2_link_4 rfl (lv_at hl 1 rfl) ?_
  refine lv_aload_n (pc := 5) hx hb dX2_link_5 rfl (lv_at hl 0 rfl) ?_
  refine va_get (D := K.1) (ci := 2) (v := .ref (ad 16)) (C := RX2) (T := TX2) (N := 12) (pc := 6) hx hb hts inT2 hown hG.1 hP 0 rfl rfl 4 (by decide) (hts _ qf_Mesh_33) (fun _ h9 => h9) rfl dX2_link_6 ?_
  refine lv_iload_n (pc := 9) hx hb dX2_link_9 rfl (lv_at hl 1 rfl) ?_
  refine rdV (pc := 10) (As := [.int a0]) (rest := [.int a0, .ref (ad 16)]) hx hb hml hown hts hG hP (c_Row_get l K (fun k => ad (k + 16)) 16 (by decide) lk a0) [16, 17] rfl (q0 := 16) rfl (ci := 4) rfl g_Mesh_127 hd_Row_get rfl ⟨Nat.le_of_ble_eq_true rfl, Nat.le_of_ble_eq_true rfl⟩ ⟨Nat.zero_le _, Nat.zero_le _⟩ hl rfl (Nat.le_of_ble_eq_true rfl) dX2_link_10 ?_
  refine lv_iconst (v := (1 : Int32)) (pc := 13) hx hb dX2_link_13 (by decide) ?_
  refine lv_iload_n (pc := 14) hx hb dX2_link_14 rfl (lv_at hl 2 rfl) ?_
  refine lv_ishl (pc := 15) hx hb dX2_link_15 ?_
  refine lv_ior (pc := 16) hx hb dX2_link_16 ?_
  refine wrVv (pc := 17) (As := [.int a0, .int ((s_Row_get 16 lk a0) ||| ((1 : Int32) <<< (a1 &&& 31)))]) (rest := []) (ws2 := wMesh K ad pxs pys plo phi pn pm lf th ow (s_Row_set 16 lk a0 ((s_Row_get 16 lk a0) ||| ((1 : Int32) <<< (a1 &&& 31)))) el eh co hu ne nt nh) (as9 := [ad 16, ad 17]) hx hb hml hown hts hG hP hD hS (c_Row_set l K (fun k => ad (k + 16)) 16 (by decide) lk a0 ((s_Row_get 16 lk a0) ||| ((1 : Int32) <<< (a1 &&& 31)))) [16, 17] rfl rfl rfl rfl [.inr 0, .inr 1, .inr 2, .inr 3, .inr 4, .inr 5, .inr 6, .inr 7, .inr 8, .inr 9, .inr 10, .inr 11, .inr 12, .inr 13, .inr 14, .inr 15, .inl 0, .inl 1, .inr 18, .inr 19, .inr 20, .inr 21, .inr 22, .inr 23, .inr 24, .inr 25] (by decide +kernel) rfl (q0 := 16) rfl (ci := 4) rfl g_Mesh_102 hd_Row_set rfl ⟨Nat.le_of_ble_eq_true rfl, Nat.le_of_ble_eq_true rfl⟩ ⟨Nat.zero_le _, Nat.zero_le _⟩ hl rfl (Nat.le_of_ble_eq_true rfl) dX2_link_17 (fun H locs hP hD hS => ?_)
  refine lv_aload_n (pc := 20) hx hb dX2_link_20 rfl (lv_at hl 0 rfl) ?_
  refine va_get (D := K.1) (ci := 2) (v := .ref (ad 16)) (C := RX2) (T := TX2) (N := 12) (pc := 21) hx hb hts inT2 hown hG.1 hP 0 rfl rfl 4 (by decide) (hts _ qf_Mesh_33) (fun _ h9 => h9) rfl dX2_link_21 ?_
  refine lv_iload_n (pc := 24) hx hb dX2_link_24 rfl (lv_at hl 2 rfl) ?_
  refine lv_aload_n (pc := 25) hx hb dX2_link_25 rfl (lv_at hl 0 rfl) ?_
  refine va_get (D := K.1) (ci := 2) (v := .ref (ad 16)) (C := RX2) (T := TX2) (N := 12) (pc := 26) hx hb hts inT2 hown hG.1 hP 0 rfl rfl 4 (by decide) (hts _ qf_Mesh_33) (fun _ h9 => h9) rfl dX2_link_26 ?_
  refine lv_iload_n (pc := 29) hx hb dX2_link_29 rfl (lv_at hl 2 rfl) ?_
  refine rdV (pc := 30) (As := [.int a1]) (rest := [.int a1, .ref (ad 16)]) hx hb hml hown hts hG hP (c_Row_get l K (fun k => ad (k + 16)) 16 (by decide) (s_Row_set 16 lk a0 ((s_Row_get 16 lk a0) ||| ((1 : Int32) <<< (a1 &&& 31)))) a1) [16, 17] rfl (q0 := 16) rfl (ci := 4) rfl g_Mesh_127 hd_Row_get rfl ⟨Nat.le_of_ble_eq_true rfl, Nat.le_of_ble_eq_true rfl⟩ ⟨Nat.zero_le _, Nat.zero_le _⟩ hl rfl (Nat.le_of_ble_eq_true rfl) dX2_link_30 ?_
  refine lv_iconst (v := (1 : Int32)) (pc := 33) hx hb dX2_link_33 (by decide) ?_
  refine lv_iload_n (pc := 34) hx hb dX2_link_34 rfl (lv_at hl 1 rfl) ?_
  refine lv_ishl (pc := 35) hx hb dX2_link_35 ?_
  refine lv_ior (pc := 36) hx hb dX2_link_36 ?_
  refine wrVv (pc := 37) (As := [.int a1, .int ((s_Row_get 16 (s_Row_set 16 lk a0 ((s_Row_get 16 lk a0) ||| ((1 : Int32) <<< (a1 &&& 31)))) a1) ||| ((1 : Int32) <<< (a0 &&& 31)))]) (rest := []) (ws2 := wMesh K ad pxs pys plo phi pn pm lf th ow (s_Row_set 16 (s_Row_set 16 lk a0 ((s_Row_get 16 lk a0) ||| ((1 : Int32) <<< (a1 &&& 31)))) a1 ((s_Row_get 16 (s_Row_set 16 lk a0 ((s_Row_get 16 lk a0) ||| ((1 : Int32) <<< (a1 &&& 31)))) a1) ||| ((1 : Int32) <<< (a0 &&& 31)))) el eh co hu ne nt nh) (as9 := [ad 16, ad 17]) hx hb hml hown hts hG hP hD hS (c_Row_set l K (fun k => ad (k + 16)) 16 (by decide) (s_Row_set 16 lk a0 ((s_Row_get 16 lk a0) ||| ((1 : Int32) <<< (a1 &&& 31)))) a1 ((s_Row_get 16 (s_Row_set 16 lk a0 ((s_Row_get 16 lk a0) ||| ((1 : Int32) <<< (a1 &&& 31)))) a1) ||| ((1 : Int32) <<< (a0 &&& 31)))) [16, 17] rfl rfl rfl rfl [.inr 0, .inr 1, .inr 2, .inr 3, .inr 4, .inr 5, .inr 6, .inr 7, .inr 8, .inr 9, .inr 10, .inr 11, .inr 12, .inr 13, .inr 14, .inr 15, .inl 0, .inl 1, .inr 18, .inr 19, .inr 20, .inr 21, .inr 22, .inr 23, .inr 24, .inr 25] (by decide +kernel) rfl (q0 := 16) rfl (ci := 4) rfl g_Mesh_102 hd_Row_set rfl ⟨Nat.le_of_ble_eq_true rfl, Nat.le_of_ble_eq_true rfl⟩ ⟨Nat.zero_le _, Nat.zero_le _⟩ hl rfl (Nat.le_of_ble_eq_true rfl) dX2_link_37 (fun H locs hP hD hS => ?_)
  subst h
  exact W.vret hx hb hr (fun t ht hW => ⟨⟨rfl, by rw [ht]; exact hP⟩, hS.F ht⟩) hS.2.2 dX2_link_40 hlk
set_option maxHeartbeats 4000000 in
set_option maxRecDepth 100000 in
theorem c_Mesh_drawEdge (l : Launch) (K : KT) (ad : Nat → Nat) (pxs : Nat → Int32) (pys : Nat → Int32) (plo : Nat → Int32) (phi : Nat → Int32) (pn : Int32) (pm : Int32) (lf : Nat → Int32) (th : Nat → Int32) (ow : Nat → Int32) (lk : Nat → Int32) (el : Nat → Int32) (eh : Nat → Int32) (co : Nat → Int32) (hu : Nat → Int32) (ne : Int32) (nt : Int32) (nh : Int32) (a0 : Int32) (a1 : Int32) : Wr l K 2 yX2_drawEdge cX2_drawEdge 3 none [.ref (ad 0), .int a0, .int a1] (wMesh K ad pxs pys plo phi pn pm lf th ow lk el eh co hu ne nt nh) none (wMesh K ad pxs pys plo phi pn pm lf th ow ((s_Mesh_drawEdge lk el eh ne a0 a1).1) ((s_Mesh_drawEdge lk el eh ne a0 a1).2.1) ((s_Mesh_drawEdge lk el eh ne a0 a1).2.2.1) co hu ((s_Mesh_drawEdge lk el eh ne a0 a1).2.2.2) nt nh) := by
  generalize h : s_Mesh_drawEdge lk el eh ne a0 a1 = o
  refine Wr.of (by decide +kernel) (Nat.le_of_ble_eq_true rfl) ?_
  unfold s_Mesh_drawEdge at h
  intro p e s m below meth c hx hb hr hml hown hts hlk H locs hP hG hD hS ls hl
  have C0 : Ctx p m c cX2_drawEdge 3 s (Array.mk [.ref (ad 0), .int a0, .int a1]) RX2 K meth none := ⟨hx, hb, hml, hown, hts, hG, hr, hlk⟩
  have hl : lv_has ls 3 [(0, .ref (ad 0)), (1, .int a0), (2, .int a1)] := hl
  refine lv_aload_n (pc := 0) hx hb dX2_drawEdge_0 rfl (lv_at hl 0 rfl) ?_
  refine va_get (D := K.1) (ci := 2) (v := .ref (ad 18)) (C := RX2) (T := TX2) (N := 12) (pc := 1) hx hb hts inT2 hown hG.1 hP 0 rfl rfl 5 (by decide) (hts _ qf_Mesh_37) (fun _ h9 => h9) rfl dX2_drawEdge_1 ?_
  refine lv_aload_n (pc := 4) hx hb dX2_drawEdge_4 rfl (lv_at hl 0 rfl) ?_
  refine va_get (D := K.1) (ci := 2) (v := .int ne) (C := RX2) (T := TX2) (N := 12) (pc := 5) hx hb hts inT2 hown hG.1 hP 0 rfl rfl 9 (by decide) (hts _ qf_Mesh_49) (fun _ h9 => h9) rfl dX2_drawEdge_5 ?_
  refine lv_iload_n (pc := 8) hx hb dX2_drawEdge_8 rfl (lv_at hl 1 rfl) ?_
  refine wrVv (pc := 9) (As := [.int ne, .int a0]) (rest := []) (ws2 := wMesh K ad pxs pys plo phi pn pm lf th ow lk (s_Row_set 42 el ne a0) eh co hu ne nt nh) (as9 := [ad 18, ad 19]) hx hb hml hown hts hG hP hD hS (c_Row_set l K (fun k => ad (k + 18)) 42 (by decide) el ne a0) [18, 19] rfl rfl rfl rfl [.inr 0, .inr 1, .inr 2, .inr 3, .inr 4, .inr 5, .inr 6, .inr 7, .inr 8, .inr 9, .inr 10, .inr 11, .inr 12, .inr 13, .inr 14, .inr 15, .inr 16, .inr 17, .inl 0, .inl 1, .inr 20, .inr 21, .inr 22, .inr 23, .inr 24, .inr 25] (by decide +kernel) rfl (q0 := 18) rfl (ci := 4) rfl g_Mesh_102 hd_Row_set rfl ⟨Nat.le_of_ble_eq_true rfl, Nat.le_of_ble_eq_true rfl⟩ ⟨Nat.zero_le _, Nat.zero_le _⟩ hl rfl (Nat.le_of_ble_eq_true rfl) dX2_drawEdge_9 (fun H locs hP hD hS => ?_)
  refine lv_aload_n (pc := 12) hx hb dX2_drawEdge_12 rfl (lv_at hl 0 rfl) ?_
  refine va_get (D := K.1) (ci := 2) (v := .ref (ad 20)) (C := RX2) (T := TX2) (N := 12) (pc := 13) hx hb hts inT2 hown hG.1 hP 0 rfl rfl 6 (by decide) (hts _ qf_Mesh_40) (fun _ h9 => h9) rfl dX2_drawEdge_13 ?_
  refine lv_aload_n (pc := 16) hx hb dX2_drawEdge_16 rfl (lv_at hl 0 rfl) ?_
  refine va_get (D := K.1) (ci := 2) (v := .int ne) (C := RX2) (T := TX2) (N := 12) (pc := 17) hx hb hts inT2 hown hG.1 hP 0 rfl rfl 9 (by decide) (hts _ qf_Mesh_49) (fun _ h9 => h9) rfl dX2_drawEdge_17 ?_
  refine lv_iload_n (pc := 20) hx hb dX2_drawEdge_20 rfl (lv_at hl 2 rfl) ?_
  refine wrVv (pc := 21) (As := [.int ne, .int a1]) (rest := []) (ws2 := wMesh K ad pxs pys plo phi pn pm lf th ow lk (s_Row_set 42 el ne a0) (s_Row_set 42 eh ne a1) co hu ne nt nh) (as9 := [ad 20, ad 21]) hx hb hml hown hts hG hP hD hS (c_Row_set l K (fun k => ad (k + 20)) 42 (by decide) eh ne a1) [20, 21] rfl rfl rfl rfl [.inr 0, .inr 1, .inr 2, .inr 3, .inr 4, .inr 5, .inr 6, .inr 7, .inr 8, .inr 9, .inr 10, .inr 11, .inr 12, .inr 13, .inr 14, .inr 15, .inr 16, .inr 17, .inr 18, .inr 19, .inl 0, .inl 1, .inr 22, .inr 23, .inr 24, .inr 25] (by decide +kernel) rfl (q0 := 20) rfl (ci := 4) rfl g_Mesh_102 hd_Row_set rfl ⟨Nat.le_of_ble_eq_true rfl, Nat.le_of_ble_eq_true rfl⟩ ⟨Nat.zero_le _, Nat.zero_le _⟩ hl rfl (Nat.le_of_ble_eq_true rfl) dX2_drawEdge_21 (fun H locs hP hD hS => ?_)
  refine lv_aload_n (pc := 24) hx hb dX2_drawEdge_24 rfl (lv_at hl 0 rfl) ?_
  refine lv_dup (pc := 25) hx hb dX2_drawEdge_25 rfl ?_
  refine va_get (D := K.1) (ci := 2) (v := .int ne) (C := RX2) (T := TX2) (N := 12) (pc := 26) hx hb hts inT2 hown hG.1 hP 0 rfl rfl 9 (by decide) (hts _ qf_Mesh_49) (fun _ h9 => h9) rfl dX2_drawEdge_26 ?_
  refine lv_iconst (v := (1 : Int32)) (pc := 29) hx hb dX2_drawEdge_29 (by decide) ?_
  refine lv_iadd (pc := 30) hx hb dX2_drawEdge_30 ?_
  refine va_put (D := K.1) (ci := 2) (v := .int (ne + (1 : Int32))) (ty := .int) (C := RX2) (T := TX2) (N := 12) (pc := 31) hx hb hts inT2 tyX2 tyX2_ok nmX2 hown hG.1 hP hD hS 0 rfl rfl 9 (by decide) (hts _ qf_Mesh_49) (fun _ h9 => h9) rfl (by decide +kernel) rfl rfl (Nat.le_of_ble_eq_true rfl) dX2_drawEdge_31 (fun H locs hP hD hS => ?_)
  have hP : va_P K.1 vC (wMesh K ad pxs pys plo phi pn pm lf th ow lk (s_Row_set 42 el ne a0) (s_Row_set 42 eh ne a1) co hu (ne + (1 : Int32)) nt nh) H := hP
  have hD : va_D _ (wMesh K ad pxs pys plo phi pn pm lf th ow lk (s_Row_set 42 el ne a0) (s_Row_set 42 eh ne a1) co hu (ne + (1 : Int32)) nt nh) := hD
  refine lv_aload_n (pc := 34) hx hb dX2_drawEdge_34 rfl (lv_at hl 0 rfl) ?_
  refine lv_iload_n (pc := 35) hx hb dX2_drawEdge_35 rfl (lv_at hl 1 rfl) ?_
  refine lv_iload_n (pc := 36) hx hb dX2_drawEdge_36 rfl (lv_at hl 2 rfl) ?_
  refine wrVv (pc := 37) (As := [.int a0, .int a1]) (rest := []) (ws2 := wMesh K ad pxs pys plo phi pn pm lf th ow (s_Mesh_link lk a0 a1) (s_Row_set 42 el ne a0) (s_Row_set 42 eh ne a1) co hu (ne + (1 : Int32)) nt nh) (as9 := [ad 0, ad 1, ad 2, ad 3, ad 4, ad 5, ad 6, ad 7, ad 8, ad 9, ad 10, ad 11, ad 12, ad 13, ad 14, ad 15, ad 16, ad 17, ad 18, ad 19, ad 20, ad 21, ad 22, ad 23, ad 24, ad 25]) hx hb hml hown hts hG hP hD hS (c_Mesh_link l K ad pxs pys plo phi pn pm lf th ow lk (s_Row_set 42 el ne a0) (s_Row_set 42 eh ne a1) co hu (ne + (1 : Int32)) nt nh a0 a1) [0, 1, 2, 3, 4, 5, 6, 7, 8, 9, 10, 11, 12, 13, 14, 15, 16, 17, 18, 19, 20, 21, 22, 23, 24, 25] rfl rfl rfl rfl [.inl 0, .inl 1, .inl 2, .inl 3, .inl 4, .inl 5, .inl 6, .inl 7, .inl 8, .inl 9, .inl 10, .inl 11, .inl 12, .inl 13, .inl 14, .inl 15, .inl 16, .inl 17, .inl 18, .inl 19, .inl 20, .inl 21, .inl 22, .inl 23, .inl 24, .inl 25] (by decide +kernel) rfl (q0 := 0) rfl (ci := 2) rfl g_Mesh_134 hd_Mesh_link rfl ⟨Nat.le_of_ble_eq_true rfl, Nat.le_of_ble_eq_true rfl⟩ ⟨Nat.zero_le _, Nat.zero_le _⟩ hl rfl (Nat.le_of_ble_eq_true rfl) dX2_drawEdge_37 (fun H locs hP hD hS => ?_)
  subst h
  exact W.vret hx hb hr (fun t ht hW => ⟨⟨rfl, by rw [ht]; exact hP⟩, hS.F ht⟩) hS.2.2 dX2_drawEdge_40 hlk
set_option maxHeartbeats 4000000 in
set_option maxRecDepth 100000 in
theorem c_Mesh_isLinked (l : Launch) (K : KT) (ad : Nat → Nat) (pxs : Nat → Int32) (pys : Nat → Int32) (plo : Nat → Int32) (phi : Nat → Int32) (pn : Int32) (pm : Int32) (lf : Nat → Int32) (th : Nat → Int32) (ow : Nat → Int32) (lk : Nat → Int32) (el : Nat → Int32) (eh : Nat → Int32) (co : Nat → Int32) (hu : Nat → Int32) (ne : Int32) (nt : Int32) (nh : Int32) (a0 : Int32) (a1 : Int32) : Rd l K 1 yX2_isLinked cX2_isLinked 3 .boolean [.ref (ad 0), .int a0, .int a1] (wMesh K ad pxs pys plo phi pn pm lf th ow lk el eh co hu ne nt nh) (bI (s_Mesh_isLinked lk a0 a1)) := by
  generalize h : s_Mesh_isLinked lk a0 a1 = o
  refine Rd.of (by decide +kernel) (Nat.le_of_ble_eq_true rfl) ?_
  unfold s_Mesh_isLinked at h
  intro p e s m below meth c hx hb hr hml hown hts hlk hP hG ls hl
  have C0 : Ctx p m c cX2_isLinked 3 s (Array.mk [.ref (ad 0), .int a0, .int a1]) RX2 K meth (some .boolean) := ⟨hx, hb, hml, hown, hts, hG, hr, hlk⟩
  have hl : lv_has ls 3 [(0, .ref (ad 0)), (1, .int a0), (2, .int a1)] := hl
  refine lv_aload_n (pc := 0) hx hb dX2_isLinked_0 rfl (lv_at hl 0 rfl) ?_
  refine va_get (D := K.1) (ci := 2) (v := .ref (ad 16)) (C := RX2) (T := TX2) (N := 12) (pc := 1) hx hb hts inT2 hown hG.1 hP 0 rfl rfl 4 (by decide) (hts _ qf_Mesh_33) (fun _ h9 => h9) rfl dX2_isLinked_1 ?_
  refine lv_iload_n (pc := 4) hx hb dX2_isLinked_4 rfl (lv_at hl 1 rfl) ?_
  refine rdV (pc := 5) (As := [.int a0]) (rest := []) hx hb hml hown hts hG hP (c_Row_get l K (fun k => ad (k + 16)) 16 (by decide) lk a0) [16, 17] rfl (q0 := 16) rfl (ci := 4) rfl g_Mesh_127 hd_Row_get rfl ⟨Nat.le_of_ble_eq_true rfl, Nat.le_of_ble_eq_true rfl⟩ ⟨Nat.zero_le _, Nat.zero_le _⟩ hl rfl (Nat.le_of_ble_eq_true rfl) dX2_isLinked_5 ?_
  refine lv_iload_n (pc := 8) hx hb dX2_isLinked_8 rfl (lv_at hl 2 rfl) ?_
  refine lv_ishr (pc := 9) hx hb dX2_isLinked_9 ?_
  refine lv_iconst (v := (1 : Int32)) (pc := 10) hx hb dX2_isLinked_10 (by decide) ?_
  refine lv_iand (pc := 11) hx hb dX2_isLinked_11 ?_
  refine lv_if_eq (tgt := 19) (pc := 12) hx hb dX2_isLinked_12 (by decide) (fun c1 => ?_) (fun c1 => ?_)
  · have h := it_t c1 h
    refine lv_iconst (v := (0 : Int32)) (pc := 19) hx hb dX2_isLinked_19 (by decide) ?_
    subst h
    exact W.zret hx hb hr (rfl) (fun t ht hW => ⟨rfl, ht⟩) (fun q hq => absurd hq List.not_mem_nil) dX2_isLinked_20 hlk
  · have h := it_f c1 h
    refine lv_iconst (v := (1 : Int32)) (pc := 15) hx hb dX2_isLinked_15 (by decide) ?_
    refine lv_goto (tgt := 20) (pc := 16) hx hb dX2_isLinked_16 (by decide) ?_
    subst h
    exact W.zret hx hb hr (rfl) (fun t ht hW => ⟨rfl, ht⟩) (fun q hq => absurd hq List.not_mem_nil) dX2_isLinked_20 hlk
set_option maxHeartbeats 4000000 in
set_option maxRecDepth 100000 in
theorem c_Mesh_parts (l : Launch) (K : KT) (ad : Nat → Nat) (pxs : Nat → Int32) (pys : Nat → Int32) (plo : Nat → Int32) (phi : Nat → Int32) (pn : Int32) (pm : Int32) (lf : Nat → Int32) (th : Nat → Int32) (ow : Nat → Int32) (lk : Nat → Int32) (el : Nat → Int32) (eh : Nat → Int32) (co : Nat → Int32) (hu : Nat → Int32) (ne : Int32) (nt : Int32) (nh : Int32) (a0 : Int32) (a1 : Int32) (a2 : Int32) (a3 : Int32) : Rd l K 1 yX2_parts cX2_parts 7 .boolean [.ref (ad 0), .int a0, .int a1, .int a2, .int a3] (wMesh K ad pxs pys plo phi pn pm lf th ow lk el eh co hu ne nt nh) (bI (s_Mesh_parts lf a0 a1 a2 a3)) := by
  generalize h : s_Mesh_parts lf a0 a1 a2 a3 = o
  refine Rd.of (by decide +kernel) (Nat.le_of_ble_eq_true rfl) ?_
  unfold s_Mesh_parts at h
  intro p e s m below meth c hx hb hr hml hown hts hlk hP hG ls hl
  have C0 : Ctx p m c cX2_parts 7 s (Array.mk [.ref (ad 0), .int a0, .int a1, .int a2, .int a3]) RX2 K meth (some .boolean) := ⟨hx, hb, hml, hown, hts, hG, hr, hlk⟩
  have hl : lv_has ls 7 [(0, .ref (ad 0)), (1, .int a0), (2, .int a1), (3, .int a2), (4, .int a3)] := hl
  refine lv_aload_n (pc := 0) hx hb dX2_parts_0 rfl (lv_at hl 0 rfl) ?_
  refine va_get (D := K.1) (ci := 2) (v := .ref (ad 10)) (C := RX2) (T := TX2) (N := 12) (pc := 1) hx hb hts inT2 hown hG.1 hP 0 rfl rfl 1 (by decide) (hts _ qf_Mesh_20) (fun _ h9 => h9) rfl dX2_parts_1 ?_
  refine lv_iload_n (pc := 4) hx hb dX2_parts_4 rfl (lv_at hl 1 rfl) ?_
  refine lv_iload_n (pc := 5) hx hb dX2_parts_5 rfl (lv_at hl 2 rfl) ?_
  refine rdV (pc := 6) (As := [.int a0, .int a1]) (rest := []) hx hb hml hown hts hG hP (c_Tab_get l K (fun k => ad (k + 10)) 0 lf a0 a1) [10, 11] rfl (q0 := 10) rfl (ci := 5) rfl g_Mesh_140 hd_Tab_get rfl ⟨Nat.le_of_ble_eq_true rfl, Nat.le_of_ble_eq_true rfl⟩ ⟨Nat.zero_le _, Nat.zero_le _⟩ hl rfl (Nat.le_of_ble_eq_true rfl) dX2_parts_6 ?_
  refine lv_istore (pc := 9) (lv' := [(5, .int (s_Tab_get 0 lf a0 a1)), (0, .ref (ad 0)), (1, .int a0), (2, .int a1), (3, .int a2), (4, .int a3)]) hx hb dX2_parts_9 hl (by decide) rfl (fun ls hl => ?_)
  refine lv_aload_n (pc := 11) hx hb dX2_parts_11 rfl (lv_at hl 1 rfl) ?_
  refine va_get (D := K.1) (ci := 2) (v := .ref (ad 10)) (C := RX2) (T := TX2) (N := 12) (pc := 12) hx hb hts inT2 hown hG.1 hP 0 rfl rfl 1 (by decide) (hts _ qf_Mesh_20) (fun _ h9 => h9) rfl dX2_parts_12 ?_
  refine lv_iload_n (pc := 15) hx hb dX2_parts_15 rfl (lv_at hl 3 rfl) ?_
  refine lv_iload_n (pc := 16) hx hb dX2_parts_16 rfl (lv_at hl 2 rfl) ?_
  refine rdV (pc := 17) (As := [.int a1, .int a0]) (rest := []) hx hb hml hown hts hG hP (c_Tab_get l K (fun k => ad (k + 10)) 0 lf a1 a0) [10, 11] rfl (q0 := 10) rfl (ci := 5) rfl g_Mesh_140 hd_Tab_get rfl ⟨Nat.le_of_ble_eq_true rfl, Nat.le_of_ble_eq_true rfl⟩ ⟨Nat.zero_le _, Nat.zero_le _⟩ hl rfl (Nat.le_of_ble_eq_true rfl) dX2_parts_17 ?_
  refine lv_istore (pc := 20) (lv' := [(6, .int (s_Tab_get 0 lf a1 a0)), (5, .int (s_Tab_get 0 lf a0 a1)), (0, .ref (ad 0)), (1, .int a0), (2, .int a1), (3, .int a2), (4, .int a3)]) hx hb dX2_parts_20 hl (by decide) rfl (fun ls hl => ?_)
  refine lv_iload (pc := 22) hx hb dX2_parts_22 (lv_at hl 1 rfl) ?_
  refine lv_iload_n (pc := 24) hx hb dX2_parts_24 rfl (lv_at hl 5 rfl) ?_
  refine lv_ishr (pc := 25) hx hb dX2_parts_25 ?_
  refine lv_iload (pc := 26) hx hb dX2_parts_26 (lv_at hl 0 rfl) ?_
  refine lv_iload (pc := 28) hx hb dX2_parts_28 (lv_at hl 6 rfl) ?_
  refine lv_ishr (pc := 30) hx hb dX2_parts_30 ?_
  refine lv_iand (pc := 31) hx hb dX2_parts_31 ?_
  refine lv_iload (pc := 32) hx hb dX2_parts_32 (lv_at hl 1 rfl) ?_
  refine lv_iload (pc := 34) hx hb dX2_parts_34 (lv_at hl 6 rfl) ?_
  refine lv_ishr (pc := 36) hx hb dX2_parts_36 ?_
  refine lv_iload (pc := 37) hx hb dX2_parts_37 (lv_at hl 0 rfl) ?_
  refine lv_iload_n (pc := 39) hx hb dX2_parts_39 rfl (lv_at hl 5 rfl) ?_
  refine lv_ishr (pc := 40) hx hb dX2_parts_40 ?_
  refine lv_iand (pc := 41) hx hb dX2_parts_41 ?_
  refine lv_ior (pc := 42) hx hb dX2_parts_42 ?_
  refine lv_iconst (v := (1 : Int32)) (pc := 43) hx hb dX2_parts_43 (by decide) ?_
  refine lv_iand (pc := 44) hx hb dX2_parts_44 ?_
  refine lv_if_eq (tgt := 52) (pc := 45) hx hb dX2_parts_45 (by decide) (fun c1 => ?_) (fun c1 => ?_)
  · have h := it_t c1 h
    refine lv_iconst (v := (0 : Int32)) (pc := 52) hx hb dX2_parts_52 (by decide) ?_
    subst h
    exact W.zret hx hb hr (rfl) (fun t ht hW => ⟨rfl, ht⟩) (fun q hq => absurd hq List.not_mem_nil) dX2_parts_53 hlk
  · have h := it_f c1 h
    refine lv_iconst (v := (1 : Int32)) (pc := 48) hx hb dX2_parts_48 (by decide) ?_
    refine lv_goto (tgt := 53) (pc := 49) hx hb dX2_parts_49 (by decide) ?_
    subst h
    exact W.zret hx hb hr (rfl) (fun t ht hW => ⟨rfl, ht⟩) (fun q hq => absurd hq List.not_mem_nil) dX2_parts_53 hlk
set_option maxHeartbeats 4000000 in
set_option maxRecDepth 100000 in
theorem c_Mesh_splits (l : Launch) (K : KT) (ad : Nat → Nat) (pxs : Nat → Int32) (pys : Nat → Int32) (plo : Nat → Int32) (phi : Nat → Int32) (pn : Int32) (pm : Int32) (lf : Nat → Int32) (th : Nat → Int32) (ow : Nat → Int32) (lk : Nat → Int32) (el : Nat → Int32) (eh : Nat → Int32) (co : Nat → Int32) (hu : Nat → Int32) (ne : Int32) (nt : Int32) (nh : Int32) (a0 : Int32) (a1 : Int32) (a2 : Int32) (a3 : Int32) : Rd l K 2 yX2_splits cX2_splits 5 .boolean [.ref (ad 0), .int a0, .int a1, .int a2, .int a3] (wMesh K ad pxs pys plo phi pn pm lf th ow lk el eh co hu ne nt nh) (bI (s_Mesh_splits lf a0 a1 a2 a3)) := by
  generalize h : s_Mesh_splits lf a0 a1 a2 a3 = o
  refine Rd.of (by decide +kernel) (Nat.le_of_ble_eq_true rfl) ?_
  unfold s_Mesh_splits at h
  intro p e s m below meth c hx hb hr hml hown hts hlk hP hG ls hl
  have C0 : Ctx p m c cX2_splits 5 s (Array.mk [.ref (ad 0), .int a0, .int a1, .int a2, .int a3]) RX2 K meth (some .boolean) := ⟨hx, hb, hml, hown, hts, hG, hr, hlk⟩
  have hl : lv_has ls 5 [(0, .ref (ad 0)), (1, .int a0), (2, .int a1), (3, .int a2), (4, .int a3)] := hl
  refine lv_aload_n (pc := 0) hx hb dX2_splits_0 rfl (lv_at hl 0 rfl) ?_
  refine lv_iload_n (pc := 1) hx hb dX2_splits_1 rfl (lv_at hl 1 rfl) ?_
  refine lv_iload_n (pc := 2) hx hb dX2_splits_2 rfl (lv_at hl 2 rfl) ?_
  refine lv_iload_n (pc := 3) hx hb dX2_splits_3 rfl (lv_at hl 3 rfl) ?_
  refine lv_iload (pc := 4) hx hb dX2_splits_4 (lv_at hl 4 rfl) ?_
  refine rdV (pc := 6) (As := [.int a0, .int a1, .int a2, .int a3]) (rest := []) hx hb hml hown hts hG hP (c_Mesh_parts l K ad pxs pys plo phi pn pm lf th ow lk el eh co hu ne nt nh a0 a1 a2 a3) [0, 1, 2, 3, 4, 5, 6, 7, 8, 9, 10, 11, 12, 13, 14, 15, 16, 17, 18, 19, 20, 21, 22, 23, 24, 25] rfl (q0 := 0) rfl (ci := 2) rfl g_Mesh_137 hd_Mesh_parts rfl ⟨Nat.le_of_ble_eq_true rfl, Nat.le_of_ble_eq_true rfl⟩ ⟨Nat.zero_le _, Nat.zero_le _⟩ hl rfl (Nat.le_of_ble_eq_true rfl) dX2_splits_6 ?_
  refine lv_if_eq (tgt := 28) (pc := 9) hx hb dX2_splits_9 (by decide) (fun c1 => ?_) (fun c1 => ?_)
  · have h := it_t c1 h
    refine lv_iconst (v := (0 : Int32)) (pc := 28) hx hb dX2_splits_28 (by decide) ?_
    subst h
    exact W.zret hx hb hr (rfl) (fun t ht hW => ⟨rfl, ht⟩) (fun q hq => absurd hq List.not_mem_nil) dX2_splits_29 hlk
  · have h := it_f c1 h
    refine lv_aload_n (pc := 12) hx hb dX2_splits_12 rfl (lv_at hl 0 rfl) ?_
    refine lv_iload_n (pc := 13) hx hb dX2_splits_13 rfl (lv_at hl 3 rfl) ?_
    refine lv_iload (pc := 14) hx hb dX2_splits_14 (lv_at hl 4 rfl) ?_
    refine lv_iload_n (pc := 16) hx hb dX2_splits_16 rfl (lv_at hl 1 rfl) ?_
    refine lv_iload_n (pc := 17) hx hb dX2_splits_17 rfl (lv_at hl 2 rfl) ?_
    refine rdV (pc := 18) (As := [.int a2, .int a3, .int a0, .int a1]) (rest := []) hx hb hml hown hts hG hP (c_Mesh_parts l K ad pxs pys plo phi pn pm lf th ow lk el eh co hu ne nt nh a2 a3 a0 a1) [0, 1, 2, 3, 4, 5, 6, 7, 8, 9, 10, 11, 12, 13, 14, 15, 16, 17, 18, 19, 20, 21, 22, 23, 24, 25] rfl (q0 := 0) rfl (ci := 2) rfl g_Mesh_137 hd_Mesh_parts rfl ⟨Nat.le_of_ble_eq_true rfl, Nat.le_of_ble_eq_true rfl⟩ ⟨Nat.zero_le _, Nat.zero_le _⟩ hl rfl (Nat.le_of_ble_eq_true rfl) dX2_splits_18 ?_
    refine lv_if_eq (tgt := 28) (pc := 21) hx hb dX2_splits_21 (by decide) (fun c2 => ?_) (fun c2 => ?_)
    · have h := it_t c2 h
      refine lv_iconst (v := (0 : Int32)) (pc := 28) hx hb dX2_splits_28 (by decide) ?_
      subst h
      exact W.zret hx hb hr (rfl) (fun t ht hW => ⟨rfl, ht⟩) (fun q hq => absurd hq List.not_mem_nil) dX2_splits_29 hlk
    · have h := it_f c2 h
      refine lv_iconst (v := (1 : Int32)) (pc := 24) hx hb dX2_splits_24 (by decide) ?_
      refine lv_goto (tgt := 29) (pc := 25) hx hb dX2_splits_25 (by decide) ?_
      subst h
      exact W.zret hx hb hr (rfl) (fun t ht hW => ⟨rfl, ht⟩) (fun q hq => absurd hq List.not_mem_nil) dX2_splits_29 hlk
set_option maxHeartbeats 4000000 in
set_option maxRecDepth 100000 in
theorem l_Mesh_crossesEdge_L2 {p : Program} {l : Launch} {e : Env} {s : State} {m : MethodId} {args : Array Value} {below : List Frame} {meth : Method} {c : Code} {Q : State → Prop} {K : KT} (C0 : Ctx p m c cX2_crossesEdge 4 s args RX2 K meth (some .boolean)) (F : Nat) (ad : Nat → Nat) (pxs : Nat → Int32) (pys : Nat → Int32) (plo : Nat → Int32) (phi : Nat → Int32) (pn : Int32) (pm : Int32) (lf : Nat → Int32) (th : Nat → Int32) (ow : Nat → Int32) (lk : Nat → Int32) (el : Nat → Int32) (eh : Nat → Int32) (co : Nat → Int32) (hu : Nat → Int32) (ne : Int32) (nt : Int32) (nh : Int32) (x1 : Int32) (x2 : Int32) (hP : va_P K.1 vC (wMesh K ad pxs pys plo phi pn pm lf th ow lk el eh co hu ne nt nh) s.heap) : ∀ (n : Nat) (x3 : Int32) (out : (Bool) ⊕ (Int32)), s_Mesh_crossesEdge_L2 lf el eh ne x1 x2 n x3 = some out → ∀ (ls : Array Slot), lv_has ls 4 [(0, .ref (ad 0)), (1, .int x1), (2, .int x2), (3, .int x3)] → (∀ (o : Int32) (ls : Array Slot), out = .inr o → lv_has ls 4 [(0, .ref (ad 0)), (1, .int x1), (2, .int x2), (3, .int o)] → W p l e (rmL 3) s m args below meth c s.heap [] 0 0 Q (F0 m 43 ls [])) → (∀ (o : Bool) (pcR : Nat) (ls : Array Slot), out = .inl o → decode cX2_crossesEdge pcR = .ok (.ireturn, 1) → W p l e (rmL 3) s m args below meth c s.heap [] 0 0 Q (F0 m pcR ls [.int (bI o)])) → W p l e (rmL 3) s m args below meth c s.heap [] 0 0 Q (F0 m 2 ls []) := by
  obtain ⟨hx, hb, hml, hown, hts, hG, hr, hlk⟩ := id C0
  intro n
  induction n with
  | zero =>
    intro x3 out h
    cases h
  | succ n ih =>
    intro x3 out h ls hl Kx Kr
    rw [s_Mesh_crossesEdge_L2.eq_2] at h
    refine lv_iload_n (pc := 2) hx hb dX2_crossesEdge_2 rfl (lv_at hl 3 rfl) ?_
    refine lv_aload_n (pc := 3) hx hb dX2_crossesEdge_3 rfl (lv_at hl 0 rfl) ?_
    refine va_get (D := K.1) (ci := 2) (v := .int ne) (C := RX2) (T := TX2) (N := 12) (pc := 4) hx hb hts inT2 hown hG.1 hP 0 rfl rfl 9 (by decide) (hts _ qf_Mesh_49) (fun _ h9 => h9) rfl dX2_crossesEdge_4 ?_
    refine lv_icmp_ge (tgt := 43) (pc := 7) hx hb dX2_crossesEdge_7 (by decide) (fun c1 => ?_) (fun c1 => ?_)
    · have h := it_t c1 h
      obtain rfl := Option.some.inj h
      exact Kx _ ls rfl (lv_sub hl [0, 1, 2, 3] rfl)
    · have h := it_f c1 h
      refine lv_aload_n (pc := 10) hx hb dX2_crossesEdge_10 rfl (lv_at hl 0 rfl) ?_
      refine lv_iload_n (pc := 11) hx hb dX2_crossesEdge_11 rfl (lv_at hl 1 rfl) ?_
      refine lv_iload_n (pc := 12) hx hb dX2_crossesEdge_12 rfl (lv_at hl 2 rfl) ?_
      refine lv_aload_n (pc := 13) hx hb dX2_crossesEdge_13 rfl (lv_at hl 0 rfl) ?_
      refine va_get (D := K.1) (ci := 2) (v := .ref (ad 18)) (C := RX2) (T := TX2) (N := 12) (pc := 14) hx hb hts inT2 hown hG.1 hP 0 rfl rfl 5 (by decide) (hts _ qf_Mesh_37) (fun _ h9 => h9) rfl dX2_crossesEdge_14 ?_
      refine lv_iload_n (pc := 17) hx hb dX2_crossesEdge_17 rfl (lv_at hl 3 rfl) ?_
      refine rdV (pc := 18) (As := [.int x3]) (rest := [.int x2, .int x1, .ref (ad 0)]) hx hb hml hown hts hG hP (c_Row_get l K (fun k => ad (k + 18)) 42 (by decide) el x3) [18, 19] rfl (q0 := 18) rfl (ci := 4) rfl g_Mesh_127 hd_Row_get rfl ⟨Nat.le_of_ble_eq_true rfl, Nat.le_of_ble_eq_true rfl⟩ ⟨Nat.zero_le _, Nat.zero_le _⟩ hl rfl (Nat.le_of_ble_eq_true rfl) dX2_crossesEdge_18 ?_
      refine lv_aload_n (pc := 21) hx hb dX2_crossesEdge_21 rfl (lv_at hl 0 rfl) ?_
      refine va_get (D := K.1) (ci := 2) (v := .ref (ad 20)) (C := RX2) (T := TX2) (N := 12) (pc := 22) hx hb hts inT2 hown hG.1 hP 0 rfl rfl 6 (by decide) (hts _ qf_Mesh_40) (fun _ h9 => h9) rfl dX2_crossesEdge_22 ?_
      refine lv_iload_n (pc := 25) hx hb dX2_crossesEdge_25 rfl (lv_at hl 3 rfl) ?_
      refine rdV (pc := 26) (As := [.int x3]) (rest := [.int (s_Row_get 42 el x3), .int x2, .int x1, .ref (ad 0)]) hx hb hml hown hts hG hP (c_Row_get l K (fun k => ad (k + 20)) 42 (by decide) eh x3) [20, 21] rfl (q0 := 20) rfl (ci := 4) rfl g_Mesh_127 hd_Row_get rfl ⟨Nat.le_of_ble_eq_true rfl, Nat.le_of_ble_eq_true rfl⟩ ⟨Nat.zero_le _, Nat.zero_le _⟩ hl rfl (Nat.le_of_ble_eq_true rfl) dX2_crossesEdge_26 ?_
      refine rdV (pc := 29) (As := [.int x1, .int x2, .int (s_Row_get 42 el x3), .int (s_Row_get 42 eh x3)]) (rest := []) hx hb hml hown hts hG hP (c_Mesh_splits l K ad pxs pys plo phi pn pm lf th ow lk el eh co hu ne nt nh x1 x2 (s_Row_get 42 el x3) (s_Row_get 42 eh x3)) [0, 1, 2, 3, 4, 5, 6, 7, 8, 9, 10, 11, 12, 13, 14, 15, 16, 17, 18, 19, 20, 21, 22, 23, 24, 25] rfl (q0 := 0) rfl (ci := 2) rfl g_Mesh_130 hd_Mesh_splits rfl ⟨Nat.le_of_ble_eq_true rfl, Nat.le_of_ble_eq_true rfl⟩ ⟨Nat.zero_le _, Nat.zero_le _⟩ hl rfl (Nat.le_of_ble_eq_true rfl) dX2_crossesEdge_29 ?_
      refine lv_if_eq (tgt := 37) (pc := 32) hx hb dX2_crossesEdge_32 (by decide) (fun c2 => ?_) (fun c2 => ?_)
      · have h := it_t c2 h
        refine lv_iinc (v := (x3 + (1 : Int32))) (pc := 37) (lv' := [(3, .int (x3 + (1 : Int32))), (0, .ref (ad 0)), (1, .int x1), (2, .int x2)]) hx hb dX2_crossesEdge_37 hl (k := 3) rfl rfl (by decide) rfl (fun ls hl => ?_)
        refine lv_goto (tgt := 2) (pc := 40) hx hb dX2_crossesEdge_40 (by decide) ?_
        exact ih (x3 + (1 : Int32)) out h ls (lv_sub hl [1, 2, 3, 0] rfl) Kx Kr
      · have h := it_f c2 h
        refine lv_iconst (v := (1 : Int32)) (pc := 35) hx hb dX2_crossesEdge_35 (by decide) ?_
        obtain rfl := Option.some.inj h
        exact Kr _ _ _ rfl dX2_crossesEdge_36
set_option maxHeartbeats 4000000 in
set_option maxRecDepth 100000 in
theorem c_Mesh_crossesEdge (l : Launch) (K : KT) (ad : Nat → Nat) (pxs : Nat → Int32) (pys : Nat → Int32) (plo : Nat → Int32) (phi : Nat → Int32) (pn : Int32) (pm : Int32) (lf : Nat → Int32) (th : Nat → Int32) (ow : Nat → Int32) (lk : Nat → Int32) (el : Nat → Int32) (eh : Nat → Int32) (co : Nat → Int32) (hu : Nat → Int32) (ne : Int32) (nt : Int32) (nh : Int32) (a0 : Int32) (a1 : Int32) (F : Nat) {o : Bool} (h : s_Mesh_crossesEdge F lf el eh ne a0 a1 = some o) : Rd l K 3 yX2_crossesEdge cX2_crossesEdge 4 .boolean [.ref (ad 0), .int a0, .int a1] (wMesh K ad pxs pys plo phi pn pm lf th ow lk el eh co hu ne nt nh) (bI o) := by
  refine Rd.of (by decide +kernel) (Nat.le_of_ble_eq_true rfl) ?_
  unfold s_Mesh_crossesEdge at h
  intro p e s m below meth c hx hb hr hml hown hts hlk hP hG ls hl
  have C0 : Ctx p m c cX2_crossesEdge 4 s (Array.mk [.ref (ad 0), .int a0, .int a1]) RX2 K meth (some .boolean) := ⟨hx, hb, hml, hown, hts, hG, hr, hlk⟩
  have hl : lv_has ls 4 [(0, .ref (ad 0)), (1, .int a0), (2, .int a1)] := hl
  refine lv_iconst (v := (0 : Int32)) (pc := 0) hx hb dX2_crossesEdge_0 (by decide) ?_
  refine lv_istore_n (pc := 1) (lv' := [(3, .int (0 : Int32)), (0, .ref (ad 0)), (1, .int a0), (2, .int a1)]) hx hb dX2_crossesEdge_1 rfl hl (by decide) rfl (fun ls hl => ?_)
  obtain ⟨o3, h_o3, h⟩ := ob h
  refine l_Mesh_crossesEdge_L2 C0 F ad pxs pys plo phi pn pm lf th ow lk el eh co hu ne nt nh a0 a1 hP F (0 : Int32) _ h_o3 ls (lv_sub hl [1, 2, 3, 0] rfl) (fun o3x ls eo hl => ?_) (fun q_o pcR ls eo hdR => ?_)
  · subst o3
    have h := se_r h
    refine lv_iconst (v := (0 : Int32)) (pc := 43) hx hb dX2_crossesEdge_43 (by decide) ?_
    obtain rfl := Option.some.inj h
    exact W.zret hx hb hr (rfl) (fun t ht hW => ⟨rfl, ht⟩) (fun q hq => absurd hq List.not_mem_nil) dX2_crossesEdge_44 hlk
  · subst o3
    have h := se_l h
    obtain rfl := Option.some.inj h
    exact W.zret hx hb hr (bI_nar _) (fun t ht hW => ⟨rfl, ht⟩) (fun q hq => absurd hq List.not_mem_nil) hdR hlk
set_option maxHeartbeats 4000000 in
set_option maxRecDepth 100000 in
theorem l_Mesh_drawSomeEdges_L7 {p : Program} {l : Launch} {e : Env} {s : State} {m : MethodId} {args : Array Value} {below : List Frame} {meth : Method} {c : Code} {Q : State → Prop} {K : KT} {A : Nat → Prop} (C0 : Ctx p m c cX2_drawSomeEdges 3 s args RX2 K meth none) (F : Nat) (ad : Nat → Nat) (pxs : Nat → Int32) (pys : Nat → Int32) (plo : Nat → Int32) (phi : Nat → Int32) (pn : Int32) (pm : Int32) (lf : Nat → Int32) (th : Nat → Int32) (ow : Nat → Int32) (el : Nat → Int32) (eh : Nat → Int32) (co : Nat → Int32) (hu : Nat → Int32) (ne : Int32) (nt : Int32) (nh : Int32)  : ∀ (n : Nat) (x1 : Int32) (lk : Nat → Int32) (out : Int32 × (Nat → Int32)), s_Mesh_drawSomeEdges_L7  n x1 lk = some out → ∀ (H : Heap) (locs : List Loc) (ls : Array Slot), va_P K.1 vC (wMesh K ad pxs pys plo phi pn pm lf th ow lk el eh co hu ne nt nh) H → va_D A (wMesh K ad pxs pys plo phi pn pm lf th ow lk el eh co hu ne nt nh) → va_S A s.heap H locs → lv_has ls 3 [(0, .ref (ad 0)), (1, .int x1)] → (∀ (o : Int32 × (Nat → Int32)) (H : Heap) (locs : List Loc) (ls : Array Slot), out = o → va_P K.1 vC (wMesh K ad pxs pys plo phi pn pm lf th ow o.2 el eh co hu ne nt nh) H → va_D A (wMesh K ad pxs pys plo phi pn pm lf th ow o.2 el eh co hu ne nt nh) → va_S A s.heap H locs → lv_has ls 3 [(0, .ref (ad 0)), (1, .int o.1)] → W p l e (rmL 4) s m args below meth c H locs 0 0 Q (F0 m 28 ls [])) → W p l e (rmL 4) s m args below meth c H locs 0 0 Q (F0 m 7 ls []) := by
  obtain ⟨hx, hb, hml, hown, hts, hG, hr, hlk⟩ := id C0
  intro n
  induction n with
  | zero =>
    intro x1 lk out h
    cases h
  | succ n ih =>
    intro x1 lk out h H locs ls hP hD hS hl Kx 
    rw [s_Mesh_drawSomeEdges_L7.eq_2] at h
    refine lv_iload_n (pc := 7) hx hb dX2_drawSomeEdges_7 rfl (lv_at hl 1 rfl) ?_
    refine lv_bipush (v := (16 : Int32)) (pc := 8) hx hb dX2_drawSomeEdges_8 (by decide) ?_
    refine lv_icmp_ge (tgt := 28) (pc := 10) hx hb dX2_drawSomeEdges_10 (by decide) (fun c1 => ?_) (fun c1 => ?_)
    · have h := it_t c1 h
      obtain rfl := Option.some.inj h
      exact Kx _ H locs ls rfl hP hD hS (lv_sub hl [0, 1] rfl)
    · have h := it_f c1 h
      refine lv_aload_n (pc := 13) hx hb dX2_drawSomeEdges_13 rfl (lv_at hl 0 rfl) ?_
      refine va_get (D := K.1) (ci := 2) (v := .ref (ad 16)) (C := RX2) (T := TX2) (N := 12) (pc := 14) hx hb hts inT2 hown hG.1 hP 0 rfl rfl 4 (by decide) (hts _ qf_Mesh_33) (fun _ h9 => h9) rfl dX2_drawSomeEdges_14 ?_
      refine lv_iload_n (pc := 17) hx hb dX2_drawSomeEdges_17 rfl (lv_at hl 1 rfl) ?_
      refine lv_iconst (v := (0 : Int32)) (pc := 18) hx hb dX2_drawSomeEdges_18 (by decide) ?_
      refine wrVv (pc := 19) (As := [.int x1, .int (0 : Int32)]) (rest := []) (ws2 := wMesh K ad pxs pys plo phi pn pm lf th ow (s_Row_set 16 lk x1 (0 : Int32)) el eh co hu ne nt nh) (as9 := [ad 16, ad 17]) hx hb hml hown hts hG hP hD hS (c_Row_set l K (fun k => ad (k + 16)) 16 (by decide) lk x1 (0 : Int32)) [16, 17] rfl rfl rfl rfl [.inr 0, .inr 1, .inr 2, .inr 3, .inr 4, .inr 5, .inr 6, .inr 7, .inr 8, .inr 9, .inr 10, .inr 11, .inr 12, .inr 13, .inr 14, .inr 15, .inl 0, .inl 1, .inr 18, .inr 19, .inr 20, .inr 21, .inr 22, .inr 23, .inr 24, .inr 25] (by decide +kernel) rfl (q0 := 16) rfl (ci := 4) rfl g_Mesh_102 hd_Row_set rfl ⟨Nat.le_of_ble_eq_true rfl, Nat.le_of_ble_eq_true rfl⟩ ⟨Nat.zero_le _, Nat.zero_le _⟩ hl rfl (Nat.le_of_ble_eq_true rfl) dX2_drawSomeEdges_19 (fun H locs hP hD hS => ?_)
      refine lv_iinc (v := (x1 + (1 : Int32))) (pc := 22) (lv' := [(1, .int (x1 + (1 : Int32))), (0, .ref (ad 0))]) hx hb dX2_drawSomeEdges_22 hl (k := 1) rfl rfl (by decide) rfl (fun ls hl => ?_)
      refine lv_goto (tgt := 7) (pc := 25) hx hb dX2_drawSomeEdges_25 (by decide) ?_
      exact ih (x1 + (1 : Int32)) (s_Row_set 16 lk x1 (0 : Int32)) out h H locs ls hP hD hS (lv_sub hl [1, 0] rfl) Kx 
set_option maxHeartbeats 4000000 in
set_option maxRecDepth 100000 in
theorem l_Mesh_drawSomeEdges_L30 {p : Program} {l : Launch} {e : Env} {s : State} {m : MethodId} {args : Array Value} {below : List Frame} {meth : Method} {c : Code} {Q : State → Prop} {K : KT} {A : Nat → Prop} (C0 : Ctx p m c cX2_drawSomeEdges 3 s args RX2 K meth none) (F : Nat) (ad : Nat → Nat) (pxs : Nat → Int32) (pys : Nat → Int32) (plo : Nat → Int32) (phi : Nat → Int32) (pn : Int32) (pm : Int32) (lf : Nat → Int32) (th : Nat → Int32) (ow : Nat → Int32) (co : Nat → Int32) (hu : Nat → Int32) (nt : Int32) (nh : Int32)  : ∀ (n : Nat) (x1 : Int32) (lk : Nat → Int32) (el : Nat → Int32) (eh : Nat → Int32) (ne : Int32) (out : Int32 × (Nat → Int32) × (Nat → Int32) × (Nat → Int32) × Int32), s_Mesh_drawSomeEdges_L30 plo phi pm n x1 lk el eh ne = some out → ∀ (H : Heap) (locs : List Loc) (ls : Array Slot), va_P K.1 vC (wMesh K ad pxs pys plo phi pn pm lf th ow lk el eh co hu ne nt nh) H → va_D A (wMesh K ad pxs pys plo phi pn pm lf th ow lk el eh co hu ne nt nh) → va_S A s.heap H locs → lv_has ls 3 [(0, .ref (ad 0)), (1, .int x1)] → (∀ (o : Int32 × (Nat → Int32) × (Nat → Int32) × (Nat → Int32) × Int32) (H : Heap) (locs : List Loc) (ls : Array Slot), out = o → va_P K.1 vC (wMesh K ad pxs pys plo phi pn pm lf th ow o.2.1 o.2.2.1 o.2.2.2.1 co hu o.2.2.2.2 nt nh) H → va_D A (wMesh K ad pxs pys plo phi pn pm lf th ow o.2.1 o.2.2.1 o.2.2.2.1 co hu o.2.2.2.2 nt nh) → va_S A s.heap H locs → lv_has ls 3 [(0, .ref (ad 0)), (1, .int o.1)] → W p l e (rmL 4) s m args below meth c H locs 0 0 Q (F0 m 67 ls [])) → W p l e (rmL 4) s m args below meth c H locs 0 0 Q (F0 m 30 ls []) := by
  obtain ⟨hx, hb, hml, hown, hts, hG, hr, hlk⟩ := id C0
  intro n
  induction n with
  | zero =>
    intro x1 lk el eh ne out h
    cases h
  | succ n ih =>
    intro x1 lk el eh ne out h H locs ls hP hD hS hl Kx 
    rw [s_Mesh_drawSomeEdges_L30.eq_2] at h
    refine lv_iload_n (pc := 30) hx hb dX2_drawSomeEdges_30 rfl (lv_at hl 1 rfl) ?_
    refine lv_aload_n (pc := 31) hx hb dX2_drawSomeEdges_31 rfl (lv_at hl 0 rfl) ?_
    refine va_get (D := K.1) (ci := 2) (v := .ref (ad 1)) (C := RX2) (T := TX2) (N := 12) (pc := 32) hx hb hts inT2 hown hG.1 hP 0 rfl rfl 0 (by decide) (hts _ qf_Mesh_9) (fun _ h9 => h9) rfl dX2_drawSomeEdges_32 ?_
    refine rdV (pc := 35) (As := []) (rest := [.int x1]) hx hb hml hown hts hG hP (c_Plan_constraints l K (fun k => ad (k + 1)) pxs pys plo phi pn pm) [1, 2, 3, 4, 5, 6, 7, 8, 9] rfl (q0 := 1) rfl (ci := 3) rfl g_Mesh_104 hd_Plan_constraints rfl ⟨Nat.le_of_ble_eq_true rfl, Nat.le_of_ble_eq_true rfl⟩ ⟨Nat.zero_le _, Nat.zero_le _⟩ hl rfl (Nat.le_of_ble_eq_true rfl) dX2_drawSomeEdges_35 ?_
    refine lv_icmp_ge (tgt := 67) (pc := 38) hx hb dX2_drawSomeEdges_38 (by decide) (fun c3 => ?_) (fun c3 => ?_)
    · have h := it_t c3 h
      obtain rfl := Option.some.inj h
      exact Kx _ H locs ls rfl hP hD hS (lv_sub hl [0, 1] rfl)
    · have h := it_f c3 h
      refine lv_aload_n (pc := 41) hx hb dX2_drawSomeEdges_41 rfl (lv_at hl 0 rfl) ?_
      refine lv_aload_n (pc := 42) hx hb dX2_drawSomeEdges_42 rfl (lv_at hl 0 rfl) ?_
      refine va_get (D := K.1) (ci := 2) (v := .ref (ad 1)) (C := RX2) (T := TX2) (N := 12) (pc := 43) hx hb hts inT2 hown hG.1 hP 0 rfl rfl 0 (by decide) (hts _ qf_Mesh_9) (fun _ h9 => h9) rfl dX2_drawSomeEdges_43 ?_
      refine lv_iload_n (pc := 46) hx hb dX2_drawSomeEdges_46 rfl (lv_at hl 1 rfl) ?_
      refine rdV (pc := 47) (As := [.int x1]) (rest := [.ref (ad 0)]) hx hb hml hown hts hG hP (c_Plan_lowEnd l K (fun k => ad (k + 1)) pxs pys plo phi pn pm x1) [1, 2, 3, 4, 5, 6, 7, 8, 9] rfl (q0 := 1) rfl (ci := 3) rfl g_Mesh_107 hd_Plan_lowEnd rfl ⟨Nat.le_of_ble_eq_true rfl, Nat.le_of_ble_eq_true rfl⟩ ⟨Nat.zero_le _, Nat.zero_le _⟩ hl rfl (Nat.le_of_ble_eq_true rfl) dX2_drawSomeEdges_47 ?_
      refine lv_aload_n (pc := 50) hx hb dX2_drawSomeEdges_50 rfl (lv_at hl 0 rfl) ?_
      refine va_get (D := K.1) (ci := 2) (v := .ref (ad 1)) (C := RX2) (T := TX2) (N := 12) (pc := 51) hx hb hts inT2 hown hG.1 hP 0 rfl rfl 0 (by decide) (hts _ qf_Mesh_9) (fun _ h9 => h9) rfl dX2_drawSomeEdges_51 ?_
      refine lv_iload_n (pc := 54) hx hb dX2_drawSomeEdges_54 rfl (lv_at hl 1 rfl) ?_
      refine rdV (pc := 55) (As := [.int x1]) (rest := [.int (s_Plan_lowEnd plo x1), .ref (ad 0)]) hx hb hml hown hts hG hP (c_Plan_highEnd l K (fun k => ad (k + 1)) pxs pys plo phi pn pm x1) [1, 2, 3, 4, 5, 6, 7, 8, 9] rfl (q0 := 1) rfl (ci := 3) rfl g_Mesh_111 hd_Plan_highEnd rfl ⟨Nat.le_of_ble_eq_true rfl, Nat.le_of_ble_eq_true rfl⟩ ⟨Nat.zero_le _, Nat.zero_le _⟩ hl rfl (Nat.le_of_ble_eq_true rfl) dX2_drawSomeEdges_55 ?_
      refine wrVv (pc := 58) (As := [.int (s_Plan_lowEnd plo x1), .int (s_Plan_highEnd phi x1)]) (rest := []) (ws2 := wMesh K ad pxs pys plo phi pn pm lf th ow ((s_Mesh_drawEdge lk el eh ne (s_Plan_lowEnd plo x1) (s_Plan_highEnd phi x1)).1) ((s_Mesh_drawEdge lk el eh ne (s_Plan_lowEnd plo x1) (s_Plan_highEnd phi x1)).2.1) ((s_Mesh_drawEdge lk el eh ne (s_Plan_lowEnd plo x1) (s_Plan_highEnd phi x1)).2.2.1) co hu ((s_Mesh_drawEdge lk el eh ne (s_Plan_lowEnd plo x1) (s_Plan_highEnd phi x1)).2.2.2) nt nh) (as9 := [ad 0, ad 1, ad 2, ad 3, ad 4, ad 5, ad 6, ad 7, ad 8, ad 9, ad 10, ad 11, ad 12, ad 13, ad 14, ad 15, ad 16, ad 17, ad 18, ad 19, ad 20, ad 21, ad 22, ad 23, ad 24, ad 25]) hx hb hml hown hts hG hP hD hS (c_Mesh_drawEdge l K ad pxs pys plo phi pn pm lf th ow lk el eh co hu ne nt nh (s_Plan_lowEnd plo x1) (s_Plan_highEnd phi x1)) [0, 1, 2, 3, 4, 5, 6, 7, 8, 9, 10, 11, 12, 13, 14, 15, 16, 17, 18, 19, 20, 21, 22, 23, 24, 25] rfl rfl rfl rfl [.inl 0, .inl 1, .inl 2, .inl 3, .inl 4, .inl 5, .inl 6, .inl 7, .inl 8, .inl 9, .inl 10, .inl 11, .inl 12, .inl 13, .inl 14, .inl 15, .inl 16, .inl 17, .inl 18, .inl 19, .inl 20, .inl 21, .inl 22, .inl 23, .inl 24, .inl 25] (by decide +kernel) rfl (q0 := 0) rfl (ci := 2) rfl g_Mesh_114 hd_Mesh_drawEdge rfl ⟨Nat.le_of_ble_eq_true rfl, Nat.le_of_ble_eq_true rfl⟩ ⟨Nat.zero_le _, Nat.zero_le _⟩ hl rfl (Nat.le_of_ble_eq_true rfl) dX2_drawSomeEdges_58 (fun H locs hP hD hS => ?_)
      refine lv_iinc (v := (x1 + (1 : Int32))) (pc := 61) (lv' := [(1, .int (x1 + (1 : Int32))), (0, .ref (ad 0))]) hx hb dX2_drawSomeEdges_61 hl (k := 1) rfl rfl (by decide) rfl (fun ls hl => ?_)
      refine lv_goto (tgt := 30) (pc := 64) hx hb dX2_drawSomeEdges_64 (by decide) ?_
      exact ih (x1 + (1 : Int32)) ((s_Mesh_drawEdge lk el eh ne (s_Plan_lowEnd plo x1) (s_Plan_highEnd phi x1)).1) ((s_Mesh_drawEdge lk el eh ne (s_Plan_lowEnd plo x1) (s_Plan_highEnd phi x1)).2.1) ((s_Mesh_drawEdge lk el eh ne (s_Plan_lowEnd plo x1) (s_Plan_highEnd phi x1)).2.2.1) ((s_Mesh_drawEdge lk el eh ne (s_Plan_lowEnd plo x1) (s_Plan_highEnd phi x1)).2.2.2) out h H locs ls hP hD hS (lv_sub hl [1, 0] rfl) Kx 
set_option maxHeartbeats 4000000 in
set_option maxRecDepth 100000 in
theorem l_Mesh_drawSomeEdges_L84 {p : Program} {l : Launch} {e : Env} {s : State} {m : MethodId} {args : Array Value} {below : List Frame} {meth : Method} {c : Code} {Q : State → Prop} {K : KT} {A : Nat → Prop} (C0 : Ctx p m c cX2_drawSomeEdges 3 s args RX2 K meth none) (F : Nat) (ad : Nat → Nat) (pxs : Nat → Int32) (pys : Nat → Int32) (plo : Nat → Int32) (phi : Nat → Int32) (pn : Int32) (pm : Int32) (lf : Nat → Int32) (th : Nat → Int32) (ow : Nat → Int32) (co : Nat → Int32) (hu : Nat → Int32) (nt : Int32) (nh : Int32) (x1 : Int32)  : ∀ (n : Nat) (x2 : Int32) (lk : Nat → Int32) (el : Nat → Int32) (eh : Nat → Int32) (ne : Int32) (out : Int32 × (Nat → Int32) × (Nat → Int32) × (Nat → Int32) × Int32), s_Mesh_drawSomeEdges_L84 F pxs pys pn lf x1 n x2 lk el eh ne = some out → ∀ (H : Heap) (locs : List Loc) (ls : Array Slot), va_P K.1 vC (wMesh K ad pxs pys plo phi pn pm lf th ow lk el eh co hu ne nt nh) H → va_D A (wMesh K ad pxs pys plo phi pn pm lf th ow lk el eh co hu ne nt nh) → va_S A s.heap H locs → lv_has ls 3 [(0, .ref (ad 0)), (1, .int x1), (2, .int x2)] → (∀ (o : Int32 × (Nat → Int32) × (Nat → Int32) × (Nat → Int32) × Int32) (H : Heap) (locs : List Loc) (ls : Array Slot), out = o → va_P K.1 vC (wMesh K ad pxs pys plo phi pn pm lf th ow o.2.1 o.2.2.1 o.2.2.2.1 co hu o.2.2.2.2 nt nh) H → va_D A (wMesh K ad pxs pys plo phi pn pm lf th ow o.2.1 o.2.2.1 o.2.2.2.1 co hu o.2.2.2.2 nt nh) → va_S A s.heap H locs → lv_has ls 3 [(0, .ref (ad 0)), (1, .int x1), (2, .int o.1)] → W p l e (rmL 4) s m args below meth c H locs 0 0 Q (F0 m 137 ls [])) → W p l e (rmL 4) s m args below meth c H locs 0 0 Q (F0 m 84 ls []) := by
  obtain ⟨hx, hb, hml, hown, hts, hG, hr, hlk⟩ := id C0
  intro n
  induction n with
  | zero =>
    intro x2 lk el eh ne out h
    cases h
  | succ n ih =>
    intro x2 lk el eh ne out h H locs ls hP hD hS hl Kx 
    rw [s_Mesh_drawSomeEdges_L84.eq_2] at h
    refine lv_iload_n (pc := 84) hx hb dX2_drawSomeEdges_84 rfl (lv_at hl 2 rfl) ?_
    refine lv_aload_n (pc := 85) hx hb dX2_drawSomeEdges_85 rfl (lv_at hl 0 rfl) ?_
    refine va_get (D := K.1) (ci := 2) (v := .ref (ad 1)) (C := RX2) (T := TX2) (N := 12) (pc := 86) hx hb hts inT2 hown hG.1 hP 0 rfl rfl 0 (by decide) (hts _ qf_Mesh_9) (fun _ h9 => h9) rfl dX2_drawSomeEdges_86 ?_
    refine rdV (pc := 89) (As := []) (rest := [.int x2]) hx hb hml hown hts hG hP (c_Plan_points l K (fun k => ad (k + 1)) pxs pys plo phi pn pm) [1, 2, 3, 4, 5, 6, 7, 8, 9] rfl (q0 := 1) rfl (ci := 3) rfl g_Mesh_84 hd_Plan_points rfl ⟨Nat.le_of_ble_eq_true rfl, Nat.le_of_ble_eq_true rfl⟩ ⟨Nat.zero_le _, Nat.zero_le _⟩ hl rfl (Nat.le_of_ble_eq_true rfl) dX2_drawSomeEdges_89 ?_
    refine lv_icmp_ge (tgt := 137) (pc := 92) hx hb dX2_drawSomeEdges_92 (by decide) (fun c6 => ?_) (fun c6 => ?_)
    · have h := it_t c6 h
      obtain rfl := Option.some.inj h
      exact Kx _ H locs ls rfl hP hD hS (lv_sub hl [0, 1, 2] rfl)
    · have h := it_f c6 h
      refine lv_aload_n (pc := 95) hx hb dX2_drawSomeEdges_95 rfl (lv_at hl 0 rfl) ?_
      refine lv_iload_n (pc := 96) hx hb dX2_drawSomeEdges_96 rfl (lv_at hl 1 rfl) ?_
      refine lv_iload_n (pc := 97) hx hb dX2_drawSomeEdges_97 rfl (lv_at hl 2 rfl) ?_
      refine rdV (pc := 98) (As := [.int x1, .int x2]) (rest := []) hx hb hml hown hts hG hP (c_Mesh_isLinked l K ad pxs pys plo phi pn pm lf th ow lk el eh co hu ne nt nh x1 x2) [0, 1, 2, 3, 4, 5, 6, 7, 8, 9, 10, 11, 12, 13, 14, 15, 16, 17, 18, 19, 20, 21, 22, 23, 24, 25] rfl (q0 := 0) rfl (ci := 2) rfl g_Mesh_117 hd_Mesh_isLinked rfl ⟨Nat.le_of_ble_eq_true rfl, Nat.le_of_ble_eq_true rfl⟩ ⟨Nat.zero_le _, Nat.zero_le _⟩ hl rfl (Nat.le_of_ble_eq_true rfl) dX2_drawSomeEdges_98 ?_
      refine lv_if_ne (tgt := 131) (pc := 101) hx hb dX2_drawSomeEdges_101 (by decide) (fun c7 => ?_) (fun c7 => ?_)
      · have h := it_f c7 h
        refine lv_iinc (v := (x2 + (1 : Int32))) (pc := 131) (lv' := [(2, .int (x2 + (1 : Int32))), (0, .ref (ad 0)), (1, .int x1)]) hx hb dX2_drawSomeEdges_131 hl (k := 2) rfl rfl (by decide) rfl (fun ls hl => ?_)
        refine lv_goto (tgt := 84) (pc := 134) hx hb dX2_drawSomeEdges_134 (by decide) ?_
        exact ih (x2 + (1 : Int32)) lk el eh ne out h H locs ls hP hD hS (lv_sub hl [1, 2, 0] rfl) Kx 
      · have h := it_t c7 h
        refine lv_aload_n (pc := 104) hx hb dX2_drawSomeEdges_104 rfl (lv_at hl 0 rfl) ?_
        refine va_get (D := K.1) (ci := 2) (v := .ref (ad 1)) (C := RX2) (T := TX2) (N := 12) (pc := 105) hx hb hts inT2 hown hG.1 hP 0 rfl rfl 0 (by decide) (hts _ qf_Mesh_9) (fun _ h9 => h9) rfl dX2_drawSomeEdges_105 ?_
        refine lv_iload_n (pc := 108) hx hb dX2_drawSomeEdges_108 rfl (lv_at hl 1 rfl) ?_
        refine lv_iload_n (pc := 109) hx hb dX2_drawSomeEdges_109 rfl (lv_at hl 2 rfl) ?_
        obtain ⟨v8, h_v8, h⟩ := ob h
        refine rdV (pc := 110) (As := [.int x1, .int x2]) (rest := []) hx hb hml hown hts hG hP (c_Plan_coversPoint l K (fun k => ad (k + 1)) pxs pys plo phi pn pm x1 x2 F h_v8) [1, 2, 3, 4, 5, 6, 7, 8, 9] rfl (q0 := 1) rfl (ci := 3) rfl g_Mesh_121 hd_Plan_coversPoint rfl ⟨Nat.le_of_ble_eq_true rfl, Nat.le_of_ble_eq_true rfl⟩ ⟨Nat.zero_le _, Nat.zero_le _⟩ hl rfl (Nat.le_of_ble_eq_true rfl) dX2_drawSomeEdges_110 ?_
        refine lv_if_ne (tgt := 131) (pc := 113) hx hb dX2_drawSomeEdges_113 (by decide) (fun c9 => ?_) (fun c9 => ?_)
        · have h := it_f c9 h
          refine lv_iinc (v := (x2 + (1 : Int32))) (pc := 131) (lv' := [(2, .int (x2 + (1 : Int32))), (0, .ref (ad 0)), (1, .int x1)]) hx hb dX2_drawSomeEdges_131 hl (k := 2) rfl rfl (by decide) rfl (fun ls hl => ?_)
          refine lv_goto (tgt := 84) (pc := 134) hx hb dX2_drawSomeEdges_134 (by decide) ?_
          exact ih (x2 + (1 : Int32)) lk el eh ne out h H locs ls hP hD hS (lv_sub hl [1, 2, 0] rfl) Kx 
        · have h := it_t c9 h
          refine lv_aload_n (pc := 116) hx hb dX2_drawSomeEdges_116 rfl (lv_at hl 0 rfl) ?_
          refine lv_iload_n (pc := 117) hx hb dX2_drawSomeEdges_117 rfl (lv_at hl 1 rfl) ?_
          refine lv_iload_n (pc := 118) hx hb dX2_drawSomeEdges_118 rfl (lv_at hl 2 rfl) ?_
          obtain ⟨v10, h_v10, h⟩ := ob h
          refine rdV (pc := 119) (As := [.int x1, .int x2]) (rest := []) hx hb hml hown hts hG hP (c_Mesh_crossesEdge l K ad pxs pys plo phi pn pm lf th ow lk el eh co hu ne nt nh x1 x2 F h_v10) [0, 1, 2, 3, 4, 5, 6, 7, 8, 9, 10, 11, 12, 13, 14, 15, 16, 17, 18, 19, 20, 21, 22, 23, 24, 25] rfl (q0 := 0) rfl (ci := 2) rfl g_Mesh_124 hd_Mesh_crossesEdge rfl ⟨Nat.le_of_ble_eq_true rfl, Nat.le_of_ble_eq_true rfl⟩ ⟨Nat.zero_le _, Nat.zero_le _⟩ hl rfl (Nat.le_of_ble_eq_true rfl) dX2_drawSomeEdges_119 ?_
          refine lv_if_ne (tgt := 131) (pc := 122) hx hb dX2_drawSomeEdges_122 (by decide) (fun c11 => ?_) (fun c11 => ?_)
          · have h := it_f c11 h
            refine lv_iinc (v := (x2 + (1 : Int32))) (pc := 131) (lv' := [(2, .int (x2 + (1 : Int32))), (0, .ref (ad 0)), (1, .int x1)]) hx hb dX2_drawSomeEdges_131 hl (k := 2) rfl rfl (by decide) rfl (fun ls hl => ?_)
            refine lv_goto (tgt := 84) (pc := 134) hx hb dX2_drawSomeEdges_134 (by decide) ?_
            exact ih (x2 + (1 : Int32)) lk el eh ne out h H locs ls hP hD hS (lv_sub hl [1, 2, 0] rfl) Kx 
          · have h := it_t c11 h
            refine lv_aload_n (pc := 125) hx hb dX2_drawSomeEdges_125 rfl (lv_at hl 0 rfl) ?_
            refine lv_iload_n (pc := 126) hx hb dX2_drawSomeEdges_126 rfl (lv_at hl 1 rfl) ?_
            refine lv_iload_n (pc := 127) hx hb dX2_drawSomeEdges_127 rfl (lv_at hl 2 rfl) ?_
            refine wrVv (pc := 128) (As := [.int x1, .int x2]) (rest := []) (ws2 := wMesh K ad pxs pys plo phi pn pm lf th ow ((s_Mesh_drawEdge lk el eh ne x1 x2).1) ((s_Mesh_drawEdge lk el eh ne x1 x2).2.1) ((s_Mesh_drawEdge lk el eh ne x1 x2).2.2.1) co hu ((s_Mesh_drawEdge lk el eh ne x1 x2).2.2.2) nt nh) (as9 := [ad 0, ad 1, ad 2, ad 3, ad 4, ad 5, ad 6, ad 7, ad 8, ad 9, ad 10, ad 11, ad 12, ad 13, ad 14, ad 15, ad 16, ad 17, ad 18, ad 19, ad 20, ad 21, ad 22, ad 23, ad 24, ad 25]) hx hb hml hown hts hG hP hD hS (c_Mesh_drawEdge l K ad pxs pys plo phi pn pm lf th ow lk el eh co hu ne nt nh x1 x2) [0, 1, 2, 3, 4, 5, 6, 7, 8, 9, 10, 11, 12, 13, 14, 15, 16, 17, 18, 19, 20, 21, 22, 23, 24, 25] rfl rfl rfl rfl [.inl 0, .inl 1, .inl 2, .inl 3, .inl 4, .inl 5, .inl 6, .inl 7, .inl 8, .inl 9, .inl 10, .inl 11, .inl 12, .inl 13, .inl 14, .inl 15, .inl 16, .inl 17, .inl 18, .inl 19, .inl 20, .inl 21, .inl 22, .inl 23, .inl 24, .inl 25] (by decide +kernel) rfl (q0 := 0) rfl (ci := 2) rfl g_Mesh_114 hd_Mesh_drawEdge rfl ⟨Nat.le_of_ble_eq_true rfl, Nat.le_of_ble_eq_true rfl⟩ ⟨Nat.zero_le _, Nat.zero_le _⟩ hl rfl (Nat.le_of_ble_eq_true rfl) dX2_drawSomeEdges_128 (fun H locs hP hD hS => ?_)
            refine lv_iinc (v := (x2 + (1 : Int32))) (pc := 131) (lv' := [(2, .int (x2 + (1 : Int32))), (0, .ref (ad 0)), (1, .int x1)]) hx hb dX2_drawSomeEdges_131 hl (k := 2) rfl rfl (by decide) rfl (fun ls hl => ?_)
            refine lv_goto (tgt := 84) (pc := 134) hx hb dX2_drawSomeEdges_134 (by decide) ?_
            exact ih (x2 + (1 : Int32)) ((s_Mesh_drawEdge lk el eh ne x1 x2).1) ((s_Mesh_drawEdge lk el eh ne x1 x2).2.1) ((s_Mesh_drawEdge lk el eh ne x1 x2).2.2.1) ((s_Mesh_drawEdge lk el eh ne x1 x2).2.2.2) out h H locs ls hP hD hS (lv_sub hl [1, 2, 0] rfl) Kx 
set_option maxHeartbeats 4000000 in
set_option maxRecDepth 100000 in
theorem l_Mesh_drawSomeEdges_L69 {p : Program} {l : Launch} {e : Env} {s : State} {m : MethodId} {args : Array Value} {below : List Frame} {meth : Method} {c : Code} {Q : State → Prop} {K : KT} {A : Nat → Prop} (C0 : Ctx p m c cX2_drawSomeEdges 3 s args RX2 K meth none) (F : Nat) (ad : Nat → Nat) (pxs : Nat → Int32) (pys : Nat → Int32) (plo : Nat → Int32) (phi : Nat → Int32) (pn : Int32) (pm : Int32) (lf : Nat → Int32) (th : Nat → Int32) (ow : Nat → Int32) (co : Nat → Int32) (hu : Nat → Int32) (nt : Int32) (nh : Int32)  : ∀ (n : Nat) (x1 : Int32) (lk : Nat → Int32) (el : Nat → Int32) (eh : Nat → Int32) (ne : Int32) (out : Int32 × (Nat → Int32) × (Nat → Int32) × (Nat → Int32) × Int32), s_Mesh_drawSomeEdges_L69 F pxs pys pn lf n x1 lk el eh ne = some out → ∀ (H : Heap) (locs : List Loc) (ls : Array Slot), va_P K.1 vC (wMesh K ad pxs pys plo phi pn pm lf th ow lk el eh co hu ne nt nh) H → va_D A (wMesh K ad pxs pys plo phi pn pm lf th ow lk el eh co hu ne nt nh) → va_S A s.heap H locs → lv_has ls 3 [(0, .ref (ad 0)), (1, .int x1)] → (∀ (o : Int32 × (Nat → Int32) × (Nat → Int32) × (Nat → Int32) × Int32) (H : Heap) (locs : List Loc) (ls : Array Slot), out = o → va_P K.1 vC (wMesh K ad pxs pys plo phi pn pm lf th ow o.2.1 o.2.2.1 o.2.2.2.1 co hu o.2.2.2.2 nt nh) H → va_D A (wMesh K ad pxs pys plo phi pn pm lf th ow o.2.1 o.2.2.1 o.2.2.2.1 co hu o.2.2.2.2 nt nh) → va_S A s.heap H locs → lv_has ls 3 [(0, .ref (ad 0)), (1, .int o.1)] → W p l e (rmL 4) s m args below meth c H locs 0 0 Q (F0 m 143 ls [])) → W p l e (rmL 4) s m args below meth c H locs 0 0 Q (F0 m 69 ls []) := by
  obtain ⟨hx, hb, hml, hown, hts, hG, hr, hlk⟩ := id C0
  intro n
  induction n with
  | zero =>
    intro x1 lk el eh ne out h
    cases h
  | succ n ih =>
    intro x1 lk el eh ne out h H locs ls hP hD hS hl Kx 
    rw [s_Mesh_drawSomeEdges_L69.eq_2] at h
    refine lv_iload_n (pc := 69) hx hb dX2_drawSomeEdges_69 rfl (lv_at hl 1 rfl) ?_
    refine lv_aload_n (pc := 70) hx hb dX2_drawSomeEdges_70 rfl (lv_at hl 0 rfl) ?_
    refine va_get (D := K.1) (ci := 2) (v := .ref (ad 1)) (C := RX2) (T := TX2) (N := 12) (pc := 71) hx hb hts inT2 hown hG.1 hP 0 rfl rfl 0 (by decide) (hts _ qf_Mesh_9) (fun _ h9 => h9) rfl dX2_drawSomeEdges_71 ?_
    refine rdV (pc := 74) (As := []) (rest := [.int x1]) hx hb hml hown hts hG hP (c_Plan_points l K (fun k => ad (k + 1)) pxs pys plo phi pn pm) [1, 2, 3, 4, 5, 6, 7, 8, 9] rfl (q0 := 1) rfl (ci := 3) rfl g_Mesh_84 hd_Plan_points rfl ⟨Nat.le_of_ble_eq_true rfl, Nat.le_of_ble_eq_true rfl⟩ ⟨Nat.zero_le _, Nat.zero_le _⟩ hl rfl (Nat.le_of_ble_eq_true rfl) dX2_drawSomeEdges_74 ?_
    refine lv_icmp_ge (tgt := 143) (pc := 77) hx hb dX2_drawSomeEdges_77 (by decide) (fun c5 => ?_) (fun c5 => ?_)
    · have h := it_t c5 h
      obtain rfl := Option.some.inj h
      exact Kx _ H locs ls rfl hP hD hS (lv_sub hl [0, 1] rfl)
    · have h := it_f c5 h
      refine lv_iload_n (pc := 80) hx hb dX2_drawSomeEdges_80 rfl (lv_at hl 1 rfl) ?_
      refine lv_iconst (v := (1 : Int32)) (pc := 81) hx hb dX2_drawSomeEdges_81 (by decide) ?_
      refine lv_iadd (pc := 82) hx hb dX2_drawSomeEdges_82 ?_
      refine lv_istore_n (pc := 83) (lv' := [(2, .int (x1 + (1 : Int32))), (0, .ref (ad 0)), (1, .int x1)]) hx hb dX2_drawSomeEdges_83 rfl hl (by decide) rfl (fun ls hl => ?_)
      obtain ⟨o12, h_o12, h⟩ := ob h
      refine l_Mesh_drawSomeEdges_L84 C0 F ad pxs pys plo phi pn pm lf th ow co hu nt nh x1 F (x1 + (1 : Int32)) lk el eh ne _ h_o12 H locs ls hP hD hS (lv_sub hl [1, 2, 0] rfl) (fun o12x H locs ls eo hP hD hS hl => ?_)
      subst o12
      refine lv_iinc (v := (x1 + (1 : Int32))) (pc := 137) (lv' := [(1, .int (x1 + (1 : Int32))), (0, .ref (ad 0)), (2, .int o12x.1)]) hx hb dX2_drawSomeEdges_137 hl (k := 1) rfl rfl (by decide) rfl (fun ls hl => ?_)
      refine lv_goto (tgt := 69) (pc := 140) hx hb dX2_drawSomeEdges_140 (by decide) ?_
      exact ih (x1 + (1 : Int32)) o12x.2.1 o12x.2.2.1 o12x.2.2.2.1 o12x.2.2.2.2 out h H locs ls hP hD hS (lv_sub hl [1, 0] rfl) Kx 
set_option maxHeartbeats 4000000 in
set_option maxRecDepth 100000 in
theorem c_Mesh_drawSomeEdges (l : Launch) (K : KT) (ad : Nat → Nat) (pxs : Nat → Int32) (pys : Nat → Int32) (plo : Nat → Int32) (phi : Nat → Int32) (pn : Int32) (pm : Int32) (lf : Nat → Int32) (th : Nat → Int32) (ow : Nat → Int32) (lk : Nat → Int32) (el : Nat → Int32) (eh : Nat → Int32) (co : Nat → Int32) (hu : Nat → Int32) (ne : Int32) (nt : Int32) (nh : Int32) (F : Nat) {o : (Nat → Int32) × (Nat → Int32) × (Nat → Int32) × Int32} (h : s_Mesh_drawSomeEdges F pxs pys plo phi pn pm lf lk el eh = some o) : Wr l K 4 yX2_drawSomeEdges cX2_drawSomeEdges 3 none [.ref (ad 0)] (wMesh K ad pxs pys plo phi pn pm lf th ow lk el eh co hu ne nt nh) none (wMesh K ad pxs pys plo phi pn pm lf th ow o.1 o.2.1 o.2.2.1 co hu o.2.2.2 nt nh) := by
  refine Wr.of (by decide +kernel) (Nat.le_of_ble_eq_true rfl) ?_
  unfold s_Mesh_drawSomeEdges at h
  intro p e s m below meth c hx hb hr hml hown hts hlk H locs hP hG hD hS ls hl
  have C0 : Ctx p m c cX2_drawSomeEdges 3 s (Array.mk [.ref (ad 0)]) RX2 K meth none := ⟨hx, hb, hml, hown, hts, hG, hr, hlk⟩
  have hl : lv_has ls 3 [(0, .ref (ad 0))] := hl
  refine lv_aload_n (pc := 0) hx hb dX2_drawSomeEdges_0 rfl (lv_at hl 0 rfl) ?_
  refine lv_iconst (v := (0 : Int32)) (pc := 1) hx hb dX2_drawSomeEdges_1 (by decide) ?_
  refine va_put (D := K.1) (ci := 2) (v := .int (0 : Int32)) (ty := .int) (C := RX2) (T := TX2) (N := 12) (pc := 2) hx hb hts inT2 tyX2 tyX2_ok nmX2 hown hG.1 hP hD hS 0 rfl rfl 9 (by decide) (hts _ qf_Mesh_49) (fun _ h9 => h9) rfl (by decide +kernel) rfl rfl (Nat.le_of_ble_eq_true rfl) dX2_drawSomeEdges_2 (fun H locs hP hD hS => ?_)
  have hP : va_P K.1 vC (wMesh K ad pxs pys plo phi pn pm lf th ow lk el eh co hu (0 : Int32) nt nh) H := hP
  have hD : va_D _ (wMesh K ad pxs pys plo phi pn pm lf th ow lk el eh co hu (0 : Int32) nt nh) := hD
  refine lv_iconst (v := (0 : Int32)) (pc := 5) hx hb dX2_drawSomeEdges_5 (by decide) ?_
  refine lv_istore_n (pc := 6) (lv' := [(1, .int (0 : Int32)), (0, .ref (ad 0))]) hx hb dX2_drawSomeEdges_6 rfl hl (by decide) rfl (fun ls hl => ?_)
  obtain ⟨o2, h_o2, h⟩ := ob h
  refine l_Mesh_drawSomeEdges_L7 C0 F ad pxs pys plo phi pn pm lf th ow el eh co hu (0 : Int32) nt nh F (0 : Int32) lk _ h_o2 H locs ls hP hD hS (lv_sub hl [1, 0] rfl) (fun o2x H locs ls eo hP hD hS hl => ?_)
  subst o2
  refine lv_iconst (v := (0 : Int32)) (pc := 28) hx hb dX2_drawSomeEdges_28 (by decide) ?_
  refine lv_istore_n (pc := 29) (lv' := [(1, .int (0 : Int32)), (0, .ref (ad 0))]) hx hb dX2_drawSomeEdges_29 rfl hl (by decide) rfl (fun ls hl => ?_)
  obtain ⟨o4, h_o4, h⟩ := ob h
  refine l_Mesh_drawSomeEdges_L30 C0 F ad pxs pys plo phi pn pm lf th ow co hu nt nh F (0 : Int32) o2x.2 el eh (0 : Int32) _ h_o4 H locs ls hP hD hS (lv_sub hl [1, 0] rfl) (fun o4x H locs ls eo hP hD hS hl => ?_)
  subst o4
  refine lv_iconst (v := (0 : Int32)) (pc := 67) hx hb dX2_drawSomeEdges_67 (by decide) ?_
  refine lv_istore_n (pc := 68) (lv' := [(1, .int (0 : Int32)), (0, .ref (ad 0))]) hx hb dX2_drawSomeEdges_68 rfl hl (by decide) rfl (fun ls hl => ?_)
  obtain ⟨o13, h_o13, h⟩ := ob h
  refine l_Mesh_drawSomeEdges_L69 C0 F ad pxs pys plo phi pn pm lf th ow co hu nt nh F (0 : Int32) o4x.2.1 o4x.2.2.1 o4x.2.2.2.1 o4x.2.2.2.2 _ h_o13 H locs ls hP hD hS (lv_sub hl [1, 0] rfl) (fun o13x H locs ls eo hP hD hS hl => ?_)
  subst o13
  obtain rfl := Option.some.inj h
  exact W.vret hx hb hr (fun t ht hW => ⟨⟨rfl, by rw [ht]; exact hP⟩, hS.F ht⟩) hS.2.2 dX2_drawSomeEdges_143 hlk
set_option maxHeartbeats 4000000 in
set_option maxRecDepth 100000 in
theorem l_Mesh_emptyCorner_L31 {p : Program} {l : Launch} {e : Env} {s : State} {m : MethodId} {args : Array Value} {below : List Frame} {meth : Method} {c : Code} {Q : State → Prop} {K : KT} (C0 : Ctx p m c cX2_emptyCorner 6 s args RX2 K meth (some .int)) (F : Nat) (ad : Nat → Nat) (pxs : Nat → Int32) (pys : Nat → Int32) (plo : Nat → Int32) (phi : Nat → Int32) (pn : Int32) (pm : Int32) (lf : Nat → Int32) (th : Nat → Int32) (ow : Nat → Int32) (lk : Nat → Int32) (el : Nat → Int32) (eh : Nat → Int32) (co : Nat → Int32) (hu : Nat → Int32) (ne : Int32) (nt : Int32) (nh : Int32) (x1 : Int32) (x2 : Int32) (x3 : Int32) (hP : va_P K.1 vC (wMesh K ad pxs pys plo phi pn pm lf th ow lk el eh co hu ne nt nh) s.heap) : ∀ (n : Nat) (x4 : Int32) (out : (Int32) ⊕ (Int32)), s_Mesh_emptyCorner_L31 pn lf x1 x2 x3 n x4 = some out → ∀ (ls : Array Slot), lv_has ls 6 [(0, .ref (ad 0)), (1, .int x1), (2, .int x2), (3, .int x3), (4, .int x4)] → (∀ (o : Int32) (ls : Array Slot), out = .inr o → lv_has ls 6 [(0, .ref (ad 0)), (1, .int x1), (2, .int x2), (3, .int x3), (4, .int o)] → W p l e (rmL 1) s m args below meth c s.heap [] 0 0 Q (F0 m 99 ls [])) → (∀ (o : Int32) (pcR : Nat) (ls : Array Slot), out = .inl o → decode cX2_emptyCorner pcR = .ok (.ireturn, 1) → W p l e (rmL 1) s m args below meth c s.heap [] 0 0 Q (F0 m pcR ls [.int o])) → W p l e (rmL 1) s m args below meth c s.heap [] 0 0 Q (F0 m 31 ls []) := by
  obtain ⟨hx, hb, hml, hown, hts, hG, hr, hlk⟩ := id C0
  intro n
  induction n with
  | zero =>
    intro x4 out h
    cases h
  | succ n ih =>
    intro x4 out h ls hl Kx Kr
    rw [s_Mesh_emptyCorner_L31.eq_2] at h
    refine lv_iload (pc := 31) hx hb dX2_emptyCorner_31 (lv_at hl 4 rfl) ?_
    refine lv_aload_n (pc := 33) hx hb dX2_emptyCorner_33 rfl (lv_at hl 0 rfl) ?_
    refine va_get (D := K.1) (ci := 2) (v := .ref (ad 1)) (C := RX2) (T := TX2) (N := 12) (pc := 34) hx hb hts inT2 hown hG.1 hP 0 rfl rfl 0 (by decide) (hts _ qf_Mesh_9) (fun _ h9 => h9) rfl dX2_emptyCorner_34 ?_
    refine rdV (pc := 37) (As := []) (rest := [.int x4]) hx hb hml hown hts hG hP (c_Plan_points l K (fun k => ad (k + 1)) pxs pys plo phi pn pm) [1, 2, 3, 4, 5, 6, 7, 8, 9] rfl (q0 := 1) rfl (ci := 3) rfl g_Mesh_84 hd_Plan_points rfl ⟨Nat.le_of_ble_eq_true rfl, Nat.le_of_ble_eq_true rfl⟩ ⟨Nat.zero_le _, Nat.zero_le _⟩ hl rfl (Nat.le_of_ble_eq_true rfl) dX2_emptyCorner_37 ?_
    refine lv_icmp_ge (tgt := 99) (pc := 40) hx hb dX2_emptyCorner_40 (by decide) (fun c1 => ?_) (fun c1 => ?_)
    · have h := it_t c1 h
      obtain rfl := Option.some.inj h
      exact Kx _ ls rfl (lv_sub hl [0, 1, 2, 3, 4] rfl)
    · have h := it_f c1 h
      refine lv_aload_n (pc := 43) hx hb dX2_emptyCorner_43 rfl (lv_at hl 0 rfl) ?_
      refine va_get (D := K.1) (ci := 2) (v := .ref (ad 10)) (C := RX2) (T := TX2) (N := 12) (pc := 44) hx hb hts inT2 hown hG.1 hP 0 rfl rfl 1 (by decide) (hts _ qf_Mesh_20) (fun _ h9 => h9) rfl dX2_emptyCorner_44 ?_
      refine lv_iload_n (pc := 47) hx hb dX2_emptyCorner_47 rfl (lv_at hl 1 rfl) ?_
      refine lv_iload_n (pc := 48) hx hb dX2_emptyCorner_48 rfl (lv_at hl 2 rfl) ?_
      refine rdV (pc := 49) (As := [.int x1, .int x2]) (rest := []) hx hb hml hown hts hG hP (c_Tab_get l K (fun k => ad (k + 10)) 0 lf x1 x2) [10, 11] rfl (q0 := 10) rfl (ci := 5) rfl g_Mesh_140 hd_Tab_get rfl ⟨Nat.le_of_ble_eq_true rfl, Nat.le_of_ble_eq_true rfl⟩ ⟨Nat.zero_le _, Nat.zero_le _⟩ hl rfl (Nat.le_of_ble_eq_true rfl) dX2_emptyCorner_49 ?_
      refine lv_aload_n (pc := 52) hx hb dX2_emptyCorner_52 rfl (lv_at hl 0 rfl) ?_
      refine va_get (D := K.1) (ci := 2) (v := .ref (ad 10)) (C := RX2) (T := TX2) (N := 12) (pc := 53) hx hb hts inT2 hown hG.1 hP 0 rfl rfl 1 (by decide) (hts _ qf_Mesh_20) (fun _ h9 => h9) rfl dX2_emptyCorner_53 ?_
      refine lv_iload_n (pc := 56) hx hb dX2_emptyCorner_56 rfl (lv_at hl 2 rfl) ?_
      refine lv_iload (pc := 57) hx hb dX2_emptyCorner_57 (lv_at hl 4 rfl) ?_
      refine rdV (pc := 59) (As := [.int x2, .int x4]) (rest := [.int (s_Tab_get 0 lf x1 x2)]) hx hb hml hown hts hG hP (c_Tab_get l K (fun k => ad (k + 10)) 0 lf x2 x4) [10, 11] rfl (q0 := 10) rfl (ci := 5) rfl g_Mesh_140 hd_Tab_get rfl ⟨Nat.le_of_ble_eq_true rfl, Nat.le_of_ble_eq_true rfl⟩ ⟨Nat.zero_le _, Nat.zero_le _⟩ hl rfl (Nat.le_of_ble_eq_true rfl) dX2_emptyCorner_59 ?_
      refine lv_iand (pc := 62) hx hb dX2_emptyCorner_62 ?_
      refine lv_aload_n (pc := 63) hx hb dX2_emptyCorner_63 rfl (lv_at hl 0 rfl) ?_
      refine va_get (D := K.1) (ci := 2) (v := .ref (ad 10)) (C := RX2) (T := TX2) (N := 12) (pc := 64) hx hb hts inT2 hown hG.1 hP 0 rfl rfl 1 (by decide) (hts _ qf_Mesh_20) (fun _ h9 => h9) rfl dX2_emptyCorner_64 ?_
      refine lv_iload (pc := 67) hx hb dX2_emptyCorner_67 (lv_at hl 4 rfl) ?_
      refine lv_iload_n (pc := 69) hx hb dX2_emptyCorner_69 rfl (lv_at hl 1 rfl) ?_
      refine rdV (pc := 70) (As := [.int x4, .int x1]) (rest := [.int ((s_Tab_get 0 lf x1 x2) &&& (s_Tab_get 0 lf x2 x4))]) hx hb hml hown hts hG hP (c_Tab_get l K (fun k => ad (k + 10)) 0 lf x4 x1) [10, 11] rfl (q0 := 10) rfl (ci := 5) rfl g_Mesh_140 hd_Tab_get rfl ⟨Nat.le_of_ble_eq_true rfl, Nat.le_of_ble_eq_true rfl⟩ ⟨Nat.zero_le _, Nat.zero_le _⟩ hl rfl (Nat.le_of_ble_eq_true rfl) dX2_emptyCorner_70 ?_
      refine lv_iand (pc := 73) hx hb dX2_emptyCorner_73 ?_
      refine lv_istore (pc := 74) (lv' := [(5, .int (((s_Tab_get 0 lf x1 x2) &&& (s_Tab_get 0 lf x2 x4)) &&& (s_Tab_get 0 lf x4 x1))), (0, .ref (ad 0)), (1, .int x1), (2, .int x2), (3, .int x3), (4, .int x4)]) hx hb dX2_emptyCorner_74 hl (by decide) rfl (fun ls hl => ?_)
      refine lv_iload_n (pc := 76) hx hb dX2_emptyCorner_76 rfl (lv_at hl 4 rfl) ?_
      refine lv_iload (pc := 77) hx hb dX2_emptyCorner_77 (lv_at hl 5 rfl) ?_
      refine lv_ishr (pc := 79) hx hb dX2_emptyCorner_79 ?_
      refine lv_iconst (v := (1 : Int32)) (pc := 80) hx hb dX2_emptyCorner_80 (by decide) ?_
      refine lv_iand (pc := 81) hx hb dX2_emptyCorner_81 ?_
      refine lv_if_eq (tgt := 93) (pc := 82) hx hb dX2_emptyCorner_82 (by decide) (fun c2 => ?_) (fun c2 => ?_)
      · have h := it_t c2 h
        refine lv_iinc (v := (x4 + (1 : Int32))) (pc := 93) (lv' := [(4, .int (x4 + (1 : Int32))), (5, .int (((s_Tab_get 0 lf x1 x2) &&& (s_Tab_get 0 lf x2 x4)) &&& (s_Tab_get 0 lf x4 x1))), (0, .ref (ad 0)), (1, .int x1), (2, .int x2), (3, .int x3)]) hx hb dX2_emptyCorner_93 hl (k := 5) rfl rfl (by decide) rfl (fun ls hl => ?_)
        refine lv_goto (tgt := 31) (pc := 96) hx hb dX2_emptyCorner_96 (by decide) ?_
        exact ih (x4 + (1 : Int32)) out h ls (lv_sub hl [2, 3, 4, 5, 0] rfl) Kx Kr
      · have h := it_f c2 h
        refine lv_iload (pc := 85) hx hb dX2_emptyCorner_85 (lv_at hl 0 rfl) ?_
        refine lv_if_ne (tgt := 93) (pc := 87) hx hb dX2_emptyCorner_87 (by decide) (fun c3 => ?_) (fun c3 => ?_)
        · have h := it_f c3 h
          refine lv_iinc (v := (x4 + (1 : Int32))) (pc := 93) (lv' := [(4, .int (x4 + (1 : Int32))), (5, .int (((s_Tab_get 0 lf x1 x2) &&& (s_Tab_get 0 lf x2 x4)) &&& (s_Tab_get 0 lf x4 x1))), (0, .ref (ad 0)), (1, .int x1), (2, .int x2), (3, .int x3)]) hx hb dX2_emptyCorner_93 hl (k := 5) rfl rfl (by decide) rfl (fun ls hl => ?_)
          refine lv_goto (tgt := 31) (pc := 96) hx hb dX2_emptyCorner_96 (by decide) ?_
          exact ih (x4 + (1 : Int32)) out h ls (lv_sub hl [2, 3, 4, 5, 0] rfl) Kx Kr
        · have h := it_t c3 h
          refine lv_iload (pc := 90) hx hb dX2_emptyCorner_90 (lv_at hl 5 rfl) ?_
          obtain rfl := Option.some.inj h
          exact Kr _ _ _ rfl dX2_emptyCorner_92
set_option maxHeartbeats 4000000 in
set_option maxRecDepth 100000 in
theorem c_Mesh_emptyCorner (l : Launch) (K : KT) (ad : Nat → Nat) (pxs : Nat → Int32) (pys : Nat → Int32) (plo : Nat → Int32) (phi : Nat → Int32) (pn : Int32) (pm : Int32) (lf : Nat → Int32) (th : Nat → Int32) (ow : Nat → Int32) (lk : Nat → Int32) (el : Nat → Int32) (eh : Nat → Int32) (co : Nat → Int32) (hu : Nat → Int32) (ne : Int32) (nt : Int32) (nh : Int32) (a0 : Int32) (a1 : Int32) (F : Nat) {o : Int32} (h : s_Mesh_emptyCorner F pn lf lk a0 a1 = some o) : Rd l K 1 yX2_emptyCorner cX2_emptyCorner 6 .int [.ref (ad 0), .int a0, .int a1] (wMesh K ad pxs pys plo phi pn pm lf th ow lk el eh co hu ne nt nh) o := by
  refine Rd.of (by decide +kernel) (Nat.le_of_ble_eq_true rfl) ?_
  unfold s_Mesh_emptyCorner at h
  intro p e s m below meth c hx hb hr hml hown hts hlk hP hG ls hl
  have C0 : Ctx p m c cX2_emptyCorner 6 s (Array.mk [.ref (ad 0), .int a0, .int a1]) RX2 K meth (some .int) := ⟨hx, hb, hml, hown, hts, hG, hr, hlk⟩
  have hl : lv_has ls 6 [(0, .ref (ad 0)), (1, .int a0), (2, .int a1)] := hl
  refine lv_aload_n (pc := 0) hx hb dX2_emptyCorner_0 rfl (lv_at hl 0 rfl) ?_
  refine va_get (D := K.1) (ci := 2) (v := .ref (ad 16)) (C := RX2) (T := TX2) (N := 12) (pc := 1) hx hb hts inT2 hown hG.1 hP 0 rfl rfl 4 (by decide) (hts _ qf_Mesh_33) (fun _ h9 => h9) rfl dX2_emptyCorner_1 ?_
  refine lv_iload_n (pc := 4) hx hb dX2_emptyCorner_4 rfl (lv_at hl 1 rfl) ?_
  refine rdV (pc := 5) (As := [.int a0]) (rest := []) hx hb hml hown hts hG hP (c_Row_get l K (fun k => ad (k + 16)) 16 (by decide) lk a0) [16, 17] rfl (q0 := 16) rfl (ci := 4) rfl g_Mesh_127 hd_Row_get rfl ⟨Nat.le_of_ble_eq_true rfl, Nat.le_of_ble_eq_true rfl⟩ ⟨Nat.zero_le _, Nat.zero_le _⟩ hl rfl (Nat.le_of_ble_eq_true rfl) dX2_emptyCorner_5 ?_
  refine lv_aload_n (pc := 8) hx hb dX2_emptyCorner_8 rfl (lv_at hl 0 rfl) ?_
  refine va_get (D := K.1) (ci := 2) (v := .ref (ad 16)) (C := RX2) (T := TX2) (N := 12) (pc := 9) hx hb hts inT2 hown hG.1 hP 0 rfl rfl 4 (by decide) (hts _ qf_Mesh_33) (fun _ h9 => h9) rfl dX2_emptyCorner_9 ?_
  refine lv_iload_n (pc := 12) hx hb dX2_emptyCorner_12 rfl (lv_at hl 2 rfl) ?_
  refine rdV (pc := 13) (As := [.int a1]) (rest := [.int (s_Row_get 16 lk a0)]) hx hb hml hown hts hG hP (c_Row_get l K (fun k => ad (k + 16)) 16 (by decide) lk a1) [16, 17] rfl (q0 := 16) rfl (ci := 4) rfl g_Mesh_127 hd_Row_get rfl ⟨Nat.le_of_ble_eq_true rfl, Nat.le_of_ble_eq_true rfl⟩ ⟨Nat.zero_le _, Nat.zero_le _⟩ hl rfl (Nat.le_of_ble_eq_true rfl) dX2_emptyCorner_13 ?_
  refine lv_iand (pc := 16) hx hb dX2_emptyCorner_16 ?_
  refine lv_aload_n (pc := 17) hx hb dX2_emptyCorner_17 rfl (lv_at hl 0 rfl) ?_
  refine va_get (D := K.1) (ci := 2) (v := .ref (ad 10)) (C := RX2) (T := TX2) (N := 12) (pc := 18) hx hb hts inT2 hown hG.1 hP 0 rfl rfl 1 (by decide) (hts _ qf_Mesh_20) (fun _ h9 => h9) rfl dX2_emptyCorner_18 ?_
  refine lv_iload_n (pc := 21) hx hb dX2_emptyCorner_21 rfl (lv_at hl 1 rfl) ?_
  refine lv_iload_n (pc := 22) hx hb dX2_emptyCorner_22 rfl (lv_at hl 2 rfl) ?_
  refine rdV (pc := 23) (As := [.int a0, .int a1]) (rest := [.int ((s_Row_get 16 lk a0) &&& (s_Row_get 16 lk a1))]) hx hb hml hown hts hG hP (c_Tab_get l K (fun k => ad (k + 10)) 0 lf a0 a1) [10, 11] rfl (q0 := 10) rfl (ci := 5) rfl g_Mesh_140 hd_Tab_get rfl ⟨Nat.le_of_ble_eq_true rfl, Nat.le_of_ble_eq_true rfl⟩ ⟨Nat.zero_le _, Nat.zero_le _⟩ hl rfl (Nat.le_of_ble_eq_true rfl) dX2_emptyCorner_23 ?_
  refine lv_iand (pc := 26) hx hb dX2_emptyCorner_26 ?_
  refine lv_istore_n (pc := 27) (lv' := [(3, .int (((s_Row_get 16 lk a0) &&& (s_Row_get 16 lk a1)) &&& (s_Tab_get 0 lf a0 a1))), (0, .ref (ad 0)), (1, .int a0), (2, .int a1)]) hx hb dX2_emptyCorner_27 rfl hl (by decide) rfl (fun ls hl => ?_)
  refine lv_iconst (v := (0 : Int32)) (pc := 28) hx hb dX2_emptyCorner_28 (by decide) ?_
  refine lv_istore (pc := 29) (lv' := [(4, .int (0 : Int32)), (3, .int (((s_Row_get 16 lk a0) &&& (s_Row_get 16 lk a1)) &&& (s_Tab_get 0 lf a0 a1))), (0, .ref (ad 0)), (1, .int a0), (2, .int a1)]) hx hb dX2_emptyCorner_29 hl (by decide) rfl (fun ls hl => ?_)
  obtain ⟨o4, h_o4, h⟩ := ob h
  refine l_Mesh_emptyCorner_L31 C0 F ad pxs pys plo phi pn pm lf th ow lk el eh co hu ne nt nh a0 a1 (((s_Row_get 16 lk a0) &&& (s_Row_get 16 lk a1)) &&& (s_Tab_get 0 lf a0 a1)) hP F (0 : Int32) _ h_o4 ls (lv_sub hl [2, 3, 4, 1, 0] rfl) (fun o4x ls eo hl => ?_) (fun q_o pcR ls eo hdR => ?_)
  · subst o4
    have h := se_r h
    refine lv_iconst (v := (-1 : Int32)) (pc := 99) hx hb dX2_emptyCorner_99 (by decide) ?_
    obtain rfl := Option.some.inj h
    exact W.iret hx hb hr (fun t ht hW => ⟨rfl, ht⟩) (fun q hq => absurd hq List.not_mem_nil) dX2_emptyCorner_100 hlk
  · subst o4
    have h := se_l h
    obtain rfl := Option.some.inj h
    exact W.iret hx hb hr (fun t ht hW => ⟨rfl, ht⟩) (fun q hq => absurd hq List.not_mem_nil) hdR hlk
set_option maxHeartbeats 4000000 in
set_option maxRecDepth 100000 in
theorem l_Mesh_findThirds_L22 {p : Program} {l : Launch} {e : Env} {s : State} {m : MethodId} {args : Array Value} {below : List Frame} {meth : Method} {c : Code} {Q : State → Prop} {K : KT} {A : Nat → Prop} (C0 : Ctx p m c cX2_findThirds 3 s args RX2 K meth none) (F : Nat) (ad : Nat → Nat) (pxs : Nat → Int32) (pys : Nat → Int32) (plo : Nat → Int32) (phi : Nat → Int32) (pn : Int32) (pm : Int32) (lf : Nat → Int32) (ow : Nat → Int32) (lk : Nat → Int32) (el : Nat → Int32) (eh : Nat → Int32) (co : Nat → Int32) (hu : Nat → Int32) (ne : Int32) (nt : Int32) (nh : Int32) (x1 : Int32)  : ∀ (n : Nat) (x2 : Int32) (th : Nat → Int32) (out : Int32 × (Nat → Int32)), s_Mesh_findThirds_L22 F pn lf lk x1 n x2 th = some out → ∀ (H : Heap) (locs : List Loc) (ls : Array Slot), va_P K.1 vC (wMesh K ad pxs pys plo phi pn pm lf th ow lk el eh co hu ne nt nh) H → va_D A (wMesh K ad pxs pys plo phi pn pm lf th ow lk el eh co hu ne nt nh) → va_S A s.heap H locs → lv_has ls 3 [(0, .ref (ad 0)), (1, .int x1), (2, .int x2)] → (∀ (o : Int32 × (Nat → Int32)) (H : Heap) (locs : List Loc) (ls : Array Slot), out = o → va_P K.1 vC (wMesh K ad pxs pys plo phi pn pm lf o.2 ow lk el eh co hu ne nt nh) H → va_D A (wMesh K ad pxs pys plo phi pn pm lf o.2 ow lk el eh co hu ne nt nh) → va_S A s.heap H locs → lv_has ls 3 [(0, .ref (ad 0)), (1, .int x1), (2, .int o.1)] → W p l e (rmL 2) s m args below meth c H locs 0 0 Q (F0 m 63 ls [])) → W p l e (rmL 2) s m args below meth c H locs 0 0 Q (F0 m 22 ls []) := by
  obtain ⟨hx, hb, hml, hown, hts, hG, hr, hlk⟩ := id C0
  intro n
  induction n with
  | zero =>
    intro x2 th out h
    cases h
  | succ n ih =>
    intro x2 th out h H locs ls hP hD hS hl Kx 
    rw [s_Mesh_findThirds_L22.eq_2] at h
    refine lv_iload_n (pc := 22) hx hb dX2_findThirds_22 rfl (lv_at hl 2 rfl) ?_
    refine lv_aload_n (pc := 23) hx hb dX2_findThirds_23 rfl (lv_at hl 0 rfl) ?_
    refine va_get (D := K.1) (ci := 2) (v := .ref (ad 1)) (C := RX2) (T := TX2) (N := 12) (pc := 24) hx hb hts inT2 hown hG.1 hP 0 rfl rfl 0 (by decide) (hts _ qf_Mesh_9) (fun _ h9 => h9) rfl dX2_findThirds_24 ?_
    refine rdV (pc := 27) (As := []) (rest := [.int x2]) hx hb hml hown hts hG hP (c_Plan_points l K (fun k => ad (k + 1)) pxs pys plo phi pn pm) [1, 2, 3, 4, 5, 6, 7, 8, 9] rfl (q0 := 1) rfl (ci := 3) rfl g_Mesh_84 hd_Plan_points rfl ⟨Nat.le_of_ble_eq_true rfl, Nat.le_of_ble_eq_true rfl⟩ ⟨Nat.zero_le _, Nat.zero_le _⟩ hl rfl (Nat.le_of_ble_eq_true rfl) dX2_findThirds_27 ?_
    refine lv_icmp_ge (tgt := 63) (pc := 30) hx hb dX2_findThirds_30 (by decide) (fun c3 => ?_) (fun c3 => ?_)
    · have h := it_t c3 h
      obtain rfl := Option.some.inj h
      exact Kx _ H locs ls rfl hP hD hS (lv_sub hl [0, 1, 2] rfl)
    · have h := it_f c3 h
      refine lv_aload_n (pc := 33) hx hb dX2_findThirds_33 rfl (lv_at hl 0 rfl) ?_
      refine lv_iload_n (pc := 34) hx hb dX2_findThirds_34 rfl (lv_at hl 1 rfl) ?_
      refine lv_iload_n (pc := 35) hx hb dX2_findThirds_35 rfl (lv_at hl 2 rfl) ?_
      refine rdV (pc := 36) (As := [.int x1, .int x2]) (rest := []) hx hb hml hown hts hG hP (c_Mesh_isLinked l K ad pxs pys plo phi pn pm lf th ow lk el eh co hu ne nt nh x1 x2) [0, 1, 2, 3, 4, 5, 6, 7, 8, 9, 10, 11, 12, 13, 14, 15, 16, 17, 18, 19, 20, 21, 22, 23, 24, 25] rfl (q0 := 0) rfl (ci := 2) rfl g_Mesh_117 hd_Mesh_isLinked rfl ⟨Nat.le_of_ble_eq_true rfl, Nat.le_of_ble_eq_true rfl⟩ ⟨Nat.zero_le _, Nat.zero_le _⟩ hl rfl (Nat.le_of_ble_eq_true rfl) dX2_findThirds_36 ?_
      refine lv_if_eq (tgt := 57) (pc := 39) hx hb dX2_findThirds_39 (by decide) (fun c4 => ?_) (fun c4 => ?_)
      · have h := it_t c4 h
        refine lv_iinc (v := (x2 + (1 : Int32))) (pc := 57) (lv' := [(2, .int (x2 + (1 : Int32))), (0, .ref (ad 0)), (1, .int x1)]) hx hb dX2_findThirds_57 hl (k := 2) rfl rfl (by decide) rfl (fun ls hl => ?_)
        refine lv_goto (tgt := 22) (pc := 60) hx hb dX2_findThirds_60 (by decide) ?_
        exact ih (x2 + (1 : Int32)) th out h H locs ls hP hD hS (lv_sub hl [1, 2, 0] rfl) Kx 
      · have h := it_f c4 h
        refine lv_aload_n (pc := 42) hx hb dX2_findThirds_42 rfl (lv_at hl 0 rfl) ?_
        refine va_get (D := K.1) (ci := 2) (v := .ref (ad 12)) (C := RX2) (T := TX2) (N := 12) (pc := 43) hx hb hts inT2 hown hG.1 hP 0 rfl rfl 2 (by decide) (hts _ qf_Mesh_24) (fun _ h9 => h9) rfl dX2_findThirds_43 ?_
        refine lv_iload_n (pc := 46) hx hb dX2_findThirds_46 rfl (lv_at hl 1 rfl) ?_
        refine lv_iload_n (pc := 47) hx hb dX2_findThirds_47 rfl (lv_at hl 2 rfl) ?_
        refine lv_aload_n (pc := 48) hx hb dX2_findThirds_48 rfl (lv_at hl 0 rfl) ?_
        refine lv_iload_n (pc := 49) hx hb dX2_findThirds_49 rfl (lv_at hl 1 rfl) ?_
        refine lv_iload_n (pc := 50) hx hb dX2_findThirds_50 rfl (lv_at hl 2 rfl) ?_
        obtain ⟨v5, h_v5, h⟩ := ob h
        refine rdV (pc := 51) (As := [.int x1, .int x2]) (rest := [.int x2, .int x1, .ref (ad 12)]) hx hb hml hown hts hG hP (c_Mesh_emptyCorner l K ad pxs pys plo phi pn pm lf th ow lk el eh co hu ne nt nh x1 x2 F h_v5) [0, 1, 2, 3, 4, 5, 6, 7, 8, 9, 10, 11, 12, 13, 14, 15, 16, 17, 18, 19, 20, 21, 22, 23, 24, 25] rfl (q0 := 0) rfl (ci := 2) rfl g_Mesh_143 hd_Mesh_emptyCorner rfl ⟨Nat.le_of_ble_eq_true rfl, Nat.le_of_ble_eq_true rfl⟩ ⟨Nat.zero_le _, Nat.zero_le _⟩ hl rfl (Nat.le_of_ble_eq_true rfl) dX2_findThirds_51 ?_
        refine wrVv (pc := 54) (As := [.int x1, .int x2, .int v5]) (rest := []) (ws2 := wMesh K ad pxs pys plo phi pn pm lf (s_Tab_set th x1 x2 v5) ow lk el eh co hu ne nt nh) (as9 := [ad 12, ad 13]) hx hb hml hown hts hG hP hD hS (c_Tab_set l K (fun k => ad (k + 12)) (-1) th x1 x2 v5) [12, 13] rfl rfl rfl rfl [.inr 0, .inr 1, .inr 2, .inr 3, .inr 4, .inr 5, .inr 6, .inr 7, .inr 8, .inr 9, .inr 10, .inr 11, .inl 0, .inl 1, .inr 14, .inr 15, .inr 16, .inr 17, .inr 18, .inr 19, .inr 20, .inr 21, .inr 22, .inr 23, .inr 24, .inr 25] (by decide +kernel) rfl (q0 := 12) rfl (ci := 5) rfl g_Mesh_98 hd_Tab_set rfl ⟨Nat.le_of_ble_eq_true rfl, Nat.le_of_ble_eq_true rfl⟩ ⟨Nat.zero_le _, Nat.zero_le _⟩ hl rfl (Nat.le_of_ble_eq_true rfl) dX2_findThirds_54 (fun H locs hP hD hS => ?_)
        refine lv_iinc (v := (x2 + (1 : Int32))) (pc := 57) (lv' := [(2, .int (x2 + (1 : Int32))), (0, .ref (ad 0)), (1, .int x1)]) hx hb dX2_findThirds_57 hl (k := 2) rfl rfl (by decide) rfl (fun ls hl => ?_)
        refine lv_goto (tgt := 22) (pc := 60) hx hb dX2_findThirds_60 (by decide) ?_
        exact ih (x2 + (1 : Int32)) (s_Tab_set th x1 x2 v5) out h H locs ls hP hD hS (lv_sub hl [1, 2, 0] rfl) Kx 
set_option maxHeartbeats 4000000 in
set_option maxRecDepth 100000 in
theorem l_Mesh_findThirds_L9 {p : Program} {l : Launch} {e : Env} {s : State} {m : MethodId} {args : Array Value} {below : List Frame} {meth : Method} {c : Code} {Q : State → Prop} {K : KT} {A : Nat → Prop} (C0 : Ctx p m c cX2_findThirds 3 s args RX2 K meth none) (F : Nat) (ad : Nat → Nat) (pxs : Nat → Int32) (pys : Nat → Int32) (plo : Nat → Int32) (phi : Nat → Int32) (pn : Int32) (pm : Int32) (lf : Nat → Int32) (ow : Nat → Int32) (lk : Nat → Int32) (el : Nat → Int32) (eh : Nat → Int32) (co : Nat → Int32) (hu : Nat → Int32) (ne : Int32) (nt : Int32) (nh : Int32)  : ∀ (n : Nat) (x1 : Int32) (th : Nat → Int32) (out : Int32 × (Nat → Int32)), s_Mesh_findThirds_L9 F pn lf lk n x1 th = some out → ∀ (H : Heap) (locs : List Loc) (ls : Array Slot), va_P K.1 vC (wMesh K ad pxs pys plo phi pn pm lf th ow lk el eh co hu ne nt nh) H → va_D A (wMesh K ad pxs pys plo phi pn pm lf th ow lk el eh co hu ne nt nh) → va_S A s.heap H locs → lv_has ls 3 [(0, .ref (ad 0)), (1, .int x1)] → (∀ (o : Int32 × (Nat → Int32)) (H : Heap) (locs : List Loc) (ls : Array Slot), out = o → va_P K.1 vC (wMesh K ad pxs pys plo phi pn pm lf o.2 ow lk el eh co hu ne nt nh) H → va_D A (wMesh K ad pxs pys plo phi pn pm lf o.2 ow lk el eh co hu ne nt nh) → va_S A s.heap H locs → lv_has ls 3 [(0, .ref (ad 0)), (1, .int o.1)] → W p l e (rmL 2) s m args below meth c H locs 0 0 Q (F0 m 69 ls [])) → W p l e (rmL 2) s m args below meth c H locs 0 0 Q (F0 m 9 ls []) := by
  obtain ⟨hx, hb, hml, hown, hts, hG, hr, hlk⟩ := id C0
  intro n
  induction n with
  | zero =>
    intro x1 th out h
    cases h
  | succ n ih =>
    intro x1 th out h H locs ls hP hD hS hl Kx 
    rw [s_Mesh_findThirds_L9.eq_2] at h
    refine lv_iload_n (pc := 9) hx hb dX2_findThirds_9 rfl (lv_at hl 1 rfl) ?_
    refine lv_aload_n (pc := 10) hx hb dX2_findThirds_10 rfl (lv_at hl 0 rfl) ?_
    refine va_get (D := K.1) (ci := 2) (v := .ref (ad 1)) (C := RX2) (T := TX2) (N := 12) (pc := 11) hx hb hts inT2 hown hG.1 hP 0 rfl rfl 0 (by decide) (hts _ qf_Mesh_9) (fun _ h9 => h9) rfl dX2_findThirds_11 ?_
    refine rdV (pc := 14) (As := []) (rest := [.int x1]) hx hb hml hown hts hG hP (c_Plan_points l K (fun k => ad (k + 1)) pxs pys plo phi pn pm) [1, 2, 3, 4, 5, 6, 7, 8, 9] rfl (q0 := 1) rfl (ci := 3) rfl g_Mesh_84 hd_Plan_points rfl ⟨Nat.le_of_ble_eq_true rfl, Nat.le_of_ble_eq_true rfl⟩ ⟨Nat.zero_le _, Nat.zero_le _⟩ hl rfl (Nat.le_of_ble_eq_true rfl) dX2_findThirds_14 ?_
    refine lv_icmp_ge (tgt := 69) (pc := 17) hx hb dX2_findThirds_17 (by decide) (fun c2 => ?_) (fun c2 => ?_)
    · have h := it_t c2 h
      obtain rfl := Option.some.inj h
      exact Kx _ H locs ls rfl hP hD hS (lv_sub hl [0, 1] rfl)
    · have h := it_f c2 h
      refine lv_iconst (v := (0 : Int32)) (pc := 20) hx hb dX2_findThirds_20 (by decide) ?_
      refine lv_istore_n (pc := 21) (lv' := [(2, .int (0 : Int32)), (0, .ref (ad 0)), (1, .int x1)]) hx hb dX2_findThirds_21 rfl hl (by decide) rfl (fun ls hl => ?_)
      obtain ⟨o6, h_o6, h⟩ := ob h
      refine l_Mesh_findThirds_L22 C0 F ad pxs pys plo phi pn pm lf ow lk el eh co hu ne nt nh x1 F (0 : Int32) th _ h_o6 H locs ls hP hD hS (lv_sub hl [1, 2, 0] rfl) (fun o6x H locs ls eo hP hD hS hl => ?_)
      subst o6
      refine lv_iinc (v := (x1 + (1 : Int32))) (pc := 63) (lv' := [(1, .int (x1 + (1 : Int32))), (0, .ref (ad 0)), (2, .int o6x.1)]) hx hb dX2_findThirds_63 hl (k := 1) rfl rfl (by decide) rfl (fun ls hl => ?_)
      refine lv_goto (tgt := 9) (pc := 66) hx hb dX2_findThirds_66 (by decide) ?_
      exact ih (x1 + (1 : Int32)) o6x.2 out h H locs ls hP hD hS (lv_sub hl [1, 0] rfl) Kx 
set_option maxHeartbeats 4000000 in
set_option maxRecDepth 100000 in
theorem c_Mesh_findThirds (l : Launch) (K : KT) (ad : Nat → Nat) (pxs : Nat → Int32) (pys : Nat → Int32) (plo : Nat → Int32) (phi : Nat → Int32) (pn : Int32) (pm : Int32) (lf : Nat → Int32) (th : Nat → Int32) (ow : Nat → Int32) (lk : Nat → Int32) (el : Nat → Int32) (eh : Nat → Int32) (co : Nat → Int32) (hu : Nat → Int32) (ne : Int32) (nt : Int32) (nh : Int32) (F : Nat) {o : (Nat → Int32)} (h : s_Mesh_findThirds F pn lf th lk = some o) : Wr l K 2 yX2_findThirds cX2_findThirds 3 none [.ref (ad 0)] (wMesh K ad pxs pys plo phi pn pm lf th ow lk el eh co hu ne nt nh) none (wMesh K ad pxs pys plo phi pn pm lf o ow lk el eh co hu ne nt nh) := by
  refine Wr.of (by decide +kernel) (Nat.le_of_ble_eq_true rfl) ?_
  unfold s_Mesh_findThirds at h
  intro p e s m below meth c hx hb hr hml hown hts hlk H locs hP hG hD hS ls hl
  have C0 : Ctx p m c cX2_findThirds 3 s (Array.mk [.ref (ad 0)]) RX2 K meth none := ⟨hx, hb, hml, hown, hts, hG, hr, hlk⟩
  have hl : lv_has ls 3 [(0, .ref (ad 0))] := hl
  refine lv_aload_n (pc := 0) hx hb dX2_findThirds_0 rfl (lv_at hl 0 rfl) ?_
  refine va_get (D := K.1) (ci := 2) (v := .ref (ad 12)) (C := RX2) (T := TX2) (N := 12) (pc := 1) hx hb hts inT2 hown hG.1 hP 0 rfl rfl 2 (by decide) (hts _ qf_Mesh_24) (fun _ h9 => h9) rfl dX2_findThirds_1 ?_
  obtain ⟨v1, h_v1, h⟩ := ob h
  refine wrVv (pc := 4) (As := []) (rest := []) (ws2 := wMesh K ad pxs pys plo phi pn pm lf v1 ow lk el eh co hu ne nt nh) (as9 := [ad 12, ad 13]) hx hb hml hown hts hG hP hD hS (c_Tab_clear l K (fun k => ad (k + 12)) (-1) th F h_v1) [12, 13] rfl rfl rfl rfl [.inr 0, .inr 1, .inr 2, .inr 3, .inr 4, .inr 5, .inr 6, .inr 7, .inr 8, .inr 9, .inr 10, .inr 11, .inl 0, .inl 1, .inr 14, .inr 15, .inr 16, .inr 17, .inr 18, .inr 19, .inr 20, .inr 21, .inr 22, .inr 23, .inr 24, .inr 25] (by decide +kernel) rfl (q0 := 12) rfl (ci := 5) rfl g_Mesh_81 hd_Tab_clear rfl ⟨Nat.le_of_ble_eq_true rfl, Nat.le_of_ble_eq_true rfl⟩ ⟨Nat.zero_le _, Nat.zero_le _⟩ hl rfl (Nat.le_of_ble_eq_true rfl) dX2_findThirds_4 (fun H locs hP hD hS => ?_)
  refine lv_iconst (v := (0 : Int32)) (pc := 7) hx hb dX2_findThirds_7 (by decide) ?_
  refine lv_istore_n (pc := 8) (lv' := [(1, .int (0 : Int32)), (0, .ref (ad 0))]) hx hb dX2_findThirds_8 rfl hl (by decide) rfl (fun ls hl => ?_)
  obtain ⟨o7, h_o7, h⟩ := ob h
  refine l_Mesh_findThirds_L9 C0 F ad pxs pys plo phi pn pm lf ow lk el eh co hu ne nt nh F (0 : Int32) v1 _ h_o7 H locs ls hP hD hS (lv_sub hl [1, 0] rfl) (fun o7x H locs ls eo hP hD hS hl => ?_)
  subst o7
  obtain rfl := Option.some.inj h
  exact W.vret hx hb hr (fun t ht hW => ⟨⟨rfl, by rw [ht]; exact hP⟩, hS.F ht⟩) hS.2.2 dX2_findThirds_69 hlk
set_option maxHeartbeats 4000000 in
set_option maxRecDepth 100000 in
theorem c_Mesh_isInner (l : Launch) (K : KT) (ad : Nat → Nat) (pxs : Nat → Int32) (pys : Nat → Int32) (plo : Nat → Int32) (phi : Nat → Int32) (pn : Int32) (pm : Int32) (lf : Nat → Int32) (th : Nat → Int32) (ow : Nat → Int32) (lk : Nat → Int32) (el : Nat → Int32) (eh : Nat → Int32) (co : Nat → Int32) (hu : Nat → Int32) (ne : Int32) (nt : Int32) (nh : Int32) (a0 : Int32) (a1 : Int32) : Rd l K 1 yX2_isInner cX2_isInner 3 .boolean [.ref (ad 0), .int a0, .int a1] (wMesh K ad pxs pys plo phi pn pm lf th ow lk el eh co hu ne nt nh) (bI (s_Mesh_isInner th a0 a1)) := by
  generalize h : s_Mesh_isInner th a0 a1 = o
  refine Rd.of (by decide +kernel) (Nat.le_of_ble_eq_true rfl) ?_
  unfold s_Mesh_isInner at h
  intro p e s m below meth c hx hb hr hml hown hts hlk hP hG ls hl
  have C0 : Ctx p m c cX2_isInner 3 s (Array.mk [.ref (ad 0), .int a0, .int a1]) RX2 K meth (some .boolean) := ⟨hx, hb, hml, hown, hts, hG, hr, hlk⟩
  have hl : lv_has ls 3 [(0, .ref (ad 0)), (1, .int a0), (2, .int a1)] := hl
  refine lv_aload_n (pc := 0) hx hb dX2_isInner_0 rfl (lv_at hl 0 rfl) ?_
  refine va_get (D := K.1) (ci := 2) (v := .ref (ad 12)) (C := RX2) (T := TX2) (N := 12) (pc := 1) hx hb hts inT2 hown hG.1 hP 0 rfl rfl 2 (by decide) (hts _ qf_Mesh_24) (fun _ h9 => h9) rfl dX2_isInner_1 ?_
  refine lv_iload_n (pc := 4) hx hb dX2_isInner_4 rfl (lv_at hl 1 rfl) ?_
  refine lv_iload_n (pc := 5) hx hb dX2_isInner_5 rfl (lv_at hl 2 rfl) ?_
  refine rdV (pc := 6) (As := [.int a0, .int a1]) (rest := []) hx hb hml hown hts hG hP (c_Tab_get l K (fun k => ad (k + 12)) (-1) th a0 a1) [12, 13] rfl (q0 := 12) rfl (ci := 5) rfl g_Mesh_140 hd_Tab_get rfl ⟨Nat.le_of_ble_eq_true rfl, Nat.le_of_ble_eq_true rfl⟩ ⟨Nat.zero_le _, Nat.zero_le _⟩ hl rfl (Nat.le_of_ble_eq_true rfl) dX2_isInner_6 ?_
  refine lv_iconst (v := (-1 : Int32)) (pc := 9) hx hb dX2_isInner_9 (by decide) ?_
  refine lv_icmp_eq (tgt := 30) (pc := 10) hx hb dX2_isInner_10 (by decide) (fun c1 => ?_) (fun c1 => ?_)
  · have h := it_t c1 h
    refine lv_iconst (v := (0 : Int32)) (pc := 30) hx hb dX2_isInner_30 (by decide) ?_
    subst h
    exact W.zret hx hb hr (rfl) (fun t ht hW => ⟨rfl, ht⟩) (fun q hq => absurd hq List.not_mem_nil) dX2_isInner_31 hlk
  · have h := it_f c1 h
    refine lv_aload_n (pc := 13) hx hb dX2_isInner_13 rfl (lv_at hl 0 rfl) ?_
    refine va_get (D := K.1) (ci := 2) (v := .ref (ad 12)) (C := RX2) (T := TX2) (N := 12) (pc := 14) hx hb hts inT2 hown hG.1 hP 0 rfl rfl 2 (by decide) (hts _ qf_Mesh_24) (fun _ h9 => h9) rfl dX2_isInner_14 ?_
    refine lv_iload_n (pc := 17) hx hb dX2_isInner_17 rfl (lv_at hl 2 rfl) ?_
    refine lv_iload_n (pc := 18) hx hb dX2_isInner_18 rfl (lv_at hl 1 rfl) ?_
    refine rdV (pc := 19) (As := [.int a1, .int a0]) (rest := []) hx hb hml hown hts hG hP (c_Tab_get l K (fun k => ad (k + 12)) (-1) th a1 a0) [12, 13] rfl (q0 := 12) rfl (ci := 5) rfl g_Mesh_140 hd_Tab_get rfl ⟨Nat.le_of_ble_eq_true rfl, Nat.le_of_ble_eq_true rfl⟩ ⟨Nat.zero_le _, Nat.zero_le _⟩ hl rfl (Nat.le_of_ble_eq_true rfl) dX2_isInner_19 ?_
    refine lv_iconst (v := (-1 : Int32)) (pc := 22) hx hb dX2_isInner_22 (by decide) ?_
    refine lv_icmp_eq (tgt := 30) (pc := 23) hx hb dX2_isInner_23 (by decide) (fun c2 => ?_) (fun c2 => ?_)
    · have h := it_t c2 h
      refine lv_iconst (v := (0 : Int32)) (pc := 30) hx hb dX2_isInner_30 (by decide) ?_
      subst h
      exact W.zret hx hb hr (rfl) (fun t ht hW => ⟨rfl, ht⟩) (fun q hq => absurd hq List.not_mem_nil) dX2_isInner_31 hlk
    · have h := it_f c2 h
      refine lv_iconst (v := (1 : Int32)) (pc := 26) hx hb dX2_isInner_26 (by decide) ?_
      refine lv_goto (tgt := 31) (pc := 27) hx hb dX2_isInner_27 (by decide) ?_
      subst h
      exact W.zret hx hb hr (rfl) (fun t ht hW => ⟨rfl, ht⟩) (fun q hq => absurd hq List.not_mem_nil) dX2_isInner_31 hlk
set_option maxHeartbeats 4000000 in
set_option maxRecDepth 100000 in
theorem c_Mesh_passesCircle (l : Launch) (K : KT) (ad : Nat → Nat) (pxs : Nat → Int32) (pys : Nat → Int32) (plo : Nat → Int32) (phi : Nat → Int32) (pn : Int32) (pm : Int32) (lf : Nat → Int32) (th : Nat → Int32) (ow : Nat → Int32) (lk : Nat → Int32) (el : Nat → Int32) (eh : Nat → Int32) (co : Nat → Int32) (hu : Nat → Int32) (ne : Int32) (nt : Int32) (nh : Int32) (a0 : Int32) (a1 : Int32) : Rd l K 4 yX2_passesCircle cX2_passesCircle 6 .boolean [.ref (ad 0), .int a0, .int a1] (wMesh K ad pxs pys plo phi pn pm lf th ow lk el eh co hu ne nt nh) (bI (s_Mesh_passesCircle pxs pys th a0 a1)) := by
  generalize h : s_Mesh_passesCircle pxs pys th a0 a1 = o
  refine Rd.of (by decide +kernel) (Nat.le_of_ble_eq_true rfl) ?_
  unfold s_Mesh_passesCircle at h
  intro p e s m below meth c hx hb hr hml hown hts hlk hP hG ls hl
  have C0 : Ctx p m c cX2_passesCircle 6 s (Array.mk [.ref (ad 0), .int a0, .int a1]) RX2 K meth (some .boolean) := ⟨hx, hb, hml, hown, hts, hG, hr, hlk⟩
  have hl : lv_has ls 6 [(0, .ref (ad 0)), (1, .int a0), (2, .int a1)] := hl
  refine lv_aload_n (pc := 0) hx hb dX2_passesCircle_0 rfl (lv_at hl 0 rfl) ?_
  refine va_get (D := K.1) (ci := 2) (v := .ref (ad 12)) (C := RX2) (T := TX2) (N := 12) (pc := 1) hx hb hts inT2 hown hG.1 hP 0 rfl rfl 2 (by decide) (hts _ qf_Mesh_24) (fun _ h9 => h9) rfl dX2_passesCircle_1 ?_
  refine lv_iload_n (pc := 4) hx hb dX2_passesCircle_4 rfl (lv_at hl 1 rfl) ?_
  refine lv_iload_n (pc := 5) hx hb dX2_passesCircle_5 rfl (lv_at hl 2 rfl) ?_
  refine rdV (pc := 6) (As := [.int a0, .int a1]) (rest := []) hx hb hml hown hts hG hP (c_Tab_get l K (fun k => ad (k + 12)) (-1) th a0 a1) [12, 13] rfl (q0 := 12) rfl (ci := 5) rfl g_Mesh_140 hd_Tab_get rfl ⟨Nat.le_of_ble_eq_true rfl, Nat.le_of_ble_eq_true rfl⟩ ⟨Nat.zero_le _, Nat.zero_le _⟩ hl rfl (Nat.le_of_ble_eq_true rfl) dX2_passesCircle_6 ?_
  refine lv_istore_n (pc := 9) (lv' := [(3, .int (s_Tab_get (-1) th a0 a1)), (0, .ref (ad 0)), (1, .int a0), (2, .int a1)]) hx hb dX2_passesCircle_9 rfl hl (by decide) rfl (fun ls hl => ?_)
  refine lv_aload_n (pc := 10) hx hb dX2_passesCircle_10 rfl (lv_at hl 1 rfl) ?_
  refine va_get (D := K.1) (ci := 2) (v := .ref (ad 12)) (C := RX2) (T := TX2) (N := 12) (pc := 11) hx hb hts inT2 hown hG.1 hP 0 rfl rfl 2 (by decide) (hts _ qf_Mesh_24) (fun _ h9 => h9) rfl dX2_passesCircle_11 ?_
  refine lv_iload_n (pc := 14) hx hb dX2_passesCircle_14 rfl (lv_at hl 3 rfl) ?_
  refine lv_iload_n (pc := 15) hx hb dX2_passesCircle_15 rfl (lv_at hl 2 rfl) ?_
  refine rdV (pc := 16) (As := [.int a1, .int a0]) (rest := []) hx hb hml hown hts hG hP (c_Tab_get l K (fun k => ad (k + 12)) (-1) th a1 a0) [12, 13] rfl (q0 := 12) rfl (ci := 5) rfl g_Mesh_140 hd_Tab_get rfl ⟨Nat.le_of_ble_eq_true rfl, Nat.le_of_ble_eq_true rfl⟩ ⟨Nat.zero_le _, Nat.zero_le _⟩ hl rfl (Nat.le_of_ble_eq_true rfl) dX2_passesCircle_16 ?_
  refine lv_istore (pc := 19) (lv' := [(4, .int (s_Tab_get (-1) th a1 a0)), (3, .int (s_Tab_get (-1) th a0 a1)), (0, .ref (ad 0)), (1, .int a0), (2, .int a1)]) hx hb dX2_passesCircle_19 hl (by decide) rfl (fun ls hl => ?_)
  refine lv_aload_n (pc := 21) hx hb dX2_passesCircle_21 rfl (lv_at hl 2 rfl) ?_
  refine va_get (D := K.1) (ci := 2) (v := .ref (ad 1)) (C := RX2) (T := TX2) (N := 12) (pc := 22) hx hb hts inT2 hown hG.1 hP 0 rfl rfl 0 (by decide) (hts _ qf_Mesh_9) (fun _ h9 => h9) rfl dX2_passesCircle_22 ?_
  refine lv_iload_n (pc := 25) hx hb dX2_passesCircle_25 rfl (lv_at hl 3 rfl) ?_
  refine lv_iload_n (pc := 26) hx hb dX2_passesCircle_26 rfl (lv_at hl 4 rfl) ?_
  refine lv_iload_n (pc := 27) hx hb dX2_passesCircle_27 rfl (lv_at hl 1 rfl) ?_
  refine lv_iload (pc := 28) hx hb dX2_passesCircle_28 (lv_at hl 0 rfl) ?_
  refine rdV (pc := 30) (As := [.int a0, .int a1, .int (s_Tab_get (-1) th a0 a1), .int (s_Tab_get (-1) th a1 a0)]) (rest := []) hx hb hml hown hts hG hP (c_Plan_circleSide l K (fun k => ad (k + 1)) pxs pys plo phi pn pm a0 a1 (s_Tab_get (-1) th a0 a1) (s_Tab_get (-1) th a1 a0)) [1, 2, 3, 4, 5, 6, 7, 8, 9] rfl (q0 := 1) rfl (ci := 3) rfl g_Mesh_164 hd_Plan_circleSide rfl ⟨Nat.le_of_ble_eq_true rfl, Nat.le_of_ble_eq_true rfl⟩ ⟨Nat.zero_le _, Nat.zero_le _⟩ hl rfl (Nat.le_of_ble_eq_true rfl) dX2_passesCircle_30 ?_
  refine lv_istore (pc := 33) (lv' := [(5, .int (s_Plan_circleSide pxs pys a0 a1 (s_Tab_get (-1) th a0 a1) (s_Tab_get (-1) th a1 a0))), (4, .int (s_Tab_get (-1) th a1 a0)), (3, .int (s_Tab_get (-1) th a0 a1)), (0, .ref (ad 0)), (1, .int a0), (2, .int a1)]) hx hb dX2_passesCircle_33 hl (by decide) rfl (fun ls hl => ?_)
  refine lv_iload (pc := 35) hx hb dX2_passesCircle_35 (lv_at hl 0 rfl) ?_
  refine lv_if_lt (tgt := 59) (pc := 37) hx hb dX2_passesCircle_37 (by decide) (fun c1 => ?_) (fun c1 => ?_)
  · have h := it_t c1 h
    refine lv_iconst (v := (1 : Int32)) (pc := 59) hx hb dX2_passesCircle_59 (by decide) ?_
    refine lv_goto (tgt := 64) (pc := 60) hx hb dX2_passesCircle_60 (by decide) ?_
    subst h
    exact W.zret hx hb hr (rfl) (fun t ht hW => ⟨rfl, ht⟩) (fun q hq => absurd hq List.not_mem_nil) dX2_passesCircle_64 hlk
  · have h := it_f c1 h
    refine lv_iload (pc := 40) hx hb dX2_passesCircle_40 (lv_at hl 0 rfl) ?_
    refine lv_if_ne (tgt := 63) (pc := 42) hx hb dX2_passesCircle_42 (by decide) (fun c2 => ?_) (fun c2 => ?_)
    · have h := it_f c2 h
      refine lv_iconst (v := (0 : Int32)) (pc := 63) hx hb dX2_passesCircle_63 (by decide) ?_
      subst h
      exact W.zret hx hb hr (rfl) (fun t ht hW => ⟨rfl, ht⟩) (fun q hq => absurd hq List.not_mem_nil) dX2_passesCircle_64 hlk
    · have h := it_t c2 h
      refine lv_iload_n (pc := 45) hx hb dX2_passesCircle_45 rfl (lv_at hl 2 rfl) ?_
      refine lv_iload (pc := 46) hx hb dX2_passesCircle_46 (lv_at hl 1 rfl) ?_
      refine my_mmax (pc := 48) hx hb hml hl.1 hown hts qm_Mesh_168 (Nat.le_of_ble_eq_true rfl) (Nat.le_of_ble_eq_true rfl) ⟨Nat.zero_le _, Nat.zero_le _⟩ dX2_passesCircle_48 ?_
      refine lv_iload_n (pc := 51) hx hb dX2_passesCircle_51 rfl (lv_at hl 4 rfl) ?_
      refine lv_iload_n (pc := 52) hx hb dX2_passesCircle_52 rfl (lv_at hl 5 rfl) ?_
      refine my_mmax (pc := 53) hx hb hml hl.1 hown hts qm_Mesh_168 (Nat.le_of_ble_eq_true rfl) (Nat.le_of_ble_eq_true rfl) ⟨Nat.zero_le _, Nat.zero_le _⟩ dX2_passesCircle_53 ?_
      refine lv_icmp_le (tgt := 63) (pc := 56) hx hb dX2_passesCircle_56 (by decide) (fun c3 => ?_) (fun c3 => ?_)
      · have h := it_t c3 h
        refine lv_iconst (v := (0 : Int32)) (pc := 63) hx hb dX2_passesCircle_63 (by decide) ?_
        subst h
        exact W.zret hx hb hr (rfl) (fun t ht hW => ⟨rfl, ht⟩) (fun q hq => absurd hq List.not_mem_nil) dX2_passesCircle_64 hlk
      · have h := it_f c3 h
        refine lv_iconst (v := (1 : Int32)) (pc := 59) hx hb dX2_passesCircle_59 (by decide) ?_
        refine lv_goto (tgt := 64) (pc := 60) hx hb dX2_passesCircle_60 (by decide) ?_
        subst h
        exact W.zret hx hb hr (rfl) (fun t ht hW => ⟨rfl, ht⟩) (fun q hq => absurd hq List.not_mem_nil) dX2_passesCircle_64 hlk
set_option maxHeartbeats 4000000 in
set_option maxRecDepth 100000 in
theorem c_Mesh_unlink (l : Launch) (K : KT) (ad : Nat → Nat) (pxs : Nat → Int32) (pys : Nat → Int32) (plo : Nat → Int32) (phi : Nat → Int32) (pn : Int32) (pm : Int32) (lf : Nat → Int32) (th : Nat → Int32) (ow : Nat → Int32) (lk : Nat → Int32) (el : Nat → Int32) (eh : Nat → Int32) (co : Nat → Int32) (hu : Nat → Int32) (ne : Int32) (nt : Int32) (nh : Int32) (a0 : Int32) (a1 : Int32) : Wr l K 1 yX2_unlink cX2_unlink 3 none [.ref (ad 0), .int a0, .int a1] (wMesh K ad pxs pys plo phi pn pm lf th ow lk el eh co hu ne nt nh) none (wMesh K ad pxs pys plo phi pn pm lf th ow (s_Mesh_unlink lk a0 a1) el eh co hu ne nt nh) := by
  generalize h : s_Mesh_unlink lk a0 a1 = o
  refine Wr.of (by decide +kernel) (Nat.le_of_ble_eq_true rfl) ?_
  unfold s_Mesh_unlink at h
  intro p e s m below meth c hx hb hr hml hown hts hlk H locs hP hG hD hS ls hl
  have C0 : Ctx p m c cX2_unlink 3 s (Array.mk [.ref (ad 0), .int a0, .int a1]) RX2 K meth none := ⟨hx, hb, hml, hown, hts, hG, hr, hlk⟩
  have hl : lv_has ls 3 [(0, .ref (ad 0)), (1, .int a0), (2, .int a1)] := hl
  refine lv_aload_n (pc := 0) hx hb dX2_unlink_0 rfl (lv_at hl 0 rfl) ?_
  refine va_get (D := K.1) (ci := 2) (v := .ref (ad 16)) (C := RX2) (T := TX2) (N := 12) (pc := 1) hx hb hts inT2 hown hG.1 hP 0 rfl rfl 4 (by decide) (hts _ qf_Mesh_33) (fun _ h9 => h9) rfl dX2_unlink_1 ?_
  refine lv_iload_n (pc := 4) hx hb dX2_unlink_4 rfl (lv_at hl 1 rfl) ?_
  refine lv_aload_n (pc := 5) hx hb dX2_unlink_5 rfl (lv_at hl 0 rfl) ?_
  refine va_get (D := K.1) (ci := 2) (v := .ref (ad 16)) (C := RX2) (T := TX2) (N := 12) (pc := 6) hx hb hts inT2 hown hG.1 hP 0 rfl rfl 4 (by decide) (hts _ qf_Mesh_33) (fun _ h9 => h9) rfl dX2_unlink_6 ?_
  refine lv_iload_n (pc := 9) hx hb dX2_unlink_9 rfl (lv_at hl 1 rfl) ?_
  refine rdV (pc := 10) (As := [.int a0]) (rest := [.int a0, .ref (ad 16)]) hx hb hml hown hts hG hP (c_Row_get l K (fun k => ad (k + 16)) 16 (by decide) lk a0) [16, 17] rfl (q0 := 16) rfl (ci := 4) rfl g_Mesh_127 hd_Row_get rfl ⟨Nat.le_of_ble_eq_true rfl, Nat.le_of_ble_eq_true rfl⟩ ⟨Nat.zero_le _, Nat.zero_le _⟩ hl rfl (Nat.le_of_ble_eq_true rfl) dX2_unlink_10 ?_
  refine lv_iconst (v := (1 : Int32)) (pc := 13) hx hb dX2_unlink_13 (by decide) ?_
  refine lv_iload_n (pc := 14) hx hb dX2_unlink_14 rfl (lv_at hl 2 rfl) ?_
  refine lv_ishl (pc := 15) hx hb dX2_unlink_15 ?_
  refine lv_iconst (v := (-1 : Int32)) (pc := 16) hx hb dX2_unlink_16 (by decide) ?_
  refine lv_ixor (pc := 17) hx hb dX2_unlink_17 ?_
  refine lv_iand (pc := 18) hx hb dX2_unlink_18 ?_
  refine wrVv (pc := 19) (As := [.int a0, .int ((s_Row_get 16 lk a0) &&& (((1 : Int32) <<< (a1 &&& 31)) ^^^ (-1 : Int32)))]) (rest := []) (ws2 := wMesh K ad pxs pys plo phi pn pm lf th ow (s_Row_set 16 lk a0 ((s_Row_get 16 lk a0) &&& (((1 : Int32) <<< (a1 &&& 31)) ^^^ (-1 : Int32)))) el eh co hu ne nt nh) (as9 := [ad 16, ad 17]) hx hb hml hown hts hG hP hD hS (c_Row_set l K (fun k => ad (k + 16)) 16 (by decide) lk a0 ((s_Row_get 16 lk a0) &&& (((1 : Int32) <<< (a1 &&& 31)) ^^^ (-1 : Int32)))) [16, 17] rfl rfl rfl rfl [.inr 0, .inr 1, .inr 2, .inr 3, .inr 4, .inr 5, .inr 6, .inr 7, .inr 8, .inr 9, .inr 10, .inr 11, .inr 12, .inr 13, .inr 14, .inr 15, .inl 0, .inl 1, .inr 18, .inr 19, .inr 20, .inr 21, .inr 22, .inr 23, .inr 24, .inr 25] (by decide +kernel) rfl (q0 := 16) rfl (ci := 4) rfl g_Mesh_102 hd_Row_set rfl ⟨Nat.le_of_ble_eq_true rfl, Nat.le_of_ble_eq_true rfl⟩ ⟨Nat.zero_le _, Nat.zero_le _⟩ hl rfl (Nat.le_of_ble_eq_true rfl) dX2_unlink_19 (fun H locs hP hD hS => ?_)
  refine lv_aload_n (pc := 22) hx hb dX2_unlink_22 rfl (lv_at hl 0 rfl) ?_
  refine va_get (D := K.1) (ci := 2) (v := .ref (ad 16)) (C := RX2) (T := TX2) (N := 12) (pc := 23) hx hb hts inT2 hown hG.1 hP 0 rfl rfl 4 (by decide) (hts _ qf_Mesh_33) (fun _ h9 => h9) rfl dX2_unlink_23 ?_
  refine lv_iload_n (pc := 26) hx hb dX2_unlink_26 rfl (lv_at hl 2 rfl) ?_
  refine lv_aload_n (pc := 27) hx hb dX2_unlink_27 rfl (lv_at hl 0 rfl) ?_
  refine va_get (D := K.1) (ci := 2) (v := .ref (ad 16)) (C := RX2) (T := TX2) (N := 12) (pc := 28) hx hb hts inT2 hown hG.1 hP 0 rfl rfl 4 (by decide) (hts _ qf_Mesh_33) (fun _ h9 => h9) rfl dX2_unlink_28 ?_
  refine lv_iload_n (pc := 31) hx hb dX2_unlink_31 rfl (lv_at hl 2 rfl) ?_
  refine rdV (pc := 32) (As := [.int a1]) (rest := [.int a1, .ref (ad 16)]) hx hb hml hown hts hG hP (c_Row_get l K (fun k => ad (k + 16)) 16 (by decide) (s_Row_set 16 lk a0 ((s_Row_get 16 lk a0) &&& (((1 : Int32) <<< (a1 &&& 31)) ^^^ (-1 : Int32)))) a1) [16, 17] rfl (q0 := 16) rfl (ci := 4) rfl g_Mesh_127 hd_Row_get rfl ⟨Nat.le_of_ble_eq_true rfl, Nat.le_of_ble_eq_true rfl⟩ ⟨Nat.zero_le _, Nat.zero_le _⟩ hl rfl (Nat.le_of_ble_eq_true rfl) dX2_unlink_32 ?_
  refine lv_iconst (v := (1 : Int32)) (pc := 35) hx hb dX2_unlink_35 (by decide) ?_
  refine lv_iload_n (pc := 36) hx hb dX2_unlink_36 rfl (lv_at hl 1 rfl) ?_
  refine lv_ishl (pc := 37) hx hb dX2_unlink_37 ?_
  refine lv_iconst (v := (-1 : Int32)) (pc := 38) hx hb dX2_unlink_38 (by decide) ?_
  refine lv_ixor (pc := 39) hx hb dX2_unlink_39 ?_
  refine lv_iand (pc := 40) hx hb dX2_unlink_40 ?_
  refine wrVv (pc := 41) (As := [.int a1, .int ((s_Row_get 16 (s_Row_set 16 lk a0 ((s_Row_get 16 lk a0) &&& (((1 : Int32) <<< (a1 &&& 31)) ^^^ (-1 : Int32)))) a1) &&& (((1 : Int32) <<< (a0 &&& 31)) ^^^ (-1 : Int32)))]) (rest := []) (ws2 := wMesh K ad pxs pys plo phi pn pm lf th ow (s_Row_set 16 (s_Row_set 16 lk a0 ((s_Row_get 16 lk a0) &&& (((1 : Int32) <<< (a1 &&& 31)) ^^^ (-1 : Int32)))) a1 ((s_Row_get 16 (s_Row_set 16 lk a0 ((s_Row_get 16 lk a0) &&& (((1 : Int32) <<< (a1 &&& 31)) ^^^ (-1 : Int32)))) a1) &&& (((1 : Int32) <<< (a0 &&& 31)) ^^^ (-1 : Int32)))) el eh co hu ne nt nh) (as9 := [ad 16, ad 17]) hx hb hml hown hts hG hP hD hS (c_Row_set l K (fun k => ad (k + 16)) 16 (by decide) (s_Row_set 16 lk a0 ((s_Row_get 16 lk a0) &&& (((1 : Int32) <<< (a1 &&& 31)) ^^^ (-1 : Int32)))) a1 ((s_Row_get 16 (s_Row_set 16 lk a0 ((s_Row_get 16 lk a0) &&& (((1 : Int32) <<< (a1 &&& 31)) ^^^ (-1 : Int32)))) a1) &&& (((1 : Int32) <<< (a0 &&& 31)) ^^^ (-1 : Int32)))) [16, 17] rfl rfl rfl rfl [.inr 0, .inr 1, .inr 2, .inr 3, .inr 4, .inr 5, .inr 6, .inr 7, .inr 8, .inr 9, .inr 10, .inr 11, .inr 12, .inr 13, .inr 14, .inr 15, .inl 0, .inl 1, .inr 18, .inr 19, .inr 20, .inr 21, .inr 22, .inr 23, .inr 24, .inr 25] (by decide +kernel) rfl (q0 := 16) rfl (ci := 4) rfl g_Mesh_102 hd_Row_set rfl ⟨Nat.le_of_ble_eq_true rfl, Nat.le_of_ble_eq_true rfl⟩ ⟨Nat.zero_le _, Nat.zero_le _⟩ hl rfl (Nat.le_of_ble_eq_true rfl) dX2_unlink_41 (fun H locs hP hD hS => ?_)
  subst h
  exact W.vret hx hb hr (fun t ht hW => ⟨⟨rfl, by rw [ht]; exact hP⟩, hS.F ht⟩) hS.2.2 dX2_unlink_44 hlk
set_option maxHeartbeats 4000000 in
set_option maxRecDepth 100000 in
theorem c_Mesh_flip (l : Launch) (K : KT) (ad : Nat → Nat) (pxs : Nat → Int32) (pys : Nat → Int32) (plo : Nat → Int32) (phi : Nat → Int32) (pn : Int32) (pm : Int32) (lf : Nat → Int32) (th : Nat → Int32) (ow : Nat → Int32) (lk : Nat → Int32) (el : Nat → Int32) (eh : Nat → Int32) (co : Nat → Int32) (hu : Nat → Int32) (ne : Int32) (nt : Int32) (nh : Int32) (a0 : Int32) (a1 : Int32) : Wr l K 2 yX2_flip cX2_flip 5 none [.ref (ad 0), .int a0, .int a1] (wMesh K ad pxs pys plo phi pn pm lf th ow lk el eh co hu ne nt nh) none (wMesh K ad pxs pys plo phi pn pm lf ((s_Mesh_flip th lk a0 a1).1) ow ((s_Mesh_flip th lk a0 a1).2) el eh co hu ne nt nh) := by
  generalize h : s_Mesh_flip th lk a0 a1 = o
  refine Wr.of (by decide +kernel) (Nat.le_of_ble_eq_true rfl) ?_
  unfold s_Mesh_flip at h
  intro p e s m below meth c hx hb hr hml hown hts hlk H locs hP hG hD hS ls hl
  have C0 : Ctx p m c cX2_flip 5 s (Array.mk [.ref (ad 0), .int a0, .int a1]) RX2 K meth none := ⟨hx, hb, hml, hown, hts, hG, hr, hlk⟩
  have hl : lv_has ls 5 [(0, .ref (ad 0)), (1, .int a0), (2, .int a1)] := hl
  refine lv_aload_n (pc := 0) hx hb dX2_flip_0 rfl (lv_at hl 0 rfl) ?_
  refine va_get (D := K.1) (ci := 2) (v := .ref (ad 12)) (C := RX2) (T := TX2) (N := 12) (pc := 1) hx hb hts inT2 hown hG.1 hP 0 rfl rfl 2 (by decide) (hts _ qf_Mesh_24) (fun _ h9 => h9) rfl dX2_flip_1 ?_
  refine lv_iload_n (pc := 4) hx hb dX2_flip_4 rfl (lv_at hl 1 rfl) ?_
  refine lv_iload_n (pc := 5) hx hb dX2_flip_5 rfl (lv_at hl 2 rfl) ?_
  refine rdV (pc := 6) (As := [.int a0, .int a1]) (rest := []) hx hb hml hown hts hG hP (c_Tab_get l K (fun k => ad (k + 12)) (-1) th a0 a1) [12, 13] rfl (q0 := 12) rfl (ci := 5) rfl g_Mesh_140 hd_Tab_get rfl ⟨Nat.le_of_ble_eq_true rfl, Nat.le_of_ble_eq_true rfl⟩ ⟨Nat.zero_le _, Nat.zero_le _⟩ hl rfl (Nat.le_of_ble_eq_true rfl) dX2_flip_6 ?_
  refine lv_istore_n (pc := 9) (lv' := [(3, .int (s_Tab_get (-1) th a0 a1)), (0, .ref (ad 0)), (1, .int a0), (2, .int a1)]) hx hb dX2_flip_9 rfl hl (by decide) rfl (fun ls hl => ?_)
  refine lv_aload_n (pc := 10) hx hb dX2_flip_10 rfl (lv_at hl 1 rfl) ?_
  refine va_get (D := K.1) (ci := 2) (v := .ref (ad 12)) (C := RX2) (T := TX2) (N := 12) (pc := 11) hx hb hts inT2 hown hG.1 hP 0 rfl rfl 2 (by decide) (hts _ qf_Mesh_24) (fun _ h9 => h9) rfl dX2_flip_11 ?_
  refine lv_iload_n (pc := 14) hx hb dX2_flip_14 rfl (lv_at hl 3 rfl) ?_
  refine lv_iload_n (pc := 15) hx hb dX2_flip_15 rfl (lv_at hl 2 rfl) ?_
  refine rdV (pc := 16) (As := [.int a1, .int a0]) (rest := []) hx hb hml hown hts hG hP (c_Tab_get l K (fun k => ad (k + 12)) (-1) th a1 a0) [12, 13] rfl (q0 := 12) rfl (ci := 5) rfl g_Mesh_140 hd_Tab_get rfl ⟨Nat.le_of_ble_eq_true rfl, Nat.le_of_ble_eq_true rfl⟩ ⟨Nat.zero_le _, Nat.zero_le _⟩ hl rfl (Nat.le_of_ble_eq_true rfl) dX2_flip_16 ?_
  refine lv_istore (pc := 19) (lv' := [(4, .int (s_Tab_get (-1) th a1 a0)), (3, .int (s_Tab_get (-1) th a0 a1)), (0, .ref (ad 0)), (1, .int a0), (2, .int a1)]) hx hb dX2_flip_19 hl (by decide) rfl (fun ls hl => ?_)
  refine lv_aload_n (pc := 21) hx hb dX2_flip_21 rfl (lv_at hl 2 rfl) ?_
  refine lv_iload_n (pc := 22) hx hb dX2_flip_22 rfl (lv_at hl 3 rfl) ?_
  refine lv_iload_n (pc := 23) hx hb dX2_flip_23 rfl (lv_at hl 4 rfl) ?_
  refine wrVv (pc := 24) (As := [.int a0, .int a1]) (rest := []) (ws2 := wMesh K ad pxs pys plo phi pn pm lf th ow (s_Mesh_unlink lk a0 a1) el eh co hu ne nt nh) (as9 := [ad 0, ad 1, ad 2, ad 3, ad 4, ad 5, ad 6, ad 7, ad 8, ad 9, ad 10, ad 11, ad 12, ad 13, ad 14, ad 15, ad 16, ad 17, ad 18, ad 19, ad 20, ad 21, ad 22, ad 23, ad 24, ad 25]) hx hb hml hown hts hG hP hD hS (c_Mesh_unlink l K ad pxs pys plo phi pn pm lf th ow lk el eh co hu ne nt nh a0 a1) [0, 1, 2, 3, 4, 5, 6, 7, 8, 9, 10, 11, 12, 13, 14, 15, 16, 17, 18, 19, 20, 21, 22, 23, 24, 25] rfl rfl rfl rfl [.inl 0, .inl 1, .inl 2, .inl 3, .inl 4, .inl 5, .inl 6, .inl 7, .inl 8, .inl 9, .inl 10, .inl 11, .inl 12, .inl 13, .inl 14, .inl 15, .inl 16, .inl 17, .inl 18, .inl 19, .inl 20, .inl 21, .inl 22, .inl 23, .inl 24, .inl 25] (by decide +kernel) rfl (q0 := 0) rfl (ci := 2) rfl g_Mesh_158 hd_Mesh_unlink rfl ⟨Nat.le_of_ble_eq_true rfl, Nat.le_of_ble_eq_true rfl⟩ ⟨Nat.zero_le _, Nat.zero_le _⟩ hl rfl (Nat.le_of_ble_eq_true rfl) dX2_flip_24 (fun H locs hP hD hS => ?_)
  refine lv_aload_n (pc := 27) hx hb dX2_flip_27 rfl (lv_at hl 2 rfl) ?_
  refine lv_iload_n (pc := 28) hx hb dX2_flip_28 rfl (lv_at hl 1 rfl) ?_
  refine lv_iload (pc := 29) hx hb dX2_flip_29 (lv_at hl 0 rfl) ?_
  refine wrVv (pc := 31) (As := [.int (s_Tab_get (-1) th a0 a1), .int (s_Tab_get (-1) th a1 a0)]) (rest := []) (ws2 := wMesh K ad pxs pys plo phi pn pm lf th ow (s_Mesh_link (s_Mesh_unlink lk a0 a1) (s_Tab_get (-1) th a0 a1) (s_Tab_get (-1) th a1 a0)) el eh co hu ne nt nh) (as9 := [ad 0, ad 1, ad 2, ad 3, ad 4, ad 5, ad 6, ad 7, ad 8, ad 9, ad 10, ad 11, ad 12, ad 13, ad 14, ad 15, ad 16, ad 17, ad 18, ad 19, ad 20, ad 21, ad 22, ad 23, ad 24, ad 25]) hx hb hml hown hts hG hP hD hS (c_Mesh_link l K ad pxs pys plo phi pn pm lf th ow (s_Mesh_unlink lk a0 a1) el eh co hu ne nt nh (s_Tab_get (-1) th a0 a1) (s_Tab_get (-1) th a1 a0)) [0, 1, 2, 3, 4, 5, 6, 7, 8, 9, 10, 11, 12, 13, 14, 15, 16, 17, 18, 19, 20, 21, 22, 23, 24, 25] rfl rfl rfl rfl [.inl 0, .inl 1, .inl 2, .inl 3, .inl 4, .inl 5, .inl 6, .inl 7, .inl 8, .inl 9, .inl 10, .inl 11, .inl 12, .inl 13, .inl 14, .inl 15, .inl 16, .inl 17, .inl 18, .inl 19, .inl 20, .inl 21, .inl 22, .inl 23, .inl 24, .inl 25] (by decide +kernel) rfl (q0 := 0) rfl (ci := 2) rfl g_Mesh_134 hd_Mesh_link rfl ⟨Nat.le_of_ble_eq_true rfl, Nat.le_of_ble_eq_true rfl⟩ ⟨Nat.zero_le _, Nat.zero_le _⟩ hl rfl (Nat.le_of_ble_eq_true rfl) dX2_flip_31 (fun H locs hP hD hS => ?_)
  refine lv_aload_n (pc := 34) hx hb dX2_flip_34 rfl (lv_at hl 2 rfl) ?_
  refine va_get (D := K.1) (ci := 2) (v := .ref (ad 12)) (C := RX2) (T := TX2) (N := 12) (pc := 35) hx hb hts inT2 hown hG.1 hP 0 rfl rfl 2 (by decide) (hts _ qf_Mesh_24) (fun _ h9 => h9) rfl dX2_flip_35 ?_
  refine lv_iload_n (pc := 38) hx hb dX2_flip_38 rfl (lv_at hl 3 rfl) ?_
  refine lv_iload_n (pc := 39) hx hb dX2_flip_39 rfl (lv_at hl 4 rfl) ?_
  refine lv_iconst (v := (-1 : Int32)) (pc := 40) hx hb dX2_flip_40 (by decide) ?_
  refine wrVv (pc := 41) (As := [.int a0, .int a1, .int (-1 : Int32)]) (rest := []) (ws2 := wMesh K ad pxs pys plo phi pn pm lf (s_Tab_set th a0 a1 (-1 : Int32)) ow (s_Mesh_link (s_Mesh_unlink lk a0 a1) (s_Tab_get (-1) th a0 a1) (s_Tab_get (-1) th a1 a0)) el eh co hu ne nt nh) (as9 := [ad 12, ad 13]) hx hb hml hown hts hG hP hD hS (c_Tab_set l K (fun k => ad (k + 12)) (-1) th a0 a1 (-1 : Int32)) [12, 13] rfl rfl rfl rfl [.inr 0, .inr 1, .inr 2, .inr 3, .inr 4, .inr 5, .inr 6, .inr 7, .inr 8, .inr 9, .inr 10, .inr 11, .inl 0, .inl 1, .inr 14, .inr 15, .inr 16, .inr 17, .inr 18, .inr 19, .inr 20, .inr 21, .inr 22, .inr 23, .inr 24, .inr 25] (by decide +kernel) rfl (q0 := 12) rfl (ci := 5) rfl g_Mesh_98 hd_Tab_set rfl ⟨Nat.le_of_ble_eq_true rfl, Nat.le_of_ble_eq_true rfl⟩ ⟨Nat.zero_le _, Nat.zero_le _⟩ hl rfl (Nat.le_of_ble_eq_true rfl) dX2_flip_41 (fun H locs hP hD hS => ?_)
  refine lv_aload_n (pc := 44) hx hb dX2_flip_44 rfl (lv_at hl 2 rfl) ?_
  refine va_get (D := K.1) (ci := 2) (v := .ref (ad 12)) (C := RX2) (T := TX2) (N := 12) (pc := 45) hx hb hts inT2 hown hG.1 hP 0 rfl rfl 2 (by decide) (hts _ qf_Mesh_24) (fun _ h9 => h9) rfl dX2_flip_45 ?_
  refine lv_iload_n (pc := 48) hx hb dX2_flip_48 rfl (lv_at hl 4 rfl) ?_
  refine lv_iload_n (pc := 49) hx hb dX2_flip_49 rfl (lv_at hl 3 rfl) ?_
  refine lv_iconst (v := (-1 : Int32)) (pc := 50) hx hb dX2_flip_50 (by decide) ?_
  refine wrVv (pc := 51) (As := [.int a1, .int a0, .int (-1 : Int32)]) (rest := []) (ws2 := wMesh K ad pxs pys plo phi pn pm lf (s_Tab_set (s_Tab_set th a0 a1 (-1 : Int32)) a1 a0 (-1 : Int32)) ow (s_Mesh_link (s_Mesh_unlink lk a0 a1) (s_Tab_get (-1) th a0 a1) (s_Tab_get (-1) th a1 a0)) el eh co hu ne nt nh) (as9 := [ad 12, ad 13]) hx hb hml hown hts hG hP hD hS (c_Tab_set l K (fun k => ad (k + 12)) (-1) (s_Tab_set th a0 a1 (-1 : Int32)) a1 a0 (-1 : Int32)) [12, 13] rfl rfl rfl rfl [.inr 0, .inr 1, .inr 2, .inr 3, .inr 4, .inr 5, .inr 6, .inr 7, .inr 8, .inr 9, .inr 10, .inr 11, .inl 0, .inl 1, .inr 14, .inr 15, .inr 16, .inr 17, .inr 18, .inr 19, .inr 20, .inr 21, .inr 22, .inr 23, .inr 24, .inr 25] (by decide +kernel) rfl (q0 := 12) rfl (ci := 5) rfl g_Mesh_98 hd_Tab_set rfl ⟨Nat.le_of_ble_eq_true rfl, Nat.le_of_ble_eq_true rfl⟩ ⟨Nat.zero_le _, Nat.zero_le _⟩ hl rfl (Nat.le_of_ble_eq_true rfl) dX2_flip_51 (fun H locs hP hD hS => ?_)
  refine lv_aload_n (pc := 54) hx hb dX2_flip_54 rfl (lv_at hl 2 rfl) ?_
  refine va_get (D := K.1) (ci := 2) (v := .ref (ad 12)) (C := RX2) (T := TX2) (N := 12) (pc := 55) hx hb hts inT2 hown hG.1 hP 0 rfl rfl 2 (by decide) (hts _ qf_Mesh_24) (fun _ h9 => h9) rfl dX2_flip_55 ?_
  refine lv_iload_n (pc := 58) hx hb dX2_flip_58 rfl (lv_at hl 3 rfl) ?_
  refine lv_iload (pc := 59) hx hb dX2_flip_59 (lv_at hl 0 rfl) ?_
  refine lv_iload_n (pc := 61) hx hb dX2_flip_61 rfl (lv_at hl 1 rfl) ?_
  refine wrVv (pc := 62) (As := [.int a0, .int (s_Tab_get (-1) th a1 a0), .int (s_Tab_get (-1) th a0 a1)]) (rest := []) (ws2 := wMesh K ad pxs pys plo phi pn pm lf (s_Tab_turnRound (s_Tab_set (s_Tab_set th a0 a1 (-1 : Int32)) a1 a0 (-1 : Int32)) a0 (s_Tab_get (-1) th a1 a0) (s_Tab_get (-1) th a0 a1)) ow (s_Mesh_link (s_Mesh_unlink lk a0 a1) (s_Tab_get (-1) th a0 a1) (s_Tab_get (-1) th a1 a0)) el eh co hu ne nt nh) (as9 := [ad 12, ad 13]) hx hb hml hown hts hG hP hD hS (c_Tab_turnRound l K (fun k => ad (k + 12)) (-1) (s_Tab_set (s_Tab_set th a0 a1 (-1 : Int32)) a1 a0 (-1 : Int32)) a0 (s_Tab_get (-1) th a1 a0) (s_Tab_get (-1) th a0 a1)) [12, 13] rfl rfl rfl rfl [.inr 0, .inr 1, .inr 2, .inr 3, .inr 4, .inr 5, .inr 6, .inr 7, .inr 8, .inr 9, .inr 10, .inr 11, .inl 0, .inl 1, .inr 14, .inr 15, .inr 16, .inr 17, .inr 18, .inr 19, .inr 20, .inr 21, .inr 22, .inr 23, .inr 24, .inr 25] (by decide +kernel) rfl (q0 := 12) rfl (ci := 5) rfl g_Mesh_161 hd_Tab_turnRound rfl ⟨Nat.le_of_ble_eq_true rfl, Nat.le_of_ble_eq_true rfl⟩ ⟨Nat.zero_le _, Nat.zero_le _⟩ hl rfl (Nat.le_of_ble_eq_true rfl) dX2_flip_62 (fun H locs hP hD hS => ?_)
  refine lv_aload_n (pc := 65) hx hb dX2_flip_65 rfl (lv_at hl 2 rfl) ?_
  refine va_get (D := K.1) (ci := 2) (v := .ref (ad 12)) (C := RX2) (T := TX2) (N := 12) (pc := 66) hx hb hts inT2 hown hG.1 hP 0 rfl rfl 2 (by decide) (hts _ qf_Mesh_24) (fun _ h9 => h9) rfl dX2_flip_66 ?_
  refine lv_iload (pc := 69) hx hb dX2_flip_69 (lv_at hl 0 rfl) ?_
  refine lv_iload_n (pc := 71) hx hb dX2_flip_71 rfl (lv_at hl 4 rfl) ?_
  refine lv_iload_n (pc := 72) hx hb dX2_flip_72 rfl (lv_at hl 1 rfl) ?_
  refine wrVv (pc := 73) (As := [.int (s_Tab_get (-1) th a1 a0), .int a1, .int (s_Tab_get (-1) th a0 a1)]) (rest := []) (ws2 := wMesh K ad pxs pys plo phi pn pm lf (s_Tab_turnRound (s_Tab_turnRound (s_Tab_set (s_Tab_set th a0 a1 (-1 : Int32)) a1 a0 (-1 : Int32)) a0 (s_Tab_get (-1) th a1 a0) (s_Tab_get (-1) th a0 a1)) (s_Tab_get (-1) th a1 a0) a1 (s_Tab_get (-1) th a0 a1)) ow (s_Mesh_link (s_Mesh_unlink lk a0 a1) (s_Tab_get (-1) th a0 a1) (s_Tab_get (-1) th a1 a0)) el eh co hu ne nt nh) (as9 := [ad 12, ad 13]) hx hb hml hown hts hG hP hD hS (c_Tab_turnRound l K (fun k => ad (k + 12)) (-1) (s_Tab_turnRound (s_Tab_set (s_Tab_set th a0 a1 (-1 : Int32)) a1 a0 (-1 : Int32)) a0 (s_Tab_get (-1) th a1 a0) (s_Tab_get (-1) th a0 a1)) (s_Tab_get (-1) th a1 a0) a1 (s_Tab_get (-1) th a0 a1)) [12, 13] rfl rfl rfl rfl [.inr 0, .inr 1, .inr 2, .inr 3, .inr 4, .inr 5, .inr 6, .inr 7, .inr 8, .inr 9, .inr 10, .inr 11, .inl 0, .inl 1, .inr 14, .inr 15, .inr 16, .inr 17, .inr 18, .inr 19, .inr 20, .inr 21, .inr 22, .inr 23, .inr 24, .inr 25] (by decide +kernel) rfl (q0 := 12) rfl (ci := 5) rfl g_Mesh_161 hd_Tab_turnRound rfl ⟨Nat.le_of_ble_eq_true rfl, Nat.le_of_ble_eq_true rfl⟩ ⟨Nat.zero_le _, Nat.zero_le _⟩ hl rfl (Nat.le_of_ble_eq_true rfl) dX2_flip_73 (fun H locs hP hD hS => ?_)
  subst h
  exact W.vret hx hb hr (fun t ht hW => ⟨⟨rfl, by rw [ht]; exact hP⟩, hS.F ht⟩) hS.2.2 dX2_flip_76 hlk
set_option maxHeartbeats 4000000 in
set_option maxRecDepth 100000 in
theorem l_Mesh_flipBadEdges_L19 {p : Program} {l : Launch} {e : Env} {s : State} {m : MethodId} {args : Array Value} {below : List Frame} {meth : Method} {c : Code} {Q : State → Prop} {K : KT} {A : Nat → Prop} (C0 : Ctx p m c cX2_flipBadEdges 4 s args RX2 K meth (some .boolean)) (F : Nat) (ad : Nat → Nat) (pxs : Nat → Int32) (pys : Nat → Int32) (plo : Nat → Int32) (phi : Nat → Int32) (pn : Int32) (pm : Int32) (lf : Nat → Int32) (ow : Nat → Int32) (el : Nat → Int32) (eh : Nat → Int32) (co : Nat → Int32) (hu : Nat → Int32) (ne : Int32) (nt : Int32) (nh : Int32) (x2 : Int32)  : ∀ (n : Nat) (x1 : Int32) (x3 : Int32) (th : Nat → Int32) (lk : Nat → Int32) (out : Int32 × Int32 × (Nat → Int32) × (Nat → Int32)), s_Mesh_flipBadEdges_L19 F pxs pys plo phi pn pm x2 n x1 x3 th lk = some out → ∀ (H : Heap) (locs : List Loc) (ls : Array Slot), va_P K.1 vC (wMesh K ad pxs pys plo phi pn pm lf th ow lk el eh co hu ne nt nh) H → va_D A (wMesh K ad pxs pys plo phi pn pm lf th ow lk el eh co hu ne nt nh) → va_S A s.heap H locs → lv_has ls 4 [(0, .ref (ad 0)), (1, .int x1), (2, .int x2), (3, .int x3)] → (∀ (o : Int32 × Int32 × (Nat → Int32) × (Nat → Int32)) (H : Heap) (locs : List Loc) (ls : Array Slot), out = o → va_P K.1 vC (wMesh K ad pxs pys plo phi pn pm lf o.2.2.1 ow o.2.2.2 el eh co hu ne nt nh) H → va_D A (wMesh K ad pxs pys plo phi pn pm lf o.2.2.1 ow o.2.2.2 el eh co hu ne nt nh) → va_S A s.heap H locs → lv_has ls 4 [(0, .ref (ad 0)), (1, .int o.1), (2, .int x2), (3, .int o.2.1)] → W p l e (rmL 5) s m args below meth c H locs 0 0 Q (F0 m 74 ls [])) → W p l e (rmL 5) s m args below meth c H locs 0 0 Q (F0 m 19 ls []) := by
  obtain ⟨hx, hb, hml, hown, hts, hG, hr, hlk⟩ := id C0
  intro n
  induction n with
  | zero =>
    intro x1 x3 th lk out h
    cases h
  | succ n ih =>
    intro x1 x3 th lk out h H locs ls hP hD hS hl Kx 
    rw [s_Mesh_flipBadEdges_L19.eq_2] at h
    refine lv_iload_n (pc := 19) hx hb dX2_flipBadEdges_19 rfl (lv_at hl 3 rfl) ?_
    refine lv_aload_n (pc := 20) hx hb dX2_flipBadEdges_20 rfl (lv_at hl 0 rfl) ?_
    refine va_get (D := K.1) (ci := 2) (v := .ref (ad 1)) (C := RX2) (T := TX2) (N := 12) (pc := 21) hx hb hts inT2 hown hG.1 hP 0 rfl rfl 0 (by decide) (hts _ qf_Mesh_9) (fun _ h9 => h9) rfl dX2_flipBadEdges_21 ?_
    refine rdV (pc := 24) (As := []) (rest := [.int x3]) hx hb hml hown hts hG hP (c_Plan_points l K (fun k => ad (k + 1)) pxs pys plo phi pn pm) [1, 2, 3, 4, 5, 6, 7, 8, 9] rfl (q0 := 1) rfl (ci := 3) rfl g_Mesh_84 hd_Plan_points rfl ⟨Nat.le_of_ble_eq_true rfl, Nat.le_of_ble_eq_true rfl⟩ ⟨Nat.zero_le _, Nat.zero_le _⟩ hl rfl (Nat.le_of_ble_eq_true rfl) dX2_flipBadEdges_24 ?_
    refine lv_icmp_ge (tgt := 74) (pc := 27) hx hb dX2_flipBadEdges_27 (by decide) (fun c2 => ?_) (fun c2 => ?_)
    · have h := it_t c2 h
      obtain rfl := Option.some.inj h
      exact Kx _ H locs ls rfl hP hD hS (lv_sub hl [0, 1, 2, 3] rfl)
    · have h := it_f c2 h
      refine lv_aload_n (pc := 30) hx hb dX2_flipBadEdges_30 rfl (lv_at hl 0 rfl) ?_
      refine lv_iload_n (pc := 31) hx hb dX2_flipBadEdges_31 rfl (lv_at hl 2 rfl) ?_
      refine lv_iload_n (pc := 32) hx hb dX2_flipBadEdges_32 rfl (lv_at hl 3 rfl) ?_
      refine rdV (pc := 33) (As := [.int x2, .int x3]) (rest := []) hx hb hml hown hts hG hP (c_Mesh_isInner l K ad pxs pys plo phi pn pm lf th ow lk el eh co hu ne nt nh x2 x3) [0, 1, 2, 3, 4, 5, 6, 7, 8, 9, 10, 11, 12, 13, 14, 15, 16, 17, 18, 19, 20, 21, 22, 23, 24, 25] rfl (q0 := 0) rfl (ci := 2) rfl g_Mesh_146 hd_Mesh_isInner rfl ⟨Nat.le_of_ble_eq_true rfl, Nat.le_of_ble_eq_true rfl⟩ ⟨Nat.zero_le _, Nat.zero_le _⟩ hl rfl (Nat.le_of_ble_eq_true rfl) dX2_flipBadEdges_33 ?_
      refine lv_if_eq (tgt := 68) (pc := 36) hx hb dX2_flipBadEdges_36 (by decide) (fun c3 => ?_) (fun c3 => ?_)
      · have h := it_t c3 h
        refine lv_iinc (v := (x3 + (1 : Int32))) (pc := 68) (lv' := [(3, .int (x3 + (1 : Int32))), (0, .ref (ad 0)), (1, .int x1), (2, .int x2)]) hx hb dX2_flipBadEdges_68 hl (k := 3) rfl rfl (by decide) rfl (fun ls hl => ?_)
        refine lv_goto (tgt := 19) (pc := 71) hx hb dX2_flipBadEdges_71 (by decide) ?_
        exact ih x1 (x3 + (1 : Int32)) th lk out h H locs ls hP hD hS (lv_sub hl [1, 2, 3, 0] rfl) Kx 
      · have h := it_f c3 h
        refine lv_aload_n (pc := 39) hx hb dX2_flipBadEdges_39 rfl (lv_at hl 0 rfl) ?_
        refine lv_iload_n (pc := 40) hx hb dX2_flipBadEdges_40 rfl (lv_at hl 2 rfl) ?_
        refine lv_iload_n (pc := 41) hx hb dX2_flipBadEdges_41 rfl (lv_at hl 3 rfl) ?_
        refine rdV (pc := 42) (As := [.int x2, .int x3]) (rest := []) hx hb hml hown hts hG hP (c_Mesh_passesCircle l K ad pxs pys plo phi pn pm lf th ow lk el eh co hu ne nt nh x2 x3) [0, 1, 2, 3, 4, 5, 6, 7, 8, 9, 10, 11, 12, 13, 14, 15, 16, 17, 18, 19, 20, 21, 22, 23, 24, 25] rfl (q0 := 0) rfl (ci := 2) rfl g_Mesh_149 hd_Mesh_passesCircle rfl ⟨Nat.le_of_ble_eq_true rfl, Nat.le_of_ble_eq_true rfl⟩ ⟨Nat.zero_le _, Nat.zero_le _⟩ hl rfl (Nat.le_of_ble_eq_true rfl) dX2_flipBadEdges_42 ?_
        refine lv_if_ne (tgt := 68) (pc := 45) hx hb dX2_flipBadEdges_45 (by decide) (fun c4 => ?_) (fun c4 => ?_)
        · have h := it_f c4 h
          refine lv_iinc (v := (x3 + (1 : Int32))) (pc := 68) (lv' := [(3, .int (x3 + (1 : Int32))), (0, .ref (ad 0)), (1, .int x1), (2, .int x2)]) hx hb dX2_flipBadEdges_68 hl (k := 3) rfl rfl (by decide) rfl (fun ls hl => ?_)
          refine lv_goto (tgt := 19) (pc := 71) hx hb dX2_flipBadEdges_71 (by decide) ?_
          exact ih x1 (x3 + (1 : Int32)) th lk out h H locs ls hP hD hS (lv_sub hl [1, 2, 3, 0] rfl) Kx 
        · have h := it_t c4 h
          refine lv_aload_n (pc := 48) hx hb dX2_flipBadEdges_48 rfl (lv_at hl 0 rfl) ?_
          refine va_get (D := K.1) (ci := 2) (v := .ref (ad 1)) (C := RX2) (T := TX2) (N := 12) (pc := 49) hx hb hts inT2 hown hG.1 hP 0 rfl rfl 0 (by decide) (hts _ qf_Mesh_9) (fun _ h9 => h9) rfl dX2_flipBadEdges_49 ?_
          refine lv_iload_n (pc := 52) hx hb dX2_flipBadEdges_52 rfl (lv_at hl 2 rfl) ?_
          refine lv_iload_n (pc := 53) hx hb dX2_flipBadEdges_53 rfl (lv_at hl 3 rfl) ?_
          obtain ⟨v5, h_v5, h⟩ := ob h
          refine rdV (pc := 54) (As := [.int x2, .int x3]) (rest := []) hx hb hml hown hts hG hP (c_Plan_isConstraint l K (fun k => ad (k + 1)) pxs pys plo phi pn pm x2 x3 F h_v5) [1, 2, 3, 4, 5, 6, 7, 8, 9] rfl (q0 := 1) rfl (ci := 3) rfl g_Mesh_152 hd_Plan_isConstraint rfl ⟨Nat.le_of_ble_eq_true rfl, Nat.le_of_ble_eq_true rfl⟩ ⟨Nat.zero_le _, Nat.zero_le _⟩ hl rfl (Nat.le_of_ble_eq_true rfl) dX2_flipBadEdges_54 ?_
          refine lv_if_ne (tgt := 68) (pc := 57) hx hb dX2_flipBadEdges_57 (by decide) (fun c6 => ?_) (fun c6 => ?_)
          · have h := it_f c6 h
            refine lv_iinc (v := (x3 + (1 : Int32))) (pc := 68) (lv' := [(3, .int (x3 + (1 : Int32))), (0, .ref (ad 0)), (1, .int x1), (2, .int x2)]) hx hb dX2_flipBadEdges_68 hl (k := 3) rfl rfl (by decide) rfl (fun ls hl => ?_)
            refine lv_goto (tgt := 19) (pc := 71) hx hb dX2_flipBadEdges_71 (by decide) ?_
            exact ih x1 (x3 + (1 : Int32)) th lk out h H locs ls hP hD hS (lv_sub hl [1, 2, 3, 0] rfl) Kx 
          · have h := it_t c6 h
            refine lv_aload_n (pc := 60) hx hb dX2_flipBadEdges_60 rfl (lv_at hl 0 rfl) ?_
            refine lv_iload_n (pc := 61) hx hb dX2_flipBadEdges_61 rfl (lv_at hl 2 rfl) ?_
            refine lv_iload_n (pc := 62) hx hb dX2_flipBadEdges_62 rfl (lv_at hl 3 rfl) ?_
            refine wrVv (pc := 63) (As := [.int x2, .int x3]) (rest := []) (ws2 := wMesh K ad pxs pys plo phi pn pm lf ((s_Mesh_flip th lk x2 x3).1) ow ((s_Mesh_flip th lk x2 x3).2) el eh co hu ne nt nh) (as9 := [ad 0, ad 1, ad 2, ad 3, ad 4, ad 5, ad 6, ad 7, ad 8, ad 9, ad 10, ad 11, ad 12, ad 13, ad 14, ad 15, ad 16, ad 17, ad 18, ad 19, ad 20, ad 21, ad 22, ad 23, ad 24, ad 25]) hx hb hml hown hts hG hP hD hS (c_Mesh_flip l K ad pxs pys plo phi pn pm lf th ow lk el eh co hu ne nt nh x2 x3) [0, 1, 2, 3, 4, 5, 6, 7, 8, 9, 10, 11, 12, 13, 14, 15, 16, 17, 18, 19, 20, 21, 22, 23, 24, 25] rfl rfl rfl rfl [.inl 0, .inl 1, .inl 2, .inl 3, .inl 4, .inl 5, .inl 6, .inl 7, .inl 8, .inl 9, .inl 10, .inl 11, .inl 12, .inl 13, .inl 14, .inl 15, .inl 16, .inl 17, .inl 18, .inl 19, .inl 20, .inl 21, .inl 22, .inl 23, .inl 24, .inl 25] (by decide +kernel) rfl (q0 := 0) rfl (ci := 2) rfl g_Mesh_155 hd_Mesh_flip rfl ⟨Nat.le_of_ble_eq_true rfl, Nat.le_of_ble_eq_true rfl⟩ ⟨Nat.zero_le _, Nat.zero_le _⟩ hl rfl (Nat.le_of_ble_eq_true rfl) dX2_flipBadEdges_63 (fun H locs hP hD hS => ?_)
            refine lv_iconst (v := (1 : Int32)) (pc := 66) hx hb dX2_flipBadEdges_66 (by decide) ?_
            refine lv_istore_n (pc := 67) (lv' := [(1, .int (1 : Int32)), (0, .ref (ad 0)), (2, .int x2), (3, .int x3)]) hx hb dX2_flipBadEdges_67 rfl hl (by decide) rfl (fun ls hl => ?_)
            refine lv_iinc (v := (x3 + (1 : Int32))) (pc := 68) (lv' := [(3, .int (x3 + (1 : Int32))), (1, .int (1 : Int32)), (0, .ref (ad 0)), (2, .int x2)]) hx hb dX2_flipBadEdges_68 hl (k := 3) rfl rfl (by decide) rfl (fun ls hl => ?_)
            refine lv_goto (tgt := 19) (pc := 71) hx hb dX2_flipBadEdges_71 (by decide) ?_
            exact ih (1 : Int32) (x3 + (1 : Int32)) ((s_Mesh_flip th lk x2 x3).1) ((s_Mesh_flip th lk x2 x3).2) out h H locs ls hP hD hS (lv_sub hl [2, 1, 3, 0] rfl) Kx 
set_option maxHeartbeats 4000000 in
set_option maxRecDepth 100000 in
theorem l_Mesh_flipBadEdges_L4 {p : Program} {l : Launch} {e : Env} {s : State} {m : MethodId} {args : Array Value} {below : List Frame} {meth : Method} {c : Code} {Q : State → Prop} {K : KT} {A : Nat → Prop} (C0 : Ctx p m c cX2_flipBadEdges 4 s args RX2 K meth (some .boolean)) (F : Nat) (ad : Nat → Nat) (pxs : Nat → Int32) (pys : Nat → Int32) (plo : Nat → Int32) (phi : Nat → Int32) (pn : Int32) (pm : Int32) (lf : Nat → Int32) (ow : Nat → Int32) (el : Nat → Int32) (eh : Nat → Int32) (co : Nat → Int32) (hu : Nat → Int32) (ne : Int32) (nt : Int32) (nh : Int32)  : ∀ (n : Nat) (x1 : Int32) (x2 : Int32) (th : Nat → Int32) (lk : Nat → Int32) (out : Int32 × Int32 × (Nat → Int32) × (Nat → Int32)), s_Mesh_flipBadEdges_L4 F pxs pys plo phi pn pm n x1 x2 th lk = some out → ∀ (H : Heap) (locs : List Loc) (ls : Array Slot), va_P K.1 vC (wMesh K ad pxs pys plo phi pn pm lf th ow lk el eh co hu ne nt nh) H → va_D A (wMesh K ad pxs pys plo phi pn pm lf th ow lk el eh co hu ne nt nh) → va_S A s.heap H locs → lv_has ls 4 [(0, .ref (ad 0)), (1, .int x1), (2, .int x2)] → (∀ (o : Int32 × Int32 × (Nat → Int32) × (Nat → Int32)) (H : Heap) (locs : List Loc) (ls : Array Slot), out = o → va_P K.1 vC (wMesh K ad pxs pys plo phi pn pm lf o.2.2.1 ow o.2.2.2 el eh co hu ne nt nh) H → va_D A (wMesh K ad pxs pys plo phi pn pm lf o.2.2.1 ow o.2.2.2 el eh co hu ne nt nh) → va_S A s.heap H locs → lv_has ls 4 [(0, .ref (ad 0)), (1, .int o.1), (2, .int o.2.1)] → W p l e (rmL 5) s m args below meth c H locs 0 0 Q (F0 m 80 ls [])) → W p l e (rmL 5) s m args below meth c H locs 0 0 Q (F0 m 4 ls []) := by
  obtain ⟨hx, hb, hml, hown, hts, hG, hr, hlk⟩ := id C0
  intro n
  induction n with
  | zero =>
    intro x1 x2 th lk out h
    cases h
  | succ n ih =>
    intro x1 x2 th lk out h H locs ls hP hD hS hl Kx 
    rw [s_Mesh_flipBadEdges_L4.eq_2] at h
    refine lv_iload_n (pc := 4) hx hb dX2_flipBadEdges_4 rfl (lv_at hl 2 rfl) ?_
    refine lv_aload_n (pc := 5) hx hb dX2_flipBadEdges_5 rfl (lv_at hl 0 rfl) ?_
    refine va_get (D := K.1) (ci := 2) (v := .ref (ad 1)) (C := RX2) (T := TX2) (N := 12) (pc := 6) hx hb hts inT2 hown hG.1 hP 0 rfl rfl 0 (by decide) (hts _ qf_Mesh_9) (fun _ h9 => h9) rfl dX2_flipBadEdges_6 ?_
    refine rdV (pc := 9) (As := []) (rest := [.int x2]) hx hb hml hown hts hG hP (c_Plan_points l K (fun k => ad (k + 1)) pxs pys plo phi pn pm) [1, 2, 3, 4, 5, 6, 7, 8, 9] rfl (q0 := 1) rfl (ci := 3) rfl g_Mesh_84 hd_Plan_points rfl ⟨Nat.le_of_ble_eq_true rfl, Nat.le_of_ble_eq_true rfl⟩ ⟨Nat.zero_le _, Nat.zero_le _⟩ hl rfl (Nat.le_of_ble_eq_true rfl) dX2_flipBadEdges_9 ?_
    refine lv_icmp_ge (tgt := 80) (pc := 12) hx hb dX2_flipBadEdges_12 (by decide) (fun c1 => ?_) (fun c1 => ?_)
    · have h := it_t c1 h
      obtain rfl := Option.some.inj h
      exact Kx _ H locs ls rfl hP hD hS (lv_sub hl [0, 1, 2] rfl)
    · have h := it_f c1 h
      refine lv_iload_n (pc := 15) hx hb dX2_flipBadEdges_15 rfl (lv_at hl 2 rfl) ?_
      refine lv_iconst (v := (1 : Int32)) (pc := 16) hx hb dX2_flipBadEdges_16 (by decide) ?_
      refine lv_iadd (pc := 17) hx hb dX2_flipBadEdges_17 ?_
      refine lv_istore_n (pc := 18) (lv' := [(3, .int (x2 + (1 : Int32))), (0, .ref (ad 0)), (1, .int x1), (2, .int x2)]) hx hb dX2_flipBadEdges_18 rfl hl (by decide) rfl (fun ls hl => ?_)
      obtain ⟨o7, h_o7, h⟩ := ob h
      refine l_Mesh_flipBadEdges_L19 C0 F ad pxs pys plo phi pn pm lf ow el eh co hu ne nt nh x2 F x1 (x2 + (1 : Int32)) th lk _ h_o7 H locs ls hP hD hS (lv_sub hl [1, 2, 3, 0] rfl) (fun o7x H locs ls eo hP hD hS hl => ?_)
      subst o7
      refine lv_iinc (v := (x2 + (1 : Int32))) (pc := 74) (lv' := [(2, .int (x2 + (1 : Int32))), (0, .ref (ad 0)), (1, .int o7x.1), (3, .int o7x.2.1)]) hx hb dX2_flipBadEdges_74 hl (k := 2) rfl rfl (by decide) rfl (fun ls hl => ?_)
      refine lv_goto (tgt := 4) (pc := 77) hx hb dX2_flipBadEdges_77 (by decide) ?_
      exact ih o7x.1 (x2 + (1 : Int32)) o7x.2.2.1 o7x.2.2.2 out h H locs ls hP hD hS (lv_sub hl [1, 2, 0] rfl) Kx 
set_option maxHeartbeats 4000000 in
set_option maxRecDepth 100000 in
theorem c_Mesh_flipBadEdges (l : Launch) (K : KT) (ad : Nat → Nat) (pxs : Nat → Int32) (pys : Nat → Int32) (plo : Nat → Int32) (phi : Nat → Int32) (pn : Int32) (pm : Int32) (lf : Nat → Int32) (th : Nat → Int32) (ow : Nat → Int32) (lk : Nat → Int32) (el : Nat → Int32) (eh : Nat → Int32) (co : Nat → Int32) (hu : Nat → Int32) (ne : Int32) (nt : Int32) (nh : Int32) (F : Nat) {o : Bool × (Nat → Int32) × (Nat → Int32)} (h : s_Mesh_flipBadEdges F pxs pys plo phi pn pm th lk = some o) : Wr l K 5 yX2_flipBadEdges cX2_flipBadEdges 4 (some .boolean) [.ref (ad 0)] (wMesh K ad pxs pys plo phi pn pm lf th ow lk el eh co hu ne nt nh) (some (.int (bI o.1))) (wMesh K ad pxs pys plo phi pn pm lf o.2.1 ow o.2.2 el eh co hu ne nt nh) := by
  refine Wr.of (by decide +kernel) (Nat.le_of_ble_eq_true rfl) ?_
  unfold s_Mesh_flipBadEdges at h
  intro p e s m below meth c hx hb hr hml hown hts hlk H locs hP hG hD hS ls hl
  have C0 : Ctx p m c cX2_flipBadEdges 4 s (Array.mk [.ref (ad 0)]) RX2 K meth (some .boolean) := ⟨hx, hb, hml, hown, hts, hG, hr, hlk⟩
  have hl : lv_has ls 4 [(0, .ref (ad 0))] := hl
  refine lv_iconst (v := (0 : Int32)) (pc := 0) hx hb dX2_flipBadEdges_0 (by decide) ?_
  refine lv_istore_n (pc := 1) (lv' := [(1, .int (0 : Int32)), (0, .ref (ad 0))]) hx hb dX2_flipBadEdges_1 rfl hl (by decide) rfl (fun ls hl => ?_)
  refine lv_iconst (v := (0 : Int32)) (pc := 2) hx hb dX2_flipBadEdges_2 (by decide) ?_
  refine lv_istore_n (pc := 3) (lv' := [(2, .int (0 : Int32)), (1, .int (0 : Int32)), (0, .ref (ad 0))]) hx hb dX2_flipBadEdges_3 rfl hl (by decide) rfl (fun ls hl => ?_)
  obtain ⟨o8, h_o8, h⟩ := ob h
  refine l_Mesh_flipBadEdges_L4 C0 F ad pxs pys plo phi pn pm lf ow el eh co hu ne nt nh F (0 : Int32) (0 : Int32) th lk _ h_o8 H locs ls hP hD hS (lv_sub hl [2, 1, 0] rfl) (fun o8x H locs ls eo hP hD hS hl => ?_)
  subst o8
  refine lv_iload_n (pc := 80) hx hb dX2_flipBadEdges_80 rfl (lv_at hl 1 rfl) ?_
  by_cases c9 : o8x.1 = 0
  · have h := it_t c9 h
    obtain rfl := Option.some.inj h
    rw [c9]
    exact W.zret hx hb hr (rfl) (fun t ht hW => ⟨⟨rfl, by rw [ht]; exact hP⟩, hS.F ht⟩) hS.2.2 dX2_flipBadEdges_81 hlk
  · have h := it_f c9 h
    by_cases c10 : o8x.1 = 1
    · have h := it_t c10 h
      obtain rfl := Option.some.inj h
      rw [c10]
      exact W.zret hx hb hr (rfl) (fun t ht hW => ⟨⟨rfl, by rw [ht]; exact hP⟩, hS.F ht⟩) hS.2.2 dX2_flipBadEdges_81 hlk
    · have h := it_f c10 h
      cases h
set_option maxHeartbeats 4000000 in
set_option maxRecDepth 100000 in
theorem l_Mesh_numberEdges_L22 {p : Program} {l : Launch} {e : Env} {s : State} {m : MethodId} {args : Array Value} {below : List Frame} {meth : Method} {c : Code} {Q : State → Prop} {K : KT} {A : Nat → Prop} (C0 : Ctx p m c cX2_numberEdges 3 s args RX2 K meth none) (F : Nat) (ad : Nat → Nat) (pxs : Nat → Int32) (pys : Nat → Int32) (plo : Nat → Int32) (phi : Nat → Int32) (pn : Int32) (pm : Int32) (lf : Nat → Int32) (th : Nat → Int32) (ow : Nat → Int32) (lk : Nat → Int32) (co : Nat → Int32) (hu : Nat → Int32) (nt : Int32) (nh : Int32) (x1 : Int32)  : ∀ (n : Nat) (x2 : Int32) (el : Nat → Int32) (eh : Nat → Int32) (ne : Int32) (out : Int32 × (Nat → Int32) × (Nat → Int32) × Int32), s_Mesh_numberEdges_L22 pn lk x1 n x2 el eh ne = some out → ∀ (H : Heap) (locs : List Loc) (ls : Array Slot), va_P K.1 vC (wMesh K ad pxs pys plo phi pn pm lf th ow lk el eh co hu ne nt nh) H → va_D A (wMesh K ad pxs pys plo phi pn pm lf th ow lk el eh co hu ne nt nh) → va_S A s.heap H locs → lv_has ls 3 [(0, .ref (ad 0)), (1, .int x1), (2, .int x2)] → (∀ (o : Int32 × (Nat → Int32) × (Nat → Int32) × Int32) (H : Heap) (locs : List Loc) (ls : Array Slot), out = o → va_P K.1 vC (wMesh K ad pxs pys plo phi pn pm lf th ow lk o.2.1 o.2.2.1 co hu o.2.2.2 nt nh) H → va_D A (wMesh K ad pxs pys plo phi pn pm lf th ow lk o.2.1 o.2.2.1 co hu o.2.2.2 nt nh) → va_S A s.heap H locs → lv_has ls 3 [(0, .ref (ad 0)), (1, .int x1), (2, .int o.1)] → W p l e (rmL 2) s m args below meth c H locs 0 0 Q (F0 m 82 ls [])) → W p l e (rmL 2) s m args below meth c H locs 0 0 Q (F0 m 22 ls []) := by
  obtain ⟨hx, hb, hml, hown, hts, hG, hr, hlk⟩ := id C0
  intro n
  induction n with
  | zero =>
    intro x2 el eh ne out h
    cases h
  | succ n ih =>
    intro x2 el eh ne out h H locs ls hP hD hS hl Kx 
    rw [s_Mesh_numberEdges_L22.eq_2] at h
    refine lv_iload_n (pc := 22) hx hb dX2_numberEdges_22 rfl (lv_at hl 2 rfl) ?_
    refine lv_aload_n (pc := 23) hx hb dX2_numberEdges_23 rfl (lv_at hl 0 rfl) ?_
    refine va_get (D := K.1) (ci := 2) (v := .ref (ad 1)) (C := RX2) (T := TX2) (N := 12) (pc := 24) hx hb hts inT2 hown hG.1 hP 0 rfl rfl 0 (by decide) (hts _ qf_Mesh_9) (fun _ h9 => h9) rfl dX2_numberEdges_24 ?_
    refine rdV (pc := 27) (As := []) (rest := [.int x2]) hx hb hml hown hts hG hP (c_Plan_points l K (fun k => ad (k + 1)) pxs pys plo phi pn pm) [1, 2, 3, 4, 5, 6, 7, 8, 9] rfl (q0 := 1) rfl (ci := 3) rfl g_Mesh_84 hd_Plan_points rfl ⟨Nat.le_of_ble_eq_true rfl, Nat.le_of_ble_eq_true rfl⟩ ⟨Nat.zero_le _, Nat.zero_le _⟩ hl rfl (Nat.le_of_ble_eq_true rfl) dX2_numberEdges_27 ?_
    refine lv_icmp_ge (tgt := 82) (pc := 30) hx hb dX2_numberEdges_30 (by decide) (fun c2 => ?_) (fun c2 => ?_)
    · have h := it_t c2 h
      obtain rfl := Option.some.inj h
      exact Kx _ H locs ls rfl hP hD hS (lv_sub hl [0, 1, 2] rfl)
    · have h := it_f c2 h
      refine lv_aload_n (pc := 33) hx hb dX2_numberEdges_33 rfl (lv_at hl 0 rfl) ?_
      refine lv_iload_n (pc := 34) hx hb dX2_numberEdges_34 rfl (lv_at hl 1 rfl) ?_
      refine lv_iload_n (pc := 35) hx hb dX2_numberEdges_35 rfl (lv_at hl 2 rfl) ?_
      refine rdV (pc := 36) (As := [.int x1, .int x2]) (rest := []) hx hb hml hown hts hG hP (c_Mesh_isLinked l K ad pxs pys plo phi pn pm lf th ow lk el eh co hu ne nt nh x1 x2) [0, 1, 2, 3, 4, 5, 6, 7, 8, 9, 10, 11, 12, 13, 14, 15, 16, 17, 18, 19, 20, 21, 22, 23, 24, 25] rfl (q0 := 0) rfl (ci := 2) rfl g_Mesh_117 hd_Mesh_isLinked rfl ⟨Nat.le_of_ble_eq_true rfl, Nat.le_of_ble_eq_true rfl⟩ ⟨Nat.zero_le _, Nat.zero_le _⟩ hl rfl (Nat.le_of_ble_eq_true rfl) dX2_numberEdges_36 ?_
      refine lv_if_eq (tgt := 76) (pc := 39) hx hb dX2_numberEdges_39 (by decide) (fun c3 => ?_) (fun c3 => ?_)
      · have h := it_t c3 h
        refine lv_iinc (v := (x2 + (1 : Int32))) (pc := 76) (lv' := [(2, .int (x2 + (1 : Int32))), (0, .ref (ad 0)), (1, .int x1)]) hx hb dX2_numberEdges_76 hl (k := 2) rfl rfl (by decide) rfl (fun ls hl => ?_)
        refine lv_goto (tgt := 22) (pc := 79) hx hb dX2_numberEdges_79 (by decide) ?_
        exact ih (x2 + (1 : Int32)) el eh ne out h H locs ls hP hD hS (lv_sub hl [1, 2, 0] rfl) Kx 
      · have h := it_f c3 h
        refine lv_aload_n (pc := 42) hx hb dX2_numberEdges_42 rfl (lv_at hl 0 rfl) ?_
        refine va_get (D := K.1) (ci := 2) (v := .ref (ad 18)) (C := RX2) (T := TX2) (N := 12) (pc := 43) hx hb hts inT2 hown hG.1 hP 0 rfl rfl 5 (by decide) (hts _ qf_Mesh_37) (fun _ h9 => h9) rfl dX2_numberEdges_43 ?_
        refine lv_aload_n (pc := 46) hx hb dX2_numberEdges_46 rfl (lv_at hl 0 rfl) ?_
        refine va_get (D := K.1) (ci := 2) (v := .int ne) (C := RX2) (T := TX2) (N := 12) (pc := 47) hx hb hts inT2 hown hG.1 hP 0 rfl rfl 9 (by decide) (hts _ qf_Mesh_49) (fun _ h9 => h9) rfl dX2_numberEdges_47 ?_
        refine lv_iload_n (pc := 50) hx hb dX2_numberEdges_50 rfl (lv_at hl 1 rfl) ?_
        refine wrVv (pc := 51) (As := [.int ne, .int x1]) (rest := []) (ws2 := wMesh K ad pxs pys plo phi pn pm lf th ow lk (s_Row_set 42 el ne x1) eh co hu ne nt nh) (as9 := [ad 18, ad 19]) hx hb hml hown hts hG hP hD hS (c_Row_set l K (fun k => ad (k + 18)) 42 (by decide) el ne x1) [18, 19] rfl rfl rfl rfl [.inr 0, .inr 1, .inr 2, .inr 3, .inr 4, .inr 5, .inr 6, .inr 7, .inr 8, .inr 9, .inr 10, .inr 11, .inr 12, .inr 13, .inr 14, .inr 15, .inr 16, .inr 17, .inl 0, .inl 1, .inr 20, .inr 21, .inr 22, .inr 23, .inr 24, .inr 25] (by decide +kernel) rfl (q0 := 18) rfl (ci := 4) rfl g_Mesh_102 hd_Row_set rfl ⟨Nat.le_of_ble_eq_true rfl, Nat.le_of_ble_eq_true rfl⟩ ⟨Nat.zero_le _, Nat.zero_le _⟩ hl rfl (Nat.le_of_ble_eq_true rfl) dX2_numberEdges_51 (fun H locs hP hD hS => ?_)
        refine lv_aload_n (pc := 54) hx hb dX2_numberEdges_54 rfl (lv_at hl 0 rfl) ?_
        refine va_get (D := K.1) (ci := 2) (v := .ref (ad 20)) (C := RX2) (T := TX2) (N := 12) (pc := 55) hx hb hts inT2 hown hG.1 hP 0 rfl rfl 6 (by decide) (hts _ qf_Mesh_40) (fun _ h9 => h9) rfl dX2_numberEdges_55 ?_
        refine lv_aload_n (pc := 58) hx hb dX2_numberEdges_58 rfl (lv_at hl 0 rfl) ?_
        refine va_get (D := K.1) (ci := 2) (v := .int ne) (C := RX2) (T := TX2) (N := 12) (pc := 59) hx hb hts inT2 hown hG.1 hP 0 rfl rfl 9 (by decide) (hts _ qf_Mesh_49) (fun _ h9 => h9) rfl dX2_numberEdges_59 ?_
        refine lv_iload_n (pc := 62) hx hb dX2_numberEdges_62 rfl (lv_at hl 2 rfl) ?_
        refine wrVv (pc := 63) (As := [.int ne, .int x2]) (rest := []) (ws2 := wMesh K ad pxs pys plo phi pn pm lf th ow lk (s_Row_set 42 el ne x1) (s_Row_set 42 eh ne x2) co hu ne nt nh) (as9 := [ad 20, ad 21]) hx hb hml hown hts hG hP hD hS (c_Row_set l K (fun k => ad (k + 20)) 42 (by decide) eh ne x2) [20, 21] rfl rfl rfl rfl [.inr 0, .inr 1, .inr 2, .inr 3, .inr 4, .inr 5, .inr 6, .inr 7, .inr 8, .inr 9, .inr 10, .inr 11, .inr 12, .inr 13, .inr 14, .inr 15, .inr 16, .inr 17, .inr 18, .inr 19, .inl 0, .inl 1, .inr 22, .inr 23, .inr 24, .inr 25] (by decide +kernel) rfl (q0 := 20) rfl (ci := 4) rfl g_Mesh_102 hd_Row_set rfl ⟨Nat.le_of_ble_eq_true rfl, Nat.le_of_ble_eq_true rfl⟩ ⟨Nat.zero_le _, Nat.zero_le _⟩ hl rfl (Nat.le_of_ble_eq_true rfl) dX2_numberEdges_63 (fun H locs hP hD hS => ?_)
        refine lv_aload_n (pc := 66) hx hb dX2_numberEdges_66 rfl (lv_at hl 0 rfl) ?_
        refine lv_dup (pc := 67) hx hb dX2_numberEdges_67 rfl ?_
        refine va_get (D := K.1) (ci := 2) (v := .int ne) (C := RX2) (T := TX2) (N := 12) (pc := 68) hx hb hts inT2 hown hG.1 hP 0 rfl rfl 9 (by decide) (hts _ qf_Mesh_49) (fun _ h9 => h9) rfl dX2_numberEdges_68 ?_
        refine lv_iconst (v := (1 : Int32)) (pc := 71) hx hb dX2_numberEdges_71 (by decide) ?_
        refine lv_iadd (pc := 72) hx hb dX2_numberEdges_72 ?_
        refine va_put (D := K.1) (ci := 2) (v := .int (ne + (1 : Int32))) (ty := .int) (C := RX2) (T := TX2) (N := 12) (pc := 73) hx hb hts inT2 tyX2 tyX2_ok nmX2 hown hG.1 hP hD hS 0 rfl rfl 9 (by decide) (hts _ qf_Mesh_49) (fun _ h9 => h9) rfl (by decide +kernel) rfl rfl (Nat.le_of_ble_eq_true rfl) dX2_numberEdges_73 (fun H locs hP hD hS => ?_)
        have hP : va_P K.1 vC (wMesh K ad pxs pys plo phi pn pm lf th ow lk (s_Row_set 42 el ne x1) (s_Row_set 42 eh ne x2) co hu (ne + (1 : Int32)) nt nh) H := hP
        have hD : va_D _ (wMesh K ad pxs pys plo phi pn pm lf th ow lk (s_Row_set 42 el ne x1) (s_Row_set 42 eh ne x2) co hu (ne + (1 : Int32)) nt nh) := hD
        refine lv_iinc (v := (x2 + (1 : Int32))) (pc := 76) (lv' := [(2, .int (x2 + (1 : Int32))), (0, .ref (ad 0)), (1, .int x1)]) hx hb dX2_numberEdges_76 hl (k := 2) rfl rfl (by decide) rfl (fun ls hl => ?_)
        refine lv_goto (tgt := 22) (pc := 79) hx hb dX2_numberEdges_79 (by decide) ?_
        exact ih (x2 + (1 : Int32)) (s_Row_set 42 el ne x1) (s_Row_set 42 eh ne x2) (ne + (1 : Int32)) out h H locs ls hP hD hS (lv_sub hl [1, 2, 0] rfl) Kx 
set_option maxHeartbeats 4000000 in
set_option maxRecDepth 100000 in
theorem l_Mesh_numberEdges_L7 {p : Program} {l : Launch} {e : Env} {s : State} {m : MethodId} {args : Array Value} {below : List Frame} {meth : Method} {c : Code} {Q : State → Prop} {K : KT} {A : Nat → Prop} (C0 : Ctx p m c cX2_numberEdges 3 s args RX2 K meth none) (F : Nat) (ad : Nat → Nat) (pxs : Nat → Int32) (pys : Nat → Int32) (plo : Nat → Int32) (phi : Nat → Int32) (pn : Int32) (pm : Int32) (lf : Nat → Int32) (th : Nat → Int32) (ow : Nat → Int32) (lk : Nat → Int32) (co : Nat → Int32) (hu : Nat → Int32) (nt : Int32) (nh : Int32)  : ∀ (n : Nat) (x1 : Int32) (el : Nat → Int32) (eh : Nat → Int32) (ne : Int32) (out : Int32 × (Nat → Int32) × (Nat → Int32) × Int32), s_Mesh_numberEdges_L7 F pn lk n x1 el eh ne = some out → ∀ (H : Heap) (locs : List Loc) (ls : Array Slot), va_P K.1 vC (wMesh K ad pxs pys plo phi pn pm lf th ow lk el eh co hu ne nt nh) H → va_D A (wMesh K ad pxs pys plo phi pn pm lf th ow lk el eh co hu ne nt nh) → va_S A s.heap H locs → lv_has ls 3 [(0, .ref (ad 0)), (1, .int x1)] → (∀ (o : Int32 × (Nat → Int32) × (Nat → Int32) × Int32) (H : Heap) (locs : List Loc) (ls : Array Slot), out = o → va_P K.1 vC (wMesh K ad pxs pys plo phi pn pm lf th ow lk o.2.1 o.2.2.1 co hu o.2.2.2 nt nh) H → va_D A (wMesh K ad pxs pys plo phi pn pm lf th ow lk o.2.1 o.2.2.1 co hu o.2.2.2 nt nh) → va_S A s.heap H locs → lv_has ls 3 [(0, .ref (ad 0)), (1, .int o.1)] → W p l e (rmL 2) s m args below meth c H locs 0 0 Q (F0 m 88 ls [])) → W p l e (rmL 2) s m args below meth c H locs 0 0 Q (F0 m 7 ls []) := by
  obtain ⟨hx, hb, hml, hown, hts, hG, hr, hlk⟩ := id C0
  intro n
  induction n with
  | zero =>
    intro x1 el eh ne out h
    cases h
  | succ n ih =>
    intro x1 el eh ne out h H locs ls hP hD hS hl Kx 
    rw [s_Mesh_numberEdges_L7.eq_2] at h
    refine lv_iload_n (pc := 7) hx hb dX2_numberEdges_7 rfl (lv_at hl 1 rfl) ?_
    refine lv_aload_n (pc := 8) hx hb dX2_numberEdges_8 rfl (lv_at hl 0 rfl) ?_
    refine va_get (D := K.1) (ci := 2) (v := .ref (ad 1)) (C := RX2) (T := TX2) (N := 12) (pc := 9) hx hb hts inT2 hown hG.1 hP 0 rfl rfl 0 (by decide) (hts _ qf_Mesh_9) (fun _ h9 => h9) rfl dX2_numberEdges_9 ?_
    refine rdV (pc := 12) (As := []) (rest := [.int x1]) hx hb hml hown hts hG hP (c_Plan_points l K (fun k => ad (k + 1)) pxs pys plo phi pn pm) [1, 2, 3, 4, 5, 6, 7, 8, 9] rfl (q0 := 1) rfl (ci := 3) rfl g_Mesh_84 hd_Plan_points rfl ⟨Nat.le_of_ble_eq_true rfl, Nat.le_of_ble_eq_true rfl⟩ ⟨Nat.zero_le _, Nat.zero_le _⟩ hl rfl (Nat.le_of_ble_eq_true rfl) dX2_numberEdges_12 ?_
    refine lv_icmp_ge (tgt := 88) (pc := 15) hx hb dX2_numberEdges_15 (by decide) (fun c1 => ?_) (fun c1 => ?_)
    · have h := it_t c1 h
      obtain rfl := Option.some.inj h
      exact Kx _ H locs ls rfl hP hD hS (lv_sub hl [0, 1] rfl)
    · have h := it_f c1 h
      refine lv_iload_n (pc := 18) hx hb dX2_numberEdges_18 rfl (lv_at hl 1 rfl) ?_
      refine lv_iconst (v := (1 : Int32)) (pc := 19) hx hb dX2_numberEdges_19 (by decide) ?_
      refine lv_iadd (pc := 20) hx hb dX2_numberEdges_20 ?_
      refine lv_istore_n (pc := 21) (lv' := [(2, .int (x1 + (1 : Int32))), (0, .ref (ad 0)), (1, .int x1)]) hx hb dX2_numberEdges_21 rfl hl (by decide) rfl (fun ls hl => ?_)
      obtain ⟨o4, h_o4, h⟩ := ob h
      refine l_Mesh_numberEdges_L22 C0 F ad pxs pys plo phi pn pm lf th ow lk co hu nt nh x1 F (x1 + (1 : Int32)) el eh ne _ h_o4 H locs ls hP hD hS (lv_sub hl [1, 2, 0] rfl) (fun o4x H locs ls eo hP hD hS hl => ?_)
      subst o4
      refine lv_iinc (v := (x1 + (1 : Int32))) (pc := 82) (lv' := [(1, .int (x1 + (1 : Int32))), (0, .ref (ad 0)), (2, .int o4x.1)]) hx hb dX2_numberEdges_82 hl (k := 1) rfl rfl (by decide) rfl (fun ls hl => ?_)
      refine lv_goto (tgt := 7) (pc := 85) hx hb dX2_numberEdges_85 (by decide) ?_
      exact ih (x1 + (1 : Int32)) o4x.2.1 o4x.2.2.1 o4x.2.2.2 out h H locs ls hP hD hS (lv_sub hl [1, 0] rfl) Kx 
set_option maxHeartbeats 4000000 in
set_option maxRecDepth 100000 in
theorem c_Mesh_numberEdges (l : Launch) (K : KT) (ad : Nat → Nat) (pxs : Nat → Int32) (pys : Nat → Int32) (plo : Nat → Int32) (phi : Nat → Int32) (pn : Int32) (pm : Int32) (lf : Nat → Int32) (th : Nat → Int32) (ow : Nat → Int32) (lk : Nat → Int32) (el : Nat → Int32) (eh : Nat → Int32) (co : Nat → Int32) (hu : Nat → Int32) (ne : Int32) (nt : Int32) (nh : Int32) (F : Nat) {o : (Nat → Int32) × (Nat → Int32) × Int32} (h : s_Mesh_numberEdges F pn lk el eh = some o) : Wr l K 2 yX2_numberEdges cX2_numberEdges 3 none [.ref (ad 0)] (wMesh K ad pxs pys plo phi pn pm lf th ow lk el eh co hu ne nt nh) none (wMesh K ad pxs pys plo phi pn pm lf th ow lk o.1 o.2.1 co hu o.2.2 nt nh) := by
  refine Wr.of (by decide +kernel) (Nat.le_of_ble_eq_true rfl) ?_
  unfold s_Mesh_numberEdges at h
  intro p e s m below meth c hx hb hr hml hown hts hlk H locs hP hG hD hS ls hl
  have C0 : Ctx p m c cX2_numberEdges 3 s (Array.mk [.ref (ad 0)]) RX2 K meth none := ⟨hx, hb, hml, hown, hts, hG, hr, hlk⟩
  have hl : lv_has ls 3 [(0, .ref (ad 0))] := hl
  refine lv_aload_n (pc := 0) hx hb dX2_numberEdges_0 rfl (lv_at hl 0 rfl) ?_
  refine lv_iconst (v := (0 : Int32)) (pc := 1) hx hb dX2_numberEdges_1 (by decide) ?_
  refine va_put (D := K.1) (ci := 2) (v := .int (0 : Int32)) (ty := .int) (C := RX2) (T := TX2) (N := 12) (pc := 2) hx hb hts inT2 tyX2 tyX2_ok nmX2 hown hG.1 hP hD hS 0 rfl rfl 9 (by decide) (hts _ qf_Mesh_49) (fun _ h9 => h9) rfl (by decide +kernel) rfl rfl (Nat.le_of_ble_eq_true rfl) dX2_numberEdges_2 (fun H locs hP hD hS => ?_)
  have hP : va_P K.1 vC (wMesh K ad pxs pys plo phi pn pm lf th ow lk el eh co hu (0 : Int32) nt nh) H := hP
  have hD : va_D _ (wMesh K ad pxs pys plo phi pn pm lf th ow lk el eh co hu (0 : Int32) nt nh) := hD
  refine lv_iconst (v := (0 : Int32)) (pc := 5) hx hb dX2_numberEdges_5 (by decide) ?_
  refine lv_istore_n (pc := 6) (lv' := [(1, .int (0 : Int32)), (0, .ref (ad 0))]) hx hb dX2_numberEdges_6 rfl hl (by decide) rfl (fun ls hl => ?_)
  obtain ⟨o5, h_o5, h⟩ := ob h
  refine l_Mesh_numberEdges_L7 C0 F ad pxs pys plo phi pn pm lf th ow lk co hu nt nh F (0 : Int32) el eh (0 : Int32) _ h_o5 H locs ls hP hD hS (lv_sub hl [1, 0] rfl) (fun o5x H locs ls eo hP hD hS hl => ?_)
  subst o5
  obtain rfl := Option.some.inj h
  exact W.vret hx hb hr (fun t ht hW => ⟨⟨rfl, by rw [ht]; exact hP⟩, hS.F ht⟩) hS.2.2 dX2_numberEdges_88 hlk
set_option maxHeartbeats 4000000 in
set_option maxRecDepth 100000 in
theorem c_Mesh_addTriangle (l : Launch) (K : KT) (ad : Nat → Nat) (pxs : Nat → Int32) (pys : Nat → Int32) (plo : Nat → Int32) (phi : Nat → Int32) (pn : Int32) (pm : Int32) (lf : Nat → Int32) (th : Nat → Int32) (ow : Nat → Int32) (lk : Nat → Int32) (el : Nat → Int32) (eh : Nat → Int32) (co : Nat → Int32) (hu : Nat → Int32) (ne : Int32) (nt : Int32) (nh : Int32) (a0 : Int32) (a1 : Int32) (a2 : Int32) : Wr l K 1 yX2_addTriangle cX2_addTriangle 4 none [.ref (ad 0), .int a0, .int a1, .int a2] (wMesh K ad pxs pys plo phi pn pm lf th ow lk el eh co hu ne nt nh) none (wMesh K ad pxs pys plo phi pn pm lf th ((s_Mesh_addTriangle ow co nt a0 a1 a2).1) lk el eh ((s_Mesh_addTriangle ow co nt a0 a1 a2).2.1) hu ne ((s_Mesh_addTriangle ow co nt a0 a1 a2).2.2) nh) := by
  generalize h : s_Mesh_addTriangle ow co nt a0 a1 a2 = o
  refine Wr.of (by decide +kernel) (Nat.le_of_ble_eq_true rfl) ?_
  unfold s_Mesh_addTriangle at h
  intro p e s m below meth c hx hb hr hml hown hts hlk H locs hP hG hD hS ls hl
  have C0 : Ctx p m c cX2_addTriangle 4 s (Array.mk [.ref (ad 0), .int a0, .int a1, .int a2]) RX2 K meth none := ⟨hx, hb, hml, hown, hts, hG, hr, hlk⟩
  have hl : lv_has ls 4 [(0, .ref (ad 0)), (1, .int a0), (2, .int a1), (3, .int a2)] := hl
  refine lv_aload_n (pc := 0) hx hb dX2_addTriangle_0 rfl (lv_at hl 0 rfl) ?_
  refine va_get (D := K.1) (ci := 2) (v := .ref (ad 22)) (C := RX2) (T := TX2) (N := 12) (pc := 1) hx hb hts inT2 hown hG.1 hP 0 rfl rfl 7 (by decide) (hts _ qf_Mesh_43) (fun _ h9 => h9) rfl dX2_addTriangle_1 ?_
  refine lv_iconst (v := (3 : Int32)) (pc := 4) hx hb dX2_addTriangle_4 (by decide) ?_
  refine lv_aload_n (pc := 5) hx hb dX2_addTriangle_5 rfl (lv_at hl 0 rfl) ?_
  refine va_get (D := K.1) (ci := 2) (v := .int nt) (C := RX2) (T := TX2) (N := 12) (pc := 6) hx hb hts inT2 hown hG.1 hP 0 rfl rfl 10 (by decide) (hts _ qf_Mesh_53) (fun _ h9 => h9) rfl dX2_addTriangle_6 ?_
  refine lv_imul (pc := 9) hx hb dX2_addTriangle_9 ?_
  refine lv_iload_n (pc := 10) hx hb dX2_addTriangle_10 rfl (lv_at hl 1 rfl) ?_
  refine wrVv (pc := 11) (As := [.int ((3 : Int32) * nt), .int a0]) (rest := []) (ws2 := wMesh K ad pxs pys plo phi pn pm lf th ow lk el eh (s_Row_set 81 co ((3 : Int32) * nt) a0) hu ne nt nh) (as9 := [ad 22, ad 23]) hx hb hml hown hts hG hP hD hS (c_Row_set l K (fun k => ad (k + 22)) 81 (by decide) co ((3 : Int32) * nt) a0) [22, 23] rfl rfl rfl rfl [.inr 0, .inr 1, .inr 2, .inr 3, .inr 4, .inr 5, .inr 6, .inr 7, .inr 8, .inr 9, .inr 10, .inr 11, .inr 12, .inr 13, .inr 14, .inr 15, .inr 16, .inr 17, .inr 18, .inr 19, .inr 20, .inr 21, .inl 0, .inl 1, .inr 24, .inr 25] (by decide +kernel) rfl (q0 := 22) rfl (ci := 4) rfl g_Mesh_102 hd_Row_set rfl ⟨Nat.le_of_ble_eq_true rfl, Nat.le_of_ble_eq_true rfl⟩ ⟨Nat.zero_le _, Nat.zero_le _⟩ hl rfl (Nat.le_of_ble_eq_true rfl) dX2_addTriangle_11 (fun H locs hP hD hS => ?_)
  refine lv_aload_n (pc := 14) hx hb dX2_addTriangle_14 rfl (lv_at hl 0 rfl) ?_
  refine va_get (D := K.1) (ci := 2) (v := .ref (ad 22)) (C := RX2) (T := TX2) (N := 12) (pc := 15) hx hb hts inT2 hown hG.1 hP 0 rfl rfl 7 (by decide) (hts _ qf_Mesh_43) (fun _ h9 => h9) rfl dX2_addTriangle_15 ?_
  refine lv_iconst (v := (3 : Int32)) (pc := 18) hx hb dX2_addTriangle_18 (by decide) ?_
  refine lv_aload_n (pc := 19) hx hb dX2_addTriangle_19 rfl (lv_at hl 0 rfl) ?_
  refine va_get (D := K.1) (ci := 2) (v := .int nt) (C := RX2) (T := TX2) (N := 12) (pc := 20) hx hb hts inT2 hown hG.1 hP 0 rfl rfl 10 (by decide) (hts _ qf_Mesh_53) (fun _ h9 => h9) rfl dX2_addTriangle_20 ?_
  refine lv_imul (pc := 23) hx hb dX2_addTriangle_23 ?_
  refine lv_iconst (v := (1 : Int32)) (pc := 24) hx hb dX2_addTriangle_24 (by decide) ?_
  refine lv_iadd (pc := 25) hx hb dX2_addTriangle_25 ?_
  refine lv_iload_n (pc := 26) hx hb dX2_addTriangle_26 rfl (lv_at hl 2 rfl) ?_
  refine wrVv (pc := 27) (As := [.int (((3 : Int32) * nt) + (1 : Int32)), .int a1]) (rest := []) (ws2 := wMesh K ad pxs pys plo phi pn pm lf th ow lk el eh (s_Row_set 81 (s_Row_set 81 co ((3 : Int32) * nt) a0) (((3 : Int32) * nt) + (1 : Int32)) a1) hu ne nt nh) (as9 := [ad 22, ad 23]) hx hb hml hown hts hG hP hD hS (c_Row_set l K (fun k => ad (k + 22)) 81 (by decide) (s_Row_set 81 co ((3 : Int32) * nt) a0) (((3 : Int32) * nt) + (1 : Int32)) a1) [22, 23] rfl rfl rfl rfl [.inr 0, .inr 1, .inr 2, .inr 3, .inr 4, .inr 5, .inr 6, .inr 7, .inr 8, .inr 9, .inr 10, .inr 11, .inr 12, .inr 13, .inr 14, .inr 15, .inr 16, .inr 17, .inr 18, .inr 19, .inr 20, .inr 21, .inl 0, .inl 1, .inr 24, .inr 25] (by decide +kernel) rfl (q0 := 22) rfl (ci := 4) rfl g_Mesh_102 hd_Row_set rfl ⟨Nat.le_of_ble_eq_true rfl, Nat.le_of_ble_eq_true rfl⟩ ⟨Nat.zero_le _, Nat.zero_le _⟩ hl rfl (Nat.le_of_ble_eq_true rfl) dX2_addTriangle_27 (fun H locs hP hD hS => ?_)
  refine lv_aload_n (pc := 30) hx hb dX2_addTriangle_30 rfl (lv_at hl 0 rfl) ?_
  refine va_get (D := K.1) (ci := 2) (v := .ref (ad 22)) (C := RX2) (T := TX2) (N := 12) (pc := 31) hx hb hts inT2 hown hG.1 hP 0 rfl rfl 7 (by decide) (hts _ qf_Mesh_43) (fun _ h9 => h9) rfl dX2_addTriangle_31 ?_
  refine lv_iconst (v := (3 : Int32)) (pc := 34) hx hb dX2_addTriangle_34 (by decide) ?_
  refine lv_aload_n (pc := 35) hx hb dX2_addTriangle_35 rfl (lv_at hl 0 rfl) ?_
  refine va_get (D := K.1) (ci := 2) (v := .int nt) (C := RX2) (T := TX2) (N := 12) (pc := 36) hx hb hts inT2 hown hG.1 hP 0 rfl rfl 10 (by decide) (hts _ qf_Mesh_53) (fun _ h9 => h9) rfl dX2_addTriangle_36 ?_
  refine lv_imul (pc := 39) hx hb dX2_addTriangle_39 ?_
  refine lv_iconst (v := (2 : Int32)) (pc := 40) hx hb dX2_addTriangle_40 (by decide) ?_
  refine lv_iadd (pc := 41) hx hb dX2_addTriangle_41 ?_
  refine lv_iload_n (pc := 42) hx hb dX2_addTriangle_42 rfl (lv_at hl 3 rfl) ?_
  refine wrVv (pc := 43) (As := [.int (((3 : Int32) * nt) + (2 : Int32)), .int a2]) (rest := []) (ws2 := wMesh K ad pxs pys plo phi pn pm lf th ow lk el eh (s_Row_set 81 (s_Row_set 81 (s_Row_set 81 co ((3 : Int32) * nt) a0) (((3 : Int32) * nt) + (1 : Int32)) a1) (((3 : Int32) * nt) + (2 : Int32)) a2) hu ne nt nh) (as9 := [ad 22, ad 23]) hx hb hml hown hts hG hP hD hS (c_Row_set l K (fun k => ad (k + 22)) 81 (by decide) (s_Row_set 81 (s_Row_set 81 co ((3 : Int32) * nt) a0) (((3 : Int32) * nt) + (1 : Int32)) a1) (((3 : Int32) * nt) + (2 : Int32)) a2) [22, 23] rfl rfl rfl rfl [.inr 0, .inr 1, .inr 2, .inr 3, .inr 4, .inr 5, .inr 6, .inr 7, .inr 8, .inr 9, .inr 10, .inr 11, .inr 12, .inr 13, .inr 14, .inr 15, .inr 16, .inr 17, .inr 18, .inr 19, .inr 20, .inr 21, .inl 0, .inl 1, .inr 24, .inr 25] (by decide +kernel) rfl (q0 := 22) rfl (ci := 4) rfl g_Mesh_102 hd_Row_set rfl ⟨Nat.le_of_ble_eq_true rfl, Nat.le_of_ble_eq_true rfl⟩ ⟨Nat.zero_le _, Nat.zero_le _⟩ hl rfl (Nat.le_of_ble_eq_true rfl) dX2_addTriangle_43 (fun H locs hP hD hS => ?_)
  refine lv_aload_n (pc := 46) hx hb dX2_addTriangle_46 rfl (lv_at hl 0 rfl) ?_
  refine va_get (D := K.1) (ci := 2) (v := .ref (ad 14)) (C := RX2) (T := TX2) (N := 12) (pc := 47) hx hb hts inT2 hown hG.1 hP 0 rfl rfl 3 (by decide) (hts _ qf_Mesh_27) (fun _ h9 => h9) rfl dX2_addTriangle_47 ?_
  refine lv_iload_n (pc := 50) hx hb dX2_addTriangle_50 rfl (lv_at hl 1 rfl) ?_
  refine lv_iload_n (pc := 51) hx hb dX2_addTriangle_51 rfl (lv_at hl 2 rfl) ?_
  refine lv_aload_n (pc := 52) hx hb dX2_addTriangle_52 rfl (lv_at hl 0 rfl) ?_
  refine va_get (D := K.1) (ci := 2) (v := .int nt) (C := RX2) (T := TX2) (N := 12) (pc := 53) hx hb hts inT2 hown hG.1 hP 0 rfl rfl 10 (by decide) (hts _ qf_Mesh_53) (fun _ h9 => h9) rfl dX2_addTriangle_53 ?_
  refine wrVv (pc := 56) (As := [.int a0, .int a1, .int nt]) (rest := []) (ws2 := wMesh K ad pxs pys plo phi pn pm lf th (s_Tab_set ow a0 a1 nt) lk el eh (s_Row_set 81 (s_Row_set 81 (s_Row_set 81 co ((3 : Int32) * nt) a0) (((3 : Int32) * nt) + (1 : Int32)) a1) (((3 : Int32) * nt) + (2 : Int32)) a2) hu ne nt nh) (as9 := [ad 14, ad 15]) hx hb hml hown hts hG hP hD hS (c_Tab_set l K (fun k => ad (k + 14)) (-1) ow a0 a1 nt) [14, 15] rfl rfl rfl rfl [.inr 0, .inr 1, .inr 2, .inr 3, .inr 4, .inr 5, .inr 6, .inr 7, .inr 8, .inr 9, .inr 10, .inr 11, .inr 12, .inr 13, .inl 0, .inl 1, .inr 16, .inr 17, .inr 18, .inr 19, .inr 20, .inr 21, .inr 22, .inr 23, .inr 24, .inr 25] (by decide +kernel) rfl (q0 := 14) rfl (ci := 5) rfl g_Mesh_98 hd_Tab_set rfl ⟨Nat.le_of_ble_eq_true rfl, Nat.le_of_ble_eq_true rfl⟩ ⟨Nat.zero_le _, Nat.zero_le _⟩ hl rfl (Nat.le_of_ble_eq_true rfl) dX2_addTriangle_56 (fun H locs hP hD hS => ?_)
  refine lv_aload_n (pc := 59) hx hb dX2_addTriangle_59 rfl (lv_at hl 0 rfl) ?_
  refine va_get (D := K.1) (ci := 2) (v := .ref (ad 14)) (C := RX2) (T := TX2) (N := 12) (pc := 60) hx hb hts inT2 hown hG.1 hP 0 rfl rfl 3 (by decide) (hts _ qf_Mesh_27) (fun _ h9 => h9) rfl dX2_addTriangle_60 ?_
  refine lv_iload_n (pc := 63) hx hb dX2_addTriangle_63 rfl (lv_at hl 2 rfl) ?_
  refine lv_iload_n (pc := 64) hx hb dX2_addTriangle_64 rfl (lv_at hl 3 rfl) ?_
  refine lv_aload_n (pc := 65) hx hb dX2_addTriangle_65 rfl (lv_at hl 0 rfl) ?_
  refine va_get (D := K.1) (ci := 2) (v := .int nt) (C := RX2) (T := TX2) (N := 12) (pc := 66) hx hb hts inT2 hown hG.1 hP 0 rfl rfl 10 (by decide) (hts _ qf_Mesh_53) (fun _ h9 => h9) rfl dX2_addTriangle_66 ?_
  refine wrVv (pc := 69) (As := [.int a1, .int a2, .int nt]) (rest := []) (ws2 := wMesh K ad pxs pys plo phi pn pm lf th (s_Tab_set (s_Tab_set ow a0 a1 nt) a1 a2 nt) lk el eh (s_Row_set 81 (s_Row_set 81 (s_Row_set 81 co ((3 : Int32) * nt) a0) (((3 : Int32) * nt) + (1 : Int32)) a1) (((3 : Int32) * nt) + (2 : Int32)) a2) hu ne nt nh) (as9 := [ad 14, ad 15]) hx hb hml hown hts hG hP hD hS (c_Tab_set l K (fun k => ad (k + 14)) (-1) (s_Tab_set ow a0 a1 nt) a1 a2 nt) [14, 15] rfl rfl rfl rfl [.inr 0, .inr 1, .inr 2, .inr 3, .inr 4, .inr 5, .inr 6, .inr 7, .inr 8, .inr 9, .inr 10, .inr 11, .inr 12, .inr 13, .inl 0, .inl 1, .inr 16, .inr 17, .inr 18, .inr 19, .inr 20, .inr 21, .inr 22, .inr 23, .inr 24, .inr 25] (by decide +kernel) rfl (q0 := 14) rfl (ci := 5) rfl g_Mesh_98 hd_Tab_set rfl ⟨Nat.le_of_ble_eq_true rfl, Nat.le_of_ble_eq_true rfl⟩ ⟨Nat.zero_le _, Nat.zero_le _⟩ hl rfl (Nat.le_of_ble_eq_true rfl) dX2_addTriangle_69 (fun H locs hP hD hS => ?_)
  refine lv_aload_n (pc := 72) hx hb dX2_addTriangle_72 rfl (lv_at hl 0 rfl) ?_
  refine va_get (D := K.1) (ci := 2) (v := .ref (ad 14)) (C := RX2) (T := TX2) (N := 12) (pc := 73) hx hb hts inT2 hown hG.1 hP 0 rfl rfl 3 (by decide) (hts _ qf_Mesh_27) (fun _ h9 => h9) rfl dX2_addTriangle_73 ?_
  refine lv_iload_n (pc := 76) hx hb dX2_addTriangle_76 rfl (lv_at hl 3 rfl) ?_
  refine lv_iload_n (pc := 77) hx hb dX2_addTriangle_77 rfl (lv_at hl 1 rfl) ?_
  refine lv_aload_n (pc := 78) hx hb dX2_addTriangle_78 rfl (lv_at hl 0 rfl) ?_
  refine va_get (D := K.1) (ci := 2) (v := .int nt) (C := RX2) (T := TX2) (N := 12) (pc := 79) hx hb hts inT2 hown hG.1 hP 0 rfl rfl 10 (by decide) (hts _ qf_Mesh_53) (fun _ h9 => h9) rfl dX2_addTriangle_79 ?_
  refine wrVv (pc := 82) (As := [.int a2, .int a0, .int nt]) (rest := []) (ws2 := wMesh K ad pxs pys plo phi pn pm lf th (s_Tab_set (s_Tab_set (s_Tab_set ow a0 a1 nt) a1 a2 nt) a2 a0 nt) lk el eh (s_Row_set 81 (s_Row_set 81 (s_Row_set 81 co ((3 : Int32) * nt) a0) (((3 : Int32) * nt) + (1 : Int32)) a1) (((3 : Int32) * nt) + (2 : Int32)) a2) hu ne nt nh) (as9 := [ad 14, ad 15]) hx hb hml hown hts hG hP hD hS (c_Tab_set l K (fun k => ad (k + 14)) (-1) (s_Tab_set (s_Tab_set ow a0 a1 nt) a1 a2 nt) a2 a0 nt) [14, 15] rfl rfl rfl rfl [.inr 0, .inr 1, .inr 2, .inr 3, .inr 4, .inr 5, .inr 6, .inr 7, .inr 8, .inr 9, .inr 10, .inr 11, .inr 12, .inr 13, .inl 0, .inl 1, .inr 16, .inr 17, .inr 18, .inr 19, .inr 20, .inr 21, .inr 22, .inr 23, .inr 24, .inr 25] (by decide +kernel) rfl (q0 := 14) rfl (ci := 5) rfl g_Mesh_98 hd_Tab_set rfl ⟨Nat.le_of_ble_eq_true rfl, Nat.le_of_ble_eq_true rfl⟩ ⟨Nat.zero_le _, Nat.zero_le _⟩ hl rfl (Nat.le_of_ble_eq_true rfl) dX2_addTriangle_82 (fun H locs hP hD hS => ?_)
  refine lv_aload_n (pc := 85) hx hb dX2_addTriangle_85 rfl (lv_at hl 0 rfl) ?_
  refine lv_dup (pc := 86) hx hb dX2_addTriangle_86 rfl ?_
  refine va_get (D := K.1) (ci := 2) (v := .int nt) (C := RX2) (T := TX2) (N := 12) (pc := 87) hx hb hts inT2 hown hG.1 hP 0 rfl rfl 10 (by decide) (hts _ qf_Mesh_53) (fun _ h9 => h9) rfl dX2_addTriangle_87 ?_
  refine lv_iconst (v := (1 : Int32)) (pc := 90) hx hb dX2_addTriangle_90 (by decide) ?_
  refine lv_iadd (pc := 91) hx hb dX2_addTriangle_91 ?_
  refine va_put (D := K.1) (ci := 2) (v := .int (nt + (1 : Int32))) (ty := .int) (C := RX2) (T := TX2) (N := 12) (pc := 92) hx hb hts inT2 tyX2 tyX2_ok nmX2 hown hG.1 hP hD hS 0 rfl rfl 10 (by decide) (hts _ qf_Mesh_53) (fun _ h9 => h9) rfl (by decide +kernel) rfl rfl (Nat.le_of_ble_eq_true rfl) dX2_addTriangle_92 (fun H locs hP hD hS => ?_)
  have hP : va_P K.1 vC (wMesh K ad pxs pys plo phi pn pm lf th (s_Tab_set (s_Tab_set (s_Tab_set ow a0 a1 nt) a1 a2 nt) a2 a0 nt) lk el eh (s_Row_set 81 (s_Row_set 81 (s_Row_set 81 co ((3 : Int32) * nt) a0) (((3 : Int32) * nt) + (1 : Int32)) a1) (((3 : Int32) * nt) + (2 : Int32)) a2) hu ne (nt + (1 : Int32)) nh) H := hP
  have hD : va_D _ (wMesh K ad pxs pys plo phi pn pm lf th (s_Tab_set (s_Tab_set (s_Tab_set ow a0 a1 nt) a1 a2 nt) a2 a0 nt) lk el eh (s_Row_set 81 (s_Row_set 81 (s_Row_set 81 co ((3 : Int32) * nt) a0) (((3 : Int32) * nt) + (1 : Int32)) a1) (((3 : Int32) * nt) + (2 : Int32)) a2) hu ne (nt + (1 : Int32)) nh) := hD
  subst h
  exact W.vret hx hb hr (fun t ht hW => ⟨⟨rfl, by rw [ht]; exact hP⟩, hS.F ht⟩) hS.2.2 dX2_addTriangle_95 hlk
