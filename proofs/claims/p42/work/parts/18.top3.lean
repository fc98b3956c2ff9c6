set_option maxHeartbeats 4000000 in
set_option maxRecDepth 100000 in
theorem l_Top_readInput_L10 {p : Program} {l : Launch} {e : Env} {s : State} {m : MethodId} {args : Array Value} {below : List Frame} {meth : Method} {c : Code} {Q : State → Prop} {K : KT} {A : Nat → Prop} (C0 : Ctx p m c cX6_readInput 3 s args RX6 K meth (some .int)) (F : Nat) (ad : Nat → Nat) (lf : Nat → Int32) (th : Nat → Int32) (ow : Nat → Int32) (lk : Nat → Int32) (el : Nat → Int32) (eh : Nat → Int32) (co : Nat → Int32) (hu : Nat → Int32) (ne : Int32) (nt : Int32) (nh : Int32) (tpxs : Nat → Int32) (tpys : Nat → Int32) (tplo : Nat → Int32) (tphi : Nat → Int32) (tpn : Int32) (tpm : Int32) (tlf : Nat → Int32) (tth : Nat → Int32) (tow : Nat → Int32) (tlk : Nat → Int32) (tel : Nat → Int32) (teh : Nat → Int32) (tco : Nat → Int32) (thu : Nat → Int32) (tne : Int32) (tnt : Int32) (tnh : Int32) (spxs : Nat → Int32) (spys : Nat → Int32) (splo : Nat → Int32) (sphi : Nat → Int32) (spn : Int32) (spm : Int32) (ich : Nat → Int32) (ifs : Nat → Int32) (isc : Nat → Int32) (isg : Nat → Int32) (iln : Int32) (ien : Int32) (iin : Bool) (idg : Int32) (iva : Int32) (hsv : Bool) (x1 : Int32)  : ∀ (n : Nat) (x2 : Int32) (pxs : Nat → Int32) (pys : Nat → Int32) (plo : Nat → Int32) (phi : Nat → Int32) (pn : Int32) (pm : Int32) (hp : Nat → PlanS) (hnx : Int32) (hkp : Int32) (out : Int32 × (Nat → Int32) × (Nat → Int32) × (Nat → Int32) × (Nat → Int32) × Int32 × Int32 × (Nat → PlanS) × Int32 × Int32), s_Top_readInput_L10 F ifs isc isg ien x1 n x2 pxs pys plo phi pn pm hp hnx hkp = some out → ∀ (H : Heap) (locs : List Loc) (ls : Array Slot), va_P K.1 vC (wTop K ad pxs pys plo phi pn pm lf th ow lk el eh co hu ne nt nh tpxs tpys tplo tphi tpn tpm tlf tth tow tlk tel teh tco thu tne tnt tnh spxs spys splo sphi spn spm ich ifs isc isg iln ien iin idg iva hp hnx hkp hsv) H → va_D A (wTop K ad pxs pys plo phi pn pm lf th ow lk el eh co hu ne nt nh tpxs tpys tplo tphi tpn tpm tlf tth tow tlk tel teh tco thu tne tnt tnh spxs spys splo sphi spn spm ich ifs isc isg iln ien iin idg iva hp hnx hkp hsv) → va_S A s.heap H locs → lv_has ls 3 [(0, .ref (ad 0)), (1, .int x1), (2, .int x2)] → (∀ (o : Int32 × (Nat → Int32) × (Nat → Int32) × (Nat → Int32) × (Nat → Int32) × Int32 × Int32 × (Nat → PlanS) × Int32 × Int32) (H : Heap) (locs : List Loc) (ls : Array Slot), out = o → va_P K.1 vC (wTop K ad o.2.1 o.2.2.1 o.2.2.2.1 o.2.2.2.2.1 o.2.2.2.2.2.1 o.2.2.2.2.2.2.1 lf th ow lk el eh co hu ne nt nh tpxs tpys tplo tphi tpn tpm tlf tth tow tlk tel teh tco thu tne tnt tnh spxs spys splo sphi spn spm ich ifs isc isg iln ien iin idg iva o.2.2.2.2.2.2.2.1 o.2.2.2.2.2.2.2.2.1 o.2.2.2.2.2.2.2.2.2 hsv) H → va_D A (wTop K ad o.2.1 o.2.2.1 o.2.2.2.1 o.2.2.2.2.1 o.2.2.2.2.2.1 o.2.2.2.2.2.2.1 lf th ow lk el eh co hu ne nt nh tpxs tpys tplo tphi tpn tpm tlf tth tow tlk tel teh tco thu tne tnt tnh spxs spys splo sphi spn spm ich ifs isc isg iln ien iin idg iva o.2.2.2.2.2.2.2.1 o.2.2.2.2.2.2.2.2.1 o.2.2.2.2.2.2.2.2.2 hsv) → va_S A s.heap H locs → lv_has ls 3 [(0, .ref (ad 0)), (1, .int x1), (2, .int o.1)] → W p l e (rmL 7) s m args below meth c H locs 0 0 Q (F0 m 40 ls [])) → W p l e (rmL 7) s m args below meth c H locs 0 0 Q (F0 m 10 ls []) := by
  obtain ⟨hx, hb, hml, hown, hts, hG, hr, hlk⟩ := id C0
  intro n
  induction n with
  | zero =>
    intro x2 pxs pys plo phi pn pm hp hnx hkp out h
    cases h
  | succ n ih =>
    intro x2 pxs pys plo phi pn pm hp hnx hkp out h H locs ls hP hD hS hl Kx 
    rw [s_Top_readInput_L10.eq_2] at h
    refine lv_iload_n (pc := 10) hx hb dX6_readInput_10 rfl (lv_at hl 1 rfl) ?_
    refine lv_iconst (v := (-1 : Int32)) (pc := 11) hx hb dX6_readInput_11 (by decide) ?_
    refine lv_icmp_ne (tgt := 40) (pc := 12) hx hb dX6_readInput_12 (by decide) (fun c2 => ?_) (fun c2 => ?_)
    · have h := it_f c2 h
      obtain rfl := Option.some.inj h
      exact Kx _ H locs ls rfl hP hD hS (lv_sub hl [0, 1, 2] rfl)
    · have h := it_t c2 h
      refine lv_iload_n (pc := 15) hx hb dX6_readInput_15 rfl (lv_at hl 2 rfl) ?_
      refine lv_aload_n (pc := 16) hx hb dX6_readInput_16 rfl (lv_at hl 0 rfl) ?_
      refine va_get (D := K.1) (ci := 6) (v := .ref (ad 62)) (C := RX6) (T := TX6) (N := 8) (pc := 17) hx hb hts inT6 hown hG.1 hP 0 rfl rfl 6 (by decide) (hts _ qf_Top_44) (fun _ h9 => h9) rfl dX6_readInput_17 ?_
      refine rdV (pc := 20) (As := []) (rest := [.int x2]) hx hb hml hown hts hG hP (c_Input_entries l K (fun k => ad (k + 62)) ich ifs isc isg iln ien iin idg iva) [62, 63, 64, 65, 66, 67, 68, 69, 70] rfl (q0 := 62) rfl (ci := 1) rfl g_Top_154 hd_Input_entries rfl ⟨Nat.le_of_ble_eq_true rfl, Nat.le_of_ble_eq_true rfl⟩ ⟨Nat.zero_le _, Nat.zero_le _⟩ hl rfl (Nat.le_of_ble_eq_true rfl) dX6_readInput_20 ?_
      refine lv_icmp_ge (tgt := 40) (pc := 23) hx hb dX6_readInput_23 (by decide) (fun c3 => ?_) (fun c3 => ?_)
      · have h := it_t c3 h
        obtain rfl := Option.some.inj h
        exact Kx _ H locs ls rfl hP hD hS (lv_sub hl [0, 1, 2] rfl)
      · have h := it_f c3 h
        refine lv_aload_n (pc := 26) hx hb dX6_readInput_26 rfl (lv_at hl 0 rfl) ?_
        refine lv_iload_n (pc := 27) hx hb dX6_readInput_27 rfl (lv_at hl 2 rfl) ?_
        obtain ⟨v4, h_v4, h⟩ := ob h
        refine wrVsi (pc := 28) (As := [.int x2]) (rest := []) hx hb hml hown hts hG hP hD hS (c_Top_addEntry l K ad pxs pys plo phi pn pm lf th ow lk el eh co hu ne nt nh tpxs tpys tplo tphi tpn tpm tlf tth tow tlk tel teh tco thu tne tnt tnh spxs spys splo sphi spn spm ich ifs isc isg iln ien iin idg iva hp hnx hkp hsv x2 F h_v4) (as9 := [ad 0, ad 1, ad 2, ad 3, ad 4, ad 5, ad 6, ad 7, ad 8, ad 9, ad 10, ad 11, ad 12, ad 13, ad 14, ad 15, ad 16, ad 17, ad 18, ad 19, ad 20, ad 21, ad 22, ad 23, ad 24, ad 25, ad 26, ad 27, ad 28, ad 29, ad 30, ad 31, ad 32, ad 33, ad 34, ad 35, ad 36, ad 37, ad 38, ad 39, ad 40, ad 41, ad 42, ad 43, ad 44, ad 45, ad 46, ad 47, ad 48, ad 49, ad 50, ad 51, ad 52, ad 53, ad 54, ad 55, ad 56, ad 57, ad 58, ad 59, ad 60, ad 61, ad 62, ad 63, ad 64, ad 65, ad 66, ad 67, ad 68, ad 69, ad 70, ad 71, ad 72, ad 73, ad 74, ad 75, ad 76, ad 77, ad 78, ad 79, ad 80, ad 81, ad 82, ad 83, ad 84, ad 85, ad 86, ad 87, ad 88, ad 89, ad 90, ad 91, ad 92, ad 93, ad 94, ad 95, ad 96, ad 97, ad 98, ad 99, ad 100, ad 101, ad 102, ad 103, ad 104, ad 105, ad 106, ad 107, ad 108, ad 109, ad 110, ad 111, ad 112, ad 113, ad 114, ad 115, ad 116, ad 117, ad 118, ad 119, ad 120, ad 121, ad 122, ad 123, ad 124, ad 125, ad 126, ad 127, ad 128, ad 129, ad 130, ad 131, ad 132, ad 133, ad 134, ad 135, ad 136, ad 137, ad 138, ad 139, ad 140, ad 141, ad 142, ad 143, ad 144, ad 145, ad 146, ad 147, ad 148, ad 149, ad 150, ad 151, ad 152, ad 153, ad 154, ad 155, ad 156, ad 157, ad 158, ad 159, ad 160, ad 161, ad 162, ad 163, ad 164, ad 165, ad 166, ad 167, ad 168, ad 169, ad 170, ad 171, ad 172, ad 173, ad 174, ad 175, ad 176, ad 177, ad 178, ad 179, ad 180]) rfl rfl (q0 := 0) rfl (ci := 6) rfl g_Top_157 hd_Top_addEntry rfl ⟨Nat.le_of_ble_eq_true rfl, Nat.le_of_ble_eq_true rfl⟩ ⟨Nat.zero_le _, Nat.zero_le _⟩ hl rfl (Nat.le_of_ble_eq_true rfl) dX6_readInput_28 (fun H locs hP hD hS => ?_)
        refine lv_if_eq (tgt := 40) (pc := 31) hx hb dX6_readInput_31 (by decide) (fun c5 => ?_) (fun c5 => ?_)
        · have h := it_t c5 h
          obtain rfl := Option.some.inj h
          exact Kx _ H locs ls rfl hP hD hS (lv_sub hl [0, 1, 2] rfl)
        · have h := it_f c5 h
          refine lv_iinc (v := (x2 + (1 : Int32))) (pc := 34) (lv' := [(2, .int (x2 + (1 : Int32))), (0, .ref (ad 0)), (1, .int x1)]) hx hb dX6_readInput_34 hl (k := 2) rfl rfl (by decide) rfl (fun ls hl => ?_)
          refine lv_goto (tgt := 10) (pc := 37) hx hb dX6_readInput_37 (by decide) ?_
          exact ih (x2 + (1 : Int32)) v4.2.1 v4.2.2.1 v4.2.2.2.1 v4.2.2.2.2.1 v4.2.2.2.2.2.1 v4.2.2.2.2.2.2.1 v4.2.2.2.2.2.2.2.1 v4.2.2.2.2.2.2.2.2.1 v4.2.2.2.2.2.2.2.2.2 out h H locs ls hP hD hS (lv_sub hl [1, 2, 0] rfl) Kx 
set_option maxHeartbeats 4000000 in
set_option maxRecDepth 100000 in
theorem c_Top_readInput (l : Launch) (K : KT) (ad : Nat → Nat) (pxs : Nat → Int32) (pys : Nat → Int32) (plo : Nat → Int32) (phi : Nat → Int32) (pn : Int32) (pm : Int32) (lf : Nat → Int32) (th : Nat → Int32) (ow : Nat → Int32) (lk : Nat → Int32) (el : Nat → Int32) (eh : Nat → Int32) (co : Nat → Int32) (hu : Nat → Int32) (ne : Int32) (nt : Int32) (nh : Int32) (tpxs : Nat → Int32) (tpys : Nat → Int32) (tplo : Nat → Int32) (tphi : Nat → Int32) (tpn : Int32) (tpm : Int32) (tlf : Nat → Int32) (tth : Nat → Int32) (tow : Nat → Int32) (tlk : Nat → Int32) (tel : Nat → Int32) (teh : Nat → Int32) (tco : Nat → Int32) (thu : Nat → Int32) (tne : Int32) (tnt : Int32) (tnh : Int32) (spxs : Nat → Int32) (spys : Nat → Int32) (splo : Nat → Int32) (sphi : Nat → Int32) (spn : Int32) (spm : Int32) (ich : Nat → Int32) (ifs : Nat → Int32) (isc : Nat → Int32) (isg : Nat → Int32) (iln : Int32) (ien : Int32) (iin : Bool) (idg : Int32) (iva : Int32) (hp : Nat → PlanS) (hnx : Int32) (hkp : Int32) (hsv : Bool) (F : Nat) {o : Int32 × (Nat → Int32) × (Nat → Int32) × (Nat → Int32) × (Nat → Int32) × Int32 × Int32 × (Nat → Int32) × (Nat → Int32) × (Nat → Int32) × (Nat → Int32) × (Nat → Int32) × (Nat → Int32) × (Nat → Int32) × (Nat → Int32) × Int32 × Int32 × Int32 × (Nat → Int32) × (Nat → Int32) × (Nat → Int32) × Int32 × Int32 × Bool × Int32 × Int32 × (Nat → PlanS) × Int32 × Int32} (h : s_Top_readInput F pxs pys plo phi pn pm lf th ow lk el eh co hu ich ifs isc isg iln hp hnx hkp = some o) : Wr l K 7 yX6_readInput cX6_readInput 3 (some .int) [.ref (ad 0)] (wTop K ad pxs pys plo phi pn pm lf th ow lk el eh co hu ne nt nh tpxs tpys tplo tphi tpn tpm tlf tth tow tlk tel teh tco thu tne tnt tnh spxs spys splo sphi spn spm ich ifs isc isg iln ien iin idg iva hp hnx hkp hsv) (some (.int o.1)) (wTop K ad o.2.1 o.2.2.1 o.2.2.2.1 o.2.2.2.2.1 o.2.2.2.2.2.1 o.2.2.2.2.2.2.1 o.2.2.2.2.2.2.2.1 o.2.2.2.2.2.2.2.2.1 o.2.2.2.2.2.2.2.2.2.1 o.2.2.2.2.2.2.2.2.2.2.1 o.2.2.2.2.2.2.2.2.2.2.2.1 o.2.2.2.2.2.2.2.2.2.2.2.2.1 o.2.2.2.2.2.2.2.2.2.2.2.2.2.1 o.2.2.2.2.2.2.2.2.2.2.2.2.2.2.1 o.2.2.2.2.2.2.2.2.2.2.2.2.2.2.2.1 o.2.2.2.2.2.2.2.2.2.2.2.2.2.2.2.2.1 o.2.2.2.2.2.2.2.2.2.2.2.2.2.2.2.2.2.1 tpxs tpys tplo tphi tpn tpm tlf tth tow tlk tel teh tco thu tne tnt tnh spxs spys splo sphi spn spm ich o.2.2.2.2.2.2.2.2.2.2.2.2.2.2.2.2.2.2.1 o.2.2.2.2.2.2.2.2.2.2.2.2.2.2.2.2.2.2.2.1 o.2.2.2.2.2.2.2.2.2.2.2.2.2.2.2.2.2.2.2.2.1 o.2.2.2.2.2.2.2.2.2.2.2.2.2.2.2.2.2.2.2.2.2.1 o.2.2.2.2.2.2.2.2.2.2.2.2.2.2.2.2.2.2.2.2.2.2.1 o.2.2.2.2.2.2.2.2.2.2.2.2.2.2.2.2.2.2.2.2.2.2.2.1 o.2.2.2.2.2.2.2.2.2.2.2.2.2.2.2.2.2.2.2.2.2.2.2.2.1 o.2.2.2.2.2.2.2.2.2.2.2.2.2.2.2.2.2.2.2.2.2.2.2.2.2.1 o.2.2.2.2.2.2.2.2.2.2.2.2.2.2.2.2.2.2.2.2.2.2.2.2.2.2.1 o.2.2.2.2.2.2.2.2.2.2.2.2.2.2.2.2.2.2.2.2.2.2.2.2.2.2.2.1 o.2.2.2.2.2.2.2.2.2.2.2.2.2.2.2.2.2.2.2.2.2.2.2.2.2.2.2.2 hsv) := by
  refine Wr.of (by decide +kernel) (Nat.le_of_ble_eq_true rfl) ?_
  unfold s_Top_readInput at h
  intro p e s m below meth c hx hb hr hml hown hts hlk H locs hP hG hD hS ls hl
  have C0 : Ctx p m c cX6_readInput 3 s (Array.mk [.ref (ad 0)]) RX6 K meth (some .int) := ⟨hx, hb, hml, hown, hts, hG, hr, hlk⟩
  have hl : lv_has ls 3 [(0, .ref (ad 0))] := hl
  refine lv_aload_n (pc := 0) hx hb dX6_readInput_0 rfl (lv_at hl 0 rfl) ?_
  refine va_get (D := K.1) (ci := 6) (v := .ref (ad 62)) (C := RX6) (T := TX6) (N := 8) (pc := 1) hx hb hts inT6 hown hG.1 hP 0 rfl rfl 6 (by decide) (hts _ qf_Top_44) (fun _ h9 => h9) rfl dX6_readInput_1 ?_
  obtain ⟨v1, h_v1, h⟩ := ob h
  refine wrVi (pc := 4) (As := []) (rest := []) (ws2 := wTop K ad pxs pys plo phi pn pm lf th ow lk el eh co hu ne nt nh tpxs tpys tplo tphi tpn tpm tlf tth tow tlk tel teh tco thu tne tnt tnh spxs spys splo sphi spn spm ich v1.2.1 v1.2.2.1 v1.2.2.2.1 iln v1.2.2.2.2.1 v1.2.2.2.2.2.1 v1.2.2.2.2.2.2.1 v1.2.2.2.2.2.2.2 hp hnx hkp hsv) (as9 := [ad 62, ad 63, ad 64, ad 65, ad 66, ad 67, ad 68, ad 69, ad 70]) hx hb hml hown hts hG hP hD hS (c_Input_parse l K (fun k => ad (k + 62)) ich ifs isc isg iln ien iin idg iva F h_v1) [62, 63, 64, 65, 66, 67, 68, 69, 70] rfl rfl rfl rfl [.inr 0, .inr 1, .inr 2, .inr 3, .inr 4, .inr 5, .inr 6, .inr 7, .inr 8, .inr 9, .inr 10, .inr 11, .inr 12, .inr 13, .inr 14, .inr 15, .inr 16, .inr 17, .inr 18, .inr 19, .inr 20, .inr 21, .inr 22, .inr 23, .inr 24, .inr 25, .inr 26, .inr 27, .inr 28, .inr 29, .inr 30, .inr 31, .inr 32, .inr 33, .inr 34, .inr 35, .inr 36, .inr 37, .inr 38, .inr 39, .inr 40, .inr 41, .inr 42, .inr 43, .inr 44, .inr 45, .inr 46, .inr 47, .inr 48, .inr 49, .inr 50, .inr 51, .inr 52, .inr 53, .inr 54, .inr 55, .inr 56, .inr 57, .inr 58, .inr 59, .inr 60, .inr 61, .inl 0, .inl 1, .inl 2, .inl 3, .inl 4, .inl 5, .inl 6, .inl 7, .inl 8, .inr 71, .inr 72, .inr 73, .inr 74, .inr 75, .inr 76, .inr 77, .inr 78, .inr 79, .inr 80, .inr 81, .inr 82, .inr 83, .inr 84, .inr 85, .inr 86, .inr 87, .inr 88, .inr 89, .inr 90, .inr 91, .inr 92, .inr 93, .inr 94, .inr 95, .inr 96, .inr 97, .inr 98, .inr 99, .inr 100, .inr 101, .inr 102, .inr 103, .inr 104, .inr 105, .inr 106, .inr 107, .inr 108, .inr 109, .inr 110, .inr 111, .inr 112, .inr 113, .inr 114, .inr 115, .inr 116, .inr 117, .inr 118, .inr 119, .inr 120, .inr 121, .inr 122, .inr 123, .inr 124, .inr 125, .inr 126, .inr 127, .inr 128, .inr 129, .inr 130, .inr 131, .inr 132, .inr 133, .inr 134, .inr 135, .inr 136, .inr 137, .inr 138, .inr 139, .inr 140, .inr 141, .inr 142, .inr 143, .inr 144, .inr 145, .inr 146, .inr 147, .inr 148, .inr 149, .inr 150, .inr 151, .inr 152, .inr 153, .inr 154, .inr 155, .inr 156, .inr 157, .inr 158, .inr 159, .inr 160, .inr 161, .inr 162, .inr 163, .inr 164, .inr 165, .inr 166, .inr 167, .inr 168, .inr 169, .inr 170, .inr 171, .inr 172, .inr 173, .inr 174, .inr 175, .inr 176, .inr 177, .inr 178, .inr 179, .inr 180] (by decide +kernel) rfl (q0 := 62) rfl (ci := 1) rfl g_Top_151 hd_Input_parse rfl ⟨Nat.le_of_ble_eq_true rfl, Nat.le_of_ble_eq_true rfl⟩ ⟨Nat.zero_le _, Nat.zero_le _⟩ hl rfl (Nat.le_of_ble_eq_true rfl) dX6_readInput_4 (fun H locs hP hD hS => ?_)
  refine lv_istore_n (pc := 7) (lv' := [(1, .int v1.1), (0, .ref (ad 0))]) hx hb dX6_readInput_7 rfl hl (by decide) rfl (fun ls hl => ?_)
  refine lv_iconst (v := (0 : Int32)) (pc := 8) hx hb dX6_readInput_8 (by decide) ?_
  refine lv_istore_n (pc := 9) (lv' := [(2, .int (0 : Int32)), (1, .int v1.1), (0, .ref (ad 0))]) hx hb dX6_readInput_9 rfl hl (by decide) rfl (fun ls hl => ?_)
  obtain ⟨o6, h_o6, h⟩ := ob h
  refine l_Top_readInput_L10 C0 F ad lf th ow lk el eh co hu ne nt nh tpxs tpys tplo tphi tpn tpm tlf tth tow tlk tel teh tco thu tne tnt tnh spxs spys splo sphi spn spm ich v1.2.1 v1.2.2.1 v1.2.2.2.1 iln v1.2.2.2.2.1 v1.2.2.2.2.2.1 v1.2.2.2.2.2.2.1 v1.2.2.2.2.2.2.2 hsv v1.1 F (0 : Int32) pxs pys plo phi pn pm hp hnx hkp _ h_o6 H locs ls hP hD hS (lv_sub hl [2, 1, 0] rfl) (fun o6x H locs ls eo hP hD hS hl => ?_)
  subst o6
  refine lv_aload_n (pc := 40) hx hb dX6_readInput_40 rfl (lv_at hl 0 rfl) ?_
  refine va_get (D := K.1) (ci := 6) (v := .ref (ad 62)) (C := RX6) (T := TX6) (N := 8) (pc := 41) hx hb hts inT6 hown hG.1 hP 0 rfl rfl 6 (by decide) (hts _ qf_Top_44) (fun _ h9 => h9) rfl dX6_readInput_41 ?_
  refine wrVv (pc := 44) (As := []) (rest := []) (ws2 := wTop K ad o6x.2.1 o6x.2.2.1 o6x.2.2.2.1 o6x.2.2.2.2.1 o6x.2.2.2.2.2.1 o6x.2.2.2.2.2.2.1 lf th ow lk el eh co hu ne nt nh tpxs tpys tplo tphi tpn tpm tlf tth tow tlk tel teh tco thu tne tnt tnh spxs spys splo sphi spn spm ich v1.2.1 v1.2.2.1 v1.2.2.2.1 ((s_Input_clear).1) ((s_Input_clear).2) v1.2.2.2.2.2.1 v1.2.2.2.2.2.2.1 v1.2.2.2.2.2.2.2 o6x.2.2.2.2.2.2.2.1 o6x.2.2.2.2.2.2.2.2.1 o6x.2.2.2.2.2.2.2.2.2 hsv) (as9 := [ad 62, ad 63, ad 64, ad 65, ad 66, ad 67, ad 68, ad 69, ad 70]) hx hb hml hown hts hG hP hD hS (c_Input_clear l K (fun k => ad (k + 62)) ich v1.2.1 v1.2.2.1 v1.2.2.2.1 iln v1.2.2.2.2.1 v1.2.2.2.2.2.1 v1.2.2.2.2.2.2.1 v1.2.2.2.2.2.2.2) [62, 63, 64, 65, 66, 67, 68, 69, 70] rfl rfl rfl rfl [.inr 0, .inr 1, .inr 2, .inr 3, .inr 4, .inr 5, .inr 6, .inr 7, .inr 8, .inr 9, .inr 10, .inr 11, .inr 12, .inr 13, .inr 14, .inr 15, .inr 16, .inr 17, .inr 18, .inr 19, .inr 20, .inr 21, .inr 22, .inr 23, .inr 24, .inr 25, .inr 26, .inr 27, .inr 28, .inr 29, .inr 30, .inr 31, .inr 32, .inr 33, .inr 34, .inr 35, .inr 36, .inr 37, .inr 38, .inr 39, .inr 40, .inr 41, .inr 42, .inr 43, .inr 44, .inr 45, .inr 46, .inr 47, .inr 48, .inr 49, .inr 50, .inr 51, .inr 52, .inr 53, .inr 54, .inr 55, .inr 56, .inr 57, .inr 58, .inr 59, .inr 60, .inr 61, .inl 0, .inl 1, .inl 2, .inl 3, .inl 4, .inl 5, .inl 6, .inl 7, .inl 8, .inr 71, .inr 72, .inr 73, .inr 74, .inr 75, .inr 76, .inr 77, .inr 78, .inr 79, .inr 80, .inr 81, .inr 82, .inr 83, .inr 84, .inr 85, .inr 86, .inr 87, .inr 88, .inr 89, .inr 90, .inr 91, .inr 92, .inr 93, .inr 94, .inr 95, .inr 96, .inr 97, .inr 98, .inr 99, .inr 100, .inr 101, .inr 102, .inr 103, .inr 104, .inr 105, .inr 106, .inr 107, .inr 108, .inr 109, .inr 110, .inr 111, .inr 112, .inr 113, .inr 114, .inr 115, .inr 116, .inr 117, .inr 118, .inr 119, .inr 120, .inr 121, .inr 122, .inr 123, .inr 124, .inr 125, .inr 126, .inr 127, .inr 128, .inr 129, .inr 130, .inr 131, .inr 132, .inr 133, .inr 134, .inr 135, .inr 136, .inr 137, .inr 138, .inr 139, .inr 140, .inr 141, .inr 142, .inr 143, .inr 144, .inr 145, .inr 146, .inr 147, .inr 148, .inr 149, .inr 150, .inr 151, .inr 152, .inr 153, .inr 154, .inr 155, .inr 156, .inr 157, .inr 158, .inr 159, .inr 160, .inr 161, .inr 162, .inr 163, .inr 164, .inr 165, .inr 166, .inr 167, .inr 168, .inr 169, .inr 170, .inr 171, .inr 172, .inr 173, .inr 174, .inr 175, .inr 176, .inr 177, .inr 178, .inr 179, .inr 180] (by decide +kernel) rfl (q0 := 62) rfl (ci := 1) rfl g_Top_161 hd_Input_clear rfl ⟨Nat.le_of_ble_eq_true rfl, Nat.le_of_ble_eq_true rfl⟩ ⟨Nat.zero_le _, Nat.zero_le _⟩ hl rfl (Nat.le_of_ble_eq_true rfl) dX6_readInput_44 (fun H locs hP hD hS => ?_)
  refine lv_aload_n (pc := 47) hx hb dX6_readInput_47 rfl (lv_at hl 0 rfl) ?_
  refine va_get (D := K.1) (ci := 6) (v := .ref (ad 1)) (C := RX6) (T := TX6) (N := 8) (pc := 48) hx hb hts inT6 hown hG.1 hP 0 rfl rfl 1 (by decide) (hts _ qf_Top_21) (fun _ h9 => h9) rfl dX6_readInput_48 ?_
  obtain ⟨v7, h_v7, h⟩ := ob h
  refine wrVv (pc := 51) (As := []) (rest := []) (ws2 := wTop K ad o6x.2.1 o6x.2.2.1 o6x.2.2.2.1 o6x.2.2.2.2.1 o6x.2.2.2.2.2.1 o6x.2.2.2.2.2.2.1 v7.1 v7.2.1 v7.2.2.1 v7.2.2.2.1 v7.2.2.2.2.1 v7.2.2.2.2.2.1 v7.2.2.2.2.2.2.1 v7.2.2.2.2.2.2.2.1 v7.2.2.2.2.2.2.2.2.1 v7.2.2.2.2.2.2.2.2.2.1 v7.2.2.2.2.2.2.2.2.2.2 tpxs tpys tplo tphi tpn tpm tlf tth tow tlk tel teh tco thu tne tnt tnh spxs spys splo sphi spn spm ich v1.2.1 v1.2.2.1 v1.2.2.2.1 ((s_Input_clear).1) ((s_Input_clear).2) v1.2.2.2.2.2.1 v1.2.2.2.2.2.2.1 v1.2.2.2.2.2.2.2 o6x.2.2.2.2.2.2.2.1 o6x.2.2.2.2.2.2.2.2.1 o6x.2.2.2.2.2.2.2.2.2 hsv) (as9 := [ad 1, ad 2, ad 3, ad 4, ad 5, ad 6, ad 7, ad 8, ad 9, ad 10, ad 11, ad 12, ad 13, ad 14, ad 15, ad 16, ad 17, ad 18, ad 19, ad 20, ad 21, ad 22, ad 23, ad 24, ad 25, ad 26]) hx hb hml hown hts hG hP hD hS (c_Mesh_draw l K (fun k => ad (k + 1)) o6x.2.1 o6x.2.2.1 o6x.2.2.2.1 o6x.2.2.2.2.1 o6x.2.2.2.2.2.1 o6x.2.2.2.2.2.2.1 lf th ow lk el eh co hu ne nt nh F h_v7) [1, 2, 3, 4, 5, 6, 7, 8, 9, 10, 11, 12, 13, 14, 15, 16, 17, 18, 19, 20, 21, 22, 23, 24, 25, 26] rfl rfl rfl rfl [.inr 0, .inl 0, .inl 1, .inl 2, .inl 3, .inl 4, .inl 5, .inl 6, .inl 7, .inl 8, .inl 9, .inl 10, .inl 11, .inl 12, .inl 13, .inl 14, .inl 15, .inl 16, .inl 17, .inl 18, .inl 19, .inl 20, .inl 21, .inl 22, .inl 23, .inl 24, .inl 25, .inr 27, .inr 28, .inr 29, .inr 30, .inr 31, .inr 32, .inr 33, .inr 34, .inr 35, .inr 36, .inr 37, .inr 38, .inr 39, .inr 40, .inr 41, .inr 42, .inr 43, .inr 44, .inr 45, .inr 46, .inr 47, .inr 48, .inr 49, .inr 50, .inr 51, .inr 52, .inr 53, .inr 54, .inr 55, .inr 56, .inr 57, .inr 58, .inr 59, .inr 60, .inr 61, .inr 62, .inr 63, .inr 64, .inr 65, .inr 66, .inr 67, .inr 68, .inr 69, .inr 70, .inr 71, .inr 72, .inr 73, .inr 74, .inr 75, .inr 76, .inr 77, .inr 78, .inr 79, .inr 80, .inr 81, .inr 82, .inr 83, .inr 84, .inr 85, .inr 86, .inr 87, .inr 88, .inr 89, .inr 90, .inr 91, .inr 92, .inr 93, .inr 94, .inr 95, .inr 96, .inr 97, .inr 98, .inr 99, .inr 100, .inr 101, .inr 102, .inr 103, .inr 104, .inr 105, .inr 106, .inr 107, .inr 108, .inr 109, .inr 110, .inr 111, .inr 112, .inr 113, .inr 114, .inr 115, .inr 116, .inr 117, .inr 118, .inr 119, .inr 120, .inr 121, .inr 122, .inr 123, .inr 124, .inr 125, .inr 126, .inr 127, .inr 128, .inr 129, .inr 130, .inr 131, .inr 132, .inr 133, .inr 134, .inr 135, .inr 136, .inr 137, .inr 138, .inr 139, .inr 140, .inr 141, .inr 142, .inr 143, .inr 144, .inr 145, .inr 146, .inr 147, .inr 148, .inr 149, .inr 150, .inr 151, .inr 152, .inr 153, .inr 154, .inr 155, .inr 156, .inr 157, .inr 158, .inr 159, .inr 160, .inr 161, .inr 162, .inr 163, .inr 164, .inr 165, .inr 166, .inr 167, .inr 168, .inr 169, .inr 170, .inr 171, .inr 172, .inr 173, .inr 174, .inr 175, .inr 176, .inr 177, .inr 178, .inr 179, .inr 180] (by decide +kernel) rfl (q0 := 1) rfl (ci := 2) rfl g_Top_65 hd_Mesh_draw rfl ⟨Nat.le_of_ble_eq_true rfl, Nat.le_of_ble_eq_true rfl⟩ ⟨Nat.zero_le _, Nat.zero_le _⟩ hl rfl (Nat.le_of_ble_eq_true rfl) dX6_readInput_51 (fun H locs hP hD hS => ?_)
  refine lv_iload_n (pc := 54) hx hb dX6_readInput_54 rfl (lv_at hl 1 rfl) ?_
  refine lv_iconst (v := (-1 : Int32)) (pc := 55) hx hb dX6_readInput_55 (by decide) ?_
  refine lv_icmp_ne (tgt := 63) (pc := 56) hx hb dX6_readInput_56 (by decide) (fun c8 => ?_) (fun c8 => ?_)
  · have h := it_f c8 h
    refine lv_bipush (v := (-100 : Int32)) (pc := 63) hx hb dX6_readInput_63 (by decide) ?_
    refine lv_iload_n (pc := 65) hx hb dX6_readInput_65 rfl (lv_at hl 1 rfl) ?_
    refine lv_isub (pc := 66) hx hb dX6_readInput_66 ?_
    obtain rfl := Option.some.inj h
    exact W.iret hx hb hr (fun t ht hW => ⟨⟨rfl, by rw [ht]; exact hP⟩, hS.F ht⟩) hS.2.2 dX6_readInput_67 hlk
  · have h := it_t c8 h
    refine lv_iload_n (pc := 59) hx hb dX6_readInput_59 rfl (lv_at hl 2 rfl) ?_
    refine lv_goto (tgt := 67) (pc := 60) hx hb dX6_readInput_60 (by decide) ?_
    obtain rfl := Option.some.inj h
    exact W.iret hx hb hr (fun t ht hW => ⟨⟨rfl, by rw [ht]; exact hP⟩, hS.F ht⟩) hS.2.2 dX6_readInput_67 hlk
set_option maxHeartbeats 4000000 in
set_option maxRecDepth 100000 in
theorem c_Top_triangleCount (l : Launch) (K : KT) (ad : Nat → Nat) (pxs : Nat → Int32) (pys : Nat → Int32) (plo : Nat → Int32) (phi : Nat → Int32) (pn : Int32) (pm : Int32) (lf : Nat → Int32) (th : Nat → Int32) (ow : Nat → Int32) (lk : Nat → Int32) (el : Nat → Int32) (eh : Nat → Int32) (co : Nat → Int32) (hu : Nat → Int32) (ne : Int32) (nt : Int32) (nh : Int32) (tpxs : Nat → Int32) (tpys : Nat → Int32) (tplo : Nat → Int32) (tphi : Nat → Int32) (tpn : Int32) (tpm : Int32) (tlf : Nat → Int32) (tth : Nat → Int32) (tow : Nat → Int32) (tlk : Nat → Int32) (tel : Nat → Int32) (teh : Nat → Int32) (tco : Nat → Int32) (thu : Nat → Int32) (tne : Int32) (tnt : Int32) (tnh : Int32) (spxs : Nat → Int32) (spys : Nat → Int32) (splo : Nat → Int32) (sphi : Nat → Int32) (spn : Int32) (spm : Int32) (ich : Nat → Int32) (ifs : Nat → Int32) (isc : Nat → Int32) (isg : Nat → Int32) (iln : Int32) (ien : Int32) (iin : Bool) (idg : Int32) (iva : Int32) (hp : Nat → PlanS) (hnx : Int32) (hkp : Int32) (hsv : Bool) : Rd l K 1 yX6_triangleCount cX6_triangleCount 1 .int [.ref (ad 0)] (wTop K ad pxs pys plo phi pn pm lf th ow lk el eh co hu ne nt nh tpxs tpys tplo tphi tpn tpm tlf tth tow tlk tel teh tco thu tne tnt tnh spxs spys splo sphi spn spm ich ifs isc isg iln ien iin idg iva hp hnx hkp hsv) (s_Top_triangleCount nt) := by
  generalize h : s_Top_triangleCount nt = o
  refine Rd.of (by decide +kernel) (Nat.le_of_ble_eq_true rfl) ?_
  unfold s_Top_triangleCount at h
  intro p e s m below meth c hx hb hr hml hown hts hlk hP hG ls hl
  have C0 : Ctx p m c cX6_triangleCount 1 s (Array.mk [.ref (ad 0)]) RX6 K meth (some .int) := ⟨hx, hb, hml, hown, hts, hG, hr, hlk⟩
  have hl : lv_has ls 1 [(0, .ref (ad 0))] := hl
  refine lv_aload_n (pc := 0) hx hb dX6_triangleCount_0 rfl (lv_at hl 0 rfl) ?_
  refine va_get (D := K.1) (ci := 6) (v := .ref (ad 1)) (C := RX6) (T := TX6) (N := 8) (pc := 1) hx hb hts inT6 hown hG.1 hP 0 rfl rfl 1 (by decide) (hts _ qf_Top_21) (fun _ h9 => h9) rfl dX6_triangleCount_1 ?_
  refine rdV (pc := 4) (As := []) (rest := []) hx hb hml hown hts hG hP (c_Mesh_triangles l K (fun k => ad (k + 1)) pxs pys plo phi pn pm lf th ow lk el eh co hu ne nt nh) [1, 2, 3, 4, 5, 6, 7, 8, 9, 10, 11, 12, 13, 14, 15, 16, 17, 18, 19, 20, 21, 22, 23, 24, 25, 26] rfl (q0 := 1) rfl (ci := 2) rfl g_Top_164 hd_Mesh_triangles rfl ⟨Nat.le_of_ble_eq_true rfl, Nat.le_of_ble_eq_true rfl⟩ ⟨Nat.zero_le _, Nat.zero_le _⟩ hl rfl (Nat.le_of_ble_eq_true rfl) dX6_triangleCount_4 ?_
  subst h
  exact W.iret hx hb hr (fun t ht hW => ⟨rfl, ht⟩) (fun q hq => absurd hq List.not_mem_nil) dX6_triangleCount_7 hlk
set_option maxHeartbeats 4000000 in
set_option maxRecDepth 100000 in
theorem c_Top_requireTriangle (l : Launch) (K : KT) (hl0 : l.stackTraces = false) (ad : Nat → Nat) (pxs : Nat → Int32) (pys : Nat → Int32) (plo : Nat → Int32) (phi : Nat → Int32) (pn : Int32) (pm : Int32) (lf : Nat → Int32) (th : Nat → Int32) (ow : Nat → Int32) (lk : Nat → Int32) (el : Nat → Int32) (eh : Nat → Int32) (co : Nat → Int32) (hu : Nat → Int32) (ne : Int32) (nt : Int32) (nh : Int32) (tpxs : Nat → Int32) (tpys : Nat → Int32) (tplo : Nat → Int32) (tphi : Nat → Int32) (tpn : Int32) (tpm : Int32) (tlf : Nat → Int32) (tth : Nat → Int32) (tow : Nat → Int32) (tlk : Nat → Int32) (tel : Nat → Int32) (teh : Nat → Int32) (tco : Nat → Int32) (thu : Nat → Int32) (tne : Int32) (tnt : Int32) (tnh : Int32) (spxs : Nat → Int32) (spys : Nat → Int32) (splo : Nat → Int32) (sphi : Nat → Int32) (spn : Int32) (spm : Int32) (ich : Nat → Int32) (ifs : Nat → Int32) (isc : Nat → Int32) (isg : Nat → Int32) (iln : Int32) (ien : Int32) (iin : Bool) (idg : Int32) (iva : Int32) (hp : Nat → PlanS) (hnx : Int32) (hkp : Int32) (hsv : Bool) (a0 : Int32) : Xm l K 6 1 yX6_requireTriangle cX6_requireTriangle 2 none [.ref (ad 0), .int a0] (wTop K ad pxs pys plo phi pn pm lf th ow lk el eh co hu ne nt nh tpxs tpys tplo tphi tpn tpm tlf tth tow tlk tel teh tco thu tne tnt tnh spxs spys splo sphi spn spm ich ifs isc isg iln ien iin idg iva hp hnx hkp hsv) (Sum.map id (fun _ => (none, wTop K ad pxs pys plo phi pn pm lf th ow lk el eh co hu ne nt nh tpxs tpys tplo tphi tpn tpm tlf tth tow tlk tel teh tco thu tne tnt tnh spxs spys splo sphi spn spm ich ifs isc isg iln ien iin idg iva hp hnx hkp hsv)) (s_Top_requireTriangle nt a0)) := by
  generalize h : s_Top_requireTriangle nt a0 = o
  refine Xm.of hl0 (by decide +kernel) (Nat.le_of_ble_eq_true rfl) ?_
  unfold s_Top_requireTriangle at h
  intro p e s m below meth c C0X H locs hP hD hS ls hl
  obtain ⟨⟨hx, hb, hml, hown, hts, hG, hr, hlk⟩, hl1, htb, hG1, hZ⟩ := id C0X
  have C0 := C0X.1
  have hl : lv_has ls 2 [(0, .ref (ad 0)), (1, .int a0)] := hl
  refine lv_iload_n (pc := 0) hx hb dX6_requireTriangle_0 rfl (lv_at hl 1 rfl) ?_
  refine lv_if_lt (tgt := 15) (pc := 1) hx hb dX6_requireTriangle_1 (by decide) (fun c1 => ?_) (fun c1 => ?_)
  · have h := it_t c1 h
    subst h
    exact xThrowW (pc := 15) (mc := 1) C0X ef_IOB ql_Top_206 qn_IOB (by decide +kernel : (302, "there is no such triangle") ∈ strs) hP hS hl dX6_requireTriangle_15 dX6_requireTriangle_18 dX6_requireTriangle_19 dX6_requireTriangle_22 dX6_requireTriangle_25 (Nat.le_of_ble_eq_true rfl) (Nat.le_of_ble_eq_true rfl) (Nat.le_of_ble_eq_true rfl) (Nat.le_of_ble_eq_true rfl) (Nat.le_of_ble_eq_true rfl) (Nat.le_of_ble_eq_true rfl) rfl
  · have h := it_f c1 h
    refine lv_iload_n (pc := 4) hx hb dX6_requireTriangle_4 rfl (lv_at hl 1 rfl) ?_
    refine lv_aload_n (pc := 5) hx hb dX6_requireTriangle_5 rfl (lv_at hl 0 rfl) ?_
    refine va_get (D := K.1) (ci := 6) (v := .ref (ad 1)) (C := RX6) (T := TX6) (N := 8) (pc := 6) hx hb hts inT6 hown hG.1 hP 0 rfl rfl 1 (by decide) (hts _ qf_Top_21) (fun _ h9 => h9) rfl dX6_requireTriangle_6 ?_
    refine rdV (pc := 9) (As := []) (rest := [.int a0]) hx hb hml hown hts hG hP (c_Mesh_triangles l K (fun k => ad (k + 1)) pxs pys plo phi pn pm lf th ow lk el eh co hu ne nt nh) [1, 2, 3, 4, 5, 6, 7, 8, 9, 10, 11, 12, 13, 14, 15, 16, 17, 18, 19, 20, 21, 22, 23, 24, 25, 26] rfl (q0 := 1) rfl (ci := 2) rfl g_Top_164 hd_Mesh_triangles rfl ⟨Nat.le_of_ble_eq_true rfl, Nat.le_of_ble_eq_true rfl⟩ ⟨Nat.le_of_ble_eq_true rfl, Nat.le_of_ble_eq_true rfl⟩ hl rfl (Nat.le_of_ble_eq_true rfl) dX6_requireTriangle_9 ?_
    refine lv_icmp_lt (tgt := 26) (pc := 12) hx hb dX6_requireTriangle_12 (by decide) (fun c2 => ?_) (fun c2 => ?_)
    · have h := it_t c2 h
      subst h
      refine vx_ret ?_
      refine W.widen (k := 1) (n := 6) (Nat.le_of_ble_eq_true rfl) (Nat.le_of_ble_eq_true rfl) ?_
      exact W.vret hx hb hr (fun t ht hW => ⟨⟨_, _, rfl, rfl, by rw [ht]; exact hP⟩, hS.F ht⟩) hS.2.2 dX6_requireTriangle_26 hlk
    · have h := it_f c2 h
      subst h
      exact xThrowW (pc := 15) (mc := 1) C0X ef_IOB ql_Top_206 qn_IOB (by decide +kernel : (302, "there is no such triangle") ∈ strs) hP hS hl dX6_requireTriangle_15 dX6_requireTriangle_18 dX6_requireTriangle_19 dX6_requireTriangle_22 dX6_requireTriangle_25 (Nat.le_of_ble_eq_true rfl) (Nat.le_of_ble_eq_true rfl) (Nat.le_of_ble_eq_true rfl) (Nat.le_of_ble_eq_true rfl) (Nat.le_of_ble_eq_true rfl) (Nat.le_of_ble_eq_true rfl) rfl
set_option maxHeartbeats 4000000 in
set_option maxRecDepth 100000 in
theorem c_Top_requireCorner (l : Launch) (K : KT) (hl0 : l.stackTraces = false) (ad : Nat → Nat) (pxs : Nat → Int32) (pys : Nat → Int32) (plo : Nat → Int32) (phi : Nat → Int32) (pn : Int32) (pm : Int32) (lf : Nat → Int32) (th : Nat → Int32) (ow : Nat → Int32) (lk : Nat → Int32) (el : Nat → Int32) (eh : Nat → Int32) (co : Nat → Int32) (hu : Nat → Int32) (ne : Int32) (nt : Int32) (nh : Int32) (tpxs : Nat → Int32) (tpys : Nat → Int32) (tplo : Nat → Int32) (tphi : Nat → Int32) (tpn : Int32) (tpm : Int32) (tlf : Nat → Int32) (tth : Nat → Int32) (tow : Nat → Int32) (tlk : Nat → Int32) (tel : Nat → Int32) (teh : Nat → Int32) (tco : Nat → Int32) (thu : Nat → Int32) (tne : Int32) (tnt : Int32) (tnh : Int32) (spxs : Nat → Int32) (spys : Nat → Int32) (splo : Nat → Int32) (sphi : Nat → Int32) (spn : Int32) (spm : Int32) (ich : Nat → Int32) (ifs : Nat → Int32) (isc : Nat → Int32) (isg : Nat → Int32) (iln : Int32) (ien : Int32) (iin : Bool) (idg : Int32) (iva : Int32) (hp : Nat → PlanS) (hnx : Int32) (hkp : Int32) (hsv : Bool) (a0 : Int32) : Xm l K 6 1 yX6_requireCorner cX6_requireCorner 2 none [.ref (ad 0), .int a0] (wTop K ad pxs pys plo phi pn pm lf th ow lk el eh co hu ne nt nh tpxs tpys tplo tphi tpn tpm tlf tth tow tlk tel teh tco thu tne tnt tnh spxs spys splo sphi spn spm ich ifs isc isg iln ien iin idg iva hp hnx hkp hsv) (Sum.map id (fun _ => (none, wTop K ad pxs pys plo phi pn pm lf th ow lk el eh co hu ne nt nh tpxs tpys tplo tphi tpn tpm tlf tth tow tlk tel teh tco thu tne tnt tnh spxs spys splo sphi spn spm ich ifs isc isg iln ien iin idg iva hp hnx hkp hsv)) (s_Top_requireCorner a0)) := by
  generalize h : s_Top_requireCorner a0 = o
  refine Xm.of hl0 (by decide +kernel) (Nat.le_of_ble_eq_true rfl) ?_
  unfold s_Top_requireCorner at h
  intro p e s m below meth c C0X H locs hP hD hS ls hl
  obtain ⟨⟨hx, hb, hml, hown, hts, hG, hr, hlk⟩, hl1, htb, hG1, hZ⟩ := id C0X
  have C0 := C0X.1
  have hl : lv_has ls 2 [(0, .ref (ad 0)), (1, .int a0)] := hl
  refine lv_iload_n (pc := 0) hx hb dX6_requireCorner_0 rfl (lv_at hl 1 rfl) ?_
  refine lv_if_lt (tgt := 9) (pc := 1) hx hb dX6_requireCorner_1 (by decide) (fun c1 => ?_) (fun c1 => ?_)
  · have h := it_t c1 h
    subst h
    exact xThrowW (pc := 9) (mc := 1) C0X ef_IAE ql_Top_220 qn_IAE (by decide +kernel : (325, "a triangle has the corners 0 to 2") ∈ strs) hP hS hl dX6_requireCorner_9 dX6_requireCorner_12 dX6_requireCorner_13 dX6_requireCorner_16 dX6_requireCorner_19 (Nat.le_of_ble_eq_true rfl) (Nat.le_of_ble_eq_true rfl) (Nat.le_of_ble_eq_true rfl) (Nat.le_of_ble_eq_true rfl) (Nat.le_of_ble_eq_true rfl) (Nat.le_of_ble_eq_true rfl) rfl
  · have h := it_f c1 h
    refine lv_iload_n (pc := 4) hx hb dX6_requireCorner_4 rfl (lv_at hl 1 rfl) ?_
    refine lv_iconst (v := (2 : Int32)) (pc := 5) hx hb dX6_requireCorner_5 (by decide) ?_
    refine lv_icmp_le (tgt := 20) (pc := 6) hx hb dX6_requireCorner_6 (by decide) (fun c2 => ?_) (fun c2 => ?_)
    · have h := it_t c2 h
      subst h
      refine vx_ret ?_
      refine W.widen (k := 1) (n := 6) (Nat.le_of_ble_eq_true rfl) (Nat.le_of_ble_eq_true rfl) ?_
      exact W.vret hx hb hr (fun t ht hW => ⟨⟨_, _, rfl, rfl, by rw [ht]; exact hP⟩, hS.F ht⟩) hS.2.2 dX6_requireCorner_20 hlk
    · have h := it_f c2 h
      subst h
      exact xThrowW (pc := 9) (mc := 1) C0X ef_IAE ql_Top_220 qn_IAE (by decide +kernel : (325, "a triangle has the corners 0 to 2") ∈ strs) hP hS hl dX6_requireCorner_9 dX6_requireCorner_12 dX6_requireCorner_13 dX6_requireCorner_16 dX6_requireCorner_19 (Nat.le_of_ble_eq_true rfl) (Nat.le_of_ble_eq_true rfl) (Nat.le_of_ble_eq_true rfl) (Nat.le_of_ble_eq_true rfl) (Nat.le_of_ble_eq_true rfl) (Nat.le_of_ble_eq_true rfl) rfl
set_option maxHeartbeats 4000000 in
set_option maxRecDepth 100000 in
theorem c_Top_corner (l : Launch) (K : KT) (hl0 : l.stackTraces = false) (ad : Nat → Nat) (pxs : Nat → Int32) (pys : Nat → Int32) (plo : Nat → Int32) (phi : Nat → Int32) (pn : Int32) (pm : Int32) (lf : Nat → Int32) (th : Nat → Int32) (ow : Nat → Int32) (lk : Nat → Int32) (el : Nat → Int32) (eh : Nat → Int32) (co : Nat → Int32) (hu : Nat → Int32) (ne : Int32) (nt : Int32) (nh : Int32) (tpxs : Nat → Int32) (tpys : Nat → Int32) (tplo : Nat → Int32) (tphi : Nat → Int32) (tpn : Int32) (tpm : Int32) (tlf : Nat → Int32) (tth : Nat → Int32) (tow : Nat → Int32) (tlk : Nat → Int32) (tel : Nat → Int32) (teh : Nat → Int32) (tco : Nat → Int32) (thu : Nat → Int32) (tne : Int32) (tnt : Int32) (tnh : Int32) (spxs : Nat → Int32) (spys : Nat → Int32) (splo : Nat → Int32) (sphi : Nat → Int32) (spn : Int32) (spm : Int32) (ich : Nat → Int32) (ifs : Nat → Int32) (isc : Nat → Int32) (isg : Nat → Int32) (iln : Int32) (ien : Int32) (iin : Bool) (idg : Int32) (iva : Int32) (hp : Nat → PlanS) (hnx : Int32) (hkp : Int32) (hsv : Bool) (a0 : Int32) (a1 : Int32) : Xm l K 7 2 yX6_corner cX6_corner 3 (some .int) [.ref (ad 0), .int a0, .int a1] (wTop K ad pxs pys plo phi pn pm lf th ow lk el eh co hu ne nt nh tpxs tpys tplo tphi tpn tpm tlf tth tow tlk tel teh tco thu tne tnt tnh spxs spys splo sphi spn spm ich ifs isc isg iln ien iin idg iva hp hnx hkp hsv) (Sum.map id (fun q => (some (.int q), wTop K ad pxs pys plo phi pn pm lf th ow lk el eh co hu ne nt nh tpxs tpys tplo tphi tpn tpm tlf tth tow tlk tel teh tco thu tne tnt tnh spxs spys splo sphi spn spm ich ifs isc isg iln ien iin idg iva hp hnx hkp hsv)) (s_Top_corner co nt a0 a1)) := by
  generalize h : s_Top_corner co nt a0 a1 = o
  refine Xm.of hl0 (by decide +kernel) (Nat.le_of_ble_eq_true rfl) ?_
  unfold s_Top_corner at h
  intro p e s m below meth c C0X H locs hP hD hS ls hl
  obtain ⟨⟨hx, hb, hml, hown, hts, hG, hr, hlk⟩, hl1, htb, hG1, hZ⟩ := id C0X
  have C0 := C0X.1
  have hl : lv_has ls 3 [(0, .ref (ad 0)), (1, .int a0), (2, .int a1)] := hl
  refine lv_aload_n (pc := 0) hx hb dX6_corner_0 rfl (lv_at hl 0 rfl) ?_
  refine lv_iload_n (pc := 1) hx hb dX6_corner_1 rfl (lv_at hl 1 rfl) ?_
  refine xVs (pc := 2) (mc := 2) (As := [.int a0]) (rest := []) (so := (s_Top_requireTriangle nt a0)) C0X hP hD hS (c_Top_requireTriangle l K hl0 ad pxs pys plo phi pn pm lf th ow lk el eh co hu ne nt nh tpxs tpys tplo tphi tpn tpm tlf tth tow tlk tel teh tco thu tne tnt tnh spxs spys splo sphi spn spm ich ifs isc isg iln ien iin idg iva hp hnx hkp hsv a0) (q0 := 0) rfl (ci := 6) rfl g_Top_167 hd_Top_requireTriangle rfl ⟨(Nat.le_of_ble_eq_true rfl), (Nat.le_of_ble_eq_true rfl)⟩ ⟨(Nat.le_of_ble_eq_true rfl), (Nat.le_of_ble_eq_true rfl)⟩ ⟨(Nat.le_of_ble_eq_true rfl), (Nat.le_of_ble_eq_true rfl)⟩ hl rfl (Nat.le_of_ble_eq_true rfl) dX6_corner_2 (fun E hE => ?_) (fun hE H locs hP hS => ?_)
  · rw [hE] at h
    have h := se_l h
    subst h
    rfl
  · rw [hE] at h
    have h := se_r h
    refine lv_aload_n (pc := 5) hx hb dX6_corner_5 rfl (lv_at hl 0 rfl) ?_
    refine lv_iload_n (pc := 6) hx hb dX6_corner_6 rfl (lv_at hl 2 rfl) ?_
    refine xVs (pc := 7) (mc := 2) (As := [.int a1]) (rest := []) (so := (s_Top_requireCorner a1)) C0X hP hD hS (c_Top_requireCorner l K hl0 ad pxs pys plo phi pn pm lf th ow lk el eh co hu ne nt nh tpxs tpys tplo tphi tpn tpm tlf tth tow tlk tel teh tco thu tne tnt tnh spxs spys splo sphi spn spm ich ifs isc isg iln ien iin idg iva hp hnx hkp hsv a1) (q0 := 0) rfl (ci := 6) rfl g_Top_170 hd_Top_requireCorner rfl ⟨(Nat.le_of_ble_eq_true rfl), (Nat.le_of_ble_eq_true rfl)⟩ ⟨(Nat.le_of_ble_eq_true rfl), (Nat.le_of_ble_eq_true rfl)⟩ ⟨(Nat.le_of_ble_eq_true rfl), (Nat.le_of_ble_eq_true rfl)⟩ hl rfl (Nat.le_of_ble_eq_true rfl) dX6_corner_7 (fun E hE => ?_) (fun hE H locs hP hS => ?_)
    · rw [hE] at h
      have h := se_l h
      subst h
      rfl
    · rw [hE] at h
      have h := se_r h
      refine lv_aload_n (pc := 10) hx hb dX6_corner_10 rfl (lv_at hl 0 rfl) ?_
      refine va_get (D := K.1) (ci := 6) (v := .ref (ad 1)) (C := RX6) (T := TX6) (N := 8) (pc := 11) hx hb hts inT6 hown hG.1 hP 0 rfl rfl 1 (by decide) (hts _ qf_Top_21) (fun _ h9 => h9) rfl dX6_corner_11 ?_
      refine lv_iload_n (pc := 14) hx hb dX6_corner_14 rfl (lv_at hl 1 rfl) ?_
      refine lv_iload_n (pc := 15) hx hb dX6_corner_15 rfl (lv_at hl 2 rfl) ?_
      refine rdV (pc := 16) (As := [.int a0, .int a1]) (rest := []) hx hb hml hown hts hG hP (c_Mesh_cornerOf l K (fun k => ad (k + 1)) pxs pys plo phi pn pm lf th ow lk el eh co hu ne nt nh a0 a1) [1, 2, 3, 4, 5, 6, 7, 8, 9, 10, 11, 12, 13, 14, 15, 16, 17, 18, 19, 20, 21, 22, 23, 24, 25, 26] rfl (q0 := 1) rfl (ci := 2) rfl g_Top_173 hd_Mesh_cornerOf rfl ⟨Nat.le_of_ble_eq_true rfl, Nat.le_of_ble_eq_true rfl⟩ ⟨Nat.le_of_ble_eq_true rfl, Nat.le_of_ble_eq_true rfl⟩ hl rfl (Nat.le_of_ble_eq_true rfl) dX6_corner_16 ?_
      subst h
      refine vx_ret ?_
      refine W.widen (k := 2) (n := 12) (Nat.le_of_ble_eq_true rfl) (Nat.le_of_ble_eq_true rfl) ?_
      exact W.iret hx hb hr (fun t ht hW => ⟨⟨_, _, rfl, rfl, by rw [ht]; exact hP⟩, hS.F ht⟩) hS.2.2 dX6_corner_19 hlk
set_option maxHeartbeats 4000000 in
set_option maxRecDepth 100000 in
theorem c_Top_beyond (l : Launch) (K : KT) (hl0 : l.stackTraces = false) (ad : Nat → Nat) (pxs : Nat → Int32) (pys : Nat → Int32) (plo : Nat → Int32) (phi : Nat → Int32) (pn : Int32) (pm : Int32) (lf : Nat → Int32) (th : Nat → Int32) (ow : Nat → Int32) (lk : Nat → Int32) (el : Nat → Int32) (eh : Nat → Int32) (co : Nat → Int32) (hu : Nat → Int32) (ne : Int32) (nt : Int32) (nh : Int32) (tpxs : Nat → Int32) (tpys : Nat → Int32) (tplo : Nat → Int32) (tphi : Nat → Int32) (tpn : Int32) (tpm : Int32) (tlf : Nat → Int32) (tth : Nat → Int32) (tow : Nat → Int32) (tlk : Nat → Int32) (tel : Nat → Int32) (teh : Nat → Int32) (tco : Nat → Int32) (thu : Nat → Int32) (tne : Int32) (tnt : Int32) (tnh : Int32) (spxs : Nat → Int32) (spys : Nat → Int32) (splo : Nat → Int32) (sphi : Nat → Int32) (spn : Int32) (spm : Int32) (ich : Nat → Int32) (ifs : Nat → Int32) (isc : Nat → Int32) (isg : Nat → Int32) (iln : Int32) (ien : Int32) (iin : Bool) (idg : Int32) (iva : Int32) (hp : Nat → PlanS) (hnx : Int32) (hkp : Int32) (hsv : Bool) (a0 : Int32) (a1 : Int32) : Xm l K 7 2 yX6_beyond cX6_beyond 3 (some .int) [.ref (ad 0), .int a0, .int a1] (wTop K ad pxs pys plo phi pn pm lf th ow lk el eh co hu ne nt nh tpxs tpys tplo tphi tpn tpm tlf tth tow tlk tel teh tco thu tne tnt tnh spxs spys splo sphi spn spm ich ifs isc isg iln ien iin idg iva hp hnx hkp hsv) (Sum.map id (fun q => (some (.int q), wTop K ad pxs pys plo phi pn pm lf th ow lk el eh co hu ne nt nh tpxs tpys tplo tphi tpn tpm tlf tth tow tlk tel teh tco thu tne tnt tnh spxs spys splo sphi spn spm ich ifs isc isg iln ien iin idg iva hp hnx hkp hsv)) (s_Top_beyond ow co nt a0 a1)) := by
  generalize h : s_Top_beyond ow co nt a0 a1 = o
  refine Xm.of hl0 (by decide +kernel) (Nat.le_of_ble_eq_true rfl) ?_
  unfold s_Top_beyond at h
  intro p e s m below meth c C0X H locs hP hD hS ls hl
  obtain ⟨⟨hx, hb, hml, hown, hts, hG, hr, hlk⟩, hl1, htb, hG1, hZ⟩ := id C0X
  have C0 := C0X.1
  have hl : lv_has ls 3 [(0, .ref (ad 0)), (1, .int a0), (2, .int a1)] := hl
  refine lv_aload_n (pc := 0) hx hb dX6_beyond_0 rfl (lv_at hl 0 rfl) ?_
  refine lv_iload_n (pc := 1) hx hb dX6_beyond_1 rfl (lv_at hl 1 rfl) ?_
  refine xVs (pc := 2) (mc := 2) (As := [.int a0]) (rest := []) (so := (s_Top_requireTriangle nt a0)) C0X hP hD hS (c_Top_requireTriangle l K hl0 ad pxs pys plo phi pn pm lf th ow lk el eh co hu ne nt nh tpxs tpys tplo tphi tpn tpm tlf tth tow tlk tel teh tco thu tne tnt tnh spxs spys splo sphi spn spm ich ifs isc isg iln ien iin idg iva hp hnx hkp hsv a0) (q0 := 0) rfl (ci := 6) rfl g_Top_167 hd_Top_requireTriangle rfl ⟨(Nat.le_of_ble_eq_true rfl), (Nat.le_of_ble_eq_true rfl)⟩ ⟨(Nat.le_of_ble_eq_true rfl), (Nat.le_of_ble_eq_true rfl)⟩ ⟨(Nat.le_of_ble_eq_true rfl), (Nat.le_of_ble_eq_true rfl)⟩ hl rfl (Nat.le_of_ble_eq_true rfl) dX6_beyond_2 (fun E hE => ?_) (fun hE H locs hP hS => ?_)
  · rw [hE] at h
    have h := se_l h
    subst h
    rfl
  · rw [hE] at h
    have h := se_r h
    refine lv_aload_n (pc := 5) hx hb dX6_beyond_5 rfl (lv_at hl 0 rfl) ?_
    refine lv_iload_n (pc := 6) hx hb dX6_beyond_6 rfl (lv_at hl 2 rfl) ?_
    refine xVs (pc := 7) (mc := 2) (As := [.int a1]) (rest := []) (so := (s_Top_requireCorner a1)) C0X hP hD hS (c_Top_requireCorner l K hl0 ad pxs pys plo phi pn pm lf th ow lk el eh co hu ne nt nh tpxs tpys tplo tphi tpn tpm tlf tth tow tlk tel teh tco thu tne tnt tnh spxs spys splo sphi spn spm ich ifs isc isg iln ien iin idg iva hp hnx hkp hsv a1) (q0 := 0) rfl (ci := 6) rfl g_Top_170 hd_Top_requireCorner rfl ⟨(Nat.le_of_ble_eq_true rfl), (Nat.le_of_ble_eq_true rfl)⟩ ⟨(Nat.le_of_ble_eq_true rfl), (Nat.le_of_ble_eq_true rfl)⟩ ⟨(Nat.le_of_ble_eq_true rfl), (Nat.le_of_ble_eq_true rfl)⟩ hl rfl (Nat.le_of_ble_eq_true rfl) dX6_beyond_7 (fun E hE => ?_) (fun hE H locs hP hS => ?_)
    · rw [hE] at h
      have h := se_l h
      subst h
      rfl
    · rw [hE] at h
      have h := se_r h
      refine lv_aload_n (pc := 10) hx hb dX6_beyond_10 rfl (lv_at hl 0 rfl) ?_
      refine va_get (D := K.1) (ci := 6) (v := .ref (ad 1)) (C := RX6) (T := TX6) (N := 8) (pc := 11) hx hb hts inT6 hown hG.1 hP 0 rfl rfl 1 (by decide) (hts _ qf_Top_21) (fun _ h9 => h9) rfl dX6_beyond_11 ?_
      refine lv_iload_n (pc := 14) hx hb dX6_beyond_14 rfl (lv_at hl 1 rfl) ?_
      refine lv_iload_n (pc := 15) hx hb dX6_beyond_15 rfl (lv_at hl 2 rfl) ?_
      refine rdV (pc := 16) (As := [.int a0, .int a1]) (rest := []) hx hb hml hown hts hG hP (c_Mesh_triangleAcross l K (fun k => ad (k + 1)) pxs pys plo phi pn pm lf th ow lk el eh co hu ne nt nh a0 a1) [1, 2, 3, 4, 5, 6, 7, 8, 9, 10, 11, 12, 13, 14, 15, 16, 17, 18, 19, 20, 21, 22, 23, 24, 25, 26] rfl (q0 := 1) rfl (ci := 2) rfl g_Top_176 hd_Mesh_triangleAcross rfl ⟨Nat.le_of_ble_eq_true rfl, Nat.le_of_ble_eq_true rfl⟩ ⟨Nat.le_of_ble_eq_true rfl, Nat.le_of_ble_eq_true rfl⟩ hl rfl (Nat.le_of_ble_eq_true rfl) dX6_beyond_16 ?_
      subst h
      refine vx_ret ?_
      refine W.widen (k := 2) (n := 12) (Nat.le_of_ble_eq_true rfl) (Nat.le_of_ble_eq_true rfl) ?_
      exact W.iret hx hb hr (fun t ht hW => ⟨⟨_, _, rfl, rfl, by rw [ht]; exact hP⟩, hS.F ht⟩) hS.2.2 dX6_beyond_19 hlk
set_option maxHeartbeats 4000000 in
set_option maxRecDepth 100000 in
theorem c_Top_edgeCount (l : Launch) (K : KT) (ad : Nat → Nat) (pxs : Nat → Int32) (pys : Nat → Int32) (plo : Nat → Int32) (phi : Nat → Int32) (pn : Int32) (pm : Int32) (lf : Nat → Int32) (th : Nat → Int32) (ow : Nat → Int32) (lk : Nat → Int32) (el : Nat → Int32) (eh : Nat → Int32) (co : Nat → Int32) (hu : Nat → Int32) (ne : Int32) (nt : Int32) (nh : Int32) (tpxs : Nat → Int32) (tpys : Nat → Int32) (tplo : Nat → Int32) (tphi : Nat → Int32) (tpn : Int32) (tpm : Int32) (tlf : Nat → Int32) (tth : Nat → Int32) (tow : Nat → Int32) (tlk : Nat → Int32) (tel : Nat → Int32) (teh : Nat → Int32) (tco : Nat → Int32) (thu : Nat → Int32) (tne : Int32) (tnt : Int32) (tnh : Int32) (spxs : Nat → Int32) (spys : Nat → Int32) (splo : Nat → Int32) (sphi : Nat → Int32) (spn : Int32) (spm : Int32) (ich : Nat → Int32) (ifs : Nat → Int32) (isc : Nat → Int32) (isg : Nat → Int32) (iln : Int32) (ien : Int32) (iin : Bool) (idg : Int32) (iva : Int32) (hp : Nat → PlanS) (hnx : Int32) (hkp : Int32) (hsv : Bool) : Rd l K 1 yX6_edgeCount cX6_edgeCount 1 .int [.ref (ad 0)] (wTop K ad pxs pys plo phi pn pm lf th ow lk el eh co hu ne nt nh tpxs tpys tplo tphi tpn tpm tlf tth tow tlk tel teh tco thu tne tnt tnh spxs spys splo sphi spn spm ich ifs isc isg iln ien iin idg iva hp hnx hkp hsv) (s_Top_edgeCount ne) := by
  generalize h : s_Top_edgeCount ne = o
  refine Rd.of (by decide +kernel) (Nat.le_of_ble_eq_true rfl) ?_
  unfold s_Top_edgeCount at h
  intro p e s m below meth c hx hb hr hml hown hts hlk hP hG ls hl
  have C0 : Ctx p m c cX6_edgeCount 1 s (Array.mk [.ref (ad 0)]) RX6 K meth (some .int) := ⟨hx, hb, hml, hown, hts, hG, hr, hlk⟩
  have hl : lv_has ls 1 [(0, .ref (ad 0))] := hl
  refine lv_aload_n (pc := 0) hx hb dX6_edgeCount_0 rfl (lv_at hl 0 rfl) ?_
  refine va_get (D := K.1) (ci := 6) (v := .ref (ad 1)) (C := RX6) (T := TX6) (N := 8) (pc := 1) hx hb hts inT6 hown hG.1 hP 0 rfl rfl 1 (by decide) (hts _ qf_Top_21) (fun _ h9 => h9) rfl dX6_edgeCount_1 ?_
  refine rdV (pc := 4) (As := []) (rest := []) hx hb hml hown hts hG hP (c_Mesh_edges l K (fun k => ad (k + 1)) pxs pys plo phi pn pm lf th ow lk el eh co hu ne nt nh) [1, 2, 3, 4, 5, 6, 7, 8, 9, 10, 11, 12, 13, 14, 15, 16, 17, 18, 19, 20, 21, 22, 23, 24, 25, 26] rfl (q0 := 1) rfl (ci := 2) rfl g_Top_179 hd_Mesh_edges rfl ⟨Nat.le_of_ble_eq_true rfl, Nat.le_of_ble_eq_true rfl⟩ ⟨Nat.zero_le _, Nat.zero_le _⟩ hl rfl (Nat.le_of_ble_eq_true rfl) dX6_edgeCount_4 ?_
  subst h
  exact W.iret hx hb hr (fun t ht hW => ⟨rfl, ht⟩) (fun q hq => absurd hq List.not_mem_nil) dX6_edgeCount_7 hlk
set_option maxHeartbeats 4000000 in
set_option maxRecDepth 100000 in
theorem c_Top_requireEdge (l : Launch) (K : KT) (hl0 : l.stackTraces = false) (ad : Nat → Nat) (pxs : Nat → Int32) (pys : Nat → Int32) (plo : Nat → Int32) (phi : Nat → Int32) (pn : Int32) (pm : Int32) (lf : Nat → Int32) (th : Nat → Int32) (ow : Nat → Int32) (lk : Nat → Int32) (el : Nat → Int32) (eh : Nat → Int32) (co : Nat → Int32) (hu : Nat → Int32) (ne : Int32) (nt : Int32) (nh : Int32) (tpxs : Nat → Int32) (tpys : Nat → Int32) (tplo : Nat → Int32) (tphi : Nat → Int32) (tpn : Int32) (tpm : Int32) (tlf : Nat → Int32) (tth : Nat → Int32) (tow : Nat → Int32) (tlk : Nat → Int32) (tel : Nat → Int32) (teh : Nat → Int32) (tco : Nat → Int32) (thu : Nat → Int32) (tne : Int32) (tnt : Int32) (tnh : Int32) (spxs : Nat → Int32) (spys : Nat → Int32) (splo : Nat → Int32) (sphi : Nat → Int32) (spn : Int32) (spm : Int32) (ich : Nat → Int32) (ifs : Nat → Int32) (isc : Nat → Int32) (isg : Nat → Int32) (iln : Int32) (ien : Int32) (iin : Bool) (idg : Int32) (iva : Int32) (hp : Nat → PlanS) (hnx : Int32) (hkp : Int32) (hsv : Bool) (a0 : Int32) : Xm l K 6 1 yX6_requireEdge cX6_requireEdge 2 none [.ref (ad 0), .int a0] (wTop K ad pxs pys plo phi pn pm lf th ow lk el eh co hu ne nt nh tpxs tpys tplo tphi tpn tpm tlf tth tow tlk tel teh tco thu tne tnt tnh spxs spys splo sphi spn spm ich ifs isc isg iln ien iin idg iva hp hnx hkp hsv) (Sum.map id (fun _ => (none, wTop K ad pxs pys plo phi pn pm lf th ow lk el eh co hu ne nt nh tpxs tpys tplo tphi tpn tpm tlf tth tow tlk tel teh tco thu tne tnt tnh spxs spys splo sphi spn spm ich ifs isc isg iln ien iin idg iva hp hnx hkp hsv)) (s_Top_requireEdge ne a0)) := by
  generalize h : s_Top_requireEdge ne a0 = o
  refine Xm.of hl0 (by decide +kernel) (Nat.le_of_ble_eq_true rfl) ?_
  unfold s_Top_requireEdge at h
  intro p e s m below meth c C0X H locs hP hD hS ls hl
  obtain ⟨⟨hx, hb, hml, hown, hts, hG, hr, hlk⟩, hl1, htb, hG1, hZ⟩ := id C0X
  have C0 := C0X.1
  have hl : lv_has ls 2 [(0, .ref (ad 0)), (1, .int a0)] := hl
  refine lv_iload_n (pc := 0) hx hb dX6_requireEdge_0 rfl (lv_at hl 1 rfl) ?_
  refine lv_if_lt (tgt := 15) (pc := 1) hx hb dX6_requireEdge_1 (by decide) (fun c1 => ?_) (fun c1 => ?_)
  · have h := it_t c1 h
    subst h
    exact xThrowW (pc := 15) (mc := 1) C0X ef_IOB ql_Top_206 qn_IOB (by decide +kernel : (304, "there is no such edge") ∈ strs) hP hS hl dX6_requireEdge_15 dX6_requireEdge_18 dX6_requireEdge_19 dX6_requireEdge_22 dX6_requireEdge_25 (Nat.le_of_ble_eq_true rfl) (Nat.le_of_ble_eq_true rfl) (Nat.le_of_ble_eq_true rfl) (Nat.le_of_ble_eq_true rfl) (Nat.le_of_ble_eq_true rfl) (Nat.le_of_ble_eq_true rfl) rfl
  · have h := it_f c1 h
    refine lv_iload_n (pc := 4) hx hb dX6_requireEdge_4 rfl (lv_at hl 1 rfl) ?_
    refine lv_aload_n (pc := 5) hx hb dX6_requireEdge_5 rfl (lv_at hl 0 rfl) ?_
    refine va_get (D := K.1) (ci := 6) (v := .ref (ad 1)) (C := RX6) (T := TX6) (N := 8) (pc := 6) hx hb hts inT6 hown hG.1 hP 0 rfl rfl 1 (by decide) (hts _ qf_Top_21) (fun _ h9 => h9) rfl dX6_requireEdge_6 ?_
    refine rdV (pc := 9) (As := []) (rest := [.int a0]) hx hb hml hown hts hG hP (c_Mesh_edges l K (fun k => ad (k + 1)) pxs pys plo phi pn pm lf th ow lk el eh co hu ne nt nh) [1, 2, 3, 4, 5, 6, 7, 8, 9, 10, 11, 12, 13, 14, 15, 16, 17, 18, 19, 20, 21, 22, 23, 24, 25, 26] rfl (q0 := 1) rfl (ci := 2) rfl g_Top_179 hd_Mesh_edges rfl ⟨Nat.le_of_ble_eq_true rfl, Nat.le_of_ble_eq_true rfl⟩ ⟨Nat.le_of_ble_eq_true rfl, Nat.le_of_ble_eq_true rfl⟩ hl rfl (Nat.le_of_ble_eq_true rfl) dX6_requireEdge_9 ?_
    refine lv_icmp_lt (tgt := 26) (pc := 12) hx hb dX6_requireEdge_12 (by decide) (fun c2 => ?_) (fun c2 => ?_)
    · have h := it_t c2 h
      subst h
      refine vx_ret ?_
      refine W.widen (k := 1) (n := 6) (Nat.le_of_ble_eq_true rfl) (Nat.le_of_ble_eq_true rfl) ?_
      exact W.vret hx hb hr (fun t ht hW => ⟨⟨_, _, rfl, rfl, by rw [ht]; exact hP⟩, hS.F ht⟩) hS.2.2 dX6_requireEdge_26 hlk
    · have h := it_f c2 h
      subst h
      exact xThrowW (pc := 15) (mc := 1) C0X ef_IOB ql_Top_206 qn_IOB (by decide +kernel : (304, "there is no such edge") ∈ strs) hP hS hl dX6_requireEdge_15 dX6_requireEdge_18 dX6_requireEdge_19 dX6_requireEdge_22 dX6_requireEdge_25 (Nat.le_of_ble_eq_true rfl) (Nat.le_of_ble_eq_true rfl) (Nat.le_of_ble_eq_true rfl) (Nat.le_of_ble_eq_true rfl) (Nat.le_of_ble_eq_true rfl) (Nat.le_of_ble_eq_true rfl) rfl
set_option maxHeartbeats 4000000 in
set_option maxRecDepth 100000 in
theorem c_Top_edgeEnd (l : Launch) (K : KT) (hl0 : l.stackTraces = false) (ad : Nat → Nat) (pxs : Nat → Int32) (pys : Nat → Int32) (plo : Nat → Int32) (phi : Nat → Int32) (pn : Int32) (pm : Int32) (lf : Nat → Int32) (th : Nat → Int32) (ow : Nat → Int32) (lk : Nat → Int32) (el : Nat → Int32) (eh : Nat → Int32) (co : Nat → Int32) (hu : Nat → Int32) (ne : Int32) (nt : Int32) (nh : Int32) (tpxs : Nat → Int32) (tpys : Nat → Int32) (tplo : Nat → Int32) (tphi : Nat → Int32) (tpn : Int32) (tpm : Int32) (tlf : Nat → Int32) (tth : Nat → Int32) (tow : Nat → Int32) (tlk : Nat → Int32) (tel : Nat → Int32) (teh : Nat → Int32) (tco : Nat → Int32) (thu : Nat → Int32) (tne : Int32) (tnt : Int32) (tnh : Int32) (spxs : Nat → Int32) (spys : Nat → Int32) (splo : Nat → Int32) (sphi : Nat → Int32) (spn : Int32) (spm : Int32) (ich : Nat → Int32) (ifs : Nat → Int32) (isc : Nat → Int32) (isg : Nat → Int32) (iln : Int32) (ien : Int32) (iin : Bool) (idg : Int32) (iva : Int32) (hp : Nat → PlanS) (hnx : Int32) (hkp : Int32) (hsv : Bool) (a0 : Int32) (a1 : Int32) : Xm l K 7 2 yX6_edgeEnd cX6_edgeEnd 3 (some .int) [.ref (ad 0), .int a0, .int a1] (wTop K ad pxs pys plo phi pn pm lf th ow lk el eh co hu ne nt nh tpxs tpys tplo tphi tpn tpm tlf tth tow tlk tel teh tco thu tne tnt tnh spxs spys splo sphi spn spm ich ifs isc isg iln ien iin idg iva hp hnx hkp hsv) (Sum.map id (fun q => (some (.int q), wTop K ad pxs pys plo phi pn pm lf th ow lk el eh co hu ne nt nh tpxs tpys tplo tphi tpn tpm tlf tth tow tlk tel teh tco thu tne tnt tnh spxs spys splo sphi spn spm ich ifs isc isg iln ien iin idg iva hp hnx hkp hsv)) (s_Top_edgeEnd el eh ne a0 a1)) := by
  generalize h : s_Top_edgeEnd el eh ne a0 a1 = o
  refine Xm.of hl0 (by decide +kernel) (Nat.le_of_ble_eq_true rfl) ?_
  unfold s_Top_edgeEnd at h
  intro p e s m below meth c C0X H locs hP hD hS ls hl
  obtain ⟨⟨hx, hb, hml, hown, hts, hG, hr, hlk⟩, hl1, htb, hG1, hZ⟩ := id C0X
  have C0 := C0X.1
  have hl : lv_has ls 3 [(0, .ref (ad 0)), (1, .int a0), (2, .int a1)] := hl
  refine lv_aload_n (pc := 0) hx hb dX6_edgeEnd_0 rfl (lv_at hl 0 rfl) ?_
  refine lv_iload_n (pc := 1) hx hb dX6_edgeEnd_1 rfl (lv_at hl 1 rfl) ?_
  refine xVs (pc := 2) (mc := 2) (As := [.int a0]) (rest := []) (so := (s_Top_requireEdge ne a0)) C0X hP hD hS (c_Top_requireEdge l K hl0 ad pxs pys plo phi pn pm lf th ow lk el eh co hu ne nt nh tpxs tpys tplo tphi tpn tpm tlf tth tow tlk tel teh tco thu tne tnt tnh spxs spys splo sphi spn spm ich ifs isc isg iln ien iin idg iva hp hnx hkp hsv a0) (q0 := 0) rfl (ci := 6) rfl g_Top_182 hd_Top_requireEdge rfl ⟨(Nat.le_of_ble_eq_true rfl), (Nat.le_of_ble_eq_true rfl)⟩ ⟨(Nat.le_of_ble_eq_true rfl), (Nat.le_of_ble_eq_true rfl)⟩ ⟨(Nat.le_of_ble_eq_true rfl), (Nat.le_of_ble_eq_true rfl)⟩ hl rfl (Nat.le_of_ble_eq_true rfl) dX6_edgeEnd_2 (fun E hE => ?_) (fun hE H locs hP hS => ?_)
  · rw [hE] at h
    have h := se_l h
    subst h
    rfl
  · rw [hE] at h
    have h := se_r h
    refine lv_aload_n (pc := 5) hx hb dX6_edgeEnd_5 rfl (lv_at hl 0 rfl) ?_
    refine lv_iload_n (pc := 6) hx hb dX6_edgeEnd_6 rfl (lv_at hl 2 rfl) ?_
    refine xVs (pc := 7) (mc := 2) (As := [.int a1]) (rest := []) (so := (s_Top_requireBit a1)) C0X hP hD hS (c_Top_requireBit l K hl0 ad pxs pys plo phi pn pm lf th ow lk el eh co hu ne nt nh tpxs tpys tplo tphi tpn tpm tlf tth tow tlk tel teh tco thu tne tnt tnh spxs spys splo sphi spn spm ich ifs isc isg iln ien iin idg iva hp hnx hkp hsv a1) (q0 := 0) rfl (ci := 6) rfl g_Top_101 hd_Top_requireBit rfl ⟨(Nat.le_of_ble_eq_true rfl), (Nat.le_of_ble_eq_true rfl)⟩ ⟨(Nat.le_of_ble_eq_true rfl), (Nat.le_of_ble_eq_true rfl)⟩ ⟨(Nat.le_of_ble_eq_true rfl), (Nat.le_of_ble_eq_true rfl)⟩ hl rfl (Nat.le_of_ble_eq_true rfl) dX6_edgeEnd_7 (fun E hE => ?_) (fun hE H locs hP hS => ?_)
    · rw [hE] at h
      have h := se_l h
      subst h
      rfl
    · rw [hE] at h
      have h := se_r h
      refine lv_iload_n (pc := 10) hx hb dX6_edgeEnd_10 rfl (lv_at hl 2 rfl) ?_
      refine lv_if_ne (tgt := 25) (pc := 11) hx hb dX6_edgeEnd_11 (by decide) (fun c1 => ?_) (fun c1 => ?_)
      · have h := it_f c1 h
        refine lv_aload_n (pc := 25) hx hb dX6_edgeEnd_25 rfl (lv_at hl 0 rfl) ?_
        refine va_get (D := K.1) (ci := 6) (v := .ref (ad 1)) (C := RX6) (T := TX6) (N := 8) (pc := 26) hx hb hts inT6 hown hG.1 hP 0 rfl rfl 1 (by decide) (hts _ qf_Top_21) (fun _ h9 => h9) rfl dX6_edgeEnd_26 ?_
        refine lv_iload_n (pc := 29) hx hb dX6_edgeEnd_29 rfl (lv_at hl 1 rfl) ?_
        refine rdV (pc := 30) (As := [.int a0]) (rest := []) hx hb hml hown hts hG hP (c_Mesh_highEnd l K (fun k => ad (k + 1)) pxs pys plo phi pn pm lf th ow lk el eh co hu ne nt nh a0) [1, 2, 3, 4, 5, 6, 7, 8, 9, 10, 11, 12, 13, 14, 15, 16, 17, 18, 19, 20, 21, 22, 23, 24, 25, 26] rfl (q0 := 1) rfl (ci := 2) rfl g_Top_186 hd_Mesh_highEnd rfl ⟨Nat.le_of_ble_eq_true rfl, Nat.le_of_ble_eq_true rfl⟩ ⟨Nat.le_of_ble_eq_true rfl, Nat.le_of_ble_eq_true rfl⟩ hl rfl (Nat.le_of_ble_eq_true rfl) dX6_edgeEnd_30 ?_
        subst h
        refine vx_ret ?_
        refine W.widen (k := 2) (n := 12) (Nat.le_of_ble_eq_true rfl) (Nat.le_of_ble_eq_true rfl) ?_
        exact W.iret hx hb hr (fun t ht hW => ⟨⟨_, _, rfl, rfl, by rw [ht]; exact hP⟩, hS.F ht⟩) hS.2.2 dX6_edgeEnd_33 hlk
      · have h := it_t c1 h
        refine lv_aload_n (pc := 14) hx hb dX6_edgeEnd_14 rfl (lv_at hl 0 rfl) ?_
        refine va_get (D := K.1) (ci := 6) (v := .ref (ad 1)) (C := RX6) (T := TX6) (N := 8) (pc := 15) hx hb hts inT6 hown hG.1 hP 0 rfl rfl 1 (by decide) (hts _ qf_Top_21) (fun _ h9 => h9) rfl dX6_edgeEnd_15 ?_
        refine lv_iload_n (pc := 18) hx hb dX6_edgeEnd_18 rfl (lv_at hl 1 rfl) ?_
        refine rdV (pc := 19) (As := [.int a0]) (rest := []) hx hb hml hown hts hG hP (c_Mesh_lowEnd l K (fun k => ad (k + 1)) pxs pys plo phi pn pm lf th ow lk el eh co hu ne nt nh a0) [1, 2, 3, 4, 5, 6, 7, 8, 9, 10, 11, 12, 13, 14, 15, 16, 17, 18, 19, 20, 21, 22, 23, 24, 25, 26] rfl (q0 := 1) rfl (ci := 2) rfl g_Top_185 hd_Mesh_lowEnd rfl ⟨Nat.le_of_ble_eq_true rfl, Nat.le_of_ble_eq_true rfl⟩ ⟨Nat.le_of_ble_eq_true rfl, Nat.le_of_ble_eq_true rfl⟩ hl rfl (Nat.le_of_ble_eq_true rfl) dX6_edgeEnd_19 ?_
        refine lv_goto (tgt := 33) (pc := 22) hx hb dX6_edgeEnd_22 (by decide) ?_
        subst h
        refine vx_ret ?_
        refine W.widen (k := 2) (n := 12) (Nat.le_of_ble_eq_true rfl) (Nat.le_of_ble_eq_true rfl) ?_
        exact W.iret hx hb hr (fun t ht hW => ⟨⟨_, _, rfl, rfl, by rw [ht]; exact hP⟩, hS.F ht⟩) hS.2.2 dX6_edgeEnd_33 hlk
set_option maxHeartbeats 4000000 in
set_option maxRecDepth 100000 in
theorem c_Top_edgeBetween (l : Launch) (K : KT) (hl0 : l.stackTraces = false) (ad : Nat → Nat) (pxs : Nat → Int32) (pys : Nat → Int32) (plo : Nat → Int32) (phi : Nat → Int32) (pn : Int32) (pm : Int32) (lf : Nat → Int32) (th : Nat → Int32) (ow : Nat → Int32) (lk : Nat → Int32) (el : Nat → Int32) (eh : Nat → Int32) (co : Nat → Int32) (hu : Nat → Int32) (ne : Int32) (nt : Int32) (nh : Int32) (tpxs : Nat → Int32) (tpys : Nat → Int32) (tplo : Nat → Int32) (tphi : Nat → Int32) (tpn : Int32) (tpm : Int32) (tlf : Nat → Int32) (tth : Nat → Int32) (tow : Nat → Int32) (tlk : Nat → Int32) (tel : Nat → Int32) (teh : Nat → Int32) (tco : Nat → Int32) (thu : Nat → Int32) (tne : Int32) (tnt : Int32) (tnh : Int32) (spxs : Nat → Int32) (spys : Nat → Int32) (splo : Nat → Int32) (sphi : Nat → Int32) (spn : Int32) (spm : Int32) (ich : Nat → Int32) (ifs : Nat → Int32) (isc : Nat → Int32) (isg : Nat → Int32) (iln : Int32) (ien : Int32) (iin : Bool) (idg : Int32) (iva : Int32) (hp : Nat → PlanS) (hnx : Int32) (hkp : Int32) (hsv : Bool) (a0 : Int32) (a1 : Int32) (F : Nat) {o : String ⊕ Int32} (h : s_Top_edgeBetween F pn el eh ne a0 a1 = some o) : Xm l K 7 3 yX6_edgeBetween cX6_edgeBetween 4 (some .int) [.ref (ad 0), .int a0, .int a1] (wTop K ad pxs pys plo phi pn pm lf th ow lk el eh co hu ne nt nh tpxs tpys tplo tphi tpn tpm tlf tth tow tlk tel teh tco thu tne tnt tnh spxs spys splo sphi spn spm ich ifs isc isg iln ien iin idg iva hp hnx hkp hsv) (Sum.map id (fun q => (some (.int q), wTop K ad pxs pys plo phi pn pm lf th ow lk el eh co hu ne nt nh tpxs tpys tplo tphi tpn tpm tlf tth tow tlk tel teh tco thu tne tnt tnh spxs spys splo sphi spn spm ich ifs isc isg iln ien iin idg iva hp hnx hkp hsv)) o) := by
  refine Xm.of hl0 (by decide +kernel) (Nat.le_of_ble_eq_true rfl) ?_
  unfold s_Top_edgeBetween at h
  intro p e s m below meth c C0X H locs hP hD hS ls hl
  obtain ⟨⟨hx, hb, hml, hown, hts, hG, hr, hlk⟩, hl1, htb, hG1, hZ⟩ := id C0X
  have C0 := C0X.1
  have hl : lv_has ls 4 [(0, .ref (ad 0)), (1, .int a0), (2, .int a1)] := hl
  refine lv_aload_n (pc := 0) hx hb dX6_edgeBetween_0 rfl (lv_at hl 0 rfl) ?_
  refine lv_iload_n (pc := 1) hx hb dX6_edgeBetween_1 rfl (lv_at hl 1 rfl) ?_
  refine xVs (pc := 2) (mc := 3) (As := [.int a0]) (rest := []) (so := (s_Top_requirePoint pn a0)) C0X hP hD hS (c_Top_requirePoint l K hl0 ad pxs pys plo phi pn pm lf th ow lk el eh co hu ne nt nh tpxs tpys tplo tphi tpn tpm tlf tth tow tlk tel teh tco thu tne tnt tnh spxs spys splo sphi spn spm ich ifs isc isg iln ien iin idg iva hp hnx hkp hsv a0) (q0 := 0) rfl (ci := 6) rfl g_Top_72 hd_Top_requirePoint rfl ⟨(Nat.le_of_ble_eq_true rfl), (Nat.le_of_ble_eq_true rfl)⟩ ⟨(Nat.le_of_ble_eq_true rfl), (Nat.le_of_ble_eq_true rfl)⟩ ⟨(Nat.le_of_ble_eq_true rfl), (Nat.le_of_ble_eq_true rfl)⟩ hl rfl (Nat.le_of_ble_eq_true rfl) dX6_edgeBetween_2 (fun E hE => ?_) (fun hE H locs hP hS => ?_)
  · rw [hE] at h
    have h := se_l h
    obtain rfl := Option.some.inj h
    rfl
  · rw [hE] at h
    have h := se_r h
    refine lv_aload_n (pc := 5) hx hb dX6_edgeBetween_5 rfl (lv_at hl 0 rfl) ?_
    refine lv_iload_n (pc := 6) hx hb dX6_edgeBetween_6 rfl (lv_at hl 2 rfl) ?_
    refine xVs (pc := 7) (mc := 3) (As := [.int a1]) (rest := []) (so := (s_Top_requirePoint pn a1)) C0X hP hD hS (c_Top_requirePoint l K hl0 ad pxs pys plo phi pn pm lf th ow lk el eh co hu ne nt nh tpxs tpys tplo tphi tpn tpm tlf tth tow tlk tel teh tco thu tne tnt tnh spxs spys splo sphi spn spm ich ifs isc isg iln ien iin idg iva hp hnx hkp hsv a1) (q0 := 0) rfl (ci := 6) rfl g_Top_72 hd_Top_requirePoint rfl ⟨(Nat.le_of_ble_eq_true rfl), (Nat.le_of_ble_eq_true rfl)⟩ ⟨(Nat.le_of_ble_eq_true rfl), (Nat.le_of_ble_eq_true rfl)⟩ ⟨(Nat.le_of_ble_eq_true rfl), (Nat.le_of_ble_eq_true rfl)⟩ hl rfl (Nat.le_of_ble_eq_true rfl) dX6_edgeBetween_7 (fun E hE => ?_) (fun hE H locs hP hS => ?_)
    · rw [hE] at h
      have h := se_l h
      obtain rfl := Option.some.inj h
      rfl
    · rw [hE] at h
      have h := se_r h
      refine lv_aload_n (pc := 10) hx hb dX6_edgeBetween_10 rfl (lv_at hl 0 rfl) ?_
      refine va_get (D := K.1) (ci := 6) (v := .ref (ad 1)) (C := RX6) (T := TX6) (N := 8) (pc := 11) hx hb hts inT6 hown hG.1 hP 0 rfl rfl 1 (by decide) (hts _ qf_Top_21) (fun _ h9 => h9) rfl dX6_edgeBetween_11 ?_
      refine lv_iload_n (pc := 14) hx hb dX6_edgeBetween_14 rfl (lv_at hl 1 rfl) ?_
      refine lv_iload_n (pc := 15) hx hb dX6_edgeBetween_15 rfl (lv_at hl 2 rfl) ?_
      obtain ⟨v1, h_v1, h⟩ := ob h
      refine rdV (pc := 16) (As := [.int a0, .int a1]) (rest := []) hx hb hml hown hts hG hP (c_Mesh_edgeOf l K (fun k => ad (k + 1)) pxs pys plo phi pn pm lf th ow lk el eh co hu ne nt nh a0 a1 F h_v1) [1, 2, 3, 4, 5, 6, 7, 8, 9, 10, 11, 12, 13, 14, 15, 16, 17, 18, 19, 20, 21, 22, 23, 24, 25, 26] rfl (q0 := 1) rfl (ci := 2) rfl g_Top_187 hd_Mesh_edgeOf rfl ⟨Nat.le_of_ble_eq_true rfl, Nat.le_of_ble_eq_true rfl⟩ ⟨Nat.le_of_ble_eq_true rfl, Nat.le_of_ble_eq_true rfl⟩ hl rfl (Nat.le_of_ble_eq_true rfl) dX6_edgeBetween_16 ?_
      refine lv_istore_n (pc := 19) (lv' := [(3, .int v1), (0, .ref (ad 0)), (1, .int a0), (2, .int a1)]) hx hb dX6_edgeBetween_19 rfl hl (by decide) rfl (fun ls hl => ?_)
      refine lv_iload_n (pc := 20) hx hb dX6_edgeBetween_20 rfl (lv_at hl 0 rfl) ?_
      refine lv_iconst (v := (-1 : Int32)) (pc := 21) hx hb dX6_edgeBetween_21 (by decide) ?_
      refine lv_icmp_ne (tgt := 35) (pc := 22) hx hb dX6_edgeBetween_22 (by decide) (fun c2 => ?_) (fun c2 => ?_)
      · have h := it_f c2 h
        refine lv_iload_n (pc := 35) hx hb dX6_edgeBetween_35 rfl (lv_at hl 0 rfl) ?_
        obtain rfl := Option.some.inj h
        refine vx_ret ?_
        refine W.widen (k := 3) (n := 18) (Nat.le_of_ble_eq_true rfl) (Nat.le_of_ble_eq_true rfl) ?_
        exact W.iret hx hb hr (fun t ht hW => ⟨⟨_, _, rfl, rfl, by rw [ht]; exact hP⟩, hS.F ht⟩) hS.2.2 dX6_edgeBetween_36 hlk
      · have h := it_t c2 h
        obtain rfl := Option.some.inj h
        exact xThrowN (pc := 25) (mc := 3) C0X ef_NSE ql_Top_190 qn_NSE (by decide +kernel : (192, "there is no edge between these points") ∈ strs) hP hS hl dX6_edgeBetween_25 dX6_edgeBetween_28 dX6_edgeBetween_29 dX6_edgeBetween_31 dX6_edgeBetween_34 (Nat.le_of_ble_eq_true rfl) (Nat.le_of_ble_eq_true rfl) (Nat.le_of_ble_eq_true rfl) (Nat.le_of_ble_eq_true rfl) (Nat.le_of_ble_eq_true rfl) (Nat.le_of_ble_eq_true rfl) rfl
set_option maxHeartbeats 4000000 in
set_option maxRecDepth 100000 in
theorem c_Top_degree (l : Launch) (K : KT) (hl0 : l.stackTraces = false) (ad : Nat → Nat) (pxs : Nat → Int32) (pys : Nat → Int32) (plo : Nat → Int32) (phi : Nat → Int32) (pn : Int32) (pm : Int32) (lf : Nat → Int32) (th : Nat → Int32) (ow : Nat → Int32) (lk : Nat → Int32) (el : Nat → Int32) (eh : Nat → Int32) (co : Nat → Int32) (hu : Nat → Int32) (ne : Int32) (nt : Int32) (nh : Int32) (tpxs : Nat → Int32) (tpys : Nat → Int32) (tplo : Nat → Int32) (tphi : Nat → Int32) (tpn : Int32) (tpm : Int32) (tlf : Nat → Int32) (tth : Nat → Int32) (tow : Nat → Int32) (tlk : Nat → Int32) (tel : Nat → Int32) (teh : Nat → Int32) (tco : Nat → Int32) (thu : Nat → Int32) (tne : Int32) (tnt : Int32) (tnh : Int32) (spxs : Nat → Int32) (spys : Nat → Int32) (splo : Nat → Int32) (sphi : Nat → Int32) (spn : Int32) (spm : Int32) (ich : Nat → Int32) (ifs : Nat → Int32) (isc : Nat → Int32) (isg : Nat → Int32) (iln : Int32) (ien : Int32) (iin : Bool) (idg : Int32) (iva : Int32) (hp : Nat → PlanS) (hnx : Int32) (hkp : Int32) (hsv : Bool) (a0 : Int32) : Xm l K 7 1 yX6_degree cX6_degree 2 (some .int) [.ref (ad 0), .int a0] (wTop K ad pxs pys plo phi pn pm lf th ow lk el eh co hu ne nt nh tpxs tpys tplo tphi tpn tpm tlf tth tow tlk tel teh tco thu tne tnt tnh spxs spys splo sphi spn spm ich ifs isc isg iln ien iin idg iva hp hnx hkp hsv) (Sum.map id (fun q => (some (.int q), wTop K ad pxs pys plo phi pn pm lf th ow lk el eh co hu ne nt nh tpxs tpys tplo tphi tpn tpm tlf tth tow tlk tel teh tco thu tne tnt tnh spxs spys splo sphi spn spm ich ifs isc isg iln ien iin idg iva hp hnx hkp hsv)) (s_Top_degree pn lk a0)) := by
  generalize h : s_Top_degree pn lk a0 = o
  refine Xm.of hl0 (by decide +kernel) (Nat.le_of_ble_eq_true rfl) ?_
  unfold s_Top_degree at h
  intro p e s m below meth c C0X H locs hP hD hS ls hl
  obtain ⟨⟨hx, hb, hml, hown, hts, hG, hr, hlk⟩, hl1, htb, hG1, hZ⟩ := id C0X
  have C0 := C0X.1
  have hl : lv_has ls 2 [(0, .ref (ad 0)), (1, .int a0)] := hl
  refine lv_aload_n (pc := 0) hx hb dX6_degree_0 rfl (lv_at hl 0 rfl) ?_
  refine lv_iload_n (pc := 1) hx hb dX6_degree_1 rfl (lv_at hl 1 rfl) ?_
  refine xVs (pc := 2) (mc := 1) (As := [.int a0]) (rest := []) (so := (s_Top_requirePoint pn a0)) C0X hP hD hS (c_Top_requirePoint l K hl0 ad pxs pys plo phi pn pm lf th ow lk el eh co hu ne nt nh tpxs tpys tplo tphi tpn tpm tlf tth tow tlk tel teh tco thu tne tnt tnh spxs spys splo sphi spn spm ich ifs isc isg iln ien iin idg iva hp hnx hkp hsv a0) (q0 := 0) rfl (ci := 6) rfl g_Top_72 hd_Top_requirePoint rfl ⟨(Nat.le_of_ble_eq_true rfl), (Nat.le_of_ble_eq_true rfl)⟩ ⟨(Nat.le_of_ble_eq_true rfl), (Nat.le_of_ble_eq_true rfl)⟩ ⟨(Nat.le_of_ble_eq_true rfl), (Nat.le_of_ble_eq_true rfl)⟩ hl rfl (Nat.le_of_ble_eq_true rfl) dX6_degree_2 (fun E hE => ?_) (fun hE H locs hP hS => ?_)
  · rw [hE] at h
    have h := se_l h
    subst h
    rfl
  · rw [hE] at h
    have h := se_r h
    refine lv_aload_n (pc := 5) hx hb dX6_degree_5 rfl (lv_at hl 0 rfl) ?_
    refine va_get (D := K.1) (ci := 6) (v := .ref (ad 1)) (C := RX6) (T := TX6) (N := 8) (pc := 6) hx hb hts inT6 hown hG.1 hP 0 rfl rfl 1 (by decide) (hts _ qf_Top_21) (fun _ h9 => h9) rfl dX6_degree_6 ?_
    refine lv_iload_n (pc := 9) hx hb dX6_degree_9 rfl (lv_at hl 1 rfl) ?_
    refine rdV (pc := 10) (As := [.int a0]) (rest := []) hx hb hml hown hts hG hP (c_Mesh_degreeOf l K (fun k => ad (k + 1)) pxs pys plo phi pn pm lf th ow lk el eh co hu ne nt nh a0) [1, 2, 3, 4, 5, 6, 7, 8, 9, 10, 11, 12, 13, 14, 15, 16, 17, 18, 19, 20, 21, 22, 23, 24, 25, 26] rfl (q0 := 1) rfl (ci := 2) rfl g_Top_195 hd_Mesh_degreeOf rfl ⟨Nat.le_of_ble_eq_true rfl, Nat.le_of_ble_eq_true rfl⟩ ⟨Nat.le_of_ble_eq_true rfl, Nat.le_of_ble_eq_true rfl⟩ hl rfl (Nat.le_of_ble_eq_true rfl) dX6_degree_10 ?_
    subst h
    refine vx_ret ?_
    refine W.widen (k := 1) (n := 6) (Nat.le_of_ble_eq_true rfl) (Nat.le_of_ble_eq_true rfl) ?_
    exact W.iret hx hb hr (fun t ht hW => ⟨⟨_, _, rfl, rfl, by rw [ht]; exact hP⟩, hS.F ht⟩) hS.2.2 dX6_degree_13 hlk
set_option maxHeartbeats 4000000 in
set_option maxRecDepth 100000 in
theorem c_Top_neighbour (l : Launch) (K : KT) (hl0 : l.stackTraces = false) (ad : Nat → Nat) (pxs : Nat → Int32) (pys : Nat → Int32) (plo : Nat → Int32) (phi : Nat → Int32) (pn : Int32) (pm : Int32) (lf : Nat → Int32) (th : Nat → Int32) (ow : Nat → Int32) (lk : Nat → Int32) (el : Nat → Int32) (eh : Nat → Int32) (co : Nat → Int32) (hu : Nat → Int32) (ne : Int32) (nt : Int32) (nh : Int32) (tpxs : Nat → Int32) (tpys : Nat → Int32) (tplo : Nat → Int32) (tphi : Nat → Int32) (tpn : Int32) (tpm : Int32) (tlf : Nat → Int32) (tth : Nat → Int32) (tow : Nat → Int32) (tlk : Nat → Int32) (tel : Nat → Int32) (teh : Nat → Int32) (tco : Nat → Int32) (thu : Nat → Int32) (tne : Int32) (tnt : Int32) (tnh : Int32) (spxs : Nat → Int32) (spys : Nat → Int32) (splo : Nat → Int32) (sphi : Nat → Int32) (spn : Int32) (spm : Int32) (ich : Nat → Int32) (ifs : Nat → Int32) (isc : Nat → Int32) (isg : Nat → Int32) (iln : Int32) (ien : Int32) (iin : Bool) (idg : Int32) (iva : Int32) (hp : Nat → PlanS) (hnx : Int32) (hkp : Int32) (hsv : Bool) (a0 : Int32) (a1 : Int32) (F : Nat) {o : String ⊕ Int32} (h : s_Top_neighbour F pn lk a0 a1 = some o) : Xm l K 7 2 yX6_neighbour cX6_neighbour 3 (some .int) [.ref (ad 0), .int a0, .int a1] (wTop K ad pxs pys plo phi pn pm lf th ow lk el eh co hu ne nt nh tpxs tpys tplo tphi tpn tpm tlf tth tow tlk tel teh tco thu tne tnt tnh spxs spys splo sphi spn spm ich ifs isc isg iln ien iin idg iva hp hnx hkp hsv) (Sum.map id (fun q => (some (.int q), wTop K ad pxs pys plo phi pn pm lf th ow lk el eh co hu ne nt nh tpxs tpys tplo tphi tpn tpm tlf tth tow tlk tel teh tco thu tne tnt tnh spxs spys splo sphi spn spm ich ifs isc isg iln ien iin idg iva hp hnx hkp hsv)) o) := by
  refine Xm.of hl0 (by decide +kernel) (Nat.le_of_ble_eq_true rfl) ?_
  unfold s_Top_neighbour at h
  intro p e s m below meth c C0X H locs hP hD hS ls hl
  obtain ⟨⟨hx, hb, hml, hown, hts, hG, hr, hlk⟩, hl1, htb, hG1, hZ⟩ := id C0X
  have C0 := C0X.1
  have hl : lv_has ls 3 [(0, .ref (ad 0)), (1, .int a0), (2, .int a1)] := hl
  refine lv_aload_n (pc := 0) hx hb dX6_neighbour_0 rfl (lv_at hl 0 rfl) ?_
  refine lv_iload_n (pc := 1) hx hb dX6_neighbour_1 rfl (lv_at hl 1 rfl) ?_
  refine xVs (pc := 2) (mc := 2) (As := [.int a0]) (rest := []) (so := (s_Top_requirePoint pn a0)) C0X hP hD hS (c_Top_requirePoint l K hl0 ad pxs pys plo phi pn pm lf th ow lk el eh co hu ne nt nh tpxs tpys tplo tphi tpn tpm tlf tth tow tlk tel teh tco thu tne tnt tnh spxs spys splo sphi spn spm ich ifs isc isg iln ien iin idg iva hp hnx hkp hsv a0) (q0 := 0) rfl (ci := 6) rfl g_Top_72 hd_Top_requirePoint rfl ⟨(Nat.le_of_ble_eq_true rfl), (Nat.le_of_ble_eq_true rfl)⟩ ⟨(Nat.le_of_ble_eq_true rfl), (Nat.le_of_ble_eq_true rfl)⟩ ⟨(Nat.le_of_ble_eq_true rfl), (Nat.le_of_ble_eq_true rfl)⟩ hl rfl (Nat.le_of_ble_eq_true rfl) dX6_neighbour_2 (fun E hE => ?_) (fun hE H locs hP hS => ?_)
  · rw [hE] at h
    have h := se_l h
    obtain rfl := Option.some.inj h
    rfl
  · rw [hE] at h
    have h := se_r h
    refine lv_iload_n (pc := 5) hx hb dX6_neighbour_5 rfl (lv_at hl 2 rfl) ?_
    refine lv_if_lt (tgt := 21) (pc := 6) hx hb dX6_neighbour_6 (by decide) (fun c1 => ?_) (fun c1 => ?_)
    · have h := it_t c1 h
      obtain rfl := Option.some.inj h
      exact xThrowN (pc := 21) (mc := 2) C0X ef_NSE ql_Top_190 qn_NSE (by decide +kernel : (198, "there is no such index") ∈ strs) hP hS hl dX6_neighbour_21 dX6_neighbour_24 dX6_neighbour_25 dX6_neighbour_27 dX6_neighbour_30 (Nat.le_of_ble_eq_true rfl) (Nat.le_of_ble_eq_true rfl) (Nat.le_of_ble_eq_true rfl) (Nat.le_of_ble_eq_true rfl) (Nat.le_of_ble_eq_true rfl) (Nat.le_of_ble_eq_true rfl) rfl
    · have h := it_f c1 h
      refine lv_iload_n (pc := 9) hx hb dX6_neighbour_9 rfl (lv_at hl 2 rfl) ?_
      refine lv_aload_n (pc := 10) hx hb dX6_neighbour_10 rfl (lv_at hl 0 rfl) ?_
      refine va_get (D := K.1) (ci := 6) (v := .ref (ad 1)) (C := RX6) (T := TX6) (N := 8) (pc := 11) hx hb hts inT6 hown hG.1 hP 0 rfl rfl 1 (by decide) (hts _ qf_Top_21) (fun _ h9 => h9) rfl dX6_neighbour_11 ?_
      refine lv_iload_n (pc := 14) hx hb dX6_neighbour_14 rfl (lv_at hl 1 rfl) ?_
      refine rdV (pc := 15) (As := [.int a0]) (rest := [.int a1]) hx hb hml hown hts hG hP (c_Mesh_degreeOf l K (fun k => ad (k + 1)) pxs pys plo phi pn pm lf th ow lk el eh co hu ne nt nh a0) [1, 2, 3, 4, 5, 6, 7, 8, 9, 10, 11, 12, 13, 14, 15, 16, 17, 18, 19, 20, 21, 22, 23, 24, 25, 26] rfl (q0 := 1) rfl (ci := 2) rfl g_Top_195 hd_Mesh_degreeOf rfl ⟨Nat.le_of_ble_eq_true rfl, Nat.le_of_ble_eq_true rfl⟩ ⟨Nat.le_of_ble_eq_true rfl, Nat.le_of_ble_eq_true rfl⟩ hl rfl (Nat.le_of_ble_eq_true rfl) dX6_neighbour_15 ?_
      refine lv_icmp_lt (tgt := 31) (pc := 18) hx hb dX6_neighbour_18 (by decide) (fun c2 => ?_) (fun c2 => ?_)
      · have h := it_t c2 h
        refine lv_aload_n (pc := 31) hx hb dX6_neighbour_31 rfl (lv_at hl 0 rfl) ?_
        refine va_get (D := K.1) (ci := 6) (v := .ref (ad 1)) (C := RX6) (T := TX6) (N := 8) (pc := 32) hx hb hts inT6 hown hG.1 hP 0 rfl rfl 1 (by decide) (hts _ qf_Top_21) (fun _ h9 => h9) rfl dX6_neighbour_32 ?_
        refine lv_iload_n (pc := 35) hx hb dX6_neighbour_35 rfl (lv_at hl 1 rfl) ?_
        refine lv_iload_n (pc := 36) hx hb dX6_neighbour_36 rfl (lv_at hl 2 rfl) ?_
        obtain ⟨v3, h_v3, h⟩ := ob h
        refine rdV (pc := 37) (As := [.int a0, .int a1]) (rest := []) hx hb hml hown hts hG hP (c_Mesh_neighbourOf l K (fun k => ad (k + 1)) pxs pys plo phi pn pm lf th ow lk el eh co hu ne nt nh a0 a1 F h_v3) [1, 2, 3, 4, 5, 6, 7, 8, 9, 10, 11, 12, 13, 14, 15, 16, 17, 18, 19, 20, 21, 22, 23, 24, 25, 26] rfl (q0 := 1) rfl (ci := 2) rfl g_Top_200 hd_Mesh_neighbourOf rfl ⟨Nat.le_of_ble_eq_true rfl, Nat.le_of_ble_eq_true rfl⟩ ⟨Nat.le_of_ble_eq_true rfl, Nat.le_of_ble_eq_true rfl⟩ hl rfl (Nat.le_of_ble_eq_true rfl) dX6_neighbour_37 ?_
        obtain rfl := Option.some.inj h
        refine vx_ret ?_
        refine W.widen (k := 2) (n := 12) (Nat.le_of_ble_eq_true rfl) (Nat.le_of_ble_eq_true rfl) ?_
        exact W.iret hx hb hr (fun t ht hW => ⟨⟨_, _, rfl, rfl, by rw [ht]; exact hP⟩, hS.F ht⟩) hS.2.2 dX6_neighbour_40 hlk
      · have h := it_f c2 h
        obtain rfl := Option.some.inj h
        exact xThrowN (pc := 21) (mc := 2) C0X ef_NSE ql_Top_190 qn_NSE (by decide +kernel : (198, "there is no such index") ∈ strs) hP hS hl dX6_neighbour_21 dX6_neighbour_24 dX6_neighbour_25 dX6_neighbour_27 dX6_neighbour_30 (Nat.le_of_ble_eq_true rfl) (Nat.le_of_ble_eq_true rfl) (Nat.le_of_ble_eq_true rfl) (Nat.le_of_ble_eq_true rfl) (Nat.le_of_ble_eq_true rfl) (Nat.le_of_ble_eq_true rfl) rfl
set_option maxHeartbeats 4000000 in
set_option maxRecDepth 100000 in
theorem c_Top_hullSize (l : Launch) (K : KT) (ad : Nat → Nat) (pxs : Nat → Int32) (pys : Nat → Int32) (plo : Nat → Int32) (phi : Nat → Int32) (pn : Int32) (pm : Int32) (lf : Nat → Int32) (th : Nat → Int32) (ow : Nat → Int32) (lk : Nat → Int32) (el : Nat → Int32) (eh : Nat → Int32) (co : Nat → Int32) (hu : Nat → Int32) (ne : Int32) (nt : Int32) (nh : Int32) (tpxs : Nat → Int32) (tpys : Nat → Int32) (tplo : Nat → Int32) (tphi : Nat → Int32) (tpn : Int32) (tpm : Int32) (tlf : Nat → Int32) (tth : Nat → Int32) (tow : Nat → Int32) (tlk : Nat → Int32) (tel : Nat → Int32) (teh : Nat → Int32) (tco : Nat → Int32) (thu : Nat → Int32) (tne : Int32) (tnt : Int32) (tnh : Int32) (spxs : Nat → Int32) (spys : Nat → Int32) (splo : Nat → Int32) (sphi : Nat → Int32) (spn : Int32) (spm : Int32) (ich : Nat → Int32) (ifs : Nat → Int32) (isc : Nat → Int32) (isg : Nat → Int32) (iln : Int32) (ien : Int32) (iin : Bool) (idg : Int32) (iva : Int32) (hp : Nat → PlanS) (hnx : Int32) (hkp : Int32) (hsv : Bool) : Rd l K 1 yX6_hullSize cX6_hullSize 1 .int [.ref (ad 0)] (wTop K ad pxs pys plo phi pn pm lf th ow lk el eh co hu ne nt nh tpxs tpys tplo tphi tpn tpm tlf tth tow tlk tel teh tco thu tne tnt tnh spxs spys splo sphi spn spm ich ifs isc isg iln ien iin idg iva hp hnx hkp hsv) (s_Top_hullSize nh) := by
  generalize h : s_Top_hullSize nh = o
  refine Rd.of (by decide +kernel) (Nat.le_of_ble_eq_true rfl) ?_
  unfold s_Top_hullSize at h
  intro p e s m below meth c hx hb hr hml hown hts hlk hP hG ls hl
  have C0 : Ctx p m c cX6_hullSize 1 s (Array.mk [.ref (ad 0)]) RX6 K meth (some .int) := ⟨hx, hb, hml, hown, hts, hG, hr, hlk⟩
  have hl : lv_has ls 1 [(0, .ref (ad 0))] := hl
  refine lv_aload_n (pc := 0) hx hb dX6_hullSize_0 rfl (lv_at hl 0 rfl) ?_
  refine va_get (D := K.1) (ci := 6) (v := .ref (ad 1)) (C := RX6) (T := TX6) (N := 8) (pc := 1) hx hb hts inT6 hown hG.1 hP 0 rfl rfl 1 (by decide) (hts _ qf_Top_21) (fun _ h9 => h9) rfl dX6_hullSize_1 ?_
  refine rdV (pc := 4) (As := []) (rest := []) hx hb hml hown hts hG hP (c_Mesh_hullPoints l K (fun k => ad (k + 1)) pxs pys plo phi pn pm lf th ow lk el eh co hu ne nt nh) [1, 2, 3, 4, 5, 6, 7, 8, 9, 10, 11, 12, 13, 14, 15, 16, 17, 18, 19, 20, 21, 22, 23, 24, 25, 26] rfl (q0 := 1) rfl (ci := 2) rfl g_Top_203 hd_Mesh_hullPoints rfl ⟨Nat.le_of_ble_eq_true rfl, Nat.le_of_ble_eq_true rfl⟩ ⟨Nat.zero_le _, Nat.zero_le _⟩ hl rfl (Nat.le_of_ble_eq_true rfl) dX6_hullSize_4 ?_
  subst h
  exact W.iret hx hb hr (fun t ht hW => ⟨rfl, ht⟩) (fun q hq => absurd hq List.not_mem_nil) dX6_hullSize_7 hlk
set_option maxHeartbeats 4000000 in
set_option maxRecDepth 100000 in
theorem c_Top_hullPoint (l : Launch) (K : KT) (hl0 : l.stackTraces = false) (ad : Nat → Nat) (pxs : Nat → Int32) (pys : Nat → Int32) (plo : Nat → Int32) (phi : Nat → Int32) (pn : Int32) (pm : Int32) (lf : Nat → Int32) (th : Nat → Int32) (ow : Nat → Int32) (lk : Nat → Int32) (el : Nat → Int32) (eh : Nat → Int32) (co : Nat → Int32) (hu : Nat → Int32) (ne : Int32) (nt : Int32) (nh : Int32) (tpxs : Nat → Int32) (tpys : Nat → Int32) (tplo : Nat → Int32) (tphi : Nat → Int32) (tpn : Int32) (tpm : Int32) (tlf : Nat → Int32) (tth : Nat → Int32) (tow : Nat → Int32) (tlk : Nat → Int32) (tel : Nat → Int32) (teh : Nat → Int32) (tco : Nat → Int32) (thu : Nat → Int32) (tne : Int32) (tnt : Int32) (tnh : Int32) (spxs : Nat → Int32) (spys : Nat → Int32) (splo : Nat → Int32) (sphi : Nat → Int32) (spn : Int32) (spm : Int32) (ich : Nat → Int32) (ifs : Nat → Int32) (isc : Nat → Int32) (isg : Nat → Int32) (iln : Int32) (ien : Int32) (iin : Bool) (idg : Int32) (iva : Int32) (hp : Nat → PlanS) (hnx : Int32) (hkp : Int32) (hsv : Bool) (a0 : Int32) : Xm l K 6 1 yX6_hullPoint cX6_hullPoint 2 (some .int) [.ref (ad 0), .int a0] (wTop K ad pxs pys plo phi pn pm lf th ow lk el eh co hu ne nt nh tpxs tpys tplo tphi tpn tpm tlf tth tow tlk tel teh tco thu tne tnt tnh spxs spys splo sphi spn spm ich ifs isc isg iln ien iin idg iva hp hnx hkp hsv) (Sum.map id (fun q => (some (.int q), wTop K ad pxs pys plo phi pn pm lf th ow lk el eh co hu ne nt nh tpxs tpys tplo tphi tpn tpm tlf tth tow tlk tel teh tco thu tne tnt tnh spxs spys splo sphi spn spm ich ifs isc isg iln ien iin idg iva hp hnx hkp hsv)) (s_Top_hullPoint hu nh a0)) := by
  generalize h : s_Top_hullPoint hu nh a0 = o
  refine Xm.of hl0 (by decide +kernel) (Nat.le_of_ble_eq_true rfl) ?_
  unfold s_Top_hullPoint at h
  intro p e s m below meth c C0X H locs hP hD hS ls hl
  obtain ⟨⟨hx, hb, hml, hown, hts, hG, hr, hlk⟩, hl1, htb, hG1, hZ⟩ := id C0X
  have C0 := C0X.1
  have hl : lv_has ls 2 [(0, .ref (ad 0)), (1, .int a0)] := hl
  refine lv_iload_n (pc := 0) hx hb dX6_hullPoint_0 rfl (lv_at hl 1 rfl) ?_
  refine lv_if_lt (tgt := 15) (pc := 1) hx hb dX6_hullPoint_1 (by decide) (fun c1 => ?_) (fun c1 => ?_)
  · have h := it_t c1 h
    subst h
    exact xThrow (pc := 15) (mc := 1) C0X ef_IOB ql_Top_206 qn_IOB (by decide +kernel : (198, "there is no such index") ∈ strs) hP hS hl dX6_hullPoint_15 dX6_hullPoint_18 dX6_hullPoint_19 dX6_hullPoint_21 dX6_hullPoint_24 (Nat.le_of_ble_eq_true rfl) (Nat.le_of_ble_eq_true rfl) (Nat.le_of_ble_eq_true rfl) (Nat.le_of_ble_eq_true rfl) (Nat.le_of_ble_eq_true rfl) (Nat.le_of_ble_eq_true rfl) rfl
  · have h := it_f c1 h
    refine lv_iload_n (pc := 4) hx hb dX6_hullPoint_4 rfl (lv_at hl 1 rfl) ?_
    refine lv_aload_n (pc := 5) hx hb dX6_hullPoint_5 rfl (lv_at hl 0 rfl) ?_
    refine va_get (D := K.1) (ci := 6) (v := .ref (ad 1)) (C := RX6) (T := TX6) (N := 8) (pc := 6) hx hb hts inT6 hown hG.1 hP 0 rfl rfl 1 (by decide) (hts _ qf_Top_21) (fun _ h9 => h9) rfl dX6_hullPoint_6 ?_
    refine rdV (pc := 9) (As := []) (rest := [.int a0]) hx hb hml hown hts hG hP (c_Mesh_hullPoints l K (fun k => ad (k + 1)) pxs pys plo phi pn pm lf th ow lk el eh co hu ne nt nh) [1, 2, 3, 4, 5, 6, 7, 8, 9, 10, 11, 12, 13, 14, 15, 16, 17, 18, 19, 20, 21, 22, 23, 24, 25, 26] rfl (q0 := 1) rfl (ci := 2) rfl g_Top_203 hd_Mesh_hullPoints rfl ⟨Nat.le_of_ble_eq_true rfl, Nat.le_of_ble_eq_true rfl⟩ ⟨Nat.le_of_ble_eq_true rfl, Nat.le_of_ble_eq_true rfl⟩ hl rfl (Nat.le_of_ble_eq_true rfl) dX6_hullPoint_9 ?_
    refine lv_icmp_lt (tgt := 25) (pc := 12) hx hb dX6_hullPoint_12 (by decide) (fun c2 => ?_) (fun c2 => ?_)
    · have h := it_t c2 h
      refine lv_aload_n (pc := 25) hx hb dX6_hullPoint_25 rfl (lv_at hl 0 rfl) ?_
      refine va_get (D := K.1) (ci := 6) (v := .ref (ad 1)) (C := RX6) (T := TX6) (N := 8) (pc := 26) hx hb hts inT6 hown hG.1 hP 0 rfl rfl 1 (by decide) (hts _ qf_Top_21) (fun _ h9 => h9) rfl dX6_hullPoint_26 ?_
      refine lv_iload_n (pc := 29) hx hb dX6_hullPoint_29 rfl (lv_at hl 1 rfl) ?_
      refine rdV (pc := 30) (As := [.int a0]) (rest := []) hx hb hml hown hts hG hP (c_Mesh_hullPointAt l K (fun k => ad (k + 1)) pxs pys plo phi pn pm lf th ow lk el eh co hu ne nt nh a0) [1, 2, 3, 4, 5, 6, 7, 8, 9, 10, 11, 12, 13, 14, 15, 16, 17, 18, 19, 20, 21, 22, 23, 24, 25, 26] rfl (q0 := 1) rfl (ci := 2) rfl g_Top_209 hd_Mesh_hullPointAt rfl ⟨Nat.le_of_ble_eq_true rfl, Nat.le_of_ble_eq_true rfl⟩ ⟨Nat.le_of_ble_eq_true rfl, Nat.le_of_ble_eq_true rfl⟩ hl rfl (Nat.le_of_ble_eq_true rfl) dX6_hullPoint_30 ?_
      subst h
      refine vx_ret ?_
      refine W.widen (k := 1) (n := 6) (Nat.le_of_ble_eq_true rfl) (Nat.le_of_ble_eq_true rfl) ?_
      exact W.iret hx hb hr (fun t ht hW => ⟨⟨_, _, rfl, rfl, by rw [ht]; exact hP⟩, hS.F ht⟩) hS.2.2 dX6_hullPoint_33 hlk
    · have h := it_f c2 h
      subst h
      exact xThrow (pc := 15) (mc := 1) C0X ef_IOB ql_Top_206 qn_IOB (by decide +kernel : (198, "there is no such index") ∈ strs) hP hS hl dX6_hullPoint_15 dX6_hullPoint_18 dX6_hullPoint_19 dX6_hullPoint_21 dX6_hullPoint_24 (Nat.le_of_ble_eq_true rfl) (Nat.le_of_ble_eq_true rfl) (Nat.le_of_ble_eq_true rfl) (Nat.le_of_ble_eq_true rfl) (Nat.le_of_ble_eq_true rfl) (Nat.le_of_ble_eq_true rfl) rfl
set_option maxHeartbeats 4000000 in
set_option maxRecDepth 100000 in
theorem c_Top_twiceArea (l : Launch) (K : KT) (hl0 : l.stackTraces = false) (ad : Nat → Nat) (pxs : Nat → Int32) (pys : Nat → Int32) (plo : Nat → Int32) (phi : Nat → Int32) (pn : Int32) (pm : Int32) (lf : Nat → Int32) (th : Nat → Int32) (ow : Nat → Int32) (lk : Nat → Int32) (el : Nat → Int32) (eh : Nat → Int32) (co : Nat → Int32) (hu : Nat → Int32) (ne : Int32) (nt : Int32) (nh : Int32) (tpxs : Nat → Int32) (tpys : Nat → Int32) (tplo : Nat → Int32) (tphi : Nat → Int32) (tpn : Int32) (tpm : Int32) (tlf : Nat → Int32) (tth : Nat → Int32) (tow : Nat → Int32) (tlk : Nat → Int32) (tel : Nat → Int32) (teh : Nat → Int32) (tco : Nat → Int32) (thu : Nat → Int32) (tne : Int32) (tnt : Int32) (tnh : Int32) (spxs : Nat → Int32) (spys : Nat → Int32) (splo : Nat → Int32) (sphi : Nat → Int32) (spn : Int32) (spm : Int32) (ich : Nat → Int32) (ifs : Nat → Int32) (isc : Nat → Int32) (isg : Nat → Int32) (iln : Int32) (ien : Int32) (iin : Bool) (idg : Int32) (iva : Int32) (hp : Nat → PlanS) (hnx : Int32) (hkp : Int32) (hsv : Bool) (a0 : Int32) : Xm l K 7 1 yX6_twiceArea cX6_twiceArea 2 (some .int) [.ref (ad 0), .int a0] (wTop K ad pxs pys plo phi pn pm lf th ow lk el eh co hu ne nt nh tpxs tpys tplo tphi tpn tpm tlf tth tow tlk tel teh tco thu tne tnt tnh spxs spys splo sphi spn spm ich ifs isc isg iln ien iin idg iva hp hnx hkp hsv) (Sum.map id (fun q => (some (.int q), wTop K ad pxs pys plo phi pn pm lf th ow lk el eh co hu ne nt nh tpxs tpys tplo tphi tpn tpm tlf tth tow tlk tel teh tco thu tne tnt tnh spxs spys splo sphi spn spm ich ifs isc isg iln ien iin idg iva hp hnx hkp hsv)) (s_Top_twiceArea pxs pys co nt a0)) := by
  generalize h : s_Top_twiceArea pxs pys co nt a0 = o
  refine Xm.of hl0 (by decide +kernel) (Nat.le_of_ble_eq_true rfl) ?_
  unfold s_Top_twiceArea at h
  intro p e s m below meth c C0X H locs hP hD hS ls hl
  obtain ⟨⟨hx, hb, hml, hown, hts, hG, hr, hlk⟩, hl1, htb, hG1, hZ⟩ := id C0X
  have C0 := C0X.1
  have hl : lv_has ls 2 [(0, .ref (ad 0)), (1, .int a0)] := hl
  refine lv_aload_n (pc := 0) hx hb dX6_twiceArea_0 rfl (lv_at hl 0 rfl) ?_
  refine lv_iload_n (pc := 1) hx hb dX6_twiceArea_1 rfl (lv_at hl 1 rfl) ?_
  refine xVs (pc := 2) (mc := 1) (As := [.int a0]) (rest := []) (so := (s_Top_requireTriangle nt a0)) C0X hP hD hS (c_Top_requireTriangle l K hl0 ad pxs pys plo phi pn pm lf th ow lk el eh co hu ne nt nh tpxs tpys tplo tphi tpn tpm tlf tth tow tlk tel teh tco thu tne tnt tnh spxs spys splo sphi spn spm ich ifs isc isg iln ien iin idg iva hp hnx hkp hsv a0) (q0 := 0) rfl (ci := 6) rfl g_Top_167 hd_Top_requireTriangle rfl ⟨(Nat.le_of_ble_eq_true rfl), (Nat.le_of_ble_eq_true rfl)⟩ ⟨(Nat.le_of_ble_eq_true rfl), (Nat.le_of_ble_eq_true rfl)⟩ ⟨(Nat.le_of_ble_eq_true rfl), (Nat.le_of_ble_eq_true rfl)⟩ hl rfl (Nat.le_of_ble_eq_true rfl) dX6_twiceArea_2 (fun E hE => ?_) (fun hE H locs hP hS => ?_)
  · rw [hE] at h
    have h := se_l h
    subst h
    rfl
  · rw [hE] at h
    have h := se_r h
    refine lv_aload_n (pc := 5) hx hb dX6_twiceArea_5 rfl (lv_at hl 0 rfl) ?_
    refine va_get (D := K.1) (ci := 6) (v := .ref (ad 1)) (C := RX6) (T := TX6) (N := 8) (pc := 6) hx hb hts inT6 hown hG.1 hP 0 rfl rfl 1 (by decide) (hts _ qf_Top_21) (fun _ h9 => h9) rfl dX6_twiceArea_6 ?_
    refine lv_iload_n (pc := 9) hx hb dX6_twiceArea_9 rfl (lv_at hl 1 rfl) ?_
    refine rdV (pc := 10) (As := [.int a0]) (rest := []) hx hb hml hown hts hG hP (c_Mesh_areaOf l K (fun k => ad (k + 1)) pxs pys plo phi pn pm lf th ow lk el eh co hu ne nt nh a0) [1, 2, 3, 4, 5, 6, 7, 8, 9, 10, 11, 12, 13, 14, 15, 16, 17, 18, 19, 20, 21, 22, 23, 24, 25, 26] rfl (q0 := 1) rfl (ci := 2) rfl g_Top_212 hd_Mesh_areaOf rfl ⟨Nat.le_of_ble_eq_true rfl, Nat.le_of_ble_eq_true rfl⟩ ⟨Nat.le_of_ble_eq_true rfl, Nat.le_of_ble_eq_true rfl⟩ hl rfl (Nat.le_of_ble_eq_true rfl) dX6_twiceArea_10 ?_
    subst h
    refine vx_ret ?_
    refine W.widen (k := 1) (n := 6) (Nat.le_of_ble_eq_true rfl) (Nat.le_of_ble_eq_true rfl) ?_
    exact W.iret hx hb hr (fun t ht hW => ⟨⟨_, _, rfl, rfl, by rw [ht]; exact hP⟩, hS.F ht⟩) hS.2.2 dX6_twiceArea_13 hlk
set_option maxHeartbeats 4000000 in
set_option maxRecDepth 100000 in
theorem c_Top_areaShare (l : Launch) (K : KT) (hl0 : l.stackTraces = false) (ad : Nat → Nat) (pxs : Nat → Int32) (pys : Nat → Int32) (plo : Nat → Int32) (phi : Nat → Int32) (pn : Int32) (pm : Int32) (lf : Nat → Int32) (th : Nat → Int32) (ow : Nat → Int32) (lk : Nat → Int32) (el : Nat → Int32) (eh : Nat → Int32) (co : Nat → Int32) (hu : Nat → Int32) (ne : Int32) (nt : Int32) (nh : Int32) (tpxs : Nat → Int32) (tpys : Nat → Int32) (tplo : Nat → Int32) (tphi : Nat → Int32) (tpn : Int32) (tpm : Int32) (tlf : Nat → Int32) (tth : Nat → Int32) (tow : Nat → Int32) (tlk : Nat → Int32) (tel : Nat → Int32) (teh : Nat → Int32) (tco : Nat → Int32) (thu : Nat → Int32) (tne : Int32) (tnt : Int32) (tnh : Int32) (spxs : Nat → Int32) (spys : Nat → Int32) (splo : Nat → Int32) (sphi : Nat → Int32) (spn : Int32) (spm : Int32) (ich : Nat → Int32) (ifs : Nat → Int32) (isc : Nat → Int32) (isg : Nat → Int32) (iln : Int32) (ien : Int32) (iin : Bool) (idg : Int32) (iva : Int32) (hp : Nat → PlanS) (hnx : Int32) (hkp : Int32) (hsv : Bool) (a0 : Int32) (F : Nat) {o : String ⊕ UInt64} (h : s_Top_areaShare F pxs pys co nt a0 = some o) : Xm l K 7 1 yX6_areaShare cX6_areaShare 3 (some .double) [.ref (ad 0), .int a0] (wTop K ad pxs pys plo phi pn pm lf th ow lk el eh co hu ne nt nh tpxs tpys tplo tphi tpn tpm tlf tth tow tlk tel teh tco thu tne tnt tnh spxs spys splo sphi spn spm ich ifs isc isg iln ien iin idg iva hp hnx hkp hsv) (Sum.map id (fun q => (some (.double q), wTop K ad pxs pys plo phi pn pm lf th ow lk el eh co hu ne nt nh tpxs tpys tplo tphi tpn tpm tlf tth tow tlk tel teh tco thu tne tnt tnh spxs spys splo sphi spn spm ich ifs isc isg iln ien iin idg iva hp hnx hkp hsv)) o) := by
  refine Xm.of hl0 (by decide +kernel) (Nat.le_of_ble_eq_true rfl) ?_
  unfold s_Top_areaShare at h
  intro p e s m below meth c C0X H locs hP hD hS ls hl
  obtain ⟨⟨hx, hb, hml, hown, hts, hG, hr, hlk⟩, hl1, htb, hG1, hZ⟩ := id C0X
  have C0 := C0X.1
  have hl : lv_has ls 3 [(0, .ref (ad 0)), (1, .int a0)] := hl
  refine lv_aload_n (pc := 0) hx hb dX6_areaShare_0 rfl (lv_at hl 0 rfl) ?_
  refine lv_iload_n (pc := 1) hx hb dX6_areaShare_1 rfl (lv_at hl 1 rfl) ?_
  refine xVs (pc := 2) (mc := 1) (As := [.int a0]) (rest := []) (so := (s_Top_requireTriangle nt a0)) C0X hP hD hS (c_Top_requireTriangle l K hl0 ad pxs pys plo phi pn pm lf th ow lk el eh co hu ne nt nh tpxs tpys tplo tphi tpn tpm tlf tth tow tlk tel teh tco thu tne tnt tnh spxs spys splo sphi spn spm ich ifs isc isg iln ien iin idg iva hp hnx hkp hsv a0) (q0 := 0) rfl (ci := 6) rfl g_Top_167 hd_Top_requireTriangle rfl ⟨(Nat.le_of_ble_eq_true rfl), (Nat.le_of_ble_eq_true rfl)⟩ ⟨(Nat.le_of_ble_eq_true rfl), (Nat.le_of_ble_eq_true rfl)⟩ ⟨(Nat.le_of_ble_eq_true rfl), (Nat.le_of_ble_eq_true rfl)⟩ hl rfl (Nat.le_of_ble_eq_true rfl) dX6_areaShare_2 (fun E hE => ?_) (fun hE H locs hP hS => ?_)
  · rw [hE] at h
    have h := se_l h
    obtain rfl := Option.some.inj h
    rfl
  · rw [hE] at h
    have h := se_r h
    refine lv_aload_n (pc := 5) hx hb dX6_areaShare_5 rfl (lv_at hl 0 rfl) ?_
    refine va_get (D := K.1) (ci := 6) (v := .ref (ad 1)) (C := RX6) (T := TX6) (N := 8) (pc := 6) hx hb hts inT6 hown hG.1 hP 0 rfl rfl 1 (by decide) (hts _ qf_Top_21) (fun _ h9 => h9) rfl dX6_areaShare_6 ?_
    obtain ⟨v1, h_v1, h⟩ := ob h
    refine rdV (pc := 9) (As := []) (rest := []) hx hb hml hown hts hG hP (c_Mesh_hullArea l K (fun k => ad (k + 1)) pxs pys plo phi pn pm lf th ow lk el eh co hu ne nt nh F h_v1) [1, 2, 3, 4, 5, 6, 7, 8, 9, 10, 11, 12, 13, 14, 15, 16, 17, 18, 19, 20, 21, 22, 23, 24, 25, 26] rfl (q0 := 1) rfl (ci := 2) rfl g_Top_215 hd_Mesh_hullArea rfl ⟨Nat.le_of_ble_eq_true rfl, Nat.le_of_ble_eq_true rfl⟩ ⟨Nat.le_of_ble_eq_true rfl, Nat.le_of_ble_eq_true rfl⟩ hl rfl (Nat.le_of_ble_eq_true rfl) dX6_areaShare_9 ?_
    refine lv_istore_n (pc := 12) (lv' := [(2, .int v1), (0, .ref (ad 0)), (1, .int a0)]) hx hb dX6_areaShare_12 rfl hl (by decide) rfl (fun ls hl => ?_)
    refine lv_iload_n (pc := 13) hx hb dX6_areaShare_13 rfl (lv_at hl 0 rfl) ?_
    refine lv_if_ne (tgt := 21) (pc := 14) hx hb dX6_areaShare_14 (by decide) (fun c2 => ?_) (fun c2 => ?_)
    · have h := it_f c2 h
      refine lv_aload_n (pc := 21) hx hb dX6_areaShare_21 rfl (lv_at hl 1 rfl) ?_
      refine va_get (D := K.1) (ci := 6) (v := .ref (ad 1)) (C := RX6) (T := TX6) (N := 8) (pc := 22) hx hb hts inT6 hown hG.1 hP 0 rfl rfl 1 (by decide) (hts _ qf_Top_21) (fun _ h9 => h9) rfl dX6_areaShare_22 ?_
      refine lv_iload_n (pc := 25) hx hb dX6_areaShare_25 rfl (lv_at hl 2 rfl) ?_
      refine rdV (pc := 26) (As := [.int a0]) (rest := []) hx hb hml hown hts hG hP (c_Mesh_areaOf l K (fun k => ad (k + 1)) pxs pys plo phi pn pm lf th ow lk el eh co hu ne nt nh a0) [1, 2, 3, 4, 5, 6, 7, 8, 9, 10, 11, 12, 13, 14, 15, 16, 17, 18, 19, 20, 21, 22, 23, 24, 25, 26] rfl (q0 := 1) rfl (ci := 2) rfl g_Top_212 hd_Mesh_areaOf rfl ⟨Nat.le_of_ble_eq_true rfl, Nat.le_of_ble_eq_true rfl⟩ ⟨Nat.le_of_ble_eq_true rfl, Nat.le_of_ble_eq_true rfl⟩ hl rfl (Nat.le_of_ble_eq_true rfl) dX6_areaShare_26 ?_
      refine lv_i2d (pc := 29) hx hb dX6_areaShare_29 ?_
      refine lv_iload_n (pc := 30) hx hb dX6_areaShare_30 rfl (lv_at hl 0 rfl) ?_
      refine lv_i2d (pc := 31) hx hb dX6_areaShare_31 ?_
      obtain ⟨v3, h_v3, h⟩ := ob h
      obtain ⟨hi_v3, e_v3⟩ := ddivO_in h_v3
      refine lv_ddiv (pc := 32) hx hb dX6_areaShare_32 hi_v3 ?_
      rw [e_v3]
      obtain rfl := Option.some.inj h
      refine vx_ret ?_
      refine W.widen (k := 1) (n := 6) (Nat.le_of_ble_eq_true rfl) (Nat.le_of_ble_eq_true rfl) ?_
      exact W.dret hx hb hr (fun t ht hW => ⟨⟨_, _, rfl, rfl, by rw [ht]; exact hP⟩, hS.F ht⟩) hS.2.2 dX6_areaShare_33 hlk
    · have h := it_t c2 h
      refine lv_dconst0 (pc := 17) hx hb dX6_areaShare_17 ?_
      refine lv_goto (tgt := 33) (pc := 18) hx hb dX6_areaShare_18 (by decide) ?_
      obtain rfl := Option.some.inj h
      refine vx_ret ?_
      refine W.widen (k := 1) (n := 6) (Nat.le_of_ble_eq_true rfl) (Nat.le_of_ble_eq_true rfl) ?_
      exact W.dret hx hb hr (fun t ht hW => ⟨⟨_, _, rfl, rfl, by rw [ht]; exact hP⟩, hS.F ht⟩) hS.2.2 dX6_areaShare_33 hlk
set_option maxHeartbeats 4000000 in
set_option maxRecDepth 100000 in
theorem c_Top_meanDegree (l : Launch) (K : KT) (hl0 : l.stackTraces = false) (ad : Nat → Nat) (pxs : Nat → Int32) (pys : Nat → Int32) (plo : Nat → Int32) (phi : Nat → Int32) (pn : Int32) (pm : Int32) (lf : Nat → Int32) (th : Nat → Int32) (ow : Nat → Int32) (lk : Nat → Int32) (el : Nat → Int32) (eh : Nat → Int32) (co : Nat → Int32) (hu : Nat → Int32) (ne : Int32) (nt : Int32) (nh : Int32) (tpxs : Nat → Int32) (tpys : Nat → Int32) (tplo : Nat → Int32) (tphi : Nat → Int32) (tpn : Int32) (tpm : Int32) (tlf : Nat → Int32) (tth : Nat → Int32) (tow : Nat → Int32) (tlk : Nat → Int32) (tel : Nat → Int32) (teh : Nat → Int32) (tco : Nat → Int32) (thu : Nat → Int32) (tne : Int32) (tnt : Int32) (tnh : Int32) (spxs : Nat → Int32) (spys : Nat → Int32) (splo : Nat → Int32) (sphi : Nat → Int32) (spn : Int32) (spm : Int32) (ich : Nat → Int32) (ifs : Nat → Int32) (isc : Nat → Int32) (isg : Nat → Int32) (iln : Int32) (ien : Int32) (iin : Bool) (idg : Int32) (iva : Int32) (hp : Nat → PlanS) (hnx : Int32) (hkp : Int32) (hsv : Bool) {o : String ⊕ UInt64} (h : s_Top_meanDegree pn ne = some o) : Xm l K 6 1 yX6_meanDegree cX6_meanDegree 2 (some .double) [.ref (ad 0)] (wTop K ad pxs pys plo phi pn pm lf th ow lk el eh co hu ne nt nh tpxs tpys tplo tphi tpn tpm tlf tth tow tlk tel teh tco thu tne tnt tnh spxs spys splo sphi spn spm ich ifs isc isg iln ien iin idg iva hp hnx hkp hsv) (Sum.map id (fun q => (some (.double q), wTop K ad pxs pys plo phi pn pm lf th ow lk el eh co hu ne nt nh tpxs tpys tplo tphi tpn tpm tlf tth tow tlk tel teh tco thu tne tnt tnh spxs spys splo sphi spn spm ich ifs isc isg iln ien iin idg iva hp hnx hkp hsv)) o) := by
  refine Xm.of hl0 (by decide +kernel) (Nat.le_of_ble_eq_true rfl) ?_
  unfold s_Top_meanDegree at h
  intro p e s m below meth c C0X H locs hP hD hS ls hl
  obtain ⟨⟨hx, hb, hml, hown, hts, hG, hr, hlk⟩, hl1, htb, hG1, hZ⟩ := id C0X
  have C0 := C0X.1
  have hl : lv_has ls 2 [(0, .ref (ad 0))] := hl
  refine lv_aload_n (pc := 0) hx hb dX6_meanDegree_0 rfl (lv_at hl 0 rfl) ?_
  refine va_get (D := K.1) (ci := 6) (v := .ref (ad 2)) (C := RX6) (T := TX6) (N := 8) (pc := 1) hx hb hts inT6 hown hG.1 hP 0 rfl rfl 0 (by decide) (hts _ qf_Top_10) (fun _ h9 => h9) rfl dX6_meanDegree_1 ?_
  refine rdV (pc := 4) (As := []) (rest := []) hx hb hml hown hts hG hP (c_Plan_points l K (fun k => ad (k + 2)) pxs pys plo phi pn pm) [2, 3, 4, 5, 6, 7, 8, 9, 10] rfl (q0 := 2) rfl (ci := 3) rfl g_Top_68 hd_Plan_points rfl ⟨Nat.le_of_ble_eq_true rfl, Nat.le_of_ble_eq_true rfl⟩ ⟨Nat.le_of_ble_eq_true rfl, Nat.le_of_ble_eq_true rfl⟩ hl rfl (Nat.le_of_ble_eq_true rfl) dX6_meanDegree_4 ?_
  refine lv_istore_n (pc := 7) (lv' := [(1, .int (s_Plan_points pn)), (0, .ref (ad 0))]) hx hb dX6_meanDegree_7 rfl hl (by decide) rfl (fun ls hl => ?_)
  refine lv_iload_n (pc := 8) hx hb dX6_meanDegree_8 rfl (lv_at hl 0 rfl) ?_
  refine lv_if_ne (tgt := 22) (pc := 9) hx hb dX6_meanDegree_9 (by decide) (fun c1 => ?_) (fun c1 => ?_)
  · have h := it_f c1 h
    refine lv_iconst (v := (2 : Int32)) (pc := 22) hx hb dX6_meanDegree_22 (by decide) ?_
    refine lv_aload_n (pc := 23) hx hb dX6_meanDegree_23 rfl (lv_at hl 1 rfl) ?_
    refine va_get (D := K.1) (ci := 6) (v := .ref (ad 1)) (C := RX6) (T := TX6) (N := 8) (pc := 24) hx hb hts inT6 hown hG.1 hP 0 rfl rfl 1 (by decide) (hts _ qf_Top_21) (fun _ h9 => h9) rfl dX6_meanDegree_24 ?_
    refine rdV (pc := 27) (As := []) (rest := [.int (2 : Int32)]) hx hb hml hown hts hG hP (c_Mesh_edges l K (fun k => ad (k + 1)) pxs pys plo phi pn pm lf th ow lk el eh co hu ne nt nh) [1, 2, 3, 4, 5, 6, 7, 8, 9, 10, 11, 12, 13, 14, 15, 16, 17, 18, 19, 20, 21, 22, 23, 24, 25, 26] rfl (q0 := 1) rfl (ci := 2) rfl g_Top_179 hd_Mesh_edges rfl ⟨Nat.le_of_ble_eq_true rfl, Nat.le_of_ble_eq_true rfl⟩ ⟨Nat.le_of_ble_eq_true rfl, Nat.le_of_ble_eq_true rfl⟩ hl rfl (Nat.le_of_ble_eq_true rfl) dX6_meanDegree_27 ?_
    refine lv_imul (pc := 30) hx hb dX6_meanDegree_30 ?_
    refine lv_i2d (pc := 31) hx hb dX6_meanDegree_31 ?_
    refine lv_iload_n (pc := 32) hx hb dX6_meanDegree_32 rfl (lv_at hl 0 rfl) ?_
    refine lv_i2d (pc := 33) hx hb dX6_meanDegree_33 ?_
    obtain ⟨v2, h_v2, h⟩ := ob h
    obtain ⟨hi_v2, e_v2⟩ := ddivO_in h_v2
    refine lv_ddiv (pc := 34) hx hb dX6_meanDegree_34 hi_v2 ?_
    rw [e_v2]
    obtain rfl := Option.some.inj h
    refine vx_ret ?_
    refine W.widen (k := 1) (n := 6) (Nat.le_of_ble_eq_true rfl) (Nat.le_of_ble_eq_true rfl) ?_
    exact W.dret hx hb hr (fun t ht hW => ⟨⟨_, _, rfl, rfl, by rw [ht]; exact hP⟩, hS.F ht⟩) hS.2.2 dX6_meanDegree_35 hlk
  · have h := it_t c1 h
    obtain rfl := Option.some.inj h
    exact xThrowN (pc := 12) (mc := 1) C0X ef_NSE ql_Top_190 qn_NSE (by decide +kernel : (218, "there are no points") ∈ strs) hP hS hl dX6_meanDegree_12 dX6_meanDegree_15 dX6_meanDegree_16 dX6_meanDegree_18 dX6_meanDegree_21 (Nat.le_of_ble_eq_true rfl) (Nat.le_of_ble_eq_true rfl) (Nat.le_of_ble_eq_true rfl) (Nat.le_of_ble_eq_true rfl) (Nat.le_of_ble_eq_true rfl) (Nat.le_of_ble_eq_true rfl) rfl
set_option maxHeartbeats 4000000 in
set_option maxRecDepth 100000 in
theorem c_Top_squaredLength (l : Launch) (K : KT) (hl0 : l.stackTraces = false) (ad : Nat → Nat) (pxs : Nat → Int32) (pys : Nat → Int32) (plo : Nat → Int32) (phi : Nat → Int32) (pn : Int32) (pm : Int32) (lf : Nat → Int32) (th : Nat → Int32) (ow : Nat → Int32) (lk : Nat → Int32) (el : Nat → Int32) (eh : Nat → Int32) (co : Nat → Int32) (hu : Nat → Int32) (ne : Int32) (nt : Int32) (nh : Int32) (tpxs : Nat → Int32) (tpys : Nat → Int32) (tplo : Nat → Int32) (tphi : Nat → Int32) (tpn : Int32) (tpm : Int32) (tlf : Nat → Int32) (tth : Nat → Int32) (tow : Nat → Int32) (tlk : Nat → Int32) (tel : Nat → Int32) (teh : Nat → Int32) (tco : Nat → Int32) (thu : Nat → Int32) (tne : Int32) (tnt : Int32) (tnh : Int32) (spxs : Nat → Int32) (spys : Nat → Int32) (splo : Nat → Int32) (sphi : Nat → Int32) (spn : Int32) (spm : Int32) (ich : Nat → Int32) (ifs : Nat → Int32) (isc : Nat → Int32) (isg : Nat → Int32) (iln : Int32) (ien : Int32) (iin : Bool) (idg : Int32) (iva : Int32) (hp : Nat → PlanS) (hnx : Int32) (hkp : Int32) (hsv : Bool) (a0 : Int32) (F : Nat) {o : String ⊕ Int32} (h : s_Top_squaredLength F pxs pys pn el eh ne a0 = some o) : Xm l K 6 1 yX6_squaredLength cX6_squaredLength 2 (some .int) [.ref (ad 0), .int a0] (wTop K ad pxs pys plo phi pn pm lf th ow lk el eh co hu ne nt nh tpxs tpys tplo tphi tpn tpm tlf tth tow tlk tel teh tco thu tne tnt tnh spxs spys splo sphi spn spm ich ifs isc isg iln ien iin idg iva hp hnx hkp hsv) (Sum.map id (fun q => (some (.int q), wTop K ad pxs pys plo phi pn pm lf th ow lk el eh co hu ne nt nh tpxs tpys tplo tphi tpn tpm tlf tth tow tlk tel teh tco thu tne tnt tnh spxs spys splo sphi spn spm ich ifs isc isg iln ien iin idg iva hp hnx hkp hsv)) o) := by
  refine Xm.of hl0 (by decide +kernel) (Nat.le_of_ble_eq_true rfl) ?_
  unfold s_Top_squaredLength at h
  intro p e s m below meth c C0X H locs hP hD hS ls hl
  obtain ⟨⟨hx, hb, hml, hown, hts, hG, hr, hlk⟩, hl1, htb, hG1, hZ⟩ := id C0X
  have C0 := C0X.1
  have hl : lv_has ls 2 [(0, .ref (ad 0)), (1, .int a0)] := hl
  refine lv_iload_n (pc := 0) hx hb dX6_squaredLength_0 rfl (lv_at hl 1 rfl) ?_
  refine lv_if_lt (tgt := 9) (pc := 1) hx hb dX6_squaredLength_1 (by decide) (fun c1 => ?_) (fun c1 => ?_)
  · have h := it_t c1 h
    obtain rfl := Option.some.inj h
    exact xThrow (pc := 9) (mc := 1) C0X ef_IAE ql_Top_220 qn_IAE (by decide +kernel : (222, "there is no such length") ∈ strs) hP hS hl dX6_squaredLength_9 dX6_squaredLength_12 dX6_squaredLength_13 dX6_squaredLength_15 dX6_squaredLength_18 (Nat.le_of_ble_eq_true rfl) (Nat.le_of_ble_eq_true rfl) (Nat.le_of_ble_eq_true rfl) (Nat.le_of_ble_eq_true rfl) (Nat.le_of_ble_eq_true rfl) (Nat.le_of_ble_eq_true rfl) rfl
  · have h := it_f c1 h
    refine lv_iload_n (pc := 4) hx hb dX6_squaredLength_4 rfl (lv_at hl 1 rfl) ?_
    refine lv_iconst (v := (2 : Int32)) (pc := 5) hx hb dX6_squaredLength_5 (by decide) ?_
    refine lv_icmp_le (tgt := 19) (pc := 6) hx hb dX6_squaredLength_6 (by decide) (fun c2 => ?_) (fun c2 => ?_)
    · have h := it_t c2 h
      refine lv_aload_n (pc := 19) hx hb dX6_squaredLength_19 rfl (lv_at hl 0 rfl) ?_
      refine va_get (D := K.1) (ci := 6) (v := .ref (ad 1)) (C := RX6) (T := TX6) (N := 8) (pc := 20) hx hb hts inT6 hown hG.1 hP 0 rfl rfl 1 (by decide) (hts _ qf_Top_21) (fun _ h9 => h9) rfl dX6_squaredLength_20 ?_
      refine rdV (pc := 23) (As := []) (rest := []) hx hb hml hown hts hG hP (c_Mesh_edges l K (fun k => ad (k + 1)) pxs pys plo phi pn pm lf th ow lk el eh co hu ne nt nh) [1, 2, 3, 4, 5, 6, 7, 8, 9, 10, 11, 12, 13, 14, 15, 16, 17, 18, 19, 20, 21, 22, 23, 24, 25, 26] rfl (q0 := 1) rfl (ci := 2) rfl g_Top_179 hd_Mesh_edges rfl ⟨Nat.le_of_ble_eq_true rfl, Nat.le_of_ble_eq_true rfl⟩ ⟨Nat.le_of_ble_eq_true rfl, Nat.le_of_ble_eq_true rfl⟩ hl rfl (Nat.le_of_ble_eq_true rfl) dX6_squaredLength_23 ?_
      refine lv_if_ne (tgt := 39) (pc := 26) hx hb dX6_squaredLength_26 (by decide) (fun c3 => ?_) (fun c3 => ?_)
      · have h := it_f c3 h
        refine lv_iload_n (pc := 39) hx hb dX6_squaredLength_39 rfl (lv_at hl 1 rfl) ?_
        refine lv_if_ne (tgt := 51) (pc := 40) hx hb dX6_squaredLength_40 (by decide) (fun c4 => ?_) (fun c4 => ?_)
        · have h := it_f c4 h
          refine lv_iload_n (pc := 51) hx hb dX6_squaredLength_51 rfl (lv_at hl 1 rfl) ?_
          refine lv_iconst (v := (1 : Int32)) (pc := 52) hx hb dX6_squaredLength_52 (by decide) ?_
          refine lv_icmp_ne (tgt := 66) (pc := 53) hx hb dX6_squaredLength_53 (by decide) (fun c5 => ?_) (fun c5 => ?_)
          · have h := it_f c5 h
            refine lv_aload_n (pc := 66) hx hb dX6_squaredLength_66 rfl (lv_at hl 0 rfl) ?_
            refine va_get (D := K.1) (ci := 6) (v := .ref (ad 1)) (C := RX6) (T := TX6) (N := 8) (pc := 67) hx hb hts inT6 hown hG.1 hP 0 rfl rfl 1 (by decide) (hts _ qf_Top_21) (fun _ h9 => h9) rfl dX6_squaredLength_67 ?_
            obtain ⟨v6, h_v6, h⟩ := ob h
            refine rdV (pc := 70) (As := []) (rest := []) hx hb hml hown hts hG hP (c_Mesh_leastTree l K (fun k => ad (k + 1)) pxs pys plo phi pn pm lf th ow lk el eh co hu ne nt nh F h_v6) [1, 2, 3, 4, 5, 6, 7, 8, 9, 10, 11, 12, 13, 14, 15, 16, 17, 18, 19, 20, 21, 22, 23, 24, 25, 26] rfl (q0 := 1) rfl (ci := 2) rfl g_Top_233 hd_Mesh_leastTree rfl ⟨Nat.le_of_ble_eq_true rfl, Nat.le_of_ble_eq_true rfl⟩ ⟨Nat.le_of_ble_eq_true rfl, Nat.le_of_ble_eq_true rfl⟩ hl rfl (Nat.le_of_ble_eq_true rfl) dX6_squaredLength_70 ?_
            obtain rfl := Option.some.inj h
            refine vx_ret ?_
            refine W.widen (k := 1) (n := 6) (Nat.le_of_ble_eq_true rfl) (Nat.le_of_ble_eq_true rfl) ?_
            exact W.iret hx hb hr (fun t ht hW => ⟨⟨_, _, rfl, rfl, by rw [ht]; exact hP⟩, hS.F ht⟩) hS.2.2 dX6_squaredLength_73 hlk
          · have h := it_t c5 h
            refine lv_aload_n (pc := 56) hx hb dX6_squaredLength_56 rfl (lv_at hl 0 rfl) ?_
            refine va_get (D := K.1) (ci := 6) (v := .ref (ad 1)) (C := RX6) (T := TX6) (N := 8) (pc := 57) hx hb hts inT6 hown hG.1 hP 0 rfl rfl 1 (by decide) (hts _ qf_Top_21) (fun _ h9 => h9) rfl dX6_squaredLength_57 ?_
            obtain ⟨v7, h_v7, h⟩ := ob h
            refine rdV (pc := 60) (As := []) (rest := []) hx hb hml hown hts hG hP (c_Mesh_greatestLength l K (fun k => ad (k + 1)) pxs pys plo phi pn pm lf th ow lk el eh co hu ne nt nh F h_v7) [1, 2, 3, 4, 5, 6, 7, 8, 9, 10, 11, 12, 13, 14, 15, 16, 17, 18, 19, 20, 21, 22, 23, 24, 25, 26] rfl (q0 := 1) rfl (ci := 2) rfl g_Top_230 hd_Mesh_greatestLength rfl ⟨Nat.le_of_ble_eq_true rfl, Nat.le_of_ble_eq_true rfl⟩ ⟨Nat.le_of_ble_eq_true rfl, Nat.le_of_ble_eq_true rfl⟩ hl rfl (Nat.le_of_ble_eq_true rfl) dX6_squaredLength_60 ?_
            refine lv_goto (tgt := 73) (pc := 63) hx hb dX6_squaredLength_63 (by decide) ?_
            obtain rfl := Option.some.inj h
            refine vx_ret ?_
            refine W.widen (k := 1) (n := 6) (Nat.le_of_ble_eq_true rfl) (Nat.le_of_ble_eq_true rfl) ?_
            exact W.iret hx hb hr (fun t ht hW => ⟨⟨_, _, rfl, rfl, by rw [ht]; exact hP⟩, hS.F ht⟩) hS.2.2 dX6_squaredLength_73 hlk
        · have h := it_t c4 h
          refine lv_aload_n (pc := 43) hx hb dX6_squaredLength_43 rfl (lv_at hl 0 rfl) ?_
          refine va_get (D := K.1) (ci := 6) (v := .ref (ad 1)) (C := RX6) (T := TX6) (N := 8) (pc := 44) hx hb hts inT6 hown hG.1 hP 0 rfl rfl 1 (by decide) (hts _ qf_Top_21) (fun _ h9 => h9) rfl dX6_squaredLength_44 ?_
          obtain ⟨v8, h_v8, h⟩ := ob h
          refine rdV (pc := 47) (As := []) (rest := []) hx hb hml hown hts hG hP (c_Mesh_leastLength l K (fun k => ad (k + 1)) pxs pys plo phi pn pm lf th ow lk el eh co hu ne nt nh F h_v8) [1, 2, 3, 4, 5, 6, 7, 8, 9, 10, 11, 12, 13, 14, 15, 16, 17, 18, 19, 20, 21, 22, 23, 24, 25, 26] rfl (q0 := 1) rfl (ci := 2) rfl g_Top_227 hd_Mesh_leastLength rfl ⟨Nat.le_of_ble_eq_true rfl, Nat.le_of_ble_eq_true rfl⟩ ⟨Nat.le_of_ble_eq_true rfl, Nat.le_of_ble_eq_true rfl⟩ hl rfl (Nat.le_of_ble_eq_true rfl) dX6_squaredLength_47 ?_
          obtain rfl := Option.some.inj h
          refine vx_ret ?_
          refine W.widen (k := 1) (n := 6) (Nat.le_of_ble_eq_true rfl) (Nat.le_of_ble_eq_true rfl) ?_
          exact W.iret hx hb hr (fun t ht hW => ⟨⟨_, _, rfl, rfl, by rw [ht]; exact hP⟩, hS.F ht⟩) hS.2.2 dX6_squaredLength_50 hlk
      · have h := it_t c3 h
        obtain rfl := Option.some.inj h
        exact xThrowN (pc := 29) (mc := 1) C0X ef_NSE ql_Top_190 qn_NSE (by decide +kernel : (225, "there are no edges") ∈ strs) hP hS hl dX6_squaredLength_29 dX6_squaredLength_32 dX6_squaredLength_33 dX6_squaredLength_35 dX6_squaredLength_38 (Nat.le_of_ble_eq_true rfl) (Nat.le_of_ble_eq_true rfl) (Nat.le_of_ble_eq_true rfl) (Nat.le_of_ble_eq_true rfl) (Nat.le_of_ble_eq_true rfl) (Nat.le_of_ble_eq_true rfl) rfl
    · have h := it_f c2 h
      obtain rfl := Option.some.inj h
      exact xThrow (pc := 9) (mc := 1) C0X ef_IAE ql_Top_220 qn_IAE (by decide +kernel : (222, "there is no such length") ∈ strs) hP hS hl dX6_squaredLength_9 dX6_squaredLength_12 dX6_squaredLength_13 dX6_squaredLength_15 dX6_squaredLength_18 (Nat.le_of_ble_eq_true rfl) (Nat.le_of_ble_eq_true rfl) (Nat.le_of_ble_eq_true rfl) (Nat.le_of_ble_eq_true rfl) (Nat.le_of_ble_eq_true rfl) (Nat.le_of_ble_eq_true rfl) rfl
set_option maxHeartbeats 4000000 in
set_option maxRecDepth 100000 in
theorem c_Top_turn (l : Launch) (K : KT) (hl0 : l.stackTraces = false) (ad : Nat → Nat) (pxs : Nat → Int32) (pys : Nat → Int32) (plo : Nat → Int32) (phi : Nat → Int32) (pn : Int32) (pm : Int32) (lf : Nat → Int32) (th : Nat → Int32) (ow : Nat → Int32) (lk : Nat → Int32) (el : Nat → Int32) (eh : Nat → Int32) (co : Nat → Int32) (hu : Nat → Int32) (ne : Int32) (nt : Int32) (nh : Int32) (tpxs : Nat → Int32) (tpys : Nat → Int32) (tplo : Nat → Int32) (tphi : Nat → Int32) (tpn : Int32) (tpm : Int32) (tlf : Nat → Int32) (tth : Nat → Int32) (tow : Nat → Int32) (tlk : Nat → Int32) (tel : Nat → Int32) (teh : Nat → Int32) (tco : Nat → Int32) (thu : Nat → Int32) (tne : Int32) (tnt : Int32) (tnh : Int32) (spxs : Nat → Int32) (spys : Nat → Int32) (splo : Nat → Int32) (sphi : Nat → Int32) (spn : Int32) (spm : Int32) (ich : Nat → Int32) (ifs : Nat → Int32) (isc : Nat → Int32) (isg : Nat → Int32) (iln : Int32) (ien : Int32) (iin : Bool) (idg : Int32) (iva : Int32) (hp : Nat → PlanS) (hnx : Int32) (hkp : Int32) (hsv : Bool) (a0 : Int32) (a1 : Int32) (a2 : Int32) : Xm l K 7 3 yX6_turn cX6_turn 4 (some .int) [.ref (ad 0), .int a0, .int a1, .int a2] (wTop K ad pxs pys plo phi pn pm lf th ow lk el eh co hu ne nt nh tpxs tpys tplo tphi tpn tpm tlf tth tow tlk tel teh tco thu tne tnt tnh spxs spys splo sphi spn spm ich ifs isc isg iln ien iin idg iva hp hnx hkp hsv) (Sum.map id (fun q => (some (.int q), wTop K ad pxs pys plo phi pn pm lf th ow lk el eh co hu ne nt nh tpxs tpys tplo tphi tpn tpm tlf tth tow tlk tel teh tco thu tne tnt tnh spxs spys splo sphi spn spm ich ifs isc isg iln ien iin idg iva hp hnx hkp hsv)) (s_Top_turn pxs pys pn a0 a1 a2)) := by
  generalize h : s_Top_turn pxs pys pn a0 a1 a2 = o
  refine Xm.of hl0 (by decide +kernel) (Nat.le_of_ble_eq_true rfl) ?_
  unfold s_Top_turn at h
  intro p e s m below meth c C0X H locs hP hD hS ls hl
  obtain ⟨⟨hx, hb, hml, hown, hts, hG, hr, hlk⟩, hl1, htb, hG1, hZ⟩ := id C0X
  have C0 := C0X.1
  have hl : lv_has ls 4 [(0, .ref (ad 0)), (1, .int a0), (2, .int a1), (3, .int a2)] := hl
  refine lv_aload_n (pc := 0) hx hb dX6_turn_0 rfl (lv_at hl 0 rfl) ?_
  refine lv_iload_n (pc := 1) hx hb dX6_turn_1 rfl (lv_at hl 1 rfl) ?_
  refine xVs (pc := 2) (mc := 3) (As := [.int a0]) (rest := []) (so := (s_Top_requirePoint pn a0)) C0X hP hD hS (c_Top_requirePoint l K hl0 ad pxs pys plo phi pn pm lf th ow lk el eh co hu ne nt nh tpxs tpys tplo tphi tpn tpm tlf tth tow tlk tel teh tco thu tne tnt tnh spxs spys splo sphi spn spm ich ifs isc isg iln ien iin idg iva hp hnx hkp hsv a0) (q0 := 0) rfl (ci := 6) rfl g_Top_72 hd_Top_requirePoint rfl ⟨(Nat.le_of_ble_eq_true rfl), (Nat.le_of_ble_eq_true rfl)⟩ ⟨(Nat.le_of_ble_eq_true rfl), (Nat.le_of_ble_eq_true rfl)⟩ ⟨(Nat.le_of_ble_eq_true rfl), (Nat.le_of_ble_eq_true rfl)⟩ hl rfl (Nat.le_of_ble_eq_true rfl) dX6_turn_2 (fun E hE => ?_) (fun hE H locs hP hS => ?_)
  · rw [hE] at h
    have h := se_l h
    subst h
    rfl
  · rw [hE] at h
    have h := se_r h
    refine lv_aload_n (pc := 5) hx hb dX6_turn_5 rfl (lv_at hl 0 rfl) ?_
    refine lv_iload_n (pc := 6) hx hb dX6_turn_6 rfl (lv_at hl 2 rfl) ?_
    refine xVs (pc := 7) (mc := 3) (As := [.int a1]) (rest := []) (so := (s_Top_requirePoint pn a1)) C0X hP hD hS (c_Top_requirePoint l K hl0 ad pxs pys plo phi pn pm lf th ow lk el eh co hu ne nt nh tpxs tpys tplo tphi tpn tpm tlf tth tow tlk tel teh tco thu tne tnt tnh spxs spys splo sphi spn spm ich ifs isc isg iln ien iin idg iva hp hnx hkp hsv a1) (q0 := 0) rfl (ci := 6) rfl g_Top_72 hd_Top_requirePoint rfl ⟨(Nat.le_of_ble_eq_true rfl), (Nat.le_of_ble_eq_true rfl)⟩ ⟨(Nat.le_of_ble_eq_true rfl), (Nat.le_of_ble_eq_true rfl)⟩ ⟨(Nat.le_of_ble_eq_true rfl), (Nat.le_of_ble_eq_true rfl)⟩ hl rfl (Nat.le_of_ble_eq_true rfl) dX6_turn_7 (fun E hE => ?_) (fun hE H locs hP hS => ?_)
    · rw [hE] at h
      have h := se_l h
      subst h
      rfl
    · rw [hE] at h
      have h := se_r h
      refine lv_aload_n (pc := 10) hx hb dX6_turn_10 rfl (lv_at hl 0 rfl) ?_
      refine lv_iload_n (pc := 11) hx hb dX6_turn_11 rfl (lv_at hl 3 rfl) ?_
      refine xVs (pc := 12) (mc := 3) (As := [.int a2]) (rest := []) (so := (s_Top_requirePoint pn a2)) C0X hP hD hS (c_Top_requirePoint l K hl0 ad pxs pys plo phi pn pm lf th ow lk el eh co hu ne nt nh tpxs tpys tplo tphi tpn tpm tlf tth tow tlk tel teh tco thu tne tnt tnh spxs spys splo sphi spn spm ich ifs isc isg iln ien iin idg iva hp hnx hkp hsv a2) (q0 := 0) rfl (ci := 6) rfl g_Top_72 hd_Top_requirePoint rfl ⟨(Nat.le_of_ble_eq_true rfl), (Nat.le_of_ble_eq_true rfl)⟩ ⟨(Nat.le_of_ble_eq_true rfl), (Nat.le_of_ble_eq_true rfl)⟩ ⟨(Nat.le_of_ble_eq_true rfl), (Nat.le_of_ble_eq_true rfl)⟩ hl rfl (Nat.le_of_ble_eq_true rfl) dX6_turn_12 (fun E hE => ?_) (fun hE H locs hP hS => ?_)
      · rw [hE] at h
        have h := se_l h
        subst h
        rfl
      · rw [hE] at h
        have h := se_r h
        refine lv_aload_n (pc := 15) hx hb dX6_turn_15 rfl (lv_at hl 0 rfl) ?_
        refine va_get (D := K.1) (ci := 6) (v := .ref (ad 2)) (C := RX6) (T := TX6) (N := 8) (pc := 16) hx hb hts inT6 hown hG.1 hP 0 rfl rfl 0 (by decide) (hts _ qf_Top_10) (fun _ h9 => h9) rfl dX6_turn_16 ?_
        refine lv_iload_n (pc := 19) hx hb dX6_turn_19 rfl (lv_at hl 1 rfl) ?_
        refine lv_iload_n (pc := 20) hx hb dX6_turn_20 rfl (lv_at hl 2 rfl) ?_
        refine lv_iload_n (pc := 21) hx hb dX6_turn_21 rfl (lv_at hl 3 rfl) ?_
        refine rdV (pc := 22) (As := [.int a0, .int a1, .int a2]) (rest := []) hx hb hml hown hts hG hP (c_Plan_side l K (fun k => ad (k + 2)) pxs pys plo phi pn pm a0 a1 a2) [2, 3, 4, 5, 6, 7, 8, 9, 10] rfl (q0 := 2) rfl (ci := 3) rfl g_Top_236 hd_Plan_side rfl ⟨Nat.le_of_ble_eq_true rfl, Nat.le_of_ble_eq_true rfl⟩ ⟨Nat.le_of_ble_eq_true rfl, Nat.le_of_ble_eq_true rfl⟩ hl rfl (Nat.le_of_ble_eq_true rfl) dX6_turn_22 ?_
        subst h
        refine vx_ret ?_
        refine W.widen (k := 3) (n := 18) (Nat.le_of_ble_eq_true rfl) (Nat.le_of_ble_eq_true rfl) ?_
        exact W.iret hx hb hr (fun t ht hW => ⟨⟨_, _, rfl, rfl, by rw [ht]; exact hP⟩, hS.F ht⟩) hS.2.2 dX6_turn_25 hlk
set_option maxHeartbeats 4000000 in
set_option maxRecDepth 100000 in
theorem c_Top_inCircle (l : Launch) (K : KT) (hl0 : l.stackTraces = false) (ad : Nat → Nat) (pxs : Nat → Int32) (pys : Nat → Int32) (plo : Nat → Int32) (phi : Nat → Int32) (pn : Int32) (pm : Int32) (lf : Nat → Int32) (th : Nat → Int32) (ow : Nat → Int32) (lk : Nat → Int32) (el : Nat → Int32) (eh : Nat → Int32) (co : Nat → Int32) (hu : Nat → Int32) (ne : Int32) (nt : Int32) (nh : Int32) (tpxs : Nat → Int32) (tpys : Nat → Int32) (tplo : Nat → Int32) (tphi : Nat → Int32) (tpn : Int32) (tpm : Int32) (tlf : Nat → Int32) (tth : Nat → Int32) (tow : Nat → Int32) (tlk : Nat → Int32) (tel : Nat → Int32) (teh : Nat → Int32) (tco : Nat → Int32) (thu : Nat → Int32) (tne : Int32) (tnt : Int32) (tnh : Int32) (spxs : Nat → Int32) (spys : Nat → Int32) (splo : Nat → Int32) (sphi : Nat → Int32) (spn : Int32) (spm : Int32) (ich : Nat → Int32) (ifs : Nat → Int32) (isc : Nat → Int32) (isg : Nat → Int32) (iln : Int32) (ien : Int32) (iin : Bool) (idg : Int32) (iva : Int32) (hp : Nat → PlanS) (hnx : Int32) (hkp : Int32) (hsv : Bool) (a0 : Int32) (a1 : Int32) (a2 : Int32) (a3 : Int32) : Xm l K 7 5 yX6_inCircle cX6_inCircle 5 (some .int) [.ref (ad 0), .int a0, .int a1, .int a2, .int a3] (wTop K ad pxs pys plo phi pn pm lf th ow lk el eh co hu ne nt nh tpxs tpys tplo tphi tpn tpm tlf tth tow tlk tel teh tco thu tne tnt tnh spxs spys splo sphi spn spm ich ifs isc isg iln ien iin idg iva hp hnx hkp hsv) (Sum.map id (fun q => (some (.int q), wTop K ad pxs pys plo phi pn pm lf th ow lk el eh co hu ne nt nh tpxs tpys tplo tphi tpn tpm tlf tth tow tlk tel teh tco thu tne tnt tnh spxs spys splo sphi spn spm ich ifs isc isg iln ien iin idg iva hp hnx hkp hsv)) (s_Top_inCircle pxs pys pn a0 a1 a2 a3)) := by
  generalize h : s_Top_inCircle pxs pys pn a0 a1 a2 a3 = o
  refine Xm.of hl0 (by decide +kernel) (Nat.le_of_ble_eq_true rfl) ?_
  unfold s_Top_inCircle at h
  intro p e s m below meth c C0X H locs hP hD hS ls hl
  obtain ⟨⟨hx, hb, hml, hown, hts, hG, hr, hlk⟩, hl1, htb, hG1, hZ⟩ := id C0X
  have C0 := C0X.1
  have hl : lv_has ls 5 [(0, .ref (ad 0)), (1, .int a0), (2, .int a1), (3, .int a2), (4, .int a3)] := hl
  refine lv_aload_n (pc := 0) hx hb dX6_inCircle_0 rfl (lv_at hl 0 rfl) ?_
  refine lv_iload_n (pc := 1) hx hb dX6_inCircle_1 rfl (lv_at hl 1 rfl) ?_
  refine xVs (pc := 2) (mc := 5) (As := [.int a0]) (rest := []) (so := (s_Top_requirePoint pn a0)) C0X hP hD hS (c_Top_requirePoint l K hl0 ad pxs pys plo phi pn pm lf th ow lk el eh co hu ne nt nh tpxs tpys tplo tphi tpn tpm tlf tth tow tlk tel teh tco thu tne tnt tnh spxs spys splo sphi spn spm ich ifs isc isg iln ien iin idg iva hp hnx hkp hsv a0) (q0 := 0) rfl (ci := 6) rfl g_Top_72 hd_Top_requirePoint rfl ⟨(Nat.le_of_ble_eq_true rfl), (Nat.le_of_ble_eq_true rfl)⟩ ⟨(Nat.le_of_ble_eq_true rfl), (Nat.le_of_ble_eq_true rfl)⟩ ⟨(Nat.le_of_ble_eq_true rfl), (Nat.le_of_ble_eq_true rfl)⟩ hl rfl (Nat.le_of_ble_eq_true rfl) dX6_inCircle_2 (fun E hE => ?_) (fun hE H locs hP hS => ?_)
  · rw [hE] at h
    have h := se_l h
    subst h
    rfl
  · rw [hE] at h
    have h := se_r h
    refine lv_aload_n (pc := 5) hx hb dX6_inCircle_5 rfl (lv_at hl 0 rfl) ?_
    refine lv_iload_n (pc := 6) hx hb dX6_inCircle_6 rfl (lv_at hl 2 rfl) ?_
    refine xVs (pc := 7) (mc := 5) (As := [.int a1]) (rest := []) (so := (s_Top_requirePoint pn a1)) C0X hP hD hS (c_Top_requirePoint l K hl0 ad pxs pys plo phi pn pm lf th ow lk el eh co hu ne nt nh tpxs tpys tplo tphi tpn tpm tlf tth tow tlk tel teh tco thu tne tnt tnh spxs spys splo sphi spn spm ich ifs isc isg iln ien iin idg iva hp hnx hkp hsv a1) (q0 := 0) rfl (ci := 6) rfl g_Top_72 hd_Top_requirePoint rfl ⟨(Nat.le_of_ble_eq_true rfl), (Nat.le_of_ble_eq_true rfl)⟩ ⟨(Nat.le_of_ble_eq_true rfl), (Nat.le_of_ble_eq_true rfl)⟩ ⟨(Nat.le_of_ble_eq_true rfl), (Nat.le_of_ble_eq_true rfl)⟩ hl rfl (Nat.le_of_ble_eq_true rfl) dX6_inCircle_7 (fun E hE => ?_) (fun hE H locs hP hS => ?_)
    · rw [hE] at h
      have h := se_l h
      subst h
      rfl
    · rw [hE] at h
      have h := se_r h
      refine lv_aload_n (pc := 10) hx hb dX6_inCircle_10 rfl (lv_at hl 0 rfl) ?_
      refine lv_iload_n (pc := 11) hx hb dX6_inCircle_11 rfl (lv_at hl 3 rfl) ?_
      refine xVs (pc := 12) (mc := 5) (As := [.int a2]) (rest := []) (so := (s_Top_requirePoint pn a2)) C0X hP hD hS (c_Top_requirePoint l K hl0 ad pxs pys plo phi pn pm lf th ow lk el eh co hu ne nt nh tpxs tpys tplo tphi tpn tpm tlf tth tow tlk tel teh tco thu tne tnt tnh spxs spys splo sphi spn spm ich ifs isc isg iln ien iin idg iva hp hnx hkp hsv a2) (q0 := 0) rfl (ci := 6) rfl g_Top_72 hd_Top_requirePoint rfl ⟨(Nat.le_of_ble_eq_true rfl), (Nat.le_of_ble_eq_true rfl)⟩ ⟨(Nat.le_of_ble_eq_true rfl), (Nat.le_of_ble_eq_true rfl)⟩ ⟨(Nat.le_of_ble_eq_true rfl), (Nat.le_of_ble_eq_true rfl)⟩ hl rfl (Nat.le_of_ble_eq_true rfl) dX6_inCircle_12 (fun E hE => ?_) (fun hE H locs hP hS => ?_)
      · rw [hE] at h
        have h := se_l h
        subst h
        rfl
      · rw [hE] at h
        have h := se_r h
        refine lv_aload_n (pc := 15) hx hb dX6_inCircle_15 rfl (lv_at hl 0 rfl) ?_
        refine lv_iload (pc := 16) hx hb dX6_inCircle_16 (lv_at hl 4 rfl) ?_
        refine xVs (pc := 18) (mc := 5) (As := [.int a3]) (rest := []) (so := (s_Top_requirePoint pn a3)) C0X hP hD hS (c_Top_requirePoint l K hl0 ad pxs pys plo phi pn pm lf th ow lk el eh co hu ne nt nh tpxs tpys tplo tphi tpn tpm tlf tth tow tlk tel teh tco thu tne tnt tnh spxs spys splo sphi spn spm ich ifs isc isg iln ien iin idg iva hp hnx hkp hsv a3) (q0 := 0) rfl (ci := 6) rfl g_Top_72 hd_Top_requirePoint rfl ⟨(Nat.le_of_ble_eq_true rfl), (Nat.le_of_ble_eq_true rfl)⟩ ⟨(Nat.le_of_ble_eq_true rfl), (Nat.le_of_ble_eq_true rfl)⟩ ⟨(Nat.le_of_ble_eq_true rfl), (Nat.le_of_ble_eq_true rfl)⟩ hl rfl (Nat.le_of_ble_eq_true rfl) dX6_inCircle_18 (fun E hE => ?_) (fun hE H locs hP hS => ?_)
        · rw [hE] at h
          have h := se_l h
          subst h
          rfl
        · rw [hE] at h
          have h := se_r h
          refine lv_aload_n (pc := 21) hx hb dX6_inCircle_21 rfl (lv_at hl 0 rfl) ?_
          refine va_get (D := K.1) (ci := 6) (v := .ref (ad 2)) (C := RX6) (T := TX6) (N := 8) (pc := 22) hx hb hts inT6 hown hG.1 hP 0 rfl rfl 0 (by decide) (hts _ qf_Top_10) (fun _ h9 => h9) rfl dX6_inCircle_22 ?_
          refine lv_iload_n (pc := 25) hx hb dX6_inCircle_25 rfl (lv_at hl 1 rfl) ?_
          refine lv_iload_n (pc := 26) hx hb dX6_inCircle_26 rfl (lv_at hl 2 rfl) ?_
          refine lv_iload_n (pc := 27) hx hb dX6_inCircle_27 rfl (lv_at hl 3 rfl) ?_
          refine rdV (pc := 28) (As := [.int a0, .int a1, .int a2]) (rest := []) hx hb hml hown hts hG hP (c_Plan_side l K (fun k => ad (k + 2)) pxs pys plo phi pn pm a0 a1 a2) [2, 3, 4, 5, 6, 7, 8, 9, 10] rfl (q0 := 2) rfl (ci := 3) rfl g_Top_236 hd_Plan_side rfl ⟨Nat.le_of_ble_eq_true rfl, Nat.le_of_ble_eq_true rfl⟩ ⟨Nat.le_of_ble_eq_true rfl, Nat.le_of_ble_eq_true rfl⟩ hl rfl (Nat.le_of_ble_eq_true rfl) dX6_inCircle_28 ?_
          refine lv_if_ne (tgt := 44) (pc := 31) hx hb dX6_inCircle_31 (by decide) (fun c1 => ?_) (fun c1 => ?_)
          · have h := it_f c1 h
            refine lv_aload_n (pc := 44) hx hb dX6_inCircle_44 rfl (lv_at hl 0 rfl) ?_
            refine va_get (D := K.1) (ci := 6) (v := .ref (ad 2)) (C := RX6) (T := TX6) (N := 8) (pc := 45) hx hb hts inT6 hown hG.1 hP 0 rfl rfl 0 (by decide) (hts _ qf_Top_10) (fun _ h9 => h9) rfl dX6_inCircle_45 ?_
            refine lv_iload_n (pc := 48) hx hb dX6_inCircle_48 rfl (lv_at hl 1 rfl) ?_
            refine lv_iload_n (pc := 49) hx hb dX6_inCircle_49 rfl (lv_at hl 2 rfl) ?_
            refine lv_iload_n (pc := 50) hx hb dX6_inCircle_50 rfl (lv_at hl 3 rfl) ?_
            refine lv_iload (pc := 51) hx hb dX6_inCircle_51 (lv_at hl 4 rfl) ?_
            refine rdV (pc := 53) (As := [.int a0, .int a1, .int a2, .int a3]) (rest := []) hx hb hml hown hts hG hP (c_Plan_circleSide l K (fun k => ad (k + 2)) pxs pys plo phi pn pm a0 a1 a2 a3) [2, 3, 4, 5, 6, 7, 8, 9, 10] rfl (q0 := 2) rfl (ci := 3) rfl g_Top_245 hd_Plan_circleSide rfl ⟨Nat.le_of_ble_eq_true rfl, Nat.le_of_ble_eq_true rfl⟩ ⟨Nat.le_of_ble_eq_true rfl, Nat.le_of_ble_eq_true rfl⟩ hl rfl (Nat.le_of_ble_eq_true rfl) dX6_inCircle_53 ?_
            subst h
            refine vx_ret ?_
            refine W.widen (k := 5) (n := 30) (Nat.le_of_ble_eq_true rfl) (Nat.le_of_ble_eq_true rfl) ?_
            exact W.iret hx hb hr (fun t ht hW => ⟨⟨_, _, rfl, rfl, by rw [ht]; exact hP⟩, hS.F ht⟩) hS.2.2 dX6_inCircle_56 hlk
          · have h := it_t c1 h
            subst h
            exact xThrow (pc := 34) (mc := 5) C0X ef_ARE ql_Top_240 qn_ARE (by decide +kernel : (242, "three points on a line have no circle") ∈ strs) hP hS hl dX6_inCircle_34 dX6_inCircle_37 dX6_inCircle_38 dX6_inCircle_40 dX6_inCircle_43 (Nat.le_of_ble_eq_true rfl) (Nat.le_of_ble_eq_true rfl) (Nat.le_of_ble_eq_true rfl) (Nat.le_of_ble_eq_true rfl) (Nat.le_of_ble_eq_true rfl) (Nat.le_of_ble_eq_true rfl) rfl
set_option maxHeartbeats 4000000 in
set_option maxRecDepth 100000 in
theorem c_Top_isGood (l : Launch) (K : KT) (hl0 : l.stackTraces = false) (ad : Nat → Nat) (pxs : Nat → Int32) (pys : Nat → Int32) (plo : Nat → Int32) (phi : Nat → Int32) (pn : Int32) (pm : Int32) (lf : Nat → Int32) (th : Nat → Int32) (ow : Nat → Int32) (lk : Nat → Int32) (el : Nat → Int32) (eh : Nat → Int32) (co : Nat → Int32) (hu : Nat → Int32) (ne : Int32) (nt : Int32) (nh : Int32) (tpxs : Nat → Int32) (tpys : Nat → Int32) (tplo : Nat → Int32) (tphi : Nat → Int32) (tpn : Int32) (tpm : Int32) (tlf : Nat → Int32) (tth : Nat → Int32) (tow : Nat → Int32) (tlk : Nat → Int32) (tel : Nat → Int32) (teh : Nat → Int32) (tco : Nat → Int32) (thu : Nat → Int32) (tne : Int32) (tnt : Int32) (tnh : Int32) (spxs : Nat → Int32) (spys : Nat → Int32) (splo : Nat → Int32) (sphi : Nat → Int32) (spn : Int32) (spm : Int32) (ich : Nat → Int32) (ifs : Nat → Int32) (isc : Nat → Int32) (isg : Nat → Int32) (iln : Int32) (ien : Int32) (iin : Bool) (idg : Int32) (iva : Int32) (hp : Nat → PlanS) (hnx : Int32) (hkp : Int32) (hsv : Bool) (a0 : Int32) : Xm l K 7 2 yX6_isGood cX6_isGood 4 (some .boolean) [.ref (ad 0), .int a0] (wTop K ad pxs pys plo phi pn pm lf th ow lk el eh co hu ne nt nh tpxs tpys tplo tphi tpn tpm tlf tth tow tlk tel teh tco thu tne tnt tnh spxs spys splo sphi spn spm ich ifs isc isg iln ien iin idg iva hp hnx hkp hsv) (Sum.map id (fun q => (some (.int (bI q)), wTop K ad pxs pys plo phi pn pm lf th ow lk el eh co hu ne nt nh tpxs tpys tplo tphi tpn tpm tlf tth tow tlk tel teh tco thu tne tnt tnh spxs spys splo sphi spn spm ich ifs isc isg iln ien iin idg iva hp hnx hkp hsv)) (s_Top_isGood pxs pys th el eh ne a0)) := by
  generalize h : s_Top_isGood pxs pys th el eh ne a0 = o
  refine Xm.of hl0 (by decide +kernel) (Nat.le_of_ble_eq_true rfl) ?_
  unfold s_Top_isGood at h
  intro p e s m below meth c C0X H locs hP hD hS ls hl
  obtain ⟨⟨hx, hb, hml, hown, hts, hG, hr, hlk⟩, hl1, htb, hG1, hZ⟩ := id C0X
  have C0 := C0X.1
  have hl : lv_has ls 4 [(0, .ref (ad 0)), (1, .int a0)] := hl
  refine lv_aload_n (pc := 0) hx hb dX6_isGood_0 rfl (lv_at hl 0 rfl) ?_
  refine lv_iload_n (pc := 1) hx hb dX6_isGood_1 rfl (lv_at hl 1 rfl) ?_
  refine xVs (pc := 2) (mc := 2) (As := [.int a0]) (rest := []) (so := (s_Top_requireEdge ne a0)) C0X hP hD hS (c_Top_requireEdge l K hl0 ad pxs pys plo phi pn pm lf th ow lk el eh co hu ne nt nh tpxs tpys tplo tphi tpn tpm tlf tth tow tlk tel teh tco thu tne tnt tnh spxs spys splo sphi spn spm ich ifs isc isg iln ien iin idg iva hp hnx hkp hsv a0) (q0 := 0) rfl (ci := 6) rfl g_Top_182 hd_Top_requireEdge rfl ⟨(Nat.le_of_ble_eq_true rfl), (Nat.le_of_ble_eq_true rfl)⟩ ⟨(Nat.le_of_ble_eq_true rfl), (Nat.le_of_ble_eq_true rfl)⟩ ⟨(Nat.le_of_ble_eq_true rfl), (Nat.le_of_ble_eq_true rfl)⟩ hl rfl (Nat.le_of_ble_eq_true rfl) dX6_isGood_2 (fun E hE => ?_) (fun hE H locs hP hS => ?_)
  · rw [hE] at h
    have h := se_l h
    subst h
    rfl
  · rw [hE] at h
    have h := se_r h
    refine lv_aload_n (pc := 5) hx hb dX6_isGood_5 rfl (lv_at hl 0 rfl) ?_
    refine va_get (D := K.1) (ci := 6) (v := .ref (ad 1)) (C := RX6) (T := TX6) (N := 8) (pc := 6) hx hb hts inT6 hown hG.1 hP 0 rfl rfl 1 (by decide) (hts _ qf_Top_21) (fun _ h9 => h9) rfl dX6_isGood_6 ?_
    refine lv_iload_n (pc := 9) hx hb dX6_isGood_9 rfl (lv_at hl 1 rfl) ?_
    refine rdV (pc := 10) (As := [.int a0]) (rest := []) hx hb hml hown hts hG hP (c_Mesh_lowEnd l K (fun k => ad (k + 1)) pxs pys plo phi pn pm lf th ow lk el eh co hu ne nt nh a0) [1, 2, 3, 4, 5, 6, 7, 8, 9, 10, 11, 12, 13, 14, 15, 16, 17, 18, 19, 20, 21, 22, 23, 24, 25, 26] rfl (q0 := 1) rfl (ci := 2) rfl g_Top_185 hd_Mesh_lowEnd rfl ⟨Nat.le_of_ble_eq_true rfl, Nat.le_of_ble_eq_true rfl⟩ ⟨Nat.le_of_ble_eq_true rfl, Nat.le_of_ble_eq_true rfl⟩ hl rfl (Nat.le_of_ble_eq_true rfl) dX6_isGood_10 ?_
    refine lv_istore_n (pc := 13) (lv' := [(2, .int (s_Mesh_lowEnd el a0)), (0, .ref (ad 0)), (1, .int a0)]) hx hb dX6_isGood_13 rfl hl (by decide) rfl (fun ls hl => ?_)
    refine lv_aload_n (pc := 14) hx hb dX6_isGood_14 rfl (lv_at hl 1 rfl) ?_
    refine va_get (D := K.1) (ci := 6) (v := .ref (ad 1)) (C := RX6) (T := TX6) (N := 8) (pc := 15) hx hb hts inT6 hown hG.1 hP 0 rfl rfl 1 (by decide) (hts _ qf_Top_21) (fun _ h9 => h9) rfl dX6_isGood_15 ?_
    refine lv_iload_n (pc := 18) hx hb dX6_isGood_18 rfl (lv_at hl 2 rfl) ?_
    refine rdV (pc := 19) (As := [.int a0]) (rest := []) hx hb hml hown hts hG hP (c_Mesh_highEnd l K (fun k => ad (k + 1)) pxs pys plo phi pn pm lf th ow lk el eh co hu ne nt nh a0) [1, 2, 3, 4, 5, 6, 7, 8, 9, 10, 11, 12, 13, 14, 15, 16, 17, 18, 19, 20, 21, 22, 23, 24, 25, 26] rfl (q0 := 1) rfl (ci := 2) rfl g_Top_186 hd_Mesh_highEnd rfl ⟨Nat.le_of_ble_eq_true rfl, Nat.le_of_ble_eq_true rfl⟩ ⟨Nat.le_of_ble_eq_true rfl, Nat.le_of_ble_eq_true rfl⟩ hl rfl (Nat.le_of_ble_eq_true rfl) dX6_isGood_19 ?_
    refine lv_istore_n (pc := 22) (lv' := [(3, .int (s_Mesh_highEnd eh a0)), (2, .int (s_Mesh_lowEnd el a0)), (0, .ref (ad 0)), (1, .int a0)]) hx hb dX6_isGood_22 rfl hl (by decide) rfl (fun ls hl => ?_)
    refine lv_aload_n (pc := 23) hx hb dX6_isGood_23 rfl (lv_at hl 2 rfl) ?_
    refine va_get (D := K.1) (ci := 6) (v := .ref (ad 1)) (C := RX6) (T := TX6) (N := 8) (pc := 24) hx hb hts inT6 hown hG.1 hP 0 rfl rfl 1 (by decide) (hts _ qf_Top_21) (fun _ h9 => h9) rfl dX6_isGood_24 ?_
    refine lv_iload_n (pc := 27) hx hb dX6_isGood_27 rfl (lv_at hl 1 rfl) ?_
    refine lv_iload_n (pc := 28) hx hb dX6_isGood_28 rfl (lv_at hl 0 rfl) ?_
    refine rdV (pc := 29) (As := [.int (s_Mesh_lowEnd el a0), .int (s_Mesh_highEnd eh a0)]) (rest := []) hx hb hml hown hts hG hP (c_Mesh_isInner l K (fun k => ad (k + 1)) pxs pys plo phi pn pm lf th ow lk el eh co hu ne nt nh (s_Mesh_lowEnd el a0) (s_Mesh_highEnd eh a0)) [1, 2, 3, 4, 5, 6, 7, 8, 9, 10, 11, 12, 13, 14, 15, 16, 17, 18, 19, 20, 21, 22, 23, 24, 25, 26] rfl (q0 := 1) rfl (ci := 2) rfl g_Top_249 hd_Mesh_isInner rfl ⟨Nat.le_of_ble_eq_true rfl, Nat.le_of_ble_eq_true rfl⟩ ⟨Nat.le_of_ble_eq_true rfl, Nat.le_of_ble_eq_true rfl⟩ hl rfl (Nat.le_of_ble_eq_true rfl) dX6_isGood_29 ?_
    refine lv_if_ne (tgt := 45) (pc := 32) hx hb dX6_isGood_32 (by decide) (fun c1 => ?_) (fun c1 => ?_)
    · have h := it_f c1 h
      refine lv_aload_n (pc := 45) hx hb dX6_isGood_45 rfl (lv_at hl 2 rfl) ?_
      refine va_get (D := K.1) (ci := 6) (v := .ref (ad 1)) (C := RX6) (T := TX6) (N := 8) (pc := 46) hx hb hts inT6 hown hG.1 hP 0 rfl rfl 1 (by decide) (hts _ qf_Top_21) (fun _ h9 => h9) rfl dX6_isGood_46 ?_
      refine lv_iload_n (pc := 49) hx hb dX6_isGood_49 rfl (lv_at hl 1 rfl) ?_
      refine lv_iload_n (pc := 50) hx hb dX6_isGood_50 rfl (lv_at hl 0 rfl) ?_
      refine rdV (pc := 51) (As := [.int (s_Mesh_lowEnd el a0), .int (s_Mesh_highEnd eh a0)]) (rest := []) hx hb hml hown hts hG hP (c_Mesh_passesCircle l K (fun k => ad (k + 1)) pxs pys plo phi pn pm lf th ow lk el eh co hu ne nt nh (s_Mesh_lowEnd el a0) (s_Mesh_highEnd eh a0)) [1, 2, 3, 4, 5, 6, 7, 8, 9, 10, 11, 12, 13, 14, 15, 16, 17, 18, 19, 20, 21, 22, 23, 24, 25, 26] rfl (q0 := 1) rfl (ci := 2) rfl g_Top_254 hd_Mesh_passesCircle rfl ⟨Nat.le_of_ble_eq_true rfl, Nat.le_of_ble_eq_true rfl⟩ ⟨Nat.le_of_ble_eq_true rfl, Nat.le_of_ble_eq_true rfl⟩ hl rfl (Nat.le_of_ble_eq_true rfl) dX6_isGood_51 ?_
      subst h
      refine vx_ret ?_
      refine W.widen (k := 2) (n := 12) (Nat.le_of_ble_eq_true rfl) (Nat.le_of_ble_eq_true rfl) ?_
      exact W.zret hx hb hr (bI_nar _) (fun t ht hW => ⟨⟨_, _, rfl, rfl, by rw [ht]; exact hP⟩, hS.F ht⟩) hS.2.2 dX6_isGood_54 hlk
    · have h := it_t c1 h
      subst h
      exact xThrow (pc := 35) (mc := 2) C0X ef_UOE ql_Top_90 qn_UOE (by decide +kernel : (252, "this is no inner edge") ∈ strs) hP hS hl dX6_isGood_35 dX6_isGood_38 dX6_isGood_39 dX6_isGood_41 dX6_isGood_44 (Nat.le_of_ble_eq_true rfl) (Nat.le_of_ble_eq_true rfl) (Nat.le_of_ble_eq_true rfl) (Nat.le_of_ble_eq_true rfl) (Nat.le_of_ble_eq_true rfl) (Nat.le_of_ble_eq_true rfl) rfl
set_option maxHeartbeats 4000000 in
set_option maxRecDepth 100000 in
theorem l_Top_forcedConstraints_L4 {p : Program} {l : Launch} {e : Env} {s : State} {m : MethodId} {args : Array Value} {below : List Frame} {meth : Method} {c : Code} {Q : State → Prop} {K : KT} (C0 : Ctx p m c cX6_forcedConstraints 5 s args RX6 K meth (some .int)) (F : Nat) (ad : Nat → Nat) (pxs : Nat → Int32) (pys : Nat → Int32) (plo : Nat → Int32) (phi : Nat → Int32) (pn : Int32) (pm : Int32) (lf : Nat → Int32) (th : Nat → Int32) (ow : Nat → Int32) (lk : Nat → Int32) (el : Nat → Int32) (eh : Nat → Int32) (co : Nat → Int32) (hu : Nat → Int32) (ne : Int32) (nt : Int32) (nh : Int32) (tpxs : Nat → Int32) (tpys : Nat → Int32) (tplo : Nat → Int32) (tphi : Nat → Int32) (tpn : Int32) (tpm : Int32) (tlf : Nat → Int32) (tth : Nat → Int32) (tow : Nat → Int32) (tlk : Nat → Int32) (tel : Nat → Int32) (teh : Nat → Int32) (tco : Nat → Int32) (thu : Nat → Int32) (tne : Int32) (tnt : Int32) (tnh : Int32) (spxs : Nat → Int32) (spys : Nat → Int32) (splo : Nat → Int32) (sphi : Nat → Int32) (spn : Int32) (spm : Int32) (ich : Nat → Int32) (ifs : Nat → Int32) (isc : Nat → Int32) (isg : Nat → Int32) (iln : Int32) (ien : Int32) (iin : Bool) (idg : Int32) (iva : Int32) (hp : Nat → PlanS) (hnx : Int32) (hkp : Int32) (hsv : Bool) (hP : va_P K.1 vC (wTop K ad pxs pys plo phi pn pm lf th ow lk el eh co hu ne nt nh tpxs tpys tplo tphi tpn tpm tlf tth tow tlk tel teh tco thu tne tnt tnh spxs spys splo sphi spn spm ich ifs isc isg iln ien iin idg iva hp hnx hkp hsv) s.heap) : ∀ (n : Nat) (x1 : Int32) (x2 : Int32) (out : Int32 × Int32), s_Top_forcedConstraints_L4 pxs pys plo phi pm th n x1 x2 = some out → ∀ (ls : Array Slot), lv_has ls 5 [(0, .ref (ad 0)), (1, .int x1), (2, .int x2)] → (∀ (o : Int32 × Int32) (ls : Array Slot), out = o → lv_has ls 5 [(0, .ref (ad 0)), (1, .int o.1), (2, .int o.2)] → W p l e (rmL 5) s m args below meth c s.heap [] 0 0 Q (F0 m 69 ls [])) → W p l e (rmL 5) s m args below meth c s.heap [] 0 0 Q (F0 m 4 ls []) := by
  obtain ⟨hx, hb, hml, hown, hts, hG, hr, hlk⟩ := id C0
  intro n
  induction n with
  | zero =>
    intro x1 x2 out h
    cases h
  | succ n ih =>
    intro x1 x2 out h ls hl Kx 
    rw [s_Top_forcedConstraints_L4.eq_2] at h
    refine lv_iload_n (pc := 4) hx hb dX6_forcedConstraints_4 rfl (lv_at hl 2 rfl) ?_
    refine lv_aload_n (pc := 5) hx hb dX6_forcedConstraints_5 rfl (lv_at hl 0 rfl) ?_
    refine va_get (D := K.1) (ci := 6) (v := .ref (ad 2)) (C := RX6) (T := TX6) (N := 8) (pc := 6) hx hb hts inT6 hown hG.1 hP 0 rfl rfl 0 (by decide) (hts _ qf_Top_10) (fun _ h9 => h9) rfl dX6_forcedConstraints_6 ?_
    refine rdV (pc := 9) (As := []) (rest := [.int x2]) hx hb hml hown hts hG hP (c_Plan_constraints l K (fun k => ad (k + 2)) pxs pys plo phi pn pm) [2, 3, 4, 5, 6, 7, 8, 9, 10] rfl (q0 := 2) rfl (ci := 3) rfl g_Top_114 hd_Plan_constraints rfl ⟨Nat.le_of_ble_eq_true rfl, Nat.le_of_ble_eq_true rfl⟩ ⟨Nat.zero_le _, Nat.zero_le _⟩ hl rfl (Nat.le_of_ble_eq_true rfl) dX6_forcedConstraints_9 ?_
    refine lv_icmp_ge (tgt := 69) (pc := 12) hx hb dX6_forcedConstraints_12 (by decide) (fun c1 => ?_) (fun c1 => ?_)
    · have h := it_t c1 h
      obtain rfl := Option.some.inj h
      exact Kx _ ls rfl (lv_sub hl [0, 1, 2] rfl)
    · have h := it_f c1 h
      refine lv_aload_n (pc := 15) hx hb dX6_forcedConstraints_15 rfl (lv_at hl 0 rfl) ?_
      refine va_get (D := K.1) (ci := 6) (v := .ref (ad 2)) (C := RX6) (T := TX6) (N := 8) (pc := 16) hx hb hts inT6 hown hG.1 hP 0 rfl rfl 0 (by decide) (hts _ qf_Top_10) (fun _ h9 => h9) rfl dX6_forcedConstraints_16 ?_
      refine lv_iload_n (pc := 19) hx hb dX6_forcedConstraints_19 rfl (lv_at hl 2 rfl) ?_
      refine rdV (pc := 20) (As := [.int x2]) (rest := []) hx hb hml hown hts hG hP (c_Plan_lowEnd l K (fun k => ad (k + 2)) pxs pys plo phi pn pm x2) [2, 3, 4, 5, 6, 7, 8, 9, 10] rfl (q0 := 2) rfl (ci := 3) rfl g_Top_136 hd_Plan_lowEnd rfl ⟨Nat.le_of_ble_eq_true rfl, Nat.le_of_ble_eq_true rfl⟩ ⟨Nat.zero_le _, Nat.zero_le _⟩ hl rfl (Nat.le_of_ble_eq_true rfl) dX6_forcedConstraints_20 ?_
      refine lv_istore_n (pc := 23) (lv' := [(3, .int (s_Plan_lowEnd plo x2)), (0, .ref (ad 0)), (1, .int x1), (2, .int x2)]) hx hb dX6_forcedConstraints_23 rfl hl (by decide) rfl (fun ls hl => ?_)
      refine lv_aload_n (pc := 24) hx hb dX6_forcedConstraints_24 rfl (lv_at hl 1 rfl) ?_
      refine va_get (D := K.1) (ci := 6) (v := .ref (ad 2)) (C := RX6) (T := TX6) (N := 8) (pc := 25) hx hb hts inT6 hown hG.1 hP 0 rfl rfl 0 (by decide) (hts _ qf_Top_10) (fun _ h9 => h9) rfl dX6_forcedConstraints_25 ?_
      refine lv_iload_n (pc := 28) hx hb dX6_forcedConstraints_28 rfl (lv_at hl 3 rfl) ?_
      refine rdV (pc := 29) (As := [.int x2]) (rest := []) hx hb hml hown hts hG hP (c_Plan_highEnd l K (fun k => ad (k + 2)) pxs pys plo phi pn pm x2) [2, 3, 4, 5, 6, 7, 8, 9, 10] rfl (q0 := 2) rfl (ci := 3) rfl g_Top_139 hd_Plan_highEnd rfl ⟨Nat.le_of_ble_eq_true rfl, Nat.le_of_ble_eq_true rfl⟩ ⟨Nat.zero_le _, Nat.zero_le _⟩ hl rfl (Nat.le_of_ble_eq_true rfl) dX6_forcedConstraints_29 ?_
      refine lv_istore (pc := 32) (lv' := [(4, .int (s_Plan_highEnd phi x2)), (3, .int (s_Plan_lowEnd plo x2)), (0, .ref (ad 0)), (1, .int x1), (2, .int x2)]) hx hb dX6_forcedConstraints_32 hl (by decide) rfl (fun ls hl => ?_)
      refine lv_aload_n (pc := 34) hx hb dX6_forcedConstraints_34 rfl (lv_at hl 2 rfl) ?_
      refine va_get (D := K.1) (ci := 6) (v := .ref (ad 1)) (C := RX6) (T := TX6) (N := 8) (pc := 35) hx hb hts inT6 hown hG.1 hP 0 rfl rfl 1 (by decide) (hts _ qf_Top_21) (fun _ h9 => h9) rfl dX6_forcedConstraints_35 ?_
      refine lv_iload_n (pc := 38) hx hb dX6_forcedConstraints_38 rfl (lv_at hl 1 rfl) ?_
      refine lv_iload (pc := 39) hx hb dX6_forcedConstraints_39 (lv_at hl 0 rfl) ?_
      refine rdV (pc := 41) (As := [.int (s_Plan_lowEnd plo x2), .int (s_Plan_highEnd phi x2)]) (rest := []) hx hb hml hown hts hG hP (c_Mesh_isInner l K (fun k => ad (k + 1)) pxs pys plo phi pn pm lf th ow lk el eh co hu ne nt nh (s_Plan_lowEnd plo x2) (s_Plan_highEnd phi x2)) [1, 2, 3, 4, 5, 6, 7, 8, 9, 10, 11, 12, 13, 14, 15, 16, 17, 18, 19, 20, 21, 22, 23, 24, 25, 26] rfl (q0 := 1) rfl (ci := 2) rfl g_Top_249 hd_Mesh_isInner rfl ⟨Nat.le_of_ble_eq_true rfl, Nat.le_of_ble_eq_true rfl⟩ ⟨Nat.zero_le _, Nat.zero_le _⟩ hl rfl (Nat.le_of_ble_eq_true rfl) dX6_forcedConstraints_41 ?_
      refine lv_if_eq (tgt := 63) (pc := 44) hx hb dX6_forcedConstraints_44 (by decide) (fun c2 => ?_) (fun c2 => ?_)
      · have h := it_t c2 h
        refine lv_iinc (v := (x2 + (1 : Int32))) (pc := 63) (lv' := [(2, .int (x2 + (1 : Int32))), (4, .int (s_Plan_highEnd phi x2)), (3, .int (s_Plan_lowEnd plo x2)), (0, .ref (ad 0)), (1, .int x1)]) hx hb dX6_forcedConstraints_63 hl (k := 4) rfl rfl (by decide) rfl (fun ls hl => ?_)
        refine lv_goto (tgt := 4) (pc := 66) hx hb dX6_forcedConstraints_66 (by decide) ?_
        exact ih x1 (x2 + (1 : Int32)) out h ls (lv_sub hl [3, 4, 0] rfl) Kx 
      · have h := it_f c2 h
        refine lv_aload_n (pc := 47) hx hb dX6_forcedConstraints_47 rfl (lv_at hl 2 rfl) ?_
        refine va_get (D := K.1) (ci := 6) (v := .ref (ad 1)) (C := RX6) (T := TX6) (N := 8) (pc := 48) hx hb hts inT6 hown hG.1 hP 0 rfl rfl 1 (by decide) (hts _ qf_Top_21) (fun _ h9 => h9) rfl dX6_forcedConstraints_48 ?_
        refine lv_iload_n (pc := 51) hx hb dX6_forcedConstraints_51 rfl (lv_at hl 1 rfl) ?_
        refine lv_iload (pc := 52) hx hb dX6_forcedConstraints_52 (lv_at hl 0 rfl) ?_
        refine rdV (pc := 54) (As := [.int (s_Plan_lowEnd plo x2), .int (s_Plan_highEnd phi x2)]) (rest := []) hx hb hml hown hts hG hP (c_Mesh_passesCircle l K (fun k => ad (k + 1)) pxs pys plo phi pn pm lf th ow lk el eh co hu ne nt nh (s_Plan_lowEnd plo x2) (s_Plan_highEnd phi x2)) [1, 2, 3, 4, 5, 6, 7, 8, 9, 10, 11, 12, 13, 14, 15, 16, 17, 18, 19, 20, 21, 22, 23, 24, 25, 26] rfl (q0 := 1) rfl (ci := 2) rfl g_Top_254 hd_Mesh_passesCircle rfl ⟨Nat.le_of_ble_eq_true rfl, Nat.le_of_ble_eq_true rfl⟩ ⟨Nat.zero_le _, Nat.zero_le _⟩ hl rfl (Nat.le_of_ble_eq_true rfl) dX6_forcedConstraints_54 ?_
        refine lv_if_ne (tgt := 63) (pc := 57) hx hb dX6_forcedConstraints_57 (by decide) (fun c3 => ?_) (fun c3 => ?_)
        · have h := it_f c3 h
          refine lv_iinc (v := (x2 + (1 : Int32))) (pc := 63) (lv' := [(2, .int (x2 + (1 : Int32))), (4, .int (s_Plan_highEnd phi x2)), (3, .int (s_Plan_lowEnd plo x2)), (0, .ref (ad 0)), (1, .int x1)]) hx hb dX6_forcedConstraints_63 hl (k := 4) rfl rfl (by decide) rfl (fun ls hl => ?_)
          refine lv_goto (tgt := 4) (pc := 66) hx hb dX6_forcedConstraints_66 (by decide) ?_
          exact ih x1 (x2 + (1 : Int32)) out h ls (lv_sub hl [3, 4, 0] rfl) Kx 
        · have h := it_t c3 h
          refine lv_iinc (v := (x1 + (1 : Int32))) (pc := 60) (lv' := [(1, .int (x1 + (1 : Int32))), (4, .int (s_Plan_highEnd phi x2)), (3, .int (s_Plan_lowEnd plo x2)), (0, .ref (ad 0)), (2, .int x2)]) hx hb dX6_forcedConstraints_60 hl (k := 3) rfl rfl (by decide) rfl (fun ls hl => ?_)
          refine lv_iinc (v := (x2 + (1 : Int32))) (pc := 63) (lv' := [(2, .int (x2 + (1 : Int32))), (1, .int (x1 + (1 : Int32))), (4, .int (s_Plan_highEnd phi x2)), (3, .int (s_Plan_lowEnd plo x2)), (0, .ref (ad 0))]) hx hb dX6_forcedConstraints_63 hl (k := 4) rfl rfl (by decide) rfl (fun ls hl => ?_)
          refine lv_goto (tgt := 4) (pc := 66) hx hb dX6_forcedConstraints_66 (by decide) ?_
          exact ih (x1 + (1 : Int32)) (x2 + (1 : Int32)) out h ls (lv_sub hl [4, 1, 0] rfl) Kx 
set_option maxHeartbeats 4000000 in
set_option maxRecDepth 100000 in
theorem c_Top_forcedConstraints (l : Launch) (K : KT) (ad : Nat → Nat) (pxs : Nat → Int32) (pys : Nat → Int32) (plo : Nat → Int32) (phi : Nat → Int32) (pn : Int32) (pm : Int32) (lf : Nat → Int32) (th : Nat → Int32) (ow : Nat → Int32) (lk : Nat → Int32) (el : Nat → Int32) (eh : Nat → Int32) (co : Nat → Int32) (hu : Nat → Int32) (ne : Int32) (nt : Int32) (nh : Int32) (tpxs : Nat → Int32) (tpys : Nat → Int32) (tplo : Nat → Int32) (tphi : Nat → Int32) (tpn : Int32) (tpm : Int32) (tlf : Nat → Int32) (tth : Nat → Int32) (tow : Nat → Int32) (tlk : Nat → Int32) (tel : Nat → Int32) (teh : Nat → Int32) (tco : Nat → Int32) (thu : Nat → Int32) (tne : Int32) (tnt : Int32) (tnh : Int32) (spxs : Nat → Int32) (spys : Nat → Int32) (splo : Nat → Int32) (sphi : Nat → Int32) (spn : Int32) (spm : Int32) (ich : Nat → Int32) (ifs : Nat → Int32) (isc : Nat → Int32) (isg : Nat → Int32) (iln : Int32) (ien : Int32) (iin : Bool) (idg : Int32) (iva : Int32) (hp : Nat → PlanS) (hnx : Int32) (hkp : Int32) (hsv : Bool) (F : Nat) {o : Int32} (h : s_Top_forcedConstraints F pxs pys plo phi pm th = some o) : Rd l K 5 yX6_forcedConstraints cX6_forcedConstraints 5 .int [.ref (ad 0)] (wTop K ad pxs pys plo phi pn pm lf th ow lk el eh co hu ne nt nh tpxs tpys tplo tphi tpn tpm tlf tth tow tlk tel teh tco thu tne tnt tnh spxs spys splo sphi spn spm ich ifs isc isg iln ien iin idg iva hp hnx hkp hsv) o := by
  refine Rd.of (by decide +kernel) (Nat.le_of_ble_eq_true rfl) ?_
  unfold s_Top_forcedConstraints at h
  intro p e s m below meth c hx hb hr hml hown hts hlk hP hG ls hl
  have C0 : Ctx p m c cX6_forcedConstraints 5 s (Array.mk [.ref (ad 0)]) RX6 K meth (some .int) := ⟨hx, hb, hml, hown, hts, hG, hr, hlk⟩
  have hl : lv_has ls 5 [(0, .ref (ad 0))] := hl
  refine lv_iconst (v := (0 : Int32)) (pc := 0) hx hb dX6_forcedConstraints_0 (by decide) ?_
  refine lv_istore_n (pc := 1) (lv' := [(1, .int (0 : Int32)), (0, .ref (ad 0))]) hx hb dX6_forcedConstraints_1 rfl hl (by decide) rfl (fun ls hl => ?_)
  refine lv_iconst (v := (0 : Int32)) (pc := 2) hx hb dX6_forcedConstraints_2 (by decide) ?_
  refine lv_istore_n (pc := 3) (lv' := [(2, .int (0 : Int32)), (1, .int (0 : Int32)), (0, .ref (ad 0))]) hx hb dX6_forcedConstraints_3 rfl hl (by decide) rfl (fun ls hl => ?_)
  obtain ⟨o4, h_o4, h⟩ := ob h
  refine l_Top_forcedConstraints_L4 C0 F ad pxs pys plo phi pn pm lf th ow lk el eh co hu ne nt nh tpxs tpys tplo tphi tpn tpm tlf tth tow tlk tel teh tco thu tne tnt tnh spxs spys splo sphi spn spm ich ifs isc isg iln ien iin idg iva hp hnx hkp hsv hP F (0 : Int32) (0 : Int32) _ h_o4 ls (lv_sub hl [2, 1, 0] rfl) (fun o4x ls eo hl => ?_)
  subst o4
  refine lv_iload_n (pc := 69) hx hb dX6_forcedConstraints_69 rfl (lv_at hl 1 rfl) ?_
  obtain rfl := Option.some.inj h
  exact W.iret hx hb hr (fun t ht hW => ⟨rfl, ht⟩) (fun q hq => absurd hq List.not_mem_nil) dX6_forcedConstraints_70 hlk
set_option maxHeartbeats 4000000 in
set_option maxRecDepth 100000 in
theorem c_Top_kindOf (l : Launch) (K : KT) (ad : Nat → Nat) (pxs : Nat → Int32) (pys : Nat → Int32) (plo : Nat → Int32) (phi : Nat → Int32) (pn : Int32) (pm : Int32) (lf : Nat → Int32) (th : Nat → Int32) (ow : Nat → Int32) (lk : Nat → Int32) (el : Nat → Int32) (eh : Nat → Int32) (co : Nat → Int32) (hu : Nat → Int32) (ne : Int32) (nt : Int32) (nh : Int32) (tpxs : Nat → Int32) (tpys : Nat → Int32) (tplo : Nat → Int32) (tphi : Nat → Int32) (tpn : Int32) (tpm : Int32) (tlf : Nat → Int32) (tth : Nat → Int32) (tow : Nat → Int32) (tlk : Nat → Int32) (tel : Nat → Int32) (teh : Nat → Int32) (tco : Nat → Int32) (thu : Nat → Int32) (tne : Int32) (tnt : Int32) (tnh : Int32) (spxs : Nat → Int32) (spys : Nat → Int32) (splo : Nat → Int32) (sphi : Nat → Int32) (spn : Int32) (spm : Int32) (ich : Nat → Int32) (ifs : Nat → Int32) (isc : Nat → Int32) (isg : Nat → Int32) (iln : Int32) (ien : Int32) (iin : Bool) (idg : Int32) (iva : Int32) (hp : Nat → PlanS) (hnx : Int32) (hkp : Int32) (hsv : Bool) (a0 : Int32) (a1 : Int32) (F : Nat) {o : Int32} (h : s_Top_kindOf F pxs pys pn el eh co ne nt a0 a1 = some o) : Rd l K 5 yX6_kindOf cX6_kindOf 3 .int [.ref (ad 0), .int a0, .int a1] (wTop K ad pxs pys plo phi pn pm lf th ow lk el eh co hu ne nt nh tpxs tpys tplo tphi tpn tpm tlf tth tow tlk tel teh tco thu tne tnt tnh spxs spys splo sphi spn spm ich ifs isc isg iln ien iin idg iva hp hnx hkp hsv) o := by
  refine Rd.of (by decide +kernel) (Nat.le_of_ble_eq_true rfl) ?_
  unfold s_Top_kindOf at h
  intro p e s m below meth c hx hb hr hml hown hts hlk hP hG ls hl
  have C0 : Ctx p m c cX6_kindOf 3 s (Array.mk [.ref (ad 0), .int a0, .int a1]) RX6 K meth (some .int) := ⟨hx, hb, hml, hown, hts, hG, hr, hlk⟩
  have hl : lv_has ls 3 [(0, .ref (ad 0)), (1, .int a0), (2, .int a1)] := hl
  refine lv_aload_n (pc := 0) hx hb dX6_kindOf_0 rfl (lv_at hl 0 rfl) ?_
  refine va_get (D := K.1) (ci := 6) (v := .ref (ad 2)) (C := RX6) (T := TX6) (N := 8) (pc := 1) hx hb hts inT6 hown hG.1 hP 0 rfl rfl 0 (by decide) (hts _ qf_Top_10) (fun _ h9 => h9) rfl dX6_kindOf_1 ?_
  refine lv_iload_n (pc := 4) hx hb dX6_kindOf_4 rfl (lv_at hl 1 rfl) ?_
  refine lv_iload_n (pc := 5) hx hb dX6_kindOf_5 rfl (lv_at hl 2 rfl) ?_
  obtain ⟨v1, h_v1, h⟩ := ob h
  refine rdV (pc := 6) (As := [.int a0, .int a1]) (rest := []) hx hb hml hown hts hG hP (c_Plan_pointAt l K (fun k => ad (k + 2)) pxs pys plo phi pn pm a0 a1 F h_v1) [2, 3, 4, 5, 6, 7, 8, 9, 10] rfl (q0 := 2) rfl (ci := 3) rfl g_Top_82 hd_Plan_pointAt rfl ⟨Nat.le_of_ble_eq_true rfl, Nat.le_of_ble_eq_true rfl⟩ ⟨Nat.zero_le _, Nat.zero_le _⟩ hl rfl (Nat.le_of_ble_eq_true rfl) dX6_kindOf_6 ?_
  refine lv_iconst (v := (-1 : Int32)) (pc := 9) hx hb dX6_kindOf_9 (by decide) ?_
  refine lv_icmp_eq (tgt := 15) (pc := 10) hx hb dX6_kindOf_10 (by decide) (fun c2 => ?_) (fun c2 => ?_)
  · have h := it_t c2 h
    refine lv_aload_n (pc := 15) hx hb dX6_kindOf_15 rfl (lv_at hl 0 rfl) ?_
    refine va_get (D := K.1) (ci := 6) (v := .ref (ad 1)) (C := RX6) (T := TX6) (N := 8) (pc := 16) hx hb hts inT6 hown hG.1 hP 0 rfl rfl 1 (by decide) (hts _ qf_Top_21) (fun _ h9 => h9) rfl dX6_kindOf_16 ?_
    refine lv_iload_n (pc := 19) hx hb dX6_kindOf_19 rfl (lv_at hl 1 rfl) ?_
    refine lv_iload_n (pc := 20) hx hb dX6_kindOf_20 rfl (lv_at hl 2 rfl) ?_
    obtain ⟨v3, h_v3, h⟩ := ob h
    refine rdV (pc := 21) (As := [.int a0, .int a1]) (rest := []) hx hb hml hown hts hG hP (c_Mesh_edgeAt l K (fun k => ad (k + 1)) pxs pys plo phi pn pm lf th ow lk el eh co hu ne nt nh a0 a1 F h_v3) [1, 2, 3, 4, 5, 6, 7, 8, 9, 10, 11, 12, 13, 14, 15, 16, 17, 18, 19, 20, 21, 22, 23, 24, 25, 26] rfl (q0 := 1) rfl (ci := 2) rfl g_Top_260 hd_Mesh_edgeAt rfl ⟨Nat.le_of_ble_eq_true rfl, Nat.le_of_ble_eq_true rfl⟩ ⟨Nat.zero_le _, Nat.zero_le _⟩ hl rfl (Nat.le_of_ble_eq_true rfl) dX6_kindOf_21 ?_
    refine lv_iconst (v := (-1 : Int32)) (pc := 24) hx hb dX6_kindOf_24 (by decide) ?_
    refine lv_icmp_eq (tgt := 30) (pc := 25) hx hb dX6_kindOf_25 (by decide) (fun c4 => ?_) (fun c4 => ?_)
    · have h := it_t c4 h
      refine lv_aload_n (pc := 30) hx hb dX6_kindOf_30 rfl (lv_at hl 0 rfl) ?_
      refine va_get (D := K.1) (ci := 6) (v := .ref (ad 1)) (C := RX6) (T := TX6) (N := 8) (pc := 31) hx hb hts inT6 hown hG.1 hP 0 rfl rfl 1 (by decide) (hts _ qf_Top_21) (fun _ h9 => h9) rfl dX6_kindOf_31 ?_
      refine lv_iload_n (pc := 34) hx hb dX6_kindOf_34 rfl (lv_at hl 1 rfl) ?_
      refine lv_iload_n (pc := 35) hx hb dX6_kindOf_35 rfl (lv_at hl 2 rfl) ?_
      obtain ⟨v5, h_v5, h⟩ := ob h
      refine rdV (pc := 36) (As := [.int a0, .int a1]) (rest := []) hx hb hml hown hts hG hP (c_Mesh_triangleAt l K (fun k => ad (k + 1)) pxs pys plo phi pn pm lf th ow lk el eh co hu ne nt nh a0 a1 F h_v5) [1, 2, 3, 4, 5, 6, 7, 8, 9, 10, 11, 12, 13, 14, 15, 16, 17, 18, 19, 20, 21, 22, 23, 24, 25, 26] rfl (q0 := 1) rfl (ci := 2) rfl g_Top_263 hd_Mesh_triangleAt rfl ⟨Nat.le_of_ble_eq_true rfl, Nat.le_of_ble_eq_true rfl⟩ ⟨Nat.zero_le _, Nat.zero_le _⟩ hl rfl (Nat.le_of_ble_eq_true rfl) dX6_kindOf_36 ?_
      refine lv_iconst (v := (-1 : Int32)) (pc := 39) hx hb dX6_kindOf_39 (by decide) ?_
      refine lv_icmp_eq (tgt := 47) (pc := 40) hx hb dX6_kindOf_40 (by decide) (fun c6 => ?_) (fun c6 => ?_)
      · have h := it_t c6 h
        refine lv_iconst (v := (0 : Int32)) (pc := 47) hx hb dX6_kindOf_47 (by decide) ?_
        obtain rfl := Option.some.inj h
        exact W.iret hx hb hr (fun t ht hW => ⟨rfl, ht⟩) (fun q hq => absurd hq List.not_mem_nil) dX6_kindOf_48 hlk
      · have h := it_f c6 h
        refine lv_iconst (v := (3 : Int32)) (pc := 43) hx hb dX6_kindOf_43 (by decide) ?_
        refine lv_goto (tgt := 48) (pc := 44) hx hb dX6_kindOf_44 (by decide) ?_
        obtain rfl := Option.some.inj h
        exact W.iret hx hb hr (fun t ht hW => ⟨rfl, ht⟩) (fun q hq => absurd hq List.not_mem_nil) dX6_kindOf_48 hlk
    · have h := it_f c4 h
      refine lv_iconst (v := (2 : Int32)) (pc := 28) hx hb dX6_kindOf_28 (by decide) ?_
      obtain rfl := Option.some.inj h
      exact W.iret hx hb hr (fun t ht hW => ⟨rfl, ht⟩) (fun q hq => absurd hq List.not_mem_nil) dX6_kindOf_29 hlk
  · have h := it_f c2 h
    refine lv_iconst (v := (1 : Int32)) (pc := 13) hx hb dX6_kindOf_13 (by decide) ?_
    obtain rfl := Option.some.inj h
    exact W.iret hx hb hr (fun t ht hW => ⟨rfl, ht⟩) (fun q hq => absurd hq List.not_mem_nil) dX6_kindOf_14 hlk
