section REFU
variable {F : Nat} {S U V : TopS} {g gs : Nat → Int32}
theorem x_refC {ask : TopS → Option (Int64 × TopS)} {hs : Int64} {U0 W : TopS} (kU : Rk F g S U) (hF : 1000 ≤ F) (pe : i_pointCount U0 = i32 (nP g)) (ce : i_constraintCount U0 = i32 (nC g)) (e2 : ask U = some (hs, W)) (k2 : Rk F g U W) : ∃ W, s_refC ask F hs U0 U = some W ∧ Rk F g S W := by
  have pb := p_le kU.1
  have cb := c_le kU.1
  unfold s_refC
  rw [pe, ce]
  rw [rf_turn kU.1]
  simp only [Option.bind_some]
  rw [if_pos trivial]
  rw [rf_circle kU.1 (out_n (by omega))]
  simp only [Option.bind_some]
  rw [if_pos trivial]
  rw [rf_good kU.1 hF]
  simp only [Option.bind_some]
  rw [if_pos trivial]
  rw [rf_kind bad_1]
  simp only [Option.bind_some]
  rw [if_pos trivial]
  rw [rf_number bad_2]
  simp only [Option.bind_some]
  rw [if_pos trivial]
  rw [rf_walk kU.1 hF]
  simp only [Option.bind_some]
  rw [if_pos trivial]
  rw [rf_cavity bad_3]
  simp only [Option.bind_some]
  rw [if_pos trivial]
  rw [rf_hole kU.1 (out_n (by omega))]
  simp only [Option.bind_some]
  rw [if_pos trivial]
  rw [rf_crossings kU.1 (out_n (by omega))]
  simp only [Option.bind_some]
  rw [if_pos trivial]
  rw [rf_effect kU.1 (out_n (by omega))]
  simp only [Option.bind_some]
  rw [if_pos trivial]
  by_cases z : nP g = 0
  · rw [if_pos (show i32 (nP g) ≤ (0 : Int32) from y_le (b := 0) (by omega) (by omega)), ← ce]
    exact x_tail kU ce hF e2 k2
  · rw [if_neg (show ¬ (i32 (nP g) ≤ (0 : Int32)) from n_le (b := 0) (by omega) (by omega))]
    have hn : 0 < nP g := by omega
    rw [n_move kU.1 hn]
    simp only [Option.bind_some]
    rw [if_pos trivial, n_coord kU.1 hn]
    simp only [Option.bind_some]
    rw [if_pos trivial, n_tie kU.1 hn]
    simp only [Option.bind_some]
    rw [if_pos trivial, n_cross kU.1 hn]
    simp only [Option.bind_some]
    rw [if_pos trivial, n_nei kU.1 hn hF]
    simp only [Option.bind_some]
    rw [if_pos trivial, ← ce]
    exact x_tail kU ce hF e2 k2
theorem bc {α β : Type} {o : Option α} {a : α} {P : α → Prop} {dec : ∀ w, Decidable (P w)} {k : α → Option β} {r : Option β} (h : o = some a) (hp : P a) (e : k a = r) : (o.bind fun w => @ite _ (P w) (dec w) (k w) none) = r := by
  subst h
  exact (if_pos hp).trans e
theorem bk {α β : Type} {o : Option α} {a : α} {f : α → Option β} {r : Option β} (h : o = some a) (e : f a = r) : o.bind f = r := by
  subst h
  exact e
theorem x_refB {ask : TopS → Option (Int64 × TopS)} {hs : Int64} {U0 W : TopS} (kU : Rk F g S U) (hF : 1000 ≤ F) (pe : i_pointCount U0 = i32 (nP g)) (ce : i_constraintCount U0 = i32 (nC g)) (e2 : ask U = some (hs, W)) (k2 : Rk F g U W) : ∃ W, s_refB ask F hs U0 U = some W ∧ Rk F g S W := by
  have pb := p_le kU.1
  have cb := c_le kU.1
  obtain ⟨W9, e9, k9⟩ := x_refC kU hF pe ce e2 k2
  refine ⟨W9, ?_, k9⟩
  have a0 : s_h_corner F U (-1 : Int32) (0 : Int32) = some ((-1001 : Int32), U) := by exact rf_corner kU.1 hF
  have a1 : s_h_beyond F U (i_triangleCount U) (0 : Int32) = some ((-1001 : Int32), U) := by exact rf_beyond kU.1 hF
  have a2 : s_h_end F U (-1 : Int32) (0 : Int32) = some ((-1001 : Int32), U) := by exact rf_end kU.1 hF
  have a3 : s_h_between F U (i_pointCount U0) (0 : Int32) = some ((-1001 : Int32), U) := by rw [pe]; exact rf_between kU.1 (out_n (by omega))
  have a4 : s_h_degree F U (-1 : Int32) = some ((-1001 : Int32), U) := by exact rf_degree kU.1 (out_m (by omega))
  have a5 : s_h_neighbour F U (i_pointCount U0) (0 : Int32) = some ((-1001 : Int32), U) := by rw [pe]; exact rf_neighbour kU.1 (out_n (by omega))
  have a6 : s_h_hull F U (-1 : Int32) = some ((-1001 : Int32), U) := by exact rf_hull
  have a7 : s_h_area F U (-1 : Int32) = some ((-1001 : Int32), U) := by exact rf_area kU.1 hF
  have a8 : s_h_share F U (-1 : Int32) = some ((0xC08F480000000000 : UInt64), U) := by exact rf_share kU.1 hF
  have a9 : s_h_square F U (3 : Int32) = some ((-1001 : Int32), U) := by exact rf_square
  unfold s_refB
  refine bc a0 rfl ?_
  refine bc a1 rfl ?_
  refine bc a2 rfl ?_
  refine bc a3 rfl ?_
  refine bc a4 rfl ?_
  refine bc a5 rfl ?_
  refine bc a6 rfl ?_
  refine bc a7 rfl ?_
  refine bc a8 (show Op.cmpValue (FP.dcmp (0xC08F480000000000 : UInt64) 0xC08F480000000000) CmpOp.l = 0 by decide +kernel) ?_
  refine bc a9 rfl ?_
  exact e9
theorem x_ref9 {ask : TopS → Option (Int64 × TopS)} {hs : Int64} {U0 W : TopS} (h : J F S g) (hF : 1000 ≤ F) (e0 : ask S = some (hs, U0)) (k0 : Rk F g S U0) (e1 : i_readInput F U0 = some ((-100 : Int32), U)) (k1 : Rk F g U0 U) (e2 : ask U = some (hs, W)) (k2 : Rk F g U W) : ∃ W, s_ref9 ask F S = some W ∧ Rk F g S W := by
  have kU := k0.tr k1
  have pb := p_le h
  have cb := c_le h
  have pe := (p_cnt k0.1 hF).1
  have ce := (c_cnt k0.1 hF).1
  have tt : s_h_tie F U0 (0 : Int32) (-1 : Int32) = some ((-1001 : Int32), U0) := by
    by_cases z : nP g = 0
    · exact rf_tie k0.1 (fun ⟨a, ha, _⟩ => by omega)
    · exact rf_tie2 (a := 0) k0.1 (by omega)
  obtain ⟨W9, e9, k9⟩ := x_refB kU hF pe ce e2 k2
  refine ⟨W9, ?_, k9⟩
  have a0 : s_h_point F U0 (-1 : Int32) (0 : Int32) = some ((-1001 : Int32), U0) := by exact rf_point bad_1
  have a1 : s_h_point F U0 (0 : Int32) (101 : Int32) = some ((-1001 : Int32), U0) := by exact rf_point bad_2
  have a2 : s_h_remove F U0 (i_pointCount U0) = some ((-1001 : Int32), U0) := by rw [pe]; exact rf_remove k0.1 (out_n (by omega))
  have a3 : s_h_remove F U0 (-1 : Int32) = some ((-1001 : Int32), U0) := by exact rf_remove k0.1 (out_m (by omega))
  have a4 : s_h_move F U0 (i_pointCount U0) (0 : Int32) (0 : Int32) = some ((-1001 : Int32), U0) := by rw [pe]; exact rf_move k0.1 (out_n (by omega))
  have a5 : s_h_coordinate F U0 (-1 : Int32) (0 : Int32) = some ((-1001 : Int32), U0) := by exact rf_coordinate k0.1 (out_m (by omega))
  have a6 : s_h_tie F U0 (i_pointCount U0) (0 : Int32) = some ((-1001 : Int32), U0) := by rw [pe]; exact rf_tie k0.1 (out_n (by omega))
  have a7 : s_h_tie F U0 (0 : Int32) (-1 : Int32) = some ((-1001 : Int32), U0) := by exact tt
  have a8 : s_h_untie F U0 (i_constraintCount U0) = some ((-1001 : Int32), U0) := by rw [ce]; exact rf_untie k0.1 (out_n (by omega))
  have a9 : s_h_tied F U0 (i_constraintCount U0) (0 : Int32) = some ((-1001 : Int32), U0) := by rw [ce]; exact rf_tied k0.1 (out_n (by omega))
  unfold s_ref9
  refine bk e0 ?_
  refine bc a0 rfl ?_
  refine bc a1 rfl ?_
  refine bc a2 rfl ?_
  refine bc a3 rfl ?_
  refine bc a4 rfl ?_
  refine bc a5 rfl ?_
  refine bc a6 rfl ?_
  refine bc a7 rfl ?_
  refine bc a8 rfl ?_
  refine bc a9 rfl ?_
  refine bc e1 rfl ?_
  exact e9
theorem x_refused (h : J F S g) (hi : S.2.2.2.2.2.1.2.2.2.2.1 = 0) (hF : 1000 ≤ F) : ∃ W, s_L_refused F S = some W ∧ Rk F g S W := by
  obtain ⟨U0, e0, k0⟩ := x_asks h hF
  obtain ⟨U, e1, k1⟩ := x_read k0.1 (k0.2.2.2.2.trans hi) hF
  obtain ⟨W, e2, k2⟩ := x_asks k1.1 hF
  exact x_ref9 (ask := s_L_asks F) h hF e0 k0 e1 k1 e2 k2
end REFU
