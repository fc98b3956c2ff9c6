section TAIL
variable {F : Nat} {S U V : TopS} {g gs : Nat → Int32}
theorem x_tail {ask : TopS → Option (Int64 × TopS)} {hs : Int64} (h : Rk F g S U) (hV : i_constraintCount V = i32 (nC g)) (hF : 1000 ≤ F) {W : TopS} (e : ask U = some (hs, W)) (k : Rk F g U W) : ∃ W, s_ref_tail ask F hs V U = some W ∧ Rk F g S W := by
  have cb := c_le h.1
  unfold s_ref_tail
  rw [hV]
  by_cases z : nC g = 0
  · rw [if_pos (show i32 (nC g) ≤ (0 : Int32) from y_le (b := 0) (by omega) (by omega)), e]
    simp only [Option.bind_some]
    rw [if_pos (lgc _)]
    exact ⟨W, rfl, h.tr k⟩
  rw [if_neg (show ¬ (i32 (nC g) ≤ (0 : Int32)) from n_le (b := 0) (by omega) (by omega))]
  obtain ⟨lo, hi, v1, v2, v3, v4, v5, v6, v7⟩ := t_val h.1 (by omega) hF
  rw [show s_h_tied F U (0 : Int32) (2 : Int32) = some ((-1002 : Int32), U) from mf_tied h.1 (by omega)]
  simp only [Option.bind_some]
  rw [if_pos trivial, v3]
  simp only [Option.bind_some]
  rw [mf_remove h.1 (by omega) v5]
  simp only [Option.bind_some]
  rw [if_pos trivial, v4]
  simp only [Option.bind_some]
  rw [mf_move h.1 v2 v6]
  simp only [Option.bind_some]
  rw [if_pos trivial, v4]
  simp only [Option.bind_some]
  rw [mf_hole9 h.1 v2 v6]
  simp only [Option.bind_some]
  rw [if_pos trivial, v4]
  simp only [Option.bind_some]
  rw [v3]
  simp only [Option.bind_some]
  rw [mf_tie9 h.1 v1 v2 v7]
  simp only [Option.bind_some]
  by_cases y : nC g = 10
  · rw [if_pos (show i32 (nC g) = (10 : Int32) by rw [y]; rfl), if_pos y, if_pos rfl, e]
    simp only [Option.bind_some]
    rw [if_pos (lgc _)]
    exact ⟨W, rfl, h.tr k⟩
  · rw [if_neg (show ¬ (i32 (nC g) = (10 : Int32)) from n_eq (b := 10) (by omega) (by omega) y), if_neg y, if_pos rfl, e]
    simp only [Option.bind_some]
    rw [if_pos (lgc _)]
    exact ⟨W, rfl, h.tr k⟩
end TAIL
