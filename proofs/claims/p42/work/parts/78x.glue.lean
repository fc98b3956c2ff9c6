/-! queries where nothing has been drawn -/
section GLUE
variable {F : Nat} {pxs pys plo phi : Nat → Int32} {pn pm : Int32} {mnow : Nat → Int32}
variable {lf th ow lk el eh co hu : Nat → Int32} {ne nt nh : Int32} {xs : Nat → Int32} {fl : Nat → Int64} {fd : Nat → UInt64} {x5 : Int32}
variable {hp : Nat → PlanS} {hnx hkp mols mtri : Int32} {mold medg mcor mnum mmet : Nat → Int32}
theorem cx_ci (ci : CI F (pxs, pys, plo, phi, pn, pm) (lf, th, ow, lk, el, eh, co, hu, ne, nt, nh) hp hnx hkp mnow mold mols) (hF : 1000 ≤ F) (medg mcor : Nat → Int32) :
    ∃ n m X Y L H, CP n m X Y L H pxs pys plo phi pn pm ∧ MP n m X Y L H mnow ∧ Ok n m X Y L H ∧ (n = 0 → ne = i32 0 ∧ nt = i32 0 ∧ pm = i32 0) ∧ ∃ th1 ow1, (0 < n → th1 = th ∧ ow1 = ow) ∧ Cx F n m X Y L H pxs pys plo phi pn pm mnow (lf, th1, ow1, lk, el, eh, co, hu, ne, nt, nh) medg mcor := by
  obtain ⟨⟨n, m, X, Y, L, H, hC, hM, hO⟩, hD, hH⟩ := ci
  have hC : CP n m X Y L H pxs pys plo phi pn pm := hC
  obtain ⟨_, _, _, z, c⟩ := cx_of hC hM hO hD hF
  refine ⟨n, m, X, Y, L, H, hC, hM, hO, fun n0 => ⟨(z n0).1, (z n0).2, ?_⟩, c medg mcor⟩
  have m0 : m = 0 := by
    by_cases y : m = 0
    · exact y
    · have := hO.2.2.2.2.1 0 (by omega)
      omega
  rw [hC.2.1, m0]
theorem n0_t (a0 : Int32) : s_Top_requireTriangle (i32 0) a0 = .inl "java/lang/IndexOutOfBoundsException" := c_rtN (t := 0) (by omega) (fun ⟨a, h, _⟩ => by omega)
theorem n0_e (a0 : Int32) : s_Top_requireEdge (i32 0) a0 = .inl "java/lang/IndexOutOfBoundsException" := c_reN (t := 0) (by omega) (fun ⟨a, h, _⟩ => by omega)
theorem n0_13 (ow1 : Nat → Int32) (a0 a1 : Int32) : s_Law_beyond ow co (i32 0) a0 a1 fl = s_Law_beyond ow1 co (i32 0) a0 a1 fl := by
  unfold s_Law_beyond s_Top_beyond
  rw [n0_t]
  simp only [Sum.elim_inl]
theorem n0_27 (th1 : Nat → Int32) (a0 : Int32) : s_Law_isGood pxs pys th el eh (i32 0) a0 fl = s_Law_isGood pxs pys th1 el eh (i32 0) a0 fl := by
  unfold s_Law_isGood s_Top_isGood
  rw [n0_e]
  simp only [Sum.elim_inl]
theorem n0_31 (ow1 : Nat → Int32) (a0 a1 a2 : Int32) (a3 : Bool) : s_Law_walk F pxs pys ow co (i32 0) a0 a1 a2 a3 fl = s_Law_walk F pxs pys ow1 co (i32 0) a0 a1 a2 a3 fl := by
  unfold s_Law_walk s_Top_walk
  rw [n0_t]
  simp only [Sum.elim_inl]
theorem n0_28 (hF : 1000 ≤ F) (th1 : Nat → Int32) : s_Top_forcedConstraints F pxs pys plo phi (i32 0) th = s_Top_forcedConstraints F pxs pys plo phi (i32 0) th1 := by
  have e : ∀ th : Nat → Int32, s_Top_forcedConstraints_L4 pxs pys plo phi (i32 0) th F 0 0 = some (0, 0) := by
    intro th
    obtain ⟨g, rfl⟩ : ∃ g, F = g + 1 := ⟨F - 1, by omega⟩
    simp only [s_Top_forcedConstraints_L4]
    rw [if_pos (show s_Plan_constraints (i32 0) ≤ (0 : Int32) by decide)]
  unfold s_Top_forcedConstraints
  rw [e, e]
end GLUE
