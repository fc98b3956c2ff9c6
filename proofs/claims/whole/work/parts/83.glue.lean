/-! the law's state and its queries -/
def SI (F : Nat) (P : PlanS) (M : MeshT) (hp : Nat → PlanS) (hnx hkp : Int32) (mnow mold : Nat → Int32) (mols : Int32) (SP : PlanS) (hsv : Bool) (msav : Nat → Int32) (miss : Bool) (ich : Nat → Int32) (iln : Int32) (minp : Nat → Int32) (mlen : Int32) : Prop :=
  CI F P M hp hnx hkp mnow mold mols ∧ SV SP hsv msav miss ∧ IR ich iln minp mlen
section GLUE
variable {F : Nat} {pxs pys plo phi : Nat → Int32} {pn pm : Int32} {mnow : Nat → Int32}
variable {lf th ow lk el eh co hu : Nat → Int32} {ne nt nh : Int32} {xs : Nat → Int32} {fl : Nat → Int64} {fd : Nat → UInt64} {x5 : Int32}
variable {hp : Nat → PlanS} {hnx hkp mols mtri : Int32} {mold medg mcor mnum mmet : Nat → Int32}
theorem cx_ci (ci : CI F (pxs, pys, plo, phi, pn, pm) (lf, th, ow, lk, el, eh, co, hu, ne, nt, nh) hp hnx hkp mnow mold mols) (hF : 1000 ≤ F) (medg mcor : Nat → Int32) :
    ∃ n m X Y L H, CP n m X Y L H pxs pys plo phi pn pm ∧ MP n m X Y L H mnow ∧ Ok n m X Y L H ∧ (n = 0 → ne = i32 0 ∧ nt = i32 0 ∧ pm = i32 0) ∧ ∃ th1 ow1, (0 < n → th1 = th ∧ ow1 = ow) ∧ Cx F n m X Y L H pxs pys plo phi pn pm mnow (lf, th1, ow1, lk, el, eh, co, hu, ne, nt, nh) medg mcor := by
  obtain ⟨⟨n, m, X, Y, L, H, hC, hM, hO⟩, hD, hH⟩ := ci
  have hC : CP n m X Y L H pxs pys plo phi pn pm := hC
  obtain ⟨_, _, _, z, c⟩ := cx_of hC hM hO hD hF
  refine ⟨n, m, X, Y, L, H, hC, hM, hO, fun n0 => ⟨(z n0).1, (z n0).2, ?_⟩, c medg mcor⟩
  have m0 : m = 0 := by
    by_cases y : m = 0
    · exact y
    · have := hO.2.2.2.2.1 0 (by omega)
      omega
  rw [hC.2.1, m0]
theorem n0_t (a0 : Int32) : s_Top_requireTriangle (i32 0) a0 = .inl "java/lang/IndexOutOfBoundsException" := c_rtN (t := 0) (by omega) (fun ⟨a, h, _⟩ => by omega)
theorem n0_e (a0 : Int32) : s_Top_requireEdge (i32 0) a0 = .inl "java/lang/IndexOutOfBoundsException" := c_reN (t := 0) (by omega) (fun ⟨a, h, _⟩ => by omega)
theorem n0_13 (ow1 : Nat → Int32) (a0 a1 : Int32) : s_Law_beyond ow co (i32 0) a0 a1 fl = s_Law_beyond ow1 co (i32 0) a0 a1 fl := by
  unfold s_Law_beyond s_Top_beyond
  rw [n0_t]
  simp only [Sum.elim_inl]
theorem n0_27 (th1 : Nat → Int32) (a0 : Int32) : s_Law_isGood pxs pys th el eh (i32 0) a0 fl = s_Law_isGood pxs pys th1 el eh (i32 0) a0 fl := by
  unfold s_Law_isGood s_Top_isGood
  rw [n0_e]
  simp only [Sum.elim_inl]
theorem n0_31 (ow1 : Nat → Int32) (a0 a1 a2 : Int32) (a3 : Bool) : s_Law_walk F pxs pys ow co (i32 0) a0 a1 a2 a3 fl = s_Law_walk F pxs pys ow1 co (i32 0) a0 a1 a2 a3 fl := by
  unfold s_Law_walk s_Top_walk
  rw [n0_t]
  simp only [Sum.elim_inl]
theorem n0_28 (hF : 1000 ≤ F) (th1 : Nat → Int32) : s_Top_forcedConstraints F pxs pys plo phi (i32 0) th = s_Top_forcedConstraints F pxs pys plo phi (i32 0) th1 := by
  have e : ∀ th : Nat → Int32, s_Top_forcedConstraints_L4 pxs pys plo phi (i32 0) th F 0 0 = some (0, 0) := by
    intro th
    obtain ⟨g, rfl⟩ : ∃ g, F = g + 1 := ⟨F - 1, by omega⟩
    simp only [s_Top_forcedConstraints_L4]
    rw [if_pos (show s_Plan_constraints (i32 0) ≤ (0 : Int32) by decide)]
  unfold s_Top_forcedConstraints
  rw [e, e]
theorem w_3 (ci : CI F (pxs, pys, plo, phi, pn, pm) (lf, th, ow, lk, el, eh, co, hu, ne, nt, nh) hp hnx hkp mnow mold mols) (hF : 1000 ≤ F) : ∃ out, s_case_3 pn mnow = some out := by
  obtain ⟨n, m, X, Y, L, H, hC, hM, hO, z, th1, ow1, y, cx⟩ := cx_ci ci hF mnow mnow
  exact k_3 hC hM
theorem w_4 (ci : CI F (pxs, pys, plo, phi, pn, pm) (lf, th, ow, lk, el, eh, co, hu, ne, nt, nh) hp hnx hkp mnow mold mols) (hF : 1000 ≤ F) : ∃ out, s_case_4 xs pxs pys pn mnow fl x5 = some out := by
  obtain ⟨n, m, X, Y, L, H, hC, hM, hO, z, th1, ow1, y, cx⟩ := cx_ci ci hF mnow mnow
  exact k_4 hC hM hO
theorem w_7 (ci : CI F (pxs, pys, plo, phi, pn, pm) (lf, th, ow, lk, el, eh, co, hu, ne, nt, nh) hp hnx hkp mnow mold mols) (hF : 1000 ≤ F) : ∃ out, s_case_7 pm mnow = some out := by
  obtain ⟨n, m, X, Y, L, H, hC, hM, hO, z, th1, ow1, y, cx⟩ := cx_ci ci hF mnow mnow
  exact k_7 hC hM
theorem w_8 (ci : CI F (pxs, pys, plo, phi, pn, pm) (lf, th, ow, lk, el, eh, co, hu, ne, nt, nh) hp hnx hkp mnow mold mols) (hF : 1000 ≤ F) : ∃ out, s_case_8 xs plo phi pm mnow fl x5 = some out := by
  obtain ⟨n, m, X, Y, L, H, hC, hM, hO, z, th1, ow1, y, cx⟩ := cx_ci ci hF mnow mnow
  exact k_8 hC hM hO
theorem w_11 (ci : CI F (pxs, pys, plo, phi, pn, pm) (lf, th, ow, lk, el, eh, co, hu, ne, nt, nh) hp hnx hkp mnow mold mols) (hF : 1000 ≤ F) : ∃ out, s_case_11 F nt mnow medg mcor = some out := by
  obtain ⟨n, m, X, Y, L, H, hC, hM, hO, z, th1, ow1, y, cx⟩ := cx_ci ci hF medg mcor
  exact k_11 cx
theorem w_12 (ci : CI F (pxs, pys, plo, phi, pn, pm) (lf, th, ow, lk, el, eh, co, hu, ne, nt, nh) hp hnx hkp mnow mold mols) (hF : 1000 ≤ F) : ∃ out, s_case_12 F xs co nt mnow medg mcor fl x5 = some out := by
  obtain ⟨n, m, X, Y, L, H, hC, hM, hO, z, th1, ow1, y, cx⟩ := cx_ci ci hF medg mcor
  exact k_12 cx
theorem w_13 (ci : CI F (pxs, pys, plo, phi, pn, pm) (lf, th, ow, lk, el, eh, co, hu, ne, nt, nh) hp hnx hkp mnow mold mols) (hF : 1000 ≤ F) : ∃ out, s_case_13 F xs ow co nt mnow medg mcor fl x5 = some out := by
  obtain ⟨n, m, X, Y, L, H, hC, hM, hO, z, th1, ow1, y, cx⟩ := cx_ci ci hF medg mcor
  by_cases n0 : n = 0
  · obtain ⟨z1, z2, z3⟩ := z n0
    have k : ∃ out, s_case_13 F xs ow1 co nt mnow medg mcor fl x5 = some out := k_13 cx
    rw [z2] at k ⊢
    have e : s_case_13 F xs ow co (i32 0) mnow medg mcor fl x5 = s_case_13 F xs ow1 co (i32 0) mnow medg mcor fl x5 := by
      unfold s_case_13
      simp only [n0_13 (ow := ow) ow1]
    rw [e]
    exact k
  · obtain ⟨y1, y2⟩ := y (by omega)
    rw [y1, y2] at cx
    exact k_13 cx
theorem w_14 (ci : CI F (pxs, pys, plo, phi, pn, pm) (lf, th, ow, lk, el, eh, co, hu, ne, nt, nh) hp hnx hkp mnow mold mols) (hF : 1000 ≤ F) : ∃ out, s_case_14 F ne mnow medg mcor = some out := by
  obtain ⟨n, m, X, Y, L, H, hC, hM, hO, z, th1, ow1, y, cx⟩ := cx_ci ci hF medg mcor
  exact k_14 cx
theorem w_15 (ci : CI F (pxs, pys, plo, phi, pn, pm) (lf, th, ow, lk, el, eh, co, hu, ne, nt, nh) hp hnx hkp mnow mold mols) (hF : 1000 ≤ F) : ∃ out, s_case_15 F xs el eh ne mnow medg mcor mnum fl x5 = some out := by
  obtain ⟨n, m, X, Y, L, H, hC, hM, hO, z, th1, ow1, y, cx⟩ := cx_ci ci hF medg mcor
  exact k_15 cx
theorem w_16 (ci : CI F (pxs, pys, plo, phi, pn, pm) (lf, th, ow, lk, el, eh, co, hu, ne, nt, nh) hp hnx hkp mnow mold mols) (hF : 1000 ≤ F) : ∃ out, s_case_16 F xs pn el eh ne mnow medg mcor mtri fl x5 = some out := by
  obtain ⟨n, m, X, Y, L, H, hC, hM, hO, z, th1, ow1, y, cx⟩ := cx_ci ci hF medg mcor
  exact k_16 cx
theorem w_17 (ci : CI F (pxs, pys, plo, phi, pn, pm) (lf, th, ow, lk, el, eh, co, hu, ne, nt, nh) hp hnx hkp mnow mold mols) (hF : 1000 ≤ F) : ∃ out, s_case_17 F xs pn lk mnow medg mcor mtri fl x5 = some out := by
  obtain ⟨n, m, X, Y, L, H, hC, hM, hO, z, th1, ow1, y, cx⟩ := cx_ci ci hF medg mcor
  exact k_17 cx
theorem w_18 (ci : CI F (pxs, pys, plo, phi, pn, pm) (lf, th, ow, lk, el, eh, co, hu, ne, nt, nh) hp hnx hkp mnow mold mols) (hF : 1000 ≤ F) : ∃ out, s_case_18 F xs pn lk mnow medg mcor mtri fl x5 = some out := by
  obtain ⟨n, m, X, Y, L, H, hC, hM, hO, z, th1, ow1, y, cx⟩ := cx_ci ci hF medg mcor
  exact k_18 cx
theorem w_19 (ci : CI F (pxs, pys, plo, phi, pn, pm) (lf, th, ow, lk, el, eh, co, hu, ne, nt, nh) hp hnx hkp mnow mold mols) (hF : 1000 ≤ F) : ∃ out, s_case_19 F nh mnow medg mcor = some out := by
  obtain ⟨n, m, X, Y, L, H, hC, hM, hO, z, th1, ow1, y, cx⟩ := cx_ci ci hF medg mcor
  exact k_19 cx
theorem w_20 (ci : CI F (pxs, pys, plo, phi, pn, pm) (lf, th, ow, lk, el, eh, co, hu, ne, nt, nh) hp hnx hkp mnow mold mols) (hF : 1000 ≤ F) : ∃ out, s_case_20 F xs hu nh mnow medg mcor fl x5 = some out := by
  obtain ⟨n, m, X, Y, L, H, hC, hM, hO, z, th1, ow1, y, cx⟩ := cx_ci ci hF medg mcor
  exact k_20 cx
theorem w_21 (ci : CI F (pxs, pys, plo, phi, pn, pm) (lf, th, ow, lk, el, eh, co, hu, ne, nt, nh) hp hnx hkp mnow mold mols) (hF : 1000 ≤ F) : ∃ out, s_case_21 F xs pxs pys co nt mnow medg mcor fl x5 = some out := by
  obtain ⟨n, m, X, Y, L, H, hC, hM, hO, z, th1, ow1, y, cx⟩ := cx_ci ci hF medg mcor
  exact k_21 cx
theorem w_22 (ci : CI F (pxs, pys, plo, phi, pn, pm) (lf, th, ow, lk, el, eh, co, hu, ne, nt, nh) hp hnx hkp mnow mold mols) (hF : 1000 ≤ F) : ∃ out, s_case_22 F xs pxs pys co nt mnow medg mcor fd x5 = some out := by
  obtain ⟨n, m, X, Y, L, H, hC, hM, hO, z, th1, ow1, y, cx⟩ := cx_ci ci hF medg mcor
  exact k_22 cx
theorem w_23 (ci : CI F (pxs, pys, plo, phi, pn, pm) (lf, th, ow, lk, el, eh, co, hu, ne, nt, nh) hp hnx hkp mnow mold mols) (hF : 1000 ≤ F) : ∃ out, s_case_23 F pn ne mnow medg mcor mtri fd = some out := by
  obtain ⟨n, m, X, Y, L, H, hC, hM, hO, z, th1, ow1, y, cx⟩ := cx_ci ci hF medg mcor
  exact k_23 cx
theorem w_24 (ci : CI F (pxs, pys, plo, phi, pn, pm) (lf, th, ow, lk, el, eh, co, hu, ne, nt, nh) hp hnx hkp mnow mold mols) (hF : 1000 ≤ F) : ∃ out, s_case_24 F xs pxs pys pn el eh ne mnow medg mcor mtri mmet fl x5 = some out := by
  obtain ⟨n, m, X, Y, L, H, hC, hM, hO, z, th1, ow1, y, cx⟩ := cx_ci ci hF medg mcor
  exact k_24 cx
theorem w_25 (ci : CI F (pxs, pys, plo, phi, pn, pm) (lf, th, ow, lk, el, eh, co, hu, ne, nt, nh) hp hnx hkp mnow mold mols) (hF : 1000 ≤ F) : ∃ out, s_case_25 xs pxs pys pn mnow fl x5 = some out := by
  obtain ⟨n, m, X, Y, L, H, hC, hM, hO, z, th1, ow1, y, cx⟩ := cx_ci ci hF mnow mnow
  exact k_25 hC hM hO
theorem w_26 (ci : CI F (pxs, pys, plo, phi, pn, pm) (lf, th, ow, lk, el, eh, co, hu, ne, nt, nh) hp hnx hkp mnow mold mols) (hF : 1000 ≤ F) : ∃ out, s_case_26 xs pxs pys pn mnow fl x5 = some out := by
  obtain ⟨n, m, X, Y, L, H, hC, hM, hO, z, th1, ow1, y, cx⟩ := cx_ci ci hF mnow mnow
  exact k_26 hC hM hO
theorem w_27 (ci : CI F (pxs, pys, plo, phi, pn, pm) (lf, th, ow, lk, el, eh, co, hu, ne, nt, nh) hp hnx hkp mnow mold mols) (hF : 1000 ≤ F) : ∃ out, s_case_27 F xs pxs pys th el eh ne mnow medg mcor mnum fl x5 = some out := by
  obtain ⟨n, m, X, Y, L, H, hC, hM, hO, z, th1, ow1, y, cx⟩ := cx_ci ci hF medg mcor
  by_cases n0 : n = 0
  · obtain ⟨z1, z2, z3⟩ := z n0
    have k : ∃ out, s_case_27 F xs pxs pys th1 el eh ne mnow medg mcor mnum fl x5 = some out := k_27 cx
    rw [z1] at k ⊢
    have e : s_case_27 F xs pxs pys th el eh (i32 0) mnow medg mcor mnum fl x5 = s_case_27 F xs pxs pys th1 el eh (i32 0) mnow medg mcor mnum fl x5 := by
      unfold s_case_27
      simp only [n0_27 (th := th) th1]
    rw [e]
    exact k
  · obtain ⟨y1, y2⟩ := y (by omega)
    rw [y1, y2] at cx
    exact k_27 cx
theorem w_28 (ci : CI F (pxs, pys, plo, phi, pn, pm) (lf, th, ow, lk, el, eh, co, hu, ne, nt, nh) hp hnx hkp mnow mold mols) (hF : 1000 ≤ F) : ∃ out, s_case_28 F pxs pys plo phi pm th mnow medg mcor = some out := by
  obtain ⟨n, m, X, Y, L, H, hC, hM, hO, z, th1, ow1, y, cx⟩ := cx_ci ci hF medg mcor
  by_cases n0 : n = 0
  · obtain ⟨z1, z2, z3⟩ := z n0
    have k : ∃ out, s_case_28 F pxs pys plo phi pm th1 mnow medg mcor = some out := k_28 cx
    rw [z3] at k ⊢
    have e : s_case_28 F pxs pys plo phi (i32 0) th mnow medg mcor = s_case_28 F pxs pys plo phi (i32 0) th1 mnow medg mcor := by
      unfold s_case_28
      simp only [n0_28 (th := th) hF th1]
    rw [e]
    exact k
  · obtain ⟨y1, y2⟩ := y (by omega)
    rw [y1, y2] at cx
    exact k_28 cx
theorem w_29 (ci : CI F (pxs, pys, plo, phi, pn, pm) (lf, th, ow, lk, el, eh, co, hu, ne, nt, nh) hp hnx hkp mnow mold mols) (hF : 1000 ≤ F) : ∃ out, s_case_29 F xs pxs pys pn el eh co ne nt mnow medg mcor mtri fl x5 = some out := by
  obtain ⟨n, m, X, Y, L, H, hC, hM, hO, z, th1, ow1, y, cx⟩ := cx_ci ci hF medg mcor
  exact k_29 cx
theorem w_30 (ci : CI F (pxs, pys, plo, phi, pn, pm) (lf, th, ow, lk, el, eh, co, hu, ne, nt, nh) hp hnx hkp mnow mold mols) (hF : 1000 ≤ F) : ∃ out, s_case_30 F xs pxs pys pn el eh co ne nt mnow medg mcor mtri fl x5 = some out := by
  obtain ⟨n, m, X, Y, L, H, hC, hM, hO, z, th1, ow1, y, cx⟩ := cx_ci ci hF medg mcor
  exact k_30 cx
theorem w_31 (ci : CI F (pxs, pys, plo, phi, pn, pm) (lf, th, ow, lk, el, eh, co, hu, ne, nt, nh) hp hnx hkp mnow mold mols) (hF : 1000 ≤ F) : ∃ out, s_case_31 F xs pxs pys ow co nt mnow medg mcor fl x5 = some out := by
  obtain ⟨n, m, X, Y, L, H, hC, hM, hO, z, th1, ow1, y, cx⟩ := cx_ci ci hF medg mcor
  by_cases n0 : n = 0
  · obtain ⟨z1, z2, z3⟩ := z n0
    have k : ∃ out, s_case_31 F xs pxs pys ow1 co nt mnow medg mcor fl x5 = some out := k_31 cx
    rw [z2] at k ⊢
    have e : s_case_31 F xs pxs pys ow co (i32 0) mnow medg mcor fl x5 = s_case_31 F xs pxs pys ow1 co (i32 0) mnow medg mcor fl x5 := by
      unfold s_case_31
      simp only [n0_31 (ow := ow) ow1]
    rw [e]
    exact k
  · obtain ⟨y1, y2⟩ := y (by omega)
    rw [y1, y2] at cx
    exact k_31 cx
theorem w_34 (ci : CI F (pxs, pys, plo, phi, pn, pm) (lf, th, ow, lk, el, eh, co, hu, ne, nt, nh) hp hnx hkp mnow mold mols) (hF : 1000 ≤ F) : ∃ out, s_case_34 F xs pxs pys pn lf el eh ne mnow medg mcor mtri fl x5 = some out := by
  obtain ⟨n, m, X, Y, L, H, hC, hM, hO, z, th1, ow1, y, cx⟩ := cx_ci ci hF medg mcor
  exact k_34 cx
end GLUE
