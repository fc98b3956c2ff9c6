/-! refused, and the law's body -/
def s_ref_tail (ask : TopS → Option (Int64 × TopS)) (F : Nat) (hs : Int64) (V U : TopS) : Option TopS :=
  if (i_constraintCount V) ≤ 0 then
    ((ask U )).bind fun v66 =>
    if (lg_cmp v66.1 hs) = 0 then
      some v66.2
    else
      none
  else
    ((s_h_tied F U (0 : Int32) (2 : Int32))).bind fun v68 =>
    if v68.1 = (-1002 : Int32) then
      ((s_h_tied F v68.2 (0 : Int32) (0 : Int32))).bind fun v70 =>
      ((s_h_remove F v70.2 v70.1)).bind fun v71 =>
      if v71.1 = (-1002 : Int32) then
        ((s_h_tied F v71.2 (0 : Int32) (1 : Int32))).bind fun v73 =>
        ((s_h_move F v73.2 v73.1 (50 : Int32) (50 : Int32))).bind fun v74 =>
        if v74.1 = (-1003 : Int32) then
          ((s_h_tied F v74.2 (0 : Int32) (1 : Int32))).bind fun v76 =>
          ((s_h_hole F v76.2 v76.1)).bind fun v77 =>
          if v77.1 = (-1002 : Int32) then
            ((s_h_tied F v77.2 (0 : Int32) (1 : Int32))).bind fun v79 =>
            ((s_h_tied F v79.2 (0 : Int32) (0 : Int32))).bind fun v80 =>
            ((s_h_tie F v80.2 v79.1 v80.1)).bind fun v81 =>
            if (i_constraintCount V) = (10 : Int32) then
              if v81.1 = (-1003 : Int32) then
                ((ask v81.2 )).bind fun v87 =>
                if (lg_cmp v87.1 hs) = 0 then
                  some v87.2
                else
                  none
              else
                none
            else
              if v81.1 = (-1004 : Int32) then
                ((ask v81.2 )).bind fun v84 =>
                if (lg_cmp v84.1 hs) = 0 then
                  some v84.2
                else
                  none
              else
                none
          else
            none
        else
          none
      else
        none
    else
      none
def s_refC (ask : TopS → Option (Int64 × TopS)) (F : Nat) (hs : Int64) (V U : TopS) : Option TopS :=
  ((s_h_turn F U (0 : Int32) (0 : Int32) (i_pointCount V))).bind fun v44 =>
  if v44.1 = (-1001 : Int32) then
    ((s_h_circle F v44.2 (i_pointCount V) (0 : Int32) (0 : Int32) (0 : Int32))).bind fun v46 =>
    if v46.1 = (-1001 : Int32) then
      ((s_h_good F v46.2 (-1 : Int32))).bind fun v48 =>
      if v48.1 = (-1001 : Int32) then
        ((s_h_kind F v48.2 (-1 : Int32) (0 : Int32))).bind fun v50 =>
        if v50.1 = (-1001 : Int32) then
          ((s_h_number F v50.2 (0 : Int32) (101 : Int32))).bind fun v52 =>
          if v52.1 = (-1001 : Int32) then
            ((s_h_walk F v52.2 (-1 : Int32) (0 : Int32) (0 : Int32) true)).bind fun v54 =>
            if v54.1 = (-1001 : Int32) then
              ((s_h_cavity F v54.2 (101 : Int32) (0 : Int32))).bind fun v56 =>
              if v56.1 = (-1001 : Int32) then
                ((s_h_hole F v56.2 (i_pointCount V))).bind fun v58 =>
                if v58.1 = (-1001 : Int32) then
                  ((s_h_crossings F v58.2 (i_pointCount V) (0 : Int32))).bind fun v60 =>
                  if v60.1 = (-1001 : Int32) then
                    ((s_h_effect F v60.2 (i_constraintCount V))).bind fun v62 =>
                    if v62.1 = (-1001 : Int32) then
                      if (i_pointCount V) ≤ 0 then
                        if (i_constraintCount V) ≤ 0 then
                          ((ask v62.2 )).bind fun v66 =>
                          if (lg_cmp v66.1 hs) = 0 then
                            some v66.2
                          else
                            none
                        else
                          ((s_h_tied F v62.2 (0 : Int32) (2 : Int32))).bind fun v68 =>
                          if v68.1 = (-1002 : Int32) then
                            ((s_h_tied F v68.2 (0 : Int32) (0 : Int32))).bind fun v70 =>
                            ((s_h_remove F v70.2 v70.1)).bind fun v71 =>
                            if v71.1 = (-1002 : Int32) then
                              ((s_h_tied F v71.2 (0 : Int32) (1 : Int32))).bind fun v73 =>
                              ((s_h_move F v73.2 v73.1 (50 : Int32) (50 : Int32))).bind fun v74 =>
                              if v74.1 = (-1003 : Int32) then
                                ((s_h_tied F v74.2 (0 : Int32) (1 : Int32))).bind fun v76 =>
                                ((s_h_hole F v76.2 v76.1)).bind fun v77 =>
                                if v77.1 = (-1002 : Int32) then
                                  ((s_h_tied F v77.2 (0 : Int32) (1 : Int32))).bind fun v79 =>
                                  ((s_h_tied F v79.2 (0 : Int32) (0 : Int32))).bind fun v80 =>
                                  ((s_h_tie F v80.2 v79.1 v80.1)).bind fun v81 =>
                                  if (i_constraintCount V) = (10 : Int32) then
                                    if v81.1 = (-1003 : Int32) then
                                      ((ask v81.2 )).bind fun v87 =>
                                      if (lg_cmp v87.1 hs) = 0 then
                                        some v87.2
                                      else
                                        none
                                    else
                                      none
                                  else
                                    if v81.1 = (-1004 : Int32) then
                                      ((ask v81.2 )).bind fun v84 =>
                                      if (lg_cmp v84.1 hs) = 0 then
                                        some v84.2
                                      else
                                        none
                                    else
                                      none
                                else
                                  none
                              else
                                none
                            else
                              none
                          else
                            none
                      else
                        ((s_h_move F v62.2 (0 : Int32) (101 : Int32) (0 : Int32))).bind fun v89 =>
                        if v89.1 = (-1002 : Int32) then
                          ((s_h_coordinate F v89.2 (0 : Int32) (2 : Int32))).bind fun v91 =>
                          if v91.1 = (-1002 : Int32) then
                            ((s_h_tie F v91.2 (0 : Int32) (0 : Int32))).bind fun v93 =>
                            if v93.1 = (-1002 : Int32) then
                              ((s_h_crossings F v93.2 (0 : Int32) (0 : Int32))).bind fun v95 =>
                              if v95.1 = (-1002 : Int32) then
                                ((s_h_neighbour F v95.2 (0 : Int32) (99 : Int32))).bind fun v97 =>
                                if v97.1 = (-1002 : Int32) then
                                  if (i_constraintCount V) ≤ 0 then
                                    ((ask v97.2 )).bind fun v100 =>
                                    if (lg_cmp v100.1 hs) = 0 then
                                      some v100.2
                                    else
                                      none
                                  else
                                    ((s_h_tied F v97.2 (0 : Int32) (2 : Int32))).bind fun v102 =>
                                    if v102.1 = (-1002 : Int32) then
                                      ((s_h_tied F v102.2 (0 : Int32) (0 : Int32))).bind fun v104 =>
                                      ((s_h_remove F v104.2 v104.1)).bind fun v105 =>
                                      if v105.1 = (-1002 : Int32) then
                                        ((s_h_tied F v105.2 (0 : Int32) (1 : Int32))).bind fun v107 =>
                                        ((s_h_move F v107.2 v107.1 (50 : Int32) (50 : Int32))).bind fun v108 =>
                                        if v108.1 = (-1003 : Int32) then
                                          ((s_h_tied F v108.2 (0 : Int32) (1 : Int32))).bind fun v110 =>
                                          ((s_h_hole F v110.2 v110.1)).bind fun v111 =>
                                          if v111.1 = (-1002 : Int32) then
                                            ((s_h_tied F v111.2 (0 : Int32) (1 : Int32))).bind fun v113 =>
                                            ((s_h_tied F v113.2 (0 : Int32) (0 : Int32))).bind fun v114 =>
                                            ((s_h_tie F v114.2 v113.1 v114.1)).bind fun v115 =>
                                            if (i_constraintCount V) = (10 : Int32) then
                                              if v115.1 = (-1003 : Int32) then
                                                ((ask v115.2 )).bind fun v121 =>
                                                if (lg_cmp v121.1 hs) = 0 then
                                                  some v121.2
                                                else
                                                  none
                                              else
                                                none
                                            else
                                              if v115.1 = (-1004 : Int32) then
                                                ((ask v115.2 )).bind fun v118 =>
                                                if (lg_cmp v118.1 hs) = 0 then
                                                  some v118.2
                                                else
                                                  none
                                              else
                                                none
                                          else
                                            none
                                        else
                                          none
                                      else
                                        none
                                    else
                                      none
                                else
                                  none
                              else
                                none
                            else
                              none
                          else
                            none
                        else
                          none
                    else
                      none
                  else
                    none
                else
                  none
              else
                none
            else
              none
          else
            none
        else
          none
      else
        none
    else
      none
  else
    none
def s_refB (ask : TopS → Option (Int64 × TopS)) (F : Nat) (hs : Int64) (V U : TopS) : Option TopS :=
  ((s_h_corner F U (-1 : Int32) (0 : Int32))).bind fun v24 =>
  if v24.1 = (-1001 : Int32) then
    ((s_h_beyond F v24.2 (i_triangleCount v24.2) (0 : Int32))).bind fun v26 =>
    if v26.1 = (-1001 : Int32) then
      ((s_h_end F v26.2 (-1 : Int32) (0 : Int32))).bind fun v28 =>
      if v28.1 = (-1001 : Int32) then
        ((s_h_between F v28.2 (i_pointCount V) (0 : Int32))).bind fun v30 =>
        if v30.1 = (-1001 : Int32) then
          ((s_h_degree F v30.2 (-1 : Int32))).bind fun v32 =>
          if v32.1 = (-1001 : Int32) then
            ((s_h_neighbour F v32.2 (i_pointCount V) (0 : Int32))).bind fun v34 =>
            if v34.1 = (-1001 : Int32) then
              ((s_h_hull F v34.2 (-1 : Int32))).bind fun v36 =>
              if v36.1 = (-1001 : Int32) then
                ((s_h_area F v36.2 (-1 : Int32))).bind fun v38 =>
                if v38.1 = (-1001 : Int32) then
                  ((s_h_share F v38.2 (-1 : Int32))).bind fun v40 =>
                  if (Op.cmpValue (FP.dcmp v40.1 (0xC08F480000000000 : UInt64)) CmpOp.l) = 0 then
                    ((s_h_square F v40.2 (3 : Int32))).bind fun v42 =>
                    if v42.1 = (-1001 : Int32) then
                      s_refC ask F hs V v42.2
                    else
                      none
                  else
                    none
                else
                  none
              else
                none
            else
              none
          else
            none
        else
          none
      else
        none
    else
      none
  else
    none
def s_ref9 (ask : TopS → Option (Int64 × TopS)) (F : Nat) (S : TopS) : Option TopS :=
  ((ask S )).bind fun v1 =>
  ((s_h_point F v1.2 (-1 : Int32) (0 : Int32))).bind fun v2 =>
  if v2.1 = (-1001 : Int32) then
    ((s_h_point F v2.2 (0 : Int32) (101 : Int32))).bind fun v4 =>
    if v4.1 = (-1001 : Int32) then
      ((s_h_remove F v4.2 (i_pointCount v1.2))).bind fun v6 =>
      if v6.1 = (-1001 : Int32) then
        ((s_h_remove F v6.2 (-1 : Int32))).bind fun v8 =>
        if v8.1 = (-1001 : Int32) then
          ((s_h_move F v8.2 (i_pointCount v1.2) (0 : Int32) (0 : Int32))).bind fun v10 =>
          if v10.1 = (-1001 : Int32) then
            ((s_h_coordinate F v10.2 (-1 : Int32) (0 : Int32))).bind fun v12 =>
            if v12.1 = (-1001 : Int32) then
              ((s_h_tie F v12.2 (i_pointCount v1.2) (0 : Int32))).bind fun v14 =>
              if v14.1 = (-1001 : Int32) then
                ((s_h_tie F v14.2 (0 : Int32) (-1 : Int32))).bind fun v16 =>
                if v16.1 = (-1001 : Int32) then
                  ((s_h_untie F v16.2 (i_constraintCount v1.2))).bind fun v18 =>
                  if v18.1 = (-1001 : Int32) then
                    ((s_h_tied F v18.2 (i_constraintCount v1.2) (0 : Int32))).bind fun v20 =>
                    if v20.1 = (-1001 : Int32) then
                      ((i_readInput F v20.2)).bind fun v22 =>
                      if v22.1 = (-100 : Int32) then
                        s_refB ask F v1.1 v1.2 v22.2
                      else
                        none
                    else
                      none
                  else
                    none
                else
                  none
              else
                none
            else
              none
          else
            none
        else
          none
      else
        none
    else
      none
  else
    none
theorem p_le {F : Nat} {U : TopS} {g : Nat → Int32} (h : J F U g) : nP g ≤ 16 := by
  obtain ⟨n, m, X, Y, L, H, hC, hM, hO, hR⟩ := j_of h
  obtain ⟨en, em⟩ := np_of hM hO
  rw [en]; exact hO.1
theorem c_le {F : Nat} {U : TopS} {g : Nat → Int32} (h : J F U g) : nC g ≤ 10 := by
  obtain ⟨n, m, X, Y, L, H, hC, hM, hO, hR⟩ := j_of h
  obtain ⟨en, em⟩ := np_of hM hO
  rw [em]; exact hO.2.1
section REF
variable {F : Nat} {S U V : TopS} {g gs : Nat → Int32} {a0 a1 a2 : Int32}
theorem rp_out (h : J F U g) (ha : ¬ ∃ a, a < nP g ∧ a0 = i32 a) : s_Top_requirePoint U.1.2.2.2.2.1 a0 = .inl "java/lang/IndexOutOfBoundsException" := by
  obtain ⟨n, m, X, Y, L, H, hC, hM, hO, hR⟩ := j_of h
  obtain ⟨en, em⟩ := np_of hM hO
  rw [en] at ha
  rw [hC.1]; exact c_rpN hO.1 ha
theorem rp_in (h : J F U g) {a : Nat} (ha : a < nP g) : s_Top_requirePoint U.1.2.2.2.2.1 (i32 a) = .inr () := by
  obtain ⟨n, m, X, Y, L, H, hC, hM, hO, hR⟩ := j_of h
  obtain ⟨en, em⟩ := np_of hM hO
  rw [en] at ha
  rw [hC.1]; exact c_rpY hO.1 ha
theorem rc_out (h : J F U g) (ha : ¬ ∃ a, a < nC g ∧ a0 = i32 a) : s_Top_requireConstraint U.1.2.2.2.2.2 a0 = .inl "java/lang/IndexOutOfBoundsException" := by
  obtain ⟨n, m, X, Y, L, H, hC, hM, hO, hR⟩ := j_of h
  obtain ⟨en, em⟩ := np_of hM hO
  rw [em] at ha
  rw [hC.2.1]; exact c_rcN hO.2.1 ha
theorem out_n {n : Nat} (hn : n < 1000) : ¬ ∃ a, a < n ∧ i32 n = i32 a := fun ⟨a, ha, e⟩ => by have := (i32_eq (by omega) (by omega)).1 e; omega
theorem out_m {n : Nat} (hn : n < 1000) : ¬ ∃ a, a < n ∧ (-1 : Int32) = i32 a := fun ⟨a, ha, e⟩ => ne_m1 (by omega) e.symm
theorem rt_out (h : J F U g) (hF : 1000 ≤ F) : s_Top_requireTriangle U.2.1.2.2.2.2.2.2.2.2.2.1 (-1 : Int32) = .inl "java/lang/IndexOutOfBoundsException" ∧ s_Top_requireTriangle U.2.1.2.2.2.2.2.2.2.2.2.1 (i_triangleCount U) = .inl "java/lang/IndexOutOfBoundsException" := by
  obtain ⟨t, ht, e⟩ := b_tris h hF
  have e' : U.2.1.2.2.2.2.2.2.2.2.2.1 = i32 t := e
  rw [e, e']
  exact ⟨c_rtN (by omega) (out_m (by omega)), c_rtN (by omega) (out_n (by omega))⟩
theorem re_out (h : J F U g) (hF : 1000 ≤ F) : s_Top_requireEdge U.2.1.2.2.2.2.2.2.2.2.1 (-1 : Int32) = .inl "java/lang/IndexOutOfBoundsException" := by
  obtain ⟨t, ht, e⟩ := b_edges h hF
  have e' : U.2.1.2.2.2.2.2.2.2.2.1 = i32 t := e
  rw [e']
  exact c_reN (by omega) (out_m (by omega))
theorem rf_remove (h : J F U g) (ha : ¬ ∃ a, a < nP g ∧ a0 = i32 a) : s_h_remove F U a0 = some ((-1001 : Int32), U) := by
  unfold s_h_remove s_Top_removePoint
  rw [rp_out h ha]
  simp only [Option.bind_some, Sum.elim_inl]
  rw [if_pos trivial]
theorem rf_move (h : J F U g) (ha : ¬ ∃ a, a < nP g ∧ a0 = i32 a) : s_h_move F U a0 a1 a2 = some ((-1001 : Int32), U) := by
  unfold s_h_move s_Top_movePoint
  rw [rp_out h ha]
  simp only [Option.bind_some, Sum.elim_inl]
  rw [if_pos trivial]
theorem rf_coordinate (h : J F U g) (ha : ¬ ∃ a, a < nP g ∧ a0 = i32 a) : s_h_coordinate F U a0 a1 = some ((-1001 : Int32), U) := by
  unfold s_h_coordinate s_Top_coordinate
  rw [rp_out h ha]
  simp only [Sum.elim_inl]
  rw [if_pos trivial]
theorem rf_tie (h : J F U g) (ha : ¬ ∃ a, a < nP g ∧ a0 = i32 a) : s_h_tie F U a0 a1 = some ((-1001 : Int32), U) := by
  unfold s_h_tie s_Top_addConstraint
  rw [rp_out h ha]
  simp only [Option.bind_some, Sum.elim_inl]
  rw [if_pos trivial]
theorem rf_untie (h : J F U g) (ha : ¬ ∃ a, a < nC g ∧ a0 = i32 a) : s_h_untie F U a0 = some ((-1001 : Int32), U) := by
  unfold s_h_untie s_Top_removeConstraint
  rw [rc_out h ha]
  simp only [Option.bind_some, Sum.elim_inl]
  rw [if_pos trivial]
theorem rf_tied (h : J F U g) (ha : ¬ ∃ a, a < nC g ∧ a0 = i32 a) : s_h_tied F U a0 a1 = some ((-1001 : Int32), U) := by
  unfold s_h_tied s_Top_constraintEnd
  rw [rc_out h ha]
  simp only [Sum.elim_inl]
  rw [if_pos trivial]
theorem rf_corner (h : J F U g) (hF : 1000 ≤ F) : s_h_corner F U (-1 : Int32) a1 = some ((-1001 : Int32), U) := by
  unfold s_h_corner s_Top_corner
  rw [(rt_out h hF).1]
  simp only [Sum.elim_inl]
  rw [if_pos trivial]
theorem rf_beyond (h : J F U g) (hF : 1000 ≤ F) : s_h_beyond F U (i_triangleCount U) a1 = some ((-1001 : Int32), U) := by
  unfold s_h_beyond s_Top_beyond
  rw [(rt_out h hF).2]
  simp only [Sum.elim_inl]
  rw [if_pos trivial]
theorem rf_end (h : J F U g) (hF : 1000 ≤ F) : s_h_end F U (-1 : Int32) a1 = some ((-1001 : Int32), U) := by
  unfold s_h_end s_Top_edgeEnd
  rw [re_out h hF]
  simp only [Sum.elim_inl]
  rw [if_pos trivial]
theorem rf_between (h : J F U g) (ha : ¬ ∃ a, a < nP g ∧ a0 = i32 a) : s_h_between F U a0 a1 = some ((-1001 : Int32), U) := by
  unfold s_h_between s_Top_edgeBetween
  rw [rp_out h ha]
  simp only [Option.bind_some, Sum.elim_inl]
  rw [if_pos trivial]
theorem rf_degree (h : J F U g) (ha : ¬ ∃ a, a < nP g ∧ a0 = i32 a) : s_h_degree F U a0 = some ((-1001 : Int32), U) := by
  unfold s_h_degree s_Top_degree
  rw [rp_out h ha]
  simp only [Sum.elim_inl]
  rw [if_pos trivial]
theorem rf_neighbour (h : J F U g) (ha : ¬ ∃ a, a < nP g ∧ a0 = i32 a) : s_h_neighbour F U a0 a1 = some ((-1001 : Int32), U) := by
  unfold s_h_neighbour s_Top_neighbour
  rw [rp_out h ha]
  simp only [Option.bind_some, Sum.elim_inl]
  rw [if_pos trivial]
theorem rf_area (h : J F U g) (hF : 1000 ≤ F) : s_h_area F U (-1 : Int32) = some ((-1001 : Int32), U) := by
  unfold s_h_area s_Top_twiceArea
  rw [(rt_out h hF).1]
  simp only [Sum.elim_inl]
  rw [if_pos trivial]
theorem rf_share (h : J F U g) (hF : 1000 ≤ F) : s_h_share F U (-1 : Int32) = some ((0xC08F480000000000 : UInt64), U) := by
  unfold s_h_share s_Top_areaShare
  rw [(rt_out h hF).1]
  simp only [Option.bind_some, Sum.elim_inl]
  rw [if_pos trivial]
theorem rf_circle (h : J F U g) {a3 : Int32} (ha : ¬ ∃ a, a < nP g ∧ a0 = i32 a) : s_h_circle F U a0 a1 a2 a3 = some ((-1001 : Int32), U) := by
  unfold s_h_circle s_Top_inCircle
  rw [rp_out h ha]
  simp only [Sum.elim_inl]
  rw [if_pos trivial]
theorem rf_good (h : J F U g) (hF : 1000 ≤ F) : s_h_good F U (-1 : Int32) = some ((-1001 : Int32), U) := by
  unfold s_h_good s_Top_isGood
  rw [re_out h hF]
  simp only [Sum.elim_inl]
  rw [if_pos trivial]
theorem rf_walk (h : J F U g) (hF : 1000 ≤ F) : s_h_walk F U (-1 : Int32) a1 a2 true = some ((-1001 : Int32), U) := by
  unfold s_h_walk s_Top_walk
  rw [(rt_out h hF).1]
  simp only [Option.bind_some, Sum.elim_inl]
  rw [if_pos trivial]
theorem rf_hole (h : J F U g) (ha : ¬ ∃ a, a < nP g ∧ a0 = i32 a) : s_h_hole F U a0 = some ((-1001 : Int32), U) := by
  unfold s_h_hole s_Top_hole
  rw [rp_out h ha]
  simp only [Option.bind_some, Sum.elim_inl]
  rw [if_pos trivial]
theorem rf_crossings (h : J F U g) (ha : ¬ ∃ a, a < nP g ∧ a0 = i32 a) : s_h_crossings F U a0 a1 = some ((-1001 : Int32), U) := by
  unfold s_h_crossings s_Top_crossings
  rw [rp_out h ha]
  simp only [Option.bind_some, Sum.elim_inl]
  rw [if_pos trivial]
theorem rf_effect (h : J F U g) (ha : ¬ ∃ a, a < nC g ∧ a0 = i32 a) : s_h_effect F U a0 = some ((-1001 : Int32), U) := by
  unfold s_h_effect s_Top_effect
  rw [rc_out h ha]
  simp only [Option.bind_some, Sum.elim_inl]
  rw [if_pos trivial]
theorem rf_tie2 (h : J F U g) {a : Nat} (ha : a < nP g) : s_h_tie F U (i32 a) (-1 : Int32) = some ((-1001 : Int32), U) := by
  have hb := (p_le h)
  unfold s_h_tie s_Top_addConstraint
  rw [rp_in h ha]
  simp only [Sum.elim_inr]
  rw [rp_out h (out_m (by omega))]
  simp only [Option.bind_some, Sum.elim_inl]
  rw [if_pos trivial]
theorem rf_turn (h : J F U g) : s_h_turn F U (0 : Int32) (0 : Int32) (i32 (nP g)) = some ((-1001 : Int32), U) := by
  have hb := (p_le h)
  unfold s_h_turn s_Top_turn
  by_cases z : nP g = 0
  · rw [rp_out (a0 := 0) h (fun ⟨a, ha, _⟩ => by omega)]
    simp only [Sum.elim_inl]
    rw [if_pos trivial]
  · rw [show s_Top_requirePoint U.1.2.2.2.2.1 (0 : Int32) = .inr () from rp_in (a := 0) h (by omega)]
    simp only [Sum.elim_inr]
    rw [rp_out h (out_n (by omega))]
    simp only [Sum.elim_inl]
    rw [if_pos trivial]
theorem rf_hull : s_h_hull F U (-1 : Int32) = some ((-1001 : Int32), U) := by
  unfold s_h_hull s_Top_hullPoint
  rw [if_pos (by decide)]
  simp only [Sum.elim_inl]
  rw [if_pos trivial]
theorem rf_square : s_h_square F U (3 : Int32) = some ((-1001 : Int32), U) := by
  unfold s_h_square s_Top_squaredLength
  rw [if_neg (by decide), if_neg (by decide)]
  simp only [Option.bind_some, Sum.elim_inl]
  rw [if_pos trivial]
theorem bad_1 : s_Top_requirePosition (-1 : Int32) (0 : Int32) = .inl "java/lang/IllegalArgumentException" := by decide +kernel
theorem bad_2 : s_Top_requirePosition (0 : Int32) (101 : Int32) = .inl "java/lang/IllegalArgumentException" := by decide +kernel
theorem bad_3 : s_Top_requirePosition (101 : Int32) (0 : Int32) = .inl "java/lang/IllegalArgumentException" := by decide +kernel
theorem rf_point (hp : s_Top_requirePosition a0 a1 = .inl "java/lang/IllegalArgumentException") : s_h_point F U a0 a1 = some ((-1001 : Int32), U) := by
  unfold s_h_point s_Top_addPoint
  rw [hp]
  simp only [Option.bind_some, Sum.elim_inl]
  rw [if_pos trivial]
theorem rf_kind (hp : s_Top_requirePosition a0 a1 = .inl "java/lang/IllegalArgumentException") : s_h_kind F U a0 a1 = some ((-1001 : Int32), U) := by
  unfold s_h_kind s_Top_kindAt
  rw [hp]
  simp only [Option.bind_some, Sum.elim_inl]
  rw [if_pos trivial]
theorem rf_number (hp : s_Top_requirePosition a0 a1 = .inl "java/lang/IllegalArgumentException") : s_h_number F U a0 a1 = some ((-1001 : Int32), U) := by
  unfold s_h_number s_Top_numberAt
  rw [hp]
  simp only [Option.bind_some, Sum.elim_inl]
  rw [if_pos trivial]
theorem rf_cavity (hp : s_Top_requirePosition a0 a1 = .inl "java/lang/IllegalArgumentException") : s_h_cavity F U a0 a1 = some ((-1001 : Int32), U) := by
  unfold s_h_cavity s_Top_cavity
  rw [hp]
  simp only [Option.bind_some, Sum.elim_inl]
  rw [if_pos trivial]
theorem n_move (h : J F U g) (hn : 0 < nP g) : s_h_move F U (0 : Int32) (101 : Int32) (0 : Int32) = some ((-1002 : Int32), U) := by
  unfold s_h_move s_Top_movePoint
  rw [show s_Top_requirePoint U.1.2.2.2.2.1 (0 : Int32) = .inr () from rp_in (a := 0) h hn]
  simp only [Sum.elim_inr]
  rw [bad_3]
  simp only [Option.bind_some, Sum.elim_inl]
  rw [if_neg (by decide), if_pos trivial]
theorem n_coord (h : J F U g) (hn : 0 < nP g) : s_h_coordinate F U (0 : Int32) (2 : Int32) = some ((-1002 : Int32), U) := by
  unfold s_h_coordinate s_Top_coordinate
  rw [show s_Top_requirePoint U.1.2.2.2.2.1 (0 : Int32) = .inr () from rp_in (a := 0) h hn]
  simp only [Sum.elim_inr]
  rw [c_rbN (by decide)]
  simp only [Sum.elim_inl]
  rw [if_neg (by decide), if_pos trivial]
theorem n_tie (h : J F U g) (hn : 0 < nP g) : s_h_tie F U (0 : Int32) (0 : Int32) = some ((-1002 : Int32), U) := by
  unfold s_h_tie s_Top_addConstraint
  rw [show s_Top_requirePoint U.1.2.2.2.2.1 (0 : Int32) = .inr () from rp_in (a := 0) h hn]
  simp only [Sum.elim_inr]
  rw [show s_Top_requireDifferent (0 : Int32) (0 : Int32) = .inl "java/lang/IllegalArgumentException" from by decide +kernel]
  simp only [Option.bind_some, Sum.elim_inl]
  rw [if_neg (by decide), if_pos trivial]
theorem n_cross (h : J F U g) (hn : 0 < nP g) : s_h_crossings F U (0 : Int32) (0 : Int32) = some ((-1002 : Int32), U) := by
  unfold s_h_crossings s_Top_crossings
  rw [show s_Top_requirePoint U.1.2.2.2.2.1 (0 : Int32) = .inr () from rp_in (a := 0) h hn]
  simp only [Sum.elim_inr]
  rw [show s_Top_requireDifferent (0 : Int32) (0 : Int32) = .inl "java/lang/IllegalArgumentException" from by decide +kernel]
  simp only [Option.bind_some, Sum.elim_inl]
  rw [if_neg (by decide), if_pos trivial]
theorem n_nei (h : J F U g) (hn : 0 < nP g) (hF : 1000 ≤ F) : s_h_neighbour F U (0 : Int32) (99 : Int32) = some ((-1002 : Int32), U) := by
  obtain ⟨n, m, X, Y, L, H, hC, hM, hO, z, th1, ow1, y, cx⟩ := j_cx h hF
  obtain ⟨en, em⟩ := np_of hM hO
  obtain ⟨hF3, -, -, -, o, hb, E, c, f, gg, t, ta, tb, tc, T, hp, D, K, B⟩ := id cx
  obtain ⟨k1, k2, k3, k4, k5, k6, k7, k8, k9, k10⟩ := K
  have hn16 := hO.1
  have dg : s_Mesh_degreeOf U.2.1.2.2.2.1 (i32 0) = i32 (sumr n (fun p => ind (E 0 p))) := c_deg hO.1 D.1.1 k4 (by omega)
  have le := sumr_bd n (fun p => E 0 p)
  unfold s_h_neighbour s_Top_neighbour
  rw [show s_Top_requirePoint U.1.2.2.2.2.1 (0 : Int32) = .inr () from rp_in (a := 0) h hn]
  simp only [Sum.elim_inr]
  rw [if_neg (by decide), show s_Mesh_degreeOf U.2.1.2.2.2.1 (0 : Int32) = i32 (sumr n (fun p => ind (E 0 p))) from dg]
  generalize sumr n (fun p => ind (E 0 p)) = d9 at le
  rw [if_neg (show ¬ ((99 : Int32) < i32 d9) from n_lt (a := 99) (by omega) (by omega))]
  simp only [Option.bind_some, Sum.elim_inl]
  rw [if_neg (by decide), if_pos trivial]
theorem t_val (h : J F U g) (hm : 0 < nC g) (hF : 1000 ≤ F) : ∃ lo hi, lo < hi ∧ hi < nP g ∧ s_h_tied F U (0 : Int32) (0 : Int32) = some (i32 lo, U) ∧ s_h_tied F U (0 : Int32) (1 : Int32) = some (i32 hi, U) ∧
    s_Top_requireLoosePoint F U.1.2.2.1 U.1.2.2.2.1 U.1.2.2.2.2.2 (i32 lo) = some (.inl "java/lang/IllegalStateException") ∧ s_Top_requireLoosePoint F U.1.2.2.1 U.1.2.2.2.1 U.1.2.2.2.2.2 (i32 hi) = some (.inl "java/lang/IllegalStateException") ∧ s_Plan_admitsSegment F U.1.1 U.1.2.1 U.1.2.2.1 U.1.2.2.2.1 U.1.2.2.2.2.1 U.1.2.2.2.2.2 (i32 hi) (i32 lo) = some false := by
  obtain ⟨n, m, X, Y, L, H, hC, hM, hO, hR⟩ := j_of h
  obtain ⟨en, em⟩ := np_of hM hO
  rw [em] at hm
  rw [en]
  obtain ⟨e1, e2, e3, e4⟩ := c_lh hC hO hm
  have lt := (hO.2.2.2.2.1 0 hm).1
  have rq : s_Top_requireConstraint U.1.2.2.2.2.2 (0 : Int32) = .inr () := by rw [hC.2.1]; exact c_rcY (a := 0) hO.2.1 hm
  refine ⟨L 0, H 0, lt, e4, ?_, ?_, ?_, ?_, ?_⟩
  · unfold s_h_tied s_Top_constraintEnd
    rw [rq]
    simp only [Sum.elim_inr]
    rw [show s_Top_requireBit 0 = .inr () from rfl]
    simp only [Sum.elim_inr]
    rw [if_pos trivial]
    simp only [Sum.elim_inr]
    rw [show s_Plan_lowEnd U.1.2.2.1 (0 : Int32) = i32 (L 0) from e1]
  · unfold s_h_tied s_Top_constraintEnd
    rw [rq]
    simp only [Sum.elim_inr]
    rw [show s_Top_requireBit 1 = .inr () from rfl]
    simp only [Sum.elim_inr]
    rw [if_neg (by decide)]
    simp only [Sum.elim_inr]
    rw [show s_Plan_highEnd U.1.2.2.2.1 (0 : Int32) = i32 (H 0) from e2]
  · unfold s_Top_requireLoosePoint
    rw [c_ends hC hO (by omega) e3]
    simp only [Option.bind_some]
    rw [if_neg (bI_t ⟨0, hm, Or.inl rfl⟩)]
  · unfold s_Top_requireLoosePoint
    rw [c_ends hC hO (by omega) e4]
    simp only [Option.bind_some]
    rw [if_neg (bI_t ⟨0, hm, Or.inr rfl⟩)]
  · rw [c_admS hC hO (by omega) e4 e3, dB_f]
    rintro ⟨k1, -⟩
    exact k1 ⟨0, hm, by omega, by omega⟩
theorem mf_tied (h : J F U g) (hm : 0 < nC g) : s_h_tied F U (0 : Int32) (2 : Int32) = some ((-1002 : Int32), U) := by
  obtain ⟨n, m, X, Y, L, H, hC, hM, hO, hR⟩ := j_of h
  obtain ⟨en, em⟩ := np_of hM hO
  rw [em] at hm
  have rq : s_Top_requireConstraint U.1.2.2.2.2.2 (0 : Int32) = .inr () := by rw [hC.2.1]; exact c_rcY (a := 0) hO.2.1 hm
  unfold s_h_tied s_Top_constraintEnd
  rw [rq]
  simp only [Sum.elim_inr]
  rw [c_rbN (by decide)]
  simp only [Sum.elim_inl]
  rw [if_neg (by decide), if_pos trivial]
theorem mf_remove (h : J F U g) {lo : Nat} (hl : lo < nP g) (rl : s_Top_requireLoosePoint F U.1.2.2.1 U.1.2.2.2.1 U.1.2.2.2.2.2 (i32 lo) = some (.inl "java/lang/IllegalStateException")) : s_h_remove F U (i32 lo) = some ((-1002 : Int32), U) := by
  unfold s_h_remove s_Top_removePoint
  rw [rp_in h hl]
  simp only [Sum.elim_inr]
  rw [rl]
  simp only [Option.bind_some, Sum.elim_inl]
  rw [if_neg (by decide), if_pos trivial]
theorem mf_move (h : J F U g) {lo : Nat} (hl : lo < nP g) (rl : s_Top_requireLoosePoint F U.1.2.2.1 U.1.2.2.2.1 U.1.2.2.2.2.2 (i32 lo) = some (.inl "java/lang/IllegalStateException")) : s_h_move F U (i32 lo) (50 : Int32) (50 : Int32) = some ((-1003 : Int32), U) := by
  unfold s_h_move s_Top_movePoint
  rw [rp_in h hl]
  simp only [Sum.elim_inr]
  rw [show s_Top_requirePosition (50 : Int32) (50 : Int32) = .inr () from pos_ok (P := 50) (Q := 50) (by omega) (by omega)]
  simp only [Sum.elim_inr]
  rw [rl]
  simp only [Option.bind_some, Sum.elim_inl]
  rw [if_neg (by decide), if_neg (by decide), if_pos trivial]
theorem mf_hole9 (h : J F U g) {lo : Nat} (hl : lo < nP g) (rl : s_Top_requireLoosePoint F U.1.2.2.1 U.1.2.2.2.1 U.1.2.2.2.2.2 (i32 lo) = some (.inl "java/lang/IllegalStateException")) : s_h_hole F U (i32 lo) = some ((-1002 : Int32), U) := by
  unfold s_h_hole s_Top_hole
  rw [rp_in h hl]
  simp only [Sum.elim_inr]
  rw [rl]
  simp only [Option.bind_some, Sum.elim_inl]
  rw [if_neg (by decide), if_pos trivial]
theorem mf_tie9 (h : J F U g) {lo hi : Nat} (hlt : lo < hi) (hl : hi < nP g) (ad : s_Plan_admitsSegment F U.1.1 U.1.2.1 U.1.2.2.1 U.1.2.2.2.1 U.1.2.2.2.2.1 U.1.2.2.2.2.2 (i32 hi) (i32 lo) = some false) : s_h_tie F U (i32 hi) (i32 lo) = some ((if nC g = 10 then (-1003 : Int32) else (-1004 : Int32)), U) := by
  have hb := p_le h
  obtain ⟨n, m, X, Y, L, H, hC, hM, hO, hR⟩ := j_of h
  obtain ⟨en, em⟩ := np_of hM hO
  have hm := hO.2.1
  have rd : s_Top_requireDifferent (i32 hi) (i32 lo) = .inr () := by
    unfold s_Top_requireDifferent
    rw [if_neg (n_eq (by omega) (by omega) (by omega))]
  unfold s_h_tie s_Top_addConstraint
  rw [rp_in h hl]
  simp only [Sum.elim_inr]
  rw [rp_in h (show lo < nP g by omega)]
  simp only [Sum.elim_inr]
  rw [rd]
  simp only [Sum.elim_inr]
  rw [ad, em]
  simp only [Option.bind_some]
  by_cases z : m = 10
  · rw [if_pos z, if_neg (show ¬ (s_Plan_constraints U.1.2.2.2.2.2 < (10 : Int32)) by rw [hC.2.1]; exact n_lt (b := 10) (by omega) (by omega))]
    simp only [Option.bind_some, Sum.elim_inl]
    rw [if_neg (by decide), if_neg (by decide), if_pos trivial]
  · rw [if_neg z, if_pos (show s_Plan_constraints U.1.2.2.2.2.2 < (10 : Int32) by rw [hC.2.1]; exact y_lt (b := 10) (by omega) (by omega)), if_pos (by decide)]
    simp only [Option.bind_some, Sum.elim_inl]
    rw [if_neg (by decide), if_neg (by decide), if_neg (by decide), if_pos trivial]
end REF
