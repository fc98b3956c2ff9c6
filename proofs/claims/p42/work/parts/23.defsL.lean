def s_L_some (a0 a1 : Int32) : Option Int32 := (iremO a0 a1).bind fun r => some (if r < 0 then r + a1 else r)
/-- what the law's body knows of itself -/
abbrev LCx (p : Program) (m : MethodId) (c : Code) (s : State) (args : Array Value) (K : KT) (A : Nat → Prop) (b L : Nat) (xs : Nat → Int32) : Prop :=
  p.tables.exec = Jvm.exec ∧ c.code = cL_law ∧ c.maxLocals = 9 ∧ s.vm.findClass RL = some m.cls ∧ (∀ w ∈ wT, w.before args s = true) ∧ G0 K s ∧ G2 K s ∧ ZZ A s s.heap ∧ va_X b L xs s s.heap ∧ b < s.heap.size ∧ ¬ A b ∧ L < 2147483648
abbrev wLs (K : KT) (q3 : Nat) (la : Nat → Int64) : va_W := [(q3, .inl (K.2 3, 20, .inr (.inl la)))]
def atO (L : Nat) (xs : Nat → Int32) (k : Int32) : Option Int32 := if k < 0 then none else some (atS L xs k)
def s_L_state_L18 (F : Nat) : Nat → Int64 → Int32 → TopS → Option (Int64 × Int32 × TopS)
  | 0, _, _, _ => none
  | n + 1, x1, x3, S =>
    if (i_pointCount S) ≤ x3 then
      some (x1, x3, S)
    else
      ((s_h_coordinate F S x3 (0 : Int32))).bind fun v2 =>
      ((s_h_coordinate F v2.2 x3 (1 : Int32))).bind fun v3 =>
      s_L_state_L18 F n (((31 : Int64) * (((31 : Int64) * x1) + ((v2.1).toInt64))) + ((v3.1).toInt64)) (x3 + (1 : Int32)) v3.2
def s_L_state_L60 (F : Nat) : Nat → Int64 → Int32 → TopS → Option (Int64 × Int32 × TopS)
  | 0, _, _, _ => none
  | n + 1, x1, x3, S =>
    if (i_constraintCount S) ≤ x3 then
      some (x1, x3, S)
    else
      ((s_h_tied F S x3 (0 : Int32))).bind fun v6 =>
      ((s_h_tied F v6.2 x3 (1 : Int32))).bind fun v7 =>
      s_L_state_L60 F n (((31 : Int64) * (((31 : Int64) * x1) + ((v6.1).toInt64))) + ((v7.1).toInt64)) (x3 + (1 : Int32)) v7.2
def s_L_state (F : Nat) (S : TopS)  : Option (Int64 × TopS) :=
  (s_L_state_L18 F 60 (((31 : Int64) * (((i_pointCount S)).toInt64)) + (((i_constraintCount S)).toInt64)) (0 : Int32) S).bind fun o4x =>
  (s_L_state_L60 F 60 o4x.1 (0 : Int32) o4x.2.2).bind fun o8x =>
  some (o8x.1, o8x.2.2)

def s_L_asks_L61 (F : Nat) (x3 : Int32) : Nat → Int64 → Int32 → TopS → Option (Int64 × Int32 × TopS)
  | 0, _, _, _ => none
  | n + 1, x1, x4, S =>
    if (3 : Int32) ≤ x4 then
      some (x1, x4, S)
    else
      ((s_h_corner F S x3 x4)).bind fun v5 =>
      ((s_h_beyond F v5.2 x3 x4)).bind fun v6 =>
      s_L_asks_L61 F x3 n (((31 : Int64) * (((31 : Int64) * x1) + ((v5.1).toInt64))) + ((v6.1).toInt64)) (x4 + (1 : Int32)) v6.2
def s_L_asks_L37 (F : Nat) : Nat → Int64 → Int32 → TopS → Option (Int64 × Int32 × TopS)
  | 0, _, _, _ => none
  | n + 1, x1, x3, S =>
    if (i_triangleCount S) < x3 then
      some (x1, x3, S)
    else
      ((s_h_area F S x3)).bind fun v3 =>
      (s_L_asks_L61 F x3 60 (((31 : Int64) * x1) + ((v3.1).toInt64)) (0 : Int32) v3.2).bind fun o7x =>
      s_L_asks_L37 F n o7x.1 (x3 + (1 : Int32)) o7x.2.2
def s_L_asks_L109 (F : Nat) : Nat → Int64 → Int32 → TopS → Option (Int64 × Int32 × TopS)
  | 0, _, _, _ => none
  | n + 1, x1, x3, S =>
    if (i_edgeCount S) ≤ x3 then
      some (x1, x3, S)
    else
      ((s_h_end F S x3 (0 : Int32))).bind fun v10 =>
      ((s_h_end F v10.2 x3 (1 : Int32))).bind fun v11 =>
      ((s_h_good F v11.2 x3)).bind fun v12 =>
      s_L_asks_L109 F n (((31 : Int64) * (((31 : Int64) * (((31 : Int64) * x1) + ((v10.1).toInt64))) + ((v11.1).toInt64))) + ((v12.1).toInt64)) (x3 + (1 : Int32)) v12.2
def s_L_asks_L162 (F : Nat) : Nat → Int64 → Int32 → TopS → Option (Int64 × Int32 × TopS)
  | 0, _, _, _ => none
  | n + 1, x1, x3, S =>
    if (i_pointCount S) ≤ x3 then
      some (x1, x3, S)
    else
      ((s_h_degree F S x3)).bind fun v15 =>
      ((s_h_hole F v15.2 x3)).bind fun v16 =>
      ((s_h_hull F v16.2 x3)).bind fun v17 =>
      s_L_asks_L162 F n (((31 : Int64) * (((31 : Int64) * (((31 : Int64) * x1) + ((v15.1).toInt64))) + ((v16.1).toInt64))) + ((v17.1).toInt64)) (x3 + (1 : Int32)) v17.2
def s_L_asks_L213 (F : Nat) : Nat → Int64 → Int32 → TopS → Option (Int64 × Int32 × TopS)
  | 0, _, _, _ => none
  | n + 1, x1, x3, S =>
    if (i_constraintCount S) ≤ x3 then
      some (x1, x3, S)
    else
      ((s_h_effect F S x3)).bind fun v20 =>
      s_L_asks_L213 F n (((31 : Int64) * x1) + ((v20.1).toInt64)) (x3 + (1 : Int32)) v20.2
def s_L_asks_L242 (F : Nat) : Nat → Int64 → Int32 → TopS → Option (Int64 × Int32 × TopS)
  | 0, _, _, _ => none
  | n + 1, x1, x3, S =>
    if (4 : Int32) ≤ x3 then
      some (x1, x3, S)
    else
      ((s_h_square F S x3)).bind fun v23 =>
      ((s_h_cavity F v23.2 ((3 : Int32) * x3) (5 : Int32))).bind fun v24 =>
      ((s_h_number F v24.2 ((2 : Int32) * x3) x3)).bind fun v25 =>
      s_L_asks_L242 F n (((31 : Int64) * (((31 : Int64) * (((31 : Int64) * x1) + ((v23.1).toInt64))) + ((v24.1).toInt64))) + ((v25.1).toInt64)) (x3 + (1 : Int32)) v25.2
def s_L_asks (F : Nat) (S : TopS)  : Option (Int64 × TopS) :=
  ((s_L_state F S )).bind fun v1 =>
  (s_L_asks_L37 F 60 (((31 : Int64) * (((31 : Int64) * (((31 : Int64) * v1.1) + (((i_triangleCount v1.2)).toInt64))) + (((i_edgeCount v1.2)).toInt64))) + (((i_hullSize v1.2)).toInt64)) (0 : Int32) v1.2).bind fun o8x =>
  (s_L_asks_L109 F 60 o8x.1 (0 : Int32) o8x.2.2).bind fun o13x =>
  (s_L_asks_L162 F 60 o13x.1 (0 : Int32) o13x.2.2).bind fun o18x =>
  (s_L_asks_L213 F 60 o18x.1 (0 : Int32) o18x.2.2).bind fun o21x =>
  (s_L_asks_L242 F 60 o21x.1 (0 : Int32) o21x.2.2).bind fun o26x =>
  ((i_forcedConstraints F o26x.2.2)).bind fun v27 =>
  ((s_h_mean F o26x.2.2 )).bind fun v28 =>
  (dmulO (0x412E848000000000 : UInt64) v28.1).bind fun v29 =>
  some ((((31 : Int64) * (((31 : Int64) * o26x.1) + ((v27).toInt64))) + (FP.d2l v29)), v28.2)

def s_L_does (F : Nat) (S : TopS) (a0 : Int32) : Option (Int32 × TopS) :=
  ((s_L_some (a0 >>> ((4 : Int32) &&& 31)) ((i_pointCount S) + (1 : Int32)))).bind fun v1 =>
  ((s_L_some (a0 >>> ((8 : Int32) &&& 31)) (9 : Int32))).bind fun v2 =>
  ((s_L_some (a0 >>> ((12 : Int32) &&& 31)) (9 : Int32))).bind fun v3 =>
  ((s_L_some a0 (8 : Int32))).bind fun v4 =>
  if v4 = (0 : Int32) ∨ v4 = (1 : Int32) ∨ v4 = (2 : Int32) then
    ((s_h_point F S v2 v3)).bind fun v6 =>
    if v6.1 = (i_pointCount S) then
      if (i_pointCount v6.2) = ((i_pointCount S) + (1 : Int32)) then
        ((s_h_coordinate F v6.2 (i_pointCount S) (0 : Int32))).bind fun v12 =>
        if v12.1 = v2 then
          ((s_h_coordinate F v12.2 (i_pointCount S) (1 : Int32))).bind fun v14 =>
          if v14.1 = v3 then
            some ((1 : Int32), v14.2)
          else
            none
        else
          none
      else
        none
    else
      if v6.1 = (-1003 : Int32) then
        some ((0 : Int32), v6.2)
      else
        if v6.1 = (-1002 : Int32) then
          if (i_pointCount S) = (16 : Int32) then
            some ((0 : Int32), v6.2)
          else
            none
        else
          none
  else
  if v4 = (3 : Int32) then
    ((s_h_remove F S v1)).bind fun v17 =>
    if v17.1 = ((i_pointCount S) - (1 : Int32)) then
      if (i_pointCount S) ≤ v1 then
        none
      else
        if (i_pointCount v17.2) = ((i_pointCount S) - (1 : Int32)) then
          some ((1 : Int32), v17.2)
        else
          none
    else
      if v17.1 = (-1001 : Int32) then
        if v1 = (i_pointCount S) then
          some ((0 : Int32), v17.2)
        else
          if v17.1 = (-1002 : Int32) then
            some ((0 : Int32), v17.2)
          else
            none
      else
        if v17.1 = (-1002 : Int32) then
          some ((0 : Int32), v17.2)
        else
          none
  else
  if v4 = (4 : Int32) then
    if (i_pointCount S) ≤ v1 then
      ((s_h_move F S v1 v2 v3)).bind fun v27 =>
      if v27.1 = (1 : Int32) then
        if (i_pointCount S) ≤ v1 then
          none
        else
          ((s_h_coordinate F v27.2 v1 (0 : Int32))).bind fun v36 =>
          if v36.1 = v2 then
            ((s_h_coordinate F v36.2 v1 (1 : Int32))).bind fun v38 =>
            if v38.1 = v3 then
              some ((1 : Int32), v38.2)
            else
              none
          else
            none
      else
        if v27.1 = (-1001 : Int32) then
          if v1 = (i_pointCount S) then
            some ((0 : Int32), v27.2)
          else
            if v27.1 = (-1003 : Int32) then
              some ((0 : Int32), v27.2)
            else
              if v27.1 = (-1004 : Int32) then
                some ((0 : Int32), v27.2)
              else
                none
        else
          if v27.1 = (-1003 : Int32) then
            some ((0 : Int32), v27.2)
          else
            if v27.1 = (-1004 : Int32) then
              some ((0 : Int32), v27.2)
            else
              none
    else
      ((s_h_coordinate F S v1 (0 : Int32))).bind fun v40 =>
      if v40.1 = v2 then
        ((s_h_coordinate F v40.2 v1 (1 : Int32))).bind fun v55 =>
        if v55.1 = v3 then
          ((s_h_move F v55.2 v1 v2 v3)).bind fun v70 =>
          if v70.1 = (0 : Int32) then
            if (i_pointCount S) ≤ v1 then
              none
            else
              ((s_h_coordinate F v70.2 v1 (0 : Int32))).bind fun v79 =>
              if v79.1 = v2 then
                ((s_h_coordinate F v79.2 v1 (1 : Int32))).bind fun v81 =>
                if v81.1 = v3 then
                  some ((1 : Int32), v81.2)
                else
                  none
              else
                none
          else
            if v70.1 = (-1001 : Int32) then
              if v1 = (i_pointCount S) then
                some ((0 : Int32), v70.2)
              else
                if v70.1 = (-1003 : Int32) then
                  some ((0 : Int32), v70.2)
                else
                  if v70.1 = (-1004 : Int32) then
                    some ((0 : Int32), v70.2)
                  else
                    none
            else
              if v70.1 = (-1003 : Int32) then
                some ((0 : Int32), v70.2)
              else
                if v70.1 = (-1004 : Int32) then
                  some ((0 : Int32), v70.2)
                else
                  none
        else
          ((s_h_move F v55.2 v1 v2 v3)).bind fun v57 =>
          if v57.1 = (1 : Int32) then
            if (i_pointCount S) ≤ v1 then
              none
            else
              ((s_h_coordinate F v57.2 v1 (0 : Int32))).bind fun v66 =>
              if v66.1 = v2 then
                ((s_h_coordinate F v66.2 v1 (1 : Int32))).bind fun v68 =>
                if v68.1 = v3 then
                  some ((1 : Int32), v68.2)
                else
                  none
              else
                none
          else
            if v57.1 = (-1001 : Int32) then
              if v1 = (i_pointCount S) then
                some ((0 : Int32), v57.2)
              else
                if v57.1 = (-1003 : Int32) then
                  some ((0 : Int32), v57.2)
                else
                  if v57.1 = (-1004 : Int32) then
                    some ((0 : Int32), v57.2)
                  else
                    none
            else
              if v57.1 = (-1003 : Int32) then
                some ((0 : Int32), v57.2)
              else
                if v57.1 = (-1004 : Int32) then
                  some ((0 : Int32), v57.2)
                else
                  none
      else
        ((s_h_move F v40.2 v1 v2 v3)).bind fun v42 =>
        if v42.1 = (1 : Int32) then
          if (i_pointCount S) ≤ v1 then
            none
          else
            ((s_h_coordinate F v42.2 v1 (0 : Int32))).bind fun v51 =>
            if v51.1 = v2 then
              ((s_h_coordinate F v51.2 v1 (1 : Int32))).bind fun v53 =>
              if v53.1 = v3 then
                some ((1 : Int32), v53.2)
              else
                none
            else
              none
        else
          if v42.1 = (-1001 : Int32) then
            if v1 = (i_pointCount S) then
              some ((0 : Int32), v42.2)
            else
              if v42.1 = (-1003 : Int32) then
                some ((0 : Int32), v42.2)
              else
                if v42.1 = (-1004 : Int32) then
                  some ((0 : Int32), v42.2)
                else
                  none
          else
            if v42.1 = (-1003 : Int32) then
              some ((0 : Int32), v42.2)
            else
              if v42.1 = (-1004 : Int32) then
                some ((0 : Int32), v42.2)
              else
                none
  else
  if v4 = (5 : Int32) ∨ v4 = (6 : Int32) then
    ((s_L_some (a0 >>> ((16 : Int32) &&& 31)) ((i_pointCount S) + (1 : Int32)))).bind fun v84 =>
    ((s_h_tie F S v1 v84)).bind fun v85 =>
    if v85.1 = (i_constraintCount S) then
      ((s_h_tied F v85.2 (i_constraintCount S) (0 : Int32))).bind fun v109 =>
      if v109.1 = (imin v1 v84) then
        ((s_h_tied F v109.2 (i_constraintCount S) (1 : Int32))).bind fun v111 =>
        if v111.1 = (imax v1 v84) then
          some ((1 : Int32), v111.2)
        else
          none
      else
        none
    else
      if v85.1 = (-1001 : Int32) then
        if (imax v1 v84) = (i_pointCount S) then
          some ((0 : Int32), v85.2)
        else
          if v85.1 = (-1002 : Int32) then
            if v1 = v84 then
              some ((0 : Int32), v85.2)
            else
              if v85.1 = (-1003 : Int32) then
                if (i_constraintCount S) = (10 : Int32) then
                  some ((0 : Int32), v85.2)
                else
                  if v85.1 = (-1004 : Int32) then
                    some ((0 : Int32), v85.2)
                  else
                    none
              else
                if v85.1 = (-1004 : Int32) then
                  some ((0 : Int32), v85.2)
                else
                  none
          else
            if v85.1 = (-1003 : Int32) then
              if (i_constraintCount S) = (10 : Int32) then
                some ((0 : Int32), v85.2)
              else
                if v85.1 = (-1004 : Int32) then
                  some ((0 : Int32), v85.2)
                else
                  none
            else
              if v85.1 = (-1004 : Int32) then
                some ((0 : Int32), v85.2)
              else
                none
      else
        if v85.1 = (-1002 : Int32) then
          if v1 = v84 then
            some ((0 : Int32), v85.2)
          else
            if v85.1 = (-1003 : Int32) then
              if (i_constraintCount S) = (10 : Int32) then
                some ((0 : Int32), v85.2)
              else
                if v85.1 = (-1004 : Int32) then
                  some ((0 : Int32), v85.2)
                else
                  none
            else
              if v85.1 = (-1004 : Int32) then
                some ((0 : Int32), v85.2)
              else
                none
        else
          if v85.1 = (-1003 : Int32) then
            if (i_constraintCount S) = (10 : Int32) then
              some ((0 : Int32), v85.2)
            else
              if v85.1 = (-1004 : Int32) then
                some ((0 : Int32), v85.2)
              else
                none
          else
            if v85.1 = (-1004 : Int32) then
              some ((0 : Int32), v85.2)
            else
              none
  else
    ((s_L_some (a0 >>> ((4 : Int32) &&& 31)) ((i_constraintCount S) + (1 : Int32)))).bind fun v113 =>
    ((s_h_untie F S v113)).bind fun v114 =>
    if v114.1 = ((i_constraintCount S) - (1 : Int32)) then
      if (i_constraintCount S) ≤ v113 then
        none
      else
        some ((1 : Int32), v114.2)
    else
      if v114.1 = (-1001 : Int32) then
        if v113 = (i_constraintCount S) then
          some ((0 : Int32), v114.2)
        else
          none
      else
        none

def s_L_refused (F : Nat) (S : TopS)  : Option (TopS) :=
  ((s_L_asks F S )).bind fun v1 =>
  ((s_h_point F v1.2 (-1 : Int32) (0 : Int32))).bind fun v2 =>
  if v2.1 = (-1001 : Int32) then
    ((s_h_point F v2.2 (0 : Int32) (101 : Int32))).bind fun v4 =>
    if v4.1 = (-1001 : Int32) then
      ((s_h_remove F v4.2 (i_pointCount v1.2))).bind fun v6 =>
      if v6.1 = (-1001 : Int32) then
        ((s_h_remove F v6.2 (-1 : Int32))).bind fun v8 =>
        if v8.1 = (-1001 : Int32) then
          ((s_h_move F v8.2 (i_pointCount v1.2) (0 : Int32) (0 : Int32))).bind fun v10 =>
          if v10.1 = (-1001 : Int32) then
            ((s_h_coordinate F v10.2 (-1 : Int32) (0 : Int32))).bind fun v12 =>
            if v12.1 = (-1001 : Int32) then
              ((s_h_tie F v12.2 (i_pointCount v1.2) (0 : Int32))).bind fun v14 =>
              if v14.1 = (-1001 : Int32) then
                ((s_h_tie F v14.2 (0 : Int32) (-1 : Int32))).bind fun v16 =>
                if v16.1 = (-1001 : Int32) then
                  ((s_h_untie F v16.2 (i_constraintCount v1.2))).bind fun v18 =>
                  if v18.1 = (-1001 : Int32) then
                    ((s_h_tied F v18.2 (i_constraintCount v1.2) (0 : Int32))).bind fun v20 =>
                    if v20.1 = (-1001 : Int32) then
                      ((i_readInput F v20.2)).bind fun v22 =>
                      if v22.1 = (-100 : Int32) then
                        ((s_h_corner F v22.2 (-1 : Int32) (0 : Int32))).bind fun v24 =>
                        if v24.1 = (-1001 : Int32) then
                          ((s_h_beyond F v24.2 (i_triangleCount v24.2) (0 : Int32))).bind fun v26 =>
                          if v26.1 = (-1001 : Int32) then
                            ((s_h_end F v26.2 (-1 : Int32) (0 : Int32))).bind fun v28 =>
                            if v28.1 = (-1001 : Int32) then
                              ((s_h_between F v28.2 (i_pointCount v1.2) (0 : Int32))).bind fun v30 =>
                              if v30.1 = (-1001 : Int32) then
                                ((s_h_degree F v30.2 (-1 : Int32))).bind fun v32 =>
                                if v32.1 = (-1001 : Int32) then
                                  ((s_h_neighbour F v32.2 (i_pointCount v1.2) (0 : Int32))).bind fun v34 =>
                                  if v34.1 = (-1001 : Int32) then
                                    ((s_h_hull F v34.2 (-1 : Int32))).bind fun v36 =>
                                    if v36.1 = (-1001 : Int32) then
                                      ((s_h_area F v36.2 (-1 : Int32))).bind fun v38 =>
                                      if v38.1 = (-1001 : Int32) then
                                        ((s_h_share F v38.2 (-1 : Int32))).bind fun v40 =>
                                        if (Op.cmpValue (FP.dcmp v40.1 (0xC08F480000000000 : UInt64)) CmpOp.l) = 0 then
                                          ((s_h_square F v40.2 (3 : Int32))).bind fun v42 =>
                                          if v42.1 = (-1001 : Int32) then
                                            ((s_h_turn F v42.2 (0 : Int32) (0 : Int32) (i_pointCount v1.2))).bind fun v44 =>
                                            if v44.1 = (-1001 : Int32) then
                                              ((s_h_circle F v44.2 (i_pointCount v1.2) (0 : Int32) (0 : Int32) (0 : Int32))).bind fun v46 =>
                                              if v46.1 = (-1001 : Int32) then
                                                ((s_h_good F v46.2 (-1 : Int32))).bind fun v48 =>
                                                if v48.1 = (-1001 : Int32) then
                                                  ((s_h_kind F v48.2 (-1 : Int32) (0 : Int32))).bind fun v50 =>
                                                  if v50.1 = (-1001 : Int32) then
                                                    ((s_h_number F v50.2 (0 : Int32) (101 : Int32))).bind fun v52 =>
                                                    if v52.1 = (-1001 : Int32) then
                                                      ((s_h_walk F v52.2 (-1 : Int32) (0 : Int32) (0 : Int32) true)).bind fun v54 =>
                                                      if v54.1 = (-1001 : Int32) then
                                                        ((s_h_cavity F v54.2 (101 : Int32) (0 : Int32))).bind fun v56 =>
                                                        if v56.1 = (-1001 : Int32) then
                                                          ((s_h_hole F v56.2 (i_pointCount v1.2))).bind fun v58 =>
                                                          if v58.1 = (-1001 : Int32) then
                                                            ((s_h_crossings F v58.2 (i_pointCount v1.2) (0 : Int32))).bind fun v60 =>
                                                            if v60.1 = (-1001 : Int32) then
                                                              ((s_h_effect F v60.2 (i_constraintCount v1.2))).bind fun v62 =>
                                                              if v62.1 = (-1001 : Int32) then
                                                                if (i_pointCount v1.2) ≤ 0 then
                                                                  if (i_constraintCount v1.2) ≤ 0 then
                                                                    ((s_L_asks F v62.2 )).bind fun v66 =>
                                                                    if (lg_cmp v66.1 v1.1) = 0 then
                                                                      some v66.2
                                                                    else
                                                                      none
                                                                  else
                                                                    ((s_h_tied F v62.2 (0 : Int32) (2 : Int32))).bind fun v68 =>
                                                                    if v68.1 = (-1002 : Int32) then
                                                                      ((s_h_tied F v68.2 (0 : Int32) (0 : Int32))).bind fun v70 =>
                                                                      ((s_h_remove F v70.2 v70.1)).bind fun v71 =>
                                                                      if v71.1 = (-1002 : Int32) then
                                                                        ((s_h_tied F v71.2 (0 : Int32) (1 : Int32))).bind fun v73 =>
                                                                        ((s_h_move F v73.2 v73.1 (50 : Int32) (50 : Int32))).bind fun v74 =>
                                                                        if v74.1 = (-1003 : Int32) then
                                                                          ((s_h_tied F v74.2 (0 : Int32) (1 : Int32))).bind fun v76 =>
                                                                          ((s_h_hole F v76.2 v76.1)).bind fun v77 =>
                                                                          if v77.1 = (-1002 : Int32) then
                                                                            ((s_h_tied F v77.2 (0 : Int32) (1 : Int32))).bind fun v79 =>
                                                                            ((s_h_tied F v79.2 (0 : Int32) (0 : Int32))).bind fun v80 =>
                                                                            ((s_h_tie F v80.2 v79.1 v80.1)).bind fun v81 =>
                                                                            if (i_constraintCount v1.2) = (10 : Int32) then
                                                                              if v81.1 = (-1003 : Int32) then
                                                                                ((s_L_asks F v81.2 )).bind fun v87 =>
                                                                                if (lg_cmp v87.1 v1.1) = 0 then
                                                                                  some v87.2
                                                                                else
                                                                                  none
                                                                              else
                                                                                none
                                                                            else
                                                                              if v81.1 = (-1004 : Int32) then
                                                                                ((s_L_asks F v81.2 )).bind fun v84 =>
                                                                                if (lg_cmp v84.1 v1.1) = 0 then
                                                                                  some v84.2
                                                                                else
                                                                                  none
                                                                              else
                                                                                none
                                                                          else
                                                                            none
                                                                        else
                                                                          none
                                                                      else
                                                                        none
                                                                    else
                                                                      none
                                                                else
                                                                  ((s_h_move F v62.2 (0 : Int32) (101 : Int32) (0 : Int32))).bind fun v89 =>
                                                                  if v89.1 = (-1002 : Int32) then
                                                                    ((s_h_coordinate F v89.2 (0 : Int32) (2 : Int32))).bind fun v91 =>
                                                                    if v91.1 = (-1002 : Int32) then
                                                                      ((s_h_tie F v91.2 (0 : Int32) (0 : Int32))).bind fun v93 =>
                                                                      if v93.1 = (-1002 : Int32) then
                                                                        ((s_h_crossings F v93.2 (0 : Int32) (0 : Int32))).bind fun v95 =>
                                                                        if v95.1 = (-1002 : Int32) then
                                                                          ((s_h_neighbour F v95.2 (0 : Int32) (99 : Int32))).bind fun v97 =>
                                                                          if v97.1 = (-1002 : Int32) then
                                                                            if (i_constraintCount v1.2) ≤ 0 then
                                                                              ((s_L_asks F v97.2 )).bind fun v100 =>
                                                                              if (lg_cmp v100.1 v1.1) = 0 then
                                                                                some v100.2
                                                                              else
                                                                                none
                                                                            else
                                                                              ((s_h_tied F v97.2 (0 : Int32) (2 : Int32))).bind fun v102 =>
                                                                              if v102.1 = (-1002 : Int32) then
                                                                                ((s_h_tied F v102.2 (0 : Int32) (0 : Int32))).bind fun v104 =>
                                                                                ((s_h_remove F v104.2 v104.1)).bind fun v105 =>
                                                                                if v105.1 = (-1002 : Int32) then
                                                                                  ((s_h_tied F v105.2 (0 : Int32) (1 : Int32))).bind fun v107 =>
                                                                                  ((s_h_move F v107.2 v107.1 (50 : Int32) (50 : Int32))).bind fun v108 =>
                                                                                  if v108.1 = (-1003 : Int32) then
                                                                                    ((s_h_tied F v108.2 (0 : Int32) (1 : Int32))).bind fun v110 =>
                                                                                    ((s_h_hole F v110.2 v110.1)).bind fun v111 =>
                                                                                    if v111.1 = (-1002 : Int32) then
                                                                                      ((s_h_tied F v111.2 (0 : Int32) (1 : Int32))).bind fun v113 =>
                                                                                      ((s_h_tied F v113.2 (0 : Int32) (0 : Int32))).bind fun v114 =>
                                                                                      ((s_h_tie F v114.2 v113.1 v114.1)).bind fun v115 =>
                                                                                      if (i_constraintCount v1.2) = (10 : Int32) then
                                                                                        if v115.1 = (-1003 : Int32) then
                                                                                          ((s_L_asks F v115.2 )).bind fun v121 =>
                                                                                          if (lg_cmp v121.1 v1.1) = 0 then
                                                                                            some v121.2
                                                                                          else
                                                                                            none
                                                                                        else
                                                                                          none
                                                                                      else
                                                                                        if v115.1 = (-1004 : Int32) then
                                                                                          ((s_L_asks F v115.2 )).bind fun v118 =>
                                                                                          if (lg_cmp v118.1 v1.1) = 0 then
                                                                                            some v118.2
                                                                                          else
                                                                                            none
                                                                                        else
                                                                                          none
                                                                                    else
                                                                                      none
                                                                                  else
                                                                                    none
                                                                                else
                                                                                  none
                                                                              else
                                                                                none
                                                                          else
                                                                            none
                                                                        else
                                                                          none
                                                                      else
                                                                        none
                                                                    else
                                                                      none
                                                                  else
                                                                    none
                                                              else
                                                                none
                                                            else
                                                              none
                                                          else
                                                            none
                                                        else
                                                          none
                                                      else
                                                        none
                                                    else
                                                      none
                                                  else
                                                    none
                                                else
                                                  none
                                              else
                                                none
                                            else
                                              none
                                          else
                                            none
                                        else
                                          none
                                      else
                                        none
                                    else
                                      none
                                  else
                                    none
                                else
                                  none
                              else
                                none
                            else
                              none
                          else
                            none
                        else
                          none
                      else
                        none
                    else
                      none
                  else
                    none
                else
                  none
              else
                none
            else
              none
          else
            none
        else
          none
      else
        none
    else
      none
  else
    none

def s_law_e (F : Nat) (S : TopS) : Option (TopS) :=
  if (i_pointCount S) = 0 then
    if (i_triangleCount S) = 0 then
      if (i_edgeCount S) = 0 then
        if (i_hullSize S) = 0 then
          ((s_h_mean F S )).bind fun v5 =>
          if (Op.cmpValue (FP.dcmp v5.1 (0xC08F480000000000 : UInt64)) CmpOp.l) = 0 then
            ((s_h_square F v5.2 (0 : Int32))).bind fun v7 =>
            if v7.1 = (-1002 : Int32) then
              ((s_h_kind F v7.2 (0 : Int32) (0 : Int32))).bind fun v9 =>
              if v9.1 = 0 then
                ((s_h_number F v9.2 (0 : Int32) (0 : Int32))).bind fun v11 =>
                if v11.1 = (-1002 : Int32) then
                  ((s_h_undo F v11.2 )).bind fun v13 =>
                  if v13.1 = (-1001 : Int32) then
                    ((s_h_restore F v13.2 )).bind fun v15 =>
                    if v15.1 = (-1001 : Int32) then
                      ((s_h_cavity F v15.2 (5 : Int32) (5 : Int32))).bind fun v17 =>
                      if v17.1 = 0 then
                        ((s_h_point F v17.2 (0 : Int32) (0 : Int32))).bind fun v19 =>
                        if v19.1 = 0 then
                          ((s_h_point F v19.2 (4 : Int32) (0 : Int32))).bind fun v21 =>
                          if v21.1 = (1 : Int32) then
                            if (i_edgeCount v21.2) = (1 : Int32) then
                              ((s_h_point F v21.2 (4 : Int32) (4 : Int32))).bind fun v24 =>
                              if v24.1 = (2 : Int32) then
                                if (i_triangleCount v24.2) = (1 : Int32) then
                                  ((s_h_point F v24.2 (0 : Int32) (4 : Int32))).bind fun v27 =>
                                  if v27.1 = (3 : Int32) then
                                    if (i_triangleCount v27.2) = (2 : Int32) then
                                      ((s_h_between F v27.2 (0 : Int32) (2 : Int32))).bind fun v30 =>
                                      if v30.1 < 0 then
                                        none
                                      else
                                        ((s_h_between F v30.2 (1 : Int32) (3 : Int32))).bind fun v32 =>
                                        if 0 ≤ v32.1 then
                                          none
                                        else
                                          if (i_hullSize v32.2) = (4 : Int32) then
                                            ((s_h_tie F v32.2 (1 : Int32) (3 : Int32))).bind fun v35 =>
                                            if v35.1 = 0 then
                                              ((s_h_between F v35.2 (1 : Int32) (3 : Int32))).bind fun v37 =>
                                              if v37.1 < 0 then
                                                none
                                              else
                                                ((i_forcedConstraints F v37.2)).bind fun v39 =>
                                                if v39 = (1 : Int32) then
                                                  ((s_h_effect F v37.2 (0 : Int32))).bind fun v41 =>
                                                  if v41.1 = (1 : Int32) then
                                                    ((s_h_point F v41.2 (2 : Int32) (2 : Int32))).bind fun v43 =>
                                                    if v43.1 = (-1003 : Int32) then
                                                      ((s_h_untie F v43.2 (0 : Int32))).bind fun v45 =>
                                                      if v45.1 = 0 then
                                                        ((s_h_point F v45.2 (2 : Int32) (2 : Int32))).bind fun v47 =>
                                                        if v47.1 = (4 : Int32) then
                                                          if (i_triangleCount v47.2) = (4 : Int32) then
                                                            ((s_h_square F v47.2 (2 : Int32))).bind fun v50 =>
                                                            if v50.1 = (32 : Int32) then
                                                              ((s_h_hole F v50.2 (4 : Int32))).bind fun v52 =>
                                                              if v52.1 = (2 : Int32) then
                                                                ((s_h_crossings F v52.2 (0 : Int32) (2 : Int32))).bind fun v54 =>
                                                                if v54.1 = (2 : Int32) then
                                                                  some v54.2
                                                                else
                                                                  none
                                                              else
                                                                none
                                                            else
                                                              none
                                                          else
                                                            none
                                                        else
                                                          none
                                                      else
                                                        none
                                                    else
                                                      none
                                                  else
                                                    none
                                                else
                                                  none
                                            else
                                              none
                                          else
                                            none
                                    else
                                      none
                                  else
                                    none
                                else
                                  none
                              else
                                none
                            else
                              none
                          else
                            none
                        else
                          none
                      else
                        none
                    else
                      none
                  else
                    none
                else
                  none
              else
                none
            else
              none
          else
            none
        else
          none
      else
        none
    else
      none
  else
    none

def s_law_o_L322 (F : Nat) (LL : Nat) (xs : Nat → Int32) : Nat → Int32 → Int32 → TopS → (Nat → Int64) → Option (Int32 × Int32 × TopS × (Nat → Int64))
  | 0, _, _, _, _ => none
  | n + 1, x4, x5, S, la =>
    if (18 : Int32) ≤ x5 then
      some (x4, x5, S, la)
    else
      ((s_L_state F S )).bind fun v2 =>
      (atO LL xs x5).bind fun v3 =>
      ((s_L_does F v2.2 (v3 ^^^ (x5 * (15731 : Int32))))).bind fun v4 =>
      if v4.1 < 0 then
        none
      else
        if v4.1 = 0 then
          ((s_L_state F v4.2 )).bind fun v9 =>
          if (lg_cmp v9.1 v2.1) = 0 then
            if v4.1 = (1 : Int32) then
              (aset 20 la x4 v2.1).bind fun v12 =>
              s_law_o_L322 F LL xs n (x4 + (1 : Int32)) (x5 + (1 : Int32)) v9.2 v12
            else
              s_law_o_L322 F LL xs n x4 (x5 + (1 : Int32)) v9.2 la
          else
            none
        else
          if v4.1 = (1 : Int32) then
            (aset 20 la x4 v2.1).bind fun v8 =>
            s_law_o_L322 F LL xs n (x4 + (1 : Int32)) (x5 + (1 : Int32)) v4.2 v8
          else
            s_law_o_L322 F LL xs n x4 (x5 + (1 : Int32)) v4.2 la
def s_law_o_L455 (F : Nat) (la : Nat → Int64) (x4 : Int32) (x7 : Int32) : Nat → Int32 → TopS → Option (Int32 × TopS)
  | 0, _, _ => none
  | n + 1, x8, S =>
    if x7 < x8 then
      some (x8, S)
    else
      ((s_h_undo F S )).bind fun v23 =>
      if v23.1 = (x7 - x8) then
        ((s_L_state F v23.2 )).bind fun v25 =>
        (aget 20 la (x4 - x8)).bind fun v26 =>
        if (lg_cmp v25.1 v26) = 0 then
          s_law_o_L455 F la x4 x7 n (x8 + (1 : Int32)) v25.2
        else
          none
      else
        none
def s_law_o_L543 (F : Nat) (LL : Nat) (xs : Nat → Int32) : Nat → Int32 → TopS → Option (Int32 × TopS)
  | 0, _, _ => none
  | n + 1, x8, S =>
    if (3 : Int32) ≤ x8 then
      some (x8, S)
    else
      (atO LL xs ((18 : Int32) + x8)).bind fun v38 =>
      ((s_L_does F S v38)).bind fun v39 =>
      if 0 ≤ v39.1 then
        s_law_o_L543 F LL xs n (x8 + (1 : Int32)) v39.2
      else
        none
def s_law_o (F : Nat) (LL : Nat) (xs : Nat → Int32) (S : TopS) (la : Nat → Int64) : Option (Unit) :=
  (s_law_o_L322 F LL xs 60 (0 : Int32) (0 : Int32) S la).bind fun o13x =>
  ((s_L_asks F o13x.2.2.1 )).bind fun v14 =>
  ((s_L_asks F v14.2 )).bind fun v15 =>
  if (lg_cmp v15.1 v14.1) = 0 then
    ((s_L_refused F v15.2 )).bind fun v17 =>
    ((s_L_asks F v17 )).bind fun v18 =>
    if (lg_cmp v18.1 v14.1) = 0 then
      ((i_save F v18.2)).bind fun v20 =>
      if v20.1 = (i_pointCount v20.2) then
        (s_law_o_L455 F o13x.2.2.2 o13x.1 (imin (12 : Int32) o13x.1) 60 (1 : Int32) v20.2).bind fun o28x =>
        ((s_h_undo F o28x.2 )).bind fun v29 =>
        if v29.1 = (-1001 : Int32) then
          ((s_h_restore F v29.2 )).bind fun v31 =>
          if v31.1 = (i_pointCount v31.2) then
            ((s_L_asks F v31.2 )).bind fun v33 =>
            if (lg_cmp v33.1 v14.1) = 0 then
              ((s_h_undo F v33.2 )).bind fun v35 =>
              if v35.1 = (-1001 : Int32) then
                (s_law_o_L543 F LL xs 60 (0 : Int32) v35.2).bind fun o41x =>
                ((s_h_restore F o41x.2 )).bind fun v42 =>
                if v42.1 = (i_pointCount v42.2) then
                  ((s_L_asks F v42.2 )).bind fun v44 =>
                  if (lg_cmp v44.1 v14.1) = 0 then
                    some ()
                  else
                    none
                else
                  none
              else
                none
            else
              none
          else
            none
        else
          none
      else
        none
    else
      none
  else
    none
