def s_Input_length (iln : Int32) : Int32 :=
  iln
def s_Row_set (rn : Nat) (rf : Nat → Int32) (a0 : Int32) (a1 : Int32) : (Nat → Int32) :=
  if a0 < 0 then
    rf
  else
    if (Int32.ofNat rn) ≤ a0 then
      rf
    else
      (upd rf (a0).toNatClampNeg a1)
def s_Input_append (ich : Nat → Int32) (iln : Int32) (a0 : Int32) : (Nat → Int32) × Int32 :=
  ((s_Row_set 60 ich iln a0), (iln + (1 : Int32)))
def s_Input_clear  : Int32 × Int32 :=
  ((0 : Int32), (0 : Int32))
def s_Input_entries (ien : Int32) : Int32 :=
  ien
def s_Row_get (rn : Nat) (rf : Nat → Int32) (a0 : Int32) : Int32 :=
  if a0 < 0 then
    (0 : Int32)
  else
    if (Int32.ofNat rn) ≤ a0 then
      (0 : Int32)
    else
      (rf (a0).toNatClampNeg)
def s_Input_firstOf (ifs : Nat → Int32) (a0 : Int32) : Int32 :=
  (s_Row_get 15 ifs a0)
def s_Input_secondOf (isc : Nat → Int32) (a0 : Int32) : Int32 :=
  (s_Row_get 15 isc a0)
def s_Input_isSegment (isg : Nat → Int32) (a0 : Int32) : Bool :=
  if (s_Row_get 15 isg a0) = 0 then
    false
  else
    true
def s_Input_startNumber  : Int32 × Int32 :=
  ((0 : Int32), (0 : Int32))
def s_Input_takesDigit (idg : Int32) (iva : Int32) (a0 : Int32) : Bool × Int32 × Int32 :=
  if idg = (3 : Int32) then
    (false, idg, iva)
  else
    (true, (idg + (1 : Int32)), (((10 : Int32) * iva) + a0))
def s_Input_endEntry (isc : Nat → Int32) (ien : Int32) (iva : Int32) : (Nat → Int32) × Int32 × Bool × Int32 × Int32 :=
  ((s_Row_set 15 isc ien iva), (ien + (1 : Int32)), false, (s_Input_startNumber).1, (s_Input_startNumber).2)
def s_Input_takesEnd (isc : Nat → Int32) (ien : Int32) (iin : Bool) (idg : Int32) (iva : Int32) (a0 : Int32) : Bool × (Nat → Int32) × Int32 × Bool × Int32 × Int32 :=
  if a0 = (59 : Int32) then
    (true, (s_Input_endEntry isc ien iva).1, (s_Input_endEntry isc ien iva).2.1, (s_Input_endEntry isc ien iva).2.2.1, (s_Input_endEntry isc ien iva).2.2.2.1, (s_Input_endEntry isc ien iva).2.2.2.2)
  else
    (false, isc, ien, iin, idg, iva)
def s_Input_takesMiddle (ifs : Nat → Int32) (isg : Nat → Int32) (ien : Int32) (iin : Bool) (idg : Int32) (iva : Int32) (a0 : Int32) : Bool × (Nat → Int32) × (Nat → Int32) × Bool × Int32 × Int32 :=
  if a0 = (44 : Int32) then
    if a0 = (45 : Int32) then
      (true, (s_Row_set 15 ifs ien iva), (s_Row_set 15 isg ien (1 : Int32)), true, (s_Input_startNumber).1, (s_Input_startNumber).2)
    else
      (true, (s_Row_set 15 ifs ien iva), (s_Row_set 15 isg ien (0 : Int32)), true, (s_Input_startNumber).1, (s_Input_startNumber).2)
  else
    if a0 = (45 : Int32) then
      if a0 = (45 : Int32) then
        (true, (s_Row_set 15 ifs ien iva), (s_Row_set 15 isg ien (1 : Int32)), true, (s_Input_startNumber).1, (s_Input_startNumber).2)
      else
        (true, (s_Row_set 15 ifs ien iva), (s_Row_set 15 isg ien (0 : Int32)), true, (s_Input_startNumber).1, (s_Input_startNumber).2)
    else
      (false, ifs, isg, iin, idg, iva)
def s_Input_takes (ifs : Nat → Int32) (isc : Nat → Int32) (isg : Nat → Int32) (ien : Int32) (iin : Bool) (idg : Int32) (iva : Int32) (a0 : Int32) : Bool × (Nat → Int32) × (Nat → Int32) × (Nat → Int32) × Int32 × Bool × Int32 × Int32 :=
  if a0 < (48 : Int32) then
    if idg = 0 then
      (false, ifs, isc, isg, ien, iin, idg, iva)
    else
      if (bI iin) = 0 then
        ((s_Input_takesMiddle ifs isg ien iin idg iva a0).1, (s_Input_takesMiddle ifs isg ien iin idg iva a0).2.1, isc, (s_Input_takesMiddle ifs isg ien iin idg iva a0).2.2.1, ien, (s_Input_takesMiddle ifs isg ien iin idg iva a0).2.2.2.1, (s_Input_takesMiddle ifs isg ien iin idg iva a0).2.2.2.2.1, (s_Input_takesMiddle ifs isg ien iin idg iva a0).2.2.2.2.2)
      else
        ((s_Input_takesEnd isc ien iin idg iva a0).1, ifs, (s_Input_takesEnd isc ien iin idg iva a0).2.1, isg, (s_Input_takesEnd isc ien iin idg iva a0).2.2.1, (s_Input_takesEnd isc ien iin idg iva a0).2.2.2.1, (s_Input_takesEnd isc ien iin idg iva a0).2.2.2.2.1, (s_Input_takesEnd isc ien iin idg iva a0).2.2.2.2.2)
  else
    if (57 : Int32) < a0 then
      if idg = 0 then
        (false, ifs, isc, isg, ien, iin, idg, iva)
      else
        if (bI iin) = 0 then
          ((s_Input_takesMiddle ifs isg ien iin idg iva a0).1, (s_Input_takesMiddle ifs isg ien iin idg iva a0).2.1, isc, (s_Input_takesMiddle ifs isg ien iin idg iva a0).2.2.1, ien, (s_Input_takesMiddle ifs isg ien iin idg iva a0).2.2.2.1, (s_Input_takesMiddle ifs isg ien iin idg iva a0).2.2.2.2.1, (s_Input_takesMiddle ifs isg ien iin idg iva a0).2.2.2.2.2)
        else
          ((s_Input_takesEnd isc ien iin idg iva a0).1, ifs, (s_Input_takesEnd isc ien iin idg iva a0).2.1, isg, (s_Input_takesEnd isc ien iin idg iva a0).2.2.1, (s_Input_takesEnd isc ien iin idg iva a0).2.2.2.1, (s_Input_takesEnd isc ien iin idg iva a0).2.2.2.2.1, (s_Input_takesEnd isc ien iin idg iva a0).2.2.2.2.2)
    else
      ((s_Input_takesDigit idg iva (a0 - (48 : Int32))).1, ifs, isc, isg, ien, iin, (s_Input_takesDigit idg iva (a0 - (48 : Int32))).2.1, (s_Input_takesDigit idg iva (a0 - (48 : Int32))).2.2)
def s_Input_parse_L16 (ich : Nat → Int32) (iln : Int32) : Nat → Int32 → (Nat → Int32) → (Nat → Int32) → (Nat → Int32) → Int32 → Bool → Int32 → Int32 → Option ((Int32 × (Nat → Int32) × (Nat → Int32) × (Nat → Int32) × Int32 × Bool × Int32 × Int32) ⊕ (Int32 × (Nat → Int32) × (Nat → Int32) × (Nat → Int32) × Int32 × Bool × Int32 × Int32))
  | 0, _, _, _, _, _, _, _, _ => none
  | n + 1, x1, ifs, isc, isg, ien, iin, idg, iva =>
    if iln ≤ x1 then
      some (.inr (x1, ifs, isc, isg, ien, iin, idg, iva))
    else
      if (bI ((s_Input_takes ifs isc isg ien iin idg iva (s_Row_get 60 ich x1)).1)) = 0 then
        some (.inl (x1, (s_Input_takes ifs isc isg ien iin idg iva (s_Row_get 60 ich x1)).2.1, (s_Input_takes ifs isc isg ien iin idg iva (s_Row_get 60 ich x1)).2.2.1, (s_Input_takes ifs isc isg ien iin idg iva (s_Row_get 60 ich x1)).2.2.2.1, (s_Input_takes ifs isc isg ien iin idg iva (s_Row_get 60 ich x1)).2.2.2.2.1, (s_Input_takes ifs isc isg ien iin idg iva (s_Row_get 60 ich x1)).2.2.2.2.2.1, (s_Input_takes ifs isc isg ien iin idg iva (s_Row_get 60 ich x1)).2.2.2.2.2.2.1, (s_Input_takes ifs isc isg ien iin idg iva (s_Row_get 60 ich x1)).2.2.2.2.2.2.2))
      else
        s_Input_parse_L16 ich iln n (x1 + (1 : Int32)) ((s_Input_takes ifs isc isg ien iin idg iva (s_Row_get 60 ich x1)).2.1) ((s_Input_takes ifs isc isg ien iin idg iva (s_Row_get 60 ich x1)).2.2.1) ((s_Input_takes ifs isc isg ien iin idg iva (s_Row_get 60 ich x1)).2.2.2.1) ((s_Input_takes ifs isc isg ien iin idg iva (s_Row_get 60 ich x1)).2.2.2.2.1) ((s_Input_takes ifs isc isg ien iin idg iva (s_Row_get 60 ich x1)).2.2.2.2.2.1) ((s_Input_takes ifs isc isg ien iin idg iva (s_Row_get 60 ich x1)).2.2.2.2.2.2.1) ((s_Input_takes ifs isc isg ien iin idg iva (s_Row_get 60 ich x1)).2.2.2.2.2.2.2)
def s_Input_parse (F : Nat) (ich : Nat → Int32) (ifs : Nat → Int32) (isc : Nat → Int32) (isg : Nat → Int32) (iln : Int32) : Option (Int32 × (Nat → Int32) × (Nat → Int32) × (Nat → Int32) × Int32 × Bool × Int32 × Int32) :=
  (s_Input_parse_L16 ich iln F (0 : Int32) ifs isc isg (0 : Int32) false ((s_Input_startNumber).1) ((s_Input_startNumber).2)).bind fun o3 =>
  Sum.elim (fun q_o =>
    some q_o) (fun o3x =>
    if (bI o3x.2.2.2.2.2.1) = 0 then
      some (iln, o3x.2.1, o3x.2.2.1, o3x.2.2.2.1, o3x.2.2.2.2.1, o3x.2.2.2.2.2.1, o3x.2.2.2.2.2.2.1, o3x.2.2.2.2.2.2.2)
    else
      if o3x.2.2.2.2.2.2.1 = 0 then
        some (iln, o3x.2.1, o3x.2.2.1, o3x.2.2.2.1, o3x.2.2.2.2.1, o3x.2.2.2.2.2.1, o3x.2.2.2.2.2.2.1, o3x.2.2.2.2.2.2.2)
      else
        some ((-1 : Int32), o3x.2.1, (s_Input_endEntry o3x.2.2.1 o3x.2.2.2.2.1 o3x.2.2.2.2.2.2.2).1, o3x.2.2.2.1, (s_Input_endEntry o3x.2.2.1 o3x.2.2.2.2.1 o3x.2.2.2.2.2.2.2).2.1, (s_Input_endEntry o3x.2.2.1 o3x.2.2.2.2.1 o3x.2.2.2.2.2.2.2).2.2.1, (s_Input_endEntry o3x.2.2.1 o3x.2.2.2.2.1 o3x.2.2.2.2.2.2.2).2.2.2.1, (s_Input_endEntry o3x.2.2.1 o3x.2.2.2.2.1 o3x.2.2.2.2.2.2.2).2.2.2.2)) o3
def s_Tab_clear_L2 (tb : Int32) : Nat → Int32 → (Nat → Int32) → Option (Int32 × (Nat → Int32))
  | 0, _, _ => none
  | n + 1, x1, tf =>
    if (256 : Int32) ≤ x1 then
      some (x1, tf)
    else
      (aset 256 tf x1 tb).bind fun v2 =>
      s_Tab_clear_L2 tb n (x1 + (1 : Int32)) v2
def s_Tab_clear (F : Nat) (tb : Int32) (tf : Nat → Int32) : Option ((Nat → Int32)) :=
  (s_Tab_clear_L2 tb F (0 : Int32) tf).bind fun o3x =>
  some o3x.2
def s_Plan_points (pn : Int32) : Int32 :=
  pn
def s_Plan_twiceSignedArea (pxs : Nat → Int32) (pys : Nat → Int32) (a0 : Int32) (a1 : Int32) (a2 : Int32) (a3 : Int32) : Int32 :=
  ((((s_Row_get 16 pxs a1) - (s_Row_get 16 pxs a0)) * (a3 - (s_Row_get 16 pys a0))) - (((s_Row_get 16 pys a1) - (s_Row_get 16 pys a0)) * (a2 - (s_Row_get 16 pxs a0))))
def s_Top_signOf (a0 : Int64) : Int32 :=
  if (lg_cmp a0 (0 : Int64)) ≤ 0 then
    if 0 ≤ (lg_cmp a0 (0 : Int64)) then
      (0 : Int32)
    else
      (-1 : Int32)
  else
    (1 : Int32)
def s_Plan_side (pxs : Nat → Int32) (pys : Nat → Int32) (a0 : Int32) (a1 : Int32) (a2 : Int32) : Int32 :=
  (s_Top_signOf (((s_Plan_twiceSignedArea pxs pys a0 a1 (s_Row_get 16 pxs a2) (s_Row_get 16 pys a2))).toInt64))
def s_Tab_set (tf : Nat → Int32) (a0 : Int32) (a1 : Int32) (a2 : Int32) : (Nat → Int32) :=
  if ((a0 * (16 : Int32)) + a1) < 0 then
    tf
  else
    if (256 : Int32) ≤ ((a0 * (16 : Int32)) + a1) then
      tf
    else
      (upd tf (((a0 * (16 : Int32)) + a1)).toNatClampNeg a2)
def s_Mesh_findSidesOf_L8 (pxs : Nat → Int32) (pys : Nat → Int32) (pn : Int32) (x1 : Int32) (x2 : Int32) : Nat → Int32 → Int32 → Int32 → Option (Int32 × Int32 × Int32)
  | 0, _, _, _ => none
  | n + 1, x3, x4, x5 =>
    if (s_Plan_points pn) ≤ x5 then
      some (x3, x4, x5)
    else
      if (s_Plan_side pxs pys x1 x2 x5) ≤ 0 then
        if 0 ≤ (s_Plan_side pxs pys x1 x2 x5) then
          s_Mesh_findSidesOf_L8 pxs pys pn x1 x2 n x3 x4 (x5 + (1 : Int32))
        else
          s_Mesh_findSidesOf_L8 pxs pys pn x1 x2 n x3 (x4 ||| ((1 : Int32) <<< (x5 &&& 31))) (x5 + (1 : Int32))
      else
        s_Mesh_findSidesOf_L8 pxs pys pn x1 x2 n (x3 ||| ((1 : Int32) <<< (x5 &&& 31))) x4 (x5 + (1 : Int32))
def s_Mesh_findSidesOf (F : Nat) (pxs : Nat → Int32) (pys : Nat → Int32) (pn : Int32) (lf : Nat → Int32) (a0 : Int32) (a1 : Int32) : Option ((Nat → Int32)) :=
  (s_Mesh_findSidesOf_L8 pxs pys pn a0 a1 F (0 : Int32) (0 : Int32) (0 : Int32)).bind fun o4x =>
  some (s_Tab_set (s_Tab_set lf a0 a1 o4x.1) a1 a0 o4x.2.1)
def s_Mesh_findSides_L24 (F : Nat) (pxs : Nat → Int32) (pys : Nat → Int32) (pn : Int32) (x1 : Int32) : Nat → Int32 → (Nat → Int32) → Option (Int32 × (Nat → Int32))
  | 0, _, _ => none
  | n + 1, x2, lf =>
    if (s_Plan_points pn) ≤ x2 then
      some (x2, lf)
    else
      ((s_Mesh_findSidesOf F pxs pys pn lf x1 x2)).bind fun v4 =>
      s_Mesh_findSides_L24 F pxs pys pn x1 n (x2 + (1 : Int32)) v4
def s_Mesh_findSides_L9 (F : Nat) (pxs : Nat → Int32) (pys : Nat → Int32) (pn : Int32) : Nat → Int32 → (Nat → Int32) → Option (Int32 × (Nat → Int32))
  | 0, _, _ => none
  | n + 1, x1, lf =>
    if (s_Plan_points pn) ≤ x1 then
      some (x1, lf)
    else
      (s_Mesh_findSides_L24 F pxs pys pn x1 F (x1 + (1 : Int32)) lf).bind fun o5x =>
      s_Mesh_findSides_L9 F pxs pys pn n (x1 + (1 : Int32)) o5x.2
def s_Mesh_findSides (F : Nat) (pxs : Nat → Int32) (pys : Nat → Int32) (pn : Int32) (lf : Nat → Int32) : Option ((Nat → Int32)) :=
  ((s_Tab_clear F 0 lf)).bind fun v1 =>
  (s_Mesh_findSides_L9 F pxs pys pn F (0 : Int32) v1).bind fun o6x =>
  some o6x.2
def s_Plan_constraints (pm : Int32) : Int32 :=
  pm
def s_Plan_lowEnd (plo : Nat → Int32) (a0 : Int32) : Int32 :=
  (s_Row_get 10 plo a0)
def s_Plan_highEnd (phi : Nat → Int32) (a0 : Int32) : Int32 :=
  (s_Row_get 10 phi a0)
def s_Mesh_link (lk : Nat → Int32) (a0 : Int32) (a1 : Int32) : (Nat → Int32) :=
  (s_Row_set 16 (s_Row_set 16 lk a0 ((s_Row_get 16 lk a0) ||| ((1 : Int32) <<< (a1 &&& 31)))) a1 ((s_Row_get 16 (s_Row_set 16 lk a0 ((s_Row_get 16 lk a0) ||| ((1 : Int32) <<< (a1 &&& 31)))) a1) ||| ((1 : Int32) <<< (a0 &&& 31))))
def s_Mesh_drawEdge (lk : Nat → Int32) (el : Nat → Int32) (eh : Nat → Int32) (ne : Int32) (a0 : Int32) (a1 : Int32) : (Nat → Int32) × (Nat → Int32) × (Nat → Int32) × Int32 :=
  ((s_Mesh_link lk a0 a1), (s_Row_set 42 el ne a0), (s_Row_set 42 eh ne a1), (ne + (1 : Int32)))
def s_Mesh_isLinked (lk : Nat → Int32) (a0 : Int32) (a1 : Int32) : Bool :=
  if (((s_Row_get 16 lk a0) >>> (a1 &&& 31)) &&& (1 : Int32)) = 0 then
    false
  else
    true
def s_Plan_covers (pxs : Nat → Int32) (pys : Nat → Int32) (a0 : Int32) (a1 : Int32) (a2 : Int32) (a3 : Int32) : Bool :=
  if (s_Plan_twiceSignedArea pxs pys a0 a1 a2 a3) = 0 then
    if 0 ≤ ((((s_Row_get 16 pxs a0) - a2) * ((s_Row_get 16 pxs a1) - a2)) + (((s_Row_get 16 pys a0) - a3) * ((s_Row_get 16 pys a1) - a3))) then
      false
    else
      true
  else
    false
def s_Plan_coversPoint_L2 (pxs : Nat → Int32) (pys : Nat → Int32) (pn : Int32) (x1 : Int32) (x2 : Int32) : Nat → Int32 → Option ((Bool) ⊕ (Int32))
  | 0, _ => none
  | n + 1, x3 =>
    if pn ≤ x3 then
      some (.inr x3)
    else
      if (bI (s_Plan_covers pxs pys x1 x2 (s_Row_get 16 pxs x3) (s_Row_get 16 pys x3))) = 0 then
        s_Plan_coversPoint_L2 pxs pys pn x1 x2 n (x3 + (1 : Int32))
      else
        some (.inl true)
def s_Plan_coversPoint (F : Nat) (pxs : Nat → Int32) (pys : Nat → Int32) (pn : Int32) (a0 : Int32) (a1 : Int32) : Option (Bool) :=
  (s_Plan_coversPoint_L2 pxs pys pn a0 a1 F (0 : Int32)).bind fun o3 =>
  Sum.elim (fun q_o =>
    some q_o) (fun o3x =>
    some false) o3
def s_Tab_get (tb : Int32) (tf : Nat → Int32) (a0 : Int32) (a1 : Int32) : Int32 :=
  if ((a0 * (16 : Int32)) + a1) < 0 then
    tb
  else
    if (256 : Int32) ≤ ((a0 * (16 : Int32)) + a1) then
      tb
    else
      (tf (((a0 * (16 : Int32)) + a1)).toNatClampNeg)
def s_Mesh_parts (lf : Nat → Int32) (a0 : Int32) (a1 : Int32) (a2 : Int32) (a3 : Int32) : Bool :=
  if (((((s_Tab_get 0 lf a0 a1) >>> (a2 &&& 31)) &&& ((s_Tab_get 0 lf a1 a0) >>> (a3 &&& 31))) ||| (((s_Tab_get 0 lf a0 a1) >>> (a3 &&& 31)) &&& ((s_Tab_get 0 lf a1 a0) >>> (a2 &&& 31)))) &&& (1 : Int32)) = 0 then
    false
  else
    true
def s_Mesh_splits (lf : Nat → Int32) (a0 : Int32) (a1 : Int32) (a2 : Int32) (a3 : Int32) : Bool :=
  if (bI (s_Mesh_parts lf a0 a1 a2 a3)) = 0 then
    false
  else
    if (bI (s_Mesh_parts lf a2 a3 a0 a1)) = 0 then
      false
    else
      true
def s_Mesh_crossesEdge_L2 (lf : Nat → Int32) (el : Nat → Int32) (eh : Nat → Int32) (ne : Int32) (x1 : Int32) (x2 : Int32) : Nat → Int32 → Option ((Bool) ⊕ (Int32))
  | 0, _ => none
  | n + 1, x3 =>
    if ne ≤ x3 then
      some (.inr x3)
    else
      if (bI (s_Mesh_splits lf x1 x2 (s_Row_get 42 el x3) (s_Row_get 42 eh x3))) = 0 then
        s_Mesh_crossesEdge_L2 lf el eh ne x1 x2 n (x3 + (1 : Int32))
      else
        some (.inl true)
def s_Mesh_crossesEdge (F : Nat) (lf : Nat → Int32) (el : Nat → Int32) (eh : Nat → Int32) (ne : Int32) (a0 : Int32) (a1 : Int32) : Option (Bool) :=
  (s_Mesh_crossesEdge_L2 lf el eh ne a0 a1 F (0 : Int32)).bind fun o3 =>
  Sum.elim (fun q_o =>
    some q_o) (fun o3x =>
    some false) o3
def s_Mesh_drawSomeEdges_L7  : Nat → Int32 → (Nat → Int32) → Option (Int32 × (Nat → Int32))
  | 0, _, _ => none
  | n + 1, x1, lk =>
    if (16 : Int32) ≤ x1 then
      some (x1, lk)
    else
      s_Mesh_drawSomeEdges_L7  n (x1 + (1 : Int32)) (s_Row_set 16 lk x1 (0 : Int32))
def s_Mesh_drawSomeEdges_L30 (plo : Nat → Int32) (phi : Nat → Int32) (pm : Int32) : Nat → Int32 → (Nat → Int32) → (Nat → Int32) → (Nat → Int32) → Int32 → Option (Int32 × (Nat → Int32) × (Nat → Int32) × (Nat → Int32) × Int32)
  | 0, _, _, _, _, _ => none
  | n + 1, x1, lk, el, eh, ne =>
    if (s_Plan_constraints pm) ≤ x1 then
      some (x1, lk, el, eh, ne)
    else
      s_Mesh_drawSomeEdges_L30 plo phi pm n (x1 + (1 : Int32)) ((s_Mesh_drawEdge lk el eh ne (s_Plan_lowEnd plo x1) (s_Plan_highEnd phi x1)).1) ((s_Mesh_drawEdge lk el eh ne (s_Plan_lowEnd plo x1) (s_Plan_highEnd phi x1)).2.1) ((s_Mesh_drawEdge lk el eh ne (s_Plan_lowEnd plo x1) (s_Plan_highEnd phi x1)).2.2.1) ((s_Mesh_drawEdge lk el eh ne (s_Plan_lowEnd plo x1) (s_Plan_highEnd phi x1)).2.2.2)
def s_Mesh_drawSomeEdges_L84 (F : Nat) (pxs : Nat → Int32) (pys : Nat → Int32) (pn : Int32) (lf : Nat → Int32) (x1 : Int32) : Nat → Int32 → (Nat → Int32) → (Nat → Int32) → (Nat → Int32) → Int32 → Option (Int32 × (Nat → Int32) × (Nat → Int32) × (Nat → Int32) × Int32)
  | 0, _, _, _, _, _ => none
  | n + 1, x2, lk, el, eh, ne =>
    if (s_Plan_points pn) ≤ x2 then
      some (x2, lk, el, eh, ne)
    else
      if (bI (s_Mesh_isLinked lk x1 x2)) = 0 then
        ((s_Plan_coversPoint F pxs pys pn x1 x2)).bind fun v8 =>
        if (bI v8) = 0 then
          ((s_Mesh_crossesEdge F lf el eh ne x1 x2)).bind fun v10 =>
          if (bI v10) = 0 then
            s_Mesh_drawSomeEdges_L84 F pxs pys pn lf x1 n (x2 + (1 : Int32)) ((s_Mesh_drawEdge lk el eh ne x1 x2).1) ((s_Mesh_drawEdge lk el eh ne x1 x2).2.1) ((s_Mesh_drawEdge lk el eh ne x1 x2).2.2.1) ((s_Mesh_drawEdge lk el eh ne x1 x2).2.2.2)
          else
            s_Mesh_drawSomeEdges_L84 F pxs pys pn lf x1 n (x2 + (1 : Int32)) lk el eh ne
        else
          s_Mesh_drawSomeEdges_L84 F pxs pys pn lf x1 n (x2 + (1 : Int32)) lk el eh ne
      else
        s_Mesh_drawSomeEdges_L84 F pxs pys pn lf x1 n (x2 + (1 : Int32)) lk el eh ne
def s_Mesh_drawSomeEdges_L69 (F : Nat) (pxs : Nat → Int32) (pys : Nat → Int32) (pn : Int32) (lf : Nat → Int32) : Nat → Int32 → (Nat → Int32) → (Nat → Int32) → (Nat → Int32) → Int32 → Option (Int32 × (Nat → Int32) × (Nat → Int32) × (Nat → Int32) × Int32)
  | 0, _, _, _, _, _ => none
  | n + 1, x1, lk, el, eh, ne =>
    if (s_Plan_points pn) ≤ x1 then
      some (x1, lk, el, eh, ne)
    else
      (s_Mesh_drawSomeEdges_L84 F pxs pys pn lf x1 F (x1 + (1 : Int32)) lk el eh ne).bind fun o12x =>
      s_Mesh_drawSomeEdges_L69 F pxs pys pn lf n (x1 + (1 : Int32)) o12x.2.1 o12x.2.2.1 o12x.2.2.2.1 o12x.2.2.2.2
def s_Mesh_drawSomeEdges (F : Nat) (pxs : Nat → Int32) (pys : Nat → Int32) (plo : Nat → Int32) (phi : Nat → Int32) (pn : Int32) (pm : Int32) (lf : Nat → Int32) (lk : Nat → Int32) (el : Nat → Int32) (eh : Nat → Int32) : Option ((Nat → Int32) × (Nat → Int32) × (Nat → Int32) × Int32) :=
  (s_Mesh_drawSomeEdges_L7 F (0 : Int32) lk).bind fun o2x =>
  (s_Mesh_drawSomeEdges_L30 plo phi pm F (0 : Int32) o2x.2 el eh (0 : Int32)).bind fun o4x =>
  (s_Mesh_drawSomeEdges_L69 F pxs pys pn lf F (0 : Int32) o4x.2.1 o4x.2.2.1 o4x.2.2.2.1 o4x.2.2.2.2).bind fun o13x =>
  some (o13x.2.1, o13x.2.2.1, o13x.2.2.2.1, o13x.2.2.2.2)
def s_Mesh_emptyCorner_L31 (pn : Int32) (lf : Nat → Int32) (x1 : Int32) (x2 : Int32) (x3 : Int32) : Nat → Int32 → Option ((Int32) ⊕ (Int32))
  | 0, _ => none
  | n + 1, x4 =>
    if (s_Plan_points pn) ≤ x4 then
      some (.inr x4)
    else
      if ((x3 >>> (x4 &&& 31)) &&& (1 : Int32)) = 0 then
        s_Mesh_emptyCorner_L31 pn lf x1 x2 x3 n (x4 + (1 : Int32))
      else
        if (((s_Tab_get 0 lf x1 x2) &&& (s_Tab_get 0 lf x2 x4)) &&& (s_Tab_get 0 lf x4 x1)) = 0 then
          some (.inl x4)
        else
          s_Mesh_emptyCorner_L31 pn lf x1 x2 x3 n (x4 + (1 : Int32))
def s_Mesh_emptyCorner (F : Nat) (pn : Int32) (lf : Nat → Int32) (lk : Nat → Int32) (a0 : Int32) (a1 : Int32) : Option (Int32) :=
  (s_Mesh_emptyCorner_L31 pn lf a0 a1 (((s_Row_get 16 lk a0) &&& (s_Row_get 16 lk a1)) &&& (s_Tab_get 0 lf a0 a1)) F (0 : Int32)).bind fun o4 =>
  Sum.elim (fun q_o =>
    some q_o) (fun o4x =>
    some (-1 : Int32)) o4
def s_Mesh_findThirds_L22 (F : Nat) (pn : Int32) (lf : Nat → Int32) (lk : Nat → Int32) (x1 : Int32) : Nat → Int32 → (Nat → Int32) → Option (Int32 × (Nat → Int32))
  | 0, _, _ => none
  | n + 1, x2, th =>
    if (s_Plan_points pn) ≤ x2 then
      some (x2, th)
    else
      if (bI (s_Mesh_isLinked lk x1 x2)) = 0 then
        s_Mesh_findThirds_L22 F pn lf lk x1 n (x2 + (1 : Int32)) th
      else
        ((s_Mesh_emptyCorner F pn lf lk x1 x2)).bind fun v5 =>
        s_Mesh_findThirds_L22 F pn lf lk x1 n (x2 + (1 : Int32)) (s_Tab_set th x1 x2 v5)
def s_Mesh_findThirds_L9 (F : Nat) (pn : Int32) (lf : Nat → Int32) (lk : Nat → Int32) : Nat → Int32 → (Nat → Int32) → Option (Int32 × (Nat → Int32))
  | 0, _, _ => none
  | n + 1, x1, th =>
    if (s_Plan_points pn) ≤ x1 then
      some (x1, th)
    else
      (s_Mesh_findThirds_L22 F pn lf lk x1 F (0 : Int32) th).bind fun o6x =>
      s_Mesh_findThirds_L9 F pn lf lk n (x1 + (1 : Int32)) o6x.2
def s_Mesh_findThirds (F : Nat) (pn : Int32) (lf : Nat → Int32) (th : Nat → Int32) (lk : Nat → Int32) : Option ((Nat → Int32)) :=
  ((s_Tab_clear F (-1) th)).bind fun v1 =>
  (s_Mesh_findThirds_L9 F pn lf lk F (0 : Int32) v1).bind fun o7x =>
  some o7x.2
def s_Mesh_isInner (th : Nat → Int32) (a0 : Int32) (a1 : Int32) : Bool :=
  if (s_Tab_get (-1) th a0 a1) = (-1 : Int32) then
    false
  else
    if (s_Tab_get (-1) th a1 a0) = (-1 : Int32) then
      false
    else
      true
def s_Plan_squaredDistance (pxs : Nat → Int32) (pys : Nat → Int32) (a0 : Int32) (a1 : Int32) : Int32 :=
  ((((s_Row_get 16 pxs a0) - (s_Row_get 16 pxs a1)) * ((s_Row_get 16 pxs a0) - (s_Row_get 16 pxs a1))) + (((s_Row_get 16 pys a0) - (s_Row_get 16 pys a1)) * ((s_Row_get 16 pys a0) - (s_Row_get 16 pys a1))))
def s_Plan_twiceAreaFrom (pxs : Nat → Int32) (pys : Nat → Int32) (a0 : Int32) (a1 : Int32) (a2 : Int32) (a3 : Int32) : Int32 :=
  ((((s_Row_get 16 pxs a2) - a0) * ((s_Row_get 16 pys a3) - a1)) - (((s_Row_get 16 pys a2) - a1) * ((s_Row_get 16 pxs a3) - a0)))
def s_Plan_circleSide (pxs : Nat → Int32) (pys : Nat → Int32) (a0 : Int32) (a1 : Int32) (a2 : Int32) (a3 : Int32) : Int32 :=
  ((s_Top_signOf ((((((s_Plan_squaredDistance pxs pys a0 a3)).toInt64) * (((s_Plan_twiceAreaFrom pxs pys (s_Row_get 16 pxs a3) (s_Row_get 16 pys a3) a1 a2)).toInt64)) + ((((s_Plan_squaredDistance pxs pys a1 a3)).toInt64) * (((s_Plan_twiceAreaFrom pxs pys (s_Row_get 16 pxs a3) (s_Row_get 16 pys a3) a2 a0)).toInt64))) + ((((s_Plan_squaredDistance pxs pys a2 a3)).toInt64) * (((s_Plan_twiceAreaFrom pxs pys (s_Row_get 16 pxs a3) (s_Row_get 16 pys a3) a0 a1)).toInt64)))) * (s_Plan_side pxs pys a0 a1 a2))
def s_Mesh_passesCircle (pxs : Nat → Int32) (pys : Nat → Int32) (th : Nat → Int32) (a0 : Int32) (a1 : Int32) : Bool :=
  if (s_Plan_circleSide pxs pys a0 a1 (s_Tab_get (-1) th a0 a1) (s_Tab_get (-1) th a1 a0)) < 0 then
    true
  else
    if (s_Plan_circleSide pxs pys a0 a1 (s_Tab_get (-1) th a0 a1) (s_Tab_get (-1) th a1 a0)) = 0 then
      if (imax (s_Tab_get (-1) th a0 a1) (s_Tab_get (-1) th a1 a0)) ≤ (imax a0 a1) then
        false
      else
        true
    else
      false
def s_Plan_isConstraint_L2 (plo : Nat → Int32) (phi : Nat → Int32) (pm : Int32) (x1 : Int32) (x2 : Int32) : Nat → Int32 → Option ((Bool) ⊕ (Int32))
  | 0, _ => none
  | n + 1, x3 =>
    if pm ≤ x3 then
      some (.inr x3)
    else
      if (s_Row_get 10 plo x3) = (imin x1 x2) then
        if (s_Row_get 10 phi x3) = (imax x1 x2) then
          some (.inl true)
        else
          s_Plan_isConstraint_L2 plo phi pm x1 x2 n (x3 + (1 : Int32))
      else
        s_Plan_isConstraint_L2 plo phi pm x1 x2 n (x3 + (1 : Int32))
def s_Plan_isConstraint (F : Nat) (plo : Nat → Int32) (phi : Nat → Int32) (pm : Int32) (a0 : Int32) (a1 : Int32) : Option (Bool) :=
  (s_Plan_isConstraint_L2 plo phi pm a0 a1 F (0 : Int32)).bind fun o4 =>
  Sum.elim (fun q_o =>
    some q_o) (fun o4x =>
    some false) o4
def s_Mesh_unlink (lk : Nat → Int32) (a0 : Int32) (a1 : Int32) : (Nat → Int32) :=
  (s_Row_set 16 (s_Row_set 16 lk a0 ((s_Row_get 16 lk a0) &&& (((1 : Int32) <<< (a1 &&& 31)) ^^^ (-1 : Int32)))) a1 ((s_Row_get 16 (s_Row_set 16 lk a0 ((s_Row_get 16 lk a0) &&& (((1 : Int32) <<< (a1 &&& 31)) ^^^ (-1 : Int32)))) a1) &&& (((1 : Int32) <<< (a0 &&& 31)) ^^^ (-1 : Int32))))
def s_Tab_turnRound (tf : Nat → Int32) (a0 : Int32) (a1 : Int32) (a2 : Int32) : (Nat → Int32) :=
  (s_Tab_set (s_Tab_set (s_Tab_set tf a0 a1 a2) a1 a2 a0) a2 a0 a1)
def s_Mesh_flip (th : Nat → Int32) (lk : Nat → Int32) (a0 : Int32) (a1 : Int32) : (Nat → Int32) × (Nat → Int32) :=
  ((s_Tab_turnRound (s_Tab_turnRound (s_Tab_set (s_Tab_set th a0 a1 (-1 : Int32)) a1 a0 (-1 : Int32)) a0 (s_Tab_get (-1) th a1 a0) (s_Tab_get (-1) th a0 a1)) (s_Tab_get (-1) th a1 a0) a1 (s_Tab_get (-1) th a0 a1)), (s_Mesh_link (s_Mesh_unlink lk a0 a1) (s_Tab_get (-1) th a0 a1) (s_Tab_get (-1) th a1 a0)))
def s_Mesh_flipBadEdges_L19 (F : Nat) (pxs : Nat → Int32) (pys : Nat → Int32) (plo : Nat → Int32) (phi : Nat → Int32) (pn : Int32) (pm : Int32) (x2 : Int32) : Nat → Int32 → Int32 → (Nat → Int32) → (Nat → Int32) → Option (Int32 × Int32 × (Nat → Int32) × (Nat → Int32))
  | 0, _, _, _, _ => none
  | n + 1, x1, x3, th, lk =>
    if (s_Plan_points pn) ≤ x3 then
      some (x1, x3, th, lk)
    else
      if (bI (s_Mesh_isInner th x2 x3)) = 0 then
        s_Mesh_flipBadEdges_L19 F pxs pys plo phi pn pm x2 n x1 (x3 + (1 : Int32)) th lk
      else
        if (bI (s_Mesh_passesCircle pxs pys th x2 x3)) = 0 then
          ((s_Plan_isConstraint F plo phi pm x2 x3)).bind fun v5 =>
          if (bI v5) = 0 then
            s_Mesh_flipBadEdges_L19 F pxs pys plo phi pn pm x2 n (1 : Int32) (x3 + (1 : Int32)) ((s_Mesh_flip th lk x2 x3).1) ((s_Mesh_flip th lk x2 x3).2)
          else
            s_Mesh_flipBadEdges_L19 F pxs pys plo phi pn pm x2 n x1 (x3 + (1 : Int32)) th lk
        else
          s_Mesh_flipBadEdges_L19 F pxs pys plo phi pn pm x2 n x1 (x3 + (1 : Int32)) th lk
def s_Mesh_flipBadEdges_L4 (F : Nat) (pxs : Nat → Int32) (pys : Nat → Int32) (plo : Nat → Int32) (phi : Nat → Int32) (pn : Int32) (pm : Int32) : Nat → Int32 → Int32 → (Nat → Int32) → (Nat → Int32) → Option (Int32 × Int32 × (Nat → Int32) × (Nat → Int32))
  | 0, _, _, _, _ => none
  | n + 1, x1, x2, th, lk =>
    if (s_Plan_points pn) ≤ x2 then
      some (x1, x2, th, lk)
    else
      (s_Mesh_flipBadEdges_L19 F pxs pys plo phi pn pm x2 F x1 (x2 + (1 : Int32)) th lk).bind fun o7x =>
      s_Mesh_flipBadEdges_L4 F pxs pys plo phi pn pm n o7x.1 (x2 + (1 : Int32)) o7x.2.2.1 o7x.2.2.2
def s_Mesh_flipBadEdges (F : Nat) (pxs : Nat → Int32) (pys : Nat → Int32) (plo : Nat → Int32) (phi : Nat → Int32) (pn : Int32) (pm : Int32) (th : Nat → Int32) (lk : Nat → Int32) : Option (Bool × (Nat → Int32) × (Nat → Int32)) :=
  (s_Mesh_flipBadEdges_L4 F pxs pys plo phi pn pm F (0 : Int32) (0 : Int32) th lk).bind fun o8x =>
  if o8x.1 = 0 then
    some (false, o8x.2.2.1, o8x.2.2.2)
  else if o8x.1 = 1 then
    some (true, o8x.2.2.1, o8x.2.2.2)
  else none
def s_Mesh_numberEdges_L22 (pn : Int32) (lk : Nat → Int32) (x1 : Int32) : Nat → Int32 → (Nat → Int32) → (Nat → Int32) → Int32 → Option (Int32 × (Nat → Int32) × (Nat → Int32) × Int32)
  | 0, _, _, _, _ => none
  | n + 1, x2, el, eh, ne =>
    if (s_Plan_points pn) ≤ x2 then
      some (x2, el, eh, ne)
    else
      if (bI (s_Mesh_isLinked lk x1 x2)) = 0 then
        s_Mesh_numberEdges_L22 pn lk x1 n (x2 + (1 : Int32)) el eh ne
      else
        s_Mesh_numberEdges_L22 pn lk x1 n (x2 + (1 : Int32)) (s_Row_set 42 el ne x1) (s_Row_set 42 eh ne x2) (ne + (1 : Int32))
def s_Mesh_numberEdges_L7 (F : Nat) (pn : Int32) (lk : Nat → Int32) : Nat → Int32 → (Nat → Int32) → (Nat → Int32) → Int32 → Option (Int32 × (Nat → Int32) × (Nat → Int32) × Int32)
  | 0, _, _, _, _ => none
  | n + 1, x1, el, eh, ne =>
    if (s_Plan_points pn) ≤ x1 then
      some (x1, el, eh, ne)
    else
      (s_Mesh_numberEdges_L22 pn lk x1 F (x1 + (1 : Int32)) el eh ne).bind fun o4x =>
      s_Mesh_numberEdges_L7 F pn lk n (x1 + (1 : Int32)) o4x.2.1 o4x.2.2.1 o4x.2.2.2
def s_Mesh_numberEdges (F : Nat) (pn : Int32) (lk : Nat → Int32) (el : Nat → Int32) (eh : Nat → Int32) : Option ((Nat → Int32) × (Nat → Int32) × Int32) :=
  (s_Mesh_numberEdges_L7 F pn lk F (0 : Int32) el eh (0 : Int32)).bind fun o5x =>
  some (o5x.2.1, o5x.2.2.1, o5x.2.2.2)
def s_Mesh_addTriangle (ow : Nat → Int32) (co : Nat → Int32) (nt : Int32) (a0 : Int32) (a1 : Int32) (a2 : Int32) : (Nat → Int32) × (Nat → Int32) × Int32 :=
  ((s_Tab_set (s_Tab_set (s_Tab_set ow a0 a1 nt) a1 a2 nt) a2 a0 nt), (s_Row_set 81 (s_Row_set 81 (s_Row_set 81 co ((3 : Int32) * nt) a0) (((3 : Int32) * nt) + (1 : Int32)) a1) (((3 : Int32) * nt) + (2 : Int32)) a2), (nt + (1 : Int32)))
def s_Mesh_numberTriangles_L29 (pn : Int32) (th : Nat → Int32) (x1 : Int32) : Nat → Int32 → (Nat → Int32) → (Nat → Int32) → Int32 → Option (Int32 × (Nat → Int32) × (Nat → Int32) × Int32)
  | 0, _, _, _, _ => none
  | n + 1, x2, ow, co, nt =>
    if (s_Plan_points pn) ≤ x2 then
      some (x2, ow, co, nt)
    else
      if (s_Tab_get (-1) th x1 x2) ≤ x1 then
        s_Mesh_numberTriangles_L29 pn th x1 n (x2 + (1 : Int32)) ow co nt
      else
        s_Mesh_numberTriangles_L29 pn th x1 n (x2 + (1 : Int32)) ((s_Mesh_addTriangle ow co nt x1 x2 (s_Tab_get (-1) th x1 x2)).1) ((s_Mesh_addTriangle ow co nt x1 x2 (s_Tab_get (-1) th x1 x2)).2.1) ((s_Mesh_addTriangle ow co nt x1 x2 (s_Tab_get (-1) th x1 x2)).2.2)
def s_Mesh_numberTriangles_L14 (F : Nat) (pn : Int32) (th : Nat → Int32) : Nat → Int32 → (Nat → Int32) → (Nat → Int32) → Int32 → Option (Int32 × (Nat → Int32) × (Nat → Int32) × Int32)
  | 0, _, _, _, _ => none
  | n + 1, x1, ow, co, nt =>
    if (s_Plan_points pn) ≤ x1 then
      some (x1, ow, co, nt)
    else
      (s_Mesh_numberTriangles_L29 pn th x1 F (x1 + (1 : Int32)) ow co nt).bind fun o5x =>
      s_Mesh_numberTriangles_L14 F pn th n (x1 + (1 : Int32)) o5x.2.1 o5x.2.2.1 o5x.2.2.2
def s_Mesh_numberTriangles (F : Nat) (pn : Int32) (th : Nat → Int32) (ow : Nat → Int32) (co : Nat → Int32) : Option ((Nat → Int32) × (Nat → Int32) × Int32) :=
  ((s_Tab_clear F (-1) ow)).bind fun v1 =>
  (s_Mesh_numberTriangles_L14 F pn th F (0 : Int32) v1 co (0 : Int32)).bind fun o6x =>
  some (o6x.2.1, o6x.2.2.1, o6x.2.2.2)
def s_Mesh_nextOnHull_L2 (pn : Int32) (th : Nat → Int32) (x1 : Int32) : Nat → Int32 → Option ((Int32) ⊕ (Int32))
  | 0, _ => none
  | n + 1, x2 =>
    if (s_Plan_points pn) ≤ x2 then
      some (.inr x2)
    else
      if (s_Tab_get (-1) th x1 x2) = (-1 : Int32) then
        s_Mesh_nextOnHull_L2 pn th x1 n (x2 + (1 : Int32))
      else
        if (s_Tab_get (-1) th x2 x1) = (-1 : Int32) then
          some (.inl x2)
        else
          s_Mesh_nextOnHull_L2 pn th x1 n (x2 + (1 : Int32))
def s_Mesh_nextOnHull (F : Nat) (pn : Int32) (th : Nat → Int32) (a0 : Int32) : Option (Int32) :=
  (s_Mesh_nextOnHull_L2 pn th a0 F (0 : Int32)).bind fun o4 =>
  Sum.elim (fun q_o =>
    some q_o) (fun o4x =>
    some (-1 : Int32)) o4
def s_Mesh_firstOnHull_L2 (F : Nat) (pn : Int32) (th : Nat → Int32) : Nat → Int32 → Option ((Int32) ⊕ (Int32))
  | 0, _ => none
  | n + 1, x1 =>
    if (s_Plan_points pn) ≤ x1 then
      some (.inr x1)
    else
      ((s_Mesh_nextOnHull F pn th x1)).bind fun v2 =>
      if v2 = (-1 : Int32) then
        s_Mesh_firstOnHull_L2 F pn th n (x1 + (1 : Int32))
      else
        some (.inl x1)
def s_Mesh_firstOnHull (F : Nat) (pn : Int32) (th : Nat → Int32) : Option (Int32) :=
  (s_Mesh_firstOnHull_L2 F pn th F (0 : Int32)).bind fun o4 =>
  Sum.elim (fun q_o =>
    some q_o) (fun o4x =>
    some (-1 : Int32)) o4
def s_Mesh_numberHull_L10 (F : Nat) (pn : Int32) (th : Nat → Int32) : Nat → Int32 → (Nat → Int32) → Int32 → Option (Int32 × (Nat → Int32) × Int32)
  | 0, _, _, _ => none
  | n + 1, x1, hu, nh =>
    if (16 : Int32) ≤ nh then
      some (x1, hu, nh)
    else
      if x1 = (-1 : Int32) then
        some (x1, hu, nh)
      else
        ((s_Mesh_nextOnHull F pn th x1)).bind fun v4 =>
        if v4 = (s_Row_get 16 (s_Row_set 16 hu nh x1) (0 : Int32)) then
          s_Mesh_numberHull_L10 F pn th n (-1 : Int32) (s_Row_set 16 hu nh x1) (nh + (1 : Int32))
        else
          s_Mesh_numberHull_L10 F pn th n v4 (s_Row_set 16 hu nh x1) (nh + (1 : Int32))
def s_Mesh_numberHull (F : Nat) (pn : Int32) (th : Nat → Int32) (hu : Nat → Int32) : Option ((Nat → Int32) × Int32) :=
  ((s_Mesh_firstOnHull F pn th)).bind fun v1 =>
  (s_Mesh_numberHull_L10 F pn th F v1 hu (0 : Int32)).bind fun o6x =>
  some (o6x.2.1, o6x.2.2)
def s_Mesh_draw_L16 (F : Nat) (pxs : Nat → Int32) (pys : Nat → Int32) (plo : Nat → Int32) (phi : Nat → Int32) (pn : Int32) (pm : Int32) : Nat → Int32 → Int32 → (Nat → Int32) → (Nat → Int32) → Option (Int32 × Int32 × (Nat → Int32) × (Nat → Int32))
  | 0, _, _, _, _ => none
  | n + 1, x1, x2, th, lk =>
    if (1000 : Int32) ≤ x2 then
      some (x1, x2, th, lk)
    else
      if x1 = 0 then
        some (x1, x2, th, lk)
      else
        ((s_Mesh_flipBadEdges F pxs pys plo phi pn pm th lk)).bind fun v6 =>
        s_Mesh_draw_L16 F pxs pys plo phi pn pm n (bI v6.1) (x2 + (1 : Int32)) v6.2.1 v6.2.2
def s_Mesh_draw (F : Nat) (pxs : Nat → Int32) (pys : Nat → Int32) (plo : Nat → Int32) (phi : Nat → Int32) (pn : Int32) (pm : Int32) (lf : Nat → Int32) (th : Nat → Int32) (ow : Nat → Int32) (lk : Nat → Int32) (el : Nat → Int32) (eh : Nat → Int32) (co : Nat → Int32) (hu : Nat → Int32) : Option ((Nat → Int32) × (Nat → Int32) × (Nat → Int32) × (Nat → Int32) × (Nat → Int32) × (Nat → Int32) × (Nat → Int32) × (Nat → Int32) × Int32 × Int32 × Int32) :=
  ((s_Mesh_findSides F pxs pys pn lf)).bind fun v1 =>
  ((s_Mesh_drawSomeEdges F pxs pys plo phi pn pm v1 lk el eh)).bind fun v2 =>
  ((s_Mesh_findThirds F pn v1 th v2.1)).bind fun v3 =>
  (s_Mesh_draw_L16 F pxs pys plo phi pn pm F (1 : Int32) (0 : Int32) v3 v2.1).bind fun o7x =>
  ((s_Mesh_numberEdges F pn o7x.2.2.2 v2.2.1 v2.2.2.1)).bind fun v8 =>
  ((s_Mesh_numberTriangles F pn o7x.2.2.1 ow co)).bind fun v9 =>
  ((s_Mesh_numberHull F pn o7x.2.2.1 hu)).bind fun v10 =>
  some (v1, o7x.2.2.1, v9.1, o7x.2.2.2, v8.1, v8.2.1, v9.2.1, v10.1, v8.2.2, v9.2.2, v10.2)
def s_Mesh_triangles (nt : Int32) : Int32 :=
  nt
def s_Mesh_edges (ne : Int32) : Int32 :=
  ne
def s_Mesh_hullPoints (nh : Int32) : Int32 :=
  nh
def s_Mesh_hullPointAt (hu : Nat → Int32) (a0 : Int32) : Int32 :=
  (s_Row_get 16 hu a0)
def s_Mesh_cornerOf (co : Nat → Int32) (a0 : Int32) (a1 : Int32) : Int32 :=
  (s_Row_get 81 co (((3 : Int32) * a0) + a1))
def s_Mesh_cornerAfter (co : Nat → Int32) (a0 : Int32) (a1 : Int32) : Int32 :=
  if a1 = (2 : Int32) then
    (s_Mesh_cornerOf co a0 (0 : Int32))
  else
    (s_Mesh_cornerOf co a0 (a1 + (1 : Int32)))
def s_Mesh_hasTriangle (th : Nat → Int32) (a0 : Int32) (a1 : Int32) (a2 : Int32) : Bool :=
  if (s_Tab_get (-1) th a0 a1) = a2 then
    true
  else
    false
def s_Mesh_triangleAcross (ow : Nat → Int32) (co : Nat → Int32) (a0 : Int32) (a1 : Int32) : Int32 :=
  (s_Tab_get (-1) ow (s_Mesh_cornerAfter co a0 a1) (s_Mesh_cornerOf co a0 a1))
def s_Mesh_lowEnd (el : Nat → Int32) (a0 : Int32) : Int32 :=
  (s_Row_get 42 el a0)
def s_Mesh_highEnd (eh : Nat → Int32) (a0 : Int32) : Int32 :=
  (s_Row_get 42 eh a0)
def s_Mesh_edgeOf_L2 (el : Nat → Int32) (eh : Nat → Int32) (ne : Int32) (x1 : Int32) (x2 : Int32) : Nat → Int32 → Option ((Int32) ⊕ (Int32))
  | 0, _ => none
  | n + 1, x3 =>
    if ne ≤ x3 then
      some (.inr x3)
    else
      if (s_Row_get 42 el x3) = (imin x1 x2) then
        if (s_Row_get 42 eh x3) = (imax x1 x2) then
          some (.inl x3)
        else
          s_Mesh_edgeOf_L2 el eh ne x1 x2 n (x3 + (1 : Int32))
      else
        s_Mesh_edgeOf_L2 el eh ne x1 x2 n (x3 + (1 : Int32))
def s_Mesh_edgeOf (F : Nat) (el : Nat → Int32) (eh : Nat → Int32) (ne : Int32) (a0 : Int32) (a1 : Int32) : Option (Int32) :=
  (s_Mesh_edgeOf_L2 el eh ne a0 a1 F (0 : Int32)).bind fun o4 =>
  Sum.elim (fun q_o =>
    some q_o) (fun o4x =>
    some (-1 : Int32)) o4
def s_J6_bitCount_0f7a4 (a0 : Int32) : Int32 :=
  ((((((((a0 - ((iushr a0 (1 : Int32)) &&& (1431655765 : Int32))) &&& (858993459 : Int32)) + ((iushr (a0 - ((iushr a0 (1 : Int32)) &&& (1431655765 : Int32))) (2 : Int32)) &&& (858993459 : Int32))) + (iushr (((a0 - ((iushr a0 (1 : Int32)) &&& (1431655765 : Int32))) &&& (858993459 : Int32)) + ((iushr (a0 - ((iushr a0 (1 : Int32)) &&& (1431655765 : Int32))) (2 : Int32)) &&& (858993459 : Int32))) (4 : Int32))) &&& (252645135 : Int32)) + (iushr (((((a0 - ((iushr a0 (1 : Int32)) &&& (1431655765 : Int32))) &&& (858993459 : Int32)) + ((iushr (a0 - ((iushr a0 (1 : Int32)) &&& (1431655765 : Int32))) (2 : Int32)) &&& (858993459 : Int32))) + (iushr (((a0 - ((iushr a0 (1 : Int32)) &&& (1431655765 : Int32))) &&& (858993459 : Int32)) + ((iushr (a0 - ((iushr a0 (1 : Int32)) &&& (1431655765 : Int32))) (2 : Int32)) &&& (858993459 : Int32))) (4 : Int32))) &&& (252645135 : Int32)) (8 : Int32))) + (iushr ((((((a0 - ((iushr a0 (1 : Int32)) &&& (1431655765 : Int32))) &&& (858993459 : Int32)) + ((iushr (a0 - ((iushr a0 (1 : Int32)) &&& (1431655765 : Int32))) (2 : Int32)) &&& (858993459 : Int32))) + (iushr (((a0 - ((iushr a0 (1 : Int32)) &&& (1431655765 : Int32))) &&& (858993459 : Int32)) + ((iushr (a0 - ((iushr a0 (1 : Int32)) &&& (1431655765 : Int32))) (2 : Int32)) &&& (858993459 : Int32))) (4 : Int32))) &&& (252645135 : Int32)) + (iushr (((((a0 - ((iushr a0 (1 : Int32)) &&& (1431655765 : Int32))) &&& (858993459 : Int32)) + ((iushr (a0 - ((iushr a0 (1 : Int32)) &&& (1431655765 : Int32))) (2 : Int32)) &&& (858993459 : Int32))) + (iushr (((a0 - ((iushr a0 (1 : Int32)) &&& (1431655765 : Int32))) &&& (858993459 : Int32)) + ((iushr (a0 - ((iushr a0 (1 : Int32)) &&& (1431655765 : Int32))) (2 : Int32)) &&& (858993459 : Int32))) (4 : Int32))) &&& (252645135 : Int32)) (8 : Int32))) (16 : Int32))) &&& (63 : Int32))
def s_Mesh_degreeOf (lk : Nat → Int32) (a0 : Int32) : Int32 :=
  (s_J6_bitCount_0f7a4 (s_Row_get 16 lk a0))
def s_Mesh_neighbourOf_L5 (pn : Int32) (lk : Nat → Int32) (x1 : Int32) (x2 : Int32) : Nat → Int32 → Int32 → Option ((Int32) ⊕ (Int32 × Int32))
  | 0, _, _ => none
  | n + 1, x3, x4 =>
    if (s_Plan_points pn) ≤ x4 then
      some (.inr (x3, x4))
    else
      if (bI (s_Mesh_isLinked lk x1 x4)) = 0 then
        s_Mesh_neighbourOf_L5 pn lk x1 x2 n x3 (x4 + (1 : Int32))
      else
        if x3 = x2 then
          some (.inl x4)
        else
          s_Mesh_neighbourOf_L5 pn lk x1 x2 n (x3 + (1 : Int32)) (x4 + (1 : Int32))
def s_Mesh_neighbourOf (F : Nat) (pn : Int32) (lk : Nat → Int32) (a0 : Int32) (a1 : Int32) : Option (Int32) :=
  (s_Mesh_neighbourOf_L5 pn lk a0 a1 F (0 : Int32) (0 : Int32)).bind fun o4 =>
  Sum.elim (fun q_o =>
    some q_o) (fun o4x =>
    some (-1 : Int32)) o4
def s_Plan_xOf (pxs : Nat → Int32) (a0 : Int32) : Int32 :=
  (s_Row_get 16 pxs a0)
def s_Plan_yOf (pys : Nat → Int32) (a0 : Int32) : Int32 :=
  (s_Row_get 16 pys a0)
def s_Mesh_areaOf (pxs : Nat → Int32) (pys : Nat → Int32) (co : Nat → Int32) (a0 : Int32) : Int32 :=
  (s_Plan_twiceSignedArea pxs pys (s_Mesh_cornerOf co a0 (0 : Int32)) (s_Mesh_cornerOf co a0 (1 : Int32)) (s_Plan_xOf pxs (s_Mesh_cornerOf co a0 (2 : Int32))) (s_Plan_yOf pys (s_Mesh_cornerOf co a0 (2 : Int32))))
def s_Mesh_hullArea_L4 (pxs : Nat → Int32) (pys : Nat → Int32) (co : Nat → Int32) (nt : Int32) : Nat → Int32 → Int32 → Option (Int32 × Int32)
  | 0, _, _ => none
  | n + 1, x1, x2 =>
    if nt ≤ x2 then
      some (x1, x2)
    else
      s_Mesh_hullArea_L4 pxs pys co nt n (x1 + (s_Mesh_areaOf pxs pys co x2)) (x2 + (1 : Int32))
def s_Mesh_hullArea (F : Nat) (pxs : Nat → Int32) (pys : Nat → Int32) (co : Nat → Int32) (nt : Int32) : Option (Int32) :=
  (s_Mesh_hullArea_L4 pxs pys co nt F (0 : Int32) (0 : Int32)).bind fun o2x =>
  some o2x.1
def s_Mesh_lengthOf (pxs : Nat → Int32) (pys : Nat → Int32) (el : Nat → Int32) (eh : Nat → Int32) (a0 : Int32) : Int32 :=
  (s_Plan_squaredDistance pxs pys (s_Row_get 42 el a0) (s_Row_get 42 eh a0))
def s_Mesh_leastLength_L8 (pxs : Nat → Int32) (pys : Nat → Int32) (el : Nat → Int32) (eh : Nat → Int32) (ne : Int32) : Nat → Int32 → Int32 → Option (Int32 × Int32)
  | 0, _, _ => none
  | n + 1, x1, x2 =>
    if ne ≤ x2 then
      some (x1, x2)
    else
      s_Mesh_leastLength_L8 pxs pys el eh ne n (imin x1 (s_Mesh_lengthOf pxs pys el eh x2)) (x2 + (1 : Int32))
def s_Mesh_leastLength (F : Nat) (pxs : Nat → Int32) (pys : Nat → Int32) (el : Nat → Int32) (eh : Nat → Int32) (ne : Int32) : Option (Int32) :=
  (s_Mesh_leastLength_L8 pxs pys el eh ne F (s_Mesh_lengthOf pxs pys el eh (0 : Int32)) (1 : Int32)).bind fun o2x =>
  some o2x.1
def s_Mesh_greatestLength_L8 (pxs : Nat → Int32) (pys : Nat → Int32) (el : Nat → Int32) (eh : Nat → Int32) (ne : Int32) : Nat → Int32 → Int32 → Option (Int32 × Int32)
  | 0, _, _ => none
  | n + 1, x1, x2 =>
    if ne ≤ x2 then
      some (x1, x2)
    else
      s_Mesh_greatestLength_L8 pxs pys el eh ne n (imax x1 (s_Mesh_lengthOf pxs pys el eh x2)) (x2 + (1 : Int32))
def s_Mesh_greatestLength (F : Nat) (pxs : Nat → Int32) (pys : Nat → Int32) (el : Nat → Int32) (eh : Nat → Int32) (ne : Int32) : Option (Int32) :=
  (s_Mesh_greatestLength_L8 pxs pys el eh ne F (s_Mesh_lengthOf pxs pys el eh (0 : Int32)) (1 : Int32)).bind fun o2x =>
  some o2x.1
def s_Mesh_shortestLeaving_L4 (pxs : Nat → Int32) (pys : Nat → Int32) (el : Nat → Int32) (eh : Nat → Int32) (ne : Int32) (x1 : Int32) : Nat → Int32 → Int32 → Option (Int32 × Int32)
  | 0, _, _ => none
  | n + 1, x2, x3 =>
    if ne ≤ x3 then
      some (x2, x3)
    else
      if (((x1 >>> ((s_Row_get 42 el x3) &&& 31)) ^^^ (x1 >>> ((s_Row_get 42 eh x3) &&& 31))) &&& (1 : Int32)) = 0 then
        if (0 : Int32) = 0 then
          s_Mesh_shortestLeaving_L4 pxs pys el eh ne x1 n x2 (x3 + (1 : Int32))
        else
          if x2 = (-1 : Int32) then
            s_Mesh_shortestLeaving_L4 pxs pys el eh ne x1 n x3 (x3 + (1 : Int32))
          else
            if (s_Mesh_lengthOf pxs pys el eh x2) ≤ (s_Mesh_lengthOf pxs pys el eh x3) then
              s_Mesh_shortestLeaving_L4 pxs pys el eh ne x1 n x2 (x3 + (1 : Int32))
            else
              s_Mesh_shortestLeaving_L4 pxs pys el eh ne x1 n x3 (x3 + (1 : Int32))
      else
        if (1 : Int32) = 0 then
          s_Mesh_shortestLeaving_L4 pxs pys el eh ne x1 n x2 (x3 + (1 : Int32))
        else
          if x2 = (-1 : Int32) then
            s_Mesh_shortestLeaving_L4 pxs pys el eh ne x1 n x3 (x3 + (1 : Int32))
          else
            if (s_Mesh_lengthOf pxs pys el eh x2) ≤ (s_Mesh_lengthOf pxs pys el eh x3) then
              s_Mesh_shortestLeaving_L4 pxs pys el eh ne x1 n x2 (x3 + (1 : Int32))
            else
              s_Mesh_shortestLeaving_L4 pxs pys el eh ne x1 n x3 (x3 + (1 : Int32))
def s_Mesh_shortestLeaving (F : Nat) (pxs : Nat → Int32) (pys : Nat → Int32) (el : Nat → Int32) (eh : Nat → Int32) (ne : Int32) (a0 : Int32) : Option (Int32) :=
  (s_Mesh_shortestLeaving_L4 pxs pys el eh ne a0 F (-1 : Int32) (0 : Int32)).bind fun o9x =>
  some o9x.1
def s_Mesh_leastTree_L6 (F : Nat) (pxs : Nat → Int32) (pys : Nat → Int32) (pn : Int32) (el : Nat → Int32) (eh : Nat → Int32) (ne : Int32) : Nat → Int32 → Int32 → Int32 → Option (Int32 × Int32 × Int32)
  | 0, _, _, _ => none
  | n + 1, x1, x2, x3 =>
    if (s_Plan_points pn) ≤ x3 then
      some (x1, x2, x3)
    else
      ((s_Mesh_shortestLeaving F pxs pys el eh ne x2)).bind fun v2 =>
      if v2 = (-1 : Int32) then
        some (x1, x2, x3)
      else
        s_Mesh_leastTree_L6 F pxs pys pn el eh ne n (x1 + (s_Mesh_lengthOf pxs pys el eh v2)) (x2 ||| (((1 : Int32) <<< ((s_Row_get 42 el v2) &&& 31)) ||| ((1 : Int32) <<< ((s_Row_get 42 eh v2) &&& 31)))) (x3 + (1 : Int32))
def s_Mesh_leastTree (F : Nat) (pxs : Nat → Int32) (pys : Nat → Int32) (pn : Int32) (el : Nat → Int32) (eh : Nat → Int32) (ne : Int32) : Option (Int32) :=
  (s_Mesh_leastTree_L6 F pxs pys pn el eh ne F (0 : Int32) (1 : Int32) (1 : Int32)).bind fun o4x =>
  some o4x.1
def s_Mesh_edgeAt_L2 (pxs : Nat → Int32) (pys : Nat → Int32) (el : Nat → Int32) (eh : Nat → Int32) (ne : Int32) (x1 : Int32) (x2 : Int32) : Nat → Int32 → Option ((Int32) ⊕ (Int32))
  | 0, _ => none
  | n + 1, x3 =>
    if ne ≤ x3 then
      some (.inr x3)
    else
      if (bI (s_Plan_covers pxs pys (s_Row_get 42 el x3) (s_Row_get 42 eh x3) x1 x2)) = 0 then
        s_Mesh_edgeAt_L2 pxs pys el eh ne x1 x2 n (x3 + (1 : Int32))
      else
        some (.inl x3)
def s_Mesh_edgeAt (F : Nat) (pxs : Nat → Int32) (pys : Nat → Int32) (el : Nat → Int32) (eh : Nat → Int32) (ne : Int32) (a0 : Int32) (a1 : Int32) : Option (Int32) :=
  (s_Mesh_edgeAt_L2 pxs pys el eh ne a0 a1 F (0 : Int32)).bind fun o3 =>
  Sum.elim (fun q_o =>
    some q_o) (fun o3x =>
    some (-1 : Int32)) o3
def s_Mesh_exitTowards_L3 (pxs : Nat → Int32) (pys : Nat → Int32) (co : Nat → Int32) (x1 : Int32) (x2 : Int32) (x3 : Int32) : Nat → Int32 → Option ((Int32) ⊕ (Int32))
  | 0, _ => none
  | n + 1, x4 =>
    if (3 : Int32) ≤ x4 then
      some (.inr x4)
    else
      if 0 ≤ (s_Plan_twiceSignedArea pxs pys (s_Mesh_cornerOf co x1 x4) (s_Mesh_cornerAfter co x1 x4) x2 x3) then
        s_Mesh_exitTowards_L3 pxs pys co x1 x2 x3 n (x4 + (1 : Int32))
      else
        some (.inl x4)
def s_Mesh_exitTowards (F : Nat) (pxs : Nat → Int32) (pys : Nat → Int32) (co : Nat → Int32) (a0 : Int32) (a1 : Int32) (a2 : Int32) : Option (Int32) :=
  (s_Mesh_exitTowards_L3 pxs pys co a0 a1 a2 F (0 : Int32)).bind fun o3 =>
  Sum.elim (fun q_o =>
    some q_o) (fun o3x =>
    some (-1 : Int32)) o3
def s_Mesh_triangleAt_L2 (F : Nat) (pxs : Nat → Int32) (pys : Nat → Int32) (co : Nat → Int32) (nt : Int32) (x1 : Int32) (x2 : Int32) : Nat → Int32 → Option ((Int32) ⊕ (Int32))
  | 0, _ => none
  | n + 1, x3 =>
    if nt ≤ x3 then
      some (.inr x3)
    else
      ((s_Mesh_exitTowards F pxs pys co x3 x1 x2)).bind fun v2 =>
      if v2 = (-1 : Int32) then
        some (.inl x3)
      else
        s_Mesh_triangleAt_L2 F pxs pys co nt x1 x2 n (x3 + (1 : Int32))
def s_Mesh_triangleAt (F : Nat) (pxs : Nat → Int32) (pys : Nat → Int32) (co : Nat → Int32) (nt : Int32) (a0 : Int32) (a1 : Int32) : Option (Int32) :=
  (s_Mesh_triangleAt_L2 F pxs pys co nt a0 a1 F (0 : Int32)).bind fun o4 =>
  Sum.elim (fun q_o =>
    some q_o) (fun o4x =>
    some (-1 : Int32)) o4
def s_Mesh_reaches (pxs : Nat → Int32) (pys : Nat → Int32) (a0 : Int32) (a1 : Int32) (a2 : Int32) : Bool :=
  if a2 = a0 then
    true
  else
    if a2 = a1 then
      true
    else
      if (bI (s_Plan_covers pxs pys a0 a1 (s_Plan_xOf pxs a2) (s_Plan_yOf pys a2))) = 0 then
        false
      else
        true
def s_Mesh_edgeMeets (pxs : Nat → Int32) (pys : Nat → Int32) (lf : Nat → Int32) (el : Nat → Int32) (eh : Nat → Int32) (a0 : Int32) (a1 : Int32) (a2 : Int32) : Bool :=
  if (bI (s_Mesh_splits lf a1 a2 (s_Row_get 42 el a0) (s_Row_get 42 eh a0))) = 0 then
    if (bI (s_Mesh_reaches pxs pys a1 a2 (s_Row_get 42 el a0))) = 0 then
      false
    else
      if (bI (s_Mesh_reaches pxs pys a1 a2 (s_Row_get 42 eh a0))) = 0 then
        false
      else
        true
  else
    true
def s_Row_copyFrom_L2 (rn : Nat) (orf : Nat → Int32) : Nat → Int32 → (Nat → Int32) → Option (Int32 × (Nat → Int32))
  | 0, _, _ => none
  | n + 1, x2, rf =>
    if (Int32.ofNat rn) ≤ x2 then
      some (x2, rf)
    else
      (aset rn rf x2 (s_Row_get rn orf x2)).bind fun v2 =>
      s_Row_copyFrom_L2 rn orf n (x2 + (1 : Int32)) v2
def s_Row_copyFrom (F : Nat) (rn : Nat) (rf : Nat → Int32) (orf : Nat → Int32) : Option ((Nat → Int32)) :=
  (s_Row_copyFrom_L2 rn orf F (0 : Int32) rf).bind fun o3x =>
  some o3x.2
def s_Plan_copyFrom (F : Nat) (pxs : Nat → Int32) (pys : Nat → Int32) (plo : Nat → Int32) (phi : Nat → Int32) (opxs : Nat → Int32) (opys : Nat → Int32) (oplo : Nat → Int32) (ophi : Nat → Int32) (opn : Int32) (opm : Int32) : Option ((Nat → Int32) × (Nat → Int32) × (Nat → Int32) × (Nat → Int32) × Int32 × Int32) :=
  ((s_Row_copyFrom F 16 pxs opxs)).bind fun v1 =>
  ((s_Row_copyFrom F 16 pys opys)).bind fun v2 =>
  ((s_Row_copyFrom F 10 plo oplo)).bind fun v3 =>
  ((s_Row_copyFrom F 10 phi ophi)).bind fun v4 =>
  some (v1, v2, v3, v4, opn, opm)
def s_Plan_hasPoint (pn : Int32) (a0 : Int32) : Bool :=
  if a0 < 0 then
    false
  else
    if pn ≤ a0 then
      false
    else
      true
def s_Plan_pointAt_L2 (pxs : Nat → Int32) (pys : Nat → Int32) (pn : Int32) (x1 : Int32) (x2 : Int32) : Nat → Int32 → Option ((Int32) ⊕ (Int32))
  | 0, _ => none
  | n + 1, x3 =>
    if pn ≤ x3 then
      some (.inr x3)
    else
      if (s_Row_get 16 pxs x3) = x1 then
        if (s_Row_get 16 pys x3) = x2 then
          some (.inl x3)
        else
          s_Plan_pointAt_L2 pxs pys pn x1 x2 n (x3 + (1 : Int32))
      else
        s_Plan_pointAt_L2 pxs pys pn x1 x2 n (x3 + (1 : Int32))
def s_Plan_pointAt (F : Nat) (pxs : Nat → Int32) (pys : Nat → Int32) (pn : Int32) (a0 : Int32) (a1 : Int32) : Option (Int32) :=
  (s_Plan_pointAt_L2 pxs pys pn a0 a1 F (0 : Int32)).bind fun o4 =>
  Sum.elim (fun q_o =>
    some q_o) (fun o4x =>
    some (-1 : Int32)) o4
def s_Plan_endsConstraint_L2 (plo : Nat → Int32) (phi : Nat → Int32) (pm : Int32) (x1 : Int32) : Nat → Int32 → Option ((Bool) ⊕ (Int32))
  | 0, _ => none
  | n + 1, x2 =>
    if pm ≤ x2 then
      some (.inr x2)
    else
      if (s_Row_get 10 plo x2) = x1 then
        some (.inl true)
      else
        if (s_Row_get 10 phi x2) = x1 then
          some (.inl true)
        else
          s_Plan_endsConstraint_L2 plo phi pm x1 n (x2 + (1 : Int32))
def s_Plan_endsConstraint (F : Nat) (plo : Nat → Int32) (phi : Nat → Int32) (pm : Int32) (a0 : Int32) : Option (Bool) :=
  (s_Plan_endsConstraint_L2 plo phi pm a0 F (0 : Int32)).bind fun o4 =>
  Sum.elim (fun q_o =>
    some q_o) (fun o4x =>
    some false) o4
def s_Plan_constraintCovers_L2 (pxs : Nat → Int32) (pys : Nat → Int32) (plo : Nat → Int32) (phi : Nat → Int32) (pm : Int32) (x1 : Int32) (x2 : Int32) : Nat → Int32 → Option ((Bool) ⊕ (Int32))
  | 0, _ => none
  | n + 1, x3 =>
    if pm ≤ x3 then
      some (.inr x3)
    else
      if (bI (s_Plan_covers pxs pys (s_Row_get 10 plo x3) (s_Row_get 10 phi x3) x1 x2)) = 0 then
        s_Plan_constraintCovers_L2 pxs pys plo phi pm x1 x2 n (x3 + (1 : Int32))
      else
        some (.inl true)
def s_Plan_constraintCovers (F : Nat) (pxs : Nat → Int32) (pys : Nat → Int32) (plo : Nat → Int32) (phi : Nat → Int32) (pm : Int32) (a0 : Int32) (a1 : Int32) : Option (Bool) :=
  (s_Plan_constraintCovers_L2 pxs pys plo phi pm a0 a1 F (0 : Int32)).bind fun o3 =>
  Sum.elim (fun q_o =>
    some q_o) (fun o3x =>
    some false) o3
def s_Plan_admitsPoint (F : Nat) (pxs : Nat → Int32) (pys : Nat → Int32) (plo : Nat → Int32) (phi : Nat → Int32) (pn : Int32) (pm : Int32) (a0 : Int32) (a1 : Int32) : Option (Bool) :=
  ((s_Plan_pointAt F pxs pys pn a0 a1)).bind fun v1 =>
  if v1 = (-1 : Int32) then
    ((s_Plan_constraintCovers F pxs pys plo phi pm a0 a1)).bind fun v3 =>
    if (bI v3) = 0 then
      some true
    else
      some false
  else
    some false
def s_Plan_crosses (pxs : Nat → Int32) (pys : Nat → Int32) (a0 : Int32) (a1 : Int32) (a2 : Int32) (a3 : Int32) : Bool :=
  if 0 ≤ ((s_Plan_side pxs pys a0 a1 a2) * (s_Plan_side pxs pys a0 a1 a3)) then
    false
  else
    if 0 ≤ ((s_Plan_side pxs pys a2 a3 a0) * (s_Plan_side pxs pys a2 a3 a1)) then
      false
    else
      true
def s_Plan_admitsSegment_L22 (pxs : Nat → Int32) (pys : Nat → Int32) (plo : Nat → Int32) (phi : Nat → Int32) (pm : Int32) (x1 : Int32) (x2 : Int32) : Nat → Int32 → Option ((Bool) ⊕ (Int32))
  | 0, _ => none
  | n + 1, x3 =>
    if pm ≤ x3 then
      some (.inr x3)
    else
      if (bI (s_Plan_crosses pxs pys x1 x2 (s_Row_get 10 plo x3) (s_Row_get 10 phi x3))) = 0 then
        s_Plan_admitsSegment_L22 pxs pys plo phi pm x1 x2 n (x3 + (1 : Int32))
      else
        some (.inl false)
def s_Plan_admitsSegment (F : Nat) (pxs : Nat → Int32) (pys : Nat → Int32) (plo : Nat → Int32) (phi : Nat → Int32) (pn : Int32) (pm : Int32) (a0 : Int32) (a1 : Int32) : Option (Bool) :=
  ((s_Plan_isConstraint F plo phi pm a0 a1)).bind fun v1 =>
  if (bI v1) = 0 then
    ((s_Plan_coversPoint F pxs pys pn a0 a1)).bind fun v3 =>
    if (bI v3) = 0 then
      (s_Plan_admitsSegment_L22 pxs pys plo phi pm a0 a1 F (0 : Int32)).bind fun o7 =>
      Sum.elim (fun q_o =>
        some q_o) (fun o7x =>
        some true) o7
    else
      some false
  else
    some false
def s_Plan_placePoint (pxs : Nat → Int32) (pys : Nat → Int32) (a0 : Int32) (a1 : Int32) (a2 : Int32) : (Nat → Int32) × (Nat → Int32) :=
  ((s_Row_set 16 pxs a0 a1), (s_Row_set 16 pys a0 a2))
def s_Plan_appendPoint (pxs : Nat → Int32) (pys : Nat → Int32) (pn : Int32) (a0 : Int32) (a1 : Int32) : (Nat → Int32) × (Nat → Int32) × Int32 :=
  ((s_Plan_placePoint pxs pys pn a0 a1).1, (s_Plan_placePoint pxs pys pn a0 a1).2, (pn + (1 : Int32)))
def s_Row_closeGap_L6 (rn : Nat) : Nat → Int32 → (Nat → Int32) → Option (Int32 × (Nat → Int32))
  | 0, _, _ => none
  | n + 1, x2, rf =>
    if ((Int32.ofNat rn) - (1 : Int32)) ≤ x2 then
      some (x2, rf)
    else
      (aget rn rf (x2 + (1 : Int32))).bind fun v2 =>
      (aset rn rf x2 v2).bind fun v3 =>
      s_Row_closeGap_L6 rn n (x2 + (1 : Int32)) v3
def s_Row_closeGap (F : Nat) (rn : Nat) (rf : Nat → Int32) (a0 : Int32) : Option ((Nat → Int32)) :=
  (s_Row_closeGap_L6 rn F (imax (0 : Int32) a0) rf).bind fun o4x =>
  some o4x.2
def s_Plan_numberAfter (a0 : Int32) (a1 : Int32) : Int32 :=
  if a0 ≤ a1 then
    a0
  else
    (a0 - (1 : Int32))
def s_Plan_dropPoint_L28 (pm : Int32) (x1 : Int32) : Nat → Int32 → (Nat → Int32) → (Nat → Int32) → Option (Int32 × (Nat → Int32) × (Nat → Int32))
  | 0, _, _, _ => none
  | n + 1, x2, plo, phi =>
    if pm ≤ x2 then
      some (x2, plo, phi)
    else
      s_Plan_dropPoint_L28 pm x1 n (x2 + (1 : Int32)) (s_Row_set 10 plo x2 (s_Plan_numberAfter (s_Row_get 10 plo x2) x1)) (s_Row_set 10 phi x2 (s_Plan_numberAfter (s_Row_get 10 phi x2) x1))
def s_Plan_dropPoint (F : Nat) (pxs : Nat → Int32) (pys : Nat → Int32) (plo : Nat → Int32) (phi : Nat → Int32) (pn : Int32) (pm : Int32) (a0 : Int32) : Option ((Nat → Int32) × (Nat → Int32) × (Nat → Int32) × (Nat → Int32) × Int32) :=
  ((s_Row_closeGap F 16 pxs a0)).bind fun v1 =>
  ((s_Row_closeGap F 16 pys a0)).bind fun v2 =>
  (s_Plan_dropPoint_L28 pm a0 F (0 : Int32) plo phi).bind fun o4x =>
  some (v1, v2, o4x.2.1, o4x.2.2, (pn - (1 : Int32)))
def s_Plan_appendConstraint (plo : Nat → Int32) (phi : Nat → Int32) (pm : Int32) (a0 : Int32) (a1 : Int32) : (Nat → Int32) × (Nat → Int32) × Int32 :=
  ((s_Row_set 10 plo pm (imin a0 a1)), (s_Row_set 10 phi pm (imax a0 a1)), (pm + (1 : Int32)))
def s_Plan_dropConstraint (F : Nat) (plo : Nat → Int32) (phi : Nat → Int32) (pm : Int32) (a0 : Int32) : Option ((Nat → Int32) × (Nat → Int32) × Int32) :=
  ((s_Row_closeGap F 10 plo a0)).bind fun v1 =>
  ((s_Row_closeGap F 10 phi a0)).bind fun v2 =>
  some (v1, v2, (pm - (1 : Int32)))
