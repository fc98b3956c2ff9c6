abbrev PlanS : Type := (Nat → Int32) × (Nat → Int32) × (Nat → Int32) × (Nat → Int32) × Int32 × Int32
def bI : Bool → Int32
  | true => 1
  | false => 0
theorem bI_eq0 (b : Bool) : (bI b = 0) = (b = false) := by cases b <;> simp [bI]
theorem bI_ne0 (b : Bool) : (¬ bI b = 0) = (b = true) := by cases b <;> simp [bI]
def aget {α : Type} (n : Nat) (f : Nat → α) (i : Int32) : Option α := if i < 0 ∨ n ≤ i.toNatClampNeg then none else some (f i.toNatClampNeg)
def aset {α : Type} (n : Nat) (f : Nat → α) (i : Int32) (v : α) : Option (Nat → α) := if i < 0 ∨ n ≤ i.toNatClampNeg then none else some (fun j => if j = i.toNatClampNeg then v else f j)
def imax (x y : Int32) : Int32 := if x < y then y else x
def imin (x y : Int32) : Int32 := if y < x then y else x
def iushr (x y : Int32) : Int32 := (x.toUInt32 >>> (y.toUInt32 &&& Int32.toUInt32 31)).toInt32
def lshr (x : Int64) (y : Int32) : Int64 := x >>> (y.toInt64 &&& 63)
def lushr (x : Int64) (y : Int32) : Int64 := (x.toUInt64 >>> (y.toInt64.toUInt64 &&& Int64.toUInt64 63)).toInt64
def ddivO (x y : UInt64) : Option UInt64 := if FP.ddiv x y &&& 0x7fffffffffffffff ≤ 0x7ff0000000000000 then some (FP.ddiv x y) else none
def s_Input_length (iln : Int32) : Int32 :=
  iln
def s_Row_set (rn : Nat) (rf : Nat → Int32) (a0 : Int32) (a1 : Int32) : (Nat → Int32) :=
  if a0 < 0 then
    rf
  else
    if (Int32.ofNat rn) ≤ a0 then
      rf
    else
      (upd rf (a0).toNatClampNeg a1)
def s_Input_append (ich : Nat → Int32) (iln : Int32) (a0 : Int32) : (Nat → Int32) × Int32 :=
  ((s_Row_set 60 ich iln a0), (iln + (1 : Int32)))
def s_Input_clear  : Int32 × Int32 :=
  ((0 : Int32), (0 : Int32))
def s_Input_entries (ien : Int32) : Int32 :=
  ien
def s_Row_get (rn : Nat) (rf : Nat → Int32) (a0 : Int32) : Int32 :=
  if a0 < 0 then
    (0 : Int32)
  else
    if (Int32.ofNat rn) ≤ a0 then
      (0 : Int32)
    else
      (rf (a0).toNatClampNeg)
def s_Input_firstOf (ifs : Nat → Int32) (a0 : Int32) : Int32 :=
  (s_Row_get 15 ifs a0)
def s_Input_secondOf (isc : Nat → Int32) (a0 : Int32) : Int32 :=
  (s_Row_get 15 isc a0)
def s_Input_isSegment (isg : Nat → Int32) (a0 : Int32) : Bool :=
  if (s_Row_get 15 isg a0) = 0 then
    false
  else
    true
def s_Input_startNumber  : Int32 × Int32 :=
  ((0 : Int32), (0 : Int32))
def s_Input_takesDigit (idg : Int32) (iva : Int32) (a0 : Int32) : Bool × Int32 × Int32 :=
  if idg = (3 : Int32) then
    (false, idg, iva)
  else
    (true, (idg + (1 : Int32)), (((10 : Int32) * iva) + a0))
def s_Input_endEntry (isc : Nat → Int32) (ien : Int32) (iva : Int32) : (Nat → Int32) × Int32 × Bool × Int32 × Int32 :=
  ((s_Row_set 15 isc ien iva), (ien + (1 : Int32)), false, (s_Input_startNumber).1, (s_Input_startNumber).2)
def s_Input_takesEnd (isc : Nat → Int32) (ien : Int32) (iin : Bool) (idg : Int32) (iva : Int32) (a0 : Int32) : Bool × (Nat → Int32) × Int32 × Bool × Int32 × Int32 :=
  if a0 = (59 : Int32) then
    (true, (s_Input_endEntry isc ien iva).1, (s_Input_endEntry isc ien iva).2.1, (s_Input_endEntry isc ien iva).2.2.1, (s_Input_endEntry isc ien iva).2.2.2.1, (s_Input_endEntry isc ien iva).2.2.2.2)
  else
    (false, isc, ien, iin, idg, iva)
def s_Input_takesMiddle (ifs : Nat → Int32) (isg : Nat → Int32) (ien : Int32) (iin : Bool) (idg : Int32) (iva : Int32) (a0 : Int32) : Bool × (Nat → Int32) × (Nat → Int32) × Bool × Int32 × Int32 :=
  if a0 = (44 : Int32) then
    if a0 = (45 : Int32) then
      (true, (s_Row_set 15 ifs ien iva), (s_Row_set 15 isg ien (1 : Int32)), true, (s_Input_startNumber).1, (s_Input_startNumber).2)
    else
      (true, (s_Row_set 15 ifs ien iva), (s_Row_set 15 isg ien (0 : Int32)), true, (s_Input_startNumber).1, (s_Input_startNumber).2)
  else
    if a0 = (45 : Int32) then
      if a0 = (45 : Int32) then
        (true, (s_Row_set 15 ifs ien iva), (s_Row_set 15 isg ien (1 : Int32)), true, (s_Input_startNumber).1, (s_Input_startNumber).2)
      else
        (true, (s_Row_set 15 ifs ien iva), (s_Row_set 15 isg ien (0 : Int32)), true, (s_Input_startNumber).1, (s_Input_startNumber).2)
    else
      (false, ifs, isg, iin, idg, iva)
def s_Input_takes (ifs : Nat → Int32) (isc : Nat → Int32) (isg : Nat → Int32) (ien : Int32) (iin : Bool) (idg : Int32) (iva : Int32) (a0 : Int32) : Bool × (Nat → Int32) × (Nat → Int32) × (Nat → Int32) × Int32 × Bool × Int32 × Int32 :=
  if a0 < (48 : Int32) then
    if idg = 0 then
      (false, ifs, isc, isg, ien, iin, idg, iva)
    else
      if (bI iin) = 0 then
        ((s_Input_takesMiddle ifs isg ien iin idg iva a0).1, (s_Input_takesMiddle ifs isg ien iin idg iva a0).2.1, isc, (s_Input_takesMiddle ifs isg ien iin idg iva a0).2.2.1, ien, (s_Input_takesMiddle ifs isg ien iin idg iva a0).2.2.2.1, (s_Input_takesMiddle ifs isg ien iin idg iva a0).2.2.2.2.1, (s_Input_takesMiddle ifs isg ien iin idg iva a0).2.2.2.2.2)
      else
        ((s_Input_takesEnd isc ien iin idg iva a0).1, ifs, (s_Input_takesEnd isc ien iin idg iva a0).2.1, isg, (s_Input_takesEnd isc ien iin idg iva a0).2.2.1, (s_Input_takesEnd isc ien iin idg iva a0).2.2.2.1, (s_Input_takesEnd isc ien iin idg iva a0).2.2.2.2.1, (s_Input_takesEnd isc ien iin idg iva a0).2.2.2.2.2)
  else
    if (57 : Int32) < a0 then
      if idg = 0 then
        (false, ifs, isc, isg, ien, iin, idg, iva)
      else
        if (bI iin) = 0 then
          ((s_Input_takesMiddle ifs isg ien iin idg iva a0).1, (s_Input_takesMiddle ifs isg ien iin idg iva a0).2.1, isc, (s_Input_takesMiddle ifs isg ien iin idg iva a0).2.2.1, ien, (s_Input_takesMiddle ifs isg ien iin idg iva a0).2.2.2.1, (s_Input_takesMiddle ifs isg ien iin idg iva a0).2.2.2.2.1, (s_Input_takesMiddle ifs isg ien iin idg iva a0).2.2.2.2.2)
        else
          ((s_Input_takesEnd isc ien iin idg iva a0).1, ifs, (s_Input_takesEnd isc ien iin idg iva a0).2.1, isg, (s_Input_takesEnd isc ien iin idg iva a0).2.2.1, (s_Input_takesEnd isc ien iin idg iva a0).2.2.2.1, (s_Input_takesEnd isc ien iin idg iva a0).2.2.2.2.1, (s_Input_takesEnd isc ien iin idg iva a0).2.2.2.2.2)
    else
      ((s_Input_takesDigit idg iva (a0 - (48 : Int32))).1, ifs, isc, isg, ien, iin, (s_Input_takesDigit idg iva (a0 - (48 : Int32))).2.1, (s_Input_takesDigit idg iva (a0 - (48 : Int32))).2.2)
def s_Input_parse_L16 (ich : Nat → Int32) (iln : Int32) : Nat → Int32 → (Nat → Int32) → (Nat → Int32) → (Nat → Int32) → Int32 → Bool → Int32 → Int32 → Option ((Int32 × (Nat → Int32) × (Nat → Int32) × (Nat → Int32) × Int32 × Bool × Int32 × Int32) ⊕ (Int32 × (Nat → Int32) × (Nat → Int32) × (Nat → Int32) × Int32 × Bool × Int32 × Int32))
  | 0, _, _, _, _, _, _, _, _ => none
  | n + 1, x1, ifs, isc, isg, ien, iin, idg, iva =>
    if iln ≤ x1 then
      some (.inr (x1, ifs, isc, isg, ien, iin, idg, iva))
    else
      if (bI ((s_Input_takes ifs isc isg ien iin idg iva (s_Row_get 60 ich x1)).1)) = 0 then
        some (.inl (x1, (s_Input_takes ifs isc isg ien iin idg iva (s_Row_get 60 ich x1)).2.1, (s_Input_takes ifs isc isg ien iin idg iva (s_Row_get 60 ich x1)).2.2.1, (s_Input_takes ifs isc isg ien iin idg iva (s_Row_get 60 ich x1)).2.2.2.1, (s_Input_takes ifs isc isg ien iin idg iva (s_Row_get 60 ich x1)).2.2.2.2.1, (s_Input_takes ifs isc isg ien iin idg iva (s_Row_get 60 ich x1)).2.2.2.2.2.1, (s_Input_takes ifs isc isg ien iin idg iva (s_Row_get 60 ich x1)).2.2.2.2.2.2.1, (s_Input_takes ifs isc isg ien iin idg iva (s_Row_get 60 ich x1)).2.2.2.2.2.2.2))
      else
        s_Input_parse_L16 ich iln n (x1 + (1 : Int32)) ((s_Input_takes ifs isc isg ien iin idg iva (s_Row_get 60 ich x1)).2.1) ((s_Input_takes ifs isc isg ien iin idg iva (s_Row_get 60 ich x1)).2.2.1) ((s_Input_takes ifs isc isg ien iin idg iva (s_Row_get 60 ich x1)).2.2.2.1) ((s_Input_takes ifs isc isg ien iin idg iva (s_Row_get 60 ich x1)).2.2.2.2.1) ((s_Input_takes ifs isc isg ien iin idg iva (s_Row_get 60 ich x1)).2.2.2.2.2.1) ((s_Input_takes ifs isc isg ien iin idg iva (s_Row_get 60 ich x1)).2.2.2.2.2.2.1) ((s_Input_takes ifs isc isg ien iin idg iva (s_Row_get 60 ich x1)).2.2.2.2.2.2.2)
def s_Input_parse (F : Nat) (ich : Nat → Int32) (ifs : Nat → Int32) (isc : Nat → Int32) (isg : Nat → Int32) (iln : Int32) : Option (Int32 × (Nat → Int32) × (Nat → Int32) × (Nat → Int32) × Int32 × Bool × Int32 × Int32) :=
  (s_Input_parse_L16 ich iln F (0 : Int32) ifs isc isg (0 : Int32) false ((s_Input_startNumber).1) ((s_Input_startNumber).2)).bind fun o3 =>
  Sum.elim (fun q_o =>
    some q_o) (fun o3x =>
    if (bI o3x.2.2.2.2.2.1) = 0 then
      some (iln, o3x.2.1, o3x.2.2.1, o3x.2.2.2.1, o3x.2.2.2.2.1, o3x.2.2.2.2.2.1, o3x.2.2.2.2.2.2.1, o3x.2.2.2.2.2.2.2)
    else
      if o3x.2.2.2.2.2.2.1 = 0 then
        some (iln, o3x.2.1, o3x.2.2.1, o3x.2.2.2.1, o3x.2.2.2.2.1, o3x.2.2.2.2.2.1, o3x.2.2.2.2.2.2.1, o3x.2.2.2.2.2.2.2)
      else
        some ((-1 : Int32), o3x.2.1, (s_Input_endEntry o3x.2.2.1 o3x.2.2.2.2.1 o3x.2.2.2.2.2.2.2).1, o3x.2.2.2.1, (s_Input_endEntry o3x.2.2.1 o3x.2.2.2.2.1 o3x.2.2.2.2.2.2.2).2.1, (s_Input_endEntry o3x.2.2.1 o3x.2.2.2.2.1 o3x.2.2.2.2.2.2.2).2.2.1, (s_Input_endEntry o3x.2.2.1 o3x.2.2.2.2.1 o3x.2.2.2.2.2.2.2).2.2.2.1, (s_Input_endEntry o3x.2.2.1 o3x.2.2.2.2.1 o3x.2.2.2.2.2.2.2).2.2.2.2)) o3
def s_Tab_clear_L2 (tb : Int32) : Nat → Int32 → (Nat → Int32) → Option (Int32 × (Nat → Int32))
  | 0, _, _ => none
  | n + 1, x1, tf =>
    if (256 : Int32) ≤ x1 then
      some (x1, tf)
    else
      (aset 256 tf x1 tb).bind fun v2 =>
      s_Tab_clear_L2 tb n (x1 + (1 : Int32)) v2
def s_Tab_clear (F : Nat) (tb : Int32) (tf : Nat → Int32) : Option ((Nat → Int32)) :=
  (s_Tab_clear_L2 tb F (0 : Int32) tf).bind fun o3x =>
  some o3x.2
def s_Plan_points (pn : Int32) : Int32 :=
  pn
def s_Plan_twiceSignedArea (pxs : Nat → Int32) (pys : Nat → Int32) (a0 : Int32) (a1 : Int32) (a2 : Int32) (a3 : Int32) : Int32 :=
  ((((s_Row_get 16 pxs a1) - (s_Row_get 16 pxs a0)) * (a3 - (s_Row_get 16 pys a0))) - (((s_Row_get 16 pys a1) - (s_Row_get 16 pys a0)) * (a2 - (s_Row_get 16 pxs a0))))
def s_Top_signOf (a0 : Int64) : Int32 :=
  if (lg_cmp a0 (0 : Int64)) ≤ 0 then
    if 0 ≤ (lg_cmp a0 (0 : Int64)) then
      (0 : Int32)
    else
      (-1 : Int32)
  else
    (1 : Int32)
def s_Plan_side (pxs : Nat → Int32) (pys : Nat → Int32) (a0 : Int32) (a1 : Int32) (a2 : Int32) : Int32 :=
  (s_Top_signOf (((s_Plan_twiceSignedArea pxs pys a0 a1 (s_Row_get 16 pxs a2) (s_Row_get 16 pys a2))).toInt64))
def s_Tab_set (tf : Nat → Int32) (a0 : Int32) (a1 : Int32) (a2 : Int32) : (Nat → Int32) :=
  if ((a0 * (16 : Int32)) + a1) < 0 then
    tf
  else
    if (256 : Int32) ≤ ((a0 * (16 : Int32)) + a1) then
      tf
    else
      (upd tf (((a0 * (16 : Int32)) + a1)).toNatClampNeg a2)
def s_Mesh_findSidesOf_L8 (pxs : Nat → Int32) (pys : Nat → Int32) (pn : Int32) (x1 : Int32) (x2 : Int32) : Nat → Int32 → Int32 → Int32 → Option (Int32 × Int32 × Int32)
  | 0, _, _, _ => none
  | n + 1, x3, x4, x5 =>
    if (s_Plan_points pn) ≤ x5 then
      some (x3, x4, x5)
    else
      if (s_Plan_side pxs pys x1 x2 x5) ≤ 0 then
        if 0 ≤ (s_Plan_side pxs pys x1 x2 x5) then
          s_Mesh_findSidesOf_L8 pxs pys pn x1 x2 n x3 x4 (x5 + (1 : Int32))
        else
          s_Mesh_findSidesOf_L8 pxs pys pn x1 x2 n x3 (x4 ||| ((1 : Int32) <<< (x5 &&& 31))) (x5 + (1 : Int32))
      else
        s_Mesh_findSidesOf_L8 pxs pys pn x1 x2 n (x3 ||| ((1 : Int32) <<< (x5 &&& 31))) x4 (x5 + (1 : Int32))
def s_Mesh_findSidesOf (F : Nat) (pxs : Nat → Int32) (pys : Nat → Int32) (pn : Int32) (lf : Nat → Int32) (a0 : Int32) (a1 : Int32) : Option ((Nat → Int32)) :=
  (s_Mesh_findSidesOf_L8 pxs pys pn a0 a1 F (0 : Int32) (0 : Int32) (0 : Int32)).bind fun o4x =>
  some (s_Tab_set (s_Tab_set lf a0 a1 o4x.1) a1 a0 o4x.2.1)
def s_Mesh_findSides_L24 (F : Nat) (pxs : Nat → Int32) (pys : Nat → Int32) (pn : Int32) (x1 : Int32) : Nat → Int32 → (Nat → Int32) → Option (Int32 × (Nat → Int32))
  | 0, _, _ => none
  | n + 1, x2, lf =>
    if (s_Plan_points pn) ≤ x2 then
      some (x2, lf)
    else
      ((s_Mesh_findSidesOf F pxs pys pn lf x1 x2)).bind fun v4 =>
      s_Mesh_findSides_L24 F pxs pys pn x1 n (x2 + (1 : Int32)) v4
def s_Mesh_findSides_L9 (F : Nat) (pxs : Nat → Int32) (pys : Nat → Int32) (pn : Int32) : Nat → Int32 → (Nat → Int32) → Option (Int32 × (Nat → Int32))
  | 0, _, _ => none
  | n + 1, x1, lf =>
    if (s_Plan_points pn) ≤ x1 then
      some (x1, lf)
    else
      (s_Mesh_findSides_L24 F pxs pys pn x1 F (x1 + (1 : Int32)) lf).bind fun o5x =>
      s_Mesh_findSides_L9 F pxs pys pn n (x1 + (1 : Int32)) o5x.2
def s_Mesh_findSides (F : Nat) (pxs : Nat → Int32) (pys : Nat → Int32) (pn : Int32) (lf : Nat → Int32) : Option ((Nat → Int32)) :=
  ((s_Tab_clear F 0 lf)).bind fun v1 =>
  (s_Mesh_findSides_L9 F pxs pys pn F (0 : Int32) v1).bind fun o6x =>
  some o6x.2
def s_Plan_constraints (pm : Int32) : Int32 :=
  pm
def s_Plan_lowEnd (plo : Nat → Int32) (a0 : Int32) : Int32 :=
  (s_Row_get 10 plo a0)
def s_Plan_highEnd (phi : Nat → Int32) (a0 : Int32) : Int32 :=
  (s_Row_get 10 phi a0)
def s_Mesh_link (lk : Nat → Int32) (a0 : Int32) (a1 : Int32) : (Nat → Int32) :=
  (s_Row_set 16 (s_Row_set 16 lk a0 ((s_Row_get 16 lk a0) ||| ((1 : Int32) <<< (a1 &&& 31)))) a1 ((s_Row_get 16 (s_Row_set 16 lk a0 ((s_Row_get 16 lk a0) ||| ((1 : Int32) <<< (a1 &&& 31)))) a1) ||| ((1 : Int32) <<< (a0 &&& 31))))
def s_Mesh_drawEdge (lk : Nat → Int32) (el : Nat → Int32) (eh : Nat → Int32) (ne : Int32) (a0 : Int32) (a1 : Int32) : (Nat → Int32) × (Nat → Int32) × (Nat → Int32) × Int32 :=
  ((s_Mesh_link lk a0 a1), (s_Row_set 42 el ne a0), (s_Row_set 42 eh ne a1), (ne + (1 : Int32)))
def s_Mesh_isLinked (lk : Nat → Int32) (a0 : Int32) (a1 : Int32) : Bool :=
  if (((s_Row_get 16 lk a0) >>> (a1 &&& 31)) &&& (1 : Int32)) = 0 then
    false
  else
    true
def s_Plan_covers (pxs : Nat → Int32) (pys : Nat → Int32) (a0 : Int32) (a1 : Int32) (a2 : Int32) (a3 : Int32) : Bool :=
  if (s_Plan_twiceSignedArea pxs pys a0 a1 a2 a3) = 0 then
    if 0 ≤ ((((s_Row_get 16 pxs a0) - a2) * ((s_Row_get 16 pxs a1) - a2)) + (((s_Row_get 16 pys a0) - a3) * ((s_Row_get 16 pys a1) - a3))) then
      false
    else
      true
  else
    false
def s_Plan_coversPoint_L2 (pxs : Nat → Int32) (pys : Nat → Int32) (pn : Int32) (x1 : Int32) (x2 : Int32) : Nat → Int32 → Option ((Bool) ⊕ (Int32))
  | 0, _ => none
  | n + 1, x3 =>
    if pn ≤ x3 then
      some (.inr x3)
    else
      if (bI (s_Plan_covers pxs pys x1 x2 (s_Row_get 16 pxs x3) (s_Row_get 16 pys x3))) = 0 then
        s_Plan_coversPoint_L2 pxs pys pn x1 x2 n (x3 + (1 : Int32))
      else
        some (.inl true)
def s_Plan_coversPoint (F : Nat) (pxs : Nat → Int32) (pys : Nat → Int32) (pn : Int32) (a0 : Int32) (a1 : Int32) : Option (Bool) :=
  (s_Plan_coversPoint_L2 pxs pys pn a0 a1 F (0 : Int32)).bind fun o3 =>
  Sum.elim (fun q_o =>
    some q_o) (fun o3x =>
    some false) o3
def s_Tab_get (tb : Int32) (tf : Nat → Int32) (a0 : Int32) (a1 : Int32) : Int32 :=
  if ((a0 * (16 : Int32)) + a1) < 0 then
    tb
  else
    if (256 : Int32) ≤ ((a0 * (16 : Int32)) + a1) then
      tb
    else
      (tf (((a0 * (16 : Int32)) + a1)).toNatClampNeg)
def s_Mesh_parts (lf : Nat → Int32) (a0 : Int32) (a1 : Int32) (a2 : Int32) (a3 : Int32) : Bool :=
  if (((((s_Tab_get 0 lf a0 a1) >>> (a2 &&& 31)) &&& ((s_Tab_get 0 lf a1 a0) >>> (a3 &&& 31))) ||| (((s_Tab_get 0 lf a0 a1) >>> (a3 &&& 31)) &&& ((s_Tab_get 0 lf a1 a0) >>> (a2 &&& 31)))) &&& (1 : Int32)) = 0 then
    false
  else
    true
def s_Mesh_splits (lf : Nat → Int32) (a0 : Int32) (a1 : Int32) (a2 : Int32) (a3 : Int32) : Bool :=
  if (bI (s_Mesh_parts lf a0 a1 a2 a3)) = 0 then
    false
  else
    if (bI (s_Mesh_parts lf a2 a3 a0 a1)) = 0 then
      false
    else
      true
def s_Mesh_crossesEdge_L2 (lf : Nat → Int32) (el : Nat → Int32) (eh : Nat → Int32) (ne : Int32) (x1 : Int32) (x2 : Int32) : Nat → Int32 → Option ((Bool) ⊕ (Int32))
  | 0, _ => none
  | n + 1, x3 =>
    if ne ≤ x3 then
      some (.inr x3)
    else
      if (bI (s_Mesh_splits lf x1 x2 (s_Row_get 42 el x3) (s_Row_get 42 eh x3))) = 0 then
        s_Mesh_crossesEdge_L2 lf el eh ne x1 x2 n (x3 + (1 : Int32))
      else
        some (.inl true)
def s_Mesh_crossesEdge (F : Nat) (lf : Nat → Int32) (el : Nat → Int32) (eh : Nat → Int32) (ne : Int32) (a0 : Int32) (a1 : Int32) : Option (Bool) :=
  (s_Mesh_crossesEdge_L2 lf el eh ne a0 a1 F (0 : Int32)).bind fun o3 =>
  Sum.elim (fun q_o =>
    some q_o) (fun o3x =>
    some false) o3
def s_Mesh_drawSomeEdges_L7  : Nat → Int32 → (Nat → Int32) → Option (Int32 × (Nat → Int32))
  | 0, _, _ => none
  | n + 1, x1, lk =>
    if (16 : Int32) ≤ x1 then
      some (x1, lk)
    else
      s_Mesh_drawSomeEdges_L7  n (x1 + (1 : Int32)) (s_Row_set 16 lk x1 (0 : Int32))
def s_Mesh_drawSomeEdges_L30 (plo : Nat → Int32) (phi : Nat → Int32) (pm : Int32) : Nat → Int32 → (Nat → Int32) → (Nat → Int32) → (Nat → Int32) → Int32 → Option (Int32 × (Nat → Int32) × (Nat → Int32) × (Nat → Int32) × Int32)
  | 0, _, _, _, _, _ => none
  | n + 1, x1, lk, el, eh, ne =>
    if (s_Plan_constraints pm) ≤ x1 then
      some (x1, lk, el, eh, ne)
    else
      s_Mesh_drawSomeEdges_L30 plo phi pm n (x1 + (1 : Int32)) ((s_Mesh_drawEdge lk el eh ne (s_Plan_lowEnd plo x1) (s_Plan_highEnd phi x1)).1) ((s_Mesh_drawEdge lk el eh ne (s_Plan_lowEnd plo x1) (s_Plan_highEnd phi x1)).2.1) ((s_Mesh_drawEdge lk el eh ne (s_Plan_lowEnd plo x1) (s_Plan_highEnd phi x1)).2.2.1) ((s_Mesh_drawEdge lk el eh ne (s_Plan_lowEnd plo x1) (s_Plan_highEnd phi x1)).2.2.2)
def s_Mesh_drawSomeEdges_L84 (F : Nat) (pxs : Nat → Int32) (pys : Nat → Int32) (pn : Int32) (lf : Nat → Int32) (x1 : Int32) : Nat → Int32 → (Nat → Int32) → (Nat → Int32) → (Nat → Int32) → Int32 → Option (Int32 × (Nat → Int32) × (Nat → Int32) × (Nat → Int32) × Int32)
  | 0, _, _, _, _, _ => none
  | n + 1, x2, lk, el, eh, ne =>
    if (s_Plan_points pn) ≤ x2 then
      some (x2, lk, el, eh, ne)
    else
      if (bI (s_Mesh_isLinked lk x1 x2)) = 0 then
        ((s_Plan_coversPoint F pxs pys pn x1 x2)).bind fun v8 =>
        if (bI v8) = 0 then
          ((s_Mesh_crossesEdge F lf el eh ne x1 x2)).bind fun v10 =>
          if (bI v10) = 0 then
            s_Mesh_drawSomeEdges_L84 F pxs pys pn lf x1 n (x2 + (1 : Int32)) ((s_Mesh_drawEdge lk el eh ne x1 x2).1) ((s_Mesh_drawEdge lk el eh ne x1 x2).2.1) ((s_Mesh_drawEdge lk el eh ne x1 x2).2.2.1) ((s_Mesh_drawEdge lk el eh ne x1 x2).2.2.2)
          else
            s_Mesh_drawSomeEdges_L84 F pxs pys pn lf x1 n (x2 + (1 : Int32)) lk el eh ne
        else
          s_Mesh_drawSomeEdges_L84 F pxs pys pn lf x1 n (x2 + (1 : Int32)) lk el eh ne
      else
        s_Mesh_drawSomeEdges_L84 F pxs pys pn lf x1 n (x2 + (1 : Int32)) lk el eh ne
def s_Mesh_drawSomeEdges_L69 (F : Nat) (pxs : Nat → Int32) (pys : Nat → Int32) (pn : Int32) (lf : Nat → Int32) : Nat → Int32 → (Nat → Int32) → (Nat → Int32) → (Nat → Int32) → Int32 → Option (Int32 × (Nat → Int32) × (Nat → Int32) × (Nat → Int32) × Int32)
  | 0, _, _, _, _, _ => none
  | n + 1, x1, lk, el, eh, ne =>
    if (s_Plan_points pn) ≤ x1 then
      some (x1, lk, el, eh, ne)
    else
      (s_Mesh_drawSomeEdges_L84 F pxs pys pn lf x1 F (x1 + (1 : Int32)) lk el eh ne).bind fun o12x =>
      s_Mesh_drawSomeEdges_L69 F pxs pys pn lf n (x1 + (1 : Int32)) o12x.2.1 o12x.2.2.1 o12x.2.2.2.1 o12x.2.2.2.2
def s_Mesh_drawSomeEdges (F : Nat) (pxs : Nat → Int32) (pys : Nat → Int32) (plo : Nat → Int32) (phi : Nat → Int32) (pn : Int32) (pm : Int32) (lf : Nat → Int32) (lk : Nat → Int32) (el : Nat → Int32) (eh : Nat → Int32) : Option ((Nat → Int32) × (Nat → Int32) × (Nat → Int32) × Int32) :=
  (s_Mesh_drawSomeEdges_L7 F (0 : Int32) lk).bind fun o2x =>
  (s_Mesh_drawSomeEdges_L30 plo phi pm F (0 : Int32) o2x.2 el eh (0 : Int32)).bind fun o4x =>
  (s_Mesh_drawSomeEdges_L69 F pxs pys pn lf F (0 : Int32) o4x.2.1 o4x.2.2.1 o4x.2.2.2.1 o4x.2.2.2.2).bind fun o13x =>
  some (o13x.2.1, o13x.2.2.1, o13x.2.2.2.1, o13x.2.2.2.2)
def s_Mesh_emptyCorner_L31 (pn : Int32) (lf : Nat → Int32) (x1 : Int32) (x2 : Int32) (x3 : Int32) : Nat → Int32 → Option ((Int32) ⊕ (Int32))
  | 0, _ => none
  | n + 1, x4 =>
    if (s_Plan_points pn) ≤ x4 then
      some (.inr x4)
    else
      if ((x3 >>> (x4 &&& 31)) &&& (1 : Int32)) = 0 then
        s_Mesh_emptyCorner_L31 pn lf x1 x2 x3 n (x4 + (1 : Int32))
      else
        if (((s_Tab_get 0 lf x1 x2) &&& (s_Tab_get 0 lf x2 x4)) &&& (s_Tab_get 0 lf x4 x1)) = 0 then
          some (.inl x4)
        else
          s_Mesh_emptyCorner_L31 pn lf x1 x2 x3 n (x4 + (1 : Int32))
def s_Mesh_emptyCorner (F : Nat) (pn : Int32) (lf : Nat → Int32) (lk : Nat → Int32) (a0 : Int32) (a1 : Int32) : Option (Int32) :=
  (s_Mesh_emptyCorner_L31 pn lf a0 a1 (((s_Row_get 16 lk a0) &&& (s_Row_get 16 lk a1)) &&& (s_Tab_get 0 lf a0 a1)) F (0 : Int32)).bind fun o4 =>
  Sum.elim (fun q_o =>
    some q_o) (fun o4x =>
    some (-1 : Int32)) o4
def s_Mesh_findThirds_L22 (F : Nat) (pn : Int32) (lf : Nat → Int32) (lk : Nat → Int32) (x1 : Int32) : Nat → Int32 → (Nat → Int32) → Option (Int32 × (Nat → Int32))
  | 0, _, _ => none
  | n + 1, x2, th =>
    if (s_Plan_points pn) ≤ x2 then
      some (x2, th)
    else
      if (bI (s_Mesh_isLinked lk x1 x2)) = 0 then
        s_Mesh_findThirds_L22 F pn lf lk x1 n (x2 + (1 : Int32)) th
      else
        ((s_Mesh_emptyCorner F pn lf lk x1 x2)).bind fun v5 =>
        s_Mesh_findThirds_L22 F pn lf lk x1 n (x2 + (1 : Int32)) (s_Tab_set th x1 x2 v5)
def s_Mesh_findThirds_L9 (F : Nat) (pn : Int32) (lf : Nat → Int32) (lk : Nat → Int32) : Nat → Int32 → (Nat → Int32) → Option (Int32 × (Nat → Int32))
  | 0, _, _ => none
  | n + 1, x1, th =>
    if (s_Plan_points pn) ≤ x1 then
      some (x1, th)
    else
      (s_Mesh_findThirds_L22 F pn lf lk x1 F (0 : Int32) th).bind fun o6x =>
      s_Mesh_findThirds_L9 F pn lf lk n (x1 + (1 : Int32)) o6x.2
def s_Mesh_findThirds (F : Nat) (pn : Int32) (lf : Nat → Int32) (th : Nat → Int32) (lk : Nat → Int32) : Option ((Nat → Int32)) :=
  ((s_Tab_clear F (-1) th)).bind fun v1 =>
  (s_Mesh_findThirds_L9 F pn lf lk F (0 : Int32) v1).bind fun o7x =>
  some o7x.2
def s_Mesh_isInner (th : Nat → Int32) (a0 : Int32) (a1 : Int32) : Bool :=
  if (s_Tab_get (-1) th a0 a1) = (-1 : Int32) then
    false
  else
    if (s_Tab_get (-1) th a1 a0) = (-1 : Int32) then
      false
    else
      true
def s_Plan_squaredDistance (pxs : Nat → Int32) (pys : Nat → Int32) (a0 : Int32) (a1 : Int32) : Int32 :=
  ((((s_Row_get 16 pxs a0) - (s_Row_get 16 pxs a1)) * ((s_Row_get 16 pxs a0) - (s_Row_get 16 pxs a1))) + (((s_Row_get 16 pys a0) - (s_Row_get 16 pys a1)) * ((s_Row_get 16 pys a0) - (s_Row_get 16 pys a1))))
def s_Plan_twiceAreaFrom (pxs : Nat → Int32) (pys : Nat → Int32) (a0 : Int32) (a1 : Int32) (a2 : Int32) (a3 : Int32) : Int32 :=
  ((((s_Row_get 16 pxs a2) - a0) * ((s_Row_get 16 pys a3) - a1)) - (((s_Row_get 16 pys a2) - a1) * ((s_Row_get 16 pxs a3) - a0)))
def s_Plan_circleSide (pxs : Nat → Int32) (pys : Nat → Int32) (a0 : Int32) (a1 : Int32) (a2 : Int32) (a3 : Int32) : Int32 :=
  ((s_Top_signOf ((((((s_Plan_squaredDistance pxs pys a0 a3)).toInt64) * (((s_Plan_twiceAreaFrom pxs pys (s_Row_get 16 pxs a3) (s_Row_get 16 pys a3) a1 a2)).toInt64)) + ((((s_Plan_squaredDistance pxs pys a1 a3)).toInt64) * (((s_Plan_twiceAreaFrom pxs pys (s_Row_get 16 pxs a3) (s_Row_get 16 pys a3) a2 a0)).toInt64))) + ((((s_Plan_squaredDistance pxs pys a2 a3)).toInt64) * (((s_Plan_twiceAreaFrom pxs pys (s_Row_get 16 pxs a3) (s_Row_get 16 pys a3) a0 a1)).toInt64)))) * (s_Plan_side pxs pys a0 a1 a2))
def s_Mesh_passesCircle (pxs : Nat → Int32) (pys : Nat → Int32) (th : Nat → Int32) (a0 : Int32) (a1 : Int32) : Bool :=
  if (s_Plan_circleSide pxs pys a0 a1 (s_Tab_get (-1) th a0 a1) (s_Tab_get (-1) th a1 a0)) < 0 then
    true
  else
    if (s_Plan_circleSide pxs pys a0 a1 (s_Tab_get (-1) th a0 a1) (s_Tab_get (-1) th a1 a0)) = 0 then
      if (imax (s_Tab_get (-1) th a0 a1) (s_Tab_get (-1) th a1 a0)) ≤ (imax a0 a1) then
        false
      else
        true
    else
      false
def s_Plan_isConstraint_L2 (plo : Nat → Int32) (phi : Nat → Int32) (pm : Int32) (x1 : Int32) (x2 : Int32) : Nat → Int32 → Option ((Bool) ⊕ (Int32))
  | 0, _ => none
  | n + 1, x3 =>
    if pm ≤ x3 then
      some (.inr x3)
    else
      if (s_Row_get 10 plo x3) = (imin x1 x2) then
        if (s_Row_get 10 phi x3) = (imax x1 x2) then
          some (.inl true)
        else
          s_Plan_isConstraint_L2 plo phi pm x1 x2 n (x3 + (1 : Int32))
      else
        s_Plan_isConstraint_L2 plo phi pm x1 x2 n (x3 + (1 : Int32))
def s_Plan_isConstraint (F : Nat) (plo : Nat → Int32) (phi : Nat → Int32) (pm : Int32) (a0 : Int32) (a1 : Int32) : Option (Bool) :=
  (s_Plan_isConstraint_L2 plo phi pm a0 a1 F (0 : Int32)).bind fun o4 =>
  Sum.elim (fun q_o =>
    some q_o) (fun o4x =>
    some false) o4
def s_Mesh_unlink (lk : Nat → Int32) (a0 : Int32) (a1 : Int32) : (Nat → Int32) :=
  (s_Row_set 16 (s_Row_set 16 lk a0 ((s_Row_get 16 lk a0) &&& (((1 : Int32) <<< (a1 &&& 31)) ^^^ (-1 : Int32)))) a1 ((s_Row_get 16 (s_Row_set 16 lk a0 ((s_Row_get 16 lk a0) &&& (((1 : Int32) <<< (a1 &&& 31)) ^^^ (-1 : Int32)))) a1) &&& (((1 : Int32) <<< (a0 &&& 31)) ^^^ (-1 : Int32))))
def s_Tab_turnRound (tf : Nat → Int32) (a0 : Int32) (a1 : Int32) (a2 : Int32) : (Nat → Int32) :=
  (s_Tab_set (s_Tab_set (s_Tab_set tf a0 a1 a2) a1 a2 a0) a2 a0 a1)
def s_Mesh_flip (th : Nat → Int32) (lk : Nat → Int32) (a0 : Int32) (a1 : Int32) : (Nat → Int32) × (Nat → Int32) :=
  ((s_Tab_turnRound (s_Tab_turnRound (s_Tab_set (s_Tab_set th a0 a1 (-1 : Int32)) a1 a0 (-1 : Int32)) a0 (s_Tab_get (-1) th a1 a0) (s_Tab_get (-1) th a0 a1)) (s_Tab_get (-1) th a1 a0) a1 (s_Tab_get (-1) th a0 a1)), (s_Mesh_link (s_Mesh_unlink lk a0 a1) (s_Tab_get (-1) th a0 a1) (s_Tab_get (-1) th a1 a0)))
def s_Mesh_flipBadEdges_L19 (F : Nat) (pxs : Nat → Int32) (pys : Nat → Int32) (plo : Nat → Int32) (phi : Nat → Int32) (pn : Int32) (pm : Int32) (x2 : Int32) : Nat → Int32 → Int32 → (Nat → Int32) → (Nat → Int32) → Option (Int32 × Int32 × (Nat → Int32) × (Nat → Int32))
  | 0, _, _, _, _ => none
  | n + 1, x1, x3, th, lk =>
    if (s_Plan_points pn) ≤ x3 then
      some (x1, x3, th, lk)
    else
      if (bI (s_Mesh_isInner th x2 x3)) = 0 then
        s_Mesh_flipBadEdges_L19 F pxs pys plo phi pn pm x2 n x1 (x3 + (1 : Int32)) th lk
      else
        if (bI (s_Mesh_passesCircle pxs pys th x2 x3)) = 0 then
          ((s_Plan_isConstraint F plo phi pm x2 x3)).bind fun v5 =>
          if (bI v5) = 0 then
            s_Mesh_flipBadEdges_L19 F pxs pys plo phi pn pm x2 n (1 : Int32) (x3 + (1 : Int32)) ((s_Mesh_flip th lk x2 x3).1) ((s_Mesh_flip th lk x2 x3).2)
          else
            s_Mesh_flipBadEdges_L19 F pxs pys plo phi pn pm x2 n x1 (x3 + (1 : Int32)) th lk
        else
          s_Mesh_flipBadEdges_L19 F pxs pys plo phi pn pm x2 n x1 (x3 + (1 : Int32)) th lk
def s_Mesh_flipBadEdges_L4 (F : Nat) (pxs : Nat → Int32) (pys : Nat → Int32) (plo : Nat → Int32) (phi : Nat → Int32) (pn : Int32) (pm : Int32) : Nat → Int32 → Int32 → (Nat → Int32) → (Nat → Int32) → Option (Int32 × Int32 × (Nat → Int32) × (Nat → Int32))
  | 0, _, _, _, _ => none
  | n + 1, x1, x2, th, lk =>
    if (s_Plan_points pn) ≤ x2 then
      some (x1, x2, th, lk)
    else
      (s_Mesh_flipBadEdges_L19 F pxs pys plo phi pn pm x2 F x1 (x2 + (1 : Int32)) th lk).bind fun o7x =>
      s_Mesh_flipBadEdges_L4 F pxs pys plo phi pn pm n o7x.1 (x2 + (1 : Int32)) o7x.2.2.1 o7x.2.2.2
def s_Mesh_flipBadEdges (F : Nat) (pxs : Nat → Int32) (pys : Nat → Int32) (plo : Nat → Int32) (phi : Nat → Int32) (pn : Int32) (pm : Int32) (th : Nat → Int32) (lk : Nat → Int32) : Option (Bool × (Nat → Int32) × (Nat → Int32)) :=
  (s_Mesh_flipBadEdges_L4 F pxs pys plo phi pn pm F (0 : Int32) (0 : Int32) th lk).bind fun o8x =>
  if o8x.1 = 0 then
    some (false, o8x.2.2.1, o8x.2.2.2)
  else if o8x.1 = 1 then
    some (true, o8x.2.2.1, o8x.2.2.2)
  else none
def s_Mesh_numberEdges_L22 (pn : Int32) (lk : Nat → Int32) (x1 : Int32) : Nat → Int32 → (Nat → Int32) → (Nat → Int32) → Int32 → Option (Int32 × (Nat → Int32) × (Nat → Int32) × Int32)
  | 0, _, _, _, _ => none
  | n + 1, x2, el, eh, ne =>
    if (s_Plan_points pn) ≤ x2 then
      some (x2, el, eh, ne)
    else
      if (bI (s_Mesh_isLinked lk x1 x2)) = 0 then
        s_Mesh_numberEdges_L22 pn lk x1 n (x2 + (1 : Int32)) el eh ne
      else
        s_Mesh_numberEdges_L22 pn lk x1 n (x2 + (1 : Int32)) (s_Row_set 42 el ne x1) (s_Row_set 42 eh ne x2) (ne + (1 : Int32))
def s_Mesh_numberEdges_L7 (F : Nat) (pn : Int32) (lk : Nat → Int32) : Nat → Int32 → (Nat → Int32) → (Nat → Int32) → Int32 → Option (Int32 × (Nat → Int32) × (Nat → Int32) × Int32)
  | 0, _, _, _, _ => none
  | n + 1, x1, el, eh, ne =>
    if (s_Plan_points pn) ≤ x1 then
      some (x1, el, eh, ne)
    else
      (s_Mesh_numberEdges_L22 pn lk x1 F (x1 + (1 : Int32)) el eh ne).bind fun o4x =>
      s_Mesh_numberEdges_L7 F pn lk n (x1 + (1 : Int32)) o4x.2.1 o4x.2.2.1 o4x.2.2.2
def s_Mesh_numberEdges (F : Nat) (pn : Int32) (lk : Nat → Int32) (el : Nat → Int32) (eh : Nat → Int32) : Option ((Nat → Int32) × (Nat → Int32) × Int32) :=
  (s_Mesh_numberEdges_L7 F pn lk F (0 : Int32) el eh (0 : Int32)).bind fun o5x =>
  some (o5x.2.1, o5x.2.2.1, o5x.2.2.2)
def s_Mesh_addTriangle (ow : Nat → Int32) (co : Nat → Int32) (nt : Int32) (a0 : Int32) (a1 : Int32) (a2 : Int32) : (Nat → Int32) × (Nat → Int32) × Int32 :=
  ((s_Tab_set (s_Tab_set (s_Tab_set ow a0 a1 nt) a1 a2 nt) a2 a0 nt), (s_Row_set 81 (s_Row_set 81 (s_Row_set 81 co ((3 : Int32) * nt) a0) (((3 : Int32) * nt) + (1 : Int32)) a1) (((3 : Int32) * nt) + (2 : Int32)) a2), (nt + (1 : Int32)))
def s_Mesh_numberTriangles_L29 (pn : Int32) (th : Nat → Int32) (x1 : Int32) : Nat → Int32 → (Nat → Int32) → (Nat → Int32) → Int32 → Option (Int32 × (Nat → Int32) × (Nat → Int32) × Int32)
  | 0, _, _, _, _ => none
  | n + 1, x2, ow, co, nt =>
    if (s_Plan_points pn) ≤ x2 then
      some (x2, ow, co, nt)
    else
      if (s_Tab_get (-1) th x1 x2) ≤ x1 then
        s_Mesh_numberTriangles_L29 pn th x1 n (x2 + (1 : Int32)) ow co nt
      else
        s_Mesh_numberTriangles_L29 pn th x1 n (x2 + (1 : Int32)) ((s_Mesh_addTriangle ow co nt x1 x2 (s_Tab_get (-1) th x1 x2)).1) ((s_Mesh_addTriangle ow co nt x1 x2 (s_Tab_get (-1) th x1 x2)).2.1) ((s_Mesh_addTriangle ow co nt x1 x2 (s_Tab_get (-1) th x1 x2)).2.2)
def s_Mesh_numberTriangles_L14 (F : Nat) (pn : Int32) (th : Nat → Int32) : Nat → Int32 → (Nat → Int32) → (Nat → Int32) → Int32 → Option (Int32 × (Nat → Int32) × (Nat → Int32) × Int32)
  | 0, _, _, _, _ => none
  | n + 1, x1, ow, co, nt =>
    if (s_Plan_points pn) ≤ x1 then
      some (x1, ow, co, nt)
    else
      (s_Mesh_numberTriangles_L29 pn th x1 F (x1 + (1 : Int32)) ow co nt).bind fun o5x =>
      s_Mesh_numberTriangles_L14 F pn th n (x1 + (1 : Int32)) o5x.2.1 o5x.2.2.1 o5x.2.2.2
def s_Mesh_numberTriangles (F : Nat) (pn : Int32) (th : Nat → Int32) (ow : Nat → Int32) (co : Nat → Int32) : Option ((Nat → Int32) × (Nat → Int32) × Int32) :=
  ((s_Tab_clear F (-1) ow)).bind fun v1 =>
  (s_Mesh_numberTriangles_L14 F pn th F (0 : Int32) v1 co (0 : Int32)).bind fun o6x =>
  some (o6x.2.1, o6x.2.2.1, o6x.2.2.2)
def s_Mesh_nextOnHull_L2 (pn : Int32) (th : Nat → Int32) (x1 : Int32) : Nat → Int32 → Option ((Int32) ⊕ (Int32))
  | 0, _ => none
  | n + 1, x2 =>
    if (s_Plan_points pn) ≤ x2 then
      some (.inr x2)
    else
      if (s_Tab_get (-1) th x1 x2) = (-1 : Int32) then
        s_Mesh_nextOnHull_L2 pn th x1 n (x2 + (1 : Int32))
      else
        if (s_Tab_get (-1) th x2 x1) = (-1 : Int32) then
          some (.inl x2)
        else
          s_Mesh_nextOnHull_L2 pn th x1 n (x2 + (1 : Int32))
def s_Mesh_nextOnHull (F : Nat) (pn : Int32) (th : Nat → Int32) (a0 : Int32) : Option (Int32) :=
  (s_Mesh_nextOnHull_L2 pn th a0 F (0 : Int32)).bind fun o4 =>
  Sum.elim (fun q_o =>
    some q_o) (fun o4x =>
    some (-1 : Int32)) o4
def s_Mesh_firstOnHull_L2 (F : Nat) (pn : Int32) (th : Nat → Int32) : Nat → Int32 → Option ((Int32) ⊕ (Int32))
  | 0, _ => none
  | n + 1, x1 =>
    if (s_Plan_points pn) ≤ x1 then
      some (.inr x1)
    else
      ((s_Mesh_nextOnHull F pn th x1)).bind fun v2 =>
      if v2 = (-1 : Int32) then
        s_Mesh_firstOnHull_L2 F pn th n (x1 + (1 : Int32))
      else
        some (.inl x1)
def s_Mesh_firstOnHull (F : Nat) (pn : Int32) (th : Nat → Int32) : Option (Int32) :=
  (s_Mesh_firstOnHull_L2 F pn th F (0 : Int32)).bind fun o4 =>
  Sum.elim (fun q_o =>
    some q_o) (fun o4x =>
    some (-1 : Int32)) o4
def s_Mesh_numberHull_L10 (F : Nat) (pn : Int32) (th : Nat → Int32) : Nat → Int32 → (Nat → Int32) → Int32 → Option (Int32 × (Nat → Int32) × Int32)
  | 0, _, _, _ => none
  | n + 1, x1, hu, nh =>
    if (16 : Int32) ≤ nh then
      some (x1, hu, nh)
    else
      if x1 = (-1 : Int32) then
        some (x1, hu, nh)
      else
        ((s_Mesh_nextOnHull F pn th x1)).bind fun v4 =>
        if v4 = (s_Row_get 16 (s_Row_set 16 hu nh x1) (0 : Int32)) then
          s_Mesh_numberHull_L10 F pn th n (-1 : Int32) (s_Row_set 16 hu nh x1) (nh + (1 : Int32))
        else
          s_Mesh_numberHull_L10 F pn th n v4 (s_Row_set 16 hu nh x1) (nh + (1 : Int32))
def s_Mesh_numberHull (F : Nat) (pn : Int32) (th : Nat → Int32) (hu : Nat → Int32) : Option ((Nat → Int32) × Int32) :=
  ((s_Mesh_firstOnHull F pn th)).bind fun v1 =>
  (s_Mesh_numberHull_L10 F pn th F v1 hu (0 : Int32)).bind fun o6x =>
  some (o6x.2.1, o6x.2.2)
def s_Mesh_draw_L16 (F : Nat) (pxs : Nat → Int32) (pys : Nat → Int32) (plo : Nat → Int32) (phi : Nat → Int32) (pn : Int32) (pm : Int32) : Nat → Int32 → Int32 → (Nat → Int32) → (Nat → Int32) → Option (Int32 × Int32 × (Nat → Int32) × (Nat → Int32))
  | 0, _, _, _, _ => none
  | n + 1, x1, x2, th, lk =>
    if (1000 : Int32) ≤ x2 then
      some (x1, x2, th, lk)
    else
      if x1 = 0 then
        some (x1, x2, th, lk)
      else
        ((s_Mesh_flipBadEdges F pxs pys plo phi pn pm th lk)).bind fun v6 =>
        s_Mesh_draw_L16 F pxs pys plo phi pn pm n (bI v6.1) (x2 + (1 : Int32)) v6.2.1 v6.2.2
def s_Mesh_draw (F : Nat) (pxs : Nat → Int32) (pys : Nat → Int32) (plo : Nat → Int32) (phi : Nat → Int32) (pn : Int32) (pm : Int32) (lf : Nat → Int32) (th : Nat → Int32) (ow : Nat → Int32) (lk : Nat → Int32) (el : Nat → Int32) (eh : Nat → Int32) (co : Nat → Int32) (hu : Nat → Int32) : Option ((Nat → Int32) × (Nat → Int32) × (Nat → Int32) × (Nat → Int32) × (Nat → Int32) × (Nat → Int32) × (Nat → Int32) × (Nat → Int32) × Int32 × Int32 × Int32) :=
  ((s_Mesh_findSides F pxs pys pn lf)).bind fun v1 =>
  ((s_Mesh_drawSomeEdges F pxs pys plo phi pn pm v1 lk el eh)).bind fun v2 =>
  ((s_Mesh_findThirds F pn v1 th v2.1)).bind fun v3 =>
  (s_Mesh_draw_L16 F pxs pys plo phi pn pm F (1 : Int32) (0 : Int32) v3 v2.1).bind fun o7x =>
  ((s_Mesh_numberEdges F pn o7x.2.2.2 v2.2.1 v2.2.2.1)).bind fun v8 =>
  ((s_Mesh_numberTriangles F pn o7x.2.2.1 ow co)).bind fun v9 =>
  ((s_Mesh_numberHull F pn o7x.2.2.1 hu)).bind fun v10 =>
  some (v1, o7x.2.2.1, v9.1, o7x.2.2.2, v8.1, v8.2.1, v9.2.1, v10.1, v8.2.2, v9.2.2, v10.2)
def s_Mesh_triangles (nt : Int32) : Int32 :=
  nt
def s_Mesh_edges (ne : Int32) : Int32 :=
  ne
def s_Mesh_hullPoints (nh : Int32) : Int32 :=
  nh
def s_Mesh_hullPointAt (hu : Nat → Int32) (a0 : Int32) : Int32 :=
  (s_Row_get 16 hu a0)
def s_Mesh_cornerOf (co : Nat → Int32) (a0 : Int32) (a1 : Int32) : Int32 :=
  (s_Row_get 81 co (((3 : Int32) * a0) + a1))
def s_Mesh_cornerAfter (co : Nat → Int32) (a0 : Int32) (a1 : Int32) : Int32 :=
  if a1 = (2 : Int32) then
    (s_Mesh_cornerOf co a0 (0 : Int32))
  else
    (s_Mesh_cornerOf co a0 (a1 + (1 : Int32)))
def s_Mesh_hasTriangle (th : Nat → Int32) (a0 : Int32) (a1 : Int32) (a2 : Int32) : Bool :=
  if (s_Tab_get (-1) th a0 a1) = a2 then
    true
  else
    false
def s_Mesh_triangleAcross (ow : Nat → Int32) (co : Nat → Int32) (a0 : Int32) (a1 : Int32) : Int32 :=
  (s_Tab_get (-1) ow (s_Mesh_cornerAfter co a0 a1) (s_Mesh_cornerOf co a0 a1))
def s_Mesh_lowEnd (el : Nat → Int32) (a0 : Int32) : Int32 :=
  (s_Row_get 42 el a0)
def s_Mesh_highEnd (eh : Nat → Int32) (a0 : Int32) : Int32 :=
  (s_Row_get 42 eh a0)
def s_Mesh_edgeOf_L2 (el : Nat → Int32) (eh : Nat → Int32) (ne : Int32) (x1 : Int32) (x2 : Int32) : Nat → Int32 → Option ((Int32) ⊕ (Int32))
  | 0, _ => none
  | n + 1, x3 =>
    if ne ≤ x3 then
      some (.inr x3)
    else
      if (s_Row_get 42 el x3) = (imin x1 x2) then
        if (s_Row_get 42 eh x3) = (imax x1 x2) then
          some (.inl x3)
        else
          s_Mesh_edgeOf_L2 el eh ne x1 x2 n (x3 + (1 : Int32))
      else
        s_Mesh_edgeOf_L2 el eh ne x1 x2 n (x3 + (1 : Int32))
def s_Mesh_edgeOf (F : Nat) (el : Nat → Int32) (eh : Nat → Int32) (ne : Int32) (a0 : Int32) (a1 : Int32) : Option (Int32) :=
  (s_Mesh_edgeOf_L2 el eh ne a0 a1 F (0 : Int32)).bind fun o4 =>
  Sum.elim (fun q_o =>
    some q_o) (fun o4x =>
    some (-1 : Int32)) o4
def s_J6_bitCount_0f7a4 (a0 : Int32) : Int32 :=
  ((((((((a0 - ((iushr a0 (1 : Int32)) &&& (1431655765 : Int32))) &&& (858993459 : Int32)) + ((iushr (a0 - ((iushr a0 (1 : Int32)) &&& (1431655765 : Int32))) (2 : Int32)) &&& (858993459 : Int32))) + (iushr (((a0 - ((iushr a0 (1 : Int32)) &&& (1431655765 : Int32))) &&& (858993459 : Int32)) + ((iushr (a0 - ((iushr a0 (1 : Int32)) &&& (1431655765 : Int32))) (2 : Int32)) &&& (858993459 : Int32))) (4 : Int32))) &&& (252645135 : Int32)) + (iushr (((((a0 - ((iushr a0 (1 : Int32)) &&& (1431655765 : Int32))) &&& (858993459 : Int32)) + ((iushr (a0 - ((iushr a0 (1 : Int32)) &&& (1431655765 : Int32))) (2 : Int32)) &&& (858993459 : Int32))) + (iushr (((a0 - ((iushr a0 (1 : Int32)) &&& (1431655765 : Int32))) &&& (858993459 : Int32)) + ((iushr (a0 - ((iushr a0 (1 : Int32)) &&& (1431655765 : Int32))) (2 : Int32)) &&& (858993459 : Int32))) (4 : Int32))) &&& (252645135 : Int32)) (8 : Int32))) + (iushr ((((((a0 - ((iushr a0 (1 : Int32)) &&& (1431655765 : Int32))) &&& (858993459 : Int32)) + ((iushr (a0 - ((iushr a0 (1 : Int32)) &&& (1431655765 : Int32))) (2 : Int32)) &&& (858993459 : Int32))) + (iushr (((a0 - ((iushr a0 (1 : Int32)) &&& (1431655765 : Int32))) &&& (858993459 : Int32)) + ((iushr (a0 - ((iushr a0 (1 : Int32)) &&& (1431655765 : Int32))) (2 : Int32)) &&& (858993459 : Int32))) (4 : Int32))) &&& (252645135 : Int32)) + (iushr (((((a0 - ((iushr a0 (1 : Int32)) &&& (1431655765 : Int32))) &&& (858993459 : Int32)) + ((iushr (a0 - ((iushr a0 (1 : Int32)) &&& (1431655765 : Int32))) (2 : Int32)) &&& (858993459 : Int32))) + (iushr (((a0 - ((iushr a0 (1 : Int32)) &&& (1431655765 : Int32))) &&& (858993459 : Int32)) + ((iushr (a0 - ((iushr a0 (1 : Int32)) &&& (1431655765 : Int32))) (2 : Int32)) &&& (858993459 : Int32))) (4 : Int32))) &&& (252645135 : Int32)) (8 : Int32))) (16 : Int32))) &&& (63 : Int32))
def s_Mesh_degreeOf (lk : Nat → Int32) (a0 : Int32) : Int32 :=
  (s_J6_bitCount_0f7a4 (s_Row_get 16 lk a0))
def s_Mesh_neighbourOf_L5 (pn : Int32) (lk : Nat → Int32) (x1 : Int32) (x2 : Int32) : Nat → Int32 → Int32 → Option ((Int32) ⊕ (Int32 × Int32))
  | 0, _, _ => none
  | n + 1, x3, x4 =>
    if (s_Plan_points pn) ≤ x4 then
      some (.inr (x3, x4))
    else
      if (bI (s_Mesh_isLinked lk x1 x4)) = 0 then
        s_Mesh_neighbourOf_L5 pn lk x1 x2 n x3 (x4 + (1 : Int32))
      else
        if x3 = x2 then
          some (.inl x4)
        else
          s_Mesh_neighbourOf_L5 pn lk x1 x2 n (x3 + (1 : Int32)) (x4 + (1 : Int32))
def s_Mesh_neighbourOf (F : Nat) (pn : Int32) (lk : Nat → Int32) (a0 : Int32) (a1 : Int32) : Option (Int32) :=
  (s_Mesh_neighbourOf_L5 pn lk a0 a1 F (0 : Int32) (0 : Int32)).bind fun o4 =>
  Sum.elim (fun q_o =>
    some q_o) (fun o4x =>
    some (-1 : Int32)) o4
def s_Plan_xOf (pxs : Nat → Int32) (a0 : Int32) : Int32 :=
  (s_Row_get 16 pxs a0)
def s_Plan_yOf (pys : Nat → Int32) (a0 : Int32) : Int32 :=
  (s_Row_get 16 pys a0)
def s_Mesh_areaOf (pxs : Nat → Int32) (pys : Nat → Int32) (co : Nat → Int32) (a0 : Int32) : Int32 :=
  (s_Plan_twiceSignedArea pxs pys (s_Mesh_cornerOf co a0 (0 : Int32)) (s_Mesh_cornerOf co a0 (1 : Int32)) (s_Plan_xOf pxs (s_Mesh_cornerOf co a0 (2 : Int32))) (s_Plan_yOf pys (s_Mesh_cornerOf co a0 (2 : Int32))))
def s_Mesh_hullArea_L4 (pxs : Nat → Int32) (pys : Nat → Int32) (co : Nat → Int32) (nt : Int32) : Nat → Int32 → Int32 → Option (Int32 × Int32)
  | 0, _, _ => none
  | n + 1, x1, x2 =>
    if nt ≤ x2 then
      some (x1, x2)
    else
      s_Mesh_hullArea_L4 pxs pys co nt n (x1 + (s_Mesh_areaOf pxs pys co x2)) (x2 + (1 : Int32))
def s_Mesh_hullArea (F : Nat) (pxs : Nat → Int32) (pys : Nat → Int32) (co : Nat → Int32) (nt : Int32) : Option (Int32) :=
  (s_Mesh_hullArea_L4 pxs pys co nt F (0 : Int32) (0 : Int32)).bind fun o2x =>
  some o2x.1
def s_Mesh_lengthOf (pxs : Nat → Int32) (pys : Nat → Int32) (el : Nat → Int32) (eh : Nat → Int32) (a0 : Int32) : Int32 :=
  (s_Plan_squaredDistance pxs pys (s_Row_get 42 el a0) (s_Row_get 42 eh a0))
def s_Mesh_leastLength_L8 (pxs : Nat → Int32) (pys : Nat → Int32) (el : Nat → Int32) (eh : Nat → Int32) (ne : Int32) : Nat → Int32 → Int32 → Option (Int32 × Int32)
  | 0, _, _ => none
  | n + 1, x1, x2 =>
    if ne ≤ x2 then
      some (x1, x2)
    else
      s_Mesh_leastLength_L8 pxs pys el eh ne n (imin x1 (s_Mesh_lengthOf pxs pys el eh x2)) (x2 + (1 : Int32))
def s_Mesh_leastLength (F : Nat) (pxs : Nat → Int32) (pys : Nat → Int32) (el : Nat → Int32) (eh : Nat → Int32) (ne : Int32) : Option (Int32) :=
  (s_Mesh_leastLength_L8 pxs pys el eh ne F (s_Mesh_lengthOf pxs pys el eh (0 : Int32)) (1 : Int32)).bind fun o2x =>
  some o2x.1
def s_Mesh_greatestLength_L8 (pxs : Nat → Int32) (pys : Nat → Int32) (el : Nat → Int32) (eh : Nat → Int32) (ne : Int32) : Nat → Int32 → Int32 → Option (Int32 × Int32)
  | 0, _, _ => none
  | n + 1, x1, x2 =>
    if ne ≤ x2 then
      some (x1, x2)
    else
      s_Mesh_greatestLength_L8 pxs pys el eh ne n (imax x1 (s_Mesh_lengthOf pxs pys el eh x2)) (x2 + (1 : Int32))
def s_Mesh_greatestLength (F : Nat) (pxs : Nat → Int32) (pys : Nat → Int32) (el : Nat → Int32) (eh : Nat → Int32) (ne : Int32) : Option (Int32) :=
  (s_Mesh_greatestLength_L8 pxs pys el eh ne F (s_Mesh_lengthOf pxs pys el eh (0 : Int32)) (1 : Int32)).bind fun o2x =>
  some o2x.1
def s_Mesh_shortestLeaving_L4 (pxs : Nat → Int32) (pys : Nat → Int32) (el : Nat → Int32) (eh : Nat → Int32) (ne : Int32) (x1 : Int32) : Nat → Int32 → Int32 → Option (Int32 × Int32)
  | 0, _, _ => none
  | n + 1, x2, x3 =>
    if ne ≤ x3 then
      some (x2, x3)
    else
      if (((x1 >>> ((s_Row_get 42 el x3) &&& 31)) ^^^ (x1 >>> ((s_Row_get 42 eh x3) &&& 31))) &&& (1 : Int32)) = 0 then
        if (0 : Int32) = 0 then
          s_Mesh_shortestLeaving_L4 pxs pys el eh ne x1 n x2 (x3 + (1 : Int32))
        else
          if x2 = (-1 : Int32) then
            s_Mesh_shortestLeaving_L4 pxs pys el eh ne x1 n x3 (x3 + (1 : Int32))
          else
            if (s_Mesh_lengthOf pxs pys el eh x2) ≤ (s_Mesh_lengthOf pxs pys el eh x3) then
              s_Mesh_shortestLeaving_L4 pxs pys el eh ne x1 n x2 (x3 + (1 : Int32))
            else
              s_Mesh_shortestLeaving_L4 pxs pys el eh ne x1 n x3 (x3 + (1 : Int32))
      else
        if (1 : Int32) = 0 then
          s_Mesh_shortestLeaving_L4 pxs pys el eh ne x1 n x2 (x3 + (1 : Int32))
        else
          if x2 = (-1 : Int32) then
            s_Mesh_shortestLeaving_L4 pxs pys el eh ne x1 n x3 (x3 + (1 : Int32))
          else
            if (s_Mesh_lengthOf pxs pys el eh x2) ≤ (s_Mesh_lengthOf pxs pys el eh x3) then
              s_Mesh_shortestLeaving_L4 pxs pys el eh ne x1 n x2 (x3 + (1 : Int32))
            else
              s_Mesh_shortestLeaving_L4 pxs pys el eh ne x1 n x3 (x3 + (1 : Int32))
def s_Mesh_shortestLeaving (F : Nat) (pxs : Nat → Int32) (pys : Nat → Int32) (el : Nat → Int32) (eh : Nat → Int32) (ne : Int32) (a0 : Int32) : Option (Int32) :=
  (s_Mesh_shortestLeaving_L4 pxs pys el eh ne a0 F (-1 : Int32) (0 : Int32)).bind fun o9x =>
  some o9x.1
def s_Mesh_leastTree_L6 (F : Nat) (pxs : Nat → Int32) (pys : Nat → Int32) (pn : Int32) (el : Nat → Int32) (eh : Nat → Int32) (ne : Int32) : Nat → Int32 → Int32 → Int32 → Option (Int32 × Int32 × Int32)
  | 0, _, _, _ => none
  | n + 1, x1, x2, x3 =>
    if (s_Plan_points pn) ≤ x3 then
      some (x1, x2, x3)
    else
      ((s_Mesh_shortestLeaving F pxs pys el eh ne x2)).bind fun v2 =>
      if v2 = (-1 : Int32) then
        some (x1, x2, x3)
      else
        s_Mesh_leastTree_L6 F pxs pys pn el eh ne n (x1 + (s_Mesh_lengthOf pxs pys el eh v2)) (x2 ||| (((1 : Int32) <<< ((s_Row_get 42 el v2) &&& 31)) ||| ((1 : Int32) <<< ((s_Row_get 42 eh v2) &&& 31)))) (x3 + (1 : Int32))
def s_Mesh_leastTree (F : Nat) (pxs : Nat → Int32) (pys : Nat → Int32) (pn : Int32) (el : Nat → Int32) (eh : Nat → Int32) (ne : Int32) : Option (Int32) :=
  (s_Mesh_leastTree_L6 F pxs pys pn el eh ne F (0 : Int32) (1 : Int32) (1 : Int32)).bind fun o4x =>
  some o4x.1
def s_Mesh_edgeAt_L2 (pxs : Nat → Int32) (pys : Nat → Int32) (el : Nat → Int32) (eh : Nat → Int32) (ne : Int32) (x1 : Int32) (x2 : Int32) : Nat → Int32 → Option ((Int32) ⊕ (Int32))
  | 0, _ => none
  | n + 1, x3 =>
    if ne ≤ x3 then
      some (.inr x3)
    else
      if (bI (s_Plan_covers pxs pys (s_Row_get 42 el x3) (s_Row_get 42 eh x3) x1 x2)) = 0 then
        s_Mesh_edgeAt_L2 pxs pys el eh ne x1 x2 n (x3 + (1 : Int32))
      else
        some (.inl x3)
def s_Mesh_edgeAt (F : Nat) (pxs : Nat → Int32) (pys : Nat → Int32) (el : Nat → Int32) (eh : Nat → Int32) (ne : Int32) (a0 : Int32) (a1 : Int32) : Option (Int32) :=
  (s_Mesh_edgeAt_L2 pxs pys el eh ne a0 a1 F (0 : Int32)).bind fun o3 =>
  Sum.elim (fun q_o =>
    some q_o) (fun o3x =>
    some (-1 : Int32)) o3
def s_Mesh_exitTowards_L3 (pxs : Nat → Int32) (pys : Nat → Int32) (co : Nat → Int32) (x1 : Int32) (x2 : Int32) (x3 : Int32) : Nat → Int32 → Option ((Int32) ⊕ (Int32))
  | 0, _ => none
  | n + 1, x4 =>
    if (3 : Int32) ≤ x4 then
      some (.inr x4)
    else
      if 0 ≤ (s_Plan_twiceSignedArea pxs pys (s_Mesh_cornerOf co x1 x4) (s_Mesh_cornerAfter co x1 x4) x2 x3) then
        s_Mesh_exitTowards_L3 pxs pys co x1 x2 x3 n (x4 + (1 : Int32))
      else
        some (.inl x4)
def s_Mesh_exitTowards (F : Nat) (pxs : Nat → Int32) (pys : Nat → Int32) (co : Nat → Int32) (a0 : Int32) (a1 : Int32) (a2 : Int32) : Option (Int32) :=
  (s_Mesh_exitTowards_L3 pxs pys co a0 a1 a2 F (0 : Int32)).bind fun o3 =>
  Sum.elim (fun q_o =>
    some q_o) (fun o3x =>
    some (-1 : Int32)) o3
def s_Mesh_triangleAt_L2 (F : Nat) (pxs : Nat → Int32) (pys : Nat → Int32) (co : Nat → Int32) (nt : Int32) (x1 : Int32) (x2 : Int32) : Nat → Int32 → Option ((Int32) ⊕ (Int32))
  | 0, _ => none
  | n + 1, x3 =>
    if nt ≤ x3 then
      some (.inr x3)
    else
      ((s_Mesh_exitTowards F pxs pys co x3 x1 x2)).bind fun v2 =>
      if v2 = (-1 : Int32) then
        some (.inl x3)
      else
        s_Mesh_triangleAt_L2 F pxs pys co nt x1 x2 n (x3 + (1 : Int32))
def s_Mesh_triangleAt (F : Nat) (pxs : Nat → Int32) (pys : Nat → Int32) (co : Nat → Int32) (nt : Int32) (a0 : Int32) (a1 : Int32) : Option (Int32) :=
  (s_Mesh_triangleAt_L2 F pxs pys co nt a0 a1 F (0 : Int32)).bind fun o4 =>
  Sum.elim (fun q_o =>
    some q_o) (fun o4x =>
    some (-1 : Int32)) o4
def s_Mesh_reaches (pxs : Nat → Int32) (pys : Nat → Int32) (a0 : Int32) (a1 : Int32) (a2 : Int32) : Bool :=
  if a2 = a0 then
    true
  else
    if a2 = a1 then
      true
    else
      if (bI (s_Plan_covers pxs pys a0 a1 (s_Plan_xOf pxs a2) (s_Plan_yOf pys a2))) = 0 then
        false
      else
        true
def s_Mesh_edgeMeets (pxs : Nat → Int32) (pys : Nat → Int32) (lf : Nat → Int32) (el : Nat → Int32) (eh : Nat → Int32) (a0 : Int32) (a1 : Int32) (a2 : Int32) : Bool :=
  if (bI (s_Mesh_splits lf a1 a2 (s_Row_get 42 el a0) (s_Row_get 42 eh a0))) = 0 then
    if (bI (s_Mesh_reaches pxs pys a1 a2 (s_Row_get 42 el a0))) = 0 then
      false
    else
      if (bI (s_Mesh_reaches pxs pys a1 a2 (s_Row_get 42 eh a0))) = 0 then
        false
      else
        true
  else
    true
def s_Row_copyFrom_L2 (rn : Nat) (orf : Nat → Int32) : Nat → Int32 → (Nat → Int32) → Option (Int32 × (Nat → Int32))
  | 0, _, _ => none
  | n + 1, x2, rf =>
    if (Int32.ofNat rn) ≤ x2 then
      some (x2, rf)
    else
      (aset rn rf x2 (s_Row_get rn orf x2)).bind fun v2 =>
      s_Row_copyFrom_L2 rn orf n (x2 + (1 : Int32)) v2
def s_Row_copyFrom (F : Nat) (rn : Nat) (rf : Nat → Int32) (orf : Nat → Int32) : Option ((Nat → Int32)) :=
  (s_Row_copyFrom_L2 rn orf F (0 : Int32) rf).bind fun o3x =>
  some o3x.2
def s_Plan_copyFrom (F : Nat) (pxs : Nat → Int32) (pys : Nat → Int32) (plo : Nat → Int32) (phi : Nat → Int32) (opxs : Nat → Int32) (opys : Nat → Int32) (oplo : Nat → Int32) (ophi : Nat → Int32) (opn : Int32) (opm : Int32) : Option ((Nat → Int32) × (Nat → Int32) × (Nat → Int32) × (Nat → Int32) × Int32 × Int32) :=
  ((s_Row_copyFrom F 16 pxs opxs)).bind fun v1 =>
  ((s_Row_copyFrom F 16 pys opys)).bind fun v2 =>
  ((s_Row_copyFrom F 10 plo oplo)).bind fun v3 =>
  ((s_Row_copyFrom F 10 phi ophi)).bind fun v4 =>
  some (v1, v2, v3, v4, opn, opm)
def s_Plan_hasPoint (pn : Int32) (a0 : Int32) : Bool :=
  if a0 < 0 then
    false
  else
    if pn ≤ a0 then
      false
    else
      true
def s_Plan_pointAt_L2 (pxs : Nat → Int32) (pys : Nat → Int32) (pn : Int32) (x1 : Int32) (x2 : Int32) : Nat → Int32 → Option ((Int32) ⊕ (Int32))
  | 0, _ => none
  | n + 1, x3 =>
    if pn ≤ x3 then
      some (.inr x3)
    else
      if (s_Row_get 16 pxs x3) = x1 then
        if (s_Row_get 16 pys x3) = x2 then
          some (.inl x3)
        else
          s_Plan_pointAt_L2 pxs pys pn x1 x2 n (x3 + (1 : Int32))
      else
        s_Plan_pointAt_L2 pxs pys pn x1 x2 n (x3 + (1 : Int32))
def s_Plan_pointAt (F : Nat) (pxs : Nat → Int32) (pys : Nat → Int32) (pn : Int32) (a0 : Int32) (a1 : Int32) : Option (Int32) :=
  (s_Plan_pointAt_L2 pxs pys pn a0 a1 F (0 : Int32)).bind fun o4 =>
  Sum.elim (fun q_o =>
    some q_o) (fun o4x =>
    some (-1 : Int32)) o4
def s_Plan_endsConstraint_L2 (plo : Nat → Int32) (phi : Nat → Int32) (pm : Int32) (x1 : Int32) : Nat → Int32 → Option ((Bool) ⊕ (Int32))
  | 0, _ => none
  | n + 1, x2 =>
    if pm ≤ x2 then
      some (.inr x2)
    else
      if (s_Row_get 10 plo x2) = x1 then
        some (.inl true)
      else
        if (s_Row_get 10 phi x2) = x1 then
          some (.inl true)
        else
          s_Plan_endsConstraint_L2 plo phi pm x1 n (x2 + (1 : Int32))
def s_Plan_endsConstraint (F : Nat) (plo : Nat → Int32) (phi : Nat → Int32) (pm : Int32) (a0 : Int32) : Option (Bool) :=
  (s_Plan_endsConstraint_L2 plo phi pm a0 F (0 : Int32)).bind fun o4 =>
  Sum.elim (fun q_o =>
    some q_o) (fun o4x =>
    some false) o4
def s_Plan_constraintCovers_L2 (pxs : Nat → Int32) (pys : Nat → Int32) (plo : Nat → Int32) (phi : Nat → Int32) (pm : Int32) (x1 : Int32) (x2 : Int32) : Nat → Int32 → Option ((Bool) ⊕ (Int32))
  | 0, _ => none
  | n + 1, x3 =>
    if pm ≤ x3 then
      some (.inr x3)
    else
      if (bI (s_Plan_covers pxs pys (s_Row_get 10 plo x3) (s_Row_get 10 phi x3) x1 x2)) = 0 then
        s_Plan_constraintCovers_L2 pxs pys plo phi pm x1 x2 n (x3 + (1 : Int32))
      else
        some (.inl true)
def s_Plan_constraintCovers (F : Nat) (pxs : Nat → Int32) (pys : Nat → Int32) (plo : Nat → Int32) (phi : Nat → Int32) (pm : Int32) (a0 : Int32) (a1 : Int32) : Option (Bool) :=
  (s_Plan_constraintCovers_L2 pxs pys plo phi pm a0 a1 F (0 : Int32)).bind fun o3 =>
  Sum.elim (fun q_o =>
    some q_o) (fun o3x =>
    some false) o3
def s_Plan_admitsPoint (F : Nat) (pxs : Nat → Int32) (pys : Nat → Int32) (plo : Nat → Int32) (phi : Nat → Int32) (pn : Int32) (pm : Int32) (a0 : Int32) (a1 : Int32) : Option (Bool) :=
  ((s_Plan_pointAt F pxs pys pn a0 a1)).bind fun v1 =>
  if v1 = (-1 : Int32) then
    ((s_Plan_constraintCovers F pxs pys plo phi pm a0 a1)).bind fun v3 =>
    if (bI v3) = 0 then
      some true
    else
      some false
  else
    some false
def s_Plan_crosses (pxs : Nat → Int32) (pys : Nat → Int32) (a0 : Int32) (a1 : Int32) (a2 : Int32) (a3 : Int32) : Bool :=
  if 0 ≤ ((s_Plan_side pxs pys a0 a1 a2) * (s_Plan_side pxs pys a0 a1 a3)) then
    false
  else
    if 0 ≤ ((s_Plan_side pxs pys a2 a3 a0) * (s_Plan_side pxs pys a2 a3 a1)) then
      false
    else
      true
def s_Plan_admitsSegment_L22 (pxs : Nat → Int32) (pys : Nat → Int32) (plo : Nat → Int32) (phi : Nat → Int32) (pm : Int32) (x1 : Int32) (x2 : Int32) : Nat → Int32 → Option ((Bool) ⊕ (Int32))
  | 0, _ => none
  | n + 1, x3 =>
    if pm ≤ x3 then
      some (.inr x3)
    else
      if (bI (s_Plan_crosses pxs pys x1 x2 (s_Row_get 10 plo x3) (s_Row_get 10 phi x3))) = 0 then
        s_Plan_admitsSegment_L22 pxs pys plo phi pm x1 x2 n (x3 + (1 : Int32))
      else
        some (.inl false)
def s_Plan_admitsSegment (F : Nat) (pxs : Nat → Int32) (pys : Nat → Int32) (plo : Nat → Int32) (phi : Nat → Int32) (pn : Int32) (pm : Int32) (a0 : Int32) (a1 : Int32) : Option (Bool) :=
  ((s_Plan_isConstraint F plo phi pm a0 a1)).bind fun v1 =>
  if (bI v1) = 0 then
    ((s_Plan_coversPoint F pxs pys pn a0 a1)).bind fun v3 =>
    if (bI v3) = 0 then
      (s_Plan_admitsSegment_L22 pxs pys plo phi pm a0 a1 F (0 : Int32)).bind fun o7 =>
      Sum.elim (fun q_o =>
        some q_o) (fun o7x =>
        some true) o7
    else
      some false
  else
    some false
def s_Plan_placePoint (pxs : Nat → Int32) (pys : Nat → Int32) (a0 : Int32) (a1 : Int32) (a2 : Int32) : (Nat → Int32) × (Nat → Int32) :=
  ((s_Row_set 16 pxs a0 a1), (s_Row_set 16 pys a0 a2))
def s_Plan_appendPoint (pxs : Nat → Int32) (pys : Nat → Int32) (pn : Int32) (a0 : Int32) (a1 : Int32) : (Nat → Int32) × (Nat → Int32) × Int32 :=
  ((s_Plan_placePoint pxs pys pn a0 a1).1, (s_Plan_placePoint pxs pys pn a0 a1).2, (pn + (1 : Int32)))
def s_Row_closeGap_L6 (rn : Nat) : Nat → Int32 → (Nat → Int32) → Option (Int32 × (Nat → Int32))
  | 0, _, _ => none
  | n + 1, x2, rf =>
    if ((Int32.ofNat rn) - (1 : Int32)) ≤ x2 then
      some (x2, rf)
    else
      (aget rn rf (x2 + (1 : Int32))).bind fun v2 =>
      (aset rn rf x2 v2).bind fun v3 =>
      s_Row_closeGap_L6 rn n (x2 + (1 : Int32)) v3
def s_Row_closeGap (F : Nat) (rn : Nat) (rf : Nat → Int32) (a0 : Int32) : Option ((Nat → Int32)) :=
  (s_Row_closeGap_L6 rn F (imax (0 : Int32) a0) rf).bind fun o4x =>
  some o4x.2
def s_Plan_numberAfter (a0 : Int32) (a1 : Int32) : Int32 :=
  if a0 ≤ a1 then
    a0
  else
    (a0 - (1 : Int32))
def s_Plan_dropPoint_L28 (pm : Int32) (x1 : Int32) : Nat → Int32 → (Nat → Int32) → (Nat → Int32) → Option (Int32 × (Nat → Int32) × (Nat → Int32))
  | 0, _, _, _ => none
  | n + 1, x2, plo, phi =>
    if pm ≤ x2 then
      some (x2, plo, phi)
    else
      s_Plan_dropPoint_L28 pm x1 n (x2 + (1 : Int32)) (s_Row_set 10 plo x2 (s_Plan_numberAfter (s_Row_get 10 plo x2) x1)) (s_Row_set 10 phi x2 (s_Plan_numberAfter (s_Row_get 10 phi x2) x1))
def s_Plan_dropPoint (F : Nat) (pxs : Nat → Int32) (pys : Nat → Int32) (plo : Nat → Int32) (phi : Nat → Int32) (pn : Int32) (pm : Int32) (a0 : Int32) : Option ((Nat → Int32) × (Nat → Int32) × (Nat → Int32) × (Nat → Int32) × Int32) :=
  ((s_Row_closeGap F 16 pxs a0)).bind fun v1 =>
  ((s_Row_closeGap F 16 pys a0)).bind fun v2 =>
  (s_Plan_dropPoint_L28 pm a0 F (0 : Int32) plo phi).bind fun o4x =>
  some (v1, v2, o4x.2.1, o4x.2.2, (pn - (1 : Int32)))
def s_Plan_appendConstraint (plo : Nat → Int32) (phi : Nat → Int32) (pm : Int32) (a0 : Int32) (a1 : Int32) : (Nat → Int32) × (Nat → Int32) × Int32 :=
  ((s_Row_set 10 plo pm (imin a0 a1)), (s_Row_set 10 phi pm (imax a0 a1)), (pm + (1 : Int32)))
def s_Plan_dropConstraint (F : Nat) (plo : Nat → Int32) (phi : Nat → Int32) (pm : Int32) (a0 : Int32) : Option ((Nat → Int32) × (Nat → Int32) × Int32) :=
  ((s_Row_closeGap F 10 plo a0)).bind fun v1 =>
  ((s_Row_closeGap F 10 phi a0)).bind fun v2 =>
  some (v1, v2, (pm - (1 : Int32)))
def s_Mod_thrown (mthr : Int32) : Int32 :=
  mthr
def s_Mod_in (a0 : Int32) (a1 : Int32) (a2 : Int32) : Bool :=
  if a0 < a1 then
    false
  else
    if a2 < a0 then
      false
    else
      true
def s_Mod_raises (a0 : Int32) : Int32 × Int32 :=
  ((0 : Int32), a0)
def s_Mod_n (mnow : Nat → Int32) : Option (Int32) :=
  (aget 56 mnow (0 : Int32)).bind fun v1 =>
  some v1
def s_Mod_m (mnow : Nat → Int32) : Option (Int32) :=
  (aget 56 mnow (1 : Int32)).bind fun v1 =>
  some v1
def s_Mod_x (mnow : Nat → Int32) (a0 : Int32) : Option (Int32) :=
  (aget 56 mnow ((2 : Int32) + a0)).bind fun v1 =>
  some v1
def s_Mod_y (mnow : Nat → Int32) (a0 : Int32) : Option (Int32) :=
  (aget 56 mnow ((19 : Int32) + a0)).bind fun v1 =>
  some v1
def s_Mod_end (mnow : Nat → Int32) (a0 : Int32) (a1 : Int32) : Option (Int32) :=
  (aget 56 mnow (((36 : Int32) + ((2 : Int32) * a0)) + a1)).bind fun v1 =>
  some v1
def s_Mod_isPoint (mnow : Nat → Int32) (a0 : Int32) : Option (Bool) :=
  ((s_Mod_n mnow)).bind fun v1 =>
  some (s_Mod_in a0 (0 : Int32) (v1 - (1 : Int32)))
def s_Mod_isConstraint (mnow : Nat → Int32) (a0 : Int32) : Option (Bool) :=
  ((s_Mod_m mnow)).bind fun v1 =>
  some (s_Mod_in a0 (0 : Int32) (v1 - (1 : Int32)))
def s_Mod_isPlace (a0 : Int32) (a1 : Int32) : Bool :=
  if (bI (s_Mod_in a0 (0 : Int32) (100 : Int32))) = 0 then
    false
  else
    if (bI (s_Mod_in a1 (0 : Int32) (100 : Int32))) = 0 then
      false
    else
      true
def s_J6_signum_0f7a4 (a0 : Int32) : Int32 :=
  ((a0 >>> ((31 : Int32) &&& 31)) ||| (iushr (-a0) (31 : Int32)))
def s_Mod_turnOf (a0 : Int32) (a1 : Int32) (a2 : Int32) (a3 : Int32) (a4 : Int32) (a5 : Int32) : Int32 :=
  (s_J6_signum_0f7a4 (((a2 - a0) * (a5 - a1)) - ((a3 - a1) * (a4 - a0))))
def s_Mod_turns (mnow : Nat → Int32) (a0 : Int32) (a1 : Int32) (a2 : Int32) : Option (Int32) :=
  ((s_Mod_x mnow a0)).bind fun v1 =>
  ((s_Mod_y mnow a0)).bind fun v2 =>
  ((s_Mod_x mnow a1)).bind fun v3 =>
  ((s_Mod_y mnow a1)).bind fun v4 =>
  ((s_Mod_x mnow a2)).bind fun v5 =>
  ((s_Mod_y mnow a2)).bind fun v6 =>
  some (s_Mod_turnOf v1 v2 v3 v4 v5 v6)
def s_Mod_isOn (mnow : Nat → Int32) (a0 : Int32) (a1 : Int32) (a2 : Int32) (a3 : Int32) : Option (Bool) :=
  ((s_Mod_x mnow a0)).bind fun v1 =>
  ((s_Mod_y mnow a0)).bind fun v2 =>
  ((s_Mod_x mnow a1)).bind fun v3 =>
  ((s_Mod_y mnow a1)).bind fun v4 =>
  if (s_Mod_turnOf v1 v2 v3 v4 a2 a3) = 0 then
    ((s_Mod_x mnow a0)).bind fun v6 =>
    ((s_Mod_x mnow a1)).bind fun v7 =>
    ((s_Mod_y mnow a0)).bind fun v8 =>
    ((s_Mod_y mnow a1)).bind fun v9 =>
    if 0 ≤ (((a2 - v6) * (a2 - v7)) + ((a3 - v8) * (a3 - v9))) then
      some false
    else
      some true
  else
    some false
def s_Mod_hasPointOn_L2 (mnow : Nat → Int32) (x1 : Int32) (x2 : Int32) : Nat → Int32 → Option ((Bool) ⊕ (Int32))
  | 0, _ => none
  | n + 1, x3 =>
    ((s_Mod_n mnow)).bind fun v1 =>
    if v1 ≤ x3 then
      some (.inr x3)
    else
      ((s_Mod_x mnow x3)).bind fun v3 =>
      ((s_Mod_y mnow x3)).bind fun v4 =>
      ((s_Mod_isOn mnow x1 x2 v3 v4)).bind fun v5 =>
      if (bI v5) = 0 then
        s_Mod_hasPointOn_L2 mnow x1 x2 n (x3 + (1 : Int32))
      else
        some (.inl true)
def s_Mod_hasPointOn (F : Nat) (mnow : Nat → Int32) (a0 : Int32) (a1 : Int32) : Option (Bool) :=
  (s_Mod_hasPointOn_L2 mnow a0 a1 F (0 : Int32)).bind fun o7 =>
  Sum.elim (fun q_o =>
    some q_o) (fun o7x =>
    some false) o7
def s_Mod_cross (mnow : Nat → Int32) (a0 : Int32) (a1 : Int32) (a2 : Int32) (a3 : Int32) : Option (Bool) :=
  ((s_Mod_turns mnow a0 a1 a2)).bind fun v1 =>
  ((s_Mod_turns mnow a0 a1 a3)).bind fun v2 =>
  if 0 ≤ (v1 * v2) then
    ((s_Mod_turns mnow a0 a1 a2)).bind fun v4 =>
    if v4 = 0 then
      ((s_Mod_turns mnow a0 a1 a3)).bind fun v6 =>
      if v6 = 0 then
        if (imin a0 a1) = (imin a2 a3) then
          if (imax a0 a1) = (imax a2 a3) then
            if (1 : Int32) = 0 then
              ((s_Mod_x mnow a2)).bind fun v45 =>
              ((s_Mod_y mnow a2)).bind fun v46 =>
              ((s_Mod_isOn mnow a0 a1 v45 v46)).bind fun v47 =>
              if (bI v47) = 0 then
                ((s_Mod_x mnow a3)).bind fun v49 =>
                ((s_Mod_y mnow a3)).bind fun v50 =>
                ((s_Mod_isOn mnow a0 a1 v49 v50)).bind fun v51 =>
                if (bI v51) = 0 then
                  ((s_Mod_x mnow a0)).bind fun v53 =>
                  ((s_Mod_y mnow a0)).bind fun v54 =>
                  ((s_Mod_isOn mnow a2 a3 v53 v54)).bind fun v55 =>
                  if (bI v55) = 0 then
                    ((s_Mod_x mnow a1)).bind fun v57 =>
                    ((s_Mod_y mnow a1)).bind fun v58 =>
                    ((s_Mod_isOn mnow a2 a3 v57 v58)).bind fun v59 =>
                    if (bI v59) = 0 then
                      some false
                    else
                      some true
                  else
                    some true
                else
                  some true
              else
                some true
            else
              some true
          else
            if (0 : Int32) = 0 then
              ((s_Mod_x mnow a2)).bind fun v28 =>
              ((s_Mod_y mnow a2)).bind fun v29 =>
              ((s_Mod_isOn mnow a0 a1 v28 v29)).bind fun v30 =>
              if (bI v30) = 0 then
                ((s_Mod_x mnow a3)).bind fun v32 =>
                ((s_Mod_y mnow a3)).bind fun v33 =>
                ((s_Mod_isOn mnow a0 a1 v32 v33)).bind fun v34 =>
                if (bI v34) = 0 then
                  ((s_Mod_x mnow a0)).bind fun v36 =>
                  ((s_Mod_y mnow a0)).bind fun v37 =>
                  ((s_Mod_isOn mnow a2 a3 v36 v37)).bind fun v38 =>
                  if (bI v38) = 0 then
                    ((s_Mod_x mnow a1)).bind fun v40 =>
                    ((s_Mod_y mnow a1)).bind fun v41 =>
                    ((s_Mod_isOn mnow a2 a3 v40 v41)).bind fun v42 =>
                    if (bI v42) = 0 then
                      some false
                    else
                      some true
                  else
                    some true
                else
                  some true
              else
                some true
            else
              some true
        else
          if (0 : Int32) = 0 then
            ((s_Mod_x mnow a2)).bind fun v10 =>
            ((s_Mod_y mnow a2)).bind fun v11 =>
            ((s_Mod_isOn mnow a0 a1 v10 v11)).bind fun v12 =>
            if (bI v12) = 0 then
              ((s_Mod_x mnow a3)).bind fun v14 =>
              ((s_Mod_y mnow a3)).bind fun v15 =>
              ((s_Mod_isOn mnow a0 a1 v14 v15)).bind fun v16 =>
              if (bI v16) = 0 then
                ((s_Mod_x mnow a0)).bind fun v18 =>
                ((s_Mod_y mnow a0)).bind fun v19 =>
                ((s_Mod_isOn mnow a2 a3 v18 v19)).bind fun v20 =>
                if (bI v20) = 0 then
                  ((s_Mod_x mnow a1)).bind fun v22 =>
                  ((s_Mod_y mnow a1)).bind fun v23 =>
                  ((s_Mod_isOn mnow a2 a3 v22 v23)).bind fun v24 =>
                  if (bI v24) = 0 then
                    some false
                  else
                    some true
                else
                  some true
              else
                some true
            else
              some true
          else
            some true
      else
        some false
    else
      some false
  else
    ((s_Mod_turns mnow a2 a3 a0)).bind fun v61 =>
    ((s_Mod_turns mnow a2 a3 a1)).bind fun v62 =>
    if 0 ≤ (v61 * v62) then
      ((s_Mod_turns mnow a0 a1 a2)).bind fun v64 =>
      if v64 = 0 then
        ((s_Mod_turns mnow a0 a1 a3)).bind fun v66 =>
        if v66 = 0 then
          if (imin a0 a1) = (imin a2 a3) then
            if (imax a0 a1) = (imax a2 a3) then
              if (1 : Int32) = 0 then
                ((s_Mod_x mnow a2)).bind fun v105 =>
                ((s_Mod_y mnow a2)).bind fun v106 =>
                ((s_Mod_isOn mnow a0 a1 v105 v106)).bind fun v107 =>
                if (bI v107) = 0 then
                  ((s_Mod_x mnow a3)).bind fun v109 =>
                  ((s_Mod_y mnow a3)).bind fun v110 =>
                  ((s_Mod_isOn mnow a0 a1 v109 v110)).bind fun v111 =>
                  if (bI v111) = 0 then
                    ((s_Mod_x mnow a0)).bind fun v113 =>
                    ((s_Mod_y mnow a0)).bind fun v114 =>
                    ((s_Mod_isOn mnow a2 a3 v113 v114)).bind fun v115 =>
                    if (bI v115) = 0 then
                      ((s_Mod_x mnow a1)).bind fun v117 =>
                      ((s_Mod_y mnow a1)).bind fun v118 =>
                      ((s_Mod_isOn mnow a2 a3 v117 v118)).bind fun v119 =>
                      if (bI v119) = 0 then
                        some false
                      else
                        some true
                    else
                      some true
                  else
                    some true
                else
                  some true
              else
                some true
            else
              if (0 : Int32) = 0 then
                ((s_Mod_x mnow a2)).bind fun v88 =>
                ((s_Mod_y mnow a2)).bind fun v89 =>
                ((s_Mod_isOn mnow a0 a1 v88 v89)).bind fun v90 =>
                if (bI v90) = 0 then
                  ((s_Mod_x mnow a3)).bind fun v92 =>
                  ((s_Mod_y mnow a3)).bind fun v93 =>
                  ((s_Mod_isOn mnow a0 a1 v92 v93)).bind fun v94 =>
                  if (bI v94) = 0 then
                    ((s_Mod_x mnow a0)).bind fun v96 =>
                    ((s_Mod_y mnow a0)).bind fun v97 =>
                    ((s_Mod_isOn mnow a2 a3 v96 v97)).bind fun v98 =>
                    if (bI v98) = 0 then
                      ((s_Mod_x mnow a1)).bind fun v100 =>
                      ((s_Mod_y mnow a1)).bind fun v101 =>
                      ((s_Mod_isOn mnow a2 a3 v100 v101)).bind fun v102 =>
                      if (bI v102) = 0 then
                        some false
                      else
                        some true
                    else
                      some true
                  else
                    some true
                else
                  some true
              else
                some true
          else
            if (0 : Int32) = 0 then
              ((s_Mod_x mnow a2)).bind fun v70 =>
              ((s_Mod_y mnow a2)).bind fun v71 =>
              ((s_Mod_isOn mnow a0 a1 v70 v71)).bind fun v72 =>
              if (bI v72) = 0 then
                ((s_Mod_x mnow a3)).bind fun v74 =>
                ((s_Mod_y mnow a3)).bind fun v75 =>
                ((s_Mod_isOn mnow a0 a1 v74 v75)).bind fun v76 =>
                if (bI v76) = 0 then
                  ((s_Mod_x mnow a0)).bind fun v78 =>
                  ((s_Mod_y mnow a0)).bind fun v79 =>
                  ((s_Mod_isOn mnow a2 a3 v78 v79)).bind fun v80 =>
                  if (bI v80) = 0 then
                    ((s_Mod_x mnow a1)).bind fun v82 =>
                    ((s_Mod_y mnow a1)).bind fun v83 =>
                    ((s_Mod_isOn mnow a2 a3 v82 v83)).bind fun v84 =>
                    if (bI v84) = 0 then
                      some false
                    else
                      some true
                  else
                    some true
                else
                  some true
              else
                some true
            else
              some true
        else
          some false
      else
        some false
    else
      some true
def s_J13_signum_95d88 (a0 : Int64) : Int32 :=
  (((lshr a0 (63 : Int32)) ||| (lushr (-a0) (63 : Int32)))).toInt32
def s_Mod_circle (mnow : Nat → Int32) (a0 : Int32) (a1 : Int32) (a2 : Int32) (a3 : Int32) : Option (Int32) :=
  ((s_Mod_x mnow a0)).bind fun v1 =>
  ((s_Mod_x mnow a3)).bind fun v2 =>
  ((s_Mod_y mnow a0)).bind fun v3 =>
  ((s_Mod_y mnow a3)).bind fun v4 =>
  ((s_Mod_x mnow a1)).bind fun v5 =>
  ((s_Mod_x mnow a3)).bind fun v6 =>
  ((s_Mod_y mnow a1)).bind fun v7 =>
  ((s_Mod_y mnow a3)).bind fun v8 =>
  ((s_Mod_x mnow a2)).bind fun v9 =>
  ((s_Mod_x mnow a3)).bind fun v10 =>
  ((s_Mod_y mnow a2)).bind fun v11 =>
  ((s_Mod_y mnow a3)).bind fun v12 =>
  ((s_Mod_turns mnow a0 a1 a2)).bind fun v13 =>
  some ((s_J13_signum_95d88 ((((((((v1 - v2)).toInt64) * (((v1 - v2)).toInt64)) + ((((v3 - v4)).toInt64) * (((v3 - v4)).toInt64))) * (((((v5 - v6)).toInt64) * (((v11 - v12)).toInt64)) - ((((v9 - v10)).toInt64) * (((v7 - v8)).toInt64)))) - ((((((v5 - v6)).toInt64) * (((v5 - v6)).toInt64)) + ((((v7 - v8)).toInt64) * (((v7 - v8)).toInt64))) * (((((v1 - v2)).toInt64) * (((v11 - v12)).toInt64)) - ((((v9 - v10)).toInt64) * (((v3 - v4)).toInt64))))) + ((((((v9 - v10)).toInt64) * (((v9 - v10)).toInt64)) + ((((v11 - v12)).toInt64) * (((v11 - v12)).toInt64))) * (((((v1 - v2)).toInt64) * (((v7 - v8)).toInt64)) - ((((v5 - v6)).toInt64) * (((v3 - v4)).toInt64)))))) * v13)
def s_Mod_good (mnow : Nat → Int32) (a0 : Int32) (a1 : Int32) (a2 : Int32) (a3 : Int32) : Option (Bool) :=
  ((s_Mod_circle mnow a0 a1 a2 a3)).bind fun v1 =>
  if v1 < 0 then
    some true
  else
    if v1 = 0 then
      if (imax a2 a3) ≤ (imax a0 a1) then
        some false
      else
        some true
    else
      some false
def s_Mod_has (medg : Nat → Int32) (a0 : Int32) (a1 : Int32) : Option (Bool) :=
  (aget 289 medg (((17 : Int32) * a0) + a1)).bind fun v1 =>
  if v1 = 0 then
    some false
  else if v1 = 1 then
    some true
  else none
def s_Mod_puts (medg : Nat → Int32) (a0 : Int32) (a1 : Int32) (a2 : Bool) : Option ((Nat → Int32)) :=
  (aset 289 medg (((17 : Int32) * a0) + a1) (vp_nar .boolean (bI a2))).bind fun v1 =>
  (aset 289 v1 (((17 : Int32) * a1) + a0) (vp_nar .boolean (bI a2))).bind fun v2 =>
  some v2
def s_Mod_isTied_L2 (mnow : Nat → Int32) (x1 : Int32) (x2 : Int32) : Nat → Int32 → Option ((Bool) ⊕ (Int32))
  | 0, _ => none
  | n + 1, x3 =>
    ((s_Mod_m mnow)).bind fun v1 =>
    if v1 ≤ x3 then
      some (.inr x3)
    else
      ((s_Mod_end mnow x3 (0 : Int32))).bind fun v3 =>
      if v3 = (imin x1 x2) then
        ((s_Mod_end mnow x3 (1 : Int32))).bind fun v5 =>
        if v5 = (imax x1 x2) then
          some (.inl true)
        else
          s_Mod_isTied_L2 mnow x1 x2 n (x3 + (1 : Int32))
      else
        s_Mod_isTied_L2 mnow x1 x2 n (x3 + (1 : Int32))
def s_Mod_isTied (F : Nat) (mnow : Nat → Int32) (a0 : Int32) (a1 : Int32) : Option (Bool) :=
  (s_Mod_isTied_L2 mnow a0 a1 F (0 : Int32)).bind fun o7 =>
  Sum.elim (fun q_o =>
    some q_o) (fun o7x =>
    some false) o7
def s_Mod_isEmpty_L3 (mnow : Nat → Int32) (x1 : Int32) (x2 : Int32) (x3 : Int32) : Nat → Int32 → Option ((Bool) ⊕ (Int32))
  | 0, _ => none
  | n + 1, x4 =>
    ((s_Mod_n mnow)).bind fun v1 =>
    if v1 ≤ x4 then
      some (.inr x4)
    else
      if x4 = x1 then
        s_Mod_isEmpty_L3 mnow x1 x2 x3 n (x4 + (1 : Int32))
      else
        if x4 = x2 then
          s_Mod_isEmpty_L3 mnow x1 x2 x3 n (x4 + (1 : Int32))
        else
          if x4 = x3 then
            s_Mod_isEmpty_L3 mnow x1 x2 x3 n (x4 + (1 : Int32))
          else
            ((s_Mod_turns mnow x1 x2 x4)).bind fun v6 =>
            if v6 < 0 then
              s_Mod_isEmpty_L3 mnow x1 x2 x3 n (x4 + (1 : Int32))
            else
              ((s_Mod_turns mnow x2 x3 x4)).bind fun v8 =>
              if v8 < 0 then
                s_Mod_isEmpty_L3 mnow x1 x2 x3 n (x4 + (1 : Int32))
              else
                ((s_Mod_turns mnow x3 x1 x4)).bind fun v10 =>
                if v10 < 0 then
                  s_Mod_isEmpty_L3 mnow x1 x2 x3 n (x4 + (1 : Int32))
                else
                  some (.inl false)
def s_Mod_isEmpty (F : Nat) (mnow : Nat → Int32) (a0 : Int32) (a1 : Int32) (a2 : Int32) : Option (Bool) :=
  (s_Mod_isEmpty_L3 mnow a0 a1 a2 F (0 : Int32)).bind fun o12 =>
  Sum.elim (fun q_o =>
    some q_o) (fun o12x =>
    some true) o12
def s_Mod_apex_L2 (F : Nat) (mnow : Nat → Int32) (medg : Nat → Int32) (x1 : Int32) (x2 : Int32) : Nat → Int32 → Option ((Int32) ⊕ (Int32))
  | 0, _ => none
  | n + 1, x3 =>
    ((s_Mod_n mnow)).bind fun v1 =>
    if v1 ≤ x3 then
      some (.inr x3)
    else
      if x3 = x1 then
        s_Mod_apex_L2 F mnow medg x1 x2 n (x3 + (1 : Int32))
      else
        if x3 = x2 then
          s_Mod_apex_L2 F mnow medg x1 x2 n (x3 + (1 : Int32))
        else
          ((s_Mod_has medg x1 x3)).bind fun v5 =>
          if (bI v5) = 0 then
            s_Mod_apex_L2 F mnow medg x1 x2 n (x3 + (1 : Int32))
          else
            ((s_Mod_has medg x2 x3)).bind fun v7 =>
            if (bI v7) = 0 then
              s_Mod_apex_L2 F mnow medg x1 x2 n (x3 + (1 : Int32))
            else
              ((s_Mod_turns mnow x1 x2 x3)).bind fun v9 =>
              if v9 ≤ 0 then
                s_Mod_apex_L2 F mnow medg x1 x2 n (x3 + (1 : Int32))
              else
                ((s_Mod_isEmpty F mnow x1 x2 x3)).bind fun v11 =>
                if (bI v11) = 0 then
                  s_Mod_apex_L2 F mnow medg x1 x2 n (x3 + (1 : Int32))
                else
                  some (.inl x3)
def s_Mod_apex (F : Nat) (mnow : Nat → Int32) (medg : Nat → Int32) (a0 : Int32) (a1 : Int32) : Option (Int32) :=
  (s_Mod_apex_L2 F mnow medg a0 a1 F (0 : Int32)).bind fun o13 =>
  Sum.elim (fun q_o =>
    some q_o) (fun o13x =>
    some (-1 : Int32)) o13
def s_Mod_crossesAny_L15 (mnow : Nat → Int32) (medg : Nat → Int32) (x1 : Int32) (x2 : Int32) (x3 : Int32) : Nat → Int32 → Option ((Bool) ⊕ (Int32))
  | 0, _ => none
  | n + 1, x4 =>
    ((s_Mod_n mnow)).bind fun v3 =>
    if v3 ≤ x4 then
      some (.inr x4)
    else
      ((s_Mod_has medg x3 x4)).bind fun v5 =>
      if (bI v5) = 0 then
        s_Mod_crossesAny_L15 mnow medg x1 x2 x3 n (x4 + (1 : Int32))
      else
        ((s_Mod_cross mnow x1 x2 x3 x4)).bind fun v7 =>
        if (bI v7) = 0 then
          s_Mod_crossesAny_L15 mnow medg x1 x2 x3 n (x4 + (1 : Int32))
        else
          some (.inl true)
def s_Mod_crossesAny_L2 (F : Nat) (mnow : Nat → Int32) (medg : Nat → Int32) (x1 : Int32) (x2 : Int32) : Nat → Int32 → Option ((Bool) ⊕ (Int32))
  | 0, _ => none
  | n + 1, x3 =>
    ((s_Mod_n mnow)).bind fun v1 =>
    if v1 ≤ x3 then
      some (.inr x3)
    else
      (s_Mod_crossesAny_L15 mnow medg x1 x2 x3 F (x3 + (1 : Int32))).bind fun o9 =>
      Sum.elim (fun q_o =>
        some (.inl q_o)) (fun o9x =>
        s_Mod_crossesAny_L2 F mnow medg x1 x2 n (x3 + (1 : Int32))) o9
def s_Mod_crossesAny (F : Nat) (mnow : Nat → Int32) (medg : Nat → Int32) (a0 : Int32) (a1 : Int32) : Option (Bool) :=
  (s_Mod_crossesAny_L2 F mnow medg a0 a1 F (0 : Int32)).bind fun o10 =>
  Sum.elim (fun q_o =>
    some q_o) (fun o10x =>
    some false) o10
def s_Mod_isLine_L2 (mnow : Nat → Int32) : Nat → Int32 → Option ((Bool) ⊕ (Int32))
  | 0, _ => none
  | n + 1, x1 =>
    ((s_Mod_n mnow)).bind fun v1 =>
    if v1 ≤ x1 then
      some (.inr x1)
    else
      ((s_Mod_turns mnow (0 : Int32) (1 : Int32) x1)).bind fun v3 =>
      if v3 = 0 then
        s_Mod_isLine_L2 mnow n (x1 + (1 : Int32))
      else
        some (.inl false)
def s_Mod_isLine (F : Nat) (mnow : Nat → Int32) : Option (Bool) :=
  (s_Mod_isLine_L2 mnow F (2 : Int32)).bind fun o5 =>
  Sum.elim (fun q_o =>
    some q_o) (fun o5x =>
    some true) o5
def s_Mod_flips (F : Nat) (mnow : Nat → Int32) (medg : Nat → Int32) (a0 : Int32) (a1 : Int32) : Option (Bool × (Nat → Int32)) :=
  ((s_Mod_has medg a0 a1)).bind fun v1 =>
  if (bI v1) = 0 then
    some (false, medg)
  else
    ((s_Mod_isTied F mnow a0 a1)).bind fun v3 =>
    if (bI v3) = 0 then
      ((s_Mod_apex F mnow medg a0 a1)).bind fun v5 =>
      ((s_Mod_apex F mnow medg a1 a0)).bind fun v6 =>
      if v5 < 0 then
        some (false, medg)
      else
        if v6 < 0 then
          some (false, medg)
        else
          ((s_Mod_good mnow a0 a1 v5 v6)).bind fun v9 =>
          if (bI v9) = 0 then
            ((s_Mod_puts medg a0 a1 false)).bind fun v11 =>
            ((s_Mod_puts v11 v5 v6 true)).bind fun v12 =>
            some (true, v12)
          else
            some (false, medg)
    else
      some (false, medg)
def s_Mod_lists (F : Nat) (mnow : Nat → Int32) (medg : Nat → Int32) (mcor : Nat → Int32) (mtri : Int32) (a0 : Int32) (a1 : Int32) (a2 : Int32) : Option ((Nat → Int32) × Int32) :=
  if a1 = a2 then
    some (mcor, mtri)
  else
    ((s_Mod_has medg a0 a1)).bind fun v2 =>
    if (bI v2) = 0 then
      some (mcor, mtri)
    else
      ((s_Mod_has medg a1 a2)).bind fun v4 =>
      if (bI v4) = 0 then
        some (mcor, mtri)
      else
        ((s_Mod_has medg a2 a0)).bind fun v6 =>
        if (bI v6) = 0 then
          some (mcor, mtri)
        else
          ((s_Mod_turns mnow a0 a1 a2)).bind fun v8 =>
          if v8 ≤ 0 then
            some (mcor, mtri)
          else
            ((s_Mod_isEmpty F mnow a0 a1 a2)).bind fun v10 =>
            if (bI v10) = 0 then
              some (mcor, mtri)
            else
              (aset 120 mcor ((3 : Int32) * mtri) a0).bind fun v12 =>
              (aset 120 v12 (((3 : Int32) * mtri) + (1 : Int32)) a1).bind fun v13 =>
              (aset 120 v13 (((3 : Int32) * mtri) + (2 : Int32)) a2).bind fun v14 =>
              some (v14, (mtri + (1 : Int32)))
def s_Mod_builds_L2  : Nat → Int32 → (Nat → Int32) → Option (Int32 × (Nat → Int32))
  | 0, _, _ => none
  | n + 1, x1, medg =>
    if (289 : Int32) ≤ x1 then
      some (x1, medg)
    else
      (aset 289 medg x1 (vp_nar .boolean (0 : Int32))).bind fun v2 =>
      s_Mod_builds_L2  n (x1 + (1 : Int32)) v2
def s_Mod_builds_L29 (mnow : Nat → Int32) : Nat → Int32 → (Nat → Int32) → Option (Int32 × (Nat → Int32))
  | 0, _, _ => none
  | n + 1, x1, medg =>
    ((s_Mod_m mnow)).bind fun v4 =>
    if v4 ≤ x1 then
      some (x1, medg)
    else
      ((s_Mod_end mnow x1 (0 : Int32))).bind fun v6 =>
      ((s_Mod_end mnow x1 (1 : Int32))).bind fun v7 =>
      ((s_Mod_puts medg v6 v7 true)).bind fun v8 =>
      s_Mod_builds_L29 mnow n (x1 + (1 : Int32)) v8
def s_Mod_builds_L74 (F : Nat) (mnow : Nat → Int32) (x1 : Int32) : Nat → Int32 → (Nat → Int32) → Option (Int32 × (Nat → Int32))
  | 0, _, _ => none
  | n + 1, x2, medg =>
    ((s_Mod_n mnow)).bind fun v12 =>
    if v12 ≤ x2 then
      some (x2, medg)
    else
      ((s_Mod_has medg x1 x2)).bind fun v14 =>
      if (bI v14) = 0 then
        ((s_Mod_hasPointOn F mnow x1 x2)).bind fun v16 =>
        if (bI v16) = 0 then
          ((s_Mod_crossesAny F mnow medg x1 x2)).bind fun v18 =>
          if (bI v18) = 0 then
            ((s_Mod_puts medg x1 x2 true)).bind fun v20 =>
            s_Mod_builds_L74 F mnow x1 n (x2 + (1 : Int32)) v20
          else
            s_Mod_builds_L74 F mnow x1 n (x2 + (1 : Int32)) medg
        else
          s_Mod_builds_L74 F mnow x1 n (x2 + (1 : Int32)) medg
      else
        s_Mod_builds_L74 F mnow x1 n (x2 + (1 : Int32)) medg
def s_Mod_builds_L62 (F : Nat) (mnow : Nat → Int32) : Nat → Int32 → (Nat → Int32) → Option (Int32 × (Nat → Int32))
  | 0, _, _ => none
  | n + 1, x1, medg =>
    ((s_Mod_n mnow)).bind fun v10 =>
    if v10 ≤ x1 then
      some (x1, medg)
    else
      (s_Mod_builds_L74 F mnow x1 F (x1 + (1 : Int32)) medg).bind fun o21x =>
      s_Mod_builds_L62 F mnow n (x1 + (1 : Int32)) o21x.2
def s_Mod_builds_L158 (F : Nat) (mnow : Nat → Int32) (x2 : Int32) : Nat → Int32 → Int32 → (Nat → Int32) → Option (Int32 × Int32 × (Nat → Int32))
  | 0, _, _, _ => none
  | n + 1, x1, x3, medg =>
    ((s_Mod_n mnow)).bind fun v28 =>
    if v28 ≤ x3 then
      some (x1, x3, medg)
    else
      ((s_Mod_flips F mnow medg x2 x3)).bind fun v30 =>
      if (bI v30.1) = 0 then
        s_Mod_builds_L158 F mnow x2 n x1 (x3 + (1 : Int32)) v30.2
      else
        s_Mod_builds_L158 F mnow x2 n (1 : Int32) (x3 + (1 : Int32)) v30.2
def s_Mod_builds_L146 (F : Nat) (mnow : Nat → Int32) : Nat → Int32 → Int32 → (Nat → Int32) → Option (Int32 × Int32 × (Nat → Int32))
  | 0, _, _, _ => none
  | n + 1, x1, x2, medg =>
    ((s_Mod_n mnow)).bind fun v26 =>
    if v26 ≤ x2 then
      some (x1, x2, medg)
    else
      (s_Mod_builds_L158 F mnow x2 F x1 (x2 + (1 : Int32)) medg).bind fun o32x =>
      s_Mod_builds_L146 F mnow n o32x.1 (x2 + (1 : Int32)) o32x.2.2
def s_Mod_builds_L138 (F : Nat) (mnow : Nat → Int32) : Nat → Int32 → (Nat → Int32) → Option (Int32 × (Nat → Int32))
  | 0, _, _ => none
  | n + 1, x1, medg =>
    if x1 = 0 then
      some (x1, medg)
    else
      (s_Mod_builds_L146 F mnow F (0 : Int32) (0 : Int32) medg).bind fun o33x =>
      s_Mod_builds_L138 F mnow n o33x.1 o33x.2.2
def s_Mod_builds_L219 (F : Nat) (mnow : Nat → Int32) (medg : Nat → Int32) (x2 : Int32) (x3 : Int32) : Nat → Int32 → (Nat → Int32) → Int32 → Option (Int32 × (Nat → Int32) × Int32)
  | 0, _, _, _ => none
  | n + 1, x4, mcor, mtri =>
    ((s_Mod_n mnow)).bind fun v39 =>
    if v39 ≤ x4 then
      some (x4, mcor, mtri)
    else
      ((s_Mod_lists F mnow medg mcor mtri x2 x3 x4)).bind fun v41 =>
      s_Mod_builds_L219 F mnow medg x2 x3 n (x4 + (1 : Int32)) v41.1 v41.2
def s_Mod_builds_L206 (F : Nat) (mnow : Nat → Int32) (medg : Nat → Int32) (x2 : Int32) : Nat → Int32 → (Nat → Int32) → Int32 → Option (Int32 × (Nat → Int32) × Int32)
  | 0, _, _, _ => none
  | n + 1, x3, mcor, mtri =>
    ((s_Mod_n mnow)).bind fun v37 =>
    if v37 ≤ x3 then
      some (x3, mcor, mtri)
    else
      (s_Mod_builds_L219 F mnow medg x2 x3 F (x2 + (1 : Int32)) mcor mtri).bind fun o42x =>
      s_Mod_builds_L206 F mnow medg x2 n (x3 + (1 : Int32)) o42x.2.1 o42x.2.2
def s_Mod_builds_L194 (F : Nat) (mnow : Nat → Int32) (medg : Nat → Int32) : Nat → Int32 → (Nat → Int32) → Int32 → Option (Int32 × (Nat → Int32) × Int32)
  | 0, _, _, _ => none
  | n + 1, x2, mcor, mtri =>
    ((s_Mod_n mnow)).bind fun v35 =>
    if v35 ≤ x2 then
      some (x2, mcor, mtri)
    else
      (s_Mod_builds_L206 F mnow medg x2 F (x2 + (1 : Int32)) mcor mtri).bind fun o43x =>
      s_Mod_builds_L194 F mnow medg n (x2 + (1 : Int32)) o43x.2.1 o43x.2.2
def s_Mod_builds (F : Nat) (mnow : Nat → Int32) (medg : Nat → Int32) (mcor : Nat → Int32) : Option ((Nat → Int32) × (Nat → Int32) × Int32) :=
  (s_Mod_builds_L2 F (0 : Int32) medg).bind fun o3x =>
  (s_Mod_builds_L29 mnow F (0 : Int32) o3x.2).bind fun o9x =>
  (s_Mod_builds_L62 F mnow F (0 : Int32) o9x.2).bind fun o22x =>
  ((s_Mod_isLine F mnow)).bind fun v23 =>
  if (bI v23) = 0 then
    (s_Mod_builds_L138 F mnow F (1 : Int32) o22x.2).bind fun o34x =>
    (s_Mod_builds_L194 F mnow o34x.2 F (0 : Int32) mcor (0 : Int32)).bind fun o44x =>
    some (o34x.2, o44x.2.1, o44x.2.2)
  else
    some (o22x.2, mcor, (0 : Int32))
def s_Mod_cornerOf (mcor : Nat → Int32) (a0 : Int32) (a1 : Int32) : Option (Int32) :=
  (aget 120 mcor (((3 : Int32) * a0) + (a1 - a1 / (3 : Int32) * (3 : Int32)))).bind fun v1 =>
  some v1
def s_Mod_triangleOf_L15 (mcor : Nat → Int32) (x1 : Int32) (x2 : Int32) (x3 : Int32) (x4 : Int32) : Nat → Int32 → Option ((Int32) ⊕ (Int32))
  | 0, _ => none
  | n + 1, x5 =>
    if (3 : Int32) ≤ x5 then
      some (.inr x5)
    else
      ((s_Mod_cornerOf mcor x4 x5)).bind fun v3 =>
      if v3 = x1 then
        ((s_Mod_cornerOf mcor x4 (x5 + (1 : Int32)))).bind fun v5 =>
        if v5 = x2 then
          ((s_Mod_cornerOf mcor x4 (x5 + (2 : Int32)))).bind fun v7 =>
          if v7 = x3 then
            some (.inl x4)
          else
            s_Mod_triangleOf_L15 mcor x1 x2 x3 x4 n (x5 + (1 : Int32))
        else
          s_Mod_triangleOf_L15 mcor x1 x2 x3 x4 n (x5 + (1 : Int32))
      else
        s_Mod_triangleOf_L15 mcor x1 x2 x3 x4 n (x5 + (1 : Int32))
def s_Mod_triangleOf_L3 (F : Nat) (mcor : Nat → Int32) (mtri : Int32) (x1 : Int32) (x2 : Int32) (x3 : Int32) : Nat → Int32 → Option ((Int32) ⊕ (Int32))
  | 0, _ => none
  | n + 1, x4 =>
    if mtri ≤ x4 then
      some (.inr x4)
    else
      (s_Mod_triangleOf_L15 mcor x1 x2 x3 x4 F (0 : Int32)).bind fun o9 =>
      Sum.elim (fun q_o =>
        some (.inl q_o)) (fun o9x =>
        s_Mod_triangleOf_L3 F mcor mtri x1 x2 x3 n (x4 + (1 : Int32))) o9
def s_Mod_triangleOf (F : Nat) (mcor : Nat → Int32) (mtri : Int32) (a0 : Int32) (a1 : Int32) (a2 : Int32) : Option (Int32) :=
  (s_Mod_triangleOf_L3 F mcor mtri a0 a1 a2 F (0 : Int32)).bind fun o10 =>
  Sum.elim (fun q_o =>
    some q_o) (fun o10x =>
    some (-1 : Int32)) o10
def s_Mod_areaOf (mnow : Nat → Int32) (mcor : Nat → Int32) (a0 : Int32) : Option (Int32) :=
  ((s_Mod_cornerOf mcor a0 (0 : Int32))).bind fun v1 =>
  ((s_Mod_cornerOf mcor a0 (1 : Int32))).bind fun v2 =>
  ((s_Mod_cornerOf mcor a0 (2 : Int32))).bind fun v3 =>
  ((s_Mod_x mnow v2)).bind fun v4 =>
  ((s_Mod_x mnow v1)).bind fun v5 =>
  ((s_Mod_y mnow v3)).bind fun v6 =>
  ((s_Mod_y mnow v1)).bind fun v7 =>
  ((s_Mod_y mnow v2)).bind fun v8 =>
  ((s_Mod_y mnow v1)).bind fun v9 =>
  ((s_Mod_x mnow v3)).bind fun v10 =>
  ((s_Mod_x mnow v1)).bind fun v11 =>
  some (((v4 - v5) * (v6 - v7)) - ((v8 - v9) * (v10 - v11)))
def s_Mod_edge_L17 (mnow : Nat → Int32) (medg : Nat → Int32) (mnum : Nat → Int32) (x1 : Int32) (x3 : Int32) : Nat → Int32 → Int32 → Option ((Bool × (Nat → Int32)) ⊕ (Int32 × Int32))
  | 0, _, _ => none
  | n + 1, x2, x4 =>
    ((s_Mod_n mnow)).bind fun v3 =>
    if v3 ≤ x4 then
      some (.inr (x2, x4))
    else
      ((s_Mod_has medg x3 x4)).bind fun v5 =>
      if (bI v5) = 0 then
        s_Mod_edge_L17 mnow medg mnum x1 x3 n x2 (x4 + (1 : Int32))
      else
        if x2 = x1 then
          (aset 2 mnum (0 : Int32) x3).bind fun v8 =>
          (aset 2 v8 (1 : Int32) x4).bind fun v9 =>
          some (.inl (true, v9))
        else
          s_Mod_edge_L17 mnow medg mnum x1 x3 n (x2 + (1 : Int32)) (x4 + (1 : Int32))
def s_Mod_edge_L4 (F : Nat) (mnow : Nat → Int32) (medg : Nat → Int32) (mnum : Nat → Int32) (x1 : Int32) : Nat → Int32 → Int32 → Option ((Bool × (Nat → Int32)) ⊕ (Int32 × Int32))
  | 0, _, _ => none
  | n + 1, x2, x3 =>
    ((s_Mod_n mnow)).bind fun v1 =>
    if v1 ≤ x3 then
      some (.inr (x2, x3))
    else
      (s_Mod_edge_L17 mnow medg mnum x1 x3 F x2 (x3 + (1 : Int32))).bind fun o10 =>
      Sum.elim (fun q_o =>
        some (.inl q_o)) (fun o10x =>
        s_Mod_edge_L4 F mnow medg mnum x1 n o10x.1 (x3 + (1 : Int32))) o10
def s_Mod_edge (F : Nat) (mnow : Nat → Int32) (medg : Nat → Int32) (mnum : Nat → Int32) (a0 : Int32) : Option (Bool × (Nat → Int32)) :=
  (s_Mod_edge_L4 F mnow medg mnum a0 F (0 : Int32) (0 : Int32)).bind fun o11 =>
  Sum.elim (fun q_o =>
    some q_o) (fun o11x =>
    some (false, mnum)) o11
def s_Mod_numberOf_L20 (mnow : Nat → Int32) (medg : Nat → Int32) (x1 : Int32) (x2 : Int32) (x4 : Int32) : Nat → Int32 → Int32 → Option ((Int32) ⊕ (Int32 × Int32))
  | 0, _, _ => none
  | n + 1, x3, x5 =>
    ((s_Mod_n mnow)).bind fun v3 =>
    if v3 ≤ x5 then
      some (.inr (x3, x5))
    else
      ((s_Mod_has medg x4 x5)).bind fun v5 =>
      if (bI v5) = 0 then
        s_Mod_numberOf_L20 mnow medg x1 x2 x4 n x3 (x5 + (1 : Int32))
      else
        if x4 = (imin x1 x2) then
          if x5 = (imax x1 x2) then
            some (.inl x3)
          else
            s_Mod_numberOf_L20 mnow medg x1 x2 x4 n (x3 + (1 : Int32)) (x5 + (1 : Int32))
        else
          s_Mod_numberOf_L20 mnow medg x1 x2 x4 n (x3 + (1 : Int32)) (x5 + (1 : Int32))
def s_Mod_numberOf_L5 (F : Nat) (mnow : Nat → Int32) (medg : Nat → Int32) (x1 : Int32) (x2 : Int32) : Nat → Int32 → Int32 → Option ((Int32) ⊕ (Int32 × Int32))
  | 0, _, _ => none
  | n + 1, x3, x4 =>
    ((s_Mod_n mnow)).bind fun v1 =>
    if v1 ≤ x4 then
      some (.inr (x3, x4))
    else
      (s_Mod_numberOf_L20 mnow medg x1 x2 x4 F x3 (x4 + (1 : Int32))).bind fun o9 =>
      Sum.elim (fun q_o =>
        some (.inl q_o)) (fun o9x =>
        s_Mod_numberOf_L5 F mnow medg x1 x2 n o9x.1 (x4 + (1 : Int32))) o9
def s_Mod_numberOf (F : Nat) (mnow : Nat → Int32) (medg : Nat → Int32) (a0 : Int32) (a1 : Int32) : Option (Int32) :=
  (s_Mod_numberOf_L5 F mnow medg a0 a1 F (0 : Int32) (0 : Int32)).bind fun o10 =>
  Sum.elim (fun q_o =>
    some q_o) (fun o10x =>
    some (-1 : Int32)) o10
def s_Mod_edgeTotal_L16 (mnow : Nat → Int32) (medg : Nat → Int32) (x2 : Int32) : Nat → Int32 → Int32 → Option (Int32 × Int32)
  | 0, _, _ => none
  | n + 1, x1, x3 =>
    ((s_Mod_n mnow)).bind fun v3 =>
    if v3 ≤ x3 then
      some (x1, x3)
    else
      ((s_Mod_has medg x2 x3)).bind fun v5 =>
      if (bI v5) = 0 then
        s_Mod_edgeTotal_L16 mnow medg x2 n x1 (x3 + (1 : Int32))
      else
        s_Mod_edgeTotal_L16 mnow medg x2 n (x1 + (1 : Int32)) (x3 + (1 : Int32))
def s_Mod_edgeTotal_L4 (F : Nat) (mnow : Nat → Int32) (medg : Nat → Int32) : Nat → Int32 → Int32 → Option (Int32 × Int32)
  | 0, _, _ => none
  | n + 1, x1, x2 =>
    ((s_Mod_n mnow)).bind fun v1 =>
    if v1 ≤ x2 then
      some (x1, x2)
    else
      (s_Mod_edgeTotal_L16 mnow medg x2 F x1 (x2 + (1 : Int32))).bind fun o7x =>
      s_Mod_edgeTotal_L4 F mnow medg n o7x.1 (x2 + (1 : Int32))
def s_Mod_edgeTotal (F : Nat) (mnow : Nat → Int32) (medg : Nat → Int32) : Option (Int32) :=
  (s_Mod_edgeTotal_L4 F mnow medg F (0 : Int32) (0 : Int32)).bind fun o8x =>
  some o8x.1
def s_Mod_records_L51 (mnow : Nat → Int32) (mols : Int32) : Nat → Int32 → (Nat → Int32) → Option (Int32 × (Nat → Int32))
  | 0, _, _ => none
  | n + 1, x1, mold =>
    if (56 : Int32) ≤ x1 then
      some (x1, mold)
    else
      (aget 56 mnow x1).bind fun v3 =>
      (aset 672 mold (((56 : Int32) * mols) + x1) v3).bind fun v4 =>
      s_Mod_records_L51 mnow mols n (x1 + (1 : Int32)) v4
def s_Mod_records_L11  : Nat → Int32 → (Nat → Int32) → Option (Int32 × (Nat → Int32))
  | 0, _, _ => none
  | n + 1, x1, mold =>
    if (616 : Int32) ≤ x1 then
      some (x1, mold)
    else
      (aget 672 mold ((56 : Int32) + x1)).bind fun v7 =>
      (aset 672 mold x1 v7).bind fun v8 =>
      s_Mod_records_L11  n (x1 + (1 : Int32)) v8
def s_Mod_records (F : Nat) (mnow : Nat → Int32) (mold : Nat → Int32) (mols : Int32) : Option ((Nat → Int32) × Int32) :=
  if mols = (12 : Int32) then
    (s_Mod_records_L11 F (0 : Int32) mold).bind fun o9x =>
    (s_Mod_records_L51 mnow (mols - (1 : Int32)) F (0 : Int32) o9x.2).bind fun o10x =>
    some (o10x.2, ((mols - (1 : Int32)) + (1 : Int32)))
  else
    (s_Mod_records_L51 mnow mols F (0 : Int32) mold).bind fun o5x =>
    some (o5x.2, (mols + (1 : Int32)))
def s_Mod_isBarred_L3 (mnow : Nat → Int32) (x1 : Int32) (x2 : Int32) (x3 : Int32) : Nat → Int32 → Option ((Bool) ⊕ (Int32))
  | 0, _ => none
  | n + 1, x4 =>
    ((s_Mod_n mnow)).bind fun v1 =>
    if v1 ≤ x4 then
      some (.inr x4)
    else
      if x4 = x1 then
        s_Mod_isBarred_L3 mnow x1 x2 x3 n (x4 + (1 : Int32))
      else
        ((s_Mod_x mnow x4)).bind fun v4 =>
        if v4 = x2 then
          ((s_Mod_y mnow x4)).bind fun v6 =>
          if v6 = x3 then
            some (.inl true)
          else
            s_Mod_isBarred_L3 mnow x1 x2 x3 n (x4 + (1 : Int32))
        else
          s_Mod_isBarred_L3 mnow x1 x2 x3 n (x4 + (1 : Int32))
def s_Mod_isBarred_L49 (mnow : Nat → Int32) (x2 : Int32) (x3 : Int32) : Nat → Int32 → Option ((Bool) ⊕ (Int32))
  | 0, _ => none
  | n + 1, x4 =>
    ((s_Mod_m mnow)).bind fun v9 =>
    if v9 ≤ x4 then
      some (.inr x4)
    else
      ((s_Mod_end mnow x4 (0 : Int32))).bind fun v11 =>
      ((s_Mod_end mnow x4 (1 : Int32))).bind fun v12 =>
      ((s_Mod_isOn mnow v11 v12 x2 x3)).bind fun v13 =>
      if (bI v13) = 0 then
        s_Mod_isBarred_L49 mnow x2 x3 n (x4 + (1 : Int32))
      else
        some (.inl true)
def s_Mod_isBarred (F : Nat) (mnow : Nat → Int32) (a0 : Int32) (a1 : Int32) (a2 : Int32) : Option (Bool) :=
  (s_Mod_isBarred_L3 mnow a0 a1 a2 F (0 : Int32)).bind fun o8 =>
  Sum.elim (fun q_o =>
    some q_o) (fun o8x =>
    (s_Mod_isBarred_L49 mnow a1 a2 F (0 : Int32)).bind fun o15 =>
    Sum.elim (fun q_o =>
      some q_o) (fun o15x =>
      some false) o15) o8
def s_Mod_isEnd_L2 (mnow : Nat → Int32) (x1 : Int32) : Nat → Int32 → Option ((Bool) ⊕ (Int32))
  | 0, _ => none
  | n + 1, x2 =>
    ((s_Mod_m mnow)).bind fun v1 =>
    if v1 ≤ x2 then
      some (.inr x2)
    else
      ((s_Mod_end mnow x2 (0 : Int32))).bind fun v3 =>
      if v3 = x1 then
        some (.inl true)
      else
        ((s_Mod_end mnow x2 (1 : Int32))).bind fun v5 =>
        if v5 = x1 then
          some (.inl true)
        else
          s_Mod_isEnd_L2 mnow x1 n (x2 + (1 : Int32))
def s_Mod_isEnd (F : Nat) (mnow : Nat → Int32) (a0 : Int32) : Option (Bool) :=
  (s_Mod_isEnd_L2 mnow a0 F (0 : Int32)).bind fun o7 =>
  Sum.elim (fun q_o =>
    some q_o) (fun o7x =>
    some false) o7
def s_Mod_whyNot (F : Nat) (mnow : Nat → Int32) (a0 : Int32) (a1 : Int32) : Option (Int32) :=
  if (bI (s_Mod_isPlace a0 a1)) = 0 then
    some (1 : Int32)
  else
    ((s_Mod_n mnow)).bind fun v2 =>
    if v2 = (16 : Int32) then
      some (2 : Int32)
    else
      ((s_Mod_isBarred F mnow (-1 : Int32) a0 a1)).bind fun v4 =>
      if (bI v4) = 0 then
        some (0 : Int32)
      else
        some (3 : Int32)
def s_Mod_sets (mnow : Nat → Int32) (a0 : Int32) (a1 : Int32) (a2 : Int32) : Option ((Nat → Int32)) :=
  (aset 56 mnow ((2 : Int32) + a0) a1).bind fun v1 =>
  (aset 56 v1 ((19 : Int32) + a0) a2).bind fun v2 =>
  some v2
def s_Mod_addPoint (F : Nat) (mnow : Nat → Int32) (mold : Nat → Int32) (mols : Int32) (a0 : Int32) (a1 : Int32) : Option (Int32 × Int32 × (Nat → Int32) × (Nat → Int32) × Int32) :=
  ((s_Mod_whyNot F mnow a0 a1)).bind fun v1 =>
  if v1 ≤ 0 then
    ((s_Mod_records F mnow mold mols)).bind fun v3 =>
    ((s_Mod_n mnow)).bind fun v4 =>
    ((s_Mod_sets mnow v4 a0 a1)).bind fun v5 =>
    (aget 56 v5 (0 : Int32)).bind fun v6 =>
    (aset 56 v5 (0 : Int32) (v6 + (1 : Int32))).bind fun v7 =>
    some (v6, v1, v7, v3.1, v3.2)
  else
    some ((0 : Int32), v1, mnow, mold, mols)
def s_Mod_drops_L2  : Nat → Int32 → (Nat → Int32) → Option (Int32 × (Nat → Int32))
  | 0, _, _ => none
  | n + 1, x2, mnow =>
    ((s_Mod_n mnow)).bind fun v1 =>
    if v1 ≤ (x2 + (1 : Int32)) then
      some (x2, mnow)
    else
      ((s_Mod_x mnow (x2 + (1 : Int32)))).bind fun v3 =>
      ((s_Mod_y mnow (x2 + (1 : Int32)))).bind fun v4 =>
      ((s_Mod_sets mnow x2 v3 v4)).bind fun v5 =>
      s_Mod_drops_L2  n (x2 + (1 : Int32)) v5
def s_Mod_drops_L49 (x1 : Int32) : Nat → Int32 → (Nat → Int32) → Option (Int32 × (Nat → Int32))
  | 0, _, _ => none
  | n + 1, x2, mnow =>
    ((s_Mod_m mnow)).bind fun v9 =>
    if ((2 : Int32) * v9) ≤ x2 then
      some (x2, mnow)
    else
      (aget 56 mnow ((36 : Int32) + x2)).bind fun v11 =>
      if v11 ≤ x1 then
        s_Mod_drops_L49 x1 n (x2 + (1 : Int32)) mnow
      else
        (aget 56 mnow ((36 : Int32) + x2)).bind fun v13 =>
        (aset 56 mnow ((36 : Int32) + x2) (v13 - (1 : Int32))).bind fun v14 =>
        s_Mod_drops_L49 x1 n (x2 + (1 : Int32)) v14
def s_Mod_drops (F : Nat) (mnow : Nat → Int32) (a0 : Int32) : Option ((Nat → Int32)) :=
  (s_Mod_drops_L2 F a0 mnow).bind fun o6x =>
  (aget 56 o6x.2 (0 : Int32)).bind fun v7 =>
  (aset 56 o6x.2 (0 : Int32) (v7 - (1 : Int32))).bind fun v8 =>
  (s_Mod_drops_L49 a0 F (0 : Int32) v8).bind fun o15x =>
  some o15x.2
def s_Mod_removePoint (F : Nat) (mnow : Nat → Int32) (mold : Nat → Int32) (mols : Int32) (a0 : Int32) : Option (Int32 × Int32 × (Nat → Int32) × (Nat → Int32) × Int32) :=
  ((s_Mod_isPoint mnow a0)).bind fun v1 =>
  if (bI v1) = 0 then
    some ((s_Mod_raises (1 : Int32)).1, (s_Mod_raises (1 : Int32)).2, mnow, mold, mols)
  else
    ((s_Mod_isEnd F mnow a0)).bind fun v3 =>
    if (bI v3) = 0 then
      ((s_Mod_records F mnow mold mols)).bind fun v5 =>
      ((s_Mod_drops F mnow a0)).bind fun v6 =>
      ((s_Mod_n v6)).bind fun v7 =>
      some (v7, (0 : Int32), v6, v5.1, v5.2)
    else
      some ((s_Mod_raises (2 : Int32)).1, (s_Mod_raises (2 : Int32)).2, mnow, mold, mols)
def s_Mod_movePoint (F : Nat) (mnow : Nat → Int32) (mold : Nat → Int32) (mols : Int32) (a0 : Int32) (a1 : Int32) (a2 : Int32) : Option (Bool × Int32 × (Nat → Int32) × (Nat → Int32) × Int32) :=
  ((s_Mod_isPoint mnow a0)).bind fun v1 =>
  if (bI v1) = 0 then
    if (1 : Int32) ≤ 0 then
      ((s_Mod_x mnow a0)).bind fun v53 =>
      if v53 = a1 then
        ((s_Mod_y mnow a0)).bind fun v57 =>
        if v57 = a2 then
          ((s_Mod_records F mnow mold mols)).bind fun v59 =>
          ((s_Mod_sets mnow a0 a1 a2)).bind fun v60 =>
          some (false, (1 : Int32), v60, v59.1, v59.2)
        else
          ((s_Mod_records F mnow mold mols)).bind fun v61 =>
          ((s_Mod_sets mnow a0 a1 a2)).bind fun v62 =>
          some (true, (1 : Int32), v62, v61.1, v61.2)
      else
        ((s_Mod_records F mnow mold mols)).bind fun v55 =>
        ((s_Mod_sets mnow a0 a1 a2)).bind fun v56 =>
        some (true, (1 : Int32), v56, v55.1, v55.2)
    else
      some (false, (1 : Int32), mnow, mold, mols)
  else
    if (bI (s_Mod_isPlace a1 a2)) = 0 then
      if (2 : Int32) ≤ 0 then
        ((s_Mod_x mnow a0)).bind fun v42 =>
        if v42 = a1 then
          ((s_Mod_y mnow a0)).bind fun v46 =>
          if v46 = a2 then
            ((s_Mod_records F mnow mold mols)).bind fun v48 =>
            ((s_Mod_sets mnow a0 a1 a2)).bind fun v49 =>
            some (false, (2 : Int32), v49, v48.1, v48.2)
          else
            ((s_Mod_records F mnow mold mols)).bind fun v50 =>
            ((s_Mod_sets mnow a0 a1 a2)).bind fun v51 =>
            some (true, (2 : Int32), v51, v50.1, v50.2)
        else
          ((s_Mod_records F mnow mold mols)).bind fun v44 =>
          ((s_Mod_sets mnow a0 a1 a2)).bind fun v45 =>
          some (true, (2 : Int32), v45, v44.1, v44.2)
      else
        some (false, (2 : Int32), mnow, mold, mols)
    else
      ((s_Mod_isEnd F mnow a0)).bind fun v4 =>
      if (bI v4) = 0 then
        ((s_Mod_isBarred F mnow a0 a1 a2)).bind fun v6 =>
        if (bI v6) = 0 then
          if (0 : Int32) ≤ 0 then
            ((s_Mod_x mnow a0)).bind fun v9 =>
            if v9 = a1 then
              ((s_Mod_y mnow a0)).bind fun v13 =>
              if v13 = a2 then
                ((s_Mod_records F mnow mold mols)).bind fun v15 =>
                ((s_Mod_sets mnow a0 a1 a2)).bind fun v16 =>
                some (false, (0 : Int32), v16, v15.1, v15.2)
              else
                ((s_Mod_records F mnow mold mols)).bind fun v17 =>
                ((s_Mod_sets mnow a0 a1 a2)).bind fun v18 =>
                some (true, (0 : Int32), v18, v17.1, v17.2)
            else
              ((s_Mod_records F mnow mold mols)).bind fun v11 =>
              ((s_Mod_sets mnow a0 a1 a2)).bind fun v12 =>
              some (true, (0 : Int32), v12, v11.1, v11.2)
          else
            some (false, (0 : Int32), mnow, mold, mols)
        else
          if (4 : Int32) ≤ 0 then
            ((s_Mod_x mnow a0)).bind fun v20 =>
            if v20 = a1 then
              ((s_Mod_y mnow a0)).bind fun v24 =>
              if v24 = a2 then
                ((s_Mod_records F mnow mold mols)).bind fun v26 =>
                ((s_Mod_sets mnow a0 a1 a2)).bind fun v27 =>
                some (false, (4 : Int32), v27, v26.1, v26.2)
              else
                ((s_Mod_records F mnow mold mols)).bind fun v28 =>
                ((s_Mod_sets mnow a0 a1 a2)).bind fun v29 =>
                some (true, (4 : Int32), v29, v28.1, v28.2)
            else
              ((s_Mod_records F mnow mold mols)).bind fun v22 =>
              ((s_Mod_sets mnow a0 a1 a2)).bind fun v23 =>
              some (true, (4 : Int32), v23, v22.1, v22.2)
          else
            some (false, (4 : Int32), mnow, mold, mols)
      else
        if (3 : Int32) ≤ 0 then
          ((s_Mod_x mnow a0)).bind fun v31 =>
          if v31 = a1 then
            ((s_Mod_y mnow a0)).bind fun v35 =>
            if v35 = a2 then
              ((s_Mod_records F mnow mold mols)).bind fun v37 =>
              ((s_Mod_sets mnow a0 a1 a2)).bind fun v38 =>
              some (false, (3 : Int32), v38, v37.1, v37.2)
            else
              ((s_Mod_records F mnow mold mols)).bind fun v39 =>
              ((s_Mod_sets mnow a0 a1 a2)).bind fun v40 =>
              some (true, (3 : Int32), v40, v39.1, v39.2)
          else
            ((s_Mod_records F mnow mold mols)).bind fun v33 =>
            ((s_Mod_sets mnow a0 a1 a2)).bind fun v34 =>
            some (true, (3 : Int32), v34, v33.1, v33.2)
        else
          some (false, (3 : Int32), mnow, mold, mols)
def s_Mod_pointCount (mnow : Nat → Int32) : Option (Int32 × Int32) :=
  ((s_Mod_n mnow)).bind fun v1 =>
  some (v1, (0 : Int32))
def s_Mod_coordinate (mnow : Nat → Int32) (a0 : Int32) (a1 : Int32) : Option (Int32 × Int32) :=
  ((s_Mod_isPoint mnow a0)).bind fun v1 =>
  if (bI v1) = 0 then
    some ((s_Mod_raises (1 : Int32)).1, (s_Mod_raises (1 : Int32)).2)
  else
    if (bI (s_Mod_in a1 (0 : Int32) (1 : Int32))) = 0 then
      some ((s_Mod_raises (2 : Int32)).1, (s_Mod_raises (2 : Int32)).2)
    else
      if a1 = 0 then
        ((s_Mod_x mnow a0)).bind fun v6 =>
        some (v6, (0 : Int32))
      else
        ((s_Mod_y mnow a0)).bind fun v5 =>
        some (v5, (0 : Int32))
def s_Mod_addConstraint_L79 (mnow : Nat → Int32) (mold : Nat → Int32) (mols : Int32) (x1 : Int32) (x2 : Int32) : Nat → Int32 → Option ((Int32 × Int32 × (Nat → Int32) × (Nat → Int32) × Int32) ⊕ (Int32))
  | 0, _ => none
  | n + 1, x3 =>
    ((s_Mod_m mnow)).bind fun v12 =>
    if v12 ≤ x3 then
      some (.inr x3)
    else
      ((s_Mod_end mnow x3 (0 : Int32))).bind fun v14 =>
      ((s_Mod_end mnow x3 (1 : Int32))).bind fun v15 =>
      ((s_Mod_cross mnow x1 x2 v14 v15)).bind fun v16 =>
      if (bI v16) = 0 then
        s_Mod_addConstraint_L79 mnow mold mols x1 x2 n (x3 + (1 : Int32))
      else
        some (.inl ((s_Mod_raises (4 : Int32)).1, (s_Mod_raises (4 : Int32)).2, mnow, mold, mols))
def s_Mod_addConstraint (F : Nat) (mnow : Nat → Int32) (mold : Nat → Int32) (mols : Int32) (a0 : Int32) (a1 : Int32) : Option (Int32 × Int32 × (Nat → Int32) × (Nat → Int32) × Int32) :=
  ((s_Mod_isPoint mnow a0)).bind fun v1 =>
  if (bI v1) = 0 then
    some ((s_Mod_raises (1 : Int32)).1, (s_Mod_raises (1 : Int32)).2, mnow, mold, mols)
  else
    ((s_Mod_isPoint mnow a1)).bind fun v3 =>
    if (bI v3) = 0 then
      some ((s_Mod_raises (1 : Int32)).1, (s_Mod_raises (1 : Int32)).2, mnow, mold, mols)
    else
      if a0 = a1 then
        some ((s_Mod_raises (2 : Int32)).1, (s_Mod_raises (2 : Int32)).2, mnow, mold, mols)
      else
        ((s_Mod_m mnow)).bind fun v6 =>
        if v6 = (10 : Int32) then
          some ((s_Mod_raises (3 : Int32)).1, (s_Mod_raises (3 : Int32)).2, mnow, mold, mols)
        else
          ((s_Mod_isTied F mnow a0 a1)).bind fun v8 =>
          if (bI v8) = 0 then
            ((s_Mod_hasPointOn F mnow a0 a1)).bind fun v10 =>
            if (bI v10) = 0 then
              (s_Mod_addConstraint_L79 mnow mold mols a0 a1 F (0 : Int32)).bind fun o18 =>
              Sum.elim (fun q_o =>
                some q_o) (fun o18x =>
                ((s_Mod_records F mnow mold mols)).bind fun v19 =>
                ((s_Mod_m mnow)).bind fun v20 =>
                (aset 56 mnow ((36 : Int32) + ((2 : Int32) * v20)) (imin a0 a1)).bind fun v21 =>
                (aset 56 v21 (((36 : Int32) + ((2 : Int32) * v20)) + (1 : Int32)) (imax a0 a1)).bind fun v22 =>
                (aget 56 v22 (1 : Int32)).bind fun v23 =>
                (aset 56 v22 (1 : Int32) (v23 + (1 : Int32))).bind fun v24 =>
                some (v23, (0 : Int32), v24, v19.1, v19.2)) o18
            else
              some ((s_Mod_raises (4 : Int32)).1, (s_Mod_raises (4 : Int32)).2, mnow, mold, mols)
          else
            some ((s_Mod_raises (4 : Int32)).1, (s_Mod_raises (4 : Int32)).2, mnow, mold, mols)
def s_Mod_unties_L4  : Nat → Int32 → (Nat → Int32) → Option (Int32 × (Nat → Int32))
  | 0, _, _ => none
  | n + 1, x2, mnow =>
    ((s_Mod_m mnow)).bind fun v1 =>
    if ((2 : Int32) * v1) ≤ (x2 + (2 : Int32)) then
      some (x2, mnow)
    else
      (aget 56 mnow (((36 : Int32) + x2) + (2 : Int32))).bind fun v3 =>
      (aset 56 mnow ((36 : Int32) + x2) v3).bind fun v4 =>
      s_Mod_unties_L4  n (x2 + (1 : Int32)) v4
def s_Mod_unties (F : Nat) (mnow : Nat → Int32) (a0 : Int32) : Option ((Nat → Int32)) :=
  (s_Mod_unties_L4 F ((2 : Int32) * a0) mnow).bind fun o5x =>
  (aget 56 o5x.2 (1 : Int32)).bind fun v6 =>
  (aset 56 o5x.2 (1 : Int32) (v6 - (1 : Int32))).bind fun v7 =>
  some v7
def s_Mod_removeConstraint (F : Nat) (mnow : Nat → Int32) (mold : Nat → Int32) (mols : Int32) (a0 : Int32) : Option (Int32 × Int32 × (Nat → Int32) × (Nat → Int32) × Int32) :=
  ((s_Mod_isConstraint mnow a0)).bind fun v1 =>
  if (bI v1) = 0 then
    some ((s_Mod_raises (1 : Int32)).1, (s_Mod_raises (1 : Int32)).2, mnow, mold, mols)
  else
    ((s_Mod_records F mnow mold mols)).bind fun v3 =>
    ((s_Mod_unties F mnow a0)).bind fun v4 =>
    ((s_Mod_m v4)).bind fun v5 =>
    some (v5, (0 : Int32), v4, v3.1, v3.2)
def s_Mod_constraintCount (mnow : Nat → Int32) : Option (Int32 × Int32) :=
  ((s_Mod_m mnow)).bind fun v1 =>
  some (v1, (0 : Int32))
def s_Mod_constraintEnd (mnow : Nat → Int32) (a0 : Int32) (a1 : Int32) : Option (Int32 × Int32) :=
  ((s_Mod_isConstraint mnow a0)).bind fun v1 =>
  if (bI v1) = 0 then
    some ((s_Mod_raises (1 : Int32)).1, (s_Mod_raises (1 : Int32)).2)
  else
    if (bI (s_Mod_in a1 (0 : Int32) (1 : Int32))) = 0 then
      some ((s_Mod_raises (2 : Int32)).1, (s_Mod_raises (2 : Int32)).2)
    else
      ((s_Mod_end mnow a0 a1)).bind fun v4 =>
      some (v4, (0 : Int32))
def s_Mod_feed (minp : Nat → Int32) (mlen : Int32) (a0 : Int32) : Option (Int32 × Int32 × (Nat → Int32) × Int32) :=
  if mlen = (60 : Int32) then
    some ((s_Mod_raises (1 : Int32)).1, (s_Mod_raises (1 : Int32)).2, minp, mlen)
  else
    (aset 60 minp mlen a0).bind fun v2 =>
    some ((mlen + (1 : Int32)), (0 : Int32), v2, (mlen + (1 : Int32)))
def s_Mod_here (minp : Nat → Int32) (mlen : Int32) (mat : Int32) : Option (Int32) :=
  if mlen ≤ mat then
    some (-1 : Int32)
  else
    (aget 60 minp mat).bind fun v2 =>
    some v2
def s_Mod_number_L4 (minp : Nat → Int32) (mlen : Int32) : Nat → Int32 → Int32 → Int32 → Option (Int32 × Int32 × Int32)
  | 0, _, _, _ => none
  | n + 1, x1, x2, mat =>
    if (3 : Int32) ≤ x2 then
      some (x1, x2, mat)
    else
      ((s_Mod_here minp mlen mat)).bind fun v2 =>
      if (bI (s_Mod_in v2 (48 : Int32) (57 : Int32))) = 0 then
        some (x1, x2, mat)
      else
        (aget 60 minp mat).bind fun v4 =>
        s_Mod_number_L4 minp mlen n ((((10 : Int32) * (imax (0 : Int32) x1)) + v4) - (48 : Int32)) (x2 + (1 : Int32)) (mat + (1 : Int32))
def s_Mod_number (F : Nat) (minp : Nat → Int32) (mlen : Int32) (mat : Int32) : Option (Int32 × Int32) :=
  (s_Mod_number_L4 minp mlen F (-1 : Int32) (0 : Int32) mat).bind fun o5x =>
  some (o5x.1, o5x.2.2)
def s_Mod_entry (F : Nat) (mthr : Int32) (mnow : Nat → Int32) (mold : Nat → Int32) (mols : Int32) (minp : Nat → Int32) (mlen : Int32) (mat : Int32) (a0 : Bool) : Option (Int32 × Int32 × (Nat → Int32) × (Nat → Int32) × Int32 × Int32) :=
  ((s_Mod_number F minp mlen mat)).bind fun v1 =>
  if 0 ≤ v1.1 then
    ((s_Mod_here minp mlen v1.2)).bind fun v3 =>
    if v3 = (44 : Int32) then
      ((s_Mod_number F minp mlen (v1.2 + (1 : Int32)))).bind fun v5 =>
      if 0 ≤ v5.1 then
        if (bI a0) = 0 then
          some ((1 : Int32), mthr, mnow, mold, mols, v5.2)
        else
          if v3 = (44 : Int32) then
            ((s_Mod_addPoint F mnow mold mols v1.1 v5.1)).bind fun v12 =>
            if v12.2.1 = 0 then
              if v12.1 < 0 then
                some ((0 : Int32), v12.2.1, v12.2.2.1, v12.2.2.2.1, v12.2.2.2.2, v5.2)
              else
                some ((1 : Int32), v12.2.1, v12.2.2.1, v12.2.2.2.1, v12.2.2.2.2, v5.2)
            else
              some ((0 : Int32), v12.2.1, v12.2.2.1, v12.2.2.2.1, v12.2.2.2.2, v5.2)
          else
            ((s_Mod_addConstraint F mnow mold mols v1.1 v5.1)).bind fun v9 =>
            if v9.2.1 = 0 then
              if v9.1 < 0 then
                some ((0 : Int32), v9.2.1, v9.2.2.1, v9.2.2.2.1, v9.2.2.2.2, v5.2)
              else
                some ((1 : Int32), v9.2.1, v9.2.2.1, v9.2.2.2.1, v9.2.2.2.2, v5.2)
            else
              some ((0 : Int32), v9.2.1, v9.2.2.1, v9.2.2.2.1, v9.2.2.2.2, v5.2)
      else
        some ((-1 : Int32), mthr, mnow, mold, mols, v5.2)
    else
      if v3 = (45 : Int32) then
        ((s_Mod_number F minp mlen (v1.2 + (1 : Int32)))).bind fun v16 =>
        if 0 ≤ v16.1 then
          if (bI a0) = 0 then
            some ((1 : Int32), mthr, mnow, mold, mols, v16.2)
          else
            if v3 = (44 : Int32) then
              ((s_Mod_addPoint F mnow mold mols v1.1 v16.1)).bind fun v23 =>
              if v23.2.1 = 0 then
                if v23.1 < 0 then
                  some ((0 : Int32), v23.2.1, v23.2.2.1, v23.2.2.2.1, v23.2.2.2.2, v16.2)
                else
                  some ((1 : Int32), v23.2.1, v23.2.2.1, v23.2.2.2.1, v23.2.2.2.2, v16.2)
              else
                some ((0 : Int32), v23.2.1, v23.2.2.1, v23.2.2.2.1, v23.2.2.2.2, v16.2)
            else
              ((s_Mod_addConstraint F mnow mold mols v1.1 v16.1)).bind fun v20 =>
              if v20.2.1 = 0 then
                if v20.1 < 0 then
                  some ((0 : Int32), v20.2.1, v20.2.2.1, v20.2.2.2.1, v20.2.2.2.2, v16.2)
                else
                  some ((1 : Int32), v20.2.1, v20.2.2.1, v20.2.2.2.1, v20.2.2.2.2, v16.2)
              else
                some ((0 : Int32), v20.2.1, v20.2.2.1, v20.2.2.2.1, v20.2.2.2.2, v16.2)
        else
          some ((-1 : Int32), mthr, mnow, mold, mols, v16.2)
      else
        some ((-1 : Int32), mthr, mnow, mold, mols, v1.2)
  else
    some ((-1 : Int32), mthr, mnow, mold, mols, v1.2)
def s_Mod_readInput_L12 (F : Nat) (minp : Nat → Int32) (mlen : Int32) : Nat → Int32 → Int32 → (Nat → Int32) → (Nat → Int32) → Int32 → Int32 → Option (Int32 × Int32 × (Nat → Int32) × (Nat → Int32) × Int32 × Int32)
  | 0, _, _, _, _, _, _ => none
  | n + 1, x1, mthr, mnow, mold, mols, mat =>
    if x1 = 0 then
      some (x1, mthr, mnow, mold, mols, mat)
    else
      ((s_Mod_entry F mthr mnow mold mols minp mlen mat false)).bind fun v2 =>
      if v2.1 ≤ 0 then
        if (0 : Int32) = 0 then
          some ((0 : Int32), v2.2.1, v2.2.2.1, v2.2.2.2.1, v2.2.2.2.2.1, v2.2.2.2.2.2)
        else
          ((s_Mod_here minp mlen v2.2.2.2.2.2)).bind fun v5 =>
          if v5 = (59 : Int32) then
            if (1 : Int32) = 0 then
              if v2.2.2.2.2.2 = mlen then
                s_Mod_readInput_L12 F minp mlen n (1 : Int32) v2.2.1 v2.2.2.1 v2.2.2.2.1 v2.2.2.2.2.1 (61 : Int32)
              else
                s_Mod_readInput_L12 F minp mlen n (1 : Int32) v2.2.1 v2.2.2.1 v2.2.2.2.1 v2.2.2.2.2.1 v2.2.2.2.2.2
            else
              s_Mod_readInput_L12 F minp mlen n (1 : Int32) v2.2.1 v2.2.2.1 v2.2.2.2.1 v2.2.2.2.2.1 (v2.2.2.2.2.2 + (1 : Int32))
          else
            if (0 : Int32) = 0 then
              if v2.2.2.2.2.2 = mlen then
                s_Mod_readInput_L12 F minp mlen n (0 : Int32) v2.2.1 v2.2.2.1 v2.2.2.2.1 v2.2.2.2.2.1 (61 : Int32)
              else
                s_Mod_readInput_L12 F minp mlen n (0 : Int32) v2.2.1 v2.2.2.1 v2.2.2.2.1 v2.2.2.2.2.1 v2.2.2.2.2.2
            else
              s_Mod_readInput_L12 F minp mlen n (0 : Int32) v2.2.1 v2.2.2.1 v2.2.2.2.1 v2.2.2.2.2.1 (v2.2.2.2.2.2 + (1 : Int32))
      else
        if (1 : Int32) = 0 then
          some ((1 : Int32), v2.2.1, v2.2.2.1, v2.2.2.2.1, v2.2.2.2.2.1, v2.2.2.2.2.2)
        else
          ((s_Mod_here minp mlen v2.2.2.2.2.2)).bind fun v12 =>
          if v12 = (59 : Int32) then
            if (1 : Int32) = 0 then
              if v2.2.2.2.2.2 = mlen then
                s_Mod_readInput_L12 F minp mlen n (1 : Int32) v2.2.1 v2.2.2.1 v2.2.2.2.1 v2.2.2.2.2.1 (61 : Int32)
              else
                s_Mod_readInput_L12 F minp mlen n (1 : Int32) v2.2.1 v2.2.2.1 v2.2.2.2.1 v2.2.2.2.2.1 v2.2.2.2.2.2
            else
              s_Mod_readInput_L12 F minp mlen n (1 : Int32) v2.2.1 v2.2.2.1 v2.2.2.2.1 v2.2.2.2.2.1 (v2.2.2.2.2.2 + (1 : Int32))
          else
            if (0 : Int32) = 0 then
              if v2.2.2.2.2.2 = mlen then
                s_Mod_readInput_L12 F minp mlen n (0 : Int32) v2.2.1 v2.2.2.1 v2.2.2.2.1 v2.2.2.2.2.1 (61 : Int32)
              else
                s_Mod_readInput_L12 F minp mlen n (0 : Int32) v2.2.1 v2.2.2.1 v2.2.2.2.1 v2.2.2.2.2.1 v2.2.2.2.2.2
            else
              s_Mod_readInput_L12 F minp mlen n (0 : Int32) v2.2.1 v2.2.2.1 v2.2.2.2.1 v2.2.2.2.2.1 (v2.2.2.2.2.2 + (1 : Int32))
def s_Mod_readInput_L118 (F : Nat) (minp : Nat → Int32) (mlen : Int32) : Nat → Int32 → Int32 → (Nat → Int32) → (Nat → Int32) → Int32 → Int32 → Option (Int32 × Int32 × (Nat → Int32) × (Nat → Int32) × Int32 × Int32)
  | 0, _, _, _, _, _, _ => none
  | n + 1, x2, mthr, mnow, mold, mols, mat =>
    if mlen ≤ mat then
      some (x2, mthr, mnow, mold, mols, mat)
    else
      ((s_Mod_entry F mthr mnow mold mols minp mlen mat true)).bind fun v21 =>
      if v21.1 ≤ 0 then
        some (x2, v21.2.1, v21.2.2.1, v21.2.2.2.1, v21.2.2.2.2.1, v21.2.2.2.2.2)
      else
        s_Mod_readInput_L118 F minp mlen n (x2 + (1 : Int32)) v21.2.1 v21.2.2.1 v21.2.2.2.1 v21.2.2.2.2.1 (v21.2.2.2.2.2 + (1 : Int32))
def s_Mod_readInput (F : Nat) (mnow : Nat → Int32) (mold : Nat → Int32) (mols : Int32) (minp : Nat → Int32) (mlen : Int32) : Option (Int32 × Int32 × (Nat → Int32) × (Nat → Int32) × Int32 × Int32 × Int32) :=
  (s_Mod_readInput_L12 F minp mlen F (1 : Int32) (0 : Int32) mnow mold mols (0 : Int32)).bind fun o18x =>
  if (60 : Int32) < o18x.2.2.2.2.2 then
    (s_Mod_readInput_L118 F minp mlen F (0 : Int32) o18x.2.1 o18x.2.2.1 o18x.2.2.2.1 o18x.2.2.2.2.1 (0 : Int32)).bind fun o23x =>
    some (o23x.1, (0 : Int32), o23x.2.2.1, o23x.2.2.2.1, o23x.2.2.2.2.1, (0 : Int32), o23x.2.2.2.2.2)
  else
    some (((-100 : Int32) - o18x.2.2.2.2.2), o18x.2.1, o18x.2.2.1, o18x.2.2.2.1, o18x.2.2.2.2.1, (0 : Int32), o18x.2.2.2.2.2)
def s_Mod_triangleCount (F : Nat) (mnow : Nat → Int32) (medg : Nat → Int32) (mcor : Nat → Int32) : Option (Int32 × Int32 × (Nat → Int32) × (Nat → Int32) × Int32) :=
  ((s_Mod_builds F mnow medg mcor)).bind fun v1 =>
  some (v1.2.2, (0 : Int32), v1.1, v1.2.1, v1.2.2)
def s_Mod_isTriangle (F : Nat) (mnow : Nat → Int32) (medg : Nat → Int32) (mcor : Nat → Int32) (a0 : Int32) : Option (Bool × (Nat → Int32) × (Nat → Int32) × Int32) :=
  ((s_Mod_builds F mnow medg mcor)).bind fun v1 =>
  some ((s_Mod_in a0 (0 : Int32) (v1.2.2 - (1 : Int32))), v1.1, v1.2.1, v1.2.2)
def s_Mod_corner (F : Nat) (mnow : Nat → Int32) (medg : Nat → Int32) (mcor : Nat → Int32) (a0 : Int32) (a1 : Int32) : Option (Int32 × Int32 × (Nat → Int32) × (Nat → Int32) × Int32) :=
  ((s_Mod_isTriangle F mnow medg mcor a0)).bind fun v1 =>
  if (bI v1.1) = 0 then
    some ((s_Mod_raises (1 : Int32)).1, (s_Mod_raises (1 : Int32)).2, v1.2.1, v1.2.2.1, v1.2.2.2)
  else
    if (bI (s_Mod_in a1 (0 : Int32) (2 : Int32))) = 0 then
      some ((s_Mod_raises (2 : Int32)).1, (s_Mod_raises (2 : Int32)).2, v1.2.1, v1.2.2.1, v1.2.2.2)
    else
      ((s_Mod_cornerOf v1.2.2.1 a0 a1)).bind fun v4 =>
      some (v4, (0 : Int32), v1.2.1, v1.2.2.1, v1.2.2.2)
def s_Mod_beyondOf (F : Nat) (mnow : Nat → Int32) (medg : Nat → Int32) (mcor : Nat → Int32) (mtri : Int32) (a0 : Int32) (a1 : Int32) : Option (Int32) :=
  ((s_Mod_cornerOf mcor a0 a1)).bind fun v1 =>
  ((s_Mod_cornerOf mcor a0 (a1 + (1 : Int32)))).bind fun v2 =>
  ((s_Mod_apex F mnow medg v2 v1)).bind fun v3 =>
  if 0 ≤ v3 then
    ((s_Mod_triangleOf F mcor mtri v2 v1 v3)).bind fun v5 =>
    some v5
  else
    some (-1 : Int32)
def s_Mod_beyond (F : Nat) (mnow : Nat → Int32) (medg : Nat → Int32) (mcor : Nat → Int32) (a0 : Int32) (a1 : Int32) : Option (Int32 × Int32 × (Nat → Int32) × (Nat → Int32) × Int32) :=
  ((s_Mod_isTriangle F mnow medg mcor a0)).bind fun v1 =>
  if (bI v1.1) = 0 then
    some ((s_Mod_raises (1 : Int32)).1, (s_Mod_raises (1 : Int32)).2, v1.2.1, v1.2.2.1, v1.2.2.2)
  else
    if (bI (s_Mod_in a1 (0 : Int32) (2 : Int32))) = 0 then
      some ((s_Mod_raises (2 : Int32)).1, (s_Mod_raises (2 : Int32)).2, v1.2.1, v1.2.2.1, v1.2.2.2)
    else
      ((s_Mod_beyondOf F mnow v1.2.1 v1.2.2.1 v1.2.2.2 a0 a1)).bind fun v4 =>
      some (v4, (0 : Int32), v1.2.1, v1.2.2.1, v1.2.2.2)
def s_Mod_edgeCount (F : Nat) (mnow : Nat → Int32) (medg : Nat → Int32) (mcor : Nat → Int32) : Option (Int32 × Int32 × (Nat → Int32) × (Nat → Int32) × Int32) :=
  ((s_Mod_builds F mnow medg mcor)).bind fun v1 =>
  ((s_Mod_edgeTotal F mnow v1.1)).bind fun v2 =>
  some (v2, (0 : Int32), v1.1, v1.2.1, v1.2.2)
def s_Mod_edgeEnd (F : Nat) (mnow : Nat → Int32) (medg : Nat → Int32) (mcor : Nat → Int32) (mnum : Nat → Int32) (a0 : Int32) (a1 : Int32) : Option (Int32 × Int32 × (Nat → Int32) × (Nat → Int32) × Int32 × (Nat → Int32)) :=
  ((s_Mod_builds F mnow medg mcor)).bind fun v1 =>
  ((s_Mod_edge F mnow v1.1 mnum a0)).bind fun v2 =>
  if (bI v2.1) = 0 then
    some ((s_Mod_raises (1 : Int32)).1, (s_Mod_raises (1 : Int32)).2, v1.1, v1.2.1, v1.2.2, v2.2)
  else
    if (bI (s_Mod_in a1 (0 : Int32) (1 : Int32))) = 0 then
      some ((s_Mod_raises (2 : Int32)).1, (s_Mod_raises (2 : Int32)).2, v1.1, v1.2.1, v1.2.2, v2.2)
    else
      (aget 2 v2.2 a1).bind fun v5 =>
      some (v5, (0 : Int32), v1.1, v1.2.1, v1.2.2, v2.2)
def s_Mod_edgeBetween (F : Nat) (mnow : Nat → Int32) (medg : Nat → Int32) (mcor : Nat → Int32) (mtri : Int32) (a0 : Int32) (a1 : Int32) : Option (Int32 × Int32 × (Nat → Int32) × (Nat → Int32) × Int32) :=
  ((s_Mod_isPoint mnow a0)).bind fun v1 =>
  if (bI v1) = 0 then
    some ((s_Mod_raises (1 : Int32)).1, (s_Mod_raises (1 : Int32)).2, medg, mcor, mtri)
  else
    ((s_Mod_isPoint mnow a1)).bind fun v3 =>
    if (bI v3) = 0 then
      some ((s_Mod_raises (1 : Int32)).1, (s_Mod_raises (1 : Int32)).2, medg, mcor, mtri)
    else
      ((s_Mod_builds F mnow medg mcor)).bind fun v5 =>
      ((s_Mod_numberOf F mnow v5.1 a0 a1)).bind fun v6 =>
      if 0 ≤ v6 then
        some (v6, (0 : Int32), v5.1, v5.2.1, v5.2.2)
      else
        some ((s_Mod_raises (2 : Int32)).1, (s_Mod_raises (2 : Int32)).2, v5.1, v5.2.1, v5.2.2)
def s_Mod_degree_L27 (mnow : Nat → Int32) (medg : Nat → Int32) (x1 : Int32) : Nat → Int32 → Int32 → Option (Int32 × Int32)
  | 0, _, _ => none
  | n + 1, x2, x3 =>
    ((s_Mod_n mnow)).bind fun v4 =>
    if v4 ≤ x3 then
      some (x2, x3)
    else
      ((s_Mod_has medg x1 x3)).bind fun v6 =>
      if (bI v6) = 0 then
        s_Mod_degree_L27 mnow medg x1 n x2 (x3 + (1 : Int32))
      else
        s_Mod_degree_L27 mnow medg x1 n (x2 + (1 : Int32)) (x3 + (1 : Int32))
def s_Mod_degree (F : Nat) (mnow : Nat → Int32) (medg : Nat → Int32) (mcor : Nat → Int32) (mtri : Int32) (a0 : Int32) : Option (Int32 × Int32 × (Nat → Int32) × (Nat → Int32) × Int32) :=
  ((s_Mod_isPoint mnow a0)).bind fun v1 =>
  if (bI v1) = 0 then
    some ((s_Mod_raises (1 : Int32)).1, (s_Mod_raises (1 : Int32)).2, medg, mcor, mtri)
  else
    ((s_Mod_builds F mnow medg mcor)).bind fun v3 =>
    (s_Mod_degree_L27 mnow v3.1 a0 F (0 : Int32) (0 : Int32)).bind fun o8x =>
    some (o8x.1, (0 : Int32), v3.1, v3.2.1, v3.2.2)
def s_Mod_neighbour_L28 (mthr : Int32) (mnow : Nat → Int32) (medg : Nat → Int32) (mcor : Nat → Int32) (mtri : Int32) (x1 : Int32) : Nat → Int32 → Int32 → Option ((Int32 × Int32 × (Nat → Int32) × (Nat → Int32) × Int32) ⊕ (Int32 × Int32))
  | 0, _, _ => none
  | n + 1, x3, x4 =>
    ((s_Mod_n mnow)).bind fun v4 =>
    if v4 ≤ x4 then
      some (.inr (x3, x4))
    else
      ((s_Mod_has medg x1 x4)).bind fun v6 =>
      if (bI v6) = 0 then
        s_Mod_neighbour_L28 mthr mnow medg mcor mtri x1 n x3 (x4 + (1 : Int32))
      else
        if x3 = 0 then
          some (.inl (x4, mthr, medg, mcor, mtri))
        else
          s_Mod_neighbour_L28 mthr mnow medg mcor mtri x1 n (x3 + (-1 : Int32)) (x4 + (1 : Int32))
def s_Mod_neighbour (F : Nat) (mnow : Nat → Int32) (medg : Nat → Int32) (mcor : Nat → Int32) (mtri : Int32) (a0 : Int32) (a1 : Int32) : Option (Int32 × Int32 × (Nat → Int32) × (Nat → Int32) × Int32) :=
  ((s_Mod_isPoint mnow a0)).bind fun v1 =>
  if (bI v1) = 0 then
    some ((s_Mod_raises (1 : Int32)).1, (s_Mod_raises (1 : Int32)).2, medg, mcor, mtri)
  else
    ((s_Mod_builds F mnow medg mcor)).bind fun v3 =>
    (s_Mod_neighbour_L28 (0 : Int32) mnow v3.1 v3.2.1 v3.2.2 a0 F a1 (0 : Int32)).bind fun o9 =>
    Sum.elim (fun q_o =>
      some q_o) (fun o9x =>
      some ((s_Mod_raises (2 : Int32)).1, (s_Mod_raises (2 : Int32)).2, v3.1, v3.2.1, v3.2.2)) o9
def s_Mod_hullNext_L2 (F : Nat) (mnow : Nat → Int32) (medg : Nat → Int32) (x1 : Int32) : Nat → Int32 → Option ((Int32) ⊕ (Int32))
  | 0, _ => none
  | n + 1, x2 =>
    ((s_Mod_n mnow)).bind fun v1 =>
    if v1 ≤ x2 then
      some (.inr x2)
    else
      ((s_Mod_has medg x1 x2)).bind fun v3 =>
      if (bI v3) = 0 then
        s_Mod_hullNext_L2 F mnow medg x1 n (x2 + (1 : Int32))
      else
        ((s_Mod_apex F mnow medg x1 x2)).bind fun v5 =>
        if v5 < 0 then
          s_Mod_hullNext_L2 F mnow medg x1 n (x2 + (1 : Int32))
        else
          ((s_Mod_apex F mnow medg x2 x1)).bind fun v7 =>
          if 0 ≤ v7 then
            s_Mod_hullNext_L2 F mnow medg x1 n (x2 + (1 : Int32))
          else
            some (.inl x2)
def s_Mod_hullNext (F : Nat) (mnow : Nat → Int32) (medg : Nat → Int32) (a0 : Int32) : Option (Int32) :=
  (s_Mod_hullNext_L2 F mnow medg a0 F (0 : Int32)).bind fun o9 =>
  Sum.elim (fun q_o =>
    some q_o) (fun o9x =>
    some (-1 : Int32)) o9
def s_Mod_hullEdges_L4 (F : Nat) (mnow : Nat → Int32) (medg : Nat → Int32) : Nat → Int32 → Int32 → Option (Int32 × Int32)
  | 0, _, _ => none
  | n + 1, x1, x2 =>
    ((s_Mod_n mnow)).bind fun v1 =>
    if v1 ≤ x2 then
      some (x1, x2)
    else
      ((s_Mod_hullNext F mnow medg x2)).bind fun v3 =>
      if v3 < 0 then
        s_Mod_hullEdges_L4 F mnow medg n x1 (x2 + (1 : Int32))
      else
        s_Mod_hullEdges_L4 F mnow medg n (x1 + (1 : Int32)) (x2 + (1 : Int32))
def s_Mod_hullEdges (F : Nat) (mnow : Nat → Int32) (medg : Nat → Int32) : Option (Int32) :=
  (s_Mod_hullEdges_L4 F mnow medg F (0 : Int32) (0 : Int32)).bind fun o5x =>
  some o5x.1
def s_Mod_hullSize (F : Nat) (mnow : Nat → Int32) (medg : Nat → Int32) (mcor : Nat → Int32) : Option (Int32 × Int32 × (Nat → Int32) × (Nat → Int32) × Int32) :=
  ((s_Mod_builds F mnow medg mcor)).bind fun v1 =>
  ((s_Mod_hullEdges F mnow v1.1)).bind fun v2 =>
  some (v2, (0 : Int32), v1.1, v1.2.1, v1.2.2)
def s_Mod_hullPoint_L31 (F : Nat) (mnow : Nat → Int32) (medg : Nat → Int32) : Nat → Int32 → Option (Int32)
  | 0, _ => none
  | n + 1, x2 =>
    ((s_Mod_hullNext F mnow medg x2)).bind fun v4 =>
    if 0 ≤ v4 then
      some x2
    else
      s_Mod_hullPoint_L31 F mnow medg n (x2 + (1 : Int32))
def s_Mod_hullPoint_L47 (F : Nat) (mnow : Nat → Int32) (medg : Nat → Int32) (x1 : Int32) : Nat → Int32 → Int32 → Option (Int32 × Int32)
  | 0, _, _ => none
  | n + 1, x2, x3 =>
    if x1 ≤ x3 then
      some (x2, x3)
    else
      ((s_Mod_hullNext F mnow medg x2)).bind fun v8 =>
      s_Mod_hullPoint_L47 F mnow medg x1 n v8 (x3 + (1 : Int32))
def s_Mod_hullPoint (F : Nat) (mnow : Nat → Int32) (medg : Nat → Int32) (mcor : Nat → Int32) (a0 : Int32) : Option (Int32 × Int32 × (Nat → Int32) × (Nat → Int32) × Int32) :=
  ((s_Mod_builds F mnow medg mcor)).bind fun v1 =>
  ((s_Mod_hullEdges F mnow v1.1)).bind fun v2 =>
  if (bI (s_Mod_in a0 (0 : Int32) (v2 - (1 : Int32)))) = 0 then
    some ((s_Mod_raises (1 : Int32)).1, (s_Mod_raises (1 : Int32)).2, v1.1, v1.2.1, v1.2.2)
  else
    (s_Mod_hullPoint_L31 F mnow v1.1 F (0 : Int32)).bind fun o6x =>
    (s_Mod_hullPoint_L47 F mnow v1.1 a0 F o6x (0 : Int32)).bind fun o9x =>
    some (o9x.1, (0 : Int32), v1.1, v1.2.1, v1.2.2)
def s_Mod_twiceArea (F : Nat) (mnow : Nat → Int32) (medg : Nat → Int32) (mcor : Nat → Int32) (a0 : Int32) : Option (Int32 × Int32 × (Nat → Int32) × (Nat → Int32) × Int32) :=
  ((s_Mod_isTriangle F mnow medg mcor a0)).bind fun v1 =>
  if (bI v1.1) = 0 then
    some ((s_Mod_raises (1 : Int32)).1, (s_Mod_raises (1 : Int32)).2, v1.2.1, v1.2.2.1, v1.2.2.2)
  else
    ((s_Mod_areaOf mnow v1.2.2.1 a0)).bind fun v3 =>
    some (v3, (0 : Int32), v1.2.1, v1.2.2.1, v1.2.2.2)
def s_Mod_areaShare_L24 (mnow : Nat → Int32) (mcor : Nat → Int32) (mtri : Int32) : Nat → Int32 → Int32 → Option (Int32 × Int32)
  | 0, _, _ => none
  | n + 1, x2, x3 =>
    if mtri ≤ x3 then
      some (x2, x3)
    else
      ((s_Mod_areaOf mnow mcor x3)).bind fun v4 =>
      s_Mod_areaShare_L24 mnow mcor mtri n (x2 + v4) (x3 + (1 : Int32))
def s_Mod_areaShare (F : Nat) (mnow : Nat → Int32) (medg : Nat → Int32) (mcor : Nat → Int32) (a0 : Int32) : Option (UInt64 × Int32 × (Nat → Int32) × (Nat → Int32) × Int32) :=
  ((s_Mod_isTriangle F mnow medg mcor a0)).bind fun v1 =>
  if (bI v1.1) = 0 then
    some ((FP.i2d ((s_Mod_raises (1 : Int32)).1)), (s_Mod_raises (1 : Int32)).2, v1.2.1, v1.2.2.1, v1.2.2.2)
  else
    (s_Mod_areaShare_L24 mnow v1.2.2.1 v1.2.2.2 F (0 : Int32) (0 : Int32)).bind fun o5x =>
    ((s_Mod_areaOf mnow v1.2.2.1 a0)).bind fun v6 =>
    (ddivO (FP.i2d v6) (FP.i2d o5x.1)).bind fun v7 =>
    some (v7, (0 : Int32), v1.2.1, v1.2.2.1, v1.2.2.2)
def s_Mod_meanDegree (F : Nat) (mnow : Nat → Int32) (medg : Nat → Int32) (mcor : Nat → Int32) (mtri : Int32) : Option (UInt64 × Int32 × (Nat → Int32) × (Nat → Int32) × Int32) :=
  ((s_Mod_n mnow)).bind fun v1 =>
  if v1 = 0 then
    some ((FP.i2d ((s_Mod_raises (1 : Int32)).1)), (s_Mod_raises (1 : Int32)).2, medg, mcor, mtri)
  else
    ((s_Mod_builds F mnow medg mcor)).bind fun v3 =>
    ((s_Mod_edgeTotal F mnow v3.1)).bind fun v4 =>
    ((s_Mod_n mnow)).bind fun v5 =>
    (ddivO (FP.i2d ((2 : Int32) * v4)) (FP.i2d v5)).bind fun v6 =>
    some (v6, (0 : Int32), v3.1, v3.2.1, v3.2.2)
def s_Mod_square (mnow : Nat → Int32) (a0 : Int32) (a1 : Int32) : Option (Int32) :=
  ((s_Mod_x mnow a0)).bind fun v1 =>
  ((s_Mod_x mnow a1)).bind fun v2 =>
  ((s_Mod_x mnow a0)).bind fun v3 =>
  ((s_Mod_x mnow a1)).bind fun v4 =>
  ((s_Mod_y mnow a0)).bind fun v5 =>
  ((s_Mod_y mnow a1)).bind fun v6 =>
  ((s_Mod_y mnow a0)).bind fun v7 =>
  ((s_Mod_y mnow a1)).bind fun v8 =>
  some (((v1 - v2) * (v3 - v4)) + ((v5 - v6) * (v7 - v8)))
def s_Mod_connects_L2 (mnow : Nat → Int32) : Nat → Int32 → (Nat → Int32) → Option (Int32 × (Nat → Int32))
  | 0, _, _ => none
  | n + 1, x1, mmet =>
    ((s_Mod_n mnow)).bind fun v1 =>
    if v1 ≤ x1 then
      some (x1, mmet)
    else
      if x1 = 0 then
        (aset 17 mmet x1 (vp_nar .boolean (1 : Int32))).bind fun v5 =>
        s_Mod_connects_L2 mnow n (x1 + (1 : Int32)) v5
      else
        (aset 17 mmet x1 (vp_nar .boolean (0 : Int32))).bind fun v4 =>
        s_Mod_connects_L2 mnow n (x1 + (1 : Int32)) v4
def s_Mod_connects_L64 (mnow : Nat → Int32) (medg : Nat → Int32) (mmet : Nat → Int32) (x5 : Int32) : Nat → Int32 → Int32 → Int32 → Option (Int32 × Int32 × Int32)
  | 0, _, _, _ => none
  | n + 1, x3, x4, x6 =>
    ((s_Mod_n mnow)).bind fun v11 =>
    if v11 ≤ x6 then
      some (x3, x4, x6)
    else
      (aget 17 mmet x5).bind fun v13 =>
      if v13 = 0 then
        s_Mod_connects_L64 mnow medg mmet x5 n x3 x4 (x6 + (1 : Int32))
      else
        (aget 17 mmet x6).bind fun v15 =>
        if v15 = 0 then
          ((s_Mod_has medg x5 x6)).bind fun v17 =>
          if (bI v17) = 0 then
            s_Mod_connects_L64 mnow medg mmet x5 n x3 x4 (x6 + (1 : Int32))
          else
            ((s_Mod_square mnow x5 x6)).bind fun v19 =>
            if v19 < x3 then
              ((s_Mod_square mnow x5 x6)).bind fun v21 =>
              s_Mod_connects_L64 mnow medg mmet x5 n v21 x6 (x6 + (1 : Int32))
            else
              s_Mod_connects_L64 mnow medg mmet x5 n x3 x4 (x6 + (1 : Int32))
        else
          s_Mod_connects_L64 mnow medg mmet x5 n x3 x4 (x6 + (1 : Int32))
def s_Mod_connects_L52 (F : Nat) (mnow : Nat → Int32) (medg : Nat → Int32) (mmet : Nat → Int32) : Nat → Int32 → Int32 → Int32 → Option (Int32 × Int32 × Int32)
  | 0, _, _, _ => none
  | n + 1, x3, x4, x5 =>
    ((s_Mod_n mnow)).bind fun v9 =>
    if v9 ≤ x5 then
      some (x3, x4, x5)
    else
      (s_Mod_connects_L64 mnow medg mmet x5 F x3 x4 (0 : Int32)).bind fun o22x =>
      s_Mod_connects_L52 F mnow medg mmet n o22x.1 o22x.2.1 (x5 + (1 : Int32))
def s_Mod_connects_L35 (F : Nat) (mnow : Nat → Int32) (medg : Nat → Int32) : Nat → Int32 → Int32 → (Nat → Int32) → Option (Int32 × Int32 × (Nat → Int32))
  | 0, _, _, _ => none
  | n + 1, x1, x2, mmet =>
    ((s_Mod_n mnow)).bind fun v7 =>
    if v7 ≤ x2 then
      some (x1, x2, mmet)
    else
      (s_Mod_connects_L52 F mnow medg mmet F (2147483647 : Int32) (0 : Int32) (0 : Int32)).bind fun o23x =>
      (aset 17 mmet o23x.2.1 (vp_nar .boolean (1 : Int32))).bind fun v24 =>
      s_Mod_connects_L35 F mnow medg n (x1 + o23x.1) (x2 + (1 : Int32)) v24
def s_Mod_connects (F : Nat) (mnow : Nat → Int32) (medg : Nat → Int32) (mmet : Nat → Int32) : Option (Int32 × (Nat → Int32)) :=
  (s_Mod_connects_L2 mnow F (0 : Int32) mmet).bind fun o6x =>
  (s_Mod_connects_L35 F mnow medg F (0 : Int32) (1 : Int32) o6x.2).bind fun o25x =>
  some (o25x.1, o25x.2.2)
def s_Mod_squaredLength_L71 (mnow : Nat → Int32) (medg : Nat → Int32) (x1 : Int32) (x3 : Int32) : Nat → Int32 → Int32 → Option (Int32 × Int32)
  | 0, _, _ => none
  | n + 1, x2, x4 =>
    ((s_Mod_n mnow)).bind fun v9 =>
    if v9 ≤ x4 then
      some (x2, x4)
    else
      ((s_Mod_has medg x3 x4)).bind fun v11 =>
      if (bI v11) = 0 then
        s_Mod_squaredLength_L71 mnow medg x1 x3 n x2 (x4 + (1 : Int32))
      else
        if x1 = 0 then
          ((s_Mod_square mnow x3 x4)).bind fun v15 =>
          s_Mod_squaredLength_L71 mnow medg x1 x3 n (imin x2 v15) (x4 + (1 : Int32))
        else
          ((s_Mod_square mnow x3 x4)).bind fun v14 =>
          s_Mod_squaredLength_L71 mnow medg x1 x3 n (imax x2 v14) (x4 + (1 : Int32))
def s_Mod_squaredLength_L60 (F : Nat) (mnow : Nat → Int32) (medg : Nat → Int32) (x1 : Int32) : Nat → Int32 → Int32 → Option (Int32 × Int32)
  | 0, _, _ => none
  | n + 1, x2, x3 =>
    ((s_Mod_n mnow)).bind fun v7 =>
    if v7 ≤ x3 then
      some (x2, x3)
    else
      (s_Mod_squaredLength_L71 mnow medg x1 x3 F x2 (0 : Int32)).bind fun o16x =>
      s_Mod_squaredLength_L60 F mnow medg x1 n o16x.1 (x3 + (1 : Int32))
def s_Mod_squaredLength (F : Nat) (mnow : Nat → Int32) (medg : Nat → Int32) (mcor : Nat → Int32) (mtri : Int32) (mmet : Nat → Int32) (a0 : Int32) : Option (Int32 × Int32 × (Nat → Int32) × (Nat → Int32) × Int32 × (Nat → Int32)) :=
  if (bI (s_Mod_in a0 (0 : Int32) (2 : Int32))) = 0 then
    some ((s_Mod_raises (1 : Int32)).1, (s_Mod_raises (1 : Int32)).2, medg, mcor, mtri, mmet)
  else
    ((s_Mod_builds F mnow medg mcor)).bind fun v2 =>
    ((s_Mod_edgeTotal F mnow v2.1)).bind fun v3 =>
    if v3 = 0 then
      some ((s_Mod_raises (2 : Int32)).1, (s_Mod_raises (2 : Int32)).2, v2.1, v2.2.1, v2.2.2, mmet)
    else
      if a0 = (2 : Int32) then
        ((s_Mod_connects F mnow v2.1 mmet)).bind fun v19 =>
        some (v19.1, (0 : Int32), v2.1, v2.2.1, v2.2.2, v19.2)
      else
        if a0 = 0 then
          (s_Mod_squaredLength_L60 F mnow v2.1 a0 F (2147483647 : Int32) (0 : Int32)).bind fun o18x =>
          some (o18x.1, (0 : Int32), v2.1, v2.2.1, v2.2.2, mmet)
        else
          (s_Mod_squaredLength_L60 F mnow v2.1 a0 F (0 : Int32) (0 : Int32)).bind fun o17x =>
          some (o17x.1, (0 : Int32), v2.1, v2.2.1, v2.2.2, mmet)
def s_Mod_turn (mnow : Nat → Int32) (a0 : Int32) (a1 : Int32) (a2 : Int32) : Option (Int32 × Int32) :=
  ((s_Mod_isPoint mnow a0)).bind fun v1 =>
  if (bI v1) = 0 then
    some ((s_Mod_raises (1 : Int32)).1, (s_Mod_raises (1 : Int32)).2)
  else
    ((s_Mod_isPoint mnow a1)).bind fun v3 =>
    if (bI v3) = 0 then
      some ((s_Mod_raises (1 : Int32)).1, (s_Mod_raises (1 : Int32)).2)
    else
      ((s_Mod_isPoint mnow a2)).bind fun v5 =>
      if (bI v5) = 0 then
        some ((s_Mod_raises (1 : Int32)).1, (s_Mod_raises (1 : Int32)).2)
      else
        ((s_Mod_turns mnow a0 a1 a2)).bind fun v7 =>
        some (v7, (0 : Int32))
def s_Mod_inCircle (mnow : Nat → Int32) (a0 : Int32) (a1 : Int32) (a2 : Int32) (a3 : Int32) : Option (Int32 × Int32) :=
  ((s_Mod_isPoint mnow a0)).bind fun v1 =>
  if (bI v1) = 0 then
    some ((s_Mod_raises (1 : Int32)).1, (s_Mod_raises (1 : Int32)).2)
  else
    ((s_Mod_isPoint mnow a1)).bind fun v3 =>
    if (bI v3) = 0 then
      some ((s_Mod_raises (1 : Int32)).1, (s_Mod_raises (1 : Int32)).2)
    else
      ((s_Mod_isPoint mnow a2)).bind fun v5 =>
      if (bI v5) = 0 then
        some ((s_Mod_raises (1 : Int32)).1, (s_Mod_raises (1 : Int32)).2)
      else
        ((s_Mod_isPoint mnow a3)).bind fun v7 =>
        if (bI v7) = 0 then
          some ((s_Mod_raises (1 : Int32)).1, (s_Mod_raises (1 : Int32)).2)
        else
          ((s_Mod_turns mnow a0 a1 a2)).bind fun v9 =>
          if v9 = 0 then
            some ((s_Mod_raises (2 : Int32)).1, (s_Mod_raises (2 : Int32)).2)
          else
            ((s_Mod_circle mnow a0 a1 a2 a3)).bind fun v11 =>
            some (v11, (0 : Int32))
def s_Mod_goodOf (F : Nat) (mnow : Nat → Int32) (medg : Nat → Int32) (a0 : Int32) (a1 : Int32) : Option (Int32) :=
  ((s_Mod_apex F mnow medg a0 a1)).bind fun v1 =>
  ((s_Mod_apex F mnow medg a1 a0)).bind fun v2 =>
  if v1 < 0 then
    some (-1 : Int32)
  else
    if 0 ≤ v2 then
      ((s_Mod_good mnow a0 a1 v1 v2)).bind fun v5 =>
      if (bI v5) = 0 then
        some (0 : Int32)
      else
        some (1 : Int32)
    else
      some (-1 : Int32)
def s_Mod_isGood (F : Nat) (mnow : Nat → Int32) (medg : Nat → Int32) (mcor : Nat → Int32) (mnum : Nat → Int32) (a0 : Int32) : Option (Bool × Int32 × (Nat → Int32) × (Nat → Int32) × Int32 × (Nat → Int32)) :=
  ((s_Mod_builds F mnow medg mcor)).bind fun v1 =>
  ((s_Mod_edge F mnow v1.1 mnum a0)).bind fun v2 =>
  if (bI v2.1) = 0 then
    some (false, (1 : Int32), v1.1, v1.2.1, v1.2.2, v2.2)
  else
    (aget 2 v2.2 (0 : Int32)).bind fun v4 =>
    (aget 2 v2.2 (1 : Int32)).bind fun v5 =>
    ((s_Mod_goodOf F mnow v1.1 v4 v5)).bind fun v6 =>
    if 0 ≤ v6 then
      if v6 = (1 : Int32) then
        some (true, (0 : Int32), v1.1, v1.2.1, v1.2.2, v2.2)
      else
        some (false, (0 : Int32), v1.1, v1.2.1, v1.2.2, v2.2)
    else
      if v6 = (1 : Int32) then
        some (true, (2 : Int32), v1.1, v1.2.1, v1.2.2, v2.2)
      else
        some (false, (2 : Int32), v1.1, v1.2.1, v1.2.2, v2.2)
def s_Mod_forcedConstraints_L13 (F : Nat) (mnow : Nat → Int32) (medg : Nat → Int32) : Nat → Int32 → Int32 → Option (Int32 × Int32)
  | 0, _, _ => none
  | n + 1, x1, x2 =>
    ((s_Mod_m mnow)).bind fun v2 =>
    if v2 ≤ x2 then
      some (x1, x2)
    else
      ((s_Mod_end mnow x2 (0 : Int32))).bind fun v4 =>
      ((s_Mod_end mnow x2 (1 : Int32))).bind fun v5 =>
      ((s_Mod_goodOf F mnow medg v4 v5)).bind fun v6 =>
      if v6 = 0 then
        s_Mod_forcedConstraints_L13 F mnow medg n (x1 + (1 : Int32)) (x2 + (1 : Int32))
      else
        s_Mod_forcedConstraints_L13 F mnow medg n x1 (x2 + (1 : Int32))
def s_Mod_forcedConstraints (F : Nat) (mnow : Nat → Int32) (medg : Nat → Int32) (mcor : Nat → Int32) : Option (Int32 × Int32 × (Nat → Int32) × (Nat → Int32) × Int32) :=
  ((s_Mod_builds F mnow medg mcor)).bind fun v1 =>
  (s_Mod_forcedConstraints_L13 F mnow v1.1 F (0 : Int32) (0 : Int32)).bind fun o8x =>
  some (o8x.1, (0 : Int32), v1.1, v1.2.1, v1.2.2)
def s_Mod_away_L3 (mnow : Nat → Int32) (mcor : Nat → Int32) (x1 : Int32) (x2 : Int32) (x3 : Int32) : Nat → Int32 → Option ((Int32) ⊕ (Int32))
  | 0, _ => none
  | n + 1, x4 =>
    if (3 : Int32) ≤ x4 then
      some (.inr x4)
    else
      ((s_Mod_cornerOf mcor x1 x4)).bind fun v2 =>
      ((s_Mod_cornerOf mcor x1 (x4 + (1 : Int32)))).bind fun v3 =>
      ((s_Mod_x mnow v2)).bind fun v4 =>
      ((s_Mod_y mnow v2)).bind fun v5 =>
      ((s_Mod_x mnow v3)).bind fun v6 =>
      ((s_Mod_y mnow v3)).bind fun v7 =>
      if 0 ≤ (s_Mod_turnOf v4 v5 v6 v7 x2 x3) then
        s_Mod_away_L3 mnow mcor x1 x2 x3 n (x4 + (1 : Int32))
      else
        some (.inl x4)
def s_Mod_away (F : Nat) (mnow : Nat → Int32) (mcor : Nat → Int32) (a0 : Int32) (a1 : Int32) (a2 : Int32) : Option (Int32) :=
  (s_Mod_away_L3 mnow mcor a0 a1 a2 F (0 : Int32)).bind fun o9 =>
  Sum.elim (fun q_o =>
    some q_o) (fun o9x =>
    some (-1 : Int32)) o9
def s_Mod_thingAt_L6 (mnow : Nat → Int32) (medg : Nat → Int32) (mcor : Nat → Int32) (mtri : Int32) (x1 : Int32) (x2 : Int32) : Nat → Int32 → Option ((Int32 × (Nat → Int32) × (Nat → Int32) × Int32) ⊕ (Int32))
  | 0, _ => none
  | n + 1, x3 =>
    ((s_Mod_n mnow)).bind fun v2 =>
    if v2 ≤ x3 then
      some (.inr x3)
    else
      ((s_Mod_x mnow x3)).bind fun v4 =>
      if v4 = x1 then
        ((s_Mod_y mnow x3)).bind fun v6 =>
        if v6 = x2 then
          some (.inl (((10000 : Int32) + x3), medg, mcor, mtri))
        else
          s_Mod_thingAt_L6 mnow medg mcor mtri x1 x2 n (x3 + (1 : Int32))
      else
        s_Mod_thingAt_L6 mnow medg mcor mtri x1 x2 n (x3 + (1 : Int32))
def s_Mod_thingAt_L59 (F : Nat) (mnow : Nat → Int32) (medg : Nat → Int32) (mcor : Nat → Int32) (mtri : Int32) (x1 : Int32) (x2 : Int32) (x3 : Int32) : Nat → Int32 → Option ((Int32 × (Nat → Int32) × (Nat → Int32) × Int32) ⊕ (Int32))
  | 0, _ => none
  | n + 1, x4 =>
    ((s_Mod_n mnow)).bind fun v11 =>
    if v11 ≤ x4 then
      some (.inr x4)
    else
      ((s_Mod_has medg x3 x4)).bind fun v13 =>
      if (bI v13) = 0 then
        s_Mod_thingAt_L59 F mnow medg mcor mtri x1 x2 x3 n (x4 + (1 : Int32))
      else
        ((s_Mod_isOn mnow x3 x4 x1 x2)).bind fun v15 =>
        if (bI v15) = 0 then
          s_Mod_thingAt_L59 F mnow medg mcor mtri x1 x2 x3 n (x4 + (1 : Int32))
        else
          ((s_Mod_numberOf F mnow medg x3 x4)).bind fun v17 =>
          some (.inl (((20000 : Int32) + v17), medg, mcor, mtri))
def s_Mod_thingAt_L46 (F : Nat) (mnow : Nat → Int32) (medg : Nat → Int32) (mcor : Nat → Int32) (mtri : Int32) (x1 : Int32) (x2 : Int32) : Nat → Int32 → Option ((Int32 × (Nat → Int32) × (Nat → Int32) × Int32) ⊕ (Int32))
  | 0, _ => none
  | n + 1, x3 =>
    ((s_Mod_n mnow)).bind fun v9 =>
    if v9 ≤ x3 then
      some (.inr x3)
    else
      (s_Mod_thingAt_L59 F mnow medg mcor mtri x1 x2 x3 F (x3 + (1 : Int32))).bind fun o18 =>
      Sum.elim (fun q_o =>
        some (.inl q_o)) (fun o18x =>
        s_Mod_thingAt_L46 F mnow medg mcor mtri x1 x2 n (x3 + (1 : Int32))) o18
def s_Mod_thingAt_L116 (F : Nat) (mnow : Nat → Int32) (medg : Nat → Int32) (mcor : Nat → Int32) (mtri : Int32) (x1 : Int32) (x2 : Int32) : Nat → Int32 → Option ((Int32 × (Nat → Int32) × (Nat → Int32) × Int32) ⊕ (Int32))
  | 0, _ => none
  | n + 1, x3 =>
    if mtri ≤ x3 then
      some (.inr x3)
    else
      ((s_Mod_away F mnow mcor x3 x1 x2)).bind fun v21 =>
      if 0 ≤ v21 then
        s_Mod_thingAt_L116 F mnow medg mcor mtri x1 x2 n (x3 + (1 : Int32))
      else
        some (.inl (((30000 : Int32) + x3), medg, mcor, mtri))
def s_Mod_thingAt (F : Nat) (mnow : Nat → Int32) (medg : Nat → Int32) (mcor : Nat → Int32) (a0 : Int32) (a1 : Int32) : Option (Int32 × (Nat → Int32) × (Nat → Int32) × Int32) :=
  ((s_Mod_builds F mnow medg mcor)).bind fun v1 =>
  (s_Mod_thingAt_L6 mnow v1.1 v1.2.1 v1.2.2 a0 a1 F (0 : Int32)).bind fun o8 =>
  Sum.elim (fun q_o =>
    some q_o) (fun o8x =>
    (s_Mod_thingAt_L46 F mnow v1.1 v1.2.1 v1.2.2 a0 a1 F (0 : Int32)).bind fun o19 =>
    Sum.elim (fun q_o =>
      some q_o) (fun o19x =>
      (s_Mod_thingAt_L116 F mnow v1.1 v1.2.1 v1.2.2 a0 a1 F (0 : Int32)).bind fun o23 =>
      Sum.elim (fun q_o =>
        some q_o) (fun o23x =>
        some ((0 : Int32), v1.1, v1.2.1, v1.2.2)) o23) o19) o8
def s_Mod_kindAt (F : Nat) (mnow : Nat → Int32) (medg : Nat → Int32) (mcor : Nat → Int32) (mtri : Int32) (a0 : Int32) (a1 : Int32) : Option (Int32 × Int32 × (Nat → Int32) × (Nat → Int32) × Int32) :=
  if (bI (s_Mod_isPlace a0 a1)) = 0 then
    some ((s_Mod_raises (1 : Int32)).1, (s_Mod_raises (1 : Int32)).2, medg, mcor, mtri)
  else
    ((s_Mod_thingAt F mnow medg mcor a0 a1)).bind fun v2 =>
    some ((v2.1 / (10000 : Int32)), (0 : Int32), v2.2.1, v2.2.2.1, v2.2.2.2)
def s_Mod_numberAt (F : Nat) (mnow : Nat → Int32) (medg : Nat → Int32) (mcor : Nat → Int32) (mtri : Int32) (a0 : Int32) (a1 : Int32) : Option (Int32 × Int32 × (Nat → Int32) × (Nat → Int32) × Int32) :=
  if (bI (s_Mod_isPlace a0 a1)) = 0 then
    some ((s_Mod_raises (1 : Int32)).1, (s_Mod_raises (1 : Int32)).2, medg, mcor, mtri)
  else
    ((s_Mod_thingAt F mnow medg mcor a0 a1)).bind fun v2 =>
    if v2.1 = 0 then
      some ((s_Mod_raises (2 : Int32)).1, (s_Mod_raises (2 : Int32)).2, v2.2.1, v2.2.2.1, v2.2.2.2)
    else
      some ((v2.1 - v2.1 / (10000 : Int32) * (10000 : Int32)), (0 : Int32), v2.2.1, v2.2.2.1, v2.2.2.2)
def s_Mod_walk_L39 (F : Nat) (mthr : Int32) (mnow : Nat → Int32) (medg : Nat → Int32) (mcor : Nat → Int32) (mtri : Int32) (x2 : Int32) (x3 : Int32) (x4 : Bool) : Nat → Int32 → Int32 → Option (Int32 × Int32 × (Nat → Int32) × (Nat → Int32) × Int32)
  | 0, _, _ => none
  | n + 1, x5, x6 =>
    ((s_Mod_away F mnow mcor x5 x2 x3)).bind fun v4 =>
    if 0 ≤ v4 then
      ((s_Mod_beyondOf F mnow medg mcor mtri x5 v4)).bind fun v6 =>
      if v6 < 0 then
        if (bI x4) = 0 then
          some (x6, mthr, medg, mcor, mtri)
        else
          some ((-1 : Int32), mthr, medg, mcor, mtri)
      else
        if x6 = (50 : Int32) then
          if (bI x4) = 0 then
            some (x6, mthr, medg, mcor, mtri)
          else
            some ((-1 : Int32), mthr, medg, mcor, mtri)
        else
          s_Mod_walk_L39 F mthr mnow medg mcor mtri x2 x3 x4 n v6 (x6 + (1 : Int32))
    else
      if (bI x4) = 0 then
        some (x6, mthr, medg, mcor, mtri)
      else
        some (x5, mthr, medg, mcor, mtri)
def s_Mod_walk (F : Nat) (mnow : Nat → Int32) (medg : Nat → Int32) (mcor : Nat → Int32) (a0 : Int32) (a1 : Int32) (a2 : Int32) (a3 : Bool) : Option (Int32 × Int32 × (Nat → Int32) × (Nat → Int32) × Int32) :=
  ((s_Mod_isTriangle F mnow medg mcor a0)).bind fun v1 =>
  if (bI v1.1) = 0 then
    some ((s_Mod_raises (1 : Int32)).1, (s_Mod_raises (1 : Int32)).2, v1.2.1, v1.2.2.1, v1.2.2.2)
  else
    if (bI (s_Mod_isPlace a1 a2)) = 0 then
      some ((s_Mod_raises (2 : Int32)).1, (s_Mod_raises (2 : Int32)).2, v1.2.1, v1.2.2.1, v1.2.2.2)
    else
      (s_Mod_walk_L39 F (0 : Int32) mnow v1.2.1 v1.2.2.1 v1.2.2.2 a1 a2 a3 F a0 (0 : Int32)).bind fun q_o =>
      some q_o
def s_Mod_keeps_L2 (mnow : Nat → Int32) : Nat → Int32 → (Nat → Int32) → Option (Int32 × (Nat → Int32))
  | 0, _, _ => none
  | n + 1, x1, mwor =>
    if (56 : Int32) ≤ x1 then
      some (x1, mwor)
    else
      (aget 56 mnow x1).bind fun v2 =>
      (aset 56 mwor x1 v2).bind fun v3 =>
      s_Mod_keeps_L2 mnow n (x1 + (1 : Int32)) v3
def s_Mod_keeps_L28 (mcor : Nat → Int32) (mtri : Int32) : Nat → Int32 → (Nat → Int32) → Option (Int32 × (Nat → Int32))
  | 0, _, _ => none
  | n + 1, x1, mkep =>
    if ((3 : Int32) * mtri) ≤ x1 then
      some (x1, mkep)
    else
      (aget 120 mcor x1).bind fun v6 =>
      (aset 120 mkep x1 v6).bind fun v7 =>
      s_Mod_keeps_L28 mcor mtri n (x1 + (1 : Int32)) v7
def s_Mod_keeps_L58 (medg : Nat → Int32) : Nat → Int32 → (Nat → Int32) → Option (Int32 × (Nat → Int32))
  | 0, _, _ => none
  | n + 1, x1, mkee =>
    if (289 : Int32) ≤ x1 then
      some (x1, mkee)
    else
      (aget 289 medg x1).bind fun v10 =>
      (aset 289 mkee x1 (vp_nar .boolean v10)).bind fun v11 =>
      s_Mod_keeps_L58 medg n (x1 + (1 : Int32)) v11
def s_Mod_keeps (F : Nat) (mnow : Nat → Int32) (medg : Nat → Int32) (mcor : Nat → Int32) (mtri : Int32) (mkep : Nat → Int32) (mkee : Nat → Int32) (mwor : Nat → Int32) : Option ((Nat → Int32) × (Nat → Int32) × (Nat → Int32)) :=
  (s_Mod_keeps_L2 mnow F (0 : Int32) mwor).bind fun o4x =>
  (s_Mod_keeps_L28 mcor mtri F (0 : Int32) mkep).bind fun o8x =>
  (s_Mod_keeps_L58 medg F (0 : Int32) mkee).bind fun o12x =>
  some (o8x.2, o12x.2, o4x.2)
def s_Mod_goesBack_L2 (mwor : Nat → Int32) : Nat → Int32 → (Nat → Int32) → Option (Int32 × (Nat → Int32))
  | 0, _, _ => none
  | n + 1, x1, mnow =>
    if (56 : Int32) ≤ x1 then
      some (x1, mnow)
    else
      (aget 56 mwor x1).bind fun v2 =>
      (aset 56 mnow x1 v2).bind fun v3 =>
      s_Mod_goesBack_L2 mwor n (x1 + (1 : Int32)) v3
def s_Mod_goesBack (F : Nat) (mnow : Nat → Int32) (mwor : Nat → Int32) : Option ((Nat → Int32)) :=
  (s_Mod_goesBack_L2 mwor F (0 : Int32) mnow).bind fun o4x =>
  some o4x.2
def s_Mod_cavity_L62 (F : Nat) (mcor : Nat → Int32) (mtri : Int32) (mkep : Nat → Int32) (x3 : Int32) : Nat → Int32 → Int32 → Option (Int32 × Int32)
  | 0, _, _ => none
  | n + 1, x4, x5 =>
    if x3 ≤ x5 then
      some (x4, x5)
    else
      (aget 120 mkep ((3 : Int32) * x5)).bind fun v11 =>
      (aget 120 mkep (((3 : Int32) * x5) + (1 : Int32))).bind fun v12 =>
      (aget 120 mkep (((3 : Int32) * x5) + (2 : Int32))).bind fun v13 =>
      ((s_Mod_triangleOf F mcor mtri v11 v12 v13)).bind fun v14 =>
      if 0 ≤ v14 then
        s_Mod_cavity_L62 F mcor mtri mkep x3 n x4 (x5 + (1 : Int32))
      else
        s_Mod_cavity_L62 F mcor mtri mkep x3 n (x4 + (1 : Int32)) (x5 + (1 : Int32))
def s_Mod_cavity (F : Nat) (mnow : Nat → Int32) (medg : Nat → Int32) (mcor : Nat → Int32) (mtri : Int32) (mkep : Nat → Int32) (mkee : Nat → Int32) (mwor : Nat → Int32) (a0 : Int32) (a1 : Int32) : Option (Int32 × Int32 × (Nat → Int32) × (Nat → Int32) × (Nat → Int32) × Int32 × (Nat → Int32) × (Nat → Int32) × (Nat → Int32)) :=
  ((s_Mod_whyNot F mnow a0 a1)).bind fun v1 =>
  if v1 ≤ 0 then
    ((s_Mod_builds F mnow medg mcor)).bind fun v3 =>
    ((s_Mod_keeps F mnow v3.1 v3.2.1 v3.2.2 mkep mkee mwor)).bind fun v4 =>
    ((s_Mod_n mnow)).bind fun v5 =>
    ((s_Mod_sets mnow v5 a0 a1)).bind fun v6 =>
    (aget 56 v6 (0 : Int32)).bind fun v7 =>
    (aset 56 v6 (0 : Int32) (v7 + (1 : Int32))).bind fun v8 =>
    ((s_Mod_builds F v8 v3.1 v3.2.1)).bind fun v9 =>
    (s_Mod_cavity_L62 F v9.2.1 v9.2.2 v4.1 v3.2.2 F (0 : Int32) (0 : Int32)).bind fun o16x =>
    ((s_Mod_goesBack F v8 v4.2.2)).bind fun v17 =>
    some (o16x.1, v1, v17, v9.1, v9.2.1, v9.2.2, v4.1, v4.2.1, v4.2.2)
  else
    some ((0 : Int32), v1, mnow, medg, mcor, mtri, mkep, mkee, mwor)
def s_Mod_hole_L60 (F : Nat) (mcor : Nat → Int32) (mtri : Int32) (mkep : Nat → Int32) (x1 : Int32) (x2 : Int32) : Nat → Int32 → Int32 → Option (Int32 × Int32)
  | 0, _, _ => none
  | n + 1, x3, x4 =>
    if x2 ≤ x4 then
      some (x3, x4)
    else
      (aget 120 mkep ((3 : Int32) * x4)).bind fun v10 =>
      (aget 120 mkep (((3 : Int32) * x4) + (1 : Int32))).bind fun v11 =>
      (aget 120 mkep (((3 : Int32) * x4) + (2 : Int32))).bind fun v12 =>
      if v10 = x1 then
        s_Mod_hole_L60 F mcor mtri mkep x1 x2 n x3 (x4 + (1 : Int32))
      else
        if v11 = x1 then
          s_Mod_hole_L60 F mcor mtri mkep x1 x2 n x3 (x4 + (1 : Int32))
        else
          if v12 = x1 then
            s_Mod_hole_L60 F mcor mtri mkep x1 x2 n x3 (x4 + (1 : Int32))
          else
            if v10 ≤ x1 then
              if v11 ≤ x1 then
                if v12 ≤ x1 then
                  ((s_Mod_triangleOf F mcor mtri v10 v11 v12)).bind fun v19 =>
                  if v19 < 0 then
                    s_Mod_hole_L60 F mcor mtri mkep x1 x2 n x3 (x4 + (1 : Int32))
                  else
                    s_Mod_hole_L60 F mcor mtri mkep x1 x2 n (x3 + (1 : Int32)) (x4 + (1 : Int32))
                else
                  ((s_Mod_triangleOf F mcor mtri v10 v11 (v12 - (1 : Int32)))).bind fun v21 =>
                  if v21 < 0 then
                    s_Mod_hole_L60 F mcor mtri mkep x1 x2 n x3 (x4 + (1 : Int32))
                  else
                    s_Mod_hole_L60 F mcor mtri mkep x1 x2 n (x3 + (1 : Int32)) (x4 + (1 : Int32))
              else
                if v12 ≤ x1 then
                  ((s_Mod_triangleOf F mcor mtri v10 (v11 - (1 : Int32)) v12)).bind fun v24 =>
                  if v24 < 0 then
                    s_Mod_hole_L60 F mcor mtri mkep x1 x2 n x3 (x4 + (1 : Int32))
                  else
                    s_Mod_hole_L60 F mcor mtri mkep x1 x2 n (x3 + (1 : Int32)) (x4 + (1 : Int32))
                else
                  ((s_Mod_triangleOf F mcor mtri v10 (v11 - (1 : Int32)) (v12 - (1 : Int32)))).bind fun v26 =>
                  if v26 < 0 then
                    s_Mod_hole_L60 F mcor mtri mkep x1 x2 n x3 (x4 + (1 : Int32))
                  else
                    s_Mod_hole_L60 F mcor mtri mkep x1 x2 n (x3 + (1 : Int32)) (x4 + (1 : Int32))
            else
              if v11 ≤ x1 then
                if v12 ≤ x1 then
                  ((s_Mod_triangleOf F mcor mtri (v10 - (1 : Int32)) v11 v12)).bind fun v30 =>
                  if v30 < 0 then
                    s_Mod_hole_L60 F mcor mtri mkep x1 x2 n x3 (x4 + (1 : Int32))
                  else
                    s_Mod_hole_L60 F mcor mtri mkep x1 x2 n (x3 + (1 : Int32)) (x4 + (1 : Int32))
                else
                  ((s_Mod_triangleOf F mcor mtri (v10 - (1 : Int32)) v11 (v12 - (1 : Int32)))).bind fun v32 =>
                  if v32 < 0 then
                    s_Mod_hole_L60 F mcor mtri mkep x1 x2 n x3 (x4 + (1 : Int32))
                  else
                    s_Mod_hole_L60 F mcor mtri mkep x1 x2 n (x3 + (1 : Int32)) (x4 + (1 : Int32))
              else
                if v12 ≤ x1 then
                  ((s_Mod_triangleOf F mcor mtri (v10 - (1 : Int32)) (v11 - (1 : Int32)) v12)).bind fun v35 =>
                  if v35 < 0 then
                    s_Mod_hole_L60 F mcor mtri mkep x1 x2 n x3 (x4 + (1 : Int32))
                  else
                    s_Mod_hole_L60 F mcor mtri mkep x1 x2 n (x3 + (1 : Int32)) (x4 + (1 : Int32))
                else
                  ((s_Mod_triangleOf F mcor mtri (v10 - (1 : Int32)) (v11 - (1 : Int32)) (v12 - (1 : Int32)))).bind fun v37 =>
                  if v37 < 0 then
                    s_Mod_hole_L60 F mcor mtri mkep x1 x2 n x3 (x4 + (1 : Int32))
                  else
                    s_Mod_hole_L60 F mcor mtri mkep x1 x2 n (x3 + (1 : Int32)) (x4 + (1 : Int32))
def s_Mod_hole (F : Nat) (mnow : Nat → Int32) (medg : Nat → Int32) (mcor : Nat → Int32) (mtri : Int32) (mkep : Nat → Int32) (mkee : Nat → Int32) (mwor : Nat → Int32) (a0 : Int32) : Option (Int32 × Int32 × (Nat → Int32) × (Nat → Int32) × (Nat → Int32) × Int32 × (Nat → Int32) × (Nat → Int32) × (Nat → Int32)) :=
  ((s_Mod_isPoint mnow a0)).bind fun v1 =>
  if (bI v1) = 0 then
    some ((s_Mod_raises (1 : Int32)).1, (s_Mod_raises (1 : Int32)).2, mnow, medg, mcor, mtri, mkep, mkee, mwor)
  else
    ((s_Mod_isEnd F mnow a0)).bind fun v3 =>
    if (bI v3) = 0 then
      ((s_Mod_builds F mnow medg mcor)).bind fun v5 =>
      ((s_Mod_keeps F mnow v5.1 v5.2.1 v5.2.2 mkep mkee mwor)).bind fun v6 =>
      ((s_Mod_drops F mnow a0)).bind fun v7 =>
      ((s_Mod_builds F v7 v5.1 v5.2.1)).bind fun v8 =>
      (s_Mod_hole_L60 F v8.2.1 v8.2.2 v6.1 a0 v5.2.2 F (0 : Int32) (0 : Int32)).bind fun o39x =>
      ((s_Mod_goesBack F v7 v6.2.2)).bind fun v40 =>
      some ((v8.2.2 - o39x.1), (0 : Int32), v40, v8.1, v8.2.1, v8.2.2, v6.1, v6.2.1, v6.2.2)
    else
      some ((s_Mod_raises (2 : Int32)).1, (s_Mod_raises (2 : Int32)).2, mnow, medg, mcor, mtri, mkep, mkee, mwor)
def s_Mod_crossings_L62 (mnow : Nat → Int32) (medg : Nat → Int32) (x1 : Int32) (x2 : Int32) (x4 : Int32) : Nat → Int32 → Int32 → Option (Int32 × Int32)
  | 0, _, _ => none
  | n + 1, x3, x5 =>
    ((s_Mod_n mnow)).bind fun v9 =>
    if v9 ≤ x5 then
      some (x3, x5)
    else
      ((s_Mod_has medg x4 x5)).bind fun v11 =>
      if (bI v11) = 0 then
        s_Mod_crossings_L62 mnow medg x1 x2 x4 n x3 (x5 + (1 : Int32))
      else
        ((s_Mod_cross mnow x1 x2 x4 x5)).bind fun v13 =>
        if (bI v13) = 0 then
          s_Mod_crossings_L62 mnow medg x1 x2 x4 n x3 (x5 + (1 : Int32))
        else
          s_Mod_crossings_L62 mnow medg x1 x2 x4 n (x3 + (1 : Int32)) (x5 + (1 : Int32))
def s_Mod_crossings_L47 (F : Nat) (mnow : Nat → Int32) (medg : Nat → Int32) (x1 : Int32) (x2 : Int32) : Nat → Int32 → Int32 → Option (Int32 × Int32)
  | 0, _, _ => none
  | n + 1, x3, x4 =>
    ((s_Mod_n mnow)).bind fun v7 =>
    if v7 ≤ x4 then
      some (x3, x4)
    else
      (s_Mod_crossings_L62 mnow medg x1 x2 x4 F x3 (x4 + (1 : Int32))).bind fun o15x =>
      s_Mod_crossings_L47 F mnow medg x1 x2 n o15x.1 (x4 + (1 : Int32))
def s_Mod_crossings (F : Nat) (mnow : Nat → Int32) (medg : Nat → Int32) (mcor : Nat → Int32) (mtri : Int32) (a0 : Int32) (a1 : Int32) : Option (Int32 × Int32 × (Nat → Int32) × (Nat → Int32) × Int32) :=
  ((s_Mod_isPoint mnow a0)).bind fun v1 =>
  if (bI v1) = 0 then
    some ((s_Mod_raises (1 : Int32)).1, (s_Mod_raises (1 : Int32)).2, medg, mcor, mtri)
  else
    ((s_Mod_isPoint mnow a1)).bind fun v3 =>
    if (bI v3) = 0 then
      some ((s_Mod_raises (1 : Int32)).1, (s_Mod_raises (1 : Int32)).2, medg, mcor, mtri)
    else
      if a0 = a1 then
        some ((s_Mod_raises (2 : Int32)).1, (s_Mod_raises (2 : Int32)).2, medg, mcor, mtri)
      else
        ((s_Mod_builds F mnow medg mcor)).bind fun v6 =>
        (s_Mod_crossings_L47 F mnow v6.1 a0 a1 F (0 : Int32) (0 : Int32)).bind fun o16x =>
        some (o16x.1, (0 : Int32), v6.1, v6.2.1, v6.2.2)
def s_Mod_effect_L53 (mnow : Nat → Int32) (medg : Nat → Int32) (mkee : Nat → Int32) (x3 : Int32) : Nat → Int32 → Int32 → Option (Int32 × Int32)
  | 0, _, _ => none
  | n + 1, x2, x4 =>
    ((s_Mod_n mnow)).bind fun v9 =>
    if v9 ≤ x4 then
      some (x2, x4)
    else
      (aget 289 mkee (((17 : Int32) * x3) + x4)).bind fun v11 =>
      if v11 = 0 then
        s_Mod_effect_L53 mnow medg mkee x3 n x2 (x4 + (1 : Int32))
      else
        ((s_Mod_has medg x3 x4)).bind fun v13 =>
        if (bI v13) = 0 then
          s_Mod_effect_L53 mnow medg mkee x3 n (x2 + (1 : Int32)) (x4 + (1 : Int32))
        else
          s_Mod_effect_L53 mnow medg mkee x3 n x2 (x4 + (1 : Int32))
def s_Mod_effect_L40 (F : Nat) (mnow : Nat → Int32) (medg : Nat → Int32) (mkee : Nat → Int32) : Nat → Int32 → Int32 → Option (Int32 × Int32)
  | 0, _, _ => none
  | n + 1, x2, x3 =>
    ((s_Mod_n mnow)).bind fun v7 =>
    if v7 ≤ x3 then
      some (x2, x3)
    else
      (s_Mod_effect_L53 mnow medg mkee x3 F x2 (x3 + (1 : Int32))).bind fun o15x =>
      s_Mod_effect_L40 F mnow medg mkee n o15x.1 (x3 + (1 : Int32))
def s_Mod_effect (F : Nat) (mnow : Nat → Int32) (medg : Nat → Int32) (mcor : Nat → Int32) (mtri : Int32) (mkep : Nat → Int32) (mkee : Nat → Int32) (mwor : Nat → Int32) (a0 : Int32) : Option (Int32 × Int32 × (Nat → Int32) × (Nat → Int32) × (Nat → Int32) × Int32 × (Nat → Int32) × (Nat → Int32) × (Nat → Int32)) :=
  ((s_Mod_isConstraint mnow a0)).bind fun v1 =>
  if (bI v1) = 0 then
    some ((s_Mod_raises (1 : Int32)).1, (s_Mod_raises (1 : Int32)).2, mnow, medg, mcor, mtri, mkep, mkee, mwor)
  else
    ((s_Mod_builds F mnow medg mcor)).bind fun v3 =>
    ((s_Mod_keeps F mnow v3.1 v3.2.1 v3.2.2 mkep mkee mwor)).bind fun v4 =>
    ((s_Mod_unties F mnow a0)).bind fun v5 =>
    ((s_Mod_builds F v5 v3.1 v3.2.1)).bind fun v6 =>
    (s_Mod_effect_L40 F v5 v6.1 v4.2.1 F (0 : Int32) (0 : Int32)).bind fun o16x =>
    ((s_Mod_goesBack F v5 v4.2.2)).bind fun v17 =>
    some (o16x.1, (0 : Int32), v17, v6.1, v6.2.1, v6.2.2, v4.1, v4.2.1, v4.2.2)
def s_Mod_undo_L30 (mold : Nat → Int32) (mols : Int32) : Nat → Int32 → (Nat → Int32) → Option (Int32 × (Nat → Int32))
  | 0, _, _ => none
  | n + 1, x1, mnow =>
    if (56 : Int32) ≤ x1 then
      some (x1, mnow)
    else
      (aget 672 mold (((56 : Int32) * mols) + x1)).bind fun v3 =>
      (aset 56 mnow x1 v3).bind fun v4 =>
      s_Mod_undo_L30 mold mols n (x1 + (1 : Int32)) v4
def s_Mod_undo (F : Nat) (mnow : Nat → Int32) (mold : Nat → Int32) (mols : Int32) : Option (Int32 × Int32 × (Nat → Int32) × Int32) :=
  if mols = 0 then
    some ((s_Mod_raises (1 : Int32)).1, (s_Mod_raises (1 : Int32)).2, mnow, mols)
  else
    (s_Mod_undo_L30 mold (mols - (1 : Int32)) F (0 : Int32) mnow).bind fun o5x =>
    some ((mols - (1 : Int32)), (0 : Int32), o5x.2, (mols - (1 : Int32)))
def s_Mod_save_L12 (mnow : Nat → Int32) : Nat → Int32 → (Nat → Int32) → Option (Int32 × (Nat → Int32))
  | 0, _, _ => none
  | n + 1, x1, msav =>
    if (56 : Int32) ≤ x1 then
      some (x1, msav)
    else
      (aget 56 mnow x1).bind fun v2 =>
      (aset 56 msav x1 v2).bind fun v3 =>
      s_Mod_save_L12 mnow n (x1 + (1 : Int32)) v3
def s_Mod_save (F : Nat) (mnow : Nat → Int32) (msav : Nat → Int32) : Option (Int32 × Int32 × (Nat → Int32) × Bool) :=
  (s_Mod_save_L12 mnow F (0 : Int32) msav).bind fun o4x =>
  ((s_Mod_n mnow)).bind fun v5 =>
  some (v5, (0 : Int32), o4x.2, true)
def s_Mod_restore_L20 (msav : Nat → Int32) : Nat → Int32 → (Nat → Int32) → Option (Int32 × (Nat → Int32))
  | 0, _, _ => none
  | n + 1, x1, mnow =>
    if (56 : Int32) ≤ x1 then
      some (x1, mnow)
    else
      (aget 56 msav x1).bind fun v3 =>
      (aset 56 mnow x1 v3).bind fun v4 =>
      s_Mod_restore_L20 msav n (x1 + (1 : Int32)) v4
def s_Mod_restore (F : Nat) (mnow : Nat → Int32) (mols : Int32) (msav : Nat → Int32) (miss : Bool) : Option (Int32 × Int32 × (Nat → Int32) × Int32) :=
  if (bI miss) = 0 then
    some ((s_Mod_raises (1 : Int32)).1, (s_Mod_raises (1 : Int32)).2, mnow, mols)
  else
    (s_Mod_restore_L20 msav F (0 : Int32) mnow).bind fun o5x =>
    ((s_Mod_n o5x.2)).bind fun v6 =>
    some (v6, (0 : Int32), o5x.2, (0 : Int32))
def s_Hist_remember (F : Nat) (hp : Nat → PlanS) (hnx hkp : Int32) (opxs opys oplo ophi : Nat → Int32) (opn opm : Int32) : Option ((Nat → PlanS) × Int32 × Int32) :=
  if hnx < 0 then some (hp, (if (12 : Int32) ≤ hnx + (1 : Int32) then 0 else hnx + (1 : Int32)), imin (hkp + (1 : Int32)) 12)
  else if (12 : Int32) ≤ hnx then some (hp, (if (12 : Int32) ≤ hnx + (1 : Int32) then 0 else hnx + (1 : Int32)), imin (hkp + (1 : Int32)) 12)
  else (s_Plan_copyFrom F ((hp hnx.toNatClampNeg).1) ((hp hnx.toNatClampNeg).2.1) ((hp hnx.toNatClampNeg).2.2.1) ((hp hnx.toNatClampNeg).2.2.2.1) opxs opys oplo ophi opn opm).bind fun v => some (va_up hp hnx.toNatClampNeg v, (if (12 : Int32) ≤ hnx + (1 : Int32) then 0 else hnx + (1 : Int32)), imin (hkp + (1 : Int32)) 12)
def s_Hist_back (F : Nat) (hp : Nat → PlanS) (nx kp : Int32) (opxs opys oplo ophi : Nat → Int32) (opn opm : Int32) : Option (Int32 × Int32 × (Nat → Int32) × (Nat → Int32) × (Nat → Int32) × (Nat → Int32) × Int32 × Int32) :=
  if nx < 0 then some (nx, kp, opxs, opys, oplo, ophi, opn, opm)
  else if (12 : Int32) ≤ nx then some (nx, kp, opxs, opys, oplo, ophi, opn, opm)
  else (s_Plan_copyFrom F opxs opys oplo ophi ((hp nx.toNatClampNeg).1) ((hp nx.toNatClampNeg).2.1) ((hp nx.toNatClampNeg).2.2.1) ((hp nx.toNatClampNeg).2.2.2.1) ((hp nx.toNatClampNeg).2.2.2.2.1) ((hp nx.toNatClampNeg).2.2.2.2.2)).bind fun v => some (nx, kp, v)
def s_Hist_recallInto (F : Nat) (hp : Nat → PlanS) (hnx hkp : Int32) (opxs opys oplo ophi : Nat → Int32) (opn opm : Int32) : Option (Int32 × Int32 × (Nat → Int32) × (Nat → Int32) × (Nat → Int32) × (Nat → Int32) × Int32 × Int32) :=
  s_Hist_back F hp (if hnx ≤ 0 then 11 else hnx - (1 : Int32)) (imax (hkp - (1 : Int32)) 0) opxs opys oplo ophi opn opm
def s_Top_isCoordinate (a0 : Int32) : Bool :=
  if a0 < 0 then
    false
  else
    if (100 : Int32) < a0 then
      false
    else
      true
def s_Top_requirePosition (a0 : Int32) (a1 : Int32) : String ⊕ Unit :=
  if (bI (s_Top_isCoordinate a0)) = 0 then
    .inl "java/lang/IllegalArgumentException"
  else
    if (bI (s_Top_isCoordinate a1)) = 0 then
      .inl "java/lang/IllegalArgumentException"
    else
      .inr ()
def s_Top_requireNewPoint (F : Nat) (pxs : Nat → Int32) (pys : Nat → Int32) (plo : Nat → Int32) (phi : Nat → Int32) (pn : Int32) (pm : Int32) (a0 : Int32) (a1 : Int32) : Option (String ⊕ Unit) :=
  if (s_Plan_points pn) < (16 : Int32) then
    ((s_Plan_admitsPoint F pxs pys plo phi pn pm a0 a1)).bind fun v2 =>
    if (bI v2) = 0 then
      some (.inl "java/lang/UnsupportedOperationException")
    else
      some (.inr ())
  else
    some (.inl "java/lang/IllegalStateException")
def s_Top_addPoint (F : Nat) (pxs : Nat → Int32) (pys : Nat → Int32) (plo : Nat → Int32) (phi : Nat → Int32) (pn : Int32) (pm : Int32) (lf : Nat → Int32) (th : Nat → Int32) (ow : Nat → Int32) (lk : Nat → Int32) (el : Nat → Int32) (eh : Nat → Int32) (co : Nat → Int32) (hu : Nat → Int32) (hp : Nat → PlanS) (hnx : Int32) (hkp : Int32) (a0 : Int32) (a1 : Int32) : Option (String ⊕ (Int32 × (Nat → Int32) × (Nat → Int32) × Int32 × (Nat → Int32) × (Nat → Int32) × (Nat → Int32) × (Nat → Int32) × (Nat → Int32) × (Nat → Int32) × (Nat → Int32) × (Nat → Int32) × Int32 × Int32 × Int32 × (Nat → PlanS) × Int32 × Int32)) :=
  Sum.elim (fun E => some (.inl E)) (fun _ =>
    ((s_Top_requireNewPoint F pxs pys plo phi pn pm a0 a1)).bind fun v1 =>
    Sum.elim (fun E => some (.inl E)) (fun _ =>
      ((s_Hist_remember F hp hnx hkp pxs pys plo phi pn pm)).bind fun v2 =>
      ((s_Mesh_draw F ((s_Plan_appendPoint pxs pys pn a0 a1).1) ((s_Plan_appendPoint pxs pys pn a0 a1).2.1) plo phi ((s_Plan_appendPoint pxs pys pn a0 a1).2.2) pm lf th ow lk el eh co hu)).bind fun v3 =>
      some (.inr (((s_Plan_points ((s_Plan_appendPoint pxs pys pn a0 a1).2.2)) - (1 : Int32)), (s_Plan_appendPoint pxs pys pn a0 a1).1, (s_Plan_appendPoint pxs pys pn a0 a1).2.1, (s_Plan_appendPoint pxs pys pn a0 a1).2.2, v3.1, v3.2.1, v3.2.2.1, v3.2.2.2.1, v3.2.2.2.2.1, v3.2.2.2.2.2.1, v3.2.2.2.2.2.2.1, v3.2.2.2.2.2.2.2.1, v3.2.2.2.2.2.2.2.2.1, v3.2.2.2.2.2.2.2.2.2.1, v3.2.2.2.2.2.2.2.2.2.2, v2.1, v2.2.1, v2.2.2))) v1) (s_Top_requirePosition a0 a1)
def s_Top_requirePoint (pn : Int32) (a0 : Int32) : String ⊕ Unit :=
  if (bI (s_Plan_hasPoint pn a0)) = 0 then
    .inl "java/lang/IndexOutOfBoundsException"
  else
    .inr ()
def s_Top_requireLoosePoint (F : Nat) (plo : Nat → Int32) (phi : Nat → Int32) (pm : Int32) (a0 : Int32) : Option (String ⊕ Unit) :=
  ((s_Plan_endsConstraint F plo phi pm a0)).bind fun v1 =>
  if (bI v1) = 0 then
    some (.inr ())
  else
    some (.inl "java/lang/IllegalStateException")
def s_Top_removePoint (F : Nat) (pxs : Nat → Int32) (pys : Nat → Int32) (plo : Nat → Int32) (phi : Nat → Int32) (pn : Int32) (pm : Int32) (lf : Nat → Int32) (th : Nat → Int32) (ow : Nat → Int32) (lk : Nat → Int32) (el : Nat → Int32) (eh : Nat → Int32) (co : Nat → Int32) (hu : Nat → Int32) (hp : Nat → PlanS) (hnx : Int32) (hkp : Int32) (a0 : Int32) : Option (String ⊕ (Int32 × (Nat → Int32) × (Nat → Int32) × (Nat → Int32) × (Nat → Int32) × Int32 × (Nat → Int32) × (Nat → Int32) × (Nat → Int32) × (Nat → Int32) × (Nat → Int32) × (Nat → Int32) × (Nat → Int32) × (Nat → Int32) × Int32 × Int32 × Int32 × (Nat → PlanS) × Int32 × Int32)) :=
  Sum.elim (fun E => some (.inl E)) (fun _ =>
    ((s_Top_requireLoosePoint F plo phi pm a0)).bind fun v1 =>
    Sum.elim (fun E => some (.inl E)) (fun _ =>
      ((s_Hist_remember F hp hnx hkp pxs pys plo phi pn pm)).bind fun v2 =>
      ((s_Plan_dropPoint F pxs pys plo phi pn pm a0)).bind fun v3 =>
      ((s_Mesh_draw F v3.1 v3.2.1 v3.2.2.1 v3.2.2.2.1 v3.2.2.2.2 pm lf th ow lk el eh co hu)).bind fun v4 =>
      some (.inr ((s_Plan_points v3.2.2.2.2), v3.1, v3.2.1, v3.2.2.1, v3.2.2.2.1, v3.2.2.2.2, v4.1, v4.2.1, v4.2.2.1, v4.2.2.2.1, v4.2.2.2.2.1, v4.2.2.2.2.2.1, v4.2.2.2.2.2.2.1, v4.2.2.2.2.2.2.2.1, v4.2.2.2.2.2.2.2.2.1, v4.2.2.2.2.2.2.2.2.2.1, v4.2.2.2.2.2.2.2.2.2.2, v2.1, v2.2.1, v2.2.2))) v1) (s_Top_requirePoint pn a0)
def s_Top_movePoint (F : Nat) (pxs : Nat → Int32) (pys : Nat → Int32) (plo : Nat → Int32) (phi : Nat → Int32) (pn : Int32) (pm : Int32) (lf : Nat → Int32) (th : Nat → Int32) (ow : Nat → Int32) (lk : Nat → Int32) (el : Nat → Int32) (eh : Nat → Int32) (co : Nat → Int32) (hu : Nat → Int32) (hp : Nat → PlanS) (hnx : Int32) (hkp : Int32) (a0 : Int32) (a1 : Int32) (a2 : Int32) : Option (String ⊕ (Bool × (Nat → Int32) × (Nat → Int32) × (Nat → Int32) × (Nat → Int32) × (Nat → Int32) × (Nat → Int32) × (Nat → Int32) × (Nat → Int32) × (Nat → Int32) × (Nat → Int32) × Int32 × Int32 × Int32 × (Nat → PlanS) × Int32 × Int32)) :=
  Sum.elim (fun E => some (.inl E)) (fun _ =>
    Sum.elim (fun E => some (.inl E)) (fun _ =>
      ((s_Top_requireLoosePoint F plo phi pm a0)).bind fun v1 =>
      Sum.elim (fun E => some (.inl E)) (fun _ =>
        ((s_Plan_pointAt F pxs pys pn a1 a2)).bind fun v2 =>
        if v2 = (-1 : Int32) then
          ((s_Plan_constraintCovers F pxs pys plo phi pm a1 a2)).bind fun v4 =>
          if (bI v4) = 0 then
            ((s_Hist_remember F hp hnx hkp pxs pys plo phi pn pm)).bind fun v6 =>
            ((s_Mesh_draw F ((s_Plan_placePoint pxs pys a0 a1 a2).1) ((s_Plan_placePoint pxs pys a0 a1 a2).2) plo phi pn pm lf th ow lk el eh co hu)).bind fun v7 =>
            if v2 = a0 then
              some (.inr (false, (s_Plan_placePoint pxs pys a0 a1 a2).1, (s_Plan_placePoint pxs pys a0 a1 a2).2, v7.1, v7.2.1, v7.2.2.1, v7.2.2.2.1, v7.2.2.2.2.1, v7.2.2.2.2.2.1, v7.2.2.2.2.2.2.1, v7.2.2.2.2.2.2.2.1, v7.2.2.2.2.2.2.2.2.1, v7.2.2.2.2.2.2.2.2.2.1, v7.2.2.2.2.2.2.2.2.2.2, v6.1, v6.2.1, v6.2.2))
            else
              some (.inr (true, (s_Plan_placePoint pxs pys a0 a1 a2).1, (s_Plan_placePoint pxs pys a0 a1 a2).2, v7.1, v7.2.1, v7.2.2.1, v7.2.2.2.1, v7.2.2.2.2.1, v7.2.2.2.2.2.1, v7.2.2.2.2.2.2.1, v7.2.2.2.2.2.2.2.1, v7.2.2.2.2.2.2.2.2.1, v7.2.2.2.2.2.2.2.2.2.1, v7.2.2.2.2.2.2.2.2.2.2, v6.1, v6.2.1, v6.2.2))
          else
            some (.inl "java/lang/UnsupportedOperationException")
        else
          if v2 = a0 then
            ((s_Plan_constraintCovers F pxs pys plo phi pm a1 a2)).bind fun v10 =>
            if (bI v10) = 0 then
              ((s_Hist_remember F hp hnx hkp pxs pys plo phi pn pm)).bind fun v12 =>
              ((s_Mesh_draw F ((s_Plan_placePoint pxs pys a0 a1 a2).1) ((s_Plan_placePoint pxs pys a0 a1 a2).2) plo phi pn pm lf th ow lk el eh co hu)).bind fun v13 =>
              if v2 = a0 then
                some (.inr (false, (s_Plan_placePoint pxs pys a0 a1 a2).1, (s_Plan_placePoint pxs pys a0 a1 a2).2, v13.1, v13.2.1, v13.2.2.1, v13.2.2.2.1, v13.2.2.2.2.1, v13.2.2.2.2.2.1, v13.2.2.2.2.2.2.1, v13.2.2.2.2.2.2.2.1, v13.2.2.2.2.2.2.2.2.1, v13.2.2.2.2.2.2.2.2.2.1, v13.2.2.2.2.2.2.2.2.2.2, v12.1, v12.2.1, v12.2.2))
              else
                some (.inr (true, (s_Plan_placePoint pxs pys a0 a1 a2).1, (s_Plan_placePoint pxs pys a0 a1 a2).2, v13.1, v13.2.1, v13.2.2.1, v13.2.2.2.1, v13.2.2.2.2.1, v13.2.2.2.2.2.1, v13.2.2.2.2.2.2.1, v13.2.2.2.2.2.2.2.1, v13.2.2.2.2.2.2.2.2.1, v13.2.2.2.2.2.2.2.2.2.1, v13.2.2.2.2.2.2.2.2.2.2, v12.1, v12.2.1, v12.2.2))
            else
              some (.inl "java/lang/UnsupportedOperationException")
          else
            some (.inl "java/lang/UnsupportedOperationException")) v1) (s_Top_requirePosition a1 a2)) (s_Top_requirePoint pn a0)
def s_Top_pointCount (pn : Int32) : Int32 :=
  (s_Plan_points pn)
def s_Top_requireBit (a0 : Int32) : String ⊕ Unit :=
  if a0 = 0 then
    .inr ()
  else
    if a0 = (1 : Int32) then
      .inr ()
    else
      .inl "java/lang/IllegalArgumentException"
def s_Top_coordinate (pxs : Nat → Int32) (pys : Nat → Int32) (pn : Int32) (a0 : Int32) (a1 : Int32) : String ⊕ Int32 :=
  Sum.elim (fun E => .inl E) (fun _ =>
    Sum.elim (fun E => .inl E) (fun _ =>
      if a1 = 0 then
        .inr (s_Plan_xOf pxs a0)
      else
        .inr (s_Plan_yOf pys a0)) (s_Top_requireBit a1)) (s_Top_requirePoint pn a0)
def s_Top_requireDifferent (a0 : Int32) (a1 : Int32) : String ⊕ Unit :=
  if a0 = a1 then
    .inl "java/lang/IllegalArgumentException"
  else
    .inr ()
def s_Top_addConstraint (F : Nat) (pxs : Nat → Int32) (pys : Nat → Int32) (plo : Nat → Int32) (phi : Nat → Int32) (pn : Int32) (pm : Int32) (lf : Nat → Int32) (th : Nat → Int32) (ow : Nat → Int32) (lk : Nat → Int32) (el : Nat → Int32) (eh : Nat → Int32) (co : Nat → Int32) (hu : Nat → Int32) (hp : Nat → PlanS) (hnx : Int32) (hkp : Int32) (a0 : Int32) (a1 : Int32) : Option (String ⊕ (Int32 × (Nat → Int32) × (Nat → Int32) × Int32 × (Nat → Int32) × (Nat → Int32) × (Nat → Int32) × (Nat → Int32) × (Nat → Int32) × (Nat → Int32) × (Nat → Int32) × (Nat → Int32) × Int32 × Int32 × Int32 × (Nat → PlanS) × Int32 × Int32)) :=
  Sum.elim (fun E => some (.inl E)) (fun _ =>
    Sum.elim (fun E => some (.inl E)) (fun _ =>
      Sum.elim (fun E => some (.inl E)) (fun _ =>
        if (s_Plan_constraints pm) < (10 : Int32) then
          ((s_Plan_admitsSegment F pxs pys plo phi pn pm a0 a1)).bind fun v2 =>
          if (bI v2) = 0 then
            some (.inl "java/lang/UnsupportedOperationException")
          else
            ((s_Hist_remember F hp hnx hkp pxs pys plo phi pn pm)).bind fun v4 =>
            ((s_Mesh_draw F pxs pys ((s_Plan_appendConstraint plo phi pm a0 a1).1) ((s_Plan_appendConstraint plo phi pm a0 a1).2.1) pn ((s_Plan_appendConstraint plo phi pm a0 a1).2.2) lf th ow lk el eh co hu)).bind fun v5 =>
            some (.inr (((s_Plan_constraints ((s_Plan_appendConstraint plo phi pm a0 a1).2.2)) - (1 : Int32)), (s_Plan_appendConstraint plo phi pm a0 a1).1, (s_Plan_appendConstraint plo phi pm a0 a1).2.1, (s_Plan_appendConstraint plo phi pm a0 a1).2.2, v5.1, v5.2.1, v5.2.2.1, v5.2.2.2.1, v5.2.2.2.2.1, v5.2.2.2.2.2.1, v5.2.2.2.2.2.2.1, v5.2.2.2.2.2.2.2.1, v5.2.2.2.2.2.2.2.2.1, v5.2.2.2.2.2.2.2.2.2.1, v5.2.2.2.2.2.2.2.2.2.2, v4.1, v4.2.1, v4.2.2))
        else
          some (.inl "java/lang/IllegalStateException")) (s_Top_requireDifferent a0 a1)) (s_Top_requirePoint pn a1)) (s_Top_requirePoint pn a0)
def s_Top_requireConstraint (pm : Int32) (a0 : Int32) : String ⊕ Unit :=
  if a0 < 0 then
    .inl "java/lang/IndexOutOfBoundsException"
  else
    if a0 < (s_Plan_constraints pm) then
      .inr ()
    else
      .inl "java/lang/IndexOutOfBoundsException"
def s_Top_removeConstraint (F : Nat) (pxs : Nat → Int32) (pys : Nat → Int32) (plo : Nat → Int32) (phi : Nat → Int32) (pn : Int32) (pm : Int32) (lf : Nat → Int32) (th : Nat → Int32) (ow : Nat → Int32) (lk : Nat → Int32) (el : Nat → Int32) (eh : Nat → Int32) (co : Nat → Int32) (hu : Nat → Int32) (hp : Nat → PlanS) (hnx : Int32) (hkp : Int32) (a0 : Int32) : Option (String ⊕ (Int32 × (Nat → Int32) × (Nat → Int32) × Int32 × (Nat → Int32) × (Nat → Int32) × (Nat → Int32) × (Nat → Int32) × (Nat → Int32) × (Nat → Int32) × (Nat → Int32) × (Nat → Int32) × Int32 × Int32 × Int32 × (Nat → PlanS) × Int32 × Int32)) :=
  Sum.elim (fun E => some (.inl E)) (fun _ =>
    ((s_Hist_remember F hp hnx hkp pxs pys plo phi pn pm)).bind fun v1 =>
    ((s_Plan_dropConstraint F plo phi pm a0)).bind fun v2 =>
    ((s_Mesh_draw F pxs pys v2.1 v2.2.1 pn v2.2.2 lf th ow lk el eh co hu)).bind fun v3 =>
    some (.inr ((s_Plan_constraints v2.2.2), v2.1, v2.2.1, v2.2.2, v3.1, v3.2.1, v3.2.2.1, v3.2.2.2.1, v3.2.2.2.2.1, v3.2.2.2.2.2.1, v3.2.2.2.2.2.2.1, v3.2.2.2.2.2.2.2.1, v3.2.2.2.2.2.2.2.2.1, v3.2.2.2.2.2.2.2.2.2.1, v3.2.2.2.2.2.2.2.2.2.2, v1.1, v1.2.1, v1.2.2))) (s_Top_requireConstraint pm a0)
def s_Top_constraintCount (pm : Int32) : Int32 :=
  (s_Plan_constraints pm)
def s_Top_constraintEnd (plo : Nat → Int32) (phi : Nat → Int32) (pm : Int32) (a0 : Int32) (a1 : Int32) : String ⊕ Int32 :=
  Sum.elim (fun E => .inl E) (fun _ =>
    Sum.elim (fun E => .inl E) (fun _ =>
      if a1 = 0 then
        .inr (s_Plan_lowEnd plo a0)
      else
        .inr (s_Plan_highEnd phi a0)) (s_Top_requireBit a1)) (s_Top_requireConstraint pm a0)
def s_Top_feed (ich : Nat → Int32) (iln : Int32) (a0 : Int32) : String ⊕ (Int32 × (Nat → Int32) × Int32) :=
  if (s_Input_length iln) < (60 : Int32) then
    .inr ((s_Input_length ((s_Input_append ich iln a0).2)), (s_Input_append ich iln a0).1, (s_Input_append ich iln a0).2)
  else
    .inl "java/lang/IllegalStateException"
def s_Top_addEntry (F : Nat) (pxs : Nat → Int32) (pys : Nat → Int32) (plo : Nat → Int32) (phi : Nat → Int32) (pn : Int32) (pm : Int32) (ifs : Nat → Int32) (isc : Nat → Int32) (isg : Nat → Int32) (hp : Nat → PlanS) (hnx : Int32) (hkp : Int32) (a0 : Int32) : Option (Bool × (Nat → Int32) × (Nat → Int32) × (Nat → Int32) × (Nat → Int32) × Int32 × Int32 × (Nat → PlanS) × Int32 × Int32) :=
  if (bI (s_Input_isSegment isg a0)) = 0 then
    if (bI (s_Top_isCoordinate (s_Input_firstOf ifs a0))) = 0 then
      if (0 : Int32) = 0 then
        some (false, pxs, pys, plo, phi, pn, pm, hp, hnx, hkp)
      else
        ((s_Hist_remember F hp hnx hkp pxs pys plo phi pn pm)).bind fun v4 =>
        if (bI (s_Input_isSegment isg a0)) = 0 then
          some (true, (s_Plan_appendPoint pxs pys pn (s_Input_firstOf ifs a0) (s_Input_secondOf isc a0)).1, (s_Plan_appendPoint pxs pys pn (s_Input_firstOf ifs a0) (s_Input_secondOf isc a0)).2.1, plo, phi, (s_Plan_appendPoint pxs pys pn (s_Input_firstOf ifs a0) (s_Input_secondOf isc a0)).2.2, pm, v4.1, v4.2.1, v4.2.2)
        else
          some (true, pxs, pys, (s_Plan_appendConstraint plo phi pm (s_Input_firstOf ifs a0) (s_Input_secondOf isc a0)).1, (s_Plan_appendConstraint plo phi pm (s_Input_firstOf ifs a0) (s_Input_secondOf isc a0)).2.1, pn, (s_Plan_appendConstraint plo phi pm (s_Input_firstOf ifs a0) (s_Input_secondOf isc a0)).2.2, v4.1, v4.2.1, v4.2.2)
    else
      if (bI (s_Top_isCoordinate (s_Input_secondOf isc a0))) = 0 then
        if (0 : Int32) = 0 then
          some (false, pxs, pys, plo, phi, pn, pm, hp, hnx, hkp)
        else
          ((s_Hist_remember F hp hnx hkp pxs pys plo phi pn pm)).bind fun v8 =>
          if (bI (s_Input_isSegment isg a0)) = 0 then
            some (true, (s_Plan_appendPoint pxs pys pn (s_Input_firstOf ifs a0) (s_Input_secondOf isc a0)).1, (s_Plan_appendPoint pxs pys pn (s_Input_firstOf ifs a0) (s_Input_secondOf isc a0)).2.1, plo, phi, (s_Plan_appendPoint pxs pys pn (s_Input_firstOf ifs a0) (s_Input_secondOf isc a0)).2.2, pm, v8.1, v8.2.1, v8.2.2)
          else
            some (true, pxs, pys, (s_Plan_appendConstraint plo phi pm (s_Input_firstOf ifs a0) (s_Input_secondOf isc a0)).1, (s_Plan_appendConstraint plo phi pm (s_Input_firstOf ifs a0) (s_Input_secondOf isc a0)).2.1, pn, (s_Plan_appendConstraint plo phi pm (s_Input_firstOf ifs a0) (s_Input_secondOf isc a0)).2.2, v8.1, v8.2.1, v8.2.2)
      else
        if (16 : Int32) ≤ (s_Plan_points pn) then
          if (0 : Int32) = 0 then
            some (false, pxs, pys, plo, phi, pn, pm, hp, hnx, hkp)
          else
            ((s_Hist_remember F hp hnx hkp pxs pys plo phi pn pm)).bind fun v12 =>
            if (bI (s_Input_isSegment isg a0)) = 0 then
              some (true, (s_Plan_appendPoint pxs pys pn (s_Input_firstOf ifs a0) (s_Input_secondOf isc a0)).1, (s_Plan_appendPoint pxs pys pn (s_Input_firstOf ifs a0) (s_Input_secondOf isc a0)).2.1, plo, phi, (s_Plan_appendPoint pxs pys pn (s_Input_firstOf ifs a0) (s_Input_secondOf isc a0)).2.2, pm, v12.1, v12.2.1, v12.2.2)
            else
              some (true, pxs, pys, (s_Plan_appendConstraint plo phi pm (s_Input_firstOf ifs a0) (s_Input_secondOf isc a0)).1, (s_Plan_appendConstraint plo phi pm (s_Input_firstOf ifs a0) (s_Input_secondOf isc a0)).2.1, pn, (s_Plan_appendConstraint plo phi pm (s_Input_firstOf ifs a0) (s_Input_secondOf isc a0)).2.2, v12.1, v12.2.1, v12.2.2)
        else
          ((s_Plan_admitsPoint F pxs pys plo phi pn pm (s_Input_firstOf ifs a0) (s_Input_secondOf isc a0))).bind fun v14 =>
          if (bI v14) = 0 then
            if (0 : Int32) = 0 then
              some (false, pxs, pys, plo, phi, pn, pm, hp, hnx, hkp)
            else
              ((s_Hist_remember F hp hnx hkp pxs pys plo phi pn pm)).bind fun v17 =>
              if (bI (s_Input_isSegment isg a0)) = 0 then
                some (true, (s_Plan_appendPoint pxs pys pn (s_Input_firstOf ifs a0) (s_Input_secondOf isc a0)).1, (s_Plan_appendPoint pxs pys pn (s_Input_firstOf ifs a0) (s_Input_secondOf isc a0)).2.1, plo, phi, (s_Plan_appendPoint pxs pys pn (s_Input_firstOf ifs a0) (s_Input_secondOf isc a0)).2.2, pm, v17.1, v17.2.1, v17.2.2)
              else
                some (true, pxs, pys, (s_Plan_appendConstraint plo phi pm (s_Input_firstOf ifs a0) (s_Input_secondOf isc a0)).1, (s_Plan_appendConstraint plo phi pm (s_Input_firstOf ifs a0) (s_Input_secondOf isc a0)).2.1, pn, (s_Plan_appendConstraint plo phi pm (s_Input_firstOf ifs a0) (s_Input_secondOf isc a0)).2.2, v17.1, v17.2.1, v17.2.2)
          else
            if (1 : Int32) = 0 then
              some (false, pxs, pys, plo, phi, pn, pm, hp, hnx, hkp)
            else
              ((s_Hist_remember F hp hnx hkp pxs pys plo phi pn pm)).bind fun v20 =>
              if (bI (s_Input_isSegment isg a0)) = 0 then
                some (true, (s_Plan_appendPoint pxs pys pn (s_Input_firstOf ifs a0) (s_Input_secondOf isc a0)).1, (s_Plan_appendPoint pxs pys pn (s_Input_firstOf ifs a0) (s_Input_secondOf isc a0)).2.1, plo, phi, (s_Plan_appendPoint pxs pys pn (s_Input_firstOf ifs a0) (s_Input_secondOf isc a0)).2.2, pm, v20.1, v20.2.1, v20.2.2)
              else
                some (true, pxs, pys, (s_Plan_appendConstraint plo phi pm (s_Input_firstOf ifs a0) (s_Input_secondOf isc a0)).1, (s_Plan_appendConstraint plo phi pm (s_Input_firstOf ifs a0) (s_Input_secondOf isc a0)).2.1, pn, (s_Plan_appendConstraint plo phi pm (s_Input_firstOf ifs a0) (s_Input_secondOf isc a0)).2.2, v20.1, v20.2.1, v20.2.2)
  else
    if (bI (s_Plan_hasPoint pn (s_Input_firstOf ifs a0))) = 0 then
      if (0 : Int32) = 0 then
        some (false, pxs, pys, plo, phi, pn, pm, hp, hnx, hkp)
      else
        ((s_Hist_remember F hp hnx hkp pxs pys plo phi pn pm)).bind fun v24 =>
        if (bI (s_Input_isSegment isg a0)) = 0 then
          some (true, (s_Plan_appendPoint pxs pys pn (s_Input_firstOf ifs a0) (s_Input_secondOf isc a0)).1, (s_Plan_appendPoint pxs pys pn (s_Input_firstOf ifs a0) (s_Input_secondOf isc a0)).2.1, plo, phi, (s_Plan_appendPoint pxs pys pn (s_Input_firstOf ifs a0) (s_Input_secondOf isc a0)).2.2, pm, v24.1, v24.2.1, v24.2.2)
        else
          some (true, pxs, pys, (s_Plan_appendConstraint plo phi pm (s_Input_firstOf ifs a0) (s_Input_secondOf isc a0)).1, (s_Plan_appendConstraint plo phi pm (s_Input_firstOf ifs a0) (s_Input_secondOf isc a0)).2.1, pn, (s_Plan_appendConstraint plo phi pm (s_Input_firstOf ifs a0) (s_Input_secondOf isc a0)).2.2, v24.1, v24.2.1, v24.2.2)
    else
      if (bI (s_Plan_hasPoint pn (s_Input_secondOf isc a0))) = 0 then
        if (0 : Int32) = 0 then
          some (false, pxs, pys, plo, phi, pn, pm, hp, hnx, hkp)
        else
          ((s_Hist_remember F hp hnx hkp pxs pys plo phi pn pm)).bind fun v28 =>
          if (bI (s_Input_isSegment isg a0)) = 0 then
            some (true, (s_Plan_appendPoint pxs pys pn (s_Input_firstOf ifs a0) (s_Input_secondOf isc a0)).1, (s_Plan_appendPoint pxs pys pn (s_Input_firstOf ifs a0) (s_Input_secondOf isc a0)).2.1, plo, phi, (s_Plan_appendPoint pxs pys pn (s_Input_firstOf ifs a0) (s_Input_secondOf isc a0)).2.2, pm, v28.1, v28.2.1, v28.2.2)
          else
            some (true, pxs, pys, (s_Plan_appendConstraint plo phi pm (s_Input_firstOf ifs a0) (s_Input_secondOf isc a0)).1, (s_Plan_appendConstraint plo phi pm (s_Input_firstOf ifs a0) (s_Input_secondOf isc a0)).2.1, pn, (s_Plan_appendConstraint plo phi pm (s_Input_firstOf ifs a0) (s_Input_secondOf isc a0)).2.2, v28.1, v28.2.1, v28.2.2)
      else
        if (s_Input_firstOf ifs a0) = (s_Input_secondOf isc a0) then
          if (0 : Int32) = 0 then
            some (false, pxs, pys, plo, phi, pn, pm, hp, hnx, hkp)
          else
            ((s_Hist_remember F hp hnx hkp pxs pys plo phi pn pm)).bind fun v32 =>
            if (bI (s_Input_isSegment isg a0)) = 0 then
              some (true, (s_Plan_appendPoint pxs pys pn (s_Input_firstOf ifs a0) (s_Input_secondOf isc a0)).1, (s_Plan_appendPoint pxs pys pn (s_Input_firstOf ifs a0) (s_Input_secondOf isc a0)).2.1, plo, phi, (s_Plan_appendPoint pxs pys pn (s_Input_firstOf ifs a0) (s_Input_secondOf isc a0)).2.2, pm, v32.1, v32.2.1, v32.2.2)
            else
              some (true, pxs, pys, (s_Plan_appendConstraint plo phi pm (s_Input_firstOf ifs a0) (s_Input_secondOf isc a0)).1, (s_Plan_appendConstraint plo phi pm (s_Input_firstOf ifs a0) (s_Input_secondOf isc a0)).2.1, pn, (s_Plan_appendConstraint plo phi pm (s_Input_firstOf ifs a0) (s_Input_secondOf isc a0)).2.2, v32.1, v32.2.1, v32.2.2)
        else
          if (10 : Int32) ≤ (s_Plan_constraints pm) then
            if (0 : Int32) = 0 then
              some (false, pxs, pys, plo, phi, pn, pm, hp, hnx, hkp)
            else
              ((s_Hist_remember F hp hnx hkp pxs pys plo phi pn pm)).bind fun v36 =>
              if (bI (s_Input_isSegment isg a0)) = 0 then
                some (true, (s_Plan_appendPoint pxs pys pn (s_Input_firstOf ifs a0) (s_Input_secondOf isc a0)).1, (s_Plan_appendPoint pxs pys pn (s_Input_firstOf ifs a0) (s_Input_secondOf isc a0)).2.1, plo, phi, (s_Plan_appendPoint pxs pys pn (s_Input_firstOf ifs a0) (s_Input_secondOf isc a0)).2.2, pm, v36.1, v36.2.1, v36.2.2)
              else
                some (true, pxs, pys, (s_Plan_appendConstraint plo phi pm (s_Input_firstOf ifs a0) (s_Input_secondOf isc a0)).1, (s_Plan_appendConstraint plo phi pm (s_Input_firstOf ifs a0) (s_Input_secondOf isc a0)).2.1, pn, (s_Plan_appendConstraint plo phi pm (s_Input_firstOf ifs a0) (s_Input_secondOf isc a0)).2.2, v36.1, v36.2.1, v36.2.2)
          else
            ((s_Plan_admitsSegment F pxs pys plo phi pn pm (s_Input_firstOf ifs a0) (s_Input_secondOf isc a0))).bind fun v38 =>
            if (bI v38) = 0 then
              if (0 : Int32) = 0 then
                some (false, pxs, pys, plo, phi, pn, pm, hp, hnx, hkp)
              else
                ((s_Hist_remember F hp hnx hkp pxs pys plo phi pn pm)).bind fun v41 =>
                if (bI (s_Input_isSegment isg a0)) = 0 then
                  some (true, (s_Plan_appendPoint pxs pys pn (s_Input_firstOf ifs a0) (s_Input_secondOf isc a0)).1, (s_Plan_appendPoint pxs pys pn (s_Input_firstOf ifs a0) (s_Input_secondOf isc a0)).2.1, plo, phi, (s_Plan_appendPoint pxs pys pn (s_Input_firstOf ifs a0) (s_Input_secondOf isc a0)).2.2, pm, v41.1, v41.2.1, v41.2.2)
                else
                  some (true, pxs, pys, (s_Plan_appendConstraint plo phi pm (s_Input_firstOf ifs a0) (s_Input_secondOf isc a0)).1, (s_Plan_appendConstraint plo phi pm (s_Input_firstOf ifs a0) (s_Input_secondOf isc a0)).2.1, pn, (s_Plan_appendConstraint plo phi pm (s_Input_firstOf ifs a0) (s_Input_secondOf isc a0)).2.2, v41.1, v41.2.1, v41.2.2)
            else
              if (1 : Int32) = 0 then
                some (false, pxs, pys, plo, phi, pn, pm, hp, hnx, hkp)
              else
                ((s_Hist_remember F hp hnx hkp pxs pys plo phi pn pm)).bind fun v44 =>
                if (bI (s_Input_isSegment isg a0)) = 0 then
                  some (true, (s_Plan_appendPoint pxs pys pn (s_Input_firstOf ifs a0) (s_Input_secondOf isc a0)).1, (s_Plan_appendPoint pxs pys pn (s_Input_firstOf ifs a0) (s_Input_secondOf isc a0)).2.1, plo, phi, (s_Plan_appendPoint pxs pys pn (s_Input_firstOf ifs a0) (s_Input_secondOf isc a0)).2.2, pm, v44.1, v44.2.1, v44.2.2)
                else
                  some (true, pxs, pys, (s_Plan_appendConstraint plo phi pm (s_Input_firstOf ifs a0) (s_Input_secondOf isc a0)).1, (s_Plan_appendConstraint plo phi pm (s_Input_firstOf ifs a0) (s_Input_secondOf isc a0)).2.1, pn, (s_Plan_appendConstraint plo phi pm (s_Input_firstOf ifs a0) (s_Input_secondOf isc a0)).2.2, v44.1, v44.2.1, v44.2.2)
def s_Top_readInput_L10 (F : Nat) (ifs : Nat → Int32) (isc : Nat → Int32) (isg : Nat → Int32) (ien : Int32) (x1 : Int32) : Nat → Int32 → (Nat → Int32) → (Nat → Int32) → (Nat → Int32) → (Nat → Int32) → Int32 → Int32 → (Nat → PlanS) → Int32 → Int32 → Option (Int32 × (Nat → Int32) × (Nat → Int32) × (Nat → Int32) × (Nat → Int32) × Int32 × Int32 × (Nat → PlanS) × Int32 × Int32)
  | 0, _, _, _, _, _, _, _, _, _, _ => none
  | n + 1, x2, pxs, pys, plo, phi, pn, pm, hp, hnx, hkp =>
    if x1 = (-1 : Int32) then
      if (s_Input_entries ien) ≤ x2 then
        some (x2, pxs, pys, plo, phi, pn, pm, hp, hnx, hkp)
      else
        ((s_Top_addEntry F pxs pys plo phi pn pm ifs isc isg hp hnx hkp x2)).bind fun v4 =>
        if (bI v4.1) = 0 then
          some (x2, v4.2.1, v4.2.2.1, v4.2.2.2.1, v4.2.2.2.2.1, v4.2.2.2.2.2.1, v4.2.2.2.2.2.2.1, v4.2.2.2.2.2.2.2.1, v4.2.2.2.2.2.2.2.2.1, v4.2.2.2.2.2.2.2.2.2)
        else
          s_Top_readInput_L10 F ifs isc isg ien x1 n (x2 + (1 : Int32)) v4.2.1 v4.2.2.1 v4.2.2.2.1 v4.2.2.2.2.1 v4.2.2.2.2.2.1 v4.2.2.2.2.2.2.1 v4.2.2.2.2.2.2.2.1 v4.2.2.2.2.2.2.2.2.1 v4.2.2.2.2.2.2.2.2.2
    else
      some (x2, pxs, pys, plo, phi, pn, pm, hp, hnx, hkp)
def s_Top_readInput (F : Nat) (pxs : Nat → Int32) (pys : Nat → Int32) (plo : Nat → Int32) (phi : Nat → Int32) (pn : Int32) (pm : Int32) (lf : Nat → Int32) (th : Nat → Int32) (ow : Nat → Int32) (lk : Nat → Int32) (el : Nat → Int32) (eh : Nat → Int32) (co : Nat → Int32) (hu : Nat → Int32) (ich : Nat → Int32) (ifs : Nat → Int32) (isc : Nat → Int32) (isg : Nat → Int32) (iln : Int32) (hp : Nat → PlanS) (hnx : Int32) (hkp : Int32) : Option (Int32 × (Nat → Int32) × (Nat → Int32) × (Nat → Int32) × (Nat → Int32) × Int32 × Int32 × (Nat → Int32) × (Nat → Int32) × (Nat → Int32) × (Nat → Int32) × (Nat → Int32) × (Nat → Int32) × (Nat → Int32) × (Nat → Int32) × Int32 × Int32 × Int32 × (Nat → Int32) × (Nat → Int32) × (Nat → Int32) × Int32 × Int32 × Bool × Int32 × Int32 × (Nat → PlanS) × Int32 × Int32) :=
  ((s_Input_parse F ich ifs isc isg iln)).bind fun v1 =>
  (s_Top_readInput_L10 F v1.2.1 v1.2.2.1 v1.2.2.2.1 v1.2.2.2.2.1 v1.1 F (0 : Int32) pxs pys plo phi pn pm hp hnx hkp).bind fun o6x =>
  ((s_Mesh_draw F o6x.2.1 o6x.2.2.1 o6x.2.2.2.1 o6x.2.2.2.2.1 o6x.2.2.2.2.2.1 o6x.2.2.2.2.2.2.1 lf th ow lk el eh co hu)).bind fun v7 =>
  if v1.1 = (-1 : Int32) then
    some (o6x.1, o6x.2.1, o6x.2.2.1, o6x.2.2.2.1, o6x.2.2.2.2.1, o6x.2.2.2.2.2.1, o6x.2.2.2.2.2.2.1, v7.1, v7.2.1, v7.2.2.1, v7.2.2.2.1, v7.2.2.2.2.1, v7.2.2.2.2.2.1, v7.2.2.2.2.2.2.1, v7.2.2.2.2.2.2.2.1, v7.2.2.2.2.2.2.2.2.1, v7.2.2.2.2.2.2.2.2.2.1, v7.2.2.2.2.2.2.2.2.2.2, v1.2.1, v1.2.2.1, v1.2.2.2.1, (s_Input_clear).1, (s_Input_clear).2, v1.2.2.2.2.2.1, v1.2.2.2.2.2.2.1, v1.2.2.2.2.2.2.2, o6x.2.2.2.2.2.2.2.1, o6x.2.2.2.2.2.2.2.2.1, o6x.2.2.2.2.2.2.2.2.2)
  else
    some (((-100 : Int32) - v1.1), o6x.2.1, o6x.2.2.1, o6x.2.2.2.1, o6x.2.2.2.2.1, o6x.2.2.2.2.2.1, o6x.2.2.2.2.2.2.1, v7.1, v7.2.1, v7.2.2.1, v7.2.2.2.1, v7.2.2.2.2.1, v7.2.2.2.2.2.1, v7.2.2.2.2.2.2.1, v7.2.2.2.2.2.2.2.1, v7.2.2.2.2.2.2.2.2.1, v7.2.2.2.2.2.2.2.2.2.1, v7.2.2.2.2.2.2.2.2.2.2, v1.2.1, v1.2.2.1, v1.2.2.2.1, (s_Input_clear).1, (s_Input_clear).2, v1.2.2.2.2.2.1, v1.2.2.2.2.2.2.1, v1.2.2.2.2.2.2.2, o6x.2.2.2.2.2.2.2.1, o6x.2.2.2.2.2.2.2.2.1, o6x.2.2.2.2.2.2.2.2.2)
def s_Top_triangleCount (nt : Int32) : Int32 :=
  (s_Mesh_triangles nt)
def s_Top_requireTriangle (nt : Int32) (a0 : Int32) : String ⊕ Unit :=
  if a0 < 0 then
    .inl "java/lang/IndexOutOfBoundsException"
  else
    if a0 < (s_Mesh_triangles nt) then
      .inr ()
    else
      .inl "java/lang/IndexOutOfBoundsException"
def s_Top_requireCorner (a0 : Int32) : String ⊕ Unit :=
  if a0 < 0 then
    .inl "java/lang/IllegalArgumentException"
  else
    if a0 ≤ (2 : Int32) then
      .inr ()
    else
      .inl "java/lang/IllegalArgumentException"
def s_Top_corner (co : Nat → Int32) (nt : Int32) (a0 : Int32) (a1 : Int32) : String ⊕ Int32 :=
  Sum.elim (fun E => .inl E) (fun _ =>
    Sum.elim (fun E => .inl E) (fun _ =>
      .inr (s_Mesh_cornerOf co a0 a1)) (s_Top_requireCorner a1)) (s_Top_requireTriangle nt a0)
def s_Top_beyond (ow : Nat → Int32) (co : Nat → Int32) (nt : Int32) (a0 : Int32) (a1 : Int32) : String ⊕ Int32 :=
  Sum.elim (fun E => .inl E) (fun _ =>
    Sum.elim (fun E => .inl E) (fun _ =>
      .inr (s_Mesh_triangleAcross ow co a0 a1)) (s_Top_requireCorner a1)) (s_Top_requireTriangle nt a0)
def s_Top_edgeCount (ne : Int32) : Int32 :=
  (s_Mesh_edges ne)
def s_Top_requireEdge (ne : Int32) (a0 : Int32) : String ⊕ Unit :=
  if a0 < 0 then
    .inl "java/lang/IndexOutOfBoundsException"
  else
    if a0 < (s_Mesh_edges ne) then
      .inr ()
    else
      .inl "java/lang/IndexOutOfBoundsException"
def s_Top_edgeEnd (el : Nat → Int32) (eh : Nat → Int32) (ne : Int32) (a0 : Int32) (a1 : Int32) : String ⊕ Int32 :=
  Sum.elim (fun E => .inl E) (fun _ =>
    Sum.elim (fun E => .inl E) (fun _ =>
      if a1 = 0 then
        .inr (s_Mesh_lowEnd el a0)
      else
        .inr (s_Mesh_highEnd eh a0)) (s_Top_requireBit a1)) (s_Top_requireEdge ne a0)
def s_Top_edgeBetween (F : Nat) (pn : Int32) (el : Nat → Int32) (eh : Nat → Int32) (ne : Int32) (a0 : Int32) (a1 : Int32) : Option (String ⊕ Int32) :=
  Sum.elim (fun E => some (.inl E)) (fun _ =>
    Sum.elim (fun E => some (.inl E)) (fun _ =>
      ((s_Mesh_edgeOf F el eh ne a0 a1)).bind fun v1 =>
      if v1 = (-1 : Int32) then
        some (.inl "java/util/NoSuchElementException")
      else
        some (.inr v1)) (s_Top_requirePoint pn a1)) (s_Top_requirePoint pn a0)
def s_Top_degree (pn : Int32) (lk : Nat → Int32) (a0 : Int32) : String ⊕ Int32 :=
  Sum.elim (fun E => .inl E) (fun _ =>
    .inr (s_Mesh_degreeOf lk a0)) (s_Top_requirePoint pn a0)
def s_Top_neighbour (F : Nat) (pn : Int32) (lk : Nat → Int32) (a0 : Int32) (a1 : Int32) : Option (String ⊕ Int32) :=
  Sum.elim (fun E => some (.inl E)) (fun _ =>
    if a1 < 0 then
      some (.inl "java/util/NoSuchElementException")
    else
      if a1 < (s_Mesh_degreeOf lk a0) then
        ((s_Mesh_neighbourOf F pn lk a0 a1)).bind fun v3 =>
        some (.inr v3)
      else
        some (.inl "java/util/NoSuchElementException")) (s_Top_requirePoint pn a0)
def s_Top_hullSize (nh : Int32) : Int32 :=
  (s_Mesh_hullPoints nh)
def s_Top_hullPoint (hu : Nat → Int32) (nh : Int32) (a0 : Int32) : String ⊕ Int32 :=
  if a0 < 0 then
    .inl "java/lang/IndexOutOfBoundsException"
  else
    if a0 < (s_Mesh_hullPoints nh) then
      .inr (s_Mesh_hullPointAt hu a0)
    else
      .inl "java/lang/IndexOutOfBoundsException"
def s_Top_twiceArea (pxs : Nat → Int32) (pys : Nat → Int32) (co : Nat → Int32) (nt : Int32) (a0 : Int32) : String ⊕ Int32 :=
  Sum.elim (fun E => .inl E) (fun _ =>
    .inr (s_Mesh_areaOf pxs pys co a0)) (s_Top_requireTriangle nt a0)
def s_Top_areaShare (F : Nat) (pxs : Nat → Int32) (pys : Nat → Int32) (co : Nat → Int32) (nt : Int32) (a0 : Int32) : Option (String ⊕ UInt64) :=
  Sum.elim (fun E => some (.inl E)) (fun _ =>
    ((s_Mesh_hullArea F pxs pys co nt)).bind fun v1 =>
    if v1 = 0 then
      some (.inr (0 : UInt64))
    else
      (ddivO (FP.i2d (s_Mesh_areaOf pxs pys co a0)) (FP.i2d v1)).bind fun v3 =>
      some (.inr v3)) (s_Top_requireTriangle nt a0)
def s_Top_meanDegree (pn : Int32) (ne : Int32) : Option (String ⊕ UInt64) :=
  if (s_Plan_points pn) = 0 then
    some (.inl "java/util/NoSuchElementException")
  else
    (ddivO (FP.i2d ((2 : Int32) * (s_Mesh_edges ne))) (FP.i2d (s_Plan_points pn))).bind fun v2 =>
    some (.inr v2)
def s_Top_squaredLength (F : Nat) (pxs : Nat → Int32) (pys : Nat → Int32) (pn : Int32) (el : Nat → Int32) (eh : Nat → Int32) (ne : Int32) (a0 : Int32) : Option (String ⊕ Int32) :=
  if a0 < 0 then
    some (.inl "java/lang/IllegalArgumentException")
  else
    if a0 ≤ (2 : Int32) then
      if (s_Mesh_edges ne) = 0 then
        some (.inl "java/util/NoSuchElementException")
      else
        if a0 = 0 then
          ((s_Mesh_leastLength F pxs pys el eh ne)).bind fun v8 =>
          some (.inr v8)
        else
          if a0 = (1 : Int32) then
            ((s_Mesh_greatestLength F pxs pys el eh ne)).bind fun v7 =>
            some (.inr v7)
          else
            ((s_Mesh_leastTree F pxs pys pn el eh ne)).bind fun v6 =>
            some (.inr v6)
    else
      some (.inl "java/lang/IllegalArgumentException")
def s_Top_turn (pxs : Nat → Int32) (pys : Nat → Int32) (pn : Int32) (a0 : Int32) (a1 : Int32) (a2 : Int32) : String ⊕ Int32 :=
  Sum.elim (fun E => .inl E) (fun _ =>
    Sum.elim (fun E => .inl E) (fun _ =>
      Sum.elim (fun E => .inl E) (fun _ =>
        .inr (s_Plan_side pxs pys a0 a1 a2)) (s_Top_requirePoint pn a2)) (s_Top_requirePoint pn a1)) (s_Top_requirePoint pn a0)
def s_Top_inCircle (pxs : Nat → Int32) (pys : Nat → Int32) (pn : Int32) (a0 : Int32) (a1 : Int32) (a2 : Int32) (a3 : Int32) : String ⊕ Int32 :=
  Sum.elim (fun E => .inl E) (fun _ =>
    Sum.elim (fun E => .inl E) (fun _ =>
      Sum.elim (fun E => .inl E) (fun _ =>
        Sum.elim (fun E => .inl E) (fun _ =>
          if (s_Plan_side pxs pys a0 a1 a2) = 0 then
            .inl "java/lang/ArithmeticException"
          else
            .inr (s_Plan_circleSide pxs pys a0 a1 a2 a3)) (s_Top_requirePoint pn a3)) (s_Top_requirePoint pn a2)) (s_Top_requirePoint pn a1)) (s_Top_requirePoint pn a0)
def s_Top_isGood (pxs : Nat → Int32) (pys : Nat → Int32) (th : Nat → Int32) (el : Nat → Int32) (eh : Nat → Int32) (ne : Int32) (a0 : Int32) : String ⊕ Bool :=
  Sum.elim (fun E => .inl E) (fun _ =>
    if (bI (s_Mesh_isInner th (s_Mesh_lowEnd el a0) (s_Mesh_highEnd eh a0))) = 0 then
      .inl "java/lang/UnsupportedOperationException"
    else
      .inr (s_Mesh_passesCircle pxs pys th (s_Mesh_lowEnd el a0) (s_Mesh_highEnd eh a0))) (s_Top_requireEdge ne a0)
def s_Top_forcedConstraints_L4 (pxs : Nat → Int32) (pys : Nat → Int32) (plo : Nat → Int32) (phi : Nat → Int32) (pm : Int32) (th : Nat → Int32) : Nat → Int32 → Int32 → Option (Int32 × Int32)
  | 0, _, _ => none
  | n + 1, x1, x2 =>
    if (s_Plan_constraints pm) ≤ x2 then
      some (x1, x2)
    else
      if (bI (s_Mesh_isInner th (s_Plan_lowEnd plo x2) (s_Plan_highEnd phi x2))) = 0 then
        s_Top_forcedConstraints_L4 pxs pys plo phi pm th n x1 (x2 + (1 : Int32))
      else
        if (bI (s_Mesh_passesCircle pxs pys th (s_Plan_lowEnd plo x2) (s_Plan_highEnd phi x2))) = 0 then
          s_Top_forcedConstraints_L4 pxs pys plo phi pm th n (x1 + (1 : Int32)) (x2 + (1 : Int32))
        else
          s_Top_forcedConstraints_L4 pxs pys plo phi pm th n x1 (x2 + (1 : Int32))
def s_Top_forcedConstraints (F : Nat) (pxs : Nat → Int32) (pys : Nat → Int32) (plo : Nat → Int32) (phi : Nat → Int32) (pm : Int32) (th : Nat → Int32) : Option (Int32) :=
  (s_Top_forcedConstraints_L4 pxs pys plo phi pm th F (0 : Int32) (0 : Int32)).bind fun o4x =>
  some o4x.1
def s_Top_kindOf (F : Nat) (pxs : Nat → Int32) (pys : Nat → Int32) (pn : Int32) (el : Nat → Int32) (eh : Nat → Int32) (co : Nat → Int32) (ne : Int32) (nt : Int32) (a0 : Int32) (a1 : Int32) : Option (Int32) :=
  ((s_Plan_pointAt F pxs pys pn a0 a1)).bind fun v1 =>
  if v1 = (-1 : Int32) then
    ((s_Mesh_edgeAt F pxs pys el eh ne a0 a1)).bind fun v3 =>
    if v3 = (-1 : Int32) then
      ((s_Mesh_triangleAt F pxs pys co nt a0 a1)).bind fun v5 =>
      if v5 = (-1 : Int32) then
        some (0 : Int32)
      else
        some (3 : Int32)
    else
      some (2 : Int32)
  else
    some (1 : Int32)
def s_Top_kindAt (F : Nat) (pxs : Nat → Int32) (pys : Nat → Int32) (pn : Int32) (el : Nat → Int32) (eh : Nat → Int32) (co : Nat → Int32) (ne : Int32) (nt : Int32) (a0 : Int32) (a1 : Int32) : Option (String ⊕ Int32) :=
  Sum.elim (fun E => some (.inl E)) (fun _ =>
    ((s_Top_kindOf F pxs pys pn el eh co ne nt a0 a1)).bind fun v1 =>
    some (.inr v1)) (s_Top_requirePosition a0 a1)
def s_Top_numberAt (F : Nat) (pxs : Nat → Int32) (pys : Nat → Int32) (pn : Int32) (el : Nat → Int32) (eh : Nat → Int32) (co : Nat → Int32) (ne : Int32) (nt : Int32) (a0 : Int32) (a1 : Int32) : Option (String ⊕ Int32) :=
  Sum.elim (fun E => some (.inl E)) (fun _ =>
    ((s_Top_kindOf F pxs pys pn el eh co ne nt a0 a1)).bind fun v1 =>
    if v1 = (1 : Int32) then
      ((s_Plan_pointAt F pxs pys pn a0 a1)).bind fun v3 =>
      some (.inr v3)
    else
    if v1 = (2 : Int32) then
      ((s_Mesh_edgeAt F pxs pys el eh ne a0 a1)).bind fun v5 =>
      some (.inr v5)
    else
    if v1 = (3 : Int32) then
      ((s_Mesh_triangleAt F pxs pys co nt a0 a1)).bind fun v7 =>
      some (.inr v7)
    else
      some (.inl "java/util/NoSuchElementException")) (s_Top_requirePosition a0 a1)
def s_Top_walk_L30 (F : Nat) (pxs : Nat → Int32) (pys : Nat → Int32) (ow : Nat → Int32) (co : Nat → Int32) (x2 : Int32) (x3 : Int32) : Nat → Int32 → Int32 → Int32 → Option (Int32 × Int32 × Int32)
  | 0, _, _, _ => none
  | n + 1, x5, x6, x7 =>
    if (50 : Int32) ≤ x6 then
      some (x5, x6, x7)
    else
      if x7 = (-1 : Int32) then
        some (x5, x6, x7)
      else
        if (s_Mesh_triangleAcross ow co x5 x7) = (-1 : Int32) then
          some (x5, x6, x7)
        else
          ((s_Mesh_exitTowards F pxs pys co (s_Mesh_triangleAcross ow co x5 x7) x2 x3)).bind fun v5 =>
          s_Top_walk_L30 F pxs pys ow co x2 x3 n (s_Mesh_triangleAcross ow co x5 x7) (x6 + (1 : Int32)) v5
def s_Top_walk (F : Nat) (pxs : Nat → Int32) (pys : Nat → Int32) (ow : Nat → Int32) (co : Nat → Int32) (nt : Int32) (a0 : Int32) (a1 : Int32) (a2 : Int32) (a3 : Bool) : Option (String ⊕ Int32) :=
  Sum.elim (fun E => some (.inl E)) (fun _ =>
    Sum.elim (fun E => some (.inl E)) (fun _ =>
      ((s_Mesh_exitTowards F pxs pys co a0 a1 a2)).bind fun v1 =>
      (s_Top_walk_L30 F pxs pys ow co a1 a2 F a0 (0 : Int32) v1).bind fun o6x =>
      if (bI a3) = 0 then
        some (.inr o6x.2.1)
      else
        if o6x.2.2 = (-1 : Int32) then
          some (.inr o6x.1)
        else
          some (.inr (-1 : Int32))) (s_Top_requirePosition a1 a2)) (s_Top_requireTriangle nt a0)
def s_Top_cavity_L44 (co : Nat → Int32) (nt : Int32) (tth : Nat → Int32) : Nat → Int32 → Int32 → Option (Int32 × Int32)
  | 0, _, _ => none
  | n + 1, x3, x4 =>
    if (s_Mesh_triangles nt) ≤ x4 then
      some (x3, x4)
    else
      if (bI (s_Mesh_hasTriangle tth (s_Mesh_cornerOf co x4 (0 : Int32)) (s_Mesh_cornerOf co x4 (1 : Int32)) (s_Mesh_cornerOf co x4 (2 : Int32)))) = 0 then
        s_Top_cavity_L44 co nt tth n (x3 + (1 : Int32)) (x4 + (1 : Int32))
      else
        s_Top_cavity_L44 co nt tth n x3 (x4 + (1 : Int32))
def s_Top_cavity (F : Nat) (pxs : Nat → Int32) (pys : Nat → Int32) (plo : Nat → Int32) (phi : Nat → Int32) (pn : Int32) (pm : Int32) (co : Nat → Int32) (nt : Int32) (tpxs : Nat → Int32) (tpys : Nat → Int32) (tplo : Nat → Int32) (tphi : Nat → Int32) (tlf : Nat → Int32) (tth : Nat → Int32) (tow : Nat → Int32) (tlk : Nat → Int32) (tel : Nat → Int32) (teh : Nat → Int32) (tco : Nat → Int32) (thu : Nat → Int32) (a0 : Int32) (a1 : Int32) : Option (String ⊕ (Int32 × (Nat → Int32) × (Nat → Int32) × (Nat → Int32) × (Nat → Int32) × Int32 × Int32 × (Nat → Int32) × (Nat → Int32) × (Nat → Int32) × (Nat → Int32) × (Nat → Int32) × (Nat → Int32) × (Nat → Int32) × (Nat → Int32) × Int32 × Int32 × Int32)) :=
  Sum.elim (fun E => some (.inl E)) (fun _ =>
    ((s_Top_requireNewPoint F pxs pys plo phi pn pm a0 a1)).bind fun v1 =>
    Sum.elim (fun E => some (.inl E)) (fun _ =>
      ((s_Plan_copyFrom F tpxs tpys tplo tphi pxs pys plo phi pn pm)).bind fun v2 =>
      ((s_Mesh_draw F ((s_Plan_appendPoint v2.1 v2.2.1 v2.2.2.2.2.1 a0 a1).1) ((s_Plan_appendPoint v2.1 v2.2.1 v2.2.2.2.2.1 a0 a1).2.1) v2.2.2.1 v2.2.2.2.1 ((s_Plan_appendPoint v2.1 v2.2.1 v2.2.2.2.2.1 a0 a1).2.2) v2.2.2.2.2.2 tlf tth tow tlk tel teh tco thu)).bind fun v3 =>
      (s_Top_cavity_L44 co nt v3.2.1 F (0 : Int32) (0 : Int32)).bind fun o6x =>
      some (.inr (o6x.1, (s_Plan_appendPoint v2.1 v2.2.1 v2.2.2.2.2.1 a0 a1).1, (s_Plan_appendPoint v2.1 v2.2.1 v2.2.2.2.2.1 a0 a1).2.1, v2.2.2.1, v2.2.2.2.1, (s_Plan_appendPoint v2.1 v2.2.1 v2.2.2.2.2.1 a0 a1).2.2, v2.2.2.2.2.2, v3.1, v3.2.1, v3.2.2.1, v3.2.2.2.1, v3.2.2.2.2.1, v3.2.2.2.2.2.1, v3.2.2.2.2.2.2.1, v3.2.2.2.2.2.2.2.1, v3.2.2.2.2.2.2.2.2.1, v3.2.2.2.2.2.2.2.2.2.1, v3.2.2.2.2.2.2.2.2.2.2))) v1) (s_Top_requirePosition a0 a1)
def s_Top_numberBefore (a0 : Int32) (a1 : Int32) : Int32 :=
  if a1 ≤ a0 then
    (a0 + (1 : Int32))
  else
    a0
def s_Top_hole_L40 (th : Nat → Int32) (tco : Nat → Int32) (tnt : Int32) (x1 : Int32) : Nat → Int32 → Int32 → Option (Int32 × Int32)
  | 0, _, _ => none
  | n + 1, x2, x3 =>
    if (s_Mesh_triangles tnt) ≤ x3 then
      some (x2, x3)
    else
      if (bI (s_Mesh_hasTriangle th (s_Top_numberBefore (s_Mesh_cornerOf tco x3 (0 : Int32)) x1) (s_Top_numberBefore (s_Mesh_cornerOf tco x3 (1 : Int32)) x1) (s_Top_numberBefore (s_Mesh_cornerOf tco x3 (2 : Int32)) x1))) = 0 then
        s_Top_hole_L40 th tco tnt x1 n (x2 + (1 : Int32)) (x3 + (1 : Int32))
      else
        s_Top_hole_L40 th tco tnt x1 n x2 (x3 + (1 : Int32))
def s_Top_hole (F : Nat) (pxs : Nat → Int32) (pys : Nat → Int32) (plo : Nat → Int32) (phi : Nat → Int32) (pn : Int32) (pm : Int32) (th : Nat → Int32) (tpxs : Nat → Int32) (tpys : Nat → Int32) (tplo : Nat → Int32) (tphi : Nat → Int32) (tlf : Nat → Int32) (tth : Nat → Int32) (tow : Nat → Int32) (tlk : Nat → Int32) (tel : Nat → Int32) (teh : Nat → Int32) (tco : Nat → Int32) (thu : Nat → Int32) (a0 : Int32) : Option (String ⊕ (Int32 × (Nat → Int32) × (Nat → Int32) × (Nat → Int32) × (Nat → Int32) × Int32 × Int32 × (Nat → Int32) × (Nat → Int32) × (Nat → Int32) × (Nat → Int32) × (Nat → Int32) × (Nat → Int32) × (Nat → Int32) × (Nat → Int32) × Int32 × Int32 × Int32)) :=
  Sum.elim (fun E => some (.inl E)) (fun _ =>
    ((s_Top_requireLoosePoint F plo phi pm a0)).bind fun v1 =>
    Sum.elim (fun E => some (.inl E)) (fun _ =>
      ((s_Plan_copyFrom F tpxs tpys tplo tphi pxs pys plo phi pn pm)).bind fun v2 =>
      ((s_Plan_dropPoint F v2.1 v2.2.1 v2.2.2.1 v2.2.2.2.1 v2.2.2.2.2.1 v2.2.2.2.2.2 a0)).bind fun v3 =>
      ((s_Mesh_draw F v3.1 v3.2.1 v3.2.2.1 v3.2.2.2.1 v3.2.2.2.2 v2.2.2.2.2.2 tlf tth tow tlk tel teh tco thu)).bind fun v4 =>
      (s_Top_hole_L40 th v4.2.2.2.2.2.2.1 v4.2.2.2.2.2.2.2.2.2.1 a0 F (0 : Int32) (0 : Int32)).bind fun o7x =>
      some (.inr (o7x.1, v3.1, v3.2.1, v3.2.2.1, v3.2.2.2.1, v3.2.2.2.2, v2.2.2.2.2.2, v4.1, v4.2.1, v4.2.2.1, v4.2.2.2.1, v4.2.2.2.2.1, v4.2.2.2.2.2.1, v4.2.2.2.2.2.2.1, v4.2.2.2.2.2.2.2.1, v4.2.2.2.2.2.2.2.2.1, v4.2.2.2.2.2.2.2.2.2.1, v4.2.2.2.2.2.2.2.2.2.2))) v1) (s_Top_requirePoint pn a0)
def s_Top_crossings_L21 (pxs : Nat → Int32) (pys : Nat → Int32) (lf : Nat → Int32) (el : Nat → Int32) (eh : Nat → Int32) (ne : Int32) (x1 : Int32) (x2 : Int32) : Nat → Int32 → Int32 → Option (Int32 × Int32)
  | 0, _, _ => none
  | n + 1, x3, x4 =>
    if (s_Mesh_edges ne) ≤ x4 then
      some (x3, x4)
    else
      if (bI (s_Mesh_edgeMeets pxs pys lf el eh x4 x1 x2)) = 0 then
        s_Top_crossings_L21 pxs pys lf el eh ne x1 x2 n x3 (x4 + (1 : Int32))
      else
        s_Top_crossings_L21 pxs pys lf el eh ne x1 x2 n (x3 + (1 : Int32)) (x4 + (1 : Int32))
def s_Top_crossings (F : Nat) (pxs : Nat → Int32) (pys : Nat → Int32) (pn : Int32) (lf : Nat → Int32) (el : Nat → Int32) (eh : Nat → Int32) (ne : Int32) (a0 : Int32) (a1 : Int32) : Option (String ⊕ Int32) :=
  Sum.elim (fun E => some (.inl E)) (fun _ =>
    Sum.elim (fun E => some (.inl E)) (fun _ =>
      Sum.elim (fun E => some (.inl E)) (fun _ =>
        (s_Top_crossings_L21 pxs pys lf el eh ne a0 a1 F (0 : Int32) (0 : Int32)).bind fun o3x =>
        some (.inr o3x.1)) (s_Top_requireDifferent a0 a1)) (s_Top_requirePoint pn a1)) (s_Top_requirePoint pn a0)
def s_Top_effect_L35 (F : Nat) (el : Nat → Int32) (eh : Nat → Int32) (ne : Int32) (tel : Nat → Int32) (teh : Nat → Int32) (tne : Int32) : Nat → Int32 → Int32 → Option (Int32 × Int32)
  | 0, _, _ => none
  | n + 1, x2, x3 =>
    if (s_Mesh_edges ne) ≤ x3 then
      some (x2, x3)
    else
      ((s_Mesh_edgeOf F tel teh tne (s_Mesh_lowEnd el x3) (s_Mesh_highEnd eh x3))).bind fun v5 =>
      if v5 = (-1 : Int32) then
        s_Top_effect_L35 F el eh ne tel teh tne n (x2 + (1 : Int32)) (x3 + (1 : Int32))
      else
        s_Top_effect_L35 F el eh ne tel teh tne n x2 (x3 + (1 : Int32))
def s_Top_effect (F : Nat) (pxs : Nat → Int32) (pys : Nat → Int32) (plo : Nat → Int32) (phi : Nat → Int32) (pn : Int32) (pm : Int32) (el : Nat → Int32) (eh : Nat → Int32) (ne : Int32) (tpxs : Nat → Int32) (tpys : Nat → Int32) (tplo : Nat → Int32) (tphi : Nat → Int32) (tlf : Nat → Int32) (tth : Nat → Int32) (tow : Nat → Int32) (tlk : Nat → Int32) (tel : Nat → Int32) (teh : Nat → Int32) (tco : Nat → Int32) (thu : Nat → Int32) (a0 : Int32) : Option (String ⊕ (Int32 × (Nat → Int32) × (Nat → Int32) × (Nat → Int32) × (Nat → Int32) × Int32 × Int32 × (Nat → Int32) × (Nat → Int32) × (Nat → Int32) × (Nat → Int32) × (Nat → Int32) × (Nat → Int32) × (Nat → Int32) × (Nat → Int32) × Int32 × Int32 × Int32)) :=
  Sum.elim (fun E => some (.inl E)) (fun _ =>
    ((s_Plan_copyFrom F tpxs tpys tplo tphi pxs pys plo phi pn pm)).bind fun v1 =>
    ((s_Plan_dropConstraint F v1.2.2.1 v1.2.2.2.1 v1.2.2.2.2.2 a0)).bind fun v2 =>
    ((s_Mesh_draw F v1.1 v1.2.1 v2.1 v2.2.1 v1.2.2.2.2.1 v2.2.2 tlf tth tow tlk tel teh tco thu)).bind fun v3 =>
    (s_Top_effect_L35 F el eh ne v3.2.2.2.2.1 v3.2.2.2.2.2.1 v3.2.2.2.2.2.2.2.2.1 F (0 : Int32) (0 : Int32)).bind fun o7x =>
    some (.inr (o7x.1, v1.1, v1.2.1, v2.1, v2.2.1, v1.2.2.2.2.1, v2.2.2, v3.1, v3.2.1, v3.2.2.1, v3.2.2.2.1, v3.2.2.2.2.1, v3.2.2.2.2.2.1, v3.2.2.2.2.2.2.1, v3.2.2.2.2.2.2.2.1, v3.2.2.2.2.2.2.2.2.1, v3.2.2.2.2.2.2.2.2.2.1, v3.2.2.2.2.2.2.2.2.2.2))) (s_Top_requireConstraint pm a0)
def s_Hist_kept (hkp : Int32) : Int32 :=
  hkp
def s_Top_undo (F : Nat) (pxs : Nat → Int32) (pys : Nat → Int32) (plo : Nat → Int32) (phi : Nat → Int32) (pn : Int32) (pm : Int32) (lf : Nat → Int32) (th : Nat → Int32) (ow : Nat → Int32) (lk : Nat → Int32) (el : Nat → Int32) (eh : Nat → Int32) (co : Nat → Int32) (hu : Nat → Int32) (hp : Nat → PlanS) (hnx : Int32) (hkp : Int32) : Option (String ⊕ (Int32 × (Nat → Int32) × (Nat → Int32) × (Nat → Int32) × (Nat → Int32) × Int32 × Int32 × (Nat → Int32) × (Nat → Int32) × (Nat → Int32) × (Nat → Int32) × (Nat → Int32) × (Nat → Int32) × (Nat → Int32) × (Nat → Int32) × Int32 × Int32 × Int32 × Int32 × Int32)) :=
  if (s_Hist_kept hkp) = 0 then
    some (.inl "java/lang/IllegalStateException")
  else
    ((s_Hist_recallInto F hp hnx hkp pxs pys plo phi pn pm)).bind fun v2 =>
    ((s_Mesh_draw F v2.2.2.1 v2.2.2.2.1 v2.2.2.2.2.1 v2.2.2.2.2.2.1 v2.2.2.2.2.2.2.1 v2.2.2.2.2.2.2.2 lf th ow lk el eh co hu)).bind fun v3 =>
    some (.inr ((s_Hist_kept v2.2.1), v2.2.2.1, v2.2.2.2.1, v2.2.2.2.2.1, v2.2.2.2.2.2.1, v2.2.2.2.2.2.2.1, v2.2.2.2.2.2.2.2, v3.1, v3.2.1, v3.2.2.1, v3.2.2.2.1, v3.2.2.2.2.1, v3.2.2.2.2.2.1, v3.2.2.2.2.2.2.1, v3.2.2.2.2.2.2.2.1, v3.2.2.2.2.2.2.2.2.1, v3.2.2.2.2.2.2.2.2.2.1, v3.2.2.2.2.2.2.2.2.2.2, v2.1, v2.2.1))
def s_Top_save (F : Nat) (pxs : Nat → Int32) (pys : Nat → Int32) (plo : Nat → Int32) (phi : Nat → Int32) (pn : Int32) (pm : Int32) (spxs : Nat → Int32) (spys : Nat → Int32) (splo : Nat → Int32) (sphi : Nat → Int32) : Option (Int32 × (Nat → Int32) × (Nat → Int32) × (Nat → Int32) × (Nat → Int32) × Int32 × Int32 × Bool) :=
  ((s_Plan_copyFrom F spxs spys splo sphi pxs pys plo phi pn pm)).bind fun v1 =>
  some ((s_Plan_points pn), v1.1, v1.2.1, v1.2.2.1, v1.2.2.2.1, v1.2.2.2.2.1, v1.2.2.2.2.2, true)
def s_Hist_clear  : Int32 :=
  (0 : Int32)
def s_Top_restore (F : Nat) (pxs : Nat → Int32) (pys : Nat → Int32) (plo : Nat → Int32) (phi : Nat → Int32) (lf : Nat → Int32) (th : Nat → Int32) (ow : Nat → Int32) (lk : Nat → Int32) (el : Nat → Int32) (eh : Nat → Int32) (co : Nat → Int32) (hu : Nat → Int32) (spxs : Nat → Int32) (spys : Nat → Int32) (splo : Nat → Int32) (sphi : Nat → Int32) (spn : Int32) (spm : Int32) (hsv : Bool) : Option (String ⊕ (Int32 × (Nat → Int32) × (Nat → Int32) × (Nat → Int32) × (Nat → Int32) × Int32 × Int32 × (Nat → Int32) × (Nat → Int32) × (Nat → Int32) × (Nat → Int32) × (Nat → Int32) × (Nat → Int32) × (Nat → Int32) × (Nat → Int32) × Int32 × Int32 × Int32 × Int32)) :=
  if (bI hsv) = 0 then
    some (.inl "java/lang/IllegalStateException")
  else
    ((s_Plan_copyFrom F pxs pys plo phi spxs spys splo sphi spn spm)).bind fun v2 =>
    ((s_Mesh_draw F v2.1 v2.2.1 v2.2.2.1 v2.2.2.2.1 v2.2.2.2.2.1 v2.2.2.2.2.2 lf th ow lk el eh co hu)).bind fun v3 =>
    some (.inr ((s_Plan_points v2.2.2.2.2.1), v2.1, v2.2.1, v2.2.2.1, v2.2.2.2.1, v2.2.2.2.2.1, v2.2.2.2.2.2, v3.1, v3.2.1, v3.2.2.1, v3.2.2.2.1, v3.2.2.2.2.1, v3.2.2.2.2.2.1, v3.2.2.2.2.2.2.1, v3.2.2.2.2.2.2.2.1, v3.2.2.2.2.2.2.2.2.1, v3.2.2.2.2.2.2.2.2.2.1, v3.2.2.2.2.2.2.2.2.2.2, (s_Hist_clear)))
def s_Law_addPoint (F : Nat) (pxs : Nat → Int32) (pys : Nat → Int32) (plo : Nat → Int32) (phi : Nat → Int32) (pn : Int32) (pm : Int32) (lf : Nat → Int32) (th : Nat → Int32) (ow : Nat → Int32) (lk : Nat → Int32) (el : Nat → Int32) (eh : Nat → Int32) (co : Nat → Int32) (hu : Nat → Int32) (ne : Int32) (nt : Int32) (nh : Int32) (hp : Nat → PlanS) (hnx : Int32) (hkp : Int32) (a0 : Int32) (a1 : Int32) (fl : Nat → Int64) : Option (Int32 × (Nat → Int32) × (Nat → Int32) × Int32 × (Nat → Int32) × (Nat → Int32) × (Nat → Int32) × (Nat → Int32) × (Nat → Int32) × (Nat → Int32) × (Nat → Int32) × (Nat → Int32) × Int32 × Int32 × Int32 × (Nat → PlanS) × Int32 × Int32 × (Nat → Int64)) :=
  ((s_Top_addPoint F pxs pys plo phi pn pm lf th ow lk el eh co hu hp hnx hkp a0 a1)).bind fun v =>
  Sum.elim (fun E =>
    if E = "java/lang/IllegalArgumentException" then some ((1 : Int32), pxs, pys, pn, lf, th, ow, lk, el, eh, co, hu, ne, nt, nh, hp, hnx, hkp, fl) else
    if E = "java/lang/IllegalStateException" then some ((2 : Int32), pxs, pys, pn, lf, th, ow, lk, el, eh, co, hu, ne, nt, nh, hp, hnx, hkp, fl) else
    if E = "java/lang/UnsupportedOperationException" then some ((3 : Int32), pxs, pys, pn, lf, th, ow, lk, el, eh, co, hu, ne, nt, nh, hp, hnx, hkp, fl) else
    none) (fun q =>
    some ((0 : Int32), q.2.1, q.2.2.1, q.2.2.2.1, q.2.2.2.2.1, q.2.2.2.2.2.1, q.2.2.2.2.2.2.1, q.2.2.2.2.2.2.2.1, q.2.2.2.2.2.2.2.2.1, q.2.2.2.2.2.2.2.2.2.1, q.2.2.2.2.2.2.2.2.2.2.1, q.2.2.2.2.2.2.2.2.2.2.2.1, q.2.2.2.2.2.2.2.2.2.2.2.2.1, q.2.2.2.2.2.2.2.2.2.2.2.2.2.1, q.2.2.2.2.2.2.2.2.2.2.2.2.2.2.1, q.2.2.2.2.2.2.2.2.2.2.2.2.2.2.2.1, q.2.2.2.2.2.2.2.2.2.2.2.2.2.2.2.2.1, q.2.2.2.2.2.2.2.2.2.2.2.2.2.2.2.2.2, vp_updL fl (0 : Int32).toNatClampNeg (q.1).toInt64)) v
def s_Law_removePoint (F : Nat) (pxs : Nat → Int32) (pys : Nat → Int32) (plo : Nat → Int32) (phi : Nat → Int32) (pn : Int32) (pm : Int32) (lf : Nat → Int32) (th : Nat → Int32) (ow : Nat → Int32) (lk : Nat → Int32) (el : Nat → Int32) (eh : Nat → Int32) (co : Nat → Int32) (hu : Nat → Int32) (ne : Int32) (nt : Int32) (nh : Int32) (hp : Nat → PlanS) (hnx : Int32) (hkp : Int32) (a0 : Int32) (fl : Nat → Int64) : Option (Int32 × (Nat → Int32) × (Nat → Int32) × (Nat → Int32) × (Nat → Int32) × Int32 × (Nat → Int32) × (Nat → Int32) × (Nat → Int32) × (Nat → Int32) × (Nat → Int32) × (Nat → Int32) × (Nat → Int32) × (Nat → Int32) × Int32 × Int32 × Int32 × (Nat → PlanS) × Int32 × Int32 × (Nat → Int64)) :=
  ((s_Top_removePoint F pxs pys plo phi pn pm lf th ow lk el eh co hu hp hnx hkp a0)).bind fun v =>
  Sum.elim (fun E =>
    if E = "java/lang/IndexOutOfBoundsException" then some ((1 : Int32), pxs, pys, plo, phi, pn, lf, th, ow, lk, el, eh, co, hu, ne, nt, nh, hp, hnx, hkp, fl) else
    if E = "java/lang/IllegalStateException" then some ((2 : Int32), pxs, pys, plo, phi, pn, lf, th, ow, lk, el, eh, co, hu, ne, nt, nh, hp, hnx, hkp, fl) else
    none) (fun q =>
    some ((0 : Int32), q.2.1, q.2.2.1, q.2.2.2.1, q.2.2.2.2.1, q.2.2.2.2.2.1, q.2.2.2.2.2.2.1, q.2.2.2.2.2.2.2.1, q.2.2.2.2.2.2.2.2.1, q.2.2.2.2.2.2.2.2.2.1, q.2.2.2.2.2.2.2.2.2.2.1, q.2.2.2.2.2.2.2.2.2.2.2.1, q.2.2.2.2.2.2.2.2.2.2.2.2.1, q.2.2.2.2.2.2.2.2.2.2.2.2.2.1, q.2.2.2.2.2.2.2.2.2.2.2.2.2.2.1, q.2.2.2.2.2.2.2.2.2.2.2.2.2.2.2.1, q.2.2.2.2.2.2.2.2.2.2.2.2.2.2.2.2.1, q.2.2.2.2.2.2.2.2.2.2.2.2.2.2.2.2.2.1, q.2.2.2.2.2.2.2.2.2.2.2.2.2.2.2.2.2.2.1, q.2.2.2.2.2.2.2.2.2.2.2.2.2.2.2.2.2.2.2, vp_updL fl (0 : Int32).toNatClampNeg (q.1).toInt64)) v
def s_Law_movePoint (F : Nat) (pxs : Nat → Int32) (pys : Nat → Int32) (plo : Nat → Int32) (phi : Nat → Int32) (pn : Int32) (pm : Int32) (lf : Nat → Int32) (th : Nat → Int32) (ow : Nat → Int32) (lk : Nat → Int32) (el : Nat → Int32) (eh : Nat → Int32) (co : Nat → Int32) (hu : Nat → Int32) (ne : Int32) (nt : Int32) (nh : Int32) (hp : Nat → PlanS) (hnx : Int32) (hkp : Int32) (a0 : Int32) (a1 : Int32) (a2 : Int32) (fl : Nat → Int64) : Option (Int32 × (Nat → Int32) × (Nat → Int32) × (Nat → Int32) × (Nat → Int32) × (Nat → Int32) × (Nat → Int32) × (Nat → Int32) × (Nat → Int32) × (Nat → Int32) × (Nat → Int32) × Int32 × Int32 × Int32 × (Nat → PlanS) × Int32 × Int32 × (Nat → Int64)) :=
  ((s_Top_movePoint F pxs pys plo phi pn pm lf th ow lk el eh co hu hp hnx hkp a0 a1 a2)).bind fun v =>
  Sum.elim (fun E =>
    if E = "java/lang/IndexOutOfBoundsException" then some ((1 : Int32), pxs, pys, lf, th, ow, lk, el, eh, co, hu, ne, nt, nh, hp, hnx, hkp, fl) else
    if E = "java/lang/IllegalArgumentException" then some ((2 : Int32), pxs, pys, lf, th, ow, lk, el, eh, co, hu, ne, nt, nh, hp, hnx, hkp, fl) else
    if E = "java/lang/IllegalStateException" then some ((3 : Int32), pxs, pys, lf, th, ow, lk, el, eh, co, hu, ne, nt, nh, hp, hnx, hkp, fl) else
    if E = "java/lang/UnsupportedOperationException" then some ((4 : Int32), pxs, pys, lf, th, ow, lk, el, eh, co, hu, ne, nt, nh, hp, hnx, hkp, fl) else
    none) (fun q =>
    if bI q.1 = 0 then some ((0 : Int32), q.2.1, q.2.2.1, q.2.2.2.1, q.2.2.2.2.1, q.2.2.2.2.2.1, q.2.2.2.2.2.2.1, q.2.2.2.2.2.2.2.1, q.2.2.2.2.2.2.2.2.1, q.2.2.2.2.2.2.2.2.2.1, q.2.2.2.2.2.2.2.2.2.2.1, q.2.2.2.2.2.2.2.2.2.2.2.1, q.2.2.2.2.2.2.2.2.2.2.2.2.1, q.2.2.2.2.2.2.2.2.2.2.2.2.2.1, q.2.2.2.2.2.2.2.2.2.2.2.2.2.2.1, q.2.2.2.2.2.2.2.2.2.2.2.2.2.2.2.1, q.2.2.2.2.2.2.2.2.2.2.2.2.2.2.2.2, vp_updL fl (0 : Int32).toNatClampNeg (0 : Int64)) else some ((0 : Int32), q.2.1, q.2.2.1, q.2.2.2.1, q.2.2.2.2.1, q.2.2.2.2.2.1, q.2.2.2.2.2.2.1, q.2.2.2.2.2.2.2.1, q.2.2.2.2.2.2.2.2.1, q.2.2.2.2.2.2.2.2.2.1, q.2.2.2.2.2.2.2.2.2.2.1, q.2.2.2.2.2.2.2.2.2.2.2.1, q.2.2.2.2.2.2.2.2.2.2.2.2.1, q.2.2.2.2.2.2.2.2.2.2.2.2.2.1, q.2.2.2.2.2.2.2.2.2.2.2.2.2.2.1, q.2.2.2.2.2.2.2.2.2.2.2.2.2.2.2.1, q.2.2.2.2.2.2.2.2.2.2.2.2.2.2.2.2, vp_updL fl (0 : Int32).toNatClampNeg (1 : Int64))) v
def s_Law_coordinate (pxs : Nat → Int32) (pys : Nat → Int32) (pn : Int32) (a0 : Int32) (a1 : Int32) (fl : Nat → Int64) : Option (Int32 × (Nat → Int64)) :=
  Sum.elim (fun E =>
    if E = "java/lang/IndexOutOfBoundsException" then some ((1 : Int32), fl) else
    if E = "java/lang/IllegalArgumentException" then some ((2 : Int32), fl) else
    none) (fun q =>
    some ((0 : Int32), vp_updL fl (0 : Int32).toNatClampNeg (q).toInt64)) (s_Top_coordinate pxs pys pn a0 a1)
def s_Law_addConstraint (F : Nat) (pxs : Nat → Int32) (pys : Nat → Int32) (plo : Nat → Int32) (phi : Nat → Int32) (pn : Int32) (pm : Int32) (lf : Nat → Int32) (th : Nat → Int32) (ow : Nat → Int32) (lk : Nat → Int32) (el : Nat → Int32) (eh : Nat → Int32) (co : Nat → Int32) (hu : Nat → Int32) (ne : Int32) (nt : Int32) (nh : Int32) (hp : Nat → PlanS) (hnx : Int32) (hkp : Int32) (a0 : Int32) (a1 : Int32) (fl : Nat → Int64) : Option (Int32 × (Nat → Int32) × (Nat → Int32) × Int32 × (Nat → Int32) × (Nat → Int32) × (Nat → Int32) × (Nat → Int32) × (Nat → Int32) × (Nat → Int32) × (Nat → Int32) × (Nat → Int32) × Int32 × Int32 × Int32 × (Nat → PlanS) × Int32 × Int32 × (Nat → Int64)) :=
  ((s_Top_addConstraint F pxs pys plo phi pn pm lf th ow lk el eh co hu hp hnx hkp a0 a1)).bind fun v =>
  Sum.elim (fun E =>
    if E = "java/lang/IndexOutOfBoundsException" then some ((1 : Int32), plo, phi, pm, lf, th, ow, lk, el, eh, co, hu, ne, nt, nh, hp, hnx, hkp, fl) else
    if E = "java/lang/IllegalArgumentException" then some ((2 : Int32), plo, phi, pm, lf, th, ow, lk, el, eh, co, hu, ne, nt, nh, hp, hnx, hkp, fl) else
    if E = "java/lang/IllegalStateException" then some ((3 : Int32), plo, phi, pm, lf, th, ow, lk, el, eh, co, hu, ne, nt, nh, hp, hnx, hkp, fl) else
    if E = "java/lang/UnsupportedOperationException" then some ((4 : Int32), plo, phi, pm, lf, th, ow, lk, el, eh, co, hu, ne, nt, nh, hp, hnx, hkp, fl) else
    none) (fun q =>
    some ((0 : Int32), q.2.1, q.2.2.1, q.2.2.2.1, q.2.2.2.2.1, q.2.2.2.2.2.1, q.2.2.2.2.2.2.1, q.2.2.2.2.2.2.2.1, q.2.2.2.2.2.2.2.2.1, q.2.2.2.2.2.2.2.2.2.1, q.2.2.2.2.2.2.2.2.2.2.1, q.2.2.2.2.2.2.2.2.2.2.2.1, q.2.2.2.2.2.2.2.2.2.2.2.2.1, q.2.2.2.2.2.2.2.2.2.2.2.2.2.1, q.2.2.2.2.2.2.2.2.2.2.2.2.2.2.1, q.2.2.2.2.2.2.2.2.2.2.2.2.2.2.2.1, q.2.2.2.2.2.2.2.2.2.2.2.2.2.2.2.2.1, q.2.2.2.2.2.2.2.2.2.2.2.2.2.2.2.2.2, vp_updL fl (0 : Int32).toNatClampNeg (q.1).toInt64)) v
def s_Law_removeConstraint (F : Nat) (pxs : Nat → Int32) (pys : Nat → Int32) (plo : Nat → Int32) (phi : Nat → Int32) (pn : Int32) (pm : Int32) (lf : Nat → Int32) (th : Nat → Int32) (ow : Nat → Int32) (lk : Nat → Int32) (el : Nat → Int32) (eh : Nat → Int32) (co : Nat → Int32) (hu : Nat → Int32) (ne : Int32) (nt : Int32) (nh : Int32) (hp : Nat → PlanS) (hnx : Int32) (hkp : Int32) (a0 : Int32) (fl : Nat → Int64) : Option (Int32 × (Nat → Int32) × (Nat → Int32) × Int32 × (Nat → Int32) × (Nat → Int32) × (Nat → Int32) × (Nat → Int32) × (Nat → Int32) × (Nat → Int32) × (Nat → Int32) × (Nat → Int32) × Int32 × Int32 × Int32 × (Nat → PlanS) × Int32 × Int32 × (Nat → Int64)) :=
  ((s_Top_removeConstraint F pxs pys plo phi pn pm lf th ow lk el eh co hu hp hnx hkp a0)).bind fun v =>
  Sum.elim (fun E =>
    if E = "java/lang/IndexOutOfBoundsException" then some ((1 : Int32), plo, phi, pm, lf, th, ow, lk, el, eh, co, hu, ne, nt, nh, hp, hnx, hkp, fl) else
    none) (fun q =>
    some ((0 : Int32), q.2.1, q.2.2.1, q.2.2.2.1, q.2.2.2.2.1, q.2.2.2.2.2.1, q.2.2.2.2.2.2.1, q.2.2.2.2.2.2.2.1, q.2.2.2.2.2.2.2.2.1, q.2.2.2.2.2.2.2.2.2.1, q.2.2.2.2.2.2.2.2.2.2.1, q.2.2.2.2.2.2.2.2.2.2.2.1, q.2.2.2.2.2.2.2.2.2.2.2.2.1, q.2.2.2.2.2.2.2.2.2.2.2.2.2.1, q.2.2.2.2.2.2.2.2.2.2.2.2.2.2.1, q.2.2.2.2.2.2.2.2.2.2.2.2.2.2.2.1, q.2.2.2.2.2.2.2.2.2.2.2.2.2.2.2.2.1, q.2.2.2.2.2.2.2.2.2.2.2.2.2.2.2.2.2, vp_updL fl (0 : Int32).toNatClampNeg (q.1).toInt64)) v
def s_Law_constraintEnd (plo : Nat → Int32) (phi : Nat → Int32) (pm : Int32) (a0 : Int32) (a1 : Int32) (fl : Nat → Int64) : Option (Int32 × (Nat → Int64)) :=
  Sum.elim (fun E =>
    if E = "java/lang/IndexOutOfBoundsException" then some ((1 : Int32), fl) else
    if E = "java/lang/IllegalArgumentException" then some ((2 : Int32), fl) else
    none) (fun q =>
    some ((0 : Int32), vp_updL fl (0 : Int32).toNatClampNeg (q).toInt64)) (s_Top_constraintEnd plo phi pm a0 a1)
def s_Law_feed (ich : Nat → Int32) (iln : Int32) (a0 : Int32) (fl : Nat → Int64) : Option (Int32 × (Nat → Int32) × Int32 × (Nat → Int64)) :=
  Sum.elim (fun E =>
    if E = "java/lang/IllegalStateException" then some ((1 : Int32), ich, iln, fl) else
    none) (fun q =>
    some ((0 : Int32), q.2.1, q.2.2, vp_updL fl (0 : Int32).toNatClampNeg (q.1).toInt64)) (s_Top_feed ich iln a0)
def s_Law_corner (co : Nat → Int32) (nt : Int32) (a0 : Int32) (a1 : Int32) (fl : Nat → Int64) : Option (Int32 × (Nat → Int64)) :=
  Sum.elim (fun E =>
    if E = "java/lang/IndexOutOfBoundsException" then some ((1 : Int32), fl) else
    if E = "java/lang/IllegalArgumentException" then some ((2 : Int32), fl) else
    none) (fun q =>
    some ((0 : Int32), vp_updL fl (0 : Int32).toNatClampNeg (q).toInt64)) (s_Top_corner co nt a0 a1)
def s_Law_beyond (ow : Nat → Int32) (co : Nat → Int32) (nt : Int32) (a0 : Int32) (a1 : Int32) (fl : Nat → Int64) : Option (Int32 × (Nat → Int64)) :=
  Sum.elim (fun E =>
    if E = "java/lang/IndexOutOfBoundsException" then some ((1 : Int32), fl) else
    if E = "java/lang/IllegalArgumentException" then some ((2 : Int32), fl) else
    none) (fun q =>
    some ((0 : Int32), vp_updL fl (0 : Int32).toNatClampNeg (q).toInt64)) (s_Top_beyond ow co nt a0 a1)
def s_Law_edgeEnd (el : Nat → Int32) (eh : Nat → Int32) (ne : Int32) (a0 : Int32) (a1 : Int32) (fl : Nat → Int64) : Option (Int32 × (Nat → Int64)) :=
  Sum.elim (fun E =>
    if E = "java/lang/IndexOutOfBoundsException" then some ((1 : Int32), fl) else
    if E = "java/lang/IllegalArgumentException" then some ((2 : Int32), fl) else
    none) (fun q =>
    some ((0 : Int32), vp_updL fl (0 : Int32).toNatClampNeg (q).toInt64)) (s_Top_edgeEnd el eh ne a0 a1)
def s_Law_edgeBetween (F : Nat) (pn : Int32) (el : Nat → Int32) (eh : Nat → Int32) (ne : Int32) (a0 : Int32) (a1 : Int32) (fl : Nat → Int64) : Option (Int32 × (Nat → Int64)) :=
  ((s_Top_edgeBetween F pn el eh ne a0 a1)).bind fun v =>
  Sum.elim (fun E =>
    if E = "java/lang/IndexOutOfBoundsException" then some ((1 : Int32), fl) else
    if E = "java/util/NoSuchElementException" then some ((2 : Int32), fl) else
    none) (fun q =>
    some ((0 : Int32), vp_updL fl (0 : Int32).toNatClampNeg (q).toInt64)) v
def s_Law_degree (pn : Int32) (lk : Nat → Int32) (a0 : Int32) (fl : Nat → Int64) : Option (Int32 × (Nat → Int64)) :=
  Sum.elim (fun E =>
    if E = "java/lang/IndexOutOfBoundsException" then some ((1 : Int32), fl) else
    none) (fun q =>
    some ((0 : Int32), vp_updL fl (0 : Int32).toNatClampNeg (q).toInt64)) (s_Top_degree pn lk a0)
def s_Law_neighbour (F : Nat) (pn : Int32) (lk : Nat → Int32) (a0 : Int32) (a1 : Int32) (fl : Nat → Int64) : Option (Int32 × (Nat → Int64)) :=
  ((s_Top_neighbour F pn lk a0 a1)).bind fun v =>
  Sum.elim (fun E =>
    if E = "java/lang/IndexOutOfBoundsException" then some ((1 : Int32), fl) else
    if E = "java/util/NoSuchElementException" then some ((2 : Int32), fl) else
    none) (fun q =>
    some ((0 : Int32), vp_updL fl (0 : Int32).toNatClampNeg (q).toInt64)) v
def s_Law_hullPoint (hu : Nat → Int32) (nh : Int32) (a0 : Int32) (fl : Nat → Int64) : Option (Int32 × (Nat → Int64)) :=
  Sum.elim (fun E =>
    if E = "java/lang/IndexOutOfBoundsException" then some ((1 : Int32), fl) else
    none) (fun q =>
    some ((0 : Int32), vp_updL fl (0 : Int32).toNatClampNeg (q).toInt64)) (s_Top_hullPoint hu nh a0)
def s_Law_twiceArea (pxs : Nat → Int32) (pys : Nat → Int32) (co : Nat → Int32) (nt : Int32) (a0 : Int32) (fl : Nat → Int64) : Option (Int32 × (Nat → Int64)) :=
  Sum.elim (fun E =>
    if E = "java/lang/IndexOutOfBoundsException" then some ((1 : Int32), fl) else
    none) (fun q =>
    some ((0 : Int32), vp_updL fl (0 : Int32).toNatClampNeg (q).toInt64)) (s_Top_twiceArea pxs pys co nt a0)
def s_Law_areaShare (F : Nat) (pxs : Nat → Int32) (pys : Nat → Int32) (co : Nat → Int32) (nt : Int32) (a0 : Int32) (fd : Nat → UInt64) : Option (Int32 × (Nat → UInt64)) :=
  ((s_Top_areaShare F pxs pys co nt a0)).bind fun v =>
  Sum.elim (fun E =>
    if E = "java/lang/IndexOutOfBoundsException" then some ((1 : Int32), fd) else
    none) (fun q =>
    some ((0 : Int32), vf_upd fd (0 : Int32).toNatClampNeg q)) v
def s_Law_meanDegree (pn : Int32) (ne : Int32) (fd : Nat → UInt64) : Option (Int32 × (Nat → UInt64)) :=
  ((s_Top_meanDegree pn ne)).bind fun v =>
  Sum.elim (fun E =>
    if E = "java/util/NoSuchElementException" then some ((1 : Int32), fd) else
    none) (fun q =>
    some ((0 : Int32), vf_upd fd (0 : Int32).toNatClampNeg q)) v
def s_Law_squaredLength (F : Nat) (pxs : Nat → Int32) (pys : Nat → Int32) (pn : Int32) (el : Nat → Int32) (eh : Nat → Int32) (ne : Int32) (a0 : Int32) (fl : Nat → Int64) : Option (Int32 × (Nat → Int64)) :=
  ((s_Top_squaredLength F pxs pys pn el eh ne a0)).bind fun v =>
  Sum.elim (fun E =>
    if E = "java/lang/IllegalArgumentException" then some ((1 : Int32), fl) else
    if E = "java/util/NoSuchElementException" then some ((2 : Int32), fl) else
    none) (fun q =>
    some ((0 : Int32), vp_updL fl (0 : Int32).toNatClampNeg (q).toInt64)) v
def s_Law_turn (pxs : Nat → Int32) (pys : Nat → Int32) (pn : Int32) (a0 : Int32) (a1 : Int32) (a2 : Int32) (fl : Nat → Int64) : Option (Int32 × (Nat → Int64)) :=
  Sum.elim (fun E =>
    if E = "java/lang/IndexOutOfBoundsException" then some ((1 : Int32), fl) else
    none) (fun q =>
    some ((0 : Int32), vp_updL fl (0 : Int32).toNatClampNeg (q).toInt64)) (s_Top_turn pxs pys pn a0 a1 a2)
def s_Law_inCircle (pxs : Nat → Int32) (pys : Nat → Int32) (pn : Int32) (a0 : Int32) (a1 : Int32) (a2 : Int32) (a3 : Int32) (fl : Nat → Int64) : Option (Int32 × (Nat → Int64)) :=
  Sum.elim (fun E =>
    if E = "java/lang/IndexOutOfBoundsException" then some ((1 : Int32), fl) else
    if E = "java/lang/ArithmeticException" then some ((2 : Int32), fl) else
    none) (fun q =>
    some ((0 : Int32), vp_updL fl (0 : Int32).toNatClampNeg (q).toInt64)) (s_Top_inCircle pxs pys pn a0 a1 a2 a3)
def s_Law_isGood (pxs : Nat → Int32) (pys : Nat → Int32) (th : Nat → Int32) (el : Nat → Int32) (eh : Nat → Int32) (ne : Int32) (a0 : Int32) (fl : Nat → Int64) : Option (Int32 × (Nat → Int64)) :=
  Sum.elim (fun E =>
    if E = "java/lang/IndexOutOfBoundsException" then some ((1 : Int32), fl) else
    if E = "java/lang/UnsupportedOperationException" then some ((2 : Int32), fl) else
    none) (fun q =>
    if bI q = 0 then some ((0 : Int32), vp_updL fl (0 : Int32).toNatClampNeg (0 : Int64)) else some ((0 : Int32), vp_updL fl (0 : Int32).toNatClampNeg (1 : Int64))) (s_Top_isGood pxs pys th el eh ne a0)
def s_Law_kindAt (F : Nat) (pxs : Nat → Int32) (pys : Nat → Int32) (pn : Int32) (el : Nat → Int32) (eh : Nat → Int32) (co : Nat → Int32) (ne : Int32) (nt : Int32) (a0 : Int32) (a1 : Int32) (fl : Nat → Int64) : Option (Int32 × (Nat → Int64)) :=
  ((s_Top_kindAt F pxs pys pn el eh co ne nt a0 a1)).bind fun v =>
  Sum.elim (fun E =>
    if E = "java/lang/IllegalArgumentException" then some ((1 : Int32), fl) else
    none) (fun q =>
    some ((0 : Int32), vp_updL fl (0 : Int32).toNatClampNeg (q).toInt64)) v
def s_Law_numberAt (F : Nat) (pxs : Nat → Int32) (pys : Nat → Int32) (pn : Int32) (el : Nat → Int32) (eh : Nat → Int32) (co : Nat → Int32) (ne : Int32) (nt : Int32) (a0 : Int32) (a1 : Int32) (fl : Nat → Int64) : Option (Int32 × (Nat → Int64)) :=
  ((s_Top_numberAt F pxs pys pn el eh co ne nt a0 a1)).bind fun v =>
  Sum.elim (fun E =>
    if E = "java/lang/IllegalArgumentException" then some ((1 : Int32), fl) else
    if E = "java/util/NoSuchElementException" then some ((2 : Int32), fl) else
    none) (fun q =>
    some ((0 : Int32), vp_updL fl (0 : Int32).toNatClampNeg (q).toInt64)) v
def s_Law_walk (F : Nat) (pxs : Nat → Int32) (pys : Nat → Int32) (ow : Nat → Int32) (co : Nat → Int32) (nt : Int32) (a0 : Int32) (a1 : Int32) (a2 : Int32) (a3 : Bool) (fl : Nat → Int64) : Option (Int32 × (Nat → Int64)) :=
  ((s_Top_walk F pxs pys ow co nt a0 a1 a2 a3)).bind fun v =>
  Sum.elim (fun E =>
    if E = "java/lang/IndexOutOfBoundsException" then some ((1 : Int32), fl) else
    if E = "java/lang/IllegalArgumentException" then some ((2 : Int32), fl) else
    none) (fun q =>
    some ((0 : Int32), vp_updL fl (0 : Int32).toNatClampNeg (q).toInt64)) v
def s_Law_cavity (F : Nat) (pxs : Nat → Int32) (pys : Nat → Int32) (plo : Nat → Int32) (phi : Nat → Int32) (pn : Int32) (pm : Int32) (co : Nat → Int32) (nt : Int32) (tpxs : Nat → Int32) (tpys : Nat → Int32) (tplo : Nat → Int32) (tphi : Nat → Int32) (tpn : Int32) (tpm : Int32) (tlf : Nat → Int32) (tth : Nat → Int32) (tow : Nat → Int32) (tlk : Nat → Int32) (tel : Nat → Int32) (teh : Nat → Int32) (tco : Nat → Int32) (thu : Nat → Int32) (tne : Int32) (tnt : Int32) (tnh : Int32) (a0 : Int32) (a1 : Int32) (fl : Nat → Int64) : Option (Int32 × (Nat → Int32) × (Nat → Int32) × (Nat → Int32) × (Nat → Int32) × Int32 × Int32 × (Nat → Int32) × (Nat → Int32) × (Nat → Int32) × (Nat → Int32) × (Nat → Int32) × (Nat → Int32) × (Nat → Int32) × (Nat → Int32) × Int32 × Int32 × Int32 × (Nat → Int64)) :=
  ((s_Top_cavity F pxs pys plo phi pn pm co nt tpxs tpys tplo tphi tlf tth tow tlk tel teh tco thu a0 a1)).bind fun v =>
  Sum.elim (fun E =>
    if E = "java/lang/IllegalArgumentException" then some ((1 : Int32), tpxs, tpys, tplo, tphi, tpn, tpm, tlf, tth, tow, tlk, tel, teh, tco, thu, tne, tnt, tnh, fl) else
    if E = "java/lang/IllegalStateException" then some ((2 : Int32), tpxs, tpys, tplo, tphi, tpn, tpm, tlf, tth, tow, tlk, tel, teh, tco, thu, tne, tnt, tnh, fl) else
    if E = "java/lang/UnsupportedOperationException" then some ((3 : Int32), tpxs, tpys, tplo, tphi, tpn, tpm, tlf, tth, tow, tlk, tel, teh, tco, thu, tne, tnt, tnh, fl) else
    none) (fun q =>
    some ((0 : Int32), q.2.1, q.2.2.1, q.2.2.2.1, q.2.2.2.2.1, q.2.2.2.2.2.1, q.2.2.2.2.2.2.1, q.2.2.2.2.2.2.2.1, q.2.2.2.2.2.2.2.2.1, q.2.2.2.2.2.2.2.2.2.1, q.2.2.2.2.2.2.2.2.2.2.1, q.2.2.2.2.2.2.2.2.2.2.2.1, q.2.2.2.2.2.2.2.2.2.2.2.2.1, q.2.2.2.2.2.2.2.2.2.2.2.2.2.1, q.2.2.2.2.2.2.2.2.2.2.2.2.2.2.1, q.2.2.2.2.2.2.2.2.2.2.2.2.2.2.2.1, q.2.2.2.2.2.2.2.2.2.2.2.2.2.2.2.2.1, q.2.2.2.2.2.2.2.2.2.2.2.2.2.2.2.2.2, vp_updL fl (0 : Int32).toNatClampNeg (q.1).toInt64)) v
def s_Law_hole (F : Nat) (pxs : Nat → Int32) (pys : Nat → Int32) (plo : Nat → Int32) (phi : Nat → Int32) (pn : Int32) (pm : Int32) (th : Nat → Int32) (tpxs : Nat → Int32) (tpys : Nat → Int32) (tplo : Nat → Int32) (tphi : Nat → Int32) (tpn : Int32) (tpm : Int32) (tlf : Nat → Int32) (tth : Nat → Int32) (tow : Nat → Int32) (tlk : Nat → Int32) (tel : Nat → Int32) (teh : Nat → Int32) (tco : Nat → Int32) (thu : Nat → Int32) (tne : Int32) (tnt : Int32) (tnh : Int32) (a0 : Int32) (fl : Nat → Int64) : Option (Int32 × (Nat → Int32) × (Nat → Int32) × (Nat → Int32) × (Nat → Int32) × Int32 × Int32 × (Nat → Int32) × (Nat → Int32) × (Nat → Int32) × (Nat → Int32) × (Nat → Int32) × (Nat → Int32) × (Nat → Int32) × (Nat → Int32) × Int32 × Int32 × Int32 × (Nat → Int64)) :=
  ((s_Top_hole F pxs pys plo phi pn pm th tpxs tpys tplo tphi tlf tth tow tlk tel teh tco thu a0)).bind fun v =>
  Sum.elim (fun E =>
    if E = "java/lang/IndexOutOfBoundsException" then some ((1 : Int32), tpxs, tpys, tplo, tphi, tpn, tpm, tlf, tth, tow, tlk, tel, teh, tco, thu, tne, tnt, tnh, fl) else
    if E = "java/lang/IllegalStateException" then some ((2 : Int32), tpxs, tpys, tplo, tphi, tpn, tpm, tlf, tth, tow, tlk, tel, teh, tco, thu, tne, tnt, tnh, fl) else
    none) (fun q =>
    some ((0 : Int32), q.2.1, q.2.2.1, q.2.2.2.1, q.2.2.2.2.1, q.2.2.2.2.2.1, q.2.2.2.2.2.2.1, q.2.2.2.2.2.2.2.1, q.2.2.2.2.2.2.2.2.1, q.2.2.2.2.2.2.2.2.2.1, q.2.2.2.2.2.2.2.2.2.2.1, q.2.2.2.2.2.2.2.2.2.2.2.1, q.2.2.2.2.2.2.2.2.2.2.2.2.1, q.2.2.2.2.2.2.2.2.2.2.2.2.2.1, q.2.2.2.2.2.2.2.2.2.2.2.2.2.2.1, q.2.2.2.2.2.2.2.2.2.2.2.2.2.2.2.1, q.2.2.2.2.2.2.2.2.2.2.2.2.2.2.2.2.1, q.2.2.2.2.2.2.2.2.2.2.2.2.2.2.2.2.2, vp_updL fl (0 : Int32).toNatClampNeg (q.1).toInt64)) v
def s_Law_crossings (F : Nat) (pxs : Nat → Int32) (pys : Nat → Int32) (pn : Int32) (lf : Nat → Int32) (el : Nat → Int32) (eh : Nat → Int32) (ne : Int32) (a0 : Int32) (a1 : Int32) (fl : Nat → Int64) : Option (Int32 × (Nat → Int64)) :=
  ((s_Top_crossings F pxs pys pn lf el eh ne a0 a1)).bind fun v =>
  Sum.elim (fun E =>
    if E = "java/lang/IndexOutOfBoundsException" then some ((1 : Int32), fl) else
    if E = "java/lang/IllegalArgumentException" then some ((2 : Int32), fl) else
    none) (fun q =>
    some ((0 : Int32), vp_updL fl (0 : Int32).toNatClampNeg (q).toInt64)) v
def s_Law_effect (F : Nat) (pxs : Nat → Int32) (pys : Nat → Int32) (plo : Nat → Int32) (phi : Nat → Int32) (pn : Int32) (pm : Int32) (el : Nat → Int32) (eh : Nat → Int32) (ne : Int32) (tpxs : Nat → Int32) (tpys : Nat → Int32) (tplo : Nat → Int32) (tphi : Nat → Int32) (tpn : Int32) (tpm : Int32) (tlf : Nat → Int32) (tth : Nat → Int32) (tow : Nat → Int32) (tlk : Nat → Int32) (tel : Nat → Int32) (teh : Nat → Int32) (tco : Nat → Int32) (thu : Nat → Int32) (tne : Int32) (tnt : Int32) (tnh : Int32) (a0 : Int32) (fl : Nat → Int64) : Option (Int32 × (Nat → Int32) × (Nat → Int32) × (Nat → Int32) × (Nat → Int32) × Int32 × Int32 × (Nat → Int32) × (Nat → Int32) × (Nat → Int32) × (Nat → Int32) × (Nat → Int32) × (Nat → Int32) × (Nat → Int32) × (Nat → Int32) × Int32 × Int32 × Int32 × (Nat → Int64)) :=
  ((s_Top_effect F pxs pys plo phi pn pm el eh ne tpxs tpys tplo tphi tlf tth tow tlk tel teh tco thu a0)).bind fun v =>
  Sum.elim (fun E =>
    if E = "java/lang/IndexOutOfBoundsException" then some ((1 : Int32), tpxs, tpys, tplo, tphi, tpn, tpm, tlf, tth, tow, tlk, tel, teh, tco, thu, tne, tnt, tnh, fl) else
    none) (fun q =>
    some ((0 : Int32), q.2.1, q.2.2.1, q.2.2.2.1, q.2.2.2.2.1, q.2.2.2.2.2.1, q.2.2.2.2.2.2.1, q.2.2.2.2.2.2.2.1, q.2.2.2.2.2.2.2.2.1, q.2.2.2.2.2.2.2.2.2.1, q.2.2.2.2.2.2.2.2.2.2.1, q.2.2.2.2.2.2.2.2.2.2.2.1, q.2.2.2.2.2.2.2.2.2.2.2.2.1, q.2.2.2.2.2.2.2.2.2.2.2.2.2.1, q.2.2.2.2.2.2.2.2.2.2.2.2.2.2.1, q.2.2.2.2.2.2.2.2.2.2.2.2.2.2.2.1, q.2.2.2.2.2.2.2.2.2.2.2.2.2.2.2.2.1, q.2.2.2.2.2.2.2.2.2.2.2.2.2.2.2.2.2, vp_updL fl (0 : Int32).toNatClampNeg (q.1).toInt64)) v
def s_Law_undo (F : Nat) (pxs : Nat → Int32) (pys : Nat → Int32) (plo : Nat → Int32) (phi : Nat → Int32) (pn : Int32) (pm : Int32) (lf : Nat → Int32) (th : Nat → Int32) (ow : Nat → Int32) (lk : Nat → Int32) (el : Nat → Int32) (eh : Nat → Int32) (co : Nat → Int32) (hu : Nat → Int32) (ne : Int32) (nt : Int32) (nh : Int32) (hp : Nat → PlanS) (hnx : Int32) (hkp : Int32) (fl : Nat → Int64) : Option (Int32 × (Nat → Int32) × (Nat → Int32) × (Nat → Int32) × (Nat → Int32) × Int32 × Int32 × (Nat → Int32) × (Nat → Int32) × (Nat → Int32) × (Nat → Int32) × (Nat → Int32) × (Nat → Int32) × (Nat → Int32) × (Nat → Int32) × Int32 × Int32 × Int32 × Int32 × Int32 × (Nat → Int64)) :=
  ((s_Top_undo F pxs pys plo phi pn pm lf th ow lk el eh co hu hp hnx hkp)).bind fun v =>
  Sum.elim (fun E =>
    if E = "java/lang/IllegalStateException" then some ((1 : Int32), pxs, pys, plo, phi, pn, pm, lf, th, ow, lk, el, eh, co, hu, ne, nt, nh, hnx, hkp, fl) else
    none) (fun q =>
    some ((0 : Int32), q.2.1, q.2.2.1, q.2.2.2.1, q.2.2.2.2.1, q.2.2.2.2.2.1, q.2.2.2.2.2.2.1, q.2.2.2.2.2.2.2.1, q.2.2.2.2.2.2.2.2.1, q.2.2.2.2.2.2.2.2.2.1, q.2.2.2.2.2.2.2.2.2.2.1, q.2.2.2.2.2.2.2.2.2.2.2.1, q.2.2.2.2.2.2.2.2.2.2.2.2.1, q.2.2.2.2.2.2.2.2.2.2.2.2.2.1, q.2.2.2.2.2.2.2.2.2.2.2.2.2.2.1, q.2.2.2.2.2.2.2.2.2.2.2.2.2.2.2.1, q.2.2.2.2.2.2.2.2.2.2.2.2.2.2.2.2.1, q.2.2.2.2.2.2.2.2.2.2.2.2.2.2.2.2.2.1, q.2.2.2.2.2.2.2.2.2.2.2.2.2.2.2.2.2.2.1, q.2.2.2.2.2.2.2.2.2.2.2.2.2.2.2.2.2.2.2, vp_updL fl (0 : Int32).toNatClampNeg (q.1).toInt64)) v
def s_Law_restore (F : Nat) (pxs : Nat → Int32) (pys : Nat → Int32) (plo : Nat → Int32) (phi : Nat → Int32) (pn : Int32) (pm : Int32) (lf : Nat → Int32) (th : Nat → Int32) (ow : Nat → Int32) (lk : Nat → Int32) (el : Nat → Int32) (eh : Nat → Int32) (co : Nat → Int32) (hu : Nat → Int32) (ne : Int32) (nt : Int32) (nh : Int32) (spxs : Nat → Int32) (spys : Nat → Int32) (splo : Nat → Int32) (sphi : Nat → Int32) (spn : Int32) (spm : Int32) (hkp : Int32) (hsv : Bool) (fl : Nat → Int64) : Option (Int32 × (Nat → Int32) × (Nat → Int32) × (Nat → Int32) × (Nat → Int32) × Int32 × Int32 × (Nat → Int32) × (Nat → Int32) × (Nat → Int32) × (Nat → Int32) × (Nat → Int32) × (Nat → Int32) × (Nat → Int32) × (Nat → Int32) × Int32 × Int32 × Int32 × Int32 × (Nat → Int64)) :=
  ((s_Top_restore F pxs pys plo phi lf th ow lk el eh co hu spxs spys splo sphi spn spm hsv)).bind fun v =>
  Sum.elim (fun E =>
    if E = "java/lang/IllegalStateException" then some ((1 : Int32), pxs, pys, plo, phi, pn, pm, lf, th, ow, lk, el, eh, co, hu, ne, nt, nh, hkp, fl) else
    none) (fun q =>
    some ((0 : Int32), q.2.1, q.2.2.1, q.2.2.2.1, q.2.2.2.2.1, q.2.2.2.2.2.1, q.2.2.2.2.2.2.1, q.2.2.2.2.2.2.2.1, q.2.2.2.2.2.2.2.2.1, q.2.2.2.2.2.2.2.2.2.1, q.2.2.2.2.2.2.2.2.2.2.1, q.2.2.2.2.2.2.2.2.2.2.2.1, q.2.2.2.2.2.2.2.2.2.2.2.2.1, q.2.2.2.2.2.2.2.2.2.2.2.2.2.1, q.2.2.2.2.2.2.2.2.2.2.2.2.2.2.1, q.2.2.2.2.2.2.2.2.2.2.2.2.2.2.2.1, q.2.2.2.2.2.2.2.2.2.2.2.2.2.2.2.2.1, q.2.2.2.2.2.2.2.2.2.2.2.2.2.2.2.2.2.1, q.2.2.2.2.2.2.2.2.2.2.2.2.2.2.2.2.2.2, vp_updL fl (0 : Int32).toNatClampNeg (q.1).toInt64)) v
def s_case_0 (F : Nat) (xs : Nat → Int32) (pxs : Nat → Int32) (pys : Nat → Int32) (plo : Nat → Int32) (phi : Nat → Int32) (pn : Int32) (pm : Int32) (lf : Nat → Int32) (th : Nat → Int32) (ow : Nat → Int32) (lk : Nat → Int32) (el : Nat → Int32) (eh : Nat → Int32) (co : Nat → Int32) (hu : Nat → Int32) (ne : Int32) (nt : Int32) (nh : Int32) (hp : Nat → PlanS) (hnx : Int32) (hkp : Int32) (mnow : Nat → Int32) (mold : Nat → Int32) (mols : Int32) (fl : Nat → Int64) (x5 : Int32) : Option ((Nat → Int32) × (Nat → Int32) × Int32 × (Nat → Int32) × (Nat → Int32) × (Nat → Int32) × (Nat → Int32) × (Nat → Int32) × (Nat → Int32) × (Nat → Int32) × (Nat → Int32) × Int32 × Int32 × Int32 × (Nat → PlanS) × Int32 × Int32 × Int32 × (Nat → Int32) × (Nat → Int32) × Int32 × (Nat → Int64)) :=
  ((s_Law_addPoint F pxs pys plo phi pn pm lf th ow lk el eh co hu ne nt nh hp hnx hkp (xs (x5 + (1 : Int32)).toNatClampNeg) (xs (x5 + (2 : Int32)).toNatClampNeg) fl)).bind fun v1 =>
  ((s_Mod_addPoint F mnow mold mols (xs (x5 + (1 : Int32)).toNatClampNeg) (xs (x5 + (2 : Int32)).toNatClampNeg))).bind fun v2 =>
  if (s_Mod_thrown v2.2.1) = v1.1 then
    if v1.1 = 0 then
      if (lg_cmp (v1.2.2.2.2.2.2.2.2.2.2.2.2.2.2.2.2.2.2 (0 : Int32).toNatClampNeg) ((v2.1).toInt64)) = 0 then
        some (v1.2.1, v1.2.2.1, v1.2.2.2.1, v1.2.2.2.2.1, v1.2.2.2.2.2.1, v1.2.2.2.2.2.2.1, v1.2.2.2.2.2.2.2.1, v1.2.2.2.2.2.2.2.2.1, v1.2.2.2.2.2.2.2.2.2.1, v1.2.2.2.2.2.2.2.2.2.2.1, v1.2.2.2.2.2.2.2.2.2.2.2.1, v1.2.2.2.2.2.2.2.2.2.2.2.2.1, v1.2.2.2.2.2.2.2.2.2.2.2.2.2.1, v1.2.2.2.2.2.2.2.2.2.2.2.2.2.2.1, v1.2.2.2.2.2.2.2.2.2.2.2.2.2.2.2.1, v1.2.2.2.2.2.2.2.2.2.2.2.2.2.2.2.2.1, v1.2.2.2.2.2.2.2.2.2.2.2.2.2.2.2.2.2.1, v2.2.1, v2.2.2.1, v2.2.2.2.1, v2.2.2.2.2, v1.2.2.2.2.2.2.2.2.2.2.2.2.2.2.2.2.2.2)
      else
        none
    else
      some (v1.2.1, v1.2.2.1, v1.2.2.2.1, v1.2.2.2.2.1, v1.2.2.2.2.2.1, v1.2.2.2.2.2.2.1, v1.2.2.2.2.2.2.2.1, v1.2.2.2.2.2.2.2.2.1, v1.2.2.2.2.2.2.2.2.2.1, v1.2.2.2.2.2.2.2.2.2.2.1, v1.2.2.2.2.2.2.2.2.2.2.2.1, v1.2.2.2.2.2.2.2.2.2.2.2.2.1, v1.2.2.2.2.2.2.2.2.2.2.2.2.2.1, v1.2.2.2.2.2.2.2.2.2.2.2.2.2.2.1, v1.2.2.2.2.2.2.2.2.2.2.2.2.2.2.2.1, v1.2.2.2.2.2.2.2.2.2.2.2.2.2.2.2.2.1, v1.2.2.2.2.2.2.2.2.2.2.2.2.2.2.2.2.2.1, v2.2.1, v2.2.2.1, v2.2.2.2.1, v2.2.2.2.2, v1.2.2.2.2.2.2.2.2.2.2.2.2.2.2.2.2.2.2)
  else
    none
def s_case_1 (F : Nat) (xs : Nat → Int32) (pxs : Nat → Int32) (pys : Nat → Int32) (plo : Nat → Int32) (phi : Nat → Int32) (pn : Int32) (pm : Int32) (lf : Nat → Int32) (th : Nat → Int32) (ow : Nat → Int32) (lk : Nat → Int32) (el : Nat → Int32) (eh : Nat → Int32) (co : Nat → Int32) (hu : Nat → Int32) (ne : Int32) (nt : Int32) (nh : Int32) (hp : Nat → PlanS) (hnx : Int32) (hkp : Int32) (mnow : Nat → Int32) (mold : Nat → Int32) (mols : Int32) (fl : Nat → Int64) (x5 : Int32) : Option ((Nat → Int32) × (Nat → Int32) × (Nat → Int32) × (Nat → Int32) × Int32 × (Nat → Int32) × (Nat → Int32) × (Nat → Int32) × (Nat → Int32) × (Nat → Int32) × (Nat → Int32) × (Nat → Int32) × (Nat → Int32) × Int32 × Int32 × Int32 × (Nat → PlanS) × Int32 × Int32 × Int32 × (Nat → Int32) × (Nat → Int32) × Int32 × (Nat → Int64)) :=
  ((s_Law_removePoint F pxs pys plo phi pn pm lf th ow lk el eh co hu ne nt nh hp hnx hkp (xs (x5 + (1 : Int32)).toNatClampNeg) fl)).bind fun v1 =>
  ((s_Mod_removePoint F mnow mold mols (xs (x5 + (1 : Int32)).toNatClampNeg))).bind fun v2 =>
  if (s_Mod_thrown v2.2.1) = v1.1 then
    if v1.1 = 0 then
      if (lg_cmp (v1.2.2.2.2.2.2.2.2.2.2.2.2.2.2.2.2.2.2.2.2 (0 : Int32).toNatClampNeg) ((v2.1).toInt64)) = 0 then
        some (v1.2.1, v1.2.2.1, v1.2.2.2.1, v1.2.2.2.2.1, v1.2.2.2.2.2.1, v1.2.2.2.2.2.2.1, v1.2.2.2.2.2.2.2.1, v1.2.2.2.2.2.2.2.2.1, v1.2.2.2.2.2.2.2.2.2.1, v1.2.2.2.2.2.2.2.2.2.2.1, v1.2.2.2.2.2.2.2.2.2.2.2.1, v1.2.2.2.2.2.2.2.2.2.2.2.2.1, v1.2.2.2.2.2.2.2.2.2.2.2.2.2.1, v1.2.2.2.2.2.2.2.2.2.2.2.2.2.2.1, v1.2.2.2.2.2.2.2.2.2.2.2.2.2.2.2.1, v1.2.2.2.2.2.2.2.2.2.2.2.2.2.2.2.2.1, v1.2.2.2.2.2.2.2.2.2.2.2.2.2.2.2.2.2.1, v1.2.2.2.2.2.2.2.2.2.2.2.2.2.2.2.2.2.2.1, v1.2.2.2.2.2.2.2.2.2.2.2.2.2.2.2.2.2.2.2.1, v2.2.1, v2.2.2.1, v2.2.2.2.1, v2.2.2.2.2, v1.2.2.2.2.2.2.2.2.2.2.2.2.2.2.2.2.2.2.2.2)
      else
        none
    else
      some (v1.2.1, v1.2.2.1, v1.2.2.2.1, v1.2.2.2.2.1, v1.2.2.2.2.2.1, v1.2.2.2.2.2.2.1, v1.2.2.2.2.2.2.2.1, v1.2.2.2.2.2.2.2.2.1, v1.2.2.2.2.2.2.2.2.2.1, v1.2.2.2.2.2.2.2.2.2.2.1, v1.2.2.2.2.2.2.2.2.2.2.2.1, v1.2.2.2.2.2.2.2.2.2.2.2.2.1, v1.2.2.2.2.2.2.2.2.2.2.2.2.2.1, v1.2.2.2.2.2.2.2.2.2.2.2.2.2.2.1, v1.2.2.2.2.2.2.2.2.2.2.2.2.2.2.2.1, v1.2.2.2.2.2.2.2.2.2.2.2.2.2.2.2.2.1, v1.2.2.2.2.2.2.2.2.2.2.2.2.2.2.2.2.2.1, v1.2.2.2.2.2.2.2.2.2.2.2.2.2.2.2.2.2.2.1, v1.2.2.2.2.2.2.2.2.2.2.2.2.2.2.2.2.2.2.2.1, v2.2.1, v2.2.2.1, v2.2.2.2.1, v2.2.2.2.2, v1.2.2.2.2.2.2.2.2.2.2.2.2.2.2.2.2.2.2.2.2)
  else
    none
def s_case_2 (F : Nat) (xs : Nat → Int32) (pxs : Nat → Int32) (pys : Nat → Int32) (plo : Nat → Int32) (phi : Nat → Int32) (pn : Int32) (pm : Int32) (lf : Nat → Int32) (th : Nat → Int32) (ow : Nat → Int32) (lk : Nat → Int32) (el : Nat → Int32) (eh : Nat → Int32) (co : Nat → Int32) (hu : Nat → Int32) (ne : Int32) (nt : Int32) (nh : Int32) (hp : Nat → PlanS) (hnx : Int32) (hkp : Int32) (mnow : Nat → Int32) (mold : Nat → Int32) (mols : Int32) (fl : Nat → Int64) (x5 : Int32) : Option ((Nat → Int32) × (Nat → Int32) × (Nat → Int32) × (Nat → Int32) × (Nat → Int32) × (Nat → Int32) × (Nat → Int32) × (Nat → Int32) × (Nat → Int32) × (Nat → Int32) × Int32 × Int32 × Int32 × (Nat → PlanS) × Int32 × Int32 × Int32 × (Nat → Int32) × (Nat → Int32) × Int32 × (Nat → Int64)) :=
  ((s_Law_movePoint F pxs pys plo phi pn pm lf th ow lk el eh co hu ne nt nh hp hnx hkp (xs (x5 + (1 : Int32)).toNatClampNeg) (xs (x5 + (2 : Int32)).toNatClampNeg) (xs (x5 + (3 : Int32)).toNatClampNeg) fl)).bind fun v1 =>
  ((s_Mod_movePoint F mnow mold mols (xs (x5 + (1 : Int32)).toNatClampNeg) (xs (x5 + (2 : Int32)).toNatClampNeg) (xs (x5 + (3 : Int32)).toNatClampNeg))).bind fun v2 =>
  if (s_Mod_thrown v2.2.1) = v1.1 then
    if v1.1 = 0 then
      if (bI v2.1) = 0 then
        if (lg_cmp (v1.2.2.2.2.2.2.2.2.2.2.2.2.2.2.2.2.2 (0 : Int32).toNatClampNeg) (0 : Int64)) = 0 then
          some (v1.2.1, v1.2.2.1, v1.2.2.2.1, v1.2.2.2.2.1, v1.2.2.2.2.2.1, v1.2.2.2.2.2.2.1, v1.2.2.2.2.2.2.2.1, v1.2.2.2.2.2.2.2.2.1, v1.2.2.2.2.2.2.2.2.2.1, v1.2.2.2.2.2.2.2.2.2.2.1, v1.2.2.2.2.2.2.2.2.2.2.2.1, v1.2.2.2.2.2.2.2.2.2.2.2.2.1, v1.2.2.2.2.2.2.2.2.2.2.2.2.2.1, v1.2.2.2.2.2.2.2.2.2.2.2.2.2.2.1, v1.2.2.2.2.2.2.2.2.2.2.2.2.2.2.2.1, v1.2.2.2.2.2.2.2.2.2.2.2.2.2.2.2.2.1, v2.2.1, v2.2.2.1, v2.2.2.2.1, v2.2.2.2.2, v1.2.2.2.2.2.2.2.2.2.2.2.2.2.2.2.2.2)
        else
          none
      else
        if (lg_cmp (v1.2.2.2.2.2.2.2.2.2.2.2.2.2.2.2.2.2 (0 : Int32).toNatClampNeg) (1 : Int64)) = 0 then
          some (v1.2.1, v1.2.2.1, v1.2.2.2.1, v1.2.2.2.2.1, v1.2.2.2.2.2.1, v1.2.2.2.2.2.2.1, v1.2.2.2.2.2.2.2.1, v1.2.2.2.2.2.2.2.2.1, v1.2.2.2.2.2.2.2.2.2.1, v1.2.2.2.2.2.2.2.2.2.2.1, v1.2.2.2.2.2.2.2.2.2.2.2.1, v1.2.2.2.2.2.2.2.2.2.2.2.2.1, v1.2.2.2.2.2.2.2.2.2.2.2.2.2.1, v1.2.2.2.2.2.2.2.2.2.2.2.2.2.2.1, v1.2.2.2.2.2.2.2.2.2.2.2.2.2.2.2.1, v1.2.2.2.2.2.2.2.2.2.2.2.2.2.2.2.2.1, v2.2.1, v2.2.2.1, v2.2.2.2.1, v2.2.2.2.2, v1.2.2.2.2.2.2.2.2.2.2.2.2.2.2.2.2.2)
        else
          none
    else
      some (v1.2.1, v1.2.2.1, v1.2.2.2.1, v1.2.2.2.2.1, v1.2.2.2.2.2.1, v1.2.2.2.2.2.2.1, v1.2.2.2.2.2.2.2.1, v1.2.2.2.2.2.2.2.2.1, v1.2.2.2.2.2.2.2.2.2.1, v1.2.2.2.2.2.2.2.2.2.2.1, v1.2.2.2.2.2.2.2.2.2.2.2.1, v1.2.2.2.2.2.2.2.2.2.2.2.2.1, v1.2.2.2.2.2.2.2.2.2.2.2.2.2.1, v1.2.2.2.2.2.2.2.2.2.2.2.2.2.2.1, v1.2.2.2.2.2.2.2.2.2.2.2.2.2.2.2.1, v1.2.2.2.2.2.2.2.2.2.2.2.2.2.2.2.2.1, v2.2.1, v2.2.2.1, v2.2.2.2.1, v2.2.2.2.2, v1.2.2.2.2.2.2.2.2.2.2.2.2.2.2.2.2.2)
  else
    none
def s_case_3 (pn : Int32) (mnow : Nat → Int32) : Option (Int32) :=
  ((s_Mod_pointCount mnow)).bind fun v1 =>
  if (s_Top_pointCount pn) = v1.1 then
    some v1.2
  else
    none
def s_case_4 (xs : Nat → Int32) (pxs : Nat → Int32) (pys : Nat → Int32) (pn : Int32) (mnow : Nat → Int32) (fl : Nat → Int64) (x5 : Int32) : Option (Int32 × (Nat → Int64)) :=
  ((s_Law_coordinate pxs pys pn (xs (x5 + (1 : Int32)).toNatClampNeg) (xs (x5 + (2 : Int32)).toNatClampNeg) fl)).bind fun v1 =>
  ((s_Mod_coordinate mnow (xs (x5 + (1 : Int32)).toNatClampNeg) (xs (x5 + (2 : Int32)).toNatClampNeg))).bind fun v2 =>
  if (s_Mod_thrown v2.2) = v1.1 then
    if v1.1 = 0 then
      if (lg_cmp (v1.2 (0 : Int32).toNatClampNeg) ((v2.1).toInt64)) = 0 then
        some (v2.2, v1.2)
      else
        none
    else
      some (v2.2, v1.2)
  else
    none
def s_case_5 (F : Nat) (xs : Nat → Int32) (pxs : Nat → Int32) (pys : Nat → Int32) (plo : Nat → Int32) (phi : Nat → Int32) (pn : Int32) (pm : Int32) (lf : Nat → Int32) (th : Nat → Int32) (ow : Nat → Int32) (lk : Nat → Int32) (el : Nat → Int32) (eh : Nat → Int32) (co : Nat → Int32) (hu : Nat → Int32) (ne : Int32) (nt : Int32) (nh : Int32) (hp : Nat → PlanS) (hnx : Int32) (hkp : Int32) (mnow : Nat → Int32) (mold : Nat → Int32) (mols : Int32) (fl : Nat → Int64) (x5 : Int32) : Option ((Nat → Int32) × (Nat → Int32) × Int32 × (Nat → Int32) × (Nat → Int32) × (Nat → Int32) × (Nat → Int32) × (Nat → Int32) × (Nat → Int32) × (Nat → Int32) × (Nat → Int32) × Int32 × Int32 × Int32 × (Nat → PlanS) × Int32 × Int32 × Int32 × (Nat → Int32) × (Nat → Int32) × Int32 × (Nat → Int64)) :=
  ((s_Law_addConstraint F pxs pys plo phi pn pm lf th ow lk el eh co hu ne nt nh hp hnx hkp (xs (x5 + (1 : Int32)).toNatClampNeg) (xs (x5 + (2 : Int32)).toNatClampNeg) fl)).bind fun v1 =>
  ((s_Mod_addConstraint F mnow mold mols (xs (x5 + (1 : Int32)).toNatClampNeg) (xs (x5 + (2 : Int32)).toNatClampNeg))).bind fun v2 =>
  if (s_Mod_thrown v2.2.1) = v1.1 then
    if v1.1 = 0 then
      if (lg_cmp (v1.2.2.2.2.2.2.2.2.2.2.2.2.2.2.2.2.2.2 (0 : Int32).toNatClampNeg) ((v2.1).toInt64)) = 0 then
        some (v1.2.1, v1.2.2.1, v1.2.2.2.1, v1.2.2.2.2.1, v1.2.2.2.2.2.1, v1.2.2.2.2.2.2.1, v1.2.2.2.2.2.2.2.1, v1.2.2.2.2.2.2.2.2.1, v1.2.2.2.2.2.2.2.2.2.1, v1.2.2.2.2.2.2.2.2.2.2.1, v1.2.2.2.2.2.2.2.2.2.2.2.1, v1.2.2.2.2.2.2.2.2.2.2.2.2.1, v1.2.2.2.2.2.2.2.2.2.2.2.2.2.1, v1.2.2.2.2.2.2.2.2.2.2.2.2.2.2.1, v1.2.2.2.2.2.2.2.2.2.2.2.2.2.2.2.1, v1.2.2.2.2.2.2.2.2.2.2.2.2.2.2.2.2.1, v1.2.2.2.2.2.2.2.2.2.2.2.2.2.2.2.2.2.1, v2.2.1, v2.2.2.1, v2.2.2.2.1, v2.2.2.2.2, v1.2.2.2.2.2.2.2.2.2.2.2.2.2.2.2.2.2.2)
      else
        none
    else
      some (v1.2.1, v1.2.2.1, v1.2.2.2.1, v1.2.2.2.2.1, v1.2.2.2.2.2.1, v1.2.2.2.2.2.2.1, v1.2.2.2.2.2.2.2.1, v1.2.2.2.2.2.2.2.2.1, v1.2.2.2.2.2.2.2.2.2.1, v1.2.2.2.2.2.2.2.2.2.2.1, v1.2.2.2.2.2.2.2.2.2.2.2.1, v1.2.2.2.2.2.2.2.2.2.2.2.2.1, v1.2.2.2.2.2.2.2.2.2.2.2.2.2.1, v1.2.2.2.2.2.2.2.2.2.2.2.2.2.2.1, v1.2.2.2.2.2.2.2.2.2.2.2.2.2.2.2.1, v1.2.2.2.2.2.2.2.2.2.2.2.2.2.2.2.2.1, v1.2.2.2.2.2.2.2.2.2.2.2.2.2.2.2.2.2.1, v2.2.1, v2.2.2.1, v2.2.2.2.1, v2.2.2.2.2, v1.2.2.2.2.2.2.2.2.2.2.2.2.2.2.2.2.2.2)
  else
    none
def s_case_6 (F : Nat) (xs : Nat → Int32) (pxs : Nat → Int32) (pys : Nat → Int32) (plo : Nat → Int32) (phi : Nat → Int32) (pn : Int32) (pm : Int32) (lf : Nat → Int32) (th : Nat → Int32) (ow : Nat → Int32) (lk : Nat → Int32) (el : Nat → Int32) (eh : Nat → Int32) (co : Nat → Int32) (hu : Nat → Int32) (ne : Int32) (nt : Int32) (nh : Int32) (hp : Nat → PlanS) (hnx : Int32) (hkp : Int32) (mnow : Nat → Int32) (mold : Nat → Int32) (mols : Int32) (fl : Nat → Int64) (x5 : Int32) : Option ((Nat → Int32) × (Nat → Int32) × Int32 × (Nat → Int32) × (Nat → Int32) × (Nat → Int32) × (Nat → Int32) × (Nat → Int32) × (Nat → Int32) × (Nat → Int32) × (Nat → Int32) × Int32 × Int32 × Int32 × (Nat → PlanS) × Int32 × Int32 × Int32 × (Nat → Int32) × (Nat → Int32) × Int32 × (Nat → Int64)) :=
  ((s_Law_removeConstraint F pxs pys plo phi pn pm lf th ow lk el eh co hu ne nt nh hp hnx hkp (xs (x5 + (1 : Int32)).toNatClampNeg) fl)).bind fun v1 =>
  ((s_Mod_removeConstraint F mnow mold mols (xs (x5 + (1 : Int32)).toNatClampNeg))).bind fun v2 =>
  if (s_Mod_thrown v2.2.1) = v1.1 then
    if v1.1 = 0 then
      if (lg_cmp (v1.2.2.2.2.2.2.2.2.2.2.2.2.2.2.2.2.2.2 (0 : Int32).toNatClampNeg) ((v2.1).toInt64)) = 0 then
        some (v1.2.1, v1.2.2.1, v1.2.2.2.1, v1.2.2.2.2.1, v1.2.2.2.2.2.1, v1.2.2.2.2.2.2.1, v1.2.2.2.2.2.2.2.1, v1.2.2.2.2.2.2.2.2.1, v1.2.2.2.2.2.2.2.2.2.1, v1.2.2.2.2.2.2.2.2.2.2.1, v1.2.2.2.2.2.2.2.2.2.2.2.1, v1.2.2.2.2.2.2.2.2.2.2.2.2.1, v1.2.2.2.2.2.2.2.2.2.2.2.2.2.1, v1.2.2.2.2.2.2.2.2.2.2.2.2.2.2.1, v1.2.2.2.2.2.2.2.2.2.2.2.2.2.2.2.1, v1.2.2.2.2.2.2.2.2.2.2.2.2.2.2.2.2.1, v1.2.2.2.2.2.2.2.2.2.2.2.2.2.2.2.2.2.1, v2.2.1, v2.2.2.1, v2.2.2.2.1, v2.2.2.2.2, v1.2.2.2.2.2.2.2.2.2.2.2.2.2.2.2.2.2.2)
      else
        none
    else
      some (v1.2.1, v1.2.2.1, v1.2.2.2.1, v1.2.2.2.2.1, v1.2.2.2.2.2.1, v1.2.2.2.2.2.2.1, v1.2.2.2.2.2.2.2.1, v1.2.2.2.2.2.2.2.2.1, v1.2.2.2.2.2.2.2.2.2.1, v1.2.2.2.2.2.2.2.2.2.2.1, v1.2.2.2.2.2.2.2.2.2.2.2.1, v1.2.2.2.2.2.2.2.2.2.2.2.2.1, v1.2.2.2.2.2.2.2.2.2.2.2.2.2.1, v1.2.2.2.2.2.2.2.2.2.2.2.2.2.2.1, v1.2.2.2.2.2.2.2.2.2.2.2.2.2.2.2.1, v1.2.2.2.2.2.2.2.2.2.2.2.2.2.2.2.2.1, v1.2.2.2.2.2.2.2.2.2.2.2.2.2.2.2.2.2.1, v2.2.1, v2.2.2.1, v2.2.2.2.1, v2.2.2.2.2, v1.2.2.2.2.2.2.2.2.2.2.2.2.2.2.2.2.2.2)
  else
    none
def s_case_7 (pm : Int32) (mnow : Nat → Int32) : Option (Int32) :=
  ((s_Mod_constraintCount mnow)).bind fun v1 =>
  if (s_Top_constraintCount pm) = v1.1 then
    some v1.2
  else
    none
def s_case_8 (xs : Nat → Int32) (plo : Nat → Int32) (phi : Nat → Int32) (pm : Int32) (mnow : Nat → Int32) (fl : Nat → Int64) (x5 : Int32) : Option (Int32 × (Nat → Int64)) :=
  ((s_Law_constraintEnd plo phi pm (xs (x5 + (1 : Int32)).toNatClampNeg) (xs (x5 + (2 : Int32)).toNatClampNeg) fl)).bind fun v1 =>
  ((s_Mod_constraintEnd mnow (xs (x5 + (1 : Int32)).toNatClampNeg) (xs (x5 + (2 : Int32)).toNatClampNeg))).bind fun v2 =>
  if (s_Mod_thrown v2.2) = v1.1 then
    if v1.1 = 0 then
      if (lg_cmp (v1.2 (0 : Int32).toNatClampNeg) ((v2.1).toInt64)) = 0 then
        some (v2.2, v1.2)
      else
        none
    else
      some (v2.2, v1.2)
  else
    none
def s_case_9 (xs : Nat → Int32) (ich : Nat → Int32) (iln : Int32) (minp : Nat → Int32) (mlen : Int32) (fl : Nat → Int64) (x5 : Int32) : Option ((Nat → Int32) × Int32 × Int32 × (Nat → Int32) × Int32 × (Nat → Int64)) :=
  ((s_Law_feed ich iln ((((xs (x5 + (1 : Int32)).toNatClampNeg)).toUInt32 % 65536).toInt32) fl)).bind fun v1 =>
  ((s_Mod_feed minp mlen ((((xs (x5 + (1 : Int32)).toNatClampNeg)).toUInt32 % 65536).toInt32))).bind fun v2 =>
  if (s_Mod_thrown v2.2.1) = v1.1 then
    if v1.1 = 0 then
      if (lg_cmp (v1.2.2.2 (0 : Int32).toNatClampNeg) ((v2.1).toInt64)) = 0 then
        some (v1.2.1, v1.2.2.1, v2.2.1, v2.2.2.1, v2.2.2.2, v1.2.2.2)
      else
        none
    else
      some (v1.2.1, v1.2.2.1, v2.2.1, v2.2.2.1, v2.2.2.2, v1.2.2.2)
  else
    none
def s_case_10 (F : Nat) (pxs : Nat → Int32) (pys : Nat → Int32) (plo : Nat → Int32) (phi : Nat → Int32) (pn : Int32) (pm : Int32) (lf : Nat → Int32) (th : Nat → Int32) (ow : Nat → Int32) (lk : Nat → Int32) (el : Nat → Int32) (eh : Nat → Int32) (co : Nat → Int32) (hu : Nat → Int32) (ich : Nat → Int32) (ifs : Nat → Int32) (isc : Nat → Int32) (isg : Nat → Int32) (iln : Int32) (hp : Nat → PlanS) (hnx : Int32) (hkp : Int32) (mnow : Nat → Int32) (mold : Nat → Int32) (mols : Int32) (minp : Nat → Int32) (mlen : Int32) : Option ((Nat → Int32) × (Nat → Int32) × (Nat → Int32) × (Nat → Int32) × Int32 × Int32 × (Nat → Int32) × (Nat → Int32) × (Nat → Int32) × (Nat → Int32) × (Nat → Int32) × (Nat → Int32) × (Nat → Int32) × (Nat → Int32) × Int32 × Int32 × Int32 × (Nat → Int32) × (Nat → Int32) × (Nat → Int32) × Int32 × Int32 × Bool × Int32 × Int32 × (Nat → PlanS) × Int32 × Int32 × Int32 × (Nat → Int32) × (Nat → Int32) × Int32 × Int32 × Int32) :=
  ((s_Top_readInput F pxs pys plo phi pn pm lf th ow lk el eh co hu ich ifs isc isg iln hp hnx hkp)).bind fun v1 =>
  ((s_Mod_readInput F mnow mold mols minp mlen)).bind fun v2 =>
  if v1.1 = v2.1 then
    some (v1.2.1, v1.2.2.1, v1.2.2.2.1, v1.2.2.2.2.1, v1.2.2.2.2.2.1, v1.2.2.2.2.2.2.1, v1.2.2.2.2.2.2.2.1, v1.2.2.2.2.2.2.2.2.1, v1.2.2.2.2.2.2.2.2.2.1, v1.2.2.2.2.2.2.2.2.2.2.1, v1.2.2.2.2.2.2.2.2.2.2.2.1, v1.2.2.2.2.2.2.2.2.2.2.2.2.1, v1.2.2.2.2.2.2.2.2.2.2.2.2.2.1, v1.2.2.2.2.2.2.2.2.2.2.2.2.2.2.1, v1.2.2.2.2.2.2.2.2.2.2.2.2.2.2.2.1, v1.2.2.2.2.2.2.2.2.2.2.2.2.2.2.2.2.1, v1.2.2.2.2.2.2.2.2.2.2.2.2.2.2.2.2.2.1, v1.2.2.2.2.2.2.2.2.2.2.2.2.2.2.2.2.2.2.1, v1.2.2.2.2.2.2.2.2.2.2.2.2.2.2.2.2.2.2.2.1, v1.2.2.2.2.2.2.2.2.2.2.2.2.2.2.2.2.2.2.2.2.1, v1.2.2.2.2.2.2.2.2.2.2.2.2.2.2.2.2.2.2.2.2.2.1, v1.2.2.2.2.2.2.2.2.2.2.2.2.2.2.2.2.2.2.2.2.2.2.1, v1.2.2.2.2.2.2.2.2.2.2.2.2.2.2.2.2.2.2.2.2.2.2.2.1, v1.2.2.2.2.2.2.2.2.2.2.2.2.2.2.2.2.2.2.2.2.2.2.2.2.1, v1.2.2.2.2.2.2.2.2.2.2.2.2.2.2.2.2.2.2.2.2.2.2.2.2.2.1, v1.2.2.2.2.2.2.2.2.2.2.2.2.2.2.2.2.2.2.2.2.2.2.2.2.2.2.1, v1.2.2.2.2.2.2.2.2.2.2.2.2.2.2.2.2.2.2.2.2.2.2.2.2.2.2.2.1, v1.2.2.2.2.2.2.2.2.2.2.2.2.2.2.2.2.2.2.2.2.2.2.2.2.2.2.2.2, v2.2.1, v2.2.2.1, v2.2.2.2.1, v2.2.2.2.2.1, v2.2.2.2.2.2.1, v2.2.2.2.2.2.2)
  else
    none
def s_case_11 (F : Nat) (nt : Int32) (mnow : Nat → Int32) (medg : Nat → Int32) (mcor : Nat → Int32) : Option (Int32 × (Nat → Int32) × (Nat → Int32) × Int32) :=
  ((s_Mod_triangleCount F mnow medg mcor)).bind fun v1 =>
  if (s_Top_triangleCount nt) = v1.1 then
    some (v1.2.1, v1.2.2.1, v1.2.2.2.1, v1.2.2.2.2)
  else
    none
def s_case_12 (F : Nat) (xs : Nat → Int32) (co : Nat → Int32) (nt : Int32) (mnow : Nat → Int32) (medg : Nat → Int32) (mcor : Nat → Int32) (fl : Nat → Int64) (x5 : Int32) : Option (Int32 × (Nat → Int32) × (Nat → Int32) × Int32 × (Nat → Int64)) :=
  ((s_Law_corner co nt (xs (x5 + (1 : Int32)).toNatClampNeg) (xs (x5 + (2 : Int32)).toNatClampNeg) fl)).bind fun v1 =>
  ((s_Mod_corner F mnow medg mcor (xs (x5 + (1 : Int32)).toNatClampNeg) (xs (x5 + (2 : Int32)).toNatClampNeg))).bind fun v2 =>
  if (s_Mod_thrown v2.2.1) = v1.1 then
    if v1.1 = 0 then
      if (lg_cmp (v1.2 (0 : Int32).toNatClampNeg) ((v2.1).toInt64)) = 0 then
        some (v2.2.1, v2.2.2.1, v2.2.2.2.1, v2.2.2.2.2, v1.2)
      else
        none
    else
      some (v2.2.1, v2.2.2.1, v2.2.2.2.1, v2.2.2.2.2, v1.2)
  else
    none
def s_case_13 (F : Nat) (xs : Nat → Int32) (ow : Nat → Int32) (co : Nat → Int32) (nt : Int32) (mnow : Nat → Int32) (medg : Nat → Int32) (mcor : Nat → Int32) (fl : Nat → Int64) (x5 : Int32) : Option (Int32 × (Nat → Int32) × (Nat → Int32) × Int32 × (Nat → Int64)) :=
  ((s_Law_beyond ow co nt (xs (x5 + (1 : Int32)).toNatClampNeg) (xs (x5 + (2 : Int32)).toNatClampNeg) fl)).bind fun v1 =>
  ((s_Mod_beyond F mnow medg mcor (xs (x5 + (1 : Int32)).toNatClampNeg) (xs (x5 + (2 : Int32)).toNatClampNeg))).bind fun v2 =>
  if (s_Mod_thrown v2.2.1) = v1.1 then
    if v1.1 = 0 then
      if (lg_cmp (v1.2 (0 : Int32).toNatClampNeg) ((v2.1).toInt64)) = 0 then
        some (v2.2.1, v2.2.2.1, v2.2.2.2.1, v2.2.2.2.2, v1.2)
      else
        none
    else
      some (v2.2.1, v2.2.2.1, v2.2.2.2.1, v2.2.2.2.2, v1.2)
  else
    none
def s_case_14 (F : Nat) (ne : Int32) (mnow : Nat → Int32) (medg : Nat → Int32) (mcor : Nat → Int32) : Option (Int32 × (Nat → Int32) × (Nat → Int32) × Int32) :=
  ((s_Mod_edgeCount F mnow medg mcor)).bind fun v1 =>
  if (s_Top_edgeCount ne) = v1.1 then
    some (v1.2.1, v1.2.2.1, v1.2.2.2.1, v1.2.2.2.2)
  else
    none
def s_case_15 (F : Nat) (xs : Nat → Int32) (el : Nat → Int32) (eh : Nat → Int32) (ne : Int32) (mnow : Nat → Int32) (medg : Nat → Int32) (mcor : Nat → Int32) (mnum : Nat → Int32) (fl : Nat → Int64) (x5 : Int32) : Option (Int32 × (Nat → Int32) × (Nat → Int32) × Int32 × (Nat → Int32) × (Nat → Int64)) :=
  ((s_Law_edgeEnd el eh ne (xs (x5 + (1 : Int32)).toNatClampNeg) (xs (x5 + (2 : Int32)).toNatClampNeg) fl)).bind fun v1 =>
  ((s_Mod_edgeEnd F mnow medg mcor mnum (xs (x5 + (1 : Int32)).toNatClampNeg) (xs (x5 + (2 : Int32)).toNatClampNeg))).bind fun v2 =>
  if (s_Mod_thrown v2.2.1) = v1.1 then
    if v1.1 = 0 then
      if (lg_cmp (v1.2 (0 : Int32).toNatClampNeg) ((v2.1).toInt64)) = 0 then
        some (v2.2.1, v2.2.2.1, v2.2.2.2.1, v2.2.2.2.2.1, v2.2.2.2.2.2, v1.2)
      else
        none
    else
      some (v2.2.1, v2.2.2.1, v2.2.2.2.1, v2.2.2.2.2.1, v2.2.2.2.2.2, v1.2)
  else
    none
def s_case_16 (F : Nat) (xs : Nat → Int32) (pn : Int32) (el : Nat → Int32) (eh : Nat → Int32) (ne : Int32) (mnow : Nat → Int32) (medg : Nat → Int32) (mcor : Nat → Int32) (mtri : Int32) (fl : Nat → Int64) (x5 : Int32) : Option (Int32 × (Nat → Int32) × (Nat → Int32) × Int32 × (Nat → Int64)) :=
  ((s_Law_edgeBetween F pn el eh ne (xs (x5 + (1 : Int32)).toNatClampNeg) (xs (x5 + (2 : Int32)).toNatClampNeg) fl)).bind fun v1 =>
  ((s_Mod_edgeBetween F mnow medg mcor mtri (xs (x5 + (1 : Int32)).toNatClampNeg) (xs (x5 + (2 : Int32)).toNatClampNeg))).bind fun v2 =>
  if (s_Mod_thrown v2.2.1) = v1.1 then
    if v1.1 = 0 then
      if (lg_cmp (v1.2 (0 : Int32).toNatClampNeg) ((v2.1).toInt64)) = 0 then
        some (v2.2.1, v2.2.2.1, v2.2.2.2.1, v2.2.2.2.2, v1.2)
      else
        none
    else
      some (v2.2.1, v2.2.2.1, v2.2.2.2.1, v2.2.2.2.2, v1.2)
  else
    none
def s_case_17 (F : Nat) (xs : Nat → Int32) (pn : Int32) (lk : Nat → Int32) (mnow : Nat → Int32) (medg : Nat → Int32) (mcor : Nat → Int32) (mtri : Int32) (fl : Nat → Int64) (x5 : Int32) : Option (Int32 × (Nat → Int32) × (Nat → Int32) × Int32 × (Nat → Int64)) :=
  ((s_Law_degree pn lk (xs (x5 + (1 : Int32)).toNatClampNeg) fl)).bind fun v1 =>
  ((s_Mod_degree F mnow medg mcor mtri (xs (x5 + (1 : Int32)).toNatClampNeg))).bind fun v2 =>
  if (s_Mod_thrown v2.2.1) = v1.1 then
    if v1.1 = 0 then
      if (lg_cmp (v1.2 (0 : Int32).toNatClampNeg) ((v2.1).toInt64)) = 0 then
        some (v2.2.1, v2.2.2.1, v2.2.2.2.1, v2.2.2.2.2, v1.2)
      else
        none
    else
      some (v2.2.1, v2.2.2.1, v2.2.2.2.1, v2.2.2.2.2, v1.2)
  else
    none
def s_case_18 (F : Nat) (xs : Nat → Int32) (pn : Int32) (lk : Nat → Int32) (mnow : Nat → Int32) (medg : Nat → Int32) (mcor : Nat → Int32) (mtri : Int32) (fl : Nat → Int64) (x5 : Int32) : Option (Int32 × (Nat → Int32) × (Nat → Int32) × Int32 × (Nat → Int64)) :=
  ((s_Law_neighbour F pn lk (xs (x5 + (1 : Int32)).toNatClampNeg) (xs (x5 + (2 : Int32)).toNatClampNeg) fl)).bind fun v1 =>
  ((s_Mod_neighbour F mnow medg mcor mtri (xs (x5 + (1 : Int32)).toNatClampNeg) (xs (x5 + (2 : Int32)).toNatClampNeg))).bind fun v2 =>
  if (s_Mod_thrown v2.2.1) = v1.1 then
    if v1.1 = 0 then
      if (lg_cmp (v1.2 (0 : Int32).toNatClampNeg) ((v2.1).toInt64)) = 0 then
        some (v2.2.1, v2.2.2.1, v2.2.2.2.1, v2.2.2.2.2, v1.2)
      else
        none
    else
      some (v2.2.1, v2.2.2.1, v2.2.2.2.1, v2.2.2.2.2, v1.2)
  else
    none
def s_case_19 (F : Nat) (nh : Int32) (mnow : Nat → Int32) (medg : Nat → Int32) (mcor : Nat → Int32) : Option (Int32 × (Nat → Int32) × (Nat → Int32) × Int32) :=
  ((s_Mod_hullSize F mnow medg mcor)).bind fun v1 =>
  if (s_Top_hullSize nh) = v1.1 then
    some (v1.2.1, v1.2.2.1, v1.2.2.2.1, v1.2.2.2.2)
  else
    none
def s_case_20 (F : Nat) (xs : Nat → Int32) (hu : Nat → Int32) (nh : Int32) (mnow : Nat → Int32) (medg : Nat → Int32) (mcor : Nat → Int32) (fl : Nat → Int64) (x5 : Int32) : Option (Int32 × (Nat → Int32) × (Nat → Int32) × Int32 × (Nat → Int64)) :=
  ((s_Law_hullPoint hu nh (xs (x5 + (1 : Int32)).toNatClampNeg) fl)).bind fun v1 =>
  ((s_Mod_hullPoint F mnow medg mcor (xs (x5 + (1 : Int32)).toNatClampNeg))).bind fun v2 =>
  if (s_Mod_thrown v2.2.1) = v1.1 then
    if v1.1 = 0 then
      if (lg_cmp (v1.2 (0 : Int32).toNatClampNeg) ((v2.1).toInt64)) = 0 then
        some (v2.2.1, v2.2.2.1, v2.2.2.2.1, v2.2.2.2.2, v1.2)
      else
        none
    else
      some (v2.2.1, v2.2.2.1, v2.2.2.2.1, v2.2.2.2.2, v1.2)
  else
    none
def s_case_21 (F : Nat) (xs : Nat → Int32) (pxs : Nat → Int32) (pys : Nat → Int32) (co : Nat → Int32) (nt : Int32) (mnow : Nat → Int32) (medg : Nat → Int32) (mcor : Nat → Int32) (fl : Nat → Int64) (x5 : Int32) : Option (Int32 × (Nat → Int32) × (Nat → Int32) × Int32 × (Nat → Int64)) :=
  ((s_Law_twiceArea pxs pys co nt (xs (x5 + (1 : Int32)).toNatClampNeg) fl)).bind fun v1 =>
  ((s_Mod_twiceArea F mnow medg mcor (xs (x5 + (1 : Int32)).toNatClampNeg))).bind fun v2 =>
  if (s_Mod_thrown v2.2.1) = v1.1 then
    if v1.1 = 0 then
      if (lg_cmp (v1.2 (0 : Int32).toNatClampNeg) ((v2.1).toInt64)) = 0 then
        some (v2.2.1, v2.2.2.1, v2.2.2.2.1, v2.2.2.2.2, v1.2)
      else
        none
    else
      some (v2.2.1, v2.2.2.1, v2.2.2.2.1, v2.2.2.2.2, v1.2)
  else
    none
def s_case_22 (F : Nat) (xs : Nat → Int32) (pxs : Nat → Int32) (pys : Nat → Int32) (co : Nat → Int32) (nt : Int32) (mnow : Nat → Int32) (medg : Nat → Int32) (mcor : Nat → Int32) (fd : Nat → UInt64) (x5 : Int32) : Option (Int32 × (Nat → Int32) × (Nat → Int32) × Int32 × (Nat → UInt64)) :=
  ((s_Law_areaShare F pxs pys co nt (xs (x5 + (1 : Int32)).toNatClampNeg) fd)).bind fun v1 =>
  ((s_Mod_areaShare F mnow medg mcor (xs (x5 + (1 : Int32)).toNatClampNeg))).bind fun v2 =>
  if (s_Mod_thrown v2.2.1) = v1.1 then
    if v1.1 = 0 then
      if (Op.cmpValue (FP.dcmp (v1.2 (0 : Int32).toNatClampNeg) v2.1) CmpOp.l) = 0 then
        some (v2.2.1, v2.2.2.1, v2.2.2.2.1, v2.2.2.2.2, v1.2)
      else
        if (Op.cmpValue (FP.dcmp (v1.2 (0 : Int32).toNatClampNeg) (v1.2 (0 : Int32).toNatClampNeg)) CmpOp.l) = 0 then
          none
        else
          if (Op.cmpValue (FP.dcmp v2.1 v2.1) CmpOp.l) = 0 then
            none
          else
            some (v2.2.1, v2.2.2.1, v2.2.2.2.1, v2.2.2.2.2, v1.2)
    else
      some (v2.2.1, v2.2.2.1, v2.2.2.2.1, v2.2.2.2.2, v1.2)
  else
    none
def s_case_23 (F : Nat) (pn : Int32) (ne : Int32) (mnow : Nat → Int32) (medg : Nat → Int32) (mcor : Nat → Int32) (mtri : Int32) (fd : Nat → UInt64) : Option (Int32 × (Nat → Int32) × (Nat → Int32) × Int32 × (Nat → UInt64)) :=
  ((s_Law_meanDegree pn ne fd)).bind fun v1 =>
  ((s_Mod_meanDegree F mnow medg mcor mtri)).bind fun v2 =>
  if (s_Mod_thrown v2.2.1) = v1.1 then
    if v1.1 = 0 then
      if (Op.cmpValue (FP.dcmp (v1.2 (0 : Int32).toNatClampNeg) v2.1) CmpOp.l) = 0 then
        some (v2.2.1, v2.2.2.1, v2.2.2.2.1, v2.2.2.2.2, v1.2)
      else
        if (Op.cmpValue (FP.dcmp (v1.2 (0 : Int32).toNatClampNeg) (v1.2 (0 : Int32).toNatClampNeg)) CmpOp.l) = 0 then
          none
        else
          if (Op.cmpValue (FP.dcmp v2.1 v2.1) CmpOp.l) = 0 then
            none
          else
            some (v2.2.1, v2.2.2.1, v2.2.2.2.1, v2.2.2.2.2, v1.2)
    else
      some (v2.2.1, v2.2.2.1, v2.2.2.2.1, v2.2.2.2.2, v1.2)
  else
    none
def s_case_24 (F : Nat) (xs : Nat → Int32) (pxs : Nat → Int32) (pys : Nat → Int32) (pn : Int32) (el : Nat → Int32) (eh : Nat → Int32) (ne : Int32) (mnow : Nat → Int32) (medg : Nat → Int32) (mcor : Nat → Int32) (mtri : Int32) (mmet : Nat → Int32) (fl : Nat → Int64) (x5 : Int32) : Option (Int32 × (Nat → Int32) × (Nat → Int32) × Int32 × (Nat → Int32) × (Nat → Int64)) :=
  ((s_Law_squaredLength F pxs pys pn el eh ne (xs (x5 + (1 : Int32)).toNatClampNeg) fl)).bind fun v1 =>
  ((s_Mod_squaredLength F mnow medg mcor mtri mmet (xs (x5 + (1 : Int32)).toNatClampNeg))).bind fun v2 =>
  if (s_Mod_thrown v2.2.1) = v1.1 then
    if v1.1 = 0 then
      if (lg_cmp (v1.2 (0 : Int32).toNatClampNeg) ((v2.1).toInt64)) = 0 then
        some (v2.2.1, v2.2.2.1, v2.2.2.2.1, v2.2.2.2.2.1, v2.2.2.2.2.2, v1.2)
      else
        none
    else
      some (v2.2.1, v2.2.2.1, v2.2.2.2.1, v2.2.2.2.2.1, v2.2.2.2.2.2, v1.2)
  else
    none
def s_case_25 (xs : Nat → Int32) (pxs : Nat → Int32) (pys : Nat → Int32) (pn : Int32) (mnow : Nat → Int32) (fl : Nat → Int64) (x5 : Int32) : Option (Int32 × (Nat → Int64)) :=
  ((s_Law_turn pxs pys pn (xs (x5 + (1 : Int32)).toNatClampNeg) (xs (x5 + (2 : Int32)).toNatClampNeg) (xs (x5 + (3 : Int32)).toNatClampNeg) fl)).bind fun v1 =>
  ((s_Mod_turn mnow (xs (x5 + (1 : Int32)).toNatClampNeg) (xs (x5 + (2 : Int32)).toNatClampNeg) (xs (x5 + (3 : Int32)).toNatClampNeg))).bind fun v2 =>
  if (s_Mod_thrown v2.2) = v1.1 then
    if v1.1 = 0 then
      if (lg_cmp (v1.2 (0 : Int32).toNatClampNeg) ((v2.1).toInt64)) = 0 then
        some (v2.2, v1.2)
      else
        none
    else
      some (v2.2, v1.2)
  else
    none
def s_case_26 (xs : Nat → Int32) (pxs : Nat → Int32) (pys : Nat → Int32) (pn : Int32) (mnow : Nat → Int32) (fl : Nat → Int64) (x5 : Int32) : Option (Int32 × (Nat → Int64)) :=
  ((s_Law_inCircle pxs pys pn (xs (x5 + (1 : Int32)).toNatClampNeg) (xs (x5 + (2 : Int32)).toNatClampNeg) (xs (x5 + (3 : Int32)).toNatClampNeg) (xs (x5 + (4 : Int32)).toNatClampNeg) fl)).bind fun v1 =>
  ((s_Mod_inCircle mnow (xs (x5 + (1 : Int32)).toNatClampNeg) (xs (x5 + (2 : Int32)).toNatClampNeg) (xs (x5 + (3 : Int32)).toNatClampNeg) (xs (x5 + (4 : Int32)).toNatClampNeg))).bind fun v2 =>
  if (s_Mod_thrown v2.2) = v1.1 then
    if v1.1 = 0 then
      if (lg_cmp (v1.2 (0 : Int32).toNatClampNeg) ((v2.1).toInt64)) = 0 then
        some (v2.2, v1.2)
      else
        none
    else
      some (v2.2, v1.2)
  else
    none
def s_case_27 (F : Nat) (xs : Nat → Int32) (pxs : Nat → Int32) (pys : Nat → Int32) (th : Nat → Int32) (el : Nat → Int32) (eh : Nat → Int32) (ne : Int32) (mnow : Nat → Int32) (medg : Nat → Int32) (mcor : Nat → Int32) (mnum : Nat → Int32) (fl : Nat → Int64) (x5 : Int32) : Option (Int32 × (Nat → Int32) × (Nat → Int32) × Int32 × (Nat → Int32) × (Nat → Int64)) :=
  ((s_Law_isGood pxs pys th el eh ne (xs (x5 + (1 : Int32)).toNatClampNeg) fl)).bind fun v1 =>
  ((s_Mod_isGood F mnow medg mcor mnum (xs (x5 + (1 : Int32)).toNatClampNeg))).bind fun v2 =>
  if (s_Mod_thrown v2.2.1) = v1.1 then
    if v1.1 = 0 then
      if (bI v2.1) = 0 then
        if (lg_cmp (v1.2 (0 : Int32).toNatClampNeg) (0 : Int64)) = 0 then
          some (v2.2.1, v2.2.2.1, v2.2.2.2.1, v2.2.2.2.2.1, v2.2.2.2.2.2, v1.2)
        else
          none
      else
        if (lg_cmp (v1.2 (0 : Int32).toNatClampNeg) (1 : Int64)) = 0 then
          some (v2.2.1, v2.2.2.1, v2.2.2.2.1, v2.2.2.2.2.1, v2.2.2.2.2.2, v1.2)
        else
          none
    else
      some (v2.2.1, v2.2.2.1, v2.2.2.2.1, v2.2.2.2.2.1, v2.2.2.2.2.2, v1.2)
  else
    none
def s_case_28 (F : Nat) (pxs : Nat → Int32) (pys : Nat → Int32) (plo : Nat → Int32) (phi : Nat → Int32) (pm : Int32) (th : Nat → Int32) (mnow : Nat → Int32) (medg : Nat → Int32) (mcor : Nat → Int32) : Option (Int32 × (Nat → Int32) × (Nat → Int32) × Int32) :=
  ((s_Top_forcedConstraints F pxs pys plo phi pm th)).bind fun v1 =>
  ((s_Mod_forcedConstraints F mnow medg mcor)).bind fun v2 =>
  if v1 = v2.1 then
    some (v2.2.1, v2.2.2.1, v2.2.2.2.1, v2.2.2.2.2)
  else
    none
def s_case_29 (F : Nat) (xs : Nat → Int32) (pxs : Nat → Int32) (pys : Nat → Int32) (pn : Int32) (el : Nat → Int32) (eh : Nat → Int32) (co : Nat → Int32) (ne : Int32) (nt : Int32) (mnow : Nat → Int32) (medg : Nat → Int32) (mcor : Nat → Int32) (mtri : Int32) (fl : Nat → Int64) (x5 : Int32) : Option (Int32 × (Nat → Int32) × (Nat → Int32) × Int32 × (Nat → Int64)) :=
  ((s_Law_kindAt F pxs pys pn el eh co ne nt (xs (x5 + (1 : Int32)).toNatClampNeg) (xs (x5 + (2 : Int32)).toNatClampNeg) fl)).bind fun v1 =>
  ((s_Mod_kindAt F mnow medg mcor mtri (xs (x5 + (1 : Int32)).toNatClampNeg) (xs (x5 + (2 : Int32)).toNatClampNeg))).bind fun v2 =>
  if (s_Mod_thrown v2.2.1) = v1.1 then
    if v1.1 = 0 then
      if (lg_cmp (v1.2 (0 : Int32).toNatClampNeg) ((v2.1).toInt64)) = 0 then
        some (v2.2.1, v2.2.2.1, v2.2.2.2.1, v2.2.2.2.2, v1.2)
      else
        none
    else
      some (v2.2.1, v2.2.2.1, v2.2.2.2.1, v2.2.2.2.2, v1.2)
  else
    none
def s_case_30 (F : Nat) (xs : Nat → Int32) (pxs : Nat → Int32) (pys : Nat → Int32) (pn : Int32) (el : Nat → Int32) (eh : Nat → Int32) (co : Nat → Int32) (ne : Int32) (nt : Int32) (mnow : Nat → Int32) (medg : Nat → Int32) (mcor : Nat → Int32) (mtri : Int32) (fl : Nat → Int64) (x5 : Int32) : Option (Int32 × (Nat → Int32) × (Nat → Int32) × Int32 × (Nat → Int64)) :=
  ((s_Law_numberAt F pxs pys pn el eh co ne nt (xs (x5 + (1 : Int32)).toNatClampNeg) (xs (x5 + (2 : Int32)).toNatClampNeg) fl)).bind fun v1 =>
  ((s_Mod_numberAt F mnow medg mcor mtri (xs (x5 + (1 : Int32)).toNatClampNeg) (xs (x5 + (2 : Int32)).toNatClampNeg))).bind fun v2 =>
  if (s_Mod_thrown v2.2.1) = v1.1 then
    if v1.1 = 0 then
      if (lg_cmp (v1.2 (0 : Int32).toNatClampNeg) ((v2.1).toInt64)) = 0 then
        some (v2.2.1, v2.2.2.1, v2.2.2.2.1, v2.2.2.2.2, v1.2)
      else
        none
    else
      some (v2.2.1, v2.2.2.1, v2.2.2.2.1, v2.2.2.2.2, v1.2)
  else
    none
def s_case_31 (F : Nat) (xs : Nat → Int32) (pxs : Nat → Int32) (pys : Nat → Int32) (ow : Nat → Int32) (co : Nat → Int32) (nt : Int32) (mnow : Nat → Int32) (medg : Nat → Int32) (mcor : Nat → Int32) (fl : Nat → Int64) (x5 : Int32) : Option (Int32 × (Nat → Int32) × (Nat → Int32) × Int32 × (Nat → Int64)) :=
  if (xs (x5 + (4 : Int32)).toNatClampNeg) = 0 then
    ((s_Law_walk F pxs pys ow co nt (xs (x5 + (1 : Int32)).toNatClampNeg) (xs (x5 + (2 : Int32)).toNatClampNeg) (xs (x5 + (3 : Int32)).toNatClampNeg) false fl)).bind fun v2 =>
    if (xs (x5 + (4 : Int32)).toNatClampNeg) = 0 then
      ((s_Mod_walk F mnow medg mcor (xs (x5 + (1 : Int32)).toNatClampNeg) (xs (x5 + (2 : Int32)).toNatClampNeg) (xs (x5 + (3 : Int32)).toNatClampNeg) false)).bind fun v4 =>
      if (s_Mod_thrown v4.2.1) = v2.1 then
        if v2.1 = 0 then
          if (lg_cmp (v2.2 (0 : Int32).toNatClampNeg) ((v4.1).toInt64)) = 0 then
            some (v4.2.1, v4.2.2.1, v4.2.2.2.1, v4.2.2.2.2, v2.2)
          else
            none
        else
          some (v4.2.1, v4.2.2.1, v4.2.2.2.1, v4.2.2.2.2, v2.2)
      else
        none
    else
      ((s_Mod_walk F mnow medg mcor (xs (x5 + (1 : Int32)).toNatClampNeg) (xs (x5 + (2 : Int32)).toNatClampNeg) (xs (x5 + (3 : Int32)).toNatClampNeg) true)).bind fun v8 =>
      if (s_Mod_thrown v8.2.1) = v2.1 then
        if v2.1 = 0 then
          if (lg_cmp (v2.2 (0 : Int32).toNatClampNeg) ((v8.1).toInt64)) = 0 then
            some (v8.2.1, v8.2.2.1, v8.2.2.2.1, v8.2.2.2.2, v2.2)
          else
            none
        else
          some (v8.2.1, v8.2.2.1, v8.2.2.2.1, v8.2.2.2.2, v2.2)
      else
        none
  else
    ((s_Law_walk F pxs pys ow co nt (xs (x5 + (1 : Int32)).toNatClampNeg) (xs (x5 + (2 : Int32)).toNatClampNeg) (xs (x5 + (3 : Int32)).toNatClampNeg) true fl)).bind fun v12 =>
    if (xs (x5 + (4 : Int32)).toNatClampNeg) = 0 then
      ((s_Mod_walk F mnow medg mcor (xs (x5 + (1 : Int32)).toNatClampNeg) (xs (x5 + (2 : Int32)).toNatClampNeg) (xs (x5 + (3 : Int32)).toNatClampNeg) false)).bind fun v14 =>
      if (s_Mod_thrown v14.2.1) = v12.1 then
        if v12.1 = 0 then
          if (lg_cmp (v12.2 (0 : Int32).toNatClampNeg) ((v14.1).toInt64)) = 0 then
            some (v14.2.1, v14.2.2.1, v14.2.2.2.1, v14.2.2.2.2, v12.2)
          else
            none
        else
          some (v14.2.1, v14.2.2.1, v14.2.2.2.1, v14.2.2.2.2, v12.2)
      else
        none
    else
      ((s_Mod_walk F mnow medg mcor (xs (x5 + (1 : Int32)).toNatClampNeg) (xs (x5 + (2 : Int32)).toNatClampNeg) (xs (x5 + (3 : Int32)).toNatClampNeg) true)).bind fun v18 =>
      if (s_Mod_thrown v18.2.1) = v12.1 then
        if v12.1 = 0 then
          if (lg_cmp (v12.2 (0 : Int32).toNatClampNeg) ((v18.1).toInt64)) = 0 then
            some (v18.2.1, v18.2.2.1, v18.2.2.2.1, v18.2.2.2.2, v12.2)
          else
            none
        else
          some (v18.2.1, v18.2.2.1, v18.2.2.2.1, v18.2.2.2.2, v12.2)
      else
        none
def s_case_32 (F : Nat) (xs : Nat → Int32) (pxs : Nat → Int32) (pys : Nat → Int32) (plo : Nat → Int32) (phi : Nat → Int32) (pn : Int32) (pm : Int32) (co : Nat → Int32) (nt : Int32) (tpxs : Nat → Int32) (tpys : Nat → Int32) (tplo : Nat → Int32) (tphi : Nat → Int32) (tpn : Int32) (tpm : Int32) (tlf : Nat → Int32) (tth : Nat → Int32) (tow : Nat → Int32) (tlk : Nat → Int32) (tel : Nat → Int32) (teh : Nat → Int32) (tco : Nat → Int32) (thu : Nat → Int32) (tne : Int32) (tnt : Int32) (tnh : Int32) (mnow : Nat → Int32) (medg : Nat → Int32) (mcor : Nat → Int32) (mtri : Int32) (mkep : Nat → Int32) (mkee : Nat → Int32) (mwor : Nat → Int32) (fl : Nat → Int64) (x5 : Int32) : Option ((Nat → Int32) × (Nat → Int32) × (Nat → Int32) × (Nat → Int32) × Int32 × Int32 × (Nat → Int32) × (Nat → Int32) × (Nat → Int32) × (Nat → Int32) × (Nat → Int32) × (Nat → Int32) × (Nat → Int32) × (Nat → Int32) × Int32 × Int32 × Int32 × Int32 × (Nat → Int32) × (Nat → Int32) × (Nat → Int32) × Int32 × (Nat → Int32) × (Nat → Int32) × (Nat → Int32) × (Nat → Int64)) :=
  ((s_Law_cavity F pxs pys plo phi pn pm co nt tpxs tpys tplo tphi tpn tpm tlf tth tow tlk tel teh tco thu tne tnt tnh (xs (x5 + (1 : Int32)).toNatClampNeg) (xs (x5 + (2 : Int32)).toNatClampNeg) fl)).bind fun v1 =>
  ((s_Mod_cavity F mnow medg mcor mtri mkep mkee mwor (xs (x5 + (1 : Int32)).toNatClampNeg) (xs (x5 + (2 : Int32)).toNatClampNeg))).bind fun v2 =>
  if (s_Mod_thrown v2.2.1) = v1.1 then
    if v1.1 = 0 then
      if (lg_cmp (v1.2.2.2.2.2.2.2.2.2.2.2.2.2.2.2.2.2.2 (0 : Int32).toNatClampNeg) ((v2.1).toInt64)) = 0 then
        some (v1.2.1, v1.2.2.1, v1.2.2.2.1, v1.2.2.2.2.1, v1.2.2.2.2.2.1, v1.2.2.2.2.2.2.1, v1.2.2.2.2.2.2.2.1, v1.2.2.2.2.2.2.2.2.1, v1.2.2.2.2.2.2.2.2.2.1, v1.2.2.2.2.2.2.2.2.2.2.1, v1.2.2.2.2.2.2.2.2.2.2.2.1, v1.2.2.2.2.2.2.2.2.2.2.2.2.1, v1.2.2.2.2.2.2.2.2.2.2.2.2.2.1, v1.2.2.2.2.2.2.2.2.2.2.2.2.2.2.1, v1.2.2.2.2.2.2.2.2.2.2.2.2.2.2.2.1, v1.2.2.2.2.2.2.2.2.2.2.2.2.2.2.2.2.1, v1.2.2.2.2.2.2.2.2.2.2.2.2.2.2.2.2.2.1, v2.2.1, v2.2.2.1, v2.2.2.2.1, v2.2.2.2.2.1, v2.2.2.2.2.2.1, v2.2.2.2.2.2.2.1, v2.2.2.2.2.2.2.2.1, v2.2.2.2.2.2.2.2.2, v1.2.2.2.2.2.2.2.2.2.2.2.2.2.2.2.2.2.2)
      else
        none
    else
      some (v1.2.1, v1.2.2.1, v1.2.2.2.1, v1.2.2.2.2.1, v1.2.2.2.2.2.1, v1.2.2.2.2.2.2.1, v1.2.2.2.2.2.2.2.1, v1.2.2.2.2.2.2.2.2.1, v1.2.2.2.2.2.2.2.2.2.1, v1.2.2.2.2.2.2.2.2.2.2.1, v1.2.2.2.2.2.2.2.2.2.2.2.1, v1.2.2.2.2.2.2.2.2.2.2.2.2.1, v1.2.2.2.2.2.2.2.2.2.2.2.2.2.1, v1.2.2.2.2.2.2.2.2.2.2.2.2.2.2.1, v1.2.2.2.2.2.2.2.2.2.2.2.2.2.2.2.1, v1.2.2.2.2.2.2.2.2.2.2.2.2.2.2.2.2.1, v1.2.2.2.2.2.2.2.2.2.2.2.2.2.2.2.2.2.1, v2.2.1, v2.2.2.1, v2.2.2.2.1, v2.2.2.2.2.1, v2.2.2.2.2.2.1, v2.2.2.2.2.2.2.1, v2.2.2.2.2.2.2.2.1, v2.2.2.2.2.2.2.2.2, v1.2.2.2.2.2.2.2.2.2.2.2.2.2.2.2.2.2.2)
  else
    none
def s_case_33 (F : Nat) (xs : Nat → Int32) (pxs : Nat → Int32) (pys : Nat → Int32) (plo : Nat → Int32) (phi : Nat → Int32) (pn : Int32) (pm : Int32) (th : Nat → Int32) (tpxs : Nat → Int32) (tpys : Nat → Int32) (tplo : Nat → Int32) (tphi : Nat → Int32) (tpn : Int32) (tpm : Int32) (tlf : Nat → Int32) (tth : Nat → Int32) (tow : Nat → Int32) (tlk : Nat → Int32) (tel : Nat → Int32) (teh : Nat → Int32) (tco : Nat → Int32) (thu : Nat → Int32) (tne : Int32) (tnt : Int32) (tnh : Int32) (mnow : Nat → Int32) (medg : Nat → Int32) (mcor : Nat → Int32) (mtri : Int32) (mkep : Nat → Int32) (mkee : Nat → Int32) (mwor : Nat → Int32) (fl : Nat → Int64) (x5 : Int32) : Option ((Nat → Int32) × (Nat → Int32) × (Nat → Int32) × (Nat → Int32) × Int32 × Int32 × (Nat → Int32) × (Nat → Int32) × (Nat → Int32) × (Nat → Int32) × (Nat → Int32) × (Nat → Int32) × (Nat → Int32) × (Nat → Int32) × Int32 × Int32 × Int32 × Int32 × (Nat → Int32) × (Nat → Int32) × (Nat → Int32) × Int32 × (Nat → Int32) × (Nat → Int32) × (Nat → Int32) × (Nat → Int64)) :=
  ((s_Law_hole F pxs pys plo phi pn pm th tpxs tpys tplo tphi tpn tpm tlf tth tow tlk tel teh tco thu tne tnt tnh (xs (x5 + (1 : Int32)).toNatClampNeg) fl)).bind fun v1 =>
  ((s_Mod_hole F mnow medg mcor mtri mkep mkee mwor (xs (x5 + (1 : Int32)).toNatClampNeg))).bind fun v2 =>
  if (s_Mod_thrown v2.2.1) = v1.1 then
    if v1.1 = 0 then
      if (lg_cmp (v1.2.2.2.2.2.2.2.2.2.2.2.2.2.2.2.2.2.2 (0 : Int32).toNatClampNeg) ((v2.1).toInt64)) = 0 then
        some (v1.2.1, v1.2.2.1, v1.2.2.2.1, v1.2.2.2.2.1, v1.2.2.2.2.2.1, v1.2.2.2.2.2.2.1, v1.2.2.2.2.2.2.2.1, v1.2.2.2.2.2.2.2.2.1, v1.2.2.2.2.2.2.2.2.2.1, v1.2.2.2.2.2.2.2.2.2.2.1, v1.2.2.2.2.2.2.2.2.2.2.2.1, v1.2.2.2.2.2.2.2.2.2.2.2.2.1, v1.2.2.2.2.2.2.2.2.2.2.2.2.2.1, v1.2.2.2.2.2.2.2.2.2.2.2.2.2.2.1, v1.2.2.2.2.2.2.2.2.2.2.2.2.2.2.2.1, v1.2.2.2.2.2.2.2.2.2.2.2.2.2.2.2.2.1, v1.2.2.2.2.2.2.2.2.2.2.2.2.2.2.2.2.2.1, v2.2.1, v2.2.2.1, v2.2.2.2.1, v2.2.2.2.2.1, v2.2.2.2.2.2.1, v2.2.2.2.2.2.2.1, v2.2.2.2.2.2.2.2.1, v2.2.2.2.2.2.2.2.2, v1.2.2.2.2.2.2.2.2.2.2.2.2.2.2.2.2.2.2)
      else
        none
    else
      some (v1.2.1, v1.2.2.1, v1.2.2.2.1, v1.2.2.2.2.1, v1.2.2.2.2.2.1, v1.2.2.2.2.2.2.1, v1.2.2.2.2.2.2.2.1, v1.2.2.2.2.2.2.2.2.1, v1.2.2.2.2.2.2.2.2.2.1, v1.2.2.2.2.2.2.2.2.2.2.1, v1.2.2.2.2.2.2.2.2.2.2.2.1, v1.2.2.2.2.2.2.2.2.2.2.2.2.1, v1.2.2.2.2.2.2.2.2.2.2.2.2.2.1, v1.2.2.2.2.2.2.2.2.2.2.2.2.2.2.1, v1.2.2.2.2.2.2.2.2.2.2.2.2.2.2.2.1, v1.2.2.2.2.2.2.2.2.2.2.2.2.2.2.2.2.1, v1.2.2.2.2.2.2.2.2.2.2.2.2.2.2.2.2.2.1, v2.2.1, v2.2.2.1, v2.2.2.2.1, v2.2.2.2.2.1, v2.2.2.2.2.2.1, v2.2.2.2.2.2.2.1, v2.2.2.2.2.2.2.2.1, v2.2.2.2.2.2.2.2.2, v1.2.2.2.2.2.2.2.2.2.2.2.2.2.2.2.2.2.2)
  else
    none
def s_case_34 (F : Nat) (xs : Nat → Int32) (pxs : Nat → Int32) (pys : Nat → Int32) (pn : Int32) (lf : Nat → Int32) (el : Nat → Int32) (eh : Nat → Int32) (ne : Int32) (mnow : Nat → Int32) (medg : Nat → Int32) (mcor : Nat → Int32) (mtri : Int32) (fl : Nat → Int64) (x5 : Int32) : Option (Int32 × (Nat → Int32) × (Nat → Int32) × Int32 × (Nat → Int64)) :=
  ((s_Law_crossings F pxs pys pn lf el eh ne (xs (x5 + (1 : Int32)).toNatClampNeg) (xs (x5 + (2 : Int32)).toNatClampNeg) fl)).bind fun v1 =>
  ((s_Mod_crossings F mnow medg mcor mtri (xs (x5 + (1 : Int32)).toNatClampNeg) (xs (x5 + (2 : Int32)).toNatClampNeg))).bind fun v2 =>
  if (s_Mod_thrown v2.2.1) = v1.1 then
    if v1.1 = 0 then
      if (lg_cmp (v1.2 (0 : Int32).toNatClampNeg) ((v2.1).toInt64)) = 0 then
        some (v2.2.1, v2.2.2.1, v2.2.2.2.1, v2.2.2.2.2, v1.2)
      else
        none
    else
      some (v2.2.1, v2.2.2.1, v2.2.2.2.1, v2.2.2.2.2, v1.2)
  else
    none
def s_case_35 (F : Nat) (xs : Nat → Int32) (pxs : Nat → Int32) (pys : Nat → Int32) (plo : Nat → Int32) (phi : Nat → Int32) (pn : Int32) (pm : Int32) (el : Nat → Int32) (eh : Nat → Int32) (ne : Int32) (tpxs : Nat → Int32) (tpys : Nat → Int32) (tplo : Nat → Int32) (tphi : Nat → Int32) (tpn : Int32) (tpm : Int32) (tlf : Nat → Int32) (tth : Nat → Int32) (tow : Nat → Int32) (tlk : Nat → Int32) (tel : Nat → Int32) (teh : Nat → Int32) (tco : Nat → Int32) (thu : Nat → Int32) (tne : Int32) (tnt : Int32) (tnh : Int32) (mnow : Nat → Int32) (medg : Nat → Int32) (mcor : Nat → Int32) (mtri : Int32) (mkep : Nat → Int32) (mkee : Nat → Int32) (mwor : Nat → Int32) (fl : Nat → Int64) (x5 : Int32) : Option ((Nat → Int32) × (Nat → Int32) × (Nat → Int32) × (Nat → Int32) × Int32 × Int32 × (Nat → Int32) × (Nat → Int32) × (Nat → Int32) × (Nat → Int32) × (Nat → Int32) × (Nat → Int32) × (Nat → Int32) × (Nat → Int32) × Int32 × Int32 × Int32 × Int32 × (Nat → Int32) × (Nat → Int32) × (Nat → Int32) × Int32 × (Nat → Int32) × (Nat → Int32) × (Nat → Int32) × (Nat → Int64)) :=
  ((s_Law_effect F pxs pys plo phi pn pm el eh ne tpxs tpys tplo tphi tpn tpm tlf tth tow tlk tel teh tco thu tne tnt tnh (xs (x5 + (1 : Int32)).toNatClampNeg) fl)).bind fun v1 =>
  ((s_Mod_effect F mnow medg mcor mtri mkep mkee mwor (xs (x5 + (1 : Int32)).toNatClampNeg))).bind fun v2 =>
  if (s_Mod_thrown v2.2.1) = v1.1 then
    if v1.1 = 0 then
      if (lg_cmp (v1.2.2.2.2.2.2.2.2.2.2.2.2.2.2.2.2.2.2 (0 : Int32).toNatClampNeg) ((v2.1).toInt64)) = 0 then
        some (v1.2.1, v1.2.2.1, v1.2.2.2.1, v1.2.2.2.2.1, v1.2.2.2.2.2.1, v1.2.2.2.2.2.2.1, v1.2.2.2.2.2.2.2.1, v1.2.2.2.2.2.2.2.2.1, v1.2.2.2.2.2.2.2.2.2.1, v1.2.2.2.2.2.2.2.2.2.2.1, v1.2.2.2.2.2.2.2.2.2.2.2.1, v1.2.2.2.2.2.2.2.2.2.2.2.2.1, v1.2.2.2.2.2.2.2.2.2.2.2.2.2.1, v1.2.2.2.2.2.2.2.2.2.2.2.2.2.2.1, v1.2.2.2.2.2.2.2.2.2.2.2.2.2.2.2.1, v1.2.2.2.2.2.2.2.2.2.2.2.2.2.2.2.2.1, v1.2.2.2.2.2.2.2.2.2.2.2.2.2.2.2.2.2.1, v2.2.1, v2.2.2.1, v2.2.2.2.1, v2.2.2.2.2.1, v2.2.2.2.2.2.1, v2.2.2.2.2.2.2.1, v2.2.2.2.2.2.2.2.1, v2.2.2.2.2.2.2.2.2, v1.2.2.2.2.2.2.2.2.2.2.2.2.2.2.2.2.2.2)
      else
        none
    else
      some (v1.2.1, v1.2.2.1, v1.2.2.2.1, v1.2.2.2.2.1, v1.2.2.2.2.2.1, v1.2.2.2.2.2.2.1, v1.2.2.2.2.2.2.2.1, v1.2.2.2.2.2.2.2.2.1, v1.2.2.2.2.2.2.2.2.2.1, v1.2.2.2.2.2.2.2.2.2.2.1, v1.2.2.2.2.2.2.2.2.2.2.2.1, v1.2.2.2.2.2.2.2.2.2.2.2.2.1, v1.2.2.2.2.2.2.2.2.2.2.2.2.2.1, v1.2.2.2.2.2.2.2.2.2.2.2.2.2.2.1, v1.2.2.2.2.2.2.2.2.2.2.2.2.2.2.2.1, v1.2.2.2.2.2.2.2.2.2.2.2.2.2.2.2.2.1, v1.2.2.2.2.2.2.2.2.2.2.2.2.2.2.2.2.2.1, v2.2.1, v2.2.2.1, v2.2.2.2.1, v2.2.2.2.2.1, v2.2.2.2.2.2.1, v2.2.2.2.2.2.2.1, v2.2.2.2.2.2.2.2.1, v2.2.2.2.2.2.2.2.2, v1.2.2.2.2.2.2.2.2.2.2.2.2.2.2.2.2.2.2)
  else
    none
def s_case_36 (F : Nat) (pxs : Nat → Int32) (pys : Nat → Int32) (plo : Nat → Int32) (phi : Nat → Int32) (pn : Int32) (pm : Int32) (lf : Nat → Int32) (th : Nat → Int32) (ow : Nat → Int32) (lk : Nat → Int32) (el : Nat → Int32) (eh : Nat → Int32) (co : Nat → Int32) (hu : Nat → Int32) (ne : Int32) (nt : Int32) (nh : Int32) (hp : Nat → PlanS) (hnx : Int32) (hkp : Int32) (mnow : Nat → Int32) (mold : Nat → Int32) (mols : Int32) (fl : Nat → Int64) : Option ((Nat → Int32) × (Nat → Int32) × (Nat → Int32) × (Nat → Int32) × Int32 × Int32 × (Nat → Int32) × (Nat → Int32) × (Nat → Int32) × (Nat → Int32) × (Nat → Int32) × (Nat → Int32) × (Nat → Int32) × (Nat → Int32) × Int32 × Int32 × Int32 × Int32 × Int32 × Int32 × (Nat → Int32) × Int32 × (Nat → Int64)) :=
  ((s_Law_undo F pxs pys plo phi pn pm lf th ow lk el eh co hu ne nt nh hp hnx hkp fl)).bind fun v1 =>
  ((s_Mod_undo F mnow mold mols)).bind fun v2 =>
  if (s_Mod_thrown v2.2.1) = v1.1 then
    if v1.1 = 0 then
      if (lg_cmp (v1.2.2.2.2.2.2.2.2.2.2.2.2.2.2.2.2.2.2.2.2 (0 : Int32).toNatClampNeg) ((v2.1).toInt64)) = 0 then
        some (v1.2.1, v1.2.2.1, v1.2.2.2.1, v1.2.2.2.2.1, v1.2.2.2.2.2.1, v1.2.2.2.2.2.2.1, v1.2.2.2.2.2.2.2.1, v1.2.2.2.2.2.2.2.2.1, v1.2.2.2.2.2.2.2.2.2.1, v1.2.2.2.2.2.2.2.2.2.2.1, v1.2.2.2.2.2.2.2.2.2.2.2.1, v1.2.2.2.2.2.2.2.2.2.2.2.2.1, v1.2.2.2.2.2.2.2.2.2.2.2.2.2.1, v1.2.2.2.2.2.2.2.2.2.2.2.2.2.2.1, v1.2.2.2.2.2.2.2.2.2.2.2.2.2.2.2.1, v1.2.2.2.2.2.2.2.2.2.2.2.2.2.2.2.2.1, v1.2.2.2.2.2.2.2.2.2.2.2.2.2.2.2.2.2.1, v1.2.2.2.2.2.2.2.2.2.2.2.2.2.2.2.2.2.2.1, v1.2.2.2.2.2.2.2.2.2.2.2.2.2.2.2.2.2.2.2.1, v2.2.1, v2.2.2.1, v2.2.2.2, v1.2.2.2.2.2.2.2.2.2.2.2.2.2.2.2.2.2.2.2.2)
      else
        none
    else
      some (v1.2.1, v1.2.2.1, v1.2.2.2.1, v1.2.2.2.2.1, v1.2.2.2.2.2.1, v1.2.2.2.2.2.2.1, v1.2.2.2.2.2.2.2.1, v1.2.2.2.2.2.2.2.2.1, v1.2.2.2.2.2.2.2.2.2.1, v1.2.2.2.2.2.2.2.2.2.2.1, v1.2.2.2.2.2.2.2.2.2.2.2.1, v1.2.2.2.2.2.2.2.2.2.2.2.2.1, v1.2.2.2.2.2.2.2.2.2.2.2.2.2.1, v1.2.2.2.2.2.2.2.2.2.2.2.2.2.2.1, v1.2.2.2.2.2.2.2.2.2.2.2.2.2.2.2.1, v1.2.2.2.2.2.2.2.2.2.2.2.2.2.2.2.2.1, v1.2.2.2.2.2.2.2.2.2.2.2.2.2.2.2.2.2.1, v1.2.2.2.2.2.2.2.2.2.2.2.2.2.2.2.2.2.2.1, v1.2.2.2.2.2.2.2.2.2.2.2.2.2.2.2.2.2.2.2.1, v2.2.1, v2.2.2.1, v2.2.2.2, v1.2.2.2.2.2.2.2.2.2.2.2.2.2.2.2.2.2.2.2.2)
  else
    none
def s_case_37 (F : Nat) (pxs : Nat → Int32) (pys : Nat → Int32) (plo : Nat → Int32) (phi : Nat → Int32) (pn : Int32) (pm : Int32) (spxs : Nat → Int32) (spys : Nat → Int32) (splo : Nat → Int32) (sphi : Nat → Int32) (mnow : Nat → Int32) (msav : Nat → Int32) : Option ((Nat → Int32) × (Nat → Int32) × (Nat → Int32) × (Nat → Int32) × Int32 × Int32 × Bool × Int32 × (Nat → Int32) × Bool) :=
  ((s_Top_save F pxs pys plo phi pn pm spxs spys splo sphi)).bind fun v1 =>
  ((s_Mod_save F mnow msav)).bind fun v2 =>
  if v1.1 = v2.1 then
    some (v1.2.1, v1.2.2.1, v1.2.2.2.1, v1.2.2.2.2.1, v1.2.2.2.2.2.1, v1.2.2.2.2.2.2.1, v1.2.2.2.2.2.2.2, v2.2.1, v2.2.2.1, v2.2.2.2)
  else
    none
def s_case_38 (F : Nat) (pxs : Nat → Int32) (pys : Nat → Int32) (plo : Nat → Int32) (phi : Nat → Int32) (pn : Int32) (pm : Int32) (lf : Nat → Int32) (th : Nat → Int32) (ow : Nat → Int32) (lk : Nat → Int32) (el : Nat → Int32) (eh : Nat → Int32) (co : Nat → Int32) (hu : Nat → Int32) (ne : Int32) (nt : Int32) (nh : Int32) (spxs : Nat → Int32) (spys : Nat → Int32) (splo : Nat → Int32) (sphi : Nat → Int32) (spn : Int32) (spm : Int32) (hkp : Int32) (hsv : Bool) (mnow : Nat → Int32) (mols : Int32) (msav : Nat → Int32) (miss : Bool) (fl : Nat → Int64) : Option ((Nat → Int32) × (Nat → Int32) × (Nat → Int32) × (Nat → Int32) × Int32 × Int32 × (Nat → Int32) × (Nat → Int32) × (Nat → Int32) × (Nat → Int32) × (Nat → Int32) × (Nat → Int32) × (Nat → Int32) × (Nat → Int32) × Int32 × Int32 × Int32 × Int32 × Int32 × (Nat → Int32) × Int32 × (Nat → Int64)) :=
  ((s_Law_restore F pxs pys plo phi pn pm lf th ow lk el eh co hu ne nt nh spxs spys splo sphi spn spm hkp hsv fl)).bind fun v1 =>
  ((s_Mod_restore F mnow mols msav miss)).bind fun v2 =>
  if (s_Mod_thrown v2.2.1) = v1.1 then
    if v1.1 = 0 then
      if (lg_cmp (v1.2.2.2.2.2.2.2.2.2.2.2.2.2.2.2.2.2.2.2 (0 : Int32).toNatClampNeg) ((v2.1).toInt64)) = 0 then
        some (v1.2.1, v1.2.2.1, v1.2.2.2.1, v1.2.2.2.2.1, v1.2.2.2.2.2.1, v1.2.2.2.2.2.2.1, v1.2.2.2.2.2.2.2.1, v1.2.2.2.2.2.2.2.2.1, v1.2.2.2.2.2.2.2.2.2.1, v1.2.2.2.2.2.2.2.2.2.2.1, v1.2.2.2.2.2.2.2.2.2.2.2.1, v1.2.2.2.2.2.2.2.2.2.2.2.2.1, v1.2.2.2.2.2.2.2.2.2.2.2.2.2.1, v1.2.2.2.2.2.2.2.2.2.2.2.2.2.2.1, v1.2.2.2.2.2.2.2.2.2.2.2.2.2.2.2.1, v1.2.2.2.2.2.2.2.2.2.2.2.2.2.2.2.2.1, v1.2.2.2.2.2.2.2.2.2.2.2.2.2.2.2.2.2.1, v1.2.2.2.2.2.2.2.2.2.2.2.2.2.2.2.2.2.2.1, v2.2.1, v2.2.2.1, v2.2.2.2, v1.2.2.2.2.2.2.2.2.2.2.2.2.2.2.2.2.2.2.2)
      else
        none
    else
      some (v1.2.1, v1.2.2.1, v1.2.2.2.1, v1.2.2.2.2.1, v1.2.2.2.2.2.1, v1.2.2.2.2.2.2.1, v1.2.2.2.2.2.2.2.1, v1.2.2.2.2.2.2.2.2.1, v1.2.2.2.2.2.2.2.2.2.1, v1.2.2.2.2.2.2.2.2.2.2.1, v1.2.2.2.2.2.2.2.2.2.2.2.1, v1.2.2.2.2.2.2.2.2.2.2.2.2.1, v1.2.2.2.2.2.2.2.2.2.2.2.2.2.1, v1.2.2.2.2.2.2.2.2.2.2.2.2.2.2.1, v1.2.2.2.2.2.2.2.2.2.2.2.2.2.2.2.1, v1.2.2.2.2.2.2.2.2.2.2.2.2.2.2.2.2.1, v1.2.2.2.2.2.2.2.2.2.2.2.2.2.2.2.2.2.1, v1.2.2.2.2.2.2.2.2.2.2.2.2.2.2.2.2.2.2.1, v2.2.1, v2.2.2.1, v2.2.2.2, v1.2.2.2.2.2.2.2.2.2.2.2.2.2.2.2.2.2.2.2)
  else
    none
