def s_Hist_remember (F : Nat) (hp : Nat → PlanS) (hnx hkp : Int32) (opxs opys oplo ophi : Nat → Int32) (opn opm : Int32) : Option ((Nat → PlanS) × Int32 × Int32) :=
  if hnx < 0 then some (hp, (if (12 : Int32) ≤ hnx + (1 : Int32) then 0 else hnx + (1 : Int32)), imin (hkp + (1 : Int32)) 12)
  else if (12 : Int32) ≤ hnx then some (hp, (if (12 : Int32) ≤ hnx + (1 : Int32) then 0 else hnx + (1 : Int32)), imin (hkp + (1 : Int32)) 12)
  else (s_Plan_copyFrom F ((hp hnx.toNatClampNeg).1) ((hp hnx.toNatClampNeg).2.1) ((hp hnx.toNatClampNeg).2.2.1) ((hp hnx.toNatClampNeg).2.2.2.1) opxs opys oplo ophi opn opm).bind fun v => some (va_up hp hnx.toNatClampNeg v, (if (12 : Int32) ≤ hnx + (1 : Int32) then 0 else hnx + (1 : Int32)), imin (hkp + (1 : Int32)) 12)
def s_Hist_back (F : Nat) (hp : Nat → PlanS) (nx kp : Int32) (opxs opys oplo ophi : Nat → Int32) (opn opm : Int32) : Option (Int32 × Int32 × (Nat → Int32) × (Nat → Int32) × (Nat → Int32) × (Nat → Int32) × Int32 × Int32) :=
  if nx < 0 then some (nx, kp, opxs, opys, oplo, ophi, opn, opm)
  else if (12 : Int32) ≤ nx then some (nx, kp, opxs, opys, oplo, ophi, opn, opm)
  else (s_Plan_copyFrom F opxs opys oplo ophi ((hp nx.toNatClampNeg).1) ((hp nx.toNatClampNeg).2.1) ((hp nx.toNatClampNeg).2.2.1) ((hp nx.toNatClampNeg).2.2.2.1) ((hp nx.toNatClampNeg).2.2.2.2.1) ((hp nx.toNatClampNeg).2.2.2.2.2)).bind fun v => some (nx, kp, v)
def s_Hist_recallInto (F : Nat) (hp : Nat → PlanS) (hnx hkp : Int32) (opxs opys oplo ophi : Nat → Int32) (opn opm : Int32) : Option (Int32 × Int32 × (Nat → Int32) × (Nat → Int32) × (Nat → Int32) × (Nat → Int32) × Int32 × Int32) :=
  s_Hist_back F hp (if hnx ≤ 0 then 11 else hnx - (1 : Int32)) (imax (hkp - (1 : Int32)) 0) opxs opys oplo ophi opn opm
def s_Top_isCoordinate (a0 : Int32) : Bool :=
  if a0 < 0 then
    false
  else
    if (100 : Int32) < a0 then
      false
    else
      true
def s_Top_requirePosition (a0 : Int32) (a1 : Int32) : String ⊕ Unit :=
  if (bI (s_Top_isCoordinate a0)) = 0 then
    .inl "java/lang/IllegalArgumentException"
  else
    if (bI (s_Top_isCoordinate a1)) = 0 then
      .inl "java/lang/IllegalArgumentException"
    else
      .inr ()
def s_Top_requireNewPoint (F : Nat) (pxs : Nat → Int32) (pys : Nat → Int32) (plo : Nat → Int32) (phi : Nat → Int32) (pn : Int32) (pm : Int32) (a0 : Int32) (a1 : Int32) : Option (String ⊕ Unit) :=
  if (s_Plan_points pn) < (16 : Int32) then
    ((s_Plan_admitsPoint F pxs pys plo phi pn pm a0 a1)).bind fun v2 =>
    if (bI v2) = 0 then
      some (.inl "java/lang/UnsupportedOperationException")
    else
      some (.inr ())
  else
    some (.inl "java/lang/IllegalStateException")
def s_Top_addPoint (F : Nat) (pxs : Nat → Int32) (pys : Nat → Int32) (plo : Nat → Int32) (phi : Nat → Int32) (pn : Int32) (pm : Int32) (lf : Nat → Int32) (th : Nat → Int32) (ow : Nat → Int32) (lk : Nat → Int32) (el : Nat → Int32) (eh : Nat → Int32) (co : Nat → Int32) (hu : Nat → Int32) (hp : Nat → PlanS) (hnx : Int32) (hkp : Int32) (a0 : Int32) (a1 : Int32) : Option (String ⊕ (Int32 × (Nat → Int32) × (Nat → Int32) × Int32 × (Nat → Int32) × (Nat → Int32) × (Nat → Int32) × (Nat → Int32) × (Nat → Int32) × (Nat → Int32) × (Nat → Int32) × (Nat → Int32) × Int32 × Int32 × Int32 × (Nat → PlanS) × Int32 × Int32)) :=
  Sum.elim (fun E => some (.inl E)) (fun _ =>
    ((s_Top_requireNewPoint F pxs pys plo phi pn pm a0 a1)).bind fun v1 =>
    Sum.elim (fun E => some (.inl E)) (fun _ =>
      ((s_Hist_remember F hp hnx hkp pxs pys plo phi pn pm)).bind fun v2 =>
      ((s_Mesh_draw F ((s_Plan_appendPoint pxs pys pn a0 a1).1) ((s_Plan_appendPoint pxs pys pn a0 a1).2.1) plo phi ((s_Plan_appendPoint pxs pys pn a0 a1).2.2) pm lf th ow lk el eh co hu)).bind fun v3 =>
      some (.inr (((s_Plan_points ((s_Plan_appendPoint pxs pys pn a0 a1).2.2)) - (1 : Int32)), (s_Plan_appendPoint pxs pys pn a0 a1).1, (s_Plan_appendPoint pxs pys pn a0 a1).2.1, (s_Plan_appendPoint pxs pys pn a0 a1).2.2, v3.1, v3.2.1, v3.2.2.1, v3.2.2.2.1, v3.2.2.2.2.1, v3.2.2.2.2.2.1, v3.2.2.2.2.2.2.1, v3.2.2.2.2.2.2.2.1, v3.2.2.2.2.2.2.2.2.1, v3.2.2.2.2.2.2.2.2.2.1, v3.2.2.2.2.2.2.2.2.2.2, v2.1, v2.2.1, v2.2.2))) v1) (s_Top_requirePosition a0 a1)
def s_Top_requirePoint (pn : Int32) (a0 : Int32) : String ⊕ Unit :=
  if (bI (s_Plan_hasPoint pn a0)) = 0 then
    .inl "java/lang/IndexOutOfBoundsException"
  else
    .inr ()
def s_Top_requireLoosePoint (F : Nat) (plo : Nat → Int32) (phi : Nat → Int32) (pm : Int32) (a0 : Int32) : Option (String ⊕ Unit) :=
  ((s_Plan_endsConstraint F plo phi pm a0)).bind fun v1 =>
  if (bI v1) = 0 then
    some (.inr ())
  else
    some (.inl "java/lang/IllegalStateException")
def s_Top_removePoint (F : Nat) (pxs : Nat → Int32) (pys : Nat → Int32) (plo : Nat → Int32) (phi : Nat → Int32) (pn : Int32) (pm : Int32) (lf : Nat → Int32) (th : Nat → Int32) (ow : Nat → Int32) (lk : Nat → Int32) (el : Nat → Int32) (eh : Nat → Int32) (co : Nat → Int32) (hu : Nat → Int32) (hp : Nat → PlanS) (hnx : Int32) (hkp : Int32) (a0 : Int32) : Option (String ⊕ (Int32 × (Nat → Int32) × (Nat → Int32) × (Nat → Int32) × (Nat → Int32) × Int32 × (Nat → Int32) × (Nat → Int32) × (Nat → Int32) × (Nat → Int32) × (Nat → Int32) × (Nat → Int32) × (Nat → Int32) × (Nat → Int32) × Int32 × Int32 × Int32 × (Nat → PlanS) × Int32 × Int32)) :=
  Sum.elim (fun E => some (.inl E)) (fun _ =>
    ((s_Top_requireLoosePoint F plo phi pm a0)).bind fun v1 =>
    Sum.elim (fun E => some (.inl E)) (fun _ =>
      ((s_Hist_remember F hp hnx hkp pxs pys plo phi pn pm)).bind fun v2 =>
      ((s_Plan_dropPoint F pxs pys plo phi pn pm a0)).bind fun v3 =>
      ((s_Mesh_draw F v3.1 v3.2.1 v3.2.2.1 v3.2.2.2.1 v3.2.2.2.2 pm lf th ow lk el eh co hu)).bind fun v4 =>
      some (.inr ((s_Plan_points v3.2.2.2.2), v3.1, v3.2.1, v3.2.2.1, v3.2.2.2.1, v3.2.2.2.2, v4.1, v4.2.1, v4.2.2.1, v4.2.2.2.1, v4.2.2.2.2.1, v4.2.2.2.2.2.1, v4.2.2.2.2.2.2.1, v4.2.2.2.2.2.2.2.1, v4.2.2.2.2.2.2.2.2.1, v4.2.2.2.2.2.2.2.2.2.1, v4.2.2.2.2.2.2.2.2.2.2, v2.1, v2.2.1, v2.2.2))) v1) (s_Top_requirePoint pn a0)
def s_Top_movePoint (F : Nat) (pxs : Nat → Int32) (pys : Nat → Int32) (plo : Nat → Int32) (phi : Nat → Int32) (pn : Int32) (pm : Int32) (lf : Nat → Int32) (th : Nat → Int32) (ow : Nat → Int32) (lk : Nat → Int32) (el : Nat → Int32) (eh : Nat → Int32) (co : Nat → Int32) (hu : Nat → Int32) (hp : Nat → PlanS) (hnx : Int32) (hkp : Int32) (a0 : Int32) (a1 : Int32) (a2 : Int32) : Option (String ⊕ (Bool × (Nat → Int32) × (Nat → Int32) × (Nat → Int32) × (Nat → Int32) × (Nat → Int32) × (Nat → Int32) × (Nat → Int32) × (Nat → Int32) × (Nat → Int32) × (Nat → Int32) × Int32 × Int32 × Int32 × (Nat → PlanS) × Int32 × Int32)) :=
  Sum.elim (fun E => some (.inl E)) (fun _ =>
    Sum.elim (fun E => some (.inl E)) (fun _ =>
      ((s_Top_requireLoosePoint F plo phi pm a0)).bind fun v1 =>
      Sum.elim (fun E => some (.inl E)) (fun _ =>
        ((s_Plan_pointAt F pxs pys pn a1 a2)).bind fun v2 =>
        if v2 = (-1 : Int32) then
          ((s_Plan_constraintCovers F pxs pys plo phi pm a1 a2)).bind fun v4 =>
          if (bI v4) = 0 then
            ((s_Hist_remember F hp hnx hkp pxs pys plo phi pn pm)).bind fun v6 =>
            ((s_Mesh_draw F ((s_Plan_placePoint pxs pys a0 a1 a2).1) ((s_Plan_placePoint pxs pys a0 a1 a2).2) plo phi pn pm lf th ow lk el eh co hu)).bind fun v7 =>
            if v2 = a0 then
              some (.inr (false, (s_Plan_placePoint pxs pys a0 a1 a2).1, (s_Plan_placePoint pxs pys a0 a1 a2).2, v7.1, v7.2.1, v7.2.2.1, v7.2.2.2.1, v7.2.2.2.2.1, v7.2.2.2.2.2.1, v7.2.2.2.2.2.2.1, v7.2.2.2.2.2.2.2.1, v7.2.2.2.2.2.2.2.2.1, v7.2.2.2.2.2.2.2.2.2.1, v7.2.2.2.2.2.2.2.2.2.2, v6.1, v6.2.1, v6.2.2))
            else
              some (.inr (true, (s_Plan_placePoint pxs pys a0 a1 a2).1, (s_Plan_placePoint pxs pys a0 a1 a2).2, v7.1, v7.2.1, v7.2.2.1, v7.2.2.2.1, v7.2.2.2.2.1, v7.2.2.2.2.2.1, v7.2.2.2.2.2.2.1, v7.2.2.2.2.2.2.2.1, v7.2.2.2.2.2.2.2.2.1, v7.2.2.2.2.2.2.2.2.2.1, v7.2.2.2.2.2.2.2.2.2.2, v6.1, v6.2.1, v6.2.2))
          else
            some (.inl "java/lang/UnsupportedOperationException")
        else
          if v2 = a0 then
            ((s_Plan_constraintCovers F pxs pys plo phi pm a1 a2)).bind fun v10 =>
            if (bI v10) = 0 then
              ((s_Hist_remember F hp hnx hkp pxs pys plo phi pn pm)).bind fun v12 =>
              ((s_Mesh_draw F ((s_Plan_placePoint pxs pys a0 a1 a2).1) ((s_Plan_placePoint pxs pys a0 a1 a2).2) plo phi pn pm lf th ow lk el eh co hu)).bind fun v13 =>
              if v2 = a0 then
                some (.inr (false, (s_Plan_placePoint pxs pys a0 a1 a2).1, (s_Plan_placePoint pxs pys a0 a1 a2).2, v13.1, v13.2.1, v13.2.2.1, v13.2.2.2.1, v13.2.2.2.2.1, v13.2.2.2.2.2.1, v13.2.2.2.2.2.2.1, v13.2.2.2.2.2.2.2.1, v13.2.2.2.2.2.2.2.2.1, v13.2.2.2.2.2.2.2.2.2.1, v13.2.2.2.2.2.2.2.2.2.2, v12.1, v12.2.1, v12.2.2))
              else
                some (.inr (true, (s_Plan_placePoint pxs pys a0 a1 a2).1, (s_Plan_placePoint pxs pys a0 a1 a2).2, v13.1, v13.2.1, v13.2.2.1, v13.2.2.2.1, v13.2.2.2.2.1, v13.2.2.2.2.2.1, v13.2.2.2.2.2.2.1, v13.2.2.2.2.2.2.2.1, v13.2.2.2.2.2.2.2.2.1, v13.2.2.2.2.2.2.2.2.2.1, v13.2.2.2.2.2.2.2.2.2.2, v12.1, v12.2.1, v12.2.2))
            else
              some (.inl "java/lang/UnsupportedOperationException")
          else
            some (.inl "java/lang/UnsupportedOperationException")) v1) (s_Top_requirePosition a1 a2)) (s_Top_requirePoint pn a0)
def s_Top_pointCount (pn : Int32) : Int32 :=
  (s_Plan_points pn)
def s_Top_requireBit (a0 : Int32) : String ⊕ Unit :=
  if a0 = 0 then
    .inr ()
  else
    if a0 = (1 : Int32) then
      .inr ()
    else
      .inl "java/lang/IllegalArgumentException"
def s_Top_coordinate (pxs : Nat → Int32) (pys : Nat → Int32) (pn : Int32) (a0 : Int32) (a1 : Int32) : String ⊕ Int32 :=
  Sum.elim (fun E => .inl E) (fun _ =>
    Sum.elim (fun E => .inl E) (fun _ =>
      if a1 = 0 then
        .inr (s_Plan_xOf pxs a0)
      else
        .inr (s_Plan_yOf pys a0)) (s_Top_requireBit a1)) (s_Top_requirePoint pn a0)
def s_Top_requireDifferent (a0 : Int32) (a1 : Int32) : String ⊕ Unit :=
  if a0 = a1 then
    .inl "java/lang/IllegalArgumentException"
  else
    .inr ()
def s_Top_addConstraint (F : Nat) (pxs : Nat → Int32) (pys : Nat → Int32) (plo : Nat → Int32) (phi : Nat → Int32) (pn : Int32) (pm : Int32) (lf : Nat → Int32) (th : Nat → Int32) (ow : Nat → Int32) (lk : Nat → Int32) (el : Nat → Int32) (eh : Nat → Int32) (co : Nat → Int32) (hu : Nat → Int32) (hp : Nat → PlanS) (hnx : Int32) (hkp : Int32) (a0 : Int32) (a1 : Int32) : Option (String ⊕ (Int32 × (Nat → Int32) × (Nat → Int32) × Int32 × (Nat → Int32) × (Nat → Int32) × (Nat → Int32) × (Nat → Int32) × (Nat → Int32) × (Nat → Int32) × (Nat → Int32) × (Nat → Int32) × Int32 × Int32 × Int32 × (Nat → PlanS) × Int32 × Int32)) :=
  Sum.elim (fun E => some (.inl E)) (fun _ =>
    Sum.elim (fun E => some (.inl E)) (fun _ =>
      Sum.elim (fun E => some (.inl E)) (fun _ =>
        if (s_Plan_constraints pm) < (10 : Int32) then
          ((s_Plan_admitsSegment F pxs pys plo phi pn pm a0 a1)).bind fun v2 =>
          if (bI v2) = 0 then
            some (.inl "java/lang/UnsupportedOperationException")
          else
            ((s_Hist_remember F hp hnx hkp pxs pys plo phi pn pm)).bind fun v4 =>
            ((s_Mesh_draw F pxs pys ((s_Plan_appendConstraint plo phi pm a0 a1).1) ((s_Plan_appendConstraint plo phi pm a0 a1).2.1) pn ((s_Plan_appendConstraint plo phi pm a0 a1).2.2) lf th ow lk el eh co hu)).bind fun v5 =>
            some (.inr (((s_Plan_constraints ((s_Plan_appendConstraint plo phi pm a0 a1).2.2)) - (1 : Int32)), (s_Plan_appendConstraint plo phi pm a0 a1).1, (s_Plan_appendConstraint plo phi pm a0 a1).2.1, (s_Plan_appendConstraint plo phi pm a0 a1).2.2, v5.1, v5.2.1, v5.2.2.1, v5.2.2.2.1, v5.2.2.2.2.1, v5.2.2.2.2.2.1, v5.2.2.2.2.2.2.1, v5.2.2.2.2.2.2.2.1, v5.2.2.2.2.2.2.2.2.1, v5.2.2.2.2.2.2.2.2.2.1, v5.2.2.2.2.2.2.2.2.2.2, v4.1, v4.2.1, v4.2.2))
        else
          some (.inl "java/lang/IllegalStateException")) (s_Top_requireDifferent a0 a1)) (s_Top_requirePoint pn a1)) (s_Top_requirePoint pn a0)
def s_Top_requireConstraint (pm : Int32) (a0 : Int32) : String ⊕ Unit :=
  if a0 < 0 then
    .inl "java/lang/IndexOutOfBoundsException"
  else
    if a0 < (s_Plan_constraints pm) then
      .inr ()
    else
      .inl "java/lang/IndexOutOfBoundsException"
def s_Top_removeConstraint (F : Nat) (pxs : Nat → Int32) (pys : Nat → Int32) (plo : Nat → Int32) (phi : Nat → Int32) (pn : Int32) (pm : Int32) (lf : Nat → Int32) (th : Nat → Int32) (ow : Nat → Int32) (lk : Nat → Int32) (el : Nat → Int32) (eh : Nat → Int32) (co : Nat → Int32) (hu : Nat → Int32) (hp : Nat → PlanS) (hnx : Int32) (hkp : Int32) (a0 : Int32) : Option (String ⊕ (Int32 × (Nat → Int32) × (Nat → Int32) × Int32 × (Nat → Int32) × (Nat → Int32) × (Nat → Int32) × (Nat → Int32) × (Nat → Int32) × (Nat → Int32) × (Nat → Int32) × (Nat → Int32) × Int32 × Int32 × Int32 × (Nat → PlanS) × Int32 × Int32)) :=
  Sum.elim (fun E => some (.inl E)) (fun _ =>
    ((s_Hist_remember F hp hnx hkp pxs pys plo phi pn pm)).bind fun v1 =>
    ((s_Plan_dropConstraint F plo phi pm a0)).bind fun v2 =>
    ((s_Mesh_draw F pxs pys v2.1 v2.2.1 pn v2.2.2 lf th ow lk el eh co hu)).bind fun v3 =>
    some (.inr ((s_Plan_constraints v2.2.2), v2.1, v2.2.1, v2.2.2, v3.1, v3.2.1, v3.2.2.1, v3.2.2.2.1, v3.2.2.2.2.1, v3.2.2.2.2.2.1, v3.2.2.2.2.2.2.1, v3.2.2.2.2.2.2.2.1, v3.2.2.2.2.2.2.2.2.1, v3.2.2.2.2.2.2.2.2.2.1, v3.2.2.2.2.2.2.2.2.2.2, v1.1, v1.2.1, v1.2.2))) (s_Top_requireConstraint pm a0)
def s_Top_constraintCount (pm : Int32) : Int32 :=
  (s_Plan_constraints pm)
def s_Top_constraintEnd (plo : Nat → Int32) (phi : Nat → Int32) (pm : Int32) (a0 : Int32) (a1 : Int32) : String ⊕ Int32 :=
  Sum.elim (fun E => .inl E) (fun _ =>
    Sum.elim (fun E => .inl E) (fun _ =>
      if a1 = 0 then
        .inr (s_Plan_lowEnd plo a0)
      else
        .inr (s_Plan_highEnd phi a0)) (s_Top_requireBit a1)) (s_Top_requireConstraint pm a0)
def s_Top_feed (ich : Nat → Int32) (iln : Int32) (a0 : Int32) : String ⊕ (Int32 × (Nat → Int32) × Int32) :=
  if (s_Input_length iln) < (60 : Int32) then
    .inr ((s_Input_length ((s_Input_append ich iln a0).2)), (s_Input_append ich iln a0).1, (s_Input_append ich iln a0).2)
  else
    .inl "java/lang/IllegalStateException"
def s_Top_addEntry (F : Nat) (pxs : Nat → Int32) (pys : Nat → Int32) (plo : Nat → Int32) (phi : Nat → Int32) (pn : Int32) (pm : Int32) (ifs : Nat → Int32) (isc : Nat → Int32) (isg : Nat → Int32) (hp : Nat → PlanS) (hnx : Int32) (hkp : Int32) (a0 : Int32) : Option (Bool × (Nat → Int32) × (Nat → Int32) × (Nat → Int32) × (Nat → Int32) × Int32 × Int32 × (Nat → PlanS) × Int32 × Int32) :=
  if (bI (s_Input_isSegment isg a0)) = 0 then
    if (bI (s_Top_isCoordinate (s_Input_firstOf ifs a0))) = 0 then
      if (0 : Int32) = 0 then
        some (false, pxs, pys, plo, phi, pn, pm, hp, hnx, hkp)
      else
        ((s_Hist_remember F hp hnx hkp pxs pys plo phi pn pm)).bind fun v4 =>
        if (bI (s_Input_isSegment isg a0)) = 0 then
          some (true, (s_Plan_appendPoint pxs pys pn (s_Input_firstOf ifs a0) (s_Input_secondOf isc a0)).1, (s_Plan_appendPoint pxs pys pn (s_Input_firstOf ifs a0) (s_Input_secondOf isc a0)).2.1, plo, phi, (s_Plan_appendPoint pxs pys pn (s_Input_firstOf ifs a0) (s_Input_secondOf isc a0)).2.2, pm, v4.1, v4.2.1, v4.2.2)
        else
          some (true, pxs, pys, (s_Plan_appendConstraint plo phi pm (s_Input_firstOf ifs a0) (s_Input_secondOf isc a0)).1, (s_Plan_appendConstraint plo phi pm (s_Input_firstOf ifs a0) (s_Input_secondOf isc a0)).2.1, pn, (s_Plan_appendConstraint plo phi pm (s_Input_firstOf ifs a0) (s_Input_secondOf isc a0)).2.2, v4.1, v4.2.1, v4.2.2)
    else
      if (bI (s_Top_isCoordinate (s_Input_secondOf isc a0))) = 0 then
        if (0 : Int32) = 0 then
          some (false, pxs, pys, plo, phi, pn, pm, hp, hnx, hkp)
        else
          ((s_Hist_remember F hp hnx hkp pxs pys plo phi pn pm)).bind fun v8 =>
          if (bI (s_Input_isSegment isg a0)) = 0 then
            some (true, (s_Plan_appendPoint pxs pys pn (s_Input_firstOf ifs a0) (s_Input_secondOf isc a0)).1, (s_Plan_appendPoint pxs pys pn (s_Input_firstOf ifs a0) (s_Input_secondOf isc a0)).2.1, plo, phi, (s_Plan_appendPoint pxs pys pn (s_Input_firstOf ifs a0) (s_Input_secondOf isc a0)).2.2, pm, v8.1, v8.2.1, v8.2.2)
          else
            some (true, pxs, pys, (s_Plan_appendConstraint plo phi pm (s_Input_firstOf ifs a0) (s_Input_secondOf isc a0)).1, (s_Plan_appendConstraint plo phi pm (s_Input_firstOf ifs a0) (s_Input_secondOf isc a0)).2.1, pn, (s_Plan_appendConstraint plo phi pm (s_Input_firstOf ifs a0) (s_Input_secondOf isc a0)).2.2, v8.1, v8.2.1, v8.2.2)
      else
        if (16 : Int32) ≤ (s_Plan_points pn) then
          if (0 : Int32) = 0 then
            some (false, pxs, pys, plo, phi, pn, pm, hp, hnx, hkp)
          else
            ((s_Hist_remember F hp hnx hkp pxs pys plo phi pn pm)).bind fun v12 =>
            if (bI (s_Input_isSegment isg a0)) = 0 then
              some (true, (s_Plan_appendPoint pxs pys pn (s_Input_firstOf ifs a0) (s_Input_secondOf isc a0)).1, (s_Plan_appendPoint pxs pys pn (s_Input_firstOf ifs a0) (s_Input_secondOf isc a0)).2.1, plo, phi, (s_Plan_appendPoint pxs pys pn (s_Input_firstOf ifs a0) (s_Input_secondOf isc a0)).2.2, pm, v12.1, v12.2.1, v12.2.2)
            else
              some (true, pxs, pys, (s_Plan_appendConstraint plo phi pm (s_Input_firstOf ifs a0) (s_Input_secondOf isc a0)).1, (s_Plan_appendConstraint plo phi pm (s_Input_firstOf ifs a0) (s_Input_secondOf isc a0)).2.1, pn, (s_Plan_appendConstraint plo phi pm (s_Input_firstOf ifs a0) (s_Input_secondOf isc a0)).2.2, v12.1, v12.2.1, v12.2.2)
        else
          ((s_Plan_admitsPoint F pxs pys plo phi pn pm (s_Input_firstOf ifs a0) (s_Input_secondOf isc a0))).bind fun v14 =>
          if (bI v14) = 0 then
            if (0 : Int32) = 0 then
              some (false, pxs, pys, plo, phi, pn, pm, hp, hnx, hkp)
            else
              ((s_Hist_remember F hp hnx hkp pxs pys plo phi pn pm)).bind fun v17 =>
              if (bI (s_Input_isSegment isg a0)) = 0 then
                some (true, (s_Plan_appendPoint pxs pys pn (s_Input_firstOf ifs a0) (s_Input_secondOf isc a0)).1, (s_Plan_appendPoint pxs pys pn (s_Input_firstOf ifs a0) (s_Input_secondOf isc a0)).2.1, plo, phi, (s_Plan_appendPoint pxs pys pn (s_Input_firstOf ifs a0) (s_Input_secondOf isc a0)).2.2, pm, v17.1, v17.2.1, v17.2.2)
              else
                some (true, pxs, pys, (s_Plan_appendConstraint plo phi pm (s_Input_firstOf ifs a0) (s_Input_secondOf isc a0)).1, (s_Plan_appendConstraint plo phi pm (s_Input_firstOf ifs a0) (s_Input_secondOf isc a0)).2.1, pn, (s_Plan_appendConstraint plo phi pm (s_Input_firstOf ifs a0) (s_Input_secondOf isc a0)).2.2, v17.1, v17.2.1, v17.2.2)
          else
            if (1 : Int32) = 0 then
              some (false, pxs, pys, plo, phi, pn, pm, hp, hnx, hkp)
            else
              ((s_Hist_remember F hp hnx hkp pxs pys plo phi pn pm)).bind fun v20 =>
              if (bI (s_Input_isSegment isg a0)) = 0 then
                some (true, (s_Plan_appendPoint pxs pys pn (s_Input_firstOf ifs a0) (s_Input_secondOf isc a0)).1, (s_Plan_appendPoint pxs pys pn (s_Input_firstOf ifs a0) (s_Input_secondOf isc a0)).2.1, plo, phi, (s_Plan_appendPoint pxs pys pn (s_Input_firstOf ifs a0) (s_Input_secondOf isc a0)).2.2, pm, v20.1, v20.2.1, v20.2.2)
              else
                some (true, pxs, pys, (s_Plan_appendConstraint plo phi pm (s_Input_firstOf ifs a0) (s_Input_secondOf isc a0)).1, (s_Plan_appendConstraint plo phi pm (s_Input_firstOf ifs a0) (s_Input_secondOf isc a0)).2.1, pn, (s_Plan_appendConstraint plo phi pm (s_Input_firstOf ifs a0) (s_Input_secondOf isc a0)).2.2, v20.1, v20.2.1, v20.2.2)
  else
    if (bI (s_Plan_hasPoint pn (s_Input_firstOf ifs a0))) = 0 then
      if (0 : Int32) = 0 then
        some (false, pxs, pys, plo, phi, pn, pm, hp, hnx, hkp)
      else
        ((s_Hist_remember F hp hnx hkp pxs pys plo phi pn pm)).bind fun v24 =>
        if (bI (s_Input_isSegment isg a0)) = 0 then
          some (true, (s_Plan_appendPoint pxs pys pn (s_Input_firstOf ifs a0) (s_Input_secondOf isc a0)).1, (s_Plan_appendPoint pxs pys pn (s_Input_firstOf ifs a0) (s_Input_secondOf isc a0)).2.1, plo, phi, (s_Plan_appendPoint pxs pys pn (s_Input_firstOf ifs a0) (s_Input_secondOf isc a0)).2.2, pm, v24.1, v24.2.1, v24.2.2)
        else
          some (true, pxs, pys, (s_Plan_appendConstraint plo phi pm (s_Input_firstOf ifs a0) (s_Input_secondOf isc a0)).1, (s_Plan_appendConstraint plo phi pm (s_Input_firstOf ifs a0) (s_Input_secondOf isc a0)).2.1, pn, (s_Plan_appendConstraint plo phi pm (s_Input_firstOf ifs a0) (s_Input_secondOf isc a0)).2.2, v24.1, v24.2.1, v24.2.2)
    else
      if (bI (s_Plan_hasPoint pn (s_Input_secondOf isc a0))) = 0 then
        if (0 : Int32) = 0 then
          some (false, pxs, pys, plo, phi, pn, pm, hp, hnx, hkp)
        else
          ((s_Hist_remember F hp hnx hkp pxs pys plo phi pn pm)).bind fun v28 =>
          if (bI (s_Input_isSegment isg a0)) = 0 then
            some (true, (s_Plan_appendPoint pxs pys pn (s_Input_firstOf ifs a0) (s_Input_secondOf isc a0)).1, (s_Plan_appendPoint pxs pys pn (s_Input_firstOf ifs a0) (s_Input_secondOf isc a0)).2.1, plo, phi, (s_Plan_appendPoint pxs pys pn (s_Input_firstOf ifs a0) (s_Input_secondOf isc a0)).2.2, pm, v28.1, v28.2.1, v28.2.2)
          else
            some (true, pxs, pys, (s_Plan_appendConstraint plo phi pm (s_Input_firstOf ifs a0) (s_Input_secondOf isc a0)).1, (s_Plan_appendConstraint plo phi pm (s_Input_firstOf ifs a0) (s_Input_secondOf isc a0)).2.1, pn, (s_Plan_appendConstraint plo phi pm (s_Input_firstOf ifs a0) (s_Input_secondOf isc a0)).2.2, v28.1, v28.2.1, v28.2.2)
      else
        if (s_Input_firstOf ifs a0) = (s_Input_secondOf isc a0) then
          if (0 : Int32) = 0 then
            some (false, pxs, pys, plo, phi, pn, pm, hp, hnx, hkp)
          else
            ((s_Hist_remember F hp hnx hkp pxs pys plo phi pn pm)).bind fun v32 =>
            if (bI (s_Input_isSegment isg a0)) = 0 then
              some (true, (s_Plan_appendPoint pxs pys pn (s_Input_firstOf ifs a0) (s_Input_secondOf isc a0)).1, (s_Plan_appendPoint pxs pys pn (s_Input_firstOf ifs a0) (s_Input_secondOf isc a0)).2.1, plo, phi, (s_Plan_appendPoint pxs pys pn (s_Input_firstOf ifs a0) (s_Input_secondOf isc a0)).2.2, pm, v32.1, v32.2.1, v32.2.2)
            else
              some (true, pxs, pys, (s_Plan_appendConstraint plo phi pm (s_Input_firstOf ifs a0) (s_Input_secondOf isc a0)).1, (s_Plan_appendConstraint plo phi pm (s_Input_firstOf ifs a0) (s_Input_secondOf isc a0)).2.1, pn, (s_Plan_appendConstraint plo phi pm (s_Input_firstOf ifs a0) (s_Input_secondOf isc a0)).2.2, v32.1, v32.2.1, v32.2.2)
        else
          if (10 : Int32) ≤ (s_Plan_constraints pm) then
            if (0 : Int32) = 0 then
              some (false, pxs, pys, plo, phi, pn, pm, hp, hnx, hkp)
            else
              ((s_Hist_remember F hp hnx hkp pxs pys plo phi pn pm)).bind fun v36 =>
              if (bI (s_Input_isSegment isg a0)) = 0 then
                some (true, (s_Plan_appendPoint pxs pys pn (s_Input_firstOf ifs a0) (s_Input_secondOf isc a0)).1, (s_Plan_appendPoint pxs pys pn (s_Input_firstOf ifs a0) (s_Input_secondOf isc a0)).2.1, plo, phi, (s_Plan_appendPoint pxs pys pn (s_Input_firstOf ifs a0) (s_Input_secondOf isc a0)).2.2, pm, v36.1, v36.2.1, v36.2.2)
              else
                some (true, pxs, pys, (s_Plan_appendConstraint plo phi pm (s_Input_firstOf ifs a0) (s_Input_secondOf isc a0)).1, (s_Plan_appendConstraint plo phi pm (s_Input_firstOf ifs a0) (s_Input_secondOf isc a0)).2.1, pn, (s_Plan_appendConstraint plo phi pm (s_Input_firstOf ifs a0) (s_Input_secondOf isc a0)).2.2, v36.1, v36.2.1, v36.2.2)
          else
            ((s_Plan_admitsSegment F pxs pys plo phi pn pm (s_Input_firstOf ifs a0) (s_Input_secondOf isc a0))).bind fun v38 =>
            if (bI v38) = 0 then
              if (0 : Int32) = 0 then
                some (false, pxs, pys, plo, phi, pn, pm, hp, hnx, hkp)
              else
                ((s_Hist_remember F hp hnx hkp pxs pys plo phi pn pm)).bind fun v41 =>
                if (bI (s_Input_isSegment isg a0)) = 0 then
                  some (true, (s_Plan_appendPoint pxs pys pn (s_Input_firstOf ifs a0) (s_Input_secondOf isc a0)).1, (s_Plan_appendPoint pxs pys pn (s_Input_firstOf ifs a0) (s_Input_secondOf isc a0)).2.1, plo, phi, (s_Plan_appendPoint pxs pys pn (s_Input_firstOf ifs a0) (s_Input_secondOf isc a0)).2.2, pm, v41.1, v41.2.1, v41.2.2)
                else
                  some (true, pxs, pys, (s_Plan_appendConstraint plo phi pm (s_Input_firstOf ifs a0) (s_Input_secondOf isc a0)).1, (s_Plan_appendConstraint plo phi pm (s_Input_firstOf ifs a0) (s_Input_secondOf isc a0)).2.1, pn, (s_Plan_appendConstraint plo phi pm (s_Input_firstOf ifs a0) (s_Input_secondOf isc a0)).2.2, v41.1, v41.2.1, v41.2.2)
            else
              if (1 : Int32) = 0 then
                some (false, pxs, pys, plo, phi, pn, pm, hp, hnx, hkp)
              else
                ((s_Hist_remember F hp hnx hkp pxs pys plo phi pn pm)).bind fun v44 =>
                if (bI (s_Input_isSegment isg a0)) = 0 then
                  some (true, (s_Plan_appendPoint pxs pys pn (s_Input_firstOf ifs a0) (s_Input_secondOf isc a0)).1, (s_Plan_appendPoint pxs pys pn (s_Input_firstOf ifs a0) (s_Input_secondOf isc a0)).2.1, plo, phi, (s_Plan_appendPoint pxs pys pn (s_Input_firstOf ifs a0) (s_Input_secondOf isc a0)).2.2, pm, v44.1, v44.2.1, v44.2.2)
                else
                  some (true, pxs, pys, (s_Plan_appendConstraint plo phi pm (s_Input_firstOf ifs a0) (s_Input_secondOf isc a0)).1, (s_Plan_appendConstraint plo phi pm (s_Input_firstOf ifs a0) (s_Input_secondOf isc a0)).2.1, pn, (s_Plan_appendConstraint plo phi pm (s_Input_firstOf ifs a0) (s_Input_secondOf isc a0)).2.2, v44.1, v44.2.1, v44.2.2)
def s_Top_readInput_L10 (F : Nat) (ifs : Nat → Int32) (isc : Nat → Int32) (isg : Nat → Int32) (ien : Int32) (x1 : Int32) : Nat → Int32 → (Nat → Int32) → (Nat → Int32) → (Nat → Int32) → (Nat → Int32) → Int32 → Int32 → (Nat → PlanS) → Int32 → Int32 → Option (Int32 × (Nat → Int32) × (Nat → Int32) × (Nat → Int32) × (Nat → Int32) × Int32 × Int32 × (Nat → PlanS) × Int32 × Int32)
  | 0, _, _, _, _, _, _, _, _, _, _ => none
  | n + 1, x2, pxs, pys, plo, phi, pn, pm, hp, hnx, hkp =>
    if x1 = (-1 : Int32) then
      if (s_Input_entries ien) ≤ x2 then
        some (x2, pxs, pys, plo, phi, pn, pm, hp, hnx, hkp)
      else
        ((s_Top_addEntry F pxs pys plo phi pn pm ifs isc isg hp hnx hkp x2)).bind fun v4 =>
        if (bI v4.1) = 0 then
          some (x2, v4.2.1, v4.2.2.1, v4.2.2.2.1, v4.2.2.2.2.1, v4.2.2.2.2.2.1, v4.2.2.2.2.2.2.1, v4.2.2.2.2.2.2.2.1, v4.2.2.2.2.2.2.2.2.1, v4.2.2.2.2.2.2.2.2.2)
        else
          s_Top_readInput_L10 F ifs isc isg ien x1 n (x2 + (1 : Int32)) v4.2.1 v4.2.2.1 v4.2.2.2.1 v4.2.2.2.2.1 v4.2.2.2.2.2.1 v4.2.2.2.2.2.2.1 v4.2.2.2.2.2.2.2.1 v4.2.2.2.2.2.2.2.2.1 v4.2.2.2.2.2.2.2.2.2
    else
      some (x2, pxs, pys, plo, phi, pn, pm, hp, hnx, hkp)
def s_Top_readInput (F : Nat) (pxs : Nat → Int32) (pys : Nat → Int32) (plo : Nat → Int32) (phi : Nat → Int32) (pn : Int32) (pm : Int32) (lf : Nat → Int32) (th : Nat → Int32) (ow : Nat → Int32) (lk : Nat → Int32) (el : Nat → Int32) (eh : Nat → Int32) (co : Nat → Int32) (hu : Nat → Int32) (ich : Nat → Int32) (ifs : Nat → Int32) (isc : Nat → Int32) (isg : Nat → Int32) (iln : Int32) (hp : Nat → PlanS) (hnx : Int32) (hkp : Int32) : Option (Int32 × (Nat → Int32) × (Nat → Int32) × (Nat → Int32) × (Nat → Int32) × Int32 × Int32 × (Nat → Int32) × (Nat → Int32) × (Nat → Int32) × (Nat → Int32) × (Nat → Int32) × (Nat → Int32) × (Nat → Int32) × (Nat → Int32) × Int32 × Int32 × Int32 × (Nat → Int32) × (Nat → Int32) × (Nat → Int32) × Int32 × Int32 × Bool × Int32 × Int32 × (Nat → PlanS) × Int32 × Int32) :=
  ((s_Input_parse F ich ifs isc isg iln)).bind fun v1 =>
  (s_Top_readInput_L10 F v1.2.1 v1.2.2.1 v1.2.2.2.1 v1.2.2.2.2.1 v1.1 F (0 : Int32) pxs pys plo phi pn pm hp hnx hkp).bind fun o6x =>
  ((s_Mesh_draw F o6x.2.1 o6x.2.2.1 o6x.2.2.2.1 o6x.2.2.2.2.1 o6x.2.2.2.2.2.1 o6x.2.2.2.2.2.2.1 lf th ow lk el eh co hu)).bind fun v7 =>
  if v1.1 = (-1 : Int32) then
    some (o6x.1, o6x.2.1, o6x.2.2.1, o6x.2.2.2.1, o6x.2.2.2.2.1, o6x.2.2.2.2.2.1, o6x.2.2.2.2.2.2.1, v7.1, v7.2.1, v7.2.2.1, v7.2.2.2.1, v7.2.2.2.2.1, v7.2.2.2.2.2.1, v7.2.2.2.2.2.2.1, v7.2.2.2.2.2.2.2.1, v7.2.2.2.2.2.2.2.2.1, v7.2.2.2.2.2.2.2.2.2.1, v7.2.2.2.2.2.2.2.2.2.2, v1.2.1, v1.2.2.1, v1.2.2.2.1, (s_Input_clear).1, (s_Input_clear).2, v1.2.2.2.2.2.1, v1.2.2.2.2.2.2.1, v1.2.2.2.2.2.2.2, o6x.2.2.2.2.2.2.2.1, o6x.2.2.2.2.2.2.2.2.1, o6x.2.2.2.2.2.2.2.2.2)
  else
    some (((-100 : Int32) - v1.1), o6x.2.1, o6x.2.2.1, o6x.2.2.2.1, o6x.2.2.2.2.1, o6x.2.2.2.2.2.1, o6x.2.2.2.2.2.2.1, v7.1, v7.2.1, v7.2.2.1, v7.2.2.2.1, v7.2.2.2.2.1, v7.2.2.2.2.2.1, v7.2.2.2.2.2.2.1, v7.2.2.2.2.2.2.2.1, v7.2.2.2.2.2.2.2.2.1, v7.2.2.2.2.2.2.2.2.2.1, v7.2.2.2.2.2.2.2.2.2.2, v1.2.1, v1.2.2.1, v1.2.2.2.1, (s_Input_clear).1, (s_Input_clear).2, v1.2.2.2.2.2.1, v1.2.2.2.2.2.2.1, v1.2.2.2.2.2.2.2, o6x.2.2.2.2.2.2.2.1, o6x.2.2.2.2.2.2.2.2.1, o6x.2.2.2.2.2.2.2.2.2)
def s_Top_triangleCount (nt : Int32) : Int32 :=
  (s_Mesh_triangles nt)
def s_Top_requireTriangle (nt : Int32) (a0 : Int32) : String ⊕ Unit :=
  if a0 < 0 then
    .inl "java/lang/IndexOutOfBoundsException"
  else
    if a0 < (s_Mesh_triangles nt) then
      .inr ()
    else
      .inl "java/lang/IndexOutOfBoundsException"
def s_Top_requireCorner (a0 : Int32) : String ⊕ Unit :=
  if a0 < 0 then
    .inl "java/lang/IllegalArgumentException"
  else
    if a0 ≤ (2 : Int32) then
      .inr ()
    else
      .inl "java/lang/IllegalArgumentException"
def s_Top_corner (co : Nat → Int32) (nt : Int32) (a0 : Int32) (a1 : Int32) : String ⊕ Int32 :=
  Sum.elim (fun E => .inl E) (fun _ =>
    Sum.elim (fun E => .inl E) (fun _ =>
      .inr (s_Mesh_cornerOf co a0 a1)) (s_Top_requireCorner a1)) (s_Top_requireTriangle nt a0)
def s_Top_beyond (ow : Nat → Int32) (co : Nat → Int32) (nt : Int32) (a0 : Int32) (a1 : Int32) : String ⊕ Int32 :=
  Sum.elim (fun E => .inl E) (fun _ =>
    Sum.elim (fun E => .inl E) (fun _ =>
      .inr (s_Mesh_triangleAcross ow co a0 a1)) (s_Top_requireCorner a1)) (s_Top_requireTriangle nt a0)
def s_Top_edgeCount (ne : Int32) : Int32 :=
  (s_Mesh_edges ne)
def s_Top_requireEdge (ne : Int32) (a0 : Int32) : String ⊕ Unit :=
  if a0 < 0 then
    .inl "java/lang/IndexOutOfBoundsException"
  else
    if a0 < (s_Mesh_edges ne) then
      .inr ()
    else
      .inl "java/lang/IndexOutOfBoundsException"
def s_Top_edgeEnd (el : Nat → Int32) (eh : Nat → Int32) (ne : Int32) (a0 : Int32) (a1 : Int32) : String ⊕ Int32 :=
  Sum.elim (fun E => .inl E) (fun _ =>
    Sum.elim (fun E => .inl E) (fun _ =>
      if a1 = 0 then
        .inr (s_Mesh_lowEnd el a0)
      else
        .inr (s_Mesh_highEnd eh a0)) (s_Top_requireBit a1)) (s_Top_requireEdge ne a0)
def s_Top_edgeBetween (F : Nat) (pn : Int32) (el : Nat → Int32) (eh : Nat → Int32) (ne : Int32) (a0 : Int32) (a1 : Int32) : Option (String ⊕ Int32) :=
  Sum.elim (fun E => some (.inl E)) (fun _ =>
    Sum.elim (fun E => some (.inl E)) (fun _ =>
      ((s_Mesh_edgeOf F el eh ne a0 a1)).bind fun v1 =>
      if v1 = (-1 : Int32) then
        some (.inl "java/util/NoSuchElementException")
      else
        some (.inr v1)) (s_Top_requirePoint pn a1)) (s_Top_requirePoint pn a0)
def s_Top_degree (pn : Int32) (lk : Nat → Int32) (a0 : Int32) : String ⊕ Int32 :=
  Sum.elim (fun E => .inl E) (fun _ =>
    .inr (s_Mesh_degreeOf lk a0)) (s_Top_requirePoint pn a0)
def s_Top_neighbour (F : Nat) (pn : Int32) (lk : Nat → Int32) (a0 : Int32) (a1 : Int32) : Option (String ⊕ Int32) :=
  Sum.elim (fun E => some (.inl E)) (fun _ =>
    if a1 < 0 then
      some (.inl "java/util/NoSuchElementException")
    else
      if a1 < (s_Mesh_degreeOf lk a0) then
        ((s_Mesh_neighbourOf F pn lk a0 a1)).bind fun v3 =>
        some (.inr v3)
      else
        some (.inl "java/util/NoSuchElementException")) (s_Top_requirePoint pn a0)
def s_Top_hullSize (nh : Int32) : Int32 :=
  (s_Mesh_hullPoints nh)
def s_Top_hullPoint (hu : Nat → Int32) (nh : Int32) (a0 : Int32) : String ⊕ Int32 :=
  if a0 < 0 then
    .inl "java/lang/IndexOutOfBoundsException"
  else
    if a0 < (s_Mesh_hullPoints nh) then
      .inr (s_Mesh_hullPointAt hu a0)
    else
      .inl "java/lang/IndexOutOfBoundsException"
def s_Top_twiceArea (pxs : Nat → Int32) (pys : Nat → Int32) (co : Nat → Int32) (nt : Int32) (a0 : Int32) : String ⊕ Int32 :=
  Sum.elim (fun E => .inl E) (fun _ =>
    .inr (s_Mesh_areaOf pxs pys co a0)) (s_Top_requireTriangle nt a0)
def s_Top_areaShare (F : Nat) (pxs : Nat → Int32) (pys : Nat → Int32) (co : Nat → Int32) (nt : Int32) (a0 : Int32) : Option (String ⊕ UInt64) :=
  Sum.elim (fun E => some (.inl E)) (fun _ =>
    ((s_Mesh_hullArea F pxs pys co nt)).bind fun v1 =>
    if v1 = 0 then
      some (.inr (0 : UInt64))
    else
      (ddivO (FP.i2d (s_Mesh_areaOf pxs pys co a0)) (FP.i2d v1)).bind fun v3 =>
      some (.inr v3)) (s_Top_requireTriangle nt a0)
def s_Top_meanDegree (pn : Int32) (ne : Int32) : Option (String ⊕ UInt64) :=
  if (s_Plan_points pn) = 0 then
    some (.inl "java/util/NoSuchElementException")
  else
    (ddivO (FP.i2d ((2 : Int32) * (s_Mesh_edges ne))) (FP.i2d (s_Plan_points pn))).bind fun v2 =>
    some (.inr v2)
def s_Top_squaredLength (F : Nat) (pxs : Nat → Int32) (pys : Nat → Int32) (pn : Int32) (el : Nat → Int32) (eh : Nat → Int32) (ne : Int32) (a0 : Int32) : Option (String ⊕ Int32) :=
  if a0 < 0 then
    some (.inl "java/lang/IllegalArgumentException")
  else
    if a0 ≤ (2 : Int32) then
      if (s_Mesh_edges ne) = 0 then
        some (.inl "java/util/NoSuchElementException")
      else
        if a0 = 0 then
          ((s_Mesh_leastLength F pxs pys el eh ne)).bind fun v8 =>
          some (.inr v8)
        else
          if a0 = (1 : Int32) then
            ((s_Mesh_greatestLength F pxs pys el eh ne)).bind fun v7 =>
            some (.inr v7)
          else
            ((s_Mesh_leastTree F pxs pys pn el eh ne)).bind fun v6 =>
            some (.inr v6)
    else
      some (.inl "java/lang/IllegalArgumentException")
def s_Top_turn (pxs : Nat → Int32) (pys : Nat → Int32) (pn : Int32) (a0 : Int32) (a1 : Int32) (a2 : Int32) : String ⊕ Int32 :=
  Sum.elim (fun E => .inl E) (fun _ =>
    Sum.elim (fun E => .inl E) (fun _ =>
      Sum.elim (fun E => .inl E) (fun _ =>
        .inr (s_Plan_side pxs pys a0 a1 a2)) (s_Top_requirePoint pn a2)) (s_Top_requirePoint pn a1)) (s_Top_requirePoint pn a0)
def s_Top_inCircle (pxs : Nat → Int32) (pys : Nat → Int32) (pn : Int32) (a0 : Int32) (a1 : Int32) (a2 : Int32) (a3 : Int32) : String ⊕ Int32 :=
  Sum.elim (fun E => .inl E) (fun _ =>
    Sum.elim (fun E => .inl E) (fun _ =>
      Sum.elim (fun E => .inl E) (fun _ =>
        Sum.elim (fun E => .inl E) (fun _ =>
          if (s_Plan_side pxs pys a0 a1 a2) = 0 then
            .inl "java/lang/ArithmeticException"
          else
            .inr (s_Plan_circleSide pxs pys a0 a1 a2 a3)) (s_Top_requirePoint pn a3)) (s_Top_requirePoint pn a2)) (s_Top_requirePoint pn a1)) (s_Top_requirePoint pn a0)
def s_Top_isGood (pxs : Nat → Int32) (pys : Nat → Int32) (th : Nat → Int32) (el : Nat → Int32) (eh : Nat → Int32) (ne : Int32) (a0 : Int32) : String ⊕ Bool :=
  Sum.elim (fun E => .inl E) (fun _ =>
    if (bI (s_Mesh_isInner th (s_Mesh_lowEnd el a0) (s_Mesh_highEnd eh a0))) = 0 then
      .inl "java/lang/UnsupportedOperationException"
    else
      .inr (s_Mesh_passesCircle pxs pys th (s_Mesh_lowEnd el a0) (s_Mesh_highEnd eh a0))) (s_Top_requireEdge ne a0)
def s_Top_forcedConstraints_L4 (pxs : Nat → Int32) (pys : Nat → Int32) (plo : Nat → Int32) (phi : Nat → Int32) (pm : Int32) (th : Nat → Int32) : Nat → Int32 → Int32 → Option (Int32 × Int32)
  | 0, _, _ => none
  | n + 1, x1, x2 =>
    if (s_Plan_constraints pm) ≤ x2 then
      some (x1, x2)
    else
      if (bI (s_Mesh_isInner th (s_Plan_lowEnd plo x2) (s_Plan_highEnd phi x2))) = 0 then
        s_Top_forcedConstraints_L4 pxs pys plo phi pm th n x1 (x2 + (1 : Int32))
      else
        if (bI (s_Mesh_passesCircle pxs pys th (s_Plan_lowEnd plo x2) (s_Plan_highEnd phi x2))) = 0 then
          s_Top_forcedConstraints_L4 pxs pys plo phi pm th n (x1 + (1 : Int32)) (x2 + (1 : Int32))
        else
          s_Top_forcedConstraints_L4 pxs pys plo phi pm th n x1 (x2 + (1 : Int32))
def s_Top_forcedConstraints (F : Nat) (pxs : Nat → Int32) (pys : Nat → Int32) (plo : Nat → Int32) (phi : Nat → Int32) (pm : Int32) (th : Nat → Int32) : Option (Int32) :=
  (s_Top_forcedConstraints_L4 pxs pys plo phi pm th F (0 : Int32) (0 : Int32)).bind fun o4x =>
  some o4x.1
def s_Top_kindOf (F : Nat) (pxs : Nat → Int32) (pys : Nat → Int32) (pn : Int32) (el : Nat → Int32) (eh : Nat → Int32) (co : Nat → Int32) (ne : Int32) (nt : Int32) (a0 : Int32) (a1 : Int32) : Option (Int32) :=
  ((s_Plan_pointAt F pxs pys pn a0 a1)).bind fun v1 =>
  if v1 = (-1 : Int32) then
    ((s_Mesh_edgeAt F pxs pys el eh ne a0 a1)).bind fun v3 =>
    if v3 = (-1 : Int32) then
      ((s_Mesh_triangleAt F pxs pys co nt a0 a1)).bind fun v5 =>
      if v5 = (-1 : Int32) then
        some (0 : Int32)
      else
        some (3 : Int32)
    else
      some (2 : Int32)
  else
    some (1 : Int32)
def s_Top_kindAt (F : Nat) (pxs : Nat → Int32) (pys : Nat → Int32) (pn : Int32) (el : Nat → Int32) (eh : Nat → Int32) (co : Nat → Int32) (ne : Int32) (nt : Int32) (a0 : Int32) (a1 : Int32) : Option (String ⊕ Int32) :=
  Sum.elim (fun E => some (.inl E)) (fun _ =>
    ((s_Top_kindOf F pxs pys pn el eh co ne nt a0 a1)).bind fun v1 =>
    some (.inr v1)) (s_Top_requirePosition a0 a1)
def s_Top_numberAt (F : Nat) (pxs : Nat → Int32) (pys : Nat → Int32) (pn : Int32) (el : Nat → Int32) (eh : Nat → Int32) (co : Nat → Int32) (ne : Int32) (nt : Int32) (a0 : Int32) (a1 : Int32) : Option (String ⊕ Int32) :=
  Sum.elim (fun E => some (.inl E)) (fun _ =>
    ((s_Top_kindOf F pxs pys pn el eh co ne nt a0 a1)).bind fun v1 =>
    if v1 = (1 : Int32) then
      ((s_Plan_pointAt F pxs pys pn a0 a1)).bind fun v3 =>
      some (.inr v3)
    else
    if v1 = (2 : Int32) then
      ((s_Mesh_edgeAt F pxs pys el eh ne a0 a1)).bind fun v5 =>
      some (.inr v5)
    else
    if v1 = (3 : Int32) then
      ((s_Mesh_triangleAt F pxs pys co nt a0 a1)).bind fun v7 =>
      some (.inr v7)
    else
      some (.inl "java/util/NoSuchElementException")) (s_Top_requirePosition a0 a1)
def s_Top_walk_L30 (F : Nat) (pxs : Nat → Int32) (pys : Nat → Int32) (ow : Nat → Int32) (co : Nat → Int32) (x2 : Int32) (x3 : Int32) : Nat → Int32 → Int32 → Int32 → Option (Int32 × Int32 × Int32)
  | 0, _, _, _ => none
  | n + 1, x5, x6, x7 =>
    if (50 : Int32) ≤ x6 then
      some (x5, x6, x7)
    else
      if x7 = (-1 : Int32) then
        some (x5, x6, x7)
      else
        if (s_Mesh_triangleAcross ow co x5 x7) = (-1 : Int32) then
          some (x5, x6, x7)
        else
          ((s_Mesh_exitTowards F pxs pys co (s_Mesh_triangleAcross ow co x5 x7) x2 x3)).bind fun v5 =>
          s_Top_walk_L30 F pxs pys ow co x2 x3 n (s_Mesh_triangleAcross ow co x5 x7) (x6 + (1 : Int32)) v5
def s_Top_walk (F : Nat) (pxs : Nat → Int32) (pys : Nat → Int32) (ow : Nat → Int32) (co : Nat → Int32) (nt : Int32) (a0 : Int32) (a1 : Int32) (a2 : Int32) (a3 : Bool) : Option (String ⊕ Int32) :=
  Sum.elim (fun E => some (.inl E)) (fun _ =>
    Sum.elim (fun E => some (.inl E)) (fun _ =>
      ((s_Mesh_exitTowards F pxs pys co a0 a1 a2)).bind fun v1 =>
      (s_Top_walk_L30 F pxs pys ow co a1 a2 F a0 (0 : Int32) v1).bind fun o6x =>
      if (bI a3) = 0 then
        some (.inr o6x.2.1)
      else
        if o6x.2.2 = (-1 : Int32) then
          some (.inr o6x.1)
        else
          some (.inr (-1 : Int32))) (s_Top_requirePosition a1 a2)) (s_Top_requireTriangle nt a0)
def s_Top_cavity_L44 (co : Nat → Int32) (nt : Int32) (tth : Nat → Int32) : Nat → Int32 → Int32 → Option (Int32 × Int32)
  | 0, _, _ => none
  | n + 1, x3, x4 =>
    if (s_Mesh_triangles nt) ≤ x4 then
      some (x3, x4)
    else
      if (bI (s_Mesh_hasTriangle tth (s_Mesh_cornerOf co x4 (0 : Int32)) (s_Mesh_cornerOf co x4 (1 : Int32)) (s_Mesh_cornerOf co x4 (2 : Int32)))) = 0 then
        s_Top_cavity_L44 co nt tth n (x3 + (1 : Int32)) (x4 + (1 : Int32))
      else
        s_Top_cavity_L44 co nt tth n x3 (x4 + (1 : Int32))
def s_Top_cavity (F : Nat) (pxs : Nat → Int32) (pys : Nat → Int32) (plo : Nat → Int32) (phi : Nat → Int32) (pn : Int32) (pm : Int32) (co : Nat → Int32) (nt : Int32) (tpxs : Nat → Int32) (tpys : Nat → Int32) (tplo : Nat → Int32) (tphi : Nat → Int32) (tlf : Nat → Int32) (tth : Nat → Int32) (tow : Nat → Int32) (tlk : Nat → Int32) (tel : Nat → Int32) (teh : Nat → Int32) (tco : Nat → Int32) (thu : Nat → Int32) (a0 : Int32) (a1 : Int32) : Option (String ⊕ (Int32 × (Nat → Int32) × (Nat → Int32) × (Nat → Int32) × (Nat → Int32) × Int32 × Int32 × (Nat → Int32) × (Nat → Int32) × (Nat → Int32) × (Nat → Int32) × (Nat → Int32) × (Nat → Int32) × (Nat → Int32) × (Nat → Int32) × Int32 × Int32 × Int32)) :=
  Sum.elim (fun E => some (.inl E)) (fun _ =>
    ((s_Top_requireNewPoint F pxs pys plo phi pn pm a0 a1)).bind fun v1 =>
    Sum.elim (fun E => some (.inl E)) (fun _ =>
      ((s_Plan_copyFrom F tpxs tpys tplo tphi pxs pys plo phi pn pm)).bind fun v2 =>
      ((s_Mesh_draw F ((s_Plan_appendPoint v2.1 v2.2.1 v2.2.2.2.2.1 a0 a1).1) ((s_Plan_appendPoint v2.1 v2.2.1 v2.2.2.2.2.1 a0 a1).2.1) v2.2.2.1 v2.2.2.2.1 ((s_Plan_appendPoint v2.1 v2.2.1 v2.2.2.2.2.1 a0 a1).2.2) v2.2.2.2.2.2 tlf tth tow tlk tel teh tco thu)).bind fun v3 =>
      (s_Top_cavity_L44 co nt v3.2.1 F (0 : Int32) (0 : Int32)).bind fun o6x =>
      some (.inr (o6x.1, (s_Plan_appendPoint v2.1 v2.2.1 v2.2.2.2.2.1 a0 a1).1, (s_Plan_appendPoint v2.1 v2.2.1 v2.2.2.2.2.1 a0 a1).2.1, v2.2.2.1, v2.2.2.2.1, (s_Plan_appendPoint v2.1 v2.2.1 v2.2.2.2.2.1 a0 a1).2.2, v2.2.2.2.2.2, v3.1, v3.2.1, v3.2.2.1, v3.2.2.2.1, v3.2.2.2.2.1, v3.2.2.2.2.2.1, v3.2.2.2.2.2.2.1, v3.2.2.2.2.2.2.2.1, v3.2.2.2.2.2.2.2.2.1, v3.2.2.2.2.2.2.2.2.2.1, v3.2.2.2.2.2.2.2.2.2.2))) v1) (s_Top_requirePosition a0 a1)
def s_Top_numberBefore (a0 : Int32) (a1 : Int32) : Int32 :=
  if a1 ≤ a0 then
    (a0 + (1 : Int32))
  else
    a0
def s_Top_hole_L40 (th : Nat → Int32) (tco : Nat → Int32) (tnt : Int32) (x1 : Int32) : Nat → Int32 → Int32 → Option (Int32 × Int32)
  | 0, _, _ => none
  | n + 1, x2, x3 =>
    if (s_Mesh_triangles tnt) ≤ x3 then
      some (x2, x3)
    else
      if (bI (s_Mesh_hasTriangle th (s_Top_numberBefore (s_Mesh_cornerOf tco x3 (0 : Int32)) x1) (s_Top_numberBefore (s_Mesh_cornerOf tco x3 (1 : Int32)) x1) (s_Top_numberBefore (s_Mesh_cornerOf tco x3 (2 : Int32)) x1))) = 0 then
        s_Top_hole_L40 th tco tnt x1 n (x2 + (1 : Int32)) (x3 + (1 : Int32))
      else
        s_Top_hole_L40 th tco tnt x1 n x2 (x3 + (1 : Int32))
def s_Top_hole (F : Nat) (pxs : Nat → Int32) (pys : Nat → Int32) (plo : Nat → Int32) (phi : Nat → Int32) (pn : Int32) (pm : Int32) (th : Nat → Int32) (tpxs : Nat → Int32) (tpys : Nat → Int32) (tplo : Nat → Int32) (tphi : Nat → Int32) (tlf : Nat → Int32) (tth : Nat → Int32) (tow : Nat → Int32) (tlk : Nat → Int32) (tel : Nat → Int32) (teh : Nat → Int32) (tco : Nat → Int32) (thu : Nat → Int32) (a0 : Int32) : Option (String ⊕ (Int32 × (Nat → Int32) × (Nat → Int32) × (Nat → Int32) × (Nat → Int32) × Int32 × Int32 × (Nat → Int32) × (Nat → Int32) × (Nat → Int32) × (Nat → Int32) × (Nat → Int32) × (Nat → Int32) × (Nat → Int32) × (Nat → Int32) × Int32 × Int32 × Int32)) :=
  Sum.elim (fun E => some (.inl E)) (fun _ =>
    ((s_Top_requireLoosePoint F plo phi pm a0)).bind fun v1 =>
    Sum.elim (fun E => some (.inl E)) (fun _ =>
      ((s_Plan_copyFrom F tpxs tpys tplo tphi pxs pys plo phi pn pm)).bind fun v2 =>
      ((s_Plan_dropPoint F v2.1 v2.2.1 v2.2.2.1 v2.2.2.2.1 v2.2.2.2.2.1 v2.2.2.2.2.2 a0)).bind fun v3 =>
      ((s_Mesh_draw F v3.1 v3.2.1 v3.2.2.1 v3.2.2.2.1 v3.2.2.2.2 v2.2.2.2.2.2 tlf tth tow tlk tel teh tco thu)).bind fun v4 =>
      (s_Top_hole_L40 th v4.2.2.2.2.2.2.1 v4.2.2.2.2.2.2.2.2.2.1 a0 F (0 : Int32) (0 : Int32)).bind fun o7x =>
      some (.inr (o7x.1, v3.1, v3.2.1, v3.2.2.1, v3.2.2.2.1, v3.2.2.2.2, v2.2.2.2.2.2, v4.1, v4.2.1, v4.2.2.1, v4.2.2.2.1, v4.2.2.2.2.1, v4.2.2.2.2.2.1, v4.2.2.2.2.2.2.1, v4.2.2.2.2.2.2.2.1, v4.2.2.2.2.2.2.2.2.1, v4.2.2.2.2.2.2.2.2.2.1, v4.2.2.2.2.2.2.2.2.2.2))) v1) (s_Top_requirePoint pn a0)
def s_Top_crossings_L21 (pxs : Nat → Int32) (pys : Nat → Int32) (lf : Nat → Int32) (el : Nat → Int32) (eh : Nat → Int32) (ne : Int32) (x1 : Int32) (x2 : Int32) : Nat → Int32 → Int32 → Option (Int32 × Int32)
  | 0, _, _ => none
  | n + 1, x3, x4 =>
    if (s_Mesh_edges ne) ≤ x4 then
      some (x3, x4)
    else
      if (bI (s_Mesh_edgeMeets pxs pys lf el eh x4 x1 x2)) = 0 then
        s_Top_crossings_L21 pxs pys lf el eh ne x1 x2 n x3 (x4 + (1 : Int32))
      else
        s_Top_crossings_L21 pxs pys lf el eh ne x1 x2 n (x3 + (1 : Int32)) (x4 + (1 : Int32))
def s_Top_crossings (F : Nat) (pxs : Nat → Int32) (pys : Nat → Int32) (pn : Int32) (lf : Nat → Int32) (el : Nat → Int32) (eh : Nat → Int32) (ne : Int32) (a0 : Int32) (a1 : Int32) : Option (String ⊕ Int32) :=
  Sum.elim (fun E => some (.inl E)) (fun _ =>
    Sum.elim (fun E => some (.inl E)) (fun _ =>
      Sum.elim (fun E => some (.inl E)) (fun _ =>
        (s_Top_crossings_L21 pxs pys lf el eh ne a0 a1 F (0 : Int32) (0 : Int32)).bind fun o3x =>
        some (.inr o3x.1)) (s_Top_requireDifferent a0 a1)) (s_Top_requirePoint pn a1)) (s_Top_requirePoint pn a0)
def s_Top_effect_L35 (F : Nat) (el : Nat → Int32) (eh : Nat → Int32) (ne : Int32) (tel : Nat → Int32) (teh : Nat → Int32) (tne : Int32) : Nat → Int32 → Int32 → Option (Int32 × Int32)
  | 0, _, _ => none
  | n + 1, x2, x3 =>
    if (s_Mesh_edges ne) ≤ x3 then
      some (x2, x3)
    else
      ((s_Mesh_edgeOf F tel teh tne (s_Mesh_lowEnd el x3) (s_Mesh_highEnd eh x3))).bind fun v5 =>
      if v5 = (-1 : Int32) then
        s_Top_effect_L35 F el eh ne tel teh tne n (x2 + (1 : Int32)) (x3 + (1 : Int32))
      else
        s_Top_effect_L35 F el eh ne tel teh tne n x2 (x3 + (1 : Int32))
def s_Top_effect (F : Nat) (pxs : Nat → Int32) (pys : Nat → Int32) (plo : Nat → Int32) (phi : Nat → Int32) (pn : Int32) (pm : Int32) (el : Nat → Int32) (eh : Nat → Int32) (ne : Int32) (tpxs : Nat → Int32) (tpys : Nat → Int32) (tplo : Nat → Int32) (tphi : Nat → Int32) (tlf : Nat → Int32) (tth : Nat → Int32) (tow : Nat → Int32) (tlk : Nat → Int32) (tel : Nat → Int32) (teh : Nat → Int32) (tco : Nat → Int32) (thu : Nat → Int32) (a0 : Int32) : Option (String ⊕ (Int32 × (Nat → Int32) × (Nat → Int32) × (Nat → Int32) × (Nat → Int32) × Int32 × Int32 × (Nat → Int32) × (Nat → Int32) × (Nat → Int32) × (Nat → Int32) × (Nat → Int32) × (Nat → Int32) × (Nat → Int32) × (Nat → Int32) × Int32 × Int32 × Int32)) :=
  Sum.elim (fun E => some (.inl E)) (fun _ =>
    ((s_Plan_copyFrom F tpxs tpys tplo tphi pxs pys plo phi pn pm)).bind fun v1 =>
    ((s_Plan_dropConstraint F v1.2.2.1 v1.2.2.2.1 v1.2.2.2.2.2 a0)).bind fun v2 =>
    ((s_Mesh_draw F v1.1 v1.2.1 v2.1 v2.2.1 v1.2.2.2.2.1 v2.2.2 tlf tth tow tlk tel teh tco thu)).bind fun v3 =>
    (s_Top_effect_L35 F el eh ne v3.2.2.2.2.1 v3.2.2.2.2.2.1 v3.2.2.2.2.2.2.2.2.1 F (0 : Int32) (0 : Int32)).bind fun o7x =>
    some (.inr (o7x.1, v1.1, v1.2.1, v2.1, v2.2.1, v1.2.2.2.2.1, v2.2.2, v3.1, v3.2.1, v3.2.2.1, v3.2.2.2.1, v3.2.2.2.2.1, v3.2.2.2.2.2.1, v3.2.2.2.2.2.2.1, v3.2.2.2.2.2.2.2.1, v3.2.2.2.2.2.2.2.2.1, v3.2.2.2.2.2.2.2.2.2.1, v3.2.2.2.2.2.2.2.2.2.2))) (s_Top_requireConstraint pm a0)
def s_Hist_kept (hkp : Int32) : Int32 :=
  hkp
def s_Top_undo (F : Nat) (pxs : Nat → Int32) (pys : Nat → Int32) (plo : Nat → Int32) (phi : Nat → Int32) (pn : Int32) (pm : Int32) (lf : Nat → Int32) (th : Nat → Int32) (ow : Nat → Int32) (lk : Nat → Int32) (el : Nat → Int32) (eh : Nat → Int32) (co : Nat → Int32) (hu : Nat → Int32) (hp : Nat → PlanS) (hnx : Int32) (hkp : Int32) : Option (String ⊕ (Int32 × (Nat → Int32) × (Nat → Int32) × (Nat → Int32) × (Nat → Int32) × Int32 × Int32 × (Nat → Int32) × (Nat → Int32) × (Nat → Int32) × (Nat → Int32) × (Nat → Int32) × (Nat → Int32) × (Nat → Int32) × (Nat → Int32) × Int32 × Int32 × Int32 × Int32 × Int32)) :=
  if (s_Hist_kept hkp) = 0 then
    some (.inl "java/lang/IllegalStateException")
  else
    ((s_Hist_recallInto F hp hnx hkp pxs pys plo phi pn pm)).bind fun v2 =>
    ((s_Mesh_draw F v2.2.2.1 v2.2.2.2.1 v2.2.2.2.2.1 v2.2.2.2.2.2.1 v2.2.2.2.2.2.2.1 v2.2.2.2.2.2.2.2 lf th ow lk el eh co hu)).bind fun v3 =>
    some (.inr ((s_Hist_kept v2.2.1), v2.2.2.1, v2.2.2.2.1, v2.2.2.2.2.1, v2.2.2.2.2.2.1, v2.2.2.2.2.2.2.1, v2.2.2.2.2.2.2.2, v3.1, v3.2.1, v3.2.2.1, v3.2.2.2.1, v3.2.2.2.2.1, v3.2.2.2.2.2.1, v3.2.2.2.2.2.2.1, v3.2.2.2.2.2.2.2.1, v3.2.2.2.2.2.2.2.2.1, v3.2.2.2.2.2.2.2.2.2.1, v3.2.2.2.2.2.2.2.2.2.2, v2.1, v2.2.1))
def s_Top_save (F : Nat) (pxs : Nat → Int32) (pys : Nat → Int32) (plo : Nat → Int32) (phi : Nat → Int32) (pn : Int32) (pm : Int32) (spxs : Nat → Int32) (spys : Nat → Int32) (splo : Nat → Int32) (sphi : Nat → Int32) : Option (Int32 × (Nat → Int32) × (Nat → Int32) × (Nat → Int32) × (Nat → Int32) × Int32 × Int32 × Bool) :=
  ((s_Plan_copyFrom F spxs spys splo sphi pxs pys plo phi pn pm)).bind fun v1 =>
  some ((s_Plan_points pn), v1.1, v1.2.1, v1.2.2.1, v1.2.2.2.1, v1.2.2.2.2.1, v1.2.2.2.2.2, true)
def s_Hist_clear  : Int32 :=
  (0 : Int32)
def s_Top_restore (F : Nat) (pxs : Nat → Int32) (pys : Nat → Int32) (plo : Nat → Int32) (phi : Nat → Int32) (lf : Nat → Int32) (th : Nat → Int32) (ow : Nat → Int32) (lk : Nat → Int32) (el : Nat → Int32) (eh : Nat → Int32) (co : Nat → Int32) (hu : Nat → Int32) (spxs : Nat → Int32) (spys : Nat → Int32) (splo : Nat → Int32) (sphi : Nat → Int32) (spn : Int32) (spm : Int32) (hsv : Bool) : Option (String ⊕ (Int32 × (Nat → Int32) × (Nat → Int32) × (Nat → Int32) × (Nat → Int32) × Int32 × Int32 × (Nat → Int32) × (Nat → Int32) × (Nat → Int32) × (Nat → Int32) × (Nat → Int32) × (Nat → Int32) × (Nat → Int32) × (Nat → Int32) × Int32 × Int32 × Int32 × Int32)) :=
  if (bI hsv) = 0 then
    some (.inl "java/lang/IllegalStateException")
  else
    ((s_Plan_copyFrom F pxs pys plo phi spxs spys splo sphi spn spm)).bind fun v2 =>
    ((s_Mesh_draw F v2.1 v2.2.1 v2.2.2.1 v2.2.2.2.1 v2.2.2.2.2.1 v2.2.2.2.2.2 lf th ow lk el eh co hu)).bind fun v3 =>
    some (.inr ((s_Plan_points v2.2.2.2.2.1), v2.1, v2.2.1, v2.2.2.1, v2.2.2.2.1, v2.2.2.2.2.1, v2.2.2.2.2.2, v3.1, v3.2.1, v3.2.2.1, v3.2.2.2.1, v3.2.2.2.2.1, v3.2.2.2.2.2.1, v3.2.2.2.2.2.2.1, v3.2.2.2.2.2.2.2.1, v3.2.2.2.2.2.2.2.2.1, v3.2.2.2.2.2.2.2.2.2.1, v3.2.2.2.2.2.2.2.2.2.2, (s_Hist_clear)))
