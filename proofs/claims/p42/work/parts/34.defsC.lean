def s_case_0 (F : Nat) (xs : Nat → Int32) (pxs : Nat → Int32) (pys : Nat → Int32) (plo : Nat → Int32) (phi : Nat → Int32) (pn : Int32) (pm : Int32) (lf : Nat → Int32) (th : Nat → Int32) (ow : Nat → Int32) (lk : Nat → Int32) (el : Nat → Int32) (eh : Nat → Int32) (co : Nat → Int32) (hu : Nat → Int32) (ne : Int32) (nt : Int32) (nh : Int32) (hp : Nat → PlanS) (hnx : Int32) (hkp : Int32) (mnow : Nat → Int32) (mold : Nat → Int32) (mols : Int32) (fl : Nat → Int64) (x5 : Int32) : Option ((Nat → Int32) × (Nat → Int32) × Int32 × (Nat → Int32) × (Nat → Int32) × (Nat → Int32) × (Nat → Int32) × (Nat → Int32) × (Nat → Int32) × (Nat → Int32) × (Nat → Int32) × Int32 × Int32 × Int32 × (Nat → PlanS) × Int32 × Int32 × Int32 × (Nat → Int32) × (Nat → Int32) × Int32 × (Nat → Int64)) :=
  ((s_Law_addPoint F pxs pys plo phi pn pm lf th ow lk el eh co hu ne nt nh hp hnx hkp (xs (x5 + (1 : Int32)).toNatClampNeg) (xs (x5 + (2 : Int32)).toNatClampNeg) fl)).bind fun v1 =>
  ((s_Mod_addPoint F mnow mold mols (xs (x5 + (1 : Int32)).toNatClampNeg) (xs (x5 + (2 : Int32)).toNatClampNeg))).bind fun v2 =>
  if (s_Mod_thrown v2.2.1) = v1.1 then
    if v1.1 = 0 then
      if (lg_cmp (v1.2.2.2.2.2.2.2.2.2.2.2.2.2.2.2.2.2.2 (0 : Int32).toNatClampNeg) ((v2.1).toInt64)) = 0 then
        some (v1.2.1, v1.2.2.1, v1.2.2.2.1, v1.2.2.2.2.1, v1.2.2.2.2.2.1, v1.2.2.2.2.2.2.1, v1.2.2.2.2.2.2.2.1, v1.2.2.2.2.2.2.2.2.1, v1.2.2.2.2.2.2.2.2.2.1, v1.2.2.2.2.2.2.2.2.2.2.1, v1.2.2.2.2.2.2.2.2.2.2.2.1, v1.2.2.2.2.2.2.2.2.2.2.2.2.1, v1.2.2.2.2.2.2.2.2.2.2.2.2.2.1, v1.2.2.2.2.2.2.2.2.2.2.2.2.2.2.1, v1.2.2.2.2.2.2.2.2.2.2.2.2.2.2.2.1, v1.2.2.2.2.2.2.2.2.2.2.2.2.2.2.2.2.1, v1.2.2.2.2.2.2.2.2.2.2.2.2.2.2.2.2.2.1, v2.2.1, v2.2.2.1, v2.2.2.2.1, v2.2.2.2.2, v1.2.2.2.2.2.2.2.2.2.2.2.2.2.2.2.2.2.2)
      else
        none
    else
      some (v1.2.1, v1.2.2.1, v1.2.2.2.1, v1.2.2.2.2.1, v1.2.2.2.2.2.1, v1.2.2.2.2.2.2.1, v1.2.2.2.2.2.2.2.1, v1.2.2.2.2.2.2.2.2.1, v1.2.2.2.2.2.2.2.2.2.1, v1.2.2.2.2.2.2.2.2.2.2.1, v1.2.2.2.2.2.2.2.2.2.2.2.1, v1.2.2.2.2.2.2.2.2.2.2.2.2.1, v1.2.2.2.2.2.2.2.2.2.2.2.2.2.1, v1.2.2.2.2.2.2.2.2.2.2.2.2.2.2.1, v1.2.2.2.2.2.2.2.2.2.2.2.2.2.2.2.1, v1.2.2.2.2.2.2.2.2.2.2.2.2.2.2.2.2.1, v1.2.2.2.2.2.2.2.2.2.2.2.2.2.2.2.2.2.1, v2.2.1, v2.2.2.1, v2.2.2.2.1, v2.2.2.2.2, v1.2.2.2.2.2.2.2.2.2.2.2.2.2.2.2.2.2.2)
  else
    none
def s_case_1 (F : Nat) (xs : Nat → Int32) (pxs : Nat → Int32) (pys : Nat → Int32) (plo : Nat → Int32) (phi : Nat → Int32) (pn : Int32) (pm : Int32) (lf : Nat → Int32) (th : Nat → Int32) (ow : Nat → Int32) (lk : Nat → Int32) (el : Nat → Int32) (eh : Nat → Int32) (co : Nat → Int32) (hu : Nat → Int32) (ne : Int32) (nt : Int32) (nh : Int32) (hp : Nat → PlanS) (hnx : Int32) (hkp : Int32) (mnow : Nat → Int32) (mold : Nat → Int32) (mols : Int32) (fl : Nat → Int64) (x5 : Int32) : Option ((Nat → Int32) × (Nat → Int32) × (Nat → Int32) × (Nat → Int32) × Int32 × (Nat → Int32) × (Nat → Int32) × (Nat → Int32) × (Nat → Int32) × (Nat → Int32) × (Nat → Int32) × (Nat → Int32) × (Nat → Int32) × Int32 × Int32 × Int32 × (Nat → PlanS) × Int32 × Int32 × Int32 × (Nat → Int32) × (Nat → Int32) × Int32 × (Nat → Int64)) :=
  ((s_Law_removePoint F pxs pys plo phi pn pm lf th ow lk el eh co hu ne nt nh hp hnx hkp (xs (x5 + (1 : Int32)).toNatClampNeg) fl)).bind fun v1 =>
  ((s_Mod_removePoint F mnow mold mols (xs (x5 + (1 : Int32)).toNatClampNeg))).bind fun v2 =>
  if (s_Mod_thrown v2.2.1) = v1.1 then
    if v1.1 = 0 then
      if (lg_cmp (v1.2.2.2.2.2.2.2.2.2.2.2.2.2.2.2.2.2.2.2.2 (0 : Int32).toNatClampNeg) ((v2.1).toInt64)) = 0 then
        some (v1.2.1, v1.2.2.1, v1.2.2.2.1, v1.2.2.2.2.1, v1.2.2.2.2.2.1, v1.2.2.2.2.2.2.1, v1.2.2.2.2.2.2.2.1, v1.2.2.2.2.2.2.2.2.1, v1.2.2.2.2.2.2.2.2.2.1, v1.2.2.2.2.2.2.2.2.2.2.1, v1.2.2.2.2.2.2.2.2.2.2.2.1, v1.2.2.2.2.2.2.2.2.2.2.2.2.1, v1.2.2.2.2.2.2.2.2.2.2.2.2.2.1, v1.2.2.2.2.2.2.2.2.2.2.2.2.2.2.1, v1.2.2.2.2.2.2.2.2.2.2.2.2.2.2.2.1, v1.2.2.2.2.2.2.2.2.2.2.2.2.2.2.2.2.1, v1.2.2.2.2.2.2.2.2.2.2.2.2.2.2.2.2.2.1, v1.2.2.2.2.2.2.2.2.2.2.2.2.2.2.2.2.2.2.1, v1.2.2.2.2.2.2.2.2.2.2.2.2.2.2.2.2.2.2.2.1, v2.2.1, v2.2.2.1, v2.2.2.2.1, v2.2.2.2.2, v1.2.2.2.2.2.2.2.2.2.2.2.2.2.2.2.2.2.2.2.2)
      else
        none
    else
      some (v1.2.1, v1.2.2.1, v1.2.2.2.1, v1.2.2.2.2.1, v1.2.2.2.2.2.1, v1.2.2.2.2.2.2.1, v1.2.2.2.2.2.2.2.1, v1.2.2.2.2.2.2.2.2.1, v1.2.2.2.2.2.2.2.2.2.1, v1.2.2.2.2.2.2.2.2.2.2.1, v1.2.2.2.2.2.2.2.2.2.2.2.1, v1.2.2.2.2.2.2.2.2.2.2.2.2.1, v1.2.2.2.2.2.2.2.2.2.2.2.2.2.1, v1.2.2.2.2.2.2.2.2.2.2.2.2.2.2.1, v1.2.2.2.2.2.2.2.2.2.2.2.2.2.2.2.1, v1.2.2.2.2.2.2.2.2.2.2.2.2.2.2.2.2.1, v1.2.2.2.2.2.2.2.2.2.2.2.2.2.2.2.2.2.1, v1.2.2.2.2.2.2.2.2.2.2.2.2.2.2.2.2.2.2.1, v1.2.2.2.2.2.2.2.2.2.2.2.2.2.2.2.2.2.2.2.1, v2.2.1, v2.2.2.1, v2.2.2.2.1, v2.2.2.2.2, v1.2.2.2.2.2.2.2.2.2.2.2.2.2.2.2.2.2.2.2.2)
  else
    none
def s_case_2 (F : Nat) (xs : Nat → Int32) (pxs : Nat → Int32) (pys : Nat → Int32) (plo : Nat → Int32) (phi : Nat → Int32) (pn : Int32) (pm : Int32) (lf : Nat → Int32) (th : Nat → Int32) (ow : Nat → Int32) (lk : Nat → Int32) (el : Nat → Int32) (eh : Nat → Int32) (co : Nat → Int32) (hu : Nat → Int32) (ne : Int32) (nt : Int32) (nh : Int32) (hp : Nat → PlanS) (hnx : Int32) (hkp : Int32) (mnow : Nat → Int32) (mold : Nat → Int32) (mols : Int32) (fl : Nat → Int64) (x5 : Int32) : Option ((Nat → Int32) × (Nat → Int32) × (Nat → Int32) × (Nat → Int32) × (Nat → Int32) × (Nat → Int32) × (Nat → Int32) × (Nat → Int32) × (Nat → Int32) × (Nat → Int32) × Int32 × Int32 × Int32 × (Nat → PlanS) × Int32 × Int32 × Int32 × (Nat → Int32) × (Nat → Int32) × Int32 × (Nat → Int64)) :=
  ((s_Law_movePoint F pxs pys plo phi pn pm lf th ow lk el eh co hu ne nt nh hp hnx hkp (xs (x5 + (1 : Int32)).toNatClampNeg) (xs (x5 + (2 : Int32)).toNatClampNeg) (xs (x5 + (3 : Int32)).toNatClampNeg) fl)).bind fun v1 =>
  ((s_Mod_movePoint F mnow mold mols (xs (x5 + (1 : Int32)).toNatClampNeg) (xs (x5 + (2 : Int32)).toNatClampNeg) (xs (x5 + (3 : Int32)).toNatClampNeg))).bind fun v2 =>
  if (s_Mod_thrown v2.2.1) = v1.1 then
    if v1.1 = 0 then
      if (bI v2.1) = 0 then
        if (lg_cmp (v1.2.2.2.2.2.2.2.2.2.2.2.2.2.2.2.2.2 (0 : Int32).toNatClampNeg) (0 : Int64)) = 0 then
          some (v1.2.1, v1.2.2.1, v1.2.2.2.1, v1.2.2.2.2.1, v1.2.2.2.2.2.1, v1.2.2.2.2.2.2.1, v1.2.2.2.2.2.2.2.1, v1.2.2.2.2.2.2.2.2.1, v1.2.2.2.2.2.2.2.2.2.1, v1.2.2.2.2.2.2.2.2.2.2.1, v1.2.2.2.2.2.2.2.2.2.2.2.1, v1.2.2.2.2.2.2.2.2.2.2.2.2.1, v1.2.2.2.2.2.2.2.2.2.2.2.2.2.1, v1.2.2.2.2.2.2.2.2.2.2.2.2.2.2.1, v1.2.2.2.2.2.2.2.2.2.2.2.2.2.2.2.1, v1.2.2.2.2.2.2.2.2.2.2.2.2.2.2.2.2.1, v2.2.1, v2.2.2.1, v2.2.2.2.1, v2.2.2.2.2, v1.2.2.2.2.2.2.2.2.2.2.2.2.2.2.2.2.2)
        else
          none
      else
        if (lg_cmp (v1.2.2.2.2.2.2.2.2.2.2.2.2.2.2.2.2.2 (0 : Int32).toNatClampNeg) (1 : Int64)) = 0 then
          some (v1.2.1, v1.2.2.1, v1.2.2.2.1, v1.2.2.2.2.1, v1.2.2.2.2.2.1, v1.2.2.2.2.2.2.1, v1.2.2.2.2.2.2.2.1, v1.2.2.2.2.2.2.2.2.1, v1.2.2.2.2.2.2.2.2.2.1, v1.2.2.2.2.2.2.2.2.2.2.1, v1.2.2.2.2.2.2.2.2.2.2.2.1, v1.2.2.2.2.2.2.2.2.2.2.2.2.1, v1.2.2.2.2.2.2.2.2.2.2.2.2.2.1, v1.2.2.2.2.2.2.2.2.2.2.2.2.2.2.1, v1.2.2.2.2.2.2.2.2.2.2.2.2.2.2.2.1, v1.2.2.2.2.2.2.2.2.2.2.2.2.2.2.2.2.1, v2.2.1, v2.2.2.1, v2.2.2.2.1, v2.2.2.2.2, v1.2.2.2.2.2.2.2.2.2.2.2.2.2.2.2.2.2)
        else
          none
    else
      some (v1.2.1, v1.2.2.1, v1.2.2.2.1, v1.2.2.2.2.1, v1.2.2.2.2.2.1, v1.2.2.2.2.2.2.1, v1.2.2.2.2.2.2.2.1, v1.2.2.2.2.2.2.2.2.1, v1.2.2.2.2.2.2.2.2.2.1, v1.2.2.2.2.2.2.2.2.2.2.1, v1.2.2.2.2.2.2.2.2.2.2.2.1, v1.2.2.2.2.2.2.2.2.2.2.2.2.1, v1.2.2.2.2.2.2.2.2.2.2.2.2.2.1, v1.2.2.2.2.2.2.2.2.2.2.2.2.2.2.1, v1.2.2.2.2.2.2.2.2.2.2.2.2.2.2.2.1, v1.2.2.2.2.2.2.2.2.2.2.2.2.2.2.2.2.1, v2.2.1, v2.2.2.1, v2.2.2.2.1, v2.2.2.2.2, v1.2.2.2.2.2.2.2.2.2.2.2.2.2.2.2.2.2)
  else
    none
def s_case_3 (pn : Int32) (mnow : Nat → Int32) : Option (Int32) :=
  ((s_Mod_pointCount mnow)).bind fun v1 =>
  if (s_Top_pointCount pn) = v1.1 then
    some v1.2
  else
    none
def s_case_4 (xs : Nat → Int32) (pxs : Nat → Int32) (pys : Nat → Int32) (pn : Int32) (mnow : Nat → Int32) (fl : Nat → Int64) (x5 : Int32) : Option (Int32 × (Nat → Int64)) :=
  ((s_Law_coordinate pxs pys pn (xs (x5 + (1 : Int32)).toNatClampNeg) (xs (x5 + (2 : Int32)).toNatClampNeg) fl)).bind fun v1 =>
  ((s_Mod_coordinate mnow (xs (x5 + (1 : Int32)).toNatClampNeg) (xs (x5 + (2 : Int32)).toNatClampNeg))).bind fun v2 =>
  if (s_Mod_thrown v2.2) = v1.1 then
    if v1.1 = 0 then
      if (lg_cmp (v1.2 (0 : Int32).toNatClampNeg) ((v2.1).toInt64)) = 0 then
        some (v2.2, v1.2)
      else
        none
    else
      some (v2.2, v1.2)
  else
    none
def s_case_5 (F : Nat) (xs : Nat → Int32) (pxs : Nat → Int32) (pys : Nat → Int32) (plo : Nat → Int32) (phi : Nat → Int32) (pn : Int32) (pm : Int32) (lf : Nat → Int32) (th : Nat → Int32) (ow : Nat → Int32) (lk : Nat → Int32) (el : Nat → Int32) (eh : Nat → Int32) (co : Nat → Int32) (hu : Nat → Int32) (ne : Int32) (nt : Int32) (nh : Int32) (hp : Nat → PlanS) (hnx : Int32) (hkp : Int32) (mnow : Nat → Int32) (mold : Nat → Int32) (mols : Int32) (fl : Nat → Int64) (x5 : Int32) : Option ((Nat → Int32) × (Nat → Int32) × Int32 × (Nat → Int32) × (Nat → Int32) × (Nat → Int32) × (Nat → Int32) × (Nat → Int32) × (Nat → Int32) × (Nat → Int32) × (Nat → Int32) × Int32 × Int32 × Int32 × (Nat → PlanS) × Int32 × Int32 × Int32 × (Nat → Int32) × (Nat → Int32) × Int32 × (Nat → Int64)) :=
  ((s_Law_addConstraint F pxs pys plo phi pn pm lf th ow lk el eh co hu ne nt nh hp hnx hkp (xs (x5 + (1 : Int32)).toNatClampNeg) (xs (x5 + (2 : Int32)).toNatClampNeg) fl)).bind fun v1 =>
  ((s_Mod_addConstraint F mnow mold mols (xs (x5 + (1 : Int32)).toNatClampNeg) (xs (x5 + (2 : Int32)).toNatClampNeg))).bind fun v2 =>
  if (s_Mod_thrown v2.2.1) = v1.1 then
    if v1.1 = 0 then
      if (lg_cmp (v1.2.2.2.2.2.2.2.2.2.2.2.2.2.2.2.2.2.2 (0 : Int32).toNatClampNeg) ((v2.1).toInt64)) = 0 then
        some (v1.2.1, v1.2.2.1, v1.2.2.2.1, v1.2.2.2.2.1, v1.2.2.2.2.2.1, v1.2.2.2.2.2.2.1, v1.2.2.2.2.2.2.2.1, v1.2.2.2.2.2.2.2.2.1, v1.2.2.2.2.2.2.2.2.2.1, v1.2.2.2.2.2.2.2.2.2.2.1, v1.2.2.2.2.2.2.2.2.2.2.2.1, v1.2.2.2.2.2.2.2.2.2.2.2.2.1, v1.2.2.2.2.2.2.2.2.2.2.2.2.2.1, v1.2.2.2.2.2.2.2.2.2.2.2.2.2.2.1, v1.2.2.2.2.2.2.2.2.2.2.2.2.2.2.2.1, v1.2.2.2.2.2.2.2.2.2.2.2.2.2.2.2.2.1, v1.2.2.2.2.2.2.2.2.2.2.2.2.2.2.2.2.2.1, v2.2.1, v2.2.2.1, v2.2.2.2.1, v2.2.2.2.2, v1.2.2.2.2.2.2.2.2.2.2.2.2.2.2.2.2.2.2)
      else
        none
    else
      some (v1.2.1, v1.2.2.1, v1.2.2.2.1, v1.2.2.2.2.1, v1.2.2.2.2.2.1, v1.2.2.2.2.2.2.1, v1.2.2.2.2.2.2.2.1, v1.2.2.2.2.2.2.2.2.1, v1.2.2.2.2.2.2.2.2.2.1, v1.2.2.2.2.2.2.2.2.2.2.1, v1.2.2.2.2.2.2.2.2.2.2.2.1, v1.2.2.2.2.2.2.2.2.2.2.2.2.1, v1.2.2.2.2.2.2.2.2.2.2.2.2.2.1, v1.2.2.2.2.2.2.2.2.2.2.2.2.2.2.1, v1.2.2.2.2.2.2.2.2.2.2.2.2.2.2.2.1, v1.2.2.2.2.2.2.2.2.2.2.2.2.2.2.2.2.1, v1.2.2.2.2.2.2.2.2.2.2.2.2.2.2.2.2.2.1, v2.2.1, v2.2.2.1, v2.2.2.2.1, v2.2.2.2.2, v1.2.2.2.2.2.2.2.2.2.2.2.2.2.2.2.2.2.2)
  else
    none
def s_case_6 (F : Nat) (xs : Nat → Int32) (pxs : Nat → Int32) (pys : Nat → Int32) (plo : Nat → Int32) (phi : Nat → Int32) (pn : Int32) (pm : Int32) (lf : Nat → Int32) (th : Nat → Int32) (ow : Nat → Int32) (lk : Nat → Int32) (el : Nat → Int32) (eh : Nat → Int32) (co : Nat → Int32) (hu : Nat → Int32) (ne : Int32) (nt : Int32) (nh : Int32) (hp : Nat → PlanS) (hnx : Int32) (hkp : Int32) (mnow : Nat → Int32) (mold : Nat → Int32) (mols : Int32) (fl : Nat → Int64) (x5 : Int32) : Option ((Nat → Int32) × (Nat → Int32) × Int32 × (Nat → Int32) × (Nat → Int32) × (Nat → Int32) × (Nat → Int32) × (Nat → Int32) × (Nat → Int32) × (Nat → Int32) × (Nat → Int32) × Int32 × Int32 × Int32 × (Nat → PlanS) × Int32 × Int32 × Int32 × (Nat → Int32) × (Nat → Int32) × Int32 × (Nat → Int64)) :=
  ((s_Law_removeConstraint F pxs pys plo phi pn pm lf th ow lk el eh co hu ne nt nh hp hnx hkp (xs (x5 + (1 : Int32)).toNatClampNeg) fl)).bind fun v1 =>
  ((s_Mod_removeConstraint F mnow mold mols (xs (x5 + (1 : Int32)).toNatClampNeg))).bind fun v2 =>
  if (s_Mod_thrown v2.2.1) = v1.1 then
    if v1.1 = 0 then
      if (lg_cmp (v1.2.2.2.2.2.2.2.2.2.2.2.2.2.2.2.2.2.2 (0 : Int32).toNatClampNeg) ((v2.1).toInt64)) = 0 then
        some (v1.2.1, v1.2.2.1, v1.2.2.2.1, v1.2.2.2.2.1, v1.2.2.2.2.2.1, v1.2.2.2.2.2.2.1, v1.2.2.2.2.2.2.2.1, v1.2.2.2.2.2.2.2.2.1, v1.2.2.2.2.2.2.2.2.2.1, v1.2.2.2.2.2.2.2.2.2.2.1, v1.2.2.2.2.2.2.2.2.2.2.2.1, v1.2.2.2.2.2.2.2.2.2.2.2.2.1, v1.2.2.2.2.2.2.2.2.2.2.2.2.2.1, v1.2.2.2.2.2.2.2.2.2.2.2.2.2.2.1, v1.2.2.2.2.2.2.2.2.2.2.2.2.2.2.2.1, v1.2.2.2.2.2.2.2.2.2.2.2.2.2.2.2.2.1, v1.2.2.2.2.2.2.2.2.2.2.2.2.2.2.2.2.2.1, v2.2.1, v2.2.2.1, v2.2.2.2.1, v2.2.2.2.2, v1.2.2.2.2.2.2.2.2.2.2.2.2.2.2.2.2.2.2)
      else
        none
    else
      some (v1.2.1, v1.2.2.1, v1.2.2.2.1, v1.2.2.2.2.1, v1.2.2.2.2.2.1, v1.2.2.2.2.2.2.1, v1.2.2.2.2.2.2.2.1, v1.2.2.2.2.2.2.2.2.1, v1.2.2.2.2.2.2.2.2.2.1, v1.2.2.2.2.2.2.2.2.2.2.1, v1.2.2.2.2.2.2.2.2.2.2.2.1, v1.2.2.2.2.2.2.2.2.2.2.2.2.1, v1.2.2.2.2.2.2.2.2.2.2.2.2.2.1, v1.2.2.2.2.2.2.2.2.2.2.2.2.2.2.1, v1.2.2.2.2.2.2.2.2.2.2.2.2.2.2.2.1, v1.2.2.2.2.2.2.2.2.2.2.2.2.2.2.2.2.1, v1.2.2.2.2.2.2.2.2.2.2.2.2.2.2.2.2.2.1, v2.2.1, v2.2.2.1, v2.2.2.2.1, v2.2.2.2.2, v1.2.2.2.2.2.2.2.2.2.2.2.2.2.2.2.2.2.2)
  else
    none
def s_case_7 (pm : Int32) (mnow : Nat → Int32) : Option (Int32) :=
  ((s_Mod_constraintCount mnow)).bind fun v1 =>
  if (s_Top_constraintCount pm) = v1.1 then
    some v1.2
  else
    none
def s_case_8 (xs : Nat → Int32) (plo : Nat → Int32) (phi : Nat → Int32) (pm : Int32) (mnow : Nat → Int32) (fl : Nat → Int64) (x5 : Int32) : Option (Int32 × (Nat → Int64)) :=
  ((s_Law_constraintEnd plo phi pm (xs (x5 + (1 : Int32)).toNatClampNeg) (xs (x5 + (2 : Int32)).toNatClampNeg) fl)).bind fun v1 =>
  ((s_Mod_constraintEnd mnow (xs (x5 + (1 : Int32)).toNatClampNeg) (xs (x5 + (2 : Int32)).toNatClampNeg))).bind fun v2 =>
  if (s_Mod_thrown v2.2) = v1.1 then
    if v1.1 = 0 then
      if (lg_cmp (v1.2 (0 : Int32).toNatClampNeg) ((v2.1).toInt64)) = 0 then
        some (v2.2, v1.2)
      else
        none
    else
      some (v2.2, v1.2)
  else
    none
def s_case_9 (xs : Nat → Int32) (ich : Nat → Int32) (iln : Int32) (minp : Nat → Int32) (mlen : Int32) (fl : Nat → Int64) (x5 : Int32) : Option ((Nat → Int32) × Int32 × Int32 × (Nat → Int32) × Int32 × (Nat → Int64)) :=
  ((s_Law_feed ich iln ((((xs (x5 + (1 : Int32)).toNatClampNeg)).toUInt32 % 65536).toInt32) fl)).bind fun v1 =>
  ((s_Mod_feed minp mlen ((((xs (x5 + (1 : Int32)).toNatClampNeg)).toUInt32 % 65536).toInt32))).bind fun v2 =>
  if (s_Mod_thrown v2.2.1) = v1.1 then
    if v1.1 = 0 then
      if (lg_cmp (v1.2.2.2 (0 : Int32).toNatClampNeg) ((v2.1).toInt64)) = 0 then
        some (v1.2.1, v1.2.2.1, v2.2.1, v2.2.2.1, v2.2.2.2, v1.2.2.2)
      else
        none
    else
      some (v1.2.1, v1.2.2.1, v2.2.1, v2.2.2.1, v2.2.2.2, v1.2.2.2)
  else
    none
def s_case_10 (F : Nat) (pxs : Nat → Int32) (pys : Nat → Int32) (plo : Nat → Int32) (phi : Nat → Int32) (pn : Int32) (pm : Int32) (lf : Nat → Int32) (th : Nat → Int32) (ow : Nat → Int32) (lk : Nat → Int32) (el : Nat → Int32) (eh : Nat → Int32) (co : Nat → Int32) (hu : Nat → Int32) (ich : Nat → Int32) (ifs : Nat → Int32) (isc : Nat → Int32) (isg : Nat → Int32) (iln : Int32) (hp : Nat → PlanS) (hnx : Int32) (hkp : Int32) (mnow : Nat → Int32) (mold : Nat → Int32) (mols : Int32) (minp : Nat → Int32) (mlen : Int32) : Option ((Nat → Int32) × (Nat → Int32) × (Nat → Int32) × (Nat → Int32) × Int32 × Int32 × (Nat → Int32) × (Nat → Int32) × (Nat → Int32) × (Nat → Int32) × (Nat → Int32) × (Nat → Int32) × (Nat → Int32) × (Nat → Int32) × Int32 × Int32 × Int32 × (Nat → Int32) × (Nat → Int32) × (Nat → Int32) × Int32 × Int32 × Bool × Int32 × Int32 × (Nat → PlanS) × Int32 × Int32 × Int32 × (Nat → Int32) × (Nat → Int32) × Int32 × Int32 × Int32) :=
  ((s_Top_readInput F pxs pys plo phi pn pm lf th ow lk el eh co hu ich ifs isc isg iln hp hnx hkp)).bind fun v1 =>
  ((s_Mod_readInput F mnow mold mols minp mlen)).bind fun v2 =>
  if v1.1 = v2.1 then
    some (v1.2.1, v1.2.2.1, v1.2.2.2.1, v1.2.2.2.2.1, v1.2.2.2.2.2.1, v1.2.2.2.2.2.2.1, v1.2.2.2.2.2.2.2.1, v1.2.2.2.2.2.2.2.2.1, v1.2.2.2.2.2.2.2.2.2.1, v1.2.2.2.2.2.2.2.2.2.2.1, v1.2.2.2.2.2.2.2.2.2.2.2.1, v1.2.2.2.2.2.2.2.2.2.2.2.2.1, v1.2.2.2.2.2.2.2.2.2.2.2.2.2.1, v1.2.2.2.2.2.2.2.2.2.2.2.2.2.2.1, v1.2.2.2.2.2.2.2.2.2.2.2.2.2.2.2.1, v1.2.2.2.2.2.2.2.2.2.2.2.2.2.2.2.2.1, v1.2.2.2.2.2.2.2.2.2.2.2.2.2.2.2.2.2.1, v1.2.2.2.2.2.2.2.2.2.2.2.2.2.2.2.2.2.2.1, v1.2.2.2.2.2.2.2.2.2.2.2.2.2.2.2.2.2.2.2.1, v1.2.2.2.2.2.2.2.2.2.2.2.2.2.2.2.2.2.2.2.2.1, v1.2.2.2.2.2.2.2.2.2.2.2.2.2.2.2.2.2.2.2.2.2.1, v1.2.2.2.2.2.2.2.2.2.2.2.2.2.2.2.2.2.2.2.2.2.2.1, v1.2.2.2.2.2.2.2.2.2.2.2.2.2.2.2.2.2.2.2.2.2.2.2.1, v1.2.2.2.2.2.2.2.2.2.2.2.2.2.2.2.2.2.2.2.2.2.2.2.2.1, v1.2.2.2.2.2.2.2.2.2.2.2.2.2.2.2.2.2.2.2.2.2.2.2.2.2.1, v1.2.2.2.2.2.2.2.2.2.2.2.2.2.2.2.2.2.2.2.2.2.2.2.2.2.2.1, v1.2.2.2.2.2.2.2.2.2.2.2.2.2.2.2.2.2.2.2.2.2.2.2.2.2.2.2.1, v1.2.2.2.2.2.2.2.2.2.2.2.2.2.2.2.2.2.2.2.2.2.2.2.2.2.2.2.2, v2.2.1, v2.2.2.1, v2.2.2.2.1, v2.2.2.2.2.1, v2.2.2.2.2.2.1, v2.2.2.2.2.2.2)
  else
    none
def s_case_11 (F : Nat) (nt : Int32) (mnow : Nat → Int32) (medg : Nat → Int32) (mcor : Nat → Int32) : Option (Int32 × (Nat → Int32) × (Nat → Int32) × Int32) :=
  ((s_Mod_triangleCount F mnow medg mcor)).bind fun v1 =>
  if (s_Top_triangleCount nt) = v1.1 then
    some (v1.2.1, v1.2.2.1, v1.2.2.2.1, v1.2.2.2.2)
  else
    none
def s_case_12 (F : Nat) (xs : Nat → Int32) (co : Nat → Int32) (nt : Int32) (mnow : Nat → Int32) (medg : Nat → Int32) (mcor : Nat → Int32) (fl : Nat → Int64) (x5 : Int32) : Option (Int32 × (Nat → Int32) × (Nat → Int32) × Int32 × (Nat → Int64)) :=
  ((s_Law_corner co nt (xs (x5 + (1 : Int32)).toNatClampNeg) (xs (x5 + (2 : Int32)).toNatClampNeg) fl)).bind fun v1 =>
  ((s_Mod_corner F mnow medg mcor (xs (x5 + (1 : Int32)).toNatClampNeg) (xs (x5 + (2 : Int32)).toNatClampNeg))).bind fun v2 =>
  if (s_Mod_thrown v2.2.1) = v1.1 then
    if v1.1 = 0 then
      if (lg_cmp (v1.2 (0 : Int32).toNatClampNeg) ((v2.1).toInt64)) = 0 then
        some (v2.2.1, v2.2.2.1, v2.2.2.2.1, v2.2.2.2.2, v1.2)
      else
        none
    else
      some (v2.2.1, v2.2.2.1, v2.2.2.2.1, v2.2.2.2.2, v1.2)
  else
    none
def s_case_13 (F : Nat) (xs : Nat → Int32) (ow : Nat → Int32) (co : Nat → Int32) (nt : Int32) (mnow : Nat → Int32) (medg : Nat → Int32) (mcor : Nat → Int32) (fl : Nat → Int64) (x5 : Int32) : Option (Int32 × (Nat → Int32) × (Nat → Int32) × Int32 × (Nat → Int64)) :=
  ((s_Law_beyond ow co nt (xs (x5 + (1 : Int32)).toNatClampNeg) (xs (x5 + (2 : Int32)).toNatClampNeg) fl)).bind fun v1 =>
  ((s_Mod_beyond F mnow medg mcor (xs (x5 + (1 : Int32)).toNatClampNeg) (xs (x5 + (2 : Int32)).toNatClampNeg))).bind fun v2 =>
  if (s_Mod_thrown v2.2.1) = v1.1 then
    if v1.1 = 0 then
      if (lg_cmp (v1.2 (0 : Int32).toNatClampNeg) ((v2.1).toInt64)) = 0 then
        some (v2.2.1, v2.2.2.1, v2.2.2.2.1, v2.2.2.2.2, v1.2)
      else
        none
    else
      some (v2.2.1, v2.2.2.1, v2.2.2.2.1, v2.2.2.2.2, v1.2)
  else
    none
def s_case_14 (F : Nat) (ne : Int32) (mnow : Nat → Int32) (medg : Nat → Int32) (mcor : Nat → Int32) : Option (Int32 × (Nat → Int32) × (Nat → Int32) × Int32) :=
  ((s_Mod_edgeCount F mnow medg mcor)).bind fun v1 =>
  if (s_Top_edgeCount ne) = v1.1 then
    some (v1.2.1, v1.2.2.1, v1.2.2.2.1, v1.2.2.2.2)
  else
    none
def s_case_15 (F : Nat) (xs : Nat → Int32) (el : Nat → Int32) (eh : Nat → Int32) (ne : Int32) (mnow : Nat → Int32) (medg : Nat → Int32) (mcor : Nat → Int32) (mnum : Nat → Int32) (fl : Nat → Int64) (x5 : Int32) : Option (Int32 × (Nat → Int32) × (Nat → Int32) × Int32 × (Nat → Int32) × (Nat → Int64)) :=
  ((s_Law_edgeEnd el eh ne (xs (x5 + (1 : Int32)).toNatClampNeg) (xs (x5 + (2 : Int32)).toNatClampNeg) fl)).bind fun v1 =>
  ((s_Mod_edgeEnd F mnow medg mcor mnum (xs (x5 + (1 : Int32)).toNatClampNeg) (xs (x5 + (2 : Int32)).toNatClampNeg))).bind fun v2 =>
  if (s_Mod_thrown v2.2.1) = v1.1 then
    if v1.1 = 0 then
      if (lg_cmp (v1.2 (0 : Int32).toNatClampNeg) ((v2.1).toInt64)) = 0 then
        some (v2.2.1, v2.2.2.1, v2.2.2.2.1, v2.2.2.2.2.1, v2.2.2.2.2.2, v1.2)
      else
        none
    else
      some (v2.2.1, v2.2.2.1, v2.2.2.2.1, v2.2.2.2.2.1, v2.2.2.2.2.2, v1.2)
  else
    none
def s_case_16 (F : Nat) (xs : Nat → Int32) (pn : Int32) (el : Nat → Int32) (eh : Nat → Int32) (ne : Int32) (mnow : Nat → Int32) (medg : Nat → Int32) (mcor : Nat → Int32) (mtri : Int32) (fl : Nat → Int64) (x5 : Int32) : Option (Int32 × (Nat → Int32) × (Nat → Int32) × Int32 × (Nat → Int64)) :=
  ((s_Law_edgeBetween F pn el eh ne (xs (x5 + (1 : Int32)).toNatClampNeg) (xs (x5 + (2 : Int32)).toNatClampNeg) fl)).bind fun v1 =>
  ((s_Mod_edgeBetween F mnow medg mcor mtri (xs (x5 + (1 : Int32)).toNatClampNeg) (xs (x5 + (2 : Int32)).toNatClampNeg))).bind fun v2 =>
  if (s_Mod_thrown v2.2.1) = v1.1 then
    if v1.1 = 0 then
      if (lg_cmp (v1.2 (0 : Int32).toNatClampNeg) ((v2.1).toInt64)) = 0 then
        some (v2.2.1, v2.2.2.1, v2.2.2.2.1, v2.2.2.2.2, v1.2)
      else
        none
    else
      some (v2.2.1, v2.2.2.1, v2.2.2.2.1, v2.2.2.2.2, v1.2)
  else
    none
def s_case_17 (F : Nat) (xs : Nat → Int32) (pn : Int32) (lk : Nat → Int32) (mnow : Nat → Int32) (medg : Nat → Int32) (mcor : Nat → Int32) (mtri : Int32) (fl : Nat → Int64) (x5 : Int32) : Option (Int32 × (Nat → Int32) × (Nat → Int32) × Int32 × (Nat → Int64)) :=
  ((s_Law_degree pn lk (xs (x5 + (1 : Int32)).toNatClampNeg) fl)).bind fun v1 =>
  ((s_Mod_degree F mnow medg mcor mtri (xs (x5 + (1 : Int32)).toNatClampNeg))).bind fun v2 =>
  if (s_Mod_thrown v2.2.1) = v1.1 then
    if v1.1 = 0 then
      if (lg_cmp (v1.2 (0 : Int32).toNatClampNeg) ((v2.1).toInt64)) = 0 then
        some (v2.2.1, v2.2.2.1, v2.2.2.2.1, v2.2.2.2.2, v1.2)
      else
        none
    else
      some (v2.2.1, v2.2.2.1, v2.2.2.2.1, v2.2.2.2.2, v1.2)
  else
    none
def s_case_18 (F : Nat) (xs : Nat → Int32) (pn : Int32) (lk : Nat → Int32) (mnow : Nat → Int32) (medg : Nat → Int32) (mcor : Nat → Int32) (mtri : Int32) (fl : Nat → Int64) (x5 : Int32) : Option (Int32 × (Nat → Int32) × (Nat → Int32) × Int32 × (Nat → Int64)) :=
  ((s_Law_neighbour F pn lk (xs (x5 + (1 : Int32)).toNatClampNeg) (xs (x5 + (2 : Int32)).toNatClampNeg) fl)).bind fun v1 =>
  ((s_Mod_neighbour F mnow medg mcor mtri (xs (x5 + (1 : Int32)).toNatClampNeg) (xs (x5 + (2 : Int32)).toNatClampNeg))).bind fun v2 =>
  if (s_Mod_thrown v2.2.1) = v1.1 then
    if v1.1 = 0 then
      if (lg_cmp (v1.2 (0 : Int32).toNatClampNeg) ((v2.1).toInt64)) = 0 then
        some (v2.2.1, v2.2.2.1, v2.2.2.2.1, v2.2.2.2.2, v1.2)
      else
        none
    else
      some (v2.2.1, v2.2.2.1, v2.2.2.2.1, v2.2.2.2.2, v1.2)
  else
    none
def s_case_19 (F : Nat) (nh : Int32) (mnow : Nat → Int32) (medg : Nat → Int32) (mcor : Nat → Int32) : Option (Int32 × (Nat → Int32) × (Nat → Int32) × Int32) :=
  ((s_Mod_hullSize F mnow medg mcor)).bind fun v1 =>
  if (s_Top_hullSize nh) = v1.1 then
    some (v1.2.1, v1.2.2.1, v1.2.2.2.1, v1.2.2.2.2)
  else
    none
def s_case_20 (F : Nat) (xs : Nat → Int32) (hu : Nat → Int32) (nh : Int32) (mnow : Nat → Int32) (medg : Nat → Int32) (mcor : Nat → Int32) (fl : Nat → Int64) (x5 : Int32) : Option (Int32 × (Nat → Int32) × (Nat → Int32) × Int32 × (Nat → Int64)) :=
  ((s_Law_hullPoint hu nh (xs (x5 + (1 : Int32)).toNatClampNeg) fl)).bind fun v1 =>
  ((s_Mod_hullPoint F mnow medg mcor (xs (x5 + (1 : Int32)).toNatClampNeg))).bind fun v2 =>
  if (s_Mod_thrown v2.2.1) = v1.1 then
    if v1.1 = 0 then
      if (lg_cmp (v1.2 (0 : Int32).toNatClampNeg) ((v2.1).toInt64)) = 0 then
        some (v2.2.1, v2.2.2.1, v2.2.2.2.1, v2.2.2.2.2, v1.2)
      else
        none
    else
      some (v2.2.1, v2.2.2.1, v2.2.2.2.1, v2.2.2.2.2, v1.2)
  else
    none
def s_case_21 (F : Nat) (xs : Nat → Int32) (pxs : Nat → Int32) (pys : Nat → Int32) (co : Nat → Int32) (nt : Int32) (mnow : Nat → Int32) (medg : Nat → Int32) (mcor : Nat → Int32) (fl : Nat → Int64) (x5 : Int32) : Option (Int32 × (Nat → Int32) × (Nat → Int32) × Int32 × (Nat → Int64)) :=
  ((s_Law_twiceArea pxs pys co nt (xs (x5 + (1 : Int32)).toNatClampNeg) fl)).bind fun v1 =>
  ((s_Mod_twiceArea F mnow medg mcor (xs (x5 + (1 : Int32)).toNatClampNeg))).bind fun v2 =>
  if (s_Mod_thrown v2.2.1) = v1.1 then
    if v1.1 = 0 then
      if (lg_cmp (v1.2 (0 : Int32).toNatClampNeg) ((v2.1).toInt64)) = 0 then
        some (v2.2.1, v2.2.2.1, v2.2.2.2.1, v2.2.2.2.2, v1.2)
      else
        none
    else
      some (v2.2.1, v2.2.2.1, v2.2.2.2.1, v2.2.2.2.2, v1.2)
  else
    none
def s_case_22 (F : Nat) (xs : Nat → Int32) (pxs : Nat → Int32) (pys : Nat → Int32) (co : Nat → Int32) (nt : Int32) (mnow : Nat → Int32) (medg : Nat → Int32) (mcor : Nat → Int32) (fd : Nat → UInt64) (x5 : Int32) : Option (Int32 × (Nat → Int32) × (Nat → Int32) × Int32 × (Nat → UInt64)) :=
  ((s_Law_areaShare F pxs pys co nt (xs (x5 + (1 : Int32)).toNatClampNeg) fd)).bind fun v1 =>
  ((s_Mod_areaShare F mnow medg mcor (xs (x5 + (1 : Int32)).toNatClampNeg))).bind fun v2 =>
  if (s_Mod_thrown v2.2.1) = v1.1 then
    if v1.1 = 0 then
      if (Op.cmpValue (FP.dcmp (v1.2 (0 : Int32).toNatClampNeg) v2.1) CmpOp.l) = 0 then
        some (v2.2.1, v2.2.2.1, v2.2.2.2.1, v2.2.2.2.2, v1.2)
      else
        if (Op.cmpValue (FP.dcmp (v1.2 (0 : Int32).toNatClampNeg) (v1.2 (0 : Int32).toNatClampNeg)) CmpOp.l) = 0 then
          none
        else
          if (Op.cmpValue (FP.dcmp v2.1 v2.1) CmpOp.l) = 0 then
            none
          else
            some (v2.2.1, v2.2.2.1, v2.2.2.2.1, v2.2.2.2.2, v1.2)
    else
      some (v2.2.1, v2.2.2.1, v2.2.2.2.1, v2.2.2.2.2, v1.2)
  else
    none
def s_case_23 (F : Nat) (pn : Int32) (ne : Int32) (mnow : Nat → Int32) (medg : Nat → Int32) (mcor : Nat → Int32) (mtri : Int32) (fd : Nat → UInt64) : Option (Int32 × (Nat → Int32) × (Nat → Int32) × Int32 × (Nat → UInt64)) :=
  ((s_Law_meanDegree pn ne fd)).bind fun v1 =>
  ((s_Mod_meanDegree F mnow medg mcor mtri)).bind fun v2 =>
  if (s_Mod_thrown v2.2.1) = v1.1 then
    if v1.1 = 0 then
      if (Op.cmpValue (FP.dcmp (v1.2 (0 : Int32).toNatClampNeg) v2.1) CmpOp.l) = 0 then
        some (v2.2.1, v2.2.2.1, v2.2.2.2.1, v2.2.2.2.2, v1.2)
      else
        if (Op.cmpValue (FP.dcmp (v1.2 (0 : Int32).toNatClampNeg) (v1.2 (0 : Int32).toNatClampNeg)) CmpOp.l) = 0 then
          none
        else
          if (Op.cmpValue (FP.dcmp v2.1 v2.1) CmpOp.l) = 0 then
            none
          else
            some (v2.2.1, v2.2.2.1, v2.2.2.2.1, v2.2.2.2.2, v1.2)
    else
      some (v2.2.1, v2.2.2.1, v2.2.2.2.1, v2.2.2.2.2, v1.2)
  else
    none
def s_case_24 (F : Nat) (xs : Nat → Int32) (pxs : Nat → Int32) (pys : Nat → Int32) (pn : Int32) (el : Nat → Int32) (eh : Nat → Int32) (ne : Int32) (mnow : Nat → Int32) (medg : Nat → Int32) (mcor : Nat → Int32) (mtri : Int32) (mmet : Nat → Int32) (fl : Nat → Int64) (x5 : Int32) : Option (Int32 × (Nat → Int32) × (Nat → Int32) × Int32 × (Nat → Int32) × (Nat → Int64)) :=
  ((s_Law_squaredLength F pxs pys pn el eh ne (xs (x5 + (1 : Int32)).toNatClampNeg) fl)).bind fun v1 =>
  ((s_Mod_squaredLength F mnow medg mcor mtri mmet (xs (x5 + (1 : Int32)).toNatClampNeg))).bind fun v2 =>
  if (s_Mod_thrown v2.2.1) = v1.1 then
    if v1.1 = 0 then
      if (lg_cmp (v1.2 (0 : Int32).toNatClampNeg) ((v2.1).toInt64)) = 0 then
        some (v2.2.1, v2.2.2.1, v2.2.2.2.1, v2.2.2.2.2.1, v2.2.2.2.2.2, v1.2)
      else
        none
    else
      some (v2.2.1, v2.2.2.1, v2.2.2.2.1, v2.2.2.2.2.1, v2.2.2.2.2.2, v1.2)
  else
    none
def s_case_25 (xs : Nat → Int32) (pxs : Nat → Int32) (pys : Nat → Int32) (pn : Int32) (mnow : Nat → Int32) (fl : Nat → Int64) (x5 : Int32) : Option (Int32 × (Nat → Int64)) :=
  ((s_Law_turn pxs pys pn (xs (x5 + (1 : Int32)).toNatClampNeg) (xs (x5 + (2 : Int32)).toNatClampNeg) (xs (x5 + (3 : Int32)).toNatClampNeg) fl)).bind fun v1 =>
  ((s_Mod_turn mnow (xs (x5 + (1 : Int32)).toNatClampNeg) (xs (x5 + (2 : Int32)).toNatClampNeg) (xs (x5 + (3 : Int32)).toNatClampNeg))).bind fun v2 =>
  if (s_Mod_thrown v2.2) = v1.1 then
    if v1.1 = 0 then
      if (lg_cmp (v1.2 (0 : Int32).toNatClampNeg) ((v2.1).toInt64)) = 0 then
        some (v2.2, v1.2)
      else
        none
    else
      some (v2.2, v1.2)
  else
    none
def s_case_26 (xs : Nat → Int32) (pxs : Nat → Int32) (pys : Nat → Int32) (pn : Int32) (mnow : Nat → Int32) (fl : Nat → Int64) (x5 : Int32) : Option (Int32 × (Nat → Int64)) :=
  ((s_Law_inCircle pxs pys pn (xs (x5 + (1 : Int32)).toNatClampNeg) (xs (x5 + (2 : Int32)).toNatClampNeg) (xs (x5 + (3 : Int32)).toNatClampNeg) (xs (x5 + (4 : Int32)).toNatClampNeg) fl)).bind fun v1 =>
  ((s_Mod_inCircle mnow (xs (x5 + (1 : Int32)).toNatClampNeg) (xs (x5 + (2 : Int32)).toNatClampNeg) (xs (x5 + (3 : Int32)).toNatClampNeg) (xs (x5 + (4 : Int32)).toNatClampNeg))).bind fun v2 =>
  if (s_Mod_thrown v2.2) = v1.1 then
    if v1.1 = 0 then
      if (lg_cmp (v1.2 (0 : Int32).toNatClampNeg) ((v2.1).toInt64)) = 0 then
        some (v2.2, v1.2)
      else
        none
    else
      some (v2.2, v1.2)
  else
    none
def s_case_27 (F : Nat) (xs : Nat → Int32) (pxs : Nat → Int32) (pys : Nat → Int32) (th : Nat → Int32) (el : Nat → Int32) (eh : Nat → Int32) (ne : Int32) (mnow : Nat → Int32) (medg : Nat → Int32) (mcor : Nat → Int32) (mnum : Nat → Int32) (fl : Nat → Int64) (x5 : Int32) : Option (Int32 × (Nat → Int32) × (Nat → Int32) × Int32 × (Nat → Int32) × (Nat → Int64)) :=
  ((s_Law_isGood pxs pys th el eh ne (xs (x5 + (1 : Int32)).toNatClampNeg) fl)).bind fun v1 =>
  ((s_Mod_isGood F mnow medg mcor mnum (xs (x5 + (1 : Int32)).toNatClampNeg))).bind fun v2 =>
  if (s_Mod_thrown v2.2.1) = v1.1 then
    if v1.1 = 0 then
      if (bI v2.1) = 0 then
        if (lg_cmp (v1.2 (0 : Int32).toNatClampNeg) (0 : Int64)) = 0 then
          some (v2.2.1, v2.2.2.1, v2.2.2.2.1, v2.2.2.2.2.1, v2.2.2.2.2.2, v1.2)
        else
          none
      else
        if (lg_cmp (v1.2 (0 : Int32).toNatClampNeg) (1 : Int64)) = 0 then
          some (v2.2.1, v2.2.2.1, v2.2.2.2.1, v2.2.2.2.2.1, v2.2.2.2.2.2, v1.2)
        else
          none
    else
      some (v2.2.1, v2.2.2.1, v2.2.2.2.1, v2.2.2.2.2.1, v2.2.2.2.2.2, v1.2)
  else
    none
def s_case_28 (F : Nat) (pxs : Nat → Int32) (pys : Nat → Int32) (plo : Nat → Int32) (phi : Nat → Int32) (pm : Int32) (th : Nat → Int32) (mnow : Nat → Int32) (medg : Nat → Int32) (mcor : Nat → Int32) : Option (Int32 × (Nat → Int32) × (Nat → Int32) × Int32) :=
  ((s_Top_forcedConstraints F pxs pys plo phi pm th)).bind fun v1 =>
  ((s_Mod_forcedConstraints F mnow medg mcor)).bind fun v2 =>
  if v1 = v2.1 then
    some (v2.2.1, v2.2.2.1, v2.2.2.2.1, v2.2.2.2.2)
  else
    none
def s_case_29 (F : Nat) (xs : Nat → Int32) (pxs : Nat → Int32) (pys : Nat → Int32) (pn : Int32) (el : Nat → Int32) (eh : Nat → Int32) (co : Nat → Int32) (ne : Int32) (nt : Int32) (mnow : Nat → Int32) (medg : Nat → Int32) (mcor : Nat → Int32) (mtri : Int32) (fl : Nat → Int64) (x5 : Int32) : Option (Int32 × (Nat → Int32) × (Nat → Int32) × Int32 × (Nat → Int64)) :=
  ((s_Law_kindAt F pxs pys pn el eh co ne nt (xs (x5 + (1 : Int32)).toNatClampNeg) (xs (x5 + (2 : Int32)).toNatClampNeg) fl)).bind fun v1 =>
  ((s_Mod_kindAt F mnow medg mcor mtri (xs (x5 + (1 : Int32)).toNatClampNeg) (xs (x5 + (2 : Int32)).toNatClampNeg))).bind fun v2 =>
  if (s_Mod_thrown v2.2.1) = v1.1 then
    if v1.1 = 0 then
      if (lg_cmp (v1.2 (0 : Int32).toNatClampNeg) ((v2.1).toInt64)) = 0 then
        some (v2.2.1, v2.2.2.1, v2.2.2.2.1, v2.2.2.2.2, v1.2)
      else
        none
    else
      some (v2.2.1, v2.2.2.1, v2.2.2.2.1, v2.2.2.2.2, v1.2)
  else
    none
def s_case_30 (F : Nat) (xs : Nat → Int32) (pxs : Nat → Int32) (pys : Nat → Int32) (pn : Int32) (el : Nat → Int32) (eh : Nat → Int32) (co : Nat → Int32) (ne : Int32) (nt : Int32) (mnow : Nat → Int32) (medg : Nat → Int32) (mcor : Nat → Int32) (mtri : Int32) (fl : Nat → Int64) (x5 : Int32) : Option (Int32 × (Nat → Int32) × (Nat → Int32) × Int32 × (Nat → Int64)) :=
  ((s_Law_numberAt F pxs pys pn el eh co ne nt (xs (x5 + (1 : Int32)).toNatClampNeg) (xs (x5 + (2 : Int32)).toNatClampNeg) fl)).bind fun v1 =>
  ((s_Mod_numberAt F mnow medg mcor mtri (xs (x5 + (1 : Int32)).toNatClampNeg) (xs (x5 + (2 : Int32)).toNatClampNeg))).bind fun v2 =>
  if (s_Mod_thrown v2.2.1) = v1.1 then
    if v1.1 = 0 then
      if (lg_cmp (v1.2 (0 : Int32).toNatClampNeg) ((v2.1).toInt64)) = 0 then
        some (v2.2.1, v2.2.2.1, v2.2.2.2.1, v2.2.2.2.2, v1.2)
      else
        none
    else
      some (v2.2.1, v2.2.2.1, v2.2.2.2.1, v2.2.2.2.2, v1.2)
  else
    none
def s_case_31 (F : Nat) (xs : Nat → Int32) (pxs : Nat → Int32) (pys : Nat → Int32) (ow : Nat → Int32) (co : Nat → Int32) (nt : Int32) (mnow : Nat → Int32) (medg : Nat → Int32) (mcor : Nat → Int32) (fl : Nat → Int64) (x5 : Int32) : Option (Int32 × (Nat → Int32) × (Nat → Int32) × Int32 × (Nat → Int64)) :=
  if (xs (x5 + (4 : Int32)).toNatClampNeg) = 0 then
    ((s_Law_walk F pxs pys ow co nt (xs (x5 + (1 : Int32)).toNatClampNeg) (xs (x5 + (2 : Int32)).toNatClampNeg) (xs (x5 + (3 : Int32)).toNatClampNeg) false fl)).bind fun v2 =>
    if (xs (x5 + (4 : Int32)).toNatClampNeg) = 0 then
      ((s_Mod_walk F mnow medg mcor (xs (x5 + (1 : Int32)).toNatClampNeg) (xs (x5 + (2 : Int32)).toNatClampNeg) (xs (x5 + (3 : Int32)).toNatClampNeg) false)).bind fun v4 =>
      if (s_Mod_thrown v4.2.1) = v2.1 then
        if v2.1 = 0 then
          if (lg_cmp (v2.2 (0 : Int32).toNatClampNeg) ((v4.1).toInt64)) = 0 then
            some (v4.2.1, v4.2.2.1, v4.2.2.2.1, v4.2.2.2.2, v2.2)
          else
            none
        else
          some (v4.2.1, v4.2.2.1, v4.2.2.2.1, v4.2.2.2.2, v2.2)
      else
        none
    else
      ((s_Mod_walk F mnow medg mcor (xs (x5 + (1 : Int32)).toNatClampNeg) (xs (x5 + (2 : Int32)).toNatClampNeg) (xs (x5 + (3 : Int32)).toNatClampNeg) true)).bind fun v8 =>
      if (s_Mod_thrown v8.2.1) = v2.1 then
        if v2.1 = 0 then
          if (lg_cmp (v2.2 (0 : Int32).toNatClampNeg) ((v8.1).toInt64)) = 0 then
            some (v8.2.1, v8.2.2.1, v8.2.2.2.1, v8.2.2.2.2, v2.2)
          else
            none
        else
          some (v8.2.1, v8.2.2.1, v8.2.2.2.1, v8.2.2.2.2, v2.2)
      else
        none
  else
    ((s_Law_walk F pxs pys ow co nt (xs (x5 + (1 : Int32)).toNatClampNeg) (xs (x5 + (2 : Int32)).toNatClampNeg) (xs (x5 + (3 : Int32)).toNatClampNeg) true fl)).bind fun v12 =>
    if (xs (x5 + (4 : Int32)).toNatClampNeg) = 0 then
      ((s_Mod_walk F mnow medg mcor (xs (x5 + (1 : Int32)).toNatClampNeg) (xs (x5 + (2 : Int32)).toNatClampNeg) (xs (x5 + (3 : Int32)).toNatClampNeg) false)).bind fun v14 =>
      if (s_Mod_thrown v14.2.1) = v12.1 then
        if v12.1 = 0 then
          if (lg_cmp (v12.2 (0 : Int32).toNatClampNeg) ((v14.1).toInt64)) = 0 then
            some (v14.2.1, v14.2.2.1, v14.2.2.2.1, v14.2.2.2.2, v12.2)
          else
            none
        else
          some (v14.2.1, v14.2.2.1, v14.2.2.2.1, v14.2.2.2.2, v12.2)
      else
        none
    else
      ((s_Mod_walk F mnow medg mcor (xs (x5 + (1 : Int32)).toNatClampNeg) (xs (x5 + (2 : Int32)).toNatClampNeg) (xs (x5 + (3 : Int32)).toNatClampNeg) true)).bind fun v18 =>
      if (s_Mod_thrown v18.2.1) = v12.1 then
        if v12.1 = 0 then
          if (lg_cmp (v12.2 (0 : Int32).toNatClampNeg) ((v18.1).toInt64)) = 0 then
            some (v18.2.1, v18.2.2.1, v18.2.2.2.1, v18.2.2.2.2, v12.2)
          else
            none
        else
          some (v18.2.1, v18.2.2.1, v18.2.2.2.1, v18.2.2.2.2, v12.2)
      else
        none
def s_case_32 (F : Nat) (xs : Nat → Int32) (pxs : Nat → Int32) (pys : Nat → Int32) (plo : Nat → Int32) (phi : Nat → Int32) (pn : Int32) (pm : Int32) (co : Nat → Int32) (nt : Int32) (tpxs : Nat → Int32) (tpys : Nat → Int32) (tplo : Nat → Int32) (tphi : Nat → Int32) (tpn : Int32) (tpm : Int32) (tlf : Nat → Int32) (tth : Nat → Int32) (tow : Nat → Int32) (tlk : Nat → Int32) (tel : Nat → Int32) (teh : Nat → Int32) (tco : Nat → Int32) (thu : Nat → Int32) (tne : Int32) (tnt : Int32) (tnh : Int32) (mnow : Nat → Int32) (medg : Nat → Int32) (mcor : Nat → Int32) (mtri : Int32) (mkep : Nat → Int32) (mkee : Nat → Int32) (mwor : Nat → Int32) (fl : Nat → Int64) (x5 : Int32) : Option ((Nat → Int32) × (Nat → Int32) × (Nat → Int32) × (Nat → Int32) × Int32 × Int32 × (Nat → Int32) × (Nat → Int32) × (Nat → Int32) × (Nat → Int32) × (Nat → Int32) × (Nat → Int32) × (Nat → Int32) × (Nat → Int32) × Int32 × Int32 × Int32 × Int32 × (Nat → Int32) × (Nat → Int32) × (Nat → Int32) × Int32 × (Nat → Int32) × (Nat → Int32) × (Nat → Int32) × (Nat → Int64)) :=
  ((s_Law_cavity F pxs pys plo phi pn pm co nt tpxs tpys tplo tphi tpn tpm tlf tth tow tlk tel teh tco thu tne tnt tnh (xs (x5 + (1 : Int32)).toNatClampNeg) (xs (x5 + (2 : Int32)).toNatClampNeg) fl)).bind fun v1 =>
  ((s_Mod_cavity F mnow medg mcor mtri mkep mkee mwor (xs (x5 + (1 : Int32)).toNatClampNeg) (xs (x5 + (2 : Int32)).toNatClampNeg))).bind fun v2 =>
  if (s_Mod_thrown v2.2.1) = v1.1 then
    if v1.1 = 0 then
      if (lg_cmp (v1.2.2.2.2.2.2.2.2.2.2.2.2.2.2.2.2.2.2 (0 : Int32).toNatClampNeg) ((v2.1).toInt64)) = 0 then
        some (v1.2.1, v1.2.2.1, v1.2.2.2.1, v1.2.2.2.2.1, v1.2.2.2.2.2.1, v1.2.2.2.2.2.2.1, v1.2.2.2.2.2.2.2.1, v1.2.2.2.2.2.2.2.2.1, v1.2.2.2.2.2.2.2.2.2.1, v1.2.2.2.2.2.2.2.2.2.2.1, v1.2.2.2.2.2.2.2.2.2.2.2.1, v1.2.2.2.2.2.2.2.2.2.2.2.2.1, v1.2.2.2.2.2.2.2.2.2.2.2.2.2.1, v1.2.2.2.2.2.2.2.2.2.2.2.2.2.2.1, v1.2.2.2.2.2.2.2.2.2.2.2.2.2.2.2.1, v1.2.2.2.2.2.2.2.2.2.2.2.2.2.2.2.2.1, v1.2.2.2.2.2.2.2.2.2.2.2.2.2.2.2.2.2.1, v2.2.1, v2.2.2.1, v2.2.2.2.1, v2.2.2.2.2.1, v2.2.2.2.2.2.1, v2.2.2.2.2.2.2.1, v2.2.2.2.2.2.2.2.1, v2.2.2.2.2.2.2.2.2, v1.2.2.2.2.2.2.2.2.2.2.2.2.2.2.2.2.2.2)
      else
        none
    else
      some (v1.2.1, v1.2.2.1, v1.2.2.2.1, v1.2.2.2.2.1, v1.2.2.2.2.2.1, v1.2.2.2.2.2.2.1, v1.2.2.2.2.2.2.2.1, v1.2.2.2.2.2.2.2.2.1, v1.2.2.2.2.2.2.2.2.2.1, v1.2.2.2.2.2.2.2.2.2.2.1, v1.2.2.2.2.2.2.2.2.2.2.2.1, v1.2.2.2.2.2.2.2.2.2.2.2.2.1, v1.2.2.2.2.2.2.2.2.2.2.2.2.2.1, v1.2.2.2.2.2.2.2.2.2.2.2.2.2.2.1, v1.2.2.2.2.2.2.2.2.2.2.2.2.2.2.2.1, v1.2.2.2.2.2.2.2.2.2.2.2.2.2.2.2.2.1, v1.2.2.2.2.2.2.2.2.2.2.2.2.2.2.2.2.2.1, v2.2.1, v2.2.2.1, v2.2.2.2.1, v2.2.2.2.2.1, v2.2.2.2.2.2.1, v2.2.2.2.2.2.2.1, v2.2.2.2.2.2.2.2.1, v2.2.2.2.2.2.2.2.2, v1.2.2.2.2.2.2.2.2.2.2.2.2.2.2.2.2.2.2)
  else
    none
def s_case_33 (F : Nat) (xs : Nat → Int32) (pxs : Nat → Int32) (pys : Nat → Int32) (plo : Nat → Int32) (phi : Nat → Int32) (pn : Int32) (pm : Int32) (th : Nat → Int32) (tpxs : Nat → Int32) (tpys : Nat → Int32) (tplo : Nat → Int32) (tphi : Nat → Int32) (tpn : Int32) (tpm : Int32) (tlf : Nat → Int32) (tth : Nat → Int32) (tow : Nat → Int32) (tlk : Nat → Int32) (tel : Nat → Int32) (teh : Nat → Int32) (tco : Nat → Int32) (thu : Nat → Int32) (tne : Int32) (tnt : Int32) (tnh : Int32) (mnow : Nat → Int32) (medg : Nat → Int32) (mcor : Nat → Int32) (mtri : Int32) (mkep : Nat → Int32) (mkee : Nat → Int32) (mwor : Nat → Int32) (fl : Nat → Int64) (x5 : Int32) : Option ((Nat → Int32) × (Nat → Int32) × (Nat → Int32) × (Nat → Int32) × Int32 × Int32 × (Nat → Int32) × (Nat → Int32) × (Nat → Int32) × (Nat → Int32) × (Nat → Int32) × (Nat → Int32) × (Nat → Int32) × (Nat → Int32) × Int32 × Int32 × Int32 × Int32 × (Nat → Int32) × (Nat → Int32) × (Nat → Int32) × Int32 × (Nat → Int32) × (Nat → Int32) × (Nat → Int32) × (Nat → Int64)) :=
  ((s_Law_hole F pxs pys plo phi pn pm th tpxs tpys tplo tphi tpn tpm tlf tth tow tlk tel teh tco thu tne tnt tnh (xs (x5 + (1 : Int32)).toNatClampNeg) fl)).bind fun v1 =>
  ((s_Mod_hole F mnow medg mcor mtri mkep mkee mwor (xs (x5 + (1 : Int32)).toNatClampNeg))).bind fun v2 =>
  if (s_Mod_thrown v2.2.1) = v1.1 then
    if v1.1 = 0 then
      if (lg_cmp (v1.2.2.2.2.2.2.2.2.2.2.2.2.2.2.2.2.2.2 (0 : Int32).toNatClampNeg) ((v2.1).toInt64)) = 0 then
        some (v1.2.1, v1.2.2.1, v1.2.2.2.1, v1.2.2.2.2.1, v1.2.2.2.2.2.1, v1.2.2.2.2.2.2.1, v1.2.2.2.2.2.2.2.1, v1.2.2.2.2.2.2.2.2.1, v1.2.2.2.2.2.2.2.2.2.1, v1.2.2.2.2.2.2.2.2.2.2.1, v1.2.2.2.2.2.2.2.2.2.2.2.1, v1.2.2.2.2.2.2.2.2.2.2.2.2.1, v1.2.2.2.2.2.2.2.2.2.2.2.2.2.1, v1.2.2.2.2.2.2.2.2.2.2.2.2.2.2.1, v1.2.2.2.2.2.2.2.2.2.2.2.2.2.2.2.1, v1.2.2.2.2.2.2.2.2.2.2.2.2.2.2.2.2.1, v1.2.2.2.2.2.2.2.2.2.2.2.2.2.2.2.2.2.1, v2.2.1, v2.2.2.1, v2.2.2.2.1, v2.2.2.2.2.1, v2.2.2.2.2.2.1, v2.2.2.2.2.2.2.1, v2.2.2.2.2.2.2.2.1, v2.2.2.2.2.2.2.2.2, v1.2.2.2.2.2.2.2.2.2.2.2.2.2.2.2.2.2.2)
      else
        none
    else
      some (v1.2.1, v1.2.2.1, v1.2.2.2.1, v1.2.2.2.2.1, v1.2.2.2.2.2.1, v1.2.2.2.2.2.2.1, v1.2.2.2.2.2.2.2.1, v1.2.2.2.2.2.2.2.2.1, v1.2.2.2.2.2.2.2.2.2.1, v1.2.2.2.2.2.2.2.2.2.2.1, v1.2.2.2.2.2.2.2.2.2.2.2.1, v1.2.2.2.2.2.2.2.2.2.2.2.2.1, v1.2.2.2.2.2.2.2.2.2.2.2.2.2.1, v1.2.2.2.2.2.2.2.2.2.2.2.2.2.2.1, v1.2.2.2.2.2.2.2.2.2.2.2.2.2.2.2.1, v1.2.2.2.2.2.2.2.2.2.2.2.2.2.2.2.2.1, v1.2.2.2.2.2.2.2.2.2.2.2.2.2.2.2.2.2.1, v2.2.1, v2.2.2.1, v2.2.2.2.1, v2.2.2.2.2.1, v2.2.2.2.2.2.1, v2.2.2.2.2.2.2.1, v2.2.2.2.2.2.2.2.1, v2.2.2.2.2.2.2.2.2, v1.2.2.2.2.2.2.2.2.2.2.2.2.2.2.2.2.2.2)
  else
    none
def s_case_34 (F : Nat) (xs : Nat → Int32) (pxs : Nat → Int32) (pys : Nat → Int32) (pn : Int32) (lf : Nat → Int32) (el : Nat → Int32) (eh : Nat → Int32) (ne : Int32) (mnow : Nat → Int32) (medg : Nat → Int32) (mcor : Nat → Int32) (mtri : Int32) (fl : Nat → Int64) (x5 : Int32) : Option (Int32 × (Nat → Int32) × (Nat → Int32) × Int32 × (Nat → Int64)) :=
  ((s_Law_crossings F pxs pys pn lf el eh ne (xs (x5 + (1 : Int32)).toNatClampNeg) (xs (x5 + (2 : Int32)).toNatClampNeg) fl)).bind fun v1 =>
  ((s_Mod_crossings F mnow medg mcor mtri (xs (x5 + (1 : Int32)).toNatClampNeg) (xs (x5 + (2 : Int32)).toNatClampNeg))).bind fun v2 =>
  if (s_Mod_thrown v2.2.1) = v1.1 then
    if v1.1 = 0 then
      if (lg_cmp (v1.2 (0 : Int32).toNatClampNeg) ((v2.1).toInt64)) = 0 then
        some (v2.2.1, v2.2.2.1, v2.2.2.2.1, v2.2.2.2.2, v1.2)
      else
        none
    else
      some (v2.2.1, v2.2.2.1, v2.2.2.2.1, v2.2.2.2.2, v1.2)
  else
    none
def s_case_35 (F : Nat) (xs : Nat → Int32) (pxs : Nat → Int32) (pys : Nat → Int32) (plo : Nat → Int32) (phi : Nat → Int32) (pn : Int32) (pm : Int32) (el : Nat → Int32) (eh : Nat → Int32) (ne : Int32) (tpxs : Nat → Int32) (tpys : Nat → Int32) (tplo : Nat → Int32) (tphi : Nat → Int32) (tpn : Int32) (tpm : Int32) (tlf : Nat → Int32) (tth : Nat → Int32) (tow : Nat → Int32) (tlk : Nat → Int32) (tel : Nat → Int32) (teh : Nat → Int32) (tco : Nat → Int32) (thu : Nat → Int32) (tne : Int32) (tnt : Int32) (tnh : Int32) (mnow : Nat → Int32) (medg : Nat → Int32) (mcor : Nat → Int32) (mtri : Int32) (mkep : Nat → Int32) (mkee : Nat → Int32) (mwor : Nat → Int32) (fl : Nat → Int64) (x5 : Int32) : Option ((Nat → Int32) × (Nat → Int32) × (Nat → Int32) × (Nat → Int32) × Int32 × Int32 × (Nat → Int32) × (Nat → Int32) × (Nat → Int32) × (Nat → Int32) × (Nat → Int32) × (Nat → Int32) × (Nat → Int32) × (Nat → Int32) × Int32 × Int32 × Int32 × Int32 × (Nat → Int32) × (Nat → Int32) × (Nat → Int32) × Int32 × (Nat → Int32) × (Nat → Int32) × (Nat → Int32) × (Nat → Int64)) :=
  ((s_Law_effect F pxs pys plo phi pn pm el eh ne tpxs tpys tplo tphi tpn tpm tlf tth tow tlk tel teh tco thu tne tnt tnh (xs (x5 + (1 : Int32)).toNatClampNeg) fl)).bind fun v1 =>
  ((s_Mod_effect F mnow medg mcor mtri mkep mkee mwor (xs (x5 + (1 : Int32)).toNatClampNeg))).bind fun v2 =>
  if (s_Mod_thrown v2.2.1) = v1.1 then
    if v1.1 = 0 then
      if (lg_cmp (v1.2.2.2.2.2.2.2.2.2.2.2.2.2.2.2.2.2.2 (0 : Int32).toNatClampNeg) ((v2.1).toInt64)) = 0 then
        some (v1.2.1, v1.2.2.1, v1.2.2.2.1, v1.2.2.2.2.1, v1.2.2.2.2.2.1, v1.2.2.2.2.2.2.1, v1.2.2.2.2.2.2.2.1, v1.2.2.2.2.2.2.2.2.1, v1.2.2.2.2.2.2.2.2.2.1, v1.2.2.2.2.2.2.2.2.2.2.1, v1.2.2.2.2.2.2.2.2.2.2.2.1, v1.2.2.2.2.2.2.2.2.2.2.2.2.1, v1.2.2.2.2.2.2.2.2.2.2.2.2.2.1, v1.2.2.2.2.2.2.2.2.2.2.2.2.2.2.1, v1.2.2.2.2.2.2.2.2.2.2.2.2.2.2.2.1, v1.2.2.2.2.2.2.2.2.2.2.2.2.2.2.2.2.1, v1.2.2.2.2.2.2.2.2.2.2.2.2.2.2.2.2.2.1, v2.2.1, v2.2.2.1, v2.2.2.2.1, v2.2.2.2.2.1, v2.2.2.2.2.2.1, v2.2.2.2.2.2.2.1, v2.2.2.2.2.2.2.2.1, v2.2.2.2.2.2.2.2.2, v1.2.2.2.2.2.2.2.2.2.2.2.2.2.2.2.2.2.2)
      else
        none
    else
      some (v1.2.1, v1.2.2.1, v1.2.2.2.1, v1.2.2.2.2.1, v1.2.2.2.2.2.1, v1.2.2.2.2.2.2.1, v1.2.2.2.2.2.2.2.1, v1.2.2.2.2.2.2.2.2.1, v1.2.2.2.2.2.2.2.2.2.1, v1.2.2.2.2.2.2.2.2.2.2.1, v1.2.2.2.2.2.2.2.2.2.2.2.1, v1.2.2.2.2.2.2.2.2.2.2.2.2.1, v1.2.2.2.2.2.2.2.2.2.2.2.2.2.1, v1.2.2.2.2.2.2.2.2.2.2.2.2.2.2.1, v1.2.2.2.2.2.2.2.2.2.2.2.2.2.2.2.1, v1.2.2.2.2.2.2.2.2.2.2.2.2.2.2.2.2.1, v1.2.2.2.2.2.2.2.2.2.2.2.2.2.2.2.2.2.1, v2.2.1, v2.2.2.1, v2.2.2.2.1, v2.2.2.2.2.1, v2.2.2.2.2.2.1, v2.2.2.2.2.2.2.1, v2.2.2.2.2.2.2.2.1, v2.2.2.2.2.2.2.2.2, v1.2.2.2.2.2.2.2.2.2.2.2.2.2.2.2.2.2.2)
  else
    none
def s_case_36 (F : Nat) (pxs : Nat → Int32) (pys : Nat → Int32) (plo : Nat → Int32) (phi : Nat → Int32) (pn : Int32) (pm : Int32) (lf : Nat → Int32) (th : Nat → Int32) (ow : Nat → Int32) (lk : Nat → Int32) (el : Nat → Int32) (eh : Nat → Int32) (co : Nat → Int32) (hu : Nat → Int32) (ne : Int32) (nt : Int32) (nh : Int32) (hp : Nat → PlanS) (hnx : Int32) (hkp : Int32) (mnow : Nat → Int32) (mold : Nat → Int32) (mols : Int32) (fl : Nat → Int64) : Option ((Nat → Int32) × (Nat → Int32) × (Nat → Int32) × (Nat → Int32) × Int32 × Int32 × (Nat → Int32) × (Nat → Int32) × (Nat → Int32) × (Nat → Int32) × (Nat → Int32) × (Nat → Int32) × (Nat → Int32) × (Nat → Int32) × Int32 × Int32 × Int32 × Int32 × Int32 × Int32 × (Nat → Int32) × Int32 × (Nat → Int64)) :=
  ((s_Law_undo F pxs pys plo phi pn pm lf th ow lk el eh co hu ne nt nh hp hnx hkp fl)).bind fun v1 =>
  ((s_Mod_undo F mnow mold mols)).bind fun v2 =>
  if (s_Mod_thrown v2.2.1) = v1.1 then
    if v1.1 = 0 then
      if (lg_cmp (v1.2.2.2.2.2.2.2.2.2.2.2.2.2.2.2.2.2.2.2.2 (0 : Int32).toNatClampNeg) ((v2.1).toInt64)) = 0 then
        some (v1.2.1, v1.2.2.1, v1.2.2.2.1, v1.2.2.2.2.1, v1.2.2.2.2.2.1, v1.2.2.2.2.2.2.1, v1.2.2.2.2.2.2.2.1, v1.2.2.2.2.2.2.2.2.1, v1.2.2.2.2.2.2.2.2.2.1, v1.2.2.2.2.2.2.2.2.2.2.1, v1.2.2.2.2.2.2.2.2.2.2.2.1, v1.2.2.2.2.2.2.2.2.2.2.2.2.1, v1.2.2.2.2.2.2.2.2.2.2.2.2.2.1, v1.2.2.2.2.2.2.2.2.2.2.2.2.2.2.1, v1.2.2.2.2.2.2.2.2.2.2.2.2.2.2.2.1, v1.2.2.2.2.2.2.2.2.2.2.2.2.2.2.2.2.1, v1.2.2.2.2.2.2.2.2.2.2.2.2.2.2.2.2.2.1, v1.2.2.2.2.2.2.2.2.2.2.2.2.2.2.2.2.2.2.1, v1.2.2.2.2.2.2.2.2.2.2.2.2.2.2.2.2.2.2.2.1, v2.2.1, v2.2.2.1, v2.2.2.2, v1.2.2.2.2.2.2.2.2.2.2.2.2.2.2.2.2.2.2.2.2)
      else
        none
    else
      some (v1.2.1, v1.2.2.1, v1.2.2.2.1, v1.2.2.2.2.1, v1.2.2.2.2.2.1, v1.2.2.2.2.2.2.1, v1.2.2.2.2.2.2.2.1, v1.2.2.2.2.2.2.2.2.1, v1.2.2.2.2.2.2.2.2.2.1, v1.2.2.2.2.2.2.2.2.2.2.1, v1.2.2.2.2.2.2.2.2.2.2.2.1, v1.2.2.2.2.2.2.2.2.2.2.2.2.1, v1.2.2.2.2.2.2.2.2.2.2.2.2.2.1, v1.2.2.2.2.2.2.2.2.2.2.2.2.2.2.1, v1.2.2.2.2.2.2.2.2.2.2.2.2.2.2.2.1, v1.2.2.2.2.2.2.2.2.2.2.2.2.2.2.2.2.1, v1.2.2.2.2.2.2.2.2.2.2.2.2.2.2.2.2.2.1, v1.2.2.2.2.2.2.2.2.2.2.2.2.2.2.2.2.2.2.1, v1.2.2.2.2.2.2.2.2.2.2.2.2.2.2.2.2.2.2.2.1, v2.2.1, v2.2.2.1, v2.2.2.2, v1.2.2.2.2.2.2.2.2.2.2.2.2.2.2.2.2.2.2.2.2)
  else
    none
def s_case_37 (F : Nat) (pxs : Nat → Int32) (pys : Nat → Int32) (plo : Nat → Int32) (phi : Nat → Int32) (pn : Int32) (pm : Int32) (spxs : Nat → Int32) (spys : Nat → Int32) (splo : Nat → Int32) (sphi : Nat → Int32) (mnow : Nat → Int32) (msav : Nat → Int32) : Option ((Nat → Int32) × (Nat → Int32) × (Nat → Int32) × (Nat → Int32) × Int32 × Int32 × Bool × Int32 × (Nat → Int32) × Bool) :=
  ((s_Top_save F pxs pys plo phi pn pm spxs spys splo sphi)).bind fun v1 =>
  ((s_Mod_save F mnow msav)).bind fun v2 =>
  if v1.1 = v2.1 then
    some (v1.2.1, v1.2.2.1, v1.2.2.2.1, v1.2.2.2.2.1, v1.2.2.2.2.2.1, v1.2.2.2.2.2.2.1, v1.2.2.2.2.2.2.2, v2.2.1, v2.2.2.1, v2.2.2.2)
  else
    none
def s_case_38 (F : Nat) (pxs : Nat → Int32) (pys : Nat → Int32) (plo : Nat → Int32) (phi : Nat → Int32) (pn : Int32) (pm : Int32) (lf : Nat → Int32) (th : Nat → Int32) (ow : Nat → Int32) (lk : Nat → Int32) (el : Nat → Int32) (eh : Nat → Int32) (co : Nat → Int32) (hu : Nat → Int32) (ne : Int32) (nt : Int32) (nh : Int32) (spxs : Nat → Int32) (spys : Nat → Int32) (splo : Nat → Int32) (sphi : Nat → Int32) (spn : Int32) (spm : Int32) (hkp : Int32) (hsv : Bool) (mnow : Nat → Int32) (mols : Int32) (msav : Nat → Int32) (miss : Bool) (fl : Nat → Int64) : Option ((Nat → Int32) × (Nat → Int32) × (Nat → Int32) × (Nat → Int32) × Int32 × Int32 × (Nat → Int32) × (Nat → Int32) × (Nat → Int32) × (Nat → Int32) × (Nat → Int32) × (Nat → Int32) × (Nat → Int32) × (Nat → Int32) × Int32 × Int32 × Int32 × Int32 × Int32 × (Nat → Int32) × Int32 × (Nat → Int64)) :=
  ((s_Law_restore F pxs pys plo phi pn pm lf th ow lk el eh co hu ne nt nh spxs spys splo sphi spn spm hkp hsv fl)).bind fun v1 =>
  ((s_Mod_restore F mnow mols msav miss)).bind fun v2 =>
  if (s_Mod_thrown v2.2.1) = v1.1 then
    if v1.1 = 0 then
      if (lg_cmp (v1.2.2.2.2.2.2.2.2.2.2.2.2.2.2.2.2.2.2.2 (0 : Int32).toNatClampNeg) ((v2.1).toInt64)) = 0 then
        some (v1.2.1, v1.2.2.1, v1.2.2.2.1, v1.2.2.2.2.1, v1.2.2.2.2.2.1, v1.2.2.2.2.2.2.1, v1.2.2.2.2.2.2.2.1, v1.2.2.2.2.2.2.2.2.1, v1.2.2.2.2.2.2.2.2.2.1, v1.2.2.2.2.2.2.2.2.2.2.1, v1.2.2.2.2.2.2.2.2.2.2.2.1, v1.2.2.2.2.2.2.2.2.2.2.2.2.1, v1.2.2.2.2.2.2.2.2.2.2.2.2.2.1, v1.2.2.2.2.2.2.2.2.2.2.2.2.2.2.1, v1.2.2.2.2.2.2.2.2.2.2.2.2.2.2.2.1, v1.2.2.2.2.2.2.2.2.2.2.2.2.2.2.2.2.1, v1.2.2.2.2.2.2.2.2.2.2.2.2.2.2.2.2.2.1, v1.2.2.2.2.2.2.2.2.2.2.2.2.2.2.2.2.2.2.1, v2.2.1, v2.2.2.1, v2.2.2.2, v1.2.2.2.2.2.2.2.2.2.2.2.2.2.2.2.2.2.2.2)
      else
        none
    else
      some (v1.2.1, v1.2.2.1, v1.2.2.2.1, v1.2.2.2.2.1, v1.2.2.2.2.2.1, v1.2.2.2.2.2.2.1, v1.2.2.2.2.2.2.2.1, v1.2.2.2.2.2.2.2.2.1, v1.2.2.2.2.2.2.2.2.2.1, v1.2.2.2.2.2.2.2.2.2.2.1, v1.2.2.2.2.2.2.2.2.2.2.2.1, v1.2.2.2.2.2.2.2.2.2.2.2.2.1, v1.2.2.2.2.2.2.2.2.2.2.2.2.2.1, v1.2.2.2.2.2.2.2.2.2.2.2.2.2.2.1, v1.2.2.2.2.2.2.2.2.2.2.2.2.2.2.2.1, v1.2.2.2.2.2.2.2.2.2.2.2.2.2.2.2.2.1, v1.2.2.2.2.2.2.2.2.2.2.2.2.2.2.2.2.2.1, v1.2.2.2.2.2.2.2.2.2.2.2.2.2.2.2.2.2.2.1, v2.2.1, v2.2.2.1, v2.2.2.2, v1.2.2.2.2.2.2.2.2.2.2.2.2.2.2.2.2.2.2.2)
  else
    none
