def s_Law_addPoint (F : Nat) (pxs : Nat → Int32) (pys : Nat → Int32) (plo : Nat → Int32) (phi : Nat → Int32) (pn : Int32) (pm : Int32) (lf : Nat → Int32) (th : Nat → Int32) (ow : Nat → Int32) (lk : Nat → Int32) (el : Nat → Int32) (eh : Nat → Int32) (co : Nat → Int32) (hu : Nat → Int32) (ne : Int32) (nt : Int32) (nh : Int32) (hp : Nat → PlanS) (hnx : Int32) (hkp : Int32) (a0 : Int32) (a1 : Int32) (fl : Nat → Int64) : Option (Int32 × (Nat → Int32) × (Nat → Int32) × Int32 × (Nat → Int32) × (Nat → Int32) × (Nat → Int32) × (Nat → Int32) × (Nat → Int32) × (Nat → Int32) × (Nat → Int32) × (Nat → Int32) × Int32 × Int32 × Int32 × (Nat → PlanS) × Int32 × Int32 × (Nat → Int64)) :=
  ((s_Top_addPoint F pxs pys plo phi pn pm lf th ow lk el eh co hu hp hnx hkp a0 a1)).bind fun v =>
  Sum.elim (fun E =>
    if E = "java/lang/IllegalArgumentException" then some ((1 : Int32), pxs, pys, pn, lf, th, ow, lk, el, eh, co, hu, ne, nt, nh, hp, hnx, hkp, fl) else
    if E = "java/lang/IllegalStateException" then some ((2 : Int32), pxs, pys, pn, lf, th, ow, lk, el, eh, co, hu, ne, nt, nh, hp, hnx, hkp, fl) else
    if E = "java/lang/UnsupportedOperationException" then some ((3 : Int32), pxs, pys, pn, lf, th, ow, lk, el, eh, co, hu, ne, nt, nh, hp, hnx, hkp, fl) else
    none) (fun q =>
    some ((0 : Int32), q.2.1, q.2.2.1, q.2.2.2.1, q.2.2.2.2.1, q.2.2.2.2.2.1, q.2.2.2.2.2.2.1, q.2.2.2.2.2.2.2.1, q.2.2.2.2.2.2.2.2.1, q.2.2.2.2.2.2.2.2.2.1, q.2.2.2.2.2.2.2.2.2.2.1, q.2.2.2.2.2.2.2.2.2.2.2.1, q.2.2.2.2.2.2.2.2.2.2.2.2.1, q.2.2.2.2.2.2.2.2.2.2.2.2.2.1, q.2.2.2.2.2.2.2.2.2.2.2.2.2.2.1, q.2.2.2.2.2.2.2.2.2.2.2.2.2.2.2.1, q.2.2.2.2.2.2.2.2.2.2.2.2.2.2.2.2.1, q.2.2.2.2.2.2.2.2.2.2.2.2.2.2.2.2.2, vp_updL fl (0 : Int32).toNatClampNeg (q.1).toInt64)) v

def s_Law_removePoint (F : Nat) (pxs : Nat → Int32) (pys : Nat → Int32) (plo : Nat → Int32) (phi : Nat → Int32) (pn : Int32) (pm : Int32) (lf : Nat → Int32) (th : Nat → Int32) (ow : Nat → Int32) (lk : Nat → Int32) (el : Nat → Int32) (eh : Nat → Int32) (co : Nat → Int32) (hu : Nat → Int32) (ne : Int32) (nt : Int32) (nh : Int32) (hp : Nat → PlanS) (hnx : Int32) (hkp : Int32) (a0 : Int32) (fl : Nat → Int64) : Option (Int32 × (Nat → Int32) × (Nat → Int32) × (Nat → Int32) × (Nat → Int32) × Int32 × (Nat → Int32) × (Nat → Int32) × (Nat → Int32) × (Nat → Int32) × (Nat → Int32) × (Nat → Int32) × (Nat → Int32) × (Nat → Int32) × Int32 × Int32 × Int32 × (Nat → PlanS) × Int32 × Int32 × (Nat → Int64)) :=
  ((s_Top_removePoint F pxs pys plo phi pn pm lf th ow lk el eh co hu hp hnx hkp a0)).bind fun v =>
  Sum.elim (fun E =>
    if E = "java/lang/IndexOutOfBoundsException" then some ((1 : Int32), pxs, pys, plo, phi, pn, lf, th, ow, lk, el, eh, co, hu, ne, nt, nh, hp, hnx, hkp, fl) else
    if E = "java/lang/IllegalStateException" then some ((2 : Int32), pxs, pys, plo, phi, pn, lf, th, ow, lk, el, eh, co, hu, ne, nt, nh, hp, hnx, hkp, fl) else
    none) (fun q =>
    some ((0 : Int32), q.2.1, q.2.2.1, q.2.2.2.1, q.2.2.2.2.1, q.2.2.2.2.2.1, q.2.2.2.2.2.2.1, q.2.2.2.2.2.2.2.1, q.2.2.2.2.2.2.2.2.1, q.2.2.2.2.2.2.2.2.2.1, q.2.2.2.2.2.2.2.2.2.2.1, q.2.2.2.2.2.2.2.2.2.2.2.1, q.2.2.2.2.2.2.2.2.2.2.2.2.1, q.2.2.2.2.2.2.2.2.2.2.2.2.2.1, q.2.2.2.2.2.2.2.2.2.2.2.2.2.2.1, q.2.2.2.2.2.2.2.2.2.2.2.2.2.2.2.1, q.2.2.2.2.2.2.2.2.2.2.2.2.2.2.2.2.1, q.2.2.2.2.2.2.2.2.2.2.2.2.2.2.2.2.2.1, q.2.2.2.2.2.2.2.2.2.2.2.2.2.2.2.2.2.2.1, q.2.2.2.2.2.2.2.2.2.2.2.2.2.2.2.2.2.2.2, vp_updL fl (0 : Int32).toNatClampNeg (q.1).toInt64)) v

def s_Law_movePoint (F : Nat) (pxs : Nat → Int32) (pys : Nat → Int32) (plo : Nat → Int32) (phi : Nat → Int32) (pn : Int32) (pm : Int32) (lf : Nat → Int32) (th : Nat → Int32) (ow : Nat → Int32) (lk : Nat → Int32) (el : Nat → Int32) (eh : Nat → Int32) (co : Nat → Int32) (hu : Nat → Int32) (ne : Int32) (nt : Int32) (nh : Int32) (hp : Nat → PlanS) (hnx : Int32) (hkp : Int32) (a0 : Int32) (a1 : Int32) (a2 : Int32) (fl : Nat → Int64) : Option (Int32 × (Nat → Int32) × (Nat → Int32) × (Nat → Int32) × (Nat → Int32) × (Nat → Int32) × (Nat → Int32) × (Nat → Int32) × (Nat → Int32) × (Nat → Int32) × (Nat → Int32) × Int32 × Int32 × Int32 × (Nat → PlanS) × Int32 × Int32 × (Nat → Int64)) :=
  ((s_Top_movePoint F pxs pys plo phi pn pm lf th ow lk el eh co hu hp hnx hkp a0 a1 a2)).bind fun v =>
  Sum.elim (fun E =>
    if E = "java/lang/IndexOutOfBoundsException" then some ((1 : Int32), pxs, pys, lf, th, ow, lk, el, eh, co, hu, ne, nt, nh, hp, hnx, hkp, fl) else
    if E = "java/lang/IllegalArgumentException" then some ((2 : Int32), pxs, pys, lf, th, ow, lk, el, eh, co, hu, ne, nt, nh, hp, hnx, hkp, fl) else
    if E = "java/lang/IllegalStateException" then some ((3 : Int32), pxs, pys, lf, th, ow, lk, el, eh, co, hu, ne, nt, nh, hp, hnx, hkp, fl) else
    if E = "java/lang/UnsupportedOperationException" then some ((4 : Int32), pxs, pys, lf, th, ow, lk, el, eh, co, hu, ne, nt, nh, hp, hnx, hkp, fl) else
    none) (fun q =>
    if bI q.1 = 0 then some ((0 : Int32), q.2.1, q.2.2.1, q.2.2.2.1, q.2.2.2.2.1, q.2.2.2.2.2.1, q.2.2.2.2.2.2.1, q.2.2.2.2.2.2.2.1, q.2.2.2.2.2.2.2.2.1, q.2.2.2.2.2.2.2.2.2.1, q.2.2.2.2.2.2.2.2.2.2.1, q.2.2.2.2.2.2.2.2.2.2.2.1, q.2.2.2.2.2.2.2.2.2.2.2.2.1, q.2.2.2.2.2.2.2.2.2.2.2.2.2.1, q.2.2.2.2.2.2.2.2.2.2.2.2.2.2.1, q.2.2.2.2.2.2.2.2.2.2.2.2.2.2.2.1, q.2.2.2.2.2.2.2.2.2.2.2.2.2.2.2.2, vp_updL fl (0 : Int32).toNatClampNeg (0 : Int64)) else some ((0 : Int32), q.2.1, q.2.2.1, q.2.2.2.1, q.2.2.2.2.1, q.2.2.2.2.2.1, q.2.2.2.2.2.2.1, q.2.2.2.2.2.2.2.1, q.2.2.2.2.2.2.2.2.1, q.2.2.2.2.2.2.2.2.2.1, q.2.2.2.2.2.2.2.2.2.2.1, q.2.2.2.2.2.2.2.2.2.2.2.1, q.2.2.2.2.2.2.2.2.2.2.2.2.1, q.2.2.2.2.2.2.2.2.2.2.2.2.2.1, q.2.2.2.2.2.2.2.2.2.2.2.2.2.2.1, q.2.2.2.2.2.2.2.2.2.2.2.2.2.2.2.1, q.2.2.2.2.2.2.2.2.2.2.2.2.2.2.2.2, vp_updL fl (0 : Int32).toNatClampNeg (1 : Int64))) v

def s_Law_coordinate (pxs : Nat → Int32) (pys : Nat → Int32) (pn : Int32) (a0 : Int32) (a1 : Int32) (fl : Nat → Int64) : Option (Int32 × (Nat → Int64)) :=
  Sum.elim (fun E =>
    if E = "java/lang/IndexOutOfBoundsException" then some ((1 : Int32), fl) else
    if E = "java/lang/IllegalArgumentException" then some ((2 : Int32), fl) else
    none) (fun q =>
    some ((0 : Int32), vp_updL fl (0 : Int32).toNatClampNeg (q).toInt64)) (s_Top_coordinate pxs pys pn a0 a1)

def s_Law_addConstraint (F : Nat) (pxs : Nat → Int32) (pys : Nat → Int32) (plo : Nat → Int32) (phi : Nat → Int32) (pn : Int32) (pm : Int32) (lf : Nat → Int32) (th : Nat → Int32) (ow : Nat → Int32) (lk : Nat → Int32) (el : Nat → Int32) (eh : Nat → Int32) (co : Nat → Int32) (hu : Nat → Int32) (ne : Int32) (nt : Int32) (nh : Int32) (hp : Nat → PlanS) (hnx : Int32) (hkp : Int32) (a0 : Int32) (a1 : Int32) (fl : Nat → Int64) : Option (Int32 × (Nat → Int32) × (Nat → Int32) × Int32 × (Nat → Int32) × (Nat → Int32) × (Nat → Int32) × (Nat → Int32) × (Nat → Int32) × (Nat → Int32) × (Nat → Int32) × (Nat → Int32) × Int32 × Int32 × Int32 × (Nat → PlanS) × Int32 × Int32 × (Nat → Int64)) :=
  ((s_Top_addConstraint F pxs pys plo phi pn pm lf th ow lk el eh co hu hp hnx hkp a0 a1)).bind fun v =>
  Sum.elim (fun E =>
    if E = "java/lang/IndexOutOfBoundsException" then some ((1 : Int32), plo, phi, pm, lf, th, ow, lk, el, eh, co, hu, ne, nt, nh, hp, hnx, hkp, fl) else
    if E = "java/lang/IllegalArgumentException" then some ((2 : Int32), plo, phi, pm, lf, th, ow, lk, el, eh, co, hu, ne, nt, nh, hp, hnx, hkp, fl) else
    if E = "java/lang/IllegalStateException" then some ((3 : Int32), plo, phi, pm, lf, th, ow, lk, el, eh, co, hu, ne, nt, nh, hp, hnx, hkp, fl) else
    if E = "java/lang/UnsupportedOperationException" then some ((4 : Int32), plo, phi, pm, lf, th, ow, lk, el, eh, co, hu, ne, nt, nh, hp, hnx, hkp, fl) else
    none) (fun q =>
    some ((0 : Int32), q.2.1, q.2.2.1, q.2.2.2.1, q.2.2.2.2.1, q.2.2.2.2.2.1, q.2.2.2.2.2.2.1, q.2.2.2.2.2.2.2.1, q.2.2.2.2.2.2.2.2.1, q.2.2.2.2.2.2.2.2.2.1, q.2.2.2.2.2.2.2.2.2.2.1, q.2.2.2.2.2.2.2.2.2.2.2.1, q.2.2.2.2.2.2.2.2.2.2.2.2.1, q.2.2.2.2.2.2.2.2.2.2.2.2.2.1, q.2.2.2.2.2.2.2.2.2.2.2.2.2.2.1, q.2.2.2.2.2.2.2.2.2.2.2.2.2.2.2.1, q.2.2.2.2.2.2.2.2.2.2.2.2.2.2.2.2.1, q.2.2.2.2.2.2.2.2.2.2.2.2.2.2.2.2.2, vp_updL fl (0 : Int32).toNatClampNeg (q.1).toInt64)) v

def s_Law_removeConstraint (F : Nat) (pxs : Nat → Int32) (pys : Nat → Int32) (plo : Nat → Int32) (phi : Nat → Int32) (pn : Int32) (pm : Int32) (lf : Nat → Int32) (th : Nat → Int32) (ow : Nat → Int32) (lk : Nat → Int32) (el : Nat → Int32) (eh : Nat → Int32) (co : Nat → Int32) (hu : Nat → Int32) (ne : Int32) (nt : Int32) (nh : Int32) (hp : Nat → PlanS) (hnx : Int32) (hkp : Int32) (a0 : Int32) (fl : Nat → Int64) : Option (Int32 × (Nat → Int32) × (Nat → Int32) × Int32 × (Nat → Int32) × (Nat → Int32) × (Nat → Int32) × (Nat → Int32) × (Nat → Int32) × (Nat → Int32) × (Nat → Int32) × (Nat → Int32) × Int32 × Int32 × Int32 × (Nat → PlanS) × Int32 × Int32 × (Nat → Int64)) :=
  ((s_Top_removeConstraint F pxs pys plo phi pn pm lf th ow lk el eh co hu hp hnx hkp a0)).bind fun v =>
  Sum.elim (fun E =>
    if E = "java/lang/IndexOutOfBoundsException" then some ((1 : Int32), plo, phi, pm, lf, th, ow, lk, el, eh, co, hu, ne, nt, nh, hp, hnx, hkp, fl) else
    none) (fun q =>
    some ((0 : Int32), q.2.1, q.2.2.1, q.2.2.2.1, q.2.2.2.2.1, q.2.2.2.2.2.1, q.2.2.2.2.2.2.1, q.2.2.2.2.2.2.2.1, q.2.2.2.2.2.2.2.2.1, q.2.2.2.2.2.2.2.2.2.1, q.2.2.2.2.2.2.2.2.2.2.1, q.2.2.2.2.2.2.2.2.2.2.2.1, q.2.2.2.2.2.2.2.2.2.2.2.2.1, q.2.2.2.2.2.2.2.2.2.2.2.2.2.1, q.2.2.2.2.2.2.2.2.2.2.2.2.2.2.1, q.2.2.2.2.2.2.2.2.2.2.2.2.2.2.2.1, q.2.2.2.2.2.2.2.2.2.2.2.2.2.2.2.2.1, q.2.2.2.2.2.2.2.2.2.2.2.2.2.2.2.2.2, vp_updL fl (0 : Int32).toNatClampNeg (q.1).toInt64)) v

def s_Law_constraintEnd (plo : Nat → Int32) (phi : Nat → Int32) (pm : Int32) (a0 : Int32) (a1 : Int32) (fl : Nat → Int64) : Option (Int32 × (Nat → Int64)) :=
  Sum.elim (fun E =>
    if E = "java/lang/IndexOutOfBoundsException" then some ((1 : Int32), fl) else
    if E = "java/lang/IllegalArgumentException" then some ((2 : Int32), fl) else
    none) (fun q =>
    some ((0 : Int32), vp_updL fl (0 : Int32).toNatClampNeg (q).toInt64)) (s_Top_constraintEnd plo phi pm a0 a1)

def s_Law_feed (ich : Nat → Int32) (iln : Int32) (a0 : Int32) (fl : Nat → Int64) : Option (Int32 × (Nat → Int32) × Int32 × (Nat → Int64)) :=
  Sum.elim (fun E =>
    if E = "java/lang/IllegalStateException" then some ((1 : Int32), ich, iln, fl) else
    none) (fun q =>
    some ((0 : Int32), q.2.1, q.2.2, vp_updL fl (0 : Int32).toNatClampNeg (q.1).toInt64)) (s_Top_feed ich iln a0)

def s_Law_corner (co : Nat → Int32) (nt : Int32) (a0 : Int32) (a1 : Int32) (fl : Nat → Int64) : Option (Int32 × (Nat → Int64)) :=
  Sum.elim (fun E =>
    if E = "java/lang/IndexOutOfBoundsException" then some ((1 : Int32), fl) else
    if E = "java/lang/IllegalArgumentException" then some ((2 : Int32), fl) else
    none) (fun q =>
    some ((0 : Int32), vp_updL fl (0 : Int32).toNatClampNeg (q).toInt64)) (s_Top_corner co nt a0 a1)

def s_Law_beyond (ow : Nat → Int32) (co : Nat → Int32) (nt : Int32) (a0 : Int32) (a1 : Int32) (fl : Nat → Int64) : Option (Int32 × (Nat → Int64)) :=
  Sum.elim (fun E =>
    if E = "java/lang/IndexOutOfBoundsException" then some ((1 : Int32), fl) else
    if E = "java/lang/IllegalArgumentException" then some ((2 : Int32), fl) else
    none) (fun q =>
    some ((0 : Int32), vp_updL fl (0 : Int32).toNatClampNeg (q).toInt64)) (s_Top_beyond ow co nt a0 a1)

def s_Law_edgeEnd (el : Nat → Int32) (eh : Nat → Int32) (ne : Int32) (a0 : Int32) (a1 : Int32) (fl : Nat → Int64) : Option (Int32 × (Nat → Int64)) :=
  Sum.elim (fun E =>
    if E = "java/lang/IndexOutOfBoundsException" then some ((1 : Int32), fl) else
    if E = "java/lang/IllegalArgumentException" then some ((2 : Int32), fl) else
    none) (fun q =>
    some ((0 : Int32), vp_updL fl (0 : Int32).toNatClampNeg (q).toInt64)) (s_Top_edgeEnd el eh ne a0 a1)

def s_Law_edgeBetween (F : Nat) (pn : Int32) (el : Nat → Int32) (eh : Nat → Int32) (ne : Int32) (a0 : Int32) (a1 : Int32) (fl : Nat → Int64) : Option (Int32 × (Nat → Int64)) :=
  ((s_Top_edgeBetween F pn el eh ne a0 a1)).bind fun v =>
  Sum.elim (fun E =>
    if E = "java/lang/IndexOutOfBoundsException" then some ((1 : Int32), fl) else
    if E = "java/util/NoSuchElementException" then some ((2 : Int32), fl) else
    none) (fun q =>
    some ((0 : Int32), vp_updL fl (0 : Int32).toNatClampNeg (q).toInt64)) v

def s_Law_degree (pn : Int32) (lk : Nat → Int32) (a0 : Int32) (fl : Nat → Int64) : Option (Int32 × (Nat → Int64)) :=
  Sum.elim (fun E =>
    if E = "java/lang/IndexOutOfBoundsException" then some ((1 : Int32), fl) else
    none) (fun q =>
    some ((0 : Int32), vp_updL fl (0 : Int32).toNatClampNeg (q).toInt64)) (s_Top_degree pn lk a0)

def s_Law_neighbour (F : Nat) (pn : Int32) (lk : Nat → Int32) (a0 : Int32) (a1 : Int32) (fl : Nat → Int64) : Option (Int32 × (Nat → Int64)) :=
  ((s_Top_neighbour F pn lk a0 a1)).bind fun v =>
  Sum.elim (fun E =>
    if E = "java/lang/IndexOutOfBoundsException" then some ((1 : Int32), fl) else
    if E = "java/util/NoSuchElementException" then some ((2 : Int32), fl) else
    none) (fun q =>
    some ((0 : Int32), vp_updL fl (0 : Int32).toNatClampNeg (q).toInt64)) v

def s_Law_hullPoint (hu : Nat → Int32) (nh : Int32) (a0 : Int32) (fl : Nat → Int64) : Option (Int32 × (Nat → Int64)) :=
  Sum.elim (fun E =>
    if E = "java/lang/IndexOutOfBoundsException" then some ((1 : Int32), fl) else
    none) (fun q =>
    some ((0 : Int32), vp_updL fl (0 : Int32).toNatClampNeg (q).toInt64)) (s_Top_hullPoint hu nh a0)

def s_Law_twiceArea (pxs : Nat → Int32) (pys : Nat → Int32) (co : Nat → Int32) (nt : Int32) (a0 : Int32) (fl : Nat → Int64) : Option (Int32 × (Nat → Int64)) :=
  Sum.elim (fun E =>
    if E = "java/lang/IndexOutOfBoundsException" then some ((1 : Int32), fl) else
    none) (fun q =>
    some ((0 : Int32), vp_updL fl (0 : Int32).toNatClampNeg (q).toInt64)) (s_Top_twiceArea pxs pys co nt a0)

def s_Law_areaShare (F : Nat) (pxs : Nat → Int32) (pys : Nat → Int32) (co : Nat → Int32) (nt : Int32) (a0 : Int32) (fd : Nat → UInt64) : Option (Int32 × (Nat → UInt64)) :=
  ((s_Top_areaShare F pxs pys co nt a0)).bind fun v =>
  Sum.elim (fun E =>
    if E = "java/lang/IndexOutOfBoundsException" then some ((1 : Int32), fd) else
    none) (fun q =>
    some ((0 : Int32), vf_upd fd (0 : Int32).toNatClampNeg q)) v

def s_Law_meanDegree (pn : Int32) (ne : Int32) (fd : Nat → UInt64) : Option (Int32 × (Nat → UInt64)) :=
  ((s_Top_meanDegree pn ne)).bind fun v =>
  Sum.elim (fun E =>
    if E = "java/util/NoSuchElementException" then some ((1 : Int32), fd) else
    none) (fun q =>
    some ((0 : Int32), vf_upd fd (0 : Int32).toNatClampNeg q)) v

def s_Law_squaredLength (F : Nat) (pxs : Nat → Int32) (pys : Nat → Int32) (pn : Int32) (el : Nat → Int32) (eh : Nat → Int32) (ne : Int32) (a0 : Int32) (fl : Nat → Int64) : Option (Int32 × (Nat → Int64)) :=
  ((s_Top_squaredLength F pxs pys pn el eh ne a0)).bind fun v =>
  Sum.elim (fun E =>
    if E = "java/lang/IllegalArgumentException" then some ((1 : Int32), fl) else
    if E = "java/util/NoSuchElementException" then some ((2 : Int32), fl) else
    none) (fun q =>
    some ((0 : Int32), vp_updL fl (0 : Int32).toNatClampNeg (q).toInt64)) v

def s_Law_turn (pxs : Nat → Int32) (pys : Nat → Int32) (pn : Int32) (a0 : Int32) (a1 : Int32) (a2 : Int32) (fl : Nat → Int64) : Option (Int32 × (Nat → Int64)) :=
  Sum.elim (fun E =>
    if E = "java/lang/IndexOutOfBoundsException" then some ((1 : Int32), fl) else
    none) (fun q =>
    some ((0 : Int32), vp_updL fl (0 : Int32).toNatClampNeg (q).toInt64)) (s_Top_turn pxs pys pn a0 a1 a2)

def s_Law_inCircle (pxs : Nat → Int32) (pys : Nat → Int32) (pn : Int32) (a0 : Int32) (a1 : Int32) (a2 : Int32) (a3 : Int32) (fl : Nat → Int64) : Option (Int32 × (Nat → Int64)) :=
  Sum.elim (fun E =>
    if E = "java/lang/IndexOutOfBoundsException" then some ((1 : Int32), fl) else
    if E = "java/lang/ArithmeticException" then some ((2 : Int32), fl) else
    none) (fun q =>
    some ((0 : Int32), vp_updL fl (0 : Int32).toNatClampNeg (q).toInt64)) (s_Top_inCircle pxs pys pn a0 a1 a2 a3)

def s_Law_isGood (pxs : Nat → Int32) (pys : Nat → Int32) (th : Nat → Int32) (el : Nat → Int32) (eh : Nat → Int32) (ne : Int32) (a0 : Int32) (fl : Nat → Int64) : Option (Int32 × (Nat → Int64)) :=
  Sum.elim (fun E =>
    if E = "java/lang/IndexOutOfBoundsException" then some ((1 : Int32), fl) else
    if E = "java/lang/UnsupportedOperationException" then some ((2 : Int32), fl) else
    none) (fun q =>
    if bI q = 0 then some ((0 : Int32), vp_updL fl (0 : Int32).toNatClampNeg (0 : Int64)) else some ((0 : Int32), vp_updL fl (0 : Int32).toNatClampNeg (1 : Int64))) (s_Top_isGood pxs pys th el eh ne a0)

def s_Law_kindAt (F : Nat) (pxs : Nat → Int32) (pys : Nat → Int32) (pn : Int32) (el : Nat → Int32) (eh : Nat → Int32) (co : Nat → Int32) (ne : Int32) (nt : Int32) (a0 : Int32) (a1 : Int32) (fl : Nat → Int64) : Option (Int32 × (Nat → Int64)) :=
  ((s_Top_kindAt F pxs pys pn el eh co ne nt a0 a1)).bind fun v =>
  Sum.elim (fun E =>
    if E = "java/lang/IllegalArgumentException" then some ((1 : Int32), fl) else
    none) (fun q =>
    some ((0 : Int32), vp_updL fl (0 : Int32).toNatClampNeg (q).toInt64)) v

def s_Law_numberAt (F : Nat) (pxs : Nat → Int32) (pys : Nat → Int32) (pn : Int32) (el : Nat → Int32) (eh : Nat → Int32) (co : Nat → Int32) (ne : Int32) (nt : Int32) (a0 : Int32) (a1 : Int32) (fl : Nat → Int64) : Option (Int32 × (Nat → Int64)) :=
  ((s_Top_numberAt F pxs pys pn el eh co ne nt a0 a1)).bind fun v =>
  Sum.elim (fun E =>
    if E = "java/lang/IllegalArgumentException" then some ((1 : Int32), fl) else
    if E = "java/util/NoSuchElementException" then some ((2 : Int32), fl) else
    none) (fun q =>
    some ((0 : Int32), vp_updL fl (0 : Int32).toNatClampNeg (q).toInt64)) v

def s_Law_walk (F : Nat) (pxs : Nat → Int32) (pys : Nat → Int32) (ow : Nat → Int32) (co : Nat → Int32) (nt : Int32) (a0 : Int32) (a1 : Int32) (a2 : Int32) (a3 : Bool) (fl : Nat → Int64) : Option (Int32 × (Nat → Int64)) :=
  ((s_Top_walk F pxs pys ow co nt a0 a1 a2 a3)).bind fun v =>
  Sum.elim (fun E =>
    if E = "java/lang/IndexOutOfBoundsException" then some ((1 : Int32), fl) else
    if E = "java/lang/IllegalArgumentException" then some ((2 : Int32), fl) else
    none) (fun q =>
    some ((0 : Int32), vp_updL fl (0 : Int32).toNatClampNeg (q).toInt64)) v

def s_Law_cavity (F : Nat) (pxs : Nat → Int32) (pys : Nat → Int32) (plo : Nat → Int32) (phi : Nat → Int32) (pn : Int32) (pm : Int32) (co : Nat → Int32) (nt : Int32) (tpxs : Nat → Int32) (tpys : Nat → Int32) (tplo : Nat → Int32) (tphi : Nat → Int32) (tpn : Int32) (tpm : Int32) (tlf : Nat → Int32) (tth : Nat → Int32) (tow : Nat → Int32) (tlk : Nat → Int32) (tel : Nat → Int32) (teh : Nat → Int32) (tco : Nat → Int32) (thu : Nat → Int32) (tne : Int32) (tnt : Int32) (tnh : Int32) (a0 : Int32) (a1 : Int32) (fl : Nat → Int64) : Option (Int32 × (Nat → Int32) × (Nat → Int32) × (Nat → Int32) × (Nat → Int32) × Int32 × Int32 × (Nat → Int32) × (Nat → Int32) × (Nat → Int32) × (Nat → Int32) × (Nat → Int32) × (Nat → Int32) × (Nat → Int32) × (Nat → Int32) × Int32 × Int32 × Int32 × (Nat → Int64)) :=
  ((s_Top_cavity F pxs pys plo phi pn pm co nt tpxs tpys tplo tphi tlf tth tow tlk tel teh tco thu a0 a1)).bind fun v =>
  Sum.elim (fun E =>
    if E = "java/lang/IllegalArgumentException" then some ((1 : Int32), tpxs, tpys, tplo, tphi, tpn, tpm, tlf, tth, tow, tlk, tel, teh, tco, thu, tne, tnt, tnh, fl) else
    if E = "java/lang/IllegalStateException" then some ((2 : Int32), tpxs, tpys, tplo, tphi, tpn, tpm, tlf, tth, tow, tlk, tel, teh, tco, thu, tne, tnt, tnh, fl) else
    if E = "java/lang/UnsupportedOperationException" then some ((3 : Int32), tpxs, tpys, tplo, tphi, tpn, tpm, tlf, tth, tow, tlk, tel, teh, tco, thu, tne, tnt, tnh, fl) else
    none) (fun q =>
    some ((0 : Int32), q.2.1, q.2.2.1, q.2.2.2.1, q.2.2.2.2.1, q.2.2.2.2.2.1, q.2.2.2.2.2.2.1, q.2.2.2.2.2.2.2.1, q.2.2.2.2.2.2.2.2.1, q.2.2.2.2.2.2.2.2.2.1, q.2.2.2.2.2.2.2.2.2.2.1, q.2.2.2.2.2.2.2.2.2.2.2.1, q.2.2.2.2.2.2.2.2.2.2.2.2.1, q.2.2.2.2.2.2.2.2.2.2.2.2.2.1, q.2.2.2.2.2.2.2.2.2.2.2.2.2.2.1, q.2.2.2.2.2.2.2.2.2.2.2.2.2.2.2.1, q.2.2.2.2.2.2.2.2.2.2.2.2.2.2.2.2.1, q.2.2.2.2.2.2.2.2.2.2.2.2.2.2.2.2.2, vp_updL fl (0 : Int32).toNatClampNeg (q.1).toInt64)) v

def s_Law_hole (F : Nat) (pxs : Nat → Int32) (pys : Nat → Int32) (plo : Nat → Int32) (phi : Nat → Int32) (pn : Int32) (pm : Int32) (th : Nat → Int32) (tpxs : Nat → Int32) (tpys : Nat → Int32) (tplo : Nat → Int32) (tphi : Nat → Int32) (tpn : Int32) (tpm : Int32) (tlf : Nat → Int32) (tth : Nat → Int32) (tow : Nat → Int32) (tlk : Nat → Int32) (tel : Nat → Int32) (teh : Nat → Int32) (tco : Nat → Int32) (thu : Nat → Int32) (tne : Int32) (tnt : Int32) (tnh : Int32) (a0 : Int32) (fl : Nat → Int64) : Option (Int32 × (Nat → Int32) × (Nat → Int32) × (Nat → Int32) × (Nat → Int32) × Int32 × Int32 × (Nat → Int32) × (Nat → Int32) × (Nat → Int32) × (Nat → Int32) × (Nat → Int32) × (Nat → Int32) × (Nat → Int32) × (Nat → Int32) × Int32 × Int32 × Int32 × (Nat → Int64)) :=
  ((s_Top_hole F pxs pys plo phi pn pm th tpxs tpys tplo tphi tlf tth tow tlk tel teh tco thu a0)).bind fun v =>
  Sum.elim (fun E =>
    if E = "java/lang/IndexOutOfBoundsException" then some ((1 : Int32), tpxs, tpys, tplo, tphi, tpn, tpm, tlf, tth, tow, tlk, tel, teh, tco, thu, tne, tnt, tnh, fl) else
    if E = "java/lang/IllegalStateException" then some ((2 : Int32), tpxs, tpys, tplo, tphi, tpn, tpm, tlf, tth, tow, tlk, tel, teh, tco, thu, tne, tnt, tnh, fl) else
    none) (fun q =>
    some ((0 : Int32), q.2.1, q.2.2.1, q.2.2.2.1, q.2.2.2.2.1, q.2.2.2.2.2.1, q.2.2.2.2.2.2.1, q.2.2.2.2.2.2.2.1, q.2.2.2.2.2.2.2.2.1, q.2.2.2.2.2.2.2.2.2.1, q.2.2.2.2.2.2.2.2.2.2.1, q.2.2.2.2.2.2.2.2.2.2.2.1, q.2.2.2.2.2.2.2.2.2.2.2.2.1, q.2.2.2.2.2.2.2.2.2.2.2.2.2.1, q.2.2.2.2.2.2.2.2.2.2.2.2.2.2.1, q.2.2.2.2.2.2.2.2.2.2.2.2.2.2.2.1, q.2.2.2.2.2.2.2.2.2.2.2.2.2.2.2.2.1, q.2.2.2.2.2.2.2.2.2.2.2.2.2.2.2.2.2, vp_updL fl (0 : Int32).toNatClampNeg (q.1).toInt64)) v

def s_Law_crossings (F : Nat) (pxs : Nat → Int32) (pys : Nat → Int32) (pn : Int32) (lf : Nat → Int32) (el : Nat → Int32) (eh : Nat → Int32) (ne : Int32) (a0 : Int32) (a1 : Int32) (fl : Nat → Int64) : Option (Int32 × (Nat → Int64)) :=
  ((s_Top_crossings F pxs pys pn lf el eh ne a0 a1)).bind fun v =>
  Sum.elim (fun E =>
    if E = "java/lang/IndexOutOfBoundsException" then some ((1 : Int32), fl) else
    if E = "java/lang/IllegalArgumentException" then some ((2 : Int32), fl) else
    none) (fun q =>
    some ((0 : Int32), vp_updL fl (0 : Int32).toNatClampNeg (q).toInt64)) v

def s_Law_effect (F : Nat) (pxs : Nat → Int32) (pys : Nat → Int32) (plo : Nat → Int32) (phi : Nat → Int32) (pn : Int32) (pm : Int32) (el : Nat → Int32) (eh : Nat → Int32) (ne : Int32) (tpxs : Nat → Int32) (tpys : Nat → Int32) (tplo : Nat → Int32) (tphi : Nat → Int32) (tpn : Int32) (tpm : Int32) (tlf : Nat → Int32) (tth : Nat → Int32) (tow : Nat → Int32) (tlk : Nat → Int32) (tel : Nat → Int32) (teh : Nat → Int32) (tco : Nat → Int32) (thu : Nat → Int32) (tne : Int32) (tnt : Int32) (tnh : Int32) (a0 : Int32) (fl : Nat → Int64) : Option (Int32 × (Nat → Int32) × (Nat → Int32) × (Nat → Int32) × (Nat → Int32) × Int32 × Int32 × (Nat → Int32) × (Nat → Int32) × (Nat → Int32) × (Nat → Int32) × (Nat → Int32) × (Nat → Int32) × (Nat → Int32) × (Nat → Int32) × Int32 × Int32 × Int32 × (Nat → Int64)) :=
  ((s_Top_effect F pxs pys plo phi pn pm el eh ne tpxs tpys tplo tphi tlf tth tow tlk tel teh tco thu a0)).bind fun v =>
  Sum.elim (fun E =>
    if E = "java/lang/IndexOutOfBoundsException" then some ((1 : Int32), tpxs, tpys, tplo, tphi, tpn, tpm, tlf, tth, tow, tlk, tel, teh, tco, thu, tne, tnt, tnh, fl) else
    none) (fun q =>
    some ((0 : Int32), q.2.1, q.2.2.1, q.2.2.2.1, q.2.2.2.2.1, q.2.2.2.2.2.1, q.2.2.2.2.2.2.1, q.2.2.2.2.2.2.2.1, q.2.2.2.2.2.2.2.2.1, q.2.2.2.2.2.2.2.2.2.1, q.2.2.2.2.2.2.2.2.2.2.1, q.2.2.2.2.2.2.2.2.2.2.2.1, q.2.2.2.2.2.2.2.2.2.2.2.2.1, q.2.2.2.2.2.2.2.2.2.2.2.2.2.1, q.2.2.2.2.2.2.2.2.2.2.2.2.2.2.1, q.2.2.2.2.2.2.2.2.2.2.2.2.2.2.2.1, q.2.2.2.2.2.2.2.2.2.2.2.2.2.2.2.2.1, q.2.2.2.2.2.2.2.2.2.2.2.2.2.2.2.2.2, vp_updL fl (0 : Int32).toNatClampNeg (q.1).toInt64)) v

def s_Law_undo (F : Nat) (pxs : Nat → Int32) (pys : Nat → Int32) (plo : Nat → Int32) (phi : Nat → Int32) (pn : Int32) (pm : Int32) (lf : Nat → Int32) (th : Nat → Int32) (ow : Nat → Int32) (lk : Nat → Int32) (el : Nat → Int32) (eh : Nat → Int32) (co : Nat → Int32) (hu : Nat → Int32) (ne : Int32) (nt : Int32) (nh : Int32) (hp : Nat → PlanS) (hnx : Int32) (hkp : Int32) (fl : Nat → Int64) : Option (Int32 × (Nat → Int32) × (Nat → Int32) × (Nat → Int32) × (Nat → Int32) × Int32 × Int32 × (Nat → Int32) × (Nat → Int32) × (Nat → Int32) × (Nat → Int32) × (Nat → Int32) × (Nat → Int32) × (Nat → Int32) × (Nat → Int32) × Int32 × Int32 × Int32 × Int32 × Int32 × (Nat → Int64)) :=
  ((s_Top_undo F pxs pys plo phi pn pm lf th ow lk el eh co hu hp hnx hkp)).bind fun v =>
  Sum.elim (fun E =>
    if E = "java/lang/IllegalStateException" then some ((1 : Int32), pxs, pys, plo, phi, pn, pm, lf, th, ow, lk, el, eh, co, hu, ne, nt, nh, hnx, hkp, fl) else
    none) (fun q =>
    some ((0 : Int32), q.2.1, q.2.2.1, q.2.2.2.1, q.2.2.2.2.1, q.2.2.2.2.2.1, q.2.2.2.2.2.2.1, q.2.2.2.2.2.2.2.1, q.2.2.2.2.2.2.2.2.1, q.2.2.2.2.2.2.2.2.2.1, q.2.2.2.2.2.2.2.2.2.2.1, q.2.2.2.2.2.2.2.2.2.2.2.1, q.2.2.2.2.2.2.2.2.2.2.2.2.1, q.2.2.2.2.2.2.2.2.2.2.2.2.2.1, q.2.2.2.2.2.2.2.2.2.2.2.2.2.2.1, q.2.2.2.2.2.2.2.2.2.2.2.2.2.2.2.1, q.2.2.2.2.2.2.2.2.2.2.2.2.2.2.2.2.1, q.2.2.2.2.2.2.2.2.2.2.2.2.2.2.2.2.2.1, q.2.2.2.2.2.2.2.2.2.2.2.2.2.2.2.2.2.2.1, q.2.2.2.2.2.2.2.2.2.2.2.2.2.2.2.2.2.2.2, vp_updL fl (0 : Int32).toNatClampNeg (q.1).toInt64)) v

def s_Law_restore (F : Nat) (pxs : Nat → Int32) (pys : Nat → Int32) (plo : Nat → Int32) (phi : Nat → Int32) (pn : Int32) (pm : Int32) (lf : Nat → Int32) (th : Nat → Int32) (ow : Nat → Int32) (lk : Nat → Int32) (el : Nat → Int32) (eh : Nat → Int32) (co : Nat → Int32) (hu : Nat → Int32) (ne : Int32) (nt : Int32) (nh : Int32) (spxs : Nat → Int32) (spys : Nat → Int32) (splo : Nat → Int32) (sphi : Nat → Int32) (spn : Int32) (spm : Int32) (hkp : Int32) (hsv : Bool) (fl : Nat → Int64) : Option (Int32 × (Nat → Int32) × (Nat → Int32) × (Nat → Int32) × (Nat → Int32) × Int32 × Int32 × (Nat → Int32) × (Nat → Int32) × (Nat → Int32) × (Nat → Int32) × (Nat → Int32) × (Nat → Int32) × (Nat → Int32) × (Nat → Int32) × Int32 × Int32 × Int32 × Int32 × (Nat → Int64)) :=
  ((s_Top_restore F pxs pys plo phi lf th ow lk el eh co hu spxs spys splo sphi spn spm hsv)).bind fun v =>
  Sum.elim (fun E =>
    if E = "java/lang/IllegalStateException" then some ((1 : Int32), pxs, pys, plo, phi, pn, pm, lf, th, ow, lk, el, eh, co, hu, ne, nt, nh, hkp, fl) else
    none) (fun q =>
    some ((0 : Int32), q.2.1, q.2.2.1, q.2.2.2.1, q.2.2.2.2.1, q.2.2.2.2.2.1, q.2.2.2.2.2.2.1, q.2.2.2.2.2.2.2.1, q.2.2.2.2.2.2.2.2.1, q.2.2.2.2.2.2.2.2.2.1, q.2.2.2.2.2.2.2.2.2.2.1, q.2.2.2.2.2.2.2.2.2.2.2.1, q.2.2.2.2.2.2.2.2.2.2.2.2.1, q.2.2.2.2.2.2.2.2.2.2.2.2.2.1, q.2.2.2.2.2.2.2.2.2.2.2.2.2.2.1, q.2.2.2.2.2.2.2.2.2.2.2.2.2.2.2.1, q.2.2.2.2.2.2.2.2.2.2.2.2.2.2.2.2.1, q.2.2.2.2.2.2.2.2.2.2.2.2.2.2.2.2.2.1, q.2.2.2.2.2.2.2.2.2.2.2.2.2.2.2.2.2.2, vp_updL fl (0 : Int32).toNatClampNeg (q.1).toInt64)) v
