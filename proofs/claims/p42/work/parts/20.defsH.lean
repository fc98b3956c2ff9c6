/-! the whole state of an object as one value -/
abbrev MshS : Type := (Nat → Int32) × (Nat → Int32) × (Nat → Int32) × (Nat → Int32) × (Nat → Int32) × (Nat → Int32) × (Nat → Int32) × (Nat → Int32) × Int32 × Int32 × Int32
abbrev InpS : Type := (Nat → Int32) × (Nat → Int32) × (Nat → Int32) × (Nat → Int32) × Int32 × Int32 × Bool × Int32 × Int32
abbrev TopS : Type := PlanS × MshS × PlanS × MshS × PlanS × InpS × ((Nat → PlanS) × Int32 × Int32) × Bool
def wO (K : KT) (ad : Nat → Nat) (S : TopS) : va_W := wTop K ad S.1.1 S.1.2.1 S.1.2.2.1 S.1.2.2.2.1 S.1.2.2.2.2.1 S.1.2.2.2.2.2 S.2.1.1 S.2.1.2.1 S.2.1.2.2.1 S.2.1.2.2.2.1 S.2.1.2.2.2.2.1 S.2.1.2.2.2.2.2.1 S.2.1.2.2.2.2.2.2.1 S.2.1.2.2.2.2.2.2.2.1 S.2.1.2.2.2.2.2.2.2.2.1 S.2.1.2.2.2.2.2.2.2.2.2.1 S.2.1.2.2.2.2.2.2.2.2.2.2 S.2.2.1.1 S.2.2.1.2.1 S.2.2.1.2.2.1 S.2.2.1.2.2.2.1 S.2.2.1.2.2.2.2.1 S.2.2.1.2.2.2.2.2 S.2.2.2.1.1 S.2.2.2.1.2.1 S.2.2.2.1.2.2.1 S.2.2.2.1.2.2.2.1 S.2.2.2.1.2.2.2.2.1 S.2.2.2.1.2.2.2.2.2.1 S.2.2.2.1.2.2.2.2.2.2.1 S.2.2.2.1.2.2.2.2.2.2.2.1 S.2.2.2.1.2.2.2.2.2.2.2.2.1 S.2.2.2.1.2.2.2.2.2.2.2.2.2.1 S.2.2.2.1.2.2.2.2.2.2.2.2.2.2 S.2.2.2.2.1.1 S.2.2.2.2.1.2.1 S.2.2.2.2.1.2.2.1 S.2.2.2.2.1.2.2.2.1 S.2.2.2.2.1.2.2.2.2.1 S.2.2.2.2.1.2.2.2.2.2 S.2.2.2.2.2.1.1 S.2.2.2.2.2.1.2.1 S.2.2.2.2.2.1.2.2.1 S.2.2.2.2.2.1.2.2.2.1 S.2.2.2.2.2.1.2.2.2.2.1 S.2.2.2.2.2.1.2.2.2.2.2.1 S.2.2.2.2.2.1.2.2.2.2.2.2.1 S.2.2.2.2.2.1.2.2.2.2.2.2.2.1 S.2.2.2.2.2.1.2.2.2.2.2.2.2.2 S.2.2.2.2.2.2.1.1 S.2.2.2.2.2.2.1.2.1 S.2.2.2.2.2.2.1.2.2 S.2.2.2.2.2.2.2
set_option maxRecDepth 100000 in
theorem wO_adr (K : KT) (ad : Nat → Nat) (S T : TopS) : (wO K ad S).map Prod.fst = (wO K ad T).map Prod.fst := rfl
set_option maxRecDepth 100000 in
theorem wO_0 (K : KT) (ad : Nat → Nat) (S : TopS) : (wO K ad S)[0]? = some (ad 0, .inr (6, [.ref (ad 2), .ref (ad 1), .ref (ad 28), .ref (ad 27), .ref (ad 53), .ref (ad 71), .ref (ad 62), .int (bI S.2.2.2.2.2.2.2)])) := rfl
def s_h_point (F : Nat) (S : TopS) (a0 : Int32) (a1 : Int32) : Option (Int32 × TopS) :=
  ((s_Top_addPoint F S.1.1 S.1.2.1 S.1.2.2.1 S.1.2.2.2.1 S.1.2.2.2.2.1 S.1.2.2.2.2.2 S.2.1.1 S.2.1.2.1 S.2.1.2.2.1 S.2.1.2.2.2.1 S.2.1.2.2.2.2.1 S.2.1.2.2.2.2.2.1 S.2.1.2.2.2.2.2.2.1 S.2.1.2.2.2.2.2.2.2.1 S.2.2.2.2.2.2.1.1 S.2.2.2.2.2.2.1.2.1 S.2.2.2.2.2.2.1.2.2 a0 a1)).bind fun v =>
  Sum.elim (fun E =>
    if E = "java/lang/IllegalArgumentException" then some ((-1001 : Int32), S) else
    if E = "java/lang/IllegalStateException" then some ((-1002 : Int32), S) else
    if E = "java/lang/UnsupportedOperationException" then some ((-1003 : Int32), S) else
    none) (fun q => some (q.1, ((q.2.1, q.2.2.1, S.1.2.2.1, S.1.2.2.2.1, q.2.2.2.1, S.1.2.2.2.2.2), (q.2.2.2.2.1, q.2.2.2.2.2.1, q.2.2.2.2.2.2.1, q.2.2.2.2.2.2.2.1, q.2.2.2.2.2.2.2.2.1, q.2.2.2.2.2.2.2.2.2.1, q.2.2.2.2.2.2.2.2.2.2.1, q.2.2.2.2.2.2.2.2.2.2.2.1, q.2.2.2.2.2.2.2.2.2.2.2.2.1, q.2.2.2.2.2.2.2.2.2.2.2.2.2.1, q.2.2.2.2.2.2.2.2.2.2.2.2.2.2.1), S.2.2.1, S.2.2.2.1, S.2.2.2.2.1, S.2.2.2.2.2.1, (q.2.2.2.2.2.2.2.2.2.2.2.2.2.2.2.1, q.2.2.2.2.2.2.2.2.2.2.2.2.2.2.2.2.1, q.2.2.2.2.2.2.2.2.2.2.2.2.2.2.2.2.2), S.2.2.2.2.2.2.2))) v

def s_h_remove (F : Nat) (S : TopS) (a0 : Int32) : Option (Int32 × TopS) :=
  ((s_Top_removePoint F S.1.1 S.1.2.1 S.1.2.2.1 S.1.2.2.2.1 S.1.2.2.2.2.1 S.1.2.2.2.2.2 S.2.1.1 S.2.1.2.1 S.2.1.2.2.1 S.2.1.2.2.2.1 S.2.1.2.2.2.2.1 S.2.1.2.2.2.2.2.1 S.2.1.2.2.2.2.2.2.1 S.2.1.2.2.2.2.2.2.2.1 S.2.2.2.2.2.2.1.1 S.2.2.2.2.2.2.1.2.1 S.2.2.2.2.2.2.1.2.2 a0)).bind fun v =>
  Sum.elim (fun E =>
    if E = "java/lang/IndexOutOfBoundsException" then some ((-1001 : Int32), S) else
    if E = "java/lang/IllegalStateException" then some ((-1002 : Int32), S) else
    none) (fun q => some (q.1, ((q.2.1, q.2.2.1, q.2.2.2.1, q.2.2.2.2.1, q.2.2.2.2.2.1, S.1.2.2.2.2.2), (q.2.2.2.2.2.2.1, q.2.2.2.2.2.2.2.1, q.2.2.2.2.2.2.2.2.1, q.2.2.2.2.2.2.2.2.2.1, q.2.2.2.2.2.2.2.2.2.2.1, q.2.2.2.2.2.2.2.2.2.2.2.1, q.2.2.2.2.2.2.2.2.2.2.2.2.1, q.2.2.2.2.2.2.2.2.2.2.2.2.2.1, q.2.2.2.2.2.2.2.2.2.2.2.2.2.2.1, q.2.2.2.2.2.2.2.2.2.2.2.2.2.2.2.1, q.2.2.2.2.2.2.2.2.2.2.2.2.2.2.2.2.1), S.2.2.1, S.2.2.2.1, S.2.2.2.2.1, S.2.2.2.2.2.1, (q.2.2.2.2.2.2.2.2.2.2.2.2.2.2.2.2.2.1, q.2.2.2.2.2.2.2.2.2.2.2.2.2.2.2.2.2.2.1, q.2.2.2.2.2.2.2.2.2.2.2.2.2.2.2.2.2.2.2), S.2.2.2.2.2.2.2))) v

def s_h_move (F : Nat) (S : TopS) (a0 : Int32) (a1 : Int32) (a2 : Int32) : Option (Int32 × TopS) :=
  ((s_Top_movePoint F S.1.1 S.1.2.1 S.1.2.2.1 S.1.2.2.2.1 S.1.2.2.2.2.1 S.1.2.2.2.2.2 S.2.1.1 S.2.1.2.1 S.2.1.2.2.1 S.2.1.2.2.2.1 S.2.1.2.2.2.2.1 S.2.1.2.2.2.2.2.1 S.2.1.2.2.2.2.2.2.1 S.2.1.2.2.2.2.2.2.2.1 S.2.2.2.2.2.2.1.1 S.2.2.2.2.2.2.1.2.1 S.2.2.2.2.2.2.1.2.2 a0 a1 a2)).bind fun v =>
  Sum.elim (fun E =>
    if E = "java/lang/IndexOutOfBoundsException" then some ((-1001 : Int32), S) else
    if E = "java/lang/IllegalArgumentException" then some ((-1002 : Int32), S) else
    if E = "java/lang/IllegalStateException" then some ((-1003 : Int32), S) else
    if E = "java/lang/UnsupportedOperationException" then some ((-1004 : Int32), S) else
    none) (fun q => some (bI (q.1), ((q.2.1, q.2.2.1, S.1.2.2.1, S.1.2.2.2.1, S.1.2.2.2.2.1, S.1.2.2.2.2.2), (q.2.2.2.1, q.2.2.2.2.1, q.2.2.2.2.2.1, q.2.2.2.2.2.2.1, q.2.2.2.2.2.2.2.1, q.2.2.2.2.2.2.2.2.1, q.2.2.2.2.2.2.2.2.2.1, q.2.2.2.2.2.2.2.2.2.2.1, q.2.2.2.2.2.2.2.2.2.2.2.1, q.2.2.2.2.2.2.2.2.2.2.2.2.1, q.2.2.2.2.2.2.2.2.2.2.2.2.2.1), S.2.2.1, S.2.2.2.1, S.2.2.2.2.1, S.2.2.2.2.2.1, (q.2.2.2.2.2.2.2.2.2.2.2.2.2.2.1, q.2.2.2.2.2.2.2.2.2.2.2.2.2.2.2.1, q.2.2.2.2.2.2.2.2.2.2.2.2.2.2.2.2), S.2.2.2.2.2.2.2))) v

def s_h_coordinate (F : Nat) (S : TopS) (a0 : Int32) (a1 : Int32) : Option (Int32 × TopS) :=
  Sum.elim (fun E =>
    if E = "java/lang/IndexOutOfBoundsException" then some ((-1001 : Int32), S) else
    if E = "java/lang/IllegalArgumentException" then some ((-1002 : Int32), S) else
    none) (fun q => some (q, S)) (s_Top_coordinate S.1.1 S.1.2.1 S.1.2.2.2.2.1 a0 a1)

def s_h_tie (F : Nat) (S : TopS) (a0 : Int32) (a1 : Int32) : Option (Int32 × TopS) :=
  ((s_Top_addConstraint F S.1.1 S.1.2.1 S.1.2.2.1 S.1.2.2.2.1 S.1.2.2.2.2.1 S.1.2.2.2.2.2 S.2.1.1 S.2.1.2.1 S.2.1.2.2.1 S.2.1.2.2.2.1 S.2.1.2.2.2.2.1 S.2.1.2.2.2.2.2.1 S.2.1.2.2.2.2.2.2.1 S.2.1.2.2.2.2.2.2.2.1 S.2.2.2.2.2.2.1.1 S.2.2.2.2.2.2.1.2.1 S.2.2.2.2.2.2.1.2.2 a0 a1)).bind fun v =>
  Sum.elim (fun E =>
    if E = "java/lang/IndexOutOfBoundsException" then some ((-1001 : Int32), S) else
    if E = "java/lang/IllegalArgumentException" then some ((-1002 : Int32), S) else
    if E = "java/lang/IllegalStateException" then some ((-1003 : Int32), S) else
    if E = "java/lang/UnsupportedOperationException" then some ((-1004 : Int32), S) else
    none) (fun q => some (q.1, ((S.1.1, S.1.2.1, q.2.1, q.2.2.1, S.1.2.2.2.2.1, q.2.2.2.1), (q.2.2.2.2.1, q.2.2.2.2.2.1, q.2.2.2.2.2.2.1, q.2.2.2.2.2.2.2.1, q.2.2.2.2.2.2.2.2.1, q.2.2.2.2.2.2.2.2.2.1, q.2.2.2.2.2.2.2.2.2.2.1, q.2.2.2.2.2.2.2.2.2.2.2.1, q.2.2.2.2.2.2.2.2.2.2.2.2.1, q.2.2.2.2.2.2.2.2.2.2.2.2.2.1, q.2.2.2.2.2.2.2.2.2.2.2.2.2.2.1), S.2.2.1, S.2.2.2.1, S.2.2.2.2.1, S.2.2.2.2.2.1, (q.2.2.2.2.2.2.2.2.2.2.2.2.2.2.2.1, q.2.2.2.2.2.2.2.2.2.2.2.2.2.2.2.2.1, q.2.2.2.2.2.2.2.2.2.2.2.2.2.2.2.2.2), S.2.2.2.2.2.2.2))) v

def s_h_untie (F : Nat) (S : TopS) (a0 : Int32) : Option (Int32 × TopS) :=
  ((s_Top_removeConstraint F S.1.1 S.1.2.1 S.1.2.2.1 S.1.2.2.2.1 S.1.2.2.2.2.1 S.1.2.2.2.2.2 S.2.1.1 S.2.1.2.1 S.2.1.2.2.1 S.2.1.2.2.2.1 S.2.1.2.2.2.2.1 S.2.1.2.2.2.2.2.1 S.2.1.2.2.2.2.2.2.1 S.2.1.2.2.2.2.2.2.2.1 S.2.2.2.2.2.2.1.1 S.2.2.2.2.2.2.1.2.1 S.2.2.2.2.2.2.1.2.2 a0)).bind fun v =>
  Sum.elim (fun E =>
    if E = "java/lang/IndexOutOfBoundsException" then some ((-1001 : Int32), S) else
    none) (fun q => some (q.1, ((S.1.1, S.1.2.1, q.2.1, q.2.2.1, S.1.2.2.2.2.1, q.2.2.2.1), (q.2.2.2.2.1, q.2.2.2.2.2.1, q.2.2.2.2.2.2.1, q.2.2.2.2.2.2.2.1, q.2.2.2.2.2.2.2.2.1, q.2.2.2.2.2.2.2.2.2.1, q.2.2.2.2.2.2.2.2.2.2.1, q.2.2.2.2.2.2.2.2.2.2.2.1, q.2.2.2.2.2.2.2.2.2.2.2.2.1, q.2.2.2.2.2.2.2.2.2.2.2.2.2.1, q.2.2.2.2.2.2.2.2.2.2.2.2.2.2.1), S.2.2.1, S.2.2.2.1, S.2.2.2.2.1, S.2.2.2.2.2.1, (q.2.2.2.2.2.2.2.2.2.2.2.2.2.2.2.1, q.2.2.2.2.2.2.2.2.2.2.2.2.2.2.2.2.1, q.2.2.2.2.2.2.2.2.2.2.2.2.2.2.2.2.2), S.2.2.2.2.2.2.2))) v

def s_h_tied (F : Nat) (S : TopS) (a0 : Int32) (a1 : Int32) : Option (Int32 × TopS) :=
  Sum.elim (fun E =>
    if E = "java/lang/IndexOutOfBoundsException" then some ((-1001 : Int32), S) else
    if E = "java/lang/IllegalArgumentException" then some ((-1002 : Int32), S) else
    none) (fun q => some (q, S)) (s_Top_constraintEnd S.1.2.2.1 S.1.2.2.2.1 S.1.2.2.2.2.2 a0 a1)

def s_h_corner (F : Nat) (S : TopS) (a0 : Int32) (a1 : Int32) : Option (Int32 × TopS) :=
  Sum.elim (fun E =>
    if E = "java/lang/IndexOutOfBoundsException" then some ((-1001 : Int32), S) else
    if E = "java/lang/IllegalArgumentException" then some ((-1002 : Int32), S) else
    none) (fun q => some (q, S)) (s_Top_corner S.2.1.2.2.2.2.2.2.1 S.2.1.2.2.2.2.2.2.2.2.2.1 a0 a1)

def s_h_beyond (F : Nat) (S : TopS) (a0 : Int32) (a1 : Int32) : Option (Int32 × TopS) :=
  Sum.elim (fun E =>
    if E = "java/lang/IndexOutOfBoundsException" then some ((-1001 : Int32), S) else
    if E = "java/lang/IllegalArgumentException" then some ((-1002 : Int32), S) else
    none) (fun q => some (q, S)) (s_Top_beyond S.2.1.2.2.1 S.2.1.2.2.2.2.2.2.1 S.2.1.2.2.2.2.2.2.2.2.2.1 a0 a1)

def s_h_end (F : Nat) (S : TopS) (a0 : Int32) (a1 : Int32) : Option (Int32 × TopS) :=
  Sum.elim (fun E =>
    if E = "java/lang/IndexOutOfBoundsException" then some ((-1001 : Int32), S) else
    if E = "java/lang/IllegalArgumentException" then some ((-1002 : Int32), S) else
    none) (fun q => some (q, S)) (s_Top_edgeEnd S.2.1.2.2.2.2.1 S.2.1.2.2.2.2.2.1 S.2.1.2.2.2.2.2.2.2.2.1 a0 a1)

def s_h_between (F : Nat) (S : TopS) (a0 : Int32) (a1 : Int32) : Option (Int32 × TopS) :=
  ((s_Top_edgeBetween F S.1.2.2.2.2.1 S.2.1.2.2.2.2.1 S.2.1.2.2.2.2.2.1 S.2.1.2.2.2.2.2.2.2.2.1 a0 a1)).bind fun v =>
  Sum.elim (fun E =>
    if E = "java/lang/IndexOutOfBoundsException" then some ((-1001 : Int32), S) else
    if E = "java/util/NoSuchElementException" then some ((-1002 : Int32), S) else
    none) (fun q => some (q, S)) v

def s_h_degree (F : Nat) (S : TopS) (a0 : Int32) : Option (Int32 × TopS) :=
  Sum.elim (fun E =>
    if E = "java/lang/IndexOutOfBoundsException" then some ((-1001 : Int32), S) else
    none) (fun q => some (q, S)) (s_Top_degree S.1.2.2.2.2.1 S.2.1.2.2.2.1 a0)

def s_h_neighbour (F : Nat) (S : TopS) (a0 : Int32) (a1 : Int32) : Option (Int32 × TopS) :=
  ((s_Top_neighbour F S.1.2.2.2.2.1 S.2.1.2.2.2.1 a0 a1)).bind fun v =>
  Sum.elim (fun E =>
    if E = "java/lang/IndexOutOfBoundsException" then some ((-1001 : Int32), S) else
    if E = "java/util/NoSuchElementException" then some ((-1002 : Int32), S) else
    none) (fun q => some (q, S)) v

def s_h_hull (F : Nat) (S : TopS) (a0 : Int32) : Option (Int32 × TopS) :=
  Sum.elim (fun E =>
    if E = "java/lang/IndexOutOfBoundsException" then some ((-1001 : Int32), S) else
    none) (fun q => some (q, S)) (s_Top_hullPoint S.2.1.2.2.2.2.2.2.2.1 S.2.1.2.2.2.2.2.2.2.2.2.2 a0)

def s_h_area (F : Nat) (S : TopS) (a0 : Int32) : Option (Int32 × TopS) :=
  Sum.elim (fun E =>
    if E = "java/lang/IndexOutOfBoundsException" then some ((-1001 : Int32), S) else
    none) (fun q => some (q, S)) (s_Top_twiceArea S.1.1 S.1.2.1 S.2.1.2.2.2.2.2.2.1 S.2.1.2.2.2.2.2.2.2.2.2.1 a0)

def s_h_share (F : Nat) (S : TopS) (a0 : Int32) : Option (UInt64 × TopS) :=
  ((s_Top_areaShare F S.1.1 S.1.2.1 S.2.1.2.2.2.2.2.2.1 S.2.1.2.2.2.2.2.2.2.2.2.1 a0)).bind fun v =>
  Sum.elim (fun E =>
    if E = "java/lang/IndexOutOfBoundsException" then some ((0xC08F480000000000 : UInt64), S) else
    none) (fun q => some (q, S)) v

def s_h_mean (F : Nat) (S : TopS)  : Option (UInt64 × TopS) :=
  ((s_Top_meanDegree S.1.2.2.2.2.1 S.2.1.2.2.2.2.2.2.2.2.1)).bind fun v =>
  Sum.elim (fun E =>
    if E = "java/util/NoSuchElementException" then some ((0xC08F480000000000 : UInt64), S) else
    none) (fun q => some (q, S)) v

def s_h_square (F : Nat) (S : TopS) (a0 : Int32) : Option (Int32 × TopS) :=
  ((s_Top_squaredLength F S.1.1 S.1.2.1 S.1.2.2.2.2.1 S.2.1.2.2.2.2.1 S.2.1.2.2.2.2.2.1 S.2.1.2.2.2.2.2.2.2.2.1 a0)).bind fun v =>
  Sum.elim (fun E =>
    if E = "java/lang/IllegalArgumentException" then some ((-1001 : Int32), S) else
    if E = "java/util/NoSuchElementException" then some ((-1002 : Int32), S) else
    none) (fun q => some (q, S)) v

def s_h_turn (F : Nat) (S : TopS) (a0 : Int32) (a1 : Int32) (a2 : Int32) : Option (Int32 × TopS) :=
  Sum.elim (fun E =>
    if E = "java/lang/IndexOutOfBoundsException" then some ((-1001 : Int32), S) else
    none) (fun q => some (q, S)) (s_Top_turn S.1.1 S.1.2.1 S.1.2.2.2.2.1 a0 a1 a2)

def s_h_circle (F : Nat) (S : TopS) (a0 : Int32) (a1 : Int32) (a2 : Int32) (a3 : Int32) : Option (Int32 × TopS) :=
  Sum.elim (fun E =>
    if E = "java/lang/IndexOutOfBoundsException" then some ((-1001 : Int32), S) else
    if E = "java/lang/ArithmeticException" then some ((-1002 : Int32), S) else
    none) (fun q => some (q, S)) (s_Top_inCircle S.1.1 S.1.2.1 S.1.2.2.2.2.1 a0 a1 a2 a3)

def s_h_good (F : Nat) (S : TopS) (a0 : Int32) : Option (Int32 × TopS) :=
  Sum.elim (fun E =>
    if E = "java/lang/IndexOutOfBoundsException" then some ((-1001 : Int32), S) else
    if E = "java/lang/UnsupportedOperationException" then some ((-1002 : Int32), S) else
    none) (fun q => some (bI (q), S)) (s_Top_isGood S.1.1 S.1.2.1 S.2.1.2.1 S.2.1.2.2.2.2.1 S.2.1.2.2.2.2.2.1 S.2.1.2.2.2.2.2.2.2.2.1 a0)

def s_h_kind (F : Nat) (S : TopS) (a0 : Int32) (a1 : Int32) : Option (Int32 × TopS) :=
  ((s_Top_kindAt F S.1.1 S.1.2.1 S.1.2.2.2.2.1 S.2.1.2.2.2.2.1 S.2.1.2.2.2.2.2.1 S.2.1.2.2.2.2.2.2.1 S.2.1.2.2.2.2.2.2.2.2.1 S.2.1.2.2.2.2.2.2.2.2.2.1 a0 a1)).bind fun v =>
  Sum.elim (fun E =>
    if E = "java/lang/IllegalArgumentException" then some ((-1001 : Int32), S) else
    none) (fun q => some (q, S)) v

def s_h_number (F : Nat) (S : TopS) (a0 : Int32) (a1 : Int32) : Option (Int32 × TopS) :=
  ((s_Top_numberAt F S.1.1 S.1.2.1 S.1.2.2.2.2.1 S.2.1.2.2.2.2.1 S.2.1.2.2.2.2.2.1 S.2.1.2.2.2.2.2.2.1 S.2.1.2.2.2.2.2.2.2.2.1 S.2.1.2.2.2.2.2.2.2.2.2.1 a0 a1)).bind fun v =>
  Sum.elim (fun E =>
    if E = "java/lang/IllegalArgumentException" then some ((-1001 : Int32), S) else
    if E = "java/util/NoSuchElementException" then some ((-1002 : Int32), S) else
    none) (fun q => some (q, S)) v

def s_h_walk (F : Nat) (S : TopS) (a0 : Int32) (a1 : Int32) (a2 : Int32) (a3 : Bool) : Option (Int32 × TopS) :=
  ((s_Top_walk F S.1.1 S.1.2.1 S.2.1.2.2.1 S.2.1.2.2.2.2.2.2.1 S.2.1.2.2.2.2.2.2.2.2.2.1 a0 a1 a2 a3)).bind fun v =>
  Sum.elim (fun E =>
    if E = "java/lang/IndexOutOfBoundsException" then some ((-1001 : Int32), S) else
    if E = "java/lang/IllegalArgumentException" then some ((-1002 : Int32), S) else
    none) (fun q => some (q, S)) v

def s_h_cavity (F : Nat) (S : TopS) (a0 : Int32) (a1 : Int32) : Option (Int32 × TopS) :=
  ((s_Top_cavity F S.1.1 S.1.2.1 S.1.2.2.1 S.1.2.2.2.1 S.1.2.2.2.2.1 S.1.2.2.2.2.2 S.2.1.2.2.2.2.2.2.1 S.2.1.2.2.2.2.2.2.2.2.2.1 S.2.2.1.1 S.2.2.1.2.1 S.2.2.1.2.2.1 S.2.2.1.2.2.2.1 S.2.2.2.1.1 S.2.2.2.1.2.1 S.2.2.2.1.2.2.1 S.2.2.2.1.2.2.2.1 S.2.2.2.1.2.2.2.2.1 S.2.2.2.1.2.2.2.2.2.1 S.2.2.2.1.2.2.2.2.2.2.1 S.2.2.2.1.2.2.2.2.2.2.2.1 a0 a1)).bind fun v =>
  Sum.elim (fun E =>
    if E = "java/lang/IllegalArgumentException" then some ((-1001 : Int32), S) else
    if E = "java/lang/IllegalStateException" then some ((-1002 : Int32), S) else
    if E = "java/lang/UnsupportedOperationException" then some ((-1003 : Int32), S) else
    none) (fun q => some (q.1, (S.1, S.2.1, (q.2.1, q.2.2.1, q.2.2.2.1, q.2.2.2.2.1, q.2.2.2.2.2.1, q.2.2.2.2.2.2.1), (q.2.2.2.2.2.2.2.1, q.2.2.2.2.2.2.2.2.1, q.2.2.2.2.2.2.2.2.2.1, q.2.2.2.2.2.2.2.2.2.2.1, q.2.2.2.2.2.2.2.2.2.2.2.1, q.2.2.2.2.2.2.2.2.2.2.2.2.1, q.2.2.2.2.2.2.2.2.2.2.2.2.2.1, q.2.2.2.2.2.2.2.2.2.2.2.2.2.2.1, q.2.2.2.2.2.2.2.2.2.2.2.2.2.2.2.1, q.2.2.2.2.2.2.2.2.2.2.2.2.2.2.2.2.1, q.2.2.2.2.2.2.2.2.2.2.2.2.2.2.2.2.2), S.2.2.2.2.1, S.2.2.2.2.2.1, S.2.2.2.2.2.2.1, S.2.2.2.2.2.2.2))) v

def s_h_hole (F : Nat) (S : TopS) (a0 : Int32) : Option (Int32 × TopS) :=
  ((s_Top_hole F S.1.1 S.1.2.1 S.1.2.2.1 S.1.2.2.2.1 S.1.2.2.2.2.1 S.1.2.2.2.2.2 S.2.1.2.1 S.2.2.1.1 S.2.2.1.2.1 S.2.2.1.2.2.1 S.2.2.1.2.2.2.1 S.2.2.2.1.1 S.2.2.2.1.2.1 S.2.2.2.1.2.2.1 S.2.2.2.1.2.2.2.1 S.2.2.2.1.2.2.2.2.1 S.2.2.2.1.2.2.2.2.2.1 S.2.2.2.1.2.2.2.2.2.2.1 S.2.2.2.1.2.2.2.2.2.2.2.1 a0)).bind fun v =>
  Sum.elim (fun E =>
    if E = "java/lang/IndexOutOfBoundsException" then some ((-1001 : Int32), S) else
    if E = "java/lang/IllegalStateException" then some ((-1002 : Int32), S) else
    none) (fun q => some (q.1, (S.1, S.2.1, (q.2.1, q.2.2.1, q.2.2.2.1, q.2.2.2.2.1, q.2.2.2.2.2.1, q.2.2.2.2.2.2.1), (q.2.2.2.2.2.2.2.1, q.2.2.2.2.2.2.2.2.1, q.2.2.2.2.2.2.2.2.2.1, q.2.2.2.2.2.2.2.2.2.2.1, q.2.2.2.2.2.2.2.2.2.2.2.1, q.2.2.2.2.2.2.2.2.2.2.2.2.1, q.2.2.2.2.2.2.2.2.2.2.2.2.2.1, q.2.2.2.2.2.2.2.2.2.2.2.2.2.2.1, q.2.2.2.2.2.2.2.2.2.2.2.2.2.2.2.1, q.2.2.2.2.2.2.2.2.2.2.2.2.2.2.2.2.1, q.2.2.2.2.2.2.2.2.2.2.2.2.2.2.2.2.2), S.2.2.2.2.1, S.2.2.2.2.2.1, S.2.2.2.2.2.2.1, S.2.2.2.2.2.2.2))) v

def s_h_crossings (F : Nat) (S : TopS) (a0 : Int32) (a1 : Int32) : Option (Int32 × TopS) :=
  ((s_Top_crossings F S.1.1 S.1.2.1 S.1.2.2.2.2.1 S.2.1.1 S.2.1.2.2.2.2.1 S.2.1.2.2.2.2.2.1 S.2.1.2.2.2.2.2.2.2.2.1 a0 a1)).bind fun v =>
  Sum.elim (fun E =>
    if E = "java/lang/IndexOutOfBoundsException" then some ((-1001 : Int32), S) else
    if E = "java/lang/IllegalArgumentException" then some ((-1002 : Int32), S) else
    none) (fun q => some (q, S)) v

def s_h_effect (F : Nat) (S : TopS) (a0 : Int32) : Option (Int32 × TopS) :=
  ((s_Top_effect F S.1.1 S.1.2.1 S.1.2.2.1 S.1.2.2.2.1 S.1.2.2.2.2.1 S.1.2.2.2.2.2 S.2.1.2.2.2.2.1 S.2.1.2.2.2.2.2.1 S.2.1.2.2.2.2.2.2.2.2.1 S.2.2.1.1 S.2.2.1.2.1 S.2.2.1.2.2.1 S.2.2.1.2.2.2.1 S.2.2.2.1.1 S.2.2.2.1.2.1 S.2.2.2.1.2.2.1 S.2.2.2.1.2.2.2.1 S.2.2.2.1.2.2.2.2.1 S.2.2.2.1.2.2.2.2.2.1 S.2.2.2.1.2.2.2.2.2.2.1 S.2.2.2.1.2.2.2.2.2.2.2.1 a0)).bind fun v =>
  Sum.elim (fun E =>
    if E = "java/lang/IndexOutOfBoundsException" then some ((-1001 : Int32), S) else
    none) (fun q => some (q.1, (S.1, S.2.1, (q.2.1, q.2.2.1, q.2.2.2.1, q.2.2.2.2.1, q.2.2.2.2.2.1, q.2.2.2.2.2.2.1), (q.2.2.2.2.2.2.2.1, q.2.2.2.2.2.2.2.2.1, q.2.2.2.2.2.2.2.2.2.1, q.2.2.2.2.2.2.2.2.2.2.1, q.2.2.2.2.2.2.2.2.2.2.2.1, q.2.2.2.2.2.2.2.2.2.2.2.2.1, q.2.2.2.2.2.2.2.2.2.2.2.2.2.1, q.2.2.2.2.2.2.2.2.2.2.2.2.2.2.1, q.2.2.2.2.2.2.2.2.2.2.2.2.2.2.2.1, q.2.2.2.2.2.2.2.2.2.2.2.2.2.2.2.2.1, q.2.2.2.2.2.2.2.2.2.2.2.2.2.2.2.2.2), S.2.2.2.2.1, S.2.2.2.2.2.1, S.2.2.2.2.2.2.1, S.2.2.2.2.2.2.2))) v

def s_h_undo (F : Nat) (S : TopS)  : Option (Int32 × TopS) :=
  ((s_Top_undo F S.1.1 S.1.2.1 S.1.2.2.1 S.1.2.2.2.1 S.1.2.2.2.2.1 S.1.2.2.2.2.2 S.2.1.1 S.2.1.2.1 S.2.1.2.2.1 S.2.1.2.2.2.1 S.2.1.2.2.2.2.1 S.2.1.2.2.2.2.2.1 S.2.1.2.2.2.2.2.2.1 S.2.1.2.2.2.2.2.2.2.1 S.2.2.2.2.2.2.1.1 S.2.2.2.2.2.2.1.2.1 S.2.2.2.2.2.2.1.2.2)).bind fun v =>
  Sum.elim (fun E =>
    if E = "java/lang/IllegalStateException" then some ((-1001 : Int32), S) else
    none) (fun q => some (q.1, ((q.2.1, q.2.2.1, q.2.2.2.1, q.2.2.2.2.1, q.2.2.2.2.2.1, q.2.2.2.2.2.2.1), (q.2.2.2.2.2.2.2.1, q.2.2.2.2.2.2.2.2.1, q.2.2.2.2.2.2.2.2.2.1, q.2.2.2.2.2.2.2.2.2.2.1, q.2.2.2.2.2.2.2.2.2.2.2.1, q.2.2.2.2.2.2.2.2.2.2.2.2.1, q.2.2.2.2.2.2.2.2.2.2.2.2.2.1, q.2.2.2.2.2.2.2.2.2.2.2.2.2.2.1, q.2.2.2.2.2.2.2.2.2.2.2.2.2.2.2.1, q.2.2.2.2.2.2.2.2.2.2.2.2.2.2.2.2.1, q.2.2.2.2.2.2.2.2.2.2.2.2.2.2.2.2.2.1), S.2.2.1, S.2.2.2.1, S.2.2.2.2.1, S.2.2.2.2.2.1, (S.2.2.2.2.2.2.1.1, q.2.2.2.2.2.2.2.2.2.2.2.2.2.2.2.2.2.2.1, q.2.2.2.2.2.2.2.2.2.2.2.2.2.2.2.2.2.2.2), S.2.2.2.2.2.2.2))) v

def s_h_restore (F : Nat) (S : TopS)  : Option (Int32 × TopS) :=
  ((s_Top_restore F S.1.1 S.1.2.1 S.1.2.2.1 S.1.2.2.2.1 S.2.1.1 S.2.1.2.1 S.2.1.2.2.1 S.2.1.2.2.2.1 S.2.1.2.2.2.2.1 S.2.1.2.2.2.2.2.1 S.2.1.2.2.2.2.2.2.1 S.2.1.2.2.2.2.2.2.2.1 S.2.2.2.2.1.1 S.2.2.2.2.1.2.1 S.2.2.2.2.1.2.2.1 S.2.2.2.2.1.2.2.2.1 S.2.2.2.2.1.2.2.2.2.1 S.2.2.2.2.1.2.2.2.2.2 S.2.2.2.2.2.2.2)).bind fun v =>
  Sum.elim (fun E =>
    if E = "java/lang/IllegalStateException" then some ((-1001 : Int32), S) else
    none) (fun q => some (q.1, ((q.2.1, q.2.2.1, q.2.2.2.1, q.2.2.2.2.1, q.2.2.2.2.2.1, q.2.2.2.2.2.2.1), (q.2.2.2.2.2.2.2.1, q.2.2.2.2.2.2.2.2.1, q.2.2.2.2.2.2.2.2.2.1, q.2.2.2.2.2.2.2.2.2.2.1, q.2.2.2.2.2.2.2.2.2.2.2.1, q.2.2.2.2.2.2.2.2.2.2.2.2.1, q.2.2.2.2.2.2.2.2.2.2.2.2.2.1, q.2.2.2.2.2.2.2.2.2.2.2.2.2.2.1, q.2.2.2.2.2.2.2.2.2.2.2.2.2.2.2.1, q.2.2.2.2.2.2.2.2.2.2.2.2.2.2.2.2.1, q.2.2.2.2.2.2.2.2.2.2.2.2.2.2.2.2.2.1), S.2.2.1, S.2.2.2.1, S.2.2.2.2.1, S.2.2.2.2.2.1, (S.2.2.2.2.2.2.1.1, S.2.2.2.2.2.2.1.2.1, q.2.2.2.2.2.2.2.2.2.2.2.2.2.2.2.2.2.2), S.2.2.2.2.2.2.2))) v

def i_pointCount (S : TopS) : Int32 := s_Top_pointCount S.1.2.2.2.2.1

def i_constraintCount (S : TopS) : Int32 := s_Top_constraintCount S.1.2.2.2.2.2

def i_triangleCount (S : TopS) : Int32 := s_Top_triangleCount S.2.1.2.2.2.2.2.2.2.2.2.1

def i_edgeCount (S : TopS) : Int32 := s_Top_edgeCount S.2.1.2.2.2.2.2.2.2.2.1

def i_hullSize (S : TopS) : Int32 := s_Top_hullSize S.2.1.2.2.2.2.2.2.2.2.2.2

def i_forcedConstraints (F : Nat) (S : TopS) : Option Int32 := s_Top_forcedConstraints F S.1.1 S.1.2.1 S.1.2.2.1 S.1.2.2.2.1 S.1.2.2.2.2.2 S.2.1.2.1

def i_readInput (F : Nat) (S : TopS) : Option (Int32 × TopS) := (s_Top_readInput F S.1.1 S.1.2.1 S.1.2.2.1 S.1.2.2.2.1 S.1.2.2.2.2.1 S.1.2.2.2.2.2 S.2.1.1 S.2.1.2.1 S.2.1.2.2.1 S.2.1.2.2.2.1 S.2.1.2.2.2.2.1 S.2.1.2.2.2.2.2.1 S.2.1.2.2.2.2.2.2.1 S.2.1.2.2.2.2.2.2.2.1 S.2.2.2.2.2.1.1 S.2.2.2.2.2.1.2.1 S.2.2.2.2.2.1.2.2.1 S.2.2.2.2.2.1.2.2.2.1 S.2.2.2.2.2.1.2.2.2.2.1 S.2.2.2.2.2.2.1.1 S.2.2.2.2.2.2.1.2.1 S.2.2.2.2.2.2.1.2.2).map fun q => (q.1, ((q.2.1, q.2.2.1, q.2.2.2.1, q.2.2.2.2.1, q.2.2.2.2.2.1, q.2.2.2.2.2.2.1), (q.2.2.2.2.2.2.2.1, q.2.2.2.2.2.2.2.2.1, q.2.2.2.2.2.2.2.2.2.1, q.2.2.2.2.2.2.2.2.2.2.1, q.2.2.2.2.2.2.2.2.2.2.2.1, q.2.2.2.2.2.2.2.2.2.2.2.2.1, q.2.2.2.2.2.2.2.2.2.2.2.2.2.1, q.2.2.2.2.2.2.2.2.2.2.2.2.2.2.1, q.2.2.2.2.2.2.2.2.2.2.2.2.2.2.2.1, q.2.2.2.2.2.2.2.2.2.2.2.2.2.2.2.2.1, q.2.2.2.2.2.2.2.2.2.2.2.2.2.2.2.2.2.1), S.2.2.1, S.2.2.2.1, S.2.2.2.2.1, (S.2.2.2.2.2.1.1, q.2.2.2.2.2.2.2.2.2.2.2.2.2.2.2.2.2.2.1, q.2.2.2.2.2.2.2.2.2.2.2.2.2.2.2.2.2.2.2.1, q.2.2.2.2.2.2.2.2.2.2.2.2.2.2.2.2.2.2.2.2.1, q.2.2.2.2.2.2.2.2.2.2.2.2.2.2.2.2.2.2.2.2.2.1, q.2.2.2.2.2.2.2.2.2.2.2.2.2.2.2.2.2.2.2.2.2.2.1, q.2.2.2.2.2.2.2.2.2.2.2.2.2.2.2.2.2.2.2.2.2.2.2.1, q.2.2.2.2.2.2.2.2.2.2.2.2.2.2.2.2.2.2.2.2.2.2.2.2.1, q.2.2.2.2.2.2.2.2.2.2.2.2.2.2.2.2.2.2.2.2.2.2.2.2.2.1), (q.2.2.2.2.2.2.2.2.2.2.2.2.2.2.2.2.2.2.2.2.2.2.2.2.2.2.1, q.2.2.2.2.2.2.2.2.2.2.2.2.2.2.2.2.2.2.2.2.2.2.2.2.2.2.2.1, q.2.2.2.2.2.2.2.2.2.2.2.2.2.2.2.2.2.2.2.2.2.2.2.2.2.2.2.2), S.2.2.2.2.2.2.2))

def i_save (F : Nat) (S : TopS) : Option (Int32 × TopS) := (s_Top_save F S.1.1 S.1.2.1 S.1.2.2.1 S.1.2.2.2.1 S.1.2.2.2.2.1 S.1.2.2.2.2.2 S.2.2.2.2.1.1 S.2.2.2.2.1.2.1 S.2.2.2.2.1.2.2.1 S.2.2.2.2.1.2.2.2.1).map fun q => (q.1, (S.1, S.2.1, S.2.2.1, S.2.2.2.1, (q.2.1, q.2.2.1, q.2.2.2.1, q.2.2.2.2.1, q.2.2.2.2.2.1, q.2.2.2.2.2.2.1), S.2.2.2.2.2.1, S.2.2.2.2.2.2.1, q.2.2.2.2.2.2.2))
