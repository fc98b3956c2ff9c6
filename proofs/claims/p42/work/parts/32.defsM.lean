def s_Mod_thrown (mthr : Int32) : Int32 :=
  mthr
def s_Mod_in (a0 : Int32) (a1 : Int32) (a2 : Int32) : Bool :=
  if a0 < a1 then
    false
  else
    if a2 < a0 then
      false
    else
      true
def s_Mod_raises (a0 : Int32) : Int32 × Int32 :=
  ((0 : Int32), a0)
def s_Mod_n (mnow : Nat → Int32) : Option (Int32) :=
  (aget 56 mnow (0 : Int32)).bind fun v1 =>
  some v1
def s_Mod_m (mnow : Nat → Int32) : Option (Int32) :=
  (aget 56 mnow (1 : Int32)).bind fun v1 =>
  some v1
def s_Mod_x (mnow : Nat → Int32) (a0 : Int32) : Option (Int32) :=
  (aget 56 mnow ((2 : Int32) + a0)).bind fun v1 =>
  some v1
def s_Mod_y (mnow : Nat → Int32) (a0 : Int32) : Option (Int32) :=
  (aget 56 mnow ((19 : Int32) + a0)).bind fun v1 =>
  some v1
def s_Mod_end (mnow : Nat → Int32) (a0 : Int32) (a1 : Int32) : Option (Int32) :=
  (aget 56 mnow (((36 : Int32) + ((2 : Int32) * a0)) + a1)).bind fun v1 =>
  some v1
def s_Mod_isPoint (mnow : Nat → Int32) (a0 : Int32) : Option (Bool) :=
  ((s_Mod_n mnow)).bind fun v1 =>
  some (s_Mod_in a0 (0 : Int32) (v1 - (1 : Int32)))
def s_Mod_isConstraint (mnow : Nat → Int32) (a0 : Int32) : Option (Bool) :=
  ((s_Mod_m mnow)).bind fun v1 =>
  some (s_Mod_in a0 (0 : Int32) (v1 - (1 : Int32)))
def s_Mod_isPlace (a0 : Int32) (a1 : Int32) : Bool :=
  if (bI (s_Mod_in a0 (0 : Int32) (100 : Int32))) = 0 then
    false
  else
    if (bI (s_Mod_in a1 (0 : Int32) (100 : Int32))) = 0 then
      false
    else
      true
def s_J6_signum_0f7a4 (a0 : Int32) : Int32 :=
  ((a0 >>> ((31 : Int32) &&& 31)) ||| (iushr (-a0) (31 : Int32)))
def s_Mod_turnOf (a0 : Int32) (a1 : Int32) (a2 : Int32) (a3 : Int32) (a4 : Int32) (a5 : Int32) : Int32 :=
  (s_J6_signum_0f7a4 (((a2 - a0) * (a5 - a1)) - ((a3 - a1) * (a4 - a0))))
def s_Mod_turns (mnow : Nat → Int32) (a0 : Int32) (a1 : Int32) (a2 : Int32) : Option (Int32) :=
  ((s_Mod_x mnow a0)).bind fun v1 =>
  ((s_Mod_y mnow a0)).bind fun v2 =>
  ((s_Mod_x mnow a1)).bind fun v3 =>
  ((s_Mod_y mnow a1)).bind fun v4 =>
  ((s_Mod_x mnow a2)).bind fun v5 =>
  ((s_Mod_y mnow a2)).bind fun v6 =>
  some (s_Mod_turnOf v1 v2 v3 v4 v5 v6)
def s_Mod_isOn (mnow : Nat → Int32) (a0 : Int32) (a1 : Int32) (a2 : Int32) (a3 : Int32) : Option (Bool) :=
  ((s_Mod_x mnow a0)).bind fun v1 =>
  ((s_Mod_y mnow a0)).bind fun v2 =>
  ((s_Mod_x mnow a1)).bind fun v3 =>
  ((s_Mod_y mnow a1)).bind fun v4 =>
  if (s_Mod_turnOf v1 v2 v3 v4 a2 a3) = 0 then
    ((s_Mod_x mnow a0)).bind fun v6 =>
    ((s_Mod_x mnow a1)).bind fun v7 =>
    ((s_Mod_y mnow a0)).bind fun v8 =>
    ((s_Mod_y mnow a1)).bind fun v9 =>
    if 0 ≤ (((a2 - v6) * (a2 - v7)) + ((a3 - v8) * (a3 - v9))) then
      some false
    else
      some true
  else
    some false
def s_Mod_hasPointOn_L2 (mnow : Nat → Int32) (x1 : Int32) (x2 : Int32) : Nat → Int32 → Option ((Bool) ⊕ (Int32))
  | 0, _ => none
  | n + 1, x3 =>
    ((s_Mod_n mnow)).bind fun v1 =>
    if v1 ≤ x3 then
      some (.inr x3)
    else
      ((s_Mod_x mnow x3)).bind fun v3 =>
      ((s_Mod_y mnow x3)).bind fun v4 =>
      ((s_Mod_isOn mnow x1 x2 v3 v4)).bind fun v5 =>
      if (bI v5) = 0 then
        s_Mod_hasPointOn_L2 mnow x1 x2 n (x3 + (1 : Int32))
      else
        some (.inl true)
def s_Mod_hasPointOn (F : Nat) (mnow : Nat → Int32) (a0 : Int32) (a1 : Int32) : Option (Bool) :=
  (s_Mod_hasPointOn_L2 mnow a0 a1 F (0 : Int32)).bind fun o7 =>
  Sum.elim (fun q_o =>
    some q_o) (fun o7x =>
    some false) o7
def s_Mod_cross (mnow : Nat → Int32) (a0 : Int32) (a1 : Int32) (a2 : Int32) (a3 : Int32) : Option (Bool) :=
  ((s_Mod_turns mnow a0 a1 a2)).bind fun v1 =>
  ((s_Mod_turns mnow a0 a1 a3)).bind fun v2 =>
  if 0 ≤ (v1 * v2) then
    ((s_Mod_turns mnow a0 a1 a2)).bind fun v4 =>
    if v4 = 0 then
      ((s_Mod_turns mnow a0 a1 a3)).bind fun v6 =>
      if v6 = 0 then
        if (imin a0 a1) = (imin a2 a3) then
          if (imax a0 a1) = (imax a2 a3) then
            if (1 : Int32) = 0 then
              ((s_Mod_x mnow a2)).bind fun v45 =>
              ((s_Mod_y mnow a2)).bind fun v46 =>
              ((s_Mod_isOn mnow a0 a1 v45 v46)).bind fun v47 =>
              if (bI v47) = 0 then
                ((s_Mod_x mnow a3)).bind fun v49 =>
                ((s_Mod_y mnow a3)).bind fun v50 =>
                ((s_Mod_isOn mnow a0 a1 v49 v50)).bind fun v51 =>
                if (bI v51) = 0 then
                  ((s_Mod_x mnow a0)).bind fun v53 =>
                  ((s_Mod_y mnow a0)).bind fun v54 =>
                  ((s_Mod_isOn mnow a2 a3 v53 v54)).bind fun v55 =>
                  if (bI v55) = 0 then
                    ((s_Mod_x mnow a1)).bind fun v57 =>
                    ((s_Mod_y mnow a1)).bind fun v58 =>
                    ((s_Mod_isOn mnow a2 a3 v57 v58)).bind fun v59 =>
                    if (bI v59) = 0 then
                      some false
                    else
                      some true
                  else
                    some true
                else
                  some true
              else
                some true
            else
              some true
          else
            if (0 : Int32) = 0 then
              ((s_Mod_x mnow a2)).bind fun v28 =>
              ((s_Mod_y mnow a2)).bind fun v29 =>
              ((s_Mod_isOn mnow a0 a1 v28 v29)).bind fun v30 =>
              if (bI v30) = 0 then
                ((s_Mod_x mnow a3)).bind fun v32 =>
                ((s_Mod_y mnow a3)).bind fun v33 =>
                ((s_Mod_isOn mnow a0 a1 v32 v33)).bind fun v34 =>
                if (bI v34) = 0 then
                  ((s_Mod_x mnow a0)).bind fun v36 =>
                  ((s_Mod_y mnow a0)).bind fun v37 =>
                  ((s_Mod_isOn mnow a2 a3 v36 v37)).bind fun v38 =>
                  if (bI v38) = 0 then
                    ((s_Mod_x mnow a1)).bind fun v40 =>
                    ((s_Mod_y mnow a1)).bind fun v41 =>
                    ((s_Mod_isOn mnow a2 a3 v40 v41)).bind fun v42 =>
                    if (bI v42) = 0 then
                      some false
                    else
                      some true
                  else
                    some true
                else
                  some true
              else
                some true
            else
              some true
        else
          if (0 : Int32) = 0 then
            ((s_Mod_x mnow a2)).bind fun v10 =>
            ((s_Mod_y mnow a2)).bind fun v11 =>
            ((s_Mod_isOn mnow a0 a1 v10 v11)).bind fun v12 =>
            if (bI v12) = 0 then
              ((s_Mod_x mnow a3)).bind fun v14 =>
              ((s_Mod_y mnow a3)).bind fun v15 =>
              ((s_Mod_isOn mnow a0 a1 v14 v15)).bind fun v16 =>
              if (bI v16) = 0 then
                ((s_Mod_x mnow a0)).bind fun v18 =>
                ((s_Mod_y mnow a0)).bind fun v19 =>
                ((s_Mod_isOn mnow a2 a3 v18 v19)).bind fun v20 =>
                if (bI v20) = 0 then
                  ((s_Mod_x mnow a1)).bind fun v22 =>
                  ((s_Mod_y mnow a1)).bind fun v23 =>
                  ((s_Mod_isOn mnow a2 a3 v22 v23)).bind fun v24 =>
                  if (bI v24) = 0 then
                    some false
                  else
                    some true
                else
                  some true
              else
                some true
            else
              some true
          else
            some true
      else
        some false
    else
      some false
  else
    ((s_Mod_turns mnow a2 a3 a0)).bind fun v61 =>
    ((s_Mod_turns mnow a2 a3 a1)).bind fun v62 =>
    if 0 ≤ (v61 * v62) then
      ((s_Mod_turns mnow a0 a1 a2)).bind fun v64 =>
      if v64 = 0 then
        ((s_Mod_turns mnow a0 a1 a3)).bind fun v66 =>
        if v66 = 0 then
          if (imin a0 a1) = (imin a2 a3) then
            if (imax a0 a1) = (imax a2 a3) then
              if (1 : Int32) = 0 then
                ((s_Mod_x mnow a2)).bind fun v105 =>
                ((s_Mod_y mnow a2)).bind fun v106 =>
                ((s_Mod_isOn mnow a0 a1 v105 v106)).bind fun v107 =>
                if (bI v107) = 0 then
                  ((s_Mod_x mnow a3)).bind fun v109 =>
                  ((s_Mod_y mnow a3)).bind fun v110 =>
                  ((s_Mod_isOn mnow a0 a1 v109 v110)).bind fun v111 =>
                  if (bI v111) = 0 then
                    ((s_Mod_x mnow a0)).bind fun v113 =>
                    ((s_Mod_y mnow a0)).bind fun v114 =>
                    ((s_Mod_isOn mnow a2 a3 v113 v114)).bind fun v115 =>
                    if (bI v115) = 0 then
                      ((s_Mod_x mnow a1)).bind fun v117 =>
                      ((s_Mod_y mnow a1)).bind fun v118 =>
                      ((s_Mod_isOn mnow a2 a3 v117 v118)).bind fun v119 =>
                      if (bI v119) = 0 then
                        some false
                      else
                        some true
                    else
                      some true
                  else
                    some true
                else
                  some true
              else
                some true
            else
              if (0 : Int32) = 0 then
                ((s_Mod_x mnow a2)).bind fun v88 =>
                ((s_Mod_y mnow a2)).bind fun v89 =>
                ((s_Mod_isOn mnow a0 a1 v88 v89)).bind fun v90 =>
                if (bI v90) = 0 then
                  ((s_Mod_x mnow a3)).bind fun v92 =>
                  ((s_Mod_y mnow a3)).bind fun v93 =>
                  ((s_Mod_isOn mnow a0 a1 v92 v93)).bind fun v94 =>
                  if (bI v94) = 0 then
                    ((s_Mod_x mnow a0)).bind fun v96 =>
                    ((s_Mod_y mnow a0)).bind fun v97 =>
                    ((s_Mod_isOn mnow a2 a3 v96 v97)).bind fun v98 =>
                    if (bI v98) = 0 then
                      ((s_Mod_x mnow a1)).bind fun v100 =>
                      ((s_Mod_y mnow a1)).bind fun v101 =>
                      ((s_Mod_isOn mnow a2 a3 v100 v101)).bind fun v102 =>
                      if (bI v102) = 0 then
                        some false
                      else
                        some true
                    else
                      some true
                  else
                    some true
                else
                  some true
              else
                some true
          else
            if (0 : Int32) = 0 then
              ((s_Mod_x mnow a2)).bind fun v70 =>
              ((s_Mod_y mnow a2)).bind fun v71 =>
              ((s_Mod_isOn mnow a0 a1 v70 v71)).bind fun v72 =>
              if (bI v72) = 0 then
                ((s_Mod_x mnow a3)).bind fun v74 =>
                ((s_Mod_y mnow a3)).bind fun v75 =>
                ((s_Mod_isOn mnow a0 a1 v74 v75)).bind fun v76 =>
                if (bI v76) = 0 then
                  ((s_Mod_x mnow a0)).bind fun v78 =>
                  ((s_Mod_y mnow a0)).bind fun v79 =>
                  ((s_Mod_isOn mnow a2 a3 v78 v79)).bind fun v80 =>
                  if (bI v80) = 0 then
                    ((s_Mod_x mnow a1)).bind fun v82 =>
                    ((s_Mod_y mnow a1)).bind fun v83 =>
                    ((s_Mod_isOn mnow a2 a3 v82 v83)).bind fun v84 =>
                    if (bI v84) = 0 then
                      some false
                    else
                      some true
                  else
                    some true
                else
                  some true
              else
                some true
            else
              some true
        else
          some false
      else
        some false
    else
      some true
def s_J13_signum_95d88 (a0 : Int64) : Int32 :=
  (((lshr a0 (63 : Int32)) ||| (lushr (-a0) (63 : Int32)))).toInt32
def s_Mod_circle (mnow : Nat → Int32) (a0 : Int32) (a1 : Int32) (a2 : Int32) (a3 : Int32) : Option (Int32) :=
  ((s_Mod_x mnow a0)).bind fun v1 =>
  ((s_Mod_x mnow a3)).bind fun v2 =>
  ((s_Mod_y mnow a0)).bind fun v3 =>
  ((s_Mod_y mnow a3)).bind fun v4 =>
  ((s_Mod_x mnow a1)).bind fun v5 =>
  ((s_Mod_x mnow a3)).bind fun v6 =>
  ((s_Mod_y mnow a1)).bind fun v7 =>
  ((s_Mod_y mnow a3)).bind fun v8 =>
  ((s_Mod_x mnow a2)).bind fun v9 =>
  ((s_Mod_x mnow a3)).bind fun v10 =>
  ((s_Mod_y mnow a2)).bind fun v11 =>
  ((s_Mod_y mnow a3)).bind fun v12 =>
  ((s_Mod_turns mnow a0 a1 a2)).bind fun v13 =>
  some ((s_J13_signum_95d88 ((((((((v1 - v2)).toInt64) * (((v1 - v2)).toInt64)) + ((((v3 - v4)).toInt64) * (((v3 - v4)).toInt64))) * (((((v5 - v6)).toInt64) * (((v11 - v12)).toInt64)) - ((((v9 - v10)).toInt64) * (((v7 - v8)).toInt64)))) - ((((((v5 - v6)).toInt64) * (((v5 - v6)).toInt64)) + ((((v7 - v8)).toInt64) * (((v7 - v8)).toInt64))) * (((((v1 - v2)).toInt64) * (((v11 - v12)).toInt64)) - ((((v9 - v10)).toInt64) * (((v3 - v4)).toInt64))))) + ((((((v9 - v10)).toInt64) * (((v9 - v10)).toInt64)) + ((((v11 - v12)).toInt64) * (((v11 - v12)).toInt64))) * (((((v1 - v2)).toInt64) * (((v7 - v8)).toInt64)) - ((((v5 - v6)).toInt64) * (((v3 - v4)).toInt64)))))) * v13)
def s_Mod_good (mnow : Nat → Int32) (a0 : Int32) (a1 : Int32) (a2 : Int32) (a3 : Int32) : Option (Bool) :=
  ((s_Mod_circle mnow a0 a1 a2 a3)).bind fun v1 =>
  if v1 < 0 then
    some true
  else
    if v1 = 0 then
      if (imax a2 a3) ≤ (imax a0 a1) then
        some false
      else
        some true
    else
      some false
def s_Mod_has (medg : Nat → Int32) (a0 : Int32) (a1 : Int32) : Option (Bool) :=
  (aget 289 medg (((17 : Int32) * a0) + a1)).bind fun v1 =>
  if v1 = 0 then
    some false
  else if v1 = 1 then
    some true
  else none
def s_Mod_puts (medg : Nat → Int32) (a0 : Int32) (a1 : Int32) (a2 : Bool) : Option ((Nat → Int32)) :=
  (aset 289 medg (((17 : Int32) * a0) + a1) (vp_nar .boolean (bI a2))).bind fun v1 =>
  (aset 289 v1 (((17 : Int32) * a1) + a0) (vp_nar .boolean (bI a2))).bind fun v2 =>
  some v2
def s_Mod_isTied_L2 (mnow : Nat → Int32) (x1 : Int32) (x2 : Int32) : Nat → Int32 → Option ((Bool) ⊕ (Int32))
  | 0, _ => none
  | n + 1, x3 =>
    ((s_Mod_m mnow)).bind fun v1 =>
    if v1 ≤ x3 then
      some (.inr x3)
    else
      ((s_Mod_end mnow x3 (0 : Int32))).bind fun v3 =>
      if v3 = (imin x1 x2) then
        ((s_Mod_end mnow x3 (1 : Int32))).bind fun v5 =>
        if v5 = (imax x1 x2) then
          some (.inl true)
        else
          s_Mod_isTied_L2 mnow x1 x2 n (x3 + (1 : Int32))
      else
        s_Mod_isTied_L2 mnow x1 x2 n (x3 + (1 : Int32))
def s_Mod_isTied (F : Nat) (mnow : Nat → Int32) (a0 : Int32) (a1 : Int32) : Option (Bool) :=
  (s_Mod_isTied_L2 mnow a0 a1 F (0 : Int32)).bind fun o7 =>
  Sum.elim (fun q_o =>
    some q_o) (fun o7x =>
    some false) o7
def s_Mod_isEmpty_L3 (mnow : Nat → Int32) (x1 : Int32) (x2 : Int32) (x3 : Int32) : Nat → Int32 → Option ((Bool) ⊕ (Int32))
  | 0, _ => none
  | n + 1, x4 =>
    ((s_Mod_n mnow)).bind fun v1 =>
    if v1 ≤ x4 then
      some (.inr x4)
    else
      if x4 = x1 then
        s_Mod_isEmpty_L3 mnow x1 x2 x3 n (x4 + (1 : Int32))
      else
        if x4 = x2 then
          s_Mod_isEmpty_L3 mnow x1 x2 x3 n (x4 + (1 : Int32))
        else
          if x4 = x3 then
            s_Mod_isEmpty_L3 mnow x1 x2 x3 n (x4 + (1 : Int32))
          else
            ((s_Mod_turns mnow x1 x2 x4)).bind fun v6 =>
            if v6 < 0 then
              s_Mod_isEmpty_L3 mnow x1 x2 x3 n (x4 + (1 : Int32))
            else
              ((s_Mod_turns mnow x2 x3 x4)).bind fun v8 =>
              if v8 < 0 then
                s_Mod_isEmpty_L3 mnow x1 x2 x3 n (x4 + (1 : Int32))
              else
                ((s_Mod_turns mnow x3 x1 x4)).bind fun v10 =>
                if v10 < 0 then
                  s_Mod_isEmpty_L3 mnow x1 x2 x3 n (x4 + (1 : Int32))
                else
                  some (.inl false)
def s_Mod_isEmpty (F : Nat) (mnow : Nat → Int32) (a0 : Int32) (a1 : Int32) (a2 : Int32) : Option (Bool) :=
  (s_Mod_isEmpty_L3 mnow a0 a1 a2 F (0 : Int32)).bind fun o12 =>
  Sum.elim (fun q_o =>
    some q_o) (fun o12x =>
    some true) o12
def s_Mod_apex_L2 (F : Nat) (mnow : Nat → Int32) (medg : Nat → Int32) (x1 : Int32) (x2 : Int32) : Nat → Int32 → Option ((Int32) ⊕ (Int32))
  | 0, _ => none
  | n + 1, x3 =>
    ((s_Mod_n mnow)).bind fun v1 =>
    if v1 ≤ x3 then
      some (.inr x3)
    else
      if x3 = x1 then
        s_Mod_apex_L2 F mnow medg x1 x2 n (x3 + (1 : Int32))
      else
        if x3 = x2 then
          s_Mod_apex_L2 F mnow medg x1 x2 n (x3 + (1 : Int32))
        else
          ((s_Mod_has medg x1 x3)).bind fun v5 =>
          if (bI v5) = 0 then
            s_Mod_apex_L2 F mnow medg x1 x2 n (x3 + (1 : Int32))
          else
            ((s_Mod_has medg x2 x3)).bind fun v7 =>
            if (bI v7) = 0 then
              s_Mod_apex_L2 F mnow medg x1 x2 n (x3 + (1 : Int32))
            else
              ((s_Mod_turns mnow x1 x2 x3)).bind fun v9 =>
              if v9 ≤ 0 then
                s_Mod_apex_L2 F mnow medg x1 x2 n (x3 + (1 : Int32))
              else
                ((s_Mod_isEmpty F mnow x1 x2 x3)).bind fun v11 =>
                if (bI v11) = 0 then
                  s_Mod_apex_L2 F mnow medg x1 x2 n (x3 + (1 : Int32))
                else
                  some (.inl x3)
def s_Mod_apex (F : Nat) (mnow : Nat → Int32) (medg : Nat → Int32) (a0 : Int32) (a1 : Int32) : Option (Int32) :=
  (s_Mod_apex_L2 F mnow medg a0 a1 F (0 : Int32)).bind fun o13 =>
  Sum.elim (fun q_o =>
    some q_o) (fun o13x =>
    some (-1 : Int32)) o13
def s_Mod_crossesAny_L15 (mnow : Nat → Int32) (medg : Nat → Int32) (x1 : Int32) (x2 : Int32) (x3 : Int32) : Nat → Int32 → Option ((Bool) ⊕ (Int32))
  | 0, _ => none
  | n + 1, x4 =>
    ((s_Mod_n mnow)).bind fun v3 =>
    if v3 ≤ x4 then
      some (.inr x4)
    else
      ((s_Mod_has medg x3 x4)).bind fun v5 =>
      if (bI v5) = 0 then
        s_Mod_crossesAny_L15 mnow medg x1 x2 x3 n (x4 + (1 : Int32))
      else
        ((s_Mod_cross mnow x1 x2 x3 x4)).bind fun v7 =>
        if (bI v7) = 0 then
          s_Mod_crossesAny_L15 mnow medg x1 x2 x3 n (x4 + (1 : Int32))
        else
          some (.inl true)
def s_Mod_crossesAny_L2 (F : Nat) (mnow : Nat → Int32) (medg : Nat → Int32) (x1 : Int32) (x2 : Int32) : Nat → Int32 → Option ((Bool) ⊕ (Int32))
  | 0, _ => none
  | n + 1, x3 =>
    ((s_Mod_n mnow)).bind fun v1 =>
    if v1 ≤ x3 then
      some (.inr x3)
    else
      (s_Mod_crossesAny_L15 mnow medg x1 x2 x3 F (x3 + (1 : Int32))).bind fun o9 =>
      Sum.elim (fun q_o =>
        some (.inl q_o)) (fun o9x =>
        s_Mod_crossesAny_L2 F mnow medg x1 x2 n (x3 + (1 : Int32))) o9
def s_Mod_crossesAny (F : Nat) (mnow : Nat → Int32) (medg : Nat → Int32) (a0 : Int32) (a1 : Int32) : Option (Bool) :=
  (s_Mod_crossesAny_L2 F mnow medg a0 a1 F (0 : Int32)).bind fun o10 =>
  Sum.elim (fun q_o =>
    some q_o) (fun o10x =>
    some false) o10
def s_Mod_isLine_L2 (mnow : Nat → Int32) : Nat → Int32 → Option ((Bool) ⊕ (Int32))
  | 0, _ => none
  | n + 1, x1 =>
    ((s_Mod_n mnow)).bind fun v1 =>
    if v1 ≤ x1 then
      some (.inr x1)
    else
      ((s_Mod_turns mnow (0 : Int32) (1 : Int32) x1)).bind fun v3 =>
      if v3 = 0 then
        s_Mod_isLine_L2 mnow n (x1 + (1 : Int32))
      else
        some (.inl false)
def s_Mod_isLine (F : Nat) (mnow : Nat → Int32) : Option (Bool) :=
  (s_Mod_isLine_L2 mnow F (2 : Int32)).bind fun o5 =>
  Sum.elim (fun q_o =>
    some q_o) (fun o5x =>
    some true) o5
def s_Mod_flips (F : Nat) (mnow : Nat → Int32) (medg : Nat → Int32) (a0 : Int32) (a1 : Int32) : Option (Bool × (Nat → Int32)) :=
  ((s_Mod_has medg a0 a1)).bind fun v1 =>
  if (bI v1) = 0 then
    some (false, medg)
  else
    ((s_Mod_isTied F mnow a0 a1)).bind fun v3 =>
    if (bI v3) = 0 then
      ((s_Mod_apex F mnow medg a0 a1)).bind fun v5 =>
      ((s_Mod_apex F mnow medg a1 a0)).bind fun v6 =>
      if v5 < 0 then
        some (false, medg)
      else
        if v6 < 0 then
          some (false, medg)
        else
          ((s_Mod_good mnow a0 a1 v5 v6)).bind fun v9 =>
          if (bI v9) = 0 then
            ((s_Mod_puts medg a0 a1 false)).bind fun v11 =>
            ((s_Mod_puts v11 v5 v6 true)).bind fun v12 =>
            some (true, v12)
          else
            some (false, medg)
    else
      some (false, medg)
def s_Mod_lists (F : Nat) (mnow : Nat → Int32) (medg : Nat → Int32) (mcor : Nat → Int32) (mtri : Int32) (a0 : Int32) (a1 : Int32) (a2 : Int32) : Option ((Nat → Int32) × Int32) :=
  if a1 = a2 then
    some (mcor, mtri)
  else
    ((s_Mod_has medg a0 a1)).bind fun v2 =>
    if (bI v2) = 0 then
      some (mcor, mtri)
    else
      ((s_Mod_has medg a1 a2)).bind fun v4 =>
      if (bI v4) = 0 then
        some (mcor, mtri)
      else
        ((s_Mod_has medg a2 a0)).bind fun v6 =>
        if (bI v6) = 0 then
          some (mcor, mtri)
        else
          ((s_Mod_turns mnow a0 a1 a2)).bind fun v8 =>
          if v8 ≤ 0 then
            some (mcor, mtri)
          else
            ((s_Mod_isEmpty F mnow a0 a1 a2)).bind fun v10 =>
            if (bI v10) = 0 then
              some (mcor, mtri)
            else
              (aset 120 mcor ((3 : Int32) * mtri) a0).bind fun v12 =>
              (aset 120 v12 (((3 : Int32) * mtri) + (1 : Int32)) a1).bind fun v13 =>
              (aset 120 v13 (((3 : Int32) * mtri) + (2 : Int32)) a2).bind fun v14 =>
              some (v14, (mtri + (1 : Int32)))
def s_Mod_builds_L2  : Nat → Int32 → (Nat → Int32) → Option (Int32 × (Nat → Int32))
  | 0, _, _ => none
  | n + 1, x1, medg =>
    if (289 : Int32) ≤ x1 then
      some (x1, medg)
    else
      (aset 289 medg x1 (vp_nar .boolean (0 : Int32))).bind fun v2 =>
      s_Mod_builds_L2  n (x1 + (1 : Int32)) v2
def s_Mod_builds_L29 (mnow : Nat → Int32) : Nat → Int32 → (Nat → Int32) → Option (Int32 × (Nat → Int32))
  | 0, _, _ => none
  | n + 1, x1, medg =>
    ((s_Mod_m mnow)).bind fun v4 =>
    if v4 ≤ x1 then
      some (x1, medg)
    else
      ((s_Mod_end mnow x1 (0 : Int32))).bind fun v6 =>
      ((s_Mod_end mnow x1 (1 : Int32))).bind fun v7 =>
      ((s_Mod_puts medg v6 v7 true)).bind fun v8 =>
      s_Mod_builds_L29 mnow n (x1 + (1 : Int32)) v8
def s_Mod_builds_L74 (F : Nat) (mnow : Nat → Int32) (x1 : Int32) : Nat → Int32 → (Nat → Int32) → Option (Int32 × (Nat → Int32))
  | 0, _, _ => none
  | n + 1, x2, medg =>
    ((s_Mod_n mnow)).bind fun v12 =>
    if v12 ≤ x2 then
      some (x2, medg)
    else
      ((s_Mod_has medg x1 x2)).bind fun v14 =>
      if (bI v14) = 0 then
        ((s_Mod_hasPointOn F mnow x1 x2)).bind fun v16 =>
        if (bI v16) = 0 then
          ((s_Mod_crossesAny F mnow medg x1 x2)).bind fun v18 =>
          if (bI v18) = 0 then
            ((s_Mod_puts medg x1 x2 true)).bind fun v20 =>
            s_Mod_builds_L74 F mnow x1 n (x2 + (1 : Int32)) v20
          else
            s_Mod_builds_L74 F mnow x1 n (x2 + (1 : Int32)) medg
        else
          s_Mod_builds_L74 F mnow x1 n (x2 + (1 : Int32)) medg
      else
        s_Mod_builds_L74 F mnow x1 n (x2 + (1 : Int32)) medg
def s_Mod_builds_L62 (F : Nat) (mnow : Nat → Int32) : Nat → Int32 → (Nat → Int32) → Option (Int32 × (Nat → Int32))
  | 0, _, _ => none
  | n + 1, x1, medg =>
    ((s_Mod_n mnow)).bind fun v10 =>
    if v10 ≤ x1 then
      some (x1, medg)
    else
      (s_Mod_builds_L74 F mnow x1 F (x1 + (1 : Int32)) medg).bind fun o21x =>
      s_Mod_builds_L62 F mnow n (x1 + (1 : Int32)) o21x.2
def s_Mod_builds_L158 (F : Nat) (mnow : Nat → Int32) (x2 : Int32) : Nat → Int32 → Int32 → (Nat → Int32) → Option (Int32 × Int32 × (Nat → Int32))
  | 0, _, _, _ => none
  | n + 1, x1, x3, medg =>
    ((s_Mod_n mnow)).bind fun v28 =>
    if v28 ≤ x3 then
      some (x1, x3, medg)
    else
      ((s_Mod_flips F mnow medg x2 x3)).bind fun v30 =>
      if (bI v30.1) = 0 then
        s_Mod_builds_L158 F mnow x2 n x1 (x3 + (1 : Int32)) v30.2
      else
        s_Mod_builds_L158 F mnow x2 n (1 : Int32) (x3 + (1 : Int32)) v30.2
def s_Mod_builds_L146 (F : Nat) (mnow : Nat → Int32) : Nat → Int32 → Int32 → (Nat → Int32) → Option (Int32 × Int32 × (Nat → Int32))
  | 0, _, _, _ => none
  | n + 1, x1, x2, medg =>
    ((s_Mod_n mnow)).bind fun v26 =>
    if v26 ≤ x2 then
      some (x1, x2, medg)
    else
      (s_Mod_builds_L158 F mnow x2 F x1 (x2 + (1 : Int32)) medg).bind fun o32x =>
      s_Mod_builds_L146 F mnow n o32x.1 (x2 + (1 : Int32)) o32x.2.2
def s_Mod_builds_L138 (F : Nat) (mnow : Nat → Int32) : Nat → Int32 → (Nat → Int32) → Option (Int32 × (Nat → Int32))
  | 0, _, _ => none
  | n + 1, x1, medg =>
    if x1 = 0 then
      some (x1, medg)
    else
      (s_Mod_builds_L146 F mnow F (0 : Int32) (0 : Int32) medg).bind fun o33x =>
      s_Mod_builds_L138 F mnow n o33x.1 o33x.2.2
def s_Mod_builds_L219 (F : Nat) (mnow : Nat → Int32) (medg : Nat → Int32) (x2 : Int32) (x3 : Int32) : Nat → Int32 → (Nat → Int32) → Int32 → Option (Int32 × (Nat → Int32) × Int32)
  | 0, _, _, _ => none
  | n + 1, x4, mcor, mtri =>
    ((s_Mod_n mnow)).bind fun v39 =>
    if v39 ≤ x4 then
      some (x4, mcor, mtri)
    else
      ((s_Mod_lists F mnow medg mcor mtri x2 x3 x4)).bind fun v41 =>
      s_Mod_builds_L219 F mnow medg x2 x3 n (x4 + (1 : Int32)) v41.1 v41.2
def s_Mod_builds_L206 (F : Nat) (mnow : Nat → Int32) (medg : Nat → Int32) (x2 : Int32) : Nat → Int32 → (Nat → Int32) → Int32 → Option (Int32 × (Nat → Int32) × Int32)
  | 0, _, _, _ => none
  | n + 1, x3, mcor, mtri =>
    ((s_Mod_n mnow)).bind fun v37 =>
    if v37 ≤ x3 then
      some (x3, mcor, mtri)
    else
      (s_Mod_builds_L219 F mnow medg x2 x3 F (x2 + (1 : Int32)) mcor mtri).bind fun o42x =>
      s_Mod_builds_L206 F mnow medg x2 n (x3 + (1 : Int32)) o42x.2.1 o42x.2.2
def s_Mod_builds_L194 (F : Nat) (mnow : Nat → Int32) (medg : Nat → Int32) : Nat → Int32 → (Nat → Int32) → Int32 → Option (Int32 × (Nat → Int32) × Int32)
  | 0, _, _, _ => none
  | n + 1, x2, mcor, mtri =>
    ((s_Mod_n mnow)).bind fun v35 =>
    if v35 ≤ x2 then
      some (x2, mcor, mtri)
    else
      (s_Mod_builds_L206 F mnow medg x2 F (x2 + (1 : Int32)) mcor mtri).bind fun o43x =>
      s_Mod_builds_L194 F mnow medg n (x2 + (1 : Int32)) o43x.2.1 o43x.2.2
def s_Mod_builds (F : Nat) (mnow : Nat → Int32) (medg : Nat → Int32) (mcor : Nat → Int32) : Option ((Nat → Int32) × (Nat → Int32) × Int32) :=
  (s_Mod_builds_L2 F (0 : Int32) medg).bind fun o3x =>
  (s_Mod_builds_L29 mnow F (0 : Int32) o3x.2).bind fun o9x =>
  (s_Mod_builds_L62 F mnow F (0 : Int32) o9x.2).bind fun o22x =>
  ((s_Mod_isLine F mnow)).bind fun v23 =>
  if (bI v23) = 0 then
    (s_Mod_builds_L138 F mnow F (1 : Int32) o22x.2).bind fun o34x =>
    (s_Mod_builds_L194 F mnow o34x.2 F (0 : Int32) mcor (0 : Int32)).bind fun o44x =>
    some (o34x.2, o44x.2.1, o44x.2.2)
  else
    some (o22x.2, mcor, (0 : Int32))
def s_Mod_cornerOf (mcor : Nat → Int32) (a0 : Int32) (a1 : Int32) : Option (Int32) :=
  (aget 120 mcor (((3 : Int32) * a0) + (a1 - a1 / (3 : Int32) * (3 : Int32)))).bind fun v1 =>
  some v1
def s_Mod_triangleOf_L15 (mcor : Nat → Int32) (x1 : Int32) (x2 : Int32) (x3 : Int32) (x4 : Int32) : Nat → Int32 → Option ((Int32) ⊕ (Int32))
  | 0, _ => none
  | n + 1, x5 =>
    if (3 : Int32) ≤ x5 then
      some (.inr x5)
    else
      ((s_Mod_cornerOf mcor x4 x5)).bind fun v3 =>
      if v3 = x1 then
        ((s_Mod_cornerOf mcor x4 (x5 + (1 : Int32)))).bind fun v5 =>
        if v5 = x2 then
          ((s_Mod_cornerOf mcor x4 (x5 + (2 : Int32)))).bind fun v7 =>
          if v7 = x3 then
            some (.inl x4)
          else
            s_Mod_triangleOf_L15 mcor x1 x2 x3 x4 n (x5 + (1 : Int32))
        else
          s_Mod_triangleOf_L15 mcor x1 x2 x3 x4 n (x5 + (1 : Int32))
      else
        s_Mod_triangleOf_L15 mcor x1 x2 x3 x4 n (x5 + (1 : Int32))
def s_Mod_triangleOf_L3 (F : Nat) (mcor : Nat → Int32) (mtri : Int32) (x1 : Int32) (x2 : Int32) (x3 : Int32) : Nat → Int32 → Option ((Int32) ⊕ (Int32))
  | 0, _ => none
  | n + 1, x4 =>
    if mtri ≤ x4 then
      some (.inr x4)
    else
      (s_Mod_triangleOf_L15 mcor x1 x2 x3 x4 F (0 : Int32)).bind fun o9 =>
      Sum.elim (fun q_o =>
        some (.inl q_o)) (fun o9x =>
        s_Mod_triangleOf_L3 F mcor mtri x1 x2 x3 n (x4 + (1 : Int32))) o9
def s_Mod_triangleOf (F : Nat) (mcor : Nat → Int32) (mtri : Int32) (a0 : Int32) (a1 : Int32) (a2 : Int32) : Option (Int32) :=
  (s_Mod_triangleOf_L3 F mcor mtri a0 a1 a2 F (0 : Int32)).bind fun o10 =>
  Sum.elim (fun q_o =>
    some q_o) (fun o10x =>
    some (-1 : Int32)) o10
def s_Mod_areaOf (mnow : Nat → Int32) (mcor : Nat → Int32) (a0 : Int32) : Option (Int32) :=
  ((s_Mod_cornerOf mcor a0 (0 : Int32))).bind fun v1 =>
  ((s_Mod_cornerOf mcor a0 (1 : Int32))).bind fun v2 =>
  ((s_Mod_cornerOf mcor a0 (2 : Int32))).bind fun v3 =>
  ((s_Mod_x mnow v2)).bind fun v4 =>
  ((s_Mod_x mnow v1)).bind fun v5 =>
  ((s_Mod_y mnow v3)).bind fun v6 =>
  ((s_Mod_y mnow v1)).bind fun v7 =>
  ((s_Mod_y mnow v2)).bind fun v8 =>
  ((s_Mod_y mnow v1)).bind fun v9 =>
  ((s_Mod_x mnow v3)).bind fun v10 =>
  ((s_Mod_x mnow v1)).bind fun v11 =>
  some (((v4 - v5) * (v6 - v7)) - ((v8 - v9) * (v10 - v11)))
def s_Mod_edge_L17 (mnow : Nat → Int32) (medg : Nat → Int32) (mnum : Nat → Int32) (x1 : Int32) (x3 : Int32) : Nat → Int32 → Int32 → Option ((Bool × (Nat → Int32)) ⊕ (Int32 × Int32))
  | 0, _, _ => none
  | n + 1, x2, x4 =>
    ((s_Mod_n mnow)).bind fun v3 =>
    if v3 ≤ x4 then
      some (.inr (x2, x4))
    else
      ((s_Mod_has medg x3 x4)).bind fun v5 =>
      if (bI v5) = 0 then
        s_Mod_edge_L17 mnow medg mnum x1 x3 n x2 (x4 + (1 : Int32))
      else
        if x2 = x1 then
          (aset 2 mnum (0 : Int32) x3).bind fun v8 =>
          (aset 2 v8 (1 : Int32) x4).bind fun v9 =>
          some (.inl (true, v9))
        else
          s_Mod_edge_L17 mnow medg mnum x1 x3 n (x2 + (1 : Int32)) (x4 + (1 : Int32))
def s_Mod_edge_L4 (F : Nat) (mnow : Nat → Int32) (medg : Nat → Int32) (mnum : Nat → Int32) (x1 : Int32) : Nat → Int32 → Int32 → Option ((Bool × (Nat → Int32)) ⊕ (Int32 × Int32))
  | 0, _, _ => none
  | n + 1, x2, x3 =>
    ((s_Mod_n mnow)).bind fun v1 =>
    if v1 ≤ x3 then
      some (.inr (x2, x3))
    else
      (s_Mod_edge_L17 mnow medg mnum x1 x3 F x2 (x3 + (1 : Int32))).bind fun o10 =>
      Sum.elim (fun q_o =>
        some (.inl q_o)) (fun o10x =>
        s_Mod_edge_L4 F mnow medg mnum x1 n o10x.1 (x3 + (1 : Int32))) o10
def s_Mod_edge (F : Nat) (mnow : Nat → Int32) (medg : Nat → Int32) (mnum : Nat → Int32) (a0 : Int32) : Option (Bool × (Nat → Int32)) :=
  (s_Mod_edge_L4 F mnow medg mnum a0 F (0 : Int32) (0 : Int32)).bind fun o11 =>
  Sum.elim (fun q_o =>
    some q_o) (fun o11x =>
    some (false, mnum)) o11
def s_Mod_numberOf_L20 (mnow : Nat → Int32) (medg : Nat → Int32) (x1 : Int32) (x2 : Int32) (x4 : Int32) : Nat → Int32 → Int32 → Option ((Int32) ⊕ (Int32 × Int32))
  | 0, _, _ => none
  | n + 1, x3, x5 =>
    ((s_Mod_n mnow)).bind fun v3 =>
    if v3 ≤ x5 then
      some (.inr (x3, x5))
    else
      ((s_Mod_has medg x4 x5)).bind fun v5 =>
      if (bI v5) = 0 then
        s_Mod_numberOf_L20 mnow medg x1 x2 x4 n x3 (x5 + (1 : Int32))
      else
        if x4 = (imin x1 x2) then
          if x5 = (imax x1 x2) then
            some (.inl x3)
          else
            s_Mod_numberOf_L20 mnow medg x1 x2 x4 n (x3 + (1 : Int32)) (x5 + (1 : Int32))
        else
          s_Mod_numberOf_L20 mnow medg x1 x2 x4 n (x3 + (1 : Int32)) (x5 + (1 : Int32))
def s_Mod_numberOf_L5 (F : Nat) (mnow : Nat → Int32) (medg : Nat → Int32) (x1 : Int32) (x2 : Int32) : Nat → Int32 → Int32 → Option ((Int32) ⊕ (Int32 × Int32))
  | 0, _, _ => none
  | n + 1, x3, x4 =>
    ((s_Mod_n mnow)).bind fun v1 =>
    if v1 ≤ x4 then
      some (.inr (x3, x4))
    else
      (s_Mod_numberOf_L20 mnow medg x1 x2 x4 F x3 (x4 + (1 : Int32))).bind fun o9 =>
      Sum.elim (fun q_o =>
        some (.inl q_o)) (fun o9x =>
        s_Mod_numberOf_L5 F mnow medg x1 x2 n o9x.1 (x4 + (1 : Int32))) o9
def s_Mod_numberOf (F : Nat) (mnow : Nat → Int32) (medg : Nat → Int32) (a0 : Int32) (a1 : Int32) : Option (Int32) :=
  (s_Mod_numberOf_L5 F mnow medg a0 a1 F (0 : Int32) (0 : Int32)).bind fun o10 =>
  Sum.elim (fun q_o =>
    some q_o) (fun o10x =>
    some (-1 : Int32)) o10
def s_Mod_edgeTotal_L16 (mnow : Nat → Int32) (medg : Nat → Int32) (x2 : Int32) : Nat → Int32 → Int32 → Option (Int32 × Int32)
  | 0, _, _ => none
  | n + 1, x1, x3 =>
    ((s_Mod_n mnow)).bind fun v3 =>
    if v3 ≤ x3 then
      some (x1, x3)
    else
      ((s_Mod_has medg x2 x3)).bind fun v5 =>
      if (bI v5) = 0 then
        s_Mod_edgeTotal_L16 mnow medg x2 n x1 (x3 + (1 : Int32))
      else
        s_Mod_edgeTotal_L16 mnow medg x2 n (x1 + (1 : Int32)) (x3 + (1 : Int32))
def s_Mod_edgeTotal_L4 (F : Nat) (mnow : Nat → Int32) (medg : Nat → Int32) : Nat → Int32 → Int32 → Option (Int32 × Int32)
  | 0, _, _ => none
  | n + 1, x1, x2 =>
    ((s_Mod_n mnow)).bind fun v1 =>
    if v1 ≤ x2 then
      some (x1, x2)
    else
      (s_Mod_edgeTotal_L16 mnow medg x2 F x1 (x2 + (1 : Int32))).bind fun o7x =>
      s_Mod_edgeTotal_L4 F mnow medg n o7x.1 (x2 + (1 : Int32))
def s_Mod_edgeTotal (F : Nat) (mnow : Nat → Int32) (medg : Nat → Int32) : Option (Int32) :=
  (s_Mod_edgeTotal_L4 F mnow medg F (0 : Int32) (0 : Int32)).bind fun o8x =>
  some o8x.1
def s_Mod_records_L51 (mnow : Nat → Int32) (mols : Int32) : Nat → Int32 → (Nat → Int32) → Option (Int32 × (Nat → Int32))
  | 0, _, _ => none
  | n + 1, x1, mold =>
    if (56 : Int32) ≤ x1 then
      some (x1, mold)
    else
      (aget 56 mnow x1).bind fun v3 =>
      (aset 672 mold (((56 : Int32) * mols) + x1) v3).bind fun v4 =>
      s_Mod_records_L51 mnow mols n (x1 + (1 : Int32)) v4
def s_Mod_records_L11  : Nat → Int32 → (Nat → Int32) → Option (Int32 × (Nat → Int32))
  | 0, _, _ => none
  | n + 1, x1, mold =>
    if (616 : Int32) ≤ x1 then
      some (x1, mold)
    else
      (aget 672 mold ((56 : Int32) + x1)).bind fun v7 =>
      (aset 672 mold x1 v7).bind fun v8 =>
      s_Mod_records_L11  n (x1 + (1 : Int32)) v8
def s_Mod_records (F : Nat) (mnow : Nat → Int32) (mold : Nat → Int32) (mols : Int32) : Option ((Nat → Int32) × Int32) :=
  if mols = (12 : Int32) then
    (s_Mod_records_L11 F (0 : Int32) mold).bind fun o9x =>
    (s_Mod_records_L51 mnow (mols - (1 : Int32)) F (0 : Int32) o9x.2).bind fun o10x =>
    some (o10x.2, ((mols - (1 : Int32)) + (1 : Int32)))
  else
    (s_Mod_records_L51 mnow mols F (0 : Int32) mold).bind fun o5x =>
    some (o5x.2, (mols + (1 : Int32)))
def s_Mod_isBarred_L3 (mnow : Nat → Int32) (x1 : Int32) (x2 : Int32) (x3 : Int32) : Nat → Int32 → Option ((Bool) ⊕ (Int32))
  | 0, _ => none
  | n + 1, x4 =>
    ((s_Mod_n mnow)).bind fun v1 =>
    if v1 ≤ x4 then
      some (.inr x4)
    else
      if x4 = x1 then
        s_Mod_isBarred_L3 mnow x1 x2 x3 n (x4 + (1 : Int32))
      else
        ((s_Mod_x mnow x4)).bind fun v4 =>
        if v4 = x2 then
          ((s_Mod_y mnow x4)).bind fun v6 =>
          if v6 = x3 then
            some (.inl true)
          else
            s_Mod_isBarred_L3 mnow x1 x2 x3 n (x4 + (1 : Int32))
        else
          s_Mod_isBarred_L3 mnow x1 x2 x3 n (x4 + (1 : Int32))
def s_Mod_isBarred_L49 (mnow : Nat → Int32) (x2 : Int32) (x3 : Int32) : Nat → Int32 → Option ((Bool) ⊕ (Int32))
  | 0, _ => none
  | n + 1, x4 =>
    ((s_Mod_m mnow)).bind fun v9 =>
    if v9 ≤ x4 then
      some (.inr x4)
    else
      ((s_Mod_end mnow x4 (0 : Int32))).bind fun v11 =>
      ((s_Mod_end mnow x4 (1 : Int32))).bind fun v12 =>
      ((s_Mod_isOn mnow v11 v12 x2 x3)).bind fun v13 =>
      if (bI v13) = 0 then
        s_Mod_isBarred_L49 mnow x2 x3 n (x4 + (1 : Int32))
      else
        some (.inl true)
def s_Mod_isBarred (F : Nat) (mnow : Nat → Int32) (a0 : Int32) (a1 : Int32) (a2 : Int32) : Option (Bool) :=
  (s_Mod_isBarred_L3 mnow a0 a1 a2 F (0 : Int32)).bind fun o8 =>
  Sum.elim (fun q_o =>
    some q_o) (fun o8x =>
    (s_Mod_isBarred_L49 mnow a1 a2 F (0 : Int32)).bind fun o15 =>
    Sum.elim (fun q_o =>
      some q_o) (fun o15x =>
      some false) o15) o8
def s_Mod_isEnd_L2 (mnow : Nat → Int32) (x1 : Int32) : Nat → Int32 → Option ((Bool) ⊕ (Int32))
  | 0, _ => none
  | n + 1, x2 =>
    ((s_Mod_m mnow)).bind fun v1 =>
    if v1 ≤ x2 then
      some (.inr x2)
    else
      ((s_Mod_end mnow x2 (0 : Int32))).bind fun v3 =>
      if v3 = x1 then
        some (.inl true)
      else
        ((s_Mod_end mnow x2 (1 : Int32))).bind fun v5 =>
        if v5 = x1 then
          some (.inl true)
        else
          s_Mod_isEnd_L2 mnow x1 n (x2 + (1 : Int32))
def s_Mod_isEnd (F : Nat) (mnow : Nat → Int32) (a0 : Int32) : Option (Bool) :=
  (s_Mod_isEnd_L2 mnow a0 F (0 : Int32)).bind fun o7 =>
  Sum.elim (fun q_o =>
    some q_o) (fun o7x =>
    some false) o7
def s_Mod_whyNot (F : Nat) (mnow : Nat → Int32) (a0 : Int32) (a1 : Int32) : Option (Int32) :=
  if (bI (s_Mod_isPlace a0 a1)) = 0 then
    some (1 : Int32)
  else
    ((s_Mod_n mnow)).bind fun v2 =>
    if v2 = (16 : Int32) then
      some (2 : Int32)
    else
      ((s_Mod_isBarred F mnow (-1 : Int32) a0 a1)).bind fun v4 =>
      if (bI v4) = 0 then
        some (0 : Int32)
      else
        some (3 : Int32)
def s_Mod_sets (mnow : Nat → Int32) (a0 : Int32) (a1 : Int32) (a2 : Int32) : Option ((Nat → Int32)) :=
  (aset 56 mnow ((2 : Int32) + a0) a1).bind fun v1 =>
  (aset 56 v1 ((19 : Int32) + a0) a2).bind fun v2 =>
  some v2
def s_Mod_addPoint (F : Nat) (mnow : Nat → Int32) (mold : Nat → Int32) (mols : Int32) (a0 : Int32) (a1 : Int32) : Option (Int32 × Int32 × (Nat → Int32) × (Nat → Int32) × Int32) :=
  ((s_Mod_whyNot F mnow a0 a1)).bind fun v1 =>
  if v1 ≤ 0 then
    ((s_Mod_records F mnow mold mols)).bind fun v3 =>
    ((s_Mod_n mnow)).bind fun v4 =>
    ((s_Mod_sets mnow v4 a0 a1)).bind fun v5 =>
    (aget 56 v5 (0 : Int32)).bind fun v6 =>
    (aset 56 v5 (0 : Int32) (v6 + (1 : Int32))).bind fun v7 =>
    some (v6, v1, v7, v3.1, v3.2)
  else
    some ((0 : Int32), v1, mnow, mold, mols)
def s_Mod_drops_L2  : Nat → Int32 → (Nat → Int32) → Option (Int32 × (Nat → Int32))
  | 0, _, _ => none
  | n + 1, x2, mnow =>
    ((s_Mod_n mnow)).bind fun v1 =>
    if v1 ≤ (x2 + (1 : Int32)) then
      some (x2, mnow)
    else
      ((s_Mod_x mnow (x2 + (1 : Int32)))).bind fun v3 =>
      ((s_Mod_y mnow (x2 + (1 : Int32)))).bind fun v4 =>
      ((s_Mod_sets mnow x2 v3 v4)).bind fun v5 =>
      s_Mod_drops_L2  n (x2 + (1 : Int32)) v5
def s_Mod_drops_L49 (x1 : Int32) : Nat → Int32 → (Nat → Int32) → Option (Int32 × (Nat → Int32))
  | 0, _, _ => none
  | n + 1, x2, mnow =>
    ((s_Mod_m mnow)).bind fun v9 =>
    if ((2 : Int32) * v9) ≤ x2 then
      some (x2, mnow)
    else
      (aget 56 mnow ((36 : Int32) + x2)).bind fun v11 =>
      if v11 ≤ x1 then
        s_Mod_drops_L49 x1 n (x2 + (1 : Int32)) mnow
      else
        (aget 56 mnow ((36 : Int32) + x2)).bind fun v13 =>
        (aset 56 mnow ((36 : Int32) + x2) (v13 - (1 : Int32))).bind fun v14 =>
        s_Mod_drops_L49 x1 n (x2 + (1 : Int32)) v14
def s_Mod_drops (F : Nat) (mnow : Nat → Int32) (a0 : Int32) : Option ((Nat → Int32)) :=
  (s_Mod_drops_L2 F a0 mnow).bind fun o6x =>
  (aget 56 o6x.2 (0 : Int32)).bind fun v7 =>
  (aset 56 o6x.2 (0 : Int32) (v7 - (1 : Int32))).bind fun v8 =>
  (s_Mod_drops_L49 a0 F (0 : Int32) v8).bind fun o15x =>
  some o15x.2
def s_Mod_removePoint (F : Nat) (mnow : Nat → Int32) (mold : Nat → Int32) (mols : Int32) (a0 : Int32) : Option (Int32 × Int32 × (Nat → Int32) × (Nat → Int32) × Int32) :=
  ((s_Mod_isPoint mnow a0)).bind fun v1 =>
  if (bI v1) = 0 then
    some ((s_Mod_raises (1 : Int32)).1, (s_Mod_raises (1 : Int32)).2, mnow, mold, mols)
  else
    ((s_Mod_isEnd F mnow a0)).bind fun v3 =>
    if (bI v3) = 0 then
      ((s_Mod_records F mnow mold mols)).bind fun v5 =>
      ((s_Mod_drops F mnow a0)).bind fun v6 =>
      ((s_Mod_n v6)).bind fun v7 =>
      some (v7, (0 : Int32), v6, v5.1, v5.2)
    else
      some ((s_Mod_raises (2 : Int32)).1, (s_Mod_raises (2 : Int32)).2, mnow, mold, mols)
def s_Mod_movePoint (F : Nat) (mnow : Nat → Int32) (mold : Nat → Int32) (mols : Int32) (a0 : Int32) (a1 : Int32) (a2 : Int32) : Option (Bool × Int32 × (Nat → Int32) × (Nat → Int32) × Int32) :=
  ((s_Mod_isPoint mnow a0)).bind fun v1 =>
  if (bI v1) = 0 then
    if (1 : Int32) ≤ 0 then
      ((s_Mod_x mnow a0)).bind fun v53 =>
      if v53 = a1 then
        ((s_Mod_y mnow a0)).bind fun v57 =>
        if v57 = a2 then
          ((s_Mod_records F mnow mold mols)).bind fun v59 =>
          ((s_Mod_sets mnow a0 a1 a2)).bind fun v60 =>
          some (false, (1 : Int32), v60, v59.1, v59.2)
        else
          ((s_Mod_records F mnow mold mols)).bind fun v61 =>
          ((s_Mod_sets mnow a0 a1 a2)).bind fun v62 =>
          some (true, (1 : Int32), v62, v61.1, v61.2)
      else
        ((s_Mod_records F mnow mold mols)).bind fun v55 =>
        ((s_Mod_sets mnow a0 a1 a2)).bind fun v56 =>
        some (true, (1 : Int32), v56, v55.1, v55.2)
    else
      some (false, (1 : Int32), mnow, mold, mols)
  else
    if (bI (s_Mod_isPlace a1 a2)) = 0 then
      if (2 : Int32) ≤ 0 then
        ((s_Mod_x mnow a0)).bind fun v42 =>
        if v42 = a1 then
          ((s_Mod_y mnow a0)).bind fun v46 =>
          if v46 = a2 then
            ((s_Mod_records F mnow mold mols)).bind fun v48 =>
            ((s_Mod_sets mnow a0 a1 a2)).bind fun v49 =>
            some (false, (2 : Int32), v49, v48.1, v48.2)
          else
            ((s_Mod_records F mnow mold mols)).bind fun v50 =>
            ((s_Mod_sets mnow a0 a1 a2)).bind fun v51 =>
            some (true, (2 : Int32), v51, v50.1, v50.2)
        else
          ((s_Mod_records F mnow mold mols)).bind fun v44 =>
          ((s_Mod_sets mnow a0 a1 a2)).bind fun v45 =>
          some (true, (2 : Int32), v45, v44.1, v44.2)
      else
        some (false, (2 : Int32), mnow, mold, mols)
    else
      ((s_Mod_isEnd F mnow a0)).bind fun v4 =>
      if (bI v4) = 0 then
        ((s_Mod_isBarred F mnow a0 a1 a2)).bind fun v6 =>
        if (bI v6) = 0 then
          if (0 : Int32) ≤ 0 then
            ((s_Mod_x mnow a0)).bind fun v9 =>
            if v9 = a1 then
              ((s_Mod_y mnow a0)).bind fun v13 =>
              if v13 = a2 then
                ((s_Mod_records F mnow mold mols)).bind fun v15 =>
                ((s_Mod_sets mnow a0 a1 a2)).bind fun v16 =>
                some (false, (0 : Int32), v16, v15.1, v15.2)
              else
                ((s_Mod_records F mnow mold mols)).bind fun v17 =>
                ((s_Mod_sets mnow a0 a1 a2)).bind fun v18 =>
                some (true, (0 : Int32), v18, v17.1, v17.2)
            else
              ((s_Mod_records F mnow mold mols)).bind fun v11 =>
              ((s_Mod_sets mnow a0 a1 a2)).bind fun v12 =>
              some (true, (0 : Int32), v12, v11.1, v11.2)
          else
            some (false, (0 : Int32), mnow, mold, mols)
        else
          if (4 : Int32) ≤ 0 then
            ((s_Mod_x mnow a0)).bind fun v20 =>
            if v20 = a1 then
              ((s_Mod_y mnow a0)).bind fun v24 =>
              if v24 = a2 then
                ((s_Mod_records F mnow mold mols)).bind fun v26 =>
                ((s_Mod_sets mnow a0 a1 a2)).bind fun v27 =>
                some (false, (4 : Int32), v27, v26.1, v26.2)
              else
                ((s_Mod_records F mnow mold mols)).bind fun v28 =>
                ((s_Mod_sets mnow a0 a1 a2)).bind fun v29 =>
                some (true, (4 : Int32), v29, v28.1, v28.2)
            else
              ((s_Mod_records F mnow mold mols)).bind fun v22 =>
              ((s_Mod_sets mnow a0 a1 a2)).bind fun v23 =>
              some (true, (4 : Int32), v23, v22.1, v22.2)
          else
            some (false, (4 : Int32), mnow, mold, mols)
      else
        if (3 : Int32) ≤ 0 then
          ((s_Mod_x mnow a0)).bind fun v31 =>
          if v31 = a1 then
            ((s_Mod_y mnow a0)).bind fun v35 =>
            if v35 = a2 then
              ((s_Mod_records F mnow mold mols)).bind fun v37 =>
              ((s_Mod_sets mnow a0 a1 a2)).bind fun v38 =>
              some (false, (3 : Int32), v38, v37.1, v37.2)
            else
              ((s_Mod_records F mnow mold mols)).bind fun v39 =>
              ((s_Mod_sets mnow a0 a1 a2)).bind fun v40 =>
              some (true, (3 : Int32), v40, v39.1, v39.2)
          else
            ((s_Mod_records F mnow mold mols)).bind fun v33 =>
            ((s_Mod_sets mnow a0 a1 a2)).bind fun v34 =>
            some (true, (3 : Int32), v34, v33.1, v33.2)
        else
          some (false, (3 : Int32), mnow, mold, mols)
def s_Mod_pointCount (mnow : Nat → Int32) : Option (Int32 × Int32) :=
  ((s_Mod_n mnow)).bind fun v1 =>
  some (v1, (0 : Int32))
def s_Mod_coordinate (mnow : Nat → Int32) (a0 : Int32) (a1 : Int32) : Option (Int32 × Int32) :=
  ((s_Mod_isPoint mnow a0)).bind fun v1 =>
  if (bI v1) = 0 then
    some ((s_Mod_raises (1 : Int32)).1, (s_Mod_raises (1 : Int32)).2)
  else
    if (bI (s_Mod_in a1 (0 : Int32) (1 : Int32))) = 0 then
      some ((s_Mod_raises (2 : Int32)).1, (s_Mod_raises (2 : Int32)).2)
    else
      if a1 = 0 then
        ((s_Mod_x mnow a0)).bind fun v6 =>
        some (v6, (0 : Int32))
      else
        ((s_Mod_y mnow a0)).bind fun v5 =>
        some (v5, (0 : Int32))
def s_Mod_addConstraint_L79 (mnow : Nat → Int32) (mold : Nat → Int32) (mols : Int32) (x1 : Int32) (x2 : Int32) : Nat → Int32 → Option ((Int32 × Int32 × (Nat → Int32) × (Nat → Int32) × Int32) ⊕ (Int32))
  | 0, _ => none
  | n + 1, x3 =>
    ((s_Mod_m mnow)).bind fun v12 =>
    if v12 ≤ x3 then
      some (.inr x3)
    else
      ((s_Mod_end mnow x3 (0 : Int32))).bind fun v14 =>
      ((s_Mod_end mnow x3 (1 : Int32))).bind fun v15 =>
      ((s_Mod_cross mnow x1 x2 v14 v15)).bind fun v16 =>
      if (bI v16) = 0 then
        s_Mod_addConstraint_L79 mnow mold mols x1 x2 n (x3 + (1 : Int32))
      else
        some (.inl ((s_Mod_raises (4 : Int32)).1, (s_Mod_raises (4 : Int32)).2, mnow, mold, mols))
def s_Mod_addConstraint (F : Nat) (mnow : Nat → Int32) (mold : Nat → Int32) (mols : Int32) (a0 : Int32) (a1 : Int32) : Option (Int32 × Int32 × (Nat → Int32) × (Nat → Int32) × Int32) :=
  ((s_Mod_isPoint mnow a0)).bind fun v1 =>
  if (bI v1) = 0 then
    some ((s_Mod_raises (1 : Int32)).1, (s_Mod_raises (1 : Int32)).2, mnow, mold, mols)
  else
    ((s_Mod_isPoint mnow a1)).bind fun v3 =>
    if (bI v3) = 0 then
      some ((s_Mod_raises (1 : Int32)).1, (s_Mod_raises (1 : Int32)).2, mnow, mold, mols)
    else
      if a0 = a1 then
        some ((s_Mod_raises (2 : Int32)).1, (s_Mod_raises (2 : Int32)).2, mnow, mold, mols)
      else
        ((s_Mod_m mnow)).bind fun v6 =>
        if v6 = (10 : Int32) then
          some ((s_Mod_raises (3 : Int32)).1, (s_Mod_raises (3 : Int32)).2, mnow, mold, mols)
        else
          ((s_Mod_isTied F mnow a0 a1)).bind fun v8 =>
          if (bI v8) = 0 then
            ((s_Mod_hasPointOn F mnow a0 a1)).bind fun v10 =>
            if (bI v10) = 0 then
              (s_Mod_addConstraint_L79 mnow mold mols a0 a1 F (0 : Int32)).bind fun o18 =>
              Sum.elim (fun q_o =>
                some q_o) (fun o18x =>
                ((s_Mod_records F mnow mold mols)).bind fun v19 =>
                ((s_Mod_m mnow)).bind fun v20 =>
                (aset 56 mnow ((36 : Int32) + ((2 : Int32) * v20)) (imin a0 a1)).bind fun v21 =>
                (aset 56 v21 (((36 : Int32) + ((2 : Int32) * v20)) + (1 : Int32)) (imax a0 a1)).bind fun v22 =>
                (aget 56 v22 (1 : Int32)).bind fun v23 =>
                (aset 56 v22 (1 : Int32) (v23 + (1 : Int32))).bind fun v24 =>
                some (v23, (0 : Int32), v24, v19.1, v19.2)) o18
            else
              some ((s_Mod_raises (4 : Int32)).1, (s_Mod_raises (4 : Int32)).2, mnow, mold, mols)
          else
            some ((s_Mod_raises (4 : Int32)).1, (s_Mod_raises (4 : Int32)).2, mnow, mold, mols)
def s_Mod_unties_L4  : Nat → Int32 → (Nat → Int32) → Option (Int32 × (Nat → Int32))
  | 0, _, _ => none
  | n + 1, x2, mnow =>
    ((s_Mod_m mnow)).bind fun v1 =>
    if ((2 : Int32) * v1) ≤ (x2 + (2 : Int32)) then
      some (x2, mnow)
    else
      (aget 56 mnow (((36 : Int32) + x2) + (2 : Int32))).bind fun v3 =>
      (aset 56 mnow ((36 : Int32) + x2) v3).bind fun v4 =>
      s_Mod_unties_L4  n (x2 + (1 : Int32)) v4
def s_Mod_unties (F : Nat) (mnow : Nat → Int32) (a0 : Int32) : Option ((Nat → Int32)) :=
  (s_Mod_unties_L4 F ((2 : Int32) * a0) mnow).bind fun o5x =>
  (aget 56 o5x.2 (1 : Int32)).bind fun v6 =>
  (aset 56 o5x.2 (1 : Int32) (v6 - (1 : Int32))).bind fun v7 =>
  some v7
def s_Mod_removeConstraint (F : Nat) (mnow : Nat → Int32) (mold : Nat → Int32) (mols : Int32) (a0 : Int32) : Option (Int32 × Int32 × (Nat → Int32) × (Nat → Int32) × Int32) :=
  ((s_Mod_isConstraint mnow a0)).bind fun v1 =>
  if (bI v1) = 0 then
    some ((s_Mod_raises (1 : Int32)).1, (s_Mod_raises (1 : Int32)).2, mnow, mold, mols)
  else
    ((s_Mod_records F mnow mold mols)).bind fun v3 =>
    ((s_Mod_unties F mnow a0)).bind fun v4 =>
    ((s_Mod_m v4)).bind fun v5 =>
    some (v5, (0 : Int32), v4, v3.1, v3.2)
def s_Mod_constraintCount (mnow : Nat → Int32) : Option (Int32 × Int32) :=
  ((s_Mod_m mnow)).bind fun v1 =>
  some (v1, (0 : Int32))
def s_Mod_constraintEnd (mnow : Nat → Int32) (a0 : Int32) (a1 : Int32) : Option (Int32 × Int32) :=
  ((s_Mod_isConstraint mnow a0)).bind fun v1 =>
  if (bI v1) = 0 then
    some ((s_Mod_raises (1 : Int32)).1, (s_Mod_raises (1 : Int32)).2)
  else
    if (bI (s_Mod_in a1 (0 : Int32) (1 : Int32))) = 0 then
      some ((s_Mod_raises (2 : Int32)).1, (s_Mod_raises (2 : Int32)).2)
    else
      ((s_Mod_end mnow a0 a1)).bind fun v4 =>
      some (v4, (0 : Int32))
def s_Mod_feed (minp : Nat → Int32) (mlen : Int32) (a0 : Int32) : Option (Int32 × Int32 × (Nat → Int32) × Int32) :=
  if mlen = (60 : Int32) then
    some ((s_Mod_raises (1 : Int32)).1, (s_Mod_raises (1 : Int32)).2, minp, mlen)
  else
    (aset 60 minp mlen a0).bind fun v2 =>
    some ((mlen + (1 : Int32)), (0 : Int32), v2, (mlen + (1 : Int32)))
def s_Mod_here (minp : Nat → Int32) (mlen : Int32) (mat : Int32) : Option (Int32) :=
  if mlen ≤ mat then
    some (-1 : Int32)
  else
    (aget 60 minp mat).bind fun v2 =>
    some v2
def s_Mod_number_L4 (minp : Nat → Int32) (mlen : Int32) : Nat → Int32 → Int32 → Int32 → Option (Int32 × Int32 × Int32)
  | 0, _, _, _ => none
  | n + 1, x1, x2, mat =>
    if (3 : Int32) ≤ x2 then
      some (x1, x2, mat)
    else
      ((s_Mod_here minp mlen mat)).bind fun v2 =>
      if (bI (s_Mod_in v2 (48 : Int32) (57 : Int32))) = 0 then
        some (x1, x2, mat)
      else
        (aget 60 minp mat).bind fun v4 =>
        s_Mod_number_L4 minp mlen n ((((10 : Int32) * (imax (0 : Int32) x1)) + v4) - (48 : Int32)) (x2 + (1 : Int32)) (mat + (1 : Int32))
def s_Mod_number (F : Nat) (minp : Nat → Int32) (mlen : Int32) (mat : Int32) : Option (Int32 × Int32) :=
  (s_Mod_number_L4 minp mlen F (-1 : Int32) (0 : Int32) mat).bind fun o5x =>
  some (o5x.1, o5x.2.2)
def s_Mod_entry (F : Nat) (mthr : Int32) (mnow : Nat → Int32) (mold : Nat → Int32) (mols : Int32) (minp : Nat → Int32) (mlen : Int32) (mat : Int32) (a0 : Bool) : Option (Int32 × Int32 × (Nat → Int32) × (Nat → Int32) × Int32 × Int32) :=
  ((s_Mod_number F minp mlen mat)).bind fun v1 =>
  if 0 ≤ v1.1 then
    ((s_Mod_here minp mlen v1.2)).bind fun v3 =>
    if v3 = (44 : Int32) then
      ((s_Mod_number F minp mlen (v1.2 + (1 : Int32)))).bind fun v5 =>
      if 0 ≤ v5.1 then
        if (bI a0) = 0 then
          some ((1 : Int32), mthr, mnow, mold, mols, v5.2)
        else
          if v3 = (44 : Int32) then
            ((s_Mod_addPoint F mnow mold mols v1.1 v5.1)).bind fun v12 =>
            if v12.2.1 = 0 then
              if v12.1 < 0 then
                some ((0 : Int32), v12.2.1, v12.2.2.1, v12.2.2.2.1, v12.2.2.2.2, v5.2)
              else
                some ((1 : Int32), v12.2.1, v12.2.2.1, v12.2.2.2.1, v12.2.2.2.2, v5.2)
            else
              some ((0 : Int32), v12.2.1, v12.2.2.1, v12.2.2.2.1, v12.2.2.2.2, v5.2)
          else
            ((s_Mod_addConstraint F mnow mold mols v1.1 v5.1)).bind fun v9 =>
            if v9.2.1 = 0 then
              if v9.1 < 0 then
                some ((0 : Int32), v9.2.1, v9.2.2.1, v9.2.2.2.1, v9.2.2.2.2, v5.2)
              else
                some ((1 : Int32), v9.2.1, v9.2.2.1, v9.2.2.2.1, v9.2.2.2.2, v5.2)
            else
              some ((0 : Int32), v9.2.1, v9.2.2.1, v9.2.2.2.1, v9.2.2.2.2, v5.2)
      else
        some ((-1 : Int32), mthr, mnow, mold, mols, v5.2)
    else
      if v3 = (45 : Int32) then
        ((s_Mod_number F minp mlen (v1.2 + (1 : Int32)))).bind fun v16 =>
        if 0 ≤ v16.1 then
          if (bI a0) = 0 then
            some ((1 : Int32), mthr, mnow, mold, mols, v16.2)
          else
            if v3 = (44 : Int32) then
              ((s_Mod_addPoint F mnow mold mols v1.1 v16.1)).bind fun v23 =>
              if v23.2.1 = 0 then
                if v23.1 < 0 then
                  some ((0 : Int32), v23.2.1, v23.2.2.1, v23.2.2.2.1, v23.2.2.2.2, v16.2)
                else
                  some ((1 : Int32), v23.2.1, v23.2.2.1, v23.2.2.2.1, v23.2.2.2.2, v16.2)
              else
                some ((0 : Int32), v23.2.1, v23.2.2.1, v23.2.2.2.1, v23.2.2.2.2, v16.2)
            else
              ((s_Mod_addConstraint F mnow mold mols v1.1 v16.1)).bind fun v20 =>
              if v20.2.1 = 0 then
                if v20.1 < 0 then
                  some ((0 : Int32), v20.2.1, v20.2.2.1, v20.2.2.2.1, v20.2.2.2.2, v16.2)
                else
                  some ((1 : Int32), v20.2.1, v20.2.2.1, v20.2.2.2.1, v20.2.2.2.2, v16.2)
              else
                some ((0 : Int32), v20.2.1, v20.2.2.1, v20.2.2.2.1, v20.2.2.2.2, v16.2)
        else
          some ((-1 : Int32), mthr, mnow, mold, mols, v16.2)
      else
        some ((-1 : Int32), mthr, mnow, mold, mols, v1.2)
  else
    some ((-1 : Int32), mthr, mnow, mold, mols, v1.2)
def s_Mod_readInput_L12 (F : Nat) (minp : Nat → Int32) (mlen : Int32) : Nat → Int32 → Int32 → (Nat → Int32) → (Nat → Int32) → Int32 → Int32 → Option (Int32 × Int32 × (Nat → Int32) × (Nat → Int32) × Int32 × Int32)
  | 0, _, _, _, _, _, _ => none
  | n + 1, x1, mthr, mnow, mold, mols, mat =>
    if x1 = 0 then
      some (x1, mthr, mnow, mold, mols, mat)
    else
      ((s_Mod_entry F mthr mnow mold mols minp mlen mat false)).bind fun v2 =>
      if v2.1 ≤ 0 then
        if (0 : Int32) = 0 then
          some ((0 : Int32), v2.2.1, v2.2.2.1, v2.2.2.2.1, v2.2.2.2.2.1, v2.2.2.2.2.2)
        else
          ((s_Mod_here minp mlen v2.2.2.2.2.2)).bind fun v5 =>
          if v5 = (59 : Int32) then
            if (1 : Int32) = 0 then
              if v2.2.2.2.2.2 = mlen then
                s_Mod_readInput_L12 F minp mlen n (1 : Int32) v2.2.1 v2.2.2.1 v2.2.2.2.1 v2.2.2.2.2.1 (61 : Int32)
              else
                s_Mod_readInput_L12 F minp mlen n (1 : Int32) v2.2.1 v2.2.2.1 v2.2.2.2.1 v2.2.2.2.2.1 v2.2.2.2.2.2
            else
              s_Mod_readInput_L12 F minp mlen n (1 : Int32) v2.2.1 v2.2.2.1 v2.2.2.2.1 v2.2.2.2.2.1 (v2.2.2.2.2.2 + (1 : Int32))
          else
            if (0 : Int32) = 0 then
              if v2.2.2.2.2.2 = mlen then
                s_Mod_readInput_L12 F minp mlen n (0 : Int32) v2.2.1 v2.2.2.1 v2.2.2.2.1 v2.2.2.2.2.1 (61 : Int32)
              else
                s_Mod_readInput_L12 F minp mlen n (0 : Int32) v2.2.1 v2.2.2.1 v2.2.2.2.1 v2.2.2.2.2.1 v2.2.2.2.2.2
            else
              s_Mod_readInput_L12 F minp mlen n (0 : Int32) v2.2.1 v2.2.2.1 v2.2.2.2.1 v2.2.2.2.2.1 (v2.2.2.2.2.2 + (1 : Int32))
      else
        if (1 : Int32) = 0 then
          some ((1 : Int32), v2.2.1, v2.2.2.1, v2.2.2.2.1, v2.2.2.2.2.1, v2.2.2.2.2.2)
        else
          ((s_Mod_here minp mlen v2.2.2.2.2.2)).bind fun v12 =>
          if v12 = (59 : Int32) then
            if (1 : Int32) = 0 then
              if v2.2.2.2.2.2 = mlen then
                s_Mod_readInput_L12 F minp mlen n (1 : Int32) v2.2.1 v2.2.2.1 v2.2.2.2.1 v2.2.2.2.2.1 (61 : Int32)
              else
                s_Mod_readInput_L12 F minp mlen n (1 : Int32) v2.2.1 v2.2.2.1 v2.2.2.2.1 v2.2.2.2.2.1 v2.2.2.2.2.2
            else
              s_Mod_readInput_L12 F minp mlen n (1 : Int32) v2.2.1 v2.2.2.1 v2.2.2.2.1 v2.2.2.2.2.1 (v2.2.2.2.2.2 + (1 : Int32))
          else
            if (0 : Int32) = 0 then
              if v2.2.2.2.2.2 = mlen then
                s_Mod_readInput_L12 F minp mlen n (0 : Int32) v2.2.1 v2.2.2.1 v2.2.2.2.1 v2.2.2.2.2.1 (61 : Int32)
              else
                s_Mod_readInput_L12 F minp mlen n (0 : Int32) v2.2.1 v2.2.2.1 v2.2.2.2.1 v2.2.2.2.2.1 v2.2.2.2.2.2
            else
              s_Mod_readInput_L12 F minp mlen n (0 : Int32) v2.2.1 v2.2.2.1 v2.2.2.2.1 v2.2.2.2.2.1 (v2.2.2.2.2.2 + (1 : Int32))
def s_Mod_readInput_L118 (F : Nat) (minp : Nat → Int32) (mlen : Int32) : Nat → Int32 → Int32 → (Nat → Int32) → (Nat → Int32) → Int32 → Int32 → Option (Int32 × Int32 × (Nat → Int32) × (Nat → Int32) × Int32 × Int32)
  | 0, _, _, _, _, _, _ => none
  | n + 1, x2, mthr, mnow, mold, mols, mat =>
    if mlen ≤ mat then
      some (x2, mthr, mnow, mold, mols, mat)
    else
      ((s_Mod_entry F mthr mnow mold mols minp mlen mat true)).bind fun v21 =>
      if v21.1 ≤ 0 then
        some (x2, v21.2.1, v21.2.2.1, v21.2.2.2.1, v21.2.2.2.2.1, v21.2.2.2.2.2)
      else
        s_Mod_readInput_L118 F minp mlen n (x2 + (1 : Int32)) v21.2.1 v21.2.2.1 v21.2.2.2.1 v21.2.2.2.2.1 (v21.2.2.2.2.2 + (1 : Int32))
def s_Mod_readInput (F : Nat) (mnow : Nat → Int32) (mold : Nat → Int32) (mols : Int32) (minp : Nat → Int32) (mlen : Int32) : Option (Int32 × Int32 × (Nat → Int32) × (Nat → Int32) × Int32 × Int32 × Int32) :=
  (s_Mod_readInput_L12 F minp mlen F (1 : Int32) (0 : Int32) mnow mold mols (0 : Int32)).bind fun o18x =>
  if (60 : Int32) < o18x.2.2.2.2.2 then
    (s_Mod_readInput_L118 F minp mlen F (0 : Int32) o18x.2.1 o18x.2.2.1 o18x.2.2.2.1 o18x.2.2.2.2.1 (0 : Int32)).bind fun o23x =>
    some (o23x.1, (0 : Int32), o23x.2.2.1, o23x.2.2.2.1, o23x.2.2.2.2.1, (0 : Int32), o23x.2.2.2.2.2)
  else
    some (((-100 : Int32) - o18x.2.2.2.2.2), o18x.2.1, o18x.2.2.1, o18x.2.2.2.1, o18x.2.2.2.2.1, (0 : Int32), o18x.2.2.2.2.2)
def s_Mod_triangleCount (F : Nat) (mnow : Nat → Int32) (medg : Nat → Int32) (mcor : Nat → Int32) : Option (Int32 × Int32 × (Nat → Int32) × (Nat → Int32) × Int32) :=
  ((s_Mod_builds F mnow medg mcor)).bind fun v1 =>
  some (v1.2.2, (0 : Int32), v1.1, v1.2.1, v1.2.2)
def s_Mod_isTriangle (F : Nat) (mnow : Nat → Int32) (medg : Nat → Int32) (mcor : Nat → Int32) (a0 : Int32) : Option (Bool × (Nat → Int32) × (Nat → Int32) × Int32) :=
  ((s_Mod_builds F mnow medg mcor)).bind fun v1 =>
  some ((s_Mod_in a0 (0 : Int32) (v1.2.2 - (1 : Int32))), v1.1, v1.2.1, v1.2.2)
def s_Mod_corner (F : Nat) (mnow : Nat → Int32) (medg : Nat → Int32) (mcor : Nat → Int32) (a0 : Int32) (a1 : Int32) : Option (Int32 × Int32 × (Nat → Int32) × (Nat → Int32) × Int32) :=
  ((s_Mod_isTriangle F mnow medg mcor a0)).bind fun v1 =>
  if (bI v1.1) = 0 then
    some ((s_Mod_raises (1 : Int32)).1, (s_Mod_raises (1 : Int32)).2, v1.2.1, v1.2.2.1, v1.2.2.2)
  else
    if (bI (s_Mod_in a1 (0 : Int32) (2 : Int32))) = 0 then
      some ((s_Mod_raises (2 : Int32)).1, (s_Mod_raises (2 : Int32)).2, v1.2.1, v1.2.2.1, v1.2.2.2)
    else
      ((s_Mod_cornerOf v1.2.2.1 a0 a1)).bind fun v4 =>
      some (v4, (0 : Int32), v1.2.1, v1.2.2.1, v1.2.2.2)
def s_Mod_beyondOf (F : Nat) (mnow : Nat → Int32) (medg : Nat → Int32) (mcor : Nat → Int32) (mtri : Int32) (a0 : Int32) (a1 : Int32) : Option (Int32) :=
  ((s_Mod_cornerOf mcor a0 a1)).bind fun v1 =>
  ((s_Mod_cornerOf mcor a0 (a1 + (1 : Int32)))).bind fun v2 =>
  ((s_Mod_apex F mnow medg v2 v1)).bind fun v3 =>
  if 0 ≤ v3 then
    ((s_Mod_triangleOf F mcor mtri v2 v1 v3)).bind fun v5 =>
    some v5
  else
    some (-1 : Int32)
def s_Mod_beyond (F : Nat) (mnow : Nat → Int32) (medg : Nat → Int32) (mcor : Nat → Int32) (a0 : Int32) (a1 : Int32) : Option (Int32 × Int32 × (Nat → Int32) × (Nat → Int32) × Int32) :=
  ((s_Mod_isTriangle F mnow medg mcor a0)).bind fun v1 =>
  if (bI v1.1) = 0 then
    some ((s_Mod_raises (1 : Int32)).1, (s_Mod_raises (1 : Int32)).2, v1.2.1, v1.2.2.1, v1.2.2.2)
  else
    if (bI (s_Mod_in a1 (0 : Int32) (2 : Int32))) = 0 then
      some ((s_Mod_raises (2 : Int32)).1, (s_Mod_raises (2 : Int32)).2, v1.2.1, v1.2.2.1, v1.2.2.2)
    else
      ((s_Mod_beyondOf F mnow v1.2.1 v1.2.2.1 v1.2.2.2 a0 a1)).bind fun v4 =>
      some (v4, (0 : Int32), v1.2.1, v1.2.2.1, v1.2.2.2)
def s_Mod_edgeCount (F : Nat) (mnow : Nat → Int32) (medg : Nat → Int32) (mcor : Nat → Int32) : Option (Int32 × Int32 × (Nat → Int32) × (Nat → Int32) × Int32) :=
  ((s_Mod_builds F mnow medg mcor)).bind fun v1 =>
  ((s_Mod_edgeTotal F mnow v1.1)).bind fun v2 =>
  some (v2, (0 : Int32), v1.1, v1.2.1, v1.2.2)
def s_Mod_edgeEnd (F : Nat) (mnow : Nat → Int32) (medg : Nat → Int32) (mcor : Nat → Int32) (mnum : Nat → Int32) (a0 : Int32) (a1 : Int32) : Option (Int32 × Int32 × (Nat → Int32) × (Nat → Int32) × Int32 × (Nat → Int32)) :=
  ((s_Mod_builds F mnow medg mcor)).bind fun v1 =>
  ((s_Mod_edge F mnow v1.1 mnum a0)).bind fun v2 =>
  if (bI v2.1) = 0 then
    some ((s_Mod_raises (1 : Int32)).1, (s_Mod_raises (1 : Int32)).2, v1.1, v1.2.1, v1.2.2, v2.2)
  else
    if (bI (s_Mod_in a1 (0 : Int32) (1 : Int32))) = 0 then
      some ((s_Mod_raises (2 : Int32)).1, (s_Mod_raises (2 : Int32)).2, v1.1, v1.2.1, v1.2.2, v2.2)
    else
      (aget 2 v2.2 a1).bind fun v5 =>
      some (v5, (0 : Int32), v1.1, v1.2.1, v1.2.2, v2.2)
def s_Mod_edgeBetween (F : Nat) (mnow : Nat → Int32) (medg : Nat → Int32) (mcor : Nat → Int32) (mtri : Int32) (a0 : Int32) (a1 : Int32) : Option (Int32 × Int32 × (Nat → Int32) × (Nat → Int32) × Int32) :=
  ((s_Mod_isPoint mnow a0)).bind fun v1 =>
  if (bI v1) = 0 then
    some ((s_Mod_raises (1 : Int32)).1, (s_Mod_raises (1 : Int32)).2, medg, mcor, mtri)
  else
    ((s_Mod_isPoint mnow a1)).bind fun v3 =>
    if (bI v3) = 0 then
      some ((s_Mod_raises (1 : Int32)).1, (s_Mod_raises (1 : Int32)).2, medg, mcor, mtri)
    else
      ((s_Mod_builds F mnow medg mcor)).bind fun v5 =>
      ((s_Mod_numberOf F mnow v5.1 a0 a1)).bind fun v6 =>
      if 0 ≤ v6 then
        some (v6, (0 : Int32), v5.1, v5.2.1, v5.2.2)
      else
        some ((s_Mod_raises (2 : Int32)).1, (s_Mod_raises (2 : Int32)).2, v5.1, v5.2.1, v5.2.2)
def s_Mod_degree_L27 (mnow : Nat → Int32) (medg : Nat → Int32) (x1 : Int32) : Nat → Int32 → Int32 → Option (Int32 × Int32)
  | 0, _, _ => none
  | n + 1, x2, x3 =>
    ((s_Mod_n mnow)).bind fun v4 =>
    if v4 ≤ x3 then
      some (x2, x3)
    else
      ((s_Mod_has medg x1 x3)).bind fun v6 =>
      if (bI v6) = 0 then
        s_Mod_degree_L27 mnow medg x1 n x2 (x3 + (1 : Int32))
      else
        s_Mod_degree_L27 mnow medg x1 n (x2 + (1 : Int32)) (x3 + (1 : Int32))
def s_Mod_degree (F : Nat) (mnow : Nat → Int32) (medg : Nat → Int32) (mcor : Nat → Int32) (mtri : Int32) (a0 : Int32) : Option (Int32 × Int32 × (Nat → Int32) × (Nat → Int32) × Int32) :=
  ((s_Mod_isPoint mnow a0)).bind fun v1 =>
  if (bI v1) = 0 then
    some ((s_Mod_raises (1 : Int32)).1, (s_Mod_raises (1 : Int32)).2, medg, mcor, mtri)
  else
    ((s_Mod_builds F mnow medg mcor)).bind fun v3 =>
    (s_Mod_degree_L27 mnow v3.1 a0 F (0 : Int32) (0 : Int32)).bind fun o8x =>
    some (o8x.1, (0 : Int32), v3.1, v3.2.1, v3.2.2)
def s_Mod_neighbour_L28 (mthr : Int32) (mnow : Nat → Int32) (medg : Nat → Int32) (mcor : Nat → Int32) (mtri : Int32) (x1 : Int32) : Nat → Int32 → Int32 → Option ((Int32 × Int32 × (Nat → Int32) × (Nat → Int32) × Int32) ⊕ (Int32 × Int32))
  | 0, _, _ => none
  | n + 1, x3, x4 =>
    ((s_Mod_n mnow)).bind fun v4 =>
    if v4 ≤ x4 then
      some (.inr (x3, x4))
    else
      ((s_Mod_has medg x1 x4)).bind fun v6 =>
      if (bI v6) = 0 then
        s_Mod_neighbour_L28 mthr mnow medg mcor mtri x1 n x3 (x4 + (1 : Int32))
      else
        if x3 = 0 then
          some (.inl (x4, mthr, medg, mcor, mtri))
        else
          s_Mod_neighbour_L28 mthr mnow medg mcor mtri x1 n (x3 + (-1 : Int32)) (x4 + (1 : Int32))
def s_Mod_neighbour (F : Nat) (mnow : Nat → Int32) (medg : Nat → Int32) (mcor : Nat → Int32) (mtri : Int32) (a0 : Int32) (a1 : Int32) : Option (Int32 × Int32 × (Nat → Int32) × (Nat → Int32) × Int32) :=
  ((s_Mod_isPoint mnow a0)).bind fun v1 =>
  if (bI v1) = 0 then
    some ((s_Mod_raises (1 : Int32)).1, (s_Mod_raises (1 : Int32)).2, medg, mcor, mtri)
  else
    ((s_Mod_builds F mnow medg mcor)).bind fun v3 =>
    (s_Mod_neighbour_L28 (0 : Int32) mnow v3.1 v3.2.1 v3.2.2 a0 F a1 (0 : Int32)).bind fun o9 =>
    Sum.elim (fun q_o =>
      some q_o) (fun o9x =>
      some ((s_Mod_raises (2 : Int32)).1, (s_Mod_raises (2 : Int32)).2, v3.1, v3.2.1, v3.2.2)) o9
def s_Mod_hullNext_L2 (F : Nat) (mnow : Nat → Int32) (medg : Nat → Int32) (x1 : Int32) : Nat → Int32 → Option ((Int32) ⊕ (Int32))
  | 0, _ => none
  | n + 1, x2 =>
    ((s_Mod_n mnow)).bind fun v1 =>
    if v1 ≤ x2 then
      some (.inr x2)
    else
      ((s_Mod_has medg x1 x2)).bind fun v3 =>
      if (bI v3) = 0 then
        s_Mod_hullNext_L2 F mnow medg x1 n (x2 + (1 : Int32))
      else
        ((s_Mod_apex F mnow medg x1 x2)).bind fun v5 =>
        if v5 < 0 then
          s_Mod_hullNext_L2 F mnow medg x1 n (x2 + (1 : Int32))
        else
          ((s_Mod_apex F mnow medg x2 x1)).bind fun v7 =>
          if 0 ≤ v7 then
            s_Mod_hullNext_L2 F mnow medg x1 n (x2 + (1 : Int32))
          else
            some (.inl x2)
def s_Mod_hullNext (F : Nat) (mnow : Nat → Int32) (medg : Nat → Int32) (a0 : Int32) : Option (Int32) :=
  (s_Mod_hullNext_L2 F mnow medg a0 F (0 : Int32)).bind fun o9 =>
  Sum.elim (fun q_o =>
    some q_o) (fun o9x =>
    some (-1 : Int32)) o9
def s_Mod_hullEdges_L4 (F : Nat) (mnow : Nat → Int32) (medg : Nat → Int32) : Nat → Int32 → Int32 → Option (Int32 × Int32)
  | 0, _, _ => none
  | n + 1, x1, x2 =>
    ((s_Mod_n mnow)).bind fun v1 =>
    if v1 ≤ x2 then
      some (x1, x2)
    else
      ((s_Mod_hullNext F mnow medg x2)).bind fun v3 =>
      if v3 < 0 then
        s_Mod_hullEdges_L4 F mnow medg n x1 (x2 + (1 : Int32))
      else
        s_Mod_hullEdges_L4 F mnow medg n (x1 + (1 : Int32)) (x2 + (1 : Int32))
def s_Mod_hullEdges (F : Nat) (mnow : Nat → Int32) (medg : Nat → Int32) : Option (Int32) :=
  (s_Mod_hullEdges_L4 F mnow medg F (0 : Int32) (0 : Int32)).bind fun o5x =>
  some o5x.1
def s_Mod_hullSize (F : Nat) (mnow : Nat → Int32) (medg : Nat → Int32) (mcor : Nat → Int32) : Option (Int32 × Int32 × (Nat → Int32) × (Nat → Int32) × Int32) :=
  ((s_Mod_builds F mnow medg mcor)).bind fun v1 =>
  ((s_Mod_hullEdges F mnow v1.1)).bind fun v2 =>
  some (v2, (0 : Int32), v1.1, v1.2.1, v1.2.2)
def s_Mod_hullPoint_L31 (F : Nat) (mnow : Nat → Int32) (medg : Nat → Int32) : Nat → Int32 → Option (Int32)
  | 0, _ => none
  | n + 1, x2 =>
    ((s_Mod_hullNext F mnow medg x2)).bind fun v4 =>
    if 0 ≤ v4 then
      some x2
    else
      s_Mod_hullPoint_L31 F mnow medg n (x2 + (1 : Int32))
def s_Mod_hullPoint_L47 (F : Nat) (mnow : Nat → Int32) (medg : Nat → Int32) (x1 : Int32) : Nat → Int32 → Int32 → Option (Int32 × Int32)
  | 0, _, _ => none
  | n + 1, x2, x3 =>
    if x1 ≤ x3 then
      some (x2, x3)
    else
      ((s_Mod_hullNext F mnow medg x2)).bind fun v8 =>
      s_Mod_hullPoint_L47 F mnow medg x1 n v8 (x3 + (1 : Int32))
def s_Mod_hullPoint (F : Nat) (mnow : Nat → Int32) (medg : Nat → Int32) (mcor : Nat → Int32) (a0 : Int32) : Option (Int32 × Int32 × (Nat → Int32) × (Nat → Int32) × Int32) :=
  ((s_Mod_builds F mnow medg mcor)).bind fun v1 =>
  ((s_Mod_hullEdges F mnow v1.1)).bind fun v2 =>
  if (bI (s_Mod_in a0 (0 : Int32) (v2 - (1 : Int32)))) = 0 then
    some ((s_Mod_raises (1 : Int32)).1, (s_Mod_raises (1 : Int32)).2, v1.1, v1.2.1, v1.2.2)
  else
    (s_Mod_hullPoint_L31 F mnow v1.1 F (0 : Int32)).bind fun o6x =>
    (s_Mod_hullPoint_L47 F mnow v1.1 a0 F o6x (0 : Int32)).bind fun o9x =>
    some (o9x.1, (0 : Int32), v1.1, v1.2.1, v1.2.2)
def s_Mod_twiceArea (F : Nat) (mnow : Nat → Int32) (medg : Nat → Int32) (mcor : Nat → Int32) (a0 : Int32) : Option (Int32 × Int32 × (Nat → Int32) × (Nat → Int32) × Int32) :=
  ((s_Mod_isTriangle F mnow medg mcor a0)).bind fun v1 =>
  if (bI v1.1) = 0 then
    some ((s_Mod_raises (1 : Int32)).1, (s_Mod_raises (1 : Int32)).2, v1.2.1, v1.2.2.1, v1.2.2.2)
  else
    ((s_Mod_areaOf mnow v1.2.2.1 a0)).bind fun v3 =>
    some (v3, (0 : Int32), v1.2.1, v1.2.2.1, v1.2.2.2)
def s_Mod_areaShare_L24 (mnow : Nat → Int32) (mcor : Nat → Int32) (mtri : Int32) : Nat → Int32 → Int32 → Option (Int32 × Int32)
  | 0, _, _ => none
  | n + 1, x2, x3 =>
    if mtri ≤ x3 then
      some (x2, x3)
    else
      ((s_Mod_areaOf mnow mcor x3)).bind fun v4 =>
      s_Mod_areaShare_L24 mnow mcor mtri n (x2 + v4) (x3 + (1 : Int32))
def s_Mod_areaShare (F : Nat) (mnow : Nat → Int32) (medg : Nat → Int32) (mcor : Nat → Int32) (a0 : Int32) : Option (UInt64 × Int32 × (Nat → Int32) × (Nat → Int32) × Int32) :=
  ((s_Mod_isTriangle F mnow medg mcor a0)).bind fun v1 =>
  if (bI v1.1) = 0 then
    some ((FP.i2d ((s_Mod_raises (1 : Int32)).1)), (s_Mod_raises (1 : Int32)).2, v1.2.1, v1.2.2.1, v1.2.2.2)
  else
    (s_Mod_areaShare_L24 mnow v1.2.2.1 v1.2.2.2 F (0 : Int32) (0 : Int32)).bind fun o5x =>
    ((s_Mod_areaOf mnow v1.2.2.1 a0)).bind fun v6 =>
    (ddivO (FP.i2d v6) (FP.i2d o5x.1)).bind fun v7 =>
    some (v7, (0 : Int32), v1.2.1, v1.2.2.1, v1.2.2.2)
def s_Mod_meanDegree (F : Nat) (mnow : Nat → Int32) (medg : Nat → Int32) (mcor : Nat → Int32) (mtri : Int32) : Option (UInt64 × Int32 × (Nat → Int32) × (Nat → Int32) × Int32) :=
  ((s_Mod_n mnow)).bind fun v1 =>
  if v1 = 0 then
    some ((FP.i2d ((s_Mod_raises (1 : Int32)).1)), (s_Mod_raises (1 : Int32)).2, medg, mcor, mtri)
  else
    ((s_Mod_builds F mnow medg mcor)).bind fun v3 =>
    ((s_Mod_edgeTotal F mnow v3.1)).bind fun v4 =>
    ((s_Mod_n mnow)).bind fun v5 =>
    (ddivO (FP.i2d ((2 : Int32) * v4)) (FP.i2d v5)).bind fun v6 =>
    some (v6, (0 : Int32), v3.1, v3.2.1, v3.2.2)
def s_Mod_square (mnow : Nat → Int32) (a0 : Int32) (a1 : Int32) : Option (Int32) :=
  ((s_Mod_x mnow a0)).bind fun v1 =>
  ((s_Mod_x mnow a1)).bind fun v2 =>
  ((s_Mod_x mnow a0)).bind fun v3 =>
  ((s_Mod_x mnow a1)).bind fun v4 =>
  ((s_Mod_y mnow a0)).bind fun v5 =>
  ((s_Mod_y mnow a1)).bind fun v6 =>
  ((s_Mod_y mnow a0)).bind fun v7 =>
  ((s_Mod_y mnow a1)).bind fun v8 =>
  some (((v1 - v2) * (v3 - v4)) + ((v5 - v6) * (v7 - v8)))
def s_Mod_connects_L2 (mnow : Nat → Int32) : Nat → Int32 → (Nat → Int32) → Option (Int32 × (Nat → Int32))
  | 0, _, _ => none
  | n + 1, x1, mmet =>
    ((s_Mod_n mnow)).bind fun v1 =>
    if v1 ≤ x1 then
      some (x1, mmet)
    else
      if x1 = 0 then
        (aset 17 mmet x1 (vp_nar .boolean (1 : Int32))).bind fun v5 =>
        s_Mod_connects_L2 mnow n (x1 + (1 : Int32)) v5
      else
        (aset 17 mmet x1 (vp_nar .boolean (0 : Int32))).bind fun v4 =>
        s_Mod_connects_L2 mnow n (x1 + (1 : Int32)) v4
def s_Mod_connects_L64 (mnow : Nat → Int32) (medg : Nat → Int32) (mmet : Nat → Int32) (x5 : Int32) : Nat → Int32 → Int32 → Int32 → Option (Int32 × Int32 × Int32)
  | 0, _, _, _ => none
  | n + 1, x3, x4, x6 =>
    ((s_Mod_n mnow)).bind fun v11 =>
    if v11 ≤ x6 then
      some (x3, x4, x6)
    else
      (aget 17 mmet x5).bind fun v13 =>
      if v13 = 0 then
        s_Mod_connects_L64 mnow medg mmet x5 n x3 x4 (x6 + (1 : Int32))
      else
        (aget 17 mmet x6).bind fun v15 =>
        if v15 = 0 then
          ((s_Mod_has medg x5 x6)).bind fun v17 =>
          if (bI v17) = 0 then
            s_Mod_connects_L64 mnow medg mmet x5 n x3 x4 (x6 + (1 : Int32))
          else
            ((s_Mod_square mnow x5 x6)).bind fun v19 =>
            if v19 < x3 then
              ((s_Mod_square mnow x5 x6)).bind fun v21 =>
              s_Mod_connects_L64 mnow medg mmet x5 n v21 x6 (x6 + (1 : Int32))
            else
              s_Mod_connects_L64 mnow medg mmet x5 n x3 x4 (x6 + (1 : Int32))
        else
          s_Mod_connects_L64 mnow medg mmet x5 n x3 x4 (x6 + (1 : Int32))
def s_Mod_connects_L52 (F : Nat) (mnow : Nat → Int32) (medg : Nat → Int32) (mmet : Nat → Int32) : Nat → Int32 → Int32 → Int32 → Option (Int32 × Int32 × Int32)
  | 0, _, _, _ => none
  | n + 1, x3, x4, x5 =>
    ((s_Mod_n mnow)).bind fun v9 =>
    if v9 ≤ x5 then
      some (x3, x4, x5)
    else
      (s_Mod_connects_L64 mnow medg mmet x5 F x3 x4 (0 : Int32)).bind fun o22x =>
      s_Mod_connects_L52 F mnow medg mmet n o22x.1 o22x.2.1 (x5 + (1 : Int32))
def s_Mod_connects_L35 (F : Nat) (mnow : Nat → Int32) (medg : Nat → Int32) : Nat → Int32 → Int32 → (Nat → Int32) → Option (Int32 × Int32 × (Nat → Int32))
  | 0, _, _, _ => none
  | n + 1, x1, x2, mmet =>
    ((s_Mod_n mnow)).bind fun v7 =>
    if v7 ≤ x2 then
      some (x1, x2, mmet)
    else
      (s_Mod_connects_L52 F mnow medg mmet F (2147483647 : Int32) (0 : Int32) (0 : Int32)).bind fun o23x =>
      (aset 17 mmet o23x.2.1 (vp_nar .boolean (1 : Int32))).bind fun v24 =>
      s_Mod_connects_L35 F mnow medg n (x1 + o23x.1) (x2 + (1 : Int32)) v24
def s_Mod_connects (F : Nat) (mnow : Nat → Int32) (medg : Nat → Int32) (mmet : Nat → Int32) : Option (Int32 × (Nat → Int32)) :=
  (s_Mod_connects_L2 mnow F (0 : Int32) mmet).bind fun o6x =>
  (s_Mod_connects_L35 F mnow medg F (0 : Int32) (1 : Int32) o6x.2).bind fun o25x =>
  some (o25x.1, o25x.2.2)
def s_Mod_squaredLength_L71 (mnow : Nat → Int32) (medg : Nat → Int32) (x1 : Int32) (x3 : Int32) : Nat → Int32 → Int32 → Option (Int32 × Int32)
  | 0, _, _ => none
  | n + 1, x2, x4 =>
    ((s_Mod_n mnow)).bind fun v9 =>
    if v9 ≤ x4 then
      some (x2, x4)
    else
      ((s_Mod_has medg x3 x4)).bind fun v11 =>
      if (bI v11) = 0 then
        s_Mod_squaredLength_L71 mnow medg x1 x3 n x2 (x4 + (1 : Int32))
      else
        if x1 = 0 then
          ((s_Mod_square mnow x3 x4)).bind fun v15 =>
          s_Mod_squaredLength_L71 mnow medg x1 x3 n (imin x2 v15) (x4 + (1 : Int32))
        else
          ((s_Mod_square mnow x3 x4)).bind fun v14 =>
          s_Mod_squaredLength_L71 mnow medg x1 x3 n (imax x2 v14) (x4 + (1 : Int32))
def s_Mod_squaredLength_L60 (F : Nat) (mnow : Nat → Int32) (medg : Nat → Int32) (x1 : Int32) : Nat → Int32 → Int32 → Option (Int32 × Int32)
  | 0, _, _ => none
  | n + 1, x2, x3 =>
    ((s_Mod_n mnow)).bind fun v7 =>
    if v7 ≤ x3 then
      some (x2, x3)
    else
      (s_Mod_squaredLength_L71 mnow medg x1 x3 F x2 (0 : Int32)).bind fun o16x =>
      s_Mod_squaredLength_L60 F mnow medg x1 n o16x.1 (x3 + (1 : Int32))
def s_Mod_squaredLength (F : Nat) (mnow : Nat → Int32) (medg : Nat → Int32) (mcor : Nat → Int32) (mtri : Int32) (mmet : Nat → Int32) (a0 : Int32) : Option (Int32 × Int32 × (Nat → Int32) × (Nat → Int32) × Int32 × (Nat → Int32)) :=
  if (bI (s_Mod_in a0 (0 : Int32) (2 : Int32))) = 0 then
    some ((s_Mod_raises (1 : Int32)).1, (s_Mod_raises (1 : Int32)).2, medg, mcor, mtri, mmet)
  else
    ((s_Mod_builds F mnow medg mcor)).bind fun v2 =>
    ((s_Mod_edgeTotal F mnow v2.1)).bind fun v3 =>
    if v3 = 0 then
      some ((s_Mod_raises (2 : Int32)).1, (s_Mod_raises (2 : Int32)).2, v2.1, v2.2.1, v2.2.2, mmet)
    else
      if a0 = (2 : Int32) then
        ((s_Mod_connects F mnow v2.1 mmet)).bind fun v19 =>
        some (v19.1, (0 : Int32), v2.1, v2.2.1, v2.2.2, v19.2)
      else
        if a0 = 0 then
          (s_Mod_squaredLength_L60 F mnow v2.1 a0 F (2147483647 : Int32) (0 : Int32)).bind fun o18x =>
          some (o18x.1, (0 : Int32), v2.1, v2.2.1, v2.2.2, mmet)
        else
          (s_Mod_squaredLength_L60 F mnow v2.1 a0 F (0 : Int32) (0 : Int32)).bind fun o17x =>
          some (o17x.1, (0 : Int32), v2.1, v2.2.1, v2.2.2, mmet)
def s_Mod_turn (mnow : Nat → Int32) (a0 : Int32) (a1 : Int32) (a2 : Int32) : Option (Int32 × Int32) :=
  ((s_Mod_isPoint mnow a0)).bind fun v1 =>
  if (bI v1) = 0 then
    some ((s_Mod_raises (1 : Int32)).1, (s_Mod_raises (1 : Int32)).2)
  else
    ((s_Mod_isPoint mnow a1)).bind fun v3 =>
    if (bI v3) = 0 then
      some ((s_Mod_raises (1 : Int32)).1, (s_Mod_raises (1 : Int32)).2)
    else
      ((s_Mod_isPoint mnow a2)).bind fun v5 =>
      if (bI v5) = 0 then
        some ((s_Mod_raises (1 : Int32)).1, (s_Mod_raises (1 : Int32)).2)
      else
        ((s_Mod_turns mnow a0 a1 a2)).bind fun v7 =>
        some (v7, (0 : Int32))
def s_Mod_inCircle (mnow : Nat → Int32) (a0 : Int32) (a1 : Int32) (a2 : Int32) (a3 : Int32) : Option (Int32 × Int32) :=
  ((s_Mod_isPoint mnow a0)).bind fun v1 =>
  if (bI v1) = 0 then
    some ((s_Mod_raises (1 : Int32)).1, (s_Mod_raises (1 : Int32)).2)
  else
    ((s_Mod_isPoint mnow a1)).bind fun v3 =>
    if (bI v3) = 0 then
      some ((s_Mod_raises (1 : Int32)).1, (s_Mod_raises (1 : Int32)).2)
    else
      ((s_Mod_isPoint mnow a2)).bind fun v5 =>
      if (bI v5) = 0 then
        some ((s_Mod_raises (1 : Int32)).1, (s_Mod_raises (1 : Int32)).2)
      else
        ((s_Mod_isPoint mnow a3)).bind fun v7 =>
        if (bI v7) = 0 then
          some ((s_Mod_raises (1 : Int32)).1, (s_Mod_raises (1 : Int32)).2)
        else
          ((s_Mod_turns mnow a0 a1 a2)).bind fun v9 =>
          if v9 = 0 then
            some ((s_Mod_raises (2 : Int32)).1, (s_Mod_raises (2 : Int32)).2)
          else
            ((s_Mod_circle mnow a0 a1 a2 a3)).bind fun v11 =>
            some (v11, (0 : Int32))
def s_Mod_goodOf (F : Nat) (mnow : Nat → Int32) (medg : Nat → Int32) (a0 : Int32) (a1 : Int32) : Option (Int32) :=
  ((s_Mod_apex F mnow medg a0 a1)).bind fun v1 =>
  ((s_Mod_apex F mnow medg a1 a0)).bind fun v2 =>
  if v1 < 0 then
    some (-1 : Int32)
  else
    if 0 ≤ v2 then
      ((s_Mod_good mnow a0 a1 v1 v2)).bind fun v5 =>
      if (bI v5) = 0 then
        some (0 : Int32)
      else
        some (1 : Int32)
    else
      some (-1 : Int32)
def s_Mod_isGood (F : Nat) (mnow : Nat → Int32) (medg : Nat → Int32) (mcor : Nat → Int32) (mnum : Nat → Int32) (a0 : Int32) : Option (Bool × Int32 × (Nat → Int32) × (Nat → Int32) × Int32 × (Nat → Int32)) :=
  ((s_Mod_builds F mnow medg mcor)).bind fun v1 =>
  ((s_Mod_edge F mnow v1.1 mnum a0)).bind fun v2 =>
  if (bI v2.1) = 0 then
    some (false, (1 : Int32), v1.1, v1.2.1, v1.2.2, v2.2)
  else
    (aget 2 v2.2 (0 : Int32)).bind fun v4 =>
    (aget 2 v2.2 (1 : Int32)).bind fun v5 =>
    ((s_Mod_goodOf F mnow v1.1 v4 v5)).bind fun v6 =>
    if 0 ≤ v6 then
      if v6 = (1 : Int32) then
        some (true, (0 : Int32), v1.1, v1.2.1, v1.2.2, v2.2)
      else
        some (false, (0 : Int32), v1.1, v1.2.1, v1.2.2, v2.2)
    else
      if v6 = (1 : Int32) then
        some (true, (2 : Int32), v1.1, v1.2.1, v1.2.2, v2.2)
      else
        some (false, (2 : Int32), v1.1, v1.2.1, v1.2.2, v2.2)
def s_Mod_forcedConstraints_L13 (F : Nat) (mnow : Nat → Int32) (medg : Nat → Int32) : Nat → Int32 → Int32 → Option (Int32 × Int32)
  | 0, _, _ => none
  | n + 1, x1, x2 =>
    ((s_Mod_m mnow)).bind fun v2 =>
    if v2 ≤ x2 then
      some (x1, x2)
    else
      ((s_Mod_end mnow x2 (0 : Int32))).bind fun v4 =>
      ((s_Mod_end mnow x2 (1 : Int32))).bind fun v5 =>
      ((s_Mod_goodOf F mnow medg v4 v5)).bind fun v6 =>
      if v6 = 0 then
        s_Mod_forcedConstraints_L13 F mnow medg n (x1 + (1 : Int32)) (x2 + (1 : Int32))
      else
        s_Mod_forcedConstraints_L13 F mnow medg n x1 (x2 + (1 : Int32))
def s_Mod_forcedConstraints (F : Nat) (mnow : Nat → Int32) (medg : Nat → Int32) (mcor : Nat → Int32) : Option (Int32 × Int32 × (Nat → Int32) × (Nat → Int32) × Int32) :=
  ((s_Mod_builds F mnow medg mcor)).bind fun v1 =>
  (s_Mod_forcedConstraints_L13 F mnow v1.1 F (0 : Int32) (0 : Int32)).bind fun o8x =>
  some (o8x.1, (0 : Int32), v1.1, v1.2.1, v1.2.2)
def s_Mod_away_L3 (mnow : Nat → Int32) (mcor : Nat → Int32) (x1 : Int32) (x2 : Int32) (x3 : Int32) : Nat → Int32 → Option ((Int32) ⊕ (Int32))
  | 0, _ => none
  | n + 1, x4 =>
    if (3 : Int32) ≤ x4 then
      some (.inr x4)
    else
      ((s_Mod_cornerOf mcor x1 x4)).bind fun v2 =>
      ((s_Mod_cornerOf mcor x1 (x4 + (1 : Int32)))).bind fun v3 =>
      ((s_Mod_x mnow v2)).bind fun v4 =>
      ((s_Mod_y mnow v2)).bind fun v5 =>
      ((s_Mod_x mnow v3)).bind fun v6 =>
      ((s_Mod_y mnow v3)).bind fun v7 =>
      if 0 ≤ (s_Mod_turnOf v4 v5 v6 v7 x2 x3) then
        s_Mod_away_L3 mnow mcor x1 x2 x3 n (x4 + (1 : Int32))
      else
        some (.inl x4)
def s_Mod_away (F : Nat) (mnow : Nat → Int32) (mcor : Nat → Int32) (a0 : Int32) (a1 : Int32) (a2 : Int32) : Option (Int32) :=
  (s_Mod_away_L3 mnow mcor a0 a1 a2 F (0 : Int32)).bind fun o9 =>
  Sum.elim (fun q_o =>
    some q_o) (fun o9x =>
    some (-1 : Int32)) o9
def s_Mod_thingAt_L6 (mnow : Nat → Int32) (medg : Nat → Int32) (mcor : Nat → Int32) (mtri : Int32) (x1 : Int32) (x2 : Int32) : Nat → Int32 → Option ((Int32 × (Nat → Int32) × (Nat → Int32) × Int32) ⊕ (Int32))
  | 0, _ => none
  | n + 1, x3 =>
    ((s_Mod_n mnow)).bind fun v2 =>
    if v2 ≤ x3 then
      some (.inr x3)
    else
      ((s_Mod_x mnow x3)).bind fun v4 =>
      if v4 = x1 then
        ((s_Mod_y mnow x3)).bind fun v6 =>
        if v6 = x2 then
          some (.inl (((10000 : Int32) + x3), medg, mcor, mtri))
        else
          s_Mod_thingAt_L6 mnow medg mcor mtri x1 x2 n (x3 + (1 : Int32))
      else
        s_Mod_thingAt_L6 mnow medg mcor mtri x1 x2 n (x3 + (1 : Int32))
def s_Mod_thingAt_L59 (F : Nat) (mnow : Nat → Int32) (medg : Nat → Int32) (mcor : Nat → Int32) (mtri : Int32) (x1 : Int32) (x2 : Int32) (x3 : Int32) : Nat → Int32 → Option ((Int32 × (Nat → Int32) × (Nat → Int32) × Int32) ⊕ (Int32))
  | 0, _ => none
  | n + 1, x4 =>
    ((s_Mod_n mnow)).bind fun v11 =>
    if v11 ≤ x4 then
      some (.inr x4)
    else
      ((s_Mod_has medg x3 x4)).bind fun v13 =>
      if (bI v13) = 0 then
        s_Mod_thingAt_L59 F mnow medg mcor mtri x1 x2 x3 n (x4 + (1 : Int32))
      else
        ((s_Mod_isOn mnow x3 x4 x1 x2)).bind fun v15 =>
        if (bI v15) = 0 then
          s_Mod_thingAt_L59 F mnow medg mcor mtri x1 x2 x3 n (x4 + (1 : Int32))
        else
          ((s_Mod_numberOf F mnow medg x3 x4)).bind fun v17 =>
          some (.inl (((20000 : Int32) + v17), medg, mcor, mtri))
def s_Mod_thingAt_L46 (F : Nat) (mnow : Nat → Int32) (medg : Nat → Int32) (mcor : Nat → Int32) (mtri : Int32) (x1 : Int32) (x2 : Int32) : Nat → Int32 → Option ((Int32 × (Nat → Int32) × (Nat → Int32) × Int32) ⊕ (Int32))
  | 0, _ => none
  | n + 1, x3 =>
    ((s_Mod_n mnow)).bind fun v9 =>
    if v9 ≤ x3 then
      some (.inr x3)
    else
      (s_Mod_thingAt_L59 F mnow medg mcor mtri x1 x2 x3 F (x3 + (1 : Int32))).bind fun o18 =>
      Sum.elim (fun q_o =>
        some (.inl q_o)) (fun o18x =>
        s_Mod_thingAt_L46 F mnow medg mcor mtri x1 x2 n (x3 + (1 : Int32))) o18
def s_Mod_thingAt_L116 (F : Nat) (mnow : Nat → Int32) (medg : Nat → Int32) (mcor : Nat → Int32) (mtri : Int32) (x1 : Int32) (x2 : Int32) : Nat → Int32 → Option ((Int32 × (Nat → Int32) × (Nat → Int32) × Int32) ⊕ (Int32))
  | 0, _ => none
  | n + 1, x3 =>
    if mtri ≤ x3 then
      some (.inr x3)
    else
      ((s_Mod_away F mnow mcor x3 x1 x2)).bind fun v21 =>
      if 0 ≤ v21 then
        s_Mod_thingAt_L116 F mnow medg mcor mtri x1 x2 n (x3 + (1 : Int32))
      else
        some (.inl (((30000 : Int32) + x3), medg, mcor, mtri))
def s_Mod_thingAt (F : Nat) (mnow : Nat → Int32) (medg : Nat → Int32) (mcor : Nat → Int32) (a0 : Int32) (a1 : Int32) : Option (Int32 × (Nat → Int32) × (Nat → Int32) × Int32) :=
  ((s_Mod_builds F mnow medg mcor)).bind fun v1 =>
  (s_Mod_thingAt_L6 mnow v1.1 v1.2.1 v1.2.2 a0 a1 F (0 : Int32)).bind fun o8 =>
  Sum.elim (fun q_o =>
    some q_o) (fun o8x =>
    (s_Mod_thingAt_L46 F mnow v1.1 v1.2.1 v1.2.2 a0 a1 F (0 : Int32)).bind fun o19 =>
    Sum.elim (fun q_o =>
      some q_o) (fun o19x =>
      (s_Mod_thingAt_L116 F mnow v1.1 v1.2.1 v1.2.2 a0 a1 F (0 : Int32)).bind fun o23 =>
      Sum.elim (fun q_o =>
        some q_o) (fun o23x =>
        some ((0 : Int32), v1.1, v1.2.1, v1.2.2)) o23) o19) o8
def s_Mod_kindAt (F : Nat) (mnow : Nat → Int32) (medg : Nat → Int32) (mcor : Nat → Int32) (mtri : Int32) (a0 : Int32) (a1 : Int32) : Option (Int32 × Int32 × (Nat → Int32) × (Nat → Int32) × Int32) :=
  if (bI (s_Mod_isPlace a0 a1)) = 0 then
    some ((s_Mod_raises (1 : Int32)).1, (s_Mod_raises (1 : Int32)).2, medg, mcor, mtri)
  else
    ((s_Mod_thingAt F mnow medg mcor a0 a1)).bind fun v2 =>
    some ((v2.1 / (10000 : Int32)), (0 : Int32), v2.2.1, v2.2.2.1, v2.2.2.2)
def s_Mod_numberAt (F : Nat) (mnow : Nat → Int32) (medg : Nat → Int32) (mcor : Nat → Int32) (mtri : Int32) (a0 : Int32) (a1 : Int32) : Option (Int32 × Int32 × (Nat → Int32) × (Nat → Int32) × Int32) :=
  if (bI (s_Mod_isPlace a0 a1)) = 0 then
    some ((s_Mod_raises (1 : Int32)).1, (s_Mod_raises (1 : Int32)).2, medg, mcor, mtri)
  else
    ((s_Mod_thingAt F mnow medg mcor a0 a1)).bind fun v2 =>
    if v2.1 = 0 then
      some ((s_Mod_raises (2 : Int32)).1, (s_Mod_raises (2 : Int32)).2, v2.2.1, v2.2.2.1, v2.2.2.2)
    else
      some ((v2.1 - v2.1 / (10000 : Int32) * (10000 : Int32)), (0 : Int32), v2.2.1, v2.2.2.1, v2.2.2.2)
def s_Mod_walk_L39 (F : Nat) (mthr : Int32) (mnow : Nat → Int32) (medg : Nat → Int32) (mcor : Nat → Int32) (mtri : Int32) (x2 : Int32) (x3 : Int32) (x4 : Bool) : Nat → Int32 → Int32 → Option (Int32 × Int32 × (Nat → Int32) × (Nat → Int32) × Int32)
  | 0, _, _ => none
  | n + 1, x5, x6 =>
    ((s_Mod_away F mnow mcor x5 x2 x3)).bind fun v4 =>
    if 0 ≤ v4 then
      ((s_Mod_beyondOf F mnow medg mcor mtri x5 v4)).bind fun v6 =>
      if v6 < 0 then
        if (bI x4) = 0 then
          some (x6, mthr, medg, mcor, mtri)
        else
          some ((-1 : Int32), mthr, medg, mcor, mtri)
      else
        if x6 = (50 : Int32) then
          if (bI x4) = 0 then
            some (x6, mthr, medg, mcor, mtri)
          else
            some ((-1 : Int32), mthr, medg, mcor, mtri)
        else
          s_Mod_walk_L39 F mthr mnow medg mcor mtri x2 x3 x4 n v6 (x6 + (1 : Int32))
    else
      if (bI x4) = 0 then
        some (x6, mthr, medg, mcor, mtri)
      else
        some (x5, mthr, medg, mcor, mtri)
def s_Mod_walk (F : Nat) (mnow : Nat → Int32) (medg : Nat → Int32) (mcor : Nat → Int32) (a0 : Int32) (a1 : Int32) (a2 : Int32) (a3 : Bool) : Option (Int32 × Int32 × (Nat → Int32) × (Nat → Int32) × Int32) :=
  ((s_Mod_isTriangle F mnow medg mcor a0)).bind fun v1 =>
  if (bI v1.1) = 0 then
    some ((s_Mod_raises (1 : Int32)).1, (s_Mod_raises (1 : Int32)).2, v1.2.1, v1.2.2.1, v1.2.2.2)
  else
    if (bI (s_Mod_isPlace a1 a2)) = 0 then
      some ((s_Mod_raises (2 : Int32)).1, (s_Mod_raises (2 : Int32)).2, v1.2.1, v1.2.2.1, v1.2.2.2)
    else
      (s_Mod_walk_L39 F (0 : Int32) mnow v1.2.1 v1.2.2.1 v1.2.2.2 a1 a2 a3 F a0 (0 : Int32)).bind fun q_o =>
      some q_o
def s_Mod_keeps_L2 (mnow : Nat → Int32) : Nat → Int32 → (Nat → Int32) → Option (Int32 × (Nat → Int32))
  | 0, _, _ => none
  | n + 1, x1, mwor =>
    if (56 : Int32) ≤ x1 then
      some (x1, mwor)
    else
      (aget 56 mnow x1).bind fun v2 =>
      (aset 56 mwor x1 v2).bind fun v3 =>
      s_Mod_keeps_L2 mnow n (x1 + (1 : Int32)) v3
def s_Mod_keeps_L28 (mcor : Nat → Int32) (mtri : Int32) : Nat → Int32 → (Nat → Int32) → Option (Int32 × (Nat → Int32))
  | 0, _, _ => none
  | n + 1, x1, mkep =>
    if ((3 : Int32) * mtri) ≤ x1 then
      some (x1, mkep)
    else
      (aget 120 mcor x1).bind fun v6 =>
      (aset 120 mkep x1 v6).bind fun v7 =>
      s_Mod_keeps_L28 mcor mtri n (x1 + (1 : Int32)) v7
def s_Mod_keeps_L58 (medg : Nat → Int32) : Nat → Int32 → (Nat → Int32) → Option (Int32 × (Nat → Int32))
  | 0, _, _ => none
  | n + 1, x1, mkee =>
    if (289 : Int32) ≤ x1 then
      some (x1, mkee)
    else
      (aget 289 medg x1).bind fun v10 =>
      (aset 289 mkee x1 (vp_nar .boolean v10)).bind fun v11 =>
      s_Mod_keeps_L58 medg n (x1 + (1 : Int32)) v11
def s_Mod_keeps (F : Nat) (mnow : Nat → Int32) (medg : Nat → Int32) (mcor : Nat → Int32) (mtri : Int32) (mkep : Nat → Int32) (mkee : Nat → Int32) (mwor : Nat → Int32) : Option ((Nat → Int32) × (Nat → Int32) × (Nat → Int32)) :=
  (s_Mod_keeps_L2 mnow F (0 : Int32) mwor).bind fun o4x =>
  (s_Mod_keeps_L28 mcor mtri F (0 : Int32) mkep).bind fun o8x =>
  (s_Mod_keeps_L58 medg F (0 : Int32) mkee).bind fun o12x =>
  some (o8x.2, o12x.2, o4x.2)
def s_Mod_goesBack_L2 (mwor : Nat → Int32) : Nat → Int32 → (Nat → Int32) → Option (Int32 × (Nat → Int32))
  | 0, _, _ => none
  | n + 1, x1, mnow =>
    if (56 : Int32) ≤ x1 then
      some (x1, mnow)
    else
      (aget 56 mwor x1).bind fun v2 =>
      (aset 56 mnow x1 v2).bind fun v3 =>
      s_Mod_goesBack_L2 mwor n (x1 + (1 : Int32)) v3
def s_Mod_goesBack (F : Nat) (mnow : Nat → Int32) (mwor : Nat → Int32) : Option ((Nat → Int32)) :=
  (s_Mod_goesBack_L2 mwor F (0 : Int32) mnow).bind fun o4x =>
  some o4x.2
def s_Mod_cavity_L62 (F : Nat) (mcor : Nat → Int32) (mtri : Int32) (mkep : Nat → Int32) (x3 : Int32) : Nat → Int32 → Int32 → Option (Int32 × Int32)
  | 0, _, _ => none
  | n + 1, x4, x5 =>
    if x3 ≤ x5 then
      some (x4, x5)
    else
      (aget 120 mkep ((3 : Int32) * x5)).bind fun v11 =>
      (aget 120 mkep (((3 : Int32) * x5) + (1 : Int32))).bind fun v12 =>
      (aget 120 mkep (((3 : Int32) * x5) + (2 : Int32))).bind fun v13 =>
      ((s_Mod_triangleOf F mcor mtri v11 v12 v13)).bind fun v14 =>
      if 0 ≤ v14 then
        s_Mod_cavity_L62 F mcor mtri mkep x3 n x4 (x5 + (1 : Int32))
      else
        s_Mod_cavity_L62 F mcor mtri mkep x3 n (x4 + (1 : Int32)) (x5 + (1 : Int32))
def s_Mod_cavity (F : Nat) (mnow : Nat → Int32) (medg : Nat → Int32) (mcor : Nat → Int32) (mtri : Int32) (mkep : Nat → Int32) (mkee : Nat → Int32) (mwor : Nat → Int32) (a0 : Int32) (a1 : Int32) : Option (Int32 × Int32 × (Nat → Int32) × (Nat → Int32) × (Nat → Int32) × Int32 × (Nat → Int32) × (Nat → Int32) × (Nat → Int32)) :=
  ((s_Mod_whyNot F mnow a0 a1)).bind fun v1 =>
  if v1 ≤ 0 then
    ((s_Mod_builds F mnow medg mcor)).bind fun v3 =>
    ((s_Mod_keeps F mnow v3.1 v3.2.1 v3.2.2 mkep mkee mwor)).bind fun v4 =>
    ((s_Mod_n mnow)).bind fun v5 =>
    ((s_Mod_sets mnow v5 a0 a1)).bind fun v6 =>
    (aget 56 v6 (0 : Int32)).bind fun v7 =>
    (aset 56 v6 (0 : Int32) (v7 + (1 : Int32))).bind fun v8 =>
    ((s_Mod_builds F v8 v3.1 v3.2.1)).bind fun v9 =>
    (s_Mod_cavity_L62 F v9.2.1 v9.2.2 v4.1 v3.2.2 F (0 : Int32) (0 : Int32)).bind fun o16x =>
    ((s_Mod_goesBack F v8 v4.2.2)).bind fun v17 =>
    some (o16x.1, v1, v17, v9.1, v9.2.1, v9.2.2, v4.1, v4.2.1, v4.2.2)
  else
    some ((0 : Int32), v1, mnow, medg, mcor, mtri, mkep, mkee, mwor)
def s_Mod_hole_L60 (F : Nat) (mcor : Nat → Int32) (mtri : Int32) (mkep : Nat → Int32) (x1 : Int32) (x2 : Int32) : Nat → Int32 → Int32 → Option (Int32 × Int32)
  | 0, _, _ => none
  | n + 1, x3, x4 =>
    if x2 ≤ x4 then
      some (x3, x4)
    else
      (aget 120 mkep ((3 : Int32) * x4)).bind fun v10 =>
      (aget 120 mkep (((3 : Int32) * x4) + (1 : Int32))).bind fun v11 =>
      (aget 120 mkep (((3 : Int32) * x4) + (2 : Int32))).bind fun v12 =>
      if v10 = x1 then
        s_Mod_hole_L60 F mcor mtri mkep x1 x2 n x3 (x4 + (1 : Int32))
      else
        if v11 = x1 then
          s_Mod_hole_L60 F mcor mtri mkep x1 x2 n x3 (x4 + (1 : Int32))
        else
          if v12 = x1 then
            s_Mod_hole_L60 F mcor mtri mkep x1 x2 n x3 (x4 + (1 : Int32))
          else
            if v10 ≤ x1 then
              if v11 ≤ x1 then
                if v12 ≤ x1 then
                  ((s_Mod_triangleOf F mcor mtri v10 v11 v12)).bind fun v19 =>
                  if v19 < 0 then
                    s_Mod_hole_L60 F mcor mtri mkep x1 x2 n x3 (x4 + (1 : Int32))
                  else
                    s_Mod_hole_L60 F mcor mtri mkep x1 x2 n (x3 + (1 : Int32)) (x4 + (1 : Int32))
                else
                  ((s_Mod_triangleOf F mcor mtri v10 v11 (v12 - (1 : Int32)))).bind fun v21 =>
                  if v21 < 0 then
                    s_Mod_hole_L60 F mcor mtri mkep x1 x2 n x3 (x4 + (1 : Int32))
                  else
                    s_Mod_hole_L60 F mcor mtri mkep x1 x2 n (x3 + (1 : Int32)) (x4 + (1 : Int32))
              else
                if v12 ≤ x1 then
                  ((s_Mod_triangleOf F mcor mtri v10 (v11 - (1 : Int32)) v12)).bind fun v24 =>
                  if v24 < 0 then
                    s_Mod_hole_L60 F mcor mtri mkep x1 x2 n x3 (x4 + (1 : Int32))
                  else
                    s_Mod_hole_L60 F mcor mtri mkep x1 x2 n (x3 + (1 : Int32)) (x4 + (1 : Int32))
                else
                  ((s_Mod_triangleOf F mcor mtri v10 (v11 - (1 : Int32)) (v12 - (1 : Int32)))).bind fun v26 =>
                  if v26 < 0 then
                    s_Mod_hole_L60 F mcor mtri mkep x1 x2 n x3 (x4 + (1 : Int32))
                  else
                    s_Mod_hole_L60 F mcor mtri mkep x1 x2 n (x3 + (1 : Int32)) (x4 + (1 : Int32))
            else
              if v11 ≤ x1 then
                if v12 ≤ x1 then
                  ((s_Mod_triangleOf F mcor mtri (v10 - (1 : Int32)) v11 v12)).bind fun v30 =>
                  if v30 < 0 then
                    s_Mod_hole_L60 F mcor mtri mkep x1 x2 n x3 (x4 + (1 : Int32))
                  else
                    s_Mod_hole_L60 F mcor mtri mkep x1 x2 n (x3 + (1 : Int32)) (x4 + (1 : Int32))
                else
                  ((s_Mod_triangleOf F mcor mtri (v10 - (1 : Int32)) v11 (v12 - (1 : Int32)))).bind fun v32 =>
                  if v32 < 0 then
                    s_Mod_hole_L60 F mcor mtri mkep x1 x2 n x3 (x4 + (1 : Int32))
                  else
                    s_Mod_hole_L60 F mcor mtri mkep x1 x2 n (x3 + (1 : Int32)) (x4 + (1 : Int32))
              else
                if v12 ≤ x1 then
                  ((s_Mod_triangleOf F mcor mtri (v10 - (1 : Int32)) (v11 - (1 : Int32)) v12)).bind fun v35 =>
                  if v35 < 0 then
                    s_Mod_hole_L60 F mcor mtri mkep x1 x2 n x3 (x4 + (1 : Int32))
                  else
                    s_Mod_hole_L60 F mcor mtri mkep x1 x2 n (x3 + (1 : Int32)) (x4 + (1 : Int32))
                else
                  ((s_Mod_triangleOf F mcor mtri (v10 - (1 : Int32)) (v11 - (1 : Int32)) (v12 - (1 : Int32)))).bind fun v37 =>
                  if v37 < 0 then
                    s_Mod_hole_L60 F mcor mtri mkep x1 x2 n x3 (x4 + (1 : Int32))
                  else
                    s_Mod_hole_L60 F mcor mtri mkep x1 x2 n (x3 + (1 : Int32)) (x4 + (1 : Int32))
def s_Mod_hole (F : Nat) (mnow : Nat → Int32) (medg : Nat → Int32) (mcor : Nat → Int32) (mtri : Int32) (mkep : Nat → Int32) (mkee : Nat → Int32) (mwor : Nat → Int32) (a0 : Int32) : Option (Int32 × Int32 × (Nat → Int32) × (Nat → Int32) × (Nat → Int32) × Int32 × (Nat → Int32) × (Nat → Int32) × (Nat → Int32)) :=
  ((s_Mod_isPoint mnow a0)).bind fun v1 =>
  if (bI v1) = 0 then
    some ((s_Mod_raises (1 : Int32)).1, (s_Mod_raises (1 : Int32)).2, mnow, medg, mcor, mtri, mkep, mkee, mwor)
  else
    ((s_Mod_isEnd F mnow a0)).bind fun v3 =>
    if (bI v3) = 0 then
      ((s_Mod_builds F mnow medg mcor)).bind fun v5 =>
      ((s_Mod_keeps F mnow v5.1 v5.2.1 v5.2.2 mkep mkee mwor)).bind fun v6 =>
      ((s_Mod_drops F mnow a0)).bind fun v7 =>
      ((s_Mod_builds F v7 v5.1 v5.2.1)).bind fun v8 =>
      (s_Mod_hole_L60 F v8.2.1 v8.2.2 v6.1 a0 v5.2.2 F (0 : Int32) (0 : Int32)).bind fun o39x =>
      ((s_Mod_goesBack F v7 v6.2.2)).bind fun v40 =>
      some ((v8.2.2 - o39x.1), (0 : Int32), v40, v8.1, v8.2.1, v8.2.2, v6.1, v6.2.1, v6.2.2)
    else
      some ((s_Mod_raises (2 : Int32)).1, (s_Mod_raises (2 : Int32)).2, mnow, medg, mcor, mtri, mkep, mkee, mwor)
def s_Mod_crossings_L62 (mnow : Nat → Int32) (medg : Nat → Int32) (x1 : Int32) (x2 : Int32) (x4 : Int32) : Nat → Int32 → Int32 → Option (Int32 × Int32)
  | 0, _, _ => none
  | n + 1, x3, x5 =>
    ((s_Mod_n mnow)).bind fun v9 =>
    if v9 ≤ x5 then
      some (x3, x5)
    else
      ((s_Mod_has medg x4 x5)).bind fun v11 =>
      if (bI v11) = 0 then
        s_Mod_crossings_L62 mnow medg x1 x2 x4 n x3 (x5 + (1 : Int32))
      else
        ((s_Mod_cross mnow x1 x2 x4 x5)).bind fun v13 =>
        if (bI v13) = 0 then
          s_Mod_crossings_L62 mnow medg x1 x2 x4 n x3 (x5 + (1 : Int32))
        else
          s_Mod_crossings_L62 mnow medg x1 x2 x4 n (x3 + (1 : Int32)) (x5 + (1 : Int32))
def s_Mod_crossings_L47 (F : Nat) (mnow : Nat → Int32) (medg : Nat → Int32) (x1 : Int32) (x2 : Int32) : Nat → Int32 → Int32 → Option (Int32 × Int32)
  | 0, _, _ => none
  | n + 1, x3, x4 =>
    ((s_Mod_n mnow)).bind fun v7 =>
    if v7 ≤ x4 then
      some (x3, x4)
    else
      (s_Mod_crossings_L62 mnow medg x1 x2 x4 F x3 (x4 + (1 : Int32))).bind fun o15x =>
      s_Mod_crossings_L47 F mnow medg x1 x2 n o15x.1 (x4 + (1 : Int32))
def s_Mod_crossings (F : Nat) (mnow : Nat → Int32) (medg : Nat → Int32) (mcor : Nat → Int32) (mtri : Int32) (a0 : Int32) (a1 : Int32) : Option (Int32 × Int32 × (Nat → Int32) × (Nat → Int32) × Int32) :=
  ((s_Mod_isPoint mnow a0)).bind fun v1 =>
  if (bI v1) = 0 then
    some ((s_Mod_raises (1 : Int32)).1, (s_Mod_raises (1 : Int32)).2, medg, mcor, mtri)
  else
    ((s_Mod_isPoint mnow a1)).bind fun v3 =>
    if (bI v3) = 0 then
      some ((s_Mod_raises (1 : Int32)).1, (s_Mod_raises (1 : Int32)).2, medg, mcor, mtri)
    else
      if a0 = a1 then
        some ((s_Mod_raises (2 : Int32)).1, (s_Mod_raises (2 : Int32)).2, medg, mcor, mtri)
      else
        ((s_Mod_builds F mnow medg mcor)).bind fun v6 =>
        (s_Mod_crossings_L47 F mnow v6.1 a0 a1 F (0 : Int32) (0 : Int32)).bind fun o16x =>
        some (o16x.1, (0 : Int32), v6.1, v6.2.1, v6.2.2)
def s_Mod_effect_L53 (mnow : Nat → Int32) (medg : Nat → Int32) (mkee : Nat → Int32) (x3 : Int32) : Nat → Int32 → Int32 → Option (Int32 × Int32)
  | 0, _, _ => none
  | n + 1, x2, x4 =>
    ((s_Mod_n mnow)).bind fun v9 =>
    if v9 ≤ x4 then
      some (x2, x4)
    else
      (aget 289 mkee (((17 : Int32) * x3) + x4)).bind fun v11 =>
      if v11 = 0 then
        s_Mod_effect_L53 mnow medg mkee x3 n x2 (x4 + (1 : Int32))
      else
        ((s_Mod_has medg x3 x4)).bind fun v13 =>
        if (bI v13) = 0 then
          s_Mod_effect_L53 mnow medg mkee x3 n (x2 + (1 : Int32)) (x4 + (1 : Int32))
        else
          s_Mod_effect_L53 mnow medg mkee x3 n x2 (x4 + (1 : Int32))
def s_Mod_effect_L40 (F : Nat) (mnow : Nat → Int32) (medg : Nat → Int32) (mkee : Nat → Int32) : Nat → Int32 → Int32 → Option (Int32 × Int32)
  | 0, _, _ => none
  | n + 1, x2, x3 =>
    ((s_Mod_n mnow)).bind fun v7 =>
    if v7 ≤ x3 then
      some (x2, x3)
    else
      (s_Mod_effect_L53 mnow medg mkee x3 F x2 (x3 + (1 : Int32))).bind fun o15x =>
      s_Mod_effect_L40 F mnow medg mkee n o15x.1 (x3 + (1 : Int32))
def s_Mod_effect (F : Nat) (mnow : Nat → Int32) (medg : Nat → Int32) (mcor : Nat → Int32) (mtri : Int32) (mkep : Nat → Int32) (mkee : Nat → Int32) (mwor : Nat → Int32) (a0 : Int32) : Option (Int32 × Int32 × (Nat → Int32) × (Nat → Int32) × (Nat → Int32) × Int32 × (Nat → Int32) × (Nat → Int32) × (Nat → Int32)) :=
  ((s_Mod_isConstraint mnow a0)).bind fun v1 =>
  if (bI v1) = 0 then
    some ((s_Mod_raises (1 : Int32)).1, (s_Mod_raises (1 : Int32)).2, mnow, medg, mcor, mtri, mkep, mkee, mwor)
  else
    ((s_Mod_builds F mnow medg mcor)).bind fun v3 =>
    ((s_Mod_keeps F mnow v3.1 v3.2.1 v3.2.2 mkep mkee mwor)).bind fun v4 =>
    ((s_Mod_unties F mnow a0)).bind fun v5 =>
    ((s_Mod_builds F v5 v3.1 v3.2.1)).bind fun v6 =>
    (s_Mod_effect_L40 F v5 v6.1 v4.2.1 F (0 : Int32) (0 : Int32)).bind fun o16x =>
    ((s_Mod_goesBack F v5 v4.2.2)).bind fun v17 =>
    some (o16x.1, (0 : Int32), v17, v6.1, v6.2.1, v6.2.2, v4.1, v4.2.1, v4.2.2)
def s_Mod_undo_L30 (mold : Nat → Int32) (mols : Int32) : Nat → Int32 → (Nat → Int32) → Option (Int32 × (Nat → Int32))
  | 0, _, _ => none
  | n + 1, x1, mnow =>
    if (56 : Int32) ≤ x1 then
      some (x1, mnow)
    else
      (aget 672 mold (((56 : Int32) * mols) + x1)).bind fun v3 =>
      (aset 56 mnow x1 v3).bind fun v4 =>
      s_Mod_undo_L30 mold mols n (x1 + (1 : Int32)) v4
def s_Mod_undo (F : Nat) (mnow : Nat → Int32) (mold : Nat → Int32) (mols : Int32) : Option (Int32 × Int32 × (Nat → Int32) × Int32) :=
  if mols = 0 then
    some ((s_Mod_raises (1 : Int32)).1, (s_Mod_raises (1 : Int32)).2, mnow, mols)
  else
    (s_Mod_undo_L30 mold (mols - (1 : Int32)) F (0 : Int32) mnow).bind fun o5x =>
    some ((mols - (1 : Int32)), (0 : Int32), o5x.2, (mols - (1 : Int32)))
def s_Mod_save_L12 (mnow : Nat → Int32) : Nat → Int32 → (Nat → Int32) → Option (Int32 × (Nat → Int32))
  | 0, _, _ => none
  | n + 1, x1, msav =>
    if (56 : Int32) ≤ x1 then
      some (x1, msav)
    else
      (aget 56 mnow x1).bind fun v2 =>
      (aset 56 msav x1 v2).bind fun v3 =>
      s_Mod_save_L12 mnow n (x1 + (1 : Int32)) v3
def s_Mod_save (F : Nat) (mnow : Nat → Int32) (msav : Nat → Int32) : Option (Int32 × Int32 × (Nat → Int32) × Bool) :=
  (s_Mod_save_L12 mnow F (0 : Int32) msav).bind fun o4x =>
  ((s_Mod_n mnow)).bind fun v5 =>
  some (v5, (0 : Int32), o4x.2, true)
def s_Mod_restore_L20 (msav : Nat → Int32) : Nat → Int32 → (Nat → Int32) → Option (Int32 × (Nat → Int32))
  | 0, _, _ => none
  | n + 1, x1, mnow =>
    if (56 : Int32) ≤ x1 then
      some (x1, mnow)
    else
      (aget 56 msav x1).bind fun v3 =>
      (aset 56 mnow x1 v3).bind fun v4 =>
      s_Mod_restore_L20 msav n (x1 + (1 : Int32)) v4
def s_Mod_restore (F : Nat) (mnow : Nat → Int32) (mols : Int32) (msav : Nat → Int32) (miss : Bool) : Option (Int32 × Int32 × (Nat → Int32) × Int32) :=
  if (bI miss) = 0 then
    some ((s_Mod_raises (1 : Int32)).1, (s_Mod_raises (1 : Int32)).2, mnow, mols)
  else
    (s_Mod_restore_L20 msav F (0 : Int32) mnow).bind fun o5x =>
    ((s_Mod_n o5x.2)).bind fun v6 =>
    some (v6, (0 : Int32), o5x.2, (0 : Int32))
