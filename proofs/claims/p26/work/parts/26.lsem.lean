/-! the law's own methods, as functions -/
def s_L_low (x0 x1 : Int32) : Option (Int32) :=
  Option.bind (rmi (x0 &&& (2147483647 : Int32)) x1) fun v1 =>
  some v1
def s_L_place (x0 : Int32) : Option (Int32) :=
  if (6 : Int32) ≤ x0 then
    some (x0 - (5 : Int32))
  else
  some (x0 - (6 : Int32))
def s_L_index (x0 : Int32) : Option (Int32) :=
  if (0 : Int32) ≤ x0 then
    some (x0 + (5 : Int32))
  else
  some (x0 + (6 : Int32))
def s_L_goal (x0 x1 : Int32) : Option (Int32) :=
  if (6 : Int32) ≤ x0 then
    jn (fun (v4 : Int32) =>
      jn (fun (v6 : Int32) =>
        if x0 = (6 : Int32) then
          if v4 = (1 : Int32) then
            some (-x1)
          else
          some (v6 * (v4 - (1 : Int32)))
        else
        if v4 = (6 : Int32) then
          some (0 : Int32)
        else
        some (v6 * (v4 + (1 : Int32)))) fun k5 =>
      if (0 : Int32) ≤ x1 then
        k5 (1 : Int32)
      else
      k5 (-1 : Int32)) fun k3 =>
    if (0 : Int32) ≤ x1 then
      k3 x1
    else
    k3 (-x1)
  else
  some x1
def s_L_order (x0 : Int32) : Option (Int32) :=
  if (60 : Int32) ≤ x0 then
    Option.bind (rmi x0 (2 : Int32)) fun v2 =>
    Option.bind (dvi (x0 - (60 : Int32)) (2 : Int32)) fun v3 =>
    Option.bind (s_L_place v3) fun v4 =>
    some ((((100 : Int32) * ((6 : Int32) + v2)) + v4) + (50 : Int32))
  else
  Option.bind (dvi x0 (12 : Int32)) fun v5 =>
  Option.bind (rmi x0 (12 : Int32)) fun v6 =>
  Option.bind (s_L_place v6) fun v7 =>
  some ((((100 : Int32) * (v5 + (1 : Int32))) + v7) + (50 : Int32))
def s_L_turn_L4 : Nat → (Nat → Int32) → Int32 → Int32 → Option (Int32)
  | 0, _, _, _ => none
  | n + 1, a0, x1, x2 =>
    if (48 : Int32) ≤ x2 then
      some x1
    else
    Option.bind (rmi x2 (4 : Int32)) fun v2 =>
    Option.bind (dvi x2 (4 : Int32)) fun v3 =>
    Option.bind (rd 60 a0 ((48 : Int32) + v3)) fun v4 =>
    if v4 ≤ v2 then
      jn (x1 + (0 : Int32)) fun v6 =>
      jn (x2 + (1 : Int32)) fun v7 =>
      s_L_turn_L4 n a0 v6 v7
    else
    Option.bind (rd 60 a0 x2) fun v8 =>
    Option.bind (dvi x2 (4 : Int32)) fun v9 =>
    Option.bind (s_L_place v9) fun v10 =>
    jn (x1 + (v8 * v10)) fun v11 =>
    jn (x2 + (1 : Int32)) fun v12 =>
    s_L_turn_L4 n a0 v11 v12
def s_L_turn (a0 : Nat → Int32) : Option (Int32) :=
  s_L_turn_L4 1000 a0 (0 : Int32) (0 : Int32)
def s_L_all_L4 : Nat → (Nat → Int32) → Int32 → Int32 → Int32 → Option (Int32)
  | 0, _, _, _, _ => none
  | n + 1, a0, x1, x2, x3 =>
    if (5 : Int32) ≤ x3 then
      some x2
    else
    Option.bind (rd 10 a0 (((5 : Int32) * x1) + x3)) fun v2 =>
    jn (x2 + v2) fun v3 =>
    jn (x3 + (1 : Int32)) fun v4 =>
    s_L_all_L4 n a0 x1 v3 v4
def s_L_all (a0 : Nat → Int32) (x1 : Int32) : Option (Int32) :=
  s_L_all_L4 1000 a0 x1 (0 : Int32) (0 : Int32)
def s_L_result (a0 : Nat → Int32) (a1 : Nat → Int32) (a2 : Nat → Int32) : Option (Int32) :=
  Option.bind (s_L_turn a0) fun v1 =>
  Option.bind (rd 11 a2 (1 : Int32)) fun v2 =>
  jn (fun (_ : Unit) =>
    Option.bind (rd 11 a2 (3 : Int32)) fun v9 =>
    if v9 = (1 : Int32) then
      Option.bind (rd 11 a2 (9 : Int32)) fun v12 =>
      some (v12 + (1 : Int32))
    else
    Option.bind (rd 11 a2 (9 : Int32)) fun v11 =>
    some ((2 : Int32) - v11)) fun k8 =>
  if v2 < v1 then
    k8 ()
  else
  Option.bind (rd 11 a2 (1 : Int32)) fun v14 =>
  if (-v1) ≤ v14 then
    Option.bind (s_L_all a1 (0 : Int32)) fun v16 =>
    Option.bind (s_L_all a1 (1 : Int32)) fun v17 =>
    if (v16 + v17) ≤ (0 : Int32) then
      some (3 : Int32)
    else
    some (0 : Int32)
  else
  k8 ()
def s_L_why (a0 : Nat → Int32) (a1 : Nat → Int32) (a2 : Nat → Int32) (x3 x4 : Int32) : Option (Int32) :=
  Option.bind (s_L_result a0 a1 a2) fun v1 =>
  if v1 ≤ (0 : Int32) then
    jn (fun (_ : Unit) =>
      jn (fun (_ : Unit) =>
        Option.bind (s_L_goal x3 x4) fun v15 =>
        if v15 = (0 : Int32) then
          some (4 : Int32)
        else
        Option.bind (s_L_index v15) fun v17 =>
        Option.bind (rd 60 a0 ((48 : Int32) + v17)) fun v18 =>
        Option.bind (rd 11 a2 (0 : Int32)) fun v19 =>
        if v19 ≤ v18 then
          some (4 : Int32)
        else
        some (0 : Int32)) fun k14 =>
      if x3 ≤ (5 : Int32) then
        k14 ()
      else
      Option.bind (s_L_index x4) fun v22 =>
      Option.bind (rd 60 a0 ((48 : Int32) + v22)) fun v23 =>
      if v23 = (0 : Int32) then
        some (3 : Int32)
      else
      Option.bind (rd 11 a2 (10 : Int32)) fun v25 =>
      if v25 = x4 then
        some (3 : Int32)
      else
      k14 ()) fun k9 =>
    if x3 ≤ (5 : Int32) then
      Option.bind (rd 11 a2 (4 : Int32)) fun v28 =>
      Option.bind (rd 10 a1 ((((5 : Int32) * v28) + x3) - (1 : Int32))) fun v29 =>
      if v29 = (0 : Int32) then
        some (2 : Int32)
      else
      k9 ()
    else
    Option.bind (rd 11 a2 (2 : Int32)) fun v31 =>
    if v31 = (0 : Int32) then
      some (2 : Int32)
    else
    k9 ()
  else
  some (1 : Int32)
def s_L_put (a0 : Nat → Int32) (x1 x2 : Int32) : Option ((Nat → Int32)) :=
  Option.bind (s_L_index x1) fun v1 =>
  Option.bind (rd 60 a0 ((48 : Int32) + v1)) fun v2 =>
  Option.bind (wr1 60 a0 (((4 : Int32) * v1) + v2) x2) fun A3 =>
  Option.bind (rd 60 A3 ((48 : Int32) + v1)) fun v4 =>
  Option.bind (wr1 60 A3 ((48 : Int32) + v1) (v4 + (1 : Int32))) fun A5 =>
  some A5
def s_L_move (a0 : Nat → Int32) (a1 : Nat → Int32) (a2 : Nat → Int32) (x3 x4 : Int32) : Option ((Nat → Int32) × (Nat → Int32) × (Nat → Int32)) :=
  Option.bind (s_L_goal x3 x4) fun v1 =>
  jn (fun (v20 : Int32) (A21 : Nat → Int32) (A22 : Nat → Int32) =>
    Option.bind (s_L_put A21 v1 v20) fun A23 =>
    jn (fun (v25 : Int32) =>
      Option.bind (wr1 11 a2 (10 : Int32) v25) fun A26 =>
      Option.bind (rd 11 A26 (4 : Int32)) fun v27 =>
      Option.bind (wr1 11 A26 (9 : Int32) v27) fun A28 =>
      Option.bind (rd 11 A28 (2 : Int32)) fun v29 =>
      jn (fun (v36 : Int32) =>
        if v36 = (0 : Int32) then
          Option.bind (rd 11 A28 (4 : Int32)) fun v38 =>
          Option.bind (wr1 11 A28 (4 : Int32) ((1 : Int32) - v38)) fun A39 =>
          some (A23, A22, A39)
        else
        Option.bind (rd 11 A28 (4 : Int32)) fun v40 =>
        Option.bind (wr1 11 A28 (4 : Int32) v40) fun A41 =>
        some (A23, A22, A41)) fun k35 =>
      jn (fun (_ : Unit) =>
        k35 (0 : Int32)) fun k52 =>
      if v29 = (0 : Int32) then
        Option.bind (rd 11 A28 (4 : Int32)) fun v54 =>
        Option.bind (s_L_all A22 ((1 : Int32) - v54)) fun v55 =>
        if v55 = (0 : Int32) then
          Option.bind (rd 11 A28 (4 : Int32)) fun v57 =>
          Option.bind (s_L_all A22 v57) fun v58 =>
          if v58 ≤ (0 : Int32) then
            k52 ()
          else
          k35 (1 : Int32)
        else
        k52 ()
      else
      k52 ()) fun k24 =>
    if x3 ≤ (5 : Int32) then
      k24 (0 : Int32)
    else
    k24 v1) fun k19 =>
  if x3 ≤ (5 : Int32) then
    Option.bind (rd 11 a2 (4 : Int32)) fun v62 =>
    Option.bind (rd 10 a1 ((((5 : Int32) * v62) + x3) - (1 : Int32))) fun v63 =>
    Option.bind (wr1 10 a1 ((((5 : Int32) * v62) + x3) - (1 : Int32)) (v63 - (1 : Int32))) fun A64 =>
    k19 x3 a0 A64
  else
  Option.bind (s_L_index x4) fun v65 =>
  Option.bind (rd 60 a0 ((48 : Int32) + v65)) fun v66 =>
  Option.bind (wr1 60 a0 ((48 : Int32) + v65) (v66 - (1 : Int32))) fun A67 =>
  Option.bind (rd 60 A67 ((48 : Int32) + v65)) fun v68 =>
  Option.bind (rd 60 A67 (((4 : Int32) * v65) + v68)) fun v69 =>
  k19 v69 A67 a1
def s_L_copy_L2 (nn : Nat) : Nat → (Nat → Int32) → (Nat → Int32) → Int32 → Option ((Nat → Int32))
  | 0, _, _, _ => none
  | n + 1, a0, a1, x2 =>
    if (nI nn) ≤ x2 then
      some a1
    else
    Option.bind (rd nn a0 x2) fun v2 =>
    Option.bind (wr1 nn a1 x2 v2) fun A3 =>
    jn (x2 + (1 : Int32)) fun v4 =>
    s_L_copy_L2 nn n a0 A3 v4
def s_L_copy (nn : Nat) (a0 : Nat → Int32) (a1 : Nat → Int32) : Option ((Nat → Int32)) :=
  s_L_copy_L2 nn 1000 a0 a1 (0 : Int32)
def s_L_told (a0 : Nat → Int32) (a1 : Nat → Int32) (a2 : Nat → Int32) (x3 : Int32) : Option (Int32) :=
  Option.bind (s_L_result a0 a1 a2) fun v1 =>
  if v1 = (0 : Int32) then
    some (0 : Int32)
  else
  if v1 = (3 : Int32) then
    some (0 : Int32)
  else
  if v1 = (x3 + (1 : Int32)) then
    some (1 : Int32)
  else
  some (-1 : Int32)
def s_L_one_L57 : Nat → (Nat → Int32) → (Nat → Int32) → (Nat → Int32) → (Nat → Int32) → (Nat → Int32) → (Nat → Int32) → (Nat → Int32) → Int32 → Int32 → Int32 → Int32 → Option (Int32 × (Nat → Int32))
  | 0, _, _, _, _, _, _, _, _, _, _, _ => none
  | n + 1, a6, a5, a4, a0, a1, a2, a3, x4, x5, x6, x10 =>
    if (84 : Int32) ≤ x10 then
      if (-1 : Int32) ≤ x5 then
        some (x5, a3)
      else
      some ((0 : Int32), a3)
    else
    Option.bind (s_L_order x10) fun v7 =>
    Option.bind (dvi v7 (100 : Int32)) fun v8 =>
    Option.bind (rmi v7 (100 : Int32)) fun v9 =>
    Option.bind (s_L_why a0 a1 a2 v8 (v9 - (50 : Int32))) fun v10 =>
    if v10 = (0 : Int32) then
      Option.bind (s_L_copy 60 a0 a4) fun A13 =>
      Option.bind (s_L_copy 10 a1 a5) fun A14 =>
      Option.bind (s_L_copy 11 a2 a6) fun A15 =>
      Option.bind (dvi v7 (100 : Int32)) fun v16 =>
      Option.bind (rmi v7 (100 : Int32)) fun v17 =>
      Option.bind (s_L_move A13 A14 A15 v16 (v17 - (50 : Int32))) fun q18 =>
      Option.bind (s_L_told q18.1 q18.2.1 q18.2.2 x4) fun v19 =>
      Option.bind (s_L_turn q18.1) fun v20 =>
      jn (fun (v25 : Int32) =>
        jn (fun (v27 : Int32) =>
          jn (fun (v29 : Int32) =>
            jn (fun (v31 : Int32) =>
              if v27 = (0 : Int32) then
                Option.bind (rd 1 a3 (0 : Int32)) fun v33 =>
                Option.bind (wr1 1 a3 (0 : Int32) v33) fun A34 =>
                jn (x10 + (1 : Int32)) fun v35 =>
                s_L_one_L57 n q18.2.2 q18.2.1 q18.1 a0 a1 a2 A34 x4 v29 v31 v35
              else
              Option.bind (wr1 1 a3 (0 : Int32) v7) fun A36 =>
              jn (x10 + (1 : Int32)) fun v37 =>
              s_L_one_L57 n q18.2.2 q18.2.1 q18.1 a0 a1 a2 A36 x4 v29 v31 v37) fun k30 =>
            if v27 = (0 : Int32) then
              k30 x6
            else
            k30 v25) fun k28 =>
          if v27 = (0 : Int32) then
            k28 x5
          else
          k28 v19) fun k26 =>
        jn (fun (_ : Unit) =>
          k26 (1 : Int32)) fun k80 =>
        if x5 < v19 then
          k80 ()
        else
        jn (fun (_ : Unit) =>
          k26 (0 : Int32)) fun k102 =>
        if v19 = x5 then
          if x6 ≤ v25 then
            k102 ()
          else
          k80 ()
        else
        k102 ()) fun k24 =>
      if (0 : Int32) ≤ v20 then
        Option.bind (s_L_turn q18.1) fun v106 =>
        k24 v106
      else
      Option.bind (s_L_turn q18.1) fun v107 =>
      k24 (-v107)
    else
    jn (x10 + (1 : Int32)) fun v12 =>
    s_L_one_L57 n a6 a5 a4 a0 a1 a2 a3 x4 x5 x6 v12
def s_L_one (a0 : Nat → Int32) (a1 : Nat → Int32) (a2 : Nat → Int32) (a3 : Nat → Int32) : Option (Int32 × (Nat → Int32)) :=
  Option.bind (rd 11 a2 (4 : Int32)) fun v1 =>
  Option.bind (wr1 1 a3 (0 : Int32) (-10005 : Int32)) fun A2 =>
  Option.bind (s_L_result a0 a1 a2) fun v3 =>
  if v3 ≤ (0 : Int32) then
    s_L_one_L57 1000 zr zr zr a0 a1 a2 A2 v1 (-2 : Int32) (0 : Int32) (0 : Int32)
  else
  Option.bind (s_L_told a0 a1 a2 v1) fun v108 =>
  some (v108, A2)
def s_L_two_L62 : Nat → (Nat → Int32) → (Nat → Int32) → (Nat → Int32) → (Nat → Int32) → (Nat → Int32) → (Nat → Int32) → (Nat → Int32) → (Nat → Int32) → Int32 → Int32 → Int32 → Int32 → Option (Int32 × (Nat → Int32))
  | 0, _, _, _, _, _, _, _, _, _, _, _, _ => none
  | n + 1, a7, a6, a5, a4, a0, a1, a2, a3, x4, x5, x6, x11 =>
    if (84 : Int32) ≤ x11 then
      if (-1 : Int32) ≤ x5 then
        some (x5, a3)
      else
      some ((0 : Int32), a3)
    else
    Option.bind (s_L_order x11) fun v7 =>
    Option.bind (dvi v7 (100 : Int32)) fun v8 =>
    Option.bind (rmi v7 (100 : Int32)) fun v9 =>
    Option.bind (s_L_why a0 a1 a2 v8 (v9 - (50 : Int32))) fun v10 =>
    if v10 = (0 : Int32) then
      Option.bind (s_L_copy 60 a0 a4) fun A13 =>
      Option.bind (s_L_copy 10 a1 a5) fun A14 =>
      Option.bind (s_L_copy 11 a2 a6) fun A15 =>
      Option.bind (dvi v7 (100 : Int32)) fun v16 =>
      Option.bind (rmi v7 (100 : Int32)) fun v17 =>
      Option.bind (s_L_move A13 A14 A15 v16 (v17 - (50 : Int32))) fun q18 =>
      Option.bind (s_L_one q18.1 q18.2.1 q18.2.2 a7) fun q19 =>
      jn q19.1 fun v20 =>
      Option.bind (rd 11 q18.2.2 (4 : Int32)) fun v21 =>
      jn (fun (v24 : Int32) =>
        Option.bind (s_L_turn q18.1) fun v25 =>
        jn (fun (v30 : Int32) =>
          jn (fun (v32 : Int32) =>
            jn (fun (v34 : Int32) =>
              jn (fun (v36 : Int32) =>
                if v32 = (0 : Int32) then
                  Option.bind (rd 1 a3 (0 : Int32)) fun v38 =>
                  Option.bind (wr1 1 a3 (0 : Int32) v38) fun A39 =>
                  jn (x11 + (1 : Int32)) fun v40 =>
                  s_L_two_L62 n q19.2 q18.2.2 q18.2.1 q18.1 a0 a1 a2 A39 x4 v34 v36 v40
                else
                Option.bind (wr1 1 a3 (0 : Int32) v7) fun A41 =>
                jn (x11 + (1 : Int32)) fun v42 =>
                s_L_two_L62 n q19.2 q18.2.2 q18.2.1 q18.1 a0 a1 a2 A41 x4 v34 v36 v42) fun k35 =>
              if v32 = (0 : Int32) then
                k35 x6
              else
              k35 v30) fun k33 =>
            if v32 = (0 : Int32) then
              k33 x5
            else
            k33 v24) fun k31 =>
          jn (fun (_ : Unit) =>
            k31 (1 : Int32)) fun k85 =>
          if x5 < v24 then
            k85 ()
          else
          jn (fun (_ : Unit) =>
            k31 (0 : Int32)) fun k107 =>
          if v24 = x5 then
            if x6 ≤ v30 then
              k107 ()
            else
            k85 ()
          else
          k107 ()) fun k29 =>
        if (0 : Int32) ≤ v25 then
          Option.bind (s_L_turn q18.1) fun v111 =>
          k29 v111
        else
        Option.bind (s_L_turn q18.1) fun v112 =>
        k29 (-v112)) fun k23 =>
      if v21 = x4 then
        k23 v20
      else
      k23 (-v20)
    else
    jn (x11 + (1 : Int32)) fun v12 =>
    s_L_two_L62 n a7 a6 a5 a4 a0 a1 a2 a3 x4 x5 x6 v12
def s_L_two (a0 : Nat → Int32) (a1 : Nat → Int32) (a2 : Nat → Int32) (a3 : Nat → Int32) : Option (Int32 × (Nat → Int32)) :=
  Option.bind (rd 11 a2 (4 : Int32)) fun v1 =>
  Option.bind (wr1 1 a3 (0 : Int32) (-10005 : Int32)) fun A2 =>
  Option.bind (s_L_result a0 a1 a2) fun v3 =>
  if v3 ≤ (0 : Int32) then
    s_L_two_L62 1000 zr zr zr zr a0 a1 a2 A2 v1 (-2 : Int32) (0 : Int32) (0 : Int32)
  else
  Option.bind (s_L_told a0 a1 a2 v1) fun v114 =>
  some (v114, A2)
def s_L_tells_I592 : Nat → (Nat → Mm) → (Nat → Int32) → (Nat → Int32) → (Nat → Int32) → (Nat → Int32) → (Nat → Int32) → (Nat → Int32) → Int32 → Int32 → Int32 → Int32 → Int32 → Option (Int32)
  | 0, _, _, _, _, _, _, _, _, _, _, _, _ => none
  | n + 1, T, a5, a4, a3, a0, a1, a2, x11, x12, x13, x14, x15 =>
    if (12 : Int32) ≤ x15 then
      some x14
    else
    Option.bind (s_L_place x15) fun v16 =>
    jn (fun (v22 : Int32) =>
      jn (x15 + (1 : Int32)) fun v23 =>
      s_L_tells_I592 n T a5 a4 a3 a0 a1 a2 x11 x12 x13 v22 v23) fun k21 =>
    jn (fun (_ : Unit) =>
      k21 x14) fun k29 =>
    if (x11 + (x13 * v16)) = (0 : Int32) then
      Option.bind (rd 60 a0 ((48 : Int32) + x15)) fun v31 =>
      Option.bind (rd 11 a2 (0 : Int32)) fun v32 =>
      if v32 ≤ v31 then
        k29 ()
      else
      Option.bind (s_L_place x15) fun v34 =>
      k21 v34
    else
    k29 ()
def s_L_tells_L577 : Nat → (Nat → Mm) → (Nat → Int32) → (Nat → Int32) → (Nat → Int32) → (Nat → Int32) → (Nat → Int32) → (Nat → Int32) → Int32 → Int32 → Int32 → Option (Int32 × (Nat → Mm))
  | 0, _, _, _, _, _, _, _, _, _, _ => none
  | n + 1, T, a5, a4, a3, a0, a1, a2, x11, x12, x13 =>
    if (6 : Int32) ≤ x13 then
      if x12 = (0 : Int32) then
        some ((0 : Int32), T)
      else
      Option.bind (s_X4_bag T (0 : Int32) (0 : Int32)) fun v9 =>
      Option.bind (s_L_all a1 (0 : Int32)) fun v10 =>
      if v9 = v10 then
        Option.bind (s_X4_bag T (1 : Int32) (0 : Int32)) fun v12 =>
        Option.bind (s_L_all a1 (1 : Int32)) fun v13 =>
        if v12 = v13 then
          some ((1 : Int32), T)
        else
        some ((0 : Int32), T)
      else
      some ((0 : Int32), T)
    else
    Option.bind (s_L_tells_I592 1000 T a5 a4 a3 a0 a1 a2 x11 x12 x13 (-10005 : Int32) (0 : Int32)) fun q35 =>
    if x12 = (0 : Int32) then
      jn (x13 + (1 : Int32)) fun v37 =>
      s_L_tells_L577 n T a5 a4 a3 a0 a1 a2 x11 (0 : Int32) v37
    else
    Option.bind (s_X4_levels T x13) fun v38 =>
    if v38 = q35 then
      Option.bind (s_X4_bag T (0 : Int32) x13) fun v41 =>
      Option.bind (rd 10 a1 (x13 - (1 : Int32))) fun v42 =>
      if v41 = v42 then
        Option.bind (s_X4_bag T (1 : Int32) x13) fun v45 =>
        Option.bind (rd 10 a1 ((4 : Int32) + x13)) fun v46 =>
        if v45 = v46 then
          jn (x13 + (1 : Int32)) fun v49 =>
          s_L_tells_L577 n T a5 a4 a3 a0 a1 a2 x11 (1 : Int32) v49
        else
        jn (x13 + (1 : Int32)) fun v48 =>
        s_L_tells_L577 n T a5 a4 a3 a0 a1 a2 x11 (0 : Int32) v48
      else
      jn (x13 + (1 : Int32)) fun v44 =>
      s_L_tells_L577 n T a5 a4 a3 a0 a1 a2 x11 (0 : Int32) v44
    else
    jn (x13 + (1 : Int32)) fun v40 =>
    s_L_tells_L577 n T a5 a4 a3 a0 a1 a2 x11 (0 : Int32) v40
def s_L_tells_L534 : Nat → (Nat → Mm) → (Nat → Int32) → (Nat → Int32) → (Nat → Int32) → (Nat → Int32) → (Nat → Int32) → (Nat → Int32) → Int32 → Int32 → Int32 → Option (Int32 × (Nat → Mm))
  | 0, _, _, _, _, _, _, _, _, _, _ => none
  | n + 1, T, a5, a4, a3, a0, a1, a2, x11, x12, x13 =>
    if (4 : Int32) ≤ x13 then
      s_L_tells_L577 1000 T a5 a4 a3 a0 a1 a2 x11 x12 (1 : Int32)
    else
    if x12 = (0 : Int32) then
      jn (x13 + (1 : Int32)) fun v51 =>
      s_L_tells_L534 n T a5 a4 a3 a0 a1 a2 x11 (0 : Int32) v51
    else
    Option.bind (s_X4_count T ((11 : Int32) + x13)) fun v52 =>
    Option.bind (rd 11 a2 x13) fun v53 =>
    if v52 = v53 then
      jn (x13 + (1 : Int32)) fun v56 =>
      s_L_tells_L534 n T a5 a4 a3 a0 a1 a2 x11 (1 : Int32) v56
    else
    jn (x13 + (1 : Int32)) fun v55 =>
    s_L_tells_L534 n T a5 a4 a3 a0 a1 a2 x11 (0 : Int32) v55
def s_L_tells_L185 : Nat → (Nat → Mm) → (Nat → Int32) → (Nat → Int32) → (Nat → Int32) → (Nat → Int32) → (Nat → Int32) → (Nat → Int32) → Int32 → Int32 → Int32 → Int32 → Int32 → Option (Int32 × (Nat → Mm))
  | 0, _, _, _, _, _, _, _, _, _, _, _, _ => none
  | n + 1, T, a5, a4, a3, a0, a1, a2, x4, x5, x6, x7, x11 =>
    if (84 : Int32) ≤ x11 then
      Option.bind (s_L_turn a0) fun v3 =>
      Option.bind (s_X4_possible T x6) fun v4 =>
      if v4 = (-10005 : Int32) then
        Option.bind (s_X4_count T (8 : Int32)) fun v57 =>
        if v57 = x6 then
          Option.bind (s_X4_count T (9 : Int32)) fun v59 =>
          if v59 = x7 then
            Option.bind (s_X4_count T (0 : Int32)) fun v61 =>
            Option.bind (rd 11 a2 (4 : Int32)) fun v62 =>
            if v61 = v62 then
              Option.bind (s_X4_count T (1 : Int32)) fun v64 =>
              if v64 = v3 then
                Option.bind (s_X4_count T (2 : Int32)) fun v66 =>
                Option.bind (s_L_result a0 a1 a2) fun v67 =>
                if v66 = v67 then
                  Option.bind (s_X4_count T (3 : Int32)) fun v69 =>
                  Option.bind (rd 11 a2 (5 : Int32)) fun v70 =>
                  if v69 = v70 then
                    Option.bind (s_X4_count T (4 : Int32)) fun v72 =>
                    Option.bind (rd 11 a2 (6 : Int32)) fun v73 =>
                    if v72 = v73 then
                      Option.bind (s_X4_count T (5 : Int32)) fun v75 =>
                      Option.bind (rd 11 a2 (7 : Int32)) fun v76 =>
                      if v75 = v76 then
                        Option.bind (rd 11 a2 (6 : Int32)) fun v78 =>
                        Option.bind (rd 11 a2 (7 : Int32)) fun v79 =>
                        if (v78 + v79) = v3 then
                          Option.bind (s_X4_count T (6 : Int32)) fun v81 =>
                          if v81 = x4 then
                            Option.bind (s_X4_count T (7 : Int32)) fun v83 =>
                            if v83 = x5 then
                              Option.bind (s_X4_count T (10 : Int32)) fun v85 =>
                              Option.bind (rd 11 a2 (8 : Int32)) fun v86 =>
                              if v85 = v86 then
                                Option.bind (s_X4_look T (0 : Int32)) fun q88 =>
                                Option.bind (rd 11 a2 (4 : Int32)) fun v89 =>
                                Option.bind (s_L_told a0 a1 a2 v89) fun v90 =>
                                if q88.1 = v90 then
                                  s_L_tells_L534 1000 q88.2 a5 a4 a3 a0 a1 a2 v3 (1 : Int32) (0 : Int32)
                                else
                                s_L_tells_L534 1000 q88.2 a5 a4 a3 a0 a1 a2 v3 (0 : Int32) (0 : Int32)
                              else
                              s_L_tells_L534 1000 T a5 a4 a3 a0 a1 a2 v3 (0 : Int32) (0 : Int32)
                            else
                            s_L_tells_L534 1000 T a5 a4 a3 a0 a1 a2 v3 (0 : Int32) (0 : Int32)
                          else
                          s_L_tells_L534 1000 T a5 a4 a3 a0 a1 a2 v3 (0 : Int32) (0 : Int32)
                        else
                        s_L_tells_L534 1000 T a5 a4 a3 a0 a1 a2 v3 (0 : Int32) (0 : Int32)
                      else
                      s_L_tells_L534 1000 T a5 a4 a3 a0 a1 a2 v3 (0 : Int32) (0 : Int32)
                    else
                    s_L_tells_L534 1000 T a5 a4 a3 a0 a1 a2 v3 (0 : Int32) (0 : Int32)
                  else
                  s_L_tells_L534 1000 T a5 a4 a3 a0 a1 a2 v3 (0 : Int32) (0 : Int32)
                else
                s_L_tells_L534 1000 T a5 a4 a3 a0 a1 a2 v3 (0 : Int32) (0 : Int32)
              else
              s_L_tells_L534 1000 T a5 a4 a3 a0 a1 a2 v3 (0 : Int32) (0 : Int32)
            else
            s_L_tells_L534 1000 T a5 a4 a3 a0 a1 a2 v3 (0 : Int32) (0 : Int32)
          else
          s_L_tells_L534 1000 T a5 a4 a3 a0 a1 a2 v3 (0 : Int32) (0 : Int32)
        else
        s_L_tells_L534 1000 T a5 a4 a3 a0 a1 a2 v3 (0 : Int32) (0 : Int32)
      else
      s_L_tells_L534 1000 T a5 a4 a3 a0 a1 a2 v3 (0 : Int32) (0 : Int32)
    else
    Option.bind (s_L_order x11) fun v92 =>
    Option.bind (dvi v92 (100 : Int32)) fun v93 =>
    Option.bind (rmi v92 (100 : Int32)) fun v94 =>
    Option.bind (s_L_why a0 a1 a2 v93 (v94 - (50 : Int32))) fun v95 =>
    Option.bind (dvi v92 (100 : Int32)) fun v96 =>
    Option.bind (rmi v92 (100 : Int32)) fun v97 =>
    Option.bind (s_X4_reason T v96 (v97 - (50 : Int32))) fun v98 =>
    if v98 = v95 then
      jn (fun (_ : Unit) =>
        if v95 = (0 : Int32) then
          jn (x6 + (1 : Int32)) fun v104 =>
          Option.bind (s_L_copy 60 a0 a3) fun A105 =>
          Option.bind (s_L_copy 10 a1 a4) fun A106 =>
          Option.bind (s_L_copy 11 a2 a5) fun A107 =>
          Option.bind (dvi v92 (100 : Int32)) fun v108 =>
          Option.bind (rmi v92 (100 : Int32)) fun v109 =>
          Option.bind (s_L_move A105 A106 A107 v108 (v109 - (50 : Int32))) fun q110 =>
          Option.bind (s_L_turn q110.1) fun v111 =>
          Option.bind (rd 11 a2 (1 : Int32)) fun v112 =>
          if v112 < v111 then
            jn (x7 + (0 : Int32)) fun v114 =>
            jn (x11 + (1 : Int32)) fun v115 =>
            s_L_tells_L185 n T q110.2.2 q110.2.1 q110.1 a0 a1 a2 x4 x5 v104 v114 v115
          else
          Option.bind (rd 11 a2 (1 : Int32)) fun v116 =>
          if v116 < (-v111) then
            jn (x7 + (0 : Int32)) fun v118 =>
            jn (x11 + (1 : Int32)) fun v119 =>
            s_L_tells_L185 n T q110.2.2 q110.2.1 q110.1 a0 a1 a2 x4 x5 v104 v118 v119
          else
          jn (x7 + (1 : Int32)) fun v120 =>
          jn (x11 + (1 : Int32)) fun v121 =>
          s_L_tells_L185 n T q110.2.2 q110.2.1 q110.1 a0 a1 a2 x4 x5 v104 v120 v121
        else
        jn (x11 + (1 : Int32)) fun v103 =>
        s_L_tells_L185 n T a5 a4 a3 a0 a1 a2 x4 x5 x6 x7 v103) fun k101 =>
      if v95 = (0 : Int32) then
        Option.bind (s_X4_possible T x6) fun v123 =>
        if v123 = v92 then
          k101 ()
        else
        some ((0 : Int32), T)
      else
      k101 ()
    else
    some ((0 : Int32), T)
def s_L_tells_I31 : Nat → (Nat → Mm) → (Nat → Int32) → (Nat → Int32) → (Nat → Int32) → Int32 → Int32 → Int32 → Int32 → Int32 → Int32 → Option (Int32)
  | 0, _, _, _, _, _, _, _, _, _, _ => none
  | n + 1, T, a0, a1, a2, x4, x5, x6, x7, x8, x9 =>
    if x7 ≤ x9 then
      some x8
    else
    Option.bind (rd 60 a0 (((4 : Int32) * x6) + x9)) fun v127 =>
    jn (x8 + v127) fun v128 =>
    jn (x9 + (1 : Int32)) fun v129 =>
    s_L_tells_I31 n T a0 a1 a2 x4 x5 x6 x7 v128 v129
def s_L_tells_L9 : Nat → (Nat → Mm) → (Nat → Int32) → (Nat → Int32) → (Nat → Int32) → Int32 → Int32 → Int32 → Option (Int32 × (Nat → Mm))
  | 0, _, _, _, _, _, _, _ => none
  | n + 1, T, a0, a1, a2, x4, x5, x6 =>
    if (12 : Int32) ≤ x6 then
      s_L_tells_L185 1000 T zr zr zr a0 a1 a2 x4 x5 (0 : Int32) (0 : Int32) (0 : Int32)
    else
    Option.bind (rd 60 a0 ((48 : Int32) + x6)) fun v125 =>
    Option.bind (s_L_tells_I31 1000 T a0 a1 a2 x4 x5 x6 v125 (0 : Int32) (0 : Int32)) fun q130 =>
    Option.bind (s_L_place x6) fun v131 =>
    Option.bind (s_X4_at T v131 (0 : Int32)) fun v132 =>
    if v132 = v125 then
      Option.bind (s_X4_at T v131 (1 : Int32)) fun v134 =>
      if v134 = q130 then
        Option.bind (s_X4_at T v131 (2 : Int32)) fun v136 =>
        jn (fun (v142 : Int32) =>
          if v136 = v142 then
            Option.bind (s_X4_at T v131 (3 : Int32)) fun v144 =>
            if v144 = (q130 * v131) then
              jn (x4 + v125) fun v146 =>
              jn (x5 + q130) fun v147 =>
              jn (x6 + (1 : Int32)) fun v148 =>
              s_L_tells_L9 n T a0 a1 a2 v146 v147 v148
            else
            some ((0 : Int32), T)
          else
          some ((0 : Int32), T)) fun k141 =>
        if v125 = (0 : Int32) then
          k141 (-10005 : Int32)
        else
        Option.bind (rd 60 a0 ((((4 : Int32) * x6) + v125) - (1 : Int32))) fun v150 =>
        k141 v150
      else
      some ((0 : Int32), T)
    else
    some ((0 : Int32), T)
def s_L_tells (T : Nat → Mm) (a0 : Nat → Int32) (a1 : Nat → Int32) (a2 : Nat → Int32) : Option (Int32 × (Nat → Mm)) :=
  s_L_tells_L9 1000 T a0 a1 a2 (0 : Int32) (0 : Int32) (0 : Int32)
def s_L_looks (T : Nat → Mm) (a0 : Nat → Int32) (a1 : Nat → Int32) (a2 : Nat → Int32) (x4 : Int32) : Option (Int32 × (Nat → Mm)) :=
  Option.bind (s_L_one a0 a1 a2 zr) fun q1 =>
  jn q1.1 fun v2 =>
  Option.bind (s_X4_look T (1 : Int32)) fun q3 =>
  if q3.1 = v2 then
    Option.bind (s_X4_best q3.2 (1 : Int32)) fun q5 =>
    Option.bind (rd 1 q1.2 (0 : Int32)) fun v6 =>
    if q5.1 = v6 then
      if x4 = (0 : Int32) then
        some ((1 : Int32), q5.2)
      else
      Option.bind (s_L_two a0 a1 a2 q1.2) fun q9 =>
      jn q9.1 fun v10 =>
      Option.bind (s_X4_look q5.2 (2 : Int32)) fun q11 =>
      if q11.1 = v10 then
        Option.bind (s_X4_best q11.2 (2 : Int32)) fun q13 =>
        Option.bind (rd 1 q9.2 (0 : Int32)) fun v14 =>
        if q13.1 = v14 then
          some ((1 : Int32), q13.2)
        else
        some ((0 : Int32), q13.2)
      else
      some ((0 : Int32), q11.2)
    else
    some ((0 : Int32), q5.2)
  else
  some ((0 : Int32), q3.2)
def s_L_law_I831 (xs : Nat → Int32) (LL : Nat) : Nat → (Nat → Mm) → (Nat → Int32) → (Nat → Int32) → (Nat → Int32) → (Nat → Int32) → (Nat → Int32) → (Nat → Int32) → (Nat → Int32) → Int32 → Int32 → Int32 → Option (Int32 × (Nat → Int32))
  | 0, _, _, _, _, _, _, _, _, _, _, _ => none
  | n + 1, T, a6, a5, a4, a3, a2, a1, a0, x9, x14, x15 =>
    if (60 : Int32) ≤ x15 then
      some (x14, a0)
    else
    jn (fun (v13 : Int32) =>
      jn (x14 + v13) fun v14 =>
      Option.bind (wr1 60 a0 x15 (0 : Int32)) fun A15 =>
      jn (x15 + (1 : Int32)) fun v16 =>
      s_L_law_I831 xs LL n T a6 a5 a4 a3 a2 a1 A15 x9 v14 v16) fun k12 =>
    if (48 : Int32) ≤ x15 then
      Option.bind (rd 60 a0 x15) fun v18 =>
      k12 v18
    else
    k12 (0 : Int32)
def s_L_law_I872 (xs : Nat → Int32) (LL : Nat) : Nat → (Nat → Mm) → (Nat → Int32) → (Nat → Int32) → (Nat → Int32) → (Nat → Int32) → (Nat → Int32) → (Nat → Int32) → (Nat → Int32) → Int32 → Int32 → Int32 → Option ((Nat → Int32))
  | 0, _, _, _, _, _, _, _, _, _, _, _ => none
  | n + 1, T, a6, a5, a4, a3, a2, a1, a0, x9, x14, x15 =>
    if (11 : Int32) ≤ x15 then
      some a2
    else
    jn (fun (v23 : Int32) =>
      Option.bind (wr1 11 a2 x15 v23) fun A24 =>
      jn (x15 + (1 : Int32)) fun v25 =>
      s_L_law_I872 xs LL n T a6 a5 a4 a3 A24 a1 a0 x9 x14 v25) fun k22 =>
    if x15 = (9 : Int32) then
      k22 (1 : Int32)
    else
    k22 (0 : Int32)
def s_L_law_I921 (xs : Nat → Int32) (LL : Nat) : Nat → (Nat → Mm) → (Nat → Int32) → (Nat → Int32) → (Nat → Int32) → (Nat → Int32) → (Nat → Int32) → (Nat → Int32) → (Nat → Int32) → Int32 → Int32 → Int32 → Option (Int32)
  | 0, _, _, _, _, _, _, _, _, _, _, _ => none
  | n + 1, T, a6, a5, a4, a3, a2, a1, a0, x9, x13, x14 =>
    if (41 : Int32) ≤ x14 then
      some x13
    else
    if x13 = (0 : Int32) then
      some x13
    else
    Option.bind (rd 11 a2 (5 : Int32)) fun v636 =>
    Option.bind (rmi ((v636 + (79 : Int32)) - x14) (40 : Int32)) fun v637 =>
    Option.bind (rd 11 a2 (5 : Int32)) fun v638 =>
    jn (fun (v640 : Int32) =>
      Option.bind (s_X4_made T x14 (0 : Int32)) fun v641 =>
      jn (fun (v644 : Int32) =>
        jn (fun (v660 : Int32) =>
          Option.bind (dvi x14 (3 : Int32)) fun v661 =>
          jn (x14 + ((1 : Int32) + v661)) fun v662 =>
          s_L_law_I921 xs LL n T a6 a5 a4 a3 a2 a1 a0 x9 v660 v662) fun k659 =>
        jn (fun (_ : Unit) =>
          k659 (0 : Int32)) fun k701 =>
        if v641 = v644 then
          Option.bind (s_X4_made T x14 (1 : Int32)) fun v703 =>
          jn (fun (v706 : Int32) =>
            if v703 = v706 then
              Option.bind (s_X4_made T x14 (2 : Int32)) fun v708 =>
              jn (fun (v711 : Int32) =>
                if v708 = v711 then
                  Option.bind (s_X4_made T x14 (3 : Int32)) fun v713 =>
                  jn (fun (v716 : Int32) =>
                    if v713 = v716 then
                      k659 (1 : Int32)
                    else
                    k701 ()) fun k715 =>
                  if v640 = (0 : Int32) then
                    Option.bind (rd 40 a6 v637) fun v719 =>
                    k715 v719
                  else
                  k715 (-10005 : Int32)
                else
                k701 ()) fun k710 =>
              if v640 = (0 : Int32) then
                Option.bind (rd 40 a5 v637) fun v721 =>
                k710 v721
              else
              k710 (-10005 : Int32)
            else
            k701 ()) fun k705 =>
          if v640 = (0 : Int32) then
            Option.bind (rd 40 a4 v637) fun v723 =>
            k705 v723
          else
          k705 (-10005 : Int32)
        else
        k701 ()) fun k643 =>
      if v640 = (0 : Int32) then
        Option.bind (rd 40 a3 v637) fun v725 =>
        k643 v725
      else
      k643 (-10005 : Int32)) fun k639 =>
    jn (fun (_ : Unit) =>
      k639 (1 : Int32)) fun k894 =>
    if v638 ≤ x14 then
      k894 ()
    else
    if x14 = (40 : Int32) then
      k894 ()
    else
    k639 (0 : Int32)
def s_L_law_L89 (xs : Nat → Int32) (LL : Nat) : Nat → (Nat → Mm) → (Nat → Int32) → (Nat → Int32) → (Nat → Int32) → (Nat → Int32) → (Nat → Int32) → (Nat → Int32) → (Nat → Int32) → Int32 → Option (Int32)
  | 0, _, _, _, _, _, _, _, _, _ => none
  | n + 1, T, a6, a5, a4, a3, a2, a1, a0, x9 =>
    if (46 : Int32) ≤ x9 then
      some (1 : Int32)
    else
    Option.bind (s_L_cell xs LL x9) fun v6 =>
    Option.bind (s_L_low v6 (16 : Int32)) fun v7 =>
    Option.bind (s_L_low (v6 >>> ((4 : Int32) &&& 31)) (12 : Int32)) fun v8 =>
    Option.bind (s_L_place v8) fun v9 =>
    jn (fun (v625 : Int32) (T626 : Nat → Mm) (A627 : Nat → Int32) (A628 : Nat → Int32) (A629 : Nat → Int32) (A630 : Nat → Int32) (A631 : Nat → Int32) (A632 : Nat → Int32) (A633 : Nat → Int32) =>
      Option.bind (s_L_law_I921 xs LL 1000 T626 A627 A628 A629 A630 A631 A632 A633 x9 v625 (0 : Int32)) fun q897 =>
      if q897 = (0 : Int32) then
        some (0 : Int32)
      else
      Option.bind (s_L_tells T626 A633 A632 A631) fun q899 =>
      if q899.1 = (0 : Int32) then
        some (0 : Int32)
      else
      Option.bind (rmi x9 (4 : Int32)) fun v901 =>
      if v901 = (3 : Int32) then
        Option.bind (rmi x9 (16 : Int32)) fun v904 =>
        jn (fun (v906 : Int32) =>
          Option.bind (s_L_looks q899.2 A633 A632 A631 v906) fun q907 =>
          if q907.1 = (0 : Int32) then
            some (0 : Int32)
          else
          jn (x9 + (1 : Int32)) fun v909 =>
          s_L_law_L89 xs LL n q907.2 A627 A628 A629 A630 A631 A632 A633 v909) fun k905 =>
        if v904 = (15 : Int32) then
          k905 (1 : Int32)
        else
        k905 (0 : Int32)
      else
      jn (x9 + (1 : Int32)) fun v903 =>
      s_L_law_L89 xs LL n q899.2 A627 A628 A629 A630 A631 A632 A633 v903) fun k624 =>
    if (9 : Int32) ≤ v7 then
      if (11 : Int32) ≤ v7 then
        if (13 : Int32) ≤ v7 then
          if (15 : Int32) ≤ v7 then
            Option.bind (s_L_law_I831 xs LL 1000 T a6 a5 a4 a3 a2 a1 a0 x9 (0 : Int32) (0 : Int32)) fun q915 =>
            Option.bind (s_L_law_I872 xs LL 1000 T a6 a5 a4 a3 a2 a1 q915.2 x9 q915.1 (4 : Int32)) fun q916 =>
            Option.bind (s_X4_begin T) fun q917 =>
            jn (fun (v919 : Int32) =>
              k624 v919 q917.2 a6 a5 a4 a3 q916 a1 q915.2) fun k918 =>
            if q917.1 = q915.1 then
              k918 (1 : Int32)
            else
            k918 (0 : Int32)
          else
          Option.bind (s_L_low (v6 >>> ((4 : Int32) &&& 31)) (4 : Int32)) fun v921 =>
          jn (fun (v933 : Int32) =>
            Option.bind (rd 11 a2 v921) fun v934 =>
            Option.bind (wr1 11 a2 v921 v933) fun A935 =>
            Option.bind (s_X4_set T v921 v933) fun q936 =>
            jn (fun (v938 : Int32) =>
              jn (fun (v940 : Int32) =>
                k624 v940 q936.2 a6 a5 a4 a3 A935 a1 a0) fun k939 =>
              if q936.1 = v938 then
                k939 (1 : Int32)
              else
              k939 (0 : Int32)) fun k937 =>
            if v934 = v933 then
              k937 (-10005 : Int32)
            else
            k937 v934) fun k932 =>
          if v921 = (0 : Int32) then
            Option.bind (s_L_low (v6 >>> ((6 : Int32) &&& 31)) (4 : Int32)) fun v951 =>
            k932 ((1 : Int32) + v951)
          else
          if v921 = (1 : Int32) then
            Option.bind (s_L_low (v6 >>> ((20 : Int32) &&& 31)) (2 : Int32)) fun v946 =>
            jn (fun (v948 : Int32) =>
              Option.bind (s_L_low (v6 >>> ((6 : Int32) &&& 31)) v948) fun v949 =>
              k932 v949) fun k947 =>
            if v946 = (0 : Int32) then
              k947 (41 : Int32)
            else
            k947 (20 : Int32)
          else
          Option.bind (s_L_low (v6 >>> ((6 : Int32) &&& 31)) (2 : Int32)) fun v945 =>
          k932 v945
        else
        Option.bind (s_L_low (v6 >>> ((4 : Int32) &&& 31)) (2 : Int32)) fun v952 =>
        Option.bind (s_L_low (v6 >>> ((5 : Int32) &&& 31)) (5 : Int32)) fun v953 =>
        Option.bind (s_L_low (v6 >>> ((20 : Int32) &&& 31)) (3 : Int32)) fun v954 =>
        jn (fun (v956 : Int32) =>
          Option.bind (s_L_low (v6 >>> ((8 : Int32) &&& 31)) v956) fun v957 =>
          Option.bind (rd 10 a1 (((5 : Int32) * v952) + v953)) fun v958 =>
          Option.bind (wr1 10 a1 (((5 : Int32) * v952) + v953) v957) fun A959 =>
          Option.bind (s_X4_setBag T v952 (v953 + (1 : Int32)) v957) fun q960 =>
          jn (fun (v962 : Int32) =>
            jn (fun (v964 : Int32) =>
              k624 v964 q960.2 a6 a5 a4 a3 a2 A959 a0) fun k963 =>
            if q960.1 = v962 then
              k963 (1 : Int32)
            else
            k963 (0 : Int32)) fun k961 =>
          if v958 = v957 then
            k961 (-10005 : Int32)
          else
          k961 v958) fun k955 =>
        if v954 = (0 : Int32) then
          k955 (7 : Int32)
        else
        k955 (2 : Int32)
      else
      Option.bind (s_L_low (v6 >>> ((8 : Int32) &&& 31)) (5 : Int32)) fun v968 =>
      jn ((1 : Int32) + v968) fun v969 =>
      Option.bind (s_L_index v9) fun v970 =>
      Option.bind (rd 60 a0 ((48 : Int32) + v970)) fun v971 =>
      Option.bind (rd 11 a2 (0 : Int32)) fun v972 =>
      jn (fun (v974 : Int32) =>
        jn (fun (A981 : Nat → Int32) (A982 : Nat → Int32) =>
          Option.bind (s_X4_setUp T v969 v9) fun q983 =>
          jn (fun (v986 : Int32) =>
            jn (fun (v988 : Int32) =>
              k624 v988 q983.2 a6 a5 a4 a3 A981 a1 A982) fun k987 =>
            if q983.1 = v986 then
              k987 (1 : Int32)
            else
            k987 (0 : Int32)) fun k985 =>
          if v974 = (0 : Int32) then
            Option.bind (s_L_turn A982) fun v991 =>
            k985 v991
          else
          k985 (-10003 : Int32)) fun k980 =>
        if v974 = (0 : Int32) then
          Option.bind (s_L_put a0 v9 v969) fun A993 =>
          Option.bind (rd 11 a2 (7 : Int32)) fun v994 =>
          Option.bind (wr1 11 a2 (7 : Int32) (v994 + (v969 * v9))) fun A995 =>
          k980 A995 A993
        else
        k980 a2 a0) fun k973 =>
      if v971 < v972 then
        k973 (0 : Int32)
      else
      k973 (1 : Int32)
    else
    jn (fun (v1004 : Int32) =>
      Option.bind (s_X4_count T (8 : Int32)) fun v1005 =>
      jn (fun (v1018 : Int32) =>
        Option.bind (dvi v1018 (100 : Int32)) fun v1019 =>
        Option.bind (rmi v1018 (100 : Int32)) fun v1020 =>
        jn (v1020 - (50 : Int32)) fun v1021 =>
        Option.bind (s_L_why a0 a1 a2 v1019 v1021) fun v1022 =>
        Option.bind (s_L_turn a0) fun v1023 =>
        Option.bind (rd 11 a2 (4 : Int32)) fun v1024 =>
        jn (fun (A1052 : Nat → Int32) (A1053 : Nat → Int32) (A1054 : Nat → Int32) (A1055 : Nat → Int32) (A1056 : Nat → Int32) (A1057 : Nat → Int32) (A1058 : Nat → Int32) =>
          jn (fun (v1066 : Int32) (T1067 : Nat → Mm) =>
            jn (fun (v1071 : Int32) =>
              jn (fun (v1073 : Int32) =>
                k624 v1073 T1067 A1052 A1053 A1054 A1055 A1056 A1057 A1058) fun k1072 =>
              if v1066 = v1071 then
                k1072 (1 : Int32)
              else
              k1072 (0 : Int32)) fun k1070 =>
            if v1022 ≤ (0 : Int32) then
              Option.bind (s_L_turn A1058) fun v1076 =>
              k1070 v1076
            else
            k1070 ((-10010 : Int32) - v1022)) fun k1065 =>
          if (6 : Int32) ≤ v1019 then
            jn (fun (v1079 : Int32) =>
              Option.bind (s_X4_push T v1021 v1079) fun q1080 =>
              k1065 q1080.1 q1080.2) fun k1078 =>
            if v1019 = (6 : Int32) then
              k1078 (1 : Int32)
            else
            k1078 (0 : Int32)
          else
          Option.bind (s_X4_lay T v1019 v1021) fun q1082 =>
          k1065 q1082.1 q1082.2) fun k1051 =>
        if v1022 = (0 : Int32) then
          Option.bind (s_L_move a0 a1 a2 v1019 v1021) fun q1084 =>
          Option.bind (s_L_turn q1084.1) fun v1085 =>
          Option.bind (rd 11 q1084.2.2 (5 : Int32)) fun v1086 =>
          Option.bind (rmi v1086 (40 : Int32)) fun v1087 =>
          Option.bind (wr1 40 a3 v1087 v1024) fun A1088 =>
          Option.bind (wr1 40 a4 v1087 v1019) fun A1089 =>
          Option.bind (wr1 40 a5 v1087 v1021) fun A1090 =>
          Option.bind (wr1 40 a6 v1087 (v1085 - v1023)) fun A1091 =>
          Option.bind (rd 11 q1084.2.2 (5 : Int32)) fun v1092 =>
          Option.bind (wr1 11 q1084.2.2 (5 : Int32) (v1092 + (1 : Int32))) fun A1093 =>
          Option.bind (rd 11 A1093 (6 : Int32)) fun v1094 =>
          Option.bind (wr1 11 A1093 (6 : Int32) (v1094 + (v1085 - v1023))) fun A1095 =>
          Option.bind (rd 11 A1095 (8 : Int32)) fun v1096 =>
          jn (fun (v1102 : Int32) =>
            Option.bind (wr1 11 A1095 (8 : Int32) v1102) fun A1103 =>
            k1051 A1091 A1090 A1089 A1088 A1103 q1084.2.1 q1084.1) fun k1101 =>
          if v1085 ≤ v1096 then
            Option.bind (rd 11 A1095 (8 : Int32)) fun v1105 =>
            if (-v1085) ≤ v1105 then
              Option.bind (rd 11 A1095 (8 : Int32)) fun v1107 =>
              k1101 v1107
            else
            k1101 (-v1085)
          else
          k1101 v1085
        else
        k1051 a6 a5 a4 a3 a2 a1 a0) fun k1017 =>
      jn (fun (_ : Unit) =>
        k1017 ((((100 : Int32) * v1004) + v9) + (50 : Int32))) fun k1769 =>
      if v1005 ≤ (0 : Int32) then
        k1769 ()
      else
      Option.bind (s_L_low (v6 >>> ((20 : Int32) &&& 31)) (4 : Int32)) fun v1771 =>
      if v1771 ≤ (0 : Int32) then
        k1769 ()
      else
      Option.bind (s_L_low (v6 >>> ((8 : Int32) &&& 31)) v1005) fun v1773 =>
      Option.bind (s_X4_possible T v1773) fun v1774 =>
      k1017 v1774) fun k1003 =>
    if (6 : Int32) ≤ v7 then
      Option.bind (s_L_low (v6 >>> ((8 : Int32) &&& 31)) (2 : Int32)) fun v1776 =>
      k1003 ((6 : Int32) + v1776)
    else
    Option.bind (s_L_low (v6 >>> ((8 : Int32) &&& 31)) (5 : Int32)) fun v1777 =>
    k1003 ((1 : Int32) + v1777)
def s_L_law_L68 (xs : Nat → Int32) (LL : Nat) : Nat → (Nat → Mm) → (Nat → Int32) → (Nat → Int32) → (Nat → Int32) → (Nat → Int32) → (Nat → Int32) → (Nat → Int32) → (Nat → Int32) → Int32 → Option (Int32)
  | 0, _, _, _, _, _, _, _, _, _ => none
  | n + 1, T, a6, a5, a4, a3, a2, a1, a0, x9 =>
    if (10 : Int32) ≤ x9 then
      s_L_law_L89 xs LL 50 T a6 a5 a4 a3 a2 a1 a0 (0 : Int32)
    else
    Option.bind (wr1 10 a1 x9 (2 : Int32)) fun A1778 =>
    jn (x9 + (1 : Int32)) fun v1779 =>
    s_L_law_L68 xs LL n T a6 a5 a4 a3 a2 A1778 a0 v1779
def s_L_law (xs : Nat → Int32) (LL : Nat) (T : Nat → Mm) : Option (Int32) :=
  Option.bind (wr1 11 zr (0 : Int32) (2 : Int32)) fun A1 =>
  Option.bind (wr1 11 A1 (1 : Int32) (8 : Int32)) fun A2 =>
  Option.bind (wr1 11 A2 (9 : Int32) (1 : Int32)) fun A3 =>
  s_L_law_L68 xs LL 50 T zr zr zr zr A3 zr zr (0 : Int32)
