/-! the law's own methods, as functions -/
def s_L_low (x0 x1 : Int32) : Option (Int32) :=
  Option.bind (rmi (x0 &&& (2147483647 : Int32)) x1) fun v1 =>
  some v1
def s_L_place (x0 : Int32) : Option (Int32) :=
  if (6 : Int32) ≤ x0 then
    some (x0 - (5 : Int32))
  else
  some (x0 - (6 : Int32))
def s_L_index (x0 : Int32) : Option (Int32) :=
  if (0 : Int32) ≤ x0 then
    some (x0 + (5 : Int32))
  else
  some (x0 + (6 : Int32))
def s_L_goal (x0 x1 : Int32) : Option (Int32) :=
  if (6 : Int32) ≤ x0 then
    jn (fun (v4 : Int32) =>
      jn (fun (v6 : Int32) =>
        if x0 = (6 : Int32) then
          if v4 = (1 : Int32) then
            some (-x1)
          else
          some (v6 * (v4 - (1 : Int32)))
        else
        if v4 = (6 : Int32) then
          some (0 : Int32)
        else
        some (v6 * (v4 + (1 : Int32)))) fun k5 =>
      if (0 : Int32) ≤ x1 then
        k5 (1 : Int32)
      else
      k5 (-1 : Int32)) fun k3 =>
    if (0 : Int32) ≤ x1 then
      k3 x1
    else
    k3 (-x1)
  else
  some x1
def s_L_order (x0 : Int32) : Option (Int32) :=
  if (60 : Int32) ≤ x0 then
    Option.bind (rmi x0 (2 : Int32)) fun v2 =>
    Option.bind (dvi (x0 - (60 : Int32)) (2 : Int32)) fun v3 =>
    Option.bind (s_L_place v3) fun v4 =>
    some ((((100 : Int32) * ((6 : Int32) + v2)) + v4) + (50 : Int32))
  else
  Option.bind (dvi x0 (12 : Int32)) fun v5 =>
  Option.bind (rmi x0 (12 : Int32)) fun v6 =>
  Option.bind (s_L_place v6) fun v7 =>
  some ((((100 : Int32) * (v5 + (1 : Int32))) + v7) + (50 : Int32))
def s_L_turn_L4 : Nat → (Nat → Int32) → Int32 → Int32 → Option (Int32)
  | 0, _, _, _ => none
  | n + 1, a0, x1, x2 =>
    if (48 : Int32) ≤ x2 then
      some x1
    else
    Option.bind (rmi x2 (4 : Int32)) fun v2 =>
    Option.bind (dvi x2 (4 : Int32)) fun v3 =>
    Option.bind (rd 60 a0 ((48 : Int32) + v3)) fun v4 =>
    if v4 ≤ v2 then
      jn (x1 + (0 : Int32)) fun v6 =>
      jn (x2 + (1 : Int32)) fun v7 =>
      s_L_turn_L4 n a0 v6 v7
    else
    Option.bind (rd 60 a0 x2) fun v8 =>
    Option.bind (dvi x2 (4 : Int32)) fun v9 =>
    Option.bind (s_L_place v9) fun v10 =>
    jn (x1 + (v8 * v10)) fun v11 =>
    jn (x2 + (1 : Int32)) fun v12 =>
    s_L_turn_L4 n a0 v11 v12
def s_L_turn (a0 : Nat → Int32) : Option (Int32) :=
  s_L_turn_L4 1000 a0 (0 : Int32) (0 : Int32)
def s_L_all_L4 : Nat → (Nat → Int32) → Int32 → Int32 → Int32 → Option (Int32)
  | 0, _, _, _, _ => none
  | n + 1, a0, x1, x2, x3 =>
    if (5 : Int32) ≤ x3 then
      some x2
    else
    Option.bind (rd 10 a0 (((5 : Int32) * x1) + x3)) fun v2 =>
    jn (x2 + v2) fun v3 =>
    jn (x3 + (1 : Int32)) fun v4 =>
    s_L_all_L4 n a0 x1 v3 v4
def s_L_all (a0 : Nat → Int32) (x1 : Int32) : Option (Int32) :=
  s_L_all_L4 1000 a0 x1 (0 : Int32) (0 : Int32)
def s_L_result (a0 : Nat → Int32) (a1 : Nat → Int32) (a2 : Nat → Int32) : Option (Int32) :=
  Option.bind (s_L_turn a0) fun v1 =>
  Option.bind (rd 11 a2 (1 : Int32)) fun v2 =>
  jn (fun (_ : Unit) =>
    Option.bind (rd 11 a2 (3 : Int32)) fun v9 =>
    if v9 = (1 : Int32) then
      Option.bind (rd 11 a2 (9 : Int32)) fun v12 =>
      some (v12 + (1 : Int32))
    else
    Option.bind (rd 11 a2 (9 : Int32)) fun v11 =>
    some ((2 : Int32) - v11)) fun k8 =>
  if v2 < v1 then
    k8 ()
  else
  Option.bind (rd 11 a2 (1 : Int32)) fun v14 =>
  if (-v1) ≤ v14 then
    Option.bind (s_L_all a1 (0 : Int32)) fun v16 =>
    Option.bind (s_L_all a1 (1 : Int32)) fun v17 =>
    if (v16 + v17) ≤ (0 : Int32) then
      some (3 : Int32)
    else
    some (0 : Int32)
  else
  k8 ()
def s_L_why (a0 : Nat → Int32) (a1 : Nat → Int32) (a2 : Nat → Int32) (x3 x4 : Int32) : Option (Int32) :=
  Option.bind (s_L_result a0 a1 a2) fun v1 =>
  if v1 ≤ (0 : Int32) then
    jn (fun (_ : Unit) =>
      jn (fun (_ : Unit) =>
        Option.bind (s_L_goal x3 x4) fun v15 =>
        if v15 = (0 : Int32) then
          some (4 : Int32)
        else
        Option.bind (s_L_index v15) fun v17 =>
        Option.bind (rd 60 a0 ((48 : Int32) + v17)) fun v18 =>
        Option.bind (rd 11 a2 (0 : Int32)) fun v19 =>
        if v19 ≤ v18 then
          some (4 : Int32)
        else
        some (0 : Int32)) fun k14 =>
      if x3 ≤ (5 : Int32) then
        k14 ()
      else
      Option.bind (s_L_index x4) fun v22 =>
      Option.bind (rd 60 a0 ((48 : Int32) + v22)) fun v23 =>
      if v23 = (0 : Int32) then
        some (3 : Int32)
      else
      Option.bind (rd 11 a2 (10 : Int32)) fun v25 =>
      if v25 = x4 then
        some (3 : Int32)
      else
      k14 ()) fun k9 =>
    if x3 ≤ (5 : Int32) then
      Option.bind (rd 11 a2 (4 : Int32)) fun v28 =>
      Option.bind (rd 10 a1 ((((5 : Int32) * v28) + x3) - (1 : Int32))) fun v29 =>
      if v29 = (0 : Int32) then
        some (2 : Int32)
      else
      k9 ()
    else
    Option.bind (rd 11 a2 (2 : Int32)) fun v31 =>
    if v31 = (0 : Int32) then
      some (2 : Int32)
    else
    k9 ()
  else
  some (1 : Int32)
def s_L_put (a0 : Nat → Int32) (x1 x2 : Int32) : Option ((Nat → Int32)) :=
  Option.bind (s_L_index x1) fun v1 =>
  Option.bind (rd 60 a0 ((48 : Int32) + v1)) fun v2 =>
  Option.bind (wr1 60 a0 (((4 : Int32) * v1) + v2) x2) fun A3 =>
  Option.bind (rd 60 A3 ((48 : Int32) + v1)) fun v4 =>
  Option.bind (wr1 60 A3 ((48 : Int32) + v1) (v4 + (1 : Int32))) fun A5 =>
  some A5
def s_L_move (a0 : Nat → Int32) (a1 : Nat → Int32) (a2 : Nat → Int32) (x3 x4 : Int32) : Option ((Nat → Int32) × (Nat → Int32) × (Nat → Int32)) :=
  Option.bind (s_L_goal x3 x4) fun v1 =>
  jn (fun (v20 : Int32) (A21 : Nat → Int32) (A22 : Nat → Int32) =>
    Option.bind (s_L_put A21 v1 v20) fun A23 =>
    jn (fun (v25 : Int32) =>
      Option.bind (wr1 11 a2 (10 : Int32) v25) fun A26 =>
      Option.bind (rd 11 A26 (4 : Int32)) fun v27 =>
      Option.bind (wr1 11 A26 (9 : Int32) v27) fun A28 =>
      Option.bind (rd 11 A28 (2 : Int32)) fun v29 =>
      jn (fun (v36 : Int32) =>
        if v36 = (0 : Int32) then
          Option.bind (rd 11 A28 (4 : Int32)) fun v38 =>
          Option.bind (wr1 11 A28 (4 : Int32) ((1 : Int32) - v38)) fun A39 =>
          some (A23, A22, A39)
        else
        Option.bind (rd 11 A28 (4 : Int32)) fun v40 =>
        Option.bind (wr1 11 A28 (4 : Int32) v40) fun A41 =>
        some (A23, A22, A41)) fun k35 =>
      jn (fun (_ : Unit) =>
        k35 (0 : Int32)) fun k52 =>
      if v29 = (0 : Int32) then
        Option.bind (rd 11 A28 (4 : Int32)) fun v54 =>
        Option.bind (s_L_all A22 ((1 : Int32) - v54)) fun v55 =>
        if v55 = (0 : Int32) then
          Option.bind (rd 11 A28 (4 : Int32)) fun v57 =>
          Option.bind (s_L_all A22 v57) fun v58 =>
          if v58 ≤ (0 : Int32) then
            k52 ()
          else
          k35 (1 : Int32)
        else
        k52 ()
      else
      k52 ()) fun k24 =>
    if x3 ≤ (5 : Int32) then
      k24 (0 : Int32)
    else
    k24 v1) fun k19 =>
  if x3 ≤ (5 : Int32) then
    Option.bind (rd 11 a2 (4 : Int32)) fun v62 =>
    Option.bind (rd 10 a1 ((((5 : Int32) * v62) + x3) - (1 : Int32))) fun v63 =>
    Option.bind (wr1 10 a1 ((((5 : Int32) * v62) + x3) - (1 : Int32)) (v63 - (1 : Int32))) fun A64 =>
    k19 x3 a0 A64
  else
  Option.bind (s_L_index x4) fun v65 =>
  Option.bind (rd 60 a0 ((48 : Int32) + v65)) fun v66 =>
  Option.bind (wr1 60 a0 ((48 : Int32) + v65) (v66 - (1 : Int32))) fun A67 =>
  Option.bind (rd 60 A67 ((48 : Int32) + v65)) fun v68 =>
  Option.bind (rd 60 A67 (((4 : Int32) * v65) + v68)) fun v69 =>
  k19 v69 A67 a1
def s_L_copy_L2 (nn : Nat) : Nat → (Nat → Int32) → (Nat → Int32) → Int32 → Option ((Nat → Int32))
  | 0, _, _, _ => none
  | n + 1, a0, a1, x2 =>
    if (nI nn) ≤ x2 then
      some a1
    else
    Option.bind (rd nn a0 x2) fun v2 =>
    Option.bind (wr1 nn a1 x2 v2) fun A3 =>
    jn (x2 + (1 : Int32)) fun v4 =>
    s_L_copy_L2 nn n a0 A3 v4
def s_L_copy (nn : Nat) (a0 : Nat → Int32) (a1 : Nat → Int32) : Option ((Nat → Int32)) :=
  s_L_copy_L2 nn 1000 a0 a1 (0 : Int32)
def s_L_told (a0 : Nat → Int32) (a1 : Nat → Int32) (a2 : Nat → Int32) (x3 : Int32) : Option (Int32) :=
  Option.bind (s_L_result a0 a1 a2) fun v1 =>
  if v1 = (0 : Int32) then
    some (0 : Int32)
  else
  if v1 = (3 : Int32) then
    some (0 : Int32)
  else
  if v1 = (x3 + (1 : Int32)) then
    some (1 : Int32)
  else
  some (-1 : Int32)
def s_L_one_L57 : Nat → (Nat → Int32) → (Nat → Int32) → (Nat → Int32) → (Nat → Int32) → (Nat → Int32) → (Nat → Int32) → (Nat → Int32) → Int32 → Int32 → Int32 → Int32 → Option (Int32 × (Nat → Int32))
  | 0, _, _, _, _, _, _, _, _, _, _, _ => none
  | n + 1, a6, a5, a4, a0, a1, a2, a3, x4, x5, x6, x10 =>
    if (84 : Int32) ≤ x10 then
      if (-1 : Int32) ≤ x5 then
        some (x5, a3)
      else
      some ((0 : Int32), a3)
    else
    Option.bind (s_L_order x10) fun v7 =>
    Option.bind (dvi v7 (100 : Int32)) fun v8 =>
    Option.bind (rmi v7 (100 : Int32)) fun v9 =>
    Option.bind (s_L_why a0 a1 a2 v8 (v9 - (50 : Int32))) fun v10 =>
    if v10 = (0 : Int32) then
      Option.bind (s_L_copy 60 a0 a4) fun A13 =>
      Option.bind (s_L_copy 10 a1 a5) fun A14 =>
      Option.bind (s_L_copy 11 a2 a6) fun A15 =>
      Option.bind (dvi v7 (100 : Int32)) fun v16 =>
      Option.bind (rmi v7 (100 : Int32)) fun v17 =>
      Option.bind (s_L_move A13 A14 A15 v16 (v17 - (50 : Int32))) fun q18 =>
      Option.bind (s_L_told q18.1 q18.2.1 q18.2.2 x4) fun v19 =>
      Option.bind (s_L_turn q18.1) fun v20 =>
      jn (fun (v25 : Int32) =>
        jn (fun (v27 : Int32) =>
          jn (fun (v29 : Int32) =>
            jn (fun (v31 : Int32) =>
              if v27 = (0 : Int32) then
                Option.bind (rd 1 a3 (0 : Int32)) fun v33 =>
                Option.bind (wr1 1 a3 (0 : Int32) v33) fun A34 =>
                jn (x10 + (1 : Int32)) fun v35 =>
                s_L_one_L57 n q18.2.2 q18.2.1 q18.1 a0 a1 a2 A34 x4 v29 v31 v35
              else
              Option.bind (wr1 1 a3 (0 : Int32) v7) fun A36 =>
              jn (x10 + (1 : Int32)) fun v37 =>
              s_L_one_L57 n q18.2.2 q18.2.1 q18.1 a0 a1 a2 A36 x4 v29 v31 v37) fun k30 =>
            if v27 = (0 : Int32) then
              k30 x6
            else
            k30 v25) fun k28 =>
          if v27 = (0 : Int32) then
            k28 x5
          else
          k28 v19) fun k26 =>
        jn (fun (_ : Unit) =>
          k26 (1 : Int32)) fun k80 =>
        if x5 < v19 then
          k80 ()
        else
        jn (fun (_ : Unit) =>
          k26 (0 : Int32)) fun k102 =>
        if v19 = x5 then
          if x6 ≤ v25 then
            k102 ()
          else
          k80 ()
        else
        k102 ()) fun k24 =>
      if (0 : Int32) ≤ v20 then
        Option.bind (s_L_turn q18.1) fun v106 =>
        k24 v106
      else
      Option.bind (s_L_turn q18.1) fun v107 =>
      k24 (-v107)
    else
    jn (x10 + (1 : Int32)) fun v12 =>
    s_L_one_L57 n a6 a5 a4 a0 a1 a2 a3 x4 x5 x6 v12
def s_L_one (a0 : Nat → Int32) (a1 : Nat → Int32) (a2 : Nat → Int32) (a3 : Nat → Int32) : Option (Int32 × (Nat → Int32)) :=
  Option.bind (rd 11 a2 (4 : Int32)) fun v1 =>
  Option.bind (wr1 1 a3 (0 : Int32) (-10005 : Int32)) fun A2 =>
  Option.bind (s_L_result a0 a1 a2) fun v3 =>
  if v3 ≤ (0 : Int32) then
    s_L_one_L57 1000 zr zr zr a0 a1 a2 A2 v1 (-2 : Int32) (0 : Int32) (0 : Int32)
  else
  Option.bind (s_L_told a0 a1 a2 v1) fun v108 =>
  some (v108, A2)
def s_L_two_L62 : Nat → (Nat → Int32) → (Nat → Int32) → (Nat → Int32) → (Nat → Int32) → (Nat → Int32) → (Nat → Int32) → (Nat → Int32) → (Nat → Int32) → Int32 → Int32 → Int32 → Int32 → Option (Int32 × (Nat → Int32))
  | 0, _, _, _, _, _, _, _, _, _, _, _, _ => none
  | n + 1, a7, a6, a5, a4, a0, a1, a2, a3, x4, x5, x6, x11 =>
    if (84 : Int32) ≤ x11 then
      if (-1 : Int32) ≤ x5 then
        some (x5, a3)
      else
      some ((0 : Int32), a3)
    else
    Option.bind (s_L_order x11) fun v7 =>
    Option.bind (dvi v7 (100 : Int32)) fun v8 =>
    Option.bind (rmi v7 (100 : Int32)) fun v9 =>
    Option.bind (s_L_why a0 a1 a2 v8 (v9 - (50 : Int32))) fun v10 =>
    if v10 = (0 : Int32) then
      Option.bind (s_L_copy 60 a0 a4) fun A13 =>
      Option.bind (s_L_copy 10 a1 a5) fun A14 =>
      Option.bind (s_L_copy 11 a2 a6) fun A15 =>
      Option.bind (dvi v7 (100 : Int32)) fun v16 =>
      Option.bind (rmi v7 (100 : Int32)) fun v17 =>
      Option.bind (s_L_move A13 A14 A15 v16 (v17 - (50 : Int32))) fun q18 =>
      Option.bind (s_L_one q18.1 q18.2.1 q18.2.2 a7) fun q19 =>
      jn q19.1 fun v20 =>
      Option.bind (rd 11 q18.2.2 (4 : Int32)) fun v21 =>
      jn (fun (v24 : Int32) =>
        Option.bind (s_L_turn q18.1) fun v25 =>
        jn (fun (v30 : Int32) =>
          jn (fun (v32 : Int32) =>
            jn (fun (v34 : Int32) =>
              jn (fun (v36 : Int32) =>
                if v32 = (0 : Int32) then
                  Option.bind (rd 1 a3 (0 : Int32)) fun v38 =>
                  Option.bind (wr1 1 a3 (0 : Int32) v38) fun A39 =>
                  jn (x11 + (1 : Int32)) fun v40 =>
                  s_L_two_L62 n q19.2 q18.2.2 q18.2.1 q18.1 a0 a1 a2 A39 x4 v34 v36 v40
                else
                Option.bind (wr1 1 a3 (0 : Int32) v7) fun A41 =>
                jn (x11 + (1 : Int32)) fun v42 =>
                s_L_two_L62 n q19.2 q18.2.2 q18.2.1 q18.1 a0 a1 a2 A41 x4 v34 v36 v42) fun k35 =>
              if v32 = (0 : Int32) then
                k35 x6
              else
              k35 v30) fun k33 =>
            if v32 = (0 : Int32) then
              k33 x5
            else
            k33 v24) fun k31 =>
          jn (fun (_ : Unit) =>
            k31 (1 : Int32)) fun k85 =>
          if x5 < v24 then
            k85 ()
          else
          jn (fun (_ : Unit) =>
            k31 (0 : Int32)) fun k107 =>
          if v24 = x5 then
            if x6 ≤ v30 then
              k107 ()
            else
            k85 ()
          else
          k107 ()) fun k29 =>
        if (0 : Int32) ≤ v25 then
          Option.bind (s_L_turn q18.1) fun v111 =>
          k29 v111
        else
        Option.bind (s_L_turn q18.1) fun v112 =>
        k29 (-v112)) fun k23 =>
      if v21 = x4 then
        k23 v20
      else
      k23 (-v20)
    else
    jn (x11 + (1 : Int32)) fun v12 =>
    s_L_two_L62 n a7 a6 a5 a4 a0 a1 a2 a3 x4 x5 x6 v12
def s_L_two (a0 : Nat → Int32) (a1 : Nat → Int32) (a2 : Nat → Int32) (a3 : Nat → Int32) : Option (Int32 × (Nat → Int32)) :=
  Option.bind (rd 11 a2 (4 : Int32)) fun v1 =>
  Option.bind (wr1 1 a3 (0 : Int32) (-10005 : Int32)) fun A2 =>
  Option.bind (s_L_result a0 a1 a2) fun v3 =>
  if v3 ≤ (0 : Int32) then
    s_L_two_L62 1000 zr zr zr zr a0 a1 a2 A2 v1 (-2 : Int32) (0 : Int32) (0 : Int32)
  else
  Option.bind (s_L_told a0 a1 a2 v1) fun v114 =>
  some (v114, A2)
def s_L_tells_I592 : Nat → (Nat → Mm) → (Nat → Int32) → (Nat → Int32) → (Nat → Int32) → (Nat → Int32) → (Nat → Int32) → (Nat → Int32) → Int32 → Int32 → Int32 → Int32 → Int32 → Option (Int32)
  | 0, _, _, _, _, _, _, _, _, _, _, _, _ => none
  | n + 1, T, a5, a4, a3, a0, a1, a2, x11, x12, x13, x14, x15 =>
    if (12 : Int32) ≤ x15 then
      some x14
    else
    Option.bind (s_L_place x15) fun v16 =>
    if (x11 + (x13 * v16)) = (0 : Int32) then
      Option.bind (rd 60 a0 ((48 : Int32) + x15)) fun v19 =>
      Option.bind (rd 11 a2 (0 : Int32)) fun v20 =>
      if v20 ≤ v19 then
        jn (x15 + (1 : Int32)) fun v22 =>
        s_L_tells_I592 n T a5 a4 a3 a0 a1 a2 x11 x12 x13 x14 v22
      else
      Option.bind (s_L_place x15) fun v23 =>
      jn (x15 + (1 : Int32)) fun v24 =>
      s_L_tells_I592 n T a5 a4 a3 a0 a1 a2 x11 x12 x13 v23 v24
    else
    jn (x15 + (1 : Int32)) fun v18 =>
    s_L_tells_I592 n T a5 a4 a3 a0 a1 a2 x11 x12 x13 x14 v18
def s_L_tells_L577 : Nat → (Nat → Mm) → (Nat → Int32) → (Nat → Int32) → (Nat → Int32) → (Nat → Int32) → (Nat → Int32) → (Nat → Int32) → Int32 → Int32 → Int32 → Option (Int32 × (Nat → Mm))
  | 0, _, _, _, _, _, _, _, _, _, _ => none
  | n + 1, T, a5, a4, a3, a0, a1, a2, x11, x12, x13 =>
    if (6 : Int32) ≤ x13 then
      if x12 = (0 : Int32) then
        some ((0 : Int32), T)
      else
      Option.bind (s_X4_bag T (0 : Int32) (0 : Int32)) fun v9 =>
      Option.bind (s_L_all a1 (0 : Int32)) fun v10 =>
      if v9 = v10 then
        Option.bind (s_X4_bag T (1 : Int32) (0 : Int32)) fun v12 =>
        Option.bind (s_L_all a1 (1 : Int32)) fun v13 =>
        if v12 = v13 then
          some ((1 : Int32), T)
        else
        some ((0 : Int32), T)
      else
      some ((0 : Int32), T)
    else
    Option.bind (s_L_tells_I592 1000 T a5 a4 a3 a0 a1 a2 x11 x12 x13 (-10005 : Int32) (0 : Int32)) fun q25 =>
    if x12 = (0 : Int32) then
      jn (x13 + (1 : Int32)) fun v27 =>
      s_L_tells_L577 n T a5 a4 a3 a0 a1 a2 x11 (0 : Int32) v27
    else
    Option.bind (s_X4_levels T x13) fun v28 =>
    if v28 = q25 then
      Option.bind (s_X4_bag T (0 : Int32) x13) fun v31 =>
      Option.bind (rd 10 a1 (x13 - (1 : Int32))) fun v32 =>
      if v31 = v32 then
        Option.bind (s_X4_bag T (1 : Int32) x13) fun v35 =>
        Option.bind (rd 10 a1 ((4 : Int32) + x13)) fun v36 =>
        if v35 = v36 then
          jn (x13 + (1 : Int32)) fun v39 =>
          s_L_tells_L577 n T a5 a4 a3 a0 a1 a2 x11 (1 : Int32) v39
        else
        jn (x13 + (1 : Int32)) fun v38 =>
        s_L_tells_L577 n T a5 a4 a3 a0 a1 a2 x11 (0 : Int32) v38
      else
      jn (x13 + (1 : Int32)) fun v34 =>
      s_L_tells_L577 n T a5 a4 a3 a0 a1 a2 x11 (0 : Int32) v34
    else
    jn (x13 + (1 : Int32)) fun v30 =>
    s_L_tells_L577 n T a5 a4 a3 a0 a1 a2 x11 (0 : Int32) v30
def s_L_tells_L534 : Nat → (Nat → Mm) → (Nat → Int32) → (Nat → Int32) → (Nat → Int32) → (Nat → Int32) → (Nat → Int32) → (Nat → Int32) → Int32 → Int32 → Int32 → Option (Int32 × (Nat → Mm))
  | 0, _, _, _, _, _, _, _, _, _, _ => none
  | n + 1, T, a5, a4, a3, a0, a1, a2, x11, x12, x13 =>
    if (4 : Int32) ≤ x13 then
      s_L_tells_L577 1000 T a5 a4 a3 a0 a1 a2 x11 x12 (1 : Int32)
    else
    if x12 = (0 : Int32) then
      jn (x13 + (1 : Int32)) fun v41 =>
      s_L_tells_L534 n T a5 a4 a3 a0 a1 a2 x11 (0 : Int32) v41
    else
    Option.bind (s_X4_count T ((11 : Int32) + x13)) fun v42 =>
    Option.bind (rd 11 a2 x13) fun v43 =>
    if v42 = v43 then
      jn (x13 + (1 : Int32)) fun v46 =>
      s_L_tells_L534 n T a5 a4 a3 a0 a1 a2 x11 (1 : Int32) v46
    else
    jn (x13 + (1 : Int32)) fun v45 =>
    s_L_tells_L534 n T a5 a4 a3 a0 a1 a2 x11 (0 : Int32) v45
def s_L_tells_L185 : Nat → (Nat → Mm) → (Nat → Int32) → (Nat → Int32) → (Nat → Int32) → (Nat → Int32) → (Nat → Int32) → (Nat → Int32) → Int32 → Int32 → Int32 → Int32 → Int32 → Option (Int32 × (Nat → Mm))
  | 0, _, _, _, _, _, _, _, _, _, _, _, _ => none
  | n + 1, T, a5, a4, a3, a0, a1, a2, x4, x5, x6, x7, x11 =>
    if (84 : Int32) ≤ x11 then
      Option.bind (s_L_turn a0) fun v3 =>
      Option.bind (s_X4_possible T x6) fun v4 =>
      if v4 = (-10005 : Int32) then
        Option.bind (s_X4_count T (8 : Int32)) fun v47 =>
        if v47 = x6 then
          Option.bind (s_X4_count T (9 : Int32)) fun v49 =>
          if v49 = x7 then
            Option.bind (s_X4_count T (0 : Int32)) fun v51 =>
            Option.bind (rd 11 a2 (4 : Int32)) fun v52 =>
            if v51 = v52 then
              Option.bind (s_X4_count T (1 : Int32)) fun v54 =>
              if v54 = v3 then
                Option.bind (s_X4_count T (2 : Int32)) fun v56 =>
                Option.bind (s_L_result a0 a1 a2) fun v57 =>
                if v56 = v57 then
                  Option.bind (s_X4_count T (3 : Int32)) fun v59 =>
                  Option.bind (rd 11 a2 (5 : Int32)) fun v60 =>
                  if v59 = v60 then
                    Option.bind (s_X4_count T (4 : Int32)) fun v62 =>
                    Option.bind (rd 11 a2 (6 : Int32)) fun v63 =>
                    if v62 = v63 then
                      Option.bind (s_X4_count T (5 : Int32)) fun v65 =>
                      Option.bind (rd 11 a2 (7 : Int32)) fun v66 =>
                      if v65 = v66 then
                        Option.bind (rd 11 a2 (6 : Int32)) fun v68 =>
                        Option.bind (rd 11 a2 (7 : Int32)) fun v69 =>
                        if (v68 + v69) = v3 then
                          Option.bind (s_X4_count T (6 : Int32)) fun v71 =>
                          if v71 = x4 then
                            Option.bind (s_X4_count T (7 : Int32)) fun v73 =>
                            if v73 = x5 then
                              Option.bind (s_X4_count T (10 : Int32)) fun v75 =>
                              Option.bind (rd 11 a2 (8 : Int32)) fun v76 =>
                              if v75 = v76 then
                                Option.bind (s_X4_look T (0 : Int32)) fun q78 =>
                                Option.bind (rd 11 a2 (4 : Int32)) fun v79 =>
                                Option.bind (s_L_told a0 a1 a2 v79) fun v80 =>
                                if q78.1 = v80 then
                                  s_L_tells_L534 1000 q78.2 a5 a4 a3 a0 a1 a2 v3 (1 : Int32) (0 : Int32)
                                else
                                s_L_tells_L534 1000 q78.2 a5 a4 a3 a0 a1 a2 v3 (0 : Int32) (0 : Int32)
                              else
                              s_L_tells_L534 1000 T a5 a4 a3 a0 a1 a2 v3 (0 : Int32) (0 : Int32)
                            else
                            s_L_tells_L534 1000 T a5 a4 a3 a0 a1 a2 v3 (0 : Int32) (0 : Int32)
                          else
                          s_L_tells_L534 1000 T a5 a4 a3 a0 a1 a2 v3 (0 : Int32) (0 : Int32)
                        else
                        s_L_tells_L534 1000 T a5 a4 a3 a0 a1 a2 v3 (0 : Int32) (0 : Int32)
                      else
                      s_L_tells_L534 1000 T a5 a4 a3 a0 a1 a2 v3 (0 : Int32) (0 : Int32)
                    else
                    s_L_tells_L534 1000 T a5 a4 a3 a0 a1 a2 v3 (0 : Int32) (0 : Int32)
                  else
                  s_L_tells_L534 1000 T a5 a4 a3 a0 a1 a2 v3 (0 : Int32) (0 : Int32)
                else
                s_L_tells_L534 1000 T a5 a4 a3 a0 a1 a2 v3 (0 : Int32) (0 : Int32)
              else
              s_L_tells_L534 1000 T a5 a4 a3 a0 a1 a2 v3 (0 : Int32) (0 : Int32)
            else
            s_L_tells_L534 1000 T a5 a4 a3 a0 a1 a2 v3 (0 : Int32) (0 : Int32)
          else
          s_L_tells_L534 1000 T a5 a4 a3 a0 a1 a2 v3 (0 : Int32) (0 : Int32)
        else
        s_L_tells_L534 1000 T a5 a4 a3 a0 a1 a2 v3 (0 : Int32) (0 : Int32)
      else
      s_L_tells_L534 1000 T a5 a4 a3 a0 a1 a2 v3 (0 : Int32) (0 : Int32)
    else
    Option.bind (s_L_order x11) fun v82 =>
    Option.bind (dvi v82 (100 : Int32)) fun v83 =>
    Option.bind (rmi v82 (100 : Int32)) fun v84 =>
    Option.bind (s_L_why a0 a1 a2 v83 (v84 - (50 : Int32))) fun v85 =>
    Option.bind (dvi v82 (100 : Int32)) fun v86 =>
    Option.bind (rmi v82 (100 : Int32)) fun v87 =>
    Option.bind (s_X4_reason T v86 (v87 - (50 : Int32))) fun v88 =>
    if v88 = v85 then
      jn (fun (_ : Unit) =>
        if v85 = (0 : Int32) then
          jn (x6 + (1 : Int32)) fun v94 =>
          Option.bind (s_L_copy 60 a0 a3) fun A95 =>
          Option.bind (s_L_copy 10 a1 a4) fun A96 =>
          Option.bind (s_L_copy 11 a2 a5) fun A97 =>
          Option.bind (dvi v82 (100 : Int32)) fun v98 =>
          Option.bind (rmi v82 (100 : Int32)) fun v99 =>
          Option.bind (s_L_move A95 A96 A97 v98 (v99 - (50 : Int32))) fun q100 =>
          Option.bind (s_L_turn q100.1) fun v101 =>
          Option.bind (rd 11 a2 (1 : Int32)) fun v102 =>
          if v102 < v101 then
            jn (x7 + (0 : Int32)) fun v104 =>
            jn (x11 + (1 : Int32)) fun v105 =>
            s_L_tells_L185 n T q100.2.2 q100.2.1 q100.1 a0 a1 a2 x4 x5 v94 v104 v105
          else
          Option.bind (rd 11 a2 (1 : Int32)) fun v106 =>
          if v106 < (-v101) then
            jn (x7 + (0 : Int32)) fun v108 =>
            jn (x11 + (1 : Int32)) fun v109 =>
            s_L_tells_L185 n T q100.2.2 q100.2.1 q100.1 a0 a1 a2 x4 x5 v94 v108 v109
          else
          jn (x7 + (1 : Int32)) fun v110 =>
          jn (x11 + (1 : Int32)) fun v111 =>
          s_L_tells_L185 n T q100.2.2 q100.2.1 q100.1 a0 a1 a2 x4 x5 v94 v110 v111
        else
        jn (x11 + (1 : Int32)) fun v93 =>
        s_L_tells_L185 n T a5 a4 a3 a0 a1 a2 x4 x5 x6 x7 v93) fun k91 =>
      if v85 = (0 : Int32) then
        Option.bind (s_X4_possible T x6) fun v113 =>
        if v113 = v82 then
          k91 ()
        else
        some ((0 : Int32), T)
      else
      k91 ()
    else
    some ((0 : Int32), T)
def s_L_tells_I31 : Nat → (Nat → Mm) → (Nat → Int32) → (Nat → Int32) → (Nat → Int32) → Int32 → Int32 → Int32 → Int32 → Int32 → Int32 → Option (Int32)
  | 0, _, _, _, _, _, _, _, _, _, _ => none
  | n + 1, T, a0, a1, a2, x4, x5, x6, x7, x8, x9 =>
    if x7 ≤ x9 then
      some x8
    else
    Option.bind (rd 60 a0 (((4 : Int32) * x6) + x9)) fun v117 =>
    jn (x8 + v117) fun v118 =>
    jn (x9 + (1 : Int32)) fun v119 =>
    s_L_tells_I31 n T a0 a1 a2 x4 x5 x6 x7 v118 v119
def s_L_tells_L9 : Nat → (Nat → Mm) → (Nat → Int32) → (Nat → Int32) → (Nat → Int32) → Int32 → Int32 → Int32 → Option (Int32 × (Nat → Mm))
  | 0, _, _, _, _, _, _, _ => none
  | n + 1, T, a0, a1, a2, x4, x5, x6 =>
    if (12 : Int32) ≤ x6 then
      s_L_tells_L185 1000 T zr zr zr a0 a1 a2 x4 x5 (0 : Int32) (0 : Int32) (0 : Int32)
    else
    Option.bind (rd 60 a0 ((48 : Int32) + x6)) fun v115 =>
    Option.bind (s_L_tells_I31 1000 T a0 a1 a2 x4 x5 x6 v115 (0 : Int32) (0 : Int32)) fun q120 =>
    Option.bind (s_L_place x6) fun v121 =>
    Option.bind (s_X4_at T v121 (0 : Int32)) fun v122 =>
    if v122 = v115 then
      Option.bind (s_X4_at T v121 (1 : Int32)) fun v124 =>
      if v124 = q120 then
        Option.bind (s_X4_at T v121 (2 : Int32)) fun v126 =>
        jn (fun (v132 : Int32) =>
          if v126 = v132 then
            Option.bind (s_X4_at T v121 (3 : Int32)) fun v134 =>
            if v134 = (q120 * v121) then
              jn (x4 + v115) fun v136 =>
              jn (x5 + q120) fun v137 =>
              jn (x6 + (1 : Int32)) fun v138 =>
              s_L_tells_L9 n T a0 a1 a2 v136 v137 v138
            else
            some ((0 : Int32), T)
          else
          some ((0 : Int32), T)) fun k131 =>
        if v115 = (0 : Int32) then
          k131 (-10005 : Int32)
        else
        Option.bind (rd 60 a0 ((((4 : Int32) * x6) + v115) - (1 : Int32))) fun v140 =>
        k131 v140
      else
      some ((0 : Int32), T)
    else
    some ((0 : Int32), T)
def s_L_tells (T : Nat → Mm) (a0 : Nat → Int32) (a1 : Nat → Int32) (a2 : Nat → Int32) : Option (Int32 × (Nat → Mm)) :=
  s_L_tells_L9 1000 T a0 a1 a2 (0 : Int32) (0 : Int32) (0 : Int32)
def s_L_looks (T : Nat → Mm) (a0 : Nat → Int32) (a1 : Nat → Int32) (a2 : Nat → Int32) (x4 : Int32) : Option (Int32 × (Nat → Mm)) :=
  Option.bind (s_L_one a0 a1 a2 zr) fun q1 =>
  jn q1.1 fun v2 =>
  Option.bind (s_X4_look T (1 : Int32)) fun q3 =>
  if q3.1 = v2 then
    Option.bind (s_X4_best q3.2 (1 : Int32)) fun q5 =>
    Option.bind (rd 1 q1.2 (0 : Int32)) fun v6 =>
    if q5.1 = v6 then
      if x4 = (0 : Int32) then
        some ((1 : Int32), q5.2)
      else
      Option.bind (s_L_two a0 a1 a2 q1.2) fun q9 =>
      jn q9.1 fun v10 =>
      Option.bind (s_X4_look q5.2 (2 : Int32)) fun q11 =>
      if q11.1 = v10 then
        Option.bind (s_X4_best q11.2 (2 : Int32)) fun q13 =>
        Option.bind (rd 1 q9.2 (0 : Int32)) fun v14 =>
        if q13.1 = v14 then
          some ((1 : Int32), q13.2)
        else
        some ((0 : Int32), q13.2)
      else
      some ((0 : Int32), q11.2)
    else
    some ((0 : Int32), q5.2)
  else
  some ((0 : Int32), q3.2)
def s_L_law_I831 (xs : Nat → Int32) (LL : Nat) : Nat → (Nat → Mm) → (Nat → Int32) → (Nat → Int32) → (Nat → Int32) → (Nat → Int32) → (Nat → Int32) → (Nat → Int32) → (Nat → Int32) → Int32 → Int32 → Int32 → Option (Int32 × (Nat → Int32))
  | 0, _, _, _, _, _, _, _, _, _, _, _ => none
  | n + 1, T, a6, a5, a4, a3, a2, a1, a0, x9, x14, x15 =>
    if (60 : Int32) ≤ x15 then
      some (x14, a0)
    else
    jn (fun (v17 : Int32) =>
      jn (x14 + v17) fun v18 =>
      Option.bind (wr1 60 a0 x15 (0 : Int32)) fun A19 =>
      jn (x15 + (1 : Int32)) fun v20 =>
      s_L_law_I831 xs LL n T a6 a5 a4 a3 a2 a1 A19 x9 v18 v20) fun k16 =>
    if (48 : Int32) ≤ x15 then
      Option.bind (rd 60 a0 x15) fun v22 =>
      k16 v22
    else
    k16 (0 : Int32)
def s_L_law_I872 (xs : Nat → Int32) (LL : Nat) : Nat → (Nat → Mm) → (Nat → Int32) → (Nat → Int32) → (Nat → Int32) → (Nat → Int32) → (Nat → Int32) → (Nat → Int32) → (Nat → Int32) → Int32 → Int32 → Int32 → Option ((Nat → Int32))
  | 0, _, _, _, _, _, _, _, _, _, _, _ => none
  | n + 1, T, a6, a5, a4, a3, a2, a1, a0, x9, x14, x15 =>
    if (11 : Int32) ≤ x15 then
      some a2
    else
    if x15 = (9 : Int32) then
      Option.bind (wr1 11 a2 x15 (1 : Int32)) fun A28 =>
      jn (x15 + (1 : Int32)) fun v29 =>
      s_L_law_I872 xs LL n T a6 a5 a4 a3 A28 a1 a0 x9 x14 v29
    else
    Option.bind (wr1 11 a2 x15 (0 : Int32)) fun A26 =>
    jn (x15 + (1 : Int32)) fun v27 =>
    s_L_law_I872 xs LL n T a6 a5 a4 a3 A26 a1 a0 x9 x14 v27
def s_L_law_I921 (xs : Nat → Int32) (LL : Nat) : Nat → (Nat → Mm) → (Nat → Int32) → (Nat → Int32) → (Nat → Int32) → (Nat → Int32) → (Nat → Int32) → (Nat → Int32) → (Nat → Int32) → Int32 → Int32 → Int32 → Option (Int32)
  | 0, _, _, _, _, _, _, _, _, _, _, _ => none
  | n + 1, T, a6, a5, a4, a3, a2, a1, a0, x9, x13, x14 =>
    if (41 : Int32) ≤ x14 then
      some x13
    else
    if x13 = (0 : Int32) then
      some x13
    else
    Option.bind (rd 11 a2 (5 : Int32)) fun v35 =>
    Option.bind (rmi ((v35 + (79 : Int32)) - x14) (40 : Int32)) fun v36 =>
    Option.bind (rd 11 a2 (5 : Int32)) fun v37 =>
    jn (fun (v39 : Int32) =>
      Option.bind (s_X4_made T x14 (0 : Int32)) fun v40 =>
      jn (fun (v43 : Int32) =>
        jn (fun (v59 : Int32) =>
          Option.bind (dvi x14 (3 : Int32)) fun v60 =>
          jn (x14 + ((1 : Int32) + v60)) fun v61 =>
          s_L_law_I921 xs LL n T a6 a5 a4 a3 a2 a1 a0 x9 v59 v61) fun k58 =>
        jn (fun (_ : Unit) =>
          k58 (0 : Int32)) fun k100 =>
        if v40 = v43 then
          Option.bind (s_X4_made T x14 (1 : Int32)) fun v102 =>
          jn (fun (v105 : Int32) =>
            if v102 = v105 then
              Option.bind (s_X4_made T x14 (2 : Int32)) fun v107 =>
              jn (fun (v110 : Int32) =>
                if v107 = v110 then
                  Option.bind (s_X4_made T x14 (3 : Int32)) fun v112 =>
                  jn (fun (v115 : Int32) =>
                    if v112 = v115 then
                      k58 (1 : Int32)
                    else
                    k100 ()) fun k114 =>
                  if v39 = (0 : Int32) then
                    Option.bind (rd 40 a6 v36) fun v118 =>
                    k114 v118
                  else
                  k114 (-10005 : Int32)
                else
                k100 ()) fun k109 =>
              if v39 = (0 : Int32) then
                Option.bind (rd 40 a5 v36) fun v120 =>
                k109 v120
              else
              k109 (-10005 : Int32)
            else
            k100 ()) fun k104 =>
          if v39 = (0 : Int32) then
            Option.bind (rd 40 a4 v36) fun v122 =>
            k104 v122
          else
          k104 (-10005 : Int32)
        else
        k100 ()) fun k42 =>
      if v39 = (0 : Int32) then
        Option.bind (rd 40 a3 v36) fun v124 =>
        k42 v124
      else
      k42 (-10005 : Int32)) fun k38 =>
    jn (fun (_ : Unit) =>
      k38 (1 : Int32)) fun k293 =>
    if v37 ≤ x14 then
      k293 ()
    else
    if x14 = (40 : Int32) then
      k293 ()
    else
    k38 (0 : Int32)
def s_L_law_L89 (xs : Nat → Int32) (LL : Nat) : Nat → (Nat → Mm) → (Nat → Int32) → (Nat → Int32) → (Nat → Int32) → (Nat → Int32) → (Nat → Int32) → (Nat → Int32) → (Nat → Int32) → Int32 → Option (Int32)
  | 0, _, _, _, _, _, _, _, _, _ => none
  | n + 1, T, a6, a5, a4, a3, a2, a1, a0, x9 =>
    if (46 : Int32) ≤ x9 then
      some (1 : Int32)
    else
    Option.bind (s_L_cell xs LL x9) fun v6 =>
    Option.bind (s_L_low v6 (16 : Int32)) fun v7 =>
    Option.bind (s_L_low (v6 >>> ((4 : Int32) &&& 31)) (12 : Int32)) fun v8 =>
    Option.bind (s_L_place v8) fun v9 =>
    if (9 : Int32) ≤ v7 then
      if (11 : Int32) ≤ v7 then
        if (13 : Int32) ≤ v7 then
          if (15 : Int32) ≤ v7 then
            Option.bind (s_L_law_I831 xs LL 1000 T a6 a5 a4 a3 a2 a1 a0 x9 (0 : Int32) (0 : Int32)) fun q23 =>
            Option.bind (s_L_law_I872 xs LL 1000 T a6 a5 a4 a3 a2 a1 q23.2 x9 q23.1 (4 : Int32)) fun q30 =>
            Option.bind (s_X4_begin T) fun q31 =>
            if q31.1 = q23.1 then
              Option.bind (s_L_law_I921 xs LL 1000 q31.2 a6 a5 a4 a3 q30 a1 q23.2 x9 (1 : Int32) (0 : Int32)) fun q310 =>
              if q310 = (0 : Int32) then
                some (0 : Int32)
              else
              Option.bind (s_L_tells q31.2 q23.2 a1 q30) fun q312 =>
              if q312.1 = (0 : Int32) then
                some (0 : Int32)
              else
              Option.bind (rmi x9 (4 : Int32)) fun v314 =>
              if v314 = (3 : Int32) then
                Option.bind (rmi x9 (16 : Int32)) fun v317 =>
                jn (fun (v319 : Int32) =>
                  Option.bind (s_L_looks q312.2 q23.2 a1 q30 v319) fun q320 =>
                  if q320.1 = (0 : Int32) then
                    some (0 : Int32)
                  else
                  jn (x9 + (1 : Int32)) fun v322 =>
                  s_L_law_L89 xs LL n q320.2 a6 a5 a4 a3 q30 a1 q23.2 v322) fun k318 =>
                if v317 = (15 : Int32) then
                  k318 (1 : Int32)
                else
                k318 (0 : Int32)
              else
              jn (x9 + (1 : Int32)) fun v316 =>
              s_L_law_L89 xs LL n q312.2 a6 a5 a4 a3 q30 a1 q23.2 v316
            else
            Option.bind (s_L_law_I921 xs LL 1000 q31.2 a6 a5 a4 a3 q30 a1 q23.2 x9 (0 : Int32) (0 : Int32)) fun q296 =>
            if q296 = (0 : Int32) then
              some (0 : Int32)
            else
            Option.bind (s_L_tells q31.2 q23.2 a1 q30) fun q298 =>
            if q298.1 = (0 : Int32) then
              some (0 : Int32)
            else
            Option.bind (rmi x9 (4 : Int32)) fun v300 =>
            if v300 = (3 : Int32) then
              Option.bind (rmi x9 (16 : Int32)) fun v303 =>
              jn (fun (v305 : Int32) =>
                Option.bind (s_L_looks q298.2 q23.2 a1 q30 v305) fun q306 =>
                if q306.1 = (0 : Int32) then
                  some (0 : Int32)
                else
                jn (x9 + (1 : Int32)) fun v308 =>
                s_L_law_L89 xs LL n q306.2 a6 a5 a4 a3 q30 a1 q23.2 v308) fun k304 =>
              if v303 = (15 : Int32) then
                k304 (1 : Int32)
              else
              k304 (0 : Int32)
            else
            jn (x9 + (1 : Int32)) fun v302 =>
            s_L_law_L89 xs LL n q298.2 a6 a5 a4 a3 q30 a1 q23.2 v302
          else
          Option.bind (s_L_low (v6 >>> ((4 : Int32) &&& 31)) (4 : Int32)) fun v324 =>
          jn (fun (v336 : Int32) =>
            Option.bind (rd 11 a2 v324) fun v337 =>
            Option.bind (wr1 11 a2 v324 v336) fun A338 =>
            Option.bind (s_X4_set T v324 v336) fun q339 =>
            jn (fun (v341 : Int32) =>
              if q339.1 = v341 then
                Option.bind (s_L_law_I921 xs LL 1000 q339.2 a6 a5 a4 a3 A338 a1 a0 x9 (1 : Int32) (0 : Int32)) fun q357 =>
                if q357 = (0 : Int32) then
                  some (0 : Int32)
                else
                Option.bind (s_L_tells q339.2 a0 a1 A338) fun q359 =>
                if q359.1 = (0 : Int32) then
                  some (0 : Int32)
                else
                Option.bind (rmi x9 (4 : Int32)) fun v361 =>
                if v361 = (3 : Int32) then
                  Option.bind (rmi x9 (16 : Int32)) fun v364 =>
                  jn (fun (v366 : Int32) =>
                    Option.bind (s_L_looks q359.2 a0 a1 A338 v366) fun q367 =>
                    if q367.1 = (0 : Int32) then
                      some (0 : Int32)
                    else
                    jn (x9 + (1 : Int32)) fun v369 =>
                    s_L_law_L89 xs LL n q367.2 a6 a5 a4 a3 A338 a1 a0 v369) fun k365 =>
                  if v364 = (15 : Int32) then
                    k365 (1 : Int32)
                  else
                  k365 (0 : Int32)
                else
                jn (x9 + (1 : Int32)) fun v363 =>
                s_L_law_L89 xs LL n q359.2 a6 a5 a4 a3 A338 a1 a0 v363
              else
              Option.bind (s_L_law_I921 xs LL 1000 q339.2 a6 a5 a4 a3 A338 a1 a0 x9 (0 : Int32) (0 : Int32)) fun q343 =>
              if q343 = (0 : Int32) then
                some (0 : Int32)
              else
              Option.bind (s_L_tells q339.2 a0 a1 A338) fun q345 =>
              if q345.1 = (0 : Int32) then
                some (0 : Int32)
              else
              Option.bind (rmi x9 (4 : Int32)) fun v347 =>
              if v347 = (3 : Int32) then
                Option.bind (rmi x9 (16 : Int32)) fun v350 =>
                jn (fun (v352 : Int32) =>
                  Option.bind (s_L_looks q345.2 a0 a1 A338 v352) fun q353 =>
                  if q353.1 = (0 : Int32) then
                    some (0 : Int32)
                  else
                  jn (x9 + (1 : Int32)) fun v355 =>
                  s_L_law_L89 xs LL n q353.2 a6 a5 a4 a3 A338 a1 a0 v355) fun k351 =>
                if v350 = (15 : Int32) then
                  k351 (1 : Int32)
                else
                k351 (0 : Int32)
              else
              jn (x9 + (1 : Int32)) fun v349 =>
              s_L_law_L89 xs LL n q345.2 a6 a5 a4 a3 A338 a1 a0 v349) fun k340 =>
            if v337 = v336 then
              k340 (-10005 : Int32)
            else
            k340 v337) fun k335 =>
          if v324 = (0 : Int32) then
            Option.bind (s_L_low (v6 >>> ((6 : Int32) &&& 31)) (4 : Int32)) fun v380 =>
            k335 ((1 : Int32) + v380)
          else
          if v324 = (1 : Int32) then
            Option.bind (s_L_low (v6 >>> ((20 : Int32) &&& 31)) (2 : Int32)) fun v375 =>
            jn (fun (v377 : Int32) =>
              Option.bind (s_L_low (v6 >>> ((6 : Int32) &&& 31)) v377) fun v378 =>
              k335 v378) fun k376 =>
            if v375 = (0 : Int32) then
              k376 (41 : Int32)
            else
            k376 (20 : Int32)
          else
          Option.bind (s_L_low (v6 >>> ((6 : Int32) &&& 31)) (2 : Int32)) fun v374 =>
          k335 v374
        else
        Option.bind (s_L_low (v6 >>> ((4 : Int32) &&& 31)) (2 : Int32)) fun v381 =>
        Option.bind (s_L_low (v6 >>> ((5 : Int32) &&& 31)) (5 : Int32)) fun v382 =>
        Option.bind (s_L_low (v6 >>> ((20 : Int32) &&& 31)) (3 : Int32)) fun v383 =>
        jn (fun (v385 : Int32) =>
          Option.bind (s_L_low (v6 >>> ((8 : Int32) &&& 31)) v385) fun v386 =>
          Option.bind (rd 10 a1 (((5 : Int32) * v381) + v382)) fun v387 =>
          Option.bind (wr1 10 a1 (((5 : Int32) * v381) + v382) v386) fun A388 =>
          Option.bind (s_X4_setBag T v381 (v382 + (1 : Int32)) v386) fun q389 =>
          jn (fun (v391 : Int32) =>
            if q389.1 = v391 then
              Option.bind (s_L_law_I921 xs LL 1000 q389.2 a6 a5 a4 a3 a2 A388 a0 x9 (1 : Int32) (0 : Int32)) fun q407 =>
              if q407 = (0 : Int32) then
                some (0 : Int32)
              else
              Option.bind (s_L_tells q389.2 a0 A388 a2) fun q409 =>
              if q409.1 = (0 : Int32) then
                some (0 : Int32)
              else
              Option.bind (rmi x9 (4 : Int32)) fun v411 =>
              if v411 = (3 : Int32) then
                Option.bind (rmi x9 (16 : Int32)) fun v414 =>
                jn (fun (v416 : Int32) =>
                  Option.bind (s_L_looks q409.2 a0 A388 a2 v416) fun q417 =>
                  if q417.1 = (0 : Int32) then
                    some (0 : Int32)
                  else
                  jn (x9 + (1 : Int32)) fun v419 =>
                  s_L_law_L89 xs LL n q417.2 a6 a5 a4 a3 a2 A388 a0 v419) fun k415 =>
                if v414 = (15 : Int32) then
                  k415 (1 : Int32)
                else
                k415 (0 : Int32)
              else
              jn (x9 + (1 : Int32)) fun v413 =>
              s_L_law_L89 xs LL n q409.2 a6 a5 a4 a3 a2 A388 a0 v413
            else
            Option.bind (s_L_law_I921 xs LL 1000 q389.2 a6 a5 a4 a3 a2 A388 a0 x9 (0 : Int32) (0 : Int32)) fun q393 =>
            if q393 = (0 : Int32) then
              some (0 : Int32)
            else
            Option.bind (s_L_tells q389.2 a0 A388 a2) fun q395 =>
            if q395.1 = (0 : Int32) then
              some (0 : Int32)
            else
            Option.bind (rmi x9 (4 : Int32)) fun v397 =>
            if v397 = (3 : Int32) then
              Option.bind (rmi x9 (16 : Int32)) fun v400 =>
              jn (fun (v402 : Int32) =>
                Option.bind (s_L_looks q395.2 a0 A388 a2 v402) fun q403 =>
                if q403.1 = (0 : Int32) then
                  some (0 : Int32)
                else
                jn (x9 + (1 : Int32)) fun v405 =>
                s_L_law_L89 xs LL n q403.2 a6 a5 a4 a3 a2 A388 a0 v405) fun k401 =>
              if v400 = (15 : Int32) then
                k401 (1 : Int32)
              else
              k401 (0 : Int32)
            else
            jn (x9 + (1 : Int32)) fun v399 =>
            s_L_law_L89 xs LL n q395.2 a6 a5 a4 a3 a2 A388 a0 v399) fun k390 =>
          if v387 = v386 then
            k390 (-10005 : Int32)
          else
          k390 v387) fun k384 =>
        if v383 = (0 : Int32) then
          k384 (7 : Int32)
        else
        k384 (2 : Int32)
      else
      Option.bind (s_L_low (v6 >>> ((8 : Int32) &&& 31)) (5 : Int32)) fun v423 =>
      jn ((1 : Int32) + v423) fun v424 =>
      Option.bind (s_L_index v9) fun v425 =>
      Option.bind (rd 60 a0 ((48 : Int32) + v425)) fun v426 =>
      Option.bind (rd 11 a2 (0 : Int32)) fun v427 =>
      jn (fun (v429 : Int32) =>
        jn (fun (A436 : Nat → Int32) (A437 : Nat → Int32) =>
          Option.bind (s_X4_setUp T v424 v9) fun q438 =>
          jn (fun (v441 : Int32) =>
            if q438.1 = v441 then
              Option.bind (s_L_law_I921 xs LL 1000 q438.2 a6 a5 a4 a3 A436 a1 A437 x9 (1 : Int32) (0 : Int32)) fun q457 =>
              if q457 = (0 : Int32) then
                some (0 : Int32)
              else
              Option.bind (s_L_tells q438.2 A437 a1 A436) fun q459 =>
              if q459.1 = (0 : Int32) then
                some (0 : Int32)
              else
              Option.bind (rmi x9 (4 : Int32)) fun v461 =>
              if v461 = (3 : Int32) then
                Option.bind (rmi x9 (16 : Int32)) fun v464 =>
                jn (fun (v466 : Int32) =>
                  Option.bind (s_L_looks q459.2 A437 a1 A436 v466) fun q467 =>
                  if q467.1 = (0 : Int32) then
                    some (0 : Int32)
                  else
                  jn (x9 + (1 : Int32)) fun v469 =>
                  s_L_law_L89 xs LL n q467.2 a6 a5 a4 a3 A436 a1 A437 v469) fun k465 =>
                if v464 = (15 : Int32) then
                  k465 (1 : Int32)
                else
                k465 (0 : Int32)
              else
              jn (x9 + (1 : Int32)) fun v463 =>
              s_L_law_L89 xs LL n q459.2 a6 a5 a4 a3 A436 a1 A437 v463
            else
            Option.bind (s_L_law_I921 xs LL 1000 q438.2 a6 a5 a4 a3 A436 a1 A437 x9 (0 : Int32) (0 : Int32)) fun q443 =>
            if q443 = (0 : Int32) then
              some (0 : Int32)
            else
            Option.bind (s_L_tells q438.2 A437 a1 A436) fun q445 =>
            if q445.1 = (0 : Int32) then
              some (0 : Int32)
            else
            Option.bind (rmi x9 (4 : Int32)) fun v447 =>
            if v447 = (3 : Int32) then
              Option.bind (rmi x9 (16 : Int32)) fun v450 =>
              jn (fun (v452 : Int32) =>
                Option.bind (s_L_looks q445.2 A437 a1 A436 v452) fun q453 =>
                if q453.1 = (0 : Int32) then
                  some (0 : Int32)
                else
                jn (x9 + (1 : Int32)) fun v455 =>
                s_L_law_L89 xs LL n q453.2 a6 a5 a4 a3 A436 a1 A437 v455) fun k451 =>
              if v450 = (15 : Int32) then
                k451 (1 : Int32)
              else
              k451 (0 : Int32)
            else
            jn (x9 + (1 : Int32)) fun v449 =>
            s_L_law_L89 xs LL n q445.2 a6 a5 a4 a3 A436 a1 A437 v449) fun k440 =>
          if v429 = (0 : Int32) then
            Option.bind (s_L_turn A437) fun v472 =>
            k440 v472
          else
          k440 (-10003 : Int32)) fun k435 =>
        if v429 = (0 : Int32) then
          Option.bind (s_L_put a0 v9 v424) fun A474 =>
          Option.bind (rd 11 a2 (7 : Int32)) fun v475 =>
          Option.bind (wr1 11 a2 (7 : Int32) (v475 + (v424 * v9))) fun A476 =>
          k435 A476 A474
        else
        k435 a2 a0) fun k428 =>
      if v426 < v427 then
        k428 (0 : Int32)
      else
      k428 (1 : Int32)
    else
    jn (fun (v485 : Int32) =>
      Option.bind (s_X4_count T (8 : Int32)) fun v486 =>
      jn (fun (v499 : Int32) =>
        Option.bind (dvi v499 (100 : Int32)) fun v500 =>
        Option.bind (rmi v499 (100 : Int32)) fun v501 =>
        jn (v501 - (50 : Int32)) fun v502 =>
        Option.bind (s_L_why a0 a1 a2 v500 v502) fun v503 =>
        Option.bind (s_L_turn a0) fun v504 =>
        Option.bind (rd 11 a2 (4 : Int32)) fun v505 =>
        jn (fun (A533 : Nat → Int32) (A534 : Nat → Int32) (A535 : Nat → Int32) (A536 : Nat → Int32) (A537 : Nat → Int32) (A538 : Nat → Int32) (A539 : Nat → Int32) =>
          jn (fun (v547 : Int32) (T548 : Nat → Mm) =>
            jn (fun (v552 : Int32) =>
              if v547 = v552 then
                Option.bind (s_L_law_I921 xs LL 1000 T548 A533 A534 A535 A536 A537 A538 A539 x9 (1 : Int32) (0 : Int32)) fun q568 =>
                if q568 = (0 : Int32) then
                  some (0 : Int32)
                else
                Option.bind (s_L_tells T548 A539 A538 A537) fun q570 =>
                if q570.1 = (0 : Int32) then
                  some (0 : Int32)
                else
                Option.bind (rmi x9 (4 : Int32)) fun v572 =>
                if v572 = (3 : Int32) then
                  Option.bind (rmi x9 (16 : Int32)) fun v575 =>
                  jn (fun (v577 : Int32) =>
                    Option.bind (s_L_looks q570.2 A539 A538 A537 v577) fun q578 =>
                    if q578.1 = (0 : Int32) then
                      some (0 : Int32)
                    else
                    jn (x9 + (1 : Int32)) fun v580 =>
                    s_L_law_L89 xs LL n q578.2 A533 A534 A535 A536 A537 A538 A539 v580) fun k576 =>
                  if v575 = (15 : Int32) then
                    k576 (1 : Int32)
                  else
                  k576 (0 : Int32)
                else
                jn (x9 + (1 : Int32)) fun v574 =>
                s_L_law_L89 xs LL n q570.2 A533 A534 A535 A536 A537 A538 A539 v574
              else
              Option.bind (s_L_law_I921 xs LL 1000 T548 A533 A534 A535 A536 A537 A538 A539 x9 (0 : Int32) (0 : Int32)) fun q554 =>
              if q554 = (0 : Int32) then
                some (0 : Int32)
              else
              Option.bind (s_L_tells T548 A539 A538 A537) fun q556 =>
              if q556.1 = (0 : Int32) then
                some (0 : Int32)
              else
              Option.bind (rmi x9 (4 : Int32)) fun v558 =>
              if v558 = (3 : Int32) then
                Option.bind (rmi x9 (16 : Int32)) fun v561 =>
                jn (fun (v563 : Int32) =>
                  Option.bind (s_L_looks q556.2 A539 A538 A537 v563) fun q564 =>
                  if q564.1 = (0 : Int32) then
                    some (0 : Int32)
                  else
                  jn (x9 + (1 : Int32)) fun v566 =>
                  s_L_law_L89 xs LL n q564.2 A533 A534 A535 A536 A537 A538 A539 v566) fun k562 =>
                if v561 = (15 : Int32) then
                  k562 (1 : Int32)
                else
                k562 (0 : Int32)
              else
              jn (x9 + (1 : Int32)) fun v560 =>
              s_L_law_L89 xs LL n q556.2 A533 A534 A535 A536 A537 A538 A539 v560) fun k551 =>
            if v503 ≤ (0 : Int32) then
              Option.bind (s_L_turn A539) fun v583 =>
              k551 v583
            else
            k551 ((-10010 : Int32) - v503)) fun k546 =>
          if (6 : Int32) ≤ v500 then
            jn (fun (v586 : Int32) =>
              Option.bind (s_X4_push T v502 v586) fun q587 =>
              k546 q587.1 q587.2) fun k585 =>
            if v500 = (6 : Int32) then
              k585 (1 : Int32)
            else
            k585 (0 : Int32)
          else
          Option.bind (s_X4_lay T v500 v502) fun q589 =>
          k546 q589.1 q589.2) fun k532 =>
        if v503 = (0 : Int32) then
          Option.bind (s_L_move a0 a1 a2 v500 v502) fun q591 =>
          Option.bind (s_L_turn q591.1) fun v592 =>
          Option.bind (rd 11 q591.2.2 (5 : Int32)) fun v593 =>
          Option.bind (rmi v593 (40 : Int32)) fun v594 =>
          Option.bind (wr1 40 a3 v594 v505) fun A595 =>
          Option.bind (wr1 40 a4 v594 v500) fun A596 =>
          Option.bind (wr1 40 a5 v594 v502) fun A597 =>
          Option.bind (wr1 40 a6 v594 (v592 - v504)) fun A598 =>
          Option.bind (rd 11 q591.2.2 (5 : Int32)) fun v599 =>
          Option.bind (wr1 11 q591.2.2 (5 : Int32) (v599 + (1 : Int32))) fun A600 =>
          Option.bind (rd 11 A600 (6 : Int32)) fun v601 =>
          Option.bind (wr1 11 A600 (6 : Int32) (v601 + (v592 - v504))) fun A602 =>
          Option.bind (rd 11 A602 (8 : Int32)) fun v603 =>
          jn (fun (v609 : Int32) =>
            Option.bind (wr1 11 A602 (8 : Int32) v609) fun A610 =>
            k532 A598 A597 A596 A595 A610 q591.2.1 q591.1) fun k608 =>
          if v592 ≤ v603 then
            Option.bind (rd 11 A602 (8 : Int32)) fun v612 =>
            if (-v592) ≤ v612 then
              Option.bind (rd 11 A602 (8 : Int32)) fun v614 =>
              k608 v614
            else
            k608 (-v592)
          else
          k608 v592
        else
        k532 a6 a5 a4 a3 a2 a1 a0) fun k498 =>
      jn (fun (_ : Unit) =>
        k498 ((((100 : Int32) * v485) + v9) + (50 : Int32))) fun k1276 =>
      if v486 ≤ (0 : Int32) then
        k1276 ()
      else
      Option.bind (s_L_low (v6 >>> ((20 : Int32) &&& 31)) (4 : Int32)) fun v1278 =>
      if v1278 ≤ (0 : Int32) then
        k1276 ()
      else
      Option.bind (s_L_low (v6 >>> ((8 : Int32) &&& 31)) v486) fun v1280 =>
      Option.bind (s_X4_possible T v1280) fun v1281 =>
      k498 v1281) fun k484 =>
    if (6 : Int32) ≤ v7 then
      Option.bind (s_L_low (v6 >>> ((8 : Int32) &&& 31)) (2 : Int32)) fun v1283 =>
      k484 ((6 : Int32) + v1283)
    else
    Option.bind (s_L_low (v6 >>> ((8 : Int32) &&& 31)) (5 : Int32)) fun v1284 =>
    k484 ((1 : Int32) + v1284)
def s_L_law_L68 (xs : Nat → Int32) (LL : Nat) : Nat → (Nat → Mm) → (Nat → Int32) → (Nat → Int32) → (Nat → Int32) → (Nat → Int32) → (Nat → Int32) → (Nat → Int32) → (Nat → Int32) → Int32 → Option (Int32)
  | 0, _, _, _, _, _, _, _, _, _ => none
  | n + 1, T, a6, a5, a4, a3, a2, a1, a0, x9 =>
    if (10 : Int32) ≤ x9 then
      s_L_law_L89 xs LL 50 T a6 a5 a4 a3 a2 a1 a0 (0 : Int32)
    else
    Option.bind (wr1 10 a1 x9 (2 : Int32)) fun A1285 =>
    jn (x9 + (1 : Int32)) fun v1286 =>
    s_L_law_L68 xs LL n T a6 a5 a4 a3 a2 A1285 a0 v1286
def s_L_law (xs : Nat → Int32) (LL : Nat) (T : Nat → Mm) : Option (Int32) :=
  Option.bind (wr1 11 zr (0 : Int32) (2 : Int32)) fun A1 =>
  Option.bind (wr1 11 A1 (1 : Int32) (8 : Int32)) fun A2 =>
  Option.bind (wr1 11 A2 (9 : Int32) (1 : Int32)) fun A3 =>
  s_L_law_L68 xs LL 50 T zr zr zr zr A3 zr zr (0 : Int32)
