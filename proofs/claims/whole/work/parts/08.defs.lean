def FU : Nat := 5000
def f_X6_within (μ : Mem) (a0 : Int64) (a2 : Int64) (a4 : Int64) : Option (Int32) :=
  if (lg_cmp a0 a2) < (0 : Int32) then
    some (0 : Int32)
  else
    if (0 : Int32) < (lg_cmp a0 a4) then
      some (0 : Int32)
    else
      some (1 : Int32)
def f_J7_fill_53178_5 (k0 : Nat) : Nat → Mem → Int32 → Int32 → Int32 → Option (Mem)
  | 0, _, _, _, _ => none
  | n + 1, μ_5, b1_5, b2_5, b3_5 =>
    if b3_5 ≤ b2_5 then
      some μ_5
    else
      (stI μ_5 k0 14 b2_5 b1_5).bind fun μ5 =>
      (some (b2_5 + (1 : Int32))).bind fun v6 =>
      f_J7_fill_53178_5 k0 n μ5 b1_5 v6 b3_5
def f_J7_fill_53178 (μ : Mem) (k0 : Nat) (a1 : Int32) : Option (Mem) :=
  f_J7_fill_53178_5 k0 FU μ a1 (0 : Int32) (14 : Int32)
def f_X6_egg (μ : Mem) (a1 : Int32) (a2 : Int32) (a3 : Int32) (a4 : Int32) : Option (Int32 × Mem) :=
  (f_X6_within μ a1.toInt64 (0 : Int64) (6 : Int64)).bind fun v23 =>
  if v23 = (0 : Int32) then
    some ((-1 : Int32), μ)
  else
    (f_X6_within μ a2.toInt64 (0 : Int64) (9 : Int64)).bind fun v26 =>
    if v26 = (0 : Int32) then
      some ((-2 : Int32), μ)
    else
      (f_X6_within μ a3.toInt64 (1 : Int64) (30 : Int64)).bind fun v29 =>
      if v29 = (0 : Int32) then
        some ((-2 : Int32), μ)
      else
        (f_X6_within μ a4.toInt64 (0 : Int64) (29 : Int64)).bind fun v32 =>
        if v32 = (0 : Int32) then
          some ((-2 : Int32), μ)
        else
          if (gI μ 100 0) < (6 : Int32) then
            (aix (gI μ 100 0) 6).bind fun j36 =>
            (f_J7_fill_53178 μ (100 + 1 + 1 + j36) (0 : Int32)).bind fun μ37 =>
            (stI μ37 (100 + 1 + 1 + j36) 14 (0 : Int32) a1).bind fun μ39 =>
            (stI μ39 (100 + 1 + 1 + j36) 14 (1 : Int32) a2).bind fun μ40 =>
            (stI μ40 (100 + 1 + 1 + j36) 14 (2 : Int32) a3).bind fun μ41 =>
            (stI μ41 (100 + 1 + 1 + j36) 14 (3 : Int32) a4).bind fun μ42 =>
            (some (gI μ42 100 0)).bind fun v43 =>
            (some (sI μ42 100 0 (v43 + (1 : Int32)))).bind fun μ44 =>
            some (v43, μ44)
          else
            some ((-4 : Int32), μ)
def f_X2_has (μ : Mem) (k0 : Nat) (a1 : Int32) : Option (Int32) :=
  if a1 < (0 : Int32) then
    some (0 : Int32)
  else
    if (gI μ k0 0) ≤ a1 then
      some (0 : Int32)
    else
      some (1 : Int32)
def f_X6_holding (μ : Mem) (k1 : Nat) : Option (Nat) :=
  (f_X6_within μ ((gI μ k1 4).toInt64) (0 : Int64) (((gI μ 1 6) - (1 : Int32)).toInt64)).bind fun v5 =>
  if v5 = (0 : Int32) then
    some 0
  else
    (aix (gI μ k1 4) 6).bind fun j8 =>
    some (1000 + 10 * j8)
def f_X3_passes_36 (μ : Mem) (k1 : Nat) (b4_36 : Int32) (b5_36 : Int32) (s0_36 : Int32) : Option (Int32) :=
  if b4_36 = (0 : Int32) then
    if b5_36 ≤ s0_36 then
      some (0 : Int32)
    else
      some (1 : Int32)
  else
    if b4_36 = (1 : Int32) then
      if s0_36 = b5_36 then
        some (1 : Int32)
      else
        some (0 : Int32)
    else
      if s0_36 ≤ b5_36 then
        some (0 : Int32)
      else
        some (1 : Int32)
def f_X3_passes (μ : Mem) (a0 : Int32) (k1 : Nat) (a2 : Int32) : Option (Int32) :=
  (dvI a0 (1000 : Int32)).bind fun v17 =>
  (dvI a0 (100 : Int32)).bind fun v18 =>
  (rmI v18 (10 : Int32)).bind fun v19 =>
  (rmI a0 (100 : Int32)).bind fun v20 =>
  if v17 = (0 : Int32) then
    f_X3_passes_36 μ k1 v19 v20 a2
  else
    (ldI μ k1 14 (((0 : Int32) + v17) - (1 : Int32))).bind fun v22 =>
    f_X3_passes_36 μ k1 v19 v20 v22
def f_X3_holdsFor_102 (μ : Mem) (k0 : Nat) (k1 : Nat) (κ6 : Int32 → Int32 → Int32 → Int32 → Option (Int32)) (b2_102 : Int32) (b4_102 : Int32) (b5_102 : Int32) (b6_102 : Int32) : Option (Int32) :=
  (some (b6_102 + (1 : Int32))).bind fun v15 =>
  κ6 b2_102 b4_102 b5_102 v15
def f_X3_holdsFor_99 (μ : Mem) (k0 : Nat) (k1 : Nat) (κ6 : Int32 → Int32 → Int32 → Int32 → Option (Int32)) (b2_99 : Int32) (b4_99 : Int32) (b6_99 : Int32) (s0_99 : Int32) (s1_99 : Int32) : Option (Int32) :=
  (some (s1_99 ||| s0_99)).bind fun v16 =>
  f_X3_holdsFor_102 μ k0 k1 κ6 b2_99 b4_99 v16 b6_99
def f_X3_holdsFor_6 (μ : Mem) (k0 : Nat) (k1 : Nat) : Nat → Int32 → Int32 → Int32 → Int32 → Option (Int32)
  | 0, _, _, _, _ => none
  | n + 1, b2_6, b4_6, b5_6, b6_6 =>
    if b4_6 ≤ b6_6 then
      if (b5_6 &&& (1 : Int32)) = (1 : Int32) then
        some (1 : Int32)
      else
        some (0 : Int32)
    else
      (ldI μ (k0 + 3) 100 b6_6).bind fun v19 =>
      if v19 = (-1 : Int32) then
        (some (b5_6 ^^^ (1 : Int32))).bind fun v28 =>
        f_X3_holdsFor_102 μ k0 k1 (fun z0 z1 z2 z3 => f_X3_holdsFor_6 μ k0 k1 n z0 z1 z2 z3) b2_6 b4_6 v28 b6_6
      else
        if v19 = (-2 : Int32) then
          (some ((b5_6 >>> ((1 : Int32) &&& 31)) &&& (b5_6 ||| (-2 : Int32)))).bind fun v27 =>
          f_X3_holdsFor_102 μ k0 k1 (fun z0 z1 z2 z3 => f_X3_holdsFor_6 μ k0 k1 n z0 z1 z2 z3) b2_6 b4_6 v27 b6_6
        else
          if v19 = (-3 : Int32) then
            (some ((b5_6 >>> ((1 : Int32) &&& 31)) ||| (b5_6 &&& (1 : Int32)))).bind fun v26 =>
            f_X3_holdsFor_102 μ k0 k1 (fun z0 z1 z2 z3 => f_X3_holdsFor_6 μ k0 k1 n z0 z1 z2 z3) b2_6 b4_6 v26 b6_6
          else
            (f_X3_passes μ v19 k1 b2_6).bind fun v23 =>
            if v23 = (0 : Int32) then
              f_X3_holdsFor_99 μ k0 k1 (fun z0 z1 z2 z3 => f_X3_holdsFor_6 μ k0 k1 n z0 z1 z2 z3) b2_6 b4_6 b6_6 (0 : Int32) (b5_6 <<< ((1 : Int32) &&& 31))
            else
              f_X3_holdsFor_99 μ k0 k1 (fun z0 z1 z2 z3 => f_X3_holdsFor_6 μ k0 k1 n z0 z1 z2 z3) b2_6 b4_6 b6_6 (1 : Int32) (b5_6 <<< ((1 : Int32) &&& 31))
def f_X3_holdsFor (μ : Mem) (k0 : Nat) (k1 : Nat) (a2 : Int32) (a3 : Int32) (a4 : Int32) : Option (Int32) :=
  f_X3_holdsFor_6 μ k0 k1 FU a2 a4 (0 : Int32) a3
def f_X3_lateness_45 (μ : Mem) (k0 : Nat) (k1 : Nat) (κ8 : Int32 → Int32 → Int32 → Int32 → Option (Int32)) (b2_45 : Int32) (b3_45 : Int32) (b5_45 : Int32) : Option (Int32) :=
  (ldI μ (k0 + 2) 10 b5_45).bind fun v10 =>
  (some (b5_45 + (1 : Int32))).bind fun v11 =>
  κ8 b2_45 b3_45 v10 v11
def f_X3_lateness_8 (μ : Mem) (k0 : Nat) (k1 : Nat) : Nat → Int32 → Int32 → Int32 → Int32 → Option (Int32)
  | 0, _, _, _, _ => none
  | n + 1, b2_8, b3_8, b4_8, b5_8 =>
    if (gI μ k0 1) ≤ b5_8 then
      some b3_8
    else
      (ldI μ (k0 + 2) 10 b5_8).bind fun v13 =>
      (f_X3_holdsFor μ k0 k1 b2_8 b4_8 v13).bind fun v14 =>
      if v14 = (0 : Int32) then
        f_X3_lateness_45 μ k0 k1 (fun z0 z1 z2 z3 => f_X3_lateness_8 μ k0 k1 n z0 z1 z2 z3) b2_8 b3_8 b5_8
      else
        (ldI μ (k0 + 1) 10 b5_8).bind fun v17 =>
        (some (b3_8 + v17)).bind fun v18 =>
        f_X3_lateness_45 μ k0 k1 (fun z0 z1 z2 z3 => f_X3_lateness_8 μ k0 k1 n z0 z1 z2 z3) b2_8 v18 b5_8
def f_X3_lateness (μ : Mem) (k0 : Nat) (k1 : Nat) (a2 : Int32) : Option (Int32) :=
  f_X3_lateness_8 μ k0 k1 FU a2 (0 : Int32) (0 : Int32) (0 : Int32)
def f_X2_turnOf_58 (μ : Mem) (k0 : Nat) : Option (Int32) :=
  (ldI μ k0 14 (2 : Int32)).bind fun v13 =>
  some v13
def f_X2_turnOf_50 (μ : Mem) (k0 : Nat) : Option (Int32) :=
  (ldI μ k0 14 (2 : Int32)).bind fun v14 =>
  (ldI μ k0 14 (1 : Int32)).bind fun v15 =>
  some (v14 + v15)
def f_X2_turnOf (μ : Mem) (k0 : Nat) : Option (Int32) :=
  (ldI μ k0 14 (0 : Int32)).bind fun v16 =>
  if v16 = (2 : Int32) then
    (ldI μ k0 14 (2 : Int32)).bind fun v18 =>
    some ((2 : Int32) * v18)
  else if v16 = (3 : Int32) then
    f_X2_turnOf_50 μ k0
  else if v16 = (5 : Int32) then
    (ldI μ k0 14 (2 : Int32)).bind fun v22 =>
    some (((2 : Int32) * v22) + (1 : Int32))
  else if v16 = (6 : Int32) then
    f_X2_turnOf_50 μ k0
  else 
    f_X2_turnOf_58 μ k0
def f_J9_floorMod_f86c9 (μ : Mem) (a0 : Int64) (a2 : Int64) : Option (Int64) :=
  (rmL a0 a2).bind fun v4 =>
  if (0 : Int32) ≤ (lg_cmp (a0 ^^^ a2) (0 : Int64)) then
    some v4
  else
    if (lg_cmp v4 (0 : Int64)) = (0 : Int32) then
      some v4
    else
      some (v4 + a2)
def f_X6_modulo (μ : Mem) (a0 : Int64) (a2 : Int64) : Option (Int64) :=
  if (0 : Int32) ≤ (lg_cmp a2 (1 : Int64)) then
    (f_J9_floorMod_f86c9 μ a0 a2).bind fun v5 =>
    some v5
  else
    some (0 : Int64)
def f_X2_restOf (μ : Mem) (k0 : Nat) (a1 : Int32) : Option (Int32) :=
  (ldI μ k0 14 (7 : Int32)).bind fun v18 =>
  (ldI μ k0 14 (0 : Int32)).bind fun v19 =>
  if v19 = (1 : Int32) then
    (ldI μ k0 14 (1 : Int32)).bind fun v21 =>
    (f_X6_modulo μ ((a1 + v21).toInt64) v18.toInt64).bind fun v22 =>
    some v22.toInt32
  else if v19 = (4 : Int32) then
    (ldI μ k0 14 (1 : Int32)).bind fun v25 =>
    (f_X6_modulo μ ((a1 + v25).toInt64) v18.toInt64).bind fun v26 =>
    some ((v18 - (1 : Int32)) - v26.toInt32)
  else if v19 = (6 : Int32) then
    (ldI μ k0 14 (2 : Int32)).bind fun v29 =>
    (ldI μ k0 14 ((10 : Int32) + (v29 &&& (3 : Int32)))).bind fun v30 =>
    (f_X6_modulo μ ((a1 + v30).toInt64) v18.toInt64).bind fun v31 =>
    some v31.toInt32
  else 
    (f_X6_modulo μ a1.toInt64 v18.toInt64).bind fun v33 =>
    some v33.toInt32
def f_X2_reckonOne_84 (k0 : Nat) (k2 : Nat) (μ_84 : Mem) (s0_84 : Int32) (s1_84 : Int32) (s2_84 : Nat) : Option (Mem) :=
  (stI μ_84 s2_84 14 s1_84 s0_84).bind fun μ20 =>
  some μ20
def f_X2_reckonOne_32 (k0 : Nat) (k2 : Nat) (μ_32 : Mem) (b3_32 : Nat) (b4_32 : Int32) : Option (Mem) :=
  (f_X2_turnOf μ_32 b3_32).bind fun v21 =>
  (stI μ_32 b3_32 14 (7 : Int32) v21).bind fun μ23 =>
  (f_X2_restOf μ23 b3_32 b4_32).bind fun v24 =>
  (stI μ23 b3_32 14 (8 : Int32) v24).bind fun μ26 =>
  (ldI μ26 b3_32 14 (4 : Int32)).bind fun v27 =>
  if v27 = (1 : Int32) then
    f_X2_reckonOne_84 k0 k2 μ26 (-5 : Int32) (9 : Int32) b3_32
  else
    (ldI μ26 b3_32 14 (8 : Int32)).bind fun v29 =>
    (ldI μ26 b3_32 14 (7 : Int32)).bind fun v30 =>
    (f_X6_modulo μ26 ((v29 - (gI μ26 k0 3)).toInt64) v30.toInt64).bind fun v31 =>
    f_X2_reckonOne_84 k0 k2 μ26 v31.toInt32 (9 : Int32) b3_32
def f_X2_reckonOne (μ : Mem) (k0 : Nat) (a1 : Int32) (k2 : Nat) : Option (Mem) :=
  (aix a1 6).bind fun j33 =>
  (ldI μ (k0 + 1 + 1 + j33) 14 (3 : Int32)).bind fun v34 =>
  if k2 = 0 then
    f_X2_reckonOne_32 k0 k2 μ (k0 + 1 + 1 + j33) v34
  else
    (f_X3_lateness μ k2 (k0 + 1 + 1 + j33) a1).bind fun v36 =>
    (some (v34 + ((gI μ k2 0) + v36))).bind fun v38 =>
    f_X2_reckonOne_32 k0 k2 μ (k0 + 1 + 1 + j33) v38
def f_X2_reckonAll_2 (k0 : Nat) (k1 : Nat) : Nat → Mem → Int32 → Option (Mem)
  | 0, _, _ => none
  | n + 1, μ_2, b2_2 =>
    if (gI μ_2 k0 0) ≤ b2_2 then
      some μ_2
    else
      (f_X2_reckonOne μ_2 k0 b2_2 k1).bind fun μ6 =>
      (some (b2_2 + (1 : Int32))).bind fun v8 =>
      f_X2_reckonAll_2 k0 k1 n μ6 v8
def f_X2_reckonAll (μ : Mem) (k0 : Nat) (k1 : Nat) : Option (Mem) :=
  f_X2_reckonAll_2 k0 k1 FU μ (0 : Int32)
def f_X6_reckon (μ : Mem) (k1 : Nat) : Option (Mem) :=
  (f_X6_holding μ k1).bind fun v5 =>
  (f_X2_reckonAll μ k1 v5).bind fun μ7 =>
  some μ7
def f_X6_of (μ : Mem) (a1 : Int32) (a2 : Int32) : Option (Int32 × Mem) :=
  (f_X2_has μ 100 a1).bind fun v11 =>
  if v11 = (0 : Int32) then
    some ((-1 : Int32), μ)
  else
    (f_X6_within μ a2.toInt64 (0 : Int64) (9 : Int64)).bind fun v14 =>
    if v14 = (0 : Int32) then
      some ((-1 : Int32), μ)
    else
      (f_X6_reckon μ 100).bind fun μ17 =>
      (aix a1 6).bind fun j19 =>
      (ldI μ17 (100 + 1 + 1 + j19) 14 a2).bind fun v20 =>
      some (v20, μ17)
def f_X6_replace (μ : Mem) (k0 : Nat) (a1 : Int32) (a2 : Int32) : Option (Int32 × Mem) :=
  (ldI μ k0 14 a1).bind fun v3 =>
  (stI μ k0 14 a1 a2).bind fun μ4 =>
  some (v3, μ4)
def f_X6_set_76 (μ_76 : Mem) (b3_76 : Int32) (s0_76 : Int32) (s1_76 : Nat) : Option (Int32 × Mem) :=
  (f_X6_replace μ_76 s1_76 s0_76 b3_76).bind fun p22 =>
  some (p22.1, p22.2)
def f_X6_set_48 (μ_48 : Mem) (b1_48 : Int32) (b2_48 : Int32) (b3_48 : Int32) (s0_48 : Int32) : Option (Int32 × Mem) :=
  if s0_48 = (0 : Int32) then
    some ((-2 : Int32), μ_48)
  else
    (aix b1_48 6).bind fun j24 =>
    if b2_48 = (0 : Int32) then
      f_X6_set_76 μ_48 b3_48 (2 : Int32) (100 + 1 + 1 + j24)
    else
      f_X6_set_76 μ_48 b3_48 (3 : Int32) (100 + 1 + 1 + j24)
def f_X6_set (μ : Mem) (a1 : Int32) (a2 : Int32) (a3 : Int32) : Option (Int32 × Mem) :=
  (f_X2_has μ 100 a1).bind fun v26 =>
  if v26 = (0 : Int32) then
    some ((-1 : Int32), μ)
  else
    (f_X6_within μ a2.toInt64 (0 : Int64) (1 : Int64)).bind fun v29 =>
    if v29 = (0 : Int32) then
      some ((-1 : Int32), μ)
    else
      if a2 = (0 : Int32) then
        (f_X6_within μ a3.toInt64 (1 : Int64) (30 : Int64)).bind fun v35 =>
        f_X6_set_48 μ a1 a2 a3 v35
      else
        (f_X6_within μ a3.toInt64 (0 : Int64) (29 : Int64)).bind fun v33 =>
        f_X6_set_48 μ a1 a2 a3 v33
def f_X6_smash_32 (μ_32 : Mem) (s0_32 : Int32) (s1_32 : Int32) (s2_32 : Nat) : Option (Int32 × Mem) :=
  (f_X6_replace μ_32 s2_32 s1_32 s0_32).bind fun p13 =>
  some (p13.1, p13.2)
def f_X6_smash (μ : Mem) (a1 : Int32) (a2 : Int32) : Option (Int32 × Mem) :=
  (f_X2_has μ 100 a1).bind fun v14 =>
  if v14 = (0 : Int32) then
    some ((-1 : Int32), μ)
  else
    (aix a1 6).bind fun j17 =>
    if a2 = (0 : Int32) then
      f_X6_smash_32 μ (0 : Int32) (4 : Int32) (100 + 1 + 1 + j17)
    else
      f_X6_smash_32 μ (1 : Int32) (4 : Int32) (100 + 1 + 1 + j17)
def f_X6_listen (μ : Mem) (a1 : Int32) : Option (Int32 × Mem) :=
  (f_X6_within μ a1.toInt64 (0 : Int64) (127 : Int64)).bind fun v6 =>
  if v6 = (0 : Int32) then
    some ((-2 : Int32), μ)
  else
    (some (gI μ 100 2)).bind fun v9 =>
    (some (sI μ 100 2 a1)).bind fun μ10 =>
    some (v9, μ10)
def f_X6_row (μ : Mem) (a1 : Int32) (a2 : Int32) (a3 : Int32) : Option (Int32 × Mem) :=
  (f_X2_has μ 100 a1).bind fun v18 =>
  if v18 = (0 : Int32) then
    some ((-1 : Int32), μ)
  else
    (f_X6_within μ a2.toInt64 (0 : Int64) (3 : Int64)).bind fun v21 =>
    if v21 = (0 : Int32) then
      some ((-1 : Int32), μ)
    else
      (f_X6_within μ a3.toInt64 (0 : Int64) (9 : Int64)).bind fun v24 =>
      if v24 = (0 : Int32) then
        some ((-2 : Int32), μ)
      else
        (aix a1 6).bind fun j27 =>
        (ldI μ (100 + 1 + 1 + j27) 14 (0 : Int32)).bind fun v28 =>
        if v28 = (6 : Int32) then
          (aix a1 6).bind fun j30 =>
          (f_X6_replace μ (100 + 1 + 1 + j30) ((10 : Int32) + a2) a3).bind fun p34 =>
          some (p34.1, p34.2)
        else
          some ((-3 : Int32), μ)
def f_X5_add (μ : Mem) (a1 : Int32) : Option (Int32 × Mem) :=
  if (gI μ 2 1) < (100 : Int32) then
    (stI μ 3 100 (gI μ 2 1) (vp_nar .byte a1.toInt8.toInt32)).bind fun μ5 =>
    (some (sI μ5 2 1 ((gI μ5 2 1) + (1 : Int32)))).bind fun μ6 =>
    some (gI μ6 2 1, μ6)
  else
    some ((-4 : Int32), μ)
def f_X6_feed (μ : Mem) (a1 : Int32) : Option (Int32 × Mem) :=
  (f_X6_within μ a1.toInt64 (0 : Int64) (127 : Int64)).bind fun v8 =>
  if v8 = (0 : Int32) then
    some ((-2 : Int32), μ)
  else
    (f_X5_add μ a1).bind fun p14 =>
    some (p14.1, p14.2)
def f_X5_next (μ : Mem) : Option (Int32) :=
  if (gI μ 2 2) < (0 : Int32) then
    some (-1 : Int32)
  else
    if (gI μ 2 1) ≤ (gI μ 2 2) then
      some (-1 : Int32)
    else
      (ldI μ 3 100 (gI μ 2 2)).bind fun v6 =>
      some v6
def f_J0_coder_7d493 (μ : Mem) (k0 : Nat) : Option (Int32) :=
  if (1 : Int32) = (0 : Int32) then
    some (1 : Int32)
  else
    some (0 : Int32)
def f_J0_length_8abf5 (μ : Mem) (k0 : Nat) : Option (Int32) :=
  (f_J0_coder_7d493 μ k0).bind fun v3 =>
  some ((Int32.ofNat (lenS.getD k0 0)) >>> (v3 &&& 31))
def f_J0_isLatin1_aae02 (μ : Mem) (k0 : Nat) : Option (Int32) :=
  if (1 : Int32) = (0 : Int32) then
    some (0 : Int32)
  else
    if (0 : Int32) = (0 : Int32) then
      some (1 : Int32)
    else
      some (0 : Int32)
def f_J3_checkIndex_8e157 (μ : Mem) (a0 : Int32) (a1 : Int32) : Option (Int32) :=
  if a0 < (0 : Int32) then
    none
  else
    if a0 < a1 then
      some a0
    else
      none
def f_J0_checkIndex_df160 (μ : Mem) (a0 : Int32) (a1 : Int32) : Option (Unit) :=
  (f_J3_checkIndex_8e157 μ a0 a1).bind fun v5 =>
  some ()
def f_J1_charAt_3b067 (μ : Mem) (k0 : Nat) (a1 : Int32) : Option (Int32) :=
  (f_J0_checkIndex_df160 μ a1 (Int32.ofNat (lenS.getD k0 0))).bind fun _ =>
  (ldS k0 a1).bind fun v4 =>
  some (((v4 &&& (255 : Int32)).toUInt32 % 65536).toInt32)
def f_J0_charAt_5068e (μ : Mem) (k0 : Nat) (a1 : Int32) : Option (Int32) :=
  (f_J0_isLatin1_aae02 μ k0).bind fun v6 =>
  if v6 = (0 : Int32) then
    none
  else
    (f_J1_charAt_3b067 μ k0 a1).bind fun v9 =>
    some v9
def f_X5_takeSign (μ : Mem) (a1 : Int32) : Option (Int32 × Mem) :=
  (f_X5_next μ).bind fun v5 =>
  if v5 = a1 then
    (some (sI μ 2 2 ((gI μ 2 2) + (1 : Int32)))).bind fun μ8 =>
    some ((1 : Int32), μ8)
  else
    some ((0 : Int32), μ)
def f_X5_takeWord_2 (k1 : Nat) : Nat → Mem → Int32 → Option (Int32 × Mem)
  | 0, _, _ => none
  | n + 1, μ_2, b2_2 =>
    (f_J0_length_8abf5 μ_2 k1).bind fun v12 =>
    if v12 ≤ b2_2 then
      some ((1 : Int32), μ_2)
    else
      (f_J0_charAt_5068e μ_2 k1 b2_2).bind fun v15 =>
      (f_X5_takeSign μ_2 v15).bind fun p20 =>
      if p20.1 = (0 : Int32) then
        some ((0 : Int32), p20.2)
      else
        (some (b2_2 + (1 : Int32))).bind fun v22 =>
        f_X5_takeWord_2 k1 n p20.2 v22
def f_X5_takeWord (μ : Mem) (k1 : Nat) : Option (Int32 × Mem) :=
  f_X5_takeWord_2 k1 FU μ (0 : Int32)
def f_J1_canEncode_9a6ad (μ : Mem) (a0 : Int32) : Option (Int32) :=
  if a0 < (0 : Int32) then
    some (0 : Int32)
  else
    if (255 : Int32) < a0 then
      some (0 : Int32)
    else
      some (1 : Int32)
def f_J1_indexOfChar_4cfef_7 (μ : Mem) (k0 : Nat) : Nat → Int32 → Int32 → Int32 → Option (Int32)
  | 0, _, _, _ => none
  | n + 1, b3_7, b4_7, b5_7 =>
    if b3_7 ≤ b5_7 then
      some (-1 : Int32)
    else
      (ldS k0 b5_7).bind fun v7 =>
      if v7 = b4_7 then
        some b5_7
      else
        (some (b5_7 + (1 : Int32))).bind fun v9 =>
        f_J1_indexOfChar_4cfef_7 μ k0 n b3_7 b4_7 v9
def f_J1_indexOfChar_4cfef (μ : Mem) (k0 : Nat) (a1 : Int32) (a2 : Int32) (a3 : Int32) : Option (Int32) :=
  (some (a1.toInt8.toInt32)).bind fun v10 =>
  f_J1_indexOfChar_4cfef_7 μ k0 FU a3 v10 a2
def f_J1_indexOf_4cfef (μ : Mem) (k0 : Nat) (a1 : Int32) (a2 : Int32) (a3 : Int32) : Option (Int32) :=
  (f_J1_canEncode_9a6ad μ a1).bind fun v9 =>
  if v9 = (0 : Int32) then
    some (-1 : Int32)
  else
    (some (if a2 < (0 : Int32) then (0 : Int32) else a2)).bind fun v12 =>
    (some (if (Int32.ofNat (lenS.getD k0 0)) < a3 then (Int32.ofNat (lenS.getD k0 0)) else a3)).bind fun v13 =>
    if v12 < v13 then
      (f_J1_indexOfChar_4cfef μ k0 a1 v12 v13).bind fun v15 =>
      some v15
    else
      some (-1 : Int32)
def f_J0_indexOf_7cf53 (μ : Mem) (k0 : Nat) (a1 : Int32) (a2 : Int32) : Option (Int32) :=
  (f_J0_isLatin1_aae02 μ k0).bind fun v8 =>
  if v8 = (0 : Int32) then
    none
  else
    (f_J0_length_8abf5 μ k0).bind fun v11 =>
    (f_J1_indexOf_4cfef μ k0 a1 a2 v11).bind fun v13 =>
    some v13
def f_J0_indexOf_0f7a4 (μ : Mem) (k0 : Nat) (a1 : Int32) : Option (Int32) :=
  (f_J0_indexOf_7cf53 μ k0 a1 (0 : Int32)).bind fun v3 =>
  some v3
def f_X5_takeOneOf_46 (k1 : Nat) (μ_46 : Mem) (s0_46 : Int32) : Option (Int32 × Mem) :=
  if s0_46 < (0 : Int32) then
    some (s0_46, μ_46)
  else
    (some (sI μ_46 2 2 ((gI μ_46 2 2) + (1 : Int32)))).bind fun μ10 =>
    some (s0_46, μ10)
def f_X5_takeOneOf_23 (k1 : Nat) (μ_23 : Mem) (s0_23 : Int32) : Option (Int32 × Mem) :=
  if s0_23 = (0 : Int32) then
    f_X5_takeOneOf_46 k1 μ_23 (-1 : Int32)
  else
    (ldI μ_23 3 100 (gI μ_23 2 2)).bind fun v12 =>
    (f_J0_indexOf_0f7a4 μ_23 k1 ((v12.toUInt32 % 65536).toInt32)).bind fun v13 =>
    f_X5_takeOneOf_46 k1 μ_23 v13
def f_X5_takeOneOf_22 (k1 : Nat) (μ_22 : Mem) : Option (Int32 × Mem) :=
  f_X5_takeOneOf_23 k1 μ_22 (0 : Int32)
def f_X5_takeOneOf (μ : Mem) (k1 : Nat) : Option (Int32 × Mem) :=
  if (gI μ 2 2) < (0 : Int32) then
    f_X5_takeOneOf_22 k1 μ
  else
    if (gI μ 2 1) ≤ (gI μ 2 2) then
      f_X5_takeOneOf_22 k1 μ
    else
      f_X5_takeOneOf_23 k1 μ (1 : Int32)
def f_X5_takeNumber (μ : Mem) : Option (Int32 × Mem) :=
  (f_X5_takeOneOf μ 3).bind fun p14 =>
  if (0 : Int32) ≤ p14.1 then
    (f_X5_takeOneOf p14.2 3).bind fun p19 =>
    if (0 : Int32) ≤ p19.1 then
      some ((p14.1 * (10 : Int32)) + p19.1, p19.2)
    else
      some (p14.1, p19.2)
  else
    some ((-1 : Int32), p14.2)
def f_X3_keep (μ : Mem) (k0 : Nat) (a1 : Int32) : Option (Mem) :=
  if (100 : Int32) ≤ (gI μ k0 5) then
    some μ
  else
    (stI μ (k0 + 3) 100 (gI μ k0 5) a1).bind fun μ5 =>
    (some (sI μ5 k0 5 ((gI μ5 k0 5) + (1 : Int32)))).bind fun μ6 =>
    some μ6
def f_X3_readTest (μ : Mem) (k0 : Nat) : Option (Int32 × Mem) :=
  (f_X5_takeOneOf μ 4).bind fun p21 =>
  if (0 : Int32) ≤ p21.1 then
    (f_X5_takeOneOf p21.2 5).bind fun p26 =>
    if (0 : Int32) ≤ p26.1 then
      (f_X5_takeNumber p26.2).bind fun p31 =>
      if (0 : Int32) ≤ p31.1 then
        (f_X3_keep p31.2 k0 (((p21.1 * (1000 : Int32)) + (p26.1 * (100 : Int32))) + p31.1)).bind fun μ33 =>
        some ((1 : Int32), μ33)
      else
        some ((0 : Int32), p31.2)
    else
      some ((0 : Int32), p26.2)
  else
    some ((0 : Int32), p21.2)
def f_X3_readAny_71 (G : (Mem → Nat → Int32 → Option (Int32 × Mem)) × (Mem → Nat → Int32 → Option (Int32 × Mem))) (k0 : Nat) (κ2 : Mem → Int32 → Int32 → Option (Int32 × Mem)) (μ_71 : Mem) (b2_71 : Int32) (b3_71 : Int32) : Option (Int32 × Mem) :=
  (f_X5_takeSign μ_71 (124 : Int32)).bind fun p33 =>
  if p33.1 = (0 : Int32) then
    some ((1 : Int32), p33.2)
  else
    (some (b3_71 + (1 : Int32))).bind fun v35 =>
    κ2 p33.2 b2_71 v35
def f_X3_readAny_61 (G : (Mem → Nat → Int32 → Option (Int32 × Mem)) × (Mem → Nat → Int32 → Option (Int32 × Mem))) (k0 : Nat) (κ2 : Mem → Int32 → Int32 → Option (Int32 × Mem)) (μ_61 : Mem) (b2_61 : Int32) (b3_61 : Int32) : Option (Int32 × Mem) :=
  if b3_61 ≤ (0 : Int32) then
    f_X3_readAny_71 G k0 κ2 μ_61 b2_61 b3_61
  else
    (f_X3_keep μ_61 k0 (-3 : Int32)).bind fun μ37 =>
    f_X3_readAny_71 G k0 κ2 μ37 b2_61 b3_61
def f_X3_readAny_22 (G : (Mem → Nat → Int32 → Option (Int32 × Mem)) × (Mem → Nat → Int32 → Option (Int32 × Mem))) (k0 : Nat) (κ2 : Mem → Int32 → Int32 → Option (Int32 × Mem)) : Nat → Mem → Int32 → Int32 → Int32 → Option (Int32 × Mem)
  | 0, _, _, _, _ => none
  | n + 1, μ_22, b2_22, b3_22, b4_22 =>
    if (100 : Int32) ≤ b4_22 then
      f_X3_readAny_61 G k0 κ2 μ_22 b2_22 b3_22
    else
      (f_X5_takeSign μ_22 (38 : Int32)).bind fun p43 =>
      if p43.1 = (0 : Int32) then
        f_X3_readAny_61 G k0 κ2 p43.2 b2_22 b3_22
      else
        (G.2 p43.2 k0 b2_22).bind fun p48 =>
        if p48.1 = (0 : Int32) then
          some ((0 : Int32), p48.2)
        else
          (f_X3_keep p48.2 k0 (-2 : Int32)).bind fun μ50 =>
          (some (b4_22 + (1 : Int32))).bind fun v52 =>
          f_X3_readAny_22 G k0 κ2 n μ50 b2_22 b3_22 v52
def f_X3_readAny_2 (G : (Mem → Nat → Int32 → Option (Int32 × Mem)) × (Mem → Nat → Int32 → Option (Int32 × Mem))) (k0 : Nat) : Nat → Mem → Int32 → Int32 → Option (Int32 × Mem)
  | 0, _, _, _ => none
  | n + 1, μ_2, b2_2, b3_2 =>
    if (100 : Int32) ≤ b3_2 then
      some ((0 : Int32), μ_2)
    else
      (G.2 μ_2 k0 b2_2).bind fun p57 =>
      if p57.1 = (0 : Int32) then
        some ((0 : Int32), p57.2)
      else
        f_X3_readAny_22 G k0 (fun μ z0 z1 => f_X3_readAny_2 G k0 n μ z0 z1) FU p57.2 b2_2 b3_2 (0 : Int32)
def b_X3_readAny (G : (Mem → Nat → Int32 → Option (Int32 × Mem)) × (Mem → Nat → Int32 → Option (Int32 × Mem))) (μ : Mem) (k0 : Nat) (a2 : Int32) : Option (Int32 × Mem) :=
  f_X3_readAny_2 G k0 FU μ a2 (0 : Int32)
def f_X3_readOne_23 (G : (Mem → Nat → Int32 → Option (Int32 × Mem)) × (Mem → Nat → Int32 → Option (Int32 × Mem))) (k0 : Nat) (μ_23 : Mem) (b2_23 : Int32) (b3_23 : Int32) : Option (Int32 × Mem) :=
  if (4 : Int32) ≤ b2_23 then
    some ((0 : Int32), μ_23)
  else
    (f_X5_takeSign μ_23 b3_23).bind fun p37 =>
    if p37.1 = (0 : Int32) then
      some ((0 : Int32), p37.2)
    else
      if b3_23 = (40 : Int32) then
        (G.1 p37.2 k0 (b2_23 + (1 : Int32))).bind fun p50 =>
        if p50.1 = (0 : Int32) then
          some ((0 : Int32), p50.2)
        else
          (f_X5_takeSign p50.2 (41 : Int32)).bind fun p55 =>
          if p55.1 = (0 : Int32) then
            some ((0 : Int32), p55.2)
          else
            some ((1 : Int32), p55.2)
      else
        (G.2 p37.2 k0 (b2_23 + (1 : Int32))).bind fun p43 =>
        if p43.1 = (0 : Int32) then
          some ((0 : Int32), p43.2)
        else
          (f_X3_keep p43.2 k0 (-1 : Int32)).bind fun μ45 =>
          some ((1 : Int32), μ45)
def b_X3_readOne (G : (Mem → Nat → Int32 → Option (Int32 × Mem)) × (Mem → Nat → Int32 → Option (Int32 × Mem))) (μ : Mem) (k0 : Nat) (a2 : Int32) : Option (Int32 × Mem) :=
  (f_X5_next μ).bind fun v57 =>
  if v57 = (33 : Int32) then
    f_X3_readOne_23 G k0 μ a2 v57
  else
    if v57 = (40 : Int32) then
      f_X3_readOne_23 G k0 μ a2 v57
    else
      (f_X3_readTest μ k0).bind fun p64 =>
      some (p64.1, p64.2)
def G_read : Nat → (Mem → Nat → Int32 → Option (Int32 × Mem)) × (Mem → Nat → Int32 → Option (Int32 × Mem))
  | 0 => (fun _ _ _ => none, fun _ _ _ => none)
  | d + 1 => (b_X3_readAny (G_read d), b_X3_readOne (G_read d))
def f_X3_readAny : Mem → Nat → Int32 → Option (Int32 × Mem) := (G_read 16).1
def f_X3_readOne : Mem → Nat → Int32 → Option (Int32 × Mem) := (G_read 16).2
def f_X3_readClause_127 (k0 : Nat) (μ_127 : Mem) (s0_127 : Int32) (s1_127 : Int32) : Option (Int32 × Mem) :=
  (stI μ_127 (k0 + 1) 10 s1_127 s0_127).bind fun μ41 =>
  (stI μ41 (k0 + 2) 10 (gI μ41 k0 1) (gI μ41 k0 5)).bind fun μ42 =>
  (some (sI μ42 k0 1 ((gI μ42 k0 1) + (1 : Int32)))).bind fun μ43 =>
  some ((1 : Int32), μ43)
def f_X3_readClause_29 (k0 : Nat) (μ_29 : Mem) (b2_29 : Int32) (s0_29 : Nat) : Option (Int32 × Mem) :=
  (f_X5_takeWord μ_29 s0_29).bind fun p47 =>
  if p47.1 = (0 : Int32) then
    some ((0 : Int32), p47.2)
  else
    (f_X5_takeSign p47.2 (32 : Int32)).bind fun p52 =>
    if p52.1 = (0 : Int32) then
      some ((0 : Int32), p52.2)
    else
      (f_X5_takeNumber p52.2).bind fun p57 =>
      if (0 : Int32) ≤ p57.1 then
        if b2_29 = (97 : Int32) then
          (some (sI p57.2 k0 0 p57.1)).bind fun μ72 =>
          some ((1 : Int32), μ72)
        else
          (f_X5_takeSign p57.2 (32 : Int32)).bind fun p63 =>
          if p63.1 = (0 : Int32) then
            some ((0 : Int32), p63.2)
          else
            (f_X3_readAny p63.2 k0 (0 : Int32)).bind fun p68 =>
            if p68.1 = (0 : Int32) then
              some ((0 : Int32), p68.2)
            else
              if (gI p68.2 k0 1) < (10 : Int32) then
                if b2_29 = (108 : Int32) then
                  f_X3_readClause_127 k0 p68.2 p57.1 (gI p68.2 k0 1)
                else
                  f_X3_readClause_127 k0 p68.2 (-p57.1) (gI p68.2 k0 1)
              else
                some ((0 : Int32), p68.2)
      else
        some ((0 : Int32), p57.2)
def f_X3_readClause (μ : Mem) (k0 : Nat) : Option (Int32 × Mem) :=
  (f_X5_next μ).bind fun v73 =>
  if v73 = (108 : Int32) then
    f_X3_readClause_29 k0 μ v73 0
  else
    if v73 = (101 : Int32) then
      f_X3_readClause_29 k0 μ v73 1
    else
      f_X3_readClause_29 k0 μ v73 2
def f_X3_understands_22 (k0 : Nat) : Nat → Mem → Int32 → Option (Int32 × Mem)
  | 0, _, _ => none
  | n + 1, μ_22, b2_22 =>
    if (10 : Int32) < b2_22 then
      some ((0 : Int32), μ_22)
    else
      (f_X3_readClause μ_22 k0).bind fun p25 =>
      if p25.1 = (0 : Int32) then
        some ((0 : Int32), p25.2)
      else
        (f_X5_next p25.2).bind fun v27 =>
        if (0 : Int32) ≤ v27 then
          if b2_22 = (10 : Int32) then
            some ((0 : Int32), p25.2)
          else
            (f_X5_takeSign p25.2 (59 : Int32)).bind fun p34 =>
            if p34.1 = (0 : Int32) then
              some ((0 : Int32), p34.2)
            else
              (some (b2_22 + (1 : Int32))).bind fun v36 =>
              f_X3_understands_22 k0 n p34.2 v36
        else
          some ((1 : Int32), p25.2)
def f_X3_understands (μ : Mem) (k0 : Nat) : Option (Int32 × Mem) :=
  (some (sI μ 2 2 (0 : Int32))).bind fun μ37 =>
  (some (sI μ37 k0 0 (0 : Int32))).bind fun μ38 =>
  (some (sI μ38 k0 1 (0 : Int32))).bind fun μ39 =>
  (some (sI μ39 k0 5 (0 : Int32))).bind fun μ40 =>
  f_X3_understands_22 k0 FU μ40 (1 : Int32)
def f_X5_empty (μ : Mem) : Option (Mem) :=
  (some (sI μ 2 1 (0 : Int32))).bind fun μ2 =>
  some μ2
def f_X6_store (μ : Mem) : Option (Int32 × Mem) :=
  if (gI μ 1 6) < (6 : Int32) then
    (aix (gI μ 1 6) 6).bind fun j15 =>
    (f_X3_understands μ (1000 + 10 * j15)).bind fun p19 =>
    (some (gI p19.2 2 2)).bind fun v20 =>
    (f_X5_empty p19.2).bind fun μ21 =>
    if p19.1 = (0 : Int32) then
      some ((-10 : Int32) - v20, μ21)
    else
      (some (sI μ21 100 4 (gI μ21 1 6))).bind fun μ24 =>
      (some (gI μ24 1 6)).bind fun v25 =>
      (some (sI μ24 1 6 (v25 + (1 : Int32)))).bind fun μ26 =>
      some (v25, μ26)
  else
    some ((-4 : Int32), μ)
def f_X2_isDue (μ : Mem) (k0 : Nat) (a1 : Int32) (a2 : Int32) : Option (Int32) :=
  (aix a1 6).bind fun j8 =>
  (ldI μ (k0 + 1 + 1 + j8) 14 (7 : Int32)).bind fun v9 =>
  if v9 ≤ (0 : Int32) then
    some (0 : Int32)
  else
    (aix a1 6).bind fun j11 =>
    (ldI μ (k0 + 1 + 1 + j11) 14 (8 : Int32)).bind fun v12 =>
    (rmI (a2 - v12) v9).bind fun v13 =>
    if v13 = (0 : Int32) then
      some (1 : Int32)
    else
      some (0 : Int32)
def f_X2_goingOff_38 (μ : Mem) (k0 : Nat) (κ4 : Int32 → Int32 → Int32 → Option (Int32)) (b1_38 : Int32) (b2_38 : Int32) (b3_38 : Int32) : Option (Int32) :=
  (some (b3_38 + (1 : Int32))).bind fun v10 =>
  κ4 b1_38 b2_38 v10
def f_X2_goingOff_4 (μ : Mem) (k0 : Nat) : Nat → Int32 → Int32 → Int32 → Option (Int32)
  | 0, _, _, _ => none
  | n + 1, b1_4, b2_4, b3_4 =>
    if (gI μ k0 0) ≤ b3_4 then
      some b2_4
    else
      (aix b3_4 6).bind fun j12 =>
      (ldI μ (k0 + 1 + 1 + j12) 14 (4 : Int32)).bind fun v13 =>
      if v13 = (0 : Int32) then
        (f_X2_isDue μ k0 b3_4 b1_4).bind fun v15 =>
        if v15 = (0 : Int32) then
          f_X2_goingOff_38 μ k0 (fun z0 z1 z2 => f_X2_goingOff_4 μ k0 n z0 z1 z2) b1_4 b2_4 b3_4
        else
          (some (b2_4 ||| ((1 : Int32) <<< (b3_4 &&& 31)))).bind fun v18 =>
          f_X2_goingOff_38 μ k0 (fun z0 z1 z2 => f_X2_goingOff_4 μ k0 n z0 z1 z2) b1_4 v18 b3_4
      else
        f_X2_goingOff_38 μ k0 (fun z0 z1 z2 => f_X2_goingOff_4 μ k0 n z0 z1 z2) b1_4 b2_4 b3_4
def f_X2_goingOff (μ : Mem) (k0 : Nat) (a1 : Int32) : Option (Int32) :=
  f_X2_goingOff_4 μ k0 FU a1 (0 : Int32) (0 : Int32)
def f_X2_firstQuiet_2 (μ : Mem) (k0 : Nat) : Nat → Int32 → Option (Int32)
  | 0, _ => none
  | n + 1, b1_2 =>
    if (1000 : Int32) < b1_2 then
      some (-5 : Int32)
    else
      (f_X2_goingOff μ k0 ((gI μ k0 3) + b1_2)).bind fun v7 =>
      if v7 = (0 : Int32) then
        some b1_2
      else
        (some (b1_2 + (1 : Int32))).bind fun v10 =>
        f_X2_firstQuiet_2 μ k0 n v10
def f_X2_firstQuiet (μ : Mem) (k0 : Nat) : Option (Int32) :=
  f_X2_firstQuiet_2 μ k0 FU (0 : Int32)
def f_X2_total_4 (μ : Mem) (k0 : Nat) : Nat → Int32 → Int32 → Int32 → Option (Int32)
  | 0, _, _, _ => none
  | n + 1, b1_4, b2_4, b3_4 =>
    if (gI μ k0 0) ≤ b3_4 then
      some b2_4
    else
      (aix b3_4 6).bind fun j7 =>
      (ldI μ (k0 + 1 + 1 + j7) 14 b1_4).bind fun v8 =>
      (some (b2_4 + v8)).bind fun v9 =>
      (some (b3_4 + (1 : Int32))).bind fun v10 =>
      f_X2_total_4 μ k0 n b1_4 v9 v10
def f_X2_total (μ : Mem) (k0 : Nat) (a1 : Int32) : Option (Int32) :=
  f_X2_total_4 μ k0 FU a1 (0 : Int32) (0 : Int32)
def f_X6_told (μ : Mem) (a1 : Int32) : Option (Int32 × Mem) :=
  (f_X6_reckon μ 100).bind fun μ21 =>
  if a1 = (0 : Int32) then
    some (gI μ21 100 3, μ21)
  else if a1 = (1 : Int32) then
    (f_X6_holding μ21 100).bind fun v25 =>
    if v25 = 0 then
      some ((0 : Int32), μ21)
    else
      some (gI μ21 v25 0, μ21)
  else if a1 = (2 : Int32) then
    some (gI μ21 100 2, μ21)
  else if a1 = (3 : Int32) then
    (f_X2_goingOff μ21 100 (gI μ21 100 3)).bind fun v30 =>
    some (v30, μ21)
  else if a1 = (4 : Int32) then
    (f_X2_firstQuiet μ21 100).bind fun v33 =>
    some (v33, μ21)
  else if a1 = (5 : Int32) then
    (f_X2_total μ21 100 (5 : Int32)).bind fun v36 =>
    some (v36, μ21)
  else if a1 = (6 : Int32) then
    (f_X2_total μ21 100 (6 : Int32)).bind fun v39 =>
    some (v39, μ21)
  else 
    some ((-1 : Int32), μ21)
def f_X2_go_123 (k0 : Nat) (κ2 : Mem → Int32 → Int32 → Int32 → Option (Mem)) (κ44 : Mem → Int32 → Int32 → Int32 → Int32 → Int32 → Int32 → Option (Mem)) (μ_123 : Mem) (b1_123 : Int32) (b2_123 : Int32) (b3_123 : Int32) (b4_123 : Int32) (b5_123 : Int32) (b6_123 : Int32) : Option (Mem) :=
  (some (b6_123 + (1 : Int32))).bind fun v20 =>
  κ44 μ_123 b1_123 b2_123 b3_123 b4_123 b5_123 v20
def f_X2_go_117 (k0 : Nat) (κ2 : Mem → Int32 → Int32 → Int32 → Option (Mem)) (κ44 : Mem → Int32 → Int32 → Int32 → Int32 → Int32 → Int32 → Option (Mem)) (μ_117 : Mem) (b1_117 : Int32) (b2_117 : Int32) (b3_117 : Int32) (b4_117 : Int32) (b5_117 : Int32) (b6_117 : Int32) (s0_117 : Int32) (s1_117 : Int32) (s2_117 : Int32) (s3_117 : Nat) : Option (Mem) :=
  (stI μ_117 s3_117 14 s2_117 (if b2_117 < (s1_117 + s0_117) then b2_117 else (s1_117 + s0_117))).bind fun μ21 =>
  f_X2_go_123 k0 κ2 κ44 μ21 b1_117 b2_117 b3_117 b4_117 b5_117 b6_117
def f_X2_go_44 (k0 : Nat) (κ2 : Mem → Int32 → Int32 → Int32 → Option (Mem)) : Nat → Mem → Int32 → Int32 → Int32 → Int32 → Int32 → Int32 → Option (Mem)
  | 0, _, _, _, _, _, _, _ => none
  | n + 1, μ_44, b1_44, b2_44, b3_44, b4_44, b5_44, b6_44 =>
    if (gI μ_44 k0 0) ≤ b6_44 then
      (some (sI μ_44 k0 3 ((gI μ_44 k0 3) + (1 : Int32)))).bind fun μ23 =>
      (some (b3_44 + (1 : Int32))).bind fun v24 =>
      κ2 μ23 b1_44 b2_44 v24
    else
      if ((b4_44 >>> (b6_44 &&& 31)) &&& (1 : Int32)) = (1 : Int32) then
        (aix b6_44 6).bind fun j26 =>
        (aix b6_44 6).bind fun j27 =>
        (ldI μ_44 (k0 + 1 + 1 + j27) 14 (5 : Int32)).bind fun v28 =>
        (stI μ_44 (k0 + 1 + 1 + j26) 14 (5 : Int32) (if b2_44 < (v28 + (1 : Int32)) then b2_44 else (v28 + (1 : Int32)))).bind fun μ29 =>
        (aix b6_44 6).bind fun j30 =>
        (aix b6_44 6).bind fun j31 =>
        (ldI μ29 (k0 + 1 + 1 + j31) 14 (6 : Int32)).bind fun v32 =>
        if b5_44 = (0 : Int32) then
          f_X2_go_117 k0 κ2 (fun μ z0 z1 z2 z3 z4 z5 => f_X2_go_44 k0 κ2 n μ z0 z1 z2 z3 z4 z5) μ29 b1_44 b2_44 b3_44 b4_44 b5_44 b6_44 (0 : Int32) v32 (6 : Int32) (k0 + 1 + 1 + j30)
        else
          f_X2_go_117 k0 κ2 (fun μ z0 z1 z2 z3 z4 z5 => f_X2_go_44 k0 κ2 n μ z0 z1 z2 z3 z4 z5) μ29 b1_44 b2_44 b3_44 b4_44 b5_44 b6_44 (1 : Int32) v32 (6 : Int32) (k0 + 1 + 1 + j30)
      else
        f_X2_go_123 k0 κ2 (fun μ z0 z1 z2 z3 z4 z5 => f_X2_go_44 k0 κ2 n μ z0 z1 z2 z3 z4 z5) μ_44 b1_44 b2_44 b3_44 b4_44 b5_44 b6_44
def f_X2_go_39 (k0 : Nat) (κ2 : Mem → Int32 → Int32 → Int32 → Option (Mem)) (μ_39 : Mem) (b1_39 : Int32) (b2_39 : Int32) (b3_39 : Int32) (b4_39 : Int32) (s0_39 : Int32) : Option (Mem) :=
  f_X2_go_44 k0 κ2 FU μ_39 b1_39 b2_39 b3_39 b4_39 s0_39 (0 : Int32)
def f_X2_go_2 (k0 : Nat) : Nat → Mem → Int32 → Int32 → Int32 → Option (Mem)
  | 0, _, _, _, _ => none
  | n + 1, μ_2, b1_2, b2_2, b3_2 =>
    if b1_2 ≤ b3_2 then
      some μ_2
    else
      (f_X2_goingOff μ_2 k0 (gI μ_2 k0 3)).bind fun v35 =>
      (rmI (gI μ_2 k0 3) (7 : Int32)).bind fun v37 =>
      if (((gI μ_2 k0 2) >>> (v37 &&& 31)) &&& (1 : Int32)) = (0 : Int32) then
        f_X2_go_39 k0 (fun μ z0 z1 z2 => f_X2_go_2 k0 n μ z0 z1 z2) μ_2 b1_2 b2_2 b3_2 v35 (1 : Int32)
      else
        f_X2_go_39 k0 (fun μ z0 z1 z2 => f_X2_go_2 k0 n μ z0 z1 z2) μ_2 b1_2 b2_2 b3_2 v35 (0 : Int32)
def f_X2_go (μ : Mem) (k0 : Nat) (a1 : Int32) (a2 : Int32) : Option (Mem) :=
  f_X2_go_2 k0 FU μ a1 a2 (0 : Int32)
def f_X6_pass (μ : Mem) (a1 : Int32) : Option (Int32 × Mem) :=
  (f_X6_within μ a1.toInt64 (0 : Int64) (60 : Int64)).bind fun v9 =>
  if v9 = (0 : Int32) then
    some ((-2 : Int32), μ)
  else
    if ((gI μ 100 3) + a1) ≤ (99999 : Int32) then
      (f_X6_reckon μ 100).bind fun μ13 =>
      (f_X2_go μ13 100 a1 (9999 : Int32)).bind fun μ15 =>
      some (gI μ15 100 3, μ15)
    else
      some ((-3 : Int32), μ)
def f_X1_add (μ : Mem) (k0 : Nat) (n0 : Nat) (a1 : Int32) (a2 : Int32) (a3 : Int32) : Option (Int32 × Mem) :=
  if (gI μ k0 1) < (Int32.ofNat n0) then
    (aix (gI μ k0 1) n0).bind fun j8 =>
    (stI μ (k0 + 1 + 1 + j8) 3 (0 : Int32) a1).bind fun μ9 =>
    (stI μ9 (k0 + 1 + 1 + j8) 3 (1 : Int32) a2).bind fun μ10 =>
    (stI μ10 (k0 + 1 + 1 + j8) 3 (2 : Int32) a3).bind fun μ11 =>
    (some (sI μ11 k0 1 ((gI μ11 k0 1) + (1 : Int32)))).bind fun μ12 =>
    some (gI μ12 k0 1, μ12)
  else
    some ((-4 : Int32), μ)
def f_X1_becomes_7 (k0 : Nat) (n0 : Nat) (k1 : Nat) (n1 : Nat) : Nat → Mem → Int32 → Option (Mem)
  | 0, _, _ => none
  | n + 1, μ_7, b2_7 =>
    if (gI μ_7 k1 1) ≤ b2_7 then
      some μ_7
    else
      (aix b2_7 n1).bind fun j13 =>
      (ldI μ_7 (k1 + 1 + 1 + j13) 3 (0 : Int32)).bind fun v14 =>
      (ldI μ_7 (k1 + 1 + 1 + j13) 3 (1 : Int32)).bind fun v15 =>
      (ldI μ_7 (k1 + 1 + 1 + j13) 3 (2 : Int32)).bind fun v16 =>
      (f_X1_add μ_7 k0 n0 v14 v15 v16).bind fun p20 =>
      (some (b2_7 + (1 : Int32))).bind fun v21 =>
      f_X1_becomes_7 k0 n0 k1 n1 n p20.2 v21
def f_X1_becomes (μ : Mem) (k0 : Nat) (n0 : Nat) (k1 : Nat) (n1 : Nat) : Option (Mem) :=
  (some (sI μ k0 1 (0 : Int32))).bind fun μ22 =>
  f_X1_becomes_7 k0 n0 k1 n1 FU μ22 (0 : Int32)
def f_X2_becomes_10 (k0 : Nat) (k1 : Nat) : Nat → Mem → Int32 → Option (Mem)
  | 0, _, _ => none
  | n + 1, μ_10, b2_10 =>
    if (gI μ_10 k0 0) ≤ b2_10 then
      (some (sI μ_10 k0 2 (gI μ_10 k1 2))).bind fun μ17 =>
      (some (sI μ17 k0 3 (gI μ17 k1 3))).bind fun μ18 =>
      (some (sI μ18 k0 4 (gI μ18 k1 4))).bind fun μ19 =>
      (f_X1_becomes μ19 (k0 + 10) 6 (k1 + 10) 6).bind fun μ20 =>
      (f_X1_becomes μ20 (k0 + 30) 10 (k1 + 30) 10).bind fun μ22 =>
      (f_X1_becomes μ22 (k0 + 50) 8 (k1 + 50) 8).bind fun μ24 =>
      some μ24
    else
      (aix b2_10 6).bind fun j26 =>
      (aix b2_10 6).bind fun j27 =>
      (cpI μ_10 (k1 + 1 + 1 + j26) 14 (0 : Int32) (k0 + 1 + 1 + j27) 14 (0 : Int32) (14 : Int32)).bind fun μ28 =>
      (some (b2_10 + (1 : Int32))).bind fun v29 =>
      f_X2_becomes_10 k0 k1 n μ28 v29
def f_X2_becomes (μ : Mem) (k0 : Nat) (k1 : Nat) : Option (Mem) :=
  (some (sI μ k0 0 (gI μ k1 0))).bind fun μ30 =>
  f_X2_becomes_10 k0 k1 FU μ30 (0 : Int32)
def f_X6_tryDays (μ : Mem) (a1 : Int32) : Option (Mem) :=
  (f_X2_becomes μ 300 100).bind fun μ7 =>
  (f_X6_reckon μ7 300).bind fun μ9 =>
  (f_X2_go μ9 300 a1 (2147483647 : Int32)).bind fun μ11 =>
  some μ11
def f_X6_on_34 (μ_34 : Mem) (b1_34 : Int32) (b2_34 : Int32) : Option (Int32 × Mem) :=
  (f_X6_within μ_34 b1_34.toInt64 (0 : Int64) (60 : Int64)).bind fun v24 =>
  if v24 = (0 : Int32) then
    some ((-2 : Int32), μ_34)
  else
    (f_X6_tryDays μ_34 b1_34).bind fun μ27 =>
    if b2_34 = (0 : Int32) then
      (f_X2_goingOff μ27 300 (gI μ27 300 3)).bind fun v30 =>
      some (v30, μ27)
    else if b2_34 = (1 : Int32) then
      (f_X2_total μ27 300 (5 : Int32)).bind fun v33 =>
      some (v33, μ27)
    else if b2_34 = (2 : Int32) then
      (f_X2_total μ27 300 (6 : Int32)).bind fun v36 =>
      some (v36, μ27)
    else 
      (aix (b2_34 - (10 : Int32)) 6).bind fun j38 =>
      (ldI μ27 (300 + 1 + 1 + j38) 14 (5 : Int32)).bind fun v39 =>
      some (v39, μ27)
def f_X6_on (μ : Mem) (a1 : Int32) (a2 : Int32) : Option (Int32 × Mem) :=
  (f_X6_within μ a2.toInt64 (0 : Int64) (2 : Int64)).bind fun v40 =>
  if v40 = (0 : Int32) then
    if a2 < (10 : Int32) then
      some ((-1 : Int32), μ)
    else
      (f_X2_has μ 100 (a2 - (10 : Int32))).bind fun v44 =>
      if v44 = (0 : Int32) then
        some ((-1 : Int32), μ)
      else
        f_X6_on_34 μ a1 a2
  else
    f_X6_on_34 μ a1 a2
def f_X6_often (μ : Mem) (a1 : Int32) (a2 : Int64) : Option (Int64 × Mem) :=
  (f_X2_has μ 100 a1).bind fun v17 =>
  if v17 = (0 : Int32) then
    some ((-9223372036854775808 : Int64), μ)
  else
    (f_X6_within μ a2 (0 : Int64) (1000000000 : Int64)).bind fun v20 =>
    if v20 = (0 : Int32) then
      some ((-9223372036854775808 : Int64), μ)
    else
      (f_X6_reckon μ 100).bind fun μ23 =>
      (aix a1 6).bind fun j25 =>
      (ldI μ23 (100 + 1 + 1 + j25) 14 (9 : Int32)).bind fun v26 =>
      (aix a1 6).bind fun j27 =>
      (ldI μ23 (100 + 1 + 1 + j27) 14 (7 : Int32)).bind fun v28 =>
      if v26 < (0 : Int32) then
        some ((0 : Int64), μ23)
      else
        if (0 : Int32) ≤ (lg_cmp v26.toInt64 a2) then
          some ((0 : Int64), μ23)
        else
          if (1 : Int32) ≤ v28 then
            (dvL ((a2 - (1 : Int64)) - v26.toInt64) v28.toInt64).bind fun v32 =>
            some ((1 : Int64) + v32, μ23)
          else
            some ((0 : Int64), μ23)
def f_X6_commonRest_3 (μ : Mem) : Nat → Int64 → Int64 → Int64 → Int64 → Int64 → Option (Int64)
  | 0, _, _, _, _, _ => none
  | n + 1, b0_3, b2_3, b4_3, b6_3, b8_3 =>
    if (0 : Int32) ≤ (lg_cmp b8_3 b6_3) then
      some (-1 : Int64)
    else
      (some (b0_3 + (b8_3 * b2_3))).bind fun v7 =>
      (rmL (v7 - b4_3) b6_3).bind fun v8 =>
      if (lg_cmp v8 (0 : Int64)) = (0 : Int32) then
        some v7
      else
        (some (b8_3 + (1 : Int64))).bind fun v10 =>
        f_X6_commonRest_3 μ n b0_3 b2_3 b4_3 b6_3 v10
def f_X6_commonRest (μ : Mem) (a0 : Int64) (a2 : Int64) (a4 : Int64) (a6 : Int64) : Option (Int64) :=
  f_X6_commonRest_3 μ FU a0 a2 a4 a6 (0 : Int64)
def f_X6_commonDivisor_9 (μ : Mem) : Nat → Int64 → Int64 → Int32 → Option (Int64)
  | 0, _, _, _ => none
  | n + 1, b4_9, b6_9, b8_9 =>
    if (100 : Int32) ≤ b8_9 then
      some b4_9
    else
      if (lg_cmp b6_9 (0 : Int64)) = (0 : Int32) then
        some b4_9
      else
        (rmL b4_9 b6_9).bind fun v7 =>
        (some (b8_9 + (1 : Int32))).bind fun v8 =>
        f_X6_commonDivisor_9 μ n b6_9 v7 v8
def f_X6_commonDivisor (μ : Mem) (a0 : Int64) (a2 : Int64) : Option (Int64) :=
  f_X6_commonDivisor_9 μ FU a0 a2 (0 : Int32)
def f_X6_commonMultiple (μ : Mem) (a0 : Int64) (a2 : Int64) : Option (Int64) :=
  (f_X6_commonDivisor μ a0 a2).bind fun v5 =>
  if (0 : Int32) ≤ (lg_cmp v5 (1 : Int64)) then
    (dvL a0 v5).bind fun v8 =>
    some (v8 * a2)
  else
    some (1 : Int64)
def f_X2_meeting_92 (μ : Mem) (k0 : Nat) (κ8 : Int32 → Int32 → Int64 → Int64 → Int32 → Option (Int64)) (b1_92 : Int32) (b2_92 : Int32) (b3_92 : Int64) (b5_92 : Int64) (b7_92 : Int32) : Option (Int64) :=
  (some (b7_92 + (1 : Int32))).bind fun v18 =>
  κ8 b1_92 b2_92 b3_92 b5_92 v18
def f_X2_meeting_68 (μ : Mem) (k0 : Nat) (κ8 : Int32 → Int32 → Int64 → Int64 → Int32 → Option (Int64)) (b1_68 : Int32) (b2_68 : Int32) (b5_68 : Int64) (b7_68 : Int32) (b8_68 : Nat) (s0_68 : Int64) : Option (Int64) :=
  if (0 : Int32) ≤ (lg_cmp s0_68 (0 : Int64)) then
    (ldI μ b8_68 14 (7 : Int32)).bind fun v20 =>
    (f_X6_commonMultiple μ b5_68 v20.toInt64).bind fun v21 =>
    f_X2_meeting_92 μ k0 κ8 b1_68 b2_68 s0_68 v21 b7_68
  else
    some (-5 : Int64)
def f_X2_meeting_8 (μ : Mem) (k0 : Nat) : Nat → Int32 → Int32 → Int64 → Int64 → Int32 → Option (Int64)
  | 0, _, _, _, _, _ => none
  | n + 1, b1_8, b2_8, b3_8, b5_8, b7_8 =>
    if (gI μ k0 0) ≤ b7_8 then
      if b2_8 = (0 : Int32) then
        (f_X6_modulo μ (b3_8 - ((gI μ k0 3).toInt64)) b5_8).bind fun v25 =>
        some (((gI μ k0 3).toInt64) + v25)
      else
        some b5_8
    else
      if ((b1_8 >>> (b7_8 &&& 31)) &&& (1 : Int32)) = (1 : Int32) then
        (aix b7_8 6).bind fun j28 =>
        (ldI μ (k0 + 1 + 1 + j28) 14 (4 : Int32)).bind fun v29 =>
        if v29 = (1 : Int32) then
          f_X2_meeting_68 μ k0 (fun z0 z1 z2 z3 z4 => f_X2_meeting_8 μ k0 n z0 z1 z2 z3 z4) b1_8 b2_8 b5_8 b7_8 (k0 + 1 + 1 + j28) (-1 : Int64)
        else
          (ldI μ (k0 + 1 + 1 + j28) 14 (8 : Int32)).bind fun v31 =>
          (ldI μ (k0 + 1 + 1 + j28) 14 (7 : Int32)).bind fun v32 =>
          (f_X6_commonRest μ b3_8 b5_8 v31.toInt64 v32.toInt64).bind fun v33 =>
          f_X2_meeting_68 μ k0 (fun z0 z1 z2 z3 z4 => f_X2_meeting_8 μ k0 n z0 z1 z2 z3 z4) b1_8 b2_8 b5_8 b7_8 (k0 + 1 + 1 + j28) v33
      else
        f_X2_meeting_92 μ k0 (fun z0 z1 z2 z3 z4 => f_X2_meeting_8 μ k0 n z0 z1 z2 z3 z4) b1_8 b2_8 b3_8 b5_8 b7_8
def f_X2_meeting (μ : Mem) (k0 : Nat) (a1 : Int32) (a2 : Int32) : Option (Int64) :=
  f_X2_meeting_8 μ k0 FU a1 a2 (0 : Int64) (1 : Int64) (0 : Int32)
def f_X6_together_58 (μ_58 : Mem) (s0_58 : Int32) (s1_58 : Int32) : Option (Int64 × Mem) :=
  (f_X2_meeting μ_58 100 s1_58 s0_58).bind fun v12 =>
  some (v12, μ_58)
def f_X6_together (μ : Mem) (a1 : Int32) (a2 : Int32) : Option (Int64 × Mem) :=
  (f_X6_within μ a1.toInt64 (0 : Int64) ((((1 : Int32) <<< ((gI μ 100 0) &&& 31)) - (1 : Int32)).toInt64)).bind fun v14 =>
  if v14 = (0 : Int32) then
    some ((-9223372036854775808 : Int64), μ)
  else
    (f_X6_within μ a2.toInt64 (0 : Int64) (1 : Int64)).bind fun v17 =>
    if v17 = (0 : Int32) then
      some ((-9223372036854775808 : Int64), μ)
    else
      (f_X6_reckon μ 100).bind fun μ20 =>
      if a2 = (1 : Int32) then
        f_X6_together_58 μ20 (1 : Int32) a1
      else
        f_X6_together_58 μ20 (0 : Int32) a1
def f_X2_weekdays_36 (μ : Mem) (k0 : Nat) (κ4 : Int32 → Int32 → Int32 → Option (Int32)) (b1_36 : Int32) (b2_36 : Int32) (b3_36 : Int32) : Option (Int32) :=
  (some (b3_36 + (1 : Int32))).bind fun v8 =>
  κ4 b1_36 b2_36 v8
def f_X2_weekdays_4 (μ : Mem) (k0 : Nat) : Nat → Int32 → Int32 → Int32 → Option (Int32)
  | 0, _, _, _ => none
  | n + 1, b1_4, b2_4, b3_4 =>
    if b1_4 ≤ b3_4 then
      some b2_4
    else
      (f_X2_goingOff μ k0 ((gI μ k0 3) + b3_4)).bind fun v10 =>
      if v10 = (0 : Int32) then
        f_X2_weekdays_36 μ k0 (fun z0 z1 z2 => f_X2_weekdays_4 μ k0 n z0 z1 z2) b1_4 b2_4 b3_4
      else
        (rmI ((gI μ k0 3) + b3_4) (7 : Int32)).bind fun v13 =>
        (some (b2_4 ||| ((1 : Int32) <<< (v13 &&& 31)))).bind fun v14 =>
        f_X2_weekdays_36 μ k0 (fun z0 z1 z2 => f_X2_weekdays_4 μ k0 n z0 z1 z2) b1_4 v14 b3_4
def f_X2_weekdays (μ : Mem) (k0 : Nat) (a1 : Int32) : Option (Int32) :=
  f_X2_weekdays_4 μ k0 FU a1 (0 : Int32) (0 : Int32)
def f_J6_bitCount_0f7a4 (μ : Mem) (a0 : Int32) : Option (Int32) :=
  (some (a0 - (((a0.toUInt32 >>> ((1 : Int32).toUInt32 &&& Int32.toUInt32 31)).toInt32) &&& (1431655765 : Int32)))).bind fun v6 =>
  (some ((v6 &&& (858993459 : Int32)) + (((v6.toUInt32 >>> ((2 : Int32).toUInt32 &&& Int32.toUInt32 31)).toInt32) &&& (858993459 : Int32)))).bind fun v7 =>
  (some ((v7 + ((v7.toUInt32 >>> ((4 : Int32).toUInt32 &&& Int32.toUInt32 31)).toInt32)) &&& (252645135 : Int32))).bind fun v8 =>
  (some (v8 + ((v8.toUInt32 >>> ((8 : Int32).toUInt32 &&& Int32.toUInt32 31)).toInt32))).bind fun v9 =>
  (some (v9 + ((v9.toUInt32 >>> ((16 : Int32).toUInt32 &&& Int32.toUInt32 31)).toInt32))).bind fun v10 =>
  some (v10 &&& (63 : Int32))
def f_X2_busiest_44 (μ : Mem) (k0 : Nat) (κ8 : Int32 → Int32 → Int32 → Int32 → Int32 → Option (Int32)) (b1_44 : Int32) (b2_44 : Int32) (b3_44 : Int32) (b4_44 : Int32) (b5_44 : Int32) : Option (Int32) :=
  (some (b5_44 + (1 : Int32))).bind fun v9 =>
  κ8 b1_44 b2_44 b3_44 b4_44 v9
def f_X2_busiest_8 (μ : Mem) (k0 : Nat) : Nat → Int32 → Int32 → Int32 → Int32 → Int32 → Option (Int32)
  | 0, _, _, _, _, _ => none
  | n + 1, b1_8, b2_8, b3_8, b4_8, b5_8 =>
    if b1_8 ≤ b5_8 then
      if b2_8 = (0 : Int32) then
        some b3_8
      else
        some b4_8
    else
      (f_X2_goingOff μ k0 ((gI μ k0 3) + b5_8)).bind fun v12 =>
      (f_J6_bitCount_0f7a4 μ v12).bind fun v14 =>
      if v14 ≤ b4_8 then
        f_X2_busiest_44 μ k0 (fun z0 z1 z2 z3 z4 => f_X2_busiest_8 μ k0 n z0 z1 z2 z3 z4) b1_8 b2_8 b3_8 b4_8 b5_8
      else
        f_X2_busiest_44 μ k0 (fun z0 z1 z2 z3 z4 => f_X2_busiest_8 μ k0 n z0 z1 z2 z3 z4) b1_8 b2_8 b5_8 v14 b5_8
def f_X2_busiest (μ : Mem) (k0 : Nat) (a1 : Int32) (a2 : Int32) : Option (Int32) :=
  f_X2_busiest_8 μ k0 FU a1 a2 (0 : Int32) (0 : Int32) (0 : Int32)
def f_X6_busy_68 (μ_68 : Mem) (s0_68 : Int32) (s1_68 : Int32) : Option (Int32 × Mem) :=
  (f_X2_busiest μ_68 100 s1_68 s0_68).bind fun v15 =>
  some (v15, μ_68)
def f_X6_busy (μ : Mem) (a1 : Int32) (a2 : Int32) : Option (Int32 × Mem) :=
  (f_X6_within μ a2.toInt64 (0 : Int64) (2 : Int64)).bind fun v17 =>
  if v17 = (0 : Int32) then
    some ((-1 : Int32), μ)
  else
    (f_X6_within μ a1.toInt64 (1 : Int64) (60 : Int64)).bind fun v20 =>
    if v20 = (0 : Int32) then
      some ((-2 : Int32), μ)
    else
      (f_X6_reckon μ 100).bind fun μ23 =>
      if a2 = (2 : Int32) then
        (f_X2_weekdays μ23 100 a1).bind fun v27 =>
        some (v27, μ23)
      else
        if a2 = (1 : Int32) then
          f_X6_busy_68 μ23 (1 : Int32) a1
        else
          f_X6_busy_68 μ23 (0 : Int32) a1
def f_X1_empty (μ : Mem) (k0 : Nat) (n0 : Nat) : Option (Int32 × Mem) :=
  (some (sI μ k0 1 (0 : Int32))).bind fun μ2 =>
  some ((0 : Int32), μ2)
def f_X6_hear_62 (μ_62 : Mem) (s0_62 : Int32) (s1_62 : Int32) (s2_62 : Int32) : Option (Int32 × Mem) :=
  (f_X1_add μ_62 (100 + 10) 6 s2_62 s1_62 s0_62).bind fun p20 =>
  some (p20.1, p20.2)
def f_X6_hear (μ : Mem) (a1 : Int32) (a2 : Int32) (a3 : Int32) : Option (Int32 × Mem) :=
  if a1 = (-1 : Int32) then
    (f_X1_empty μ (100 + 10) 6).bind fun p32 =>
    some (p32.1, p32.2)
  else
    (f_X2_has μ 100 a1).bind fun v22 =>
    if v22 = (0 : Int32) then
      some ((-1 : Int32), μ)
    else
      (f_X6_within μ a2.toInt64 (0 : Int64) (60 : Int64)).bind fun v25 =>
      if v25 = (0 : Int32) then
        some ((-2 : Int32), μ)
      else
        if a3 = (0 : Int32) then
          f_X6_hear_62 μ (0 : Int32) a2 a1
        else
          f_X6_hear_62 μ (1 : Int32) a2 a1
def f_X2_agrees_60 (μ : Mem) (k0 : Nat) (κ2 : Int32 → Int32 → Option (Int32)) (b1_60 : Int32) (b2_60 : Int32) : Option (Int32) :=
  (some (b2_60 + (1 : Int32))).bind fun v12 =>
  κ2 b1_60 v12
def f_X2_agrees_55 (μ : Mem) (k0 : Nat) (κ2 : Int32 → Int32 → Option (Int32)) (b1_55 : Int32) (b2_55 : Int32) (s0_55 : Int32) (s1_55 : Int32) : Option (Int32) :=
  if s1_55 = s0_55 then
    f_X2_agrees_60 μ k0 κ2 b1_55 b2_55
  else
    some (0 : Int32)
def f_X2_agrees_2 (μ : Mem) (k0 : Nat) : Nat → Int32 → Int32 → Option (Int32)
  | 0, _, _ => none
  | n + 1, b1_2, b2_2 =>
    if (gI μ (k0 + 10) 1) ≤ b2_2 then
      some (1 : Int32)
    else
      (aix b2_2 6).bind fun j15 =>
      (ldI μ ((k0 + 10) + 1 + 1 + j15) 3 (0 : Int32)).bind fun v16 =>
      if v16 = b1_2 then
        (ldI μ ((k0 + 10) + 1 + 1 + j15) 3 (1 : Int32)).bind fun v18 =>
        (f_X2_isDue μ k0 b1_2 ((gI μ k0 3) + v18)).bind fun v19 =>
        (ldI μ ((k0 + 10) + 1 + 1 + j15) 3 (2 : Int32)).bind fun v21 =>
        if v21 = (1 : Int32) then
          f_X2_agrees_55 μ k0 (fun z0 z1 => f_X2_agrees_2 μ k0 n z0 z1) b1_2 b2_2 (1 : Int32) v19
        else
          f_X2_agrees_55 μ k0 (fun z0 z1 => f_X2_agrees_2 μ k0 n z0 z1) b1_2 b2_2 (0 : Int32) v19
      else
        f_X2_agrees_60 μ k0 (fun z0 z1 => f_X2_agrees_2 μ k0 n z0 z1) b1_2 b2_2
def f_X2_agrees (μ : Mem) (k0 : Nat) (a1 : Int32) : Option (Int32) :=
  f_X2_agrees_2 μ k0 FU a1 (0 : Int32)
def f_X6_fitting_79 (κ27 : Mem → Int32 → Int32 → Int32 → Int32 → Nat → Int32 → Int32 → Option (Int32 × Mem)) (μ_79 : Mem) (b1_79 : Int32) (b2_79 : Int32) (b4_79 : Int32) (b5_79 : Int32) (b6_79 : Nat) (b7_79 : Int32) (b8_79 : Int32) : Option (Int32 × Mem) :=
  (some (b8_79 + (1 : Int32))).bind fun v17 =>
  κ27 μ_79 b1_79 b2_79 b4_79 b5_79 b6_79 b7_79 v17
def f_X6_fitting_27 : Nat → Mem → Int32 → Int32 → Int32 → Int32 → Nat → Int32 → Int32 → Option (Int32 × Mem)
  | 0, _, _, _, _, _, _, _, _ => none
  | n + 1, μ_27, b1_27, b2_27, b4_27, b5_27, b6_27, b7_27, b8_27 =>
    if b4_27 < b8_27 then
      if b5_27 = (0 : Int32) then
        some ((-5 : Int32), μ_27)
      else
        some (b7_27, μ_27)
    else
      (aix b1_27 6).bind fun j20 =>
      (stI μ_27 (300 + 1 + 1 + j20) 14 b2_27 b8_27).bind fun μ21 =>
      (f_X2_reckonOne μ21 300 b1_27 b6_27).bind fun μ22 =>
      (f_X2_agrees μ22 300 b1_27).bind fun v24 =>
      if v24 = (0 : Int32) then
        f_X6_fitting_79 (fun μ z0 z1 z2 z3 z4 z5 z6 => f_X6_fitting_27 n μ z0 z1 z2 z3 z4 z5 z6) μ22 b1_27 b2_27 b4_27 b5_27 b6_27 b7_27 b8_27
      else
        if b5_27 = (0 : Int32) then
          some (b8_27, μ22)
        else
          (some (b7_27 + (1 : Int32))).bind fun v28 =>
          f_X6_fitting_79 (fun μ z0 z1 z2 z3 z4 z5 z6 => f_X6_fitting_27 n μ z0 z1 z2 z3 z4 z5 z6) μ22 b1_27 b2_27 b4_27 b5_27 b6_27 v28 b8_27
def f_X6_fitting (μ : Mem) (a1 : Int32) (a2 : Int32) (a3 : Int32) (a4 : Int32) (a5 : Int32) : Option (Int32 × Mem) :=
  (f_X2_becomes μ 300 100).bind fun μ29 =>
  (f_X6_holding μ29 300).bind fun v31 =>
  f_X6_fitting_27 FU μ29 a1 a2 a4 a5 v31 (0 : Int32) a3
def f_X6_can_44 (μ_44 : Mem) (b1_44 : Int32) (b2_44 : Int32) (s0_44 : Int32) : Option (Int32 × Mem) :=
  if b2_44 = (0 : Int32) then
    (f_X6_fitting μ_44 b1_44 (3 : Int32) (0 : Int32) (29 : Int32) s0_44).bind fun p29 =>
    some (p29.1, p29.2)
  else if b2_44 = (1 : Int32) then
    (f_X6_fitting μ_44 b1_44 (2 : Int32) (1 : Int32) (30 : Int32) s0_44).bind fun p34 =>
    some (p34.1, p34.2)
  else 
    (f_X6_fitting μ_44 b1_44 (1 : Int32) (0 : Int32) (9 : Int32) s0_44).bind fun p38 =>
    some (p38.1, p38.2)
def f_X6_can (μ : Mem) (a1 : Int32) (a2 : Int32) (a3 : Int32) : Option (Int32 × Mem) :=
  (f_X2_has μ 100 a1).bind fun v39 =>
  if v39 = (0 : Int32) then
    some ((-1 : Int32), μ)
  else
    (f_X6_within μ a2.toInt64 (0 : Int64) (2 : Int64)).bind fun v42 =>
    if v42 = (0 : Int32) then
      some ((-1 : Int32), μ)
    else
      (f_X6_within μ a3.toInt64 (0 : Int64) (1 : Int64)).bind fun v45 =>
      if v45 = (0 : Int32) then
        some ((-1 : Int32), μ)
      else
        if a3 = (0 : Int32) then
          f_X6_can_44 μ a1 a2 (1 : Int32)
        else
          f_X6_can_44 μ a1 a2 (0 : Int32)
def f_X2_round_38 (μ : Mem) (k0 : Nat) (κ4 : Int64 → Int32 → Option (Int64)) (b1_38 : Int64) (b3_38 : Int32) : Option (Int64) :=
  (some (b3_38 + (1 : Int32))).bind fun v10 =>
  κ4 b1_38 v10
def f_X2_round_4 (μ : Mem) (k0 : Nat) : Nat → Int64 → Int32 → Option (Int64)
  | 0, _, _ => none
  | n + 1, b1_4, b3_4 =>
    if (gI μ k0 0) ≤ b3_4 then
      some b1_4
    else
      (aix b3_4 6).bind fun j12 =>
      (ldI μ (k0 + 1 + 1 + j12) 14 (4 : Int32)).bind fun v13 =>
      if v13 = (0 : Int32) then
        (aix b3_4 6).bind fun j15 =>
        (ldI μ (k0 + 1 + 1 + j15) 14 (7 : Int32)).bind fun v16 =>
        (f_X6_commonMultiple μ b1_4 v16.toInt64).bind fun v17 =>
        f_X2_round_38 μ k0 (fun z0 z1 => f_X2_round_4 μ k0 n z0 z1) v17 b3_4
      else
        f_X2_round_38 μ k0 (fun z0 z1 => f_X2_round_4 μ k0 n z0 z1) b1_4 b3_4
def f_X2_round (μ : Mem) (k0 : Nat) : Option (Int64) :=
  f_X2_round_4 μ k0 FU (1 : Int64) (0 : Int32)
def b_X2_quietDays (G : (Mem → Nat → Int64 → Int32 → Int64 → Int64 → Option (Int64))) (μ : Mem) (k0 : Nat) (a1 : Int64) (a3 : Int32) (a4 : Int64) (a6 : Int64) : Option (Int64) :=
  if (0 : Int32) ≤ (lg_cmp a6 (1 : Int64)) then
    (f_X2_has μ k0 a3).bind fun v22 =>
    if v22 = (0 : Int32) then
      (dvL a1 a6).bind fun v40 =>
      some v40
    else
      (G μ k0 a1 (a3 + (1 : Int32)) a4 a6).bind fun v25 =>
      (aix a3 6).bind fun j27 =>
      (ldI μ (k0 + 1 + 1 + j27) 14 (4 : Int32)).bind fun v28 =>
      if v28 = (1 : Int32) then
        some v25
      else
        (ldI μ (k0 + 1 + 1 + j27) 14 (8 : Int32)).bind fun v30 =>
        (ldI μ (k0 + 1 + 1 + j27) 14 (7 : Int32)).bind fun v31 =>
        (f_X6_commonRest μ a4 a6 v30.toInt64 v31.toInt64).bind fun v32 =>
        if (0 : Int32) ≤ (lg_cmp v32 (0 : Int64)) then
          (ldI μ (k0 + 1 + 1 + j27) 14 (7 : Int32)).bind fun v35 =>
          (f_X6_commonMultiple μ a6 v35.toInt64).bind fun v36 =>
          (G μ k0 a1 (a3 + (1 : Int32)) v32 v36).bind fun v38 =>
          some (v25 - v38)
        else
          some v25
  else
    some (0 : Int64)
def G_quiet : Nat → (Mem → Nat → Int64 → Int32 → Int64 → Int64 → Option (Int64))
  | 0 => fun _ _ _ _ _ _ => none
  | d + 1 => b_X2_quietDays (G_quiet d)
def f_X2_quietDays : Mem → Nat → Int64 → Int32 → Int64 → Int64 → Option (Int64) := (G_quiet 8)
def f_X6_inLowestTerms (μ : Mem) (a0 : Int64) (a2 : Int64) (a4 : Int32) : Option (Int64) :=
  (f_X6_commonDivisor μ a0 a2).bind fun v7 =>
  if (0 : Int32) ≤ (lg_cmp v7 (1 : Int64)) then
    if a4 = (0 : Int32) then
      (dvL a0 v7).bind fun v12 =>
      some v12
    else
      (dvL a2 v7).bind fun v11 =>
      some v11
  else
    some (0 : Int64)
def f_X6_odds (μ : Mem) (a1 : Int32) : Option (Int64 × Mem) :=
  (f_X6_within μ a1.toInt64 (0 : Int64) (1 : Int64)).bind fun v12 =>
  if v12 = (0 : Int32) then
    some ((-9223372036854775808 : Int64), μ)
  else
    (f_X6_reckon μ 100).bind fun μ15 =>
    (f_X2_round μ15 100).bind fun v17 =>
    (f_X2_quietDays μ15 100 v17 (0 : Int32) (0 : Int64) (1 : Int64)).bind fun v19 =>
    (f_X6_inLowestTerms μ15 v19 v17 a1).bind fun v21 =>
    some (v21, μ15)
def f_X6_mean (μ : Mem) (a1 : Int32) (a2 : Int32) : Option (Int64 × Mem) :=
  (f_X6_within μ a1.toInt64 (0 : Int64) (60 : Int64)).bind fun v14 =>
  if v14 = (0 : Int32) then
    some ((-9223372036854775808 : Int64), μ)
  else
    (f_X6_within μ a2.toInt64 (0 : Int64) (1 : Int64)).bind fun v17 =>
    if v17 = (0 : Int32) then
      some ((-9223372036854775808 : Int64), μ)
    else
      if (gI μ 100 0) = (0 : Int32) then
        some ((-9223372036854775808 : Int64), μ)
      else
        (f_X6_tryDays μ a1).bind fun μ21 =>
        (f_X2_total μ21 300 (5 : Int32)).bind fun v23 =>
        (f_X6_inLowestTerms μ21 v23.toInt64 ((gI μ21 100 0).toInt64) a2).bind fun v25 =>
        some (v25, μ21)
def f_X6_plan_73 (μ_73 : Mem) (b1_73 : Int32) (b2_73 : Int32) : Option (Int32 × Mem) :=
  (f_X1_add μ_73 (100 + 30) 10 b1_73 b2_73 (0 : Int32)).bind fun p25 =>
  some (p25.1, p25.2)
def f_X6_plan_53 (μ_53 : Mem) (b1_53 : Int32) (b2_53 : Int32) : Option (Int32 × Mem) :=
  if b1_53 = (3 : Int32) then
    (f_X6_within μ_53 b2_53.toInt64 (0 : Int64) (127 : Int64)).bind fun v27 =>
    if v27 = (0 : Int32) then
      some ((-2 : Int32), μ_53)
    else
      f_X6_plan_73 μ_53 b1_53 b2_53
  else
    f_X6_plan_73 μ_53 b1_53 b2_53
def f_X6_plan_40 (μ_40 : Mem) (b1_40 : Int32) (b2_40 : Int32) : Option (Int32 × Mem) :=
  (f_X2_has μ_40 100 b2_40).bind fun v30 =>
  if v30 = (0 : Int32) then
    some ((-1 : Int32), μ_40)
  else
    f_X6_plan_53 μ_40 b1_40 b2_40
def f_X6_plan (μ : Mem) (a1 : Int32) (a2 : Int32) : Option (Int32 × Mem) :=
  if a1 = (-1 : Int32) then
    (f_X1_empty μ (100 + 30) 10).bind fun p42 =>
    some (p42.1, p42.2)
  else
    (f_X6_within μ a1.toInt64 (0 : Int64) (3 : Int64)).bind fun v34 =>
    if v34 = (0 : Int32) then
      some ((-1 : Int32), μ)
    else
      if a1 = (1 : Int32) then
        f_X6_plan_40 μ a1 a2
      else
        if a1 = (2 : Int32) then
          f_X6_plan_40 μ a1 a2
        else
          f_X6_plan_53 μ a1 a2
def f_X6_tryRow_98 (k1 : Nat) (μ_98 : Mem) (s0_98 : Int32) (s1_98 : Int32) (s2_98 : Nat) : Option (Mem) :=
  (stI μ_98 s2_98 14 s1_98 s0_98).bind fun μ17 =>
  some μ17
def f_X6_tryRow (μ : Mem) (k1 : Nat) : Option (Mem) :=
  (ldI μ k1 3 (1 : Int32)).bind fun v18 =>
  (ldI μ k1 3 (0 : Int32)).bind fun v19 =>
  if v19 = (0 : Int32) then
    (f_X6_reckon μ 300).bind fun μ21 =>
    (f_X2_go μ21 300 (1 : Int32) (2147483647 : Int32)).bind fun μ23 =>
    some μ23
  else if v19 = (3 : Int32) then
    (some (sI μ 300 2 v18)).bind fun μ26 =>
    some μ26
  else 
    (f_X2_has μ 300 v18).bind fun v27 =>
    if v27 = (0 : Int32) then
      some μ
    else
      (aix v18 6).bind fun j30 =>
      (ldI μ k1 3 (0 : Int32)).bind fun v31 =>
      if v31 = (1 : Int32) then
        f_X6_tryRow_98 k1 μ (1 : Int32) (4 : Int32) (300 + 1 + 1 + j30)
      else
        f_X6_tryRow_98 k1 μ (0 : Int32) (4 : Int32) (300 + 1 + 1 + j30)
def f_X6_ends_75 (μ_75 : Mem) (s0_75 : Int32) : Option (Int32 × Mem) :=
  (f_X2_total μ_75 300 s0_75).bind fun v14 =>
  some (v14, μ_75)
def f_X6_ends_25 : Nat → Mem → Int32 → Int32 → Option (Int32 × Mem)
  | 0, _, _, _ => none
  | n + 1, μ_25, b1_25, b2_25 =>
    if (gI μ_25 (100 + 30) 1) ≤ b2_25 then
      if b1_25 = (0 : Int32) then
        f_X6_ends_75 μ_25 (5 : Int32)
      else
        f_X6_ends_75 μ_25 (6 : Int32)
    else
      (aix b2_25 10).bind fun j18 =>
      (f_X6_tryRow μ_25 ((100 + 30) + 1 + 1 + j18)).bind fun μ19 =>
      (some (b2_25 + (1 : Int32))).bind fun v21 =>
      f_X6_ends_25 n μ19 b1_25 v21
def f_X6_ends (μ : Mem) (a1 : Int32) : Option (Int32 × Mem) :=
  (f_X6_within μ a1.toInt64 (0 : Int64) (1 : Int64)).bind fun v22 =>
  if v22 = (0 : Int32) then
    some ((-1 : Int32), μ)
  else
    (f_X2_becomes μ 300 100).bind fun μ25 =>
    f_X6_ends_25 FU μ25 a1 (0 : Int32)
def f_X6_book (μ : Mem) (a1 : Int32) (a2 : Int32) : Option (Int32 × Mem) :=
  if a1 = (-1 : Int32) then
    (f_X1_empty μ (100 + 50) 8).bind fun p30 =>
    some (p30.1, p30.2)
  else
    (f_X2_has μ 100 a1).bind fun v17 =>
    if v17 = (0 : Int32) then
      some ((-1 : Int32), μ)
    else
      (f_X6_within μ a2.toInt64 (0 : Int64) (9999 : Int64)).bind fun v20 =>
      if v20 = (0 : Int32) then
        some ((-2 : Int32), μ)
      else
        (f_X1_add μ (100 + 50) 8 a1 a2 (0 : Int32)).bind fun p26 =>
        some (p26.1, p26.2)
def f_X6_looked_63 (μ : Mem) (κ2 : Int32 → Option (Int32)) (b1_63 : Int32) : Option (Int32) :=
  (some (b1_63 + (1 : Int32))).bind fun v13 =>
  κ2 v13
def f_X6_looked_2 (μ : Mem) : Nat → Int32 → Option (Int32)
  | 0, _ => none
  | n + 1, b1_2 =>
    if (gI μ (100 + 50) 1) ≤ b1_2 then
      some (-5 : Int32)
    else
      (aix b1_2 8).bind fun j15 =>
      (ldI μ ((100 + 50) + 1 + 1 + j15) 3 (0 : Int32)).bind fun v16 =>
      (f_X2_has μ 100 v16).bind fun v17 =>
      if v17 = (0 : Int32) then
        f_X6_looked_63 μ (fun z0 => f_X6_looked_2 μ n z0) b1_2
      else
        (ldI μ ((100 + 50) + 1 + 1 + j15) 3 (0 : Int32)).bind fun v20 =>
        (aix v20 6).bind fun j21 =>
        (ldI μ (100 + 1 + 1 + j21) 14 (5 : Int32)).bind fun v22 =>
        (ldI μ ((100 + 50) + 1 + 1 + j15) 3 (1 : Int32)).bind fun v23 =>
        if v22 = v23 then
          f_X6_looked_63 μ (fun z0 => f_X6_looked_2 μ n z0) b1_2
        else
          some b1_2
def f_X6_looked (μ : Mem) : Option (Int32) :=
  f_X6_looked_2 μ FU (0 : Int32)
def f_X6_judge_42 (μ : Mem) : Nat → Int32 → Nat → Int32 → Option (Int32)
  | 0, _, _, _ => none
  | n + 1, b2_42, b3_42, b4_42 =>
    if (gI μ 100 0) ≤ b4_42 then
      some (-5 : Int32)
    else
      (some (b2_42.toInt64 + b4_42.toInt64)).bind fun v17 =>
      if b2_42 < (0 : Int32) then
        some ((100 : Int32) + b4_42)
      else
        if (lg_cmp v17 ((gI μ b3_42 1).toInt64)) < (0 : Int32) then
          (ldL μ (b3_42 + 1) 60 v17.toInt32).bind fun v20 =>
          (aix b4_42 6).bind fun j21 =>
          (ldI μ (100 + 1 + 1 + j21) 14 (5 : Int32)).bind fun v22 =>
          if (lg_cmp v20 v22.toInt64) = (0 : Int32) then
            (some (b4_42 + (1 : Int32))).bind fun v24 =>
            f_X6_judge_42 μ n b2_42 b3_42 v24
          else
            some b4_42
        else
          some ((100 : Int32) + b4_42)
def f_X6_judge_39 (μ : Mem) (b2_39 : Int32) (b3_39 : Nat) : Option (Int32) :=
  f_X6_judge_42 μ FU b2_39 b3_39 (0 : Int32)
def f_X6_judge (μ : Mem) (a1 : Int32) (a2 : Int32) : Option (Int32) :=
  (f_X6_within μ a1.toInt64 (0 : Int64) (5 : Int64)).bind fun v25 =>
  if v25 = (0 : Int32) then
    some (-1 : Int32)
  else
    (aix a1 6).bind fun j28 =>
    if (gI μ (1100 + 2 * j28) 0) < (0 : Int32) then
      f_X6_judge_39 μ a2 (1100 + 2 * j28)
    else
      if (gI μ (1100 + 2 * j28) 0) = (3 : Int32) then
        f_X6_judge_39 μ a2 (1100 + 2 * j28)
      else
        some (-12 : Int32)
def f_X6_image (μ : Mem) : Option (Int32 × Mem) :=
  (f_X2_becomes μ 200 100).bind fun μ4 =>
  (some (sI μ4 1 3 (1 : Int32))).bind fun μ6 =>
  some (gI μ6 100 0, μ6)
def f_X6_undo (μ : Mem) : Option (Int32 × Mem) :=
  if (gI μ 1 3) = (0 : Int32) then
    some ((-3 : Int32), μ)
  else
    (f_X2_becomes μ 100 200).bind fun μ5 =>
    some (gI μ5 100 0, μ5)
def f_X0_withBody_4 (μ : Mem) : Nat → Int32 → Int32 → Int32 → Option (Int32)
  | 0, _, _, _ => none
  | n + 1, b1_4, b2_4, b3_4 =>
    if (7 : Int32) ≤ b3_4 then
      some (-1 : Int32)
    else
      (f_X6_within μ b2_4.toInt64 (0 : Int64) (6 : Int64)).bind fun v10 =>
      if v10 = (0 : Int32) then
        some (-1 : Int32)
      else
        (ldF fBO 21 ((b2_4 * (3 : Int32)) + b1_4)).bind fun v13 =>
        if v13 = (0 : Int32) then
          (ldF fAB 7 b2_4).bind fun v15 =>
          (some (b3_4 + (1 : Int32))).bind fun v16 =>
          f_X0_withBody_4 μ n b1_4 v15 v16
        else
          some b2_4
def f_X0_withBody (μ : Mem) (a0 : Int32) (a1 : Int32) : Option (Int32) :=
  f_X0_withBody_4 μ FU a1 a0 (0 : Int32)
def f_X0_begin_19 (μ_19 : Mem) : Option (Mem) :=
  (some (sI μ_19 5 1 ((gI μ_19 5 1) + (1 : Int32)))).bind fun μ4 =>
  some μ4
def f_X0_begin (μ : Mem) (a1 : Int32) : Option (Mem) :=
  if (20 : Int32) ≤ (gI μ 5 1) then
    f_X0_begin_19 μ
  else
    (stI μ 6 20 (gI μ 5 1) a1).bind fun μ6 =>
    f_X0_begin_19 μ6
def b_X0_own (G : (Mem → Int32 → Int32 → Int32 → Option (Int32 × Mem)) × (Mem → Int32 → Int32 → Int32 → Int32 → Option (Int32 × Mem))) (μ : Mem) (a1 : Int32) (a2 : Int32) (a3 : Int32) : Option (Int32 × Mem) :=
  (G.2 μ (gI μ 5 2) a1 a2 a3).bind fun p8 =>
  some (p8.1, p8.2)
def b_X0_run (G : (Mem → Int32 → Int32 → Int32 → Option (Int32 × Mem)) × (Mem → Int32 → Int32 → Int32 → Int32 → Option (Int32 × Mem))) (μ : Mem) (a1 : Int32) (a2 : Int32) (a3 : Int32) (a4 : Int32) : Option (Int32 × Mem) :=
  (f_X0_withBody μ a1 a2).bind fun v69 =>
  if v69 < (0 : Int32) then
    some ((0 : Int32), μ)
  else
    if a4 ≤ (20 : Int32) then
      (ldF fBO 21 ((v69 * (3 : Int32)) + a2)).bind fun v73 =>
      (ldF fAB 7 v69).bind fun v74 =>
      (some (a4 + (1 : Int32))).bind fun v75 =>
      (f_X0_begin μ v73).bind fun μ76 =>
      if v73 = (10 : Int32) then
        some (a3 + (gI μ76 5 4), μ76)
      else if v73 = (11 : Int32) then
        (G.1 μ76 (0 : Int32) a3 v75).bind fun p83 =>
        some (p83.1 - (gI p83.2 5 3), p83.2)
      else if v73 = (12 : Int32) then
        (G.1 μ76 (1 : Int32) a3 v75).bind fun p88 =>
        some (p88.1 * (2 : Int32), p88.2)
      else if v73 = (20 : Int32) then
        (G.2 μ76 v74 (1 : Int32) a3 v75).bind fun p93 =>
        some (p93.1 ^^^ (6 : Int32), p93.2)
      else if v73 = (30 : Int32) then
        (G.2 μ76 v74 (0 : Int32) (a3 * (3 : Int32)) v75).bind fun p98 =>
        some (p98.1, p98.2)
      else if v73 = (40 : Int32) then
        (G.2 μ76 v74 (2 : Int32) a3 v75).bind fun p103 =>
        (G.1 p103.2 (1 : Int32) (1 : Int32) v75).bind fun p107 =>
        some (p103.1 + p107.1, p107.2)
      else if v73 = (50 : Int32) then
        (G.2 μ76 v74 (0 : Int32) a3 v75).bind fun p112 =>
        some (-p112.1, p112.2)
      else if v73 = (51 : Int32) then
        (G.2 μ76 v74 (1 : Int32) (a3 + (1 : Int32)) v75).bind fun p117 =>
        some (p117.1, p117.2)
      else if v73 = (60 : Int32) then
        (G.2 μ76 v74 (2 : Int32) (a3 - (gI μ76 5 4)) v75).bind fun p122 =>
        some (p122.1, p122.2)
      else if v73 = (70 : Int32) then
        (G.2 μ76 v74 (1 : Int32) a3 v75).bind fun p127 =>
        (G.2 p127.2 v74 (0 : Int32) (2 : Int32) v75).bind fun p131 =>
        some (p127.1 + p131.1, p131.2)
      else if v73 = (71 : Int32) then
        (G.2 μ76 v74 (0 : Int32) a3 v75).bind fun p136 =>
        some (p136.1 ^^^ (gI p136.2 5 3), p136.2)
      else 
        some ((0 : Int32), μ76)
    else
      some ((0 : Int32), μ)
def G_acts : Nat → (Mem → Int32 → Int32 → Int32 → Option (Int32 × Mem)) × (Mem → Int32 → Int32 → Int32 → Int32 → Option (Int32 × Mem))
  | 0 => (fun _ _ _ _ => none, fun _ _ _ _ _ => none)
  | d + 1 => (b_X0_own (G_acts d), b_X0_run (G_acts d))
def f_X0_own : Mem → Int32 → Int32 → Int32 → Option (Int32 × Mem) := (G_acts 40).1
def f_X0_run : Mem → Int32 → Int32 → Int32 → Int32 → Option (Int32 × Mem) := (G_acts 40).2
def f_X0_perform (μ : Mem) (k1 : Nat) (a2 : Int32) (a3 : Int32) (a4 : Int32) : Option (Int32 × Mem) :=
  (ldI μ k1 14 (0 : Int32)).bind fun v10 =>
  (some (sI μ 5 2 v10)).bind fun μ11 =>
  (ldI μ11 k1 14 (1 : Int32)).bind fun v12 =>
  (some (sI μ11 5 3 v12)).bind fun μ13 =>
  (some (sI μ13 5 4 a2)).bind fun μ14 =>
  (f_X0_own μ14 a3 a4 (0 : Int32)).bind fun p18 =>
  some (p18.1, p18.2)
def f_X6_act (μ : Mem) (a1 : Int32) (a2 : Int32) (a3 : Int32) : Option (Int32 × Mem) :=
  (some (sI μ 5 1 (0 : Int32))).bind fun μ13 =>
  (f_X2_has μ13 100 a1).bind fun v14 =>
  if v14 = (0 : Int32) then
    some ((0 : Int32), μ13)
  else
    (f_X6_within μ13 a2.toInt64 (0 : Int64) (2 : Int64)).bind fun v17 =>
    if v17 = (0 : Int32) then
      some ((0 : Int32), μ13)
    else
      (aix a1 6).bind fun j20 =>
      (f_X0_perform μ13 (100 + 1 + 1 + j20) a1 a2 a3).bind fun p24 =>
      some (p24.1, p24.2)
def f_X6_trace (μ : Mem) (a1 : Int32) : Option (Int32) :=
  (f_X6_within μ a1.toInt64 (0 : Int64) (((if (20 : Int32) < (gI μ 5 1) then (20 : Int32) else (gI μ 5 1)) - (1 : Int32)).toInt64)).bind fun v5 =>
  if v5 = (0 : Int32) then
    some (-1 : Int32)
  else
    (ldI μ 6 20 a1).bind fun v8 =>
    some v8
def f_X6_isUnder_4 (μ : Mem) : Nat → Int32 → Int32 → Int32 → Option (Int32)
  | 0, _, _, _ => none
  | n + 1, b1_4, b2_4, b3_4 =>
    if (7 : Int32) ≤ b3_4 then
      some (0 : Int32)
    else
      if b2_4 < (0 : Int32) then
        some (0 : Int32)
      else
        if b2_4 = b1_4 then
          some (1 : Int32)
        else
          (ldF fAB 7 b2_4).bind fun v9 =>
          (some (b3_4 + (1 : Int32))).bind fun v10 =>
          f_X6_isUnder_4 μ n b1_4 v9 v10
def f_X6_isUnder (μ : Mem) (a0 : Int32) (a1 : Int32) : Option (Int32) :=
  f_X6_isUnder_4 μ FU a1 a0 (0 : Int32)
def f_X6_taken (μ : Mem) (a1 : Int32) (a2 : Int32) : Option (Int32) :=
  (f_X6_within μ a2.toInt64 (0 : Int64) (6 : Int64)).bind fun v12 =>
  if v12 = (0 : Int32) then
    some (-2 : Int32)
  else
    (f_X2_has μ 100 a1).bind fun v15 =>
    if v15 = (0 : Int32) then
      some (-11 : Int32)
    else
      (aix a1 6).bind fun j18 =>
      (ldI μ (100 + 1 + 1 + j18) 14 (0 : Int32)).bind fun v19 =>
      (f_X6_isUnder μ v19 a2).bind fun v20 =>
      if v20 = (0 : Int32) then
        some (-12 : Int32)
      else
        some v19
def f_X6_count (μ : Mem) (a1 : Int32) : Option (Int32) :=
  if a1 = (0 : Int32) then
    some (gI μ 100 0)
  else if a1 = (1 : Int32) then
    some (gI μ 1 6)
  else if a1 = (2 : Int32) then
    some (gI μ (100 + 10) 1)
  else if a1 = (3 : Int32) then
    some (gI μ (100 + 30) 1)
  else if a1 = (4 : Int32) then
    some (gI μ (100 + 50) 1)
  else if a1 = (5 : Int32) then
    some (gI μ 2 1)
  else if a1 = (6 : Int32) then
    some (gI μ 5 1)
  else 
    some (-2 : Int32)
def f_J7_fill_d0a16_6 (k0 : Nat) : Nat → Mem → Int64 → Int32 → Int32 → Option (Mem)
  | 0, _, _, _, _ => none
  | n + 1, μ_6, b1_6, b3_6, b4_6 =>
    if b4_6 ≤ b3_6 then
      some μ_6
    else
      (stL μ_6 k0 60 b3_6 b1_6).bind fun μ5 =>
      (some (b3_6 + (1 : Int32))).bind fun v6 =>
      f_J7_fill_d0a16_6 k0 n μ5 b1_6 v6 b4_6
def f_J7_fill_d0a16 (μ : Mem) (k0 : Nat) (a1 : Int64) : Option (Mem) :=
  f_J7_fill_d0a16_6 k0 FU μ a1 (0 : Int32) (60 : Int32)
def f_X4_becomes (μ : Mem) (k0 : Nat) (a1 : Int32) (a2 : Int32) : Option (Mem) :=
  (some (sI μ k0 0 a1)).bind fun μ5 =>
  (some (sI μ5 k0 1 (if (60 : Int32) < a2 then (60 : Int32) else a2))).bind fun μ6 =>
  (f_J7_fill_d0a16 μ6 (k0 + 1) (0 : Int64)).bind fun μ7 =>
  some μ7
def f_X6_tape (μ : Mem) (a1 : Int32) (a2 : Int32) (a3 : Int32) : Option (Int32 × Mem) :=
  (f_X6_within μ a1.toInt64 (0 : Int64) (5 : Int64)).bind fun v16 =>
  if v16 = (0 : Int32) then
    some ((-1 : Int32), μ)
  else
    if a2 = (-1 : Int32) then
      (aix a1 6).bind fun j28 =>
      (f_X4_becomes μ (1100 + 2 * j28) (-1 : Int32) (0 : Int32)).bind fun μ29 =>
      some ((1 : Int32), μ29)
    else
      (f_X6_within μ a2.toInt64 (0 : Int64) (4 : Int64)).bind fun v20 =>
      if v20 = (0 : Int32) then
        some ((-2 : Int32), μ)
      else
        if a3 ≤ (60 : Int32) then
          if (0 : Int32) ≤ a3 then
            (aix a1 6).bind fun j25 =>
            (f_X4_becomes μ (1100 + 2 * j25) a2 a3).bind fun μ26 =>
            some ((1 : Int32), μ26)
          else
            some ((-14 : Int32), μ)
        else
          some ((-2 : Int32), μ)
def f_X4_asItem (μ : Mem) (k0 : Nat) (a1 : Int64) : Option (Int64) :=
  (some (gI μ k0 0)).bind fun v9 =>
  if v9 = (0 : Int32) then
    some a1.toInt32.toInt8.toInt32.toInt64
  else if v9 = (1 : Int32) then
    some a1.toInt32.toInt16.toInt32.toInt64
  else if v9 = (2 : Int32) then
    some a1.toInt32.toInt64
  else if v9 = (4 : Int32) then
    if (lg_cmp a1 (0 : Int64)) = (0 : Int32) then
      some (0 : Int64)
    else
      some (1 : Int64)
  else 
    some a1
def f_X6_item (μ : Mem) (a1 : Int32) (a2 : Int32) (a3 : Int64) : Option (Int32 × Mem) :=
  (f_X6_within μ a1.toInt64 (0 : Int64) (5 : Int64)).bind fun v12 =>
  if v12 = (0 : Int32) then
    some ((-1 : Int32), μ)
  else
    (aix a1 6).bind fun j15 =>
    if (0 : Int32) ≤ (gI μ (1100 + 2 * j15) 0) then
      (f_X6_within μ a2.toInt64 (0 : Int64) (((gI μ (1100 + 2 * j15) 1) - (1 : Int32)).toInt64)).bind fun v17 =>
      if v17 = (0 : Int32) then
        some ((-13 : Int32), μ)
      else
        (f_X4_asItem μ (1100 + 2 * j15) a3).bind fun v20 =>
        (stL μ ((1100 + 2 * j15) + 1) 60 a2 v20).bind fun μ22 =>
        some ((1 : Int32), μ22)
    else
      some ((-11 : Int32), μ)
def f_X6_read (μ : Mem) (a1 : Int32) (a2 : Int32) : Option (Int64) :=
  (f_X6_within μ a1.toInt64 (0 : Int64) (5 : Int64)).bind fun v10 =>
  if v10 = (0 : Int32) then
    some (-9223372036854775808 : Int64)
  else
    (aix a1 6).bind fun j13 =>
    (f_X6_within μ a2.toInt64 (0 : Int64) (((gI μ (1100 + 2 * j13) 1) - (1 : Int32)).toInt64)).bind fun v14 =>
    if v14 = (0 : Int32) then
      some (-9223372036854775808 : Int64)
    else
      (aix a1 6).bind fun j17 =>
      (ldL μ ((1100 + 2 * j17) + 1) 60 a2).bind fun v18 =>
      some v18
def f_X4_hasRoom (μ : Mem) (k0 : Nat) (a1 : Int32) (a2 : Int32) : Option (Int32) :=
  if a1 < (0 : Int32) then
    some (0 : Int32)
  else
    if a2 < (0 : Int32) then
      some (0 : Int32)
    else
      if ((gI μ k0 1) - a2) < a1 then
        some (0 : Int32)
      else
        some (1 : Int32)
def f_X6_shift (μ : Mem) (a1 : Int32) (a2 : Int32) (a3 : Int32) (a4 : Int32) (a5 : Int32) : Option (Int32 × Mem) :=
  (f_X6_within μ a1.toInt64 (0 : Int64) (5 : Int64)).bind fun v19 =>
  if v19 = (0 : Int32) then
    some ((-1 : Int32), μ)
  else
    (f_X6_within μ a3.toInt64 (0 : Int64) (5 : Int64)).bind fun v22 =>
    if v22 = (0 : Int32) then
      some ((-1 : Int32), μ)
    else
      (aix a1 6).bind fun j25 =>
      (aix a3 6).bind fun j26 =>
      if (gI μ (1100 + 2 * j25) 0) < (0 : Int32) then
        some ((-11 : Int32), μ)
      else
        if (0 : Int32) ≤ (gI μ (1100 + 2 * j26) 0) then
          if (gI μ (1100 + 2 * j25) 0) = (gI μ (1100 + 2 * j26) 0) then
            (f_X4_hasRoom μ (1100 + 2 * j25) a2 a5).bind fun v30 =>
            if v30 = (0 : Int32) then
              some ((-13 : Int32), μ)
            else
              (f_X4_hasRoom μ (1100 + 2 * j26) a4 a5).bind fun v33 =>
              if v33 = (0 : Int32) then
                some ((-13 : Int32), μ)
              else
                (cpL μ ((1100 + 2 * j25) + 1) 60 a2 ((1100 + 2 * j26) + 1) 60 a4 a5).bind fun μ36 =>
                some (a5, μ36)
          else
            some ((-12 : Int32), μ)
        else
          some ((-11 : Int32), μ)
def f_X7_within (μ : Mem) (a0 : Int32) (a1 : Int32) (a2 : Int32) : Option (Int32) :=
  if a0 < a1 then
    some (0 : Int32)
  else
    if a2 < a0 then
      some (0 : Int32)
    else
      some (1 : Int32)
def f_X7_isOne (μ : Mem) (a1 : Int32) : Option (Int32) :=
  (f_X7_within μ a1 (0 : Int32) ((gI μ 2000 0) - (1 : Int32))).bind fun v3 =>
  some v3
def f_X7_egg_132 : Nat → Mem → Int32 → Option (Int32 × Mem)
  | 0, _, _ => none
  | n + 1, μ_132, b5_132 =>
    if (4 : Int32) ≤ b5_132 then
      (some (gI μ_132 2000 0)).bind fun v27 =>
      (some (sI μ_132 2000 0 (v27 + (1 : Int32)))).bind fun μ28 =>
      some (v27, μ28)
    else
      (stI μ_132 2008 24 (((4 : Int32) * (gI μ_132 2000 0)) + b5_132) (0 : Int32)).bind fun μ29 =>
      (some (b5_132 + (1 : Int32))).bind fun v30 =>
      f_X7_egg_132 n μ29 v30
def f_X7_egg (μ : Mem) (a1 : Int32) (a2 : Int32) (a3 : Int32) (a4 : Int32) : Option (Int32 × Mem) :=
  (f_X7_within μ a1 (0 : Int32) (6 : Int32)).bind fun v31 =>
  if v31 = (0 : Int32) then
    some ((-1 : Int32), μ)
  else
    (f_X7_within μ a2 (0 : Int32) (9 : Int32)).bind fun v34 =>
    if v34 = (0 : Int32) then
      some ((-2 : Int32), μ)
    else
      (f_X7_within μ a3 (1 : Int32) (30 : Int32)).bind fun v37 =>
      if v37 = (0 : Int32) then
        some ((-2 : Int32), μ)
      else
        (f_X7_within μ a4 (0 : Int32) (29 : Int32)).bind fun v40 =>
        if v40 = (0 : Int32) then
          some ((-2 : Int32), μ)
        else
          if (gI μ 2000 0) = (6 : Int32) then
            some ((-4 : Int32), μ)
          else
            (stI μ 2001 6 (gI μ 2000 0) a1).bind fun μ44 =>
            (stI μ44 2002 6 (gI μ44 2000 0) a2).bind fun μ45 =>
            (stI μ45 2003 6 (gI μ45 2000 0) a3).bind fun μ46 =>
            (stI μ46 2004 6 (gI μ46 2000 0) a4).bind fun μ47 =>
            (stI μ47 2005 6 (gI μ47 2000 0) (0 : Int32)).bind fun μ48 =>
            (stI μ48 2006 6 (gI μ48 2000 0) (0 : Int32)).bind fun μ49 =>
            (stI μ49 2007 6 (gI μ49 2000 0) (0 : Int32)).bind fun μ50 =>
            f_X7_egg_132 FU μ50 (0 : Int32)
def f_X7_turn_74 (μ : Mem) (b1_74 : Int32) : Option (Int32) :=
  (ldI μ 2003 6 b1_74).bind fun v13 =>
  some v13
def f_X7_turn_49 (μ : Mem) (b1_49 : Int32) : Option (Int32) :=
  (ldI μ 2003 6 b1_49).bind fun v14 =>
  (ldI μ 2002 6 b1_49).bind fun v15 =>
  some (v14 + v15)
def f_X7_turn (μ : Mem) (a1 : Int32) : Option (Int32) :=
  (ldI μ 2001 6 a1).bind fun v16 =>
  if v16 = (2 : Int32) then
    (ldI μ 2003 6 a1).bind fun v18 =>
    some ((2 : Int32) * v18)
  else if v16 = (3 : Int32) then
    f_X7_turn_49 μ a1
  else if v16 = (5 : Int32) then
    (ldI μ 2003 6 a1).bind fun v22 =>
    some (((2 : Int32) * v22) + (1 : Int32))
  else if v16 = (6 : Int32) then
    f_X7_turn_49 μ a1
  else 
    f_X7_turn_74 μ a1
def f_X7_allBy_58 (μ : Mem) (κ4 : Int32 → Int32 → Option (Int32)) (b1_58 : Int32) (b2_58 : Int32) : Option (Int32) :=
  (some (b2_58 + (1 : Int32))).bind fun v8 =>
  κ4 b1_58 v8
def f_X7_allBy_4 (μ : Mem) : Nat → Int32 → Int32 → Option (Int32)
  | 0, _, _ => none
  | n + 1, b1_4, b2_4 =>
    if (gI μ 2000 18) = (-1 : Int32) then
      some b1_4
    else
      (ldI μ 2019 6 (gI μ 2000 18)).bind fun v10 =>
      if v10 ≤ b2_4 then
        some b1_4
      else
        (ldI μ 2020 61 (((10 : Int32) * (gI μ 2000 18)) + b2_4)).bind fun v12 =>
        if v12 = (2 : Int32) then
          (ldI μ 2021 61 (((10 : Int32) * (gI μ 2000 18)) + b2_4)).bind fun v14 =>
          f_X7_allBy_58 μ (fun z0 z1 => f_X7_allBy_4 μ n z0 z1) v14 b2_4
        else
          f_X7_allBy_58 μ (fun z0 z1 => f_X7_allBy_4 μ n z0 z1) b1_4 b2_4
def f_X7_allBy (μ : Mem) : Option (Int32) :=
  f_X7_allBy_4 μ FU (0 : Int32) (0 : Int32)
def f_X7_letterOf (μ : Mem) (a1 : Int32) (a2 : Int32) : Option (Int32) :=
  if a2 = (0 : Int32) then
    some a1
  else if a2 = (1 : Int32) then
    (ldI μ 2001 6 a1).bind fun v13 =>
    some v13
  else if a2 = (2 : Int32) then
    (ldI μ 2002 6 a1).bind fun v15 =>
    some v15
  else if a2 = (3 : Int32) then
    (ldI μ 2003 6 a1).bind fun v17 =>
    some v17
  else if a2 = (4 : Int32) then
    (ldI μ 2004 6 a1).bind fun v19 =>
    some v19
  else 
    (ldI μ 2005 6 a1).bind fun v20 =>
    some v20
def f_X7_isTrue_245 (κ10 : Mem → Int32 → Int32 → Int32 → Int32 → Option (Int32 × Mem)) (μ_245 : Mem) (b1_245 : Int32) (b2_245 : Int32) (b3_245 : Int32) (b4_245 : Int32) : Option (Int32 × Mem) :=
  (some (b4_245 + (1 : Int32))).bind fun v37 =>
  κ10 μ_245 b1_245 b2_245 b3_245 v37
def f_X7_isTrue_139 (κ10 : Mem → Int32 → Int32 → Int32 → Int32 → Option (Int32 × Mem)) (μ_139 : Mem) (b1_139 : Int32) (b2_139 : Int32) (b3_139 : Int32) (b4_139 : Int32) (s0_139 : Int32) (s1_139 : Int32) : Option (Int32 × Mem) :=
  (stI μ_139 2026 110 s1_139 (vp_nar .boolean s0_139)).bind fun μ38 =>
  f_X7_isTrue_245 κ10 μ38 b1_139 b2_139 b3_139 b4_139
def f_X7_isTrue_171 (κ10 : Mem → Int32 → Int32 → Int32 → Int32 → Option (Int32 × Mem)) (μ_171 : Mem) (b1_171 : Int32) (b2_171 : Int32) (b3_171 : Int32) (b4_171 : Int32) (s0_171 : Int32) (s1_171 : Int32) : Option (Int32 × Mem) :=
  (stI μ_171 2026 110 s1_171 (vp_nar .boolean s0_171)).bind fun μ39 =>
  f_X7_isTrue_245 κ10 μ39 b1_171 b2_171 b3_171 b4_171
def f_X7_isTrue_244 (κ10 : Mem → Int32 → Int32 → Int32 → Int32 → Option (Int32 × Mem)) (μ_244 : Mem) (b1_244 : Int32) (b2_244 : Int32) (b3_244 : Int32) (b4_244 : Int32) (s0_244 : Int32) (s1_244 : Int32) : Option (Int32 × Mem) :=
  (stI μ_244 2026 110 s1_244 (vp_nar .boolean s0_244)).bind fun μ40 =>
  f_X7_isTrue_245 κ10 μ40 b1_244 b2_244 b3_244 b4_244
def f_X7_isTrue_215 (κ10 : Mem → Int32 → Int32 → Int32 → Int32 → Option (Int32 × Mem)) (μ_215 : Mem) (b1_215 : Int32) (b2_215 : Int32) (b3_215 : Int32) (b4_215 : Int32) (s0_215 : Int32) : Option (Int32 × Mem) :=
  f_X7_isTrue_244 κ10 μ_215 b1_215 b2_215 b3_215 b4_215 (0 : Int32) s0_215
def f_X7_isTrue_239 (κ10 : Mem → Int32 → Int32 → Int32 → Int32 → Option (Int32 × Mem)) (μ_239 : Mem) (b1_239 : Int32) (b2_239 : Int32) (b3_239 : Int32) (b4_239 : Int32) (s0_239 : Int32) : Option (Int32 × Mem) :=
  f_X7_isTrue_244 κ10 μ_239 b1_239 b2_239 b3_239 b4_239 (1 : Int32) s0_239
def f_X7_isTrue_10 : Nat → Mem → Int32 → Int32 → Int32 → Int32 → Option (Int32 × Mem)
  | 0, _, _, _, _, _ => none
  | n + 1, μ_10, b1_10, b2_10, b3_10, b4_10 =>
    (ldI μ_10 2022 61 b2_10).bind fun v41 =>
    (ldI μ_10 2023 61 b2_10).bind fun v42 =>
    if (v41 + v42) ≤ b4_10 then
      (ldZ μ_10 2026 110 (0 : Int32)).bind fun v44 =>
      some (v44, μ_10)
    else
      (ldI μ_10 2024 800 b4_10).bind fun v45 =>
      if v45 < (3 : Int32) then
        if v45 = (0 : Int32) then
          (ldZ μ_10 2026 110 (b3_10 - (1 : Int32))).bind fun v58 =>
          if v58 = (0 : Int32) then
            f_X7_isTrue_171 (fun μ z0 z1 z2 z3 => f_X7_isTrue_10 n μ z0 z1 z2 z3) μ_10 b1_10 b2_10 b3_10 b4_10 (1 : Int32) (b3_10 - (1 : Int32))
          else
            f_X7_isTrue_171 (fun μ z0 z1 z2 z3 => f_X7_isTrue_10 n μ z0 z1 z2 z3) μ_10 b1_10 b2_10 b3_10 b4_10 (0 : Int32) (b3_10 - (1 : Int32))
        else
          (some (b3_10 + (-1 : Int32))).bind fun v48 =>
          if v45 = (1 : Int32) then
            (ldZ μ_10 2026 110 (v48 - (1 : Int32))).bind fun v54 =>
            if v54 = (0 : Int32) then
              f_X7_isTrue_215 (fun μ z0 z1 z2 z3 => f_X7_isTrue_10 n μ z0 z1 z2 z3) μ_10 b1_10 b2_10 v48 b4_10 (v48 - (1 : Int32))
            else
              (ldZ μ_10 2026 110 v48).bind fun v56 =>
              if v56 = (0 : Int32) then
                f_X7_isTrue_215 (fun μ z0 z1 z2 z3 => f_X7_isTrue_10 n μ z0 z1 z2 z3) μ_10 b1_10 b2_10 v48 b4_10 (v48 - (1 : Int32))
              else
                f_X7_isTrue_244 (fun μ z0 z1 z2 z3 => f_X7_isTrue_10 n μ z0 z1 z2 z3) μ_10 b1_10 b2_10 v48 b4_10 (1 : Int32) (v48 - (1 : Int32))
          else
            (ldZ μ_10 2026 110 (v48 - (1 : Int32))).bind fun v50 =>
            if v50 = (0 : Int32) then
              (ldZ μ_10 2026 110 v48).bind fun v52 =>
              if v52 = (0 : Int32) then
                f_X7_isTrue_244 (fun μ z0 z1 z2 z3 => f_X7_isTrue_10 n μ z0 z1 z2 z3) μ_10 b1_10 b2_10 v48 b4_10 (0 : Int32) (v48 - (1 : Int32))
              else
                f_X7_isTrue_239 (fun μ z0 z1 z2 z3 => f_X7_isTrue_10 n μ z0 z1 z2 z3) μ_10 b1_10 b2_10 v48 b4_10 (v48 - (1 : Int32))
            else
              f_X7_isTrue_239 (fun μ z0 z1 z2 z3 => f_X7_isTrue_10 n μ z0 z1 z2 z3) μ_10 b1_10 b2_10 v48 b4_10 (v48 - (1 : Int32))
      else
        (dvI (v45 - (3 : Int32)) (300 : Int32)).bind fun v60 =>
        (f_X7_letterOf μ_10 b1_10 v60).bind fun v61 =>
        (rmI (v45 - (3 : Int32)) (100 : Int32)).bind fun v63 =>
        (dvI (v45 - (3 : Int32)) (100 : Int32)).bind fun v64 =>
        (rmI v64 (3 : Int32)).bind fun v65 =>
        (some (b3_10 + (1 : Int32))).bind fun v66 =>
        if v65 = (0 : Int32) then
          if v63 ≤ v61 then
            f_X7_isTrue_139 (fun μ z0 z1 z2 z3 => f_X7_isTrue_10 n μ z0 z1 z2 z3) μ_10 b1_10 b2_10 v66 b4_10 (0 : Int32) b3_10
          else
            f_X7_isTrue_139 (fun μ z0 z1 z2 z3 => f_X7_isTrue_10 n μ z0 z1 z2 z3) μ_10 b1_10 b2_10 v66 b4_10 (1 : Int32) b3_10
        else
          if v65 = (1 : Int32) then
            if v61 = v63 then
              f_X7_isTrue_139 (fun μ z0 z1 z2 z3 => f_X7_isTrue_10 n μ z0 z1 z2 z3) μ_10 b1_10 b2_10 v66 b4_10 (1 : Int32) b3_10
            else
              f_X7_isTrue_139 (fun μ z0 z1 z2 z3 => f_X7_isTrue_10 n μ z0 z1 z2 z3) μ_10 b1_10 b2_10 v66 b4_10 (0 : Int32) b3_10
          else
            if v61 ≤ v63 then
              f_X7_isTrue_139 (fun μ z0 z1 z2 z3 => f_X7_isTrue_10 n μ z0 z1 z2 z3) μ_10 b1_10 b2_10 v66 b4_10 (0 : Int32) b3_10
            else
              f_X7_isTrue_139 (fun μ z0 z1 z2 z3 => f_X7_isTrue_10 n μ z0 z1 z2 z3) μ_10 b1_10 b2_10 v66 b4_10 (1 : Int32) b3_10
def f_X7_isTrue (μ : Mem) (a1 : Int32) (a2 : Int32) : Option (Int32 × Mem) :=
  (ldI μ 2022 61 a2).bind fun v72 =>
  f_X7_isTrue_10 FU μ a1 a2 (0 : Int32) v72
def f_X7_sum_98 (κ14 : Mem → Int32 → Int32 → Int32 → Option (Int32 × Mem)) (μ_98 : Mem) (b1_98 : Int32) (b2_98 : Int32) (b3_98 : Int32) : Option (Int32 × Mem) :=
  (some (b3_98 + (1 : Int32))).bind fun v22 =>
  κ14 μ_98 b1_98 b2_98 v22
def f_X7_sum_96 (κ14 : Mem → Int32 → Int32 → Int32 → Option (Int32 × Mem)) (μ_96 : Mem) (b1_96 : Int32) (b3_96 : Int32) (s0_96 : Int32) (s1_96 : Int32) : Option (Int32 × Mem) :=
  (some (s1_96 + s0_96)).bind fun v23 =>
  f_X7_sum_98 κ14 μ_96 b1_96 v23 b3_96
def f_X7_sum_14 : Nat → Mem → Int32 → Int32 → Int32 → Option (Int32 × Mem)
  | 0, _, _, _, _ => none
  | n + 1, μ_14, b1_14, b2_14, b3_14 =>
    if (gI μ_14 2000 18) = (-1 : Int32) then
      some (b2_14, μ_14)
    else
      (ldI μ_14 2019 6 (gI μ_14 2000 18)).bind fun v25 =>
      if v25 ≤ b3_14 then
        some (b2_14, μ_14)
      else
        (some (((10 : Int32) * (gI μ_14 2000 18)) + b3_14)).bind fun v27 =>
        (ldI μ_14 2020 61 v27).bind fun v28 =>
        if (2 : Int32) ≤ v28 then
          f_X7_sum_98 (fun μ z0 z1 z2 => f_X7_sum_14 n μ z0 z1 z2) μ_14 b1_14 b2_14 b3_14
        else
          (f_X7_isTrue μ_14 b1_14 v27).bind fun p33 =>
          if p33.1 = (0 : Int32) then
            f_X7_sum_98 (fun μ z0 z1 z2 => f_X7_sum_14 n μ z0 z1 z2) p33.2 b1_14 b2_14 b3_14
          else
            (ldI p33.2 2020 61 v27).bind fun v35 =>
            if v35 = (0 : Int32) then
              (ldI p33.2 2021 61 v27).bind fun v38 =>
              f_X7_sum_96 (fun μ z0 z1 z2 => f_X7_sum_14 n μ z0 z1 z2) p33.2 b1_14 b3_14 v38 b2_14
            else
              (ldI p33.2 2021 61 v27).bind fun v37 =>
              f_X7_sum_96 (fun μ z0 z1 z2 => f_X7_sum_14 n μ z0 z1 z2) p33.2 b1_14 b3_14 (-v37) b2_14
def f_X7_sum (μ : Mem) (a1 : Int32) : Option (Int32 × Mem) :=
  (ldI μ 2004 6 a1).bind fun v39 =>
  (f_X7_allBy μ).bind fun v40 =>
  (some (v39 + v40)).bind fun v42 =>
  f_X7_sum_14 FU μ a1 v42 (0 : Int32)
def f_J9_floorMod_7cf53 (μ : Mem) (a0 : Int32) (a1 : Int32) : Option (Int32) :=
  (rmI a0 a1).bind fun v4 =>
  if (0 : Int32) ≤ (a0 ^^^ a1) then
    some v4
  else
    if v4 = (0 : Int32) then
      some v4
    else
      some (v4 + a1)
def f_X7_rest (μ : Mem) (a1 : Int32) : Option (Int32 × Mem) :=
  (f_X7_turn μ a1).bind fun v24 =>
  (f_X7_sum μ a1).bind fun p29 =>
  (ldI p29.2 2001 6 a1).bind fun v30 =>
  if v30 = (1 : Int32) then
    (ldI p29.2 2002 6 a1).bind fun v32 =>
    (f_J9_floorMod_7cf53 p29.2 (p29.1 + v32) v24).bind fun v33 =>
    some (v33, p29.2)
  else if v30 = (4 : Int32) then
    (ldI p29.2 2002 6 a1).bind fun v36 =>
    (f_J9_floorMod_7cf53 p29.2 (p29.1 + v36) v24).bind fun v37 =>
    some ((v24 - (1 : Int32)) - v37, p29.2)
  else if v30 = (6 : Int32) then
    (ldI p29.2 2003 6 a1).bind fun v40 =>
    (rmI v40 (4 : Int32)).bind fun v41 =>
    (ldI p29.2 2008 24 (((4 : Int32) * a1) + v41)).bind fun v42 =>
    (f_J9_floorMod_7cf53 p29.2 (p29.1 + v42) v24).bind fun v43 =>
    some (v43, p29.2)
  else 
    (f_J9_floorMod_7cf53 p29.2 p29.1 v24).bind fun v45 =>
    some (v45, p29.2)
def f_X7_inDays (μ : Mem) (a1 : Int32) : Option (Int32 × Mem) :=
  (f_X7_rest μ a1).bind fun p12 =>
  (f_X7_turn p12.2 a1).bind fun v13 =>
  (f_J9_floorMod_7cf53 p12.2 (p12.1 - (gI p12.2 2000 10)) v13).bind fun v15 =>
  some (v15, p12.2)
def f_X7_of (μ : Mem) (a1 : Int32) (a2 : Int32) : Option (Int32 × Mem) :=
  (f_X7_isOne μ a1).bind fun v33 =>
  if v33 = (0 : Int32) then
    some ((-1 : Int32), μ)
  else
    if a2 = (0 : Int32) then
      (ldI μ 2001 6 a1).bind fun v37 =>
      some (v37, μ)
    else if a2 = (1 : Int32) then
      (ldI μ 2002 6 a1).bind fun v39 =>
      some (v39, μ)
    else if a2 = (2 : Int32) then
      (ldI μ 2003 6 a1).bind fun v41 =>
      some (v41, μ)
    else if a2 = (3 : Int32) then
      (ldI μ 2004 6 a1).bind fun v43 =>
      some (v43, μ)
    else if a2 = (4 : Int32) then
      (ldI μ 2005 6 a1).bind fun v45 =>
      some (v45, μ)
    else if a2 = (5 : Int32) then
      (ldI μ 2006 6 a1).bind fun v47 =>
      some (v47, μ)
    else if a2 = (6 : Int32) then
      (ldI μ 2007 6 a1).bind fun v49 =>
      some (v49, μ)
    else if a2 = (7 : Int32) then
      (f_X7_turn μ a1).bind fun v51 =>
      some (v51, μ)
    else if a2 = (8 : Int32) then
      (f_X7_rest μ a1).bind fun p57 =>
      some (p57.1, p57.2)
    else if a2 = (9 : Int32) then
      (ldI μ 2005 6 a1).bind fun v59 =>
      if v59 = (1 : Int32) then
        some ((-5 : Int32), μ)
      else
        (f_X7_inDays μ a1).bind fun p64 =>
        some (p64.1, p64.2)
    else 
      some ((-1 : Int32), μ)
def f_X7_set_68 (μ_68 : Mem) (b1_68 : Int32) (b2_68 : Int32) (b3_68 : Int32) (s0_68 : Int32) : Option (Int32 × Mem) :=
  if b2_68 = (0 : Int32) then
    (stI μ_68 2003 6 b1_68 b3_68).bind fun μ22 =>
    some (s0_68, μ22)
  else
    (stI μ_68 2004 6 b1_68 b3_68).bind fun μ21 =>
    some (s0_68, μ21)
def f_X7_set_49 (μ_49 : Mem) (b1_49 : Int32) (b2_49 : Int32) (b3_49 : Int32) : Option (Int32 × Mem) :=
  if b2_49 = (0 : Int32) then
    (ldI μ_49 2003 6 b1_49).bind fun v25 =>
    f_X7_set_68 μ_49 b1_49 b2_49 b3_49 v25
  else
    (ldI μ_49 2004 6 b1_49).bind fun v24 =>
    f_X7_set_68 μ_49 b1_49 b2_49 b3_49 v24
def f_X7_set (μ : Mem) (a1 : Int32) (a2 : Int32) (a3 : Int32) : Option (Int32 × Mem) :=
  (f_X7_isOne μ a1).bind fun v26 =>
  if v26 = (0 : Int32) then
    some ((-1 : Int32), μ)
  else
    (f_X7_within μ a2 (0 : Int32) (1 : Int32)).bind fun v29 =>
    if v29 = (0 : Int32) then
      some ((-1 : Int32), μ)
    else
      if a2 = (0 : Int32) then
        (f_X7_within μ a3 (1 : Int32) (30 : Int32)).bind fun v36 =>
        if v36 = (0 : Int32) then
          some ((-2 : Int32), μ)
        else
          f_X7_set_49 μ a1 a2 a3
      else
        (f_X7_within μ a3 (0 : Int32) (29 : Int32)).bind fun v33 =>
        if v33 = (0 : Int32) then
          some ((-2 : Int32), μ)
        else
          f_X7_set_49 μ a1 a2 a3
def f_X7_smash_31 (μ_31 : Mem) (b3_31 : Int32) (s0_31 : Int32) (s1_31 : Int32) : Option (Int32 × Mem) :=
  (stI μ_31 2005 6 s1_31 s0_31).bind fun μ7 =>
  some (b3_31, μ7)
def f_X7_smash (μ : Mem) (a1 : Int32) (a2 : Int32) : Option (Int32 × Mem) :=
  (f_X7_isOne μ a1).bind fun v8 =>
  if v8 = (0 : Int32) then
    some ((-1 : Int32), μ)
  else
    (ldI μ 2005 6 a1).bind fun v11 =>
    if a2 = (0 : Int32) then
      f_X7_smash_31 μ v11 (0 : Int32) a1
    else
      f_X7_smash_31 μ v11 (1 : Int32) a1
def f_X7_listen (μ : Mem) (a1 : Int32) : Option (Int32 × Mem) :=
  (f_X7_within μ a1 (0 : Int32) (127 : Int32)).bind fun v6 =>
  if v6 = (0 : Int32) then
    some ((-2 : Int32), μ)
  else
    (some (gI μ 2000 9)).bind fun v9 =>
    (some (sI μ 2000 9 a1)).bind fun μ10 =>
    some (v9, μ10)
def f_X7_row (μ : Mem) (a1 : Int32) (a2 : Int32) (a3 : Int32) : Option (Int32 × Mem) :=
  (f_X7_isOne μ a1).bind fun v14 =>
  if v14 = (0 : Int32) then
    some ((-1 : Int32), μ)
  else
    (f_X7_within μ a2 (0 : Int32) (3 : Int32)).bind fun v17 =>
    if v17 = (0 : Int32) then
      some ((-1 : Int32), μ)
    else
      (f_X7_within μ a3 (0 : Int32) (9 : Int32)).bind fun v20 =>
      if v20 = (0 : Int32) then
        some ((-2 : Int32), μ)
      else
        (ldI μ 2001 6 a1).bind fun v23 =>
        if v23 = (6 : Int32) then
          (ldI μ 2008 24 (((4 : Int32) * a1) + a2)).bind fun v25 =>
          (stI μ 2008 24 (((4 : Int32) * a1) + a2) a3).bind fun μ26 =>
          some (v25, μ26)
        else
          some ((-3 : Int32), μ)
def f_X7_feed (μ : Mem) (a1 : Int32) : Option (Int32 × Mem) :=
  (f_X7_within μ a1 (0 : Int32) (127 : Int32)).bind fun v8 =>
  if v8 = (0 : Int32) then
    some ((-2 : Int32), μ)
  else
    if (gI μ 2000 11) = (100 : Int32) then
      some ((-4 : Int32), μ)
    else
      (some (gI μ 2000 11)).bind fun v12 =>
      (some (sI μ 2000 11 (v12 + (1 : Int32)))).bind fun μ13 =>
      (stI μ13 2012 100 v12 a1).bind fun μ14 =>
      some (gI μ14 2000 11, μ14)
def f_X7_is (μ : Mem) (a1 : Int32) : Option (Int32 × Mem) :=
  if (gI μ 2000 13) = (gI μ 2000 11) then
    some ((0 : Int32), μ)
  else
    (ldI μ 2012 100 (gI μ 2000 13)).bind fun v6 =>
    if v6 = a1 then
      (some (sI μ 2000 13 ((gI μ 2000 13) + (1 : Int32)))).bind fun μ8 =>
      some ((1 : Int32), μ8)
    else
      some ((0 : Int32), μ)
def f_X7_isDigit (μ : Mem) : Option (Int32) :=
  if (gI μ 2000 11) ≤ (gI μ 2000 13) then
    some (0 : Int32)
  else
    (ldI μ 2012 100 (gI μ 2000 13)).bind fun v7 =>
    if v7 < (48 : Int32) then
      some (0 : Int32)
    else
      (ldI μ 2012 100 (gI μ 2000 13)).bind fun v9 =>
      if (57 : Int32) < v9 then
        some (0 : Int32)
      else
        some (1 : Int32)
def f_X7_isNumber_72 (μ_72 : Mem) : Option (Int32 × Mem) :=
  if (gI μ_72 2000 15) ≤ (0 : Int32) then
    some ((0 : Int32), μ_72)
  else
    some ((1 : Int32), μ_72)
def f_X7_isNumber_10 : Nat → Mem → Option (Int32 × Mem)
  | 0, _ => none
  | n + 1, μ_10 =>
    if (2 : Int32) ≤ (gI μ_10 2000 15) then
      f_X7_isNumber_72 μ_10
    else
      (f_X7_isDigit μ_10).bind fun v14 =>
      if v14 = (0 : Int32) then
        f_X7_isNumber_72 μ_10
      else
        (ldI μ_10 2012 100 (gI μ_10 2000 13)).bind fun v17 =>
        (some (sI μ_10 2000 14 ((((10 : Int32) * (gI μ_10 2000 14)) + v17) - (48 : Int32)))).bind fun μ18 =>
        (some (sI μ18 2000 13 ((gI μ18 2000 13) + (1 : Int32)))).bind fun μ19 =>
        (some (sI μ19 2000 15 ((gI μ19 2000 15) + (1 : Int32)))).bind fun μ20 =>
        f_X7_isNumber_10 n μ20
def f_X7_isNumber (μ : Mem) : Option (Int32 × Mem) :=
  (some (sI μ 2000 14 (0 : Int32))).bind fun μ21 =>
  (some (sI μ21 2000 15 (0 : Int32))).bind fun μ22 =>
  f_X7_isNumber_10 FU μ22
def f_X7_isAll_2 (k1 : Nat) : Nat → Mem → Int32 → Option (Int32 × Mem)
  | 0, _, _ => none
  | n + 1, μ_2, b2_2 =>
    (f_J0_length_8abf5 μ_2 k1).bind fun v12 =>
    if v12 ≤ b2_2 then
      some ((1 : Int32), μ_2)
    else
      (f_J0_charAt_5068e μ_2 k1 b2_2).bind fun v15 =>
      (f_X7_is μ_2 v15).bind fun p20 =>
      if p20.1 = (0 : Int32) then
        some ((0 : Int32), p20.2)
      else
        (some (b2_2 + (1 : Int32))).bind fun v22 =>
        f_X7_isAll_2 k1 n p20.2 v22
def f_X7_isAll (μ : Mem) (k1 : Nat) : Option (Int32 × Mem) :=
  f_X7_isAll_2 k1 FU μ (0 : Int32)
def f_X7_codes (μ : Mem) (a1 : Int32) : Option (Int32 × Mem) :=
  (some (gI μ 2000 25)).bind fun v4 =>
  (some (sI μ 2000 25 (v4 + (1 : Int32)))).bind fun μ5 =>
  (stI μ5 2024 800 v4 a1).bind fun μ6 =>
  some ((1 : Int32), μ6)
def f_X7_isTest_99 (μ_99 : Mem) (b1_99 : Int32) (s0_99 : Int32) : Option (Int32 × Mem) :=
  if (0 : Int32) ≤ s0_99 then
    (some (sI μ_99 2000 13 ((gI μ_99 2000 13) + (1 : Int32)))).bind fun μ28 =>
    (f_X7_isNumber μ28).bind fun p32 =>
    if p32.1 = (0 : Int32) then
      some ((0 : Int32), p32.2)
    else
      (f_X7_codes p32.2 ((((3 : Int32) + ((300 : Int32) * b1_99)) + ((100 : Int32) * s0_99)) + (gI p32.2 2000 14))).bind fun p37 =>
      if p37.1 = (0 : Int32) then
        some ((0 : Int32), p37.2)
      else
        some ((1 : Int32), p37.2)
  else
    some ((0 : Int32), μ_99)
def f_X7_isTest_98 (μ_98 : Mem) (b1_98 : Int32) : Option (Int32 × Mem) :=
  f_X7_isTest_99 μ_98 b1_98 (-1 : Int32)
def f_X7_isTest_41 (μ_41 : Mem) (s0_41 : Int32) : Option (Int32 × Mem) :=
  if (0 : Int32) ≤ s0_41 then
    (some (sI μ_41 2000 13 ((gI μ_41 2000 13) + (1 : Int32)))).bind fun μ40 =>
    if (gI μ40 2000 11) ≤ (gI μ40 2000 13) then
      f_X7_isTest_98 μ40 s0_41
    else
      (ldI μ40 2012 100 (gI μ40 2000 13)).bind fun v42 =>
      if v42 ≤ (0 : Int32) then
        f_X7_isTest_98 μ40 s0_41
      else
        (ldI μ40 2012 100 (gI μ40 2000 13)).bind fun v44 =>
        (f_J0_indexOf_0f7a4 μ40 5 v44).bind fun v45 =>
        f_X7_isTest_99 μ40 s0_41 v45
  else
    some ((0 : Int32), μ_41)
def f_X7_isTest_40 (μ_40 : Mem) : Option (Int32 × Mem) :=
  f_X7_isTest_41 μ_40 (-1 : Int32)
def f_X7_isTest (μ : Mem) : Option (Int32 × Mem) :=
  if (gI μ 2000 11) ≤ (gI μ 2000 13) then
    f_X7_isTest_40 μ
  else
    (ldI μ 2012 100 (gI μ 2000 13)).bind fun v48 =>
    if v48 ≤ (0 : Int32) then
      f_X7_isTest_40 μ
    else
      (ldI μ 2012 100 (gI μ 2000 13)).bind fun v50 =>
      (f_J0_indexOf_0f7a4 μ 4 v50).bind fun v51 =>
      f_X7_isTest_41 μ v51
def f_X7_isOpened (μ : Mem) (a1 : Int32) : Option (Int32 × Mem) :=
  if (gI μ 2000 16) = (4 : Int32) then
    some ((0 : Int32), μ)
  else
    (f_X7_is μ a1).bind fun p12 =>
    if p12.1 = (0 : Int32) then
      some ((0 : Int32), p12.2)
    else
      (some (sI p12.2 2000 16 ((gI p12.2 2000 16) + (1 : Int32)))).bind fun μ14 =>
      some ((1 : Int32), μ14)
def f_X7_isE_9 (G : (Mem → Option (Int32 × Mem)) × (Mem → Option (Int32 × Mem)) × (Mem → Option (Int32 × Mem))) : Nat → Mem → Option (Int32 × Mem)
  | 0, _ => none
  | n + 1, μ_9 =>
    (f_X7_is μ_9 (124 : Int32)).bind fun p24 =>
    if p24.1 = (0 : Int32) then
      some ((1 : Int32), p24.2)
    else
      (G.2.1 p24.2).bind fun p29 =>
      if p29.1 = (0 : Int32) then
        some ((0 : Int32), p29.2)
      else
        (f_X7_codes p29.2 (2 : Int32)).bind fun p34 =>
        if p34.1 = (0 : Int32) then
          some ((0 : Int32), p34.2)
        else
          f_X7_isE_9 G n p34.2
def b_X7_isE (G : (Mem → Option (Int32 × Mem)) × (Mem → Option (Int32 × Mem)) × (Mem → Option (Int32 × Mem))) (μ : Mem) : Option (Int32 × Mem) :=
  (G.2.1 μ).bind fun p39 =>
  if p39.1 = (0 : Int32) then
    some ((0 : Int32), p39.2)
  else
    f_X7_isE_9 G FU p39.2
def f_X7_isT_9 (G : (Mem → Option (Int32 × Mem)) × (Mem → Option (Int32 × Mem)) × (Mem → Option (Int32 × Mem))) : Nat → Mem → Option (Int32 × Mem)
  | 0, _ => none
  | n + 1, μ_9 =>
    (f_X7_is μ_9 (38 : Int32)).bind fun p24 =>
    if p24.1 = (0 : Int32) then
      some ((1 : Int32), p24.2)
    else
      (G.2.2 p24.2).bind fun p29 =>
      if p29.1 = (0 : Int32) then
        some ((0 : Int32), p29.2)
      else
        (f_X7_codes p29.2 (1 : Int32)).bind fun p34 =>
        if p34.1 = (0 : Int32) then
          some ((0 : Int32), p34.2)
        else
          f_X7_isT_9 G n p34.2
def b_X7_isT (G : (Mem → Option (Int32 × Mem)) × (Mem → Option (Int32 × Mem)) × (Mem → Option (Int32 × Mem))) (μ : Mem) : Option (Int32 × Mem) :=
  (G.2.2 μ).bind fun p39 =>
  if p39.1 = (0 : Int32) then
    some ((0 : Int32), p39.2)
  else
    f_X7_isT_9 G FU p39.2
def f_X7_isF_72 (G : (Mem → Option (Int32 × Mem)) × (Mem → Option (Int32 × Mem)) × (Mem → Option (Int32 × Mem))) (μ_72 : Mem) (b1_72 : Int32) : Option (Int32 × Mem) :=
  (some (sI μ_72 2000 16 ((gI μ_72 2000 16) - (1 : Int32)))).bind fun μ36 =>
  some (b1_72, μ36)
def f_X7_isF_29 (G : (Mem → Option (Int32 × Mem)) × (Mem → Option (Int32 × Mem)) × (Mem → Option (Int32 × Mem))) (μ_29 : Mem) (s0_29 : Int32) : Option (Int32 × Mem) :=
  f_X7_isF_72 G μ_29 s0_29
def f_X7_isF_28 (G : (Mem → Option (Int32 × Mem)) × (Mem → Option (Int32 × Mem)) × (Mem → Option (Int32 × Mem))) (μ_28 : Mem) : Option (Int32 × Mem) :=
  f_X7_isF_29 G μ_28 (0 : Int32)
def f_X7_isF_63 (G : (Mem → Option (Int32 × Mem)) × (Mem → Option (Int32 × Mem)) × (Mem → Option (Int32 × Mem))) (μ_63 : Mem) (s0_63 : Int32) : Option (Int32 × Mem) :=
  f_X7_isF_72 G μ_63 s0_63
def f_X7_isF_62 (G : (Mem → Option (Int32 × Mem)) × (Mem → Option (Int32 × Mem)) × (Mem → Option (Int32 × Mem))) (μ_62 : Mem) : Option (Int32 × Mem) :=
  f_X7_isF_63 G μ_62 (0 : Int32)
def b_X7_isF (G : (Mem → Option (Int32 × Mem)) × (Mem → Option (Int32 × Mem)) × (Mem → Option (Int32 × Mem))) (μ : Mem) : Option (Int32 × Mem) :=
  (f_X7_isOpened μ (33 : Int32)).bind fun p40 =>
  if p40.1 = (0 : Int32) then
    (f_X7_isOpened p40.2 (40 : Int32)).bind fun p45 =>
    if p45.1 = (0 : Int32) then
      (f_X7_isTest p45.2).bind fun p50 =>
      some (p50.1, p50.2)
    else
      (G.1 p45.2).bind fun p54 =>
      if p54.1 = (0 : Int32) then
        f_X7_isF_62 G p54.2
      else
        (f_X7_is p54.2 (41 : Int32)).bind fun p59 =>
        if p59.1 = (0 : Int32) then
          f_X7_isF_62 G p59.2
        else
          f_X7_isF_63 G p59.2 (1 : Int32)
  else
    (G.2.2 p40.2).bind fun p64 =>
    if p64.1 = (0 : Int32) then
      f_X7_isF_28 G p64.2
    else
      (f_X7_codes p64.2 (0 : Int32)).bind fun p69 =>
      if p69.1 = (0 : Int32) then
        f_X7_isF_28 G p69.2
      else
        f_X7_isF_29 G p69.2 (1 : Int32)
def G_efs : Nat → (Mem → Option (Int32 × Mem)) × (Mem → Option (Int32 × Mem)) × (Mem → Option (Int32 × Mem))
  | 0 => (fun _ => none, fun _ => none, fun _ => none)
  | d + 1 => (b_X7_isE (G_efs d), b_X7_isT (G_efs d), b_X7_isF (G_efs d))
def f_X7_isE : Mem → Option (Int32 × Mem) := (G_efs 24).1
def f_X7_isT : Mem → Option (Int32 × Mem) := (G_efs 24).2.1
def f_X7_isF : Mem → Option (Int32 × Mem) := (G_efs 24).2.2
def f_X7_isClause_184 (μ_184 : Mem) (b1_184 : Int32) : Option (Int32 × Mem) :=
  (ldI μ_184 2022 61 b1_184).bind fun v47 =>
  (stI μ_184 2023 61 b1_184 ((gI μ_184 2000 25) - v47)).bind fun μ48 =>
  some ((1 : Int32), μ48)
def f_X7_isClause_115 (μ_115 : Mem) (b1_115 : Int32) (b2_115 : Int32) (s0_115 : Int32) : Option (Int32 × Mem) :=
  if s0_115 = (0 : Int32) then
    some ((0 : Int32), μ_115)
  else
    (f_X7_isNumber μ_115).bind fun p53 =>
    if p53.1 = (0 : Int32) then
      some ((0 : Int32), p53.2)
    else
      (stI p53.2 2020 61 b1_115 b2_115).bind fun μ55 =>
      (stI μ55 2021 61 b1_115 (gI μ55 2000 14)).bind fun μ56 =>
      (stI μ56 2022 61 b1_115 (gI μ56 2000 25)).bind fun μ57 =>
      (some (sI μ57 2000 16 (0 : Int32))).bind fun μ58 =>
      if (2 : Int32) ≤ b2_115 then
        f_X7_isClause_184 μ58 b1_115
      else
        (f_X7_is μ58 (32 : Int32)).bind fun p63 =>
        if p63.1 = (0 : Int32) then
          some ((0 : Int32), p63.2)
        else
          (f_X7_isE p63.2).bind fun p68 =>
          if p68.1 = (0 : Int32) then
            some ((0 : Int32), p68.2)
          else
            f_X7_isClause_184 p68.2 b1_115
def f_X7_isClause_114 (μ_114 : Mem) (b1_114 : Int32) (b2_114 : Int32) : Option (Int32 × Mem) :=
  f_X7_isClause_115 μ_114 b1_114 b2_114 (0 : Int32)
def f_X7_isClause_69 (μ_69 : Mem) (b1_69 : Int32) (b2_69 : Int32) : Option (Int32 × Mem) :=
  if b2_69 = (0 : Int32) then
    (f_X7_isAll μ_69 6).bind fun p85 =>
    f_X7_isClause_115 p85.2 b1_69 b2_69 p85.1
  else
    if b2_69 = (1 : Int32) then
      (f_X7_isAll μ_69 7).bind fun p81 =>
      f_X7_isClause_115 p81.2 b1_69 b2_69 p81.1
    else
      if b2_69 = (2 : Int32) then
        (f_X7_isAll μ_69 8).bind fun p76 =>
        if p76.1 = (0 : Int32) then
          f_X7_isClause_114 p76.2 b1_69 b2_69
        else
          f_X7_isClause_115 p76.2 b1_69 b2_69 (1 : Int32)
      else
        f_X7_isClause_114 μ_69 b1_69 b2_69
def f_X7_isClause_68 (μ_68 : Mem) (b1_68 : Int32) (s0_68 : Int32) : Option (Int32 × Mem) :=
  f_X7_isClause_69 μ_68 b1_68 s0_68
def f_X7_isClause (μ : Mem) (a1 : Int32) : Option (Int32 × Mem) :=
  if (gI μ 2000 11) ≤ (gI μ 2000 13) then
    f_X7_isClause_69 μ a1 (-1 : Int32)
  else
    (ldI μ 2012 100 (gI μ 2000 13)).bind fun v87 =>
    if v87 = (108 : Int32) then
      f_X7_isClause_68 μ a1 (0 : Int32)
    else
      (ldI μ 2012 100 (gI μ 2000 13)).bind fun v89 =>
      if v89 = (101 : Int32) then
        f_X7_isClause_68 μ a1 (1 : Int32)
      else
        (ldI μ 2012 100 (gI μ 2000 13)).bind fun v91 =>
        if v91 = (97 : Int32) then
          f_X7_isClause_68 μ a1 (2 : Int32)
        else
          f_X7_isClause_68 μ a1 (-1 : Int32)
def f_X7_store_119 (κ29 : Mem → Int32 → Int32 → Int32 → Int32 → Option (Int32 × Mem)) (μ_119 : Mem) (b1_119 : Int32) (b2_119 : Int32) (b4_119 : Int32) (s0_119 : Int32) : Option (Int32 × Mem) :=
  κ29 μ_119 b1_119 b2_119 s0_119 b4_119
def f_X7_store_114 (κ29 : Mem → Int32 → Int32 → Int32 → Int32 → Option (Int32 × Mem)) (μ_114 : Mem) (b1_114 : Int32) (b2_114 : Int32) (b4_114 : Int32) : Option (Int32 × Mem) :=
  f_X7_store_119 κ29 μ_114 b1_114 b2_114 b4_114 (1 : Int32)
def f_X7_store_118 (κ29 : Mem → Int32 → Int32 → Int32 → Int32 → Option (Int32 × Mem)) (μ_118 : Mem) (b1_118 : Int32) (b2_118 : Int32) (b4_118 : Int32) : Option (Int32 × Mem) :=
  f_X7_store_119 κ29 μ_118 b1_118 b2_118 b4_118 (0 : Int32)
def f_X7_store_92 (κ29 : Mem → Int32 → Int32 → Int32 → Int32 → Option (Int32 × Mem)) (μ_92 : Mem) (b1_92 : Int32) (b2_92 : Int32) (s0_92 : Int32) : Option (Int32 × Mem) :=
  if s0_92 = (0 : Int32) then
    if (10 : Int32) ≤ b2_92 then
      f_X7_store_118 κ29 μ_92 b1_92 b2_92 s0_92
    else
      (f_X7_is μ_92 (59 : Int32)).bind fun p34 =>
      if p34.1 = (0 : Int32) then
        f_X7_store_118 κ29 p34.2 b1_92 b2_92 s0_92
      else
        f_X7_store_114 κ29 p34.2 b1_92 b2_92 s0_92
  else
    f_X7_store_114 κ29 μ_92 b1_92 b2_92 s0_92
def f_X7_store_65 (κ29 : Mem → Int32 → Int32 → Int32 → Int32 → Option (Int32 × Mem)) (μ_65 : Mem) (b1_65 : Int32) (b2_65 : Int32) (b4_65 : Int32) (s0_65 : Int32) : Option (Int32 × Mem) :=
  if s0_65 = (0 : Int32) then
    κ29 μ_65 b1_65 b2_65 s0_65 b4_65
  else
    (some (b2_65 + (1 : Int32))).bind fun v37 =>
    if (gI μ_65 2000 13) = (gI μ_65 2000 11) then
      f_X7_store_92 κ29 μ_65 b1_65 v37 (1 : Int32)
    else
      f_X7_store_92 κ29 μ_65 b1_65 v37 (0 : Int32)
def f_X7_store_64 (κ29 : Mem → Int32 → Int32 → Int32 → Int32 → Option (Int32 × Mem)) (μ_64 : Mem) (b1_64 : Int32) (b2_64 : Int32) (b4_64 : Int32) : Option (Int32 × Mem) :=
  f_X7_store_65 κ29 μ_64 b1_64 b2_64 b4_64 (0 : Int32)
def f_X7_store_123 (μ_123 : Mem) (b1_123 : Int32) (b2_123 : Int32) (b4_123 : Int32) : Option (Int32 × Mem) :=
  (some (sI μ_123 2000 11 (0 : Int32))).bind fun μ39 =>
  if b4_123 = (0 : Int32) then
    (some (sI μ39 2000 25 b1_123)).bind fun μ45 =>
    some ((-10 : Int32) - (gI μ45 2000 13), μ45)
  else
    (stI μ39 2019 6 (gI μ39 2000 17) b2_123).bind fun μ41 =>
    (some (sI μ41 2000 18 (gI μ41 2000 17))).bind fun μ42 =>
    (some (gI μ42 2000 17)).bind fun v43 =>
    (some (sI μ42 2000 17 (v43 + (1 : Int32)))).bind fun μ44 =>
    some (v43, μ44)
def f_X7_store_29 : Nat → Mem → Int32 → Int32 → Int32 → Int32 → Option (Int32 × Mem)
  | 0, _, _, _, _, _ => none
  | n + 1, μ_29, b1_29, b2_29, b3_29, b4_29 =>
    if b3_29 = (0 : Int32) then
      f_X7_store_123 μ_29 b1_29 b2_29 b4_29
    else
      if b4_29 = (0 : Int32) then
        if (10 : Int32) ≤ b2_29 then
          f_X7_store_64 (fun μ z0 z1 z2 z3 => f_X7_store_29 n μ z0 z1 z2 z3) μ_29 b1_29 b2_29 b4_29
        else
          (f_X7_isClause μ_29 (((10 : Int32) * (gI μ_29 2000 17)) + b2_29)).bind fun p52 =>
          if p52.1 = (0 : Int32) then
            f_X7_store_64 (fun μ z0 z1 z2 z3 => f_X7_store_29 n μ z0 z1 z2 z3) p52.2 b1_29 b2_29 b4_29
          else
            f_X7_store_65 (fun μ z0 z1 z2 z3 => f_X7_store_29 n μ z0 z1 z2 z3) p52.2 b1_29 b2_29 b4_29 (1 : Int32)
      else
        f_X7_store_123 μ_29 b1_29 b2_29 b4_29
def f_X7_store (μ : Mem) : Option (Int32 × Mem) :=
  if (gI μ 2000 17) = (6 : Int32) then
    some ((-4 : Int32), μ)
  else
    (some (gI μ 2000 25)).bind fun v55 =>
    (some (sI μ 2000 13 (0 : Int32))).bind fun μ56 =>
    f_X7_store_29 FU μ56 v55 (0 : Int32) (1 : Int32) (0 : Int32)
def f_X7_isDay (μ : Mem) (a1 : Int32) (a2 : Int32) : Option (Int32 × Mem) :=
  (f_X7_turn μ a1).bind fun v9 =>
  (rmI a2 v9).bind fun v11 =>
  (f_X7_rest μ a1).bind fun p15 =>
  if v11 = p15.1 then
    some ((1 : Int32), p15.2)
  else
    some ((0 : Int32), p15.2)
def f_X7_goesOff (μ : Mem) (a1 : Int32) (a2 : Int32) : Option (Int32 × Mem) :=
  (ldI μ 2005 6 a1).bind fun v8 =>
  if v8 = (0 : Int32) then
    (f_X7_isDay μ a1 a2).bind fun p13 =>
    if p13.1 = (0 : Int32) then
      some ((0 : Int32), p13.2)
    else
      some ((1 : Int32), p13.2)
  else
    some ((0 : Int32), μ)
def f_X7_goOff_27 (κ4 : Mem → Int32 → Int32 → Int32 → Option (Int32 × Mem)) (μ_27 : Mem) (b1_27 : Int32) (b2_27 : Int32) (b3_27 : Int32) : Option (Int32 × Mem) :=
  (some (b3_27 + (1 : Int32))).bind fun v9 =>
  κ4 μ_27 b1_27 b2_27 v9
def f_X7_goOff_4 : Nat → Mem → Int32 → Int32 → Int32 → Option (Int32 × Mem)
  | 0, _, _, _, _ => none
  | n + 1, μ_4, b1_4, b2_4, b3_4 =>
    if (gI μ_4 2000 0) ≤ b3_4 then
      some (b2_4, μ_4)
    else
      (f_X7_goesOff μ_4 b3_4 b1_4).bind fun p14 =>
      if p14.1 = (0 : Int32) then
        f_X7_goOff_27 (fun μ z0 z1 z2 => f_X7_goOff_4 n μ z0 z1 z2) p14.2 b1_4 b2_4 b3_4
      else
        (some (b2_4 ||| ((1 : Int32) <<< (b3_4 &&& 31)))).bind fun v16 =>
        f_X7_goOff_27 (fun μ z0 z1 z2 => f_X7_goOff_4 n μ z0 z1 z2) p14.2 b1_4 v16 b3_4
def f_X7_goOff (μ : Mem) (a1 : Int32) : Option (Int32 × Mem) :=
  f_X7_goOff_4 FU μ a1 (0 : Int32) (0 : Int32)
def f_X7_isHeard (μ : Mem) : Option (Int32) :=
  (rmI (gI μ 2000 10) (7 : Int32)).bind fun v3 =>
  if (((gI μ 2000 9) >>> (v3 &&& 31)) &&& (1 : Int32)) = (1 : Int32) then
    some (1 : Int32)
  else
    some (0 : Int32)
def f_X7_goesDay_57 (κ11 : Mem → Int32 → Int32 → Option (Mem)) (μ_57 : Mem) (b1_57 : Int32) (b2_57 : Int32) : Option (Mem) :=
  (some (b2_57 + (1 : Int32))).bind fun v16 =>
  κ11 μ_57 b1_57 v16
def f_X7_goesDay_11 : Nat → Mem → Int32 → Int32 → Option (Mem)
  | 0, _, _, _ => none
  | n + 1, μ_11, b1_11, b2_11 =>
    if (gI μ_11 2000 0) ≤ b2_11 then
      (some (sI μ_11 2000 10 ((gI μ_11 2000 10) + (1 : Int32)))).bind fun μ18 =>
      some μ18
    else
      if ((b1_11 >>> (b2_11 &&& 31)) &&& (1 : Int32)) = (0 : Int32) then
        f_X7_goesDay_57 (fun μ z0 z1 => f_X7_goesDay_11 n μ z0 z1) μ_11 b1_11 b2_11
      else
        (ldI μ_11 2006 6 b2_11).bind fun v20 =>
        (stI μ_11 2006 6 b2_11 (v20 + (1 : Int32))).bind fun μ21 =>
        (f_X7_isHeard μ21).bind fun v22 =>
        if v22 = (0 : Int32) then
          (ldI μ21 2007 6 b2_11).bind fun v25 =>
          (stI μ21 2007 6 b2_11 (v25 + (1 : Int32))).bind fun μ26 =>
          f_X7_goesDay_57 (fun μ z0 z1 => f_X7_goesDay_11 n μ z0 z1) μ26 b1_11 b2_11
        else
          f_X7_goesDay_57 (fun μ z0 z1 => f_X7_goesDay_11 n μ z0 z1) μ21 b1_11 b2_11
def f_X7_goesDay (μ : Mem) : Option (Mem) :=
  (f_X7_goOff μ (gI μ 2000 10)).bind fun p30 =>
  f_X7_goesDay_11 FU p30.2 p30.1 (0 : Int32)
def f_X7_allWent_4 (μ : Mem) : Nat → Int32 → Int32 → Option (Int32)
  | 0, _, _ => none
  | n + 1, b1_4, b2_4 =>
    if (gI μ 2000 0) ≤ b2_4 then
      some b1_4
    else
      (ldI μ 2006 6 b2_4).bind fun v6 =>
      (some (b1_4 + v6)).bind fun v7 =>
      (some (b2_4 + (1 : Int32))).bind fun v8 =>
      f_X7_allWent_4 μ n v7 v8
def f_X7_allWent (μ : Mem) : Option (Int32) :=
  f_X7_allWent_4 μ FU (0 : Int32) (0 : Int32)
def f_X7_allMissed_4 (μ : Mem) : Nat → Int32 → Int32 → Option (Int32)
  | 0, _, _ => none
  | n + 1, b1_4, b2_4 =>
    if (gI μ 2000 0) ≤ b2_4 then
      some b1_4
    else
      (ldI μ 2007 6 b2_4).bind fun v6 =>
      (some (b1_4 + v6)).bind fun v7 =>
      (some (b2_4 + (1 : Int32))).bind fun v8 =>
      f_X7_allMissed_4 μ n v7 v8
def f_X7_allMissed (μ : Mem) : Option (Int32) :=
  f_X7_allMissed_4 μ FU (0 : Int32) (0 : Int32)
def f_X7_quiet_2 : Nat → Mem → Int32 → Option (Int32 × Mem)
  | 0, _, _ => none
  | n + 1, μ_2, b1_2 =>
    if (1000 : Int32) < b1_2 then
      some ((-5 : Int32), μ_2)
    else
      (f_X7_goOff μ_2 ((gI μ_2 2000 10) + b1_2)).bind fun p12 =>
      if p12.1 = (0 : Int32) then
        some (b1_2, p12.2)
      else
        (some (b1_2 + (1 : Int32))).bind fun v14 =>
        f_X7_quiet_2 n p12.2 v14
def f_X7_quiet (μ : Mem) : Option (Int32 × Mem) :=
  f_X7_quiet_2 FU μ (0 : Int32)
def f_X7_told (μ : Mem) (a1 : Int32) : Option (Int32 × Mem) :=
  if a1 = (0 : Int32) then
    some (gI μ 2000 10, μ)
  else if a1 = (1 : Int32) then
    (f_X7_allBy μ).bind fun v24 =>
    some (v24, μ)
  else if a1 = (2 : Int32) then
    some (gI μ 2000 9, μ)
  else if a1 = (3 : Int32) then
    (f_X7_goOff μ (gI μ 2000 10)).bind fun p31 =>
    some (p31.1, p31.2)
  else if a1 = (4 : Int32) then
    (f_X7_quiet μ).bind fun p36 =>
    some (p36.1, p36.2)
  else if a1 = (5 : Int32) then
    (f_X7_allWent μ).bind fun v38 =>
    some (v38, μ)
  else if a1 = (6 : Int32) then
    (f_X7_allMissed μ).bind fun v41 =>
    some (v41, μ)
  else 
    some ((-1 : Int32), μ)
def f_X7_pass_40 (κ29 : Mem → Int32 → Int32 → Option (Int32 × Mem)) : Nat → Mem → Int32 → Int32 → Int32 → Option (Int32 × Mem)
  | 0, _, _, _, _ => none
  | n + 1, μ_40, b1_40, b2_40, b3_40 =>
    if (gI μ_40 2000 0) ≤ b3_40 then
      (some (b2_40 + (1 : Int32))).bind fun v16 =>
      κ29 μ_40 b1_40 v16
    else
      (ldI μ_40 2006 6 b3_40).bind fun v17 =>
      (stI μ_40 2006 6 b3_40 (if v17 < (9999 : Int32) then v17 else (9999 : Int32))).bind fun μ18 =>
      (ldI μ18 2007 6 b3_40).bind fun v19 =>
      (stI μ18 2007 6 b3_40 (if v19 < (9999 : Int32) then v19 else (9999 : Int32))).bind fun μ20 =>
      (some (b3_40 + (1 : Int32))).bind fun v21 =>
      f_X7_pass_40 κ29 n μ20 b1_40 b2_40 v21
def f_X7_pass_29 : Nat → Mem → Int32 → Int32 → Option (Int32 × Mem)
  | 0, _, _, _ => none
  | n + 1, μ_29, b1_29, b2_29 =>
    if b1_29 ≤ b2_29 then
      some (gI μ_29 2000 10, μ_29)
    else
      (f_X7_goesDay μ_29).bind fun μ23 =>
      f_X7_pass_40 (fun μ z0 z1 => f_X7_pass_29 n μ z0 z1) FU μ23 b1_29 b2_29 (0 : Int32)
def f_X7_pass (μ : Mem) (a1 : Int32) : Option (Int32 × Mem) :=
  (f_X7_within μ a1 (0 : Int32) (60 : Int32)).bind fun v25 =>
  if v25 = (0 : Int32) then
    some ((-2 : Int32), μ)
  else
    if ((gI μ 2000 10) + a1) ≤ (99999 : Int32) then
      f_X7_pass_29 FU μ a1 (0 : Int32)
    else
      some ((-3 : Int32), μ)
def f_X7_keep_197 (k1 : Nat) : Nat → Mem → Int32 → Option (Mem)
  | 0, _, _ => none
  | n + 1, μ_197, b2_197 =>
    if (8 : Int32) ≤ b2_197 then
      (stI μ_197 k1 126 (120 : Int32) (gI μ_197 2000 0)).bind fun μ46 =>
      (stI μ46 k1 126 (121 : Int32) (gI μ46 2000 9)).bind fun μ47 =>
      (stI μ47 k1 126 (122 : Int32) (gI μ47 2000 10)).bind fun μ48 =>
      (stI μ48 k1 126 (123 : Int32) (gI μ48 2000 27)).bind fun μ49 =>
      (stI μ49 k1 126 (124 : Int32) ((gI μ49 2000 31) + ((100 : Int32) * (gI μ49 2000 34)))).bind fun μ50 =>
      (stI μ50 k1 126 (125 : Int32) (gI μ50 2000 18)).bind fun μ51 =>
      some μ51
    else
      (ldI μ_197 2035 8 b2_197).bind fun v52 =>
      (stI μ_197 k1 126 ((104 : Int32) + b2_197) v52).bind fun μ53 =>
      (ldI μ53 2036 8 b2_197).bind fun v54 =>
      (stI μ53 k1 126 ((112 : Int32) + b2_197) v54).bind fun μ55 =>
      (some (b2_197 + (1 : Int32))).bind fun v56 =>
      f_X7_keep_197 k1 n μ55 v56
def f_X7_keep_159 (k1 : Nat) : Nat → Mem → Int32 → Option (Mem)
  | 0, _, _ => none
  | n + 1, μ_159, b2_159 =>
    if (10 : Int32) ≤ b2_159 then
      f_X7_keep_197 k1 FU μ_159 (0 : Int32)
    else
      (ldI μ_159 2032 10 b2_159).bind fun v58 =>
      (stI μ_159 k1 126 ((84 : Int32) + b2_159) v58).bind fun μ59 =>
      (ldI μ59 2033 10 b2_159).bind fun v60 =>
      (stI μ59 k1 126 ((94 : Int32) + b2_159) v60).bind fun μ61 =>
      (some (b2_159 + (1 : Int32))).bind fun v62 =>
      f_X7_keep_159 k1 n μ61 v62
def f_X7_keep_133 (k1 : Nat) : Nat → Mem → Int32 → Option (Mem)
  | 0, _, _ => none
  | n + 1, μ_133, b2_133 =>
    if (24 : Int32) ≤ b2_133 then
      f_X7_keep_159 k1 FU μ_133 (0 : Int32)
    else
      (ldI μ_133 2008 24 b2_133).bind fun v64 =>
      (stI μ_133 k1 126 ((60 : Int32) + b2_133) v64).bind fun μ65 =>
      (some (b2_133 + (1 : Int32))).bind fun v66 =>
      f_X7_keep_133 k1 n μ65 v66
def f_X7_keep_2 (k1 : Nat) : Nat → Mem → Int32 → Option (Mem)
  | 0, _, _ => none
  | n + 1, μ_2, b2_2 =>
    if (6 : Int32) ≤ b2_2 then
      f_X7_keep_133 k1 FU μ_2 (0 : Int32)
    else
      (ldI μ_2 2001 6 b2_2).bind fun v68 =>
      (stI μ_2 k1 126 b2_2 v68).bind fun μ69 =>
      (ldI μ69 2002 6 b2_2).bind fun v70 =>
      (stI μ69 k1 126 ((6 : Int32) + b2_2) v70).bind fun μ71 =>
      (ldI μ71 2003 6 b2_2).bind fun v72 =>
      (stI μ71 k1 126 ((12 : Int32) + b2_2) v72).bind fun μ73 =>
      (ldI μ73 2004 6 b2_2).bind fun v74 =>
      (stI μ73 k1 126 ((18 : Int32) + b2_2) v74).bind fun μ75 =>
      (ldI μ75 2005 6 b2_2).bind fun v76 =>
      (stI μ75 k1 126 ((24 : Int32) + b2_2) v76).bind fun μ77 =>
      (ldI μ77 2006 6 b2_2).bind fun v78 =>
      (stI μ77 k1 126 ((30 : Int32) + b2_2) v78).bind fun μ79 =>
      (ldI μ79 2007 6 b2_2).bind fun v80 =>
      (stI μ79 k1 126 ((36 : Int32) + b2_2) v80).bind fun μ81 =>
      (ldI μ81 2028 6 b2_2).bind fun v82 =>
      (stI μ81 k1 126 ((42 : Int32) + b2_2) v82).bind fun μ83 =>
      (ldI μ83 2029 6 b2_2).bind fun v84 =>
      (stI μ83 k1 126 ((48 : Int32) + b2_2) v84).bind fun μ85 =>
      (ldI μ85 2030 6 b2_2).bind fun v86 =>
      (stI μ85 k1 126 ((54 : Int32) + b2_2) v86).bind fun μ87 =>
      (some (b2_2 + (1 : Int32))).bind fun v88 =>
      f_X7_keep_2 k1 n μ87 v88
def f_X7_keep (μ : Mem) (k1 : Nat) : Option (Mem) :=
  f_X7_keep_2 k1 FU μ (0 : Int32)
def f_X7_again_197 (k1 : Nat) : Nat → Mem → Int32 → Option (Mem)
  | 0, _, _ => none
  | n + 1, μ_197, b2_197 =>
    if (8 : Int32) ≤ b2_197 then
      (ldI μ_197 k1 126 (120 : Int32)).bind fun v56 =>
      (some (sI μ_197 2000 0 v56)).bind fun μ57 =>
      (ldI μ57 k1 126 (121 : Int32)).bind fun v58 =>
      (some (sI μ57 2000 9 v58)).bind fun μ59 =>
      (ldI μ59 k1 126 (122 : Int32)).bind fun v60 =>
      (some (sI μ59 2000 10 v60)).bind fun μ61 =>
      (ldI μ61 k1 126 (123 : Int32)).bind fun v62 =>
      (some (sI μ61 2000 27 v62)).bind fun μ63 =>
      (ldI μ63 k1 126 (124 : Int32)).bind fun v64 =>
      (rmI v64 (100 : Int32)).bind fun v65 =>
      (some (sI μ63 2000 31 v65)).bind fun μ66 =>
      (ldI μ66 k1 126 (124 : Int32)).bind fun v67 =>
      (dvI v67 (100 : Int32)).bind fun v68 =>
      (some (sI μ66 2000 34 v68)).bind fun μ69 =>
      (ldI μ69 k1 126 (125 : Int32)).bind fun v70 =>
      (some (sI μ69 2000 18 v70)).bind fun μ71 =>
      some μ71
    else
      (ldI μ_197 k1 126 ((104 : Int32) + b2_197)).bind fun v72 =>
      (stI μ_197 2035 8 b2_197 v72).bind fun μ73 =>
      (ldI μ73 k1 126 ((112 : Int32) + b2_197)).bind fun v74 =>
      (stI μ73 2036 8 b2_197 v74).bind fun μ75 =>
      (some (b2_197 + (1 : Int32))).bind fun v76 =>
      f_X7_again_197 k1 n μ75 v76
def f_X7_again_159 (k1 : Nat) : Nat → Mem → Int32 → Option (Mem)
  | 0, _, _ => none
  | n + 1, μ_159, b2_159 =>
    if (10 : Int32) ≤ b2_159 then
      f_X7_again_197 k1 FU μ_159 (0 : Int32)
    else
      (ldI μ_159 k1 126 ((84 : Int32) + b2_159)).bind fun v78 =>
      (stI μ_159 2032 10 b2_159 v78).bind fun μ79 =>
      (ldI μ79 k1 126 ((94 : Int32) + b2_159)).bind fun v80 =>
      (stI μ79 2033 10 b2_159 v80).bind fun μ81 =>
      (some (b2_159 + (1 : Int32))).bind fun v82 =>
      f_X7_again_159 k1 n μ81 v82
def f_X7_again_133 (k1 : Nat) : Nat → Mem → Int32 → Option (Mem)
  | 0, _, _ => none
  | n + 1, μ_133, b2_133 =>
    if (24 : Int32) ≤ b2_133 then
      f_X7_again_159 k1 FU μ_133 (0 : Int32)
    else
      (ldI μ_133 k1 126 ((60 : Int32) + b2_133)).bind fun v84 =>
      (stI μ_133 2008 24 b2_133 v84).bind fun μ85 =>
      (some (b2_133 + (1 : Int32))).bind fun v86 =>
      f_X7_again_133 k1 n μ85 v86
def f_X7_again_2 (k1 : Nat) : Nat → Mem → Int32 → Option (Mem)
  | 0, _, _ => none
  | n + 1, μ_2, b2_2 =>
    if (6 : Int32) ≤ b2_2 then
      f_X7_again_133 k1 FU μ_2 (0 : Int32)
    else
      (ldI μ_2 k1 126 b2_2).bind fun v88 =>
      (stI μ_2 2001 6 b2_2 v88).bind fun μ89 =>
      (ldI μ89 k1 126 ((6 : Int32) + b2_2)).bind fun v90 =>
      (stI μ89 2002 6 b2_2 v90).bind fun μ91 =>
      (ldI μ91 k1 126 ((12 : Int32) + b2_2)).bind fun v92 =>
      (stI μ91 2003 6 b2_2 v92).bind fun μ93 =>
      (ldI μ93 k1 126 ((18 : Int32) + b2_2)).bind fun v94 =>
      (stI μ93 2004 6 b2_2 v94).bind fun μ95 =>
      (ldI μ95 k1 126 ((24 : Int32) + b2_2)).bind fun v96 =>
      (stI μ95 2005 6 b2_2 v96).bind fun μ97 =>
      (ldI μ97 k1 126 ((30 : Int32) + b2_2)).bind fun v98 =>
      (stI μ97 2006 6 b2_2 v98).bind fun μ99 =>
      (ldI μ99 k1 126 ((36 : Int32) + b2_2)).bind fun v100 =>
      (stI μ99 2007 6 b2_2 v100).bind fun μ101 =>
      (ldI μ101 k1 126 ((42 : Int32) + b2_2)).bind fun v102 =>
      (stI μ101 2028 6 b2_2 v102).bind fun μ103 =>
      (ldI μ103 k1 126 ((48 : Int32) + b2_2)).bind fun v104 =>
      (stI μ103 2029 6 b2_2 v104).bind fun μ105 =>
      (ldI μ105 k1 126 ((54 : Int32) + b2_2)).bind fun v106 =>
      (stI μ105 2030 6 b2_2 v106).bind fun μ107 =>
      (some (b2_2 + (1 : Int32))).bind fun v108 =>
      f_X7_again_2 k1 n μ107 v108
def f_X7_again (μ : Mem) (k1 : Nat) : Option (Mem) :=
  f_X7_again_2 k1 FU μ (0 : Int32)
def f_X7_on_108 (μ_108 : Mem) (s0_108 : Int32) : Option (Int32 × Mem) :=
  (f_X7_again μ_108 2041).bind fun μ30 =>
  some (s0_108, μ30)
def f_X7_on_45 : Nat → Mem → Int32 → Int32 → Int32 → Option (Int32 × Mem)
  | 0, _, _, _, _ => none
  | n + 1, μ_45, b1_45, b2_45, b3_45 =>
    if b1_45 ≤ b3_45 then
      if b2_45 = (0 : Int32) then
        (f_X7_goOff μ_45 (gI μ_45 2000 10)).bind fun p44 =>
        f_X7_on_108 p44.2 p44.1
      else
        if b2_45 = (1 : Int32) then
          (f_X7_allWent μ_45).bind fun v39 =>
          f_X7_on_108 μ_45 v39
        else
          if b2_45 = (2 : Int32) then
            (f_X7_allMissed μ_45).bind fun v37 =>
            f_X7_on_108 μ_45 v37
          else
            (ldI μ_45 2006 6 (b2_45 - (10 : Int32))).bind fun v36 =>
            f_X7_on_108 μ_45 v36
    else
      (f_X7_goesDay μ_45).bind fun μ45 =>
      (some (b3_45 + (1 : Int32))).bind fun v47 =>
      f_X7_on_45 n μ45 b1_45 b2_45 v47
def f_X7_on_22 (μ_22 : Mem) (b1_22 : Int32) (b2_22 : Int32) : Option (Int32 × Mem) :=
  (f_X7_within μ_22 b1_22 (0 : Int32) (60 : Int32)).bind fun v48 =>
  if v48 = (0 : Int32) then
    some ((-2 : Int32), μ_22)
  else
    (f_X7_keep μ_22 2041).bind fun μ51 =>
    f_X7_on_45 FU μ51 b1_22 b2_22 (0 : Int32)
def f_X7_on (μ : Mem) (a1 : Int32) (a2 : Int32) : Option (Int32 × Mem) :=
  (f_X7_within μ a2 (0 : Int32) (2 : Int32)).bind fun v53 =>
  if v53 = (0 : Int32) then
    (f_X7_isOne μ (a2 - (10 : Int32))).bind fun v56 =>
    if v56 = (0 : Int32) then
      some ((-1 : Int32), μ)
    else
      f_X7_on_22 μ a1 a2
  else
    f_X7_on_22 μ a1 a2
def f_X7_often (μ : Mem) (a1 : Int32) (a2 : Int64) : Option (Int64 × Mem) :=
  (f_X7_isOne μ a1).bind fun v19 =>
  if v19 = (0 : Int32) then
    some ((-9223372036854775808 : Int64), μ)
  else
    if (lg_cmp a2 (0 : Int64)) < (0 : Int32) then
      some ((-9223372036854775808 : Int64), μ)
    else
      if (lg_cmp a2 (1000000000 : Int64)) ≤ (0 : Int32) then
        (f_X7_inDays μ a1).bind fun p27 =>
        (some (a2 - p27.1.toInt64)).bind fun v28 =>
        (ldI p27.2 2005 6 a1).bind fun v29 =>
        if v29 = (1 : Int32) then
          some ((0 : Int64), p27.2)
        else
          if (0 : Int32) < (lg_cmp v28 (0 : Int64)) then
            (f_X7_turn p27.2 a1).bind fun v32 =>
            (f_X7_turn p27.2 a1).bind fun v34 =>
            (dvL ((v28 + v32.toInt64) - (1 : Int64)) v34.toInt64).bind fun v36 =>
            some (v36, p27.2)
          else
            some ((0 : Int64), p27.2)
      else
        some ((-9223372036854775808 : Int64), μ)
def f_X7_gcd_6 (μ : Mem) : Nat → Int64 → Int64 → Option (Int64)
  | 0, _, _ => none
  | n + 1, b4_6, b6_6 =>
    if (lg_cmp b6_6 (0 : Int64)) = (0 : Int32) then
      some b4_6
    else
      (rmL b4_6 b6_6).bind fun v4 =>
      f_X7_gcd_6 μ n b6_6 v4
def f_X7_gcd (μ : Mem) (a0 : Int64) (a2 : Int64) : Option (Int64) :=
  f_X7_gcd_6 μ FU a0 a2
def f_J9_floorMod_1978a (μ : Mem) (a0 : Int64) (a2 : Int32) : Option (Int32) :=
  (f_J9_floorMod_f86c9 μ a0 a2.toInt64).bind fun v3 =>
  some v3.toInt32
def f_X7_first_118 (κ8 : Mem → Int32 → Int64 → Int64 → Int32 → Option (Int64 × Mem)) (μ_118 : Mem) (b1_118 : Int32) (b2_118 : Int64) (b4_118 : Int64) (b6_118 : Int32) : Option (Int64 × Mem) :=
  (some (b6_118 + (1 : Int32))).bind fun v23 =>
  κ8 μ_118 b1_118 b2_118 b4_118 v23
def f_X7_first_90 (κ8 : Mem → Int32 → Int64 → Int64 → Int32 → Option (Int64 × Mem)) (μ_90 : Mem) (b1_90 : Int32) (b2_90 : Int64) (b4_90 : Int64) (b6_90 : Int32) (b7_90 : Int32) (b8_90 : Int32) : Option (Int64 × Mem) :=
  if b8_90 ≤ b7_90 then
    (f_X7_gcd μ_90 b4_90 b7_90.toInt64).bind fun v25 =>
    (dvL b4_90 v25).bind fun v27 =>
    (some (v27 * b7_90.toInt64)).bind fun v28 =>
    f_X7_first_118 κ8 μ_90 b1_90 b2_90 v28 b6_90
  else
    some ((-5 : Int64), μ_90)
def f_X7_first_55 (κ8 : Mem → Int32 → Int64 → Int64 → Int32 → Option (Int64 × Mem)) : Nat → Mem → Int32 → Int64 → Int64 → Int32 → Int32 → Int32 → Option (Int64 × Mem)
  | 0, _, _, _, _, _, _, _ => none
  | n + 1, μ_55, b1_55, b2_55, b4_55, b6_55, b7_55, b8_55 =>
    if b7_55 < b8_55 then
      f_X7_first_90 κ8 μ_55 b1_55 b2_55 b4_55 b6_55 b7_55 b8_55
    else
      (f_X7_inDays μ_55 b6_55).bind fun p33 =>
      (f_J9_floorMod_1978a p33.2 (b2_55 - p33.1.toInt64) b7_55).bind fun v34 =>
      if v34 = (0 : Int32) then
        f_X7_first_90 κ8 p33.2 b1_55 b2_55 b4_55 b6_55 b7_55 b8_55
      else
        (some (b2_55 + b4_55)).bind fun v37 =>
        (some (b8_55 + (1 : Int32))).bind fun v38 =>
        f_X7_first_55 κ8 n p33.2 b1_55 v37 b4_55 b6_55 b7_55 v38
def f_X7_first_8 : Nat → Mem → Int32 → Int64 → Int64 → Int32 → Option (Int64 × Mem)
  | 0, _, _, _, _, _ => none
  | n + 1, μ_8, b1_8, b2_8, b4_8, b6_8 =>
    if (gI μ_8 2000 0) ≤ b6_8 then
      some (b2_8, μ_8)
    else
      if ((b1_8 >>> (b6_8 &&& 31)) &&& (1 : Int32)) = (0 : Int32) then
        f_X7_first_118 (fun μ z0 z1 z2 z3 => f_X7_first_8 n μ z0 z1 z2 z3) μ_8 b1_8 b2_8 b4_8 b6_8
      else
        (ldI μ_8 2005 6 b6_8).bind fun v41 =>
        if v41 = (1 : Int32) then
          some ((-5 : Int64), μ_8)
        else
          (f_X7_turn μ_8 b6_8).bind fun v43 =>
          f_X7_first_55 (fun μ z0 z1 z2 z3 => f_X7_first_8 n μ z0 z1 z2 z3) FU μ_8 b1_8 b2_8 b4_8 b6_8 v43 (0 : Int32)
def f_X7_first (μ : Mem) (a1 : Int32) : Option (Int64 × Mem) :=
  f_X7_first_8 FU μ a1 (0 : Int64) (1 : Int64) (0 : Int32)
def f_X7_common_46 (μ : Mem) (κ5 : Int32 → Int64 → Int32 → Option (Int64)) (b1_46 : Int32) (b2_46 : Int64) (b4_46 : Int32) : Option (Int64) :=
  (some (b4_46 + (1 : Int32))).bind fun v12 =>
  κ5 b1_46 b2_46 v12
def f_X7_common_5 (μ : Mem) : Nat → Int32 → Int64 → Int32 → Option (Int64)
  | 0, _, _, _ => none
  | n + 1, b1_5, b2_5, b4_5 =>
    if (gI μ 2000 0) ≤ b4_5 then
      some b2_5
    else
      if ((b1_5 >>> (b4_5 &&& 31)) &&& (1 : Int32)) = (1 : Int32) then
        (f_X7_turn μ b4_5).bind fun v15 =>
        (f_X7_gcd μ b2_5 v15.toInt64).bind fun v17 =>
        (dvL b2_5 v17).bind fun v19 =>
        (f_X7_turn μ b4_5).bind fun v20 =>
        (some (v19 * v20.toInt64)).bind fun v22 =>
        f_X7_common_46 μ (fun z0 z1 z2 => f_X7_common_5 μ n z0 z1 z2) b1_5 v22 b4_5
      else
        f_X7_common_46 μ (fun z0 z1 z2 => f_X7_common_5 μ n z0 z1 z2) b1_5 b2_5 b4_5
def f_X7_common (μ : Mem) (a1 : Int32) : Option (Int64) :=
  f_X7_common_5 μ FU a1 (1 : Int64) (0 : Int32)
def f_X7_together (μ : Mem) (a1 : Int32) (a2 : Int32) : Option (Int64 × Mem) :=
  if a1 < (0 : Int32) then
    some ((-9223372036854775808 : Int64), μ)
  else
    if ((1 : Int32) <<< ((gI μ 2000 0) &&& 31)) ≤ a1 then
      some ((-9223372036854775808 : Int64), μ)
    else
      (f_X7_within μ a2 (0 : Int32) (1 : Int32)).bind fun v16 =>
      if v16 = (0 : Int32) then
        some ((-9223372036854775808 : Int64), μ)
      else
        (f_X7_first μ a1).bind fun p22 =>
        if (0 : Int32) ≤ (lg_cmp p22.1 (0 : Int64)) then
          if a2 = (0 : Int32) then
            some (((gI p22.2 2000 10).toInt64) + p22.1, p22.2)
          else
            (f_X7_common p22.2 a1).bind fun v25 =>
            some (v25, p22.2)
        else
          some ((-5 : Int64), p22.2)
def f_X7_busy_96 (κ35 : Mem → Int32 → Int32 → Int32 → Int32 → Int32 → Int32 → Option (Int32 × Mem)) (μ_96 : Mem) (b1_96 : Int32) (b2_96 : Int32) (b3_96 : Int32) (b4_96 : Int32) (b5_96 : Int32) (b6_96 : Int32) : Option (Int32 × Mem) :=
  (some (b6_96 + (1 : Int32))).bind fun v21 =>
  κ35 μ_96 b1_96 b2_96 b3_96 b4_96 b5_96 v21
def f_X7_busy_79 (κ35 : Mem → Int32 → Int32 → Int32 → Int32 → Int32 → Int32 → Option (Int32 × Mem)) (μ_79 : Mem) (b1_79 : Int32) (b2_79 : Int32) (b3_79 : Int32) (b4_79 : Int32) (b5_79 : Int32) (b6_79 : Int32) (b7_79 : Int32) : Option (Int32 × Mem) :=
  if b4_79 < b7_79 then
    f_X7_busy_96 κ35 μ_79 b1_79 b2_79 b6_79 b7_79 b5_79 b6_79
  else
    f_X7_busy_96 κ35 μ_79 b1_79 b2_79 b3_79 b4_79 b5_79 b6_79
def f_X7_busy_35 : Nat → Mem → Int32 → Int32 → Int32 → Int32 → Int32 → Int32 → Option (Int32 × Mem)
  | 0, _, _, _, _, _, _, _ => none
  | n + 1, μ_35, b1_35, b2_35, b3_35, b4_35, b5_35, b6_35 =>
    if b1_35 ≤ b6_35 then
      if b2_35 = (0 : Int32) then
        some (b3_35, μ_35)
      else
        if b2_35 = (1 : Int32) then
          some (b4_35, μ_35)
        else
          some (b5_35, μ_35)
    else
      (f_X7_goOff μ_35 ((gI μ_35 2000 10) + b6_35)).bind fun p29 =>
      (f_J6_bitCount_0f7a4 p29.2 p29.1).bind fun v30 =>
      if v30 ≤ (0 : Int32) then
        f_X7_busy_79 (fun μ z0 z1 z2 z3 z4 z5 => f_X7_busy_35 n μ z0 z1 z2 z3 z4 z5) p29.2 b1_35 b2_35 b3_35 b4_35 b5_35 b6_35 v30
      else
        (rmI ((gI p29.2 2000 10) + b6_35) (7 : Int32)).bind fun v33 =>
        (some (b5_35 ||| ((1 : Int32) <<< (v33 &&& 31)))).bind fun v34 =>
        f_X7_busy_79 (fun μ z0 z1 z2 z3 z4 z5 => f_X7_busy_35 n μ z0 z1 z2 z3 z4 z5) p29.2 b1_35 b2_35 b3_35 b4_35 v34 b6_35 v30
def f_X7_busy (μ : Mem) (a1 : Int32) (a2 : Int32) : Option (Int32 × Mem) :=
  (f_X7_within μ a2 (0 : Int32) (2 : Int32)).bind fun v35 =>
  if v35 = (0 : Int32) then
    some ((-1 : Int32), μ)
  else
    (f_X7_within μ a1 (1 : Int32) (60 : Int32)).bind fun v38 =>
    if v38 = (0 : Int32) then
      some ((-2 : Int32), μ)
    else
      f_X7_busy_35 FU μ a1 a2 (0 : Int32) (-1 : Int32) (0 : Int32) (0 : Int32)
def f_X7_hear_91 (μ_91 : Mem) (s0_91 : Int32) (s1_91 : Int32) : Option (Int32 × Mem) :=
  (stI μ_91 2030 6 s1_91 s0_91).bind fun μ16 =>
  some (gI μ16 2000 27, μ16)
def f_X7_hear (μ : Mem) (a1 : Int32) (a2 : Int32) (a3 : Int32) : Option (Int32 × Mem) :=
  if a1 = (-1 : Int32) then
    (some (sI μ 2000 27 (0 : Int32))).bind fun μ30 =>
    some ((0 : Int32), μ30)
  else
    (f_X7_isOne μ a1).bind fun v18 =>
    if v18 = (0 : Int32) then
      some ((-1 : Int32), μ)
    else
      (f_X7_within μ a2 (0 : Int32) (60 : Int32)).bind fun v21 =>
      if v21 = (0 : Int32) then
        some ((-2 : Int32), μ)
      else
        if (gI μ 2000 27) = (6 : Int32) then
          some ((-4 : Int32), μ)
        else
          (stI μ 2028 6 (gI μ 2000 27) a1).bind fun μ25 =>
          (stI μ25 2029 6 (gI μ25 2000 27) a2).bind fun μ26 =>
          (some (gI μ26 2000 27)).bind fun v27 =>
          (some (sI μ26 2000 27 (v27 + (1 : Int32)))).bind fun μ28 =>
          if a3 = (0 : Int32) then
            f_X7_hear_91 μ28 (0 : Int32) v27
          else
            f_X7_hear_91 μ28 (1 : Int32) v27
def f_X7_isAllSo_56 (κ2 : Mem → Int32 → Int32 → Option (Int32 × Mem)) (μ_56 : Mem) (b1_56 : Int32) (b2_56 : Int32) : Option (Int32 × Mem) :=
  (some (b2_56 + (1 : Int32))).bind fun v13 =>
  κ2 μ_56 b1_56 v13
def f_X7_isAllSo_51 (κ2 : Mem → Int32 → Int32 → Option (Int32 × Mem)) (μ_51 : Mem) (b1_51 : Int32) (b2_51 : Int32) (s0_51 : Int32) (s1_51 : Int32) : Option (Int32 × Mem) :=
  if s1_51 = s0_51 then
    f_X7_isAllSo_56 κ2 μ_51 b1_51 b2_51
  else
    some ((0 : Int32), μ_51)
def f_X7_isAllSo_2 : Nat → Mem → Int32 → Int32 → Option (Int32 × Mem)
  | 0, _, _, _ => none
  | n + 1, μ_2, b1_2, b2_2 =>
    if (gI μ_2 2000 27) ≤ b2_2 then
      some ((1 : Int32), μ_2)
    else
      (ldI μ_2 2028 6 b2_2).bind fun v16 =>
      if v16 = b1_2 then
        (ldI μ_2 2029 6 b2_2).bind fun v18 =>
        (f_X7_isDay μ_2 b1_2 ((gI μ_2 2000 10) + v18)).bind fun p22 =>
        (ldI p22.2 2030 6 b2_2).bind fun v23 =>
        if v23 = (1 : Int32) then
          f_X7_isAllSo_51 (fun μ z0 z1 => f_X7_isAllSo_2 n μ z0 z1) p22.2 b1_2 b2_2 (1 : Int32) p22.1
        else
          f_X7_isAllSo_51 (fun μ z0 z1 => f_X7_isAllSo_2 n μ z0 z1) p22.2 b1_2 b2_2 (0 : Int32) p22.1
      else
        f_X7_isAllSo_56 (fun μ z0 z1 => f_X7_isAllSo_2 n μ z0 z1) μ_2 b1_2 b2_2
def f_X7_isAllSo (μ : Mem) (a1 : Int32) : Option (Int32 × Mem) :=
  f_X7_isAllSo_2 FU μ a1 (0 : Int32)
def f_X7_can_139 (κ67 : Mem → Int32 → Int32 → Int32 → Int32 → Int32 → Int32 → Option (Int32 × Mem)) (μ_139 : Mem) (b1_139 : Int32) (b2_139 : Int32) (b3_139 : Int32) (b4_139 : Int32) (b5_139 : Int32) (b6_139 : Int32) : Option (Int32 × Mem) :=
  (some (b6_139 + (-1 : Int32))).bind fun v31 =>
  κ67 μ_139 b1_139 b2_139 b3_139 b4_139 b5_139 v31
def f_X7_can_121 (κ67 : Mem → Int32 → Int32 → Int32 → Int32 → Int32 → Int32 → Option (Int32 × Mem)) (μ_121 : Mem) (b1_121 : Int32) (b2_121 : Int32) (b3_121 : Int32) (b4_121 : Int32) (b5_121 : Int32) (b6_121 : Int32) : Option (Int32 × Mem) :=
  (f_X7_isAllSo μ_121 b1_121).bind fun p35 =>
  if p35.1 = (0 : Int32) then
    f_X7_can_139 κ67 p35.2 b1_121 b2_121 b3_121 b4_121 b5_121 b6_121
  else
    (some (b4_121 + (1 : Int32))).bind fun v37 =>
    f_X7_can_139 κ67 p35.2 b1_121 b2_121 b3_121 v37 b6_121 b6_121
def f_X7_can_79 (κ67 : Mem → Int32 → Int32 → Int32 → Int32 → Int32 → Int32 → Option (Int32 × Mem)) (μ_79 : Mem) (b1_79 : Int32) (b2_79 : Int32) (b3_79 : Int32) (b4_79 : Int32) (b5_79 : Int32) (b6_79 : Int32) (s0_79 : Int32) (s1_79 : Int32) : Option (Int32 × Mem) :=
  if s1_79 < s0_79 then
    (f_X7_again μ_79 2041).bind fun μ39 =>
    if b3_79 = (0 : Int32) then
      some (b4_79, μ39)
    else
      some (b5_79, μ39)
  else
    if b2_79 = (0 : Int32) then
      (stI μ_79 2004 6 b1_79 b6_79).bind fun μ46 =>
      f_X7_can_121 κ67 μ46 b1_79 b2_79 b3_79 b4_79 b5_79 b6_79
    else
      if b2_79 = (1 : Int32) then
        (stI μ_79 2003 6 b1_79 b6_79).bind fun μ45 =>
        f_X7_can_121 κ67 μ45 b1_79 b2_79 b3_79 b4_79 b5_79 b6_79
      else
        (stI μ_79 2002 6 b1_79 b6_79).bind fun μ44 =>
        f_X7_can_121 κ67 μ44 b1_79 b2_79 b3_79 b4_79 b5_79 b6_79
def f_X7_can_67 : Nat → Mem → Int32 → Int32 → Int32 → Int32 → Int32 → Int32 → Option (Int32 × Mem)
  | 0, _, _, _, _, _, _, _ => none
  | n + 1, μ_67, b1_67, b2_67, b3_67, b4_67, b5_67, b6_67 =>
    if b2_67 = (1 : Int32) then
      f_X7_can_79 (fun μ z0 z1 z2 z3 z4 z5 => f_X7_can_67 n μ z0 z1 z2 z3 z4 z5) μ_67 b1_67 b2_67 b3_67 b4_67 b5_67 b6_67 (1 : Int32) b6_67
    else
      f_X7_can_79 (fun μ z0 z1 z2 z3 z4 z5 => f_X7_can_67 n μ z0 z1 z2 z3 z4 z5) μ_67 b1_67 b2_67 b3_67 b4_67 b5_67 b6_67 (0 : Int32) b6_67
def f_X7_can_65 (μ_65 : Mem) (b1_65 : Int32) (b2_65 : Int32) (b3_65 : Int32) (b4_65 : Int32) (b5_65 : Int32) (s0_65 : Int32) : Option (Int32 × Mem) :=
  f_X7_can_67 FU μ_65 b1_65 b2_65 b3_65 b4_65 b5_65 s0_65
def f_X7_can (μ : Mem) (a1 : Int32) (a2 : Int32) (a3 : Int32) : Option (Int32 × Mem) :=
  (f_X7_isOne μ a1).bind fun v48 =>
  if v48 = (0 : Int32) then
    some ((-1 : Int32), μ)
  else
    (f_X7_within μ a2 (0 : Int32) (2 : Int32)).bind fun v51 =>
    if v51 = (0 : Int32) then
      some ((-1 : Int32), μ)
    else
      (f_X7_within μ a3 (0 : Int32) (1 : Int32)).bind fun v54 =>
      if v54 = (0 : Int32) then
        some ((-1 : Int32), μ)
      else
        (f_X7_keep μ 2041).bind fun μ57 =>
        if a2 = (2 : Int32) then
          f_X7_can_65 μ57 a1 a2 a3 (0 : Int32) (-5 : Int32) (9 : Int32)
        else
          if a2 = (1 : Int32) then
            f_X7_can_65 μ57 a1 a2 a3 (0 : Int32) (-5 : Int32) (30 : Int32)
          else
            f_X7_can_65 μ57 a1 a2 a3 (0 : Int32) (-5 : Int32) (29 : Int32)
def f_X7_part_6 (μ : Mem) : Nat → Int64 → Int64 → Int32 → Int64 → Int64 → Option (Int64)
  | 0, _, _, _, _, _ => none
  | n + 1, b0_6, b2_6, b4_6, b5_6, b7_6 =>
    if (lg_cmp b7_6 (0 : Int64)) = (0 : Int32) then
      if b4_6 = (0 : Int32) then
        (dvL b0_6 b5_6).bind fun v9 =>
        some v9
      else
        (dvL b2_6 b5_6).bind fun v8 =>
        some v8
    else
      (rmL b5_6 b7_6).bind fun v10 =>
      f_X7_part_6 μ n b0_6 b2_6 b4_6 b7_6 v10
def f_X7_part (μ : Mem) (a0 : Int64) (a2 : Int64) (a4 : Int32) : Option (Int64) :=
  f_X7_part_6 μ FU a0 a2 a4 a0 a2
def f_X7_odds_40 (κ17 : Mem → Int32 → Int32 → Int32 → Option (Int64 × Mem)) (μ_40 : Mem) (b1_40 : Int32) (b2_40 : Int32) (b3_40 : Int32) : Option (Int64 × Mem) :=
  (some (b3_40 + (1 : Int32))).bind fun v29 =>
  κ17 μ_40 b1_40 b2_40 v29
def f_X7_odds_125 (κ58 : Mem → Int32 → Int32 → Int64 → Int64 → Int32 → Option (Int64 × Mem)) (μ_125 : Mem) (b1_125 : Int32) (b2_125 : Int32) (b3_125 : Int64) (b5_125 : Int64) (b7_125 : Int32) : Option (Int64 × Mem) :=
  (some (b7_125 + (1 : Int32))).bind fun v30 =>
  κ58 μ_125 b1_125 b2_125 b3_125 b5_125 v30
def f_X7_odds_122 (κ58 : Mem → Int32 → Int32 → Int64 → Int64 → Int32 → Option (Int64 × Mem)) (μ_122 : Mem) (b1_122 : Int32) (b2_122 : Int32) (b3_122 : Int64) (b7_122 : Int32) (s0_122 : Int64) (s1_122 : Int64) : Option (Int64 × Mem) :=
  (some (s1_122 + s0_122)).bind fun v31 =>
  f_X7_odds_125 κ58 μ_122 b1_122 b2_122 b3_122 v31 b7_122
def f_X7_odds_58 : Nat → Mem → Int32 → Int32 → Int64 → Int64 → Int32 → Option (Int64 × Mem)
  | 0, _, _, _, _, _, _ => none
  | n + 1, μ_58, b1_58, b2_58, b3_58, b5_58, b7_58 =>
    if ((1 : Int32) <<< ((gI μ_58 2000 0) &&& 31)) ≤ b7_58 then
      (f_X7_part μ_58 b5_58 b3_58 b1_58).bind fun v33 =>
      some (v33, μ_58)
    else
      if (b7_58 &&& (b2_58 ^^^ (-1 : Int32))) = (0 : Int32) then
        (f_X7_first μ_58 b7_58).bind fun p39 =>
        if (0 : Int32) ≤ (lg_cmp p39.1 (0 : Int64)) then
          (f_X7_common p39.2 b7_58).bind fun v41 =>
          (dvL b3_58 v41).bind fun v43 =>
          (f_J6_bitCount_0f7a4 p39.2 b7_58).bind fun v44 =>
          (rmI v44 (2 : Int32)).bind fun v46 =>
          if v46 = (0 : Int32) then
            f_X7_odds_122 (fun μ z0 z1 z2 z3 z4 => f_X7_odds_58 n μ z0 z1 z2 z3 z4) p39.2 b1_58 b2_58 b3_58 b7_58 v43 b5_58
          else
            f_X7_odds_122 (fun μ z0 z1 z2 z3 z4 => f_X7_odds_58 n μ z0 z1 z2 z3 z4) p39.2 b1_58 b2_58 b3_58 b7_58 (-v43) b5_58
        else
          f_X7_odds_125 (fun μ z0 z1 z2 z3 z4 => f_X7_odds_58 n μ z0 z1 z2 z3 z4) p39.2 b1_58 b2_58 b3_58 b5_58 b7_58
      else
        f_X7_odds_125 (fun μ z0 z1 z2 z3 z4 => f_X7_odds_58 n μ z0 z1 z2 z3 z4) μ_58 b1_58 b2_58 b3_58 b5_58 b7_58
def f_X7_odds_17 : Nat → Mem → Int32 → Int32 → Int32 → Option (Int64 × Mem)
  | 0, _, _, _, _ => none
  | n + 1, μ_17, b1_17, b2_17, b3_17 =>
    if (gI μ_17 2000 0) ≤ b3_17 then
      (f_X7_common μ_17 b2_17).bind fun v49 =>
      f_X7_odds_58 FU μ_17 b1_17 b2_17 v49 (0 : Int64) (0 : Int32)
    else
      (ldI μ_17 2005 6 b3_17).bind fun v51 =>
      if v51 = (0 : Int32) then
        (some (b2_17 ||| ((1 : Int32) <<< (b3_17 &&& 31)))).bind fun v53 =>
        f_X7_odds_40 (fun μ z0 z1 z2 => f_X7_odds_17 n μ z0 z1 z2) μ_17 b1_17 v53 b3_17
      else
        f_X7_odds_40 (fun μ z0 z1 z2 => f_X7_odds_17 n μ z0 z1 z2) μ_17 b1_17 b2_17 b3_17
def f_X7_odds (μ : Mem) (a1 : Int32) : Option (Int64 × Mem) :=
  (f_X7_within μ a1 (0 : Int32) (1 : Int32)).bind fun v54 =>
  if v54 = (0 : Int32) then
    some ((-9223372036854775808 : Int64), μ)
  else
    f_X7_odds_17 FU μ a1 (0 : Int32) (0 : Int32)
def f_X7_mean_40 : Nat → Mem → Int32 → Int32 → Int32 → Option (Int64 × Mem)
  | 0, _, _, _, _ => none
  | n + 1, μ_40, b1_40, b2_40, b3_40 =>
    if b1_40 ≤ b3_40 then
      (f_X7_allWent μ_40).bind fun v21 =>
      (f_X7_again μ_40 2041).bind fun μ23 =>
      (f_X7_part μ23 v21.toInt64 ((gI μ23 2000 0).toInt64) b2_40).bind fun v25 =>
      some (v25, μ23)
    else
      (f_X7_goesDay μ_40).bind fun μ27 =>
      (some (b3_40 + (1 : Int32))).bind fun v29 =>
      f_X7_mean_40 n μ27 b1_40 b2_40 v29
def f_X7_mean (μ : Mem) (a1 : Int32) (a2 : Int32) : Option (Int64 × Mem) :=
  (f_X7_within μ a1 (0 : Int32) (60 : Int32)).bind fun v30 =>
  if v30 = (0 : Int32) then
    some ((-9223372036854775808 : Int64), μ)
  else
    (f_X7_within μ a2 (0 : Int32) (1 : Int32)).bind fun v33 =>
    if v33 = (0 : Int32) then
      some ((-9223372036854775808 : Int64), μ)
    else
      if (gI μ 2000 0) = (0 : Int32) then
        some ((-9223372036854775808 : Int64), μ)
      else
        (f_X7_keep μ 2041).bind fun μ37 =>
        f_X7_mean_40 FU μ37 a1 a2 (0 : Int32)
def f_X7_plan_104 (μ_104 : Mem) (s0_104 : Int32) (s1_104 : Int32) : Option (Int32 × Mem) :=
  (stI μ_104 2033 10 s1_104 s0_104).bind fun μ22 =>
  some (gI μ22 2000 31, μ22)
def f_X7_plan_58 (μ_58 : Mem) (b1_58 : Int32) (b2_58 : Int32) : Option (Int32 × Mem) :=
  if (gI μ_58 2000 31) = (10 : Int32) then
    some ((-4 : Int32), μ_58)
  else
    (stI μ_58 2032 10 (gI μ_58 2000 31) b1_58).bind fun μ24 =>
    (some (gI μ24 2000 31)).bind fun v25 =>
    (some (sI μ24 2000 31 (v25 + (1 : Int32)))).bind fun μ26 =>
    if b1_58 = (0 : Int32) then
      f_X7_plan_104 μ26 (0 : Int32) v25
    else
      f_X7_plan_104 μ26 b2_58 v25
def f_X7_plan_40 (μ_40 : Mem) (b1_40 : Int32) (b2_40 : Int32) : Option (Int32 × Mem) :=
  if b1_40 = (3 : Int32) then
    (f_X7_within μ_40 b2_40 (0 : Int32) (127 : Int32)).bind fun v29 =>
    if v29 = (0 : Int32) then
      some ((-2 : Int32), μ_40)
    else
      f_X7_plan_58 μ_40 b1_40 b2_40
  else
    f_X7_plan_58 μ_40 b1_40 b2_40
def f_X7_plan (μ : Mem) (a1 : Int32) (a2 : Int32) : Option (Int32 × Mem) :=
  if a1 = (-1 : Int32) then
    (some (sI μ 2000 31 (0 : Int32))).bind fun μ42 =>
    some ((0 : Int32), μ42)
  else
    (f_X7_within μ a1 (0 : Int32) (3 : Int32)).bind fun v33 =>
    if v33 = (0 : Int32) then
      some ((-1 : Int32), μ)
    else
      (f_X7_within μ a1 (1 : Int32) (2 : Int32)).bind fun v36 =>
      if v36 = (0 : Int32) then
        f_X7_plan_40 μ a1 a2
      else
        (f_X7_isOne μ a2).bind fun v39 =>
        if v39 = (0 : Int32) then
          some ((-1 : Int32), μ)
        else
          f_X7_plan_40 μ a1 a2
def f_X7_ends_91 (κ21 : Mem → Int32 → Int32 → Option (Int32 × Mem)) (μ_91 : Mem) (b1_91 : Int32) (b2_91 : Int32) : Option (Int32 × Mem) :=
  (some (b2_91 + (1 : Int32))).bind fun v26 =>
  κ21 μ_91 b1_91 v26
def f_X7_ends_90 (κ21 : Mem → Int32 → Int32 → Option (Int32 × Mem)) (μ_90 : Mem) (b1_90 : Int32) (b2_90 : Int32) (s0_90 : Int32) (s1_90 : Int32) : Option (Int32 × Mem) :=
  (stI μ_90 2005 6 s1_90 s0_90).bind fun μ27 =>
  f_X7_ends_91 κ21 μ27 b1_90 b2_90
def f_X7_ends_112 (μ_112 : Mem) (s0_112 : Int32) : Option (Int32 × Mem) :=
  (f_X7_again μ_112 2041).bind fun μ28 =>
  some (s0_112, μ28)
def f_X7_ends_21 : Nat → Mem → Int32 → Int32 → Option (Int32 × Mem)
  | 0, _, _, _ => none
  | n + 1, μ_21, b1_21, b2_21 =>
    if (gI μ_21 2000 31) ≤ b2_21 then
      if b1_21 = (0 : Int32) then
        (f_X7_allWent μ_21).bind fun v34 =>
        f_X7_ends_112 μ_21 v34
      else
        (f_X7_allMissed μ_21).bind fun v32 =>
        f_X7_ends_112 μ_21 v32
    else
      (ldI μ_21 2033 10 b2_21).bind fun v36 =>
      (ldI μ_21 2032 10 b2_21).bind fun v37 =>
      if v37 = (0 : Int32) then
        (f_X7_goesDay μ_21).bind fun μ44 =>
        f_X7_ends_91 (fun μ z0 z1 => f_X7_ends_21 n μ z0 z1) μ44 b1_21 b2_21
      else
        (ldI μ_21 2032 10 b2_21).bind fun v39 =>
        if v39 = (3 : Int32) then
          (some (sI μ_21 2000 9 v36)).bind fun μ43 =>
          f_X7_ends_91 (fun μ z0 z1 => f_X7_ends_21 n μ z0 z1) μ43 b1_21 b2_21
        else
          (ldI μ_21 2032 10 b2_21).bind fun v41 =>
          if v41 = (1 : Int32) then
            f_X7_ends_90 (fun μ z0 z1 => f_X7_ends_21 n μ z0 z1) μ_21 b1_21 b2_21 (1 : Int32) v36
          else
            f_X7_ends_90 (fun μ z0 z1 => f_X7_ends_21 n μ z0 z1) μ_21 b1_21 b2_21 (0 : Int32) v36
def f_X7_ends (μ : Mem) (a1 : Int32) : Option (Int32 × Mem) :=
  (f_X7_within μ a1 (0 : Int32) (1 : Int32)).bind fun v46 =>
  if v46 = (0 : Int32) then
    some ((-1 : Int32), μ)
  else
    (f_X7_keep μ 2041).bind fun μ49 =>
    f_X7_ends_21 FU μ49 a1 (0 : Int32)
def f_X7_book (μ : Mem) (a1 : Int32) (a2 : Int32) : Option (Int32 × Mem) :=
  if a1 = (-1 : Int32) then
    (some (sI μ 2000 34 (0 : Int32))).bind fun μ26 =>
    some ((0 : Int32), μ26)
  else
    (f_X7_isOne μ a1).bind fun v15 =>
    if v15 = (0 : Int32) then
      some ((-1 : Int32), μ)
    else
      (f_X7_within μ a2 (0 : Int32) (9999 : Int32)).bind fun v18 =>
      if v18 = (0 : Int32) then
        some ((-2 : Int32), μ)
      else
        if (gI μ 2000 34) = (8 : Int32) then
          some ((-4 : Int32), μ)
        else
          (stI μ 2035 8 (gI μ 2000 34) a1).bind fun μ22 =>
          (some (gI μ22 2000 34)).bind fun v23 =>
          (some (sI μ22 2000 34 (v23 + (1 : Int32)))).bind fun μ24 =>
          (stI μ24 2036 8 v23 a2).bind fun μ25 =>
          some (gI μ25 2000 34, μ25)
def f_X7_looked_2 (μ : Mem) : Nat → Int32 → Option (Int32)
  | 0, _ => none
  | n + 1, b1_2 =>
    if (gI μ 2000 34) ≤ b1_2 then
      some (-5 : Int32)
    else
      (ldI μ 2035 8 b1_2).bind fun v8 =>
      (ldI μ 2006 6 v8).bind fun v9 =>
      (ldI μ 2036 8 b1_2).bind fun v10 =>
      if v9 = v10 then
        (some (b1_2 + (1 : Int32))).bind fun v12 =>
        f_X7_looked_2 μ n v12
      else
        some b1_2
def f_X7_looked (μ : Mem) : Option (Int32) :=
  f_X7_looked_2 μ FU (0 : Int32)
def f_X7_judge_36 (μ : Mem) : Nat → Int32 → Int32 → Int32 → Option (Int32)
  | 0, _, _, _ => none
  | n + 1, b1_36, b2_36, b3_36 =>
    if (gI μ 2000 0) ≤ b3_36 then
      some (-5 : Int32)
    else
      (ldI μ 2042 6 b1_36).bind fun v19 =>
      if v19 = (-1 : Int32) then
        some ((100 : Int32) + b3_36)
      else
        if b2_36 < (0 : Int32) then
          some ((100 : Int32) + b3_36)
        else
          (ldI μ 2043 6 b1_36).bind fun v22 =>
          if (lg_cmp (b2_36.toInt64 + b3_36.toInt64) v22.toInt64) < (0 : Int32) then
            (ldL μ 2044 360 ((((60 : Int32) * b1_36) + b2_36) + b3_36)).bind fun v24 =>
            (ldI μ 2006 6 b3_36).bind fun v25 =>
            if (lg_cmp v24 v25.toInt64) = (0 : Int32) then
              (some (b3_36 + (1 : Int32))).bind fun v27 =>
              f_X7_judge_36 μ n b1_36 b2_36 v27
            else
              some b3_36
          else
            some ((100 : Int32) + b3_36)
def f_X7_judge_34 (μ : Mem) (b1_34 : Int32) (b2_34 : Int32) : Option (Int32) :=
  f_X7_judge_36 μ FU b1_34 b2_34 (0 : Int32)
def f_X7_judge (μ : Mem) (a1 : Int32) (a2 : Int32) : Option (Int32) :=
  (f_X7_within μ a1 (0 : Int32) (5 : Int32)).bind fun v28 =>
  if v28 = (0 : Int32) then
    some (-1 : Int32)
  else
    (ldI μ 2042 6 a1).bind fun v31 =>
    if v31 = (-1 : Int32) then
      f_X7_judge_34 μ a1 a2
    else
      (ldI μ 2042 6 a1).bind fun v33 =>
      if v33 = (3 : Int32) then
        f_X7_judge_34 μ a1 a2
      else
        some (-12 : Int32)
def f_X7_image (μ : Mem) : Option (Int32 × Mem) :=
  (some (sI μ 2000 39 (1 : Int32))).bind fun μ4 =>
  (f_X7_keep μ4 2040).bind fun μ5 =>
  some (gI μ5 2000 0, μ5)
def f_X7_undo (μ : Mem) : Option (Int32 × Mem) :=
  if (gI μ 2000 39) = (0 : Int32) then
    some ((-3 : Int32), μ)
  else
    (f_X7_again μ 2040).bind fun μ5 =>
    some (gI μ5 2000 0, μ5)
def f_X7_ran_19 (μ_19 : Mem) : Option (Mem) :=
  (some (sI μ_19 2000 37 ((gI μ_19 2000 37) + (1 : Int32)))).bind fun μ4 =>
  some μ4
def f_X7_ran (μ : Mem) (a1 : Int32) : Option (Mem) :=
  if (20 : Int32) ≤ (gI μ 2000 37) then
    f_X7_ran_19 μ
  else
    (stI μ 2038 20 (gI μ 2000 37) a1).bind fun μ6 =>
    f_X7_ran_19 μ6
def f_X7_above (μ : Mem) (a0 : Int32) : Option (Int32) :=
  if a0 = (4 : Int32) then
    some (1 : Int32)
  else
    if a0 = (5 : Int32) then
      some (2 : Int32)
    else
      if a0 = (6 : Int32) then
        some (3 : Int32)
      else
        some (0 : Int32)
def f_X7_ticks_106 (G : (Mem → Int32 → Int32 → Int32 → Option (Int32 × Mem))) (μ_106 : Mem) (b1_106 : Int32) (b2_106 : Int32) (b3_106 : Int32) : Option (Int32 × Mem) :=
  (f_X7_above μ_106 b2_106).bind fun v38 =>
  (G μ_106 b1_106 v38 b3_106).bind fun p43 =>
  some (p43.1, p43.2)
def b_X7_ticks (G : (Mem → Int32 → Int32 → Int32 → Option (Int32 × Mem))) (μ : Mem) (a1 : Int32) (a2 : Int32) (a3 : Int32) : Option (Int32 × Mem) :=
  if a2 = (0 : Int32) then
    (f_X7_ran μ (10 : Int32)).bind fun μ45 =>
    some (a3 + a1, μ45)
  else if a2 = (2 : Int32) then
    (f_X7_ran μ (30 : Int32)).bind fun μ49 =>
    (G μ49 a1 (0 : Int32) (a3 * (3 : Int32))).bind fun p54 =>
    some (p54.1, p54.2)
  else if a2 = (4 : Int32) then
    (f_X7_ran μ (50 : Int32)).bind fun μ57 =>
    (G μ57 a1 (1 : Int32) a3).bind fun p62 =>
    some (-p62.1, p62.2)
  else if a2 = (6 : Int32) then
    (f_X7_ran μ (71 : Int32)).bind fun μ65 =>
    (G μ65 a1 (3 : Int32) a3).bind fun p70 =>
    (ldI p70.2 2002 6 a1).bind fun v71 =>
    some (p70.1 ^^^ v71, p70.2)
  else 
    f_X7_ticks_106 G μ a1 a2 a3
def G_ticks : Nat → (Mem → Int32 → Int32 → Int32 → Option (Int32 × Mem))
  | 0 => fun _ _ _ _ => none
  | d + 1 => b_X7_ticks (G_ticks d)
def f_X7_ticks : Mem → Int32 → Int32 → Int32 → Option (Int32 × Mem) := (G_ticks 8)
def f_X7_stirs_129 (G : (Mem → Int32 → Int32 → Int32 → Option (Int32 × Mem))) (μ_129 : Mem) (b1_129 : Int32) (b2_129 : Int32) (b3_129 : Int32) : Option (Int32 × Mem) :=
  (f_X7_above μ_129 b2_129).bind fun v47 =>
  (G μ_129 b1_129 v47 b3_129).bind fun p52 =>
  some (p52.1, p52.2)
def b_X7_stirs (G : (Mem → Int32 → Int32 → Int32 → Option (Int32 × Mem))) (μ : Mem) (a1 : Int32) (a2 : Int32) (a3 : Int32) : Option (Int32 × Mem) :=
  if a2 = (0 : Int32) then
    (f_X7_ran μ (11 : Int32)).bind fun μ54 =>
    (ldI μ54 2001 6 a1).bind fun v56 =>
    (f_X7_ticks μ54 a1 v56 a3).bind fun p60 =>
    (ldI p60.2 2002 6 a1).bind fun v61 =>
    some (p60.1 - v61, p60.2)
  else if a2 = (1 : Int32) then
    (f_X7_ran μ (20 : Int32)).bind fun μ63 =>
    (G μ63 a1 (0 : Int32) a3).bind fun p68 =>
    some (p68.1 ^^^ (6 : Int32), p68.2)
  else if a2 = (4 : Int32) then
    (f_X7_ran μ (51 : Int32)).bind fun μ72 =>
    (G μ72 a1 (1 : Int32) (a3 + (1 : Int32))).bind fun p77 =>
    some (p77.1, p77.2)
  else if a2 = (6 : Int32) then
    (f_X7_ran μ (70 : Int32)).bind fun μ80 =>
    (G μ80 a1 (3 : Int32) a3).bind fun p85 =>
    (f_X7_ticks p85.2 a1 (3 : Int32) (2 : Int32)).bind fun p89 =>
    some (p85.1 + p89.1, p89.2)
  else 
    f_X7_stirs_129 G μ a1 a2 a3
def G_stirs : Nat → (Mem → Int32 → Int32 → Int32 → Option (Int32 × Mem))
  | 0 => fun _ _ _ _ => none
  | d + 1 => b_X7_stirs (G_stirs d)
def f_X7_stirs : Mem → Int32 → Int32 → Int32 → Option (Int32 × Mem) := (G_stirs 8)
def b_X7_tells (G : (Mem → Int32 → Int32 → Int32 → Option (Int32 × Mem))) (μ : Mem) (a1 : Int32) (a2 : Int32) (a3 : Int32) : Option (Int32 × Mem) :=
  if a2 = (0 : Int32) then
    (f_X7_ran μ (12 : Int32)).bind fun μ35 =>
    (ldI μ35 2001 6 a1).bind fun v37 =>
    (f_X7_stirs μ35 a1 v37 a3).bind fun p41 =>
    some (p41.1 * (2 : Int32), p41.2)
  else if a2 = (3 : Int32) then
    (f_X7_ran μ (40 : Int32)).bind fun μ43 =>
    (G μ43 a1 (0 : Int32) a3).bind fun p48 =>
    (ldI p48.2 2001 6 a1).bind fun v49 =>
    (f_X7_stirs p48.2 a1 v49 (1 : Int32)).bind fun p53 =>
    some (p48.1 + p53.1, p53.2)
  else if a2 = (5 : Int32) then
    (f_X7_ran μ (60 : Int32)).bind fun μ55 =>
    (G μ55 a1 (2 : Int32) (a3 - a1)).bind fun p60 =>
    some (p60.1, p60.2)
  else 
    (f_X7_above μ a2).bind fun v61 =>
    (G μ a1 v61 a3).bind fun p66 =>
    some (p66.1, p66.2)
def G_tells : Nat → (Mem → Int32 → Int32 → Int32 → Option (Int32 × Mem))
  | 0 => fun _ _ _ _ => none
  | d + 1 => b_X7_tells (G_tells d)
def f_X7_tells : Mem → Int32 → Int32 → Int32 → Option (Int32 × Mem) := (G_tells 8)
def f_X7_act (μ : Mem) (a1 : Int32) (a2 : Int32) (a3 : Int32) : Option (Int32 × Mem) :=
  (some (sI μ 2000 37 (0 : Int32))).bind fun μ23 =>
  (f_X7_isOne μ23 a1).bind fun v24 =>
  if v24 = (0 : Int32) then
    some ((0 : Int32), μ23)
  else
    (f_X7_within μ23 a2 (0 : Int32) (2 : Int32)).bind fun v27 =>
    if v27 = (0 : Int32) then
      some ((0 : Int32), μ23)
    else
      (ldI μ23 2001 6 a1).bind fun v30 =>
      if a2 = (0 : Int32) then
        (f_X7_ticks μ23 a1 v30 a3).bind fun p44 =>
        some (p44.1, p44.2)
      else
        if a2 = (1 : Int32) then
          (f_X7_stirs μ23 a1 v30 a3).bind fun p40 =>
          some (p40.1, p40.2)
        else
          (f_X7_tells μ23 a1 v30 a3).bind fun p36 =>
          some (p36.1, p36.2)
def f_X7_trace (μ : Mem) (a1 : Int32) : Option (Int32) :=
  (f_X7_within μ a1 (0 : Int32) ((if (gI μ 2000 37) < (20 : Int32) then (gI μ 2000 37) else (20 : Int32)) - (1 : Int32))).bind fun v5 =>
  if v5 = (0 : Int32) then
    some (-1 : Int32)
  else
    (ldI μ 2038 20 a1).bind fun v8 =>
    some v8
def f_X7_taken_48 (μ : Mem) (b1_48 : Int32) (b2_48 : Int32) (b3_48 : Int32) : Option (Int32) :=
  if b3_48 = b2_48 then
    (ldI μ 2001 6 b1_48).bind fun v15 =>
    some v15
  else
    some (-12 : Int32)
def f_X7_taken_31 (μ : Mem) : Nat → Int32 → Int32 → Int32 → Option (Int32)
  | 0, _, _, _ => none
  | n + 1, b1_31, b2_31, b3_31 =>
    if b3_31 = b2_31 then
      f_X7_taken_48 μ b1_31 b2_31 b3_31
    else
      if b3_31 ≤ (0 : Int32) then
        f_X7_taken_48 μ b1_31 b2_31 b3_31
      else
        (f_X7_above μ b3_31).bind fun v18 =>
        f_X7_taken_31 μ n b1_31 b2_31 v18
def f_X7_taken (μ : Mem) (a1 : Int32) (a2 : Int32) : Option (Int32) :=
  (f_X7_within μ a2 (0 : Int32) (6 : Int32)).bind fun v20 =>
  if v20 = (0 : Int32) then
    some (-2 : Int32)
  else
    (f_X7_isOne μ a1).bind fun v23 =>
    if v23 = (0 : Int32) then
      some (-11 : Int32)
    else
      (ldI μ 2001 6 a1).bind fun v26 =>
      f_X7_taken_31 μ FU a1 a2 v26
def f_X7_count (μ : Mem) (a1 : Int32) : Option (Int32) :=
  if a1 = (0 : Int32) then
    some (gI μ 2000 0)
  else if a1 = (1 : Int32) then
    some (gI μ 2000 17)
  else if a1 = (2 : Int32) then
    some (gI μ 2000 27)
  else if a1 = (3 : Int32) then
    some (gI μ 2000 31)
  else if a1 = (4 : Int32) then
    some (gI μ 2000 34)
  else if a1 = (5 : Int32) then
    some (gI μ 2000 11)
  else if a1 = (6 : Int32) then
    some (gI μ 2000 37)
  else 
    some (-2 : Int32)
def f_X7_isTape (μ : Mem) (a0 : Int32) : Option (Int32) :=
  (f_X7_within μ a0 (0 : Int32) (5 : Int32)).bind fun v3 =>
  some v3
def f_X7_tape_67 : Nat → Mem → Int32 → Int32 → Option (Int32 × Mem)
  | 0, _, _, _ => none
  | n + 1, μ_67, b1_67, b4_67 =>
    if (60 : Int32) ≤ b4_67 then
      some ((1 : Int32), μ_67)
    else
      (stL μ_67 2044 360 (((60 : Int32) * b1_67) + b4_67) (0 : Int64)).bind fun μ18 =>
      (some (b4_67 + (1 : Int32))).bind fun v19 =>
      f_X7_tape_67 n μ18 b1_67 v19
def f_X7_tape_63 (μ_63 : Mem) (b1_63 : Int32) (s0_63 : Int32) (s1_63 : Int32) : Option (Int32 × Mem) :=
  (stI μ_63 2043 6 s1_63 s0_63).bind fun μ20 =>
  f_X7_tape_67 FU μ20 b1_63 (0 : Int32)
def f_X7_tape_42 (μ_42 : Mem) (b1_42 : Int32) (b2_42 : Int32) (b3_42 : Int32) : Option (Int32 × Mem) :=
  (stI μ_42 2042 6 b1_42 b2_42).bind fun μ21 =>
  if (0 : Int32) ≤ b2_42 then
    f_X7_tape_63 μ21 b1_42 b3_42 b1_42
  else
    f_X7_tape_63 μ21 b1_42 (0 : Int32) b1_42
def f_X7_tape_31 (μ_31 : Mem) (b1_31 : Int32) (b2_31 : Int32) (b3_31 : Int32) : Option (Int32 × Mem) :=
  if b2_31 < (0 : Int32) then
    f_X7_tape_42 μ_31 b1_31 b2_31 b3_31
  else
    if (0 : Int32) ≤ b3_31 then
      f_X7_tape_42 μ_31 b1_31 b2_31 b3_31
    else
      some ((-14 : Int32), μ_31)
def f_X7_tape (μ : Mem) (a1 : Int32) (a2 : Int32) (a3 : Int32) : Option (Int32 × Mem) :=
  (f_X7_isTape μ a1).bind fun v25 =>
  if v25 = (0 : Int32) then
    some ((-1 : Int32), μ)
  else
    (f_X7_within μ a2 (-1 : Int32) (4 : Int32)).bind fun v28 =>
    if v28 = (0 : Int32) then
      some ((-2 : Int32), μ)
    else
      if a2 < (0 : Int32) then
        f_X7_tape_31 μ a1 a2 a3
      else
        if a3 ≤ (60 : Int32) then
          f_X7_tape_31 μ a1 a2 a3
        else
          some ((-2 : Int32), μ)
def f_X7_kept (μ : Mem) (a0 : Int32) (a1 : Int64) : Option (Int64) :=
  if a0 = (0 : Int32) then
    some a1.toInt32.toInt8.toInt32.toInt64
  else if a0 = (1 : Int32) then
    some a1.toInt32.toInt16.toInt32.toInt64
  else if a0 = (2 : Int32) then
    some a1.toInt32.toInt64
  else if a0 = (3 : Int32) then
    some a1
  else 
    if (lg_cmp a1 (0 : Int64)) = (0 : Int32) then
      some (0 : Int64)
    else
      some (1 : Int64)
def f_X7_item (μ : Mem) (a1 : Int32) (a2 : Int32) (a3 : Int64) : Option (Int32 × Mem) :=
  (f_X7_isTape μ a1).bind fun v14 =>
  if v14 = (0 : Int32) then
    some ((-1 : Int32), μ)
  else
    (ldI μ 2042 6 a1).bind fun v17 =>
    if (0 : Int32) ≤ v17 then
      (ldI μ 2043 6 a1).bind fun v19 =>
      (f_X7_within μ a2 (0 : Int32) (v19 - (1 : Int32))).bind fun v20 =>
      if v20 = (0 : Int32) then
        some ((-13 : Int32), μ)
      else
        (ldI μ 2042 6 a1).bind fun v23 =>
        (f_X7_kept μ v23 a3).bind fun v24 =>
        (stL μ 2044 360 (((60 : Int32) * a1) + a2) v24).bind fun μ26 =>
        some ((1 : Int32), μ26)
    else
      some ((-11 : Int32), μ)
def f_X7_read (μ : Mem) (a1 : Int32) (a2 : Int32) : Option (Int64) :=
  (f_X7_isTape μ a1).bind fun v11 =>
  if v11 = (0 : Int32) then
    some (-9223372036854775808 : Int64)
  else
    (ldI μ 2042 6 a1).bind fun v14 =>
    if v14 < (0 : Int32) then
      some (-9223372036854775808 : Int64)
    else
      (ldI μ 2043 6 a1).bind fun v16 =>
      (f_X7_within μ a2 (0 : Int32) (v16 - (1 : Int32))).bind fun v17 =>
      if v17 = (0 : Int32) then
        some (-9223372036854775808 : Int64)
      else
        (ldL μ 2044 360 (((60 : Int32) * a1) + a2)).bind fun v20 =>
        some v20
def f_X7_shift_124 : Nat → Mem → Int32 → Int32 → Int32 → Int32 → Int32 → Int32 → Option (Int32 × Mem)
  | 0, _, _, _, _, _, _, _ => none
  | n + 1, μ_124, b1_124, b2_124, b3_124, b4_124, b5_124, b6_124 =>
    if b6_124 < (0 : Int32) then
      some (b5_124, μ_124)
    else
      (ldL μ_124 2044 360 ((((60 : Int32) * b1_124) + b2_124) + b6_124)).bind fun v33 =>
      (stL μ_124 2044 360 ((((60 : Int32) * b3_124) + b4_124) + b6_124) v33).bind fun μ34 =>
      (some (b6_124 + (-1 : Int32))).bind fun v35 =>
      f_X7_shift_124 n μ34 b1_124 b2_124 b3_124 b4_124 b5_124 v35
def f_X7_shift_170 : Nat → Mem → Int32 → Int32 → Int32 → Int32 → Int32 → Int32 → Option (Int32 × Mem)
  | 0, _, _, _, _, _, _, _ => none
  | n + 1, μ_170, b1_170, b2_170, b3_170, b4_170, b5_170, b6_170 =>
    if b5_170 ≤ b6_170 then
      some (b5_170, μ_170)
    else
      (ldL μ_170 2044 360 ((((60 : Int32) * b1_170) + b2_170) + b6_170)).bind fun v37 =>
      (stL μ_170 2044 360 ((((60 : Int32) * b3_170) + b4_170) + b6_170) v37).bind fun μ38 =>
      (some (b6_170 + (1 : Int32))).bind fun v39 =>
      f_X7_shift_170 n μ38 b1_170 b2_170 b3_170 b4_170 b5_170 v39
def f_X7_shift_167 (μ_167 : Mem) (b1_167 : Int32) (b2_167 : Int32) (b3_167 : Int32) (b4_167 : Int32) (b5_167 : Int32) : Option (Int32 × Mem) :=
  f_X7_shift_170 FU μ_167 b1_167 b2_167 b3_167 b4_167 b5_167 (0 : Int32)
def f_X7_shift (μ : Mem) (a1 : Int32) (a2 : Int32) (a3 : Int32) (a4 : Int32) (a5 : Int32) : Option (Int32 × Mem) :=
  (f_X7_isTape μ a1).bind fun v40 =>
  if v40 = (0 : Int32) then
    some ((-1 : Int32), μ)
  else
    (f_X7_isTape μ a3).bind fun v43 =>
    if v43 = (0 : Int32) then
      some ((-1 : Int32), μ)
    else
      (ldI μ 2042 6 a1).bind fun v46 =>
      if v46 < (0 : Int32) then
        some ((-11 : Int32), μ)
      else
        (ldI μ 2042 6 a3).bind fun v48 =>
        if (0 : Int32) ≤ v48 then
          (ldI μ 2042 6 a1).bind fun v50 =>
          (ldI μ 2042 6 a3).bind fun v51 =>
          if v50 = v51 then
            if a5 < (0 : Int32) then
              some ((-13 : Int32), μ)
            else
              if a2 < (0 : Int32) then
                some ((-13 : Int32), μ)
              else
                if a4 < (0 : Int32) then
                  some ((-13 : Int32), μ)
                else
                  (ldI μ 2043 6 a1).bind fun v56 =>
                  if (0 : Int32) < (lg_cmp (a2.toInt64 + a5.toInt64) v56.toInt64) then
                    some ((-13 : Int32), μ)
                  else
                    (ldI μ 2043 6 a3).bind fun v58 =>
                    if (lg_cmp (a4.toInt64 + a5.toInt64) v58.toInt64) ≤ (0 : Int32) then
                      if a1 = a3 then
                        if a4 ≤ a2 then
                          f_X7_shift_167 μ a1 a2 a3 a4 a5
                        else
                          (some (a5 - (1 : Int32))).bind fun v62 =>
                          f_X7_shift_124 FU μ a1 a2 a3 a4 a5 v62
                      else
                        f_X7_shift_167 μ a1 a2 a3 a4 a5
                    else
                      some ((-13 : Int32), μ)
          else
            some ((-12 : Int32), μ)
        else
          some ((-11 : Int32), μ)
