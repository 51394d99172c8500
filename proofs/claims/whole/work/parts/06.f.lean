def f_X_thingAt (μ : mMem) (a1 : Int32) : Option Nat := 
  if a1 < (0 : Int32) then none
  else 
    if (60 : Int32) ≤ a1 then none
    else 
      if μ.1 1 0 a1.toNatClampNeg = 0 then none
      else some a1.toNatClampNeg
def f_B_isOn (μ : mMem) (i0 : Nat) : Int32 := 
  if (μ.1 3 i0 0) ≤ (0 : Int32) then (0 : Int32)
  else (1 : Int32)
def f_X_hasLostItsPlace (μ : mMem) (o1 : Option Nat) : Int32 := 
  oC o1 ((0 : Int32)) (fun ko1 => 
    if (μ.1 2 ko1 0) = (0 : Int32) then (0 : Int32)
    else 
      oC (f_X_thingAt μ (μ.1 2 ko1 1)) ((1 : Int32)) (fun i_16 => (0 : Int32)))
def f_X_drop_l36 : Nat → Int32 → Int32 → mMem → Int32 × mMem
  | 0, x3, x4, μ1 => (0, μ1)
  | n + 1, x3, x4, μ1 => 
  if (μ1.1 0 0 1) ≤ x4 then (x3, μ1)
  else 
    if μ1.1 1 0 x4.toNatClampNeg = 0 then 
      if (f_X_hasLostItsPlace μ1 none) = (0 : Int32) then f_X_drop_l36 n x3 (x4 + (1 : Int32)) μ1
      else 
        let m_66 := sI μ1 1 0 x4.toNatClampNeg (0 : Int32)
        f_X_drop_l36 n (x3 + (1 : Int32)) (x4 + (1 : Int32)) m_66
    else 
      if (f_X_hasLostItsPlace μ1 (some x4.toNatClampNeg)) = (0 : Int32) then f_X_drop_l36 n x3 (x4 + (1 : Int32)) μ1
      else 
        let m_66 := sI μ1 1 0 x4.toNatClampNeg (0 : Int32)
        f_X_drop_l36 n (x3 + (1 : Int32)) (x4 + (1 : Int32)) m_66
def f_X_drop (μ : mMem) (a1 : Int32) : Int32 × mMem := 
  oC (f_X_thingAt μ a1) (((-1 : Int32), μ)) (fun i_2 => 
    if (f_B_isOn μ ((μ.1 2 i_2 2).toNatClampNeg)) = (0 : Int32) then 
      let m_28 := sI μ 1 0 a1.toNatClampNeg (0 : Int32)
      f_X_drop_l36 64 (1 : Int32) (a1 + (1 : Int32)) m_28
    else ((-1 : Int32), μ))
def f_X_isKind (μ : mMem) (a1 : Int32) : Int32 := 
  if a1 < (0 : Int32) then (0 : Int32)
  else 
    if (9 : Int32) ≤ a1 then (0 : Int32)
    else (1 : Int32)
def f_X_numbers_l13 : Nat → Int32 → Int32 → Int32 → mMem → Int32
  | 0, x1, x2, x3, μ1 => 0
  | n + 1, x1, x2, x3, μ1 => 
  if (μ1.1 0 0 1) ≤ x3 then x2
  else 
    if μ1.1 1 0 x3.toNatClampNeg = 0 then f_X_numbers_l13 n x1 x2 (x3 + (1 : Int32)) μ1
    else 
      if (μ1.1 2 x3.toNatClampNeg 0) = x1 then f_X_numbers_l13 n x1 (x2 + (1 : Int32)) (x3 + (1 : Int32)) μ1
      else f_X_numbers_l13 n x1 x2 (x3 + (1 : Int32)) μ1
def f_X_numbers (μ : mMem) (a1 : Int32) : Int32 := 
  if (f_X_isKind μ a1) = (0 : Int32) then (-1 : Int32)
  else f_X_numbers_l13 64 a1 (0 : Int32) (0 : Int32) μ
def f_X_lyingJustIn_l6 : Nat → Int32 → Int32 → Int32 → mMem → Int32
  | 0, x1, x2, x3, μ1 => 0
  | n + 1, x1, x2, x3, μ1 => 
  if (μ1.1 0 0 1) ≤ x3 then x2
  else 
    if μ1.1 1 0 x3.toNatClampNeg = 0 then f_X_lyingJustIn_l6 n x1 x2 (x3 + (1 : Int32)) μ1
    else 
      if (μ1.1 2 x3.toNatClampNeg 1) = x1 then f_X_lyingJustIn_l6 n x1 (x2 + (1 : Int32)) (x3 + (1 : Int32)) μ1
      else f_X_lyingJustIn_l6 n x1 x2 (x3 + (1 : Int32)) μ1
def f_X_lyingJustIn (μ : mMem) (a1 : Int32) : Int32 := f_X_lyingJustIn_l6 64 a1 (0 : Int32) (a1 + (1 : Int32)) μ
def f_X_about (μ : mMem) (a1 : Int32) (a2 : Int32) : Int32 := 
  oC (f_X_thingAt μ a1) ((-1 : Int32)) (fun i_2 => 
    if a2 = (0 : Int32) then μ.1 2 i_2 0
    else 
      if a2 = (1 : Int32) then μ.1 2 i_2 1
      else 
        if a2 = (2 : Int32) then μ.1 2 i_2 2
        else 
          if a2 = (3 : Int32) then (f_X_lyingJustIn μ a1)
          else (-1 : Int32))
def f_X_isSort (μ : mMem) (a1 : Int32) : Int32 := 
  if a1 < (0 : Int32) then (0 : Int32)
  else 
    if (3 : Int32) ≤ a1 then (0 : Int32)
    else (1 : Int32)
def f_X_fits (μ : mMem) (a1 : Int32) (a2 : Int32) : Int32 := 
  if a1 = (0 : Int32) then 
    if a2 < (32 : Int32) then (0 : Int32)
    else 
      if (126 : Int32) < a2 then (0 : Int32)
      else (1 : Int32)
  else 
    if a1 = (1 : Int32) then 
      if a2 < (97 : Int32) then 
        if a2 = (46 : Int32) then (1 : Int32)
        else 
          if a2 = (47 : Int32) then (1 : Int32)
          else (0 : Int32)
      else 
        if a2 ≤ (122 : Int32) then (1 : Int32)
        else 
          if a2 = (46 : Int32) then (1 : Int32)
          else 
            if a2 = (47 : Int32) then (1 : Int32)
            else (0 : Int32)
    else 
      if a2 < (0 : Int32) then (0 : Int32)
      else 
        if (255 : Int32) < a2 then (0 : Int32)
        else (1 : Int32)
def f_C_isFull (μ : mMem) (a1 : Int32) : Int32 := 
  if (f_X_isSort μ a1) = (0 : Int32) then (1 : Int32)
  else 
    if (μ.1 8 0 a1.toNatClampNeg) < (tMost a1.toNatClampNeg) then (0 : Int32)
    else (1 : Int32)
def f_C_append (μ : mMem) (a1 : Int32) (a2 : Int32) : mMem := 
  if (f_X_isSort μ a1) = (0 : Int32) then μ
  else 
    let m_27 := sL μ 9 0 a1.toNatClampNeg ((((31 : Int64) * (μ.2 9 0 a1.toNatClampNeg)) + a2.toInt64) + (1 : Int64))
        let m_37 := sI m_27 8 0 a1.toNatClampNeg ((m_27.1 8 0 a1.toNatClampNeg) + (1 : Int32))
    m_37
def f_C_size (μ : mMem) (a1 : Int32) : Int32 := 
  if (f_X_isSort μ a1) = (0 : Int32) then (0 : Int32)
  else μ.1 8 0 a1.toNatClampNeg
def f_X_collect (μ : mMem) (a1 : Int32) (a2 : Int32) : Int32 × mMem := 
  if (f_X_isSort μ a1) = (0 : Int32) then ((-1 : Int32), μ)
  else 
    if (f_X_fits μ a1 a2) = (0 : Int32) then ((-1 : Int32), μ)
    else 
      if (f_C_isFull μ a1) = (0 : Int32) then 
        let m_34 := (f_C_append μ a1 a2)
        ((f_C_size m_34 a1), m_34)
      else ((-1 : Int32), μ)
def f_X_collected (μ : mMem) (a1 : Int32) : Int32 := 
  if (f_X_isSort μ a1) = (0 : Int32) then (-1 : Int32)
  else (f_C_size μ a1)
def f_X_isCall (μ : mMem) (a1 : Int32) : Int32 := 
  if a1 < (0 : Int32) then (0 : Int32)
  else 
    if (12 : Int32) ≤ a1 then (0 : Int32)
    else (1 : Int32)
def f_X_partAt (μ : mMem) (a1 : Int32) : Option Nat := 
  if (f_X_isCall μ a1) = (0 : Int32) then none
  else 
    if μ.1 10 0 a1.toNatClampNeg = 0 then none
    else some a1.toNatClampNeg
def f_P_addToTable (μ : mMem) (i0 : Nat) (a1 : Int64) : mMem := 
  if (5 : Int32) ≤ (μ.1 11 i0 5) then μ
  else 
    let m_17 := sL μ 12 i0 (μ.1 11 i0 5).toNatClampNeg a1
        let m_25 := sI m_17 11 i0 5 ((m_17.1 11 i0 5) + (1 : Int32))
    m_25
def f_X_answer (μ : mMem) (a1 : Int32) (a2 : Int64) : Int32 × mMem := 
  oC (f_X_partAt μ a1) (((-1 : Int32), μ)) (fun i_2 => 
    if (μ.1 11 i_2 5) < (5 : Int32) then 
      let m_26 := (f_P_addToTable μ i_2 a2)
      (m_26.1 11 i_2 5, m_26)
    else ((-1 : Int32), μ))
def f_X_fails (μ : mMem) (a1 : Int32) (a2 : Int32) (a3 : Int32) : Int32 × mMem := 
  oC (f_X_partAt μ a1) (((0 : Int32), μ)) (fun i_2 => 
    if a2 < (1 : Int32) then ((0 : Int32), μ)
    else 
      if (3 : Int32) < a2 then ((0 : Int32), μ)
      else 
        if a3 < (0 : Int32) then ((0 : Int32), μ)
        else 
          if a3 ≤ (9 : Int32) then 
            let m_37 := sI μ 11 i_2 7 a2
                        let m_43 := sI m_37 11 i_2 8 a3
            ((1 : Int32), m_43)
          else ((0 : Int32), μ))
def f_O_addToCounts (μ : mMem) (a1 : Int32) : mMem := 
  if a1 = (0 : Int32) then 
    let m_11 := sI μ 13 0 6 ((μ.1 13 0 6) + (1 : Int32))
    m_11
  else 
    if a1 = (4 : Int32) then 
      let m_29 := sI μ 13 0 8 ((μ.1 13 0 8) + (1 : Int32))
      m_29
    else 
      if a1 = (5 : Int32) then 
        let m_47 := sI μ 13 0 9 ((μ.1 13 0 9) + (1 : Int32))
        m_47
      else 
        let m_60 := sI μ 13 0 7 ((μ.1 13 0 7) + (1 : Int32))
        m_60
def f_O_add (μ : mMem) (a1 : Int32) (a2 : Int32) (a3 : Int32) (a4 : Int64) : mMem := 
  let m_9 := sI μ 14 0 (μ.1 13 0 4).toNatClampNeg a1
    let m_19 := sI m_9 15 0 (m_9.1 13 0 4).toNatClampNeg a2
    let m_29 := sI m_19 16 0 (m_19.1 13 0 4).toNatClampNeg a3
    let m_40 := sL m_29 17 0 (m_29.1 13 0 4).toNatClampNeg a4
    if (40 : Int32) ≤ ((m_40.1 13 0 4) + (1 : Int32)) then 
    let m_63 := sI m_40 13 0 4 (0 : Int32)
        let m_73 := sI m_63 13 0 5 ((m_63.1 13 0 5) + (1 : Int32))
        let m_78 := (f_O_addToCounts m_73 a1)
    m_78
  else 
    let m_63 := sI m_40 13 0 4 ((m_40.1 13 0 4) + (1 : Int32))
        let m_73 := sI m_63 13 0 5 ((m_63.1 13 0 5) + (1 : Int32))
        let m_78 := (f_O_addToCounts m_73 a1)
    m_78
def f_X_tell (μ : mMem) (a1 : Int32) (a2 : Int32) (a3 : Int32) (a4 : Int64) : Int64 × mMem := 
  let m_9 := (f_O_add μ a1 a2 a3 a4)
  (a4, m_9)
def f_B_isFull (μ : mMem) (i0 : Nat) : Int32 := 
  if (μ.1 3 i0 2) < (6 : Int32) then (0 : Int32)
  else (1 : Int32)
def f_X_refusalOf (μ : mMem) (i1 : Nat) (i2 : Nat) (a3 : Int64) : Int64 := 
  if (lg_cmp a3 (μ.2 11 i1 2)) < (0 : Int32) then (-2 : Int64)
  else 
    if (lg_cmp a3 (μ.2 11 i1 3)) ≤ (0 : Int32) then 
      if (μ.1 11 i1 1) = (-1 : Int32) then (0 : Int64)
      else 
        if (f_C_size μ (μ.1 11 i1 1)) = (0 : Int32) then (-3 : Int64)
        else 
          if (f_B_isOn μ i2) = (0 : Int32) then (0 : Int64)
          else 
            if (f_B_isFull μ i2) = (0 : Int32) then (0 : Int64)
            else (-4 : Int64)
    else (-2 : Int64)
def f_C_sum (μ : mMem) (a1 : Int32) : Int64 := 
  if (f_X_isSort μ a1) = (0 : Int32) then (0 : Int64)
  else μ.2 9 0 a1.toNatClampNeg
def f_C_empty (μ : mMem) (a1 : Int32) : mMem := 
  if (f_X_isSort μ a1) = (0 : Int32) then μ
  else 
    let m_13 := sL μ 9 0 a1.toNatClampNeg (0 : Int64)
        let m_20 := sI m_13 8 0 a1.toNatClampNeg (0 : Int32)
    m_20
def f_B_queue (μ : mMem) (i0 : Nat) (a1 : Int32) (a2 : Int32) (a3 : Int64) : mMem := 
  if (f_B_isFull μ i0) = (0 : Int32) then 
    let m_16 := sI μ 4 i0 (μ.1 3 i0 2).toNatClampNeg a1
        let m_26 := sI m_16 5 i0 (m_16.1 3 i0 2).toNatClampNeg a2
        let m_36 := sL m_26 6 i0 (m_26.1 3 i0 2).toNatClampNeg a3
        let m_44 := sI m_36 3 i0 2 ((m_36.1 3 i0 2) + (1 : Int32))
    m_44
  else μ
def f_P_outcome (μ : mMem) (i0 : Nat) : Int32 × mMem := 
  if (0 : Int32) < (μ.1 11 i0 8) then 
    let m_16 := sI μ 11 i0 8 ((μ.1 11 i0 8) - (1 : Int32))
    (m_16.1 11 i0 7, m_16)
  else ((0 : Int32), μ)
def f_P_reply (μ : mMem) (i0 : Nat) (a1 : Int64) : Int64 × mMem := 
  if (μ.1 11 i0 6) < (μ.1 11 i0 5) then 
    if (μ.1 11 i0 5) ≤ ((μ.1 11 i0 6) + (1 : Int32)) then 
      let m_49 := sI μ 11 i0 6 (0 : Int32)
      (a1 + (μ.2 12 i0 (μ.1 11 i0 6).toNatClampNeg), m_49)
    else 
      let m_49 := sI μ 11 i0 6 ((μ.1 11 i0 6) + (1 : Int32))
      (a1 + (μ.2 12 i0 (μ.1 11 i0 6).toNatClampNeg), m_49)
  else (a1, μ)
def f_X_call (μ : mMem) (a1 : Int32) (a2 : Int32) (a3 : Int64) : Int64 × mMem := 
  oC (f_X_partAt μ a1) (
    oC (f_X_thingAt μ a2) (
      let m_44 := (f_X_tell μ (4 : Int32) a2 a1 (-1 : Int64)).2
      ((f_X_tell μ (4 : Int32) a2 a1 (-1 : Int64)).1, m_44)) (fun i_9 => 
      let m_44 := (f_X_tell μ (4 : Int32) a2 a1 (-1 : Int64)).2
      ((f_X_tell μ (4 : Int32) a2 a1 (-1 : Int64)).1, m_44))) (fun i_2 => 
    oC (f_X_thingAt μ a2) (
      let m_44 := (f_X_tell μ (4 : Int32) a2 a1 (-1 : Int64)).2
      ((f_X_tell μ (4 : Int32) a2 a1 (-1 : Int64)).1, m_44)) (fun i_9 => 
      if (μ.1 2 i_9 0) = (μ.1 11 i_2 0) then 
        if (lg_cmp (f_X_refusalOf μ i_2 ((μ.1 2 i_9 2).toNatClampNeg) a3) (0 : Int64)) = (0 : Int32) then 
          if (μ.1 11 i_2 1) = (-1 : Int32) then 
            let m_152 := (f_P_outcome μ i_2).2
                        if ((f_P_outcome μ i_2).1) = (0 : Int32) then 
              let m_187 := (f_C_empty m_152 (m_152.1 11 i_2 1))
                            let m_198 := (f_P_reply m_187 i_2 (a3 + (f_C_sum μ (μ.1 11 i_2 1)))).2
                            let m_201 := (f_X_tell m_198 (0 : Int32) a2 a1 ((f_P_reply m_187 i_2 (a3 + (f_C_sum μ (μ.1 11 i_2 1)))).1)).2
              ((f_X_tell m_198 (0 : Int32) a2 a1 ((f_P_reply m_187 i_2 (a3 + (f_C_sum μ (μ.1 11 i_2 1)))).1)).1, m_201)
            else 
              let m_174 := (f_X_tell m_152 ((f_P_outcome μ i_2).1) a2 a1 ((-10 : Int64) - (((f_P_outcome μ i_2).1).toInt64))).2
              ((f_X_tell m_152 ((f_P_outcome μ i_2).1) a2 a1 ((-10 : Int64) - (((f_P_outcome μ i_2).1).toInt64))).1, m_174)
          else 
            if (f_B_isOn μ ((μ.1 2 i_9 2).toNatClampNeg)) = (0 : Int32) then 
              let m_152 := (f_P_outcome μ i_2).2
                            if ((f_P_outcome μ i_2).1) = (0 : Int32) then 
                let m_187 := (f_C_empty m_152 (m_152.1 11 i_2 1))
                                let m_198 := (f_P_reply m_187 i_2 (a3 + (f_C_sum μ (μ.1 11 i_2 1)))).2
                                let m_201 := (f_X_tell m_198 (0 : Int32) a2 a1 ((f_P_reply m_187 i_2 (a3 + (f_C_sum μ (μ.1 11 i_2 1)))).1)).2
                ((f_X_tell m_198 (0 : Int32) a2 a1 ((f_P_reply m_187 i_2 (a3 + (f_C_sum μ (μ.1 11 i_2 1)))).1)).1, m_201)
              else 
                let m_174 := (f_X_tell m_152 ((f_P_outcome μ i_2).1) a2 a1 ((-10 : Int64) - (((f_P_outcome μ i_2).1).toInt64))).2
                ((f_X_tell m_152 ((f_P_outcome μ i_2).1) a2 a1 ((-10 : Int64) - (((f_P_outcome μ i_2).1).toInt64))).1, m_174)
            else 
              let m_124 := (f_C_empty μ (μ.1 11 i_2 1))
                            let m_136 := (f_B_queue m_124 ((m_124.1 2 i_9 2).toNatClampNeg) a1 a2 (a3 + (f_C_sum μ (μ.1 11 i_2 1))))
                            let m_146 := (f_X_tell m_136 (5 : Int32) a2 a1 (-5 : Int64)).2
              ((f_X_tell m_136 (5 : Int32) a2 a1 (-5 : Int64)).1, m_146)
        else 
          let m_75 := (f_X_tell μ (4 : Int32) a2 a1 (f_X_refusalOf μ i_2 ((μ.1 2 i_9 2).toNatClampNeg) a3)).2
          ((f_X_tell μ (4 : Int32) a2 a1 (f_X_refusalOf μ i_2 ((μ.1 2 i_9 2).toNatClampNeg) a3)).1, m_75)
      else 
        let m_44 := (f_X_tell μ (4 : Int32) a2 a1 (-1 : Int64)).2
        ((f_X_tell μ (4 : Int32) a2 a1 (-1 : Int64)).1, m_44)))
def f_X_houseAt (μ : mMem) (a1 : Int32) : Option Nat := 
  oC (f_X_thingAt μ a1) (none) (fun i_2 => 
    if (μ.1 2 i_2 0) = (0 : Int32) then some i_2
    else none)
def f_B_begin (μ : mMem) (i0 : Nat) (a1 : Int32) : mMem := 
  let m_2 := sI μ 3 i0 0 a1
    let m_7 := sI m_2 3 i0 1 (0 : Int32)
  m_7
def f_X_build (μ : mMem) (a1 : Int32) (a2 : Int32) : Int32 × mMem := 
  oC (f_X_houseAt μ a1) (((0 : Int32), μ)) (fun i_2 => 
    if (f_B_isOn μ ((μ.1 2 i_2 2).toNatClampNeg)) = (0 : Int32) then 
      if a2 < (1 : Int32) then ((0 : Int32), μ)
      else 
        if a2 ≤ (9 : Int32) then 
          let m_38 := (f_B_begin μ ((μ.1 2 i_2 2).toNatClampNeg) a2)
          ((1 : Int32), m_38)
        else ((0 : Int32), μ)
    else ((0 : Int32), μ))
def f_B_nextTurn (μ : mMem) (i0 : Nat) : Int32 × mMem := 
  let m_7 := sI μ 3 i0 0 ((μ.1 3 i0 0) - (1 : Int32))
    let m_17 := sI m_7 3 i0 1 ((m_7.1 3 i0 1) + (1 : Int32))
  (m_17.1 3 i0 1, m_17)
def f_X_leastCallFor_l2 : Nat → Int32 → Int32 → mMem → Int32
  | 0, x1, x2, μ1 => 0
  | n + 1, x1, x2, μ1 => 
  if (12 : Int32) ≤ x2 then (-1 : Int32)
  else 
    if μ1.1 10 0 x2.toNatClampNeg = 0 then f_X_leastCallFor_l2 n x1 (x2 + (1 : Int32)) μ1
    else 
      if (μ1.1 11 x2.toNatClampNeg 0) = x1 then x2
      else f_X_leastCallFor_l2 n x1 (x2 + (1 : Int32)) μ1
def f_X_leastCallFor (μ : mMem) (a1 : Int32) : Int32 := f_X_leastCallFor_l2 64 a1 (0 : Int32) μ
def f_X_callInTurn (μ : mMem) (o1 : Option Nat) (a2 : Int32) (a3 : Int32) (a4 : Int32) : Int32 := 
  oC o1 ((-1 : Int32)) (fun ko1 => 
    if (μ.1 2 ko1 2) = a2 then 
      if (μ.1 2 ko1 0) = (4 : Int32) then a3
      else 
        if (μ.1 2 ko1 0) = (5 : Int32) then a4
        else (-1 : Int32)
    else (-1 : Int32))
def f_X_goes (μ : mMem) (a1 : Int32) (a2 : Int32) (a3 : Int64) : Int32 × mMem := 
  oC (f_X_partAt μ a1) (((0 : Int32), μ)) (fun i_2 => 
    let m_16 := (f_P_outcome μ i_2).2
        if ((f_P_outcome μ i_2).1) = (0 : Int32) then 
      let m_34 := (f_P_reply m_16 i_2 a3).2
            let m_41 := (f_X_tell m_34 ((f_P_outcome μ i_2).1) a2 a1 ((f_P_reply m_16 i_2 a3).1)).2
      ((1 : Int32), m_41)
    else 
      let m_41 := (f_X_tell m_16 ((f_P_outcome μ i_2).1) a2 a1 (0 : Int64)).2
      ((0 : Int32), m_41))
def f_X_letWaitingGo_l2 : Nat → Nat → Int32 → mMem → mMem
  | 0, j1, x2, μ1 => μ1
  | n + 1, j1, x2, μ1 => 
  if (μ1.1 3 j1 2) ≤ x2 then 
    let m_47 := sI μ1 3 j1 2 (0 : Int32)
    m_47
  else 
    if (6 : Int32) ≤ x2 then 
      let m_47 := sI μ1 3 j1 2 (0 : Int32)
      m_47
    else 
      let m_35 := (f_X_goes μ1 (μ1.1 4 j1 x2.toNatClampNeg) (μ1.1 5 j1 x2.toNatClampNeg) (μ1.2 6 j1 x2.toNatClampNeg)).2
      f_X_letWaitingGo_l2 n j1 (x2 + (1 : Int32)) m_35
def f_X_letWaitingGo (μ : mMem) (i1 : Nat) : mMem := f_X_letWaitingGo_l2 64 i1 (0 : Int32) μ
def f_X_turn_l52 : Nat → Int32 → Nat → Int32 → Int32 → Int32 → Int32 → Int32 → mMem → Int32 × mMem
  | 0, x1, j2, x3, x4, x5, x6, x7, μ1 => (0, μ1)
  | n + 1, x1, j2, x3, x4, x5, x6, x7, μ1 => 
  if (μ1.1 0 0 1) ≤ x7 then 
    if (f_B_isOn μ1 ((μ1.1 2 j2 2).toNatClampNeg)) = (0 : Int32) then 
      let m_115 := (f_X_letWaitingGo μ1 ((μ1.1 2 j2 2).toNatClampNeg))
      (x6, m_115)
    else (x6, μ1)
  else 
    if μ1.1 1 0 x7.toNatClampNeg = 0 then 
      let m_85 := (f_X_goes μ1 (f_X_callInTurn μ1 none x1 x4 x5) x7 x3.toInt64).2
            if ((f_X_goes μ1 (f_X_callInTurn μ1 none x1 x4 x5) x7 x3.toInt64).1) = (0 : Int32) then f_X_turn_l52 n x1 j2 x3 x4 x5 x6 (x7 + (1 : Int32)) m_85
      else f_X_turn_l52 n x1 j2 x3 x4 x5 (x6 + (1 : Int32)) (x7 + (1 : Int32)) m_85
    else 
      let m_85 := (f_X_goes μ1 (f_X_callInTurn μ1 (some x7.toNatClampNeg) x1 x4 x5) x7 x3.toInt64).2
            if ((f_X_goes μ1 (f_X_callInTurn μ1 (some x7.toNatClampNeg) x1 x4 x5) x7 x3.toInt64).1) = (0 : Int32) then f_X_turn_l52 n x1 j2 x3 x4 x5 x6 (x7 + (1 : Int32)) m_85
      else f_X_turn_l52 n x1 j2 x3 x4 x5 (x6 + (1 : Int32)) (x7 + (1 : Int32)) m_85
def f_X_turn (μ : mMem) (a1 : Int32) : Int32 × mMem := 
  oC (f_X_houseAt μ a1) (((-1 : Int32), μ)) (fun i_2 => 
    if (f_B_isOn μ ((μ.1 2 i_2 2).toNatClampNeg)) = (0 : Int32) then ((-1 : Int32), μ)
    else 
      let m_26 := (f_B_nextTurn μ ((μ.1 2 i_2 2).toNatClampNeg)).2
      f_X_turn_l52 64 a1 i_2 ((f_B_nextTurn μ ((μ.1 2 i_2 2).toNatClampNeg)).1) (f_X_leastCallFor m_26 (4 : Int32)) (f_X_leastCallFor m_26 (5 : Int32)) (0 : Int32) (a1 + (1 : Int32)) m_26)
def f_X_building (μ : mMem) (a1 : Int32) (a2 : Int32) : Int32 := 
  oC (f_X_houseAt μ a1) ((-1 : Int32)) (fun i_2 => 
    if a2 = (0 : Int32) then μ.1 3 ((μ.1 2 i_2 2).toNatClampNeg) 0
    else 
      if a2 = (1 : Int32) then μ.1 3 ((μ.1 2 i_2 2).toNatClampNeg) 2
      else (-1 : Int32))
def f_O_spotOf (μ : mMem) (a1 : Int32) : Int32 := 
  if a1 < (0 : Int32) then (-1 : Int32)
  else 
    if (40 : Int32) ≤ a1 then (-1 : Int32)
    else 
      if a1 < (μ.1 13 0 5) then 
        if (0 : Int32) ≤ (((μ.1 13 0 4) - (1 : Int32)) - a1) then ((μ.1 13 0 4) - (1 : Int32)) - a1
        else (((μ.1 13 0 4) - (1 : Int32)) - a1) + (40 : Int32)
      else (-1 : Int32)
def f_X_told (μ : mMem) (a1 : Int32) (a2 : Int32) : Int32 := 
  if (f_O_spotOf μ a1) = (-1 : Int32) then (-1 : Int32)
  else 
    if a2 = (0 : Int32) then μ.1 14 0 (f_O_spotOf μ a1).toNatClampNeg
    else 
      if a2 = (1 : Int32) then μ.1 15 0 (f_O_spotOf μ a1).toNatClampNeg
      else 
        if a2 = (2 : Int32) then μ.1 16 0 (f_O_spotOf μ a1).toNatClampNeg
        else (-1 : Int32)
def f_X_value (μ : mMem) (a1 : Int32) : Int64 := 
  if (f_O_spotOf μ a1) = (-1 : Int32) then (0 : Int64)
  else μ.2 17 0 (f_O_spotOf μ a1).toNatClampNeg
def f_X_count (μ : mMem) (a1 : Int32) : Int32 := 
  if a1 = (0 : Int32) then μ.1 13 0 5
  else 
    if a1 = (1 : Int32) then μ.1 13 0 6
    else 
      if a1 = (2 : Int32) then μ.1 13 0 7
      else 
        if a1 = (3 : Int32) then μ.1 13 0 8
        else 
          if a1 = (4 : Int32) then μ.1 13 0 9
          else (-1 : Int32)
def f_X_keep (μ : mMem) (i1 : Nat) : Int32 × mMem := 
  let m_9 := sI μ 1 0 (μ.1 0 0 1).toNatClampNeg (1 : Int32)
    let m_17 := sI m_9 0 0 1 ((m_9.1 0 0 1) + (1 : Int32))
  ((m_17.1 0 0 1) - (1 : Int32), m_17)
def f_M_isThing (μ : mMem) (a1 : Int32) : Int32 := 
  if a1 < (0 : Int32) then (0 : Int32)
  else 
    if (μ.1 20 0 1) ≤ a1 then (0 : Int32)
    else 
      if (μ.1 22 0 a1.toNatClampNeg) = (-1 : Int32) then (0 : Int32)
      else (1 : Int32)
def f_M_isHouse (μ : mMem) (a1 : Int32) : Int32 := 
  if (f_M_isThing μ a1) = (0 : Int32) then (0 : Int32)
  else 
    if (μ.1 22 0 a1.toNatClampNeg) = (0 : Int32) then (1 : Int32)
    else (0 : Int32)
def f_M_isDefined (μ : mMem) (a1 : Int32) : Int32 := 
  if a1 < (0 : Int32) then (0 : Int32)
  else 
    if (12 : Int32) ≤ a1 then (0 : Int32)
    else 
      if (μ.1 33 0 a1.toNatClampNeg) = (0 : Int32) then (0 : Int32)
      else (1 : Int32)
def f_M_liesIn (μ : mMem) (a1 : Int32) : Int32 := 
  if a1 = (0 : Int32) then (-1 : Int32)
  else 
    if a1 = (1 : Int32) then (0 : Int32)
    else 
      if a1 = (2 : Int32) then (0 : Int32)
      else 
        if a1 = (3 : Int32) then (1 : Int32)
        else 
          if a1 = (4 : Int32) then (3 : Int32)
          else 
            if a1 = (5 : Int32) then (3 : Int32)
            else 
              if a1 = (6 : Int32) then (0 : Int32)
              else 
                if a1 = (7 : Int32) then (6 : Int32)
                else 
                  if a1 = (8 : Int32) then (0 : Int32)
                  else (-2 : Int32)
def f_M_make (μ : mMem) (a1 : Int32) (a2 : Int32) : Int32 × mMem := 
  let m_2 := sI μ 20 0 0 (0 : Int32)
    if (f_M_liesIn m_2 a1) = (-2 : Int32) then ((-1 : Int32), m_2)
  else 
    if (m_2.1 20 0 1) = (60 : Int32) then ((-1 : Int32), m_2)
    else 
      if a1 = (0 : Int32) then 
        let m_74 := sI m_2 22 0 (m_2.1 20 0 1).toNatClampNeg a1
                let m_92 := sI m_74 23 0 (m_74.1 20 0 1).toNatClampNeg (-1 : Int32)
                let m_118 := sI m_92 24 0 (m_92.1 20 0 1).toNatClampNeg (m_92.1 20 0 1)
                let m_126 := sI m_118 20 0 1 ((m_118.1 20 0 1) + (1 : Int32))
        ((m_126.1 20 0 1) - (1 : Int32), m_126)
      else 
        if (f_M_isThing m_2 a2) = (0 : Int32) then ((-1 : Int32), m_2)
        else 
          if (m_2.1 22 0 a2.toNatClampNeg) = (f_M_liesIn m_2 a1) then 
            if (m_2.1 25 0 (m_2.1 24 0 a2.toNatClampNeg).toNatClampNeg) ≤ (0 : Int32) then 
              let m_74 := sI m_2 22 0 (m_2.1 20 0 1).toNatClampNeg a1
                            let m_92 := sI m_74 23 0 (m_74.1 20 0 1).toNatClampNeg a2
                            let m_118 := sI m_92 24 0 (m_92.1 20 0 1).toNatClampNeg (m_92.1 24 0 a2.toNatClampNeg)
                            let m_126 := sI m_118 20 0 1 ((m_118.1 20 0 1) + (1 : Int32))
              ((m_126.1 20 0 1) - (1 : Int32), m_126)
            else ((-1 : Int32), m_2)
          else ((-1 : Int32), m_2)
def f_M_drop_l42 : Nat → Int32 → Int32 → mMem → Int32 × mMem
  | 0, x2, x3, μ1 => (0, μ1)
  | n + 1, x2, x3, μ1 => 
  if (μ1.1 20 0 1) ≤ x3 then (x2, μ1)
  else 
    if (μ1.1 22 0 x3.toNatClampNeg) = (-1 : Int32) then f_M_drop_l42 n x2 (x3 + (1 : Int32)) μ1
    else 
      if (μ1.1 23 0 x3.toNatClampNeg) = (-1 : Int32) then f_M_drop_l42 n x2 (x3 + (1 : Int32)) μ1
      else 
        if (μ1.1 22 0 (μ1.1 23 0 x3.toNatClampNeg).toNatClampNeg) = (-1 : Int32) then 
          let m_94 := sI μ1 22 0 x3.toNatClampNeg (-1 : Int32)
          f_M_drop_l42 n (x2 + (1 : Int32)) (x3 + (1 : Int32)) m_94
        else f_M_drop_l42 n x2 (x3 + (1 : Int32)) μ1
def f_M_drop (μ : mMem) (a1 : Int32) : Int32 × mMem := 
  let m_2 := sI μ 20 0 0 (0 : Int32)
    if (f_M_isThing m_2 a1) = (0 : Int32) then ((-1 : Int32), m_2)
  else 
    if (m_2.1 25 0 (m_2.1 24 0 a1.toNatClampNeg).toNatClampNeg) ≤ (0 : Int32) then 
      let m_35 := sI m_2 22 0 a1.toNatClampNeg (-1 : Int32)
      f_M_drop_l42 64 (1 : Int32) (a1 + (1 : Int32)) m_35
    else ((-1 : Int32), m_2)
def f_M_numbers_l21 : Nat → Int32 → Int32 → Int32 → mMem → Int32 × mMem
  | 0, x1, x2, x3, μ1 => (0, μ1)
  | n + 1, x1, x2, x3, μ1 => 
  if (μ1.1 20 0 1) ≤ x3 then (x2, μ1)
  else 
    if (μ1.1 22 0 x3.toNatClampNeg) = x1 then f_M_numbers_l21 n x1 (x2 + (1 : Int32)) (x3 + (1 : Int32)) μ1
    else f_M_numbers_l21 n x1 (x2 + (0 : Int32)) (x3 + (1 : Int32)) μ1
def f_M_numbers (μ : mMem) (a1 : Int32) : Int32 × mMem := 
  let m_2 := sI μ 20 0 0 (0 : Int32)
    if a1 < (0 : Int32) then ((-1 : Int32), m_2)
  else 
    if a1 ≤ (8 : Int32) then f_M_numbers_l21 64 a1 (0 : Int32) (0 : Int32) m_2
    else ((-1 : Int32), m_2)
def f_M_about_l20 : Nat → Int32 → Int32 → Int32 → Int32 → mMem → Int32 × mMem
  | 0, x1, x2, x3, x4, μ1 => (0, μ1)
  | n + 1, x1, x2, x3, x4, μ1 => 
  if (μ1.1 20 0 1) ≤ x4 then 
    if x2 = (0 : Int32) then (μ1.1 22 0 x1.toNatClampNeg, μ1)
    else 
      if x2 = (1 : Int32) then (μ1.1 23 0 x1.toNatClampNeg, μ1)
      else 
        if x2 = (2 : Int32) then (μ1.1 24 0 x1.toNatClampNeg, μ1)
        else 
          if x2 = (3 : Int32) then (x3, μ1)
          else ((-1 : Int32), μ1)
  else 
    if (μ1.1 22 0 x4.toNatClampNeg) = (-1 : Int32) then f_M_about_l20 n x1 x2 (x3 + (0 : Int32)) (x4 + (1 : Int32)) μ1
    else 
      if (μ1.1 23 0 x4.toNatClampNeg) = x1 then f_M_about_l20 n x1 x2 (x3 + (1 : Int32)) (x4 + (1 : Int32)) μ1
      else f_M_about_l20 n x1 x2 (x3 + (0 : Int32)) (x4 + (1 : Int32)) μ1
def f_M_about (μ : mMem) (a1 : Int32) (a2 : Int32) : Int32 × mMem := 
  let m_2 := sI μ 20 0 0 (0 : Int32)
    if (f_M_isThing m_2 a1) = (0 : Int32) then ((-1 : Int32), m_2)
  else f_M_about_l20 64 a1 a2 (0 : Int32) (0 : Int32) m_2
def f_M_isSort (μ : mMem) (a1 : Int32) : Int32 := 
  if a1 < (0 : Int32) then (0 : Int32)
  else 
    if (3 : Int32) ≤ a1 then (0 : Int32)
    else (1 : Int32)
def f_M_collect (μ : mMem) (a1 : Int32) (a2 : Int32) : Int32 × mMem := 
  let m_2 := sI μ 20 0 0 (0 : Int32)
    if (f_M_isSort m_2 a1) = (0 : Int32) then ((-1 : Int32), m_2)
  else 
    if a1 = (0 : Int32) then 
      if (m_2.1 31 0 a1.toNatClampNeg) = (30 : Int32) then ((-1 : Int32), m_2)
      else 
        if a2 ≤ (31 : Int32) then ((-1 : Int32), m_2)
        else 
          if (127 : Int32) ≤ a2 then ((-1 : Int32), m_2)
          else 
            let m_134 := sI m_2 32 0 (((30 : Int32) * a1) + (m_2.1 31 0 a1.toNatClampNeg)).toNatClampNeg a2
                        let m_144 := sI m_134 31 0 a1.toNatClampNeg ((m_134.1 31 0 a1.toNatClampNeg) + (1 : Int32))
            (m_144.1 31 0 a1.toNatClampNeg, m_144)
    else 
      if (m_2.1 31 0 a1.toNatClampNeg) = (20 : Int32) then ((-1 : Int32), m_2)
      else 
        if a1 = (1 : Int32) then 
          if a2 ≤ (96 : Int32) then 
            if a2 = (46 : Int32) then 
              let m_134 := sI m_2 32 0 (((30 : Int32) * a1) + (m_2.1 31 0 a1.toNatClampNeg)).toNatClampNeg a2
                            let m_144 := sI m_134 31 0 a1.toNatClampNeg ((m_134.1 31 0 a1.toNatClampNeg) + (1 : Int32))
              (m_144.1 31 0 a1.toNatClampNeg, m_144)
            else 
              if a2 = (47 : Int32) then 
                let m_134 := sI m_2 32 0 (((30 : Int32) * a1) + (m_2.1 31 0 a1.toNatClampNeg)).toNatClampNeg a2
                                let m_144 := sI m_134 31 0 a1.toNatClampNeg ((m_134.1 31 0 a1.toNatClampNeg) + (1 : Int32))
                (m_144.1 31 0 a1.toNatClampNeg, m_144)
              else ((-1 : Int32), m_2)
          else 
            if a2 < (123 : Int32) then 
              let m_134 := sI m_2 32 0 (((30 : Int32) * a1) + (m_2.1 31 0 a1.toNatClampNeg)).toNatClampNeg a2
                            let m_144 := sI m_134 31 0 a1.toNatClampNeg ((m_134.1 31 0 a1.toNatClampNeg) + (1 : Int32))
              (m_144.1 31 0 a1.toNatClampNeg, m_144)
            else 
              if a2 = (46 : Int32) then 
                let m_134 := sI m_2 32 0 (((30 : Int32) * a1) + (m_2.1 31 0 a1.toNatClampNeg)).toNatClampNeg a2
                                let m_144 := sI m_134 31 0 a1.toNatClampNeg ((m_134.1 31 0 a1.toNatClampNeg) + (1 : Int32))
                (m_144.1 31 0 a1.toNatClampNeg, m_144)
              else 
                if a2 = (47 : Int32) then 
                  let m_134 := sI m_2 32 0 (((30 : Int32) * a1) + (m_2.1 31 0 a1.toNatClampNeg)).toNatClampNeg a2
                                    let m_144 := sI m_134 31 0 a1.toNatClampNeg ((m_134.1 31 0 a1.toNatClampNeg) + (1 : Int32))
                  (m_144.1 31 0 a1.toNatClampNeg, m_144)
                else ((-1 : Int32), m_2)
        else 
          if a2 < (0 : Int32) then ((-1 : Int32), m_2)
          else 
            if (256 : Int32) ≤ a2 then ((-1 : Int32), m_2)
            else 
              let m_134 := sI m_2 32 0 (((30 : Int32) * a1) + (m_2.1 31 0 a1.toNatClampNeg)).toNatClampNeg a2
                            let m_144 := sI m_134 31 0 a1.toNatClampNeg ((m_134.1 31 0 a1.toNatClampNeg) + (1 : Int32))
              (m_144.1 31 0 a1.toNatClampNeg, m_144)
def f_M_collected (μ : mMem) (a1 : Int32) : Int32 × mMem := 
  let m_2 := sI μ 20 0 0 (0 : Int32)
    if (f_M_isSort m_2 a1) = (0 : Int32) then ((-1 : Int32), m_2)
  else (m_2.1 31 0 a1.toNatClampNeg, m_2)
def f_M_sumOf_l8 : Nat → Int32 → Int64 → Int32 → mMem → Int64
  | 0, x1, x2, x4, μ1 => 0
  | n + 1, x1, x2, x4, μ1 => 
  if (((30 : Int32) * x1) + (μ1.1 31 0 x1.toNatClampNeg)) ≤ x4 then x2
  else f_M_sumOf_l8 n x1 ((((31 : Int64) * x2) + ((μ1.1 32 0 x4.toNatClampNeg).toInt64)) + (1 : Int64)) (x4 + (1 : Int32)) μ1
def f_M_sumOf (μ : mMem) (a1 : Int32) : Int64 := f_M_sumOf_l8 64 a1 (0 : Int64) ((30 : Int32) * a1) μ
def f_M_define (μ : mMem) (a1 : Int32) (a2 : Int32) (a3 : Int32) (a4 : Int64) (a5 : Int64) : Int32 × mMem := 
  let m_2 := sI μ 20 0 0 (0 : Int32)
    if a1 < (0 : Int32) then ((0 : Int32), m_2)
  else 
    if (12 : Int32) ≤ a1 then ((0 : Int32), m_2)
    else 
      if a2 < (0 : Int32) then ((0 : Int32), m_2)
      else 
        if (8 : Int32) < a2 then ((0 : Int32), m_2)
        else 
          if a3 = (-1 : Int32) then 
            if (lg_cmp a4 a5) ≤ (0 : Int32) then 
              let m_53 := sI m_2 33 0 a1.toNatClampNeg (1 : Int32)
                            let m_60 := sI m_53 34 0 a1.toNatClampNeg a2
                            let m_67 := sI m_60 35 0 a1.toNatClampNeg a3
                            let m_75 := sL m_67 40 0 a1.toNatClampNeg a4
                            let m_83 := sL m_75 41 0 a1.toNatClampNeg a5
                            let m_90 := sI m_83 36 0 a1.toNatClampNeg (0 : Int32)
                            let m_97 := sI m_90 37 0 a1.toNatClampNeg (0 : Int32)
                            let m_104 := sI m_97 39 0 a1.toNatClampNeg (0 : Int32)
              ((1 : Int32), m_104)
            else ((0 : Int32), m_2)
          else 
            if (f_M_isSort m_2 a3) = (0 : Int32) then ((0 : Int32), m_2)
            else 
              if (lg_cmp a4 a5) ≤ (0 : Int32) then 
                let m_53 := sI m_2 33 0 a1.toNatClampNeg (1 : Int32)
                                let m_60 := sI m_53 34 0 a1.toNatClampNeg a2
                                let m_67 := sI m_60 35 0 a1.toNatClampNeg a3
                                let m_75 := sL m_67 40 0 a1.toNatClampNeg a4
                                let m_83 := sL m_75 41 0 a1.toNatClampNeg a5
                                let m_90 := sI m_83 36 0 a1.toNatClampNeg (0 : Int32)
                                let m_97 := sI m_90 37 0 a1.toNatClampNeg (0 : Int32)
                                let m_104 := sI m_97 39 0 a1.toNatClampNeg (0 : Int32)
                ((1 : Int32), m_104)
              else ((0 : Int32), m_2)
def f_M_answer (μ : mMem) (a1 : Int32) (a2 : Int64) : Int32 × mMem := 
  let m_2 := sI μ 20 0 0 (0 : Int32)
    if (f_M_isDefined m_2 a1) = (0 : Int32) then ((-1 : Int32), m_2)
  else 
    if (m_2.1 36 0 a1.toNatClampNeg) = (5 : Int32) then ((-1 : Int32), m_2)
    else 
      let m_40 := sL m_2 42 0 (((5 : Int32) * a1) + (m_2.1 36 0 a1.toNatClampNeg)).toNatClampNeg a2
            let m_50 := sI m_40 36 0 a1.toNatClampNeg ((m_40.1 36 0 a1.toNatClampNeg) + (1 : Int32))
      (m_50.1 36 0 a1.toNatClampNeg, m_50)
def f_M_fails (μ : mMem) (a1 : Int32) (a2 : Int32) (a3 : Int32) : Int32 × mMem := 
  let m_2 := sI μ 20 0 0 (0 : Int32)
    if (f_M_isDefined m_2 a1) = (0 : Int32) then ((0 : Int32), m_2)
  else 
    if a2 < (1 : Int32) then ((0 : Int32), m_2)
    else 
      if (3 : Int32) < a2 then ((0 : Int32), m_2)
      else 
        if a3 < (0 : Int32) then ((0 : Int32), m_2)
        else 
          if a3 ≤ (9 : Int32) then 
            let m_41 := sI m_2 38 0 a1.toNatClampNeg a2
                        let m_48 := sI m_41 39 0 a1.toNatClampNeg a3
            ((1 : Int32), m_48)
          else ((0 : Int32), m_2)
def f_M_go (μ : mMem) (a1 : Int32) (a2 : Int64) : mMem := 
  let m_2 := sI μ 20 0 28 (0 : Int32)
    let m_7 := sL m_2 20 0 29 (0 : Int64)
    if (m_7.1 39 0 a1.toNatClampNeg) ≤ (0 : Int32) then 
    if (m_7.1 36 0 a1.toNatClampNeg) = (0 : Int32) then 
      let m_53 := sL m_7 20 0 29 a2
      m_53
    else 
      let m_77 := sL m_7 20 0 29 (a2 + (m_7.2 42 0 (((5 : Int32) * a1) + (m_7.1 37 0 a1.toNatClampNeg)).toNatClampNeg))
            if ((m_77.1 37 0 a1.toNatClampNeg) + (1 : Int32)) = (m_77.1 36 0 a1.toNatClampNeg) then 
        let m_114 := sI m_77 37 0 a1.toNatClampNeg (0 : Int32)
        m_114
      else 
        let m_114 := sI m_77 37 0 a1.toNatClampNeg ((m_77.1 37 0 a1.toNatClampNeg) + (1 : Int32))
        m_114
  else 
    let m_28 := sI m_7 39 0 a1.toNatClampNeg ((m_7.1 39 0 a1.toNatClampNeg) - (1 : Int32))
        let m_36 := sI m_28 20 0 28 (m_28.1 38 0 a1.toNatClampNeg)
    m_36
def f_M_tell (μ : mMem) (a1 : Int32) (a2 : Int32) (a3 : Int32) (a4 : Int64) : mMem := 
  let m_18 := sI μ 43 0 ((μ.1 46 0 (0 : Int32).toNatClampNeg) - (μ.1 46 0 (0 : Int32).toNatClampNeg) / (40 : Int32) * (40 : Int32)).toNatClampNeg a1
    let m_26 := sI m_18 44 0 ((μ.1 46 0 (0 : Int32).toNatClampNeg) - (μ.1 46 0 (0 : Int32).toNatClampNeg) / (40 : Int32) * (40 : Int32)).toNatClampNeg a2
    let m_34 := sI m_26 45 0 ((μ.1 46 0 (0 : Int32).toNatClampNeg) - (μ.1 46 0 (0 : Int32).toNatClampNeg) / (40 : Int32) * (40 : Int32)).toNatClampNeg a3
    let m_43 := sL m_34 47 0 ((μ.1 46 0 (0 : Int32).toNatClampNeg) - (μ.1 46 0 (0 : Int32).toNatClampNeg) / (40 : Int32) * (40 : Int32)).toNatClampNeg a4
    let m_53 := sI m_43 46 0 (0 : Int32).toNatClampNeg ((m_43.1 46 0 (0 : Int32).toNatClampNeg) + (1 : Int32))
    if a1 = (0 : Int32) then 
    let m_93 := sI m_53 46 0 (1 : Int32).toNatClampNeg ((m_53.1 46 0 (1 : Int32).toNatClampNeg) + (1 : Int32))
    m_93
  else 
    if (4 : Int32) ≤ a1 then 
      if a1 = (4 : Int32) then 
        let m_93 := sI m_53 46 0 (3 : Int32).toNatClampNeg ((m_53.1 46 0 (3 : Int32).toNatClampNeg) + (1 : Int32))
        m_93
      else 
        let m_93 := sI m_53 46 0 (4 : Int32).toNatClampNeg ((m_53.1 46 0 (4 : Int32).toNatClampNeg) + (1 : Int32))
        m_93
    else 
      let m_93 := sI m_53 46 0 (2 : Int32).toNatClampNeg ((m_53.1 46 0 (2 : Int32).toNatClampNeg) + (1 : Int32))
      m_93
def f_M_refusal (μ : mMem) (a1 : Int32) (a2 : Int32) (a3 : Int64) : Int32 := 
  if (f_M_isDefined μ a1) = (0 : Int32) then (-1 : Int32)
  else 
    if (f_M_isThing μ a2) = (0 : Int32) then (-1 : Int32)
    else 
      if (μ.1 22 0 a2.toNatClampNeg) = (μ.1 34 0 a1.toNatClampNeg) then 
        if (lg_cmp a3 (μ.2 40 0 a1.toNatClampNeg)) < (0 : Int32) then (-2 : Int32)
        else 
          if (lg_cmp a3 (μ.2 41 0 a1.toNatClampNeg)) ≤ (0 : Int32) then 
            if (μ.1 35 0 a1.toNatClampNeg) = (-1 : Int32) then (0 : Int32)
            else 
              if (μ.1 31 0 (μ.1 35 0 a1.toNatClampNeg).toNatClampNeg) = (0 : Int32) then (-3 : Int32)
              else 
                if (μ.1 25 0 (μ.1 24 0 a2.toNatClampNeg).toNatClampNeg) ≤ (0 : Int32) then (0 : Int32)
                else 
                  if (μ.1 27 0 (μ.1 24 0 a2.toNatClampNeg).toNatClampNeg) = (6 : Int32) then (-4 : Int32)
                  else (0 : Int32)
          else (-2 : Int32)
      else (-1 : Int32)
def f_M_call (μ : mMem) (a1 : Int32) (a2 : Int32) (a3 : Int64) : Int64 × mMem := 
  let m_2 := sI μ 20 0 0 (0 : Int32)
    if (f_M_refusal m_2 a1 a2 a3) = (0 : Int32) then 
    if (m_2.1 35 0 a1.toNatClampNeg) = (-1 : Int32) then 
      let m_177 := (f_M_go m_2 a1 a3)
            if (m_177.1 20 0 28) ≤ (0 : Int32) then 
        let m_238 := (f_M_tell m_177 (m_177.1 20 0 28) a2 a1 (m_177.2 20 0 29))
        (m_177.2 20 0 29, m_238)
      else 
        let m_238 := (f_M_tell m_177 (m_177.1 20 0 28) a2 a1 ((-10 : Int64) - ((m_177.1 20 0 28).toInt64)))
        ((-10 : Int64) - ((m_177.1 20 0 28).toInt64), m_238)
    else 
      if (m_2.1 25 0 (m_2.1 24 0 a2.toNatClampNeg).toNatClampNeg) ≤ (0 : Int32) then 
        let m_177 := (f_M_go m_2 a1 (a3 + (f_M_sumOf m_2 (m_2.1 35 0 a1.toNatClampNeg))))
                if (m_177.1 20 0 28) ≤ (0 : Int32) then 
          if (m_177.1 20 0 28) = (0 : Int32) then 
            let m_228 := sI m_177 31 0 (m_177.1 35 0 a1.toNatClampNeg).toNatClampNeg (0 : Int32)
                        let m_238 := (f_M_tell m_228 (m_228.1 20 0 28) a2 a1 (m_177.2 20 0 29))
            (m_177.2 20 0 29, m_238)
          else 
            let m_238 := (f_M_tell m_177 (m_177.1 20 0 28) a2 a1 (m_177.2 20 0 29))
            (m_177.2 20 0 29, m_238)
        else 
          if (m_177.1 20 0 28) = (0 : Int32) then 
            let m_228 := sI m_177 31 0 (m_177.1 35 0 a1.toNatClampNeg).toNatClampNeg (0 : Int32)
                        let m_238 := (f_M_tell m_228 (m_228.1 20 0 28) a2 a1 ((-10 : Int64) - ((m_177.1 20 0 28).toInt64)))
            ((-10 : Int64) - ((m_177.1 20 0 28).toInt64), m_238)
          else 
            let m_238 := (f_M_tell m_177 (m_177.1 20 0 28) a2 a1 ((-10 : Int64) - ((m_177.1 20 0 28).toInt64)))
            ((-10 : Int64) - ((m_177.1 20 0 28).toInt64), m_238)
      else 
        let m_107 := sI m_2 31 0 (m_2.1 35 0 a1.toNatClampNeg).toNatClampNeg (0 : Int32)
                let m_130 := sI m_107 28 0 (((6 : Int32) * (m_2.1 24 0 a2.toNatClampNeg)) + (m_107.1 27 0 (m_2.1 24 0 a2.toNatClampNeg).toNatClampNeg)).toNatClampNeg a1
                let m_138 := sI m_130 29 0 (((6 : Int32) * (m_2.1 24 0 a2.toNatClampNeg)) + (m_107.1 27 0 (m_2.1 24 0 a2.toNatClampNeg).toNatClampNeg)).toNatClampNeg a2
                let m_147 := sL m_138 30 0 (((6 : Int32) * (m_2.1 24 0 a2.toNatClampNeg)) + (m_107.1 27 0 (m_2.1 24 0 a2.toNatClampNeg).toNatClampNeg)).toNatClampNeg (a3 + (f_M_sumOf m_2 (m_2.1 35 0 a1.toNatClampNeg)))
                let m_158 := sI m_147 27 0 (m_2.1 24 0 a2.toNatClampNeg).toNatClampNeg ((m_147.1 27 0 (m_2.1 24 0 a2.toNatClampNeg).toNatClampNeg) + (1 : Int32))
                let m_166 := (f_M_tell m_158 (5 : Int32) a2 a1 (-5 : Int64))
        ((-5 : Int64), m_166)
  else 
    let m_26 := (f_M_tell m_2 (4 : Int32) a2 a1 ((f_M_refusal m_2 a1 a2 a3).toInt64))
    ((f_M_refusal m_2 a1 a2 a3).toInt64, m_26)
def f_M_build (μ : mMem) (a1 : Int32) (a2 : Int32) : Int32 × mMem := 
  let m_2 := sI μ 20 0 0 (0 : Int32)
    if (f_M_isHouse m_2 a1) = (0 : Int32) then ((0 : Int32), m_2)
  else 
    if (0 : Int32) < (m_2.1 25 0 a1.toNatClampNeg) then ((0 : Int32), m_2)
    else 
      if a2 < (1 : Int32) then ((0 : Int32), m_2)
      else 
        if a2 ≤ (9 : Int32) then 
          let m_41 := sI m_2 25 0 a1.toNatClampNeg a2
                    let m_48 := sI m_41 26 0 a1.toNatClampNeg (0 : Int32)
          ((1 : Int32), m_48)
        else ((0 : Int32), m_2)
def f_M_leastFor_l2 : Nat → Int32 → Int32 → mMem → Int32
  | 0, x1, x2, μ1 => 0
  | n + 1, x1, x2, μ1 => 
  if (12 : Int32) ≤ x2 then 
    if x2 = (12 : Int32) then (-1 : Int32)
    else x2
  else 
    if (μ1.1 33 0 x2.toNatClampNeg) = (0 : Int32) then f_M_leastFor_l2 n x1 (x2 + (1 : Int32)) μ1
    else 
      if (μ1.1 34 0 x2.toNatClampNeg) = x1 then 
        if x2 = (12 : Int32) then (-1 : Int32)
        else x2
      else f_M_leastFor_l2 n x1 (x2 + (1 : Int32)) μ1
def f_M_leastFor (μ : mMem) (a1 : Int32) : Int32 := f_M_leastFor_l2 64 a1 (0 : Int32) μ
def f_M_turn_l175 : Nat → Int32 → Int32 → Int32 → mMem → Int32 × mMem
  | 0, x1, x2, x3, μ1 => (0, μ1)
  | n + 1, x1, x2, x3, μ1 => 
  if (((6 : Int32) * x1) + (μ1.1 27 0 x1.toNatClampNeg)) ≤ x3 then 
    let m_242 := sI μ1 27 0 x1.toNatClampNeg (0 : Int32)
    (x2, m_242)
  else 
    let m_203 := (f_M_go μ1 (μ1.1 28 0 x3.toNatClampNeg) (μ1.2 30 0 x3.toNatClampNeg))
        let m_227 := (f_M_tell m_203 (m_203.1 20 0 28) (m_203.1 29 0 x3.toNatClampNeg) (m_203.1 28 0 x3.toNatClampNeg) (m_203.2 20 0 29))
    f_M_turn_l175 n x1 x2 (x3 + (1 : Int32)) m_227
def f_M_turn_l38 : Nat → Int32 → Int32 → Int32 → mMem → Int32 × mMem
  | 0, x1, x2, x3, μ1 => (0, μ1)
  | n + 1, x1, x2, x3, μ1 => 
  if (μ1.1 20 0 1) ≤ x3 then 
    let m_158 := sI μ1 25 0 x1.toNatClampNeg ((μ1.1 25 0 x1.toNatClampNeg) - (1 : Int32))
        if (m_158.1 25 0 x1.toNatClampNeg) ≤ (0 : Int32) then f_M_turn_l175 64 x1 x2 ((6 : Int32) * x1) m_158
    else (x2, m_158)
  else 
    if (μ1.1 22 0 x3.toNatClampNeg) = (4 : Int32) then 
      if (μ1.1 24 0 x3.toNatClampNeg) = x1 then 
        if (f_M_leastFor μ1 (μ1.1 22 0 x3.toNatClampNeg)) = (-1 : Int32) then f_M_turn_l38 n x1 x2 (x3 + (1 : Int32)) μ1
        else 
          let m_110 := (f_M_go μ1 (f_M_leastFor μ1 (μ1.1 22 0 x3.toNatClampNeg)) ((μ1.1 26 0 x1.toNatClampNeg).toInt64))
                    if (m_110.1 20 0 28) = (0 : Int32) then 
            let m_140 := (f_M_tell m_110 (m_110.1 20 0 28) x3 (f_M_leastFor μ1 (μ1.1 22 0 x3.toNatClampNeg)) (m_110.2 20 0 29))
            f_M_turn_l38 n x1 (x2 + (1 : Int32)) (x3 + (1 : Int32)) m_140
          else 
            let m_140 := (f_M_tell m_110 (m_110.1 20 0 28) x3 (f_M_leastFor μ1 (μ1.1 22 0 x3.toNatClampNeg)) (m_110.2 20 0 29))
            f_M_turn_l38 n x1 (x2 + (0 : Int32)) (x3 + (1 : Int32)) m_140
      else f_M_turn_l38 n x1 x2 (x3 + (1 : Int32)) μ1
    else 
      if (μ1.1 22 0 x3.toNatClampNeg) = (5 : Int32) then 
        if (μ1.1 24 0 x3.toNatClampNeg) = x1 then 
          if (f_M_leastFor μ1 (μ1.1 22 0 x3.toNatClampNeg)) = (-1 : Int32) then f_M_turn_l38 n x1 x2 (x3 + (1 : Int32)) μ1
          else 
            let m_110 := (f_M_go μ1 (f_M_leastFor μ1 (μ1.1 22 0 x3.toNatClampNeg)) ((μ1.1 26 0 x1.toNatClampNeg).toInt64))
                        if (m_110.1 20 0 28) = (0 : Int32) then 
              let m_140 := (f_M_tell m_110 (m_110.1 20 0 28) x3 (f_M_leastFor μ1 (μ1.1 22 0 x3.toNatClampNeg)) (m_110.2 20 0 29))
              f_M_turn_l38 n x1 (x2 + (1 : Int32)) (x3 + (1 : Int32)) m_140
            else 
              let m_140 := (f_M_tell m_110 (m_110.1 20 0 28) x3 (f_M_leastFor μ1 (μ1.1 22 0 x3.toNatClampNeg)) (m_110.2 20 0 29))
              f_M_turn_l38 n x1 (x2 + (0 : Int32)) (x3 + (1 : Int32)) m_140
        else f_M_turn_l38 n x1 x2 (x3 + (1 : Int32)) μ1
      else f_M_turn_l38 n x1 x2 (x3 + (1 : Int32)) μ1
def f_M_turn (μ : mMem) (a1 : Int32) : Int32 × mMem := 
  let m_2 := sI μ 20 0 0 (0 : Int32)
    if (f_M_isHouse m_2 a1) = (0 : Int32) then ((-1 : Int32), m_2)
  else 
    if (m_2.1 25 0 a1.toNatClampNeg) = (0 : Int32) then ((-1 : Int32), m_2)
    else 
      let m_33 := sI m_2 26 0 a1.toNatClampNeg ((m_2.1 26 0 a1.toNatClampNeg) + (1 : Int32))
      f_M_turn_l38 64 a1 (0 : Int32) (0 : Int32) m_33
def f_M_building (μ : mMem) (a1 : Int32) (a2 : Int32) : Int32 × mMem := 
  let m_2 := sI μ 20 0 0 (0 : Int32)
    if (f_M_isHouse m_2 a1) = (0 : Int32) then ((-1 : Int32), m_2)
  else 
    if a2 = (0 : Int32) then (m_2.1 25 0 a1.toNatClampNeg, m_2)
    else 
      if a2 = (1 : Int32) then (m_2.1 27 0 a1.toNatClampNeg, m_2)
      else ((-1 : Int32), m_2)
def f_M_isTold (μ : mMem) (a1 : Int32) : Int32 := 
  if a1 < (0 : Int32) then (0 : Int32)
  else 
    if (40 : Int32) ≤ a1 then (0 : Int32)
    else 
      if (μ.1 46 0 (0 : Int32).toNatClampNeg) ≤ a1 then (0 : Int32)
      else (1 : Int32)
def f_M_placeOf (μ : mMem) (a1 : Int32) : Int32 := (((μ.1 46 0 (0 : Int32).toNatClampNeg) - (1 : Int32)) - a1) - (((μ.1 46 0 (0 : Int32).toNatClampNeg) - (1 : Int32)) - a1) / (40 : Int32) * (40 : Int32)
def f_M_told (μ : mMem) (a1 : Int32) (a2 : Int32) : Int32 × mMem := 
  let m_2 := sI μ 20 0 0 (0 : Int32)
    if (f_M_isTold m_2 a1) = (0 : Int32) then ((-1 : Int32), m_2)
  else 
    if a2 = (0 : Int32) then (m_2.1 43 0 (f_M_placeOf m_2 a1).toNatClampNeg, m_2)
    else 
      if a2 = (1 : Int32) then (m_2.1 44 0 (f_M_placeOf m_2 a1).toNatClampNeg, m_2)
      else 
        if a2 = (2 : Int32) then (m_2.1 45 0 (f_M_placeOf m_2 a1).toNatClampNeg, m_2)
        else ((-1 : Int32), m_2)
def f_M_value (μ : mMem) (a1 : Int32) : Int64 × mMem := 
  let m_2 := sI μ 20 0 0 (0 : Int32)
    if (f_M_isTold m_2 a1) = (0 : Int32) then ((0 : Int64), m_2)
  else (m_2.2 47 0 (f_M_placeOf m_2 a1).toNatClampNeg, m_2)
def f_M_count (μ : mMem) (a1 : Int32) : Int32 × mMem := 
  let m_2 := sI μ 20 0 0 (0 : Int32)
    if a1 < (0 : Int32) then ((-1 : Int32), m_2)
  else 
    if a1 ≤ (4 : Int32) then (m_2.1 46 0 a1.toNatClampNeg, m_2)
    else ((-1 : Int32), m_2)
def f_P_begin (μ : mMem) (i0 : Nat) (a1 : Int32) (a2 : Int32) (a3 : Int64) (a4 : Int64) : mMem := 
  let m_2 := sI μ 11 i0 0 a1
    let m_7 := sI m_2 11 i0 1 a2
    let m_12 := sL m_7 11 i0 2 a3
    let m_18 := sL m_12 11 i0 3 a4
    let m_23 := sI m_18 11 i0 5 (0 : Int32)
    let m_28 := sI m_23 11 i0 6 (0 : Int32)
    let m_33 := sI m_28 11 i0 8 (0 : Int32)
  m_33
def r_X_thingAt : Room := { frames := 0, cells := 0, slots := 0, locals := 0 }
def w_X_thingAt : List Cond := .code y_X_thingAt b_X_thingAt 2 (some (.object "BuildCounter$Thing")) :: gG
def r_B_isOn : Room := { frames := 0, cells := 0, slots := 0, locals := 0 }
def w_B_isOn : List Cond := .code y_B_isOn b_B_isOn 1 (some .boolean) :: gG
def r_X_hasLostItsPlace : Room := { frames := 1, cells := 0, slots := 0, locals := 21 }
def w_X_hasLostItsPlace : List Cond := .code y_X_hasLostItsPlace b_X_hasLostItsPlace 2 (some .boolean) :: gG
def r_X_drop : Room := { frames := 2, cells := 0, slots := 0, locals := 42 }
def w_X_drop : List Cond := .code y_X_drop b_X_drop 5 (some .int) :: gG
def r_X_isKind : Room := { frames := 0, cells := 0, slots := 0, locals := 0 }
def w_X_isKind : List Cond := .code y_X_isKind b_X_isKind 1 (some .boolean) :: gG
def r_X_numbers : Room := { frames := 1, cells := 0, slots := 0, locals := 20 }
def w_X_numbers : List Cond := .code y_X_numbers b_X_numbers 4 (some .int) :: gG
def r_X_lyingJustIn : Room := { frames := 0, cells := 0, slots := 0, locals := 0 }
def w_X_lyingJustIn : List Cond := .code y_X_lyingJustIn b_X_lyingJustIn 4 (some .int) :: gG
def r_X_about : Room := { frames := 1, cells := 0, slots := 0, locals := 23 }
def w_X_about : List Cond := .code y_X_about b_X_about 4 (some .int) :: gG
def r_X_isSort : Room := { frames := 0, cells := 0, slots := 0, locals := 0 }
def w_X_isSort : List Cond := .code y_X_isSort b_X_isSort 1 (some .boolean) :: gG
def r_X_fits : Room := { frames := 0, cells := 0, slots := 0, locals := 0 }
def w_X_fits : List Cond := .code y_X_fits b_X_fits 2 (some .boolean) :: gG
def r_C_isFull : Room := { frames := 1, cells := 0, slots := 0, locals := 20 }
def w_C_isFull : List Cond := .code y_C_isFull b_C_isFull 2 (some .boolean) :: gG
def r_C_append : Room := { frames := 1, cells := 0, slots := 0, locals := 20 }
def w_C_append : List Cond := .code y_C_append b_C_append 3 none :: gG
def r_C_size : Room := { frames := 1, cells := 0, slots := 0, locals := 20 }
def w_C_size : List Cond := .code y_C_size b_C_size 2 (some .int) :: gG
def r_X_collect : Room := { frames := 2, cells := 0, slots := 0, locals := 42 }
def w_X_collect : List Cond := .code y_X_collect b_X_collect 3 (some .int) :: gG
def r_X_collected : Room := { frames := 2, cells := 0, slots := 0, locals := 41 }
def w_X_collected : List Cond := .code y_X_collected b_X_collected 2 (some .int) :: gG
def r_X_isCall : Room := { frames := 0, cells := 0, slots := 0, locals := 0 }
def w_X_isCall : List Cond := .code y_X_isCall b_X_isCall 1 (some .boolean) :: gG
def r_X_partAt : Room := { frames := 1, cells := 0, slots := 0, locals := 20 }
def w_X_partAt : List Cond := .code y_X_partAt b_X_partAt 2 (some (.object "BuildCounter$Part")) :: gG
def r_P_addToTable : Room := { frames := 0, cells := 0, slots := 0, locals := 0 }
def w_P_addToTable : List Cond := .code y_P_addToTable b_P_addToTable 3 none :: gG
def r_X_answer : Room := { frames := 2, cells := 0, slots := 0, locals := 41 }
def w_X_answer : List Cond := .code y_X_answer b_X_answer 5 (some .int) :: gG
def r_X_fails : Room := { frames := 2, cells := 0, slots := 0, locals := 41 }
def w_X_fails : List Cond := .code y_X_fails b_X_fails 5 (some .boolean) :: gG
def r_O_addToCounts : Room := { frames := 0, cells := 0, slots := 0, locals := 0 }
def w_O_addToCounts : List Cond := .code y_O_addToCounts b_O_addToCounts 2 none :: gG
def r_O_add : Room := { frames := 1, cells := 0, slots := 0, locals := 21 }
def w_O_add : List Cond := .code y_O_add b_O_add 6 none :: gG
def r_X_tell : Room := { frames := 2, cells := 0, slots := 0, locals := 46 }
def w_X_tell : List Cond := .code y_X_tell b_X_tell 6 (some .long) :: gG
def r_B_isFull : Room := { frames := 0, cells := 0, slots := 0, locals := 0 }
def w_B_isFull : List Cond := .code y_B_isFull b_B_isFull 1 (some .boolean) :: gG
def r_X_refusalOf : Room := { frames := 2, cells := 0, slots := 0, locals := 41 }
def w_X_refusalOf : List Cond := .code y_X_refusalOf b_X_refusalOf 5 (some .long) :: gG
def r_C_sum : Room := { frames := 1, cells := 0, slots := 0, locals := 20 }
def w_C_sum : List Cond := .code y_C_sum b_C_sum 2 (some .long) :: gG
def r_C_empty : Room := { frames := 1, cells := 0, slots := 0, locals := 20 }
def w_C_empty : List Cond := .code y_C_empty b_C_empty 2 none :: gG
def r_B_queue : Room := { frames := 1, cells := 0, slots := 0, locals := 20 }
def w_B_queue : List Cond := .code y_B_queue b_B_queue 5 none :: gG
def r_P_outcome : Room := { frames := 0, cells := 0, slots := 0, locals := 0 }
def w_P_outcome : List Cond := .code y_P_outcome b_P_outcome 1 (some .int) :: gG
def r_P_reply : Room := { frames := 0, cells := 0, slots := 0, locals := 0 }
def w_P_reply : List Cond := .code y_P_reply b_P_reply 5 (some .long) :: gG
def r_X_call : Room := { frames := 3, cells := 0, slots := 0, locals := 71 }
def w_X_call : List Cond := .code y_X_call b_X_call 12 (some .long) :: gG
def r_X_houseAt : Room := { frames := 1, cells := 0, slots := 0, locals := 21 }
def w_X_houseAt : List Cond := .code y_X_houseAt b_X_houseAt 3 (some (.object "BuildCounter$Thing")) :: gG
def r_B_begin : Room := { frames := 0, cells := 0, slots := 0, locals := 0 }
def w_B_begin : List Cond := .code y_B_begin b_B_begin 2 none :: gG
def r_X_build : Room := { frames := 2, cells := 0, slots := 0, locals := 43 }
def w_X_build : List Cond := .code y_X_build b_X_build 4 (some .boolean) :: gG
def r_B_nextTurn : Room := { frames := 0, cells := 0, slots := 0, locals := 0 }
def w_B_nextTurn : List Cond := .code y_B_nextTurn b_B_nextTurn 1 (some .int) :: gG
def r_X_leastCallFor : Room := { frames := 0, cells := 0, slots := 0, locals := 0 }
def w_X_leastCallFor : List Cond := .code y_X_leastCallFor b_X_leastCallFor 3 (some .int) :: gG
def r_X_callInTurn : Room := { frames := 0, cells := 0, slots := 0, locals := 0 }
def w_X_callInTurn : List Cond := .code y_X_callInTurn b_X_callInTurn 4 (some .int) :: gG
def r_X_goes : Room := { frames := 3, cells := 0, slots := 0, locals := 71 }
def w_X_goes : List Cond := .code y_X_goes b_X_goes 7 (some .boolean) :: gG
def r_X_letWaitingGo : Room := { frames := 4, cells := 0, slots := 0, locals := 97 }
def w_X_letWaitingGo : List Cond := .code y_X_letWaitingGo b_X_letWaitingGo 3 none :: gG
def r_X_turn : Room := { frames := 5, cells := 0, slots := 0, locals := 119 }
def w_X_turn : List Cond := .code y_X_turn b_X_turn 9 (some .int) :: gG
def r_X_building : Room := { frames := 2, cells := 0, slots := 0, locals := 43 }
def w_X_building : List Cond := .code y_X_building b_X_building 4 (some .int) :: gG
def r_O_spotOf : Room := { frames := 0, cells := 0, slots := 0, locals := 0 }
def w_O_spotOf : List Cond := .code y_O_spotOf b_O_spotOf 3 (some .int) :: gG
def r_X_told : Room := { frames := 1, cells := 0, slots := 0, locals := 22 }
def w_X_told : List Cond := .code y_X_told b_X_told 4 (some .int) :: gG
def r_X_value : Room := { frames := 1, cells := 0, slots := 0, locals := 22 }
def w_X_value : List Cond := .code y_X_value b_X_value 3 (some .long) :: gG
def r_X_count : Room := { frames := 0, cells := 0, slots := 0, locals := 0 }
def w_X_count : List Cond := .code y_X_count b_X_count 2 (some .int) :: gG
def r_X_keep : Room := { frames := 0, cells := 0, slots := 0, locals := 0 }
def w_X_keep : List Cond := .code y_X_keep b_X_keep 2 (some .int) :: gG
def r_M_isThing : Room := { frames := 0, cells := 0, slots := 0, locals := 0 }
def w_M_isThing : List Cond := .code y_M_isThing b_M_isThing 2 (some .boolean) :: gG
def r_M_isHouse : Room := { frames := 1, cells := 0, slots := 0, locals := 21 }
def w_M_isHouse : List Cond := .code y_M_isHouse b_M_isHouse 2 (some .boolean) :: gG
def r_M_isDefined : Room := { frames := 0, cells := 0, slots := 0, locals := 0 }
def w_M_isDefined : List Cond := .code y_M_isDefined b_M_isDefined 2 (some .boolean) :: gG
def r_M_liesIn : Room := { frames := 0, cells := 0, slots := 0, locals := 0 }
def w_M_liesIn : List Cond := .code y_M_liesIn b_M_liesIn 1 (some .int) :: gG
def r_M_make : Room := { frames := 1, cells := 0, slots := 0, locals := 21 }
def w_M_make : List Cond := .code y_M_make b_M_make 4 (some .int) :: gG
def r_M_drop : Room := { frames := 1, cells := 0, slots := 0, locals := 21 }
def w_M_drop : List Cond := .code y_M_drop b_M_drop 4 (some .int) :: gG
def r_M_numbers : Room := { frames := 0, cells := 0, slots := 0, locals := 0 }
def w_M_numbers : List Cond := .code y_M_numbers b_M_numbers 4 (some .int) :: gG
def r_M_about : Room := { frames := 1, cells := 0, slots := 0, locals := 21 }
def w_M_about : List Cond := .code y_M_about b_M_about 5 (some .int) :: gG
def r_M_isSort : Room := { frames := 0, cells := 0, slots := 0, locals := 0 }
def w_M_isSort : List Cond := .code y_M_isSort b_M_isSort 1 (some .boolean) :: gG
def r_M_collect : Room := { frames := 1, cells := 0, slots := 0, locals := 20 }
def w_M_collect : List Cond := .code y_M_collect b_M_collect 4 (some .int) :: gG
def r_M_collected : Room := { frames := 1, cells := 0, slots := 0, locals := 20 }
def w_M_collected : List Cond := .code y_M_collected b_M_collected 2 (some .int) :: gG
def r_M_sumOf : Room := { frames := 0, cells := 0, slots := 0, locals := 0 }
def w_M_sumOf : List Cond := .code y_M_sumOf b_M_sumOf 5 (some .long) :: gG
def r_M_define : Room := { frames := 1, cells := 0, slots := 0, locals := 20 }
def w_M_define : List Cond := .code y_M_define b_M_define 8 (some .boolean) :: gG
def r_M_answer : Room := { frames := 1, cells := 0, slots := 0, locals := 21 }
def w_M_answer : List Cond := .code y_M_answer b_M_answer 4 (some .int) :: gG
def r_M_fails : Room := { frames := 1, cells := 0, slots := 0, locals := 21 }
def w_M_fails : List Cond := .code y_M_fails b_M_fails 4 (some .boolean) :: gG
def r_M_go : Room := { frames := 0, cells := 0, slots := 0, locals := 0 }
def w_M_go : List Cond := .code y_M_go b_M_go 4 none :: gG
def r_M_tell : Room := { frames := 0, cells := 0, slots := 0, locals := 0 }
def w_M_tell : List Cond := .code y_M_tell b_M_tell 8 none :: gG
def r_M_refusal : Room := { frames := 1, cells := 0, slots := 0, locals := 21 }
def w_M_refusal : List Cond := .code y_M_refusal b_M_refusal 6 (some .int) :: gG
def r_M_call : Room := { frames := 2, cells := 0, slots := 0, locals := 46 }
def w_M_call : List Cond := .code y_M_call b_M_call 12 (some .long) :: gG
def r_M_build : Room := { frames := 2, cells := 0, slots := 0, locals := 42 }
def w_M_build : List Cond := .code y_M_build b_M_build 3 (some .boolean) :: gG
def r_M_leastFor : Room := { frames := 0, cells := 0, slots := 0, locals := 0 }
def w_M_leastFor : List Cond := .code y_M_leastFor b_M_leastFor 3 (some .int) :: gG
def r_M_turn : Room := { frames := 2, cells := 0, slots := 0, locals := 42 }
def w_M_turn : List Cond := .code y_M_turn b_M_turn 5 (some .int) :: gG
def r_M_building : Room := { frames := 2, cells := 0, slots := 0, locals := 42 }
def w_M_building : List Cond := .code y_M_building b_M_building 3 (some .int) :: gG
def r_M_isTold : Room := { frames := 0, cells := 0, slots := 0, locals := 0 }
def w_M_isTold : List Cond := .code y_M_isTold b_M_isTold 2 (some .boolean) :: gG
def r_M_placeOf : Room := { frames := 0, cells := 0, slots := 0, locals := 0 }
def w_M_placeOf : List Cond := .code y_M_placeOf b_M_placeOf 2 (some .int) :: gG
def r_M_told : Room := { frames := 1, cells := 0, slots := 0, locals := 21 }
def w_M_told : List Cond := .code y_M_told b_M_told 4 (some .int) :: gG
def r_M_value : Room := { frames := 1, cells := 0, slots := 0, locals := 21 }
def w_M_value : List Cond := .code y_M_value b_M_value 2 (some .long) :: gG
def r_M_count : Room := { frames := 0, cells := 0, slots := 0, locals := 0 }
def w_M_count : List Cond := .code y_M_count b_M_count 2 (some .int) :: gG
def r_P_begin : Room := { frames := 0, cells := 0, slots := 0, locals := 0 }
def w_P_begin : List Cond := .code y_P_begin b_P_begin 7 none :: gG
section CALLS
variable {p : Program} {l : Launch} {e : Env} {R : Room} {s : State} {m : MethodId} {args : Array Value} {below : List Frame} {meth : Method} {c : Code} {H : Heap} {locs : List Loc} {cells slots : Nat} {Q : State → Prop}
variable {cc : ByteArray} {pc : Nat} {ls : Array Slot} {rest : List Value} {G : mG} {τ : mTau} {μ : mMem}
variable {nL : Nat}
theorem q_X_39 (hx : p.tables.exec = Jvm.exec) (hb : c.code = cc) (hml : c.maxLocals = nL) (hown : s.vm.findClass R_X = some m.cls) (hts : ∀ w ∈ gG, w.before args s = true) (hT : mT G s) (hM : mw G τ μ H locs) {a1 : Int32} {r : Int32} {μ2 : mMem} (hMet : Met l y_X_isKind w_X_isKind r_X_isKind (mPc G τ μ [.int a1]) (mQ G τ (some (.int r)) μ2) 0 0 (fun q => G.2.2.1 ≤ q)) (hR : r_X_isKind.frames + 1 ≤ R.frames ∧ 8 + (1 + 11) + r_X_isKind.locals ≤ R.locals) (hf : cells ≤ R.cells ∧ slots ≤ R.slots) (hW : 2 * (F0 m pc ls (.int a1 :: rest)).monitorRoom + (rest.map fun v => v.category).sum ≤ 8) (hsz : ls.size = nL) (hdg : decode cc pc = .ok (.invokestatic 39, 3)) (kk : ∀ (H1 : Heap) (locs1 : List Loc), mw G τ μ2 H1 locs1 → W p l e R s m args below meth c H1 locs1 cells slots Q (F0 m (pc + 3) ls (.int r :: rest))) : W p l e R s m args below meth c H locs cells slots Q (F0 m pc ls (.int a1 :: rest)) :=
  mw_call hM (va_runS (As := [.int a1]) (rest := rest) ⟨hx, hb, hml, hown, hts⟩ hMet ⟨(callB_of 1 hts (gG_self kw_code_X_isKind) rfl rfl rfl (hts _ kw_initialized_BuildCounter) (hts _ kw_methodLink_39_X_isKind) (by decide +kernel) hR), hts _ kw_static_X_isKind⟩ ⟨mPc.blind, mPc.pre hT hM⟩ rfl rfl hsz rfl hW hdg hf) kk
theorem q_X_49 (hx : p.tables.exec = Jvm.exec) (hb : c.code = cc) (hml : c.maxLocals = nL) (hown : s.vm.findClass R_X = some m.cls) (hts : ∀ w ∈ gG, w.before args s = true) (hT : mT G s) (hM : mw G τ μ H locs) {i1 : Nat} (hl : τ.2 0 0) {r : Int32} {μ2 : mMem} (hMet : Met l y_X_keep w_X_keep r_X_keep (mPc G τ μ [.ref (τ.1 0 0), .ref (τ.1 2 i1)]) (mQ G τ (some (.int r)) μ2) 0 0 (fun q => G.2.2.1 ≤ q)) (hR : r_X_keep.frames + 1 ≤ R.frames ∧ 8 + (2 + 11) + r_X_keep.locals ≤ R.locals) (hf : cells ≤ R.cells ∧ slots ≤ R.slots) (hW : 2 * (F0 m pc ls (.ref (τ.1 2 i1) :: .ref (τ.1 0 0) :: rest)).monitorRoom + (rest.map fun v => v.category).sum ≤ 8) (hsz : ls.size = nL) (hdg : decode cc pc = .ok (.invokevirtual 49, 3)) (kk : ∀ (H1 : Heap) (locs1 : List Loc), mw G τ μ2 H1 locs1 → W p l e R s m args below meth c H1 locs1 cells slots Q (F0 m (pc + 3) ls (.int r :: rest))) : W p l e R s m args below meth c H locs cells slots Q (F0 m pc ls (.ref (τ.1 2 i1) :: .ref (τ.1 0 0) :: rest)) :=
  mw_call hM (va_runV (As := [.ref (τ.1 2 i1)]) (rest := rest) ⟨hx, hb, hml, hown, hts⟩ hMet ⟨(callB_of 1 hts (gG_self kw_code_X_keep) rfl rfl rfl (hts _ kw_initialized_BuildCounter) (hts _ kw_methodLink_49_X_keep) (by decide +kernel) hR), hts _ kw_instanceMethod_X_keep, hts _ kw_selects_X_keep⟩ ⟨mPc.blind, mw_recv hT hM hl rfl rfl, mPc.pre hT hM⟩ rfl rfl hsz rfl hW hdg hf) kk
theorem q_X_53 (hx : p.tables.exec = Jvm.exec) (hb : c.code = cc) (hml : c.maxLocals = nL) (hown : s.vm.findClass R_X = some m.cls) (hts : ∀ w ∈ gG, w.before args s = true) (hT : mT G s) (hM : mw G τ μ H locs) {a1 : Int32} (hl : τ.2 0 0) {o : Option Nat} {μ2 : mMem} (hMet : Met l y_X_thingAt w_X_thingAt r_X_thingAt (mPc G τ μ [.ref (τ.1 0 0), .int a1]) (mQo G τ 2 o μ2) 0 0 (fun q => G.2.2.1 ≤ q)) (hR : r_X_thingAt.frames + 1 ≤ R.frames ∧ 8 + (2 + 11) + r_X_thingAt.locals ≤ R.locals) (hf : cells ≤ R.cells ∧ slots ≤ R.slots) (hW : 2 * (F0 m pc ls (.int a1 :: .ref (τ.1 0 0) :: rest)).monitorRoom + (rest.map fun v => v.category).sum ≤ 8) (hsz : ls.size = nL) (hdg : decode cc pc = .ok (.invokevirtual 53, 3)) (kn : ∀ (H1 : Heap) (locs1 : List Loc), mw G τ μ2 H1 locs1 → o = none → W p l e R s m args below meth c H1 locs1 cells slots Q (F0 m (pc + 3) ls (.null :: rest))) (ks : ∀ (H1 : Heap) (locs1 : List Loc), mw G τ μ2 H1 locs1 → ∀ i : Nat, o = some i → τ.2 2 i → W p l e R s m args below meth c H1 locs1 cells slots Q (F0 m (pc + 3) ls (.ref (τ.1 2 i) :: rest))) : W p l e R s m args below meth c H locs cells slots Q (F0 m pc ls (.int a1 :: .ref (τ.1 0 0) :: rest)) :=
  mw_callo hM (va_runV (As := [.int a1]) (rest := rest) ⟨hx, hb, hml, hown, hts⟩ hMet ⟨(callB_of 1 hts (gG_self kw_code_X_thingAt) rfl rfl rfl (hts _ kw_initialized_BuildCounter) (hts _ kw_methodLink_53_X_thingAt) (by decide +kernel) hR), hts _ kw_instanceMethod_X_thingAt, hts _ kw_selects_X_thingAt⟩ ⟨mPc.blind, mw_recv hT hM hl rfl rfl, mPc.pre hT hM⟩ rfl rfl hsz rfl hW hdg hf) kn ks
theorem q_X_68 (hx : p.tables.exec = Jvm.exec) (hb : c.code = cc) (hml : c.maxLocals = nL) (hown : s.vm.findClass R_X = some m.cls) (hts : ∀ w ∈ gG, w.before args s = true) (hT : mT G s) (hM : mw G τ μ H locs) {i0 : Nat} (hl : τ.2 3 i0) {r : Int32} {μ2 : mMem} (hMet : Met l y_B_isOn w_B_isOn r_B_isOn (mPc G τ μ [.ref (τ.1 3 i0)]) (mQ G τ (some (.int r)) μ2) 0 0 (fun q => G.2.2.1 ≤ q)) (hR : r_B_isOn.frames + 1 ≤ R.frames ∧ 8 + (1 + 11) + r_B_isOn.locals ≤ R.locals) (hf : cells ≤ R.cells ∧ slots ≤ R.slots) (hW : 2 * (F0 m pc ls (.ref (τ.1 3 i0) :: rest)).monitorRoom + (rest.map fun v => v.category).sum ≤ 8) (hsz : ls.size = nL) (hdg : decode cc pc = .ok (.invokevirtual 68, 3)) (kk : ∀ (H1 : Heap) (locs1 : List Loc), mw G τ μ2 H1 locs1 → W p l e R s m args below meth c H1 locs1 cells slots Q (F0 m (pc + 3) ls (.int r :: rest))) : W p l e R s m args below meth c H locs cells slots Q (F0 m pc ls (.ref (τ.1 3 i0) :: rest)) :=
  mw_call hM (va_runV (As := []) (rest := rest) ⟨hx, hb, hml, hown, hts⟩ hMet ⟨(callB_of 0 hts (gG_self kw_code_B_isOn) rfl rfl rfl (hts _ kw_initialized_Build) (hts _ kw_methodLink_68_B_isOn) (by decide +kernel) hR), hts _ kw_instanceMethod_B_isOn, hts _ kw_selects_B_isOn⟩ ⟨mPc.blind, mw_recv hT hM hl rfl rfl, mPc.pre hT hM⟩ rfl rfl hsz rfl hW hdg hf) kk
theorem q_X_75 (hx : p.tables.exec = Jvm.exec) (hb : c.code = cc) (hml : c.maxLocals = nL) (hown : s.vm.findClass R_X = some m.cls) (hts : ∀ w ∈ gG, w.before args s = true) (hT : mT G s) (hM : mw G τ μ H locs) {o1 : Option Nat} (hl : τ.2 0 0) {r : Int32} {μ2 : mMem} (hMet : Met l y_X_hasLostItsPlace w_X_hasLostItsPlace r_X_hasLostItsPlace (mPc G τ μ [.ref (τ.1 0 0), va_rf (o1.map (τ.1 2))]) (mQ G τ (some (.int r)) μ2) 0 0 (fun q => G.2.2.1 ≤ q)) (hR : r_X_hasLostItsPlace.frames + 1 ≤ R.frames ∧ 8 + (2 + 11) + r_X_hasLostItsPlace.locals ≤ R.locals) (hf : cells ≤ R.cells ∧ slots ≤ R.slots) (hW : 2 * (F0 m pc ls (va_rf (o1.map (τ.1 2)) :: .ref (τ.1 0 0) :: rest)).monitorRoom + (rest.map fun v => v.category).sum ≤ 8) (hsz : ls.size = nL) (hdg : decode cc pc = .ok (.invokevirtual 75, 3)) (kk : ∀ (H1 : Heap) (locs1 : List Loc), mw G τ μ2 H1 locs1 → W p l e R s m args below meth c H1 locs1 cells slots Q (F0 m (pc + 3) ls (.int r :: rest))) : W p l e R s m args below meth c H locs cells slots Q (F0 m pc ls (va_rf (o1.map (τ.1 2)) :: .ref (τ.1 0 0) :: rest)) :=
  mw_call hM (va_runV (As := [va_rf (o1.map (τ.1 2))]) (rest := rest) ⟨hx, hb, hml, hown, hts⟩ hMet ⟨(callB_of 1 hts (gG_self kw_code_X_hasLostItsPlace) rfl rfl rfl (hts _ kw_initialized_BuildCounter) (hts _ kw_methodLink_75_X_hasLostItsPlace) (by decide +kernel) hR), hts _ kw_instanceMethod_X_hasLostItsPlace, hts _ kw_selects_X_hasLostItsPlace⟩ ⟨mPc.blind, mw_recv hT hM hl rfl rfl, mPc.pre hT hM⟩ rfl rfl hsz rfl hW hdg hf) kk
theorem q_X_82 (hx : p.tables.exec = Jvm.exec) (hb : c.code = cc) (hml : c.maxLocals = nL) (hown : s.vm.findClass R_X = some m.cls) (hts : ∀ w ∈ gG, w.before args s = true) (hT : mT G s) (hM : mw G τ μ H locs) {a1 : Int32} (hl : τ.2 0 0) {r : Int32} {μ2 : mMem} (hMet : Met l y_X_lyingJustIn w_X_lyingJustIn r_X_lyingJustIn (mPc G τ μ [.ref (τ.1 0 0), .int a1]) (mQ G τ (some (.int r)) μ2) 0 0 (fun q => G.2.2.1 ≤ q)) (hR : r_X_lyingJustIn.frames + 1 ≤ R.frames ∧ 8 + (4 + 11) + r_X_lyingJustIn.locals ≤ R.locals) (hf : cells ≤ R.cells ∧ slots ≤ R.slots) (hW : 2 * (F0 m pc ls (.int a1 :: .ref (τ.1 0 0) :: rest)).monitorRoom + (rest.map fun v => v.category).sum ≤ 8) (hsz : ls.size = nL) (hdg : decode cc pc = .ok (.invokevirtual 82, 3)) (kk : ∀ (H1 : Heap) (locs1 : List Loc), mw G τ μ2 H1 locs1 → W p l e R s m args below meth c H1 locs1 cells slots Q (F0 m (pc + 3) ls (.int r :: rest))) : W p l e R s m args below meth c H locs cells slots Q (F0 m pc ls (.int a1 :: .ref (τ.1 0 0) :: rest)) :=
  mw_call hM (va_runV (As := [.int a1]) (rest := rest) ⟨hx, hb, hml, hown, hts⟩ hMet ⟨(callB_of 1 hts (gG_self kw_code_X_lyingJustIn) rfl rfl rfl (hts _ kw_initialized_BuildCounter) (hts _ kw_methodLink_82_X_lyingJustIn) (by decide +kernel) hR), hts _ kw_instanceMethod_X_lyingJustIn, hts _ kw_selects_X_lyingJustIn⟩ ⟨mPc.blind, mw_recv hT hM hl rfl rfl, mPc.pre hT hM⟩ rfl rfl hsz rfl hW hdg hf) kk
theorem q_X_86 (hx : p.tables.exec = Jvm.exec) (hb : c.code = cc) (hml : c.maxLocals = nL) (hown : s.vm.findClass R_X = some m.cls) (hts : ∀ w ∈ gG, w.before args s = true) (hT : mT G s) (hM : mw G τ μ H locs) {a1 : Int32} {r : Int32} {μ2 : mMem} (hMet : Met l y_X_isSort w_X_isSort r_X_isSort (mPc G τ μ [.int a1]) (mQ G τ (some (.int r)) μ2) 0 0 (fun q => G.2.2.1 ≤ q)) (hR : r_X_isSort.frames + 1 ≤ R.frames ∧ 8 + (1 + 11) + r_X_isSort.locals ≤ R.locals) (hf : cells ≤ R.cells ∧ slots ≤ R.slots) (hW : 2 * (F0 m pc ls (.int a1 :: rest)).monitorRoom + (rest.map fun v => v.category).sum ≤ 8) (hsz : ls.size = nL) (hdg : decode cc pc = .ok (.invokestatic 86, 3)) (kk : ∀ (H1 : Heap) (locs1 : List Loc), mw G τ μ2 H1 locs1 → W p l e R s m args below meth c H1 locs1 cells slots Q (F0 m (pc + 3) ls (.int r :: rest))) : W p l e R s m args below meth c H locs cells slots Q (F0 m pc ls (.int a1 :: rest)) :=
  mw_call hM (va_runS (As := [.int a1]) (rest := rest) ⟨hx, hb, hml, hown, hts⟩ hMet ⟨(callB_of 1 hts (gG_self kw_code_X_isSort) rfl rfl rfl (hts _ kw_initialized_BuildCounter) (hts _ kw_methodLink_86_X_isSort) (by decide +kernel) hR), hts _ kw_static_X_isSort⟩ ⟨mPc.blind, mPc.pre hT hM⟩ rfl rfl hsz rfl hW hdg hf) kk
theorem q_X_89 (hx : p.tables.exec = Jvm.exec) (hb : c.code = cc) (hml : c.maxLocals = nL) (hown : s.vm.findClass R_X = some m.cls) (hts : ∀ w ∈ gG, w.before args s = true) (hT : mT G s) (hM : mw G τ μ H locs) {a1 : Int32} {a2 : Int32} {r : Int32} {μ2 : mMem} (hMet : Met l y_X_fits w_X_fits r_X_fits (mPc G τ μ [.int a1, .int a2]) (mQ G τ (some (.int r)) μ2) 0 0 (fun q => G.2.2.1 ≤ q)) (hR : r_X_fits.frames + 1 ≤ R.frames ∧ 8 + (2 + 11) + r_X_fits.locals ≤ R.locals) (hf : cells ≤ R.cells ∧ slots ≤ R.slots) (hW : 2 * (F0 m pc ls (.int a2 :: .int a1 :: rest)).monitorRoom + (rest.map fun v => v.category).sum ≤ 8) (hsz : ls.size = nL) (hdg : decode cc pc = .ok (.invokestatic 89, 3)) (kk : ∀ (H1 : Heap) (locs1 : List Loc), mw G τ μ2 H1 locs1 → W p l e R s m args below meth c H1 locs1 cells slots Q (F0 m (pc + 3) ls (.int r :: rest))) : W p l e R s m args below meth c H locs cells slots Q (F0 m pc ls (.int a2 :: .int a1 :: rest)) :=
  mw_call hM (va_runS (As := [.int a1, .int a2]) (rest := rest) ⟨hx, hb, hml, hown, hts⟩ hMet ⟨(callB_of 2 hts (gG_self kw_code_X_fits) rfl rfl rfl (hts _ kw_initialized_BuildCounter) (hts _ kw_methodLink_89_X_fits) (by decide +kernel) hR), hts _ kw_static_X_fits⟩ ⟨mPc.blind, mPc.pre hT hM⟩ rfl rfl hsz rfl hW hdg hf) kk
theorem q_X_93 (hx : p.tables.exec = Jvm.exec) (hb : c.code = cc) (hml : c.maxLocals = nL) (hown : s.vm.findClass R_X = some m.cls) (hts : ∀ w ∈ gG, w.before args s = true) (hT : mT G s) (hM : mw G τ μ H locs) {a1 : Int32} (hl : τ.2 7 0) {r : Int32} {μ2 : mMem} (hMet : Met l y_C_isFull w_C_isFull r_C_isFull (mPc G τ μ [.ref (τ.1 7 0), .int a1]) (mQ G τ (some (.int r)) μ2) 0 0 (fun q => G.2.2.1 ≤ q)) (hR : r_C_isFull.frames + 1 ≤ R.frames ∧ 8 + (2 + 11) + r_C_isFull.locals ≤ R.locals) (hf : cells ≤ R.cells ∧ slots ≤ R.slots) (hW : 2 * (F0 m pc ls (.int a1 :: .ref (τ.1 7 0) :: rest)).monitorRoom + (rest.map fun v => v.category).sum ≤ 8) (hsz : ls.size = nL) (hdg : decode cc pc = .ok (.invokevirtual 93, 3)) (kk : ∀ (H1 : Heap) (locs1 : List Loc), mw G τ μ2 H1 locs1 → W p l e R s m args below meth c H1 locs1 cells slots Q (F0 m (pc + 3) ls (.int r :: rest))) : W p l e R s m args below meth c H locs cells slots Q (F0 m pc ls (.int a1 :: .ref (τ.1 7 0) :: rest)) :=
  mw_call hM (va_runV (As := [.int a1]) (rest := rest) ⟨hx, hb, hml, hown, hts⟩ hMet ⟨(callB_of 1 hts (gG_self kw_code_C_isFull) rfl rfl rfl (hts _ kw_initialized_Collected) (hts _ kw_methodLink_93_C_isFull) (by decide +kernel) hR), hts _ kw_instanceMethod_C_isFull, hts _ kw_selects_C_isFull⟩ ⟨mPc.blind, mw_recv hT hM hl rfl rfl, mPc.pre hT hM⟩ rfl rfl hsz rfl hW hdg hf) kk
theorem q_X_96 (hx : p.tables.exec = Jvm.exec) (hb : c.code = cc) (hml : c.maxLocals = nL) (hown : s.vm.findClass R_X = some m.cls) (hts : ∀ w ∈ gG, w.before args s = true) (hT : mT G s) (hM : mw G τ μ H locs) {a1 : Int32} {a2 : Int32} (hl : τ.2 7 0) {μ2 : mMem} (hMet : Met l y_C_append w_C_append r_C_append (mPc G τ μ [.ref (τ.1 7 0), .int a1, .int a2]) (mQ G τ none μ2) 0 0 (fun q => G.2.2.1 ≤ q)) (hR : r_C_append.frames + 1 ≤ R.frames ∧ 8 + (3 + 11) + r_C_append.locals ≤ R.locals) (hf : cells ≤ R.cells ∧ slots ≤ R.slots) (hW : 2 * (F0 m pc ls (.int a2 :: .int a1 :: .ref (τ.1 7 0) :: rest)).monitorRoom + (rest.map fun v => v.category).sum ≤ 8) (hsz : ls.size = nL) (hdg : decode cc pc = .ok (.invokevirtual 96, 3)) (kk : ∀ (H1 : Heap) (locs1 : List Loc), mw G τ μ2 H1 locs1 → W p l e R s m args below meth c H1 locs1 cells slots Q (F0 m (pc + 3) ls rest)) : W p l e R s m args below meth c H locs cells slots Q (F0 m pc ls (.int a2 :: .int a1 :: .ref (τ.1 7 0) :: rest)) :=
  mw_call hM (va_runV (As := [.int a1, .int a2]) (rest := rest) ⟨hx, hb, hml, hown, hts⟩ hMet ⟨(callB_of 2 hts (gG_self kw_code_C_append) rfl rfl rfl (hts _ kw_initialized_Collected) (hts _ kw_methodLink_96_C_append) (by decide +kernel) hR), hts _ kw_instanceMethod_C_append, hts _ kw_selects_C_append⟩ ⟨mPc.blind, mw_recv hT hM hl rfl rfl, mPc.pre hT hM⟩ rfl rfl hsz rfl hW hdg hf) kk
theorem q_X_100 (hx : p.tables.exec = Jvm.exec) (hb : c.code = cc) (hml : c.maxLocals = nL) (hown : s.vm.findClass R_X = some m.cls) (hts : ∀ w ∈ gG, w.before args s = true) (hT : mT G s) (hM : mw G τ μ H locs) {a1 : Int32} (hl : τ.2 7 0) {r : Int32} {μ2 : mMem} (hMet : Met l y_C_size w_C_size r_C_size (mPc G τ μ [.ref (τ.1 7 0), .int a1]) (mQ G τ (some (.int r)) μ2) 0 0 (fun q => G.2.2.1 ≤ q)) (hR : r_C_size.frames + 1 ≤ R.frames ∧ 8 + (2 + 11) + r_C_size.locals ≤ R.locals) (hf : cells ≤ R.cells ∧ slots ≤ R.slots) (hW : 2 * (F0 m pc ls (.int a1 :: .ref (τ.1 7 0) :: rest)).monitorRoom + (rest.map fun v => v.category).sum ≤ 8) (hsz : ls.size = nL) (hdg : decode cc pc = .ok (.invokevirtual 100, 3)) (kk : ∀ (H1 : Heap) (locs1 : List Loc), mw G τ μ2 H1 locs1 → W p l e R s m args below meth c H1 locs1 cells slots Q (F0 m (pc + 3) ls (.int r :: rest))) : W p l e R s m args below meth c H locs cells slots Q (F0 m pc ls (.int a1 :: .ref (τ.1 7 0) :: rest)) :=
  mw_call hM (va_runV (As := [.int a1]) (rest := rest) ⟨hx, hb, hml, hown, hts⟩ hMet ⟨(callB_of 1 hts (gG_self kw_code_C_size) rfl rfl rfl (hts _ kw_initialized_Collected) (hts _ kw_methodLink_100_C_size) (by decide +kernel) hR), hts _ kw_instanceMethod_C_size, hts _ kw_selects_C_size⟩ ⟨mPc.blind, mw_recv hT hM hl rfl rfl, mPc.pre hT hM⟩ rfl rfl hsz rfl hW hdg hf) kk
theorem q_X_103 (hx : p.tables.exec = Jvm.exec) (hb : c.code = cc) (hml : c.maxLocals = nL) (hown : s.vm.findClass R_X = some m.cls) (hts : ∀ w ∈ gG, w.before args s = true) (hT : mT G s) (hM : mw G τ μ H locs) {a1 : Int32} {r : Int32} {μ2 : mMem} (hMet : Met l y_X_isCall w_X_isCall r_X_isCall (mPc G τ μ [.int a1]) (mQ G τ (some (.int r)) μ2) 0 0 (fun q => G.2.2.1 ≤ q)) (hR : r_X_isCall.frames + 1 ≤ R.frames ∧ 8 + (1 + 11) + r_X_isCall.locals ≤ R.locals) (hf : cells ≤ R.cells ∧ slots ≤ R.slots) (hW : 2 * (F0 m pc ls (.int a1 :: rest)).monitorRoom + (rest.map fun v => v.category).sum ≤ 8) (hsz : ls.size = nL) (hdg : decode cc pc = .ok (.invokestatic 103, 3)) (kk : ∀ (H1 : Heap) (locs1 : List Loc), mw G τ μ2 H1 locs1 → W p l e R s m args below meth c H1 locs1 cells slots Q (F0 m (pc + 3) ls (.int r :: rest))) : W p l e R s m args below meth c H locs cells slots Q (F0 m pc ls (.int a1 :: rest)) :=
  mw_call hM (va_runS (As := [.int a1]) (rest := rest) ⟨hx, hb, hml, hown, hts⟩ hMet ⟨(callB_of 1 hts (gG_self kw_code_X_isCall) rfl rfl rfl (hts _ kw_initialized_BuildCounter) (hts _ kw_methodLink_103_X_isCall) (by decide +kernel) hR), hts _ kw_static_X_isCall⟩ ⟨mPc.blind, mPc.pre hT hM⟩ rfl rfl hsz rfl hW hdg hf) kk
theorem q_X_107 (hx : p.tables.exec = Jvm.exec) (hb : c.code = cc) (hml : c.maxLocals = nL) (hown : s.vm.findClass R_X = some m.cls) (hts : ∀ w ∈ gG, w.before args s = true) (hT : mT G s) (hM : mw G τ μ H locs) {i0 : Nat} {a1 : Int32} {a2 : Int32} {a3 : Int64} {a4 : Int64} (hl : τ.2 11 i0) {μ2 : mMem} (hMet : Met l y_P_begin w_P_begin r_P_begin (mPc G τ μ [.ref (τ.1 11 i0), .int a1, .int a2, .long a3, .long a4]) (mQ G τ none μ2) 0 0 (fun q => G.2.2.1 ≤ q)) (hR : r_P_begin.frames + 1 ≤ R.frames ∧ 8 + (7 + 11) + r_P_begin.locals ≤ R.locals) (hf : cells ≤ R.cells ∧ slots ≤ R.slots) (hW : 2 * (F0 m pc ls (.long a4 :: .long a3 :: .int a2 :: .int a1 :: .ref (τ.1 11 i0) :: rest)).monitorRoom + (rest.map fun v => v.category).sum ≤ 8) (hsz : ls.size = nL) (hdg : decode cc pc = .ok (.invokevirtual 107, 3)) (kk : ∀ (H1 : Heap) (locs1 : List Loc), mw G τ μ2 H1 locs1 → W p l e R s m args below meth c H1 locs1 cells slots Q (F0 m (pc + 3) ls rest)) : W p l e R s m args below meth c H locs cells slots Q (F0 m pc ls (.long a4 :: .long a3 :: .int a2 :: .int a1 :: .ref (τ.1 11 i0) :: rest)) :=
  mw_call hM (va_runV (As := [.int a1, .int a2, .long a3, .long a4]) (rest := rest) ⟨hx, hb, hml, hown, hts⟩ hMet ⟨(callB_of 4 hts (gG_self kw_code_P_begin) rfl rfl rfl (hts _ kw_initialized_Part) (hts _ kw_methodLink_107_P_begin) (by decide +kernel) hR), hts _ kw_instanceMethod_P_begin, hts _ kw_selects_P_begin⟩ ⟨mPc.blind, mw_recv hT hM hl rfl rfl, mPc.pre hT hM⟩ rfl rfl hsz rfl hW hdg hf) kk
theorem q_X_111 (hx : p.tables.exec = Jvm.exec) (hb : c.code = cc) (hml : c.maxLocals = nL) (hown : s.vm.findClass R_X = some m.cls) (hts : ∀ w ∈ gG, w.before args s = true) (hT : mT G s) (hM : mw G τ μ H locs) {a1 : Int32} (hl : τ.2 0 0) {o : Option Nat} {μ2 : mMem} (hMet : Met l y_X_partAt w_X_partAt r_X_partAt (mPc G τ μ [.ref (τ.1 0 0), .int a1]) (mQo G τ 11 o μ2) 0 0 (fun q => G.2.2.1 ≤ q)) (hR : r_X_partAt.frames + 1 ≤ R.frames ∧ 8 + (2 + 11) + r_X_partAt.locals ≤ R.locals) (hf : cells ≤ R.cells ∧ slots ≤ R.slots) (hW : 2 * (F0 m pc ls (.int a1 :: .ref (τ.1 0 0) :: rest)).monitorRoom + (rest.map fun v => v.category).sum ≤ 8) (hsz : ls.size = nL) (hdg : decode cc pc = .ok (.invokevirtual 111, 3)) (kn : ∀ (H1 : Heap) (locs1 : List Loc), mw G τ μ2 H1 locs1 → o = none → W p l e R s m args below meth c H1 locs1 cells slots Q (F0 m (pc + 3) ls (.null :: rest))) (ks : ∀ (H1 : Heap) (locs1 : List Loc), mw G τ μ2 H1 locs1 → ∀ i : Nat, o = some i → τ.2 11 i → W p l e R s m args below meth c H1 locs1 cells slots Q (F0 m (pc + 3) ls (.ref (τ.1 11 i) :: rest))) : W p l e R s m args below meth c H locs cells slots Q (F0 m pc ls (.int a1 :: .ref (τ.1 0 0) :: rest)) :=
  mw_callo hM (va_runV (As := [.int a1]) (rest := rest) ⟨hx, hb, hml, hown, hts⟩ hMet ⟨(callB_of 1 hts (gG_self kw_code_X_partAt) rfl rfl rfl (hts _ kw_initialized_BuildCounter) (hts _ kw_methodLink_111_X_partAt) (by decide +kernel) hR), hts _ kw_instanceMethod_X_partAt, hts _ kw_selects_X_partAt⟩ ⟨mPc.blind, mw_recv hT hM hl rfl rfl, mPc.pre hT hM⟩ rfl rfl hsz rfl hW hdg hf) kn ks
theorem q_X_118 (hx : p.tables.exec = Jvm.exec) (hb : c.code = cc) (hml : c.maxLocals = nL) (hown : s.vm.findClass R_X = some m.cls) (hts : ∀ w ∈ gG, w.before args s = true) (hT : mT G s) (hM : mw G τ μ H locs) {i0 : Nat} {a1 : Int64} (hl : τ.2 11 i0) {μ2 : mMem} (hMet : Met l y_P_addToTable w_P_addToTable r_P_addToTable (mPc G τ μ [.ref (τ.1 11 i0), .long a1]) (mQ G τ none μ2) 0 0 (fun q => G.2.2.1 ≤ q)) (hR : r_P_addToTable.frames + 1 ≤ R.frames ∧ 8 + (3 + 11) + r_P_addToTable.locals ≤ R.locals) (hf : cells ≤ R.cells ∧ slots ≤ R.slots) (hW : 2 * (F0 m pc ls (.long a1 :: .ref (τ.1 11 i0) :: rest)).monitorRoom + (rest.map fun v => v.category).sum ≤ 8) (hsz : ls.size = nL) (hdg : decode cc pc = .ok (.invokevirtual 118, 3)) (kk : ∀ (H1 : Heap) (locs1 : List Loc), mw G τ μ2 H1 locs1 → W p l e R s m args below meth c H1 locs1 cells slots Q (F0 m (pc + 3) ls rest)) : W p l e R s m args below meth c H locs cells slots Q (F0 m pc ls (.long a1 :: .ref (τ.1 11 i0) :: rest)) :=
  mw_call hM (va_runV (As := [.long a1]) (rest := rest) ⟨hx, hb, hml, hown, hts⟩ hMet ⟨(callB_of 1 hts (gG_self kw_code_P_addToTable) rfl rfl rfl (hts _ kw_initialized_Part) (hts _ kw_methodLink_118_P_addToTable) (by decide +kernel) hR), hts _ kw_instanceMethod_P_addToTable, hts _ kw_selects_P_addToTable⟩ ⟨mPc.blind, mw_recv hT hM hl rfl rfl, mPc.pre hT hM⟩ rfl rfl hsz rfl hW hdg hf) kk
theorem q_X_131 (hx : p.tables.exec = Jvm.exec) (hb : c.code = cc) (hml : c.maxLocals = nL) (hown : s.vm.findClass R_X = some m.cls) (hts : ∀ w ∈ gG, w.before args s = true) (hT : mT G s) (hM : mw G τ μ H locs) {a1 : Int32} {a2 : Int32} {a3 : Int32} {a4 : Int64} (hl : τ.2 0 0) {r : Int64} {μ2 : mMem} (hMet : Met l y_X_tell w_X_tell r_X_tell (mPc G τ μ [.ref (τ.1 0 0), .int a1, .int a2, .int a3, .long a4]) (mQ G τ (some (.long r)) μ2) 0 0 (fun q => G.2.2.1 ≤ q)) (hR : r_X_tell.frames + 1 ≤ R.frames ∧ 8 + (6 + 11) + r_X_tell.locals ≤ R.locals) (hf : cells ≤ R.cells ∧ slots ≤ R.slots) (hW : 2 * (F0 m pc ls (.long a4 :: .int a3 :: .int a2 :: .int a1 :: .ref (τ.1 0 0) :: rest)).monitorRoom + (rest.map fun v => v.category).sum ≤ 8) (hsz : ls.size = nL) (hdg : decode cc pc = .ok (.invokevirtual 131, 3)) (kk : ∀ (H1 : Heap) (locs1 : List Loc), mw G τ μ2 H1 locs1 → W p l e R s m args below meth c H1 locs1 cells slots Q (F0 m (pc + 3) ls (.long r :: rest))) : W p l e R s m args below meth c H locs cells slots Q (F0 m pc ls (.long a4 :: .int a3 :: .int a2 :: .int a1 :: .ref (τ.1 0 0) :: rest)) :=
  mw_call hM (va_runV (As := [.int a1, .int a2, .int a3, .long a4]) (rest := rest) ⟨hx, hb, hml, hown, hts⟩ hMet ⟨(callB_of 4 hts (gG_self kw_code_X_tell) rfl rfl rfl (hts _ kw_initialized_BuildCounter) (hts _ kw_methodLink_131_X_tell) (by decide +kernel) hR), hts _ kw_instanceMethod_X_tell, hts _ kw_selects_X_tell⟩ ⟨mPc.blind, mw_recv hT hM hl rfl rfl, mPc.pre hT hM⟩ rfl rfl hsz rfl hW hdg hf) kk
theorem q_X_135 (hx : p.tables.exec = Jvm.exec) (hb : c.code = cc) (hml : c.maxLocals = nL) (hown : s.vm.findClass R_X = some m.cls) (hts : ∀ w ∈ gG, w.before args s = true) (hT : mT G s) (hM : mw G τ μ H locs) {i1 : Nat} {i2 : Nat} {a3 : Int64} (hl : τ.2 0 0) {r : Int64} {μ2 : mMem} (hMet : Met l y_X_refusalOf w_X_refusalOf r_X_refusalOf (mPc G τ μ [.ref (τ.1 0 0), .ref (τ.1 11 i1), .ref (τ.1 3 i2), .long a3]) (mQ G τ (some (.long r)) μ2) 0 0 (fun q => G.2.2.1 ≤ q)) (hR : r_X_refusalOf.frames + 1 ≤ R.frames ∧ 8 + (5 + 11) + r_X_refusalOf.locals ≤ R.locals) (hf : cells ≤ R.cells ∧ slots ≤ R.slots) (hW : 2 * (F0 m pc ls (.long a3 :: .ref (τ.1 3 i2) :: .ref (τ.1 11 i1) :: .ref (τ.1 0 0) :: rest)).monitorRoom + (rest.map fun v => v.category).sum ≤ 8) (hsz : ls.size = nL) (hdg : decode cc pc = .ok (.invokevirtual 135, 3)) (kk : ∀ (H1 : Heap) (locs1 : List Loc), mw G τ μ2 H1 locs1 → W p l e R s m args below meth c H1 locs1 cells slots Q (F0 m (pc + 3) ls (.long r :: rest))) : W p l e R s m args below meth c H locs cells slots Q (F0 m pc ls (.long a3 :: .ref (τ.1 3 i2) :: .ref (τ.1 11 i1) :: .ref (τ.1 0 0) :: rest)) :=
  mw_call hM (va_runV (As := [.ref (τ.1 11 i1), .ref (τ.1 3 i2), .long a3]) (rest := rest) ⟨hx, hb, hml, hown, hts⟩ hMet ⟨(callB_of 3 hts (gG_self kw_code_X_refusalOf) rfl rfl rfl (hts _ kw_initialized_BuildCounter) (hts _ kw_methodLink_135_X_refusalOf) (by decide +kernel) hR), hts _ kw_instanceMethod_X_refusalOf, hts _ kw_selects_X_refusalOf⟩ ⟨mPc.blind, mw_recv hT hM hl rfl rfl, mPc.pre hT hM⟩ rfl rfl hsz rfl hW hdg hf) kk
theorem q_X_142 (hx : p.tables.exec = Jvm.exec) (hb : c.code = cc) (hml : c.maxLocals = nL) (hown : s.vm.findClass R_X = some m.cls) (hts : ∀ w ∈ gG, w.before args s = true) (hT : mT G s) (hM : mw G τ μ H locs) {a1 : Int32} (hl : τ.2 7 0) {r : Int64} {μ2 : mMem} (hMet : Met l y_C_sum w_C_sum r_C_sum (mPc G τ μ [.ref (τ.1 7 0), .int a1]) (mQ G τ (some (.long r)) μ2) 0 0 (fun q => G.2.2.1 ≤ q)) (hR : r_C_sum.frames + 1 ≤ R.frames ∧ 8 + (2 + 11) + r_C_sum.locals ≤ R.locals) (hf : cells ≤ R.cells ∧ slots ≤ R.slots) (hW : 2 * (F0 m pc ls (.int a1 :: .ref (τ.1 7 0) :: rest)).monitorRoom + (rest.map fun v => v.category).sum ≤ 8) (hsz : ls.size = nL) (hdg : decode cc pc = .ok (.invokevirtual 142, 3)) (kk : ∀ (H1 : Heap) (locs1 : List Loc), mw G τ μ2 H1 locs1 → W p l e R s m args below meth c H1 locs1 cells slots Q (F0 m (pc + 3) ls (.long r :: rest))) : W p l e R s m args below meth c H locs cells slots Q (F0 m pc ls (.int a1 :: .ref (τ.1 7 0) :: rest)) :=
  mw_call hM (va_runV (As := [.int a1]) (rest := rest) ⟨hx, hb, hml, hown, hts⟩ hMet ⟨(callB_of 1 hts (gG_self kw_code_C_sum) rfl rfl rfl (hts _ kw_initialized_Collected) (hts _ kw_methodLink_142_C_sum) (by decide +kernel) hR), hts _ kw_instanceMethod_C_sum, hts _ kw_selects_C_sum⟩ ⟨mPc.blind, mw_recv hT hM hl rfl rfl, mPc.pre hT hM⟩ rfl rfl hsz rfl hW hdg hf) kk
theorem q_X_146 (hx : p.tables.exec = Jvm.exec) (hb : c.code = cc) (hml : c.maxLocals = nL) (hown : s.vm.findClass R_X = some m.cls) (hts : ∀ w ∈ gG, w.before args s = true) (hT : mT G s) (hM : mw G τ μ H locs) {a1 : Int32} (hl : τ.2 7 0) {μ2 : mMem} (hMet : Met l y_C_empty w_C_empty r_C_empty (mPc G τ μ [.ref (τ.1 7 0), .int a1]) (mQ G τ none μ2) 0 0 (fun q => G.2.2.1 ≤ q)) (hR : r_C_empty.frames + 1 ≤ R.frames ∧ 8 + (2 + 11) + r_C_empty.locals ≤ R.locals) (hf : cells ≤ R.cells ∧ slots ≤ R.slots) (hW : 2 * (F0 m pc ls (.int a1 :: .ref (τ.1 7 0) :: rest)).monitorRoom + (rest.map fun v => v.category).sum ≤ 8) (hsz : ls.size = nL) (hdg : decode cc pc = .ok (.invokevirtual 146, 3)) (kk : ∀ (H1 : Heap) (locs1 : List Loc), mw G τ μ2 H1 locs1 → W p l e R s m args below meth c H1 locs1 cells slots Q (F0 m (pc + 3) ls rest)) : W p l e R s m args below meth c H locs cells slots Q (F0 m pc ls (.int a1 :: .ref (τ.1 7 0) :: rest)) :=
  mw_call hM (va_runV (As := [.int a1]) (rest := rest) ⟨hx, hb, hml, hown, hts⟩ hMet ⟨(callB_of 1 hts (gG_self kw_code_C_empty) rfl rfl rfl (hts _ kw_initialized_Collected) (hts _ kw_methodLink_146_C_empty) (by decide +kernel) hR), hts _ kw_instanceMethod_C_empty, hts _ kw_selects_C_empty⟩ ⟨mPc.blind, mw_recv hT hM hl rfl rfl, mPc.pre hT hM⟩ rfl rfl hsz rfl hW hdg hf) kk
theorem q_X_150 (hx : p.tables.exec = Jvm.exec) (hb : c.code = cc) (hml : c.maxLocals = nL) (hown : s.vm.findClass R_X = some m.cls) (hts : ∀ w ∈ gG, w.before args s = true) (hT : mT G s) (hM : mw G τ μ H locs) {i0 : Nat} {a1 : Int32} {a2 : Int32} {a3 : Int64} (hl : τ.2 3 i0) {μ2 : mMem} (hMet : Met l y_B_queue w_B_queue r_B_queue (mPc G τ μ [.ref (τ.1 3 i0), .int a1, .int a2, .long a3]) (mQ G τ none μ2) 0 0 (fun q => G.2.2.1 ≤ q)) (hR : r_B_queue.frames + 1 ≤ R.frames ∧ 8 + (5 + 11) + r_B_queue.locals ≤ R.locals) (hf : cells ≤ R.cells ∧ slots ≤ R.slots) (hW : 2 * (F0 m pc ls (.long a3 :: .int a2 :: .int a1 :: .ref (τ.1 3 i0) :: rest)).monitorRoom + (rest.map fun v => v.category).sum ≤ 8) (hsz : ls.size = nL) (hdg : decode cc pc = .ok (.invokevirtual 150, 3)) (kk : ∀ (H1 : Heap) (locs1 : List Loc), mw G τ μ2 H1 locs1 → W p l e R s m args below meth c H1 locs1 cells slots Q (F0 m (pc + 3) ls rest)) : W p l e R s m args below meth c H locs cells slots Q (F0 m pc ls (.long a3 :: .int a2 :: .int a1 :: .ref (τ.1 3 i0) :: rest)) :=
  mw_call hM (va_runV (As := [.int a1, .int a2, .long a3]) (rest := rest) ⟨hx, hb, hml, hown, hts⟩ hMet ⟨(callB_of 3 hts (gG_self kw_code_B_queue) rfl rfl rfl (hts _ kw_initialized_Build) (hts _ kw_methodLink_150_B_queue) (by decide +kernel) hR), hts _ kw_instanceMethod_B_queue, hts _ kw_selects_B_queue⟩ ⟨mPc.blind, mw_recv hT hM hl rfl rfl, mPc.pre hT hM⟩ rfl rfl hsz rfl hW hdg hf) kk
theorem q_X_156 (hx : p.tables.exec = Jvm.exec) (hb : c.code = cc) (hml : c.maxLocals = nL) (hown : s.vm.findClass R_X = some m.cls) (hts : ∀ w ∈ gG, w.before args s = true) (hT : mT G s) (hM : mw G τ μ H locs) {i0 : Nat} (hl : τ.2 11 i0) {r : Int32} {μ2 : mMem} (hMet : Met l y_P_outcome w_P_outcome r_P_outcome (mPc G τ μ [.ref (τ.1 11 i0)]) (mQ G τ (some (.int r)) μ2) 0 0 (fun q => G.2.2.1 ≤ q)) (hR : r_P_outcome.frames + 1 ≤ R.frames ∧ 8 + (1 + 11) + r_P_outcome.locals ≤ R.locals) (hf : cells ≤ R.cells ∧ slots ≤ R.slots) (hW : 2 * (F0 m pc ls (.ref (τ.1 11 i0) :: rest)).monitorRoom + (rest.map fun v => v.category).sum ≤ 8) (hsz : ls.size = nL) (hdg : decode cc pc = .ok (.invokevirtual 156, 3)) (kk : ∀ (H1 : Heap) (locs1 : List Loc), mw G τ μ2 H1 locs1 → W p l e R s m args below meth c H1 locs1 cells slots Q (F0 m (pc + 3) ls (.int r :: rest))) : W p l e R s m args below meth c H locs cells slots Q (F0 m pc ls (.ref (τ.1 11 i0) :: rest)) :=
  mw_call hM (va_runV (As := []) (rest := rest) ⟨hx, hb, hml, hown, hts⟩ hMet ⟨(callB_of 0 hts (gG_self kw_code_P_outcome) rfl rfl rfl (hts _ kw_initialized_Part) (hts _ kw_methodLink_156_P_outcome) (by decide +kernel) hR), hts _ kw_instanceMethod_P_outcome, hts _ kw_selects_P_outcome⟩ ⟨mPc.blind, mw_recv hT hM hl rfl rfl, mPc.pre hT hM⟩ rfl rfl hsz rfl hW hdg hf) kk
theorem q_X_162 (hx : p.tables.exec = Jvm.exec) (hb : c.code = cc) (hml : c.maxLocals = nL) (hown : s.vm.findClass R_X = some m.cls) (hts : ∀ w ∈ gG, w.before args s = true) (hT : mT G s) (hM : mw G τ μ H locs) {i0 : Nat} {a1 : Int64} (hl : τ.2 11 i0) {r : Int64} {μ2 : mMem} (hMet : Met l y_P_reply w_P_reply r_P_reply (mPc G τ μ [.ref (τ.1 11 i0), .long a1]) (mQ G τ (some (.long r)) μ2) 0 0 (fun q => G.2.2.1 ≤ q)) (hR : r_P_reply.frames + 1 ≤ R.frames ∧ 8 + (5 + 11) + r_P_reply.locals ≤ R.locals) (hf : cells ≤ R.cells ∧ slots ≤ R.slots) (hW : 2 * (F0 m pc ls (.long a1 :: .ref (τ.1 11 i0) :: rest)).monitorRoom + (rest.map fun v => v.category).sum ≤ 8) (hsz : ls.size = nL) (hdg : decode cc pc = .ok (.invokevirtual 162, 3)) (kk : ∀ (H1 : Heap) (locs1 : List Loc), mw G τ μ2 H1 locs1 → W p l e R s m args below meth c H1 locs1 cells slots Q (F0 m (pc + 3) ls (.long r :: rest))) : W p l e R s m args below meth c H locs cells slots Q (F0 m pc ls (.long a1 :: .ref (τ.1 11 i0) :: rest)) :=
  mw_call hM (va_runV (As := [.long a1]) (rest := rest) ⟨hx, hb, hml, hown, hts⟩ hMet ⟨(callB_of 1 hts (gG_self kw_code_P_reply) rfl rfl rfl (hts _ kw_initialized_Part) (hts _ kw_methodLink_162_P_reply) (by decide +kernel) hR), hts _ kw_instanceMethod_P_reply, hts _ kw_selects_P_reply⟩ ⟨mPc.blind, mw_recv hT hM hl rfl rfl, mPc.pre hT hM⟩ rfl rfl hsz rfl hW hdg hf) kk
theorem q_X_166 (hx : p.tables.exec = Jvm.exec) (hb : c.code = cc) (hml : c.maxLocals = nL) (hown : s.vm.findClass R_X = some m.cls) (hts : ∀ w ∈ gG, w.before args s = true) (hT : mT G s) (hM : mw G τ μ H locs) {a1 : Int32} (hl : τ.2 0 0) {o : Option Nat} {μ2 : mMem} (hMet : Met l y_X_houseAt w_X_houseAt r_X_houseAt (mPc G τ μ [.ref (τ.1 0 0), .int a1]) (mQo G τ 2 o μ2) 0 0 (fun q => G.2.2.1 ≤ q)) (hR : r_X_houseAt.frames + 1 ≤ R.frames ∧ 8 + (3 + 11) + r_X_houseAt.locals ≤ R.locals) (hf : cells ≤ R.cells ∧ slots ≤ R.slots) (hW : 2 * (F0 m pc ls (.int a1 :: .ref (τ.1 0 0) :: rest)).monitorRoom + (rest.map fun v => v.category).sum ≤ 8) (hsz : ls.size = nL) (hdg : decode cc pc = .ok (.invokevirtual 166, 3)) (kn : ∀ (H1 : Heap) (locs1 : List Loc), mw G τ μ2 H1 locs1 → o = none → W p l e R s m args below meth c H1 locs1 cells slots Q (F0 m (pc + 3) ls (.null :: rest))) (ks : ∀ (H1 : Heap) (locs1 : List Loc), mw G τ μ2 H1 locs1 → ∀ i : Nat, o = some i → τ.2 2 i → W p l e R s m args below meth c H1 locs1 cells slots Q (F0 m (pc + 3) ls (.ref (τ.1 2 i) :: rest))) : W p l e R s m args below meth c H locs cells slots Q (F0 m pc ls (.int a1 :: .ref (τ.1 0 0) :: rest)) :=
  mw_callo hM (va_runV (As := [.int a1]) (rest := rest) ⟨hx, hb, hml, hown, hts⟩ hMet ⟨(callB_of 1 hts (gG_self kw_code_X_houseAt) rfl rfl rfl (hts _ kw_initialized_BuildCounter) (hts _ kw_methodLink_166_X_houseAt) (by decide +kernel) hR), hts _ kw_instanceMethod_X_houseAt, hts _ kw_selects_X_houseAt⟩ ⟨mPc.blind, mw_recv hT hM hl rfl rfl, mPc.pre hT hM⟩ rfl rfl hsz rfl hW hdg hf) kn ks
theorem q_X_169 (hx : p.tables.exec = Jvm.exec) (hb : c.code = cc) (hml : c.maxLocals = nL) (hown : s.vm.findClass R_X = some m.cls) (hts : ∀ w ∈ gG, w.before args s = true) (hT : mT G s) (hM : mw G τ μ H locs) {i0 : Nat} {a1 : Int32} (hl : τ.2 3 i0) {μ2 : mMem} (hMet : Met l y_B_begin w_B_begin r_B_begin (mPc G τ μ [.ref (τ.1 3 i0), .int a1]) (mQ G τ none μ2) 0 0 (fun q => G.2.2.1 ≤ q)) (hR : r_B_begin.frames + 1 ≤ R.frames ∧ 8 + (2 + 11) + r_B_begin.locals ≤ R.locals) (hf : cells ≤ R.cells ∧ slots ≤ R.slots) (hW : 2 * (F0 m pc ls (.int a1 :: .ref (τ.1 3 i0) :: rest)).monitorRoom + (rest.map fun v => v.category).sum ≤ 8) (hsz : ls.size = nL) (hdg : decode cc pc = .ok (.invokevirtual 169, 3)) (kk : ∀ (H1 : Heap) (locs1 : List Loc), mw G τ μ2 H1 locs1 → W p l e R s m args below meth c H1 locs1 cells slots Q (F0 m (pc + 3) ls rest)) : W p l e R s m args below meth c H locs cells slots Q (F0 m pc ls (.int a1 :: .ref (τ.1 3 i0) :: rest)) :=
  mw_call hM (va_runV (As := [.int a1]) (rest := rest) ⟨hx, hb, hml, hown, hts⟩ hMet ⟨(callB_of 1 hts (gG_self kw_code_B_begin) rfl rfl rfl (hts _ kw_initialized_Build) (hts _ kw_methodLink_169_B_begin) (by decide +kernel) hR), hts _ kw_instanceMethod_B_begin, hts _ kw_selects_B_begin⟩ ⟨mPc.blind, mw_recv hT hM hl rfl rfl, mPc.pre hT hM⟩ rfl rfl hsz rfl hW hdg hf) kk
theorem q_X_171 (hx : p.tables.exec = Jvm.exec) (hb : c.code = cc) (hml : c.maxLocals = nL) (hown : s.vm.findClass R_X = some m.cls) (hts : ∀ w ∈ gG, w.before args s = true) (hT : mT G s) (hM : mw G τ μ H locs) {i0 : Nat} (hl : τ.2 3 i0) {r : Int32} {μ2 : mMem} (hMet : Met l y_B_nextTurn w_B_nextTurn r_B_nextTurn (mPc G τ μ [.ref (τ.1 3 i0)]) (mQ G τ (some (.int r)) μ2) 0 0 (fun q => G.2.2.1 ≤ q)) (hR : r_B_nextTurn.frames + 1 ≤ R.frames ∧ 8 + (1 + 11) + r_B_nextTurn.locals ≤ R.locals) (hf : cells ≤ R.cells ∧ slots ≤ R.slots) (hW : 2 * (F0 m pc ls (.ref (τ.1 3 i0) :: rest)).monitorRoom + (rest.map fun v => v.category).sum ≤ 8) (hsz : ls.size = nL) (hdg : decode cc pc = .ok (.invokevirtual 171, 3)) (kk : ∀ (H1 : Heap) (locs1 : List Loc), mw G τ μ2 H1 locs1 → W p l e R s m args below meth c H1 locs1 cells slots Q (F0 m (pc + 3) ls (.int r :: rest))) : W p l e R s m args below meth c H locs cells slots Q (F0 m pc ls (.ref (τ.1 3 i0) :: rest)) :=
  mw_call hM (va_runV (As := []) (rest := rest) ⟨hx, hb, hml, hown, hts⟩ hMet ⟨(callB_of 0 hts (gG_self kw_code_B_nextTurn) rfl rfl rfl (hts _ kw_initialized_Build) (hts _ kw_methodLink_171_B_nextTurn) (by decide +kernel) hR), hts _ kw_instanceMethod_B_nextTurn, hts _ kw_selects_B_nextTurn⟩ ⟨mPc.blind, mw_recv hT hM hl rfl rfl, mPc.pre hT hM⟩ rfl rfl hsz rfl hW hdg hf) kk
theorem q_X_174 (hx : p.tables.exec = Jvm.exec) (hb : c.code = cc) (hml : c.maxLocals = nL) (hown : s.vm.findClass R_X = some m.cls) (hts : ∀ w ∈ gG, w.before args s = true) (hT : mT G s) (hM : mw G τ μ H locs) {a1 : Int32} (hl : τ.2 0 0) {r : Int32} {μ2 : mMem} (hMet : Met l y_X_leastCallFor w_X_leastCallFor r_X_leastCallFor (mPc G τ μ [.ref (τ.1 0 0), .int a1]) (mQ G τ (some (.int r)) μ2) 0 0 (fun q => G.2.2.1 ≤ q)) (hR : r_X_leastCallFor.frames + 1 ≤ R.frames ∧ 8 + (3 + 11) + r_X_leastCallFor.locals ≤ R.locals) (hf : cells ≤ R.cells ∧ slots ≤ R.slots) (hW : 2 * (F0 m pc ls (.int a1 :: .ref (τ.1 0 0) :: rest)).monitorRoom + (rest.map fun v => v.category).sum ≤ 8) (hsz : ls.size = nL) (hdg : decode cc pc = .ok (.invokevirtual 174, 3)) (kk : ∀ (H1 : Heap) (locs1 : List Loc), mw G τ μ2 H1 locs1 → W p l e R s m args below meth c H1 locs1 cells slots Q (F0 m (pc + 3) ls (.int r :: rest))) : W p l e R s m args below meth c H locs cells slots Q (F0 m pc ls (.int a1 :: .ref (τ.1 0 0) :: rest)) :=
  mw_call hM (va_runV (As := [.int a1]) (rest := rest) ⟨hx, hb, hml, hown, hts⟩ hMet ⟨(callB_of 1 hts (gG_self kw_code_X_leastCallFor) rfl rfl rfl (hts _ kw_initialized_BuildCounter) (hts _ kw_methodLink_174_X_leastCallFor) (by decide +kernel) hR), hts _ kw_instanceMethod_X_leastCallFor, hts _ kw_selects_X_leastCallFor⟩ ⟨mPc.blind, mw_recv hT hM hl rfl rfl, mPc.pre hT hM⟩ rfl rfl hsz rfl hW hdg hf) kk
theorem q_X_177 (hx : p.tables.exec = Jvm.exec) (hb : c.code = cc) (hml : c.maxLocals = nL) (hown : s.vm.findClass R_X = some m.cls) (hts : ∀ w ∈ gG, w.before args s = true) (hT : mT G s) (hM : mw G τ μ H locs) {o1 : Option Nat} {a2 : Int32} {a3 : Int32} {a4 : Int32} {r : Int32} {μ2 : mMem} (hMet : Met l y_X_callInTurn w_X_callInTurn r_X_callInTurn (mPc G τ μ [va_rf (o1.map (τ.1 2)), .int a2, .int a3, .int a4]) (mQ G τ (some (.int r)) μ2) 0 0 (fun q => G.2.2.1 ≤ q)) (hR : r_X_callInTurn.frames + 1 ≤ R.frames ∧ 8 + (4 + 11) + r_X_callInTurn.locals ≤ R.locals) (hf : cells ≤ R.cells ∧ slots ≤ R.slots) (hW : 2 * (F0 m pc ls (.int a4 :: .int a3 :: .int a2 :: va_rf (o1.map (τ.1 2)) :: rest)).monitorRoom + (rest.map fun v => v.category).sum ≤ 8) (hsz : ls.size = nL) (hdg : decode cc pc = .ok (.invokestatic 177, 3)) (kk : ∀ (H1 : Heap) (locs1 : List Loc), mw G τ μ2 H1 locs1 → W p l e R s m args below meth c H1 locs1 cells slots Q (F0 m (pc + 3) ls (.int r :: rest))) : W p l e R s m args below meth c H locs cells slots Q (F0 m pc ls (.int a4 :: .int a3 :: .int a2 :: va_rf (o1.map (τ.1 2)) :: rest)) :=
  mw_call hM (va_runS (As := [va_rf (o1.map (τ.1 2)), .int a2, .int a3, .int a4]) (rest := rest) ⟨hx, hb, hml, hown, hts⟩ hMet ⟨(callB_of 4 hts (gG_self kw_code_X_callInTurn) rfl rfl rfl (hts _ kw_initialized_BuildCounter) (hts _ kw_methodLink_177_X_callInTurn) (by decide +kernel) hR), hts _ kw_static_X_callInTurn⟩ ⟨mPc.blind, mPc.pre hT hM⟩ rfl rfl hsz rfl hW hdg hf) kk
theorem q_X_181 (hx : p.tables.exec = Jvm.exec) (hb : c.code = cc) (hml : c.maxLocals = nL) (hown : s.vm.findClass R_X = some m.cls) (hts : ∀ w ∈ gG, w.before args s = true) (hT : mT G s) (hM : mw G τ μ H locs) {a1 : Int32} {a2 : Int32} {a3 : Int64} (hl : τ.2 0 0) {r : Int32} {μ2 : mMem} (hMet : Met l y_X_goes w_X_goes r_X_goes (mPc G τ μ [.ref (τ.1 0 0), .int a1, .int a2, .long a3]) (mQ G τ (some (.int r)) μ2) 0 0 (fun q => G.2.2.1 ≤ q)) (hR : r_X_goes.frames + 1 ≤ R.frames ∧ 8 + (7 + 11) + r_X_goes.locals ≤ R.locals) (hf : cells ≤ R.cells ∧ slots ≤ R.slots) (hW : 2 * (F0 m pc ls (.long a3 :: .int a2 :: .int a1 :: .ref (τ.1 0 0) :: rest)).monitorRoom + (rest.map fun v => v.category).sum ≤ 8) (hsz : ls.size = nL) (hdg : decode cc pc = .ok (.invokevirtual 181, 3)) (kk : ∀ (H1 : Heap) (locs1 : List Loc), mw G τ μ2 H1 locs1 → W p l e R s m args below meth c H1 locs1 cells slots Q (F0 m (pc + 3) ls (.int r :: rest))) : W p l e R s m args below meth c H locs cells slots Q (F0 m pc ls (.long a3 :: .int a2 :: .int a1 :: .ref (τ.1 0 0) :: rest)) :=
  mw_call hM (va_runV (As := [.int a1, .int a2, .long a3]) (rest := rest) ⟨hx, hb, hml, hown, hts⟩ hMet ⟨(callB_of 3 hts (gG_self kw_code_X_goes) rfl rfl rfl (hts _ kw_initialized_BuildCounter) (hts _ kw_methodLink_181_X_goes) (by decide +kernel) hR), hts _ kw_instanceMethod_X_goes, hts _ kw_selects_X_goes⟩ ⟨mPc.blind, mw_recv hT hM hl rfl rfl, mPc.pre hT hM⟩ rfl rfl hsz rfl hW hdg hf) kk
theorem q_X_185 (hx : p.tables.exec = Jvm.exec) (hb : c.code = cc) (hml : c.maxLocals = nL) (hown : s.vm.findClass R_X = some m.cls) (hts : ∀ w ∈ gG, w.before args s = true) (hT : mT G s) (hM : mw G τ μ H locs) {i1 : Nat} (hl : τ.2 0 0) {μ2 : mMem} (hMet : Met l y_X_letWaitingGo w_X_letWaitingGo r_X_letWaitingGo (mPc G τ μ [.ref (τ.1 0 0), .ref (τ.1 3 i1)]) (mQ G τ none μ2) 0 0 (fun q => G.2.2.1 ≤ q)) (hR : r_X_letWaitingGo.frames + 1 ≤ R.frames ∧ 8 + (3 + 11) + r_X_letWaitingGo.locals ≤ R.locals) (hf : cells ≤ R.cells ∧ slots ≤ R.slots) (hW : 2 * (F0 m pc ls (.ref (τ.1 3 i1) :: .ref (τ.1 0 0) :: rest)).monitorRoom + (rest.map fun v => v.category).sum ≤ 8) (hsz : ls.size = nL) (hdg : decode cc pc = .ok (.invokevirtual 185, 3)) (kk : ∀ (H1 : Heap) (locs1 : List Loc), mw G τ μ2 H1 locs1 → W p l e R s m args below meth c H1 locs1 cells slots Q (F0 m (pc + 3) ls rest)) : W p l e R s m args below meth c H locs cells slots Q (F0 m pc ls (.ref (τ.1 3 i1) :: .ref (τ.1 0 0) :: rest)) :=
  mw_call hM (va_runV (As := [.ref (τ.1 3 i1)]) (rest := rest) ⟨hx, hb, hml, hown, hts⟩ hMet ⟨(callB_of 1 hts (gG_self kw_code_X_letWaitingGo) rfl rfl rfl (hts _ kw_initialized_BuildCounter) (hts _ kw_methodLink_185_X_letWaitingGo) (by decide +kernel) hR), hts _ kw_instanceMethod_X_letWaitingGo, hts _ kw_selects_X_letWaitingGo⟩ ⟨mPc.blind, mw_recv hT hM hl rfl rfl, mPc.pre hT hM⟩ rfl rfl hsz rfl hW hdg hf) kk
theorem q_X_195 (hx : p.tables.exec = Jvm.exec) (hb : c.code = cc) (hml : c.maxLocals = nL) (hown : s.vm.findClass R_X = some m.cls) (hts : ∀ w ∈ gG, w.before args s = true) (hT : mT G s) (hM : mw G τ μ H locs) {a1 : Int32} (hl : τ.2 13 0) {r : Int32} {μ2 : mMem} (hMet : Met l y_O_spotOf w_O_spotOf r_O_spotOf (mPc G τ μ [.ref (τ.1 13 0), .int a1]) (mQ G τ (some (.int r)) μ2) 0 0 (fun q => G.2.2.1 ≤ q)) (hR : r_O_spotOf.frames + 1 ≤ R.frames ∧ 8 + (3 + 11) + r_O_spotOf.locals ≤ R.locals) (hf : cells ≤ R.cells ∧ slots ≤ R.slots) (hW : 2 * (F0 m pc ls (.int a1 :: .ref (τ.1 13 0) :: rest)).monitorRoom + (rest.map fun v => v.category).sum ≤ 8) (hsz : ls.size = nL) (hdg : decode cc pc = .ok (.invokevirtual 195, 3)) (kk : ∀ (H1 : Heap) (locs1 : List Loc), mw G τ μ2 H1 locs1 → W p l e R s m args below meth c H1 locs1 cells slots Q (F0 m (pc + 3) ls (.int r :: rest))) : W p l e R s m args below meth c H locs cells slots Q (F0 m pc ls (.int a1 :: .ref (τ.1 13 0) :: rest)) :=
  mw_call hM (va_runV (As := [.int a1]) (rest := rest) ⟨hx, hb, hml, hown, hts⟩ hMet ⟨(callB_of 1 hts (gG_self kw_code_O_spotOf) rfl rfl rfl (hts _ kw_initialized_Told) (hts _ kw_methodLink_195_O_spotOf) (by decide +kernel) hR), hts _ kw_instanceMethod_O_spotOf, hts _ kw_selects_O_spotOf⟩ ⟨mPc.blind, mw_recv hT hM hl rfl rfl, mPc.pre hT hM⟩ rfl rfl hsz rfl hW hdg hf) kk
theorem q_X_240 (hx : p.tables.exec = Jvm.exec) (hb : c.code = cc) (hml : c.maxLocals = nL) (hown : s.vm.findClass R_X = some m.cls) (hts : ∀ w ∈ gG, w.before args s = true) (hT : mT G s) (hM : mw G τ μ H locs) {i0 : Nat} (hl : τ.2 3 i0) {r : Int32} {μ2 : mMem} (hMet : Met l y_B_isFull w_B_isFull r_B_isFull (mPc G τ μ [.ref (τ.1 3 i0)]) (mQ G τ (some (.int r)) μ2) 0 0 (fun q => G.2.2.1 ≤ q)) (hR : r_B_isFull.frames + 1 ≤ R.frames ∧ 8 + (1 + 11) + r_B_isFull.locals ≤ R.locals) (hf : cells ≤ R.cells ∧ slots ≤ R.slots) (hW : 2 * (F0 m pc ls (.ref (τ.1 3 i0) :: rest)).monitorRoom + (rest.map fun v => v.category).sum ≤ 8) (hsz : ls.size = nL) (hdg : decode cc pc = .ok (.invokevirtual 240, 3)) (kk : ∀ (H1 : Heap) (locs1 : List Loc), mw G τ μ2 H1 locs1 → W p l e R s m args below meth c H1 locs1 cells slots Q (F0 m (pc + 3) ls (.int r :: rest))) : W p l e R s m args below meth c H locs cells slots Q (F0 m pc ls (.ref (τ.1 3 i0) :: rest)) :=
  mw_call hM (va_runV (As := []) (rest := rest) ⟨hx, hb, hml, hown, hts⟩ hMet ⟨(callB_of 0 hts (gG_self kw_code_B_isFull) rfl rfl rfl (hts _ kw_initialized_Build) (hts _ kw_methodLink_240_B_isFull) (by decide +kernel) hR), hts _ kw_instanceMethod_B_isFull, hts _ kw_selects_B_isFull⟩ ⟨mPc.blind, mw_recv hT hM hl rfl rfl, mPc.pre hT hM⟩ rfl rfl hsz rfl hW hdg hf) kk
theorem q_X_244 (hx : p.tables.exec = Jvm.exec) (hb : c.code = cc) (hml : c.maxLocals = nL) (hown : s.vm.findClass R_X = some m.cls) (hts : ∀ w ∈ gG, w.before args s = true) (hT : mT G s) (hM : mw G τ μ H locs) {a1 : Int32} {a2 : Int32} {a3 : Int32} {a4 : Int64} (hl : τ.2 13 0) {μ2 : mMem} (hMet : Met l y_O_add w_O_add r_O_add (mPc G τ μ [.ref (τ.1 13 0), .int a1, .int a2, .int a3, .long a4]) (mQ G τ none μ2) 0 0 (fun q => G.2.2.1 ≤ q)) (hR : r_O_add.frames + 1 ≤ R.frames ∧ 8 + (6 + 11) + r_O_add.locals ≤ R.locals) (hf : cells ≤ R.cells ∧ slots ≤ R.slots) (hW : 2 * (F0 m pc ls (.long a4 :: .int a3 :: .int a2 :: .int a1 :: .ref (τ.1 13 0) :: rest)).monitorRoom + (rest.map fun v => v.category).sum ≤ 8) (hsz : ls.size = nL) (hdg : decode cc pc = .ok (.invokevirtual 244, 3)) (kk : ∀ (H1 : Heap) (locs1 : List Loc), mw G τ μ2 H1 locs1 → W p l e R s m args below meth c H1 locs1 cells slots Q (F0 m (pc + 3) ls rest)) : W p l e R s m args below meth c H locs cells slots Q (F0 m pc ls (.long a4 :: .int a3 :: .int a2 :: .int a1 :: .ref (τ.1 13 0) :: rest)) :=
  mw_call hM (va_runV (As := [.int a1, .int a2, .int a3, .long a4]) (rest := rest) ⟨hx, hb, hml, hown, hts⟩ hMet ⟨(callB_of 4 hts (gG_self kw_code_O_add) rfl rfl rfl (hts _ kw_initialized_Told) (hts _ kw_methodLink_244_O_add) (by decide +kernel) hR), hts _ kw_instanceMethod_O_add, hts _ kw_selects_O_add⟩ ⟨mPc.blind, mw_recv hT hM hl rfl rfl, mPc.pre hT hM⟩ rfl rfl hsz rfl hW hdg hf) kk
theorem q_B_32 (hx : p.tables.exec = Jvm.exec) (hb : c.code = cc) (hml : c.maxLocals = nL) (hown : s.vm.findClass R_B = some m.cls) (hts : ∀ w ∈ gG, w.before args s = true) (hT : mT G s) (hM : mw G τ μ H locs) {i0 : Nat} (hl : τ.2 3 i0) {r : Int32} {μ2 : mMem} (hMet : Met l y_B_isFull w_B_isFull r_B_isFull (mPc G τ μ [.ref (τ.1 3 i0)]) (mQ G τ (some (.int r)) μ2) 0 0 (fun q => G.2.2.1 ≤ q)) (hR : r_B_isFull.frames + 1 ≤ R.frames ∧ 8 + (1 + 11) + r_B_isFull.locals ≤ R.locals) (hf : cells ≤ R.cells ∧ slots ≤ R.slots) (hW : 2 * (F0 m pc ls (.ref (τ.1 3 i0) :: rest)).monitorRoom + (rest.map fun v => v.category).sum ≤ 8) (hsz : ls.size = nL) (hdg : decode cc pc = .ok (.invokevirtual 32, 3)) (kk : ∀ (H1 : Heap) (locs1 : List Loc), mw G τ μ2 H1 locs1 → W p l e R s m args below meth c H1 locs1 cells slots Q (F0 m (pc + 3) ls (.int r :: rest))) : W p l e R s m args below meth c H locs cells slots Q (F0 m pc ls (.ref (τ.1 3 i0) :: rest)) :=
  mw_call hM (va_runV (As := []) (rest := rest) ⟨hx, hb, hml, hown, hts⟩ hMet ⟨(callB_of 0 hts (gG_self kw_code_B_isFull) rfl rfl rfl (hts _ kw_initialized_Build) (hts _ kw_methodLink_Build_32_B_isFull) (by decide +kernel) hR), hts _ kw_instanceMethod_B_isFull, hts _ kw_selects_B_isFull⟩ ⟨mPc.blind, mw_recv hT hM hl rfl rfl, mPc.pre hT hM⟩ rfl rfl hsz rfl hW hdg hf) kk
theorem q_C_22 (hx : p.tables.exec = Jvm.exec) (hb : c.code = cc) (hml : c.maxLocals = nL) (hown : s.vm.findClass R_C = some m.cls) (hts : ∀ w ∈ gG, w.before args s = true) (hT : mT G s) (hM : mw G τ μ H locs) {a1 : Int32} {r : Int32} {μ2 : mMem} (hMet : Met l y_X_isSort w_X_isSort r_X_isSort (mPc G τ μ [.int a1]) (mQ G τ (some (.int r)) μ2) 0 0 (fun q => G.2.2.1 ≤ q)) (hR : r_X_isSort.frames + 1 ≤ R.frames ∧ 8 + (1 + 11) + r_X_isSort.locals ≤ R.locals) (hf : cells ≤ R.cells ∧ slots ≤ R.slots) (hW : 2 * (F0 m pc ls (.int a1 :: rest)).monitorRoom + (rest.map fun v => v.category).sum ≤ 8) (hsz : ls.size = nL) (hdg : decode cc pc = .ok (.invokestatic 22, 3)) (kk : ∀ (H1 : Heap) (locs1 : List Loc), mw G τ μ2 H1 locs1 → W p l e R s m args below meth c H1 locs1 cells slots Q (F0 m (pc + 3) ls (.int r :: rest))) : W p l e R s m args below meth c H locs cells slots Q (F0 m pc ls (.int a1 :: rest)) :=
  mw_call hM (va_runSN (As := [.int a1]) (rest := rest) ⟨hx, hb, hml, hown, hts⟩ hMet ⟨(va_cnB 1 hts (gG_self kw_code_X_isSort) rfl rfl rfl (hT.2.2.1 _ kn5) (hts _ kw_initialized_BuildCounter) (by decide +kernel) hR), hts _ kw_static_X_isSort, trivial⟩ ⟨mPc.blind, mPc.pre hT hM⟩ rfl rfl hsz rfl hW hdg hf) kk
theorem q_O_32 (hx : p.tables.exec = Jvm.exec) (hb : c.code = cc) (hml : c.maxLocals = nL) (hown : s.vm.findClass R_O = some m.cls) (hts : ∀ w ∈ gG, w.before args s = true) (hT : mT G s) (hM : mw G τ μ H locs) {a1 : Int32} (hl : τ.2 13 0) {μ2 : mMem} (hMet : Met l y_O_addToCounts w_O_addToCounts r_O_addToCounts (mPc G τ μ [.ref (τ.1 13 0), .int a1]) (mQ G τ none μ2) 0 0 (fun q => G.2.2.1 ≤ q)) (hR : r_O_addToCounts.frames + 1 ≤ R.frames ∧ 8 + (2 + 11) + r_O_addToCounts.locals ≤ R.locals) (hf : cells ≤ R.cells ∧ slots ≤ R.slots) (hW : 2 * (F0 m pc ls (.int a1 :: .ref (τ.1 13 0) :: rest)).monitorRoom + (rest.map fun v => v.category).sum ≤ 8) (hsz : ls.size = nL) (hdg : decode cc pc = .ok (.invokevirtual 32, 3)) (kk : ∀ (H1 : Heap) (locs1 : List Loc), mw G τ μ2 H1 locs1 → W p l e R s m args below meth c H1 locs1 cells slots Q (F0 m (pc + 3) ls rest)) : W p l e R s m args below meth c H locs cells slots Q (F0 m pc ls (.int a1 :: .ref (τ.1 13 0) :: rest)) :=
  mw_call hM (va_runV (As := [.int a1]) (rest := rest) ⟨hx, hb, hml, hown, hts⟩ hMet ⟨(callB_of 1 hts (gG_self kw_code_O_addToCounts) rfl rfl rfl (hts _ kw_initialized_Told) (hts _ kw_methodLink_Told_32_O_addToCounts) (by decide +kernel) hR), hts _ kw_instanceMethod_O_addToCounts, hts _ kw_selects_O_addToCounts⟩ ⟨mPc.blind, mw_recv hT hM hl rfl rfl, mPc.pre hT hM⟩ rfl rfl hsz rfl hW hdg hf) kk
theorem q_M_97 (hx : p.tables.exec = Jvm.exec) (hb : c.code = cc) (hml : c.maxLocals = nL) (hown : s.vm.findClass R_M = some m.cls) (hts : ∀ w ∈ gG, w.before args s = true) (hT : mT G s) (hM : mw G τ μ H locs) {a1 : Int32} (hl : τ.2 20 0) {r : Int32} {μ2 : mMem} (hMet : Met l y_M_isThing w_M_isThing r_M_isThing (mPc G τ μ [.ref (τ.1 20 0), .int a1]) (mQ G τ (some (.int r)) μ2) 0 0 (fun q => G.2.2.1 ≤ q)) (hR : r_M_isThing.frames + 1 ≤ R.frames ∧ 8 + (2 + 11) + r_M_isThing.locals ≤ R.locals) (hf : cells ≤ R.cells ∧ slots ≤ R.slots) (hW : 2 * (F0 m pc ls (.int a1 :: .ref (τ.1 20 0) :: rest)).monitorRoom + (rest.map fun v => v.category).sum ≤ 8) (hsz : ls.size = nL) (hdg : decode cc pc = .ok (.invokevirtual 97, 3)) (kk : ∀ (H1 : Heap) (locs1 : List Loc), mw G τ μ2 H1 locs1 → W p l e R s m args below meth c H1 locs1 cells slots Q (F0 m (pc + 3) ls (.int r :: rest))) : W p l e R s m args below meth c H locs cells slots Q (F0 m pc ls (.int a1 :: .ref (τ.1 20 0) :: rest)) :=
  mw_call hM (va_runV (As := [.int a1]) (rest := rest) ⟨hx, hb, hml, hown, hts⟩ hMet ⟨(callB_of 1 hts (gG_self kw_code_M_isThing) rfl rfl rfl (hts _ kw_initialized_M) (hts _ kw_methodLink_M_97_M_isThing) (by decide +kernel) hR), hts _ kw_instanceMethod_M_isThing, hts _ kw_selects_M_isThing⟩ ⟨mPc.blind, mw_recv hT hM hl rfl rfl, mPc.pre hT hM⟩ rfl rfl hsz rfl hW hdg hf) kk
theorem q_M_101 (hx : p.tables.exec = Jvm.exec) (hb : c.code = cc) (hml : c.maxLocals = nL) (hown : s.vm.findClass R_M = some m.cls) (hts : ∀ w ∈ gG, w.before args s = true) (hT : mT G s) (hM : mw G τ μ H locs) {a1 : Int32} {r : Int32} {μ2 : mMem} (hMet : Met l y_M_liesIn w_M_liesIn r_M_liesIn (mPc G τ μ [.int a1]) (mQ G τ (some (.int r)) μ2) 0 0 (fun q => G.2.2.1 ≤ q)) (hR : r_M_liesIn.frames + 1 ≤ R.frames ∧ 8 + (1 + 11) + r_M_liesIn.locals ≤ R.locals) (hf : cells ≤ R.cells ∧ slots ≤ R.slots) (hW : 2 * (F0 m pc ls (.int a1 :: rest)).monitorRoom + (rest.map fun v => v.category).sum ≤ 8) (hsz : ls.size = nL) (hdg : decode cc pc = .ok (.invokestatic 101, 3)) (kk : ∀ (H1 : Heap) (locs1 : List Loc), mw G τ μ2 H1 locs1 → W p l e R s m args below meth c H1 locs1 cells slots Q (F0 m (pc + 3) ls (.int r :: rest))) : W p l e R s m args below meth c H locs cells slots Q (F0 m pc ls (.int a1 :: rest)) :=
  mw_call hM (va_runS (As := [.int a1]) (rest := rest) ⟨hx, hb, hml, hown, hts⟩ hMet ⟨(callB_of 1 hts (gG_self kw_code_M_liesIn) rfl rfl rfl (hts _ kw_initialized_M) (hts _ kw_methodLink_M_101_M_liesIn) (by decide +kernel) hR), hts _ kw_static_M_liesIn⟩ ⟨mPc.blind, mPc.pre hT hM⟩ rfl rfl hsz rfl hW hdg hf) kk
theorem q_M_105 (hx : p.tables.exec = Jvm.exec) (hb : c.code = cc) (hml : c.maxLocals = nL) (hown : s.vm.findClass R_M = some m.cls) (hts : ∀ w ∈ gG, w.before args s = true) (hT : mT G s) (hM : mw G τ μ H locs) {a1 : Int32} {r : Int32} {μ2 : mMem} (hMet : Met l y_M_isSort w_M_isSort r_M_isSort (mPc G τ μ [.int a1]) (mQ G τ (some (.int r)) μ2) 0 0 (fun q => G.2.2.1 ≤ q)) (hR : r_M_isSort.frames + 1 ≤ R.frames ∧ 8 + (1 + 11) + r_M_isSort.locals ≤ R.locals) (hf : cells ≤ R.cells ∧ slots ≤ R.slots) (hW : 2 * (F0 m pc ls (.int a1 :: rest)).monitorRoom + (rest.map fun v => v.category).sum ≤ 8) (hsz : ls.size = nL) (hdg : decode cc pc = .ok (.invokestatic 105, 3)) (kk : ∀ (H1 : Heap) (locs1 : List Loc), mw G τ μ2 H1 locs1 → W p l e R s m args below meth c H1 locs1 cells slots Q (F0 m (pc + 3) ls (.int r :: rest))) : W p l e R s m args below meth c H locs cells slots Q (F0 m pc ls (.int a1 :: rest)) :=
  mw_call hM (va_runS (As := [.int a1]) (rest := rest) ⟨hx, hb, hml, hown, hts⟩ hMet ⟨(callB_of 1 hts (gG_self kw_code_M_isSort) rfl rfl rfl (hts _ kw_initialized_M) (hts _ kw_methodLink_M_105_M_isSort) (by decide +kernel) hR), hts _ kw_static_M_isSort⟩ ⟨mPc.blind, mPc.pre hT hM⟩ rfl rfl hsz rfl hW hdg hf) kk
theorem q_M_110 (hx : p.tables.exec = Jvm.exec) (hb : c.code = cc) (hml : c.maxLocals = nL) (hown : s.vm.findClass R_M = some m.cls) (hts : ∀ w ∈ gG, w.before args s = true) (hT : mT G s) (hM : mw G τ μ H locs) {a1 : Int32} (hl : τ.2 20 0) {r : Int32} {μ2 : mMem} (hMet : Met l y_M_isDefined w_M_isDefined r_M_isDefined (mPc G τ μ [.ref (τ.1 20 0), .int a1]) (mQ G τ (some (.int r)) μ2) 0 0 (fun q => G.2.2.1 ≤ q)) (hR : r_M_isDefined.frames + 1 ≤ R.frames ∧ 8 + (2 + 11) + r_M_isDefined.locals ≤ R.locals) (hf : cells ≤ R.cells ∧ slots ≤ R.slots) (hW : 2 * (F0 m pc ls (.int a1 :: .ref (τ.1 20 0) :: rest)).monitorRoom + (rest.map fun v => v.category).sum ≤ 8) (hsz : ls.size = nL) (hdg : decode cc pc = .ok (.invokevirtual 110, 3)) (kk : ∀ (H1 : Heap) (locs1 : List Loc), mw G τ μ2 H1 locs1 → W p l e R s m args below meth c H1 locs1 cells slots Q (F0 m (pc + 3) ls (.int r :: rest))) : W p l e R s m args below meth c H locs cells slots Q (F0 m pc ls (.int a1 :: .ref (τ.1 20 0) :: rest)) :=
  mw_call hM (va_runV (As := [.int a1]) (rest := rest) ⟨hx, hb, hml, hown, hts⟩ hMet ⟨(callB_of 1 hts (gG_self kw_code_M_isDefined) rfl rfl rfl (hts _ kw_initialized_M) (hts _ kw_methodLink_M_110_M_isDefined) (by decide +kernel) hR), hts _ kw_instanceMethod_M_isDefined, hts _ kw_selects_M_isDefined⟩ ⟨mPc.blind, mw_recv hT hM hl rfl rfl, mPc.pre hT hM⟩ rfl rfl hsz rfl hW hdg hf) kk
theorem q_M_120 (hx : p.tables.exec = Jvm.exec) (hb : c.code = cc) (hml : c.maxLocals = nL) (hown : s.vm.findClass R_M = some m.cls) (hts : ∀ w ∈ gG, w.before args s = true) (hT : mT G s) (hM : mw G τ μ H locs) {a1 : Int32} {a2 : Int32} {a3 : Int64} (hl : τ.2 20 0) {r : Int32} {μ2 : mMem} (hMet : Met l y_M_refusal w_M_refusal r_M_refusal (mPc G τ μ [.ref (τ.1 20 0), .int a1, .int a2, .long a3]) (mQ G τ (some (.int r)) μ2) 0 0 (fun q => G.2.2.1 ≤ q)) (hR : r_M_refusal.frames + 1 ≤ R.frames ∧ 8 + (6 + 11) + r_M_refusal.locals ≤ R.locals) (hf : cells ≤ R.cells ∧ slots ≤ R.slots) (hW : 2 * (F0 m pc ls (.long a3 :: .int a2 :: .int a1 :: .ref (τ.1 20 0) :: rest)).monitorRoom + (rest.map fun v => v.category).sum ≤ 8) (hsz : ls.size = nL) (hdg : decode cc pc = .ok (.invokevirtual 120, 3)) (kk : ∀ (H1 : Heap) (locs1 : List Loc), mw G τ μ2 H1 locs1 → W p l e R s m args below meth c H1 locs1 cells slots Q (F0 m (pc + 3) ls (.int r :: rest))) : W p l e R s m args below meth c H locs cells slots Q (F0 m pc ls (.long a3 :: .int a2 :: .int a1 :: .ref (τ.1 20 0) :: rest)) :=
  mw_call hM (va_runV (As := [.int a1, .int a2, .long a3]) (rest := rest) ⟨hx, hb, hml, hown, hts⟩ hMet ⟨(callB_of 3 hts (gG_self kw_code_M_refusal) rfl rfl rfl (hts _ kw_initialized_M) (hts _ kw_methodLink_M_120_M_refusal) (by decide +kernel) hR), hts _ kw_instanceMethod_M_refusal, hts _ kw_selects_M_refusal⟩ ⟨mPc.blind, mw_recv hT hM hl rfl rfl, mPc.pre hT hM⟩ rfl rfl hsz rfl hW hdg hf) kk
theorem q_M_124 (hx : p.tables.exec = Jvm.exec) (hb : c.code = cc) (hml : c.maxLocals = nL) (hown : s.vm.findClass R_M = some m.cls) (hts : ∀ w ∈ gG, w.before args s = true) (hT : mT G s) (hM : mw G τ μ H locs) {a1 : Int32} {a2 : Int32} {a3 : Int32} {a4 : Int64} (hl : τ.2 20 0) {μ2 : mMem} (hMet : Met l y_M_tell w_M_tell r_M_tell (mPc G τ μ [.ref (τ.1 20 0), .int a1, .int a2, .int a3, .long a4]) (mQ G τ none μ2) 0 0 (fun q => G.2.2.1 ≤ q)) (hR : r_M_tell.frames + 1 ≤ R.frames ∧ 8 + (8 + 11) + r_M_tell.locals ≤ R.locals) (hf : cells ≤ R.cells ∧ slots ≤ R.slots) (hW : 2 * (F0 m pc ls (.long a4 :: .int a3 :: .int a2 :: .int a1 :: .ref (τ.1 20 0) :: rest)).monitorRoom + (rest.map fun v => v.category).sum ≤ 8) (hsz : ls.size = nL) (hdg : decode cc pc = .ok (.invokevirtual 124, 3)) (kk : ∀ (H1 : Heap) (locs1 : List Loc), mw G τ μ2 H1 locs1 → W p l e R s m args below meth c H1 locs1 cells slots Q (F0 m (pc + 3) ls rest)) : W p l e R s m args below meth c H locs cells slots Q (F0 m pc ls (.long a4 :: .int a3 :: .int a2 :: .int a1 :: .ref (τ.1 20 0) :: rest)) :=
  mw_call hM (va_runV (As := [.int a1, .int a2, .int a3, .long a4]) (rest := rest) ⟨hx, hb, hml, hown, hts⟩ hMet ⟨(callB_of 4 hts (gG_self kw_code_M_tell) rfl rfl rfl (hts _ kw_initialized_M) (hts _ kw_methodLink_M_124_M_tell) (by decide +kernel) hR), hts _ kw_instanceMethod_M_tell, hts _ kw_selects_M_tell⟩ ⟨mPc.blind, mw_recv hT hM hl rfl rfl, mPc.pre hT hM⟩ rfl rfl hsz rfl hW hdg hf) kk
theorem q_M_128 (hx : p.tables.exec = Jvm.exec) (hb : c.code = cc) (hml : c.maxLocals = nL) (hown : s.vm.findClass R_M = some m.cls) (hts : ∀ w ∈ gG, w.before args s = true) (hT : mT G s) (hM : mw G τ μ H locs) {a1 : Int32} (hl : τ.2 20 0) {r : Int64} {μ2 : mMem} (hMet : Met l y_M_sumOf w_M_sumOf r_M_sumOf (mPc G τ μ [.ref (τ.1 20 0), .int a1]) (mQ G τ (some (.long r)) μ2) 0 0 (fun q => G.2.2.1 ≤ q)) (hR : r_M_sumOf.frames + 1 ≤ R.frames ∧ 8 + (5 + 11) + r_M_sumOf.locals ≤ R.locals) (hf : cells ≤ R.cells ∧ slots ≤ R.slots) (hW : 2 * (F0 m pc ls (.int a1 :: .ref (τ.1 20 0) :: rest)).monitorRoom + (rest.map fun v => v.category).sum ≤ 8) (hsz : ls.size = nL) (hdg : decode cc pc = .ok (.invokevirtual 128, 3)) (kk : ∀ (H1 : Heap) (locs1 : List Loc), mw G τ μ2 H1 locs1 → W p l e R s m args below meth c H1 locs1 cells slots Q (F0 m (pc + 3) ls (.long r :: rest))) : W p l e R s m args below meth c H locs cells slots Q (F0 m pc ls (.int a1 :: .ref (τ.1 20 0) :: rest)) :=
  mw_call hM (va_runV (As := [.int a1]) (rest := rest) ⟨hx, hb, hml, hown, hts⟩ hMet ⟨(callB_of 1 hts (gG_self kw_code_M_sumOf) rfl rfl rfl (hts _ kw_initialized_M) (hts _ kw_methodLink_M_128_M_sumOf) (by decide +kernel) hR), hts _ kw_instanceMethod_M_sumOf, hts _ kw_selects_M_sumOf⟩ ⟨mPc.blind, mw_recv hT hM hl rfl rfl, mPc.pre hT hM⟩ rfl rfl hsz rfl hW hdg hf) kk
theorem q_M_134 (hx : p.tables.exec = Jvm.exec) (hb : c.code = cc) (hml : c.maxLocals = nL) (hown : s.vm.findClass R_M = some m.cls) (hts : ∀ w ∈ gG, w.before args s = true) (hT : mT G s) (hM : mw G τ μ H locs) {a1 : Int32} {a2 : Int64} (hl : τ.2 20 0) {μ2 : mMem} (hMet : Met l y_M_go w_M_go r_M_go (mPc G τ μ [.ref (τ.1 20 0), .int a1, .long a2]) (mQ G τ none μ2) 0 0 (fun q => G.2.2.1 ≤ q)) (hR : r_M_go.frames + 1 ≤ R.frames ∧ 8 + (4 + 11) + r_M_go.locals ≤ R.locals) (hf : cells ≤ R.cells ∧ slots ≤ R.slots) (hW : 2 * (F0 m pc ls (.long a2 :: .int a1 :: .ref (τ.1 20 0) :: rest)).monitorRoom + (rest.map fun v => v.category).sum ≤ 8) (hsz : ls.size = nL) (hdg : decode cc pc = .ok (.invokevirtual 134, 3)) (kk : ∀ (H1 : Heap) (locs1 : List Loc), mw G τ μ2 H1 locs1 → W p l e R s m args below meth c H1 locs1 cells slots Q (F0 m (pc + 3) ls rest)) : W p l e R s m args below meth c H locs cells slots Q (F0 m pc ls (.long a2 :: .int a1 :: .ref (τ.1 20 0) :: rest)) :=
  mw_call hM (va_runV (As := [.int a1, .long a2]) (rest := rest) ⟨hx, hb, hml, hown, hts⟩ hMet ⟨(callB_of 2 hts (gG_self kw_code_M_go) rfl rfl rfl (hts _ kw_initialized_M) (hts _ kw_methodLink_M_134_M_go) (by decide +kernel) hR), hts _ kw_instanceMethod_M_go, hts _ kw_selects_M_go⟩ ⟨mPc.blind, mw_recv hT hM hl rfl rfl, mPc.pre hT hM⟩ rfl rfl hsz rfl hW hdg hf) kk
theorem q_M_140 (hx : p.tables.exec = Jvm.exec) (hb : c.code = cc) (hml : c.maxLocals = nL) (hown : s.vm.findClass R_M = some m.cls) (hts : ∀ w ∈ gG, w.before args s = true) (hT : mT G s) (hM : mw G τ μ H locs) {a1 : Int32} (hl : τ.2 20 0) {r : Int32} {μ2 : mMem} (hMet : Met l y_M_isHouse w_M_isHouse r_M_isHouse (mPc G τ μ [.ref (τ.1 20 0), .int a1]) (mQ G τ (some (.int r)) μ2) 0 0 (fun q => G.2.2.1 ≤ q)) (hR : r_M_isHouse.frames + 1 ≤ R.frames ∧ 8 + (2 + 11) + r_M_isHouse.locals ≤ R.locals) (hf : cells ≤ R.cells ∧ slots ≤ R.slots) (hW : 2 * (F0 m pc ls (.int a1 :: .ref (τ.1 20 0) :: rest)).monitorRoom + (rest.map fun v => v.category).sum ≤ 8) (hsz : ls.size = nL) (hdg : decode cc pc = .ok (.invokevirtual 140, 3)) (kk : ∀ (H1 : Heap) (locs1 : List Loc), mw G τ μ2 H1 locs1 → W p l e R s m args below meth c H1 locs1 cells slots Q (F0 m (pc + 3) ls (.int r :: rest))) : W p l e R s m args below meth c H locs cells slots Q (F0 m pc ls (.int a1 :: .ref (τ.1 20 0) :: rest)) :=
  mw_call hM (va_runV (As := [.int a1]) (rest := rest) ⟨hx, hb, hml, hown, hts⟩ hMet ⟨(callB_of 1 hts (gG_self kw_code_M_isHouse) rfl rfl rfl (hts _ kw_initialized_M) (hts _ kw_methodLink_M_140_M_isHouse) (by decide +kernel) hR), hts _ kw_instanceMethod_M_isHouse, hts _ kw_selects_M_isHouse⟩ ⟨mPc.blind, mw_recv hT hM hl rfl rfl, mPc.pre hT hM⟩ rfl rfl hsz rfl hW hdg hf) kk
theorem q_M_143 (hx : p.tables.exec = Jvm.exec) (hb : c.code = cc) (hml : c.maxLocals = nL) (hown : s.vm.findClass R_M = some m.cls) (hts : ∀ w ∈ gG, w.before args s = true) (hT : mT G s) (hM : mw G τ μ H locs) {a1 : Int32} (hl : τ.2 20 0) {r : Int32} {μ2 : mMem} (hMet : Met l y_M_leastFor w_M_leastFor r_M_leastFor (mPc G τ μ [.ref (τ.1 20 0), .int a1]) (mQ G τ (some (.int r)) μ2) 0 0 (fun q => G.2.2.1 ≤ q)) (hR : r_M_leastFor.frames + 1 ≤ R.frames ∧ 8 + (3 + 11) + r_M_leastFor.locals ≤ R.locals) (hf : cells ≤ R.cells ∧ slots ≤ R.slots) (hW : 2 * (F0 m pc ls (.int a1 :: .ref (τ.1 20 0) :: rest)).monitorRoom + (rest.map fun v => v.category).sum ≤ 8) (hsz : ls.size = nL) (hdg : decode cc pc = .ok (.invokevirtual 143, 3)) (kk : ∀ (H1 : Heap) (locs1 : List Loc), mw G τ μ2 H1 locs1 → W p l e R s m args below meth c H1 locs1 cells slots Q (F0 m (pc + 3) ls (.int r :: rest))) : W p l e R s m args below meth c H locs cells slots Q (F0 m pc ls (.int a1 :: .ref (τ.1 20 0) :: rest)) :=
  mw_call hM (va_runV (As := [.int a1]) (rest := rest) ⟨hx, hb, hml, hown, hts⟩ hMet ⟨(callB_of 1 hts (gG_self kw_code_M_leastFor) rfl rfl rfl (hts _ kw_initialized_M) (hts _ kw_methodLink_M_143_M_leastFor) (by decide +kernel) hR), hts _ kw_instanceMethod_M_leastFor, hts _ kw_selects_M_leastFor⟩ ⟨mPc.blind, mw_recv hT hM hl rfl rfl, mPc.pre hT hM⟩ rfl rfl hsz rfl hW hdg hf) kk
theorem q_M_146 (hx : p.tables.exec = Jvm.exec) (hb : c.code = cc) (hml : c.maxLocals = nL) (hown : s.vm.findClass R_M = some m.cls) (hts : ∀ w ∈ gG, w.before args s = true) (hT : mT G s) (hM : mw G τ μ H locs) {a1 : Int32} (hl : τ.2 20 0) {r : Int32} {μ2 : mMem} (hMet : Met l y_M_isTold w_M_isTold r_M_isTold (mPc G τ μ [.ref (τ.1 20 0), .int a1]) (mQ G τ (some (.int r)) μ2) 0 0 (fun q => G.2.2.1 ≤ q)) (hR : r_M_isTold.frames + 1 ≤ R.frames ∧ 8 + (2 + 11) + r_M_isTold.locals ≤ R.locals) (hf : cells ≤ R.cells ∧ slots ≤ R.slots) (hW : 2 * (F0 m pc ls (.int a1 :: .ref (τ.1 20 0) :: rest)).monitorRoom + (rest.map fun v => v.category).sum ≤ 8) (hsz : ls.size = nL) (hdg : decode cc pc = .ok (.invokevirtual 146, 3)) (kk : ∀ (H1 : Heap) (locs1 : List Loc), mw G τ μ2 H1 locs1 → W p l e R s m args below meth c H1 locs1 cells slots Q (F0 m (pc + 3) ls (.int r :: rest))) : W p l e R s m args below meth c H locs cells slots Q (F0 m pc ls (.int a1 :: .ref (τ.1 20 0) :: rest)) :=
  mw_call hM (va_runV (As := [.int a1]) (rest := rest) ⟨hx, hb, hml, hown, hts⟩ hMet ⟨(callB_of 1 hts (gG_self kw_code_M_isTold) rfl rfl rfl (hts _ kw_initialized_M) (hts _ kw_methodLink_M_146_M_isTold) (by decide +kernel) hR), hts _ kw_instanceMethod_M_isTold, hts _ kw_selects_M_isTold⟩ ⟨mPc.blind, mw_recv hT hM hl rfl rfl, mPc.pre hT hM⟩ rfl rfl hsz rfl hW hdg hf) kk
theorem q_M_149 (hx : p.tables.exec = Jvm.exec) (hb : c.code = cc) (hml : c.maxLocals = nL) (hown : s.vm.findClass R_M = some m.cls) (hts : ∀ w ∈ gG, w.before args s = true) (hT : mT G s) (hM : mw G τ μ H locs) {a1 : Int32} (hl : τ.2 20 0) {r : Int32} {μ2 : mMem} (hMet : Met l y_M_placeOf w_M_placeOf r_M_placeOf (mPc G τ μ [.ref (τ.1 20 0), .int a1]) (mQ G τ (some (.int r)) μ2) 0 0 (fun q => G.2.2.1 ≤ q)) (hR : r_M_placeOf.frames + 1 ≤ R.frames ∧ 8 + (2 + 11) + r_M_placeOf.locals ≤ R.locals) (hf : cells ≤ R.cells ∧ slots ≤ R.slots) (hW : 2 * (F0 m pc ls (.int a1 :: .ref (τ.1 20 0) :: rest)).monitorRoom + (rest.map fun v => v.category).sum ≤ 8) (hsz : ls.size = nL) (hdg : decode cc pc = .ok (.invokevirtual 149, 3)) (kk : ∀ (H1 : Heap) (locs1 : List Loc), mw G τ μ2 H1 locs1 → W p l e R s m args below meth c H1 locs1 cells slots Q (F0 m (pc + 3) ls (.int r :: rest))) : W p l e R s m args below meth c H locs cells slots Q (F0 m pc ls (.int a1 :: .ref (τ.1 20 0) :: rest)) :=
  mw_call hM (va_runV (As := [.int a1]) (rest := rest) ⟨hx, hb, hml, hown, hts⟩ hMet ⟨(callB_of 1 hts (gG_self kw_code_M_placeOf) rfl rfl rfl (hts _ kw_initialized_M) (hts _ kw_methodLink_M_149_M_placeOf) (by decide +kernel) hR), hts _ kw_instanceMethod_M_placeOf, hts _ kw_selects_M_placeOf⟩ ⟨mPc.blind, mw_recv hT hM hl rfl rfl, mPc.pre hT hM⟩ rfl rfl hsz rfl hW hdg hf) kk
end CALLS
