def m_X3_isSame_93 (a_H : Nat → Int32) (b_H : Nat → Int32) : Nat → Int32 → Option (Int32)
  | 0, _ => none
  | fn + 1, x2 =>
    if (nI 12) ≤ x2 then
      some (nI 1)
    else
      gd 12 x2 <|
      gd 12 x2 <|
      if (a_H x2.toNatClampNeg) = (b_H x2.toNatClampNeg) then
        m_X3_isSame_93 a_H b_H fn (x2 + (nI 1))
      else
        some (nI 0)
def m_X3_isSame_15 (fu : Nat) (a_n : Int32) (a_L : Nat → Int32) (a_U : Nat → Int32) (a_H : Nat → Int32) (a_O : Nat → Int32) (a_B : Nat → Int32) (b_L : Nat → Int32) (b_U : Nat → Int32) (b_H : Nat → Int32) (b_O : Nat → Int32) (b_B : Nat → Int32) : Nat → Int32 → Option (Int32)
  | 0, _ => none
  | fn + 1, x2 =>
    if a_n ≤ x2 then
      m_X3_isSame_93 a_H b_H fu (nI 0)
    else
      gd 10 x2 <|
      gd 10 x2 <|
      if (a_L x2.toNatClampNeg) = (b_L x2.toNatClampNeg) then
        gd 10 x2 <|
        gd 10 x2 <|
        if (a_U x2.toNatClampNeg) = (b_U x2.toNatClampNeg) then
          gd 10 x2 <|
          gd 10 x2 <|
          if (a_O x2.toNatClampNeg) = (b_O x2.toNatClampNeg) then
            gd 10 x2 <|
            gd 10 x2 <|
            if (a_B x2.toNatClampNeg) = (b_B x2.toNatClampNeg) then
              m_X3_isSame_15 fu a_n a_L a_U a_H a_O a_B b_L b_U b_H b_O b_B fn (x2 + (nI 1))
            else
              some (nI 0)
          else
            some (nI 0)
        else
          some (nI 0)
      else
        some (nI 0)
def m_X3_isSame (fu : Nat) (a_n : Int32) (a_L : Nat → Int32) (a_U : Nat → Int32) (a_H : Nat → Int32) (a_O : Nat → Int32) (a_B : Nat → Int32) (b_n : Int32) (b_L : Nat → Int32) (b_U : Nat → Int32) (b_H : Nat → Int32) (b_O : Nat → Int32) (b_B : Nat → Int32) : Option (Int32) :=
  if a_n = b_n then
    m_X3_isSame_15 fu a_n a_L a_U a_H a_O a_B b_L b_U b_H b_O b_B fu (nI 0)
  else
    some (nI 0)
def m_X3_become_72 (a_n : Int32) (a_L : Nat → Int32) (a_U : Nat → Int32) (a_O : Nat → Int32) (a_B : Nat → Int32) (b_H : Nat → Int32) : Nat → (Nat → Int32) → Int32 → Option (Int32 × (Nat → Int32) × (Nat → Int32) × (Nat → Int32) × (Nat → Int32) × (Nat → Int32))
  | 0, _, _ => none
  | fn + 1, a_H, x2 =>
    if (nI 12) ≤ x2 then
      some (a_n, a_L, a_U, a_H, a_O, a_B)
    else
      gd 12 x2 <|
      gd 12 x2 <|
      m_X3_become_72 a_n a_L a_U a_O a_B b_H fn (upd a_H x2.toNatClampNeg (b_H x2.toNatClampNeg)) (x2 + (nI 1))
def m_X3_become_10 (fu : Nat) (a_n : Int32) (a_H : Nat → Int32) (b_L : Nat → Int32) (b_U : Nat → Int32) (b_H : Nat → Int32) (b_O : Nat → Int32) (b_B : Nat → Int32) : Nat → (Nat → Int32) → (Nat → Int32) → (Nat → Int32) → (Nat → Int32) → Int32 → Option (Int32 × (Nat → Int32) × (Nat → Int32) × (Nat → Int32) × (Nat → Int32) × (Nat → Int32))
  | 0, _, _, _, _, _ => none
  | fn + 1, a_L, a_U, a_O, a_B, x2 =>
    if (nI 10) ≤ x2 then
      m_X3_become_72 a_n a_L a_U a_O a_B b_H fu a_H (nI 0)
    else
      gd 10 x2 <|
      gd 10 x2 <|
      gd 10 x2 <|
      gd 10 x2 <|
      gd 10 x2 <|
      gd 10 x2 <|
      gd 10 x2 <|
      gd 10 x2 <|
      m_X3_become_10 fu a_n a_H b_L b_U b_H b_O b_B fn (upd a_L x2.toNatClampNeg (b_L x2.toNatClampNeg)) (upd a_U x2.toNatClampNeg (b_U x2.toNatClampNeg)) (upd a_O x2.toNatClampNeg (b_O x2.toNatClampNeg)) (upd a_B x2.toNatClampNeg (b_B x2.toNatClampNeg)) (x2 + (nI 1))
def m_X3_become (fu : Nat) (a_L : Nat → Int32) (a_U : Nat → Int32) (a_H : Nat → Int32) (a_O : Nat → Int32) (a_B : Nat → Int32) (b_n : Int32) (b_L : Nat → Int32) (b_U : Nat → Int32) (b_H : Nat → Int32) (b_O : Nat → Int32) (b_B : Nat → Int32) : Option (Int32 × (Nat → Int32) × (Nat → Int32) × (Nat → Int32) × (Nat → Int32) × (Nat → Int32)) :=
  m_X3_become_10 fu b_n a_H b_L b_U b_H b_O b_B fu a_L a_U a_O a_B (nI 0)
def m_X6_with (x0 : Int32) (x1 : Int32) : Option (Int32) :=
  some (x0 ||| ((nI 1) <<< (x1 &&& 31)))
def m_X3_termsAtHome_4 (a_H : Nat → Int32) (x1 : Int32) : Nat → Int32 → Int32 → Option (Int32)
  | 0, _, _ => none
  | fn + 1, x2, x3 =>
    if (nI 12) ≤ x3 then
      some x2
    else
      gd 12 x3 <|
      if (a_H x3.toNatClampNeg) = x1 then
        (m_X6_with x2 x3).bind fun rv1 =>
        m_X3_termsAtHome_4 a_H x1 fn rv1 (x3 + (nI 1))
      else
        m_X3_termsAtHome_4 a_H x1 fn x2 (x3 + (nI 1))
def m_X3_termsAtHome (fu : Nat) (a_H : Nat → Int32) (x1 : Int32) : Option (Int32) :=
  m_X3_termsAtHome_4 a_H x1 fu (nI 0) (nI 0)
def m_X0_gatherTerms_36 (q_df : Nat → Int32) (v_U : Nat → Int32) (x1 : Int32) (kt9 : (Nat → Int32) → (Nat → Int32) → Int32 → Option ((Nat → Int32) × (Nat → Int32))) : Nat → (Nat → Int32) → Int32 → Option ((Nat → Int32) × (Nat → Int32))
  | 0, _, _ => none
  | fn + 1, q_se, x2 =>
    if ((nI 1) <<< (x1 &&& 31)) ≤ x2 then
      kt9 q_df q_se (x1 + (nI 1))
    else
      (m_X6_with x2 x1).bind fun rv2 =>
      gd 1024 x2 <|
      gd 10 x1 <|
      gd 1024 rv2 <|
      m_X0_gatherTerms_36 q_df v_U x1 kt9 fn (upd q_se rv2.toNatClampNeg ((q_se x2.toNatClampNeg) ||| (v_U x1.toNatClampNeg))) (x2 + (nI 1))
def m_X0_gatherTerms_9 (fu : Nat) (v_n : Int32) (v_U : Nat → Int32) (v_H : Nat → Int32) : Nat → (Nat → Int32) → (Nat → Int32) → Int32 → Option ((Nat → Int32) × (Nat → Int32))
  | 0, _, _, _ => none
  | fn + 1, q_df, q_se, x1 =>
    if v_n ≤ x1 then
      some (q_df, q_se)
    else
      (m_X3_termsAtHome fu v_H x1).bind fun rv1 =>
      gd 10 x1 <|
      m_X0_gatherTerms_36 (upd q_df x1.toNatClampNeg rv1) v_U x1 (m_X0_gatherTerms_9 fu v_n v_U v_H fn) fu q_se (nI 0)
def m_X0_gatherTerms (fu : Nat) (q_df : Nat → Int32) (q_se : Nat → Int32) (v_n : Int32) (v_U : Nat → Int32) (v_H : Nat → Int32) : Option ((Nat → Int32) × (Nat → Int32)) :=
  gd 1024 (nI 0) <|
  m_X0_gatherTerms_9 fu v_n v_U v_H fu q_df (upd q_se (nI 0).toNatClampNeg (nI 0)) (nI 0)
def m_X6_has (x0 : Int32) (x1 : Int32) : Option (Int32) :=
  if (x0 &&& ((nI 1) <<< (x1 &&& 31))) = (nI 0) then
    some (nI 0)
  else
    some (nI 1)
def m_J6_bitCount_0f7a4 (x0 : Int32) : Option (Int32) :=
  nm (x0 - ((x0.toUInt32 >>> ((nI 1).toUInt32 &&& Int32.toUInt32 31)).toInt32 &&& (nI 1431655765))) fun nv1 =>
  nm ((nv1 &&& (nI 858993459)) + ((nv1.toUInt32 >>> ((nI 2).toUInt32 &&& Int32.toUInt32 31)).toInt32 &&& (nI 858993459))) fun nv2 =>
  nm ((nv2 + (nv2.toUInt32 >>> ((nI 4).toUInt32 &&& Int32.toUInt32 31)).toInt32) &&& (nI 252645135)) fun nv3 =>
  nm ((nv3 + (nv3.toUInt32 >>> ((nI 8).toUInt32 &&& Int32.toUInt32 31)).toInt32) + ((nv3 + (nv3.toUInt32 >>> ((nI 8).toUInt32 &&& Int32.toUInt32 31)).toInt32).toUInt32 >>> ((nI 16).toUInt32 &&& Int32.toUInt32 31)).toInt32) fun nv4 =>
  some (nv4 &&& (nI 63))
def m_X0_noteCost (q_df : Nat → Int32) (q_se : Nat → Int32) (x1 : Int32) (x2 : Int32) : Option (Int32) :=
  gd 10 x2 <|
  gd 1024 x1 <|
  if ((q_df x2.toNatClampNeg) &&& (q_se x1.toNatClampNeg)) = (nI 0) then
    some (nI 0)
  else
    (m_J6_bitCount_0f7a4 ((q_df x2.toNatClampNeg) &&& (q_se x1.toNatClampNeg))).bind fun rv1 =>
    some (rv1 * (nI 64))
def m_X0_choose_19 (q_df : Nat → Int32) (q_se : Nat → Int32) (q_co : Nat → Int32) (q_ch : Nat → Int32) (v_O : Nat → Int32) (v_B : Nat → Int32) (x1 : Int32) : Nat → Int32 → Int32 → Int32 → Int32 → Option ((Nat → Int32) × (Nat → Int32))
  | 0, _, _, _, _ => none
  | fn + 1, x2, x3, x4, x5 =>
    if x5 < (nI 0) then
      gd 1024 x1 <|
      gd 1024 x1 <|
      some ((upd q_co x1.toNatClampNeg x2), (upd q_ch x1.toNatClampNeg x3))
    else
      gd 10 x5 <|
      (m_X6_has x1 (v_O x5.toNatClampNeg)).bind fun rv1 =>
      if rv1 = (nI 0) then
        gd 10 (v_O x5.toNatClampNeg) <|
        if ((v_B (v_O x5.toNatClampNeg).toNatClampNeg) &&& (x1 ^^^ (-1 : Int32))) = (nI 0) then
          (m_X0_noteCost q_df q_se x1 (v_O x5.toNatClampNeg)).bind fun rv2 =>
          (m_X6_with x1 (v_O x5.toNatClampNeg)).bind fun rv3 =>
          gd 1024 rv3 <|
          if x2 < ((rv2 + x4) + (q_co rv3.toNatClampNeg)) then
            m_X0_choose_19 q_df q_se q_co q_ch v_O v_B x1 fn x2 x3 x4 (x5 + (-1 : Int32))
          else
            m_X0_choose_19 q_df q_se q_co q_ch v_O v_B x1 fn ((rv2 + x4) + (q_co rv3.toNatClampNeg)) (v_O x5.toNatClampNeg) x4 (x5 + (-1 : Int32))
        else
          m_X0_choose_19 q_df q_se q_co q_ch v_O v_B x1 fn x2 x3 x4 (x5 + (-1 : Int32))
      else
        m_X0_choose_19 q_df q_se q_co q_ch v_O v_B x1 fn x2 x3 (x4 + (nI 1)) (x5 + (-1 : Int32))
def m_X0_choose (fu : Nat) (q_df : Nat → Int32) (q_se : Nat → Int32) (q_co : Nat → Int32) (q_ch : Nat → Int32) (v_n : Int32) (v_O : Nat → Int32) (v_B : Nat → Int32) (x1 : Int32) : Option ((Nat → Int32) × (Nat → Int32)) :=
  m_X0_choose_19 q_df q_se q_co q_ch v_O v_B x1 fu (nI 1000000) (nI 0) (nI 0) (v_n - (nI 1))
def m_X0_writeOrder_4 (q_ch : Nat → Int32) (v_n : Int32) : Nat → (Nat → Int32) → Int32 → Int32 → Option ((Nat → Int32))
  | 0, _, _, _ => none
  | fn + 1, q_or, x1, x2 =>
    if v_n ≤ x2 then
      some q_or
    else
      gd 1024 x1 <|
      gd 10 x2 <|
      gd 10 x2 <|
      (m_X6_with x1 ((upd q_or x2.toNatClampNeg (q_ch x1.toNatClampNeg)) x2.toNatClampNeg)).bind fun rv1 =>
      m_X0_writeOrder_4 q_ch v_n fn (upd q_or x2.toNatClampNeg (q_ch x1.toNatClampNeg)) rv1 (x2 + (nI 1))
def m_X0_writeOrder (fu : Nat) (q_or : Nat → Int32) (q_ch : Nat → Int32) (v_n : Int32) : Option ((Nat → Int32)) :=
  m_X0_writeOrder_4 q_ch v_n fu q_or (nI 0) (nI 0)
def m_X0_find_59 (fu : Nat) (q_fd : Int32) (q_or : Nat → Int32) (q_df : Nat → Int32) (q_se : Nat → Int32) (v_n : Int32) (v_L : Nat → Int32) (v_U : Nat → Int32) (v_H : Nat → Int32) (v_O : Nat → Int32) (v_B : Nat → Int32) : Nat → (Nat → Int32) → (Nat → Int32) → Int32 → Option (Int32 × Int32 × Int32 × (Nat → Int32) × (Nat → Int32) × (Nat → Int32) × (Nat → Int32) × (Nat → Int32) × Int32 × (Nat → Int32) × (Nat → Int32) × (Nat → Int32) × (Nat → Int32) × (Nat → Int32))
  | 0, _, _, _ => none
  | fn + 1, q_co, q_ch, x3 =>
    if x3 < (nI 0) then
      gd 1024 (nI 0) <|
      gd 1024 (nI 0) <|
      (m_X0_writeOrder fu q_or q_ch v_n).bind fun rv4 =>
      some (((q_co (nI 0).toNatClampNeg) / (nI 64)), ((q_co (nI 0).toNatClampNeg) - (q_co (nI 0).toNatClampNeg) / (nI 64) * (nI 64)), q_fd, rv4, q_df, q_se, q_co, q_ch, v_n, v_L, v_U, v_H, v_O, v_B)
    else
      (m_X0_choose fu q_df q_se q_co q_ch v_n v_O v_B x3).bind fun rv5 =>
      m_X0_find_59 fu q_fd q_or q_df q_se v_n v_L v_U v_H v_O v_B fn rv5.1 rv5.2 (x3 + (-1 : Int32))
def m_X0_find_19 (fu : Nat) (q_or : Nat → Int32) (q_df : Nat → Int32) (q_se : Nat → Int32) (q_co : Nat → Int32) (q_ch : Nat → Int32) (v_L : Nat → Int32) (v_U : Nat → Int32) (v_H : Nat → Int32) (v_O : Nat → Int32) (v_B : Nat → Int32) (a_n : Int32) (a_L : Nat → Int32) (a_U : Nat → Int32) (a_H : Nat → Int32) (a_O : Nat → Int32) (a_B : Nat → Int32) : Option (Int32 × Int32 × Int32 × (Nat → Int32) × (Nat → Int32) × (Nat → Int32) × (Nat → Int32) × (Nat → Int32) × Int32 × (Nat → Int32) × (Nat → Int32) × (Nat → Int32) × (Nat → Int32) × (Nat → Int32)) :=
  (m_X3_become fu v_L v_U v_H v_O v_B a_n a_L a_U a_H a_O a_B).bind fun rv2 =>
  (m_X0_gatherTerms fu q_df q_se rv2.1 rv2.2.2.1 rv2.2.2.2.1).bind fun rv3 =>
  gd 1024 (((nI 1) <<< (rv2.1 &&& 31)) - (nI 1)) <|
  m_X0_find_59 fu (nI 1) q_or rv3.1 rv3.2 rv2.1 rv2.2.1 rv2.2.2.1 rv2.2.2.2.1 rv2.2.2.2.2.1 rv2.2.2.2.2.2 fu (upd q_co (((nI 1) <<< (rv2.1 &&& 31)) - (nI 1)).toNatClampNeg (nI 0)) q_ch ((((nI 1) <<< (rv2.1 &&& 31)) - (nI 1)) - (nI 1))
def m_X0_find (fu : Nat) (q_nt : Int32) (q_iv : Int32) (q_fd : Int32) (q_or : Nat → Int32) (q_df : Nat → Int32) (q_se : Nat → Int32) (q_co : Nat → Int32) (q_ch : Nat → Int32) (v_n : Int32) (v_L : Nat → Int32) (v_U : Nat → Int32) (v_H : Nat → Int32) (v_O : Nat → Int32) (v_B : Nat → Int32) (a_n : Int32) (a_L : Nat → Int32) (a_U : Nat → Int32) (a_H : Nat → Int32) (a_O : Nat → Int32) (a_B : Nat → Int32) : Option (Int32 × Int32 × Int32 × (Nat → Int32) × (Nat → Int32) × (Nat → Int32) × (Nat → Int32) × (Nat → Int32) × Int32 × (Nat → Int32) × (Nat → Int32) × (Nat → Int32) × (Nat → Int32) × (Nat → Int32)) :=
  if q_fd = (nI 0) then
    m_X0_find_19 fu q_or q_df q_se q_co q_ch v_L v_U v_H v_O v_B a_n a_L a_U a_H a_O a_B
  else
    (m_X3_isSame fu v_n v_L v_U v_H v_O v_B a_n a_L a_U a_H a_O a_B).bind fun rv1 =>
    if rv1 = (nI 0) then
      m_X0_find_19 fu q_or q_df q_se q_co q_ch v_L v_U v_H v_O v_B a_n a_L a_U a_H a_O a_B
    else
      some (q_nt, q_iv, q_fd, q_or, q_df, q_se, q_co, q_ch, v_n, v_L, v_U, v_H, v_O, v_B)
def m_X5_rewind : Option (Int32) :=
  some (nI 0)
def m_X5_kindOf_14 (x0 : Int32) : Option (Int32) :=
  if x0 < (nI 48) then
    some (nI 3)
  else
    if (nI 57) < x0 then
      some (nI 3)
    else
      some (nI 2)
def m_X5_kindOf (x0 : Int32) : Option (Int32) :=
  if x0 < (nI 97) then
    m_X5_kindOf_14 x0
  else
    if (nI 122) < x0 then
      m_X5_kindOf_14 x0
    else
      some (nI 1)
def m_X5_take_89 (t_len : Int32) (t_st : Int32) (t_kd : Int32) (t_by : Nat → Int32) : Nat → Int32 → Option (Int32 × Int32 × Int32)
  | 0, _ => none
  | fn + 1, t_nx =>
    if t_kd = (nI 3) then
      some (t_st, t_nx, t_kd)
    else
      if t_len ≤ t_nx then
        some (t_st, t_nx, t_kd)
      else
        gd 200 t_nx <|
        (m_X5_kindOf (t_by t_nx.toNatClampNeg)).bind fun rv2 =>
        if rv2 = t_kd then
          m_X5_take_89 t_len t_st t_kd t_by fn (t_nx + (nI 1))
        else
          some (t_st, t_nx, t_kd)
def m_X5_take_38 (fu : Nat) (t_len : Int32) (t_nx : Int32) (t_by : Nat → Int32) : Option (Int32 × Int32 × Int32) :=
  if t_nx < t_len then
    gd 200 t_nx <|
    (m_X5_kindOf (t_by t_nx.toNatClampNeg)).bind fun rv1 =>
    m_X5_take_89 t_len t_nx rv1 t_by fu (t_nx + (nI 1))
  else
    some (t_nx, t_nx, (nI 0))
def m_X5_take_0 (fu : Nat) (t_len : Int32) (t_by : Nat → Int32) : Nat → Int32 → Option (Int32 × Int32 × Int32)
  | 0, _ => none
  | fn + 1, t_nx =>
    if t_len ≤ t_nx then
      m_X5_take_38 fu t_len t_nx t_by
    else
      gd 200 t_nx <|
      if (t_by t_nx.toNatClampNeg) = (nI 32) then
        m_X5_take_0 fu t_len t_by fn (t_nx + (nI 1))
      else
        m_X5_take_38 fu t_len t_nx t_by
def m_X5_take (fu : Nat) (t_len : Int32) (t_nx : Int32) (t_by : Nat → Int32) : Option (Int32 × Int32 × Int32) :=
  if t_len ≤ t_nx then
    m_X5_take_38 fu t_len t_nx t_by
  else
    gd 200 t_nx <|
    if (t_by t_nx.toNatClampNeg) = (nI 32) then
      m_X5_take_0 fu t_len t_by fu (t_nx + (nI 1))
    else
      m_X5_take_38 fu t_len t_nx t_by
def m_X5_isWord_28 (t_st : Int32) (t_by : Nat → Int32) (s_wc : Nat → Int32) (s_wl : Nat) : Nat → Int32 → Option (Int32)
  | 0, _ => none
  | fn + 1, x2 =>
    if (nI s_wl) ≤ x2 then
      some (nI 1)
    else
      gd 200 (t_st + x2) <|
      gd s_wl x2 <|
      if (t_by (t_st + x2).toNatClampNeg) = (s_wc x2.toNatClampNeg) then
        m_X5_isWord_28 t_st t_by s_wc s_wl fn (x2 + (nI 1))
      else
        some (nI 0)
def m_X5_isWord (fu : Nat) (t_st : Int32) (t_nx : Int32) (t_kd : Int32) (t_by : Nat → Int32) (s_wl : Nat) (s_wc : Nat → Int32) : Option (Int32) :=
  if t_kd = (nI 1) then
    if (t_nx - t_st) = (nI s_wl) then
      m_X5_isWord_28 t_st t_by s_wc s_wl fu (nI 0)
    else
      some (nI 0)
  else
    some (nI 0)
def m_X5_asNumber_31 (t_nx : Int32) (t_by : Nat → Int32) (x1 : Int32) (x2 : Int32) : Nat → Int32 → Int32 → Option (Int32)
  | 0, _, _ => none
  | fn + 1, x3, x4 =>
    if t_nx ≤ x4 then
      if x3 < x1 then
        some (-1 : Int32)
      else
        if x3 ≤ x2 then
          some x3
        else
          some (-1 : Int32)
    else
      gd 200 x4 <|
      m_X5_asNumber_31 t_nx t_by x1 x2 fn (((x3 * (nI 10)) + (t_by x4.toNatClampNeg)) - (nI 48)) (x4 + (nI 1))
def m_X5_asNumber (fu : Nat) (t_st : Int32) (t_nx : Int32) (t_kd : Int32) (t_by : Nat → Int32) (x1 : Int32) (x2 : Int32) : Option (Int32) :=
  if t_kd = (nI 2) then
    if (t_nx - t_st) ≤ (nI 2) then
      m_X5_asNumber_31 t_nx t_by x1 x2 fu (nI 0) t_st
    else
      some (-1 : Int32)
  else
    some (-1 : Int32)
def m_X1_takeNumber (fu : Nat) (t_len : Int32) (t_nx : Int32) (t_by : Nat → Int32) (x1 : Int32) (x2 : Int32) : Option (Int32 × Int32 × Int32 × Int32) :=
  (m_X5_take fu t_len t_nx t_by).bind fun rv1 =>
  (m_X5_asNumber fu rv1.1 rv1.2.1 rv1.2.2 t_by x1 x2).bind fun rv2 =>
  some (rv2, rv1.1, rv1.2.1, rv1.2.2)
def m_X3_beginAnew_49 (a_n : Int32) (a_L : Nat → Int32) (a_U : Nat → Int32) (a_O : Nat → Int32) (a_B : Nat → Int32) : Nat → (Nat → Int32) → Int32 → Option (Int32 × (Nat → Int32) × (Nat → Int32) × (Nat → Int32) × (Nat → Int32) × (Nat → Int32))
  | 0, _, _ => none
  | fn + 1, a_H, x2 =>
    if (nI 12) ≤ x2 then
      some (a_n, a_L, a_U, a_H, a_O, a_B)
    else
      gd 12 x2 <|
      m_X3_beginAnew_49 a_n a_L a_U a_O a_B fn (upd a_H x2.toNatClampNeg (-1 : Int32)) (x2 + (nI 1))
def m_X3_beginAnew_7 (fu : Nat) (a_n : Int32) (a_H : Nat → Int32) : Nat → (Nat → Int32) → (Nat → Int32) → (Nat → Int32) → (Nat → Int32) → Int32 → Option (Int32 × (Nat → Int32) × (Nat → Int32) × (Nat → Int32) × (Nat → Int32) × (Nat → Int32))
  | 0, _, _, _, _, _ => none
  | fn + 1, a_L, a_U, a_O, a_B, x2 =>
    if (nI 10) ≤ x2 then
      m_X3_beginAnew_49 a_n a_L a_U a_O a_B fu a_H (nI 0)
    else
      gd 10 x2 <|
      gd 10 x2 <|
      gd 10 x2 <|
      gd 10 x2 <|
      m_X3_beginAnew_7 fu a_n a_H fn (upd a_L x2.toNatClampNeg (nI 1)) (upd a_U x2.toNatClampNeg (nI 0)) (upd a_O x2.toNatClampNeg x2) (upd a_B x2.toNatClampNeg (nI 0)) (x2 + (nI 1))
def m_X3_beginAnew (fu : Nat) (a_L : Nat → Int32) (a_U : Nat → Int32) (a_H : Nat → Int32) (a_O : Nat → Int32) (a_B : Nat → Int32) (x1 : Int32) : Option (Int32 × (Nat → Int32) × (Nat → Int32) × (Nat → Int32) × (Nat → Int32) × (Nat → Int32)) :=
  m_X3_beginAnew_7 fu x1 a_H fu a_L a_U a_O a_B (nI 0)
def m_X1_readSections (fu : Nat) (t_len : Int32) (t_nx : Int32) (t_by : Nat → Int32) (b_n : Int32) (b_L : Nat → Int32) (b_U : Nat → Int32) (b_H : Nat → Int32) (b_O : Nat → Int32) (b_B : Nat → Int32) : Option (Int32 × Int32 × Int32 × Int32 × Int32 × (Nat → Int32) × (Nat → Int32) × (Nat → Int32) × (Nat → Int32) × (Nat → Int32)) :=
  (m_X1_takeNumber fu t_len t_nx t_by (nI 2) (nI 10)).bind fun rv1 =>
  if rv1.1 = (-1 : Int32) then
    some ((nI 0), rv1.2.1, rv1.2.2.1, rv1.2.2.2, b_n, b_L, b_U, b_H, b_O, b_B)
  else
    (m_X3_beginAnew fu b_L b_U b_H b_O b_B rv1.1).bind fun rv2 =>
    some ((nI 1), rv1.2.1, rv1.2.2.1, rv1.2.2.2, rv2.1, rv2.2.1, rv2.2.2.1, rv2.2.2.2.1, rv2.2.2.2.2.1, rv2.2.2.2.2.2)
def m_X1_takeSection (fu : Nat) (t_len : Int32) (t_nx : Int32) (t_by : Nat → Int32) (b_n : Int32) : Option (Int32 × Int32 × Int32 × Int32) :=
  (m_X5_take fu t_len t_nx t_by).bind fun rv1 =>
  (m_X5_asNumber fu rv1.1 rv1.2.1 rv1.2.2 t_by (nI 0) (b_n - (nI 1))).bind fun rv2 =>
  some (rv2, rv1.1, rv1.2.1, rv1.2.2)
def m_X1_readPages (fu : Nat) (t_len : Int32) (t_nx : Int32) (t_by : Nat → Int32) (b_n : Int32) (b_L : Nat → Int32) : Option (Int32 × Int32 × Int32 × Int32 × (Nat → Int32)) :=
  (m_X1_takeSection fu t_len t_nx t_by b_n).bind fun rv1 =>
  if rv1.1 = (-1 : Int32) then
    some ((nI 0), rv1.2.1, rv1.2.2.1, rv1.2.2.2, b_L)
  else
    (m_X1_takeNumber fu t_len rv1.2.2.1 t_by (nI 1) (nI 9)).bind fun rv2 =>
    if rv2.1 = (-1 : Int32) then
      some ((nI 0), rv2.2.1, rv2.2.2.1, rv2.2.2.2, b_L)
    else
      gd 10 rv1.1 <|
      some ((nI 1), rv2.2.1, rv2.2.2.1, rv2.2.2.2, (upd b_L rv1.1.toNatClampNeg rv2.1))
def m_X6_isTerm (x0 : Int32) : Option (Int32) :=
  if x0 < (nI 0) then
    some (nI 0)
  else
    if (nI 12) ≤ x0 then
      some (nI 0)
    else
      some (nI 1)
def m_X5_asTerm (t_st : Int32) (t_nx : Int32) (t_kd : Int32) (t_by : Nat → Int32) : Option (Int32) :=
  if t_kd = (nI 1) then
    if (t_nx - t_st) = (nI 1) then
      gd 200 t_st <|
      (m_X6_isTerm ((t_by t_st.toNatClampNeg) - (nI 97))).bind fun rv1 =>
      if rv1 = (nI 0) then
        some (-1 : Int32)
      else
        some ((t_by t_st.toNatClampNeg) - (nI 97))
    else
      some (-1 : Int32)
  else
    some (-1 : Int32)
def m_X1_readHome (fu : Nat) (t_len : Int32) (t_nx : Int32) (t_by : Nat → Int32) (b_n : Int32) (b_H : Nat → Int32) : Option (Int32 × Int32 × Int32 × Int32 × (Nat → Int32)) :=
  (m_X5_take fu t_len t_nx t_by).bind fun rv1 =>
  (m_X5_asTerm rv1.1 rv1.2.1 rv1.2.2 t_by).bind fun rv2 =>
  if rv2 = (-1 : Int32) then
    some ((nI 0), rv1.1, rv1.2.1, rv1.2.2, b_H)
  else
    (m_X1_takeSection fu t_len rv1.2.1 t_by b_n).bind fun rv3 =>
    if rv3.1 = (-1 : Int32) then
      some ((nI 0), rv3.2.1, rv3.2.2.1, rv3.2.2.2, b_H)
    else
      gd 12 rv2 <|
      some ((nI 1), rv3.2.1, rv3.2.2.1, rv3.2.2.2, (upd b_H rv2.toNatClampNeg rv3.1))
def m_X5_asTerms_31 (t_nx : Int32) (t_by : Nat → Int32) : Nat → Int32 → Int32 → Option (Int32)
  | 0, _, _ => none
  | fn + 1, x1, x2 =>
    if t_nx ≤ x2 then
      some x1
    else
      gd 200 x2 <|
      (m_X6_isTerm ((t_by x2.toNatClampNeg) - (nI 97))).bind fun rv1 =>
      if rv1 = (nI 0) then
        some (nI 0)
      else
        (m_X6_with x1 ((t_by x2.toNatClampNeg) - (nI 97))).bind fun rv2 =>
        m_X5_asTerms_31 t_nx t_by fn rv2 (x2 + (nI 1))
def m_X5_asTerms (fu : Nat) (t_st : Int32) (t_nx : Int32) (t_kd : Int32) (t_by : Nat → Int32) : Option (Int32) :=
  if t_kd = (nI 1) then
    if (t_nx - t_st) ≤ (nI 12) then
      m_X5_asTerms_31 t_nx t_by fu (nI 0) t_st
    else
      some (nI 0)
  else
    some (nI 0)
def m_X1_readUses (fu : Nat) (t_len : Int32) (t_nx : Int32) (t_by : Nat → Int32) (b_n : Int32) (b_U : Nat → Int32) : Option (Int32 × Int32 × Int32 × Int32 × (Nat → Int32)) :=
  (m_X1_takeSection fu t_len t_nx t_by b_n).bind fun rv1 =>
  if rv1.1 = (-1 : Int32) then
    some ((nI 0), rv1.2.1, rv1.2.2.1, rv1.2.2.2, b_U)
  else
    (m_X5_take fu t_len rv1.2.2.1 t_by).bind fun rv2 =>
    (m_X5_asTerms fu rv2.1 rv2.2.1 rv2.2.2 t_by).bind fun rv3 =>
    if rv3 = (nI 0) then
      some ((nI 0), rv2.1, rv2.2.1, rv2.2.2, b_U)
    else
      gd 10 rv1.1 <|
      gd 10 rv1.1 <|
      some ((nI 1), rv2.1, rv2.2.1, rv2.2.2, (upd b_U rv1.1.toNatClampNeg ((b_U rv1.1.toNatClampNeg) ||| rv3)))
def m_X3_placeOf_4 (a_n : Int32) (a_O : Nat → Int32) (x1 : Int32) : Nat → Int32 → Int32 → Option (Int32)
  | 0, _, _ => none
  | fn + 1, x2, x3 =>
    if a_n ≤ x3 then
      some x2
    else
      gd 10 x3 <|
      if (a_O x3.toNatClampNeg) = x1 then
        m_X3_placeOf_4 a_n a_O x1 fn x3 (x3 + (nI 1))
      else
        m_X3_placeOf_4 a_n a_O x1 fn x2 (x3 + (nI 1))
def m_X3_placeOf (fu : Nat) (a_n : Int32) (a_O : Nat → Int32) (x1 : Int32) : Option (Int32) :=
  m_X3_placeOf_4 a_n a_O x1 fu (nI 0) (nI 0)
def m_X3_canTakePrecedence (fu : Nat) (a_n : Int32) (a_O : Nat → Int32) (a_B : Nat → Int32) (x1 : Int32) (x2 : Int32) : Option (Int32) :=
  (m_X3_placeOf fu a_n a_O x1).bind fun rv1 =>
  (m_X3_placeOf fu a_n a_O x2).bind fun rv2 =>
  if rv2 ≤ rv1 then
    some (nI 0)
  else
    gd 10 x2 <|
    (m_X6_has (a_B x2.toNatClampNeg) x1).bind fun rv3 =>
    if rv3 = (nI 0) then
      some (nI 1)
    else
      some (nI 0)
def m_X1_readAhead (fu : Nat) (t_len : Int32) (t_nx : Int32) (t_by : Nat → Int32) (b_n : Int32) (b_O : Nat → Int32) (b_B : Nat → Int32) : Option (Int32 × Int32 × Int32 × Int32 × (Nat → Int32)) :=
  (m_X1_takeSection fu t_len t_nx t_by b_n).bind fun rv1 =>
  if rv1.1 = (-1 : Int32) then
    some ((nI 0), rv1.2.1, rv1.2.2.1, rv1.2.2.2, b_B)
  else
    (m_X1_takeSection fu t_len rv1.2.2.1 t_by b_n).bind fun rv2 =>
    if rv2.1 = (-1 : Int32) then
      some ((nI 0), rv2.2.1, rv2.2.2.1, rv2.2.2.2, b_B)
    else
      if rv2.1 = rv1.1 then
        some ((nI 0), rv2.2.1, rv2.2.2.1, rv2.2.2.2, b_B)
      else
        (m_X3_canTakePrecedence fu b_n b_O b_B rv1.1 rv2.1).bind fun rv3 =>
        if rv3 = (nI 0) then
          some ((nI 1), rv2.2.1, rv2.2.2.1, rv2.2.2.2, b_B)
        else
          gd 10 rv2.1 <|
          (m_X6_with (b_B rv2.1.toNatClampNeg) rv1.1).bind fun rv4 =>
          gd 10 rv2.1 <|
          some ((nI 1), rv2.2.1, rv2.2.2.1, rv2.2.2.2, (upd b_B rv2.1.toNatClampNeg rv4))
def m_X3_respectsPrecedences_4 (a_n : Int32) (a_B : Nat → Int32) (w_a : Nat → Int32) : Nat → Int32 → Int32 → Option (Int32)
  | 0, _, _ => none
  | fn + 1, x2, x3 =>
    if a_n ≤ x3 then
      some (nI 1)
    else
      gd 10 x3 <|
      gd 10 (w_a x3.toNatClampNeg) <|
      if ((a_B (w_a x3.toNatClampNeg).toNatClampNeg) &&& (x2 ^^^ (-1 : Int32))) = (nI 0) then
        (m_X6_with x2 (w_a x3.toNatClampNeg)).bind fun rv1 =>
        m_X3_respectsPrecedences_4 a_n a_B w_a fn rv1 (x3 + (nI 1))
      else
        some (nI 0)
def m_X3_respectsPrecedences (fu : Nat) (a_n : Int32) (a_B : Nat → Int32) (w_a : Nat → Int32) : Option (Int32) :=
  m_X3_respectsPrecedences_4 a_n a_B w_a fu (nI 0) (nI 0)
def m_X3_takeOrder_2 (a_n : Int32) (w_a : Nat → Int32) : Nat → (Nat → Int32) → Int32 → Option ((Nat → Int32))
  | 0, _, _ => none
  | fn + 1, a_O, x2 =>
    if a_n ≤ x2 then
      some a_O
    else
      gd 10 x2 <|
      gd 10 x2 <|
      m_X3_takeOrder_2 a_n w_a fn (upd a_O x2.toNatClampNeg (w_a x2.toNatClampNeg)) (x2 + (nI 1))
def m_X3_takeOrder (fu : Nat) (a_n : Int32) (a_O : Nat → Int32) (w_a : Nat → Int32) : Option ((Nat → Int32)) :=
  m_X3_takeOrder_2 a_n w_a fu a_O (nI 0)
def m_X1_readOrder_4 (fu : Nat) (t_len : Int32) (t_by : Nat → Int32) (b_n : Int32) (b_O : Nat → Int32) (b_B : Nat → Int32) : Nat → (Nat → Int32) → Int32 → Int32 → Int32 → Int32 → Int32 → Option (Int32 × (Nat → Int32) × Int32 × Int32 × Int32 × (Nat → Int32))
  | 0, _, _, _, _, _, _ => none
  | fn + 1, r_no, t_st, t_nx, t_kd, x2, x3 =>
    if b_n ≤ x3 then
      (m_X3_respectsPrecedences fu b_n b_B r_no).bind fun rv1 =>
      if rv1 = (nI 0) then
        some ((nI 1), r_no, t_st, t_nx, t_kd, b_O)
      else
        (m_X3_takeOrder fu b_n b_O r_no).bind fun rv2 =>
        some ((nI 1), r_no, t_st, t_nx, t_kd, rv2)
    else
      (m_X1_takeSection fu t_len t_nx t_by b_n).bind fun rv3 =>
      if rv3.1 = (-1 : Int32) then
        some ((nI 0), r_no, rv3.2.1, rv3.2.2.1, rv3.2.2.2, b_O)
      else
        (m_X6_has x2 rv3.1).bind fun rv4 =>
        if rv4 = (nI 0) then
          (m_X6_with x2 rv3.1).bind fun rv5 =>
          gd 10 x3 <|
          m_X1_readOrder_4 fu t_len t_by b_n b_O b_B fn (upd r_no x3.toNatClampNeg rv3.1) rv3.2.1 rv3.2.2.1 rv3.2.2.2 rv5 (x3 + (nI 1))
        else
          some ((nI 0), r_no, rv3.2.1, rv3.2.2.1, rv3.2.2.2, b_O)
def m_X1_readOrder (fu : Nat) (r_no : Nat → Int32) (t_len : Int32) (t_st : Int32) (t_nx : Int32) (t_kd : Int32) (t_by : Nat → Int32) (b_n : Int32) (b_O : Nat → Int32) (b_B : Nat → Int32) : Option (Int32 × (Nat → Int32) × Int32 × Int32 × Int32 × (Nat → Int32)) :=
  m_X1_readOrder_4 fu t_len t_by b_n b_O b_B fu r_no t_st t_nx t_kd (nI 0) (nI 0)
def m_X1_readClause (fu : Nat) (r_no : Nat → Int32) (t_len : Int32) (t_st : Int32) (t_nx : Int32) (t_kd : Int32) (t_by : Nat → Int32) (b_n : Int32) (b_L : Nat → Int32) (b_U : Nat → Int32) (b_H : Nat → Int32) (b_O : Nat → Int32) (b_B : Nat → Int32) : Option (Int32 × (Nat → Int32) × Int32 × Int32 × Int32 × Int32 × (Nat → Int32) × (Nat → Int32) × (Nat → Int32) × (Nat → Int32) × (Nat → Int32)) :=
  (m_X5_isWord fu t_st t_nx t_kd t_by (wlen 0) (wch 0)).bind fun rv1 =>
  if rv1 = (nI 0) then
    (m_X5_isWord fu t_st t_nx t_kd t_by (wlen 1) (wch 1)).bind fun rv2 =>
    if rv2 = (nI 0) then
      (m_X5_isWord fu t_st t_nx t_kd t_by (wlen 2) (wch 2)).bind fun rv3 =>
      if rv3 = (nI 0) then
        (m_X5_isWord fu t_st t_nx t_kd t_by (wlen 3) (wch 3)).bind fun rv4 =>
        if rv4 = (nI 0) then
          (m_X5_isWord fu t_st t_nx t_kd t_by (wlen 4) (wch 4)).bind fun rv5 =>
          if rv5 = (nI 0) then
            (m_X5_isWord fu t_st t_nx t_kd t_by (wlen 5) (wch 5)).bind fun rv6 =>
            if rv6 = (nI 0) then
              some ((nI 0), r_no, t_st, t_nx, t_kd, b_n, b_L, b_U, b_H, b_O, b_B)
            else
              (m_X1_readOrder fu r_no t_len t_st t_nx t_kd t_by b_n b_O b_B).bind fun rv7 =>
              zb rv7.1 <|
              some (rv7.1, rv7.2.1, rv7.2.2.1, rv7.2.2.2.1, rv7.2.2.2.2.1, b_n, b_L, b_U, b_H, rv7.2.2.2.2.2, b_B)
          else
            (m_X1_readAhead fu t_len t_nx t_by b_n b_O b_B).bind fun rv8 =>
            zb rv8.1 <|
            some (rv8.1, r_no, rv8.2.1, rv8.2.2.1, rv8.2.2.2.1, b_n, b_L, b_U, b_H, b_O, rv8.2.2.2.2)
        else
          (m_X1_readUses fu t_len t_nx t_by b_n b_U).bind fun rv9 =>
          zb rv9.1 <|
          some (rv9.1, r_no, rv9.2.1, rv9.2.2.1, rv9.2.2.2.1, b_n, b_L, rv9.2.2.2.2, b_H, b_O, b_B)
      else
        (m_X1_readHome fu t_len t_nx t_by b_n b_H).bind fun rv10 =>
        zb rv10.1 <|
        some (rv10.1, r_no, rv10.2.1, rv10.2.2.1, rv10.2.2.2.1, b_n, b_L, b_U, rv10.2.2.2.2, b_O, b_B)
    else
      (m_X1_readPages fu t_len t_nx t_by b_n b_L).bind fun rv11 =>
      zb rv11.1 <|
      some (rv11.1, r_no, rv11.2.1, rv11.2.2.1, rv11.2.2.2.1, b_n, rv11.2.2.2.2, b_U, b_H, b_O, b_B)
  else
    (m_X1_readSections fu t_len t_nx t_by b_n b_L b_U b_H b_O b_B).bind fun rv12 =>
    zb rv12.1 <|
    some (rv12.1, r_no, rv12.2.1, rv12.2.2.1, rv12.2.2.2.1, rv12.2.2.2.2.1, rv12.2.2.2.2.2.1, rv12.2.2.2.2.2.2.1, rv12.2.2.2.2.2.2.2.1, rv12.2.2.2.2.2.2.2.2.1, rv12.2.2.2.2.2.2.2.2.2)
def m_X5_isEnd (t_kd : Int32) : Option (Int32) :=
  if t_kd = (nI 0) then
    some (nI 1)
  else
    some (nI 0)
def m_X5_isSemicolon (t_st : Int32) (t_kd : Int32) (t_by : Nat → Int32) : Option (Int32) :=
  if t_kd = (nI 3) then
    gd 200 t_st <|
    if (t_by t_st.toNatClampNeg) = (nI 59) then
      some (nI 1)
    else
      some (nI 0)
  else
    some (nI 0)
def m_X1_carryOut_9 (fu : Nat) (t_len : Int32) (t_by : Nat → Int32) : Nat → Int32 → (Nat → Int32) → Int32 → Int32 → Int32 → Int32 → (Nat → Int32) → (Nat → Int32) → (Nat → Int32) → (Nat → Int32) → (Nat → Int32) → Int32 → Option (Int32 × Int32 × (Nat → Int32) × Int32 × Int32 × Int32 × Int32 × (Nat → Int32) × (Nat → Int32) × (Nat → Int32) × (Nat → Int32) × (Nat → Int32))
  | 0, _, _, _, _, _, _, _, _, _, _, _, _ => none
  | fn + 1, r_cl, r_no, t_st, t_nx, t_kd, b_n, b_L, b_U, b_H, b_O, b_B, x2 =>
    if (nI 24) < x2 then
      some (t_st, r_cl, r_no, t_st, t_nx, t_kd, b_n, b_L, b_U, b_H, b_O, b_B)
    else
      (m_X5_take fu t_len t_nx t_by).bind fun rv2 =>
      (m_X1_readClause fu r_no t_len rv2.1 rv2.2.1 rv2.2.2 t_by b_n b_L b_U b_H b_O b_B).bind fun rv3 =>
      if rv3.1 = (nI 0) then
        some (rv3.2.2.1, r_cl, rv3.2.1, rv3.2.2.1, rv3.2.2.2.1, rv3.2.2.2.2.1, rv3.2.2.2.2.2.1, rv3.2.2.2.2.2.2.1, rv3.2.2.2.2.2.2.2.1, rv3.2.2.2.2.2.2.2.2.1, rv3.2.2.2.2.2.2.2.2.2.1, rv3.2.2.2.2.2.2.2.2.2.2)
      else
        (m_X5_take fu t_len rv3.2.2.2.1 t_by).bind fun rv4 =>
        (m_X5_isEnd rv4.2.2).bind fun rv5 =>
        if rv5 = (nI 0) then
          (m_X5_isSemicolon rv4.1 rv4.2.2 t_by).bind fun rv6 =>
          if rv6 = (nI 0) then
            some (rv4.1, x2, rv3.2.1, rv4.1, rv4.2.1, rv4.2.2, rv3.2.2.2.2.2.1, rv3.2.2.2.2.2.2.1, rv3.2.2.2.2.2.2.2.1, rv3.2.2.2.2.2.2.2.2.1, rv3.2.2.2.2.2.2.2.2.2.1, rv3.2.2.2.2.2.2.2.2.2.2)
          else
            m_X1_carryOut_9 fu t_len t_by fn x2 rv3.2.1 rv4.1 rv4.2.1 rv4.2.2 rv3.2.2.2.2.2.1 rv3.2.2.2.2.2.2.1 rv3.2.2.2.2.2.2.2.1 rv3.2.2.2.2.2.2.2.2.1 rv3.2.2.2.2.2.2.2.2.2.1 rv3.2.2.2.2.2.2.2.2.2.2 (x2 + (nI 1))
        else
          some ((-1 : Int32), x2, rv3.2.1, rv4.1, rv4.2.1, rv4.2.2, rv3.2.2.2.2.2.1, rv3.2.2.2.2.2.2.1, rv3.2.2.2.2.2.2.2.1, rv3.2.2.2.2.2.2.2.2.1, rv3.2.2.2.2.2.2.2.2.2.1, rv3.2.2.2.2.2.2.2.2.2.2)
def m_X1_carryOut (fu : Nat) (r_cl : Int32) (r_no : Nat → Int32) (t_len : Int32) (t_st : Int32) (t_kd : Int32) (t_by : Nat → Int32) (b_n : Int32) (b_L : Nat → Int32) (b_U : Nat → Int32) (b_H : Nat → Int32) (b_O : Nat → Int32) (b_B : Nat → Int32) : Option (Int32 × Int32 × (Nat → Int32) × Int32 × Int32 × Int32 × Int32 × (Nat → Int32) × (Nat → Int32) × (Nat → Int32) × (Nat → Int32) × (Nat → Int32)) :=
  (m_X5_rewind).bind fun rv1 =>
  m_X1_carryOut_9 fu t_len t_by fu r_cl r_no t_st rv1 t_kd b_n b_L b_U b_H b_O b_B (nI 1)
def m_X2_remember (fu : Nat) (h_sz : Int32) (h_nx : Int32) (y_L : Nat → Int32) (y_U : Nat → Int32) (y_H : Nat → Int32) (y_O : Nat → Int32) (y_B : Nat → Int32) (a_n : Int32) (a_L : Nat → Int32) (a_U : Nat → Int32) (a_H : Nat → Int32) (a_O : Nat → Int32) (a_B : Nat → Int32) : Option (Int32 × Int32 × Int32 × (Nat → Int32) × (Nat → Int32) × (Nat → Int32) × (Nat → Int32) × (Nat → Int32)) :=
  gd 8 h_nx <|
  (m_X3_become fu y_L y_U y_H y_O y_B a_n a_L a_U a_H a_O a_B).bind fun rv1 =>
  some ((if (nI 8) < (h_sz + (nI 1)) then (nI 8) else (h_sz + (nI 1))), ((h_nx + (nI 1)) - (h_nx + (nI 1)) / (nI 8) * (nI 8)), rv1.1, rv1.2.1, rv1.2.2.1, rv1.2.2.2.1, rv1.2.2.2.2.1, rv1.2.2.2.2.2)
def m_X2_restore (fu : Nat) (h_sz : Int32) (h_nx : Int32) (y_n : Int32) (y_L : Nat → Int32) (y_U : Nat → Int32) (y_H : Nat → Int32) (y_O : Nat → Int32) (y_B : Nat → Int32) (a_n : Int32) (a_L : Nat → Int32) (a_U : Nat → Int32) (a_H : Nat → Int32) (a_O : Nat → Int32) (a_B : Nat → Int32) : Option (Int32 × Int32 × Int32 × (Nat → Int32) × (Nat → Int32) × (Nat → Int32) × (Nat → Int32) × (Nat → Int32)) :=
  if h_sz = (nI 0) then
    some (h_sz, h_nx, a_n, a_L, a_U, a_H, a_O, a_B)
  else
    gd 8 (((h_nx + (nI 8)) - (nI 1)) - ((h_nx + (nI 8)) - (nI 1)) / (nI 8) * (nI 8)) <|
    (m_X3_become fu a_L a_U a_H a_O a_B y_n y_L y_U y_H y_O y_B).bind fun rv1 =>
    some ((h_sz - (nI 1)), (((h_nx + (nI 8)) - (nI 1)) - ((h_nx + (nI 8)) - (nI 1)) / (nI 8) * (nI 8)), rv1.1, rv1.2.1, rv1.2.2.1, rv1.2.2.2.1, rv1.2.2.2.2.1, rv1.2.2.2.2.2)
def m_X2_forget : Option (Int32) :=
  some (nI 0)
def m_X3_hasSection (a_n : Int32) (x1 : Int32) : Option (Int32) :=
  if x1 < (nI 0) then
    some (nI 0)
  else
    if a_n ≤ x1 then
      some (nI 0)
    else
      some (nI 1)
def m_X3_hasPlace (a_n : Int32) (x1 : Int32) : Option (Int32) :=
  if x1 < (nI 0) then
    some (nI 0)
  else
    if a_n ≤ x1 then
      some (nI 0)
    else
      some (nI 1)
def m_X3_orderAfterMove_69 (a_O : Nat → Int32) (x1 : Int32) (x2 : Int32) : Nat → (Nat → Int32) → Int32 → Option ((Nat → Int32))
  | 0, _, _ => none
  | fn + 1, w_a, x5 =>
    if x5 ≤ x2 then
      gd 10 x2 <|
      some (upd w_a x2.toNatClampNeg x1)
    else
      gd 10 (x5 - (nI 1)) <|
      gd 10 x5 <|
      m_X3_orderAfterMove_69 a_O x1 x2 fn (upd w_a x5.toNatClampNeg (a_O (x5 - (nI 1)).toNatClampNeg)) (x5 + (-1 : Int32))
def m_X3_orderAfterMove_40 (fu : Nat) (a_O : Nat → Int32) (x1 : Int32) (x2 : Int32) (x4 : Int32) : Nat → (Nat → Int32) → Int32 → Option ((Nat → Int32))
  | 0, _, _ => none
  | fn + 1, w_a, x5 =>
    if x2 ≤ x5 then
      m_X3_orderAfterMove_69 a_O x1 x2 fu w_a x4
    else
      gd 10 (x5 + (nI 1)) <|
      gd 10 x5 <|
      m_X3_orderAfterMove_40 fu a_O x1 x2 x4 fn (upd w_a x5.toNatClampNeg (a_O (x5 + (nI 1)).toNatClampNeg)) (x5 + (nI 1))
def m_X3_orderAfterMove_10 (fu : Nat) (a_n : Int32) (a_O : Nat → Int32) (x1 : Int32) (x2 : Int32) (x4 : Int32) : Nat → (Nat → Int32) → Int32 → Option ((Nat → Int32))
  | 0, _, _ => none
  | fn + 1, w_a, x5 =>
    if a_n ≤ x5 then
      m_X3_orderAfterMove_40 fu a_O x1 x2 x4 fu w_a x4
    else
      gd 10 x5 <|
      gd 10 x5 <|
      m_X3_orderAfterMove_10 fu a_n a_O x1 x2 x4 fn (upd w_a x5.toNatClampNeg (a_O x5.toNatClampNeg)) (x5 + (nI 1))
def m_X3_orderAfterMove (fu : Nat) (a_n : Int32) (a_O : Nat → Int32) (w_a : Nat → Int32) (x1 : Int32) (x2 : Int32) : Option ((Nat → Int32)) :=
  (m_X3_placeOf fu a_n a_O x1).bind fun rv1 =>
  m_X3_orderAfterMove_10 fu a_n a_O x1 x2 rv1 fu w_a (nI 0)
def m_X3_countPrecedences_4 (a_n : Int32) (a_B : Nat → Int32) : Nat → Int32 → Int32 → Option (Int32)
  | 0, _, _ => none
  | fn + 1, x1, x2 =>
    if a_n ≤ x2 then
      some x1
    else
      gd 10 x2 <|
      (m_J6_bitCount_0f7a4 (a_B x2.toNatClampNeg)).bind fun rv1 =>
      m_X3_countPrecedences_4 a_n a_B fn (x1 + rv1) (x2 + (nI 1))
def m_X3_countPrecedences (fu : Nat) (a_n : Int32) (a_B : Nat → Int32) : Option (Int32) :=
  m_X3_countPrecedences_4 a_n a_B fu (nI 0) (nI 0)
def m_X3_usersOf_4 (a_n : Int32) (a_U : Nat → Int32) (x1 : Int32) : Nat → Int32 → Int32 → Option (Int32)
  | 0, _, _ => none
  | fn + 1, x2, x3 =>
    if a_n ≤ x3 then
      some x2
    else
      gd 10 x3 <|
      (m_X6_has (a_U x3.toNatClampNeg) x1).bind fun rv1 =>
      if rv1 = (nI 0) then
        m_X3_usersOf_4 a_n a_U x1 fn x2 (x3 + (nI 1))
      else
        (m_X6_with x2 x3).bind fun rv2 =>
        m_X3_usersOf_4 a_n a_U x1 fn rv2 (x3 + (nI 1))
def m_X3_usersOf (fu : Nat) (a_n : Int32) (a_U : Nat → Int32) (x1 : Int32) : Option (Int32) :=
  m_X3_usersOf_4 a_n a_U x1 fu (nI 0) (nI 0)
def m_X3_isLoose (fu : Nat) (a_n : Int32) (a_U : Nat → Int32) (a_H : Nat → Int32) (x1 : Int32) : Option (Int32) :=
  gd 12 x1 <|
  if (a_H x1.toNatClampNeg) = (-1 : Int32) then
    (m_X3_usersOf fu a_n a_U x1).bind fun rv1 =>
    if rv1 = (nI 0) then
      some (nI 0)
    else
      some (nI 1)
  else
    some (nI 0)
def m_X3_neededBy_4 (a_U : Nat → Int32) (a_H : Nat → Int32) (x1 : Int32) : Nat → Int32 → Int32 → Option (Int32)
  | 0, _, _ => none
  | fn + 1, x2, x3 =>
    if (nI 12) ≤ x3 then
      some x2
    else
      gd 12 x3 <|
      if (a_H x3.toNatClampNeg) = (-1 : Int32) then
        m_X3_neededBy_4 a_U a_H x1 fn x2 (x3 + (nI 1))
      else
        if (a_H x3.toNatClampNeg) = x1 then
          m_X3_neededBy_4 a_U a_H x1 fn x2 (x3 + (nI 1))
        else
          gd 10 x1 <|
          (m_X6_has (a_U x1.toNatClampNeg) x3).bind fun rv1 =>
          if rv1 = (nI 0) then
            m_X3_neededBy_4 a_U a_H x1 fn x2 (x3 + (nI 1))
          else
            (m_X6_with x2 (a_H x3.toNatClampNeg)).bind fun rv2 =>
            m_X3_neededBy_4 a_U a_H x1 fn rv2 (x3 + (nI 1))
def m_X3_neededBy (fu : Nat) (a_U : Nat → Int32) (a_H : Nat → Int32) (x1 : Int32) : Option (Int32) :=
  m_X3_neededBy_4 a_U a_H x1 fu (nI 0) (nI 0)
def m_X3_countLoose_4 (fu : Nat) (a_n : Int32) (a_U : Nat → Int32) (a_H : Nat → Int32) : Nat → Int32 → Int32 → Option (Int32)
  | 0, _, _ => none
  | fn + 1, x1, x2 =>
    if (nI 12) ≤ x2 then
      some x1
    else
      (m_X3_isLoose fu a_n a_U a_H x2).bind fun rv1 =>
      if rv1 = (nI 0) then
        m_X3_countLoose_4 fu a_n a_U a_H fn x1 (x2 + (nI 1))
      else
        m_X3_countLoose_4 fu a_n a_U a_H fn (x1 + (nI 1)) (x2 + (nI 1))
def m_X3_countLoose (fu : Nat) (a_n : Int32) (a_U : Nat → Int32) (a_H : Nat → Int32) : Option (Int32) :=
  m_X3_countLoose_4 fu a_n a_U a_H fu (nI 0) (nI 0)
def m_X3_countHomes_4 (a_H : Nat → Int32) : Nat → Int32 → Int32 → Option (Int32)
  | 0, _, _ => none
  | fn + 1, x1, x2 =>
    if (nI 12) ≤ x2 then
      some x1
    else
      gd 12 x2 <|
      if (a_H x2.toNatClampNeg) = (-1 : Int32) then
        m_X3_countHomes_4 a_H fn x1 (x2 + (nI 1))
      else
        m_X3_countHomes_4 a_H fn (x1 + (nI 1)) (x2 + (nI 1))
def m_X3_countHomes (fu : Nat) (a_H : Nat → Int32) : Option (Int32) :=
  m_X3_countHomes_4 a_H fu (nI 0) (nI 0)
def m_X3_countUses_4 (a_n : Int32) (a_U : Nat → Int32) : Nat → Int32 → Int32 → Option (Int32)
  | 0, _, _ => none
  | fn + 1, x1, x2 =>
    if a_n ≤ x2 then
      some x1
    else
      gd 10 x2 <|
      (m_J6_bitCount_0f7a4 (a_U x2.toNatClampNeg)).bind fun rv1 =>
      m_X3_countUses_4 a_n a_U fn (x1 + rv1) (x2 + (nI 1))
def m_X3_countUses (fu : Nat) (a_n : Int32) (a_U : Nat → Int32) : Option (Int32) :=
  m_X3_countUses_4 a_n a_U fu (nI 0) (nI 0)
def m_X3_sumPages_4 (a_n : Int32) (a_L : Nat → Int32) : Nat → Int32 → Int32 → Option (Int32)
  | 0, _, _ => none
  | fn + 1, x1, x2 =>
    if a_n ≤ x2 then
      some x1
    else
      gd 10 x2 <|
      m_X3_sumPages_4 a_n a_L fn (x1 + (a_L x2.toNatClampNeg)) (x2 + (nI 1))
def m_X3_sumPages (fu : Nat) (a_n : Int32) (a_L : Nat → Int32) : Option (Int32) :=
  m_X3_sumPages_4 a_n a_L fu (nI 0) (nI 0)
def m_X3_earlyTerms_10 (fu : Nat) (a_n : Int32) (a_U : Nat → Int32) (a_H : Nat → Int32) (a_O : Nat → Int32) (x1 : Int32) : Nat → Int32 → Int32 → Option (Int32)
  | 0, _, _ => none
  | fn + 1, x2, x3 =>
    if a_n ≤ x3 then
      gd 10 x1 <|
      some ((a_U x1.toNatClampNeg) &&& x2)
    else
      gd 10 x3 <|
      (m_X3_termsAtHome fu a_H (a_O x3.toNatClampNeg)).bind fun rv2 =>
      m_X3_earlyTerms_10 fu a_n a_U a_H a_O x1 fn (x2 ||| rv2) (x3 + (nI 1))
def m_X3_earlyTerms (fu : Nat) (a_n : Int32) (a_U : Nat → Int32) (a_H : Nat → Int32) (a_O : Nat → Int32) (x1 : Int32) : Option (Int32) :=
  (m_X3_placeOf fu a_n a_O x1).bind fun rv1 =>
  m_X3_earlyTerms_10 fu a_n a_U a_H a_O x1 fu (nI 0) (rv1 + (nI 1))
def m_X3_countEarly_4 (fu : Nat) (a_n : Int32) (a_U : Nat → Int32) (a_H : Nat → Int32) (a_O : Nat → Int32) : Nat → Int32 → Int32 → Option (Int32)
  | 0, _, _ => none
  | fn + 1, x1, x2 =>
    if a_n ≤ x2 then
      some x1
    else
      (m_X3_earlyTerms fu a_n a_U a_H a_O x2).bind fun rv1 =>
      (m_J6_bitCount_0f7a4 rv1).bind fun rv2 =>
      m_X3_countEarly_4 fu a_n a_U a_H a_O fn (x1 + rv2) (x2 + (nI 1))
def m_X3_countEarly (fu : Nat) (a_n : Int32) (a_U : Nat → Int32) (a_H : Nat → Int32) (a_O : Nat → Int32) : Option (Int32) :=
  m_X3_countEarly_4 fu a_n a_U a_H a_O fu (nI 0) (nI 0)
def m_X3_notedTerms_7 (fu : Nat) (a_n : Int32) (a_U : Nat → Int32) (a_H : Nat → Int32) (w_a : Nat → Int32) : Nat → Int32 → Int32 → Int32 → Option (Int32)
  | 0, _, _, _ => none
  | fn + 1, x2, x3, x4 =>
    if a_n ≤ x4 then
      some x2
    else
      gd 10 x4 <|
      (m_X3_termsAtHome fu a_H (w_a x4.toNatClampNeg)).bind fun rv1 =>
      gd 10 (w_a x4.toNatClampNeg) <|
      m_X3_notedTerms_7 fu a_n a_U a_H w_a fn (x2 ||| (x3 &&& rv1)) (x3 ||| (a_U (w_a x4.toNatClampNeg).toNatClampNeg)) (x4 + (nI 1))
def m_X3_notedTerms (fu : Nat) (a_n : Int32) (a_U : Nat → Int32) (a_H : Nat → Int32) (w_a : Nat → Int32) : Option (Int32) :=
  m_X3_notedTerms_7 fu a_n a_U a_H w_a fu (nI 0) (nI 0) (nI 0)
def m_X3_countNotes (fu : Nat) (a_n : Int32) (a_U : Nat → Int32) (a_H : Nat → Int32) (w_a : Nat → Int32) : Option (Int32) :=
  (m_X3_notedTerms fu a_n a_U a_H w_a).bind fun rv1 =>
  (m_J6_bitCount_0f7a4 rv1).bind fun rv2 =>
  some rv2
def m_X3_noteSection_16 (a_n : Int32) (a_U : Nat → Int32) (a_O : Nat → Int32) (x1 : Int32) (x2 : Int32) : Nat → Int32 → Option (Int32)
  | 0, _ => none
  | fn + 1, x3 =>
    if a_n ≤ x3 then
      some (-1 : Int32)
    else
      gd 10 x3 <|
      if (a_O x3.toNatClampNeg) = x2 then
        some (-1 : Int32)
      else
        gd 10 x3 <|
        gd 10 (a_O x3.toNatClampNeg) <|
        (m_X6_has (a_U (a_O x3.toNatClampNeg).toNatClampNeg) x1).bind fun rv1 =>
        if rv1 = (nI 0) then
          m_X3_noteSection_16 a_n a_U a_O x1 x2 fn (x3 + (nI 1))
        else
          gd 10 x3 <|
          some (a_O x3.toNatClampNeg)
def m_X3_noteSection (fu : Nat) (a_n : Int32) (a_U : Nat → Int32) (a_H : Nat → Int32) (a_O : Nat → Int32) (x1 : Int32) : Option (Int32) :=
  gd 12 x1 <|
  if (a_H x1.toNatClampNeg) = (-1 : Int32) then
    some (-1 : Int32)
  else
    m_X3_noteSection_16 a_n a_U a_O x1 (a_H x1.toNatClampNeg) fu (nI 0)
def m_X3_notesIn_4 (fu : Nat) (a_n : Int32) (a_U : Nat → Int32) (a_H : Nat → Int32) (a_O : Nat → Int32) (x1 : Int32) : Nat → Int32 → Int32 → Option (Int32)
  | 0, _, _ => none
  | fn + 1, x2, x3 =>
    if (nI 12) ≤ x3 then
      some x2
    else
      (m_X3_noteSection fu a_n a_U a_H a_O x3).bind fun rv1 =>
      if rv1 = x1 then
        (m_X6_with x2 x3).bind fun rv2 =>
        m_X3_notesIn_4 fu a_n a_U a_H a_O x1 fn rv2 (x3 + (nI 1))
      else
        m_X3_notesIn_4 fu a_n a_U a_H a_O x1 fn x2 (x3 + (nI 1))
def m_X3_notesIn (fu : Nat) (a_n : Int32) (a_U : Nat → Int32) (a_H : Nat → Int32) (a_O : Nat → Int32) (x1 : Int32) : Option (Int32) :=
  m_X3_notesIn_4 fu a_n a_U a_H a_O x1 fu (nI 0) (nI 0)
def m_X3_noteLength_70 (a_L : Nat → Int32) (s0 : Int32) (x4 : Int32) (x6 : Int32) (x7 : Int32) (kt23 : Int32 → Int32 → Int32 → Option (Int32)) : Option (Int32) :=
  if s0 = (nI 0) then
    kt23 x4 s0 (x6 + (nI 1))
  else
    gd 10 x7 <|
    kt23 (x4 + (a_L x7.toNatClampNeg)) s0 (x6 + (nI 1))
def m_X3_noteLength_23 (a_n : Int32) (a_L : Nat → Int32) (a_U : Nat → Int32) (w_a : Nat → Int32) (x1 : Int32) (x3 : Int32) : Nat → Int32 → Int32 → Int32 → Option (Int32)
  | 0, _, _, _ => none
  | fn + 1, x4, x5, x6 =>
    if a_n ≤ x6 then
      some x4
    else
      gd 10 x6 <|
      if (w_a x6.toNatClampNeg) = x3 then
        some x4
      else
        gd 10 x6 <|
        if x5 = (nI 0) then
          gd 10 (w_a x6.toNatClampNeg) <|
          (m_X6_has (a_U (w_a x6.toNatClampNeg).toNatClampNeg) x1).bind fun rv1 =>
          if rv1 = (nI 0) then
            m_X3_noteLength_70 a_L (nI 0) x4 x6 (w_a x6.toNatClampNeg) (m_X3_noteLength_23 a_n a_L a_U w_a x1 x3 fn)
          else
            m_X3_noteLength_70 a_L (nI 1) x4 x6 (w_a x6.toNatClampNeg) (m_X3_noteLength_23 a_n a_L a_U w_a x1 x3 fn)
        else
          m_X3_noteLength_70 a_L (nI 1) x4 x6 (w_a x6.toNatClampNeg) (m_X3_noteLength_23 a_n a_L a_U w_a x1 x3 fn)
def m_X3_noteLength (fu : Nat) (a_n : Int32) (a_L : Nat → Int32) (a_U : Nat → Int32) (a_H : Nat → Int32) (w_a : Nat → Int32) (x1 : Int32) : Option (Int32) :=
  gd 12 x1 <|
  if (a_H x1.toNatClampNeg) = (-1 : Int32) then
    some (nI 0)
  else
    m_X3_noteLength_23 a_n a_L a_U w_a x1 (a_H x1.toNatClampNeg) fu (nI 0) (nI 0) (nI 0)
def m_X3_sumNoteLengths_4 (fu : Nat) (a_n : Int32) (a_L : Nat → Int32) (a_U : Nat → Int32) (a_H : Nat → Int32) (w_a : Nat → Int32) : Nat → Int32 → Int32 → Option (Int32)
  | 0, _, _ => none
  | fn + 1, x2, x3 =>
    if (nI 12) ≤ x3 then
      some x2
    else
      (m_X3_noteLength fu a_n a_L a_U a_H w_a x3).bind fun rv1 =>
      m_X3_sumNoteLengths_4 fu a_n a_L a_U a_H w_a fn (x2 + rv1) (x3 + (nI 1))
def m_X3_sumNoteLengths (fu : Nat) (a_n : Int32) (a_L : Nat → Int32) (a_U : Nat → Int32) (a_H : Nat → Int32) (w_a : Nat → Int32) : Option (Int32) :=
  m_X3_sumNoteLengths_4 fu a_n a_L a_U a_H w_a fu (nI 0) (nI 0)
def m_X4_draw_63 (g_n : Int32) (x2 : Int32) (kt53 : (Nat → Int32) → Int32 → Option (Int32 × (Nat → Int32) × (Nat → Int32))) : Nat → (Nat → Int32) → Int32 → Option (Int32 × (Nat → Int32) × (Nat → Int32))
  | 0, _, _ => none
  | fn + 1, g_re, x3 =>
    if g_n ≤ x3 then
      kt53 g_re (x2 + (nI 1))
    else
      gd 10 x3 <|
      (m_X6_has (g_re x3.toNatClampNeg) x2).bind fun rv3 =>
      if rv3 = (nI 0) then
        m_X4_draw_63 g_n x2 kt53 fn g_re (x3 + (nI 1))
      else
        gd 10 x3 <|
        gd 10 x2 <|
        gd 10 x3 <|
        m_X4_draw_63 g_n x2 kt53 fn (upd g_re x3.toNatClampNeg ((g_re x3.toNatClampNeg) ||| (g_re x2.toNatClampNeg))) (x3 + (nI 1))
def m_X4_draw_53 (fu : Nat) (g_n : Int32) (g_ne : Nat → Int32) : Nat → (Nat → Int32) → Int32 → Option (Int32 × (Nat → Int32) × (Nat → Int32))
  | 0, _, _ => none
  | fn + 1, g_re, x2 =>
    if g_n ≤ x2 then
      some (g_n, g_ne, g_re)
    else
      m_X4_draw_63 g_n x2 (m_X4_draw_53 fu g_n g_ne fn) fu g_re (nI 0)
def m_X4_draw_10 (fu : Nat) (g_n : Int32) (a_U : Nat → Int32) (a_H : Nat → Int32) : Nat → (Nat → Int32) → (Nat → Int32) → Int32 → Option (Int32 × (Nat → Int32) × (Nat → Int32))
  | 0, _, _, _ => none
  | fn + 1, g_ne, g_re, x2 =>
    if g_n ≤ x2 then
      m_X4_draw_53 fu g_n g_ne fu g_re (nI 0)
    else
      (m_X3_neededBy fu a_U a_H x2).bind fun rv1 =>
      gd 10 x2 <|
      gd 10 x2 <|
      (m_X6_with ((upd g_ne x2.toNatClampNeg rv1) x2.toNatClampNeg) x2).bind fun rv2 =>
      gd 10 x2 <|
      m_X4_draw_10 fu g_n a_U a_H fn (upd g_ne x2.toNatClampNeg rv1) (upd g_re x2.toNatClampNeg rv2) (x2 + (nI 1))
def m_X4_draw (fu : Nat) (g_ne : Nat → Int32) (g_re : Nat → Int32) (a_n : Int32) (a_U : Nat → Int32) (a_H : Nat → Int32) : Option (Int32 × (Nat → Int32) × (Nat → Int32)) :=
  m_X4_draw_10 fu a_n a_U a_H fu g_ne g_re (nI 0)
def m_X4_component_4 (g_n : Int32) (g_re : Nat → Int32) (x1 : Int32) : Nat → Int32 → Int32 → Option (Int32)
  | 0, _, _ => none
  | fn + 1, x2, x3 =>
    if g_n ≤ x3 then
      some x2
    else
      gd 10 x1 <|
      (m_X6_has (g_re x1.toNatClampNeg) x3).bind fun rv1 =>
      if rv1 = (nI 0) then
        m_X4_component_4 g_n g_re x1 fn x2 (x3 + (nI 1))
      else
        gd 10 x3 <|
        (m_X6_has (g_re x3.toNatClampNeg) x1).bind fun rv2 =>
        if rv2 = (nI 0) then
          m_X4_component_4 g_n g_re x1 fn x2 (x3 + (nI 1))
        else
          (m_X6_with x2 x3).bind fun rv3 =>
          m_X4_component_4 g_n g_re x1 fn rv3 (x3 + (nI 1))
def m_X4_component (fu : Nat) (g_n : Int32) (g_re : Nat → Int32) (x1 : Int32) : Option (Int32) :=
  m_X4_component_4 g_n g_re x1 fu (nI 0) (nI 0)
def m_X4_countLargeComponents_33 (s0 : Int32) (x1 : Int32) (x2 : Int32) (x3 : Int32) (kt4 : Int32 → Int32 → Option (Int32)) : Option (Int32) :=
  if s0 = (nI 0) then
    kt4 x1 (x2 + (nI 1))
  else
    (m_J6_bitCount_0f7a4 x3).bind fun rv2 =>
    if rv2 < (nI 2) then
      kt4 x1 (x2 + (nI 1))
    else
      kt4 (x1 + (nI 1)) (x2 + (nI 1))
def m_X4_countLargeComponents_4 (fu : Nat) (g_n : Int32) (g_re : Nat → Int32) : Nat → Int32 → Int32 → Option (Int32)
  | 0, _, _ => none
  | fn + 1, x1, x2 =>
    if g_n ≤ x2 then
      some x1
    else
      (m_X4_component fu g_n g_re x2).bind fun rv1 =>
      if (rv1 &&& (((nI 1) <<< (x2 &&& 31)) - (nI 1))) = (nI 0) then
        m_X4_countLargeComponents_33 (nI 1) x1 x2 rv1 (m_X4_countLargeComponents_4 fu g_n g_re fn)
      else
        m_X4_countLargeComponents_33 (nI 0) x1 x2 rv1 (m_X4_countLargeComponents_4 fu g_n g_re fn)
def m_X4_countLargeComponents (fu : Nat) (g_n : Int32) (g_re : Nat → Int32) : Option (Int32) :=
  m_X4_countLargeComponents_4 fu g_n g_re fu (nI 0) (nI 0)
def m_X4_sectionsThatNeedOneOf_4 (g_n : Int32) (g_ne : Nat → Int32) (x1 : Int32) : Nat → Int32 → Int32 → Option (Int32)
  | 0, _, _ => none
  | fn + 1, x2, x3 =>
    if g_n ≤ x3 then
      some x2
    else
      gd 10 x3 <|
      if ((g_ne x3.toNatClampNeg) &&& x1) = (nI 0) then
        m_X4_sectionsThatNeedOneOf_4 g_n g_ne x1 fn x2 (x3 + (nI 1))
      else
        (m_X6_with x2 x3).bind fun rv1 =>
        m_X4_sectionsThatNeedOneOf_4 g_n g_ne x1 fn rv1 (x3 + (nI 1))
def m_X4_sectionsThatNeedOneOf (fu : Nat) (g_n : Int32) (g_ne : Nat → Int32) (x1 : Int32) : Option (Int32) :=
  m_X4_sectionsThatNeedOneOf_4 g_n g_ne x1 fu (nI 0) (nI 0)
def m_X4_stepsAround_11 (fu : Nat) (g_n : Int32) (g_ne : Nat → Int32) (x1 : Int32) : Nat → (Nat → Int32) → Int32 → Option (Int32 × (Nat → Int32))
  | 0, _, _ => none
  | fn + 1, g_ts, x2 =>
    if g_n < x2 then
      some ((nI 0), g_ts)
    else
      gd 11 (x2 - (nI 1)) <|
      (m_X4_sectionsThatNeedOneOf fu g_n g_ne (g_ts (x2 - (nI 1)).toNatClampNeg)).bind fun rv1 =>
      gd 11 x2 <|
      gd 11 x2 <|
      (m_X6_has ((upd g_ts x2.toNatClampNeg rv1) x2.toNatClampNeg) x1).bind fun rv2 =>
      if rv2 = (nI 0) then
        m_X4_stepsAround_11 fu g_n g_ne x1 fn (upd g_ts x2.toNatClampNeg rv1) (x2 + (nI 1))
      else
        some (x2, (upd g_ts x2.toNatClampNeg rv1))
def m_X4_stepsAround (fu : Nat) (g_n : Int32) (g_ne : Nat → Int32) (g_ts : Nat → Int32) (x1 : Int32) : Option (Int32 × (Nat → Int32)) :=
  gd 11 (nI 0) <|
  m_X4_stepsAround_11 fu g_n g_ne x1 fu (upd g_ts (nI 0).toNatClampNeg ((nI 1) <<< (x1 &&& 31))) (nI 1)
def m_X4_firstOf_2 (g_n : Int32) (x1 : Int32) : Nat → Int32 → Option (Int32)
  | 0, _ => none
  | fn + 1, x2 =>
    if g_n ≤ x2 then
      some (nI 0)
    else
      (m_X6_has x1 x2).bind fun rv1 =>
      if rv1 = (nI 0) then
        m_X4_firstOf_2 g_n x1 fn (x2 + (nI 1))
      else
        some x2
def m_X4_firstOf (fu : Nat) (g_n : Int32) (x1 : Int32) : Option (Int32) :=
  m_X4_firstOf_2 g_n x1 fu (nI 0)
def m_X4_writeRing_15 (fu : Nat) (g_rl : Int32) (g_n : Int32) (g_ne : Nat → Int32) (g_ts : Nat → Int32) : Nat → (Nat → Int32) → Int32 → Option ((Nat → Int32) × (Nat → Int32))
  | 0, _, _ => none
  | fn + 1, g_ri, x2 =>
    if g_rl ≤ x2 then
      some (g_ri, g_ts)
    else
      gd 10 (x2 - (nI 1)) <|
      gd 10 (g_ri (x2 - (nI 1)).toNatClampNeg) <|
      gd 11 (g_rl - x2) <|
      (m_X4_firstOf fu g_n ((g_ne (g_ri (x2 - (nI 1)).toNatClampNeg).toNatClampNeg) &&& (g_ts (g_rl - x2).toNatClampNeg))).bind fun rv2 =>
      gd 10 x2 <|
      m_X4_writeRing_15 fu g_rl g_n g_ne g_ts fn (upd g_ri x2.toNatClampNeg rv2) (x2 + (nI 1))
def m_X4_writeRing (fu : Nat) (g_rl : Int32) (g_n : Int32) (g_ri : Nat → Int32) (g_ne : Nat → Int32) (g_ts : Nat → Int32) (x1 : Int32) : Option ((Nat → Int32) × (Nat → Int32)) :=
  (m_X4_stepsAround fu g_n g_ne g_ts x1).bind fun rv1 =>
  gd 10 (nI 0) <|
  m_X4_writeRing_15 fu g_rl g_n g_ne rv1.2 fu (upd g_ri (nI 0).toNatClampNeg x1) (nI 1)
def m_X4_findRing_42 (g_ts : Nat → Int32) (x2 : Int32) (x3 : Int32) (kt9 : Int32 → (Nat → Int32) → Int32 → Int32 → Option (Int32 × (Nat → Int32) × (Nat → Int32))) : Option (Int32 × (Nat → Int32) × (Nat → Int32)) :=
  kt9 x3 g_ts x2 (x2 + (nI 1))
def m_X4_findRing_9 (fu : Nat) (g_n : Int32) (g_ri : Nat → Int32) (g_ne : Nat → Int32) : Nat → Int32 → (Nat → Int32) → Int32 → Int32 → Option (Int32 × (Nat → Int32) × (Nat → Int32))
  | 0, _, _, _, _ => none
  | fn + 1, g_rl, g_ts, x1, x2 =>
    if g_n ≤ x2 then
      if g_rl ≤ (nI 0) then
        some (g_rl, g_ri, g_ts)
      else
        (m_X4_writeRing fu g_rl g_n g_ri g_ne g_ts x1).bind fun rv1 =>
        some (g_rl, rv1.1, rv1.2)
    else
      (m_X4_stepsAround fu g_n g_ne g_ts x2).bind fun rv2 =>
      if rv2.1 ≤ (nI 0) then
        m_X4_findRing_9 fu g_n g_ri g_ne fn g_rl rv2.2 x1 (x2 + (nI 1))
      else
        if g_rl = (nI 0) then
          m_X4_findRing_42 rv2.2 x2 rv2.1 (m_X4_findRing_9 fu g_n g_ri g_ne fn)
        else
          if g_rl ≤ rv2.1 then
            m_X4_findRing_9 fu g_n g_ri g_ne fn g_rl rv2.2 x1 (x2 + (nI 1))
          else
            m_X4_findRing_42 rv2.2 x2 rv2.1 (m_X4_findRing_9 fu g_n g_ri g_ne fn)
def m_X4_findRing (fu : Nat) (g_n : Int32) (g_ri : Nat → Int32) (g_ne : Nat → Int32) (g_ts : Nat → Int32) : Option (Int32 × (Nat → Int32) × (Nat → Int32)) :=
  m_X4_findRing_9 fu g_n g_ri g_ne fu (nI 0) g_ts (nI 0) (nI 0)
def m_X5_append (t_len : Int32) (t_by : Nat → Int32) (x1 : Int32) : Option (Int32 × (Nat → Int32)) :=
  if (nI 200) ≤ t_len then
    some (t_len, t_by)
  else
    gd 200 t_len <|
    some ((t_len + (nI 1)), (upd t_by t_len.toNatClampNeg x1))
def m_X5_clear : Option (Int32) :=
  some (nI 0)
def m_X6_write (t_len : Int32) (t_by : Nat → Int32) (x1 : Int32) : Option (Int32 × Int32 × (Nat → Int32)) :=
  if x1 < (nI 0) then
    some ((-3 : Int32), t_len, t_by)
  else
    if x1 ≤ (nI 255) then
      if t_len < (nI 200) then
        (m_X5_append t_len t_by x1).bind fun rv1 =>
        some (rv1.1, rv1.1, rv1.2)
      else
        some ((-5 : Int32), t_len, t_by)
    else
      some ((-3 : Int32), t_len, t_by)
def m_X6_erase (t_len : Int32) : Option (Int32 × Int32) :=
  (m_X5_clear).bind fun rv1 =>
  some (t_len, rv1)
def m_X6_fault (fu : Nat) (a_n : Int32) (a_L : Nat → Int32) (a_U : Nat → Int32) (a_H : Nat → Int32) (a_O : Nat → Int32) (a_B : Nat → Int32) (b_L : Nat → Int32) (b_U : Nat → Int32) (b_H : Nat → Int32) (b_O : Nat → Int32) (b_B : Nat → Int32) (r_cl : Int32) (r_no : Nat → Int32) (t_len : Int32) (t_st : Int32) (t_kd : Int32) (t_by : Nat → Int32) : Option (Int32 × Int32 × (Nat → Int32) × (Nat → Int32) × (Nat → Int32) × (Nat → Int32) × (Nat → Int32) × Int32 × (Nat → Int32) × Int32 × Int32 × Int32) :=
  (m_X3_become fu b_L b_U b_H b_O b_B a_n a_L a_U a_H a_O a_B).bind fun rv1 =>
  (m_X1_carryOut fu r_cl r_no t_len t_st t_kd t_by rv1.1 rv1.2.1 rv1.2.2.1 rv1.2.2.2.1 rv1.2.2.2.2.1 rv1.2.2.2.2.2).bind fun rv2 =>
  some (rv2.1, rv2.2.2.2.2.2.2.1, rv2.2.2.2.2.2.2.2.1, rv2.2.2.2.2.2.2.2.2.1, rv2.2.2.2.2.2.2.2.2.2.1, rv2.2.2.2.2.2.2.2.2.2.2.1, rv2.2.2.2.2.2.2.2.2.2.2.2, rv2.2.1, rv2.2.2.1, rv2.2.2.2.1, rv2.2.2.2.2.1, rv2.2.2.2.2.2.1)
def m_X6_tell (fu : Nat) (a_n : Int32) (a_L : Nat → Int32) (a_U : Nat → Int32) (a_H : Nat → Int32) (a_O : Nat → Int32) (a_B : Nat → Int32) (b_L : Nat → Int32) (b_U : Nat → Int32) (b_H : Nat → Int32) (b_O : Nat → Int32) (b_B : Nat → Int32) (r_cl : Int32) (r_no : Nat → Int32) (t_len : Int32) (t_st : Int32) (t_kd : Int32) (t_by : Nat → Int32) (h_sz : Int32) : Option (Int32 × Int32 × (Nat → Int32) × (Nat → Int32) × (Nat → Int32) × (Nat → Int32) × (Nat → Int32) × Int32 × (Nat → Int32) × (Nat → Int32) × (Nat → Int32) × (Nat → Int32) × (Nat → Int32) × Int32 × (Nat → Int32) × Int32 × Int32 × Int32 × Int32 × Int32) :=
  (m_X3_become fu b_L b_U b_H b_O b_B a_n a_L a_U a_H a_O a_B).bind fun rv1 =>
  (m_X1_carryOut fu r_cl r_no t_len t_st t_kd t_by rv1.1 rv1.2.1 rv1.2.2.1 rv1.2.2.2.1 rv1.2.2.2.2.1 rv1.2.2.2.2.2).bind fun rv2 =>
  if rv2.1 = (-1 : Int32) then
    (m_X3_become fu a_L a_U a_H a_O a_B rv2.2.2.2.2.2.2.1 rv2.2.2.2.2.2.2.2.1 rv2.2.2.2.2.2.2.2.2.1 rv2.2.2.2.2.2.2.2.2.2.1 rv2.2.2.2.2.2.2.2.2.2.2.1 rv2.2.2.2.2.2.2.2.2.2.2.2).bind fun rv3 =>
    (m_X5_clear).bind fun rv4 =>
    (m_X2_forget).bind fun rv5 =>
    some (rv2.2.1, rv3.1, rv3.2.1, rv3.2.2.1, rv3.2.2.2.1, rv3.2.2.2.2.1, rv3.2.2.2.2.2, rv2.2.2.2.2.2.2.1, rv2.2.2.2.2.2.2.2.1, rv2.2.2.2.2.2.2.2.2.1, rv2.2.2.2.2.2.2.2.2.2.1, rv2.2.2.2.2.2.2.2.2.2.2.1, rv2.2.2.2.2.2.2.2.2.2.2.2, rv2.2.1, rv2.2.2.1, rv4, rv2.2.2.2.1, rv2.2.2.2.2.1, rv2.2.2.2.2.2.1, rv5)
  else
    some ((-4 : Int32), a_n, a_L, a_U, a_H, a_O, a_B, rv2.2.2.2.2.2.2.1, rv2.2.2.2.2.2.2.2.1, rv2.2.2.2.2.2.2.2.2.1, rv2.2.2.2.2.2.2.2.2.2.1, rv2.2.2.2.2.2.2.2.2.2.2.1, rv2.2.2.2.2.2.2.2.2.2.2.2, rv2.2.1, rv2.2.2.1, t_len, rv2.2.2.2.1, rv2.2.2.2.2.1, rv2.2.2.2.2.2.1, h_sz)
def m_X6_pages (fu : Nat) (a_n : Int32) (a_L : Nat → Int32) (a_U : Nat → Int32) (a_H : Nat → Int32) (a_O : Nat → Int32) (a_B : Nat → Int32) (h_sz : Int32) (h_nx : Int32) (y_n : Int32) (y_L : Nat → Int32) (y_U : Nat → Int32) (y_H : Nat → Int32) (y_O : Nat → Int32) (y_B : Nat → Int32) (x1 : Int32) (x2 : Int32) : Option (Int32 × (Nat → Int32) × Int32 × Int32 × Int32 × (Nat → Int32) × (Nat → Int32) × (Nat → Int32) × (Nat → Int32) × (Nat → Int32)) :=
  (m_X3_hasSection a_n x1).bind fun rv1 =>
  if rv1 = (nI 0) then
    some ((-2 : Int32), a_L, h_sz, h_nx, y_n, y_L, y_U, y_H, y_O, y_B)
  else
    if x2 < (nI 1) then
      some ((-3 : Int32), a_L, h_sz, h_nx, y_n, y_L, y_U, y_H, y_O, y_B)
    else
      if x2 ≤ (nI 9) then
        (m_X2_remember fu h_sz h_nx y_L y_U y_H y_O y_B a_n a_L a_U a_H a_O a_B).bind fun rv2 =>
        gd 10 x1 <|
        gd 10 x1 <|
        some ((a_L x1.toNatClampNeg), (upd a_L x1.toNatClampNeg x2), rv2.1, rv2.2.1, rv2.2.2.1, rv2.2.2.2.1, rv2.2.2.2.2.1, rv2.2.2.2.2.2.1, rv2.2.2.2.2.2.2.1, rv2.2.2.2.2.2.2.2)
      else
        some ((-3 : Int32), a_L, h_sz, h_nx, y_n, y_L, y_U, y_H, y_O, y_B)
def m_X6_without (x0 : Int32) (x1 : Int32) : Option (Int32) :=
  some (x0 &&& (((nI 1) <<< (x1 &&& 31)) ^^^ (-1 : Int32)))
def m_X6_uses_83 (a_U : Nat → Int32) (h_sz : Int32) (h_nx : Int32) (y_n : Int32) (y_L : Nat → Int32) (y_U : Nat → Int32) (y_H : Nat → Int32) (y_O : Nat → Int32) (y_B : Nat → Int32) (x1 : Int32) (s1 : Int32) (s2 : Int32) (x4 : Int32) : Option (Int32 × (Nat → Int32) × Int32 × Int32 × Int32 × (Nat → Int32) × (Nat → Int32) × (Nat → Int32) × (Nat → Int32) × (Nat → Int32)) :=
  gd 10 s1 <|
  gd 10 x1 <|
  if ((upd a_U s1.toNatClampNeg s2) x1.toNatClampNeg) = x4 then
    some ((nI 0), (upd a_U s1.toNatClampNeg s2), h_sz, h_nx, y_n, y_L, y_U, y_H, y_O, y_B)
  else
    some ((nI 1), (upd a_U s1.toNatClampNeg s2), h_sz, h_nx, y_n, y_L, y_U, y_H, y_O, y_B)
def m_X6_uses_33 (fu : Nat) (a_n : Int32) (a_L : Nat → Int32) (a_U : Nat → Int32) (a_H : Nat → Int32) (a_O : Nat → Int32) (a_B : Nat → Int32) (h_sz : Int32) (h_nx : Int32) (y_L : Nat → Int32) (y_U : Nat → Int32) (y_H : Nat → Int32) (y_O : Nat → Int32) (y_B : Nat → Int32) (x1 : Int32) (x2 : Int32) (x3 : Int32) : Option (Int32 × (Nat → Int32) × Int32 × Int32 × Int32 × (Nat → Int32) × (Nat → Int32) × (Nat → Int32) × (Nat → Int32) × (Nat → Int32)) :=
  (m_X2_remember fu h_sz h_nx y_L y_U y_H y_O y_B a_n a_L a_U a_H a_O a_B).bind fun rv3 =>
  gd 10 x1 <|
  if x3 = (nI 1) then
    (m_X6_with (a_U x1.toNatClampNeg) x2).bind fun rv5 =>
    m_X6_uses_83 a_U rv3.1 rv3.2.1 rv3.2.2.1 rv3.2.2.2.1 rv3.2.2.2.2.1 rv3.2.2.2.2.2.1 rv3.2.2.2.2.2.2.1 rv3.2.2.2.2.2.2.2 x1 x1 rv5 (a_U x1.toNatClampNeg)
  else
    (m_X6_without (a_U x1.toNatClampNeg) x2).bind fun rv4 =>
    m_X6_uses_83 a_U rv3.1 rv3.2.1 rv3.2.2.1 rv3.2.2.2.1 rv3.2.2.2.2.1 rv3.2.2.2.2.2.1 rv3.2.2.2.2.2.2.1 rv3.2.2.2.2.2.2.2 x1 x1 rv4 (a_U x1.toNatClampNeg)
def m_X6_uses (fu : Nat) (a_n : Int32) (a_L : Nat → Int32) (a_U : Nat → Int32) (a_H : Nat → Int32) (a_O : Nat → Int32) (a_B : Nat → Int32) (h_sz : Int32) (h_nx : Int32) (y_n : Int32) (y_L : Nat → Int32) (y_U : Nat → Int32) (y_H : Nat → Int32) (y_O : Nat → Int32) (y_B : Nat → Int32) (x1 : Int32) (x2 : Int32) (x3 : Int32) : Option (Int32 × (Nat → Int32) × Int32 × Int32 × Int32 × (Nat → Int32) × (Nat → Int32) × (Nat → Int32) × (Nat → Int32) × (Nat → Int32)) :=
  (m_X3_hasSection a_n x1).bind fun rv1 =>
  if rv1 = (nI 0) then
    some ((-2 : Int32), a_U, h_sz, h_nx, y_n, y_L, y_U, y_H, y_O, y_B)
  else
    (m_X6_isTerm x2).bind fun rv2 =>
    if rv2 = (nI 0) then
      some ((-2 : Int32), a_U, h_sz, h_nx, y_n, y_L, y_U, y_H, y_O, y_B)
    else
      if x3 = (nI 0) then
        m_X6_uses_33 fu a_n a_L a_U a_H a_O a_B h_sz h_nx y_L y_U y_H y_O y_B x1 x2 x3
      else
        if x3 = (nI 1) then
          m_X6_uses_33 fu a_n a_L a_U a_H a_O a_B h_sz h_nx y_L y_U y_H y_O y_B x1 x2 x3
        else
          some ((-3 : Int32), a_U, h_sz, h_nx, y_n, y_L, y_U, y_H, y_O, y_B)
def m_X6_home_26 (fu : Nat) (a_n : Int32) (a_L : Nat → Int32) (a_U : Nat → Int32) (a_H : Nat → Int32) (a_O : Nat → Int32) (a_B : Nat → Int32) (h_sz : Int32) (h_nx : Int32) (y_L : Nat → Int32) (y_U : Nat → Int32) (y_H : Nat → Int32) (y_O : Nat → Int32) (y_B : Nat → Int32) (x1 : Int32) (x2 : Int32) : Option (Int32 × (Nat → Int32) × Int32 × Int32 × Int32 × (Nat → Int32) × (Nat → Int32) × (Nat → Int32) × (Nat → Int32) × (Nat → Int32)) :=
  (m_X2_remember fu h_sz h_nx y_L y_U y_H y_O y_B a_n a_L a_U a_H a_O a_B).bind fun rv3 =>
  gd 12 x1 <|
  gd 12 x1 <|
  some ((a_H x1.toNatClampNeg), (upd a_H x1.toNatClampNeg x2), rv3.1, rv3.2.1, rv3.2.2.1, rv3.2.2.2.1, rv3.2.2.2.2.1, rv3.2.2.2.2.2.1, rv3.2.2.2.2.2.2.1, rv3.2.2.2.2.2.2.2)
def m_X6_home (fu : Nat) (a_n : Int32) (a_L : Nat → Int32) (a_U : Nat → Int32) (a_H : Nat → Int32) (a_O : Nat → Int32) (a_B : Nat → Int32) (h_sz : Int32) (h_nx : Int32) (y_n : Int32) (y_L : Nat → Int32) (y_U : Nat → Int32) (y_H : Nat → Int32) (y_O : Nat → Int32) (y_B : Nat → Int32) (x1 : Int32) (x2 : Int32) : Option (Int32 × (Nat → Int32) × Int32 × Int32 × Int32 × (Nat → Int32) × (Nat → Int32) × (Nat → Int32) × (Nat → Int32) × (Nat → Int32)) :=
  (m_X6_isTerm x1).bind fun rv1 =>
  if rv1 = (nI 0) then
    some ((-2 : Int32), a_H, h_sz, h_nx, y_n, y_L, y_U, y_H, y_O, y_B)
  else
    if x2 = (-1 : Int32) then
      m_X6_home_26 fu a_n a_L a_U a_H a_O a_B h_sz h_nx y_L y_U y_H y_O y_B x1 x2
    else
      (m_X3_hasSection a_n x2).bind fun rv2 =>
      if rv2 = (nI 0) then
        some ((-2 : Int32), a_H, h_sz, h_nx, y_n, y_L, y_U, y_H, y_O, y_B)
      else
        m_X6_home_26 fu a_n a_L a_U a_H a_O a_B h_sz h_nx y_L y_U y_H y_O y_B x1 x2
def m_X6_ahead (fu : Nat) (a_n : Int32) (a_L : Nat → Int32) (a_U : Nat → Int32) (a_H : Nat → Int32) (a_O : Nat → Int32) (a_B : Nat → Int32) (h_sz : Int32) (h_nx : Int32) (y_n : Int32) (y_L : Nat → Int32) (y_U : Nat → Int32) (y_H : Nat → Int32) (y_O : Nat → Int32) (y_B : Nat → Int32) (x1 : Int32) (x2 : Int32) : Option (Int32 × (Nat → Int32) × Int32 × Int32 × Int32 × (Nat → Int32) × (Nat → Int32) × (Nat → Int32) × (Nat → Int32) × (Nat → Int32)) :=
  (m_X3_hasSection a_n x1).bind fun rv1 =>
  if rv1 = (nI 0) then
    some ((-2 : Int32), a_B, h_sz, h_nx, y_n, y_L, y_U, y_H, y_O, y_B)
  else
    (m_X3_hasSection a_n x2).bind fun rv2 =>
    if rv2 = (nI 0) then
      some ((-2 : Int32), a_B, h_sz, h_nx, y_n, y_L, y_U, y_H, y_O, y_B)
    else
      if x1 = x2 then
        some ((-2 : Int32), a_B, h_sz, h_nx, y_n, y_L, y_U, y_H, y_O, y_B)
      else
        (m_X3_canTakePrecedence fu a_n a_O a_B x1 x2).bind fun rv3 =>
        if rv3 = (nI 0) then
          some ((-4 : Int32), a_B, h_sz, h_nx, y_n, y_L, y_U, y_H, y_O, y_B)
        else
          (m_X2_remember fu h_sz h_nx y_L y_U y_H y_O y_B a_n a_L a_U a_H a_O a_B).bind fun rv4 =>
          gd 10 x2 <|
          (m_X6_with (a_B x2.toNatClampNeg) x1).bind fun rv5 =>
          gd 10 x2 <|
          (m_X3_countPrecedences fu a_n (upd a_B x2.toNatClampNeg rv5)).bind fun rv6 =>
          some (rv6, (upd a_B x2.toNatClampNeg rv5), rv4.1, rv4.2.1, rv4.2.2.1, rv4.2.2.2.1, rv4.2.2.2.2.1, rv4.2.2.2.2.2.1, rv4.2.2.2.2.2.2.1, rv4.2.2.2.2.2.2.2)
def m_X6_loosen (fu : Nat) (a_n : Int32) (a_L : Nat → Int32) (a_U : Nat → Int32) (a_H : Nat → Int32) (a_O : Nat → Int32) (a_B : Nat → Int32) (h_sz : Int32) (h_nx : Int32) (y_n : Int32) (y_L : Nat → Int32) (y_U : Nat → Int32) (y_H : Nat → Int32) (y_O : Nat → Int32) (y_B : Nat → Int32) (x1 : Int32) (x2 : Int32) : Option (Int32 × (Nat → Int32) × Int32 × Int32 × Int32 × (Nat → Int32) × (Nat → Int32) × (Nat → Int32) × (Nat → Int32) × (Nat → Int32)) :=
  (m_X3_hasSection a_n x1).bind fun rv1 =>
  if rv1 = (nI 0) then
    some ((-2 : Int32), a_B, h_sz, h_nx, y_n, y_L, y_U, y_H, y_O, y_B)
  else
    (m_X3_hasSection a_n x2).bind fun rv2 =>
    if rv2 = (nI 0) then
      some ((-2 : Int32), a_B, h_sz, h_nx, y_n, y_L, y_U, y_H, y_O, y_B)
    else
      gd 10 x2 <|
      (m_X6_has (a_B x2.toNatClampNeg) x1).bind fun rv3 =>
      if rv3 = (nI 0) then
        some ((-4 : Int32), a_B, h_sz, h_nx, y_n, y_L, y_U, y_H, y_O, y_B)
      else
        (m_X2_remember fu h_sz h_nx y_L y_U y_H y_O y_B a_n a_L a_U a_H a_O a_B).bind fun rv4 =>
        gd 10 x2 <|
        (m_X6_without (a_B x2.toNatClampNeg) x1).bind fun rv5 =>
        gd 10 x2 <|
        (m_X3_countPrecedences fu a_n (upd a_B x2.toNatClampNeg rv5)).bind fun rv6 =>
        some (rv6, (upd a_B x2.toNatClampNeg rv5), rv4.1, rv4.2.1, rv4.2.2.1, rv4.2.2.2.1, rv4.2.2.2.2.1, rv4.2.2.2.2.2.1, rv4.2.2.2.2.2.2.1, rv4.2.2.2.2.2.2.2)
def m_X6_tryMove (fu : Nat) (a_n : Int32) (a_U : Nat → Int32) (a_H : Nat → Int32) (a_O : Nat → Int32) (a_B : Nat → Int32) (w_a : Nat → Int32) (x1 : Int32) (x2 : Int32) : Option (Int32 × (Nat → Int32)) :=
  (m_X3_hasSection a_n x1).bind fun rv1 =>
  if rv1 = (nI 0) then
    some ((-2 : Int32), w_a)
  else
    (m_X3_hasPlace a_n x2).bind fun rv2 =>
    if rv2 = (nI 0) then
      some ((-2 : Int32), w_a)
    else
      (m_X3_orderAfterMove fu a_n a_O w_a x1 x2).bind fun rv3 =>
      (m_X3_respectsPrecedences fu a_n a_B rv3).bind fun rv4 =>
      if rv4 = (nI 0) then
        some ((-4 : Int32), rv3)
      else
        (m_X3_countNotes fu a_n a_U a_H rv3).bind fun rv5 =>
        some (rv5, rv3)
def m_X6_move (fu : Nat) (a_n : Int32) (a_L : Nat → Int32) (a_U : Nat → Int32) (a_H : Nat → Int32) (a_O : Nat → Int32) (a_B : Nat → Int32) (h_sz : Int32) (h_nx : Int32) (y_n : Int32) (y_L : Nat → Int32) (y_U : Nat → Int32) (y_H : Nat → Int32) (y_O : Nat → Int32) (y_B : Nat → Int32) (w_a : Nat → Int32) (x1 : Int32) (x2 : Int32) : Option (Int32 × (Nat → Int32) × Int32 × Int32 × Int32 × (Nat → Int32) × (Nat → Int32) × (Nat → Int32) × (Nat → Int32) × (Nat → Int32) × (Nat → Int32)) :=
  (m_X6_tryMove fu a_n a_U a_H a_O a_B w_a x1 x2).bind fun rv1 =>
  if (nI 0) ≤ rv1.1 then
    (m_X2_remember fu h_sz h_nx y_L y_U y_H y_O y_B a_n a_L a_U a_H a_O a_B).bind fun rv2 =>
    (m_X3_takeOrder fu a_n a_O rv1.2).bind fun rv3 =>
    some (rv1.1, rv3, rv2.1, rv2.2.1, rv2.2.2.1, rv2.2.2.2.1, rv2.2.2.2.2.1, rv2.2.2.2.2.2.1, rv2.2.2.2.2.2.2.1, rv2.2.2.2.2.2.2.2, rv1.2)
  else
    some (rv1.1, a_O, h_sz, h_nx, y_n, y_L, y_U, y_H, y_O, y_B, rv1.2)
def m_X6_settle (fu : Nat) (a_n : Int32) (a_L : Nat → Int32) (a_U : Nat → Int32) (a_H : Nat → Int32) (a_O : Nat → Int32) (a_B : Nat → Int32) (h_sz : Int32) (h_nx : Int32) (y_L : Nat → Int32) (y_U : Nat → Int32) (y_H : Nat → Int32) (y_O : Nat → Int32) (y_B : Nat → Int32) (q_nt : Int32) (q_iv : Int32) (q_fd : Int32) (q_or : Nat → Int32) (q_df : Nat → Int32) (q_se : Nat → Int32) (q_co : Nat → Int32) (q_ch : Nat → Int32) (v_n : Int32) (v_L : Nat → Int32) (v_U : Nat → Int32) (v_H : Nat → Int32) (v_O : Nat → Int32) (v_B : Nat → Int32) : Option (Int32 × (Nat → Int32) × Int32 × Int32 × Int32 × (Nat → Int32) × (Nat → Int32) × (Nat → Int32) × (Nat → Int32) × (Nat → Int32) × Int32 × Int32 × Int32 × (Nat → Int32) × (Nat → Int32) × (Nat → Int32) × (Nat → Int32) × (Nat → Int32) × Int32 × (Nat → Int32) × (Nat → Int32) × (Nat → Int32) × (Nat → Int32) × (Nat → Int32)) :=
  (m_X0_find fu q_nt q_iv q_fd q_or q_df q_se q_co q_ch v_n v_L v_U v_H v_O v_B a_n a_L a_U a_H a_O a_B).bind fun rv1 =>
  (m_X2_remember fu h_sz h_nx y_L y_U y_H y_O y_B a_n a_L a_U a_H a_O a_B).bind fun rv2 =>
  (m_X3_takeOrder fu a_n a_O rv1.2.2.2.1).bind fun rv3 =>
  some (rv1.2.1, rv3, rv2.1, rv2.2.1, rv2.2.2.1, rv2.2.2.2.1, rv2.2.2.2.2.1, rv2.2.2.2.2.2.1, rv2.2.2.2.2.2.2.1, rv2.2.2.2.2.2.2.2, rv1.1, rv1.2.1, rv1.2.2.1, rv1.2.2.2.1, rv1.2.2.2.2.1, rv1.2.2.2.2.2.1, rv1.2.2.2.2.2.2.1, rv1.2.2.2.2.2.2.2.1, rv1.2.2.2.2.2.2.2.2.1, rv1.2.2.2.2.2.2.2.2.2.1, rv1.2.2.2.2.2.2.2.2.2.2.1, rv1.2.2.2.2.2.2.2.2.2.2.2.1, rv1.2.2.2.2.2.2.2.2.2.2.2.2.1, rv1.2.2.2.2.2.2.2.2.2.2.2.2.2)
def m_X6_undo (fu : Nat) (a_n : Int32) (a_L : Nat → Int32) (a_U : Nat → Int32) (a_H : Nat → Int32) (a_O : Nat → Int32) (a_B : Nat → Int32) (h_sz : Int32) (h_nx : Int32) (y_n : Int32) (y_L : Nat → Int32) (y_U : Nat → Int32) (y_H : Nat → Int32) (y_O : Nat → Int32) (y_B : Nat → Int32) : Option (Int32 × Int32 × (Nat → Int32) × (Nat → Int32) × (Nat → Int32) × (Nat → Int32) × (Nat → Int32) × Int32 × Int32) :=
  if h_sz = (nI 0) then
    some ((-4 : Int32), a_n, a_L, a_U, a_H, a_O, a_B, h_sz, h_nx)
  else
    (m_X2_restore fu h_sz h_nx y_n y_L y_U y_H y_O y_B a_n a_L a_U a_H a_O a_B).bind fun rv1 =>
    some (rv1.1, rv1.2.2.1, rv1.2.2.2.1, rv1.2.2.2.2.1, rv1.2.2.2.2.2.1, rv1.2.2.2.2.2.2.1, rv1.2.2.2.2.2.2.2, rv1.1, rv1.2.1)
def m_X6_keep (fu : Nat) (a_n : Int32) (a_L : Nat → Int32) (a_U : Nat → Int32) (a_H : Nat → Int32) (a_O : Nat → Int32) (a_B : Nat → Int32) (u_is : Nat → Int32) (z_n : Int32) (z_L : Nat → Int32) (z_U : Nat → Int32) (z_H : Nat → Int32) (z_O : Nat → Int32) (z_B : Nat → Int32) (x1 : Int32) : Option (Int32 × (Nat → Int32) × Int32 × (Nat → Int32) × (Nat → Int32) × (Nat → Int32) × (Nat → Int32) × (Nat → Int32)) :=
  if x1 < (nI 0) then
    some ((-3 : Int32), u_is, z_n, z_L, z_U, z_H, z_O, z_B)
  else
    if x1 < (nI 2) then
      gd 2 x1 <|
      (m_X3_become fu z_L z_U z_H z_O z_B a_n a_L a_U a_H a_O a_B).bind fun rv1 =>
      gd 2 x1 <|
      (m_X3_countNotes fu a_n a_U a_H a_O).bind fun rv2 =>
      some (rv2, (upd u_is x1.toNatClampNeg (nI 1)), rv1.1, rv1.2.1, rv1.2.2.1, rv1.2.2.2.1, rv1.2.2.2.2.1, rv1.2.2.2.2.2)
    else
      some ((-3 : Int32), u_is, z_n, z_L, z_U, z_H, z_O, z_B)
def m_X6_back (fu : Nat) (a_n : Int32) (a_L : Nat → Int32) (a_U : Nat → Int32) (a_H : Nat → Int32) (a_O : Nat → Int32) (a_B : Nat → Int32) (u_is : Nat → Int32) (z_n : Int32) (z_L : Nat → Int32) (z_U : Nat → Int32) (z_H : Nat → Int32) (z_O : Nat → Int32) (z_B : Nat → Int32) (h_sz : Int32) (x1 : Int32) : Option (Int32 × Int32 × (Nat → Int32) × (Nat → Int32) × (Nat → Int32) × (Nat → Int32) × (Nat → Int32) × Int32) :=
  if x1 < (nI 0) then
    some ((-3 : Int32), a_n, a_L, a_U, a_H, a_O, a_B, h_sz)
  else
    if x1 < (nI 2) then
      gd 2 x1 <|
      if (u_is x1.toNatClampNeg) = (nI 0) then
        some ((-4 : Int32), a_n, a_L, a_U, a_H, a_O, a_B, h_sz)
      else
        gd 2 x1 <|
        (m_X3_become fu a_L a_U a_H a_O a_B z_n z_L z_U z_H z_O z_B).bind fun rv1 =>
        (m_X2_forget).bind fun rv2 =>
        (m_X3_countNotes fu rv1.1 rv1.2.2.1 rv1.2.2.2.1 rv1.2.2.2.2.1).bind fun rv3 =>
        some (rv3, rv1.1, rv1.2.1, rv1.2.2.1, rv1.2.2.2.1, rv1.2.2.2.2.1, rv1.2.2.2.2.2, rv2)
    else
      some ((-3 : Int32), a_n, a_L, a_U, a_H, a_O, a_B, h_sz)
def m_X6_at (a_n : Int32) (a_O : Nat → Int32) (x1 : Int32) : Option (Int32) :=
  (m_X3_hasPlace a_n x1).bind fun rv1 =>
  if rv1 = (nI 0) then
    some (-2 : Int32)
  else
    gd 10 x1 <|
    some (a_O x1.toNatClampNeg)
def m_X6_section (fu : Nat) (a_n : Int32) (a_L : Nat → Int32) (a_U : Nat → Int32) (a_H : Nat → Int32) (a_O : Nat → Int32) (a_B : Nat → Int32) (g_n : Int32) (g_ne : Nat → Int32) (g_re : Nat → Int32) (x1 : Int32) (x2 : Int32) : Option (Int32 × Int32 × (Nat → Int32) × (Nat → Int32)) :=
  (m_X3_hasSection a_n x1).bind fun rv1 =>
  if rv1 = (nI 0) then
    some ((-2 : Int32), g_n, g_ne, g_re)
  else
    if x2 = (nI 0) then
      (m_X3_placeOf fu a_n a_O x1).bind fun rv2 =>
      some (rv2, g_n, g_ne, g_re)
    else
      if x2 = (nI 1) then
        gd 10 x1 <|
        some ((a_L x1.toNatClampNeg), g_n, g_ne, g_re)
      else
        if x2 = (nI 2) then
          gd 10 x1 <|
          some ((a_U x1.toNatClampNeg), g_n, g_ne, g_re)
        else
          if x2 = (nI 3) then
            (m_X3_termsAtHome fu a_H x1).bind fun rv3 =>
            some (rv3, g_n, g_ne, g_re)
          else
            if x2 = (nI 4) then
              (m_X3_earlyTerms fu a_n a_U a_H a_O x1).bind fun rv4 =>
              some (rv4, g_n, g_ne, g_re)
            else
              if x2 = (nI 5) then
                (m_X3_notesIn fu a_n a_U a_H a_O x1).bind fun rv5 =>
                some (rv5, g_n, g_ne, g_re)
              else
                if x2 = (nI 6) then
                  (m_X3_neededBy fu a_U a_H x1).bind fun rv6 =>
                  some (rv6, g_n, g_ne, g_re)
                else
                  if x2 = (nI 7) then
                    (m_X4_draw fu g_ne g_re a_n a_U a_H).bind fun rv7 =>
                    (m_X4_component fu rv7.1 rv7.2.2 x1).bind fun rv8 =>
                    some (rv8, rv7.1, rv7.2.1, rv7.2.2)
                  else
                    if x2 = (nI 8) then
                      gd 10 x1 <|
                      some ((a_B x1.toNatClampNeg), g_n, g_ne, g_re)
                    else
                      some ((-3 : Int32), g_n, g_ne, g_re)
def m_X6_term (fu : Nat) (a_n : Int32) (a_L : Nat → Int32) (a_U : Nat → Int32) (a_H : Nat → Int32) (a_O : Nat → Int32) (x1 : Int32) (x2 : Int32) : Option (Int32) :=
  (m_X6_isTerm x1).bind fun rv1 =>
  if rv1 = (nI 0) then
    some (-2 : Int32)
  else
    if x2 = (nI 0) then
      gd 12 x1 <|
      some (a_H x1.toNatClampNeg)
    else
      if x2 = (nI 1) then
        (m_X3_usersOf fu a_n a_U x1).bind fun rv2 =>
        some rv2
      else
        if x2 = (nI 2) then
          (m_X3_noteSection fu a_n a_U a_H a_O x1).bind fun rv3 =>
          some rv3
        else
          if x2 = (nI 3) then
            (m_X3_noteLength fu a_n a_L a_U a_H a_O x1).bind fun rv4 =>
            some rv4
          else
            if x2 = (nI 4) then
              (m_X3_isLoose fu a_n a_U a_H x1).bind fun rv5 =>
              if rv5 = (nI 0) then
                some (nI 0)
              else
                some (nI 1)
            else
              some (-3 : Int32)
def m_X6_ring (fu : Nat) (a_n : Int32) (a_U : Nat → Int32) (a_H : Nat → Int32) (g_rl : Int32) (g_n : Int32) (g_ri : Nat → Int32) (g_ne : Nat → Int32) (g_re : Nat → Int32) (g_ts : Nat → Int32) (x1 : Int32) : Option (Int32 × Int32 × Int32 × (Nat → Int32) × (Nat → Int32) × (Nat → Int32) × (Nat → Int32)) :=
  if (-1 : Int32) ≤ x1 then
    (m_X4_draw fu g_ne g_re a_n a_U a_H).bind fun rv1 =>
    (m_X4_findRing fu rv1.1 g_ri rv1.2.1 g_ts).bind fun rv2 =>
    if x1 = (-1 : Int32) then
      some (rv2.1, rv2.1, rv1.1, rv2.2.1, rv1.2.1, rv1.2.2, rv2.2.2)
    else
      if rv2.1 ≤ x1 then
        some ((-1 : Int32), rv2.1, rv1.1, rv2.2.1, rv1.2.1, rv1.2.2, rv2.2.2)
      else
        gd 10 x1 <|
        some ((rv2.2.1 x1.toNatClampNeg), rv2.1, rv1.1, rv2.2.1, rv1.2.1, rv1.2.2, rv2.2.2)
  else
    some ((-3 : Int32), g_rl, g_n, g_ri, g_ne, g_re, g_ts)
def m_X6_best (fu : Nat) (a_n : Int32) (a_L : Nat → Int32) (a_U : Nat → Int32) (a_H : Nat → Int32) (a_O : Nat → Int32) (a_B : Nat → Int32) (q_nt : Int32) (q_iv : Int32) (q_fd : Int32) (q_or : Nat → Int32) (q_df : Nat → Int32) (q_se : Nat → Int32) (q_co : Nat → Int32) (q_ch : Nat → Int32) (v_n : Int32) (v_L : Nat → Int32) (v_U : Nat → Int32) (v_H : Nat → Int32) (v_O : Nat → Int32) (v_B : Nat → Int32) (x1 : Int32) : Option (Int32 × Int32 × Int32 × Int32 × (Nat → Int32) × (Nat → Int32) × (Nat → Int32) × (Nat → Int32) × (Nat → Int32) × Int32 × (Nat → Int32) × (Nat → Int32) × (Nat → Int32) × (Nat → Int32) × (Nat → Int32)) :=
  (m_X3_hasPlace a_n x1).bind fun rv1 =>
  if rv1 = (nI 0) then
    some ((-2 : Int32), q_nt, q_iv, q_fd, q_or, q_df, q_se, q_co, q_ch, v_n, v_L, v_U, v_H, v_O, v_B)
  else
    (m_X0_find fu q_nt q_iv q_fd q_or q_df q_se q_co q_ch v_n v_L v_U v_H v_O v_B a_n a_L a_U a_H a_O a_B).bind fun rv2 =>
    gd 10 x1 <|
    some ((rv2.2.2.2.1 x1.toNatClampNeg), rv2.1, rv2.2.1, rv2.2.2.1, rv2.2.2.2.1, rv2.2.2.2.2.1, rv2.2.2.2.2.2.1, rv2.2.2.2.2.2.2.1, rv2.2.2.2.2.2.2.2.1, rv2.2.2.2.2.2.2.2.2.1, rv2.2.2.2.2.2.2.2.2.2.1, rv2.2.2.2.2.2.2.2.2.2.2.1, rv2.2.2.2.2.2.2.2.2.2.2.2.1, rv2.2.2.2.2.2.2.2.2.2.2.2.2.1, rv2.2.2.2.2.2.2.2.2.2.2.2.2.2)
def m_X6_least (fu : Nat) (a_n : Int32) (a_L : Nat → Int32) (a_U : Nat → Int32) (a_H : Nat → Int32) (a_O : Nat → Int32) (a_B : Nat → Int32) (q_nt : Int32) (q_iv : Int32) (q_fd : Int32) (q_or : Nat → Int32) (q_df : Nat → Int32) (q_se : Nat → Int32) (q_co : Nat → Int32) (q_ch : Nat → Int32) (v_n : Int32) (v_L : Nat → Int32) (v_U : Nat → Int32) (v_H : Nat → Int32) (v_O : Nat → Int32) (v_B : Nat → Int32) (x1 : Int32) : Option (Int32 × Int32 × Int32 × Int32 × (Nat → Int32) × (Nat → Int32) × (Nat → Int32) × (Nat → Int32) × (Nat → Int32) × Int32 × (Nat → Int32) × (Nat → Int32) × (Nat → Int32) × (Nat → Int32) × (Nat → Int32)) :=
  if x1 < (nI 0) then
    some ((-3 : Int32), q_nt, q_iv, q_fd, q_or, q_df, q_se, q_co, q_ch, v_n, v_L, v_U, v_H, v_O, v_B)
  else
    if x1 ≤ (nI 3) then
      (m_X0_find fu q_nt q_iv q_fd q_or q_df q_se q_co q_ch v_n v_L v_U v_H v_O v_B a_n a_L a_U a_H a_O a_B).bind fun rv1 =>
      if x1 = (nI 0) then
        (m_X3_notedTerms fu a_n a_U a_H rv1.2.2.2.1).bind fun rv2 =>
        some (rv2, rv1.1, rv1.2.1, rv1.2.2.1, rv1.2.2.2.1, rv1.2.2.2.2.1, rv1.2.2.2.2.2.1, rv1.2.2.2.2.2.2.1, rv1.2.2.2.2.2.2.2.1, rv1.2.2.2.2.2.2.2.2.1, rv1.2.2.2.2.2.2.2.2.2.1, rv1.2.2.2.2.2.2.2.2.2.2.1, rv1.2.2.2.2.2.2.2.2.2.2.2.1, rv1.2.2.2.2.2.2.2.2.2.2.2.2.1, rv1.2.2.2.2.2.2.2.2.2.2.2.2.2)
      else
        if x1 = (nI 1) then
          some (rv1.1, rv1.1, rv1.2.1, rv1.2.2.1, rv1.2.2.2.1, rv1.2.2.2.2.1, rv1.2.2.2.2.2.1, rv1.2.2.2.2.2.2.1, rv1.2.2.2.2.2.2.2.1, rv1.2.2.2.2.2.2.2.2.1, rv1.2.2.2.2.2.2.2.2.2.1, rv1.2.2.2.2.2.2.2.2.2.2.1, rv1.2.2.2.2.2.2.2.2.2.2.2.1, rv1.2.2.2.2.2.2.2.2.2.2.2.2.1, rv1.2.2.2.2.2.2.2.2.2.2.2.2.2)
        else
          if x1 = (nI 2) then
            some (rv1.2.1, rv1.1, rv1.2.1, rv1.2.2.1, rv1.2.2.2.1, rv1.2.2.2.2.1, rv1.2.2.2.2.2.1, rv1.2.2.2.2.2.2.1, rv1.2.2.2.2.2.2.2.1, rv1.2.2.2.2.2.2.2.2.1, rv1.2.2.2.2.2.2.2.2.2.1, rv1.2.2.2.2.2.2.2.2.2.2.1, rv1.2.2.2.2.2.2.2.2.2.2.2.1, rv1.2.2.2.2.2.2.2.2.2.2.2.2.1, rv1.2.2.2.2.2.2.2.2.2.2.2.2.2)
          else
            (m_X3_sumNoteLengths fu a_n a_L a_U a_H rv1.2.2.2.1).bind fun rv3 =>
            some (rv3, rv1.1, rv1.2.1, rv1.2.2.1, rv1.2.2.2.1, rv1.2.2.2.2.1, rv1.2.2.2.2.2.1, rv1.2.2.2.2.2.2.1, rv1.2.2.2.2.2.2.2.1, rv1.2.2.2.2.2.2.2.2.1, rv1.2.2.2.2.2.2.2.2.2.1, rv1.2.2.2.2.2.2.2.2.2.2.1, rv1.2.2.2.2.2.2.2.2.2.2.2.1, rv1.2.2.2.2.2.2.2.2.2.2.2.2.1, rv1.2.2.2.2.2.2.2.2.2.2.2.2.2)
    else
      some ((-3 : Int32), q_nt, q_iv, q_fd, q_or, q_df, q_se, q_co, q_ch, v_n, v_L, v_U, v_H, v_O, v_B)
def m_X6_would (fu : Nat) (a_n : Int32) (a_L : Nat → Int32) (a_U : Nat → Int32) (a_H : Nat → Int32) (a_O : Nat → Int32) (a_B : Nat → Int32) (b_n : Int32) (b_L : Nat → Int32) (b_U : Nat → Int32) (b_H : Nat → Int32) (b_O : Nat → Int32) (b_B : Nat → Int32) (q_nt : Int32) (q_iv : Int32) (q_fd : Int32) (q_or : Nat → Int32) (q_df : Nat → Int32) (q_se : Nat → Int32) (q_co : Nat → Int32) (q_ch : Nat → Int32) (v_n : Int32) (v_L : Nat → Int32) (v_U : Nat → Int32) (v_H : Nat → Int32) (v_O : Nat → Int32) (v_B : Nat → Int32) (x1 : Int32) (x2 : Int32) : Option (Int32 × Int32 × (Nat → Int32) × (Nat → Int32) × (Nat → Int32) × (Nat → Int32) × (Nat → Int32) × Int32 × Int32 × Int32 × (Nat → Int32) × (Nat → Int32) × (Nat → Int32) × (Nat → Int32) × (Nat → Int32) × Int32 × (Nat → Int32) × (Nat → Int32) × (Nat → Int32) × (Nat → Int32) × (Nat → Int32)) :=
  (m_X3_hasSection a_n x1).bind fun rv1 =>
  if rv1 = (nI 0) then
    some ((-2 : Int32), b_n, b_L, b_U, b_H, b_O, b_B, q_nt, q_iv, q_fd, q_or, q_df, q_se, q_co, q_ch, v_n, v_L, v_U, v_H, v_O, v_B)
  else
    (m_X6_isTerm x2).bind fun rv2 =>
    if rv2 = (nI 0) then
      some ((-2 : Int32), b_n, b_L, b_U, b_H, b_O, b_B, q_nt, q_iv, q_fd, q_or, q_df, q_se, q_co, q_ch, v_n, v_L, v_U, v_H, v_O, v_B)
    else
      (m_X3_become fu b_L b_U b_H b_O b_B a_n a_L a_U a_H a_O a_B).bind fun rv3 =>
      gd 10 x1 <|
      (m_X6_with (rv3.2.2.1 x1.toNatClampNeg) x2).bind fun rv4 =>
      gd 10 x1 <|
      (m_X0_find fu q_nt q_iv q_fd q_or q_df q_se q_co q_ch v_n v_L v_U v_H v_O v_B rv3.1 rv3.2.1 (upd rv3.2.2.1 x1.toNatClampNeg rv4) rv3.2.2.2.1 rv3.2.2.2.2.1 rv3.2.2.2.2.2).bind fun rv5 =>
      some (rv5.1, rv3.1, rv3.2.1, (upd rv3.2.2.1 x1.toNatClampNeg rv4), rv3.2.2.2.1, rv3.2.2.2.2.1, rv3.2.2.2.2.2, rv5.1, rv5.2.1, rv5.2.2.1, rv5.2.2.2.1, rv5.2.2.2.2.1, rv5.2.2.2.2.2.1, rv5.2.2.2.2.2.2.1, rv5.2.2.2.2.2.2.2.1, rv5.2.2.2.2.2.2.2.2.1, rv5.2.2.2.2.2.2.2.2.2.1, rv5.2.2.2.2.2.2.2.2.2.2.1, rv5.2.2.2.2.2.2.2.2.2.2.2.1, rv5.2.2.2.2.2.2.2.2.2.2.2.2.1, rv5.2.2.2.2.2.2.2.2.2.2.2.2.2)
def m_X6_after (fu : Nat) (a_n : Int32) (a_U : Nat → Int32) (a_H : Nat → Int32) (a_O : Nat → Int32) (a_B : Nat → Int32) (w_a : Nat → Int32) (x1 : Int32) (x2 : Int32) : Option (Int32 × (Nat → Int32)) :=
  (m_X6_tryMove fu a_n a_U a_H a_O a_B w_a x1 x2).bind fun rv1 =>
  some (rv1.1, rv1.2)
def m_X6_count (fu : Nat) (a_n : Int32) (a_L : Nat → Int32) (a_U : Nat → Int32) (a_H : Nat → Int32) (a_O : Nat → Int32) (a_B : Nat → Int32) (g_n : Int32) (g_ne : Nat → Int32) (g_re : Nat → Int32) (h_sz : Int32) (t_len : Int32) (x1 : Int32) : Option (Int32 × Int32 × (Nat → Int32) × (Nat → Int32)) :=
  if x1 = (nI 0) then
    some (a_n, g_n, g_ne, g_re)
  else
    if x1 = (nI 1) then
      (m_X3_countNotes fu a_n a_U a_H a_O).bind fun rv1 =>
      some (rv1, g_n, g_ne, g_re)
    else
      if x1 = (nI 2) then
        (m_X3_countLoose fu a_n a_U a_H).bind fun rv2 =>
        some (rv2, g_n, g_ne, g_re)
      else
        if x1 = (nI 3) then
          (m_X3_countHomes fu a_H).bind fun rv3 =>
          some (rv3, g_n, g_ne, g_re)
        else
          if x1 = (nI 4) then
            (m_X3_countUses fu a_n a_U).bind fun rv4 =>
            some (rv4, g_n, g_ne, g_re)
          else
            if x1 = (nI 5) then
              (m_X3_countEarly fu a_n a_U a_H a_O).bind fun rv5 =>
              some (rv5, g_n, g_ne, g_re)
            else
              if x1 = (nI 6) then
                (m_X3_countPrecedences fu a_n a_B).bind fun rv6 =>
                some (rv6, g_n, g_ne, g_re)
              else
                if x1 = (nI 7) then
                  (m_X3_sumNoteLengths fu a_n a_L a_U a_H a_O).bind fun rv7 =>
                  some (rv7, g_n, g_ne, g_re)
                else
                  if x1 = (nI 8) then
                    (m_X4_draw fu g_ne g_re a_n a_U a_H).bind fun rv8 =>
                    (m_X4_countLargeComponents fu rv8.1 rv8.2.2).bind fun rv9 =>
                    some (rv9, rv8.1, rv8.2.1, rv8.2.2)
                  else
                    if x1 = (nI 9) then
                      some (h_sz, g_n, g_ne, g_re)
                    else
                      if x1 = (nI 10) then
                        some (t_len, g_n, g_ne, g_re)
                      else
                        if x1 = (nI 11) then
                          (m_X3_sumPages fu a_n a_L).bind fun rv10 =>
                          some (rv10, g_n, g_ne, g_re)
                        else
                          some ((-3 : Int32), g_n, g_ne, g_re)
def m_X7_begins_62 : Nat → (Nat → Int32) → Int32 → Option ((Nat → Int32))
  | 0, _, _ => none
  | fn + 1, k_ro, x2 =>
    if (nI 12) ≤ x2 then
      some k_ro
    else
      gd 583 ((nI 11) + x2) <|
      m_X7_begins_62 fn (upd k_ro ((nI 11) + x2).toNatClampNeg (-1 : Int32)) (x2 + (nI 1))
def m_X7_begins_9 (fu : Nat) : Nat → (Nat → Int32) → Int32 → Option ((Nat → Int32))
  | 0, _, _ => none
  | fn + 1, k_ro, x2 =>
    if (nI 10) ≤ x2 then
      m_X7_begins_62 fu k_ro (nI 0)
    else
      gd 583 ((nI 1) + x2) <|
      gd 583 ((nI 23) + x2) <|
      gd 583 ((nI 33) + x2) <|
      gd 583 ((nI 43) + x2) <|
      m_X7_begins_9 fu fn (upd (upd (upd (upd k_ro ((nI 1) + x2).toNatClampNeg (nI 1)) ((nI 23) + x2).toNatClampNeg (nI 0)) ((nI 33) + x2).toNatClampNeg x2) ((nI 43) + x2).toNatClampNeg (nI 0)) (x2 + (nI 1))
def m_X7_begins (fu : Nat) (k_ro : Nat → Int32) (x1 : Int32) : Option ((Nat → Int32)) :=
  gd 583 (nI 0) <|
  m_X7_begins_9 fu fu (upd k_ro (nI 0).toNatClampNeg x1) (nI 0)
def m_X7_in (x0 : Int64) (x2 : Int64) (x4 : Int64) : Option (Int32) :=
  if (lg_cmp x0 x2) < (nI 0) then
    some (nI 0)
  else
    if (nI 0) < (lg_cmp x0 x4) then
      some (nI 0)
    else
      some (nI 1)
def m_X7_has (x0 : Int32) (x1 : Int32) : Option (Int32) :=
  if ((x0 >>> (x1 &&& 31)) &&& (nI 1)) = (nI 1) then
    some (nI 1)
  else
    some (nI 0)
def m_X7_ones_4 (x0 : Int32) : Nat → Int32 → Int32 → Option (Int32)
  | 0, _, _ => none
  | fn + 1, x1, x2 =>
    if (nI 12) ≤ x2 then
      some x1
    else
      m_X7_ones_4 x0 fn (x1 + ((x0 >>> (x2 &&& 31)) &&& (nI 1))) (x2 + (nI 1))
def m_X7_ones (fu : Nat) (x0 : Int32) : Option (Int32) :=
  m_X7_ones_4 x0 fu (nI 0) (nI 0)
def m_X7_isSection (k_ro : Nat → Int32) (x1 : Int32) : Option (Int32) :=
  gd 583 (nI 0) <|
  (m_X7_in x1.toInt64 (lN 0) (((k_ro (nI 0).toNatClampNeg) - (nI 1)).toInt64)).bind fun rv1 =>
  zb rv1 <|
  some rv1
def m_X7_isTerm (x0 : Int32) : Option (Int32) :=
  (m_X7_in x0.toInt64 (lN 0) (lN 11)).bind fun rv1 =>
  zb rv1 <|
  some rv1
def m_X7_placeOf_2 (k_ro : Nat → Int32) (x1 : Int32) : Nat → Int32 → Option (Int32)
  | 0, _ => none
  | fn + 1, x2 =>
    gd 583 ((nI 33) + x2) <|
    if (k_ro ((nI 33) + x2).toNatClampNeg) = x1 then
      some x2
    else
      m_X7_placeOf_2 k_ro x1 fn (x2 + (nI 1))
def m_X7_placeOf (fu : Nat) (k_ro : Nat → Int32) (x1 : Int32) : Option (Int32) :=
  m_X7_placeOf_2 k_ro x1 fu (nI 0)
def m_X7_write (k_len : Int32) (k_te : Nat → Int32) (x1 : Int32) : Option (Int32 × Int32 × (Nat → Int32)) :=
  (m_X7_in x1.toInt64 (lN 0) (lN 255)).bind fun rv1 =>
  if rv1 = (nI 0) then
    some ((-3 : Int32), k_len, k_te)
  else
    if k_len = (nI 200) then
      some ((-5 : Int32), k_len, k_te)
    else
      gd 200 k_len <|
      some ((k_len + (nI 1)), (k_len + (nI 1)), (upd k_te k_len.toNatClampNeg x1))
def m_X7_erase (k_len : Int32) : Option (Int32 × Int32) :=
  some (k_len, (nI 0))
def m_X7_isSmall (x0 : Int32) : Option (Int32) :=
  (m_X7_in x0.toInt64 (lN 97) (lN 122)).bind fun rv1 =>
  zb rv1 <|
  some rv1
def m_X7_isDigit (x0 : Int32) : Option (Int32) :=
  (m_X7_in x0.toInt64 (lN 48) (lN 57)).bind fun rv1 =>
  zb rv1 <|
  some rv1
def m_X7_next_187 (k_be : Int32) (kt138 : Int32 → Option (Int32 × Int32)) : Option (Int32 × Int32) :=
  kt138 (k_be + (nI 1))
def m_X7_next_168 (k_fi : Int32) (k_be : Int32) (k_te : Nat → Int32) (x2 : Int32) (kt138 : Int32 → Option (Int32 × Int32)) : Option (Int32 × Int32) :=
  if x2 = (nI 0) then
    some (k_fi, k_be)
  else
    gd 200 k_be <|
    (m_X7_isDigit (k_te k_be.toNatClampNeg)).bind fun rv4 =>
    if rv4 = (nI 0) then
      some (k_fi, k_be)
    else
      m_X7_next_187 k_be kt138
def m_X7_next_138 (k_len : Int32) (k_fi : Int32) (k_te : Nat → Int32) (x1 : Int32) (x2 : Int32) : Nat → Int32 → Option (Int32 × Int32)
  | 0, _ => none
  | fn + 1, k_be =>
    if k_len ≤ k_be then
      some (k_fi, k_be)
    else
      if x1 = (nI 0) then
        m_X7_next_168 k_fi k_be k_te x2 (m_X7_next_138 k_len k_fi k_te x1 x2 fn)
      else
        gd 200 k_be <|
        (m_X7_isSmall (k_te k_be.toNatClampNeg)).bind fun rv3 =>
        if rv3 = (nI 0) then
          m_X7_next_168 k_fi k_be k_te x2 (m_X7_next_138 k_len k_fi k_te x1 x2 fn)
        else
          m_X7_next_187 k_be (m_X7_next_138 k_len k_fi k_te x1 x2 fn)
def m_X7_next_105 (fu : Nat) (k_len : Int32) (k_fi : Int32) (k_be : Int32) (k_te : Nat → Int32) (s0 : Int32) : Option (Int32 × Int32) :=
  if k_len ≤ k_fi then
    m_X7_next_138 k_len k_fi k_te s0 (nI 0) fu k_be
  else
    gd 200 k_fi <|
    (m_X7_isDigit (k_te k_fi.toNatClampNeg)).bind fun rv2 =>
    if rv2 = (nI 0) then
      m_X7_next_138 k_len k_fi k_te s0 (nI 0) fu k_be
    else
      m_X7_next_138 k_len k_fi k_te s0 (nI 1) fu k_be
def m_X7_next_71 (fu : Nat) (k_len : Int32) (k_fi : Int32) (k_te : Nat → Int32) (s1 : Int32) : Option (Int32 × Int32) :=
  if k_len ≤ k_fi then
    m_X7_next_105 fu k_len k_fi s1 k_te (nI 0)
  else
    gd 200 k_fi <|
    (m_X7_isSmall (k_te k_fi.toNatClampNeg)).bind fun rv1 =>
    if rv1 = (nI 0) then
      m_X7_next_105 fu k_len k_fi s1 k_te (nI 0)
    else
      m_X7_next_105 fu k_len k_fi s1 k_te (nI 1)
def m_X7_next_46 (fu : Nat) (k_len : Int32) (k_fi : Int32) (k_te : Nat → Int32) : Option (Int32 × Int32) :=
  if k_len ≤ k_fi then
    m_X7_next_71 fu k_len k_fi k_te k_fi
  else
    m_X7_next_71 fu k_len k_fi k_te (k_fi + (nI 1))
def m_X7_next_8 (fu : Nat) (k_len : Int32) (k_te : Nat → Int32) : Nat → Int32 → Option (Int32 × Int32)
  | 0, _ => none
  | fn + 1, k_fi =>
    if k_len ≤ k_fi then
      m_X7_next_46 fu k_len k_fi k_te
    else
      gd 200 k_fi <|
      if (k_te k_fi.toNatClampNeg) = (nI 32) then
        m_X7_next_8 fu k_len k_te fn (k_fi + (nI 1))
      else
        m_X7_next_46 fu k_len k_fi k_te
def m_X7_next (fu : Nat) (k_len : Int32) (k_be : Int32) (k_te : Nat → Int32) : Option (Int32 × Int32) :=
  m_X7_next_8 fu k_len k_te fu k_be
def m_X7_nameHere_105 (x1 : Int32) (x2 : Int32) (kt2 : Int32 → Option (Int32)) : Option (Int32) :=
  if x2 = (nI 0) then
    kt2 (x1 + (nI 1))
  else
    some x1
def m_X7_nameHere_90 (s0 : Int32) (s1 : Int32) (x3 : Int32) (kt41 : Int32 → Int32 → Option (Int32)) : Option (Int32) :=
  if s0 = s1 then
    kt41 (nI 1) (x3 + (nI 1))
  else
    kt41 (nI 0) (x3 + (nI 1))
def m_X7_nameHere_41 (k_fi : Int32) (k_be : Int32) (k_te : Nat → Int32) (k_na : Nat → Int32) (x1 : Int32) (kt2 : Int32 → Option (Int32)) : Nat → Int32 → Int32 → Option (Int32)
  | 0, _, _ => none
  | fn + 1, x2, x3 =>
    if (nI 8) ≤ x3 then
      m_X7_nameHere_105 x1 x2 kt2
    else
      if x2 = (nI 0) then
        m_X7_nameHere_105 x1 x2 kt2
      else
        gd 48 (((nI 8) * x1) + x3) <|
        if k_be ≤ (k_fi + x3) then
          m_X7_nameHere_90 (k_na (((nI 8) * x1) + x3).toNatClampNeg) (nI 0) x3 (m_X7_nameHere_41 k_fi k_be k_te k_na x1 kt2 fn)
        else
          gd 200 (k_fi + x3) <|
          m_X7_nameHere_90 (k_na (((nI 8) * x1) + x3).toNatClampNeg) (k_te (k_fi + x3).toNatClampNeg) x3 (m_X7_nameHere_41 k_fi k_be k_te k_na x1 kt2 fn)
def m_X7_nameHere_2 (fu : Nat) (k_fi : Int32) (k_be : Int32) (k_te : Nat → Int32) (k_na : Nat → Int32) : Nat → Int32 → Option (Int32)
  | 0, _ => none
  | fn + 1, x1 =>
    if (nI 6) ≤ x1 then
      some (-1 : Int32)
    else
      if k_be ≤ k_fi then
        m_X7_nameHere_41 k_fi k_be k_te k_na x1 (m_X7_nameHere_2 fu k_fi k_be k_te k_na fn) fu (nI 0) (nI 0)
      else
        if (nI 9) ≤ (k_be - k_fi) then
          m_X7_nameHere_41 k_fi k_be k_te k_na x1 (m_X7_nameHere_2 fu k_fi k_be k_te k_na fn) fu (nI 0) (nI 0)
        else
          m_X7_nameHere_41 k_fi k_be k_te k_na x1 (m_X7_nameHere_2 fu k_fi k_be k_te k_na fn) fu (nI 1) (nI 0)
def m_X7_nameHere (fu : Nat) (k_fi : Int32) (k_be : Int32) (k_te : Nat → Int32) (k_na : Nat → Int32) : Option (Int32) :=
  m_X7_nameHere_2 fu k_fi k_be k_te k_na fu (nI 0)
def m_X7_reads_50 (fu : Nat) (k_len : Int32) (k_fi : Int32) (k_be : Int32) (k_te : Nat → Int32) (k_nu : Nat → Int32) (x1 : Int32) (x2 : Int32) (x3 : Int32) (x4 : Int32) : Nat → Int32 → Int32 → Option (Int32 × Int32 × Int32 × (Nat → Int32))
  | 0, _, _ => none
  | fn + 1, x5, x6 =>
    if k_be ≤ x6 then
      (m_X7_in x5.toInt64 x2.toInt64 x3.toInt64).bind fun rv2 =>
      if rv2 = (nI 0) then
        some ((nI 0), k_fi, k_be, k_nu)
      else
        if x5 = x4 then
          some ((nI 0), k_fi, k_be, k_nu)
        else
          gd 10 x1 <|
          (m_X7_next fu k_len k_be k_te).bind fun rv3 =>
          some ((nI 1), rv3.1, rv3.2, (upd k_nu x1.toNatClampNeg x5))
    else
      gd 200 x6 <|
      m_X7_reads_50 fu k_len k_fi k_be k_te k_nu x1 x2 x3 x4 fn ((((nI 10) * x5) + (k_te x6.toNatClampNeg)) - (nI 48)) (x6 + (nI 1))
def m_X7_reads (fu : Nat) (k_len : Int32) (k_fi : Int32) (k_be : Int32) (k_te : Nat → Int32) (k_nu : Nat → Int32) (x1 : Int32) (x2 : Int32) (x3 : Int32) (x4 : Int32) : Option (Int32 × Int32 × Int32 × (Nat → Int32)) :=
  if k_fi = k_len then
    some ((nI 0), k_fi, k_be, k_nu)
  else
    gd 200 k_fi <|
    (m_X7_isDigit (k_te k_fi.toNatClampNeg)).bind fun rv1 =>
    if rv1 = (nI 0) then
      some ((nI 0), k_fi, k_be, k_nu)
    else
      if (k_be - k_fi) ≤ (nI 2) then
        m_X7_reads_50 fu k_len k_fi k_be k_te k_nu x1 x2 x3 x4 fu (nI 0) k_fi
      else
        some ((nI 0), k_fi, k_be, k_nu)
def m_X7_readsSection (fu : Nat) (k_len : Int32) (k_fi : Int32) (k_be : Int32) (k_to : Int32) (k_te : Nat → Int32) (k_nu : Nat → Int32) (x1 : Int32) (x2 : Int32) : Option (Int32 × Int32 × Int32 × (Nat → Int32)) :=
  (m_X7_reads fu k_len k_fi k_be k_te k_nu x1 (nI 0) (k_to - (nI 1)) x2).bind fun rv1 =>
  zb rv1.1 <|
  some (rv1.1, rv1.2.1, rv1.2.2.1, rv1.2.2.2)
def m_X7_termsHere_98 (x2 : Int32) (x3 : Int32) : Option (Int32) :=
  if x3 = (nI 0) then
    some (nI 0)
  else
    some x2
def m_X7_termsHere_38 (k_be : Int32) (k_te : Nat → Int32) : Nat → Int32 → Int32 → Int32 → Option (Int32)
  | 0, _, _, _ => none
  | fn + 1, x2, x3, x4 =>
    if k_be ≤ x4 then
      m_X7_termsHere_98 x2 x3
    else
      if x3 = (nI 0) then
        m_X7_termsHere_98 x2 x3
      else
        gd 200 x4 <|
        (m_X7_in ((k_te x4.toNatClampNeg).toInt64) (lN 97) (lN 108)).bind fun rv1 =>
        if rv1 = (nI 0) then
          m_X7_termsHere_38 k_be k_te fn (x2 ||| (nI 0)) rv1 (x4 + (nI 1))
        else
          gd 200 x4 <|
          m_X7_termsHere_38 k_be k_te fn (x2 ||| ((nI 1) <<< (((k_te x4.toNatClampNeg) - (nI 97)) &&& 31))) rv1 (x4 + (nI 1))
def m_X7_termsHere (fu : Nat) (k_len : Int32) (k_fi : Int32) (k_be : Int32) (k_te : Nat → Int32) (x1 : Int32) : Option (Int32) :=
  if k_len ≤ k_fi then
    m_X7_termsHere_38 k_be k_te fu (nI 0) (nI 0) k_fi
  else
    if x1 < (k_be - k_fi) then
      m_X7_termsHere_38 k_be k_te fu (nI 0) (nI 0) k_fi
    else
      m_X7_termsHere_38 k_be k_te fu (nI 0) (nI 1) k_fi
def m_X7_readsHome_29 (k_fi : Int32) (k_be : Int32) (k_do : Int32) (k_nu : Nat → Int32) (x1 : Int32) : Nat → (Nat → Int32) → Int32 → Option (Int32 × Int32 × Int32 × (Nat → Int32) × (Nat → Int32))
  | 0, _, _ => none
  | fn + 1, k_ro, x2 =>
    if (nI 12) ≤ x2 then
      some ((nI 1), k_fi, k_be, k_ro, k_nu)
    else
      if k_do = (nI 0) then
        some ((nI 1), k_fi, k_be, k_ro, k_nu)
      else
        (m_X7_has x1 x2).bind fun rv4 =>
        if rv4 = (nI 0) then
          gd 583 ((nI 11) + x2) <|
          gd 583 ((nI 11) + x2) <|
          m_X7_readsHome_29 k_fi k_be k_do k_nu x1 fn (upd k_ro ((nI 11) + x2).toNatClampNeg (k_ro ((nI 11) + x2).toNatClampNeg)) (x2 + (nI 1))
        else
          gd 10 (nI 0) <|
          gd 583 ((nI 11) + x2) <|
          m_X7_readsHome_29 k_fi k_be k_do k_nu x1 fn (upd k_ro ((nI 11) + x2).toNatClampNeg (k_nu (nI 0).toNatClampNeg)) (x2 + (nI 1))
def m_X7_readsHome (fu : Nat) (k_len : Int32) (k_fi : Int32) (k_be : Int32) (k_to : Int32) (k_do : Int32) (k_ro : Nat → Int32) (k_te : Nat → Int32) (k_nu : Nat → Int32) : Option (Int32 × Int32 × Int32 × (Nat → Int32) × (Nat → Int32)) :=
  (m_X7_termsHere fu k_len k_fi k_be k_te (nI 1)).bind fun rv1 =>
  if rv1 = (nI 0) then
    some ((nI 0), k_fi, k_be, k_ro, k_nu)
  else
    (m_X7_next fu k_len k_be k_te).bind fun rv2 =>
    (m_X7_readsSection fu k_len rv2.1 rv2.2 k_to k_te k_nu (nI 0) (-1 : Int32)).bind fun rv3 =>
    if rv3.1 = (nI 0) then
      some ((nI 0), rv3.2.1, rv3.2.2.1, k_ro, rv3.2.2.2)
    else
      m_X7_readsHome_29 rv3.2.1 rv3.2.2.1 k_do rv3.2.2.2 rv1 fu k_ro (nI 0)
def m_X7_readsUses (fu : Nat) (k_len : Int32) (k_fi : Int32) (k_be : Int32) (k_to : Int32) (k_do : Int32) (k_ro : Nat → Int32) (k_te : Nat → Int32) (k_nu : Nat → Int32) : Option (Int32 × Int32 × Int32 × (Nat → Int32) × (Nat → Int32)) :=
  (m_X7_readsSection fu k_len k_fi k_be k_to k_te k_nu (nI 0) (-1 : Int32)).bind fun rv1 =>
  if rv1.1 = (nI 0) then
    some ((nI 0), rv1.2.1, rv1.2.2.1, k_ro, rv1.2.2.2)
  else
    (m_X7_termsHere fu k_len rv1.2.1 rv1.2.2.1 k_te (nI 12)).bind fun rv2 =>
    if rv2 = (nI 0) then
      some ((nI 0), rv1.2.1, rv1.2.2.1, k_ro, rv1.2.2.2)
    else
      if k_do = (nI 0) then
        (m_X7_next fu k_len rv1.2.2.1 k_te).bind fun rv3 =>
        some ((nI 1), rv3.1, rv3.2, k_ro, rv1.2.2.2)
      else
        gd 10 (nI 0) <|
        gd 583 ((nI 23) + (rv1.2.2.2 (nI 0).toNatClampNeg)) <|
        gd 583 ((nI 23) + (rv1.2.2.2 (nI 0).toNatClampNeg)) <|
        (m_X7_next fu k_len rv1.2.2.1 k_te).bind fun rv4 =>
        some ((nI 1), rv4.1, rv4.2, (upd k_ro ((nI 23) + (rv1.2.2.2 (nI 0).toNatClampNeg)).toNatClampNeg ((k_ro ((nI 23) + (rv1.2.2.2 (nI 0).toNatClampNeg)).toNatClampNeg) ||| rv2)), rv1.2.2.2)
def m_X7_isKeeping_46 (k_nu : Nat → Int32) (s0 : Int32) (x1 : Int32) (x3 : Int32) (kt6 : Int32 → Int32 → Int32 → Option (Int32)) : Option (Int32) :=
  gd 10 x3 <|
  kt6 (x1 ||| ((nI 1) <<< ((k_nu x3.toNatClampNeg) &&& 31))) s0 (x3 + (nI 1))
def m_X7_isKeeping_6 (k_ro : Nat → Int32) (k_nu : Nat → Int32) : Nat → Int32 → Int32 → Int32 → Option (Int32)
  | 0, _, _, _ => none
  | fn + 1, x1, x2, x3 =>
    gd 583 (nI 0) <|
    if (k_ro (nI 0).toNatClampNeg) ≤ x3 then
      zb x2 <|
      some x2
    else
      if x2 = (nI 0) then
        m_X7_isKeeping_46 k_nu (nI 0) x1 x3 (m_X7_isKeeping_6 k_ro k_nu fn)
      else
        gd 10 x3 <|
        gd 583 ((nI 43) + (k_nu x3.toNatClampNeg)) <|
        if ((k_ro ((nI 43) + (k_nu x3.toNatClampNeg)).toNatClampNeg) &&& (x1 ^^^ (-1 : Int32))) = (nI 0) then
          m_X7_isKeeping_46 k_nu (nI 1) x1 x3 (m_X7_isKeeping_6 k_ro k_nu fn)
        else
          m_X7_isKeeping_46 k_nu (nI 0) x1 x3 (m_X7_isKeeping_6 k_ro k_nu fn)
def m_X7_isKeeping (fu : Nat) (k_ro : Nat → Int32) (k_nu : Nat → Int32) : Option (Int32) :=
  m_X7_isKeeping_6 k_ro k_nu fu (nI 0) (nI 1) (nI 0)
def m_X7_valueHere_7 (k_be : Int32) (k_te : Nat → Int32) : Nat → Int32 → Int32 → Option (Int32)
  | 0, _, _ => none
  | fn + 1, x1, x2 =>
    if k_be ≤ x2 then
      some x1
    else
      gd 200 x2 <|
      m_X7_valueHere_7 k_be k_te fn ((((nI 10) * x1) + (k_te x2.toNatClampNeg)) - (nI 48)) (x2 + (nI 1))
def m_X7_valueHere (fu : Nat) (k_fi : Int32) (k_be : Int32) (k_te : Nat → Int32) : Option (Int32) :=
  m_X7_valueHere_7 k_be k_te fu (nI 0) k_fi
def m_X7_readsOrder_125 (k_fi : Int32) (k_be : Int32) (k_to : Int32) (k_nu : Nat → Int32) : Nat → (Nat → Int32) → Int32 → Option (Int32 × Int32 × Int32 × (Nat → Int32) × (Nat → Int32))
  | 0, _, _ => none
  | fn + 1, k_ro, x2 =>
    if k_to ≤ x2 then
      some ((nI 1), k_fi, k_be, k_ro, k_nu)
    else
      gd 10 x2 <|
      gd 583 ((nI 33) + x2) <|
      m_X7_readsOrder_125 k_fi k_be k_to k_nu fn (upd k_ro ((nI 33) + x2).toNatClampNeg (k_nu x2.toNatClampNeg)) (x2 + (nI 1))
def m_X7_readsOrder_59 (fu : Nat) (k_len : Int32) (k_fi : Int32) (k_be : Int32) (k_to : Int32) (k_ro : Nat → Int32) (k_te : Nat → Int32) (k_nu : Nat → Int32) (s0 : Int32) (x1 : Int32) (x2 : Int32) (kt4 : Int32 → Int32 → (Nat → Int32) → Int32 → Int32 → Option (Int32 × Int32 × Int32 × (Nat → Int32) × (Nat → Int32))) : Option (Int32 × Int32 × Int32 × (Nat → Int32) × (Nat → Int32)) :=
  if s0 = (-1 : Int32) then
    some ((nI 0), k_fi, k_be, k_ro, k_nu)
  else
    if k_to ≤ s0 then
      some ((nI 0), k_fi, k_be, k_ro, k_nu)
    else
      (m_X7_has x1 s0).bind fun rv4 =>
      if rv4 = (nI 0) then
        (m_X7_readsSection fu k_len k_fi k_be k_to k_te k_nu x2 (-1 : Int32)).bind fun rv5 =>
        if rv5.1 = (nI 0) then
          some ((nI 0), rv5.2.1, rv5.2.2.1, k_ro, rv5.2.2.2)
        else
          gd 10 x2 <|
          kt4 rv5.2.1 rv5.2.2.1 rv5.2.2.2 (x1 ||| ((nI 1) <<< ((rv5.2.2.2 x2.toNatClampNeg) &&& 31))) (x2 + (nI 1))
      else
        some ((nI 0), k_fi, k_be, k_ro, k_nu)
def m_X7_readsOrder_4 (fu : Nat) (k_len : Int32) (k_to : Int32) (k_do : Int32) (k_ro : Nat → Int32) (k_te : Nat → Int32) : Nat → Int32 → Int32 → (Nat → Int32) → Int32 → Int32 → Option (Int32 × Int32 × Int32 × (Nat → Int32) × (Nat → Int32))
  | 0, _, _, _, _, _ => none
  | fn + 1, k_fi, k_be, k_nu, x1, x2 =>
    if k_to ≤ x2 then
      if k_do = (nI 0) then
        some ((nI 1), k_fi, k_be, k_ro, k_nu)
      else
        (m_X7_isKeeping fu k_ro k_nu).bind fun rv1 =>
        if rv1 = (nI 0) then
          some ((nI 1), k_fi, k_be, k_ro, k_nu)
        else
          m_X7_readsOrder_125 k_fi k_be k_to k_nu fu k_ro (nI 0)
    else
      if k_len ≤ k_fi then
        m_X7_readsOrder_59 fu k_len k_fi k_be k_to k_ro k_te k_nu (-1 : Int32) x1 x2 (m_X7_readsOrder_4 fu k_len k_to k_do k_ro k_te fn)
      else
        gd 200 k_fi <|
        (m_X7_isDigit (k_te k_fi.toNatClampNeg)).bind fun rv2 =>
        if rv2 = (nI 0) then
          m_X7_readsOrder_59 fu k_len k_fi k_be k_to k_ro k_te k_nu (-1 : Int32) x1 x2 (m_X7_readsOrder_4 fu k_len k_to k_do k_ro k_te fn)
        else
          if (nI 3) ≤ (k_be - k_fi) then
            m_X7_readsOrder_59 fu k_len k_fi k_be k_to k_ro k_te k_nu (-1 : Int32) x1 x2 (m_X7_readsOrder_4 fu k_len k_to k_do k_ro k_te fn)
          else
            (m_X7_valueHere fu k_fi k_be k_te).bind fun rv3 =>
            m_X7_readsOrder_59 fu k_len k_fi k_be k_to k_ro k_te k_nu rv3 x1 x2 (m_X7_readsOrder_4 fu k_len k_to k_do k_ro k_te fn)
def m_X7_readsOrder (fu : Nat) (k_len : Int32) (k_fi : Int32) (k_be : Int32) (k_to : Int32) (k_do : Int32) (k_ro : Nat → Int32) (k_te : Nat → Int32) (k_nu : Nat → Int32) : Option (Int32 × Int32 × Int32 × (Nat → Int32) × (Nat → Int32)) :=
  m_X7_readsOrder_4 fu k_len k_to k_do k_ro k_te fu k_fi k_be k_nu (nI 0) (nI 0)
def m_X7_canPair (fu : Nat) (k_ro : Nat → Int32) (x1 : Int32) (x2 : Int32) : Option (Int32) :=
  (m_X7_placeOf fu k_ro x1).bind fun rv1 =>
  (m_X7_placeOf fu k_ro x2).bind fun rv2 =>
  if rv2 ≤ rv1 then
    some (nI 0)
  else
    gd 583 ((nI 43) + x2) <|
    (m_X7_has (k_ro ((nI 43) + x2).toNatClampNeg) x1).bind fun rv3 =>
    if rv3 = (nI 0) then
      some (nI 1)
    else
      some (nI 0)
def m_X7_readsAfter (fu : Nat) (k_len : Int32) (k_fi : Int32) (k_be : Int32) (k_to : Int32) (k_do : Int32) (k_ro : Nat → Int32) (k_te : Nat → Int32) (k_nu : Nat → Int32) (x1 : Int32) : Option (Int32 × Int32 × Int32 × Int32 × (Nat → Int32) × (Nat → Int32)) :=
  if x1 = (nI 0) then
    (m_X7_reads fu k_len k_fi k_be k_te k_nu (nI 0) (nI 2) (nI 10) (-1 : Int32)).bind fun rv1 =>
    if rv1.1 = (nI 0) then
      some ((nI 0), rv1.2.1, rv1.2.2.1, k_to, k_ro, rv1.2.2.2)
    else
      gd 10 (nI 0) <|
      if k_do = (nI 0) then
        some ((nI 1), rv1.2.1, rv1.2.2.1, (rv1.2.2.2 (nI 0).toNatClampNeg), k_ro, rv1.2.2.2)
      else
        (m_X7_begins fu k_ro (rv1.2.2.2 (nI 0).toNatClampNeg)).bind fun rv2 =>
        some ((nI 1), rv1.2.1, rv1.2.2.1, (rv1.2.2.2 (nI 0).toNatClampNeg), rv2, rv1.2.2.2)
  else
    if x1 = (nI 1) then
      (m_X7_readsSection fu k_len k_fi k_be k_to k_te k_nu (nI 0) (-1 : Int32)).bind fun rv3 =>
      if rv3.1 = (nI 0) then
        some ((nI 0), rv3.2.1, rv3.2.2.1, k_to, k_ro, rv3.2.2.2)
      else
        (m_X7_reads fu k_len rv3.2.1 rv3.2.2.1 k_te rv3.2.2.2 (nI 1) (nI 1) (nI 9) (-1 : Int32)).bind fun rv4 =>
        if rv4.1 = (nI 0) then
          some ((nI 0), rv4.2.1, rv4.2.2.1, k_to, k_ro, rv4.2.2.2)
        else
          if k_do = (nI 0) then
            some ((nI 1), rv4.2.1, rv4.2.2.1, k_to, k_ro, rv4.2.2.2)
          else
            gd 10 (nI 0) <|
            gd 10 (nI 1) <|
            gd 583 ((nI 1) + (rv4.2.2.2 (nI 0).toNatClampNeg)) <|
            some ((nI 1), rv4.2.1, rv4.2.2.1, k_to, (upd k_ro ((nI 1) + (rv4.2.2.2 (nI 0).toNatClampNeg)).toNatClampNeg (rv4.2.2.2 (nI 1).toNatClampNeg)), rv4.2.2.2)
    else
      if x1 = (nI 2) then
        (m_X7_readsHome fu k_len k_fi k_be k_to k_do k_ro k_te k_nu).bind fun rv5 =>
        zb rv5.1 <|
        some (rv5.1, rv5.2.1, rv5.2.2.1, k_to, rv5.2.2.2.1, rv5.2.2.2.2)
      else
        if x1 = (nI 3) then
          (m_X7_readsUses fu k_len k_fi k_be k_to k_do k_ro k_te k_nu).bind fun rv6 =>
          zb rv6.1 <|
          some (rv6.1, rv6.2.1, rv6.2.2.1, k_to, rv6.2.2.2.1, rv6.2.2.2.2)
        else
          if x1 = (nI 4) then
            (m_X7_readsSection fu k_len k_fi k_be k_to k_te k_nu (nI 0) (-1 : Int32)).bind fun rv7 =>
            if rv7.1 = (nI 0) then
              some ((nI 0), rv7.2.1, rv7.2.2.1, k_to, k_ro, rv7.2.2.2)
            else
              gd 10 (nI 0) <|
              (m_X7_readsSection fu k_len rv7.2.1 rv7.2.2.1 k_to k_te rv7.2.2.2 (nI 1) (rv7.2.2.2 (nI 0).toNatClampNeg)).bind fun rv8 =>
              if rv8.1 = (nI 0) then
                some ((nI 0), rv8.2.1, rv8.2.2.1, k_to, k_ro, rv8.2.2.2)
              else
                if k_do = (nI 0) then
                  some ((nI 1), rv8.2.1, rv8.2.2.1, k_to, k_ro, rv8.2.2.2)
                else
                  gd 10 (nI 0) <|
                  gd 10 (nI 1) <|
                  (m_X7_canPair fu k_ro (rv8.2.2.2 (nI 0).toNatClampNeg) (rv8.2.2.2 (nI 1).toNatClampNeg)).bind fun rv9 =>
                  if rv9 = (nI 0) then
                    some ((nI 1), rv8.2.1, rv8.2.2.1, k_to, k_ro, rv8.2.2.2)
                  else
                    gd 10 (nI 1) <|
                    gd 583 ((nI 43) + (rv8.2.2.2 (nI 1).toNatClampNeg)) <|
                    gd 10 (nI 0) <|
                    gd 583 ((nI 43) + (rv8.2.2.2 (nI 1).toNatClampNeg)) <|
                    some ((nI 1), rv8.2.1, rv8.2.2.1, k_to, (upd k_ro ((nI 43) + (rv8.2.2.2 (nI 1).toNatClampNeg)).toNatClampNeg ((k_ro ((nI 43) + (rv8.2.2.2 (nI 1).toNatClampNeg)).toNatClampNeg) ||| ((nI 1) <<< ((rv8.2.2.2 (nI 0).toNatClampNeg) &&& 31)))), rv8.2.2.2)
          else
            (m_X7_readsOrder fu k_len k_fi k_be k_to k_do k_ro k_te k_nu).bind fun rv10 =>
            zb rv10.1 <|
            some (rv10.1, rv10.2.1, rv10.2.2.1, k_to, rv10.2.2.2.1, rv10.2.2.2.2)
def m_X7_readsClause (fu : Nat) (k_len : Int32) (k_fi : Int32) (k_be : Int32) (k_to : Int32) (k_do : Int32) (k_ro : Nat → Int32) (k_te : Nat → Int32) (k_nu : Nat → Int32) (k_na : Nat → Int32) : Option (Int32 × Int32 × Int32 × Int32 × (Nat → Int32) × (Nat → Int32)) :=
  (m_X7_nameHere fu k_fi k_be k_te k_na).bind fun rv1 =>
  if rv1 = (-1 : Int32) then
    some ((nI 0), k_fi, k_be, k_to, k_ro, k_nu)
  else
    (m_X7_next fu k_len k_be k_te).bind fun rv2 =>
    (m_X7_readsAfter fu k_len rv2.1 rv2.2 k_to k_do k_ro k_te k_nu rv1).bind fun rv3 =>
    zb rv3.1 <|
    some (rv3.1, rv3.2.1, rv3.2.2.1, rv3.2.2.2.1, rv3.2.2.2.2.1, rv3.2.2.2.2.2)
def m_X7_readsAll_77 (fu : Nat) (k_len : Int32) (k_fi : Int32) (k_be : Int32) (k_to : Int32) (k_cl : Int32) (k_do : Int32) (k_ro : Nat → Int32) (k_te : Nat → Int32) (k_nu : Nat → Int32) (k_na : Nat → Int32) (s0 : Int32) (kt34 : Int32 → Int32 → Int32 → Int32 → (Nat → Int32) → (Nat → Int32) → Int32 → Option (Int32 × Int32 × Int32 × Int32 × Int32 × Int32 × (Nat → Int32) × (Nat → Int32))) : Option (Int32 × Int32 × Int32 × Int32 × Int32 × Int32 × (Nat → Int32) × (Nat → Int32)) :=
  if s0 = (nI 0) then
    kt34 k_fi k_be k_to k_cl k_ro k_nu s0
  else
    (m_X7_next fu k_len k_be k_te).bind fun rv3 =>
    (m_X7_readsClause fu k_len rv3.1 rv3.2 k_to k_do k_ro k_te k_nu k_na).bind fun rv4 =>
    kt34 rv4.2.1 rv4.2.2.1 rv4.2.2.2.1 (k_cl + (nI 1)) rv4.2.2.2.2.1 rv4.2.2.2.2.2 rv4.1
def m_X7_readsAll_34 (fu : Nat) (k_len : Int32) (k_do : Int32) (k_te : Nat → Int32) (k_na : Nat → Int32) : Nat → Int32 → Int32 → Int32 → Int32 → (Nat → Int32) → (Nat → Int32) → Int32 → Option (Int32 × Int32 × Int32 × Int32 × Int32 × Int32 × (Nat → Int32) × (Nat → Int32))
  | 0, _, _, _, _, _, _, _ => none
  | fn + 1, k_fi, k_be, k_to, k_cl, k_ro, k_nu, x2 =>
    if x2 = (nI 0) then
      zb x2 <|
      some (x2, k_fi, k_be, k_to, k_cl, k_do, k_ro, k_nu)
    else
      if k_len ≤ k_fi then
        zb x2 <|
        some (x2, k_fi, k_be, k_to, k_cl, k_do, k_ro, k_nu)
      else
        if (nI 24) ≤ k_cl then
          m_X7_readsAll_77 fu k_len k_fi k_be k_to k_cl k_do k_ro k_te k_nu k_na (nI 0) (m_X7_readsAll_34 fu k_len k_do k_te k_na fn)
        else
          gd 200 k_fi <|
          if (k_te k_fi.toNatClampNeg) = (nI 59) then
            m_X7_readsAll_77 fu k_len k_fi k_be k_to k_cl k_do k_ro k_te k_nu k_na (nI 1) (m_X7_readsAll_34 fu k_len k_do k_te k_na fn)
          else
            m_X7_readsAll_77 fu k_len k_fi k_be k_to k_cl k_do k_ro k_te k_nu k_na (nI 0) (m_X7_readsAll_34 fu k_len k_do k_te k_na fn)
def m_X7_readsAll (fu : Nat) (k_len : Int32) (k_ro : Nat → Int32) (k_te : Nat → Int32) (k_nu : Nat → Int32) (k_na : Nat → Int32) (x1 : Int32) : Option (Int32 × Int32 × Int32 × Int32 × Int32 × Int32 × (Nat → Int32) × (Nat → Int32)) :=
  zb x1 <|
  gd 583 (nI 0) <|
  (m_X7_next fu k_len (nI 0) k_te).bind fun rv1 =>
  (m_X7_readsClause fu k_len rv1.1 rv1.2 (k_ro (nI 0).toNatClampNeg) x1 k_ro k_te k_nu k_na).bind fun rv2 =>
  m_X7_readsAll_34 fu k_len x1 k_te k_na fu rv2.2.1 rv2.2.2.1 rv2.2.2.2.1 (nI 1) rv2.2.2.2.2.1 rv2.2.2.2.2.2 rv2.1
def m_X7_fault (fu : Nat) (k_len : Int32) (k_ro : Nat → Int32) (k_te : Nat → Int32) (k_nu : Nat → Int32) (k_na : Nat → Int32) : Option (Int32 × Int32 × Int32 × Int32 × Int32 × Int32 × (Nat → Int32) × (Nat → Int32)) :=
  (m_X7_readsAll fu k_len k_ro k_te k_nu k_na (nI 0)).bind fun rv1 =>
  if rv1.1 = (nI 0) then
    some (rv1.2.1, rv1.2.1, rv1.2.2.1, rv1.2.2.2.1, rv1.2.2.2.2.1, rv1.2.2.2.2.2.1, rv1.2.2.2.2.2.2.1, rv1.2.2.2.2.2.2.2)
  else
    some ((-1 : Int32), rv1.2.1, rv1.2.2.1, rv1.2.2.2.1, rv1.2.2.2.2.1, rv1.2.2.2.2.2.1, rv1.2.2.2.2.2.2.1, rv1.2.2.2.2.2.2.2)
def m_X7_tell (fu : Nat) (k_un : Int32) (k_len : Int32) (k_ro : Nat → Int32) (k_te : Nat → Int32) (k_nu : Nat → Int32) (k_na : Nat → Int32) : Option (Int32 × Int32 × Int32 × Int32 × Int32 × Int32 × Int32 × Int32 × (Nat → Int32) × (Nat → Int32)) :=
  (m_X7_readsAll fu k_len k_ro k_te k_nu k_na (nI 0)).bind fun rv1 =>
  if rv1.1 = (nI 0) then
    some ((-4 : Int32), k_un, k_len, rv1.2.1, rv1.2.2.1, rv1.2.2.2.1, rv1.2.2.2.2.1, rv1.2.2.2.2.2.1, rv1.2.2.2.2.2.2.1, rv1.2.2.2.2.2.2.2)
  else
    (m_X7_readsAll fu k_len rv1.2.2.2.2.2.2.1 k_te rv1.2.2.2.2.2.2.2 k_na (nI 1)).bind fun rv2 =>
    some (rv2.2.2.2.2.1, (nI 0), (nI 0), rv2.2.1, rv2.2.2.1, rv2.2.2.2.1, rv2.2.2.2.2.1, rv2.2.2.2.2.2.1, rv2.2.2.2.2.2.2.1, rv2.2.2.2.2.2.2.2)
def m_X7_earlyIn_65 (s0 : Int32) (x2 : Int32) (x3 : Int32) (kt4 : Int32 → Int32 → Option (Int32)) : Option (Int32) :=
  if s0 = (nI 0) then
    kt4 (x2 ||| (nI 0)) (x3 + (nI 1))
  else
    kt4 (x2 ||| ((nI 1) <<< (x3 &&& 31))) (x3 + (nI 1))
def m_X7_earlyIn_4 (fu : Nat) (k_ro : Nat → Int32) (x1 : Int32) : Nat → Int32 → Int32 → Option (Int32)
  | 0, _, _ => none
  | fn + 1, x2, x3 =>
    if (nI 12) ≤ x3 then
      some x2
    else
      gd 583 ((nI 23) + x1) <|
      (m_X7_has (k_ro ((nI 23) + x1).toNatClampNeg) x3).bind fun rv1 =>
      if rv1 = (nI 0) then
        m_X7_earlyIn_65 (nI 0) x2 x3 (m_X7_earlyIn_4 fu k_ro x1 fn)
      else
        gd 583 ((nI 11) + x3) <|
        if (k_ro ((nI 11) + x3).toNatClampNeg) = (-1 : Int32) then
          m_X7_earlyIn_65 (nI 0) x2 x3 (m_X7_earlyIn_4 fu k_ro x1 fn)
        else
          gd 583 ((nI 11) + x3) <|
          (m_X7_placeOf fu k_ro (k_ro ((nI 11) + x3).toNatClampNeg)).bind fun rv2 =>
          (m_X7_placeOf fu k_ro x1).bind fun rv3 =>
          if rv2 ≤ rv3 then
            m_X7_earlyIn_65 (nI 0) x2 x3 (m_X7_earlyIn_4 fu k_ro x1 fn)
          else
            m_X7_earlyIn_65 (nI 1) x2 x3 (m_X7_earlyIn_4 fu k_ro x1 fn)
def m_X7_earlyIn (fu : Nat) (k_ro : Nat → Int32) (x1 : Int32) : Option (Int32) :=
  m_X7_earlyIn_4 fu k_ro x1 fu (nI 0) (nI 0)
def m_X7_noteOf_2 (fu : Nat) (k_ro : Nat → Int32) (x1 : Int32) : Nat → Int32 → Option (Int32)
  | 0, _ => none
  | fn + 1, x2 =>
    gd 583 (nI 0) <|
    if (k_ro (nI 0).toNatClampNeg) ≤ x2 then
      some (-1 : Int32)
    else
      gd 583 ((nI 33) + x2) <|
      (m_X7_earlyIn fu k_ro (k_ro ((nI 33) + x2).toNatClampNeg)).bind fun rv1 =>
      (m_X7_has rv1 x1).bind fun rv2 =>
      if rv2 = (nI 0) then
        m_X7_noteOf_2 fu k_ro x1 fn (x2 + (nI 1))
      else
        gd 583 ((nI 33) + x2) <|
        some (k_ro ((nI 33) + x2).toNatClampNeg)
def m_X7_noteOf (fu : Nat) (k_ro : Nat → Int32) (x1 : Int32) : Option (Int32) :=
  m_X7_noteOf_2 fu k_ro x1 fu (nI 0)
def m_X7_notesMany_4 (fu : Nat) (k_ro : Nat → Int32) : Nat → Int32 → Int32 → Option (Int32)
  | 0, _, _ => none
  | fn + 1, x1, x2 =>
    if (nI 12) ≤ x2 then
      some x1
    else
      (m_X7_noteOf fu k_ro x2).bind fun rv1 =>
      if rv1 = (-1 : Int32) then
        m_X7_notesMany_4 fu k_ro fn (x1 + (nI 0)) (x2 + (nI 1))
      else
        m_X7_notesMany_4 fu k_ro fn (x1 + (nI 1)) (x2 + (nI 1))
def m_X7_notesMany (fu : Nat) (k_ro : Nat → Int32) : Option (Int32) :=
  m_X7_notesMany_4 fu k_ro fu (nI 0) (nI 0)
def m_X7_lasts_29 (k_ro : Nat → Int32) (x1 : Int32) : Nat → Int32 → Int32 → Option (Int32)
  | 0, _, _ => none
  | fn + 1, x3, x4 =>
    gd 583 (nI 0) <|
    if (k_ro (nI 0).toNatClampNeg) ≤ x4 then
      some x3
    else
      gd 583 ((nI 33) + x4) <|
      gd 583 ((nI 11) + x1) <|
      if (k_ro ((nI 33) + x4).toNatClampNeg) = (k_ro ((nI 11) + x1).toNatClampNeg) then
        some x3
      else
        gd 583 ((nI 33) + x4) <|
        gd 583 ((nI 1) + (k_ro ((nI 33) + x4).toNatClampNeg)) <|
        m_X7_lasts_29 k_ro x1 fn (x3 + (k_ro ((nI 1) + (k_ro ((nI 33) + x4).toNatClampNeg)).toNatClampNeg)) (x4 + (nI 1))
def m_X7_lasts (fu : Nat) (k_ro : Nat → Int32) (x1 : Int32) : Option (Int32) :=
  (m_X7_noteOf fu k_ro x1).bind fun rv1 =>
  if rv1 = (-1 : Int32) then
    gd 583 (nI 0) <|
    m_X7_lasts_29 k_ro x1 fu (nI 0) (k_ro (nI 0).toNatClampNeg)
  else
    (m_X7_placeOf fu k_ro rv1).bind fun rv2 =>
    m_X7_lasts_29 k_ro x1 fu (nI 0) rv2
def m_X7_lastsAll_4 (fu : Nat) (k_ro : Nat → Int32) : Nat → Int32 → Int32 → Option (Int32)
  | 0, _, _ => none
  | fn + 1, x1, x2 =>
    if (nI 12) ≤ x2 then
      some x1
    else
      (m_X7_lasts fu k_ro x2).bind fun rv1 =>
      m_X7_lastsAll_4 fu k_ro fn (x1 + rv1) (x2 + (nI 1))
def m_X7_lastsAll (fu : Nat) (k_ro : Nat → Int32) : Option (Int32) :=
  m_X7_lastsAll_4 fu k_ro fu (nI 0) (nI 0)
def m_X7_usedBy_4 (k_ro : Nat → Int32) (x1 : Int32) : Nat → Int32 → Int32 → Option (Int32)
  | 0, _, _ => none
  | fn + 1, x2, x3 =>
    gd 583 (nI 0) <|
    if (k_ro (nI 0).toNatClampNeg) ≤ x3 then
      some x2
    else
      gd 583 ((nI 23) + x3) <|
      (m_X7_has (k_ro ((nI 23) + x3).toNatClampNeg) x1).bind fun rv1 =>
      if rv1 = (nI 0) then
        m_X7_usedBy_4 k_ro x1 fn (x2 ||| (nI 0)) (x3 + (nI 1))
      else
        m_X7_usedBy_4 k_ro x1 fn (x2 ||| ((nI 1) <<< (x3 &&& 31))) (x3 + (nI 1))
def m_X7_usedBy (fu : Nat) (k_ro : Nat → Int32) (x1 : Int32) : Option (Int32) :=
  m_X7_usedBy_4 k_ro x1 fu (nI 0) (nI 0)
def m_X7_loose_4 (fu : Nat) (k_ro : Nat → Int32) : Nat → Int32 → Int32 → Option (Int32)
  | 0, _, _ => none
  | fn + 1, x1, x2 =>
    if (nI 12) ≤ x2 then
      some x1
    else
      gd 583 ((nI 11) + x2) <|
      if (k_ro ((nI 11) + x2).toNatClampNeg) = (-1 : Int32) then
        (m_X7_usedBy fu k_ro x2).bind fun rv1 =>
        if rv1 = (nI 0) then
          m_X7_loose_4 fu k_ro fn (x1 + (nI 0)) (x2 + (nI 1))
        else
          m_X7_loose_4 fu k_ro fn (x1 + (nI 1)) (x2 + (nI 1))
      else
        m_X7_loose_4 fu k_ro fn (x1 + (nI 0)) (x2 + (nI 1))
def m_X7_loose (fu : Nat) (k_ro : Nat → Int32) : Option (Int32) :=
  m_X7_loose_4 fu k_ro fu (nI 0) (nI 0)
def m_X7_needs_4 (k_ro : Nat → Int32) (x1 : Int32) : Nat → Int32 → Int32 → Option (Int32)
  | 0, _, _ => none
  | fn + 1, x2, x3 =>
    if (nI 12) ≤ x3 then
      some (x2 &&& (((nI 1) <<< (x1 &&& 31)) ^^^ (-1 : Int32)))
    else
      gd 583 ((nI 23) + x1) <|
      (m_X7_has (k_ro ((nI 23) + x1).toNatClampNeg) x3).bind fun rv1 =>
      if rv1 = (nI 0) then
        m_X7_needs_4 k_ro x1 fn (x2 ||| (nI 0)) (x3 + (nI 1))
      else
        gd 583 ((nI 11) + x3) <|
        if (k_ro ((nI 11) + x3).toNatClampNeg) = (-1 : Int32) then
          m_X7_needs_4 k_ro x1 fn (x2 ||| (nI 0)) (x3 + (nI 1))
        else
          gd 583 ((nI 11) + x3) <|
          m_X7_needs_4 k_ro x1 fn (x2 ||| ((nI 1) <<< ((k_ro ((nI 11) + x3).toNatClampNeg) &&& 31))) (x3 + (nI 1))
def m_X7_needs (fu : Nat) (k_ro : Nat → Int32) (x1 : Int32) : Option (Int32) :=
  m_X7_needs_4 k_ro x1 fu (nI 0) (nI 0)
def m_X7_leads_21 (fu : Nat) (k_ro : Nat → Int32) (x3 : Int32) (kt8 : Int32 → Int32 → Option (Int32)) : Nat → Int32 → Int32 → Option (Int32)
  | 0, _, _ => none
  | fn + 1, x2, x4 =>
    gd 583 (nI 0) <|
    if (k_ro (nI 0).toNatClampNeg) ≤ x4 then
      kt8 x2 (x3 + (nI 1))
    else
      (m_X7_has x2 x4).bind fun rv2 =>
      if rv2 = (nI 0) then
        m_X7_leads_21 fu k_ro x3 kt8 fn (x2 ||| (nI 0)) (x4 + (nI 1))
      else
        (m_X7_needs fu k_ro x4).bind fun rv3 =>
        m_X7_leads_21 fu k_ro x3 kt8 fn (x2 ||| rv3) (x4 + (nI 1))
def m_X7_leads_8 (fu : Nat) (k_ro : Nat → Int32) : Nat → Int32 → Int32 → Option (Int32)
  | 0, _, _ => none
  | fn + 1, x2, x3 =>
    gd 583 (nI 0) <|
    if (k_ro (nI 0).toNatClampNeg) ≤ x3 then
      some x2
    else
      m_X7_leads_21 fu k_ro x3 (m_X7_leads_8 fu k_ro fn) fu x2 (nI 0)
def m_X7_leads (fu : Nat) (k_ro : Nat → Int32) (x1 : Int32) : Option (Int32) :=
  (m_X7_needs fu k_ro x1).bind fun rv1 =>
  m_X7_leads_8 fu k_ro fu rv1 (nI 0)
def m_X7_knotOf_13 (fu : Nat) (k_ro : Nat → Int32) (x1 : Int32) (x2 : Int32) : Nat → Int32 → Int32 → Option (Int32)
  | 0, _, _ => none
  | fn + 1, x3, x4 =>
    gd 583 (nI 0) <|
    if (k_ro (nI 0).toNatClampNeg) ≤ x4 then
      some x3
    else
      (m_X7_has x2 x4).bind fun rv2 =>
      if rv2 = (nI 0) then
        m_X7_knotOf_13 fu k_ro x1 x2 fn (x3 ||| (nI 0)) (x4 + (nI 1))
      else
        (m_X7_leads fu k_ro x4).bind fun rv3 =>
        (m_X7_has rv3 x1).bind fun rv4 =>
        if rv4 = (nI 0) then
          m_X7_knotOf_13 fu k_ro x1 x2 fn (x3 ||| (nI 0)) (x4 + (nI 1))
        else
          m_X7_knotOf_13 fu k_ro x1 x2 fn (x3 ||| ((nI 1) <<< (x4 &&& 31))) (x4 + (nI 1))
def m_X7_knotOf (fu : Nat) (k_ro : Nat → Int32) (x1 : Int32) : Option (Int32) :=
  (m_X7_leads fu k_ro x1).bind fun rv1 =>
  m_X7_knotOf_13 fu k_ro x1 rv1 fu ((nI 1) <<< (x1 &&& 31)) (nI 0)
def m_X7_knots_4 (fu : Nat) (k_ro : Nat → Int32) : Nat → Int32 → Int32 → Option (Int32)
  | 0, _, _ => none
  | fn + 1, x1, x2 =>
    gd 583 (nI 0) <|
    if (k_ro (nI 0).toNatClampNeg) ≤ x2 then
      some x1
    else
      (m_X7_knotOf fu k_ro x2).bind fun rv1 =>
      (m_X7_ones fu rv1).bind fun rv2 =>
      if rv2 ≤ (nI 1) then
        m_X7_knots_4 fu k_ro fn (x1 + (nI 0)) (x2 + (nI 1))
      else
        if (rv1 &&& (-rv1)) = ((nI 1) <<< (x2 &&& 31)) then
          m_X7_knots_4 fu k_ro fn (x1 + (nI 1)) (x2 + (nI 1))
        else
          m_X7_knots_4 fu k_ro fn (x1 + (nI 0)) (x2 + (nI 1))
def m_X7_knots (fu : Nat) (k_ro : Nat → Int32) : Option (Int32) :=
  m_X7_knots_4 fu k_ro fu (nI 0) (nI 0)
def m_X7_stepsTo_37 (fu : Nat) (k_ro : Nat → Int32) (x3 : Int32) (x4 : Int32) (kt9 : Int32 → Int32 → Option (Int32)) : Nat → Int32 → Int32 → Option (Int32)
  | 0, _, _ => none
  | fn + 1, x5, x6 =>
    gd 583 (nI 0) <|
    if (k_ro (nI 0).toNatClampNeg) ≤ x6 then
      kt9 x5 (x4 + (nI 1))
    else
      (m_X7_has x3 x6).bind fun rv3 =>
      if rv3 = (nI 0) then
        m_X7_stepsTo_37 fu k_ro x3 x4 kt9 fn (x5 ||| (nI 0)) (x6 + (nI 1))
      else
        (m_X7_needs fu k_ro x6).bind fun rv4 =>
        m_X7_stepsTo_37 fu k_ro x3 x4 kt9 fn (x5 ||| rv4) (x6 + (nI 1))
def m_X7_stepsTo_9 (fu : Nat) (k_ro : Nat → Int32) (x2 : Int32) : Nat → Int32 → Int32 → Option (Int32)
  | 0, _, _ => none
  | fn + 1, x3, x4 =>
    gd 583 (nI 0) <|
    if (k_ro (nI 0).toNatClampNeg) < x4 then
      some (-1 : Int32)
    else
      (m_X7_has x3 x2).bind fun rv2 =>
      if rv2 = (nI 0) then
        m_X7_stepsTo_37 fu k_ro x3 x4 (m_X7_stepsTo_9 fu k_ro x2 fn) fu (nI 0) (nI 0)
      else
        some x4
def m_X7_stepsTo (fu : Nat) (k_ro : Nat → Int32) (x1 : Int32) (x2 : Int32) : Option (Int32) :=
  (m_X7_needs fu k_ro x1).bind fun rv1 =>
  m_X7_stepsTo_9 fu k_ro x2 fu rv1 (nI 1)
def m_X7_ringMany_4 (fu : Nat) (k_ro : Nat → Int32) : Nat → Int32 → Int32 → Option (Int32)
  | 0, _, _ => none
  | fn + 1, x1, x2 =>
    gd 583 (nI 0) <|
    if (k_ro (nI 0).toNatClampNeg) ≤ x2 then
      some x1
    else
      (m_X7_stepsTo fu k_ro x2 x2).bind fun rv1 =>
      if rv1 = (-1 : Int32) then
        m_X7_ringMany_4 fu k_ro fn x1 (x2 + (nI 1))
      else
        if x1 = (nI 0) then
          m_X7_ringMany_4 fu k_ro fn rv1 (x2 + (nI 1))
        else
          if x1 ≤ rv1 then
            m_X7_ringMany_4 fu k_ro fn x1 (x2 + (nI 1))
          else
            m_X7_ringMany_4 fu k_ro fn rv1 (x2 + (nI 1))
def m_X7_ringMany (fu : Nat) (k_ro : Nat → Int32) : Option (Int32) :=
  m_X7_ringMany_4 fu k_ro fu (nI 0) (nI 0)
def m_X7_ring_64 (fu : Nat) (k_ro : Nat → Int32) (x3 : Int32) (x4 : Int32) (x5 : Int32) (kt53 : Int32 → Int32 → Option (Int32)) : Nat → Int32 → Option (Int32)
  | 0, _ => none
  | fn + 1, x6 =>
    (m_X7_needs fu k_ro x4).bind fun rv3 =>
    (m_X7_has rv3 x6).bind fun rv4 =>
    if rv4 = (nI 0) then
      m_X7_ring_64 fu k_ro x3 x4 x5 kt53 fn (x6 + (nI 1))
    else
      (m_X7_stepsTo fu k_ro x6 x3).bind fun rv5 =>
      if rv5 = x5 then
        kt53 x6 (x5 + (-1 : Int32))
      else
        m_X7_ring_64 fu k_ro x3 x4 x5 kt53 fn (x6 + (nI 1))
def m_X7_ring_53 (fu : Nat) (k_ro : Nat → Int32) (x1 : Int32) (x2 : Int32) (x3 : Int32) : Nat → Int32 → Int32 → Option (Int32)
  | 0, _, _ => none
  | fn + 1, x4, x5 =>
    if x5 < (x2 - x1) then
      some x4
    else
      m_X7_ring_64 fu k_ro x3 x4 x5 (m_X7_ring_53 fu k_ro x1 x2 x3 fn) fu (nI 0)
def m_X7_ring_29 (fu : Nat) (k_ro : Nat → Int32) (x1 : Int32) (x2 : Int32) : Nat → Int32 → Option (Int32)
  | 0, _ => none
  | fn + 1, x3 =>
    (m_X7_stepsTo fu k_ro x3 x3).bind fun rv2 =>
    if rv2 = x2 then
      m_X7_ring_53 fu k_ro x1 x2 x3 fu x3 (x2 - (nI 1))
    else
      m_X7_ring_29 fu k_ro x1 x2 fn (x3 + (nI 1))
def m_X7_ring (fu : Nat) (k_ro : Nat → Int32) (x1 : Int32) : Option (Int32) :=
  if (-1 : Int32) ≤ x1 then
    (m_X7_ringMany fu k_ro).bind fun rv1 =>
    if x1 = (-1 : Int32) then
      some rv1
    else
      if x1 < rv1 then
        m_X7_ring_29 fu k_ro x1 rv1 fu (nI 0)
      else
        some (-1 : Int32)
  else
    some (-3 : Int32)
def m_X7_noted_5 (fu : Nat) (k_ro : Nat → Int32) (x1 : Int32) (x2 : Int32) : Nat → Int32 → Int32 → Option (Int32)
  | 0, _, _ => none
  | fn + 1, x3, x4 =>
    if (nI 12) ≤ x4 then
      some x3
    else
      gd 583 ((nI 11) + x4) <|
      if (k_ro ((nI 11) + x4).toNatClampNeg) = x1 then
        (m_X7_usedBy fu k_ro x4).bind fun rv1 =>
        if (rv1 &&& x2) = (nI 0) then
          m_X7_noted_5 fu k_ro x1 x2 fn (x3 ||| (nI 0)) (x4 + (nI 1))
        else
          m_X7_noted_5 fu k_ro x1 x2 fn (x3 ||| ((nI 1) <<< (x4 &&& 31))) (x4 + (nI 1))
      else
        m_X7_noted_5 fu k_ro x1 x2 fn (x3 ||| (nI 0)) (x4 + (nI 1))
def m_X7_noted (fu : Nat) (k_ro : Nat → Int32) (x1 : Int32) (x2 : Int32) : Option (Int32) :=
  m_X7_noted_5 fu k_ro x1 x2 fu (nI 0) (nI 0)
def m_X7_turned_5 (fu : Nat) (k_ro : Nat → Int32) (x1 : Int32) (x2 : Int32) : Nat → Int32 → Int32 → Option (Int32)
  | 0, _, _ => none
  | fn + 1, x3, x4 =>
    (m_X7_placeOf fu k_ro x1).bind fun rv1 =>
    if rv1 ≤ x4 then
      some x3
    else
      gd 583 ((nI 33) + x4) <|
      (m_X7_has x2 (k_ro ((nI 33) + x4).toNatClampNeg)).bind fun rv2 =>
      if rv2 = (nI 0) then
        m_X7_turned_5 fu k_ro x1 x2 fn (x3 + (nI 1)) (x4 + (nI 1))
      else
        m_X7_turned_5 fu k_ro x1 x2 fn (x3 + (nI 0)) (x4 + (nI 1))
def m_X7_turned (fu : Nat) (k_ro : Nat → Int32) (x1 : Int32) (x2 : Int32) : Option (Int32) :=
  m_X7_turned_5 fu k_ro x1 x2 fu (nI 0) (nI 0)
def m_X7_canStand (k_ro : Nat → Int32) (x1 : Int32) (x2 : Int32) : Option (Int32) :=
  (m_X7_has x2 x1).bind fun rv1 =>
  if rv1 = (nI 0) then
    gd 583 ((nI 43) + x1) <|
    if ((k_ro ((nI 43) + x1).toNatClampNeg) &&& (x2 ^^^ (-1 : Int32))) = (nI 0) then
      some (nI 1)
    else
      some (nI 0)
  else
    some (nI 0)
def m_X7_finds_174 (k_no : Nat → Int32) (k_tu : Nat → Int32) (s1 : Int32) (s2 : Int32) (x2 : Int32) (x3 : Int32) (x5 : Int32) (x6 : Int32) (kt53 : (Nat → Int32) → (Nat → Int32) → Int32 → Option ((Nat → Int32) × (Nat → Int32))) : Option ((Nat → Int32) × (Nat → Int32)) :=
  gd 1024 s1 <|
  if x6 = (nI 0) then
    gd 1024 x2 <|
    gd 1024 x2 <|
    kt53 (upd k_no s1.toNatClampNeg s2) (upd k_tu x2.toNatClampNeg (k_tu x2.toNatClampNeg)) (x3 + (nI 1))
  else
    gd 1024 x2 <|
    kt53 (upd k_no s1.toNatClampNeg s2) (upd k_tu x2.toNatClampNeg x5) (x3 + (nI 1))
def m_X7_finds_151 (k_no : Nat → Int32) (k_tu : Nat → Int32) (s0 : Int32) (x2 : Int32) (x3 : Int32) (x4 : Int32) (x5 : Int32) (kt53 : (Nat → Int32) → (Nat → Int32) → Int32 → Option ((Nat → Int32) × (Nat → Int32))) : Option ((Nat → Int32) × (Nat → Int32)) :=
  if s0 = (nI 0) then
    gd 1024 x2 <|
    m_X7_finds_174 k_no k_tu x2 (k_no x2.toNatClampNeg) x2 x3 x5 s0 kt53
  else
    m_X7_finds_174 k_no k_tu x2 x4 x2 x3 x5 s0 kt53
def m_X7_finds_53 (fu : Nat) (k_ro : Nat → Int32) (x2 : Int32) (kt29 : (Nat → Int32) → (Nat → Int32) → Int32 → Option ((Nat → Int32) × (Nat → Int32))) : Nat → (Nat → Int32) → (Nat → Int32) → Int32 → Option ((Nat → Int32) × (Nat → Int32))
  | 0, _, _, _ => none
  | fn + 1, k_no, k_tu, x3 =>
    gd 583 (nI 0) <|
    if (k_ro (nI 0).toNatClampNeg) ≤ x3 then
      kt29 k_no k_tu (x2 + (-1 : Int32))
    else
      (m_X7_canStand k_ro x3 x2).bind fun rv1 =>
      if rv1 = (nI 0) then
        m_X7_finds_53 fu k_ro x2 kt29 fn k_no k_tu (x3 + (nI 1))
      else
        (m_X7_noted fu k_ro x3 x2).bind fun rv2 =>
        (m_X7_ones fu rv2).bind fun rv3 =>
        gd 1024 (x2 ||| ((nI 1) <<< (x3 &&& 31))) <|
        (m_X7_turned fu k_ro x3 x2).bind fun rv4 =>
        gd 1024 (x2 ||| ((nI 1) <<< (x3 &&& 31))) <|
        gd 1024 x2 <|
        if (rv3 + (k_no (x2 ||| ((nI 1) <<< (x3 &&& 31))).toNatClampNeg)) < (k_no x2.toNatClampNeg) then
          m_X7_finds_151 k_no k_tu (nI 1) x2 x3 (rv3 + (k_no (x2 ||| ((nI 1) <<< (x3 &&& 31))).toNatClampNeg)) (rv4 + (k_tu (x2 ||| ((nI 1) <<< (x3 &&& 31))).toNatClampNeg)) (m_X7_finds_53 fu k_ro x2 kt29 fn)
        else
          gd 1024 x2 <|
          if (rv3 + (k_no (x2 ||| ((nI 1) <<< (x3 &&& 31))).toNatClampNeg)) = (k_no x2.toNatClampNeg) then
            gd 1024 x2 <|
            if (k_tu x2.toNatClampNeg) ≤ (rv4 + (k_tu (x2 ||| ((nI 1) <<< (x3 &&& 31))).toNatClampNeg)) then
              m_X7_finds_151 k_no k_tu (nI 0) x2 x3 (rv3 + (k_no (x2 ||| ((nI 1) <<< (x3 &&& 31))).toNatClampNeg)) (rv4 + (k_tu (x2 ||| ((nI 1) <<< (x3 &&& 31))).toNatClampNeg)) (m_X7_finds_53 fu k_ro x2 kt29 fn)
            else
              m_X7_finds_151 k_no k_tu (nI 1) x2 x3 (rv3 + (k_no (x2 ||| ((nI 1) <<< (x3 &&& 31))).toNatClampNeg)) (rv4 + (k_tu (x2 ||| ((nI 1) <<< (x3 &&& 31))).toNatClampNeg)) (m_X7_finds_53 fu k_ro x2 kt29 fn)
          else
            m_X7_finds_151 k_no k_tu (nI 0) x2 x3 (rv3 + (k_no (x2 ||| ((nI 1) <<< (x3 &&& 31))).toNatClampNeg)) (rv4 + (k_tu (x2 ||| ((nI 1) <<< (x3 &&& 31))).toNatClampNeg)) (m_X7_finds_53 fu k_ro x2 kt29 fn)
def m_X7_finds_29 (fu : Nat) (k_ro : Nat → Int32) : Nat → (Nat → Int32) → (Nat → Int32) → Int32 → Option ((Nat → Int32) × (Nat → Int32))
  | 0, _, _, _ => none
  | fn + 1, k_no, k_tu, x2 =>
    if x2 < (nI 0) then
      some (k_no, k_tu)
    else
      gd 1024 x2 <|
      gd 1024 x2 <|
      m_X7_finds_53 fu k_ro x2 (m_X7_finds_29 fu k_ro fn) fu (upd k_no x2.toNatClampNeg (nI 1000)) (upd k_tu x2.toNatClampNeg (nI 1000)) (nI 0)
def m_X7_finds (fu : Nat) (k_ro : Nat → Int32) (k_no : Nat → Int32) (k_tu : Nat → Int32) : Option ((Nat → Int32) × (Nat → Int32)) :=
  gd 583 (nI 0) <|
  gd 1024 (((nI 1) <<< ((k_ro (nI 0).toNatClampNeg) &&& 31)) - (nI 1)) <|
  gd 1024 (((nI 1) <<< ((k_ro (nI 0).toNatClampNeg) &&& 31)) - (nI 1)) <|
  m_X7_finds_29 fu k_ro fu (upd k_no (((nI 1) <<< ((k_ro (nI 0).toNatClampNeg) &&& 31)) - (nI 1)).toNatClampNeg (nI 0)) (upd k_tu (((nI 1) <<< ((k_ro (nI 0).toNatClampNeg) &&& 31)) - (nI 1)).toNatClampNeg (nI 0)) ((((nI 1) <<< ((k_ro (nI 0).toNatClampNeg) &&& 31)) - (nI 1)) - (nI 1))
def m_X7_isNext (fu : Nat) (k_ro : Nat → Int32) (k_no : Nat → Int32) (k_tu : Nat → Int32) (x1 : Int32) (x2 : Int32) : Option (Int32) :=
  (m_X7_canStand k_ro x1 x2).bind fun rv1 =>
  if rv1 = (nI 0) then
    some (nI 0)
  else
    (m_X7_noted fu k_ro x1 x2).bind fun rv2 =>
    (m_X7_ones fu rv2).bind fun rv3 =>
    gd 1024 (x2 ||| ((nI 1) <<< (x1 &&& 31))) <|
    gd 1024 x2 <|
    if (rv3 + (k_no (x2 ||| ((nI 1) <<< (x1 &&& 31))).toNatClampNeg)) = (k_no x2.toNatClampNeg) then
      (m_X7_turned fu k_ro x1 x2).bind fun rv4 =>
      gd 1024 (x2 ||| ((nI 1) <<< (x1 &&& 31))) <|
      gd 1024 x2 <|
      if (rv4 + (k_tu (x2 ||| ((nI 1) <<< (x1 &&& 31))).toNatClampNeg)) = (k_tu x2.toNatClampNeg) then
        some (nI 1)
      else
        some (nI 0)
    else
      some (nI 0)
def m_X7_lays_20 (fu : Nat) (k_ro : Nat → Int32) (k_nu : Nat → Int32) (k_no : Nat → Int32) (k_tu : Nat → Int32) (x1 : Int32) (x2 : Int32) (kt8 : (Nat → Int32) → Int32 → Int32 → Option ((Nat → Int32) × (Nat → Int32) × (Nat → Int32))) : Nat → Int32 → Option ((Nat → Int32) × (Nat → Int32) × (Nat → Int32))
  | 0, _ => none
  | fn + 1, x3 =>
    gd 583 ((nI 33) + x3) <|
    (m_X7_isNext fu k_ro k_no k_tu (k_ro ((nI 33) + x3).toNatClampNeg) x1).bind fun rv2 =>
    if rv2 = (nI 0) then
      m_X7_lays_20 fu k_ro k_nu k_no k_tu x1 x2 kt8 fn (x3 + (nI 1))
    else
      gd 583 ((nI 33) + x3) <|
      gd 10 x2 <|
      gd 10 x2 <|
      nm (x1 ||| ((nI 1) <<< (((upd k_nu x2.toNatClampNeg (k_ro ((nI 33) + x3).toNatClampNeg)) x2.toNatClampNeg) &&& 31))) fun nv3 =>
      kt8 (upd k_nu x2.toNatClampNeg (k_ro ((nI 33) + x3).toNatClampNeg)) nv3 (x2 + (nI 1))
def m_X7_lays_8 (fu : Nat) (k_ro : Nat → Int32) (k_no : Nat → Int32) (k_tu : Nat → Int32) : Nat → (Nat → Int32) → Int32 → Int32 → Option ((Nat → Int32) × (Nat → Int32) × (Nat → Int32))
  | 0, _, _, _ => none
  | fn + 1, k_nu, x1, x2 =>
    gd 583 (nI 0) <|
    if (k_ro (nI 0).toNatClampNeg) ≤ x2 then
      some (k_nu, k_no, k_tu)
    else
      m_X7_lays_20 fu k_ro k_nu k_no k_tu x1 x2 (m_X7_lays_8 fu k_ro k_no k_tu fn) fu (nI 0)
def m_X7_lays (fu : Nat) (k_ro : Nat → Int32) (k_nu : Nat → Int32) (k_no : Nat → Int32) (k_tu : Nat → Int32) : Option ((Nat → Int32) × (Nat → Int32) × (Nat → Int32)) :=
  (m_X7_finds fu k_ro k_no k_tu).bind fun rv1 =>
  m_X7_lays_8 fu k_ro rv1.1 rv1.2 fu k_nu (nI 0) (nI 0)
def m_X7_best (fu : Nat) (k_ro : Nat → Int32) (k_nu : Nat → Int32) (k_no : Nat → Int32) (k_tu : Nat → Int32) (x1 : Int32) : Option (Int32 × (Nat → Int32) × (Nat → Int32) × (Nat → Int32)) :=
  (m_X7_isSection k_ro x1).bind fun rv1 =>
  if rv1 = (nI 0) then
    some ((-2 : Int32), k_nu, k_no, k_tu)
  else
    (m_X7_lays fu k_ro k_nu k_no k_tu).bind fun rv2 =>
    gd 10 x1 <|
    some ((rv2.1 x1.toNatClampNeg), rv2.1, rv2.2.1, rv2.2.2)
def m_X7_leastNotes_6 (fu : Nat) (k_ro : Nat → Int32) (k_nu : Nat → Int32) : Nat → Int32 → Int32 → Int32 → Option (Int32)
  | 0, _, _, _ => none
  | fn + 1, x1, x2, x3 =>
    gd 583 (nI 0) <|
    if (k_ro (nI 0).toNatClampNeg) ≤ x3 then
      some x2
    else
      gd 10 x3 <|
      (m_X7_noted fu k_ro (k_nu x3.toNatClampNeg) x1).bind fun rv1 =>
      gd 10 x3 <|
      m_X7_leastNotes_6 fu k_ro k_nu fn (x1 ||| ((nI 1) <<< ((k_nu x3.toNatClampNeg) &&& 31))) (x2 ||| rv1) (x3 + (nI 1))
def m_X7_leastNotes (fu : Nat) (k_ro : Nat → Int32) (k_nu : Nat → Int32) : Option (Int32) :=
  m_X7_leastNotes_6 fu k_ro k_nu fu (nI 0) (nI 0) (nI 0)
def m_X7_swapOrder_2 : Nat → (Nat → Int32) → (Nat → Int32) → Int32 → Option ((Nat → Int32) × (Nat → Int32))
  | 0, _, _, _ => none
  | fn + 1, k_ro, k_nu, x1 =>
    gd 583 (nI 0) <|
    if (k_ro (nI 0).toNatClampNeg) ≤ x1 then
      some (k_ro, k_nu)
    else
      gd 583 ((nI 33) + x1) <|
      gd 10 x1 <|
      gd 583 ((nI 33) + x1) <|
      gd 10 x1 <|
      m_X7_swapOrder_2 fn (upd k_ro ((nI 33) + x1).toNatClampNeg (k_nu x1.toNatClampNeg)) (upd k_nu x1.toNatClampNeg (k_ro ((nI 33) + x1).toNatClampNeg)) (x1 + (nI 1))
def m_X7_swapOrder (fu : Nat) (k_ro : Nat → Int32) (k_nu : Nat → Int32) : Option ((Nat → Int32) × (Nat → Int32)) :=
  m_X7_swapOrder_2 fu k_ro k_nu (nI 0)
def m_X7_least (fu : Nat) (k_ro : Nat → Int32) (k_nu : Nat → Int32) (k_no : Nat → Int32) (k_tu : Nat → Int32) (x1 : Int32) : Option (Int32 × (Nat → Int32) × (Nat → Int32) × (Nat → Int32) × (Nat → Int32)) :=
  (m_X7_in x1.toInt64 (lN 0) (lN 3)).bind fun rv1 =>
  if rv1 = (nI 0) then
    some ((-3 : Int32), k_ro, k_nu, k_no, k_tu)
  else
    (m_X7_lays fu k_ro k_nu k_no k_tu).bind fun rv2 =>
    if (nI 3) ≤ x1 then
      (m_X7_swapOrder fu k_ro rv2.1).bind fun rv3 =>
      (m_X7_lastsAll fu rv3.1).bind fun rv4 =>
      (m_X7_swapOrder fu rv3.1 rv3.2).bind fun rv5 =>
      some (rv4, rv5.1, rv5.2, rv2.2.1, rv2.2.2)
    else
      if x1 = (nI 0) then
        (m_X7_leastNotes fu k_ro rv2.1).bind fun rv6 =>
        some (rv6, k_ro, rv2.1, rv2.2.1, rv2.2.2)
      else
        if x1 = (nI 1) then
          gd 1024 (nI 0) <|
          some ((rv2.2.1 (nI 0).toNatClampNeg), k_ro, rv2.1, rv2.2.1, rv2.2.2)
        else
          gd 1024 (nI 0) <|
          some ((rv2.2.2 (nI 0).toNatClampNeg), k_ro, rv2.1, rv2.2.1, rv2.2.2)
def m_X7_would (fu : Nat) (k_ro : Nat → Int32) (k_no : Nat → Int32) (k_tu : Nat → Int32) (x1 : Int32) (x2 : Int32) : Option (Int32 × (Nat → Int32) × (Nat → Int32) × (Nat → Int32)) :=
  (m_X7_isSection k_ro x1).bind fun rv1 =>
  if rv1 = (nI 0) then
    some ((-2 : Int32), k_ro, k_no, k_tu)
  else
    (m_X7_isTerm x2).bind fun rv2 =>
    if rv2 = (nI 0) then
      some ((-2 : Int32), k_ro, k_no, k_tu)
    else
      gd 583 ((nI 23) + x1) <|
      gd 583 ((nI 23) + x1) <|
      gd 583 ((nI 23) + x1) <|
      (m_X7_finds fu (upd k_ro ((nI 23) + x1).toNatClampNeg ((k_ro ((nI 23) + x1).toNatClampNeg) ||| ((nI 1) <<< (x2 &&& 31)))) k_no k_tu).bind fun rv3 =>
      gd 583 ((nI 23) + x1) <|
      gd 1024 (nI 0) <|
      some ((rv3.1 (nI 0).toNatClampNeg), (upd (upd k_ro ((nI 23) + x1).toNatClampNeg ((k_ro ((nI 23) + x1).toNatClampNeg) ||| ((nI 1) <<< (x2 &&& 31)))) ((nI 23) + x1).toNatClampNeg (k_ro ((nI 23) + x1).toNatClampNeg)), rv3.1, rv3.2)
def m_X7_copyRow_2 (x1 : Int32) (x2 : Int32) : Nat → (Nat → Int32) → Int32 → Option ((Nat → Int32))
  | 0, _, _ => none
  | fn + 1, k_ro, x3 =>
    if (nI 53) ≤ x3 then
      some k_ro
    else
      gd 583 (x1 + x3) <|
      gd 583 (x2 + x3) <|
      m_X7_copyRow_2 x1 x2 fn (upd k_ro (x2 + x3).toNatClampNeg (k_ro (x1 + x3).toNatClampNeg)) (x3 + (nI 1))
def m_X7_copyRow (fu : Nat) (k_ro : Nat → Int32) (x1 : Int32) (x2 : Int32) : Option ((Nat → Int32)) :=
  m_X7_copyRow_2 x1 x2 fu k_ro (nI 0)
def m_X7_records_61 (fu : Nat) (k_ro : Nat → Int32) (s1 : Int32) (s2 : Int32) : Option (Int32 × (Nat → Int32)) :=
  (m_X7_copyRow fu k_ro (nI 0) ((nI 53) + ((nI 53) * (s1 - s2)))).bind fun rv1 =>
  some (((s1 - s2) + (nI 1)), rv1)
def m_X7_records_42 (fu : Nat) (k_un : Int32) (k_ro : Nat → Int32) : Option (Int32 × (Nat → Int32)) :=
  if k_un = (nI 8) then
    m_X7_records_61 fu k_ro k_un (nI 1)
  else
    m_X7_records_61 fu k_ro k_un (nI 0)
def m_X7_records_2 (fu : Nat) (k_un : Int32) : Nat → (Nat → Int32) → Int32 → Option (Int32 × (Nat → Int32))
  | 0, _, _ => none
  | fn + 1, k_ro, x1 =>
    if (nI 371) ≤ x1 then
      m_X7_records_42 fu k_un k_ro
    else
      if k_un = (nI 8) then
        gd 583 ((nI 106) + x1) <|
        gd 583 ((nI 53) + x1) <|
        m_X7_records_2 fu k_un fn (upd k_ro ((nI 53) + x1).toNatClampNeg (k_ro ((nI 106) + x1).toNatClampNeg)) (x1 + (nI 1))
      else
        m_X7_records_42 fu k_un k_ro
def m_X7_records (fu : Nat) (k_un : Int32) (k_ro : Nat → Int32) : Option (Int32 × (Nat → Int32)) :=
  m_X7_records_2 fu k_un fu k_ro (nI 0)
def m_X7_becomes (fu : Nat) (k_un : Int32) (k_ro : Nat → Int32) (x1 : Int32) (x2 : Int32) : Option (Int32 × Int32 × (Nat → Int32)) :=
  (m_X7_records fu k_un k_ro).bind fun rv1 =>
  gd 583 x1 <|
  gd 583 x1 <|
  some ((rv1.2 x1.toNatClampNeg), rv1.1, (upd rv1.2 x1.toNatClampNeg x2))
def m_X7_pages (fu : Nat) (k_un : Int32) (k_ro : Nat → Int32) (x1 : Int32) (x2 : Int32) : Option (Int32 × Int32 × (Nat → Int32)) :=
  (m_X7_isSection k_ro x1).bind fun rv1 =>
  if rv1 = (nI 0) then
    some ((-2 : Int32), k_un, k_ro)
  else
    (m_X7_in x2.toInt64 (lN 1) (lN 9)).bind fun rv2 =>
    if rv2 = (nI 0) then
      some ((-3 : Int32), k_un, k_ro)
    else
      (m_X7_becomes fu k_un k_ro ((nI 1) + x1) x2).bind fun rv3 =>
      some (rv3.1, rv3.2.1, rv3.2.2)
def m_X7_uses (fu : Nat) (k_un : Int32) (k_ro : Nat → Int32) (x1 : Int32) (x2 : Int32) (x3 : Int32) : Option (Int32 × Int32 × (Nat → Int32)) :=
  (m_X7_isSection k_ro x1).bind fun rv1 =>
  if rv1 = (nI 0) then
    some ((-2 : Int32), k_un, k_ro)
  else
    (m_X7_isTerm x2).bind fun rv2 =>
    if rv2 = (nI 0) then
      some ((-2 : Int32), k_un, k_ro)
    else
      (m_X7_in x3.toInt64 (lN 0) (lN 1)).bind fun rv3 =>
      if rv3 = (nI 0) then
        some ((-3 : Int32), k_un, k_ro)
      else
        gd 583 ((nI 23) + x1) <|
        nm (((k_ro ((nI 23) + x1).toNatClampNeg) &&& (((nI 1) <<< (x2 &&& 31)) ^^^ (-1 : Int32))) ||| (x3 <<< (x2 &&& 31))) fun nv4 =>
        (m_X7_becomes fu k_un k_ro ((nI 23) + x1) nv4).bind fun rv5 =>
        if rv5.1 = nv4 then
          some ((nI 0), rv5.2.1, rv5.2.2)
        else
          some ((nI 1), rv5.2.1, rv5.2.2)
def m_X7_home_25 (fu : Nat) (k_un : Int32) (k_ro : Nat → Int32) (x1 : Int32) (x2 : Int32) : Option (Int32 × Int32 × (Nat → Int32)) :=
  (m_X7_becomes fu k_un k_ro ((nI 11) + x1) x2).bind fun rv3 =>
  some (rv3.1, rv3.2.1, rv3.2.2)
def m_X7_home (fu : Nat) (k_un : Int32) (k_ro : Nat → Int32) (x1 : Int32) (x2 : Int32) : Option (Int32 × Int32 × (Nat → Int32)) :=
  (m_X7_isTerm x1).bind fun rv1 =>
  if rv1 = (nI 0) then
    some ((-2 : Int32), k_un, k_ro)
  else
    if x2 = (-1 : Int32) then
      m_X7_home_25 fu k_un k_ro x1 x2
    else
      (m_X7_isSection k_ro x2).bind fun rv2 =>
      if rv2 = (nI 0) then
        some ((-2 : Int32), k_un, k_ro)
      else
        m_X7_home_25 fu k_un k_ro x1 x2
def m_X7_pairs_4 (fu : Nat) (k_ro : Nat → Int32) : Nat → Int32 → Int32 → Option (Int32)
  | 0, _, _ => none
  | fn + 1, x1, x2 =>
    gd 583 (nI 0) <|
    if (k_ro (nI 0).toNatClampNeg) ≤ x2 then
      some x1
    else
      gd 583 ((nI 43) + x2) <|
      (m_X7_ones fu (k_ro ((nI 43) + x2).toNatClampNeg)).bind fun rv1 =>
      m_X7_pairs_4 fu k_ro fn (x1 + rv1) (x2 + (nI 1))
def m_X7_pairs (fu : Nat) (k_ro : Nat → Int32) : Option (Int32) :=
  m_X7_pairs_4 fu k_ro fu (nI 0) (nI 0)
def m_X7_areTwo (k_ro : Nat → Int32) (x1 : Int32) (x2 : Int32) : Option (Int32) :=
  (m_X7_isSection k_ro x1).bind fun rv1 =>
  if rv1 = (nI 0) then
    some (nI 0)
  else
    (m_X7_isSection k_ro x2).bind fun rv2 =>
    if rv2 = (nI 0) then
      some (nI 0)
    else
      if x1 = x2 then
        some (nI 0)
      else
        some (nI 1)
def m_X7_ahead (fu : Nat) (k_un : Int32) (k_ro : Nat → Int32) (x1 : Int32) (x2 : Int32) : Option (Int32 × Int32 × (Nat → Int32)) :=
  (m_X7_areTwo k_ro x1 x2).bind fun rv1 =>
  if rv1 = (nI 0) then
    some ((-2 : Int32), k_un, k_ro)
  else
    (m_X7_canPair fu k_ro x1 x2).bind fun rv2 =>
    if rv2 = (nI 0) then
      some ((-4 : Int32), k_un, k_ro)
    else
      gd 583 ((nI 43) + x2) <|
      (m_X7_becomes fu k_un k_ro ((nI 43) + x2) ((k_ro ((nI 43) + x2).toNatClampNeg) ||| ((nI 1) <<< (x1 &&& 31)))).bind fun rv3 =>
      (m_X7_pairs fu rv3.2.2).bind fun rv4 =>
      some (rv4, rv3.2.1, rv3.2.2)
def m_X7_loosen (fu : Nat) (k_un : Int32) (k_ro : Nat → Int32) (x1 : Int32) (x2 : Int32) : Option (Int32 × Int32 × (Nat → Int32)) :=
  (m_X7_isSection k_ro x1).bind fun rv1 =>
  if rv1 = (nI 0) then
    some ((-2 : Int32), k_un, k_ro)
  else
    (m_X7_isSection k_ro x2).bind fun rv2 =>
    if rv2 = (nI 0) then
      some ((-2 : Int32), k_un, k_ro)
    else
      gd 583 ((nI 43) + x2) <|
      (m_X7_has (k_ro ((nI 43) + x2).toNatClampNeg) x1).bind fun rv3 =>
      if rv3 = (nI 0) then
        some ((-4 : Int32), k_un, k_ro)
      else
        gd 583 ((nI 43) + x2) <|
        (m_X7_becomes fu k_un k_ro ((nI 43) + x2) ((k_ro ((nI 43) + x2).toNatClampNeg) &&& (((nI 1) <<< (x1 &&& 31)) ^^^ (-1 : Int32)))).bind fun rv4 =>
        (m_X7_pairs fu rv4.2.2).bind fun rv5 =>
        some (rv5, rv4.2.1, rv4.2.2)
def m_X7_moves_62 (k_ro : Nat → Int32) (k_nu : Nat → Int32) (s1 : Int32) (x3 : Int32) (kt2 : (Nat → Int32) → Int32 → Option ((Nat → Int32))) : Option ((Nat → Int32)) :=
  gd 583 ((nI 33) + x3) <|
  gd 10 s1 <|
  kt2 (upd k_nu s1.toNatClampNeg (k_ro ((nI 33) + x3).toNatClampNeg)) (x3 + (nI 1))
def m_X7_moves_41 (k_ro : Nat → Int32) (k_nu : Nat → Int32) (x2 : Int32) (s0 : Int32) (x3 : Int32) (kt2 : (Nat → Int32) → Int32 → Option ((Nat → Int32))) : Option ((Nat → Int32)) :=
  if x2 ≤ s0 then
    m_X7_moves_62 k_ro k_nu (s0 + (nI 1)) x3 kt2
  else
    m_X7_moves_62 k_ro k_nu s0 x3 kt2
def m_X7_moves_2 (fu : Nat) (k_ro : Nat → Int32) (x1 : Int32) (x2 : Int32) : Nat → (Nat → Int32) → Int32 → Option ((Nat → Int32))
  | 0, _, _ => none
  | fn + 1, k_nu, x3 =>
    gd 583 (nI 0) <|
    if (k_ro (nI 0).toNatClampNeg) ≤ x3 then
      gd 10 x2 <|
      some (upd k_nu x2.toNatClampNeg x1)
    else
      gd 583 ((nI 33) + x3) <|
      if (k_ro ((nI 33) + x3).toNatClampNeg) = x1 then
        m_X7_moves_2 fu k_ro x1 x2 fn k_nu (x3 + (nI 1))
      else
        (m_X7_placeOf fu k_ro x1).bind fun rv1 =>
        if x3 ≤ rv1 then
          m_X7_moves_41 k_ro k_nu x2 x3 x3 (m_X7_moves_2 fu k_ro x1 x2 fn)
        else
          m_X7_moves_41 k_ro k_nu x2 (x3 - (nI 1)) x3 (m_X7_moves_2 fu k_ro x1 x2 fn)
def m_X7_moves (fu : Nat) (k_ro : Nat → Int32) (k_nu : Nat → Int32) (x1 : Int32) (x2 : Int32) : Option ((Nat → Int32)) :=
  m_X7_moves_2 fu k_ro x1 x2 fu k_nu (nI 0)
def m_X7_move (fu : Nat) (k_un : Int32) (k_ro : Nat → Int32) (k_nu : Nat → Int32) (x1 : Int32) (x2 : Int32) : Option (Int32 × Int32 × (Nat → Int32) × (Nat → Int32)) :=
  (m_X7_isSection k_ro x1).bind fun rv1 =>
  if rv1 = (nI 0) then
    some ((-2 : Int32), k_un, k_ro, k_nu)
  else
    (m_X7_isSection k_ro x2).bind fun rv2 =>
    if rv2 = (nI 0) then
      some ((-2 : Int32), k_un, k_ro, k_nu)
    else
      (m_X7_moves fu k_ro k_nu x1 x2).bind fun rv3 =>
      (m_X7_isKeeping fu k_ro rv3).bind fun rv4 =>
      if rv4 = (nI 0) then
        some ((-4 : Int32), k_un, k_ro, rv3)
      else
        (m_X7_records fu k_un k_ro).bind fun rv5 =>
        (m_X7_swapOrder fu rv5.2 rv3).bind fun rv6 =>
        (m_X7_notesMany fu rv6.1).bind fun rv7 =>
        some (rv7, rv5.1, rv6.1, rv6.2)
def m_X7_after (fu : Nat) (k_ro : Nat → Int32) (k_nu : Nat → Int32) (x1 : Int32) (x2 : Int32) : Option (Int32 × (Nat → Int32) × (Nat → Int32)) :=
  (m_X7_isSection k_ro x1).bind fun rv1 =>
  if rv1 = (nI 0) then
    some ((-2 : Int32), k_ro, k_nu)
  else
    (m_X7_isSection k_ro x2).bind fun rv2 =>
    if rv2 = (nI 0) then
      some ((-2 : Int32), k_ro, k_nu)
    else
      (m_X7_moves fu k_ro k_nu x1 x2).bind fun rv3 =>
      (m_X7_isKeeping fu k_ro rv3).bind fun rv4 =>
      if rv4 = (nI 0) then
        some ((-4 : Int32), k_ro, rv3)
      else
        (m_X7_swapOrder fu k_ro rv3).bind fun rv5 =>
        (m_X7_notesMany fu rv5.1).bind fun rv6 =>
        (m_X7_swapOrder fu rv5.1 rv5.2).bind fun rv7 =>
        some (rv6, rv7.1, rv7.2)
def m_X7_settle (fu : Nat) (k_un : Int32) (k_ro : Nat → Int32) (k_nu : Nat → Int32) (k_no : Nat → Int32) (k_tu : Nat → Int32) : Option (Int32 × Int32 × (Nat → Int32) × (Nat → Int32) × (Nat → Int32) × (Nat → Int32)) :=
  (m_X7_lays fu k_ro k_nu k_no k_tu).bind fun rv1 =>
  gd 1024 (nI 0) <|
  (m_X7_records fu k_un k_ro).bind fun rv2 =>
  (m_X7_swapOrder fu rv2.2 rv1.1).bind fun rv3 =>
  some ((rv1.2.2 (nI 0).toNatClampNeg), rv2.1, rv3.1, rv3.2, rv1.2.1, rv1.2.2)
def m_X7_undo (fu : Nat) (k_un : Int32) (k_ro : Nat → Int32) : Option (Int32 × Int32 × (Nat → Int32)) :=
  if k_un = (nI 0) then
    some ((-4 : Int32), k_un, k_ro)
  else
    (m_X7_copyRow fu k_ro ((nI 53) + ((nI 53) * (k_un - (nI 1)))) (nI 0)).bind fun rv1 =>
    some ((k_un - (nI 1)), (k_un - (nI 1)), rv1)
def m_X7_keep (fu : Nat) (k_ro : Nat → Int32) (k_ke : Nat → Int32) (x1 : Int32) : Option (Int32 × (Nat → Int32) × (Nat → Int32)) :=
  (m_X7_in x1.toInt64 (lN 0) (lN 1)).bind fun rv1 =>
  if rv1 = (nI 0) then
    some ((-3 : Int32), k_ro, k_ke)
  else
    (m_X7_copyRow fu k_ro (nI 0) ((nI 477) + ((nI 53) * x1))).bind fun rv2 =>
    gd 2 x1 <|
    (m_X7_notesMany fu rv2).bind fun rv3 =>
    some (rv3, rv2, (upd k_ke x1.toNatClampNeg (nI 1)))
def m_X7_back (fu : Nat) (k_un : Int32) (k_ro : Nat → Int32) (k_ke : Nat → Int32) (x1 : Int32) : Option (Int32 × Int32 × (Nat → Int32)) :=
  (m_X7_in x1.toInt64 (lN 0) (lN 1)).bind fun rv1 =>
  if rv1 = (nI 0) then
    some ((-3 : Int32), k_un, k_ro)
  else
    gd 2 x1 <|
    if (k_ke x1.toNatClampNeg) = (nI 0) then
      some ((-4 : Int32), k_un, k_ro)
    else
      (m_X7_copyRow fu k_ro ((nI 477) + ((nI 53) * x1)) (nI 0)).bind fun rv2 =>
      (m_X7_notesMany fu rv2).bind fun rv3 =>
      some (rv3, (nI 0), rv2)
def m_X7_at (k_ro : Nat → Int32) (x1 : Int32) : Option (Int32) :=
  (m_X7_isSection k_ro x1).bind fun rv1 =>
  if rv1 = (nI 0) then
    some (-2 : Int32)
  else
    gd 583 ((nI 33) + x1) <|
    some (k_ro ((nI 33) + x1).toNatClampNeg)
def m_X7_homesIn_4 (k_ro : Nat → Int32) (x1 : Int32) : Nat → Int32 → Int32 → Option (Int32)
  | 0, _, _ => none
  | fn + 1, x2, x3 =>
    if (nI 12) ≤ x3 then
      some x2
    else
      gd 583 ((nI 11) + x3) <|
      if (k_ro ((nI 11) + x3).toNatClampNeg) = x1 then
        m_X7_homesIn_4 k_ro x1 fn (x2 ||| ((nI 1) <<< (x3 &&& 31))) (x3 + (nI 1))
      else
        m_X7_homesIn_4 k_ro x1 fn (x2 ||| (nI 0)) (x3 + (nI 1))
def m_X7_homesIn (fu : Nat) (k_ro : Nat → Int32) (x1 : Int32) : Option (Int32) :=
  m_X7_homesIn_4 k_ro x1 fu (nI 0) (nI 0)
def m_X7_notesIn_4 (fu : Nat) (k_ro : Nat → Int32) (x1 : Int32) : Nat → Int32 → Int32 → Option (Int32)
  | 0, _, _ => none
  | fn + 1, x2, x3 =>
    if (nI 12) ≤ x3 then
      some x2
    else
      (m_X7_noteOf fu k_ro x3).bind fun rv1 =>
      if rv1 = x1 then
        m_X7_notesIn_4 fu k_ro x1 fn (x2 ||| ((nI 1) <<< (x3 &&& 31))) (x3 + (nI 1))
      else
        m_X7_notesIn_4 fu k_ro x1 fn (x2 ||| (nI 0)) (x3 + (nI 1))
def m_X7_notesIn (fu : Nat) (k_ro : Nat → Int32) (x1 : Int32) : Option (Int32) :=
  m_X7_notesIn_4 fu k_ro x1 fu (nI 0) (nI 0)
def m_X7_section (fu : Nat) (k_ro : Nat → Int32) (x1 : Int32) (x2 : Int32) : Option (Int32) :=
  (m_X7_isSection k_ro x1).bind fun rv1 =>
  if rv1 = (nI 0) then
    some (-2 : Int32)
  else
    if x2 = (nI 0) then
      (m_X7_placeOf fu k_ro x1).bind fun rv2 =>
      some rv2
    else
      if x2 = (nI 1) then
        gd 583 ((nI 1) + x1) <|
        some (k_ro ((nI 1) + x1).toNatClampNeg)
      else
        if x2 = (nI 2) then
          gd 583 ((nI 23) + x1) <|
          some (k_ro ((nI 23) + x1).toNatClampNeg)
        else
          if x2 = (nI 3) then
            (m_X7_homesIn fu k_ro x1).bind fun rv3 =>
            some rv3
          else
            if x2 = (nI 4) then
              (m_X7_earlyIn fu k_ro x1).bind fun rv4 =>
              some rv4
            else
              if x2 = (nI 5) then
                (m_X7_notesIn fu k_ro x1).bind fun rv5 =>
                some rv5
              else
                if x2 = (nI 6) then
                  (m_X7_needs fu k_ro x1).bind fun rv6 =>
                  some rv6
                else
                  if x2 = (nI 7) then
                    (m_X7_knotOf fu k_ro x1).bind fun rv7 =>
                    some rv7
                  else
                    if x2 = (nI 8) then
                      gd 583 ((nI 43) + x1) <|
                      some (k_ro ((nI 43) + x1).toNatClampNeg)
                    else
                      some (-3 : Int32)
def m_X7_term (fu : Nat) (k_ro : Nat → Int32) (x1 : Int32) (x2 : Int32) : Option (Int32) :=
  (m_X7_isTerm x1).bind fun rv1 =>
  if rv1 = (nI 0) then
    some (-2 : Int32)
  else
    if x2 = (nI 0) then
      gd 583 ((nI 11) + x1) <|
      some (k_ro ((nI 11) + x1).toNatClampNeg)
    else
      if x2 = (nI 1) then
        (m_X7_usedBy fu k_ro x1).bind fun rv2 =>
        some rv2
      else
        if x2 = (nI 2) then
          (m_X7_noteOf fu k_ro x1).bind fun rv3 =>
          some rv3
        else
          if x2 = (nI 3) then
            (m_X7_lasts fu k_ro x1).bind fun rv4 =>
            some rv4
          else
            if x2 = (nI 4) then
              gd 583 ((nI 11) + x1) <|
              if (k_ro ((nI 11) + x1).toNatClampNeg) = (-1 : Int32) then
                (m_X7_usedBy fu k_ro x1).bind fun rv5 =>
                if rv5 = (nI 0) then
                  some (nI 0)
                else
                  some (nI 1)
              else
                some (nI 0)
            else
              some (-3 : Int32)
def m_X7_homesMany_4 (k_ro : Nat → Int32) : Nat → Int32 → Int32 → Option (Int32)
  | 0, _, _ => none
  | fn + 1, x1, x2 =>
    if (nI 12) ≤ x2 then
      some x1
    else
      gd 583 ((nI 11) + x2) <|
      if (k_ro ((nI 11) + x2).toNatClampNeg) = (-1 : Int32) then
        m_X7_homesMany_4 k_ro fn (x1 + (nI 0)) (x2 + (nI 1))
      else
        m_X7_homesMany_4 k_ro fn (x1 + (nI 1)) (x2 + (nI 1))
def m_X7_homesMany (fu : Nat) (k_ro : Nat → Int32) : Option (Int32) :=
  m_X7_homesMany_4 k_ro fu (nI 0) (nI 0)
def m_X7_sum_4 (fu : Nat) (k_ro : Nat → Int32) (x1 : Int32) : Nat → Int32 → Int32 → Option (Int32)
  | 0, _, _ => none
  | fn + 1, x2, x3 =>
    gd 583 (nI 0) <|
    if (k_ro (nI 0).toNatClampNeg) ≤ x3 then
      some x2
    else
      if x1 = (nI 4) then
        gd 583 ((nI 23) + x3) <|
        (m_X7_ones fu (k_ro ((nI 23) + x3).toNatClampNeg)).bind fun rv3 =>
        m_X7_sum_4 fu k_ro x1 fn (x2 + rv3) (x3 + (nI 1))
      else
        if x1 = (nI 5) then
          (m_X7_earlyIn fu k_ro x3).bind fun rv1 =>
          (m_X7_ones fu rv1).bind fun rv2 =>
          m_X7_sum_4 fu k_ro x1 fn (x2 + rv2) (x3 + (nI 1))
        else
          gd 583 ((nI 1) + x3) <|
          m_X7_sum_4 fu k_ro x1 fn (x2 + (k_ro ((nI 1) + x3).toNatClampNeg)) (x3 + (nI 1))
def m_X7_sum (fu : Nat) (k_ro : Nat → Int32) (x1 : Int32) : Option (Int32) :=
  m_X7_sum_4 fu k_ro x1 fu (nI 0) (nI 0)
def m_X7_count (fu : Nat) (k_un : Int32) (k_len : Int32) (k_ro : Nat → Int32) (x1 : Int32) : Option (Int32) :=
  if x1 = (nI 0) then
    gd 583 (nI 0) <|
    some (k_ro (nI 0).toNatClampNeg)
  else
    if x1 = (nI 1) then
      (m_X7_notesMany fu k_ro).bind fun rv1 =>
      some rv1
    else
      if x1 = (nI 2) then
        (m_X7_loose fu k_ro).bind fun rv2 =>
        some rv2
      else
        if x1 = (nI 3) then
          (m_X7_homesMany fu k_ro).bind fun rv3 =>
          some rv3
        else
          if x1 = (nI 4) then
            (m_X7_sum fu k_ro x1).bind fun rv4 =>
            some rv4
          else
            if x1 = (nI 5) then
              (m_X7_sum fu k_ro x1).bind fun rv5 =>
              some rv5
            else
              if x1 = (nI 6) then
                (m_X7_pairs fu k_ro).bind fun rv6 =>
                some rv6
              else
                if x1 = (nI 7) then
                  (m_X7_lastsAll fu k_ro).bind fun rv7 =>
                  some rv7
                else
                  if x1 = (nI 8) then
                    (m_X7_knots fu k_ro).bind fun rv8 =>
                    some rv8
                  else
                    if x1 = (nI 9) then
                      some k_un
                    else
                      if x1 = (nI 10) then
                        some k_len
                      else
                        if x1 = (nI 11) then
                          (m_X7_sum fu k_ro x1).bind fun rv9 =>
                          some rv9
                        else
                          some (-3 : Int32)
def nmT : List Int32 := [115, 101, 99, 116, 105, 111, 110, 115, 112, 97, 103, 101, 115, 0, 0, 0, 104, 111, 109, 101, 0, 0, 0, 0, 117, 115, 101, 115, 0, 0, 0, 0, 97, 104, 101, 97, 100, 0, 0, 0, 111, 114, 100, 101, 114, 0, 0, 0]
def nmA (k : Nat) : Nat → Int32 := fun j => if j < k then nmT.getD j 0 else 0
theorem nmA_0 : (fun _ : Nat => nI 0) = nmA 0 := by funext j; simp [nmA, nI]
theorem nmA_s (k : Nat) (i v : Int32) (hi : i.toNatClampNeg = k) (hv : v = nmT.getD k 0) : upd (nmA k) i.toNatClampNeg v = nmA (k + 1) := by
  funext j
  rw [hi, hv]
  simp only [upd, nmA]
  by_cases h : j = k
  · subst h; simp
  · by_cases h2 : j < k
    · simp [h, h2, Nat.lt_succ_of_lt h2]
    · simp [h, h2, show ¬ j < k + 1 by omega]
def m_X3_init (fu : Nat) : Option (Int32 × (Nat → Int32) × (Nat → Int32) × (Nat → Int32) × (Nat → Int32) × (Nat → Int32)) := m_X3_beginAnew fu (fun _ => (nI 0)) (fun _ => (nI 0)) (fun _ => (nI 0)) (fun _ => (nI 0)) (fun _ => (nI 0)) (nI 4)
def m_X7_init (fu : Nat) : Option (Nat → Int32) := m_X7_begins fu (fun _ => (nI 0)) (nI 4)
