/-! functions of the reference, and of the class where the law does not call them, as definitions alone (a ghost) -/
def f71_factNow (p0 : Int32) (Z : mjZt) : Option Int32 :=
  mjBp (f5_at 191 p0 Z) fun v102 =>
  some v102
def f94_tally_j70 (R : Nat → Int32 → Int32 → Int32 → Nat → Int32 → Int32 → Int32 → Int32 → Int32 → mjZt → Option (Int32 × mjZt)) (x1 : Nat) (x2 : Int32) (x3 : Int32) (x4 : Int32) (x5 : Nat) (x6 : Int32) (x7 : Int32) (x8 : Int32) (x9 : Int32) (x10 : Int32) (x11 : Int32) (s0 : Int32) (Z : mjZt) : Option (Int32 × mjZt) :=
  if mjIs x1 211 2 = true then
  mjBd (f93_rulesStriking x1 x2 x11 s0 (Z.2.1 x1 11) Z) fun v114 Z115 =>
  if mjCmp .ne v114 0 = true then
    R x1 x2 x3 x4 x5 x6 x7 x8 x9 (x10 + 1) Z115
  else
    if mjCmp .ne x8 ((-1)) = true then
      R x1 x2 x3 x4 x5 x6 (x7 + 1) x8 x10 (x10 + 1) Z115
    else
      R x1 x2 x3 x4 x5 x6 (x7 + 1) x10 x10 (x10 + 1) Z115
  else none
def f94_tally_j54 (R : Nat → Int32 → Int32 → Int32 → Nat → Int32 → Int32 → Int32 → Int32 → Int32 → mjZt → Option (Int32 × mjZt)) (x1 : Nat) (x2 : Int32) (x3 : Int32) (x4 : Int32) (x5 : Nat) (x6 : Int32) (x7 : Int32) (x8 : Int32) (x9 : Int32) (x10 : Int32) (s0 : Int32) (Z : mjZt) : Option (Int32 × mjZt) :=
  if mjCmp .eq x3 0 = true then
    if mjIs x5 211 0 = true then
    f94_tally_j70 R x1 x2 x3 x4 x5 x6 x7 x8 x9 x10 s0 (Z.1 x5 4) Z
    else none
  else
    f94_tally_j70 R x1 x2 x3 x4 x5 x6 x7 x8 x9 x10 s0 x10 Z
def f94_tally_h33 : Nat → Nat → Int32 → Int32 → Int32 → Nat → Int32 → Int32 → Int32 → Int32 → Int32 → mjZt → Option (Int32 × mjZt)
  | 0, _, _, _, _, _, _, _, _, _, _, _ => none
  | n + 1, x1, x2, x3, x4, x5, x6, x7, x8, x9, x10, Z =>
    if mjCmp .gt x10 x6 = true then
      if mjCmp .ne x4 0 = true then
        if mjCmp .ne x4 1 = true then
          some (x9, Z)
        else
          some (x8, Z)
      else
        some (x7, Z)
    else
      if mjCmp .eq x3 0 = true then
        f94_tally_j54 (f94_tally_h33 n) x1 x2 x3 x4 x5 x6 x7 x8 x9 x10 x10 Z
      else
        if mjIs x5 211 0 = true then
        f94_tally_j54 (f94_tally_h33 n) x1 x2 x3 x4 x5 x6 x7 x8 x9 x10 (Z.1 x5 3) Z
        else none
def f94_tally_j19 (x1 : Nat) (x2 : Int32) (x3 : Int32) (x4 : Int32) (x5 : Nat) (s0 : Int32) (Z : mjZt) : Option (Int32 × mjZt) :=
  f94_tally_h33 mjF x1 x2 x3 x4 x5 s0 0 ((-1)) ((-1)) 0 Z
def f94_tally (p0 : Nat) (p1 : Int32) (p2 : Int32) (p3 : Int32) (Z : mjZt) : Option (Int32 × mjZt) :=
  if mjIs p0 211 2 = true then
  mjBp (f6_deed p0 p1 Z) fun v103 =>
  if mjCmp .eq p2 0 = true then
    f94_tally_j19 p0 p1 p2 p3 v103 999 Z
  else
    f94_tally_j19 p0 p1 p2 p3 v103 99 Z
  else none
def f98_kthAt_h3 : Nat → Nat → Int32 → Int32 → Int32 → mjZt → Option (Int32 × mjZt)
  | 0, _, _, _, _, _ => none
  | n + 1, x1, x2, x3, x4, Z =>
    if mjCmp .ge x4 6 = true then
      if mjIs x1 211 2 = true then
      mjBp (f44_kth x1 189 x3 Z) fun v104 =>
      some (v104, Z)
      else none
    else
      if mjIs x1 211 2 = true then
      mjBp (f8_runner x1 x4 Z) fun v108 =>
      if mjIs v108 211 7 = true then
      mjBp (f73_whereAt v108 x2 Z) fun v112 =>
      if mjIn x4 6 = true then
      mjLet (zSi Z 189 (mjIx x4) (-v112)) fun Z115 =>
      f98_kthAt_h3 n x1 x2 x3 (x4 + 1) Z115
      else none
      else none
      else none
def f98_kthAt (p0 : Nat) (p1 : Int32) (p2 : Int32) (Z : mjZt) : Option (Int32 × mjZt) :=
  f98_kthAt_h3 mjF p0 p1 p2 0 Z
def f101_leadAt_h6 : Nat → Nat → Int32 → Int32 → Int32 → Int32 → mjZt → Option Int32
  | 0, _, _, _, _, _, _ => none
  | n + 1, x1, x2, x3, x4, x5, Z =>
    if mjIs x1 211 2 = true then
    if mjCmp .ge x5 (Z.1 x1 5) = true then
      mjBp (f8_runner x1 x2 Z) fun v104 =>
      if mjIs v104 211 7 = true then
      mjBp (f73_whereAt v104 x3 Z) fun v108 =>
      some (v108 - x4)
      else none
    else
      if mjCmp .eq x5 x2 = true then
        f101_leadAt_h6 n x1 x2 x3 x4 (x5 + 1) Z
      else
        mjBp (f8_runner x1 x5 Z) fun v112 =>
        if mjIs v112 211 7 = true then
        mjBp (f73_whereAt v112 x3 Z) fun v116 =>
        f101_leadAt_h6 n x1 x2 x3 (mjMax x4 v116) (x5 + 1) Z
        else none
    else none
def f101_leadAt (p0 : Nat) (p1 : Int32) (p2 : Int32) (Z : mjZt) : Option Int32 :=
  f101_leadAt_h6 mjF p0 p1 p2 0 0 Z
def f102_boldestTenth_h32 : Nat → Nat → Int32 → Int32 → Int32 → Int32 → Int32 → mjZt → Option Int32
  | 0, _, _, _, _, _, _, _ => none
  | n + 1, x1, x2, x3, x4, x5, x6, Z =>
    if mjCmp .gt x6 x3 = true then
      some x4
    else
      mjBp (f101_leadAt x1 x2 x6 Z) fun v111 =>
      if mjCmp .le v111 x5 = true then
        f102_boldestTenth_h32 n x1 x2 x3 x4 x5 (x6 + 1) Z
      else
        f102_boldestTenth_h32 n x1 x2 x3 x6 v111 (x6 + 1) Z
def f102_boldestTenth (p0 : Nat) (p1 : Int32) (Z : mjZt) : Option Int32 :=
  if mjIs p0 211 2 = true then
  if mjCmp .ge (Z.1 p0 5) 2 = true then
    mjBp (f100_lastTenth p0 Z) fun v104 =>
    mjBp (f101_leadAt p0 p1 0 Z) fun v107 =>
    f102_boldestTenth_h32 mjF p0 p1 v104 0 v107 1 Z
  else
    some ((-2))
  else none
def f105_kthToCut_h2 : Nat → Nat → Int32 → Int32 → mjZt → Option (Int32 × mjZt)
  | 0, _, _, _, _ => none
  | n + 1, x1, x2, x3, Z =>
    if mjCmp .ge x3 6 = true then
      if mjIs x1 211 2 = true then
      mjBp (f44_kth x1 189 x2 Z) fun v104 =>
      some (v104, Z)
      else none
    else
      if mjIs x1 211 2 = true then
      mjBp (f8_runner x1 x3 Z) fun v108 =>
      if mjIs v108 211 7 = true then
      mjBp (f104_arrival v108 (((Z.1 x1 1) + (Z.1 x1 4)) * 10) Z) fun v112 =>
      if mjCmp .ne v112 ((-2)) = true then
        if mjIn x3 6 = true then
        mjLet (zSi Z 189 (mjIx x3) v112) fun Z116 =>
        f105_kthToCut_h2 n x1 x2 (x3 + 1) Z116
        else none
      else
        if mjIn x3 6 = true then
        mjLet (zSi Z 189 (mjIx x3) 2147483647) fun Z118 =>
        f105_kthToCut_h2 n x1 x2 (x3 + 1) Z118
        else none
      else none
      else none
def f105_kthToCut (p0 : Nat) (p1 : Int32) (Z : mjZt) : Option (Int32 × mjZt) :=
  f105_kthToCut_h2 mjF p0 p1 0 Z
def f106_laterToLine_h40 : Nat → Nat → Int32 → Int32 → Int32 → Int32 → mjZt → Option Int32
  | 0, _, _, _, _, _, _ => none
  | n + 1, x1, x4, x5, x6, x7, Z =>
    if mjIs x1 211 2 = true then
    if mjCmp .ge x7 (Z.1 x1 5) = true then
      some (x5 - x6)
    else
      mjBp (f8_runner x1 x7 Z) fun v113 =>
      if mjIs v113 211 7 = true then
      mjBp (f104_arrival v113 x4 Z) fun v117 =>
      if mjCmp .eq v117 ((-2)) = true then
        f106_laterToLine_h40 n x1 x4 x5 x6 (x7 + 1) Z
      else
        f106_laterToLine_h40 n x1 x4 x5 (mjMin x6 v117) (x7 + 1) Z
      else none
    else none
def f106_laterToLine (p0 : Nat) (p1 : Int32) (p2 : Int32) (Z : mjZt) : Option Int32 :=
  if mjIs p0 211 2 = true then
  mjBp (f8_runner p0 p1 Z) fun v103 =>
  if mjIs v103 211 7 = true then
  mjBp (f104_arrival v103 ((p2 * (Z.1 p0 1)) * 10) Z) fun v107 =>
  if mjCmp .ne v107 ((-2)) = true then
    f106_laterToLine_h40 mjF p0 ((p2 * (Z.1 p0 1)) * 10) v107 v107 0 Z
  else
    some ((-2))
  else none
  else none
def f107_mostWithin_h33 (K : Nat → Int32 → Int32 → Int32 → Int32 → Int32 → mjZt → Option Int32) : Nat → Nat → Int32 → Int32 → Int32 → Int32 → Int32 → Int32 → Int32 → mjZt → Option Int32
  | 0, _, _, _, _, _, _, _, _, _ => none
  | n + 1, x1, x2, x3, x4, x5, x6, x7, x8, Z =>
    if mjIs x1 211 2 = true then
    if mjCmp .ge x8 (Z.1 x1 5) = true then
      K x1 x2 x3 x4 x5 x7 Z
    else
      mjBp (f8_runner x1 x8 Z) fun v113 =>
      if mjIs v113 211 7 = true then
      mjBp (f73_whereAt v113 x2 Z) fun v117 =>
      if mjCmp .lt (v117 - x6) 0 = true then
        f107_mostWithin_h33 K n x1 x2 x3 x4 x5 x6 x7 (x8 + 1) Z
      else
        if mjCmp .gt (v117 - x6) x3 = true then
          f107_mostWithin_h33 K n x1 x2 x3 x4 x5 x6 x7 (x8 + 1) Z
        else
          f107_mostWithin_h33 K n x1 x2 x3 x4 x5 x6 (x7 + 1) (x8 + 1) Z
      else none
    else none
def f107_mostWithin_h6 : Nat → Nat → Int32 → Int32 → Int32 → Int32 → mjZt → Option Int32
  | 0, _, _, _, _, _, _ => none
  | n + 1, x1, x2, x3, x4, x5, Z =>
    if mjIs x1 211 2 = true then
    if mjCmp .ge x5 (Z.1 x1 5) = true then
      some x4
    else
      mjBp (f8_runner x1 x5 Z) fun v104 =>
      if mjIs v104 211 7 = true then
      mjBp (f73_whereAt v104 x2 Z) fun v108 =>
      f107_mostWithin_h33 (fun x1_Z121 x2_Z121 x3_Z121 x4_Z121 x5_Z121 x7_Z121 Z121 =>
        f107_mostWithin_h6 n x1_Z121 x2_Z121 x3_Z121 (mjMax x4_Z121 x7_Z121) (x5_Z121 + 1) Z121
        ) mjF x1 x2 x3 x4 x5 v108 0 0 Z
      else none
    else none
def f107_mostWithin (p0 : Nat) (p1 : Int32) (p2 : Int32) (Z : mjZt) : Option Int32 :=
  f107_mostWithin_h6 mjF p0 p1 p2 0 0 Z
def f109_fastestOf_h2 : Nat → Nat → Int32 → Int32 → mjZt → Option (Int32 × mjZt)
  | 0, _, _, _, _ => none
  | n + 1, x1, x2, x3, Z =>
    if mjCmp .ge x3 6 = true then
      if mjIs x1 211 2 = true then
      mjBp (f44_kth x1 189 0 Z) fun v104 =>
      some (v104, Z)
      else none
    else
      if mjIs x1 211 2 = true then
      mjBp (f19_hasLeg x1 x3 x2 Z) fun v108 =>
      if mjCmp .eq v108 0 = true then
        if mjIn x3 6 = true then
        mjLet (zSi Z 189 (mjIx x3) 2147483647) fun Z112 =>
        f109_fastestOf_h2 n x1 x2 (x3 + 1) Z112
        else none
      else
        mjBp (f8_runner x1 x3 Z) fun v114 =>
        if mjIs v114 211 7 = true then
        mjBp (f108_tenthsOf v114 x2 Z) fun v118 =>
        if mjIn x3 6 = true then
        mjLet (zSi Z 189 (mjIx x3) v118) fun Z121 =>
        f109_fastestOf_h2 n x1 x2 (x3 + 1) Z121
        else none
        else none
      else none
def f109_fastestOf (p0 : Nat) (p1 : Int32) (Z : mjZt) : Option (Int32 × mjZt) :=
  f109_fastestOf_h2 mjF p0 p1 0 Z
def f110_sumOf_h5 : Nat → Nat → Int32 → Int32 → Int32 → mjZt → Option Int32
  | 0, _, _, _, _, _ => none
  | n + 1, x1, x2, x3, x4, Z =>
    if mjIs x1 211 2 = true then
    if mjCmp .ge x4 (Z.1 x1 5) = true then
      some x3
    else
      mjBp (f19_hasLeg x1 x4 x2 Z) fun v104 =>
      if mjCmp .eq v104 0 = true then
        f110_sumOf_h5 n x1 x2 x3 (x4 + 1) Z
      else
        mjBp (f8_runner x1 x4 Z) fun v108 =>
        if mjIs v108 211 7 = true then
        mjBp (f108_tenthsOf v108 x2 Z) fun v112 =>
        f110_sumOf_h5 n x1 x2 (x3 + v112) (x4 + 1) Z
        else none
    else none
def f110_sumOf (p0 : Nat) (p1 : Int32) (Z : mjZt) : Option Int32 :=
  f110_sumOf_h5 mjF p0 p1 0 0 Z
def f130_letter (p0 : Int64) (p1 : Int32) (Z : mjZt) : Option Int32 :=
  if mjCmp .lt p1 0 = true then
    some 0
  else
    if mjCmp .lt p1 8 = true then
      some (Int64.toInt32 ((p0 >>> (Int32.toInt64 (5 * p1) &&& 63)) &&& 31))
    else
      some 0
def f138_rankByWould (a0 : Nat) (p0 : Int32) (Z : mjZt) : Option Int32 :=
  if mjIs a0 211 10 = true then
  mjBp (f133_isIn a0 p0 Z) fun v103 =>
  if mjCmp .eq v103 0 = true then
    some ((-2))
  else
    mjBp (f134_rankOf (a0 + 4) p0 Z) fun v107 =>
    some v107
  else none
def f146_impedersOf_h5 : Nat → Nat → Nat → Int32 → Int32 → Int32 → mjZt → Option Int32
  | 0, _, _, _, _, _, _ => none
  | n + 1, x0, x1, x2, x3, x4, Z =>
    if mjIs x1 211 2 = true then
    if mjCmp .ge x4 (Z.1 x1 6) = true then
      some x3
    else
      mjBp (f6_deed x1 x4 Z) fun v104 =>
      if mjIs v104 211 0 = true then
      if mjCmp .ne (Z.1 v104 0) 3 = true then
        f146_impedersOf_h5 n x0 x1 x2 x3 (x4 + 1) Z
      else
        if mjCmp .ne (Z.1 v104 2) x2 = true then
          f146_impedersOf_h5 n x0 x1 x2 x3 (x4 + 1) Z
        else
          if mjIs x0 211 10 = true then
          mjBp (f142_rulesStriking x0 x4 Z) fun v111 =>
          if mjCmp .eq v111 0 = true then
            f146_impedersOf_h5 n x0 x1 x2 x3 (x4 + 1) Z
          else
            f146_impedersOf_h5 n x0 x1 x2 (x3 ||| ((1 : Int32) <<< (((Z.1 v104 1) : Int32) &&& 31))) (x4 + 1) Z
          else none
      else none
    else none
def f146_impedersOf (a0 : Nat) (p0 : Nat) (p1 : Int32) (Z : mjZt) : Option Int32 :=
  f146_impedersOf_h5 mjF a0 p0 p1 0 0 Z
def f153_fault (p0 : Int32) (Z : mjZt) : Option Int32 :=
  if p0 = 0 then
    some (Z.1 182 5)
  else if p0 = 1 then
    some (Z.1 182 6)
  else
    some ((-1))
def f155_name_j37 (x1 : Int32) (x2 : Int32) (x3 : Int32) (Z : mjZt) : Option Int32 :=
  if mjCmp .ne x1 1 = true then
    some ((-1))
  else
    if mjIs Z.2.2.1 211 2 = true then
    mjBp (f16_hasRule Z.2.2.1 x2 Z) fun v106 =>
    if mjCmp .eq v106 0 = true then
      some ((-1))
    else
      mjBp (f22_nameOfRule Z.2.2.1 x2 Z) fun v110 =>
      mjBp (f130_letter v110 x3 Z) fun v113 =>
      some v113
    else none
def f155_name (p0 : Int32) (p1 : Int32) (p2 : Int32) (Z : mjZt) : Option Int32 :=
  if mjCmp .ge p2 0 = true then
    if mjCmp .ne p0 0 = true then
      f155_name_j37 p0 p1 p2 Z
    else
      if mjIs Z.2.2.1 211 2 = true then
      mjBp (f7_hasTeam Z.2.2.1 p1 Z) fun v117 =>
      if mjCmp .eq v117 0 = true then
        f155_name_j37 p0 p1 p2 Z
      else
        mjBp (f8_runner Z.2.2.1 p1 Z) fun v121 =>
        if mjIs v121 211 7 = true then
        mjBp (f130_letter (Z.2.1 v121 4) p2 Z) fun v125 =>
        some v125
        else none
      else none
  else
    some ((-1))
def f161_order (p0 : Int32) (p1 : Int32) (Z : mjZt) : Option (Int32 × mjZt) :=
  mjBp (f158_isTenth p0 Z) fun v102 =>
  if mjCmp .eq v102 0 = true then
    some ((-1), Z)
  else
    mjBd (f98_kthAt Z.2.2.1 p0 p1 Z) fun v106 Z107 =>
    some (v106, Z107)
def f162_boldest (p0 : Int32) (Z : mjZt) : Option Int32 :=
  if mjIs Z.2.2.1 211 2 = true then
  mjBp (f7_hasTeam Z.2.2.1 p0 Z) fun v103 =>
  if mjCmp .eq v103 0 = true then
    some ((-1))
  else
    mjBp (f102_boldestTenth Z.2.2.1 p0 Z) fun v107 =>
    some v107
  else none
def f164_cutIn (p0 : Int32) (Z : mjZt) : Option (Int32 × mjZt) :=
  if mjIs Z.2.2.1 211 2 = true then
  if mjCmp .ne (Z.1 Z.2.2.1 4) 0 = true then
    mjBd (f105_kthToCut Z.2.2.1 p0 Z) fun v104 Z105 =>
    some (v104, Z105)
  else
    some ((-1), Z)
  else none
def f165_behind (p0 : Int32) (p1 : Int32) (Z : mjZt) : Option Int32 :=
  if mjIs Z.2.2.1 211 2 = true then
  mjBp (f7_hasTeam Z.2.2.1 p0 Z) fun v103 =>
  if mjCmp .eq v103 0 = true then
    some ((-1))
  else
    if mjCmp .lt p1 1 = true then
      some ((-1))
    else
      if mjCmp .le p1 (Z.1 Z.2.2.1 0) = true then
        mjBp (f106_laterToLine Z.2.2.1 p0 p1 Z) fun v109 =>
        some v109
      else
        some ((-1))
  else none
def f166_crowd (p0 : Int32) (p1 : Int32) (Z : mjZt) : Option Int32 :=
  mjBp (f158_isTenth p0 Z) fun v102 =>
  if mjCmp .eq v102 0 = true then
    some ((-1))
  else
    if mjCmp .ge p1 0 = true then
      mjBp (f107_mostWithin Z.2.2.1 p0 p1 Z) fun v107 =>
      some v107
    else
      some ((-1))
def f167_fastest (p0 : Int32) (p1 : Int32) (Z : mjZt) : Option (Int32 × mjZt) :=
  if mjCmp .lt p0 1 = true then
    some ((-1), Z)
  else
    if mjIs Z.2.2.1 211 2 = true then
    if mjCmp .le p0 (Z.1 Z.2.2.1 0) = true then
      mjBd (f109_fastestOf Z.2.2.1 p0 Z) fun v105 Z106 =>
      if mjCmp .ne v105 ((-1)) = true then
        if (p1).toInt < 0 ∨ 2 < (p1).toInt then
          some ((-1), Z106)
        else if ((p1).toInt - 0).toNat = 0 then
          some (v105, Z106)
        else if ((p1).toInt - 0).toNat = 1 then
          if mjIs Z106.2.2.1 211 2 = true then
          mjBp (f8_runner Z106.2.2.1 v105 Z106) fun v113 =>
          if mjIs v113 211 7 = true then
          mjBp (f108_tenthsOf v113 p0 Z106) fun v117 =>
          some (v117, Z106)
          else none
          else none
        else if ((p1).toInt - 0).toNat = 2 then
          mjBp (f110_sumOf Z106.2.2.1 p0 Z106) fun v121 =>
          some (v121, Z106)
        else none
      else
        some ((-1), Z106)
    else
      some ((-1), Z)
    else none
def f171_fact (p0 : Int32) (p1 : Int32) (Z : mjZt) : Option (Int32 × mjZt) :=
  if mjIs Z.2.2.1 211 2 = true then
  mjBp (f17_hasAct Z.2.2.1 p0 Z) fun v103 =>
  if mjCmp .eq v103 0 = true then
    some ((-2000000), Z)
  else
    if mjCmp .lt p1 0 = true then
      some ((-2000000), Z)
    else
      if mjCmp .lt p1 11 = true then
        mjBd (f75_lookAt Z.2.2.1 p0 Z) fun _ Z110 =>
        mjBp (f71_factNow p1 Z110) fun v112 =>
        some (v112, Z110)
      else
        some ((-2000000), Z)
  else none
def f177_clean (p0 : Int32) (p1 : Int32) (Z : mjZt) : Option (Int32 × mjZt) :=
  if mjIs Z.2.2.1 211 2 = true then
  mjBp (f18_wasTold Z.2.2.1 p0 Z) fun v103 =>
  if mjCmp .eq v103 0 = true then
    some ((-2000000), Z)
  else
    if mjCmp .lt p1 0 = true then
      some ((-2000000), Z)
    else
      if mjCmp .le p1 2 = true then
        mjBd (f94_tally Z.2.2.1 p0 1 p1 Z) fun v109 Z110 =>
        some (v109, Z110)
      else
        some ((-2000000), Z)
  else none
def f178_free (p0 : Int32) (p1 : Int32) (Z : mjZt) : Option (Int32 × mjZt) :=
  if mjIs Z.2.2.1 211 2 = true then
  mjBp (f18_wasTold Z.2.2.1 p0 Z) fun v103 =>
  if mjCmp .eq v103 0 = true then
    some ((-2000000), Z)
  else
    if mjCmp .lt p1 0 = true then
      some ((-2000000), Z)
    else
      if mjCmp .le p1 2 = true then
        mjBd (f94_tally Z.2.2.1 p0 0 p1 Z) fun v109 Z110 =>
        some (v109, Z110)
      else
        some ((-2000000), Z)
  else none
def f184_fairRank (p0 : Int32) (Z : mjZt) : Option Int32 :=
  if mjIs Z.2.2.1 211 2 = true then
  mjBp (f7_hasTeam Z.2.2.1 p0 Z) fun v103 =>
  if mjCmp .eq v103 0 = true then
    some ((-1))
  else
    mjBp (f138_rankByWould 199 p0 Z) fun v107 =>
    some v107
  else none
def f185_margin (p0 : Int32) (Z : mjZt) : Option Int32 :=
  if mjCmp .ge p0 1 = true then
    mjBp (f140_kthOfResult 199 Z.2.2.1 p0 Z) fun v103 =>
    mjBp (f140_kthOfResult 199 Z.2.2.1 (p0 - 1) Z) fun v106 =>
    if mjCmp .eq v103 ((-1)) = true then
      some ((-1))
    else
      if mjCmp .ne v106 ((-1)) = true then
        if mjIs Z.2.2.1 211 2 = true then
        mjBp (f8_runner Z.2.2.1 v103 Z) fun v112 =>
        if mjIs v112 211 7 = true then
        mjBp (f99_time v112 Z) fun v116 =>
        mjBp (f8_runner Z.2.2.1 v106 Z) fun v119 =>
        if mjIs v119 211 7 = true then
        mjBp (f99_time v119 Z) fun v123 =>
        some (v116 - v123)
        else none
        else none
        else none
      else
        some ((-1))
  else
    some ((-1))
def f186_impeders (p0 : Int32) (Z : mjZt) : Option Int32 :=
  if mjIs Z.2.2.1 211 2 = true then
  mjBp (f7_hasTeam Z.2.2.1 p0 Z) fun v103 =>
  if mjCmp .eq v103 0 = true then
    some ((-1))
  else
    mjBp (f146_impedersOf 199 Z.2.2.1 p0 Z) fun v107 =>
    some v107
  else none
def f188_winner (p0 : Int32) (Z : mjZt) : Option (Int32 × mjZt) :=
  if mjIs Z.2.2.1 211 2 = true then
  mjBp (f17_hasAct Z.2.2.1 p0 Z) fun v103 =>
  if mjCmp .ne v103 0 = true then
    mjBd (f136_decide 204 Z.2.2.1 ((Z.2.1 Z.2.2.1 11) ^^^ (1 <<< (Int32.toInt64 p0 &&& 63))) Z) fun _ Z108 =>
    mjBp (f140_kthOfResult 204 Z108.2.2.1 0 Z108) fun v110 =>
    if mjCmp .ne v110 ((-1)) = true then
      some (v110, Z108)
    else
      some ((-2), Z108)
  else
    some ((-1), Z)
  else none
def f195_isIn (p0 : Int64) (p1 : Int64) (p2 : Int64) (Z : mjZt) : Option Int32 :=
  if mjCmp .lt (lg_cmp p0 p1) 0 = true then
    some 0
  else
    if mjCmp .gt (lg_cmp p0 p2) 0 = true then
      some 0
    else
      some 1
def f196_truth (p0 : Int32) (Z : mjZt) : Option Int32 :=
  if mjCmp .eq p0 0 = true then
    some 0
  else
    some 1
def f197_holds1 (p0 : Int32) (p1 : Int32) (Z : mjZt) : Option Int32 :=
  if mjCmp .ne (((p0 : Int32) >>> ((p1 : Int32) &&& 31)) &&& 1) 1 = true then
    some 0
  else
    some 1
def f198_four_h3 : Nat → Int32 → Int32 → mjZt → Option (Unit × mjZt)
  | 0, _, _, _ => none
  | n + 1, x1, x2, Z =>
    if mjCmp .lt x2 0 = true then
      some ((), Z)
    else
      if mjIn (Z.1 211 1) 700 = true then
      mjLet (zSi Z 212 (mjIx (Z.1 211 1)) (((x1 : Int32) >>> ((x2 : Int32) &&& 31)) &&& 255)) fun Z103 =>
      mjLet (zSi Z103 211 1 ((Z103.1 211 1) + 1)) fun Z104 =>
      f198_four_h3 n x1 (x2 + (-8)) Z104
      else none
def f198_four (p0 : Int32) (Z : mjZt) : Option (Unit × mjZt) :=
  f198_four_h3 mjF p0 24 Z
def f199_feed (p0 : Int32) (p1 : Int32) (p2 : Int32) (p3 : Int32) (p4 : Int32) (Z : mjZt) : Option (Int32 × mjZt) :=
  if mjCmp .le ((Z.1 211 1) + 20) 700 = true then
    mjBd (f198_four p0 Z) fun _ Z104 =>
    mjBd (f198_four p1 Z104) fun _ Z107 =>
    mjBd (f198_four p2 Z107) fun _ Z110 =>
    mjBd (f198_four p3 Z110) fun _ Z113 =>
    mjBd (f198_four p4 Z113) fun _ Z116 =>
    some (Z116.1 211 1, Z116)
  else
    some ((-1), Z)
def f200_end (p0 : Int32) (Z : mjZt) : Option (Int32 × mjZt) :=
  mjBp (f195_isIn (Int32.toInt64 p0) 0 (Int32.toInt64 (Z.1 211 1)) Z) fun v102 =>
  if mjCmp .ne v102 0 = true then
    mjLet (zSi Z 211 1 p0) fun Z105 =>
    some (p0, Z105)
  else
    some ((-1), Z)
def f201_here (p0 : Int32) (Z : mjZt) : Option Int32 :=
  if mjCmp .ge ((Z.1 211 5) + p0) (Z.1 211 4) = true then
    some ((-1))
  else
    if mjIn ((Z.1 211 5) + p0) 700 = true then
    some (Z.1 212 (mjIx ((Z.1 211 5) + p0)))
    else none
def f202_isLetter (p0 : Int32) (Z : mjZt) : Option Int32 :=
  if mjCmp .lt p0 97 = true then
    some 0
  else
    if mjCmp .gt p0 122 = true then
      some 0
    else
      some 1
def f203_isDigit (p0 : Int32) (Z : mjZt) : Option Int32 :=
  if mjCmp .lt p0 48 = true then
    some 0
  else
    if mjCmp .gt p0 57 = true then
      some 0
    else
      some 1
def f204_isSign (p0 : Int32) (Z : mjZt) : Option Int32 :=
  if mjCmp .eq p0 59 = true then
    some 1
  else
    if mjCmp .eq p0 43 = true then
      some 1
    else
      if mjCmp .eq p0 45 = true then
        some 1
      else
        if mjCmp .eq p0 42 = true then
          some 1
        else
          if mjCmp .eq p0 40 = true then
            some 1
          else
            if mjCmp .eq p0 41 = true then
              some 1
            else
              if mjCmp .eq p0 123 = true then
                some 1
              else
                if mjCmp .eq p0 125 = true then
                  some 1
                else
                  if mjCmp .eq p0 60 = true then
                    some 1
                  else
                    if mjCmp .eq p0 62 = true then
                      some 1
                    else
                      if mjCmp .ne p0 61 = true then
                        some 0
                      else
                        some 1
def f205_goOn_j214 (x1 : Int32) (s1 : Int32) (Z : mjZt) : Option (Unit × mjZt) :=
  mjLet (zSi Z 211 7 s1) fun Z129 =>
  mjLet (zSi Z129 211 8 x1) fun Z130 =>
  mjLet (zSi Z130 211 5 ((Z130.1 211 5) + 1)) fun Z131 =>
  some ((), Z131)
def f205_goOn_j195 (x2 : Int32) (s1 : Int32) (Z : mjZt) : Option (Unit × mjZt) :=
  mjLet (zSi Z 211 7 s1) fun Z140 =>
  mjLet (zSi Z140 211 5 ((Z140.1 211 5) + x2)) fun Z141 =>
  some ((), Z141)
def f205_goOn_h142 : Nat → Int32 → mjZt → Option (Unit × mjZt)
  | 0, _, _ => none
  | n + 1, x2, Z =>
    mjBp (f201_here x2 Z) fun v133 =>
    mjBp (f203_isDigit v133 Z) fun v136 =>
    if mjCmp .eq v136 0 = true then
      if mjCmp .le x2 4 = true then
        f205_goOn_j195 x2 2 Z
      else
        f205_goOn_j195 x2 4 Z
    else
      if mjCmp .ge x2 4 = true then
        f205_goOn_h142 n (x2 + 1) Z
      else
        mjLet (zSi Z 211 8 (((10 * (Z.1 211 8)) + v133) - 48)) fun Z146 =>
        f205_goOn_h142 n (x2 + 1) Z146
def f205_goOn_j129 (x2 : Int32) (s1 : Int32) (Z : mjZt) : Option (Unit × mjZt) :=
  mjLet (zSi Z 211 7 s1) fun Z155 =>
  mjLet (zSi Z155 211 5 ((Z155.1 211 5) + x2)) fun Z156 =>
  some ((), Z156)
def f205_goOn_h76 : Nat → Int32 → mjZt → Option (Unit × mjZt)
  | 0, _, _ => none
  | n + 1, x2, Z =>
    mjBp (f201_here x2 Z) fun v148 =>
    mjBp (f202_isLetter v148 Z) fun v151 =>
    if mjCmp .eq v151 0 = true then
      if mjCmp .le x2 8 = true then
        f205_goOn_j129 x2 1 Z
      else
        f205_goOn_j129 x2 4 Z
    else
      if mjCmp .ge x2 8 = true then
        f205_goOn_h76 n (x2 + 1) Z
      else
        mjLet (zSl Z 211 13 (((Z.2.1 211 13) <<< (Int32.toInt64 8 &&& 63)) ||| (Int32.toInt64 v148))) fun Z161 =>
        f205_goOn_h76 n (x2 + 1) Z161
def f205_goOn_h0 : Nat → mjZt → Option (Unit × mjZt)
  | 0, _ => none
  | n + 1, Z =>
    mjBp (f201_here 0 Z) fun v102 =>
    if mjCmp .eq v102 32 = true then
      mjLet (zSi Z 211 5 ((Z.1 211 5) + 1)) fun Z105 =>
      f205_goOn_h0 n  Z105
    else
      if mjCmp .ne v102 10 = true then
        mjLet (zSi Z 211 6 (Z.1 211 5)) fun Z110 =>
        mjLet (zSl Z110 211 13 0) fun Z111 =>
        mjLet (zSi Z111 211 8 0) fun Z112 =>
        mjBp (f201_here 0 Z112) fun v114 =>
        if mjCmp .ge v114 0 = true then
          mjBp (f202_isLetter v114 Z112) fun v118 =>
          if mjCmp .eq v118 0 = true then
            mjBp (f203_isDigit v114 Z112) fun v122 =>
            if mjCmp .eq v122 0 = true then
              mjBp (f204_isSign v114 Z112) fun v126 =>
              if mjCmp .eq v126 0 = true then
                f205_goOn_j214 v114 4 Z112
              else
                f205_goOn_j214 v114 3 Z112
            else
              f205_goOn_h142 mjF 0 Z112
          else
            f205_goOn_h76 mjF 0 Z112
        else
          mjLet (zSi Z112 211 7 0) fun Z162 =>
          some ((), Z162)
      else
        mjLet (zSi Z 211 5 ((Z.1 211 5) + 1)) fun Z163 =>
        f205_goOn_h0 n  Z163
def f205_goOn  (Z : mjZt) : Option (Unit × mjZt) :=
  f205_goOn_h0 mjF  Z
def f206_wrong (p0 : Int32) (Z : mjZt) : Option (Unit × mjZt) :=
  if mjCmp .le (Z.1 211 9) 0 = true then
    if mjCmp .ne (Z.1 211 7) 4 = true then
      mjLet (zSi Z 211 9 p0) fun Z103 =>
      mjLet (zSi Z103 211 10 (Z103.1 211 6)) fun Z104 =>
      some ((), Z104)
    else
      mjLet (zSi Z 211 9 1) fun Z105 =>
      mjLet (zSi Z105 211 10 (Z105.1 211 6)) fun Z106 =>
      some ((), Z106)
  else
    some ((), Z)
def f207_isGood  (Z : mjZt) : Option Int32 :=
  if mjCmp .ne (Z.1 211 9) 0 = true then
    some 0
  else
    some 1
def f208_isWord (p0 : Int64) (Z : mjZt) : Option Int32 :=
  if mjCmp .ne (Z.1 211 9) 0 = true then
    some 0
  else
    if mjCmp .ne (Z.1 211 7) 1 = true then
      some 0
    else
      if mjCmp .ne (lg_cmp (Z.2.1 211 13) p0) 0 = true then
        some 0
      else
        some 1
def f209_isSignHere (p0 : Int32) (Z : mjZt) : Option Int32 :=
  if mjCmp .ne (Z.1 211 9) 0 = true then
    some 0
  else
    if mjCmp .ne (Z.1 211 7) 3 = true then
      some 0
    else
      if mjCmp .ne (Z.1 211 8) p0 = true then
        some 0
      else
        some 1
def f210_among_h3 : Nat → Nat → Int32 → Int64 → Int32 → mjZt → Option Int32
  | 0, _, _, _, _, _ => none
  | n + 1, x0, x1, x2, x4, Z =>
    if mjCmp .ge x4 x1 = true then
      some ((-1))
    else
      if mjIs x0 251 14 = true then
      if mjIn x4 (mjLay x0).2 = true then
      if mjCmp .ne (lg_cmp (Z.2.1 x0 (mjIx x4)) x2) 0 = true then
        f210_among_h3 n x0 x1 x2 (x4 + 1) Z
      else
        some x4
      else none
      else none
def f210_among (p0 : Nat) (p1 : Int32) (p2 : Int64) (Z : mjZt) : Option Int32 :=
  f210_among_h3 mjF p0 p1 p2 0 Z
def f211_isKept  (Z : mjZt) : Option Int32 :=
  if mjCmp .eq (lg_cmp (Z.2.1 211 13) 500135191403) 0 = true then
    some 1
  else
    if mjCmp .eq (lg_cmp (Z.2.1 211 13) 1952801133) 0 = true then
      some 1
    else
      if mjCmp .eq (lg_cmp (Z.2.1 211 13) 1920298611) 0 = true then
        some 1
      else
        if mjCmp .eq (lg_cmp (Z.2.1 211 13) 6382452) 0 = true then
          some 1
        else
          if mjCmp .eq (lg_cmp (Z.2.1 211 13) 1920298085) 0 = true then
            some 1
          else
            if mjCmp .eq (lg_cmp (Z.2.1 211 13) 32765938003961704) 0 = true then
              some 1
            else
              if mjCmp .eq (lg_cmp (Z.2.1 211 13) 131294808271214) 0 = true then
                some 1
              else
                if mjCmp .eq (lg_cmp (Z.2.1 211 13) 2003330414) 0 = true then
                  some 1
                else
                  if mjCmp .eq (lg_cmp (Z.2.1 211 13) 111567739122533) 0 = true then
                    some 1
                  else
                    if mjCmp .eq (lg_cmp (Z.2.1 211 13) 6385252) 0 = true then
                      some 1
                    else
                      if mjCmp .eq (lg_cmp (Z.2.1 211 13) 28530) 0 = true then
                        some 1
                      else
                        if mjCmp .eq (lg_cmp (Z.2.1 211 13) 7237492) 0 = true then
                          some 1
                        else
                          mjBp (f210_among 213 5 (Z.2.1 211 13) Z) fun v114 =>
                          if mjCmp .ne v114 ((-1)) = true then
                            some 1
                          else
                            mjBp (f210_among 214 11 (Z.2.1 211 13) Z) fun v118 =>
                            if mjCmp .eq v118 ((-1)) = true then
                              some 0
                            else
                              some 1
def f212_must (p0 : Int32) (Z : mjZt) : Option (Unit × mjZt) :=
  mjBp (f207_isGood  Z) fun v102 =>
  if mjCmp .eq v102 0 = true then
    if mjCmp .eq v102 0 = true then
      some ((), Z)
    else
      mjBd (f205_goOn  Z) fun _ Z111 =>
      some ((), Z111)
  else
    mjBp (f209_isSignHere p0 Z) fun v113 =>
    if mjCmp .ne v113 0 = true then
      if mjCmp .eq v102 0 = true then
        some ((), Z)
      else
        mjBd (f205_goOn  Z) fun _ Z122 =>
        some ((), Z122)
    else
      mjBd (f206_wrong 2 Z) fun _ Z125 =>
      mjBp (f207_isGood  Z125) fun v127 =>
      if mjCmp .eq v127 0 = true then
        some ((), Z125)
      else
        mjBd (f205_goOn  Z125) fun _ Z132 =>
        some ((), Z132)
def f213_number_j20 (x1 : Int32) (x2 : Int32) (Z : mjZt) : Option (Int32 × mjZt) :=
  mjBp (f207_isGood  Z) fun v106 =>
  if mjCmp .eq v106 0 = true then
    if mjCmp .eq v106 0 = true then
      some (Z.1 211 8, Z)
    else
      mjBd (f205_goOn  Z) fun _ Z115 =>
      some (Z.1 211 8, Z115)
  else
    mjBp (f195_isIn (Int32.toInt64 (Z.1 211 8)) (Int32.toInt64 x1) (Int32.toInt64 x2) Z) fun v117 =>
    if mjCmp .ne v117 0 = true then
      if mjCmp .eq v106 0 = true then
        some (Z.1 211 8, Z)
      else
        mjBd (f205_goOn  Z) fun _ Z126 =>
        some (Z.1 211 8, Z126)
    else
      mjBd (f206_wrong 4 Z) fun _ Z129 =>
      mjBp (f207_isGood  Z129) fun v131 =>
      if mjCmp .eq v131 0 = true then
        some (Z.1 211 8, Z129)
      else
        mjBd (f205_goOn  Z129) fun _ Z136 =>
        some (Z.1 211 8, Z136)
def f213_number (p0 : Int32) (p1 : Int32) (Z : mjZt) : Option (Int32 × mjZt) :=
  mjBp (f207_isGood  Z) fun v102 =>
  if mjCmp .eq v102 0 = true then
    f213_number_j20 p0 p1 Z
  else
    if mjCmp .eq (Z.1 211 7) 2 = true then
      f213_number_j20 p0 p1 Z
    else
      mjBd (f206_wrong 2 Z) fun _ Z140 =>
      f213_number_j20 p0 p1 Z140
def f214_emits (p0 : Int32) (Z : mjZt) : Option (Unit × mjZt) :=
  if mjIn (Z.1 211 17) 1500 = true then
  mjLet (zSi Z 215 (mjIx (Z.1 211 17)) p0) fun Z102 =>
  mjLet (zSi Z102 211 17 ((Z102.1 211 17) + 1)) fun Z103 =>
  some ((), Z103)
  else none
def f215_waitsFor (p0 : Int32) (Z : mjZt) : Option (Unit × mjZt) :=
  if mjIn (Z.1 211 18) 800 = true then
  mjLet (zSi Z 217 (mjIx (Z.1 211 18)) p0) fun Z102 =>
  mjLet (zSi Z102 211 18 ((Z102.1 211 18) + 1)) fun Z103 =>
  some ((), Z103)
  else none
def f216_top  (Z : mjZt) : Option Int32 :=
  if mjCmp .le (Z.1 211 18) (Z.1 211 19) = true then
    some ((-1))
  else
    if mjIn ((Z.1 211 18) - 1) 800 = true then
    some (Z.1 217 (mjIx ((Z.1 211 18) - 1)))
    else none
def f217_opens_j15 (x1 : Int32) (Z : mjZt) : Option (Unit × mjZt) :=
  mjLet (zSi Z 211 20 ((Z.1 211 20) + 1)) fun Z102 =>
  mjBd (f215_waitsFor x1 Z102) fun _ Z105 =>
  mjBp (f207_isGood  Z105) fun v107 =>
  if mjCmp .eq v107 0 = true then
    some ((), Z105)
  else
    mjBd (f205_goOn  Z105) fun _ Z112 =>
    some ((), Z112)
def f217_opens (p0 : Int32) (Z : mjZt) : Option (Unit × mjZt) :=
  if mjCmp .ne (Z.1 211 20) 6 = true then
    f217_opens_j15 p0 Z
  else
    mjBd (f206_wrong 7 Z) fun _ Z115 =>
    f217_opens_j15 p0 Z115
def f218_works_h0 : Nat → Int32 → Int32 → mjZt → Option (Unit × mjZt)
  | 0, _, _, _ => none
  | n + 1, x1, x2, Z =>
    mjBp (f216_top  Z) fun v102 =>
    mjBp (f195_isIn (Int32.toInt64 v102) (Int32.toInt64 x1) (Int32.toInt64 x2) Z) fun v105 =>
    if mjCmp .eq v105 0 = true then
      some ((), Z)
    else
      mjLet (zSi Z 211 18 ((Z.1 211 18) - 1)) fun Z108 =>
      if mjIn (Z108.1 211 18) 800 = true then
      mjBd (f214_emits (Z108.1 217 (mjIx (Z108.1 211 18))) Z108) fun _ Z112 =>
      f218_works_h0 n x1 x2 Z112
      else none
def f218_works (p0 : Int32) (p1 : Int32) (Z : mjZt) : Option (Unit × mjZt) :=
  f218_works_h0 mjF p0 p1 Z
def f219_operand_j70 (x1 : Int32) (Z : mjZt) : Option (Unit × mjZt) :=
  if mjCmp .le (Z.1 211 9) 0 = true then
    if mjCmp .ne (Z.1 211 7) 2 = true then
      mjBd (f214_emits (x1 + 1) Z) fun _ Z112 =>
      mjBd (f205_goOn  Z112) fun _ Z115 =>
      some ((), Z115)
    else
      mjBd (f214_emits (100 + (Z.1 211 8)) Z) fun _ Z118 =>
      mjBd (f205_goOn  Z118) fun _ Z121 =>
      some ((), Z121)
  else
    some ((), Z)
def f219_operand_j51 (s0 : Int32) (Z : mjZt) : Option (Unit × mjZt) :=
  if mjCmp .eq (Z.1 211 7) 2 = true then
    f219_operand_j70 s0 Z
  else
    if mjCmp .ne s0 ((-1)) = true then
      f219_operand_j70 s0 Z
    else
      mjBd (f206_wrong 2 Z) fun _ Z125 =>
      f219_operand_j70 s0 Z125
def f219_operand_h0 : Nat → mjZt → Option (Unit × mjZt)
  | 0, _ => none
  | n + 1, Z =>
    mjBp (f209_isSignHere 123 Z) fun v102 =>
    if mjCmp .eq v102 0 = true then
      if mjCmp .le (Z.1 211 9) 0 = true then
        if mjCmp .ne (Z.1 211 7) 1 = true then
          f219_operand_j51 ((-1)) Z
        else
          mjBp (f210_among 214 11 (Z.2.1 211 13) Z) fun v127 =>
          f219_operand_j51 v127 Z
      else
        some ((), Z)
    else
      mjBd (f217_opens 51 Z) fun _ Z131 =>
      f219_operand_h0 n  Z131
def f219_operand  (Z : mjZt) : Option (Unit × mjZt) :=
  f219_operand_h0 mjF  Z
def f220_closes_j13  (Z : mjZt) : Option (Unit × mjZt) :=
  if mjCmp .le (Z.1 211 9) 0 = true then
    mjLet (zSi Z 211 18 ((Z.1 211 18) - 1)) fun Z106 =>
    mjLet (zSi Z106 211 20 ((Z106.1 211 20) - 1)) fun Z107 =>
    mjBd (f205_goOn  Z107) fun _ Z110 =>
    some ((), Z110)
  else
    some ((), Z)
def f220_closes (p0 : Int32) (Z : mjZt) : Option (Unit × mjZt) :=
  mjBp (f209_isSignHere p0 Z) fun v102 =>
  if mjCmp .ne v102 0 = true then
    f220_closes_j13  Z
  else
    mjBd (f206_wrong 2 Z) fun _ Z113 =>
    f220_closes_j13  Z113
def f221_numberFormula_j69 (R : Int32 → mjZt → Option (Unit × mjZt)) (x1 : Int32) (Z : mjZt) : Option (Unit × mjZt) :=
  mjBd (f218_works 21 23 Z) fun _ Z119 =>
  if mjCmp .ne (Z119.1 211 8) 43 = true then
    mjBd (f215_waitsFor 22 Z119) fun _ Z123 =>
    mjBd (f205_goOn  Z123) fun _ Z126 =>
    mjBd (f219_operand  Z126) fun _ Z129 =>
    R x1 Z129
  else
    mjBd (f215_waitsFor 21 Z119) fun _ Z132 =>
    mjBd (f205_goOn  Z132) fun _ Z135 =>
    mjBd (f219_operand  Z135) fun _ Z138 =>
    R x1 Z138
def f221_numberFormula_h6 : Nat → Int32 → mjZt → Option (Unit × mjZt)
  | 0, _, _ => none
  | n + 1, x1, Z =>
    mjBp (f207_isGood  Z) fun v105 =>
    if mjCmp .eq v105 0 = true then
      some ((), Z)
    else
      if mjCmp .eq x1 0 = true then
        some ((), Z)
      else
        mjBp (f209_isSignHere 42 Z) fun v110 =>
        if mjCmp .eq v110 0 = true then
          mjBp (f209_isSignHere 43 Z) fun v114 =>
          if mjCmp .ne v114 0 = true then
            f221_numberFormula_j69 (f221_numberFormula_h6 n) x1 Z
          else
            mjBp (f209_isSignHere 45 Z) fun v140 =>
            if mjCmp .eq v140 0 = true then
              mjBd (f218_works 21 23 Z) fun _ Z145 =>
              mjBp (f216_top  Z145) fun v147 =>
              if mjCmp .ne v147 51 = true then
                if mjCmp .eq 0 0 = true then
                  f221_numberFormula_h6 n 0 Z145
                else
                  mjBd (f220_closes 125 Z145) fun _ Z153 =>
                  f221_numberFormula_h6 n 0 Z153
              else
                if mjCmp .eq 1 0 = true then
                  f221_numberFormula_h6 n 1 Z145
                else
                  mjBd (f220_closes 125 Z145) fun _ Z157 =>
                  f221_numberFormula_h6 n 1 Z157
            else
              f221_numberFormula_j69 (f221_numberFormula_h6 n) x1 Z
        else
          mjBd (f218_works 23 23 Z) fun _ Z160 =>
          mjBd (f215_waitsFor 23 Z160) fun _ Z163 =>
          mjBd (f205_goOn  Z163) fun _ Z166 =>
          mjBd (f219_operand  Z166) fun _ Z169 =>
          f221_numberFormula_h6 n x1 Z169
def f221_numberFormula  (Z : mjZt) : Option (Unit × mjZt) :=
  mjBd (f219_operand  Z) fun _ Z103 =>
  f221_numberFormula_h6 mjF 1 Z103
def f222_ends_h0 : Nat → mjZt → Option (Unit × mjZt)
  | 0, _ => none
  | n + 1, Z =>
    mjBp (f207_isGood  Z) fun v102 =>
    if mjCmp .eq v102 0 = true then
      some ((), Z)
    else
      mjBp (f216_top  Z) fun v106 =>
      if mjCmp .ne v106 40 = true then
        some ((), Z)
      else
        mjLet (zSi Z 211 18 ((Z.1 211 18) - 1)) fun Z109 =>
        mjBd (f214_emits 40 Z109) fun _ Z112 =>
        mjLet (zSi Z112 211 20 ((Z112.1 211 20) - 1)) fun Z113 =>
        f222_ends_h0 n  Z113
def f222_ends  (Z : mjZt) : Option (Unit × mjZt) :=
  f222_ends_h0 mjF  Z
def f223_comparison_j19 (R : mjZt → Option (Unit × mjZt))  (Z : mjZt) : Option (Unit × mjZt) :=
  if mjCmp .ne (Z.1 211 7) 1 = true then
    mjBd (f217_opens 50 Z) fun _ Z108 =>
    R  Z108
  else
    mjBd (f217_opens 40 Z) fun _ Z111 =>
    R  Z111
def f223_comparison_j164 (x1 : Int32) (x2 : Int32) (Z : mjZt) : Option (Unit × mjZt) :=
  mjLet (zSi Z 211 19 x1) fun Z138 =>
  if mjCmp .le (Z138.1 211 9) 0 = true then
    mjLet (zSi Z138 211 18 ((Z138.1 211 18) - 1)) fun Z140 =>
    mjBd (f214_emits x2 Z140) fun _ Z143 =>
    mjBd (f222_ends  Z143) fun _ Z146 =>
    some ((), Z146)
  else
    some ((), Z138)
def f223_comparison_j153 (x1 : Int32) (x2 : Int32) (Z : mjZt) : Option (Unit × mjZt) :=
  mjBp (f207_isGood  Z) fun v135 =>
  if mjCmp .eq v135 0 = true then
    f223_comparison_j164 x1 x2 Z
  else
    mjBd (f221_numberFormula  Z) fun _ Z149 =>
    f223_comparison_j164 x1 x2 Z149
def f223_comparison_j141 (x1 : Int32) (s0 : Int32) (Z : mjZt) : Option (Unit × mjZt) :=
  mjBp (f207_isGood  Z) fun v131 =>
  if mjCmp .eq v131 0 = true then
    f223_comparison_j153 x1 s0 Z
  else
    mjBd (f205_goOn  Z) fun _ Z152 =>
    f223_comparison_j153 x1 s0 Z152
def f223_comparison_j111 (x1 : Int32) (Z : mjZt) : Option (Unit × mjZt) :=
  if mjCmp .ne (Z.1 211 8) 60 = true then
    if mjCmp .ne (Z.1 211 8) 62 = true then
      f223_comparison_j141 x1 32 Z
    else
      f223_comparison_j141 x1 31 Z
  else
    f223_comparison_j141 x1 30 Z
def f223_comparison_h0 : Nat → mjZt → Option (Unit × mjZt)
  | 0, _ => none
  | n + 1, Z =>
    mjBp (f208_isWord 7237492 Z) fun v102 =>
    if mjCmp .ne v102 0 = true then
      f223_comparison_j19 (f223_comparison_h0 n)  Z
    else
      mjBp (f209_isSignHere 40 Z) fun v113 =>
      if mjCmp .eq v113 0 = true then
        if mjCmp .le (Z.1 211 9) 0 = true then
          mjBd (f215_waitsFor 52 Z) fun _ Z119 =>
          mjLet (zSi Z119 211 19 (Z119.1 211 18)) fun Z120 =>
          mjBd (f221_numberFormula  Z120) fun _ Z123 =>
          mjBp (f207_isGood  Z123) fun v125 =>
          if mjCmp .eq v125 0 = true then
            f223_comparison_j111 (Z119.1 211 19) Z123
          else
            mjBp (f209_isSignHere 60 Z123) fun v154 =>
            if mjCmp .ne v154 0 = true then
              f223_comparison_j111 (Z119.1 211 19) Z123
            else
              mjBp (f209_isSignHere 62 Z123) fun v158 =>
              if mjCmp .ne v158 0 = true then
                f223_comparison_j111 (Z119.1 211 19) Z123
              else
                mjBp (f209_isSignHere 61 Z123) fun v162 =>
                if mjCmp .ne v162 0 = true then
                  f223_comparison_j111 (Z119.1 211 19) Z123
                else
                  mjBd (f206_wrong 2 Z123) fun _ Z167 =>
                  f223_comparison_j111 (Z119.1 211 19) Z167
        else
          some ((), Z)
      else
        f223_comparison_j19 (f223_comparison_h0 n)  Z
def f223_comparison  (Z : mjZt) : Option (Unit × mjZt) :=
  f223_comparison_h0 mjF  Z
def f224_test_j124 (R : Int32 → mjZt → Option (Unit × mjZt)) (s0 : Int32) (Z : mjZt) : Option (Unit × mjZt) :=
  if mjCmp .eq s0 0 = true then
    R s0 Z
  else
    mjBd (f220_closes 41 Z) fun _ Z130 =>
    mjBd (f222_ends  Z130) fun _ Z133 =>
    R s0 Z133
def f224_test_h21 : Nat → Int32 → mjZt → Option (Unit × mjZt)
  | 0, _, _ => none
  | n + 1, x1, Z =>
    mjBp (f207_isGood  Z) fun v108 =>
    if mjCmp .eq v108 0 = true then
      some ((), Z)
    else
      if mjCmp .eq x1 0 = true then
        some ((), Z)
      else
        mjBp (f208_isWord 6385252 Z) fun v113 =>
        if mjCmp .eq v113 0 = true then
          mjBp (f208_isWord 28530 Z) fun v117 =>
          if mjCmp .eq v117 0 = true then
            mjBd (f218_works 41 42 Z) fun _ Z122 =>
            mjBp (f216_top  Z122) fun v124 =>
            if mjCmp .ne v124 50 = true then
              f224_test_j124 (f224_test_h21 n) 0 Z122
            else
              f224_test_j124 (f224_test_h21 n) 1 Z122
          else
            mjBd (f218_works 41 42 Z) fun _ Z136 =>
            mjBd (f215_waitsFor 42 Z136) fun _ Z139 =>
            mjBd (f205_goOn  Z139) fun _ Z142 =>
            mjBd (f223_comparison  Z142) fun _ Z145 =>
            f224_test_h21 n x1 Z145
        else
          mjBd (f218_works 41 41 Z) fun _ Z148 =>
          mjBd (f215_waitsFor 41 Z148) fun _ Z151 =>
          mjBd (f205_goOn  Z151) fun _ Z154 =>
          mjBd (f223_comparison  Z154) fun _ Z157 =>
          f224_test_h21 n x1 Z157
def f224_test  (Z : mjZt) : Option (Unit × mjZt) :=
  mjLet (zSi Z 211 18 0) fun Z101 =>
  mjLet (zSi Z101 211 19 0) fun Z102 =>
  mjLet (zSi Z102 211 20 0) fun Z103 =>
  mjBd (f223_comparison  Z103) fun _ Z106 =>
  f224_test_h21 mjF 1 Z106
def f225_freshName_j77 (x1 : Nat) (x2 : Int32) (Z : mjZt) : Option (Unit × mjZt) :=
  if mjCmp .le (Z.1 211 9) 0 = true then
    if mjIs x1 251 14 = true then
    if mjIn x2 (mjLay x1).2 = true then
    mjLet (zSl Z x1 (mjIx x2) (Z.2.1 211 13)) fun Z112 =>
    mjBd (f205_goOn  Z112) fun _ Z115 =>
    some ((), Z115)
    else none
    else none
  else
    some ((), Z)
def f225_freshName_j72 (x1 : Nat) (x2 : Int32) (Z : mjZt) : Option (Unit × mjZt) :=
  mjBd (f206_wrong 3 Z) fun _ Z122 =>
  f225_freshName_j77 x1 x2 Z122
def f225_freshName_j27 (x1 : Nat) (x2 : Int32) (Z : mjZt) : Option (Unit × mjZt) :=
  mjBp (f207_isGood  Z) fun v106 =>
  if mjCmp .eq v106 0 = true then
    f225_freshName_j77 x1 x2 Z
  else
    mjBp (f210_among 227 (Z.1 211 21) (Z.2.1 211 13) Z) fun v117 =>
    if mjCmp .ne v117 ((-1)) = true then
      f225_freshName_j72 x1 x2 Z
    else
      mjBp (f210_among 228 (Z.1 211 23) (Z.2.1 211 13) Z) fun v124 =>
      if mjCmp .eq v124 ((-1)) = true then
        f225_freshName_j77 x1 x2 Z
      else
        f225_freshName_j72 x1 x2 Z
def f225_freshName_j22 (x1 : Nat) (x2 : Int32) (Z : mjZt) : Option (Unit × mjZt) :=
  mjBd (f206_wrong 2 Z) fun _ Z130 =>
  f225_freshName_j27 x1 x2 Z130
def f225_freshName (p0 : Nat) (p1 : Int32) (Z : mjZt) : Option (Unit × mjZt) :=
  mjBp (f207_isGood  Z) fun v102 =>
  if mjCmp .eq v102 0 = true then
    f225_freshName_j27 p0 p1 Z
  else
    if mjCmp .ne (Z.1 211 7) 1 = true then
      f225_freshName_j22 p0 p1 Z
    else
      mjBp (f211_isKept  Z) fun v132 =>
      if mjCmp .eq v132 0 = true then
        f225_freshName_j27 p0 p1 Z
      else
        f225_freshName_j22 p0 p1 Z
def f226_teamHere_j27  (Z : mjZt) : Option (Int32 × mjZt) :=
  mjBp (f210_among 227 (Z.1 211 21) (Z.2.1 211 13) Z) fun v106 =>
  mjBp (f207_isGood  Z) fun v109 =>
  if mjCmp .eq v109 0 = true then
    some (v106, Z)
  else
    if mjCmp .ne v106 ((-1)) = true then
      some (v106, Z)
    else
      mjBd (f206_wrong 3 Z) fun _ Z115 =>
      some (v106, Z115)
def f226_teamHere_j22  (Z : mjZt) : Option (Int32 × mjZt) :=
  mjBd (f206_wrong 2 Z) fun _ Z119 =>
  f226_teamHere_j27  Z119
def f226_teamHere  (Z : mjZt) : Option (Int32 × mjZt) :=
  mjBp (f207_isGood  Z) fun v102 =>
  if mjCmp .eq v102 0 = true then
    f226_teamHere_j27  Z
  else
    if mjCmp .ne (Z.1 211 7) 1 = true then
      f226_teamHere_j22  Z
    else
      mjBp (f211_isKept  Z) fun v121 =>
      if mjCmp .eq v121 0 = true then
        f226_teamHere_j27  Z
      else
        f226_teamHere_j22  Z
def f227_teamLine_j137  (Z : mjZt) : Option (Unit × mjZt) :=
  if mjCmp .le (Z.1 211 9) 0 = true then
    if mjIn (Z.1 211 21) 6 = true then
    mjLet (zSi Z 219 (mjIx (Z.1 211 21)) (Z.1 211 8)) fun Z121 =>
    if mjIn (Z121.1 211 21) 6 = true then
    mjLet (zSi Z121 220 (mjIx (Z121.1 211 21)) 0) fun Z123 =>
    mjLet (zSi Z123 211 21 ((Z123.1 211 21) + 1)) fun Z124 =>
    mjBd (f205_goOn  Z124) fun _ Z127 =>
    some ((), Z127)
    else none
    else none
  else
    some ((), Z)
def f227_teamLine_j132  (Z : mjZt) : Option (Unit × mjZt) :=
  mjBd (f206_wrong 4 Z) fun _ Z134 =>
  f227_teamLine_j137  Z134
def f227_teamLine_h69 : Nat → Int32 → Int32 → mjZt → Option (Unit × mjZt)
  | 0, _, _, _ => none
  | n + 1, x1, x2, Z =>
    if mjCmp .ge x2 (Z.1 211 21) = true then
      mjBp (f207_isGood  Z) fun v116 =>
      if mjCmp .eq v116 0 = true then
        f227_teamLine_j137  Z
      else
        mjBp (f195_isIn (Int32.toInt64 (Z.1 211 8)) 1 9 Z) fun v129 =>
        if mjCmp .eq v129 0 = true then
          f227_teamLine_j132  Z
        else
          if mjCmp .eq x1 0 = true then
            f227_teamLine_j137  Z
          else
            f227_teamLine_j132  Z
    else
      if mjCmp .ne x1 0 = true then
        f227_teamLine_h69 n 1 (x2 + 1) Z
      else
        if mjIn x2 6 = true then
        if mjCmp .ne (Z.1 219 (mjIx x2)) (Z.1 211 8) = true then
          f227_teamLine_h69 n 0 (x2 + 1) Z
        else
          f227_teamLine_h69 n 1 (x2 + 1) Z
        else none
def f227_teamLine_j65  (Z : mjZt) : Option (Unit × mjZt) :=
  f227_teamLine_h69 mjF 0 0 Z
def f227_teamLine_j25  (Z : mjZt) : Option (Unit × mjZt) :=
  if mjCmp .le (Z.1 211 9) 0 = true then
    mjBd (f225_freshName 227 (Z.1 211 21) Z) fun _ Z109 =>
    mjBp (f207_isGood  Z109) fun v111 =>
    if mjCmp .eq v111 0 = true then
      f227_teamLine_j65  Z109
    else
      if mjCmp .eq (Z109.1 211 7) 2 = true then
        f227_teamLine_j65  Z109
      else
        mjBd (f206_wrong 2 Z109) fun _ Z142 =>
        f227_teamLine_j65  Z142
  else
    some ((), Z)
def f227_teamLine_j14  (Z : mjZt) : Option (Unit × mjZt) :=
  mjBp (f207_isGood  Z) fun v103 =>
  if mjCmp .eq v103 0 = true then
    f227_teamLine_j25  Z
  else
    mjBd (f205_goOn  Z) fun _ Z145 =>
    f227_teamLine_j25  Z145
def f227_teamLine  (Z : mjZt) : Option (Unit × mjZt) :=
  if mjCmp .ne (Z.1 211 21) 6 = true then
    f227_teamLine_j14  Z
  else
    mjBd (f206_wrong 5 Z) fun _ Z148 =>
    f227_teamLine_j14  Z148
def f228_runsLine_j168 (x1 : Int32) (s1 : Int32) (s2 : Int32) (Z : mjZt) : Option (Unit × mjZt) :=
  if mjIn s1 108 = true then
  mjLet (zSi Z 221 (mjIx s1) s2) fun Z134 =>
  if mjIn x1 6 = true then
  mjLet (zSi Z134 220 (mjIx x1) ((Z134.1 220 (mjIx x1)) + 1)) fun Z136 =>
  some ((), Z136)
  else none
  else none
def f228_runsLine_j105 (x1 : Int32) (x2 : Int32) (x3 : Int32) (s1 : Int32) (s2 : Int32) (Z : mjZt) : Option (Unit × mjZt) :=
  mjBd (f213_number s1 s2 Z) fun v126 Z127 =>
  if mjCmp .le (Z127.1 211 9) 0 = true then
    if mjIn x1 6 = true then
    if mjIn ((12 * x1) + (2 * (Z127.1 220 (mjIx x1)))) 108 = true then
    mjLet (zSi Z127 221 (mjIx ((12 * x1) + (2 * (Z127.1 220 (mjIx x1))))) x2) fun Z131 =>
    if mjCmp .eq x3 0 = true then
      f228_runsLine_j168 x1 (((12 * x1) + (2 * (Z131.1 220 (mjIx x1)))) + 1) v126 Z131
    else
      f228_runsLine_j168 x1 (((12 * x1) + (2 * (Z131.1 220 (mjIx x1)))) + 1) (-v126) Z131
    else none
    else none
  else
    some ((), Z127)
def f228_runsLine_j72 (x1 : Int32) (x2 : Int32) (x3 : Int32) (Z : mjZt) : Option (Unit × mjZt) :=
  if mjCmp .le (Z.1 211 9) 0 = true then
    if mjIn x1 6 = true then
    if mjCmp .ne ((Z.1 220 (mjIx x1)) + 1) (Z.1 218 0) = true then
      f228_runsLine_j105 x1 x2 x3 0 20 Z
    else
      f228_runsLine_j105 x1 x2 x3 0 0 Z
    else none
  else
    some ((), Z)
def f228_runsLine_j47 (x1 : Int32) (Z : mjZt) : Option (Unit × mjZt) :=
  mjBd (f213_number 20 999 Z) fun v116 Z117 =>
  mjBp (f209_isSignHere 45 Z117) fun v119 =>
  if mjCmp .eq v119 0 = true then
    f228_runsLine_j72 x1 v116 v119 Z117
  else
    mjBd (f205_goOn  Z117) fun _ Z139 =>
    f228_runsLine_j72 x1 v116 v119 Z139
def f228_runsLine_j36 (x1 : Int32) (Z : mjZt) : Option (Unit × mjZt) :=
  mjBp (f207_isGood  Z) fun v112 =>
  if mjCmp .eq v112 0 = true then
    f228_runsLine_j47 x1 Z
  else
    mjBd (f205_goOn  Z) fun _ Z142 =>
    f228_runsLine_j47 x1 Z142
def f228_runsLine  (Z : mjZt) : Option (Unit × mjZt) :=
  mjBd (f205_goOn  Z) fun _ Z103 =>
  mjBd (f226_teamHere  Z103) fun v105 Z106 =>
  mjBp (f207_isGood  Z106) fun v108 =>
  if mjCmp .eq v108 0 = true then
    f228_runsLine_j36 v105 Z106
  else
    if mjIn v105 6 = true then
    if mjCmp .ne (Z106.1 220 (mjIx v105)) (Z106.1 218 0) = true then
      f228_runsLine_j36 v105 Z106
    else
      mjBd (f206_wrong 5 Z106) fun _ Z147 =>
      f228_runsLine_j36 v105 Z147
    else none
def f229_kindHere_j24 (s0 : Int32) (Z : mjZt) : Option (Int32 × mjZt) :=
  mjBp (f207_isGood  Z) fun v103 =>
  if mjCmp .eq v103 0 = true then
    if mjCmp .eq v103 0 = true then
      some (s0, Z)
    else
      mjBd (f205_goOn  Z) fun _ Z112 =>
      some (s0, Z112)
  else
    if mjCmp .ne s0 ((-1)) = true then
      if mjCmp .eq v103 0 = true then
        some (s0, Z)
      else
        mjBd (f205_goOn  Z) fun _ Z120 =>
        some (s0, Z120)
    else
      mjBd (f206_wrong 2 Z) fun _ Z123 =>
      mjBp (f207_isGood  Z123) fun v125 =>
      if mjCmp .eq v125 0 = true then
        some (s0, Z123)
      else
        mjBd (f205_goOn  Z123) fun _ Z130 =>
        some (s0, Z130)
def f229_kindHere (p0 : Int32) (Z : mjZt) : Option (Int32 × mjZt) :=
  if mjCmp .ne (Z.1 211 7) 1 = true then
    f229_kindHere_j24 ((-1)) Z
  else
    mjBp (f210_among 213 p0 (Z.2.1 211 13) Z) fun v132 =>
    f229_kindHere_j24 v132 Z
def f230_actLine_j94 (x1 : Int32) (x2 : Int32) (x3 : Int32) (Z : mjZt) : Option (Unit × mjZt) :=
  mjBd (f213_number 0 9999 Z) fun v121 Z122 =>
  mjBd (f213_number 0 99 Z122) fun v124 Z125 =>
  if mjCmp .le (Z125.1 211 9) 0 = true then
    if mjIn (Z125.1 211 22) 12 = true then
    mjLet (zSi Z125 222 (mjIx (Z125.1 211 22)) x1) fun Z128 =>
    if mjIn (Z128.1 211 22) 12 = true then
    mjLet (zSi Z128 223 (mjIx (Z128.1 211 22)) x2) fun Z130 =>
    if mjIn (Z130.1 211 22) 12 = true then
    mjLet (zSi Z130 224 (mjIx (Z130.1 211 22)) x3) fun Z132 =>
    if mjIn (72 + (3 * (Z132.1 211 22))) 108 = true then
    mjLet (zSi Z132 221 (mjIx (72 + (3 * (Z132.1 211 22)))) v121) fun Z134 =>
    if mjIn ((72 + (3 * (Z134.1 211 22))) + 1) 108 = true then
    mjLet (zSi Z134 221 (mjIx ((72 + (3 * (Z134.1 211 22))) + 1)) v124) fun Z136 =>
    if mjIn ((72 + (3 * (Z136.1 211 22))) + 2) 108 = true then
    mjLet (zSi Z136 221 (mjIx ((72 + (3 * (Z136.1 211 22))) + 2)) 0) fun Z138 =>
    mjLet (zSi Z138 211 22 ((Z138.1 211 22) + 1)) fun Z139 =>
    some ((), Z139)
    else none
    else none
    else none
    else none
    else none
    else none
  else
    some ((), Z125)
def f230_actLine_j83 (x1 : Int32) (x2 : Int32) (x3 : Int32) (Z : mjZt) : Option (Unit × mjZt) :=
  mjBp (f207_isGood  Z) fun v149 =>
  if mjCmp .eq v149 0 = true then
    f230_actLine_j94 x1 x2 x3 Z
  else
    mjBd (f205_goOn  Z) fun _ Z154 =>
    f230_actLine_j94 x1 x2 x3 Z154
def f230_actLine_j47 (x1 : Int32) (x2 : Int32) (Z : mjZt) : Option (Unit × mjZt) :=
  mjBp (f207_isGood  Z) fun v117 =>
  if mjCmp .eq v117 0 = true then
    f230_actLine_j94 x1 x2 ((-1)) Z
  else
    if mjCmp .ne x1 3 = true then
      f230_actLine_j94 x1 x2 ((-1)) Z
    else
      mjBd (f226_teamHere  Z) fun v142 Z143 =>
      mjBp (f207_isGood  Z143) fun v145 =>
      if mjCmp .eq v145 0 = true then
        f230_actLine_j83 x1 x2 v142 Z143
      else
        if mjCmp .ne v142 x2 = true then
          f230_actLine_j83 x1 x2 v142 Z143
        else
          mjBd (f206_wrong 3 Z143) fun _ Z158 =>
          f230_actLine_j83 x1 x2 v142 Z158
def f230_actLine_j25  (Z : mjZt) : Option (Unit × mjZt) :=
  mjBd (f229_kindHere 4 Z) fun v107 Z108 =>
  mjBd (f226_teamHere  Z108) fun v110 Z111 =>
  mjBp (f207_isGood  Z111) fun v113 =>
  if mjCmp .eq v113 0 = true then
    f230_actLine_j47 v107 v110 Z111
  else
    mjBd (f205_goOn  Z111) fun _ Z161 =>
    f230_actLine_j47 v107 v110 Z161
def f230_actLine_j14  (Z : mjZt) : Option (Unit × mjZt) :=
  mjBp (f207_isGood  Z) fun v103 =>
  if mjCmp .eq v103 0 = true then
    f230_actLine_j25  Z
  else
    mjBd (f205_goOn  Z) fun _ Z164 =>
    f230_actLine_j25  Z164
def f230_actLine  (Z : mjZt) : Option (Unit × mjZt) :=
  if mjCmp .ne (Z.1 211 22) 12 = true then
    f230_actLine_j14  Z
  else
    mjBd (f206_wrong 5 Z) fun _ Z167 =>
    f230_actLine_j14  Z167
def f231_ruleLine_j163 (x1 : Int32) (Z : mjZt) : Option (Unit × mjZt) :=
  if mjIn ((4 * (Z.1 211 23)) + 3) 32 = true then
  mjLet (zSi Z 226 (mjIx ((4 * (Z.1 211 23)) + 3)) (Z.1 211 17)) fun Z136 =>
  if mjCmp .le (Z136.1 211 9) 0 = true then
    if mjIn (Z136.1 211 23) 8 = true then
    mjLet (zSi Z136 225 (mjIx (Z136.1 211 23)) x1) fun Z139 =>
    mjLet (zSi Z139 211 23 ((Z139.1 211 23) + 1)) fun Z140 =>
    some ((), Z140)
    else none
  else
    some ((), Z136)
  else none
def f231_ruleLine_j84 (x1 : Int32) (Z : mjZt) : Option (Unit × mjZt) :=
  if mjCmp .le (Z.1 211 9) 0 = true then
    if mjIn (4 * (Z.1 211 23)) 32 = true then
    mjLet (zSi Z 226 (mjIx (4 * (Z.1 211 23))) (Z.1 211 17)) fun Z123 =>
    mjBd (f224_test  Z123) fun _ Z126 =>
    if mjIn ((4 * (Z126.1 211 23)) + 1) 32 = true then
    mjLet (zSi Z126 226 (mjIx ((4 * (Z126.1 211 23)) + 1)) (Z126.1 211 17)) fun Z128 =>
    if mjIn ((4 * (Z128.1 211 23)) + 2) 32 = true then
    mjLet (zSi Z128 226 (mjIx ((4 * (Z128.1 211 23)) + 2)) (Z128.1 211 17)) fun Z130 =>
    mjBp (f208_isWord 111567739122533 Z130) fun v132 =>
    if mjCmp .eq v132 0 = true then
      f231_ruleLine_j163 x1 Z130
    else
      mjBd (f205_goOn  Z130) fun _ Z143 =>
      mjBd (f224_test  Z143) fun _ Z146 =>
      f231_ruleLine_j163 x1 Z146
    else none
    else none
    else none
  else
    some ((), Z)
def f231_ruleLine_j73 (x1 : Int32) (Z : mjZt) : Option (Unit × mjZt) :=
  mjBp (f207_isGood  Z) fun v118 =>
  if mjCmp .eq v118 0 = true then
    f231_ruleLine_j84 x1 Z
  else
    mjBd (f205_goOn  Z) fun _ Z149 =>
    f231_ruleLine_j84 x1 Z149
def f231_ruleLine_j25  (Z : mjZt) : Option (Unit × mjZt) :=
  if mjCmp .le (Z.1 211 9) 0 = true then
    mjBd (f225_freshName 228 (Z.1 211 23) Z) fun _ Z109 =>
    mjBd (f229_kindHere 5 Z109) fun v111 Z112 =>
    mjBp (f207_isGood  Z112) fun v114 =>
    if mjCmp .eq v114 0 = true then
      f231_ruleLine_j73 v111 Z112
    else
      mjBp (f208_isWord 2003330414 Z112) fun v151 =>
      if mjCmp .ne v151 0 = true then
        f231_ruleLine_j73 v111 Z112
      else
        mjBd (f206_wrong 2 Z112) fun _ Z156 =>
        f231_ruleLine_j73 v111 Z156
  else
    some ((), Z)
def f231_ruleLine_j14  (Z : mjZt) : Option (Unit × mjZt) :=
  mjBp (f207_isGood  Z) fun v103 =>
  if mjCmp .eq v103 0 = true then
    f231_ruleLine_j25  Z
  else
    mjBd (f205_goOn  Z) fun _ Z159 =>
    f231_ruleLine_j25  Z159
def f231_ruleLine  (Z : mjZt) : Option (Unit × mjZt) :=
  if mjCmp .ne (Z.1 211 23) 8 = true then
    f231_ruleLine_j14  Z
  else
    mjBd (f206_wrong 5 Z) fun _ Z162 =>
    f231_ruleLine_j14  Z162
def f232_once_j24 (x1 : Int32) (Z : mjZt) : Option (Unit × mjZt) :=
  mjLet (zSi Z 211 24 ((Z.1 211 24) ||| ((1 : Int32) <<< ((x1 : Int32) &&& 31)))) fun Z105 =>
  mjBp (f207_isGood  Z105) fun v107 =>
  if mjCmp .eq v107 0 = true then
    some ((), Z105)
  else
    mjBd (f205_goOn  Z105) fun _ Z112 =>
    some ((), Z112)
def f232_once (p0 : Int32) (Z : mjZt) : Option (Unit × mjZt) :=
  mjBp (f207_isGood  Z) fun v102 =>
  if mjCmp .eq v102 0 = true then
    f232_once_j24 p0 Z
  else
    mjBp (f197_holds1 (Z.1 211 24) p0 Z) fun v114 =>
    if mjCmp .eq v114 0 = true then
      f232_once_j24 p0 Z
    else
      mjBd (f206_wrong 6 Z) fun _ Z119 =>
      f232_once_j24 p0 Z119
def f233_line_j131  (Z : mjZt) : Option (Unit × mjZt) :=
  mjBd (f212_must 59 Z) fun _ Z130 =>
  mjLet (zSi Z130 211 27 ((Z130.1 211 27) + 1)) fun Z131 =>
  some ((), Z131)
def f233_line  (Z : mjZt) : Option (Unit × mjZt) :=
  mjBp (f208_isWord 1952801133 Z) fun v102 =>
  if mjCmp .eq v102 0 = true then
    mjBp (f208_isWord 1920298611 Z) fun v106 =>
    if mjCmp .eq v106 0 = true then
      mjBp (f208_isWord 6382452 Z) fun v110 =>
      if mjCmp .eq v110 0 = true then
        mjBp (f208_isWord 1920298085 Z) fun v114 =>
        if mjCmp .eq v114 0 = true then
          mjBp (f208_isWord 32765938003961704 Z) fun v118 =>
          if mjCmp .eq v118 0 = true then
            mjBp (f208_isWord 131294808271214 Z) fun v122 =>
            if mjCmp .eq v122 0 = true then
              mjBd (f206_wrong 2 Z) fun _ Z127 =>
              f233_line_j131  Z127
            else
              mjBd (f232_once 1 Z) fun _ Z134 =>
              mjBd (f213_number 0 99 Z134) fun v136 Z137 =>
              mjLet (zSi Z137 211 26 v136) fun Z138 =>
              f233_line_j131  Z138
          else
            mjBd (f232_once 0 Z) fun _ Z141 =>
            mjBd (f213_number 1 6 Z141) fun v143 Z144 =>
            mjLet (zSi Z144 211 25 v143) fun Z145 =>
            f233_line_j131  Z145
        else
          mjBd (f231_ruleLine  Z) fun _ Z148 =>
          f233_line_j131  Z148
      else
        mjBd (f230_actLine  Z) fun _ Z151 =>
        f233_line_j131  Z151
    else
      mjBd (f228_runsLine  Z) fun _ Z154 =>
      f233_line_j131  Z154
  else
    mjBd (f227_teamLine  Z) fun _ Z157 =>
    f233_line_j131  Z157
def f234_trackLine_j26  (Z : mjZt) : Option (Unit × mjZt) :=
  mjBd (f213_number 2 6 Z) fun v110 Z111 =>
  mjLet (zSi Z111 218 0 v110) fun Z112 =>
  mjBd (f213_number 50 400 Z112) fun v114 Z115 =>
  mjLet (zSi Z115 218 1 v114) fun Z116 =>
  mjBd (f213_number 0 20 Z116) fun v118 Z119 =>
  mjLet (zSi Z119 218 2 v118) fun Z120 =>
  mjBd (f213_number 0 20 Z120) fun v122 Z123 =>
  mjLet (zSi Z123 218 3 v122) fun Z124 =>
  mjBd (f213_number 0 (Z124.1 218 1) Z124) fun v126 Z127 =>
  mjLet (zSi Z127 218 4 v126) fun Z128 =>
  mjBd (f212_must 59 Z128) fun _ Z131 =>
  some ((), Z131)
def f234_trackLine_j15  (Z : mjZt) : Option (Unit × mjZt) :=
  mjBp (f207_isGood  Z) fun v106 =>
  if mjCmp .eq v106 0 = true then
    f234_trackLine_j26  Z
  else
    mjBd (f205_goOn  Z) fun _ Z134 =>
    f234_trackLine_j26  Z134
def f234_trackLine  (Z : mjZt) : Option (Unit × mjZt) :=
  mjBp (f208_isWord 500135191403 Z) fun v102 =>
  if mjCmp .ne v102 0 = true then
    f234_trackLine_j15  Z
  else
    mjBd (f206_wrong 2 Z) fun _ Z137 =>
    f234_trackLine_j15  Z137
def f235_takes_h264 : Nat → Int32 → mjZt → Option (Unit × mjZt)
  | 0, _, _ => none
  | n + 1, x1, Z =>
    if mjCmp .ge x1 108 = true then
      some ((), Z)
    else
      if mjIn x1 108 = true then
      mjLet (zSi Z 239 (mjIx x1) (Z.1 221 (mjIx x1))) fun Z115 =>
      f235_takes_h264 n (x1 + 1) Z115
      else none
def f235_takes_h236 : Nat → Int32 → mjZt → Option (Unit × mjZt)
  | 0, _, _ => none
  | n + 1, x1, Z =>
    if mjCmp .ge x1 (Z.1 211 17) = true then
      f235_takes_h264 mjF 0 Z
    else
      if mjIn x1 1500 = true then
      mjLet (zSi Z 216 (mjIx x1) (Z.1 215 (mjIx x1))) fun Z117 =>
      f235_takes_h236 n (x1 + 1) Z117
      else none
def f235_takes_h210 : Nat → Int32 → mjZt → Option (Unit × mjZt)
  | 0, _, _ => none
  | n + 1, x1, Z =>
    if mjCmp .ge x1 32 = true then
      f235_takes_h236 mjF 0 Z
    else
      if mjIn x1 32 = true then
      mjLet (zSi Z 236 (mjIx x1) (Z.1 226 (mjIx x1))) fun Z119 =>
      f235_takes_h210 n (x1 + 1) Z119
      else none
def f235_takes_h172 : Nat → Int32 → mjZt → Option (Unit × mjZt)
  | 0, _, _ => none
  | n + 1, x1, Z =>
    if mjCmp .ge x1 8 = true then
      f235_takes_h210 mjF 0 Z
    else
      if mjIn x1 8 = true then
      mjLet (zSi Z 235 (mjIx x1) (Z.1 225 (mjIx x1))) fun Z121 =>
      mjLet (zSl Z121 238 (mjIx x1) (Z121.2.1 228 (mjIx x1))) fun Z122 =>
      f235_takes_h172 n (x1 + 1) Z122
      else none
def f235_takes_h122 : Nat → Int32 → mjZt → Option (Unit × mjZt)
  | 0, _, _ => none
  | n + 1, x1, Z =>
    if mjCmp .ge x1 12 = true then
      f235_takes_h172 mjF 0 Z
    else
      if mjIn x1 12 = true then
      mjLet (zSi Z 232 (mjIx x1) (Z.1 222 (mjIx x1))) fun Z124 =>
      mjLet (zSi Z124 233 (mjIx x1) (Z124.1 223 (mjIx x1))) fun Z125 =>
      mjLet (zSi Z125 234 (mjIx x1) (Z125.1 224 (mjIx x1))) fun Z126 =>
      f235_takes_h122 n (x1 + 1) Z126
      else none
def f235_takes_h72 : Nat → Int32 → mjZt → Option (Unit × mjZt)
  | 0, _, _ => none
  | n + 1, x1, Z =>
    if mjCmp .ge x1 6 = true then
      f235_takes_h122 mjF 0 Z
    else
      if mjIn x1 6 = true then
      mjLet (zSi Z 230 (mjIx x1) (Z.1 219 (mjIx x1))) fun Z128 =>
      mjLet (zSi Z128 231 (mjIx x1) (Z128.1 220 (mjIx x1))) fun Z129 =>
      mjLet (zSl Z129 237 (mjIx x1) (Z129.2.1 227 (mjIx x1))) fun Z130 =>
      f235_takes_h72 n (x1 + 1) Z130
      else none
def f235_takes_h47 : Nat → Int32 → mjZt → Option (Unit × mjZt)
  | 0, _, _ => none
  | n + 1, x1, Z =>
    if mjCmp .ge x1 5 = true then
      f235_takes_h72 mjF 0 Z
    else
      if mjIn x1 5 = true then
      mjLet (zSi Z 229 (mjIx x1) (Z.1 218 (mjIx x1))) fun Z132 =>
      f235_takes_h47 n (x1 + 1) Z132
      else none
def f235_takes  (Z : mjZt) : Option (Unit × mjZt) :=
  mjLet (zSi Z 211 39 (Z.1 211 21)) fun Z101 =>
  mjLet (zSi Z101 211 40 (Z101.1 211 22)) fun Z102 =>
  mjLet (zSi Z102 211 41 (Z102.1 211 23)) fun Z103 =>
  mjLet (zSi Z103 211 42 (Z103.1 211 25)) fun Z104 =>
  mjLet (zSi Z104 211 43 (Z104.1 211 26)) fun Z105 =>
  mjLet (zSi Z105 211 56 0) fun Z106 =>
  f235_takes_h47 mjF 0 Z106
def f236_book_j97  (Z : mjZt) : Option (Int32 × mjZt) :=
  mjLet (zSi Z 211 11 (Z.1 211 9)) fun Z124 =>
  mjLet (zSi Z124 211 12 (Z124.1 211 10)) fun Z125 =>
  if mjCmp .le (Z125.1 211 9) 0 = true then
    mjBd (f235_takes  Z125) fun _ Z129 =>
    some (Z129.1 211 27, Z129)
  else
    some ((-1), Z125)
def f236_book_h76 : Nat → mjZt → Option (Int32 × mjZt)
  | 0, _ => none
  | n + 1, Z =>
    mjBp (f207_isGood  Z) fun v121 =>
    if mjCmp .eq v121 0 = true then
      f236_book_j97  Z
    else
      if mjCmp .eq (Z.1 211 7) 0 = true then
        f236_book_j97  Z
      else
        mjBd (f233_line  Z) fun _ Z133 =>
        f236_book_h76 n  Z133
def f236_book  (Z : mjZt) : Option (Int32 × mjZt) :=
  mjLet (zSi Z 211 4 (Z.1 211 1)) fun Z101 =>
  mjLet (zSi Z101 211 1 0) fun Z102 =>
  mjLet (zSi Z102 211 5 0) fun Z103 =>
  mjLet (zSi Z103 211 9 0) fun Z104 =>
  mjLet (zSi Z104 211 10 ((-1))) fun Z105 =>
  mjLet (zSi Z105 211 21 0) fun Z106 =>
  mjLet (zSi Z106 211 22 0) fun Z107 =>
  mjLet (zSi Z107 211 23 0) fun Z108 =>
  mjLet (zSi Z108 211 24 0) fun Z109 =>
  mjLet (zSi Z109 211 25 2) fun Z110 =>
  mjLet (zSi Z110 211 26 5) fun Z111 =>
  mjLet (zSi Z111 211 17 0) fun Z112 =>
  mjLet (zSi Z112 211 27 0) fun Z113 =>
  mjBd (f205_goOn  Z113) fun _ Z116 =>
  mjBd (f234_trackLine  Z116) fun _ Z119 =>
  f236_book_h76 mjF  Z119
def f237_fault (p0 : Int32) (Z : mjZt) : Option Int32 :=
  if mjCmp .ne p0 0 = true then
    if mjCmp .ne p0 1 = true then
      some ((-1))
    else
      some (Z.1 211 12)
  else
    some (Z.1 211 11)
def f238_keeps_h52 : Nat → Int32 → mjZt → Option (Unit × mjZt)
  | 0, _, _ => none
  | n + 1, x1, Z =>
    if mjCmp .ge x1 108 = true then
      mjLet (zSi Z 211 56 ((Z.1 211 56) + 1)) fun Z103 =>
      some ((), Z103)
    else
      if mjIn x1 108 = true then
      if mjIn ((108 * (Z.1 211 56)) + x1) 1080 = true then
      mjLet (zSi Z 240 (mjIx ((108 * (Z.1 211 56)) + x1)) (Z.1 239 (mjIx x1))) fun Z106 =>
      f238_keeps_h52 n (x1 + 1) Z106
      else none
      else none
def f238_keeps_j50  (Z : mjZt) : Option (Unit × mjZt) :=
  f238_keeps_h52 mjF 0 Z
def f238_keeps_h12 : Nat → Int32 → mjZt → Option (Unit × mjZt)
  | 0, _, _ => none
  | n + 1, x1, Z =>
    if mjCmp .ge x1 1080 = true then
      mjLet (zSi Z 211 56 ((Z.1 211 56) - 1)) fun Z108 =>
      f238_keeps_j50  Z108
    else
      if mjIn x1 1080 = true then
      if mjIn (x1 - 108) 1080 = true then
      mjLet (zSi Z 240 (mjIx (x1 - 108)) (Z.1 240 (mjIx x1))) fun Z111 =>
      f238_keeps_h12 n (x1 + 1) Z111
      else none
      else none
def f238_keeps  (Z : mjZt) : Option (Unit × mjZt) :=
  if mjCmp .ne (Z.1 211 56) 10 = true then
    f238_keeps_j50  Z
  else
    f238_keeps_h12 mjF 108 Z
def f239_undo_h21 : Nat → Int32 → mjZt → Option (Int32 × mjZt)
  | 0, _, _ => none
  | n + 1, x1, Z =>
    if mjCmp .ge x1 108 = true then
      some (Z.1 211 56, Z)
    else
      if mjIn ((108 * (Z.1 211 56)) + x1) 1080 = true then
      if mjIn x1 108 = true then
      mjLet (zSi Z 239 (mjIx x1) (Z.1 240 (mjIx ((108 * (Z.1 211 56)) + x1)))) fun Z106 =>
      f239_undo_h21 n (x1 + 1) Z106
      else none
      else none
def f239_undo  (Z : mjZt) : Option (Int32 × mjZt) :=
  if mjCmp .ne (Z.1 211 56) 0 = true then
    mjLet (zSi Z 211 56 ((Z.1 211 56) - 1)) fun Z102 =>
    f239_undo_h21 mjF 0 Z102
  else
    some ((-1), Z)
def f240_isTeam (p0 : Int32) (Z : mjZt) : Option Int32 :=
  mjBp (f195_isIn (Int32.toInt64 p0) 0 (Int32.toInt64 ((Z.1 211 39) - 1)) Z) fun v102 =>
  if v102 = 0 ∨ v102 = 1 then
  some v102
  else none
def f241_isTenth (p0 : Int32) (Z : mjZt) : Option Int32 :=
  mjBp (f195_isIn (Int32.toInt64 p0) 0 9999 Z) fun v102 =>
  if v102 = 0 ∨ v102 = 1 then
  some v102
  else none
def f242_tenthsOf (p0 : Int32) (p1 : Int32) (Z : mjZt) : Option Int32 :=
  if mjIn ((12 * p0) + (2 * p1)) 108 = true then
  some (Z.1 239 (mjIx ((12 * p0) + (2 * p1))))
  else none
def f243_metresOf (p0 : Int32) (p1 : Int32) (Z : mjZt) : Option Int32 :=
  if mjIn (((12 * p0) + (2 * p1)) + 1) 108 = true then
  some (Z.1 239 (mjIx (((12 * p0) + (2 * p1)) + 1)))
  else none
def f244_endPlace (p0 : Int32) (p1 : Int32) (Z : mjZt) : Option Int32 :=
  if mjCmp .ge p1 0 = true then
    mjBp (f243_metresOf p0 p1 Z) fun v103 =>
    some (10 * (((p1 + 1) * (Z.1 229 1)) + v103))
  else
    some 0
def f245_endTenth_h5 : Nat → Int32 → Int32 → Int32 → Int32 → mjZt → Option Int32
  | 0, _, _, _, _, _ => none
  | n + 1, x1, x2, x3, x4, Z =>
    if mjCmp .gt x4 x2 = true then
      some x3
    else
      mjBp (f242_tenthsOf x1 x4 Z) fun v103 =>
      f245_endTenth_h5 n x1 x2 (x3 + v103) (x4 + 1) Z
def f245_endTenth (p0 : Int32) (p1 : Int32) (Z : mjZt) : Option Int32 :=
  f245_endTenth_h5 mjF p0 p1 0 0 Z
def f246_timeOf (p0 : Int32) (Z : mjZt) : Option Int32 :=
  if mjIn p0 6 = true then
  mjBp (f245_endTenth p0 ((Z.1 231 (mjIx p0)) - 1) Z) fun v103 =>
  some v103
  else none
def f247_isWhole (p0 : Int32) (Z : mjZt) : Option Int32 :=
  if mjIn p0 6 = true then
  if mjCmp .ne (Z.1 231 (mjIx p0)) (Z.1 229 0) = true then
    some 0
  else
    some 1
  else none
def f248_legAt_h2 : Nat → Int32 → Int32 → Int32 → mjZt → Option Int32
  | 0, _, _, _, _ => none
  | n + 1, x1, x2, x3, Z =>
    if mjIn x1 6 = true then
    if mjCmp .ge x3 ((Z.1 231 (mjIx x1)) - 1) = true then
      some x3
    else
      mjBp (f245_endTenth x1 x3 Z) fun v104 =>
      if mjCmp .ge v104 x2 = true then
        some x3
      else
        f248_legAt_h2 n x1 x2 (x3 + 1) Z
    else none
def f248_legAt (p0 : Int32) (p1 : Int32) (Z : mjZt) : Option Int32 :=
  f248_legAt_h2 mjF p0 p1 0 Z
def f249_placeOf (p0 : Int32) (p1 : Int32) (Z : mjZt) : Option Int32 :=
  if mjIn p0 6 = true then
  if mjCmp .eq (Z.1 231 (mjIx p0)) 0 = true then
    some 0
  else
    if mjCmp .gt p1 0 = true then
      mjBp (f248_legAt p0 p1 Z) fun v105 =>
      mjBp (f245_endTenth p0 (v105 - 1) Z) fun v108 =>
      mjBp (f244_endPlace p0 (v105 - 1) Z) fun v111 =>
      mjBp (f244_endPlace p0 v105 Z) fun v114 =>
      mjBp (f242_tenthsOf p0 v105 Z) fun v117 =>
      if mjCmp .lt (p1 - v108) v117 = true then
        if ¬ v117 = 0 then
        some (v111 + (((p1 - v108) * (v114 - v111)) / v117))
        else none
      else
        some v114
    else
      some 0
  else none
def f250_boxesOf (p0 : Int32) (Z : mjZt) : Option Int32 :=
  if mjIn p0 6 = true then
  if mjCmp .ge (Z.1 231 (mjIx p0)) (Z.1 229 0) = true then
    some ((Z.1 229 0) - 1)
  else
    some (Z.1 231 (mjIx p0))
  else none
def f251_allActs_h7 : Nat → Int32 → Int32 → mjZt → Option Int32
  | 0, _, _, _ => none
  | n + 1, x1, x2, Z =>
    if mjCmp .ge x2 (Z.1 211 39) = true then
      some x1
    else
      mjBp (f250_boxesOf x2 Z) fun v103 =>
      f251_allActs_h7 n (x1 + v103) (x2 + 1) Z
def f251_allActs  (Z : mjZt) : Option Int32 :=
  f251_allActs_h7 mjF (Z.1 211 40) 0 Z
def f252_about (p0 : Int32) (Z : mjZt) : Option Int32 :=
  mjBp (f195_isIn (Int32.toInt64 p0) 0 4 Z) fun v102 =>
  if mjCmp .eq v102 0 = true then
    if (p0).toInt < 5 ∨ 12 < (p0).toInt then
      some ((-1))
    else if ((p0).toInt - 5).toNat = 0 then
      some (Z.1 211 39)
    else if ((p0).toInt - 5).toNat = 1 then
      mjBp (f251_allActs  Z) fun v109 =>
      some v109
    else if ((p0).toInt - 5).toNat = 2 then
      some (Z.1 211 40)
    else if ((p0).toInt - 5).toNat = 3 then
      some (Z.1 211 41)
    else if ((p0).toInt - 5).toNat = 4 then
      some (Z.1 211 42)
    else if ((p0).toInt - 5).toNat = 5 then
      some (Z.1 211 43)
    else if ((p0).toInt - 5).toNat = 6 then
      some (Z.1 211 56)
    else if ((p0).toInt - 5).toNat = 7 then
      some (Z.1 211 1)
    else none
  else
    if mjIn p0 5 = true then
    some (Z.1 229 (mjIx p0))
    else none
def f253_name_j96 (x3 : Int32) (x5 : Int64) (x7 : Int32) (Z : mjZt) : Option Int32 :=
  if mjCmp .ge x3 x7 = true then
    some 0
  else
    some (((Int64.toInt32 ((x5 >>> (Int32.toInt64 (8 * ((x7 - 1) - x3)) &&& 63)) &&& 255)) - 97) + 1)
def f253_name_h70 : Nat → Int32 → Int64 → Int32 → mjZt → Option Int32
  | 0, _, _, _, _ => none
  | n + 1, x3, x5, x7, Z =>
    if mjCmp .ge x7 8 = true then
      f253_name_j96 x3 x5 x7 Z
    else
      if mjCmp .eq (lg_cmp (((x5 : Int64).toUInt64 >>> (((8 * x7) : Int32).toInt64.toUInt64 &&& Int64.toUInt64 63)).toInt64) 0) 0 = true then
        f253_name_j96 x3 x5 x7 Z
      else
        f253_name_h70 n x3 x5 (x7 + 1) Z
def f253_name_j65 (x3 : Int32) (s0 : Int64) (Z : mjZt) : Option Int32 :=
  f253_name_h70 mjF x3 s0 0 Z
def f253_name_j24 (x1 : Int32) (x2 : Int32) (x3 : Int32) (s0 : Int32) (Z : mjZt) : Option Int32 :=
  mjBp (f195_isIn (Int32.toInt64 x2) 0 (Int32.toInt64 (s0 - 1)) Z) fun v104 =>
  if mjCmp .eq v104 0 = true then
    some ((-1))
  else
    if mjCmp .ge x3 0 = true then
      if mjCmp .ne x1 0 = true then
        if mjIn x2 8 = true then
        f253_name_j65 x3 (Z.2.1 238 (mjIx x2)) Z
        else none
      else
        if mjIn x2 6 = true then
        f253_name_j65 x3 (Z.2.1 237 (mjIx x2)) Z
        else none
    else
      some ((-1))
def f253_name (p0 : Int32) (p1 : Int32) (p2 : Int32) (Z : mjZt) : Option Int32 :=
  if mjCmp .ne p0 0 = true then
    if mjCmp .ne p0 1 = true then
      f253_name_j24 p0 p1 p2 0 Z
    else
      f253_name_j24 p0 p1 p2 (Z.1 211 41) Z
  else
    f253_name_j24 p0 p1 p2 (Z.1 211 39) Z
def f254_team (p0 : Int32) (p1 : Int32) (Z : mjZt) : Option Int32 :=
  mjBp (f240_isTeam p0 Z) fun v102 =>
  if mjCmp .eq v102 0 = true then
    some ((-1))
  else
    mjBp (f195_isIn (Int32.toInt64 p1) 0 3 Z) fun v106 =>
    if mjCmp .ne v106 0 = true then
      if mjCmp .ne p1 0 = true then
        if mjCmp .ne p1 1 = true then
          if mjCmp .ne p1 2 = true then
            mjBp (f247_isWhole p0 Z) fun v113 =>
            mjBp (f196_truth v113 Z) fun v116 =>
            some v116
          else
            mjBp (f246_timeOf p0 Z) fun v119 =>
            some v119
        else
          if mjIn p0 6 = true then
          some (Z.1 231 (mjIx p0))
          else none
      else
        if mjIn p0 6 = true then
        some (Z.1 230 (mjIx p0))
        else none
    else
      some ((-1))
def f255_lane_h2 : Nat → Int32 → Int32 → mjZt → Option Int32
  | 0, _, _, _ => none
  | n + 1, x1, x2, Z =>
    if mjCmp .ge x2 (Z.1 211 39) = true then
      some ((-1))
    else
      if mjIn x2 6 = true then
      if mjCmp .ne (Z.1 230 (mjIx x2)) x1 = true then
        f255_lane_h2 n x1 (x2 + 1) Z
      else
        some x2
      else none
def f255_lane (p0 : Int32) (Z : mjZt) : Option Int32 :=
  f255_lane_h2 mjF p0 0 Z
def f256_place (p0 : Int32) (p1 : Int32) (Z : mjZt) : Option Int32 :=
  mjBp (f240_isTeam p0 Z) fun v102 =>
  if mjCmp .eq v102 0 = true then
    some ((-1))
  else
    mjBp (f241_isTenth p1 Z) fun v106 =>
    if mjCmp .eq v106 0 = true then
      some ((-1))
    else
      mjBp (f249_placeOf p0 p1 Z) fun v110 =>
      some v110
def f257_comesTo_h2 : Nat → Int32 → Int32 → Int32 → mjZt → Option Int32
  | 0, _, _, _, _ => none
  | n + 1, x1, x2, x3, Z =>
    if mjCmp .gt x3 9999 = true then
      some ((-2))
    else
      mjBp (f249_placeOf x1 x3 Z) fun v103 =>
      if mjCmp .lt v103 x2 = true then
        f257_comesTo_h2 n x1 x2 (x3 + 1) Z
      else
        some x3
def f257_comesTo (p0 : Int32) (p1 : Int32) (Z : mjZt) : Option Int32 :=
  f257_comesTo_h2 mjF p0 p1 0 Z
def f258_comes (p0 : Int32) (p1 : Int32) (Z : mjZt) : Option Int32 :=
  mjBp (f240_isTeam p0 Z) fun v102 =>
  if mjCmp .eq v102 0 = true then
    some ((-1))
  else
    if mjCmp .lt p1 0 = true then
      some ((-1))
    else
      mjBp (f257_comesTo p0 p1 Z) fun v107 =>
      some v107
def f259_keyedAt_h27 (K : Int32 → Int32 → Int32 → mjZt → Option Int32) : Nat → Int32 → Int32 → Int32 → Int32 → mjZt → Option Int32
  | 0, _, _, _, _, _ => none
  | n + 1, x1, x2, x3, x4, Z =>
    if mjCmp .ge x4 (Z.1 211 39) = true then
      K x1 x2 x3 Z
    else
      if mjIn x4 6 = true then
      if mjCmp .eq (Z.1 242 (mjIx x4)) 0 = true then
        mjBp (f196_truth 0 Z) fun v108 =>
        f259_keyedAt_h27 K n x1 x2 (x3 + v108) (x4 + 1) Z
      else
        if mjIn x2 6 = true then
        if mjCmp .lt (Z.1 241 (mjIx x4)) (Z.1 241 (mjIx x2)) = true then
          mjBp (f196_truth 1 Z) fun v113 =>
          f259_keyedAt_h27 K n x1 x2 (x3 + v113) (x4 + 1) Z
        else
          if mjCmp .ne (Z.1 241 (mjIx x4)) (Z.1 241 (mjIx x2)) = true then
            mjBp (f196_truth 0 Z) fun v117 =>
            f259_keyedAt_h27 K n x1 x2 (x3 + v117) (x4 + 1) Z
          else
            if mjCmp .ge (Z.1 230 (mjIx x4)) (Z.1 230 (mjIx x2)) = true then
              mjBp (f196_truth 0 Z) fun v121 =>
              f259_keyedAt_h27 K n x1 x2 (x3 + v121) (x4 + 1) Z
            else
              mjBp (f196_truth 1 Z) fun v124 =>
              f259_keyedAt_h27 K n x1 x2 (x3 + v124) (x4 + 1) Z
        else none
      else none
def f259_keyedAt_h2 : Nat → Int32 → Int32 → mjZt → Option Int32
  | 0, _, _, _ => none
  | n + 1, x1, x2, Z =>
    if mjCmp .ge x2 (Z.1 211 39) = true then
      some ((-1))
    else
      if mjIn x2 6 = true then
      if mjCmp .ne (Z.1 242 (mjIx x2)) 0 = true then
        f259_keyedAt_h27 (fun x1_Z126 x2_Z126 x3_Z126 Z126 =>
          if mjCmp .ne x3_Z126 x1_Z126 = true then
            f259_keyedAt_h2 n x1_Z126 (x2_Z126 + 1) Z126
          else
            some x2_Z126
          ) mjF x1 x2 0 0 Z
      else
        f259_keyedAt_h2 n x1 (x2 + 1) Z
      else none
def f259_keyedAt (p0 : Int32) (Z : mjZt) : Option Int32 :=
  f259_keyedAt_h2 mjF p0 0 Z
def f260_order_h12 : Nat → Int32 → Int32 → Int32 → mjZt → Option (Int32 × mjZt)
  | 0, _, _, _, _ => none
  | n + 1, x1, x2, x3, Z =>
    if mjCmp .ge x3 (Z.1 211 39) = true then
      mjBp (f259_keyedAt x2 Z) fun v107 =>
      some (v107, Z)
    else
      if mjIn x3 6 = true then
      mjLet (zSi Z 242 (mjIx x3) 1) fun Z110 =>
      mjBp (f249_placeOf x3 x1 Z110) fun v112 =>
      mjLet (zSi Z110 241 (mjIx x3) (-v112)) fun Z114 =>
      f260_order_h12 n x1 x2 (x3 + 1) Z114
      else none
def f260_order (p0 : Int32) (p1 : Int32) (Z : mjZt) : Option (Int32 × mjZt) :=
  mjBp (f241_isTenth p0 Z) fun v102 =>
  if mjCmp .ne v102 0 = true then
    f260_order_h12 mjF p0 p1 0 Z
  else
    some ((-1), Z)
def f261_boldest_h42 (K : Int32 → Int32 → Int32 → Int32 → Int32 → mjZt → Option Int32) : Nat → Int32 → Int32 → Int32 → Int32 → Int32 → Int32 → mjZt → Option Int32
  | 0, _, _, _, _, _, _, _ => none
  | n + 1, x1, x2, x3, x4, x5, x6, Z =>
    if mjCmp .ge x6 (Z.1 211 39) = true then
      K x1 x2 x3 x4 x5 Z
    else
      if mjCmp .ne x6 x1 = true then
        mjBp (f249_placeOf x6 x4 Z) fun v110 =>
        if mjCmp .le v110 x5 = true then
          f261_boldest_h42 K n x1 x2 x3 x4 x5 (x6 + 1) Z
        else
          f261_boldest_h42 K n x1 x2 x3 x4 v110 (x6 + 1) Z
      else
        if mjCmp .le 0 x5 = true then
          f261_boldest_h42 K n x1 x2 x3 x4 x5 (x6 + 1) Z
        else
          f261_boldest_h42 K n x1 x2 x3 x4 0 (x6 + 1) Z
def f261_boldest_h28 : Nat → Int32 → Int32 → Int32 → Int32 → mjZt → Option Int32
  | 0, _, _, _, _, _ => none
  | n + 1, x1, x2, x3, x4, Z =>
    if mjCmp .gt x4 9999 = true then
      some x3
    else
      f261_boldest_h42 (fun x1_Z114 x2_Z114 x3_Z114 x4_Z114 x5_Z114 Z114 =>
        mjBp (f249_placeOf x1_Z114 x4_Z114 Z114) fun v116 =>
        if mjCmp .eq x3_Z114 ((-1)) = true then
          f261_boldest_h28 n x1_Z114 (v116 - x5_Z114) x4_Z114 (x4_Z114 + 1) Z114
        else
          if mjCmp .gt (v116 - x5_Z114) x2_Z114 = true then
            f261_boldest_h28 n x1_Z114 (v116 - x5_Z114) x4_Z114 (x4_Z114 + 1) Z114
          else
            f261_boldest_h28 n x1_Z114 x2_Z114 x3_Z114 (x4_Z114 + 1) Z114
        ) mjF x1 x2 x3 x4 0 0 Z
def f261_boldest (p0 : Int32) (Z : mjZt) : Option Int32 :=
  mjBp (f240_isTeam p0 Z) fun v102 =>
  if mjCmp .ne v102 0 = true then
    if mjCmp .ne (Z.1 211 39) 1 = true then
      f261_boldest_h28 mjF p0 0 ((-1)) 0 Z
    else
      some ((-2))
  else
    some ((-1))
def f262_changes_j75 (R : Int32 → Int32 → Int32 → Int32 → Int32 → mjZt → Option Int32) (x1 : Int32) (x2 : Int32) (x3 : Int32) (x4 : Int32) (x5 : Int32) (s0 : Int32) (Z : mjZt) : Option Int32 :=
  if mjCmp .ne s0 0 = true then
    if mjCmp .ne x3 (-s0) = true then
      mjBp (f196_truth 0 Z) fun v122 =>
      R x1 x2 s0 (x4 + v122) (x5 + 1) Z
    else
      mjBp (f196_truth 1 Z) fun v125 =>
      R x1 x2 s0 (x4 + v125) (x5 + 1) Z
  else
    R x1 x2 x3 x4 (x5 + 1) Z
def f262_changes_h31 : Nat → Int32 → Int32 → Int32 → Int32 → Int32 → mjZt → Option Int32
  | 0, _, _, _, _, _, _ => none
  | n + 1, x1, x2, x3, x4, x5, Z =>
    if mjCmp .gt x5 9999 = true then
      some x4
    else
      mjBp (f249_placeOf x1 x5 Z) fun v112 =>
      mjBp (f249_placeOf x2 x5 Z) fun v115 =>
      if mjCmp .le (v112 - v115) 0 = true then
        if mjCmp .ge (v112 - v115) 0 = true then
          f262_changes_j75 (f262_changes_h31 n) x1 x2 x3 x4 x5 0 Z
        else
          f262_changes_j75 (f262_changes_h31 n) x1 x2 x3 x4 x5 ((-1)) Z
      else
        f262_changes_j75 (f262_changes_h31 n) x1 x2 x3 x4 x5 1 Z
def f262_changes (p0 : Int32) (p1 : Int32) (Z : mjZt) : Option Int32 :=
  mjBp (f240_isTeam p0 Z) fun v102 =>
  if mjCmp .eq v102 0 = true then
    some ((-1))
  else
    mjBp (f240_isTeam p1 Z) fun v106 =>
    if mjCmp .eq v106 0 = true then
      some ((-1))
    else
      if mjCmp .ne p0 p1 = true then
        f262_changes_h31 mjF p0 p1 0 0 0 Z
      else
        some ((-1))
def f263_cutIn_j50 (R : Int32 → Int32 → mjZt → Option (Int32 × mjZt)) (x1 : Int32) (x2 : Int32) (s1 : Int32) (s2 : Int32) (Z : mjZt) : Option (Int32 × mjZt) :=
  if mjIn s1 6 = true then
  mjLet (zSi Z 241 (mjIx s1) s2) fun Z110 =>
  if mjIn x2 6 = true then
  if mjCmp .eq (Z110.1 241 (mjIx x2)) ((-2)) = true then
    mjLet (zSi Z110 242 (mjIx x2) 0) fun Z113 =>
    R x1 (x2 + 1) Z113
  else
    mjLet (zSi Z110 242 (mjIx x2) 1) fun Z114 =>
    R x1 (x2 + 1) Z114
  else none
  else none
def f263_cutIn_h2 : Nat → Int32 → Int32 → mjZt → Option (Int32 × mjZt)
  | 0, _, _, _ => none
  | n + 1, x1, x2, Z =>
    if mjCmp .ge x2 (Z.1 211 39) = true then
      mjBp (f259_keyedAt x1 Z) fun v103 =>
      some (v103, Z)
    else
      if mjCmp .ne (Z.1 229 4) 0 = true then
        mjBp (f257_comesTo x2 (10 * ((Z.1 229 1) + (Z.1 229 4))) Z) fun v107 =>
        f263_cutIn_j50 (f263_cutIn_h2 n) x1 x2 x2 v107 Z
      else
        f263_cutIn_j50 (f263_cutIn_h2 n) x1 x2 x2 ((-2)) Z
def f263_cutIn (p0 : Int32) (Z : mjZt) : Option (Int32 × mjZt) :=
  f263_cutIn_h2 mjF p0 0 Z
def f264_behind_h63 : Nat → Int32 → Int32 → Int32 → Int32 → mjZt → Option Int32
  | 0, _, _, _, _, _ => none
  | n + 1, x3, x4, x5, x6, Z =>
    if mjCmp .ge x6 (Z.1 211 39) = true then
      some (x4 - x5)
    else
      mjBp (f257_comesTo x6 x3 Z) fun v115 =>
      if mjCmp .eq v115 ((-2)) = true then
        f264_behind_h63 n x3 x4 x5 (x6 + 1) Z
      else
        if mjCmp .ge v115 x5 = true then
          f264_behind_h63 n x3 x4 x5 (x6 + 1) Z
        else
          f264_behind_h63 n x3 x4 v115 (x6 + 1) Z
def f264_behind (p0 : Int32) (p1 : Int32) (Z : mjZt) : Option Int32 :=
  mjBp (f240_isTeam p0 Z) fun v102 =>
  if mjCmp .eq v102 0 = true then
    some ((-1))
  else
    mjBp (f195_isIn (Int32.toInt64 p1) 1 (Int32.toInt64 (Z.1 229 0)) Z) fun v106 =>
    if mjCmp .ne v106 0 = true then
      mjBp (f257_comesTo p0 ((10 * p1) * (Z.1 229 1)) Z) fun v110 =>
      if mjCmp .ne v110 ((-2)) = true then
        f264_behind_h63 mjF ((10 * p1) * (Z.1 229 1)) v110 v110 0 Z
      else
        some ((-2))
    else
      some ((-1))
def f265_crowd_h43 (K : Int32 → Int32 → Int32 → Int32 → Int32 → mjZt → Option Int32) : Nat → Int32 → Int32 → Int32 → Int32 → Int32 → Int32 → Int32 → mjZt → Option Int32
  | 0, _, _, _, _, _, _, _, _ => none
  | n + 1, x1, x2, x3, x4, x5, x6, x7, Z =>
    if mjCmp .ge x7 (Z.1 211 39) = true then
      K x1 x2 x3 x4 x6 Z
    else
      mjBp (f249_placeOf x7 x1 Z) fun v112 =>
      mjBp (f195_isIn (Int32.toInt64 v112) (Int32.toInt64 x5) ((Int32.toInt64 x5) + (Int32.toInt64 x2)) Z) fun v115 =>
      mjBp (f196_truth v115 Z) fun v118 =>
      f265_crowd_h43 K n x1 x2 x3 x4 x5 (x6 + v118) (x7 + 1) Z
def f265_crowd_h19 : Nat → Int32 → Int32 → Int32 → Int32 → mjZt → Option Int32
  | 0, _, _, _, _, _ => none
  | n + 1, x1, x2, x3, x4, Z =>
    if mjCmp .ge x4 (Z.1 211 39) = true then
      some x3
    else
      mjBp (f249_placeOf x4 x1 Z) fun v108 =>
      f265_crowd_h43 (fun x1_Z120 x2_Z120 x3_Z120 x4_Z120 x6_Z120 Z120 =>
        if mjCmp .le x6_Z120 x3_Z120 = true then
          f265_crowd_h19 n x1_Z120 x2_Z120 x3_Z120 (x4_Z120 + 1) Z120
        else
          f265_crowd_h19 n x1_Z120 x2_Z120 x6_Z120 (x4_Z120 + 1) Z120
        ) mjF x1 x2 x3 x4 v108 0 0 Z
def f265_crowd (p0 : Int32) (p1 : Int32) (Z : mjZt) : Option Int32 :=
  mjBp (f241_isTenth p0 Z) fun v102 =>
  if mjCmp .eq v102 0 = true then
    some ((-1))
  else
    if mjCmp .ge p1 0 = true then
      f265_crowd_h19 mjF p0 p1 0 0 Z
    else
      some ((-1))
def f266_fastest_j99 (R : Int32 → Int32 → Int32 → Int32 → Int32 → mjZt → Option Int32) (x1 : Int32) (x2 : Int32) (x3 : Int32) (x4 : Int32) (x5 : Int32) (s0 : Int32) (Z : mjZt) : Option Int32 :=
  if mjCmp .gt s0 0 = true then
    R x1 x2 x5 x4 (x5 + 1) Z
  else
    if mjCmp .ne s0 0 = true then
      R x1 x2 x3 x4 (x5 + 1) Z
    else
      if mjIn x5 6 = true then
      if mjIn x3 6 = true then
      if mjCmp .ge (Z.1 230 (mjIx x5)) (Z.1 230 (mjIx x3)) = true then
        R x1 x2 x3 x4 (x5 + 1) Z
      else
        R x1 x2 x5 x4 (x5 + 1) Z
      else none
      else none
def f266_fastest_h38 : Nat → Int32 → Int32 → Int32 → Int32 → Int32 → mjZt → Option Int32
  | 0, _, _, _, _, _, _ => none
  | n + 1, x1, x2, x3, x4, x5, Z =>
    if mjCmp .ge x5 (Z.1 211 39) = true then
      if mjCmp .ne x3 ((-1)) = true then
        if mjCmp .ne x2 0 = true then
          if mjCmp .ne x2 1 = true then
            some x4
          else
            mjBp (f242_tenthsOf x3 (x1 - 1) Z) fun v114 =>
            some v114
        else
          some x3
      else
        some ((-1))
    else
      if mjIn x5 6 = true then
      if mjCmp .ge (Z.1 231 (mjIx x5)) x1 = true then
        mjBp (f242_tenthsOf x5 (x1 - 1) Z) fun v119 =>
        if mjCmp .ne x3 ((-1)) = true then
          mjBp (f242_tenthsOf x3 (x1 - 1) Z) fun v123 =>
          f266_fastest_j99 (f266_fastest_h38 n) x1 x2 x3 (x4 + v119) x5 (v123 - v119) Z
        else
          f266_fastest_j99 (f266_fastest_h38 n) x1 x2 x3 (x4 + v119) x5 1 Z
      else
        f266_fastest_h38 n x1 x2 x3 x4 (x5 + 1) Z
      else none
def f266_fastest (p0 : Int32) (p1 : Int32) (Z : mjZt) : Option Int32 :=
  mjBp (f195_isIn (Int32.toInt64 p0) 1 (Int32.toInt64 (Z.1 229 0)) Z) fun v102 =>
  if mjCmp .eq v102 0 = true then
    some ((-1))
  else
    mjBp (f195_isIn (Int32.toInt64 p1) 0 2 Z) fun v106 =>
    if mjCmp .ne v106 0 = true then
      f266_fastest_h38 mjF p0 p1 ((-1)) 0 0 Z
    else
      some ((-1))
def f267_inBoxOf_j92 (x4 : Int32) (s0 : Int32) (Z : mjZt) : Option Int32 :=
  if mjCmp .le s0 x4 = true then
    some 0
  else
    some (s0 - x4)
def f267_inBoxOf_j76 (x5 : Int32) (x7 : Int32) (s0 : Int32) (Z : mjZt) : Option Int32 :=
  if mjCmp .ge x7 x5 = true then
    f267_inBoxOf_j92 s0 x5 Z
  else
    f267_inBoxOf_j92 s0 x7 Z
def f267_inBoxOf (p0 : Int32) (p1 : Int32) (p2 : Int32) (Z : mjZt) : Option Int32 :=
  mjBp (f244_endPlace p0 (p1 - 1) Z) fun v102 =>
  mjBp (f244_endPlace p0 p1 Z) fun v105 =>
  if mjCmp .le v102 (10 * (((p2 + 1) * (Z.1 229 1)) - (Z.1 229 2))) = true then
    f267_inBoxOf_j76 (10 * (((p2 + 1) * (Z.1 229 1)) + (Z.1 229 3))) v105 (10 * (((p2 + 1) * (Z.1 229 1)) - (Z.1 229 2))) Z
  else
    f267_inBoxOf_j76 (10 * (((p2 + 1) * (Z.1 229 1)) + (Z.1 229 3))) v105 v102 Z
def f268_leg (p0 : Int32) (p1 : Int32) (p2 : Int32) (Z : mjZt) : Option Int32 :=
  mjBp (f240_isTeam p0 Z) fun v102 =>
  if mjCmp .eq v102 0 = true then
    some ((-1))
  else
    if mjIn p0 6 = true then
    mjBp (f195_isIn (Int32.toInt64 p1) 1 (Int32.toInt64 (Z.1 231 (mjIx p0))) Z) fun v107 =>
    if mjCmp .ne v107 0 = true then
      if (p2).toInt < 0 ∨ 4 < (p2).toInt then
        some ((-1))
      else if ((p2).toInt - 0).toNat = 0 then
        mjBp (f242_tenthsOf p0 (p1 - 1) Z) fun v113 =>
        some v113
      else if ((p2).toInt - 0).toNat = 1 then
        mjBp (f245_endTenth p0 (p1 - 1) Z) fun v117 =>
        some v117
      else if ((p2).toInt - 0).toNat = 2 then
        mjBp (f243_metresOf p0 (p1 - 1) Z) fun v121 =>
        some v121
      else if ((p2).toInt - 0).toNat = 3 then
        if mjCmp .ne (p1 - 1) 0 = true then
          mjBp (f267_inBoxOf p0 (p1 - 1) ((p1 - 1) - 1) Z) fun v126 =>
          some v126
        else
          some 0
      else if ((p2).toInt - 0).toNat = 4 then
        if mjCmp .ne p1 (Z.1 229 0) = true then
          mjBp (f267_inBoxOf p0 (p1 - 1) (p1 - 1) Z) fun v131 =>
          some v131
        else
          some 0
      else none
    else
      some ((-1))
    else none
def f269_inBox_h31 : Nat → Int32 → Int32 → Int32 → mjZt → Option Int32
  | 0, _, _, _, _ => none
  | n + 1, x3, x4, x5, Z =>
    if mjCmp .ge x5 (Z.1 229 0) = true then
      mjBp (f196_truth x4 Z) fun v114 =>
      some v114
    else
      if mjCmp .ne x4 0 = true then
        f269_inBox_h31 n x3 1 (x5 + 1) Z
      else
        mjBp (f195_isIn (Int32.toInt64 x3) (10 * (Int32.toInt64 ((x5 * (Z.1 229 1)) - (Z.1 229 2)))) (10 * (Int32.toInt64 ((x5 * (Z.1 229 1)) + (Z.1 229 3)))) Z) fun v118 =>
        if mjCmp .eq v118 0 = true then
          f269_inBox_h31 n x3 0 (x5 + 1) Z
        else
          f269_inBox_h31 n x3 1 (x5 + 1) Z
def f269_inBox (p0 : Int32) (p1 : Int32) (Z : mjZt) : Option Int32 :=
  mjBp (f240_isTeam p0 Z) fun v102 =>
  if mjCmp .eq v102 0 = true then
    some ((-1))
  else
    mjBp (f241_isTenth p1 Z) fun v106 =>
    if mjCmp .ne v106 0 = true then
      mjBp (f249_placeOf p0 p1 Z) fun v110 =>
      f269_inBox_h31 mjF v110 0 1 Z
    else
      some ((-1))
def f270_isAct (p0 : Int32) (Z : mjZt) : Option Int32 :=
  mjBp (f251_allActs  Z) fun v102 =>
  mjBp (f195_isIn (Int32.toInt64 p0) 0 (Int32.toInt64 (v102 - 1)) Z) fun v105 =>
  if v105 = 0 ∨ v105 = 1 then
  some v105
  else none
def f271_boxTeam_h9 : Nat → Int32 → Int32 → mjZt → Option Int32
  | 0, _, _, _ => none
  | n + 1, x2, x3, Z =>
    mjBp (f250_boxesOf x3 Z) fun v102 =>
    if mjCmp .lt x2 v102 = true then
      some x3
    else
      f271_boxTeam_h9 n (x2 - v102) (x3 + 1) Z
def f271_boxTeam (p0 : Int32) (Z : mjZt) : Option Int32 :=
  f271_boxTeam_h9 mjF (p0 - (Z.1 211 40)) 0 Z
def f272_boxLeg_h9 : Nat → Int32 → Int32 → Int32 → mjZt → Option Int32
  | 0, _, _, _, _ => none
  | n + 1, x1, x2, x3, Z =>
    mjBp (f271_boxTeam x1 Z) fun v102 =>
    if mjCmp .ge x3 v102 = true then
      some x2
    else
      mjBp (f250_boxesOf x3 Z) fun v106 =>
      f272_boxLeg_h9 n x1 (x2 - v106) (x3 + 1) Z
def f272_boxLeg (p0 : Int32) (Z : mjZt) : Option Int32 :=
  f272_boxLeg_h9 mjF p0 (p0 - (Z.1 211 40)) 0 Z
def f273_kindOf (p0 : Int32) (Z : mjZt) : Option Int32 :=
  if mjCmp .ge p0 (Z.1 211 40) = true then
    some 4
  else
    if mjIn p0 12 = true then
    some (Z.1 232 (mjIx p0))
    else none
def f274_teamOf (p0 : Int32) (Z : mjZt) : Option Int32 :=
  if mjCmp .ge p0 (Z.1 211 40) = true then
    mjBp (f271_boxTeam p0 Z) fun v103 =>
    some v103
  else
    if mjIn p0 12 = true then
    some (Z.1 233 (mjIx p0))
    else none
def f275_otherOf (p0 : Int32) (Z : mjZt) : Option Int32 :=
  if mjCmp .ge p0 (Z.1 211 40) = true then
    some ((-1))
  else
    if mjIn p0 12 = true then
    some (Z.1 234 (mjIx p0))
    else none
def f276_tenthOf (p0 : Int32) (Z : mjZt) : Option Int32 :=
  if mjCmp .ge p0 (Z.1 211 40) = true then
    mjBp (f271_boxTeam p0 Z) fun v103 =>
    mjBp (f272_boxLeg p0 Z) fun v106 =>
    mjBp (f245_endTenth v103 v106 Z) fun v109 =>
    some v109
  else
    if mjIn (72 + (3 * p0)) 108 = true then
    some (Z.1 239 (mjIx (72 + (3 * p0))))
    else none
def f277_sizeOf (p0 : Int32) (Z : mjZt) : Option Int32 :=
  if mjCmp .ge p0 (Z.1 211 40) = true then
    mjBp (f271_boxTeam p0 Z) fun v103 =>
    mjBp (f272_boxLeg p0 Z) fun v106 =>
    mjBp (f243_metresOf v103 v106 Z) fun v109 =>
    if mjCmp .ge v109 (-(Z.1 229 2)) = true then
      if mjCmp .le v109 (Z.1 229 3) = true then
        some 0
      else
        some (v109 - (Z.1 229 3))
    else
      some ((-(Z.1 229 2)) - v109)
  else
    if mjIn ((72 + (3 * p0)) + 1) 108 = true then
    some (Z.1 239 (mjIx ((72 + (3 * p0)) + 1)))
    else none
def f278_isWaived_j41 (x1 : Int32) (s0 : Int32) (Z : mjZt) : Option Int32 :=
  if mjCmp .ne x1 (Z.1 211 59) = true then
    if mjCmp .eq s0 0 = true then
      some 0
    else
      some 1
  else
    if mjCmp .eq s0 1 = true then
      some 0
    else
      some 1
def f278_isWaived_j40 (x1 : Int32) (Z : mjZt) : Option Int32 :=
  f278_isWaived_j41 x1 0 Z
def f278_isWaived_j36 (x1 : Int32) (Z : mjZt) : Option Int32 :=
  f278_isWaived_j41 x1 1 Z
def f278_isWaived (p0 : Int32) (Z : mjZt) : Option Int32 :=
  if mjCmp .ge p0 (Z.1 211 40) = true then
    f278_isWaived_j40 p0 Z
  else
    if mjIn ((72 + (3 * p0)) + 2) 108 = true then
    if mjCmp .eq (Z.1 239 (mjIx ((72 + (3 * p0)) + 2))) 1 = true then
      f278_isWaived_j36 p0 Z
    else
      mjBp (f197_holds1 (Z.1 211 60) p0 Z) fun v108 =>
      if mjCmp .eq v108 0 = true then
        f278_isWaived_j40 p0 Z
      else
        f278_isWaived_j36 p0 Z
    else none
def f279_isAhead (p0 : Int32) (p1 : Int32) (Z : mjZt) : Option Int32 :=
  mjBp (f276_tenthOf p0 Z) fun v102 =>
  mjBp (f276_tenthOf p1 Z) fun v105 =>
  if mjCmp .lt v102 v105 = true then
    some 1
  else
    if mjCmp .ne v102 v105 = true then
      some 0
    else
      if mjCmp .ge p0 p1 = true then
        some 0
      else
        some 1
def f280_factOf_h358 : Nat → Int32 → Int32 → Int32 → Int32 → mjZt → Option Int32
  | 0, _, _, _, _, _ => none
  | n + 1, x4, x6, x7, x8, Z =>
    if mjCmp .ge x8 (Z.1 211 39) = true then
      some (x7 + 1)
    else
      mjBp (f249_placeOf x8 x4 Z) fun v116 =>
      if mjCmp .le v116 x6 = true then
        mjBp (f196_truth 0 Z) fun v120 =>
        f280_factOf_h358 n x4 x6 (x7 + v120) (x8 + 1) Z
      else
        mjBp (f196_truth 1 Z) fun v123 =>
        f280_factOf_h358 n x4 x6 (x7 + v123) (x8 + 1) Z
def f280_factOf_h196 : Nat → Int32 → Int32 → Int32 → Int32 → mjZt → Option Int32
  | 0, _, _, _, _, _ => none
  | n + 1, x1, x3, x7, x8, Z =>
    mjBp (f251_allActs  Z) fun v149 =>
    if mjCmp .ge x8 v149 = true then
      some x7
    else
      mjBp (f278_isWaived x8 Z) fun v153 =>
      if mjCmp .ne v153 0 = true then
        mjBp (f196_truth 0 Z) fun v157 =>
        f280_factOf_h196 n x1 x3 (x7 + v157) (x8 + 1) Z
      else
        mjBp (f273_kindOf x8 Z) fun v160 =>
        mjBp (f273_kindOf x1 Z) fun v163 =>
        if mjCmp .ne v160 v163 = true then
          mjBp (f196_truth 0 Z) fun v167 =>
          f280_factOf_h196 n x1 x3 (x7 + v167) (x8 + 1) Z
        else
          mjBp (f274_teamOf x8 Z) fun v170 =>
          if mjCmp .ne v170 x3 = true then
            mjBp (f196_truth 0 Z) fun v174 =>
            f280_factOf_h196 n x1 x3 (x7 + v174) (x8 + 1) Z
          else
            mjBp (f279_isAhead x8 x1 Z) fun v177 =>
            if mjCmp .eq v177 0 = true then
              mjBp (f196_truth 0 Z) fun v181 =>
              f280_factOf_h196 n x1 x3 (x7 + v181) (x8 + 1) Z
            else
              mjBp (f196_truth 1 Z) fun v184 =>
              f280_factOf_h196 n x1 x3 (x7 + v184) (x8 + 1) Z
def f280_factOf_h273 : Nat → Int32 → Int32 → Int32 → Int32 → mjZt → Option Int32
  | 0, _, _, _, _, _ => none
  | n + 1, x3, x4, x7, x8, Z =>
    if mjCmp .ge x8 (Z.1 211 40) = true then
      some x7
    else
      mjBp (f278_isWaived x8 Z) fun v189 =>
      if mjCmp .ne v189 0 = true then
        mjBp (f196_truth 0 Z) fun v193 =>
        f280_factOf_h273 n x3 x4 (x7 + v193) (x8 + 1) Z
      else
        mjBp (f273_kindOf x8 Z) fun v196 =>
        if mjCmp .ne v196 3 = true then
          mjBp (f196_truth 0 Z) fun v200 =>
          f280_factOf_h273 n x3 x4 (x7 + v200) (x8 + 1) Z
        else
          mjBp (f275_otherOf x8 Z) fun v203 =>
          if mjCmp .ne v203 x3 = true then
            mjBp (f196_truth 0 Z) fun v207 =>
            f280_factOf_h273 n x3 x4 (x7 + v207) (x8 + 1) Z
          else
            mjBp (f276_tenthOf x8 Z) fun v210 =>
            mjBp (f195_isIn (Int32.toInt64 v210) (Int32.toInt64 (x4 - 20)) (Int32.toInt64 x4) Z) fun v213 =>
            if mjCmp .eq v213 0 = true then
              mjBp (f196_truth 0 Z) fun v217 =>
              f280_factOf_h273 n x3 x4 (x7 + v217) (x8 + 1) Z
            else
              mjBp (f196_truth 1 Z) fun v220 =>
              f280_factOf_h273 n x3 x4 (x7 + v220) (x8 + 1) Z
def f280_factOf (p0 : Int32) (p1 : Int32) (Z : mjZt) : Option Int32 :=
  mjBp (f274_teamOf p0 Z) fun v102 =>
  mjBp (f276_tenthOf p0 Z) fun v105 =>
  mjBp (f275_otherOf p0 Z) fun v108 =>
  mjBp (f249_placeOf v102 v105 Z) fun v111 =>
  if (p1).toInt < 0 ∨ 9 < (p1).toInt then
    f280_factOf_h358 mjF v105 v111 0 0 Z
  else if ((p1).toInt - 0).toNat = 0 then
    some v105
  else if ((p1).toInt - 0).toNat = 1 then
    mjBp (f277_sizeOf p0 Z) fun v128 =>
    some v128
  else if ((p1).toInt - 0).toNat = 2 then
    mjBp (f248_legAt v102 v105 Z) fun v132 =>
    some (v132 + 1)
  else if ((p1).toInt - 0).toNat = 3 then
    some (v111 / 10)
  else if ((p1).toInt - 0).toNat = 4 then
    if mjIn v102 6 = true then
    some (Z.1 230 (mjIx v102))
    else none
  else if ((p1).toInt - 0).toNat = 5 then
    if mjCmp .ne v108 ((-1)) = true then
      if mjIn v108 6 = true then
      some (Z.1 230 (mjIx v108))
      else none
    else
      some 0
  else if ((p1).toInt - 0).toNat = 6 then
    if mjCmp .ne v108 ((-1)) = true then
      mjBp (f249_placeOf v108 v105 Z) fun v143 =>
      some (v111 - v143)
    else
      some 0
  else if ((p1).toInt - 0).toNat = 7 then
    if mjCmp .ne (Z.1 229 4) 0 = true then
      some (((Z.1 229 1) + (Z.1 229 4)) - (v111 / 10))
    else
      some 0
  else if ((p1).toInt - 0).toNat = 8 then
    f280_factOf_h196 mjF p0 v102 0 0 Z
  else if ((p1).toInt - 0).toNat = 9 then
    f280_factOf_h273 mjF v102 v105 0 0 Z
  else none
def f281_act (p0 : Int32) (p1 : Int32) (Z : mjZt) : Option Int32 :=
  mjBp (f270_isAct p0 Z) fun v102 =>
  if mjCmp .eq v102 0 = true then
    some ((-2000000))
  else
    mjBp (f195_isIn (Int32.toInt64 p1) 0 5 Z) fun v106 =>
    if mjCmp .ne v106 0 = true then
      if (p1).toInt < 0 ∨ 4 < (p1).toInt then
        mjBp (f278_isWaived p0 Z) fun v111 =>
        mjBp (f196_truth v111 Z) fun v114 =>
        some v114
      else if ((p1).toInt - 0).toNat = 0 then
        mjBp (f273_kindOf p0 Z) fun v118 =>
        some v118
      else if ((p1).toInt - 0).toNat = 1 then
        mjBp (f274_teamOf p0 Z) fun v122 =>
        some v122
      else if ((p1).toInt - 0).toNat = 2 then
        mjBp (f275_otherOf p0 Z) fun v126 =>
        some v126
      else if ((p1).toInt - 0).toNat = 3 then
        mjBp (f276_tenthOf p0 Z) fun v130 =>
        some v130
      else if ((p1).toInt - 0).toNat = 4 then
        mjBp (f277_sizeOf p0 Z) fun v134 =>
        some v134
      else none
    else
      some ((-2000000))
def f282_fact (p0 : Int32) (p1 : Int32) (Z : mjZt) : Option Int32 :=
  mjBp (f270_isAct p0 Z) fun v102 =>
  if mjCmp .eq v102 0 = true then
    some ((-2000000))
  else
    mjBp (f195_isIn (Int32.toInt64 p1) 0 10 Z) fun v106 =>
    if mjCmp .eq v106 0 = true then
      some ((-2000000))
    else
      mjBp (f280_factOf p0 p1 Z) fun v110 =>
      some v110
def f283_ones_h4 : Nat → Int32 → Int64 → mjZt → Option Int32
  | 0, _, _, _ => none
  | n + 1, x2, x3, Z =>
    if mjCmp .eq (lg_cmp x3 0) 0 = true then
      some x2
    else
      f283_ones_h4 n (x2 + 1) (x3 &&& (x3 - 1)) Z
def f283_ones (p0 : Int64) (Z : mjZt) : Option Int32 :=
  f283_ones_h4 mjF 0 p0 Z
def f284_size (p0 : Int32) (Z : mjZt) : Option Int32 :=
  if mjIn p0 800 = true then
  mjBp (f283_ones (Z.2.1 244 (mjIx p0)) Z) fun v103 =>
  mjBp (f283_ones (Z.2.1 245 (mjIx p0)) Z) fun v106 =>
  mjBp (f283_ones (Z.2.1 246 (mjIx p0)) Z) fun v109 =>
  some ((v103 + v106) + v109)
  else none
def f285_kept (p0 : Int64) (Z : mjZt) : Option (Int64 × mjZt) :=
  if mjCmp .lt (lg_cmp p0 ((-2147483648))) 0 = true then
    mjLet (zSi Z 211 67 1) fun Z102 =>
    some (0, Z102)
  else
    if mjCmp .gt (lg_cmp p0 2147483647) 0 = true then
      mjLet (zSi Z 211 67 1) fun Z104 =>
      some (0, Z104)
    else
      some (p0, Z)
def f286_compares_j179 (s1 : Int32) (s2 : Int64) (Z : mjZt) : Option (Unit × mjZt) :=
  if mjIn s1 800 = true then
  mjLet (zSl Z 245 (mjIx s1) s2) fun Z116 =>
  if mjCmp .lt (Z116.1 211 66) 120 = true then
    if mjIn ((Z116.1 211 65) - 1) 800 = true then
    mjLet (zSl Z116 246 (mjIx ((Z116.1 211 65) - 1)) 0) fun Z119 =>
    mjLet (zSi Z119 211 66 ((Z119.1 211 66) + 1)) fun Z120 =>
    some ((), Z120)
    else none
  else
    if mjIn ((Z116.1 211 65) - 1) 800 = true then
    mjLet (zSl Z116 246 (mjIx ((Z116.1 211 65) - 1)) (1 <<< (Int32.toInt64 ((Z116.1 211 66) - 120) &&& 63))) fun Z122 =>
    mjLet (zSi Z122 211 66 ((Z122.1 211 66) + 1)) fun Z123 =>
    some ((), Z123)
    else none
  else none
def f286_compares_j178 (s1 : Int32) (Z : mjZt) : Option (Unit × mjZt) :=
  f286_compares_j179 s1 0 Z
def f286_compares_j137 (s1 : Int32) (s2 : Int64) (Z : mjZt) : Option (Unit × mjZt) :=
  if mjIn s1 800 = true then
  mjLet (zSl Z 244 (mjIx s1) s2) fun Z113 =>
  if mjCmp .lt (Z113.1 211 66) 60 = true then
    f286_compares_j178 ((Z113.1 211 65) - 1) Z113
  else
    if mjCmp .ge (Z113.1 211 66) 120 = true then
      f286_compares_j178 ((Z113.1 211 65) - 1) Z113
    else
      f286_compares_j179 ((Z113.1 211 65) - 1) (1 <<< (Int32.toInt64 ((Z113.1 211 66) - 60) &&& 63)) Z113
  else none
def f286_compares_j84 (s0 : Int32) (Z : mjZt) : Option (Unit × mjZt) :=
  mjLet (zSi Z 211 67 0) fun Z105 =>
  mjBp (f196_truth s0 Z105) fun v107 =>
  if mjIn ((Z105.1 211 65) - 1) 800 = true then
  mjLet (zSl Z105 243 (mjIx ((Z105.1 211 65) - 1)) (Int32.toInt64 v107)) fun Z110 =>
  if mjCmp .ge (Z110.1 211 66) 60 = true then
    f286_compares_j137 ((Z110.1 211 65) - 1) 0 Z110
  else
    f286_compares_j137 ((Z110.1 211 65) - 1) (1 <<< (Int32.toInt64 (Z110.1 211 66) &&& 63)) Z110
  else none
def f286_compares_j83  (Z : mjZt) : Option (Unit × mjZt) :=
  f286_compares_j84 0 Z
def f286_compares_j79  (Z : mjZt) : Option (Unit × mjZt) :=
  f286_compares_j84 1 Z
def f286_compares (p0 : Int32) (Z : mjZt) : Option (Unit × mjZt) :=
  mjLet (zSi Z 211 65 ((Z.1 211 65) - 1)) fun Z101 =>
  if mjIn ((Z101.1 211 65) - 1) 800 = true then
  if mjIn (Z101.1 211 65) 800 = true then
  if mjCmp .ne (Z101.1 211 67) 0 = true then
    f286_compares_j83  Z101
  else
    if mjCmp .ne p0 30 = true then
      if mjCmp .ne p0 31 = true then
        if mjCmp .ne (lg_cmp (Z101.2.1 243 (mjIx ((Z101.1 211 65) - 1))) (Z101.2.1 243 (mjIx (Z101.1 211 65)))) 0 = true then
          f286_compares_j83  Z101
        else
          f286_compares_j79  Z101
      else
        if mjCmp .le (lg_cmp (Z101.2.1 243 (mjIx ((Z101.1 211 65) - 1))) (Z101.2.1 243 (mjIx (Z101.1 211 65)))) 0 = true then
          f286_compares_j83  Z101
        else
          f286_compares_j79  Z101
    else
      if mjCmp .ge (lg_cmp (Z101.2.1 243 (mjIx ((Z101.1 211 65) - 1))) (Z101.2.1 243 (mjIx (Z101.1 211 65)))) 0 = true then
        f286_compares_j83  Z101
      else
        f286_compares_j79  Z101
  else none
  else none
def f287_joins_j104 (x2 : Int32) (x3 : Int32) (x4 : Int64) (Z : mjZt) : Option (Unit × mjZt) :=
  if mjIn x3 800 = true then
  if mjIn x2 800 = true then
  mjLet (zSl Z 244 (mjIx x2) (Z.2.1 244 (mjIx x3))) fun Z111 =>
  mjLet (zSl Z111 245 (mjIx x2) (Z111.2.1 245 (mjIx x3))) fun Z112 =>
  mjLet (zSl Z112 246 (mjIx x2) (Z112.2.1 246 (mjIx x3))) fun Z113 =>
  mjLet (zSl Z113 243 (mjIx x2) x4) fun Z114 =>
  some ((), Z114)
  else none
  else none
def f287_joins_j81 (x2 : Int32) (x3 : Int32) (x4 : Int64) (x6 : Int32) (x7 : Int32) (Z : mjZt) : Option (Unit × mjZt) :=
  if mjCmp .eq x6 0 = true then
    f287_joins_j104 x2 x3 x4 Z
  else
    if mjCmp .eq x7 0 = true then
      if mjIn x2 800 = true then
      mjLet (zSl Z 243 (mjIx x2) x4) fun Z117 =>
      some ((), Z117)
      else none
    else
      mjBp (f284_size x3 Z) fun v119 =>
      mjBp (f284_size x2 Z) fun v122 =>
      if mjCmp .ge v119 v122 = true then
        if mjIn x2 800 = true then
        mjLet (zSl Z 243 (mjIx x2) x4) fun Z126 =>
        some ((), Z126)
        else none
      else
        f287_joins_j104 x2 x3 x4 Z
def f287_joins_j69 (x2 : Int32) (x3 : Int32) (x4 : Int64) (x6 : Int32) (s0 : Int32) (Z : mjZt) : Option (Unit × mjZt) :=
  if mjCmp .ne x6 0 = true then
    f287_joins_j81 x2 x3 x4 x6 s0 Z
  else
    if mjCmp .eq s0 0 = true then
      if mjIn x2 800 = true then
      if mjIn x3 800 = true then
      mjLet (zSl Z 244 (mjIx x2) ((Z.2.1 244 (mjIx x2)) ||| (Z.2.1 244 (mjIx x3)))) fun Z130 =>
      mjLet (zSl Z130 245 (mjIx x2) ((Z130.2.1 245 (mjIx x2)) ||| (Z130.2.1 245 (mjIx x3)))) fun Z131 =>
      mjLet (zSl Z131 246 (mjIx x2) ((Z131.2.1 246 (mjIx x2)) ||| (Z131.2.1 246 (mjIx x3)))) fun Z132 =>
      some ((), Z132)
      else none
      else none
    else
      f287_joins_j81 x2 x3 x4 x6 s0 Z
def f287_joins_j50 (x2 : Int32) (x3 : Int32) (x4 : Int64) (s0 : Int32) (Z : mjZt) : Option (Unit × mjZt) :=
  if mjIn x3 800 = true then
  if mjCmp .ne (lg_cmp (Z.2.1 243 (mjIx x3)) x4) 0 = true then
    f287_joins_j69 x2 x3 x4 s0 0 Z
  else
    f287_joins_j69 x2 x3 x4 s0 1 Z
  else none
def f287_joins_j31 (x2 : Int32) (x3 : Int32) (s0 : Int64) (Z : mjZt) : Option (Unit × mjZt) :=
  if mjIn x2 800 = true then
  if mjCmp .ne (lg_cmp (Z.2.1 243 (mjIx x2)) s0) 0 = true then
    f287_joins_j50 x2 x3 s0 0 Z
  else
    f287_joins_j50 x2 x3 s0 1 Z
  else none
def f287_joins (p0 : Int32) (Z : mjZt) : Option (Unit × mjZt) :=
  mjLet (zSi Z 211 65 ((Z.1 211 65) - 1)) fun Z101 =>
  if mjCmp .eq p0 0 = true then
    f287_joins_j31 ((Z101.1 211 65) - 1) (Z101.1 211 65) 0 Z101
  else
    f287_joins_j31 ((Z101.1 211 65) - 1) (Z101.1 211 65) 1 Z101
def f288_worked_j128 (R : Int32 → Int32 → Int32 → mjZt → Option (Int32 × mjZt)) (x1 : Int32) (x3 : Int32) (x4 : Int32) (x5 : Int32) (Z : mjZt) : Option (Int32 × mjZt) :=
  mjLet (zSi Z 211 65 ((Z.1 211 65) - 1)) fun Z110 =>
  if mjIn ((Z110.1 211 65) - 1) 800 = true then
  if mjIn (Z110.1 211 65) 800 = true then
  if mjCmp .ne x5 21 = true then
    if mjCmp .ne x5 22 = true then
      mjBd (f285_kept ((Z110.2.1 243 (mjIx ((Z110.1 211 65) - 1))) * (Z110.2.1 243 (mjIx (Z110.1 211 65)))) Z110) fun v116 Z117 =>
      mjLet (zSl Z117 243 (mjIx ((Z110.1 211 65) - 1)) v116) fun Z118 =>
      R x1 x3 (x4 + 1) Z118
    else
      mjBd (f285_kept ((Z110.2.1 243 (mjIx ((Z110.1 211 65) - 1))) - (Z110.2.1 243 (mjIx (Z110.1 211 65)))) Z110) fun v120 Z121 =>
      mjLet (zSl Z121 243 (mjIx ((Z110.1 211 65) - 1)) v120) fun Z122 =>
      R x1 x3 (x4 + 1) Z122
  else
    mjBd (f285_kept ((Z110.2.1 243 (mjIx ((Z110.1 211 65) - 1))) + (Z110.2.1 243 (mjIx (Z110.1 211 65)))) Z110) fun v124 Z125 =>
    mjLet (zSl Z125 243 (mjIx ((Z110.1 211 65) - 1)) v124) fun Z126 =>
    R x1 x3 (x4 + 1) Z126
  else none
  else none
def f288_worked_j263 (R : Int32 → Int32 → Int32 → mjZt → Option (Int32 × mjZt)) (x1 : Int32) (x3 : Int32) (x4 : Int32) (x5 : Int32) (Z : mjZt) : Option (Int32 × mjZt) :=
  if mjCmp .ne x5 42 = true then
    mjBd (f287_joins 0 Z) fun _ Z134 =>
    R x1 x3 (x4 + 1) Z134
  else
    mjBd (f287_joins 1 Z) fun _ Z137 =>
    R x1 x3 (x4 + 1) Z137
def f288_worked_h18 : Nat → Int32 → Int32 → Int32 → mjZt → Option (Int32 × mjZt)
  | 0, _, _, _, _ => none
  | n + 1, x1, x3, x4, Z =>
    if mjCmp .ge x4 x3 = true then
      if mjCmp .ne (lg_cmp (Z.2.1 243 0) 1) 0 = true then
        some (0, Z)
      else
        some (1, Z)
    else
      if mjIn x4 1500 = true then
      if mjCmp .lt (Z.1 216 (mjIx x4)) 100 = true then
        if mjCmp .gt (Z.1 216 (mjIx x4)) 11 = true then
          if mjCmp .eq (Z.1 216 (mjIx x4)) 21 = true then
            f288_worked_j128 (f288_worked_h18 n) x1 x3 x4 (Z.1 216 (mjIx x4)) Z
          else
            if mjCmp .eq (Z.1 216 (mjIx x4)) 22 = true then
              f288_worked_j128 (f288_worked_h18 n) x1 x3 x4 (Z.1 216 (mjIx x4)) Z
            else
              if mjCmp .ne (Z.1 216 (mjIx x4)) 23 = true then
                if mjCmp .ne (Z.1 216 (mjIx x4)) 40 = true then
                  if mjCmp .eq (Z.1 216 (mjIx x4)) 41 = true then
                    f288_worked_j263 (f288_worked_h18 n) x1 x3 x4 (Z.1 216 (mjIx x4)) Z
                  else
                    if mjCmp .ne (Z.1 216 (mjIx x4)) 42 = true then
                      mjBd (f286_compares (Z.1 216 (mjIx x4)) Z) fun _ Z141 =>
                      f288_worked_h18 n x1 x3 (x4 + 1) Z141
                    else
                      f288_worked_j263 (f288_worked_h18 n) x1 x3 x4 (Z.1 216 (mjIx x4)) Z
                else
                  if mjIn ((Z.1 211 65) - 1) 800 = true then
                  mjLet (zSl Z 243 (mjIx ((Z.1 211 65) - 1)) (1 - (Z.2.1 243 (mjIx ((Z.1 211 65) - 1))))) fun Z143 =>
                  f288_worked_h18 n x1 x3 (x4 + 1) Z143
                  else none
              else
                f288_worked_j128 (f288_worked_h18 n) x1 x3 x4 (Z.1 216 (mjIx x4)) Z
        else
          mjBp (f280_factOf x1 ((Z.1 216 (mjIx x4)) - 1) Z) fun v145 =>
          if mjIn (Z.1 211 65) 800 = true then
          mjLet (zSl Z 243 (mjIx (Z.1 211 65)) (Int32.toInt64 v145)) fun Z148 =>
          mjLet (zSi Z148 211 65 ((Z148.1 211 65) + 1)) fun Z149 =>
          f288_worked_h18 n x1 x3 (x4 + 1) Z149
          else none
      else
        if mjIn (Z.1 211 65) 800 = true then
        mjLet (zSl Z 243 (mjIx (Z.1 211 65)) (Int32.toInt64 ((Z.1 216 (mjIx x4)) - 100))) fun Z151 =>
        mjLet (zSi Z151 211 65 ((Z151.1 211 65) + 1)) fun Z152 =>
        f288_worked_h18 n x1 x3 (x4 + 1) Z152
        else none
      else none
def f288_worked (p0 : Int32) (p1 : Int32) (p2 : Int32) (Z : mjZt) : Option (Int32 × mjZt) :=
  mjLet (zSi Z 211 65 0) fun Z101 =>
  mjLet (zSi Z101 211 66 0) fun Z102 =>
  mjLet (zSi Z102 211 67 0) fun Z103 =>
  f288_worked_h18 mjF p0 p2 p1 Z103
def f289_hasExcuse (p0 : Int32) (Z : mjZt) : Option Int32 :=
  if mjIn ((4 * p0) + 3) 32 = true then
  if mjIn ((4 * p0) + 2) 32 = true then
  if mjCmp .le (Z.1 236 (mjIx ((4 * p0) + 3))) (Z.1 236 (mjIx ((4 * p0) + 2))) = true then
    some 0
  else
    some 1
  else none
  else none
def f290_holdsPart (p0 : Int32) (p1 : Int32) (p2 : Int32) (Z : mjZt) : Option (Int32 × mjZt) :=
  if mjIn ((4 * p0) + (2 * p1)) 32 = true then
  if mjIn (((4 * p0) + (2 * p1)) + 1) 32 = true then
  mjBd (f288_worked p2 (Z.1 236 (mjIx ((4 * p0) + (2 * p1)))) (Z.1 236 (mjIx (((4 * p0) + (2 * p1)) + 1))) Z) fun v104 Z105 =>
  if v104 = 0 ∨ v104 = 1 then
  some (v104, Z105)
  else none
  else none
  else none
def f291_isRule (p0 : Int32) (Z : mjZt) : Option Int32 :=
  mjBp (f195_isIn (Int32.toInt64 p0) 0 (Int32.toInt64 ((Z.1 211 41) - 1)) Z) fun v102 =>
  if v102 = 0 ∨ v102 = 1 then
  some v102
  else none
def f292_isAsked (p0 : Int32) (p1 : Int32) (p2 : Int32) (Z : mjZt) : Option Int32 :=
  mjBp (f291_isRule p0 Z) fun v102 =>
  if mjCmp .eq v102 0 = true then
    some 0
  else
    mjBp (f270_isAct p2 Z) fun v106 =>
    if mjCmp .eq v106 0 = true then
      some 0
    else
      if mjCmp .eq p1 0 = true then
        some 1
      else
        if mjCmp .ne p1 1 = true then
          some 0
        else
          mjBp (f289_hasExcuse p0 Z) fun v112 =>
          if mjCmp .eq v112 0 = true then
            some 0
          else
            some 1
def f293_rule_h68 : Nat → Int32 → Int32 → Int32 → Int32 → mjZt → Option Int32
  | 0, _, _, _, _, _ => none
  | n + 1, x1, x2, x3, x4, Z =>
    if mjIn (((4 * x1) + (2 * x2)) - 1) 32 = true then
    if mjCmp .ge x4 (Z.1 236 (mjIx (((4 * x1) + (2 * x2)) - 1))) = true then
      some x3
    else
      if mjIn x4 1500 = true then
      mjBp (f195_isIn (Int32.toInt64 (Z.1 216 (mjIx x4))) 30 32 Z) fun v116 =>
      mjBp (f196_truth v116 Z) fun v119 =>
      f293_rule_h68 n x1 x2 (x3 + v119) (x4 + 1) Z
      else none
    else none
def f293_rule_j50 (x1 : Int32) (x2 : Int32) (Z : mjZt) : Option Int32 :=
  if mjIn (((4 * x1) + (2 * x2)) - 2) 32 = true then
  f293_rule_h68 mjF x1 x2 0 (Z.1 236 (mjIx (((4 * x1) + (2 * x2)) - 2))) Z
  else none
def f293_rule (p0 : Int32) (p1 : Int32) (Z : mjZt) : Option Int32 :=
  mjBp (f291_isRule p0 Z) fun v102 =>
  if mjCmp .eq v102 0 = true then
    some ((-2000000))
  else
    mjBp (f195_isIn (Int32.toInt64 p1) 0 2 Z) fun v106 =>
    if mjCmp .ne v106 0 = true then
      if mjCmp .ne p1 0 = true then
        if mjCmp .ne p1 2 = true then
          f293_rule_j50 p0 p1 Z
        else
          mjBp (f289_hasExcuse p0 Z) fun v122 =>
          if mjCmp .ne v122 0 = true then
            f293_rule_j50 p0 p1 Z
          else
            some ((-1))
      else
        if mjIn p0 8 = true then
        some (Z.1 235 (mjIx p0))
        else none
    else
      some ((-2000000))
def f294_holds (p0 : Int32) (p1 : Int32) (p2 : Int32) (Z : mjZt) : Option (Int32 × mjZt) :=
  mjBp (f292_isAsked p0 p1 p2 Z) fun v102 =>
  if mjCmp .eq v102 0 = true then
    some ((-2000000), Z)
  else
    mjBd (f290_holdsPart p0 p1 p2 Z) fun v106 Z107 =>
    mjBp (f196_truth v106 Z107) fun v109 =>
    some (v109, Z107)
def f295_why_j101 (R : Int32 → Int32 → Int32 → mjZt → Option (Int32 × mjZt)) (x4 : Int32) (x5 : Int32) (x6 : Int32) (s0 : Int64) (Z : mjZt) : Option (Int32 × mjZt) :=
  if mjCmp .ne (lg_cmp (s0 &&& 1) 0) 0 = true then
    if mjCmp .ne x5 x4 = true then
      R x4 (x5 + 1) (x6 + 1) Z
    else
      some (x6, Z)
  else
    R x4 x5 (x6 + 1) Z
def f295_why_h40 : Nat → Int32 → Int32 → Int32 → mjZt → Option (Int32 × mjZt)
  | 0, _, _, _, _ => none
  | n + 1, x4, x5, x6, Z =>
    if mjCmp .ge x6 180 = true then
      some ((-1), Z)
    else
      if mjCmp .ge x6 60 = true then
        if mjCmp .ge x6 120 = true then
          f295_why_j101 (f295_why_h40 n) x4 x5 x6 ((Z.2.1 246 0) >>> (Int32.toInt64 (x6 - 120) &&& 63)) Z
        else
          f295_why_j101 (f295_why_h40 n) x4 x5 x6 ((Z.2.1 245 0) >>> (Int32.toInt64 (x6 - 60) &&& 63)) Z
      else
        f295_why_j101 (f295_why_h40 n) x4 x5 x6 ((Z.2.1 244 0) >>> (Int32.toInt64 x6 &&& 63)) Z
def f295_why (p0 : Int32) (p1 : Int32) (p2 : Int32) (p3 : Int32) (Z : mjZt) : Option (Int32 × mjZt) :=
  mjBp (f292_isAsked p0 p1 p2 Z) fun v102 =>
  if mjCmp .ne v102 0 = true then
    mjBd (f290_holdsPart p0 p1 p2 Z) fun v106 Z107 =>
    if mjCmp .ne p3 ((-1)) = true then
      f295_why_h40 mjF p3 0 0 Z107
    else
      mjBp (f284_size 0 Z107) fun v115 =>
      some (v115, Z107)
  else
    some ((-2000000), Z)
def f296_isStruck (p0 : Int32) (p1 : Int32) (Z : mjZt) : Option (Int32 × mjZt) :=
  mjBp (f278_isWaived p0 Z) fun v102 =>
  if mjCmp .ne v102 0 = true then
    some (0, Z)
  else
    mjBp (f273_kindOf p0 Z) fun v106 =>
    if mjIn p1 8 = true then
    if mjCmp .ne v106 (Z.1 235 (mjIx p1)) = true then
      some (0, Z)
    else
      mjBd (f290_holdsPart p1 0 p0 Z) fun v111 Z112 =>
      if mjCmp .eq v111 0 = true then
        some (0, Z112)
      else
        mjBp (f289_hasExcuse p1 Z112) fun v115 =>
        if mjCmp .eq v115 0 = true then
          some (1, Z112)
        else
          mjBd (f290_holdsPart p1 1 p0 Z112) fun v119 Z120 =>
          if mjCmp .ne v119 0 = true then
            some (0, Z120)
          else
            some (1, Z120)
    else none
def f297_struckBy (p0 : Int32) (p1 : Int32) (Z : mjZt) : Option (Int32 × mjZt) :=
  mjBp (f270_isAct p0 Z) fun v102 =>
  if mjCmp .eq v102 0 = true then
    some ((-2000000), Z)
  else
    mjBp (f291_isRule p1 Z) fun v106 =>
    if mjCmp .eq v106 0 = true then
      some ((-2000000), Z)
    else
      mjBd (f296_isStruck p0 p1 Z) fun v110 Z111 =>
      mjBp (f196_truth v110 Z111) fun v113 =>
      some (v113, Z111)
def f298_firstRule_h2 : Nat → Int32 → Int32 → mjZt → Option (Int32 × mjZt)
  | 0, _, _, _ => none
  | n + 1, x1, x2, Z =>
    if mjCmp .ge x2 (Z.1 211 41) = true then
      some ((-1), Z)
    else
      mjBd (f296_isStruck x1 x2 Z) fun v103 Z104 =>
      if mjCmp .eq v103 0 = true then
        f298_firstRule_h2 n x1 (x2 + 1) Z104
      else
        some (x2, Z104)
def f298_firstRule (p0 : Int32) (Z : mjZt) : Option (Int32 × mjZt) :=
  f298_firstRule_h2 mjF p0 0 Z
def f299_without_h60 : Nat → Int32 → Int32 → Int32 → Int32 → Int32 → Int32 → Int32 → Int32 → Int32 → mjZt → Option (Int32 × mjZt)
  | 0, _, _, _, _, _, _, _, _, _, _ => none
  | n + 1, x1, x2, x3, x4, x5, x6, x7, x8, x9, Z =>
    if mjCmp .gt x9 x3 = true then
      if mjIn ((72 + (3 * x1)) + x2) 108 = true then
      mjLet (zSi Z 239 (mjIx ((72 + (3 * x1)) + x2)) x5) fun Z112 =>
      if mjCmp .ne x4 0 = true then
        if mjCmp .ne x4 1 = true then
          some (x8, Z112)
        else
          some (x7, Z112)
      else
        some (x6, Z112)
      else none
    else
      if mjIn ((72 + (3 * x1)) + x2) 108 = true then
      mjLet (zSi Z 239 (mjIx ((72 + (3 * x1)) + x2)) x9) fun Z116 =>
      mjBd (f298_firstRule x1 Z116) fun v118 Z119 =>
      if mjCmp .eq v118 ((-1)) = true then
        if mjCmp .ne x7 ((-1)) = true then
          f299_without_h60 n x1 x2 x3 x4 x5 (x6 + 1) x7 x9 (x9 + 1) Z119
        else
          f299_without_h60 n x1 x2 x3 x4 x5 (x6 + 1) x9 x9 (x9 + 1) Z119
      else
        f299_without_h60 n x1 x2 x3 x4 x5 x6 x7 x8 (x9 + 1) Z119
      else none
def f299_without (p0 : Int32) (p1 : Int32) (p2 : Int32) (p3 : Int32) (Z : mjZt) : Option (Int32 × mjZt) :=
  mjBp (f195_isIn (Int32.toInt64 p0) 0 (Int32.toInt64 ((Z.1 211 40) - 1)) Z) fun v102 =>
  if mjCmp .eq v102 0 = true then
    some ((-2000000), Z)
  else
    mjBp (f195_isIn (Int32.toInt64 p3) 0 2 Z) fun v106 =>
    if mjCmp .ne v106 0 = true then
      if mjIn ((72 + (3 * p0)) + p1) 108 = true then
      f299_without_h60 mjF p0 p1 p2 p3 (Z.1 239 (mjIx ((72 + (3 * p0)) + p1))) 0 ((-1)) ((-1)) 0 Z
      else none
    else
      some ((-2000000), Z)
def f300_clean (p0 : Int32) (p1 : Int32) (Z : mjZt) : Option (Int32 × mjZt) :=
  mjBd (f299_without p0 1 99 p1 Z) fun v102 Z103 =>
  some (v102, Z103)
def f301_free (p0 : Int32) (p1 : Int32) (Z : mjZt) : Option (Int32 × mjZt) :=
  mjBd (f299_without p0 0 999 p1 Z) fun v102 Z103 =>
  some (v102, Z103)
def f302_laysStruck_j70 (R : Int32 → mjZt → Option (Unit × mjZt)) (x1 : Int32) (s1 : Int32) (s2 : Int32) (Z : mjZt) : Option (Unit × mjZt) :=
  if mjIn s1 48 = true then
  if s2 = 0 ∨ s2 = 1 then
  mjLet (zSi Z 247 (mjIx s1) s2) fun Z112 =>
  if mjIn x1 48 = true then
  if mjCmp .ne (Z112.1 247 (mjIx x1)) 0 = true then
    mjBp (f274_teamOf x1 Z112) fun v116 =>
    if mjIn v116 6 = true then
    mjLet (zSi Z112 248 (mjIx v116) 1) fun Z119 =>
    mjBp (f273_kindOf x1 Z119) fun v121 =>
    if mjCmp .eq v121 3 = true then
      mjBp (f275_otherOf x1 Z119) fun v125 =>
      if mjIn v125 6 = true then
      mjLet (zSi Z119 249 (mjIx v125) 1) fun Z128 =>
      mjBp (f275_otherOf x1 Z128) fun v130 =>
      if mjIn v130 6 = true then
      mjBp (f277_sizeOf x1 Z128) fun v134 =>
      mjLet (zSi Z128 250 (mjIx v130) ((Z128.1 250 (mjIx v130)) - v134)) fun Z136 =>
      R (x1 + 1) Z136
      else none
      else none
    else
      R (x1 + 1) Z119
    else none
  else
    R (x1 + 1) Z112
  else none
  else none
  else none
def f302_laysStruck_h43 : Nat → Int32 → mjZt → Option (Unit × mjZt)
  | 0, _, _ => none
  | n + 1, x1, Z =>
    mjBp (f251_allActs  Z) fun v103 =>
    if mjCmp .ge x1 v103 = true then
      some ((), Z)
    else
      mjBd (f298_firstRule x1 Z) fun v107 Z108 =>
      if mjCmp .eq v107 ((-1)) = true then
        f302_laysStruck_j70 (f302_laysStruck_h43 n) x1 x1 0 Z108
      else
        f302_laysStruck_j70 (f302_laysStruck_h43 n) x1 x1 1 Z108
def f302_laysStruck_h2 : Nat → Int32 → mjZt → Option (Unit × mjZt)
  | 0, _, _ => none
  | n + 1, x1, Z =>
    if mjCmp .ge x1 (Z.1 211 39) = true then
      f302_laysStruck_h43 mjF 0 Z
    else
      if mjIn x1 6 = true then
      mjLet (zSi Z 248 (mjIx x1) 0) fun Z138 =>
      mjLet (zSi Z138 249 (mjIx x1) 0) fun Z139 =>
      mjBp (f246_timeOf x1 Z139) fun v141 =>
      mjLet (zSi Z139 250 (mjIx x1) v141) fun Z143 =>
      f302_laysStruck_h2 n (x1 + 1) Z143
      else none
def f302_laysStruck  (Z : mjZt) : Option (Unit × mjZt) :=
  f302_laysStruck_h2 mjF 0 Z
def f303_struck_h34 : Nat → Int32 → Int32 → Int32 → Int32 → Int32 → mjZt → Option (Int32 × mjZt)
  | 0, _, _, _, _, _, _ => none
  | n + 1, x1, x2, x3, x4, x5, Z =>
    mjBp (f251_allActs  Z) fun v113 =>
    if mjCmp .ge x5 v113 = true then
      if mjCmp .ne x2 2 = true then
        if mjCmp .ne x3 ((-1)) = true then
          if mjCmp .ne x2 0 = true then
            mjBd (f298_firstRule x3 Z) fun v120 Z121 =>
            some (v120, Z121)
          else
            some (x3, Z)
        else
          some ((-2), Z)
      else
        some (x4, Z)
    else
      if mjIn x5 48 = true then
      if mjCmp .eq (Z.1 247 (mjIx x5)) 0 = true then
        f303_struck_h34 n x1 x2 x3 x4 (x5 + 1) Z
      else
        mjBp (f274_teamOf x5 Z) fun v125 =>
        if mjCmp .eq v125 x1 = true then
          if mjCmp .eq x3 ((-1)) = true then
            f303_struck_h34 n x1 x2 x5 (x4 + 1) (x5 + 1) Z
          else
            mjBp (f279_isAhead x5 x3 Z) fun v130 =>
            if mjCmp .eq v130 0 = true then
              f303_struck_h34 n x1 x2 x3 (x4 + 1) (x5 + 1) Z
            else
              f303_struck_h34 n x1 x2 x5 (x4 + 1) (x5 + 1) Z
        else
          f303_struck_h34 n x1 x2 x3 x4 (x5 + 1) Z
      else none
def f303_struck (p0 : Int32) (p1 : Int32) (Z : mjZt) : Option (Int32 × mjZt) :=
  mjBp (f240_isTeam p0 Z) fun v102 =>
  if mjCmp .eq v102 0 = true then
    some ((-1), Z)
  else
    mjBp (f195_isIn (Int32.toInt64 p1) 0 2 Z) fun v106 =>
    if mjCmp .ne v106 0 = true then
      mjBd (f302_laysStruck  Z) fun _ Z111 =>
      f303_struck_h34 mjF p0 p1 ((-1)) 0 0 Z111
    else
      some ((-1), Z)
def f304_isInResult (p0 : Int32) (Z : mjZt) : Option Int32 :=
  mjBp (f247_isWhole p0 Z) fun v102 =>
  if mjCmp .eq v102 0 = true then
    some 0
  else
    if mjIn p0 6 = true then
    if mjCmp .ne (Z.1 248 (mjIx p0)) 0 = true then
      some 0
    else
      some 1
    else none
def f305_rankOf_h4 : Nat → Int32 → Int32 → Int32 → mjZt → Option Int32
  | 0, _, _, _, _ => none
  | n + 1, x1, x2, x3, Z =>
    if mjCmp .ge x3 (Z.1 211 39) = true then
      some x2
    else
      mjBp (f304_isInResult x3 Z) fun v103 =>
      if mjCmp .eq v103 0 = true then
        mjBp (f196_truth 0 Z) fun v107 =>
        f305_rankOf_h4 n x1 (x2 + v107) (x3 + 1) Z
      else
        mjBp (f246_timeOf x3 Z) fun v110 =>
        mjBp (f246_timeOf x1 Z) fun v113 =>
        if mjCmp .ge v110 v113 = true then
          mjBp (f196_truth 0 Z) fun v117 =>
          f305_rankOf_h4 n x1 (x2 + v117) (x3 + 1) Z
        else
          mjBp (f196_truth 1 Z) fun v120 =>
          f305_rankOf_h4 n x1 (x2 + v120) (x3 + 1) Z
def f305_rankOf (p0 : Int32) (Z : mjZt) : Option Int32 :=
  f305_rankOf_h4 mjF p0 1 0 Z
def f306_rank (p0 : Int32) (Z : mjZt) : Option (Int32 × mjZt) :=
  mjBp (f240_isTeam p0 Z) fun v102 =>
  if mjCmp .ne v102 0 = true then
    mjBd (f302_laysStruck  Z) fun _ Z107 =>
    mjBp (f304_isInResult p0 Z107) fun v109 =>
    if mjCmp .eq v109 0 = true then
      some ((-2), Z107)
    else
      mjBp (f305_rankOf p0 Z107) fun v113 =>
      some (v113, Z107)
  else
    some ((-1), Z)
def f307_fairRank_h29 : Nat → Int32 → Int32 → Int32 → mjZt → Option (Int32 × mjZt)
  | 0, _, _, _, _ => none
  | n + 1, x1, x2, x3, Z =>
    if mjCmp .ge x3 (Z.1 211 39) = true then
      some (x2, Z)
    else
      mjBp (f304_isInResult x3 Z) fun v114 =>
      if mjCmp .eq v114 0 = true then
        mjBp (f196_truth 0 Z) fun v118 =>
        f307_fairRank_h29 n x1 (x2 + v118) (x3 + 1) Z
      else
        if mjIn x3 6 = true then
        if mjIn x1 6 = true then
        if mjCmp .ge (Z.1 250 (mjIx x3)) (Z.1 250 (mjIx x1)) = true then
          mjBp (f196_truth 0 Z) fun v124 =>
          f307_fairRank_h29 n x1 (x2 + v124) (x3 + 1) Z
        else
          mjBp (f196_truth 1 Z) fun v127 =>
          f307_fairRank_h29 n x1 (x2 + v127) (x3 + 1) Z
        else none
        else none
def f307_fairRank (p0 : Int32) (Z : mjZt) : Option (Int32 × mjZt) :=
  mjBp (f240_isTeam p0 Z) fun v102 =>
  if mjCmp .ne v102 0 = true then
    mjBd (f302_laysStruck  Z) fun _ Z107 =>
    mjBp (f304_isInResult p0 Z107) fun v109 =>
    if mjCmp .ne v109 0 = true then
      f307_fairRank_h29 mjF p0 1 0 Z107
    else
      some ((-2), Z107)
  else
    some ((-1), Z)
def f308_resultAt_h6 : Nat → Int32 → Int32 → mjZt → Option (Int32 × mjZt)
  | 0, _, _, _ => none
  | n + 1, x1, x2, Z =>
    if mjCmp .ge x2 (Z.1 211 39) = true then
      mjBp (f259_keyedAt x1 Z) fun v106 =>
      some (v106, Z)
    else
      mjBp (f304_isInResult x2 Z) fun v109 =>
      if mjIn x2 6 = true then
      if v109 = 0 ∨ v109 = 1 then
      mjLet (zSi Z 242 (mjIx x2) v109) fun Z113 =>
      mjBp (f246_timeOf x2 Z113) fun v115 =>
      mjLet (zSi Z113 241 (mjIx x2) v115) fun Z117 =>
      f308_resultAt_h6 n x1 (x2 + 1) Z117
      else none
      else none
def f308_resultAt (p0 : Int32) (Z : mjZt) : Option (Int32 × mjZt) :=
  mjBd (f302_laysStruck  Z) fun _ Z103 =>
  f308_resultAt_h6 mjF p0 0 Z103
def f309_margin (p0 : Int32) (Z : mjZt) : Option (Int32 × mjZt) :=
  if mjCmp .ge p0 1 = true then
    mjBd (f308_resultAt p0 Z) fun v103 Z104 =>
    if mjCmp .ne v103 ((-1)) = true then
      mjBp (f246_timeOf v103 Z104) fun v107 =>
      mjBd (f308_resultAt (p0 - 1) Z104) fun v110 Z111 =>
      mjBp (f246_timeOf v110 Z111) fun v113 =>
      some (v107 - v113, Z111)
    else
      some ((-1), Z104)
  else
    some ((-1), Z)
def f310_impeders_h18 : Nat → Int32 → Int32 → Int32 → mjZt → Option (Int32 × mjZt)
  | 0, _, _, _, _ => none
  | n + 1, x1, x2, x3, Z =>
    if mjCmp .ge x3 (Z.1 211 40) = true then
      some (x2, Z)
    else
      if mjIn x3 48 = true then
      if mjCmp .eq (Z.1 247 (mjIx x3)) 0 = true then
        f310_impeders_h18 n x1 x2 (x3 + 1) Z
      else
        mjBp (f273_kindOf x3 Z) fun v112 =>
        if mjCmp .ne v112 3 = true then
          f310_impeders_h18 n x1 x2 (x3 + 1) Z
        else
          mjBp (f275_otherOf x3 Z) fun v116 =>
          if mjCmp .ne v116 x1 = true then
            f310_impeders_h18 n x1 x2 (x3 + 1) Z
          else
            mjBp (f274_teamOf x3 Z) fun v120 =>
            f310_impeders_h18 n x1 (x2 ||| ((1 : Int32) <<< ((v120 : Int32) &&& 31))) (x3 + 1) Z
      else none
def f310_impeders (p0 : Int32) (Z : mjZt) : Option (Int32 × mjZt) :=
  mjBp (f240_isTeam p0 Z) fun v102 =>
  if mjCmp .ne v102 0 = true then
    mjBd (f302_laysStruck  Z) fun _ Z107 =>
    f310_impeders_h18 mjF p0 0 0 Z107
  else
    some ((-1), Z)
def f311_result (p0 : Int32) (Z : mjZt) : Option (Int32 × mjZt) :=
  mjBd (f308_resultAt p0 Z) fun v102 Z103 =>
  some (v102, Z103)
def f312_isThrough (p0 : Int32) (Z : mjZt) : Option Int32 :=
  mjBp (f304_isInResult p0 Z) fun v102 =>
  if mjCmp .eq v102 0 = true then
    some 0
  else
    mjBp (f305_rankOf p0 Z) fun v106 =>
    if mjCmp .gt v106 (Z.1 211 42) = true then
      some 0
    else
      some 1
def f313_besides_h45 : Nat → Int32 → Int32 → Int32 → mjZt → Option Int32
  | 0, _, _, _, _ => none
  | n + 1, x1, x2, x3, Z =>
    if mjCmp .ge x3 (Z.1 211 39) = true then
      some x2
    else
      mjBp (f304_isInResult x3 Z) fun v104 =>
      if mjCmp .eq v104 0 = true then
        mjBp (f196_truth 0 Z) fun v108 =>
        f313_besides_h45 n x1 (x2 ||| ((v108 : Int32) <<< ((x3 : Int32) &&& 31))) (x3 + 1) Z
      else
        if mjIn x3 6 = true then
        if mjCmp .eq (Z.1 249 (mjIx x3)) 0 = true then
          mjBp (f196_truth 0 Z) fun v113 =>
          f313_besides_h45 n x1 (x2 ||| ((v113 : Int32) <<< ((x3 : Int32) &&& 31))) (x3 + 1) Z
        else
          mjBp (f312_isThrough x3 Z) fun v116 =>
          if mjCmp .ne v116 0 = true then
            mjBp (f196_truth 0 Z) fun v120 =>
            f313_besides_h45 n x1 (x2 ||| ((v120 : Int32) <<< ((x3 : Int32) &&& 31))) (x3 + 1) Z
          else
            if mjCmp .gt (Z.1 250 (mjIx x3)) (x1 + (Z.1 211 43)) = true then
              mjBp (f196_truth 0 Z) fun v124 =>
              f313_besides_h45 n x1 (x2 ||| ((v124 : Int32) <<< ((x3 : Int32) &&& 31))) (x3 + 1) Z
            else
              mjBp (f196_truth 1 Z) fun v127 =>
              f313_besides_h45 n x1 (x2 ||| ((v127 : Int32) <<< ((x3 : Int32) &&& 31))) (x3 + 1) Z
        else none
def f313_besides_h4 : Nat → Int32 → Int32 → mjZt → Option Int32
  | 0, _, _, _ => none
  | n + 1, x1, x2, Z =>
    if mjCmp .ge x2 (Z.1 211 39) = true then
      f313_besides_h45 mjF x1 0 0 Z
    else
      mjBp (f312_isThrough x2 Z) fun v130 =>
      if mjCmp .eq v130 0 = true then
        f313_besides_h4 n x1 (x2 + 1) Z
      else
        mjBp (f246_timeOf x2 Z) fun v134 =>
        if mjCmp .le v134 x1 = true then
          f313_besides_h4 n x1 (x2 + 1) Z
        else
          f313_besides_h4 n v134 (x2 + 1) Z
def f313_besides  (Z : mjZt) : Option Int32 :=
  f313_besides_h4 mjF 0 0 Z
def f314_who_h32 : Nat → Int32 → Int32 → Int32 → mjZt → Option (Int32 × mjZt)
  | 0, _, _, _, _ => none
  | n + 1, x1, x2, x3, Z =>
    if mjCmp .ge x3 (Z.1 211 39) = true then
      some (x2, Z)
    else
      if mjCmp .ne x1 0 = true then
        if mjCmp .ne x1 1 = true then
          if mjCmp .ne x1 2 = true then
            mjBp (f247_isWhole x3 Z) fun v114 =>
            mjBp (f196_truth v114 Z) fun v117 =>
            f314_who_h32 n x1 (x2 ||| ((v117 : Int32) <<< ((x3 : Int32) &&& 31))) (x3 + 1) Z
          else
            if mjIn x3 6 = true then
            mjBp (f196_truth (Z.1 249 (mjIx x3)) Z) fun v121 =>
            f314_who_h32 n x1 (x2 ||| ((v121 : Int32) <<< ((x3 : Int32) &&& 31))) (x3 + 1) Z
            else none
        else
          mjBp (f312_isThrough x3 Z) fun v124 =>
          mjBp (f196_truth v124 Z) fun v127 =>
          f314_who_h32 n x1 (x2 ||| ((v127 : Int32) <<< ((x3 : Int32) &&& 31))) (x3 + 1) Z
      else
        if mjIn x3 6 = true then
        mjBp (f196_truth (Z.1 248 (mjIx x3)) Z) fun v131 =>
        f314_who_h32 n x1 (x2 ||| ((v131 : Int32) <<< ((x3 : Int32) &&& 31))) (x3 + 1) Z
        else none
def f314_who (p0 : Int32) (Z : mjZt) : Option (Int32 × mjZt) :=
  mjBp (f195_isIn (Int32.toInt64 p0) 0 4 Z) fun v102 =>
  if mjCmp .ne v102 0 = true then
    mjBd (f302_laysStruck  Z) fun _ Z107 =>
    if mjCmp .ne p0 3 = true then
      f314_who_h32 mjF p0 0 0 Z107
    else
      mjBp (f313_besides  Z107) fun v134 =>
      some (v134, Z107)
  else
    some ((-1), Z)
def f315_would (p0 : Int32) (Z : mjZt) : Option (Int32 × mjZt) :=
  mjBp (f240_isTeam p0 Z) fun v102 =>
  if mjCmp .ne v102 0 = true then
    mjBd (f302_laysStruck  Z) fun _ Z107 =>
    mjBp (f247_isWhole p0 Z107) fun v109 =>
    if mjCmp .eq v109 0 = true then
      some ((-2), Z107)
    else
      if mjIn p0 6 = true then
      some (Z107.1 250 (mjIx p0), Z107)
      else none
  else
    some ((-1), Z)
def f316_again_j43 (R : Int32 → Int32 → Int32 → Int32 → mjZt → Option (Int32 × mjZt)) (x1 : Int32) (x3 : Int32) (x4 : Int32) (s0 : Int32) (Z : mjZt) : Option (Int32 × mjZt) :=
  if mjCmp .ne x3 0 = true then
    R x1 s0 1 (x4 + 1) Z
  else
    mjBp (f247_isWhole x4 Z) fun v126 =>
    if mjCmp .eq v126 0 = true then
      R x1 s0 0 (x4 + 1) Z
    else
      if mjIn x4 6 = true then
      if mjCmp .ne (Z.1 248 (mjIx x4)) 0 = true then
        R x1 s0 0 (x4 + 1) Z
      else
        if mjCmp .ne (Z.1 249 (mjIx x4)) 0 = true then
          R x1 s0 0 (x4 + 1) Z
        else
          R x1 s0 1 (x4 + 1) Z
      else none
def f316_again_j38 (R : Int32 → Int32 → Int32 → Int32 → mjZt → Option (Int32 × mjZt)) (x1 : Int32) (x3 : Int32) (x4 : Int32) (Z : mjZt) : Option (Int32 × mjZt) :=
  f316_again_j43 R x1 x3 x4 1 Z
def f316_again_h16 : Nat → Int32 → Int32 → Int32 → Int32 → mjZt → Option (Int32 × mjZt)
  | 0, _, _, _, _, _ => none
  | n + 1, x1, x2, x3, x4, Z =>
    if mjCmp .ge x4 (Z.1 211 39) = true then
      if mjCmp .ne (x1 &&& (x1 - 1)) 0 = true then
        mjBp (f196_truth 1 Z) fun v110 =>
        some (v110, Z)
      else
        if mjCmp .eq x2 0 = true then
          mjBp (f196_truth 0 Z) fun v114 =>
          some (v114, Z)
        else
          if mjCmp .ne x3 0 = true then
            mjBp (f196_truth 0 Z) fun v118 =>
            some (v118, Z)
          else
            mjBp (f196_truth 1 Z) fun v121 =>
            some (v121, Z)
    else
      if mjCmp .ne x2 0 = true then
        f316_again_j38 (f316_again_h16 n) x1 x3 x4 Z
      else
        mjBp (f247_isWhole x4 Z) fun v133 =>
        if mjCmp .eq v133 0 = true then
          f316_again_j43 (f316_again_h16 n) x1 x3 x4 0 Z
        else
          f316_again_j38 (f316_again_h16 n) x1 x3 x4 Z
def f316_again  (Z : mjZt) : Option (Int32 × mjZt) :=
  mjBd (f302_laysStruck  Z) fun _ Z103 =>
  mjBp (f313_besides  Z103) fun v105 =>
  f316_again_h16 mjF v105 0 0 0 Z103
def f317_winner (p0 : Int32) (Z : mjZt) : Option (Int32 × mjZt) :=
  mjBp (f270_isAct p0 Z) fun v102 =>
  if mjCmp .ne v102 0 = true then
    mjLet (zSi Z 211 59 p0) fun Z105 =>
    mjBd (f308_resultAt 0 Z105) fun v107 Z108 =>
    mjLet (zSi Z108 211 59 ((-1))) fun Z109 =>
    if mjCmp .ne v107 ((-1)) = true then
      some (v107, Z109)
    else
      some ((-2), Z109)
  else
    some ((-1), Z)
def f318_isClean_h2 : Nat → Int32 → Int32 → mjZt → Option (Int32 × mjZt)
  | 0, _, _, _ => none
  | n + 1, x1, x2, Z =>
    mjBp (f251_allActs  Z) fun v102 =>
    if mjCmp .ge x2 v102 = true then
      some (1, Z)
    else
      mjBp (f274_teamOf x2 Z) fun v106 =>
      if mjCmp .ne v106 x1 = true then
        f318_isClean_h2 n x1 (x2 + 1) Z
      else
        mjBd (f298_firstRule x2 Z) fun v110 Z111 =>
        if mjCmp .eq v110 ((-1)) = true then
          f318_isClean_h2 n x1 (x2 + 1) Z111
        else
          some (0, Z111)
def f318_isClean (p0 : Int32) (Z : mjZt) : Option (Int32 × mjZt) :=
  f318_isClean_h2 mjF p0 0 Z
def f319_stays_h73 : Nat → Int32 → Int32 → Int32 → Int32 → Int32 → Int32 → mjZt → Option (Int32 × mjZt)
  | 0, _, _, _, _, _, _, _ => none
  | n + 1, x1, x2, x3, x4, x5, x6, Z =>
    if mjCmp .ge x6 ((1 : Int32) <<< (((Z.1 211 40) : Int32) &&& 31)) = true then
      mjLet (zSi Z 211 60 0) fun Z111 =>
      if mjCmp .ne x3 ((-2)) = true then
        if mjCmp .ne x2 0 = true then
          some (x3, Z111)
        else
          some (x4, Z111)
      else
        some ((-2), Z111)
    else
      if mjCmp .ne (x6 &&& x5) 0 = true then
        f319_stays_h73 n x1 x2 x3 x4 x5 (x6 + 1) Z
      else
        mjBp (f283_ones (Int32.toInt64 x6) Z) fun v116 =>
        if mjCmp .lt v116 x4 = true then
          mjLet (zSi Z 211 60 x6) fun Z119 =>
          mjBd (f318_isClean x1 Z119) fun v121 Z122 =>
          if mjCmp .ne v121 0 = true then
            mjBp (f283_ones (Int32.toInt64 x6) Z122) fun v125 =>
            f319_stays_h73 n x1 x2 x6 v125 x5 (x6 + 1) Z122
          else
            f319_stays_h73 n x1 x2 x3 x4 x5 (x6 + 1) Z122
        else
          f319_stays_h73 n x1 x2 x3 x4 x5 (x6 + 1) Z
def f319_stays_h33 : Nat → Int32 → Int32 → Int32 → Int32 → Int32 → Int32 → mjZt → Option (Int32 × mjZt)
  | 0, _, _, _, _, _, _, _ => none
  | n + 1, x1, x2, x3, x4, x5, x6, Z =>
    if mjCmp .ge x6 (Z.1 211 40) = true then
      f319_stays_h73 mjF x1 x2 x3 x4 x5 0 Z
    else
      if mjIn ((72 + (3 * x6)) + 2) 108 = true then
      mjLet (x5 ||| (((Z.1 239 (mjIx ((72 + (3 * x6)) + 2))) : Int32) <<< ((x6 : Int32) &&& 31)) : Int32) fun x_128 =>
      f319_stays_h33 n x1 x2 x3 x4 x_128 (x6 + 1) Z
      else none
def f319_stays (p0 : Int32) (p1 : Int32) (Z : mjZt) : Option (Int32 × mjZt) :=
  mjBp (f240_isTeam p0 Z) fun v102 =>
  if mjCmp .eq v102 0 = true then
    some ((-1), Z)
  else
    mjBp (f195_isIn (Int32.toInt64 p1) 0 1 Z) fun v106 =>
    if mjCmp .ne v106 0 = true then
      f319_stays_h33 mjF p0 p1 ((-2)) 13 0 0 Z
    else
      some ((-1), Z)
def f320_appeal_j42 (x1 : Int32) (x2 : Int32) (x3 : Int32) (s0 : Int64) (s1 : Int64) (s2 : Int64) (Z : mjZt) : Option (Int32 × mjZt) :=
  mjBp (f195_isIn s0 s1 s2 Z) fun v111 =>
  if mjCmp .ne v111 0 = true then
    if mjIn ((72 + (3 * x1)) + x2) 108 = true then
    if mjCmp .ne (Z.1 239 (mjIx ((72 + (3 * x1)) + x2))) x3 = true then
      mjBd (f238_keeps  Z) fun _ Z118 =>
      mjLet (zSi Z118 239 (mjIx ((72 + (3 * x1)) + x2)) x3) fun Z119 =>
      some (Z.1 239 (mjIx ((72 + (3 * x1)) + x2)), Z119)
    else
      some ((-1), Z)
    else none
  else
    some ((-1), Z)
def f320_appeal (p0 : Int32) (p1 : Int32) (p2 : Int32) (Z : mjZt) : Option (Int32 × mjZt) :=
  mjBp (f195_isIn (Int32.toInt64 p0) 0 (Int32.toInt64 ((Z.1 211 40) - 1)) Z) fun v102 =>
  if mjCmp .eq v102 0 = true then
    some ((-1), Z)
  else
    mjBp (f195_isIn (Int32.toInt64 p1) 0 1 Z) fun v106 =>
    if mjCmp .eq v106 0 = true then
      some ((-1), Z)
    else
      if mjCmp .ne p1 0 = true then
        f320_appeal_j42 p0 p1 p2 (Int32.toInt64 p2) 0 99 Z
      else
        f320_appeal_j42 p0 p1 p2 (Int32.toInt64 p2) 0 9999 Z
def f321_waive (p0 : Int32) (Z : mjZt) : Option (Int32 × mjZt) :=
  mjBp (f195_isIn (Int32.toInt64 p0) 0 (Int32.toInt64 ((Z.1 211 40) - 1)) Z) fun v102 =>
  if mjCmp .ne v102 0 = true then
    mjBd (f238_keeps  Z) fun _ Z107 =>
    if mjIn ((72 + (3 * p0)) + 2) 108 = true then
    mjLet (zSi Z107 239 (mjIx ((72 + (3 * p0)) + 2)) (1 - (Z107.1 239 (mjIx ((72 + (3 * p0)) + 2))))) fun Z109 =>
    some (Z109.1 239 (mjIx ((72 + (3 * p0)) + 2)), Z109)
    else none
  else
    some ((-1), Z)
def f322_measure_j104 (x1 : Int32) (x3 : Int32) (x4 : Int32) (x6 : Int32) (Z : mjZt) : Option (Int32 × mjZt) :=
  mjBd (f238_keeps  Z) fun _ Z125 =>
  if mjIn ((12 * x1) + (2 * x6)) 108 = true then
  mjLet (zSi Z125 239 (mjIx ((12 * x1) + (2 * x6))) x3) fun Z127 =>
  if mjIn (((12 * x1) + (2 * x6)) + 1) 108 = true then
  mjLet (zSi Z127 239 (mjIx (((12 * x1) + (2 * x6)) + 1)) x4) fun Z129 =>
  mjBp (f246_timeOf x1 Z129) fun v131 =>
  some (v131, Z129)
  else none
  else none
def f322_measure_j56 (x1 : Int32) (x2 : Int32) (x3 : Int32) (x4 : Int32) (s0 : Int32) (Z : mjZt) : Option (Int32 × mjZt) :=
  mjBp (f195_isIn (Int32.toInt64 x4) (Int32.toInt64 (-s0)) (Int32.toInt64 s0) Z) fun v116 =>
  if mjCmp .eq v116 0 = true then
    some ((-1), Z)
  else
    mjBp (f242_tenthsOf x1 (x2 - 1) Z) fun v120 =>
    if mjCmp .ne v120 x3 = true then
      f322_measure_j104 x1 x3 x4 (x2 - 1) Z
    else
      mjBp (f243_metresOf x1 (x2 - 1) Z) fun v134 =>
      if mjCmp .ne v134 x4 = true then
        f322_measure_j104 x1 x3 x4 (x2 - 1) Z
      else
        some ((-1), Z)
def f322_measure (p0 : Int32) (p1 : Int32) (p2 : Int32) (p3 : Int32) (Z : mjZt) : Option (Int32 × mjZt) :=
  mjBp (f240_isTeam p0 Z) fun v102 =>
  if mjCmp .eq v102 0 = true then
    some ((-1), Z)
  else
    if mjIn p0 6 = true then
    mjBp (f195_isIn (Int32.toInt64 p1) 1 (Int32.toInt64 (Z.1 231 (mjIx p0))) Z) fun v107 =>
    if mjCmp .eq v107 0 = true then
      some ((-1), Z)
    else
      mjBp (f195_isIn (Int32.toInt64 p2) 20 999 Z) fun v111 =>
      if mjCmp .ne v111 0 = true then
        if mjCmp .ne p1 (Z.1 229 0) = true then
          f322_measure_j56 p0 p1 p2 p3 20 Z
        else
          f322_measure_j56 p0 p1 p2 p3 0 Z
      else
        some ((-1), Z)
    else none
