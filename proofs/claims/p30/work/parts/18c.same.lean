def mL_same_J545 (x5_545 : Int32) (x6_545 : Int32) (x7_545 : Int32) (x8_545 : Int32) (x9_545 : Int32) (x10_545 : Int32) (rec9 : Int32 → Int32 → Int32 → Int32 → Int32 → Int32 → Option (Int32 × Int32 × Int32 × Int32 × Int32 × Int32)) : Option (Int32 × Int32 × Int32 × Int32 × Int32 × Int32) :=
  rec9 x5_545 x6_545 x7_545 x8_545 x9_545 (x10_545 + 1)
def mL_same_J511 (x5_511 : Int32) (x6_511 : Int32) (x7_511 : Int32) (x9_511 : Int32) (x15_511 : Int32) (x13_511 : Int32) (x8_511 : Int32) (x10_511 : Int32) (rec9 : Int32 → Int32 → Int32 → Int32 → Int32 → Int32 → Option (Int32 × Int32 × Int32 × Int32 × Int32 × Int32)) : Option (Int32 × Int32 × Int32 × Int32 × Int32 × Int32) :=
  mL_same_J545 x5_511 x6_511 x7_511 (if x9_511 < x15_511 then x13_511 else (if x15_511 = x9_511 then (if x15_511 < 0 then x8_511 else (if x8_511 ≤ x13_511 then x8_511 else x13_511)) else x8_511)) (if x9_511 < x15_511 then x15_511 else (if x15_511 = x9_511 then (if x15_511 < 0 then x9_511 else (if x8_511 ≤ x13_511 then x9_511 else x15_511)) else x9_511)) x10_511 rec9
def mL_same_J498 (v_o_town_state_houses : Int32) (v_o_town_state_limit : Int32) (f_o_town_state_keys_cells : Nat → Int32) (f_o_town_state_weights_cells : Nat → Int32) (f_o_town_parents_cells : Nat → Int32) (f_o_town_children_cells : Nat → Int32) (f_o_town_weightIn_cells : Nat → Int32) (x13_498 : Int32) (x15_498 : Int32) (x5_498 : Int32) (x6_498 : Int32) (x7_498 : Int32) (x9_498 : Int32) (x8_498 : Int32) (x10_498 : Int32) (rec9 : Int32 → Int32 → Int32 → Int32 → Int32 → Int32 → Option (Int32 × Int32 × Int32 × Int32 × Int32 × Int32)) : Option (Int32 × Int32 × Int32 × Int32 × Int32 × Int32) :=
  ((mX7_savedBy_n v_o_town_state_houses v_o_town_state_limit f_o_town_state_keys_cells f_o_town_state_weights_cells f_o_town_parents_cells f_o_town_children_cells f_o_town_weightIn_cells x13_498).bind fun r501 =>
  (if r501 = x15_498 then
    mL_same_J511 x5_498 x6_498 x7_498 x9_498 x15_498 x13_498 x8_498 x10_498 rec9
  else
    none))
def mL_same_J472 (f_q : Nat → Int32) (f_na : Nat → Int32) (f_ho : Nat → Int32) (x10_472 : Int32) (f_we : Nat → Int32) (v_o_town_state_houses : Int32) (v_o_town_state_limit : Int32) (f_o_town_state_keys_cells : Nat → Int32) (f_o_town_state_weights_cells : Nat → Int32) (f_o_town_parents_cells : Nat → Int32) (f_o_town_children_cells : Nat → Int32) (f_o_town_weightIn_cells : Nat → Int32) (x13_472 : Int32) (x5_472 : Int32) (x6_472 : Int32) (x7_472 : Int32) (x9_472 : Int32) (x8_472 : Int32) (rec9 : Int32 → Int32 → Int32 → Int32 → Int32 → Int32 → Option (Int32 × Int32 × Int32 × Int32 × Int32 × Int32)) : Option (Int32 × Int32 × Int32 × Int32 × Int32 × Int32) :=
  ((mL_reason f_q f_na f_ho x10_472).bind fun r478 =>
  (if r478 = 0 then
    ((mL_below f_na f_we x10_472 1).bind fun r489 =>
    mL_same_J498 v_o_town_state_houses v_o_town_state_limit f_o_town_state_keys_cells f_o_town_state_weights_cells f_o_town_parents_cells f_o_town_children_cells f_o_town_weightIn_cells x13_472 r489 x5_472 x6_472 x7_472 x9_472 x8_472 x10_472 rec9)
  else
    mL_same_J498 v_o_town_state_houses v_o_town_state_limit f_o_town_state_keys_cells f_o_town_state_weights_cells f_o_town_parents_cells f_o_town_children_cells f_o_town_weightIn_cells x13_472 (-1) x5_472 x6_472 x7_472 x9_472 x8_472 x10_472 rec9))
def mL_same_J414 (v_o_town_state_houses : Int32) (f_o_town_state_keys_cells : Nat → Int32) (f_o_town_state_weights_cells : Nat → Int32) (f_o_town_parents_cells : Nat → Int32) (f_o_town_children_cells : Nat → Int32) (f_o_town_roads_cells : Nat → Int32) (f_o_town_namesIn_cells : Nat → Int32) (f_o_town_weightIn_cells : Nat → Int32) (x13_414 : Int32) (f_na : Nat → Int32) (f_we : Nat → Int32) (x10_414 : Int32) (f_ho : Nat → Int32) (f_q : Nat → Int32) (v_o_town_state_limit : Int32) (x5_414 : Int32) (x6_414 : Int32) (x7_414 : Int32) (x9_414 : Int32) (x8_414 : Int32) (rec9 : Int32 → Int32 → Int32 → Int32 → Int32 → Int32 → Option (Int32 × Int32 × Int32 × Int32 × Int32 × Int32)) : Option (Int32 × Int32 × Int32 × Int32 × Int32 × Int32) :=
  ((mX7_house_n v_o_town_state_houses f_o_town_state_keys_cells f_o_town_state_weights_cells f_o_town_parents_cells f_o_town_children_cells f_o_town_roads_cells f_o_town_namesIn_cells f_o_town_weightIn_cells x13_414 6).bind fun r419 =>
  ((mL_below f_na f_we x10_414 0).bind fun r427 =>
  (if r419 = r427 then
    ((mX7_house_n v_o_town_state_houses f_o_town_state_keys_cells f_o_town_state_weights_cells f_o_town_parents_cells f_o_town_children_cells f_o_town_roads_cells f_o_town_namesIn_cells f_o_town_weightIn_cells x13_414 7).bind fun r438 =>
    ((mL_below f_na f_we x10_414 1).bind fun r446 =>
    (if r438 = r446 then
      ((mX7_house_n v_o_town_state_houses f_o_town_state_keys_cells f_o_town_state_weights_cells f_o_town_parents_cells f_o_town_children_cells f_o_town_roads_cells f_o_town_namesIn_cells f_o_town_weightIn_cells x13_414 8).bind fun r457 =>
      ((mL_roads f_ho x10_414).bind fun r464 =>
      (if r457 = r464 then
        mL_same_J472 f_q f_na f_ho x10_414 f_we v_o_town_state_houses v_o_town_state_limit f_o_town_state_keys_cells f_o_town_state_weights_cells f_o_town_parents_cells f_o_town_children_cells f_o_town_weightIn_cells x13_414 x5_414 x6_414 x7_414 x9_414 x8_414 rec9
      else
        none)))
    else
      none)))
  else
    none)))
def mL_same_J326 (v_o_town_state_houses : Int32) (f_o_town_state_keys_cells : Nat → Int32) (f_o_town_state_weights_cells : Nat → Int32) (f_o_town_parents_cells : Nat → Int32) (f_o_town_children_cells : Nat → Int32) (f_o_town_roads_cells : Nat → Int32) (f_o_town_namesIn_cells : Nat → Int32) (f_o_town_weightIn_cells : Nat → Int32) (x13_326 : Int32) (x11_326 : Int32) (x12_326 : Int32) (x14_326 : Int32) (f_ho : Nat → Int32) (x10_326 : Int32) (f_na : Nat → Int32) (f_we : Nat → Int32) (f_q : Nat → Int32) (v_o_town_state_limit : Int32) (x5_326 : Int32) (x6_326 : Int32) (x7_326 : Int32) (x9_326 : Int32) (x8_326 : Int32) (rec9 : Int32 → Int32 → Int32 → Int32 → Int32 → Int32 → Option (Int32 × Int32 × Int32 × Int32 × Int32 × Int32)) : Option (Int32 × Int32 × Int32 × Int32 × Int32 × Int32) :=
  ((mX7_house_n v_o_town_state_houses f_o_town_state_keys_cells f_o_town_state_weights_cells f_o_town_parents_cells f_o_town_children_cells f_o_town_roads_cells f_o_town_namesIn_cells f_o_town_weightIn_cells x13_326 0).bind fun r330 =>
  (if r330 = x11_326 then
    ((mX7_house_n v_o_town_state_houses f_o_town_state_keys_cells f_o_town_state_weights_cells f_o_town_parents_cells f_o_town_children_cells f_o_town_roads_cells f_o_town_namesIn_cells f_o_town_weightIn_cells x13_326 1).bind fun r342 =>
    (if r342 = x12_326 then
      ((mX7_house_n v_o_town_state_houses f_o_town_state_keys_cells f_o_town_state_weights_cells f_o_town_parents_cells f_o_town_children_cells f_o_town_roads_cells f_o_town_namesIn_cells f_o_town_weightIn_cells x13_326 2).bind fun r354 =>
      ((remO x11_326 (1 <<< ((3 * x14_326) &&& 31))).bind fun r365 =>
      (if r354 = r365 then
        ((mX7_house_n v_o_town_state_houses f_o_town_state_keys_cells f_o_town_state_weights_cells f_o_town_parents_cells f_o_town_children_cells f_o_town_roads_cells f_o_town_namesIn_cells f_o_town_weightIn_cells x13_326 3).bind fun r373 =>
        (if r373 = x14_326 then
          ((mX7_house_n v_o_town_state_houses f_o_town_state_keys_cells f_o_town_state_weights_cells f_o_town_parents_cells f_o_town_children_cells f_o_town_roads_cells f_o_town_namesIn_cells f_o_town_weightIn_cells x13_326 4).bind fun r385 =>
          ((mL_children f_ho x10_326).bind fun r392 =>
          (if r385 = r392 then
            ((mX7_house_n v_o_town_state_houses f_o_town_state_keys_cells f_o_town_state_weights_cells f_o_town_parents_cells f_o_town_children_cells f_o_town_roads_cells f_o_town_namesIn_cells f_o_town_weightIn_cells x13_326 5).bind fun r402 =>
            ((rdA 15 f_na x10_326).bind fun r408 =>
            (if r402 = r408 then
              mL_same_J414 v_o_town_state_houses f_o_town_state_keys_cells f_o_town_state_weights_cells f_o_town_parents_cells f_o_town_children_cells f_o_town_roads_cells f_o_town_namesIn_cells f_o_town_weightIn_cells x13_326 f_na f_we x10_326 f_ho f_q v_o_town_state_limit x5_326 x6_326 x7_326 x9_326 x8_326 rec9
            else
              none)))
          else
            none)))
        else
          none))
      else
        none)))
    else
      none))
  else
    none))
def mL_same_J282 (f_ho : Nat → Int32) (x10_282 : Int32) (x5_282 : Int32) (x6_282 : Int32) (x7_282 : Int32) (x8_282 : Int32) (x9_282 : Int32) (v_o_town_state_houses : Int32) (f_o_town_state_keys_cells : Nat → Int32) (f_o_town_state_weights_cells : Nat → Int32) (f_o_town_parents_cells : Nat → Int32) (f_o_town_children_cells : Nat → Int32) (f_o_town_roads_cells : Nat → Int32) (f_o_town_namesIn_cells : Nat → Int32) (f_o_town_weightIn_cells : Nat → Int32) (x11_282 : Int32) (x12_282 : Int32) (f_na : Nat → Int32) (f_we : Nat → Int32) (f_q : Nat → Int32) (v_o_town_state_limit : Int32) (rec9 : Int32 → Int32 → Int32 → Int32 → Int32 → Int32 → Option (Int32 × Int32 × Int32 × Int32 × Int32 × Int32)) : Option (Int32 × Int32 × Int32 × Int32 × Int32 × Int32) :=
  ((rdA 15 f_ho x10_282).bind fun r286 =>
  (if r286 = 0 then
    mL_same_J545 x5_282 x6_282 x7_282 x8_282 x9_282 x10_282 rec9
  else
    ((mL_index f_ho x10_282).bind fun r297 =>
    (if x10_282 = 0 then
      mL_same_J326 v_o_town_state_houses f_o_town_state_keys_cells f_o_town_state_weights_cells f_o_town_parents_cells f_o_town_children_cells f_o_town_roads_cells f_o_town_namesIn_cells f_o_town_weightIn_cells r297 x11_282 x12_282 0 f_ho x10_282 f_na f_we f_q v_o_town_state_limit x5_282 x6_282 x7_282 x9_282 x8_282 rec9
    else
      ((mL_parent f_ho x10_282).bind fun r317 =>
      mL_same_J326 v_o_town_state_houses f_o_town_state_keys_cells f_o_town_state_weights_cells f_o_town_parents_cells f_o_town_children_cells f_o_town_roads_cells f_o_town_namesIn_cells f_o_town_weightIn_cells r297 x11_282 x12_282 (x12_282 - (mL_length r317)) f_ho x10_282 f_na f_we f_q v_o_town_state_limit x5_282 x6_282 x7_282 x9_282 x8_282 rec9)))))
def mL_same_J242 (f_na : Nat → Int32) (x10_242 : Int32) (f_ho : Nat → Int32) (f_we : Nat → Int32) (x5_242 : Int32) (x6_242 : Int32) (x7_242 : Int32) (x8_242 : Int32) (x9_242 : Int32) (v_o_town_state_houses : Int32) (f_o_town_state_keys_cells : Nat → Int32) (f_o_town_state_weights_cells : Nat → Int32) (f_o_town_parents_cells : Nat → Int32) (f_o_town_children_cells : Nat → Int32) (f_o_town_roads_cells : Nat → Int32) (f_o_town_namesIn_cells : Nat → Int32) (f_o_town_weightIn_cells : Nat → Int32) (x11_242 : Int32) (x12_242 : Int32) (f_q : Nat → Int32) (v_o_town_state_limit : Int32) (rec9 : Int32 → Int32 → Int32 → Int32 → Int32 → Int32 → Option (Int32 × Int32 × Int32 × Int32 × Int32 × Int32)) : Option (Int32 × Int32 × Int32 × Int32 × Int32 × Int32) :=
  ((rdA 15 f_na x10_242).bind fun r247 =>
  ((rdA 15 f_ho x10_242).bind fun r257 =>
  ((rdA 15 f_na x10_242).bind fun r266 =>
  (if r266 = 1 then
    ((rdA 15 f_we x10_242).bind fun r274 =>
    mL_same_J282 f_ho x10_242 (x5_242 + r247) (x6_242 + r257) (x7_242 + r274) x8_242 x9_242 v_o_town_state_houses f_o_town_state_keys_cells f_o_town_state_weights_cells f_o_town_parents_cells f_o_town_children_cells f_o_town_roads_cells f_o_town_namesIn_cells f_o_town_weightIn_cells x11_242 x12_242 f_na f_we f_q v_o_town_state_limit rec9)
  else
    mL_same_J282 f_ho x10_242 (x5_242 + r247) (x6_242 + r257) (x7_242 + 0) x8_242 x9_242 v_o_town_state_houses f_o_town_state_keys_cells f_o_town_state_weights_cells f_o_town_parents_cells f_o_town_children_cells f_o_town_roads_cells f_o_town_namesIn_cells f_o_town_weightIn_cells x11_242 x12_242 f_na f_we f_q v_o_town_state_limit rec9))))
def mL_same_J164 (x10_164 : Int32) (f_na : Nat → Int32) (f_ho : Nat → Int32) (f_we : Nat → Int32) (x5_164 : Int32) (x6_164 : Int32) (x7_164 : Int32) (x8_164 : Int32) (x9_164 : Int32) (v_o_town_state_houses : Int32) (f_o_town_state_keys_cells : Nat → Int32) (f_o_town_state_weights_cells : Nat → Int32) (f_o_town_parents_cells : Nat → Int32) (f_o_town_children_cells : Nat → Int32) (f_o_town_roads_cells : Nat → Int32) (f_o_town_namesIn_cells : Nat → Int32) (f_o_town_weightIn_cells : Nat → Int32) (x11_164 : Int32) (x12_164 : Int32) (f_q : Nat → Int32) (v_o_town_state_limit : Int32) (f_o_town_homes_cells : Nat → Int32) (rec9 : Int32 → Int32 → Int32 → Int32 → Int32 → Int32 → Option (Int32 × Int32 × Int32 × Int32 × Int32 × Int32)) : Option (Int32 × Int32 × Int32 × Int32 × Int32 × Int32) :=
  (if x10_164 ≤ 0 then
    mL_same_J242 f_na x10_164 f_ho f_we x5_164 x6_164 x7_164 x8_164 x9_164 v_o_town_state_houses f_o_town_state_keys_cells f_o_town_state_weights_cells f_o_town_parents_cells f_o_town_children_cells f_o_town_roads_cells f_o_town_namesIn_cells f_o_town_weightIn_cells x11_164 x12_164 f_q v_o_town_state_limit rec9
  else
    ((rdA 15 f_na x10_164).bind fun r172 =>
    (if r172 = 1 then
      ((mL_rank f_na x10_164).bind fun r180 =>
      ((mX7_nth_n f_o_town_state_keys_cells f_o_town_state_weights_cells f_o_town_roads_cells f_o_town_namesIn_cells f_o_town_homes_cells r180 0).bind fun r189 =>
      (if r189 = x11_164 then
        ((mX7_nth_n f_o_town_state_keys_cells f_o_town_state_weights_cells f_o_town_roads_cells f_o_town_namesIn_cells f_o_town_homes_cells r180 1).bind fun r201 =>
        (if r201 = x12_164 then
          ((mX7_nth_n f_o_town_state_keys_cells f_o_town_state_weights_cells f_o_town_roads_cells f_o_town_namesIn_cells f_o_town_homes_cells r180 2).bind fun r213 =>
          ((rdA 15 f_we x10_164).bind fun r219 =>
          (if r213 = r219 then
            ((mX7_nth_n f_o_town_state_keys_cells f_o_town_state_weights_cells f_o_town_roads_cells f_o_town_namesIn_cells f_o_town_homes_cells r180 3).bind fun r227 =>
            ((mL_roads f_ho x10_164).bind fun r234 =>
            (if r227 = r234 then
              mL_same_J242 f_na x10_164 f_ho f_we x5_164 x6_164 x7_164 x8_164 x9_164 v_o_town_state_houses f_o_town_state_keys_cells f_o_town_state_weights_cells f_o_town_parents_cells f_o_town_children_cells f_o_town_roads_cells f_o_town_namesIn_cells f_o_town_weightIn_cells x11_164 x12_164 f_q v_o_town_state_limit rec9
            else
              none)))
          else
            none)))
        else
          none))
      else
        none)))
    else
      mL_same_J242 f_na x10_164 f_ho f_we x5_164 x6_164 x7_164 x8_164 x9_164 v_o_town_state_houses f_o_town_state_keys_cells f_o_town_state_weights_cells f_o_town_parents_cells f_o_town_children_cells f_o_town_roads_cells f_o_town_namesIn_cells f_o_town_weightIn_cells x11_164 x12_164 f_q v_o_town_state_limit rec9)))
def mL_same_J129 (v_o_town_state_houses : Int32) (v_o_town_state_limit : Int32) (f_o_town_state_keys_cells : Nat → Int32) (f_o_town_state_weights_cells : Nat → Int32) (f_o_town_parents_cells : Nat → Int32) (f_o_town_children_cells : Nat → Int32) (x11_129 : Int32) (x12_129 : Int32) (f_ho : Nat → Int32) (x10_129 : Int32) (f_q : Nat → Int32) (f_na : Nat → Int32) (f_we : Nat → Int32) (x5_129 : Int32) (x6_129 : Int32) (x7_129 : Int32) (x8_129 : Int32) (x9_129 : Int32) (f_o_town_roads_cells : Nat → Int32) (f_o_town_namesIn_cells : Nat → Int32) (f_o_town_weightIn_cells : Nat → Int32) (f_o_town_homes_cells : Nat → Int32) (rec9 : Int32 → Int32 → Int32 → Int32 → Int32 → Int32 → Option (Int32 × Int32 × Int32 × Int32 × Int32 × Int32)) : Option (Int32 × Int32 × Int32 × Int32 × Int32 × Int32) :=
  ((mX7_reason_n v_o_town_state_houses v_o_town_state_limit f_o_town_state_keys_cells f_o_town_state_weights_cells f_o_town_parents_cells f_o_town_children_cells x11_129 x12_129).bind fun r134 =>
  ((rdA 15 f_ho x10_129).bind fun r141 =>
  (if r141 = 1 then
    ((mL_reason f_q f_na f_ho x10_129).bind fun r152 =>
    (if r134 = r152 then
      mL_same_J164 x10_129 f_na f_ho f_we x5_129 x6_129 x7_129 x8_129 x9_129 v_o_town_state_houses f_o_town_state_keys_cells f_o_town_state_weights_cells f_o_town_parents_cells f_o_town_children_cells f_o_town_roads_cells f_o_town_namesIn_cells f_o_town_weightIn_cells x11_129 x12_129 f_q v_o_town_state_limit f_o_town_homes_cells rec9
    else
      none))
  else
    (if r134 = (-1) then
      mL_same_J164 x10_129 f_na f_ho f_we x5_129 x6_129 x7_129 x8_129 x9_129 v_o_town_state_houses f_o_town_state_keys_cells f_o_town_state_weights_cells f_o_town_parents_cells f_o_town_children_cells f_o_town_roads_cells f_o_town_namesIn_cells f_o_town_weightIn_cells x11_129 x12_129 f_q v_o_town_state_limit f_o_town_homes_cells rec9
    else
      none))))
def mL_same_J78 (x10_78 : Int32) (v_o_town_state_houses : Int32) (v_o_town_state_limit : Int32) (f_o_town_state_keys_cells : Nat → Int32) (f_o_town_state_weights_cells : Nat → Int32) (f_o_town_parents_cells : Nat → Int32) (f_o_town_children_cells : Nat → Int32) (x11_78 : Int32) (x12_78 : Int32) (f_ho : Nat → Int32) (f_q : Nat → Int32) (f_na : Nat → Int32) (f_we : Nat → Int32) (x5_78 : Int32) (x6_78 : Int32) (x7_78 : Int32) (x8_78 : Int32) (x9_78 : Int32) (f_o_town_roads_cells : Nat → Int32) (f_o_town_namesIn_cells : Nat → Int32) (f_o_town_weightIn_cells : Nat → Int32) (f_o_town_homes_cells : Nat → Int32) (rec9 : Int32 → Int32 → Int32 → Int32 → Int32 → Int32 → Option (Int32 × Int32 × Int32 × Int32 × Int32 × Int32)) : Option (Int32 × Int32 × Int32 × Int32 × Int32 × Int32) :=
  (if x10_78 ≤ 0 then
    mL_same_J129 v_o_town_state_houses v_o_town_state_limit f_o_town_state_keys_cells f_o_town_state_weights_cells f_o_town_parents_cells f_o_town_children_cells x11_78 x12_78 f_ho x10_78 f_q f_na f_we x5_78 x6_78 x7_78 x8_78 x9_78 f_o_town_roads_cells f_o_town_namesIn_cells f_o_town_weightIn_cells f_o_town_homes_cells rec9
  else
    ((mX7_rank_n f_o_town_state_keys_cells f_o_town_namesIn_cells f_o_town_homes_cells x11_78 x12_78).bind fun r88 =>
    ((mL_rank f_na x10_78).bind fun r94 =>
    (if r88 = r94 then
      ((mX7_weight_n v_o_town_state_houses f_o_town_state_keys_cells f_o_town_state_weights_cells x11_78 x12_78).bind fun r105 =>
      ((rdA 15 f_na x10_78).bind fun r111 =>
      (if r111 = 1 then
        ((rdA 15 f_we x10_78).bind fun r119 =>
        (if r105 = r119 then
          mL_same_J129 v_o_town_state_houses v_o_town_state_limit f_o_town_state_keys_cells f_o_town_state_weights_cells f_o_town_parents_cells f_o_town_children_cells x11_78 x12_78 f_ho x10_78 f_q f_na f_we x5_78 x6_78 x7_78 x8_78 x9_78 f_o_town_roads_cells f_o_town_namesIn_cells f_o_town_weightIn_cells f_o_town_homes_cells rec9
        else
          none))
      else
        (if r105 = (-1) then
          mL_same_J129 v_o_town_state_houses v_o_town_state_limit f_o_town_state_keys_cells f_o_town_state_weights_cells f_o_town_parents_cells f_o_town_children_cells x11_78 x12_78 f_ho x10_78 f_q f_na f_we x5_78 x6_78 x7_78 x8_78 x9_78 f_o_town_roads_cells f_o_town_namesIn_cells f_o_town_weightIn_cells f_o_town_homes_cells rec9
        else
          none))))
    else
      none))))
def mL_same_L18 (v_o_town_state_houses : Int32) (f_o_town_state_keys_cells : Nat → Int32) (f_ho : Nat → Int32) (f_o_town_namesIn_cells : Nat → Int32) (f_na : Nat → Int32) (f_we : Nat → Int32) (v_o_town_state_limit : Int32) (f_o_town_state_weights_cells : Nat → Int32) (f_o_town_parents_cells : Nat → Int32) (f_o_town_children_cells : Nat → Int32) (f_q : Nat → Int32) (f_o_town_roads_cells : Nat → Int32) (f_o_town_weightIn_cells : Nat → Int32) (f_o_town_homes_cells : Nat → Int32) : Nat → (Int32) → (Int32) → (Int32) → (Int32) → (Int32) → (Int32) → Option (Int32 × Int32 × Int32 × Int32 × Int32 × Int32)
  | 0, _, _, _, _, _, _ => none
  | n + 1, x5_18, x6_18, x7_18, x8_18, x9_18, x10_18 =>
    (if 15 ≤ x10_18 then
      some (x5_18, x6_18, x7_18, x8_18, x9_18, x10_18)
    else
      ((mL_letters x10_18).bind fun r27 =>
      ((mX7_houseOf_n v_o_town_state_houses f_o_town_state_keys_cells r27 (mL_length x10_18)).bind fun r44 =>
      ((mL_index f_ho x10_18).bind fun r51 =>
      (if r44 = r51 then
        ((mX7_count_n v_o_town_state_houses f_o_town_state_keys_cells f_o_town_namesIn_cells r27 (mL_length x10_18)).bind fun r62 =>
        ((mL_below f_na f_we x10_18 0).bind fun r70 =>
        (if r62 = r70 then
          mL_same_J78 x10_18 v_o_town_state_houses v_o_town_state_limit f_o_town_state_keys_cells f_o_town_state_weights_cells f_o_town_parents_cells f_o_town_children_cells r27 (mL_length x10_18) f_ho f_q f_na f_we x5_18 x6_18 x7_18 x8_18 x9_18 f_o_town_roads_cells f_o_town_namesIn_cells f_o_town_weightIn_cells f_o_town_homes_cells (mL_same_L18 v_o_town_state_houses f_o_town_state_keys_cells f_ho f_o_town_namesIn_cells f_na f_we v_o_town_state_limit f_o_town_state_weights_cells f_o_town_parents_cells f_o_town_children_cells f_q f_o_town_roads_cells f_o_town_weightIn_cells f_o_town_homes_cells n)
        else
          none)))
      else
        none)))))
def mL_same (v_o_town_state_houses : Int32) (v_o_town_state_limit : Int32) (v_o_town_state_movedIn : Int32) (v_o_town_state_evicted : Int32) (v_o_town_state_built : Int32) (v_o_town_state_tornDown : Int32) (f_o_town_state_keys_cells : Nat → Int32) (f_o_town_state_weights_cells : Nat → Int32) (f_o_town_parents_cells : Nat → Int32) (f_o_town_children_cells : Nat → Int32) (f_o_town_roads_cells : Nat → Int32) (f_o_town_namesIn_cells : Nat → Int32) (f_o_town_weightIn_cells : Nat → Int32) (f_o_town_homes_cells : Nat → Int32) (v_o_text_length : Int32) (f_q : Nat → Int32) (f_na : Nat → Int32) (f_we : Nat → Int32) (f_ho : Nat → Int32) : Option (Int32) :=
  ((mL_same_L18 v_o_town_state_houses f_o_town_state_keys_cells f_ho f_o_town_namesIn_cells f_na f_we v_o_town_state_limit f_o_town_state_weights_cells f_o_town_parents_cells f_o_town_children_cells f_q f_o_town_roads_cells f_o_town_weightIn_cells f_o_town_homes_cells FU 0 0 0 (-1) (-1) 0).bind fun (y5_18, y6_18, y7_18, y8_18, y9_18, y10_18) =>
  ((mX7_whole_n v_o_town_state_houses v_o_town_state_limit v_o_town_state_movedIn v_o_town_state_evicted v_o_town_state_built v_o_town_state_tornDown f_o_town_state_keys_cells f_o_town_state_weights_cells f_o_town_parents_cells f_o_town_roads_cells f_o_town_namesIn_cells f_o_town_homes_cells v_o_text_length 0).bind fun r553 =>
  (if r553 = y5_18 then
    ((mX7_whole_n v_o_town_state_houses v_o_town_state_limit v_o_town_state_movedIn v_o_town_state_evicted v_o_town_state_built v_o_town_state_tornDown f_o_town_state_keys_cells f_o_town_state_weights_cells f_o_town_parents_cells f_o_town_roads_cells f_o_town_namesIn_cells f_o_town_homes_cells v_o_text_length 1).bind fun r563 =>
    (if r563 = y6_18 then
      ((mX7_whole_n v_o_town_state_houses v_o_town_state_limit v_o_town_state_movedIn v_o_town_state_evicted v_o_town_state_built v_o_town_state_tornDown f_o_town_state_keys_cells f_o_town_state_weights_cells f_o_town_parents_cells f_o_town_roads_cells f_o_town_namesIn_cells f_o_town_homes_cells v_o_text_length 3).bind fun r573 =>
      ((mL_cost f_na f_we f_ho).bind fun r580 =>
      (if r573 = r580 then
        ((mX7_whole_n v_o_town_state_houses v_o_town_state_limit v_o_town_state_movedIn v_o_town_state_evicted v_o_town_state_built v_o_town_state_tornDown f_o_town_state_keys_cells f_o_town_state_weights_cells f_o_town_parents_cells f_o_town_roads_cells f_o_town_namesIn_cells f_o_town_homes_cells v_o_text_length 7).bind fun r589 =>
        (if r589 = (f_q 1) then
          ((mX7_whole_n v_o_town_state_houses v_o_town_state_limit v_o_town_state_movedIn v_o_town_state_evicted v_o_town_state_built v_o_town_state_tornDown f_o_town_state_keys_cells f_o_town_state_weights_cells f_o_town_parents_cells f_o_town_roads_cells f_o_town_namesIn_cells f_o_town_homes_cells v_o_text_length 8).bind fun r601 =>
          (if r601 = (f_q 2) then
            ((mX7_whole_n v_o_town_state_houses v_o_town_state_limit v_o_town_state_movedIn v_o_town_state_evicted v_o_town_state_built v_o_town_state_tornDown f_o_town_state_keys_cells f_o_town_state_weights_cells f_o_town_parents_cells f_o_town_roads_cells f_o_town_namesIn_cells f_o_town_homes_cells v_o_text_length 9).bind fun r613 =>
            (if r613 = (f_q 3) then
              ((mX7_whole_n v_o_town_state_houses v_o_town_state_limit v_o_town_state_movedIn v_o_town_state_evicted v_o_town_state_built v_o_town_state_tornDown f_o_town_state_keys_cells f_o_town_state_weights_cells f_o_town_parents_cells f_o_town_roads_cells f_o_town_namesIn_cells f_o_town_homes_cells v_o_text_length 10).bind fun r625 =>
              (if r625 = (f_q 4) then
                ((mX7_house_n v_o_town_state_houses f_o_town_state_keys_cells f_o_town_state_weights_cells f_o_town_parents_cells f_o_town_children_cells f_o_town_roads_cells f_o_town_namesIn_cells f_o_town_weightIn_cells 0 7).bind fun r638 =>
                (if r638 = y7_18 then
                  ((mX7_bestMove v_o_town_state_houses v_o_town_state_limit f_o_town_state_keys_cells f_o_town_state_weights_cells f_o_town_parents_cells f_o_town_children_cells f_o_town_weightIn_cells).bind fun r647 =>
                  (if r647 = y8_18 then
                    some 1
                  else
                    none))
                else
                  none))
              else
                none))
            else
              none))
          else
            none))
        else
          none))
      else
        none)))
    else
      none))
  else
    none)))
abbrev rmL_same : Room := { frames := 7, cells := 0, slots := 0, locals := 150 }
abbrev wL_same (cA : ClassId) (a_o a_o_town a_o_trial a_o_saves a_o_text a_o_reader a_o_town_state a_o_town_parents a_o_town_children a_o_town_roads a_o_town_namesIn a_o_town_weightIn a_o_town_homes a_o_town_leaving a_o_town_state_keys a_o_town_state_weights a_o_town_state_keys_cells a_o_town_state_weights_cells a_o_town_parents_cells a_o_town_children_cells a_o_town_roads_cells a_o_town_namesIn_cells a_o_town_weightIn_cells a_o_town_homes_cells a_o_text_signs a_q a_na a_we a_ho : Nat) (v_o_town_state_houses v_o_town_state_limit v_o_town_state_movedIn v_o_town_state_evicted v_o_town_state_built v_o_town_state_tornDown : Int32) (f_o_town_state_keys_cells f_o_town_state_weights_cells f_o_town_parents_cells f_o_town_children_cells f_o_town_roads_cells f_o_town_namesIn_cells f_o_town_weightIn_cells f_o_town_homes_cells : Nat → Int32) (v_o_text_length : Int32) (f_q f_na f_we f_ho : Nat → Int32) : va_W := [(a_o, .inr (6, [.ref a_o_town, .ref a_o_trial, .ref a_o_saves, .ref a_o_text, .ref a_o_reader])), (a_o_town, .inr (4, [.ref a_o_town_state, .ref a_o_town_parents, .ref a_o_town_children, .ref a_o_town_roads, .ref a_o_town_namesIn, .ref a_o_town_weightIn, .ref a_o_town_homes, .ref a_o_town_leaving])), (a_o_town_state, .inr (3, [.ref a_o_town_state_keys, .ref a_o_town_state_weights, .int v_o_town_state_houses, .int v_o_town_state_limit, .int v_o_town_state_movedIn, .int v_o_town_state_evicted, .int v_o_town_state_built, .int v_o_town_state_tornDown])), (a_o_town_state_keys, .inr (2, [.ref a_o_town_state_keys_cells])), (a_o_town_state_keys_cells, .inl (cA, 193, .inl f_o_town_state_keys_cells)), (a_o_town_state_weights, .inr (2, [.ref a_o_town_state_weights_cells])), (a_o_town_state_weights_cells, .inl (cA, 193, .inl f_o_town_state_weights_cells)), (a_o_town_parents, .inr (2, [.ref a_o_town_parents_cells])), (a_o_town_parents_cells, .inl (cA, 193, .inl f_o_town_parents_cells)), (a_o_town_children, .inr (2, [.ref a_o_town_children_cells])), (a_o_town_children_cells, .inl (cA, 193, .inl f_o_town_children_cells)), (a_o_town_roads, .inr (2, [.ref a_o_town_roads_cells])), (a_o_town_roads_cells, .inl (cA, 193, .inl f_o_town_roads_cells)), (a_o_town_namesIn, .inr (2, [.ref a_o_town_namesIn_cells])), (a_o_town_namesIn_cells, .inl (cA, 193, .inl f_o_town_namesIn_cells)), (a_o_town_weightIn, .inr (2, [.ref a_o_town_weightIn_cells])), (a_o_town_weightIn_cells, .inl (cA, 193, .inl f_o_town_weightIn_cells)), (a_o_town_homes, .inr (2, [.ref a_o_town_homes_cells])), (a_o_town_homes_cells, .inl (cA, 24, .inl f_o_town_homes_cells)), (a_o_text, .inr (1, [.ref a_o_text_signs, .int v_o_text_length])), (a_q, .inl (cA, 5, .inl f_q)), (a_na, .inl (cA, 15, .inl f_na)), (a_we, .inl (cA, 15, .inl f_we)), (a_ho, .inl (cA, 15, .inl f_ho))]
theorem hdL_same : yL_same.cls = RL ∧ yL_same.cls ≠ "java/lang/invoke/MethodHandle" ∧ yL_same.cls ≠ "java/lang/invoke/VarHandle" ∧ (parseMethodDescriptor yL_same.desc).map (fun d => d.parameters.length) = some 5 := by decide +kernel
set_option maxHeartbeats 4000000 in
set_option maxRecDepth 100000 in
theorem wL_same_L18 {p : Program} {l : Launch} {e : Env} {s : State} {m : MethodId} {args : Array Value} {below : List Frame} {meth : Method} {c : Code} {Q : State → Prop} {H : Heap} (dC : Nat → ClassId) (dI : Nat → Nat → Nat) (cA : ClassId) (a_o a_o_town a_o_trial a_o_saves a_o_text a_o_reader a_o_town_state a_o_town_parents a_o_town_children a_o_town_roads a_o_town_namesIn a_o_town_weightIn a_o_town_homes a_o_town_leaving a_o_town_state_keys a_o_town_state_weights a_o_town_state_keys_cells a_o_town_state_weights_cells a_o_town_parents_cells a_o_town_children_cells a_o_town_roads_cells a_o_town_namesIn_cells a_o_town_weightIn_cells a_o_town_homes_cells a_o_text_signs a_q a_na a_we a_ho : Nat) (v_o_town_state_houses v_o_town_state_limit v_o_town_state_movedIn v_o_town_state_evicted v_o_town_state_built v_o_town_state_tornDown : Int32) (f_o_town_state_keys_cells f_o_town_state_weights_cells f_o_town_parents_cells f_o_town_children_cells f_o_town_roads_cells f_o_town_namesIn_cells f_o_town_weightIn_cells f_o_town_homes_cells : Nat → Int32) (v_o_text_length : Int32) (f_q f_na f_we f_ho : Nat → Int32) (y5_18 y6_18 y7_18 y8_18 y9_18 y10_18 : Int32) (hx : p.tables.exec = Jvm.exec) (hb : c.code = cL_same) (hml : c.maxLocals = 16) (hown : s.vm.findClass RL = some m.cls) (hts : ∀ w ∈ wsL_same, w.before args s = true) (hK : va_K (dC, dI) vwCl [(cA, .int)] s) (hP : va_P (dC, dI) vwCl [(a_o, .inr (6, [.ref a_o_town, .ref a_o_trial, .ref a_o_saves, .ref a_o_text, .ref a_o_reader])), (a_o_town, .inr (4, [.ref a_o_town_state, .ref a_o_town_parents, .ref a_o_town_children, .ref a_o_town_roads, .ref a_o_town_namesIn, .ref a_o_town_weightIn, .ref a_o_town_homes, .ref a_o_town_leaving])), (a_o_town_state, .inr (3, [.ref a_o_town_state_keys, .ref a_o_town_state_weights, .int v_o_town_state_houses, .int v_o_town_state_limit, .int v_o_town_state_movedIn, .int v_o_town_state_evicted, .int v_o_town_state_built, .int v_o_town_state_tornDown])), (a_o_town_state_keys, .inr (2, [.ref a_o_town_state_keys_cells])), (a_o_town_state_keys_cells, .inl (cA, 193, .inl f_o_town_state_keys_cells)), (a_o_town_state_weights, .inr (2, [.ref a_o_town_state_weights_cells])), (a_o_town_state_weights_cells, .inl (cA, 193, .inl f_o_town_state_weights_cells)), (a_o_town_parents, .inr (2, [.ref a_o_town_parents_cells])), (a_o_town_parents_cells, .inl (cA, 193, .inl f_o_town_parents_cells)), (a_o_town_children, .inr (2, [.ref a_o_town_children_cells])), (a_o_town_children_cells, .inl (cA, 193, .inl f_o_town_children_cells)), (a_o_town_roads, .inr (2, [.ref a_o_town_roads_cells])), (a_o_town_roads_cells, .inl (cA, 193, .inl f_o_town_roads_cells)), (a_o_town_namesIn, .inr (2, [.ref a_o_town_namesIn_cells])), (a_o_town_namesIn_cells, .inl (cA, 193, .inl f_o_town_namesIn_cells)), (a_o_town_weightIn, .inr (2, [.ref a_o_town_weightIn_cells])), (a_o_town_weightIn_cells, .inl (cA, 193, .inl f_o_town_weightIn_cells)), (a_o_town_homes, .inr (2, [.ref a_o_town_homes_cells])), (a_o_town_homes_cells, .inl (cA, 24, .inl f_o_town_homes_cells)), (a_o_text, .inr (1, [.ref a_o_text_signs, .int v_o_text_length])), (a_q, .inl (cA, 5, .inl f_q)), (a_na, .inl (cA, 15, .inl f_na)), (a_we, .inl (cA, 15, .inl f_we)), (a_ho, .inl (cA, 15, .inl f_ho))] H)
    (kk0 : ∀ ls : Array Slot, lv_has ls 16 [(0, .ref a_o), (1, .ref a_q), (2, .ref a_na), (3, .ref a_we), (4, .ref a_ho), (5, .int y5_18), (6, .int y6_18), (7, .int y7_18), (8, .int y8_18), (9, .int y9_18), (10, .int y10_18)] → W p l e (headSpec wsL_same rmL_same).room s m args below meth c H [] 0 0 Q (F0 m 551 ls [])) :
    ∀ (n : Nat) (x5_18 x6_18 x7_18 x8_18 x9_18 x10_18 : Int32), mL_same_L18 v_o_town_state_houses f_o_town_state_keys_cells f_ho f_o_town_namesIn_cells f_na f_we v_o_town_state_limit f_o_town_state_weights_cells f_o_town_parents_cells f_o_town_children_cells f_q f_o_town_roads_cells f_o_town_weightIn_cells f_o_town_homes_cells n x5_18 x6_18 x7_18 x8_18 x9_18 x10_18 = some (y5_18, y6_18, y7_18, y8_18, y9_18, y10_18) → ∀ ls : Array Slot, lv_has ls 16 [(0, .ref a_o), (1, .ref a_q), (2, .ref a_na), (3, .ref a_we), (4, .ref a_ho), (5, .int x5_18), (6, .int x6_18), (7, .int x7_18), (8, .int x8_18), (9, .int x9_18), (10, .int x10_18)] → W p l e (headSpec wsL_same rmL_same).room s m args below meth c H [] 0 0 Q (F0 m 18 ls []) := by
  intro n
  induction n with
  | zero =>
    intro x5_18 x6_18 x7_18 x8_18 x9_18 x10_18 hm
    cases hm
  | succ n ih =>
    intro x5_18 x6_18 x7_18 x8_18 x9_18 x10_18 hm ls hl
    rw [mL_same_L18] at hm
    have hJ545 : ∀ (x5_545 x6_545 x7_545 x8_545 x9_545 x10_545 : Int32), mL_same_J545 x5_545 x6_545 x7_545 x8_545 x9_545 x10_545 (mL_same_L18 v_o_town_state_houses f_o_town_state_keys_cells f_ho f_o_town_namesIn_cells f_na f_we v_o_town_state_limit f_o_town_state_weights_cells f_o_town_parents_cells f_o_town_children_cells f_q f_o_town_roads_cells f_o_town_weightIn_cells f_o_town_homes_cells n) = some (y5_18, y6_18, y7_18, y8_18, y9_18, y10_18) → ∀ ls : Array Slot, lv_has ls 16 [(0, .ref a_o), (1, .ref a_q), (2, .ref a_na), (3, .ref a_we), (4, .ref a_ho), (5, .int x5_545), (6, .int x6_545), (7, .int x7_545), (8, .int x8_545), (9, .int x9_545), (10, .int x10_545)] → W p l e (headSpec wsL_same rmL_same).room s m args below meth c H [] 0 0 Q (F0 m 545 ls []) := by
      intro x5_545 x6_545 x7_545 x8_545 x9_545 x10_545 hm ls hl
      unfold mL_same_J545 at hm
      refine lv_iinc (v := (x10_545 + 1)) (lv' := [(10, .int (x10_545 + 1)), (0, .ref a_o), (1, .ref a_q), (2, .ref a_na), (3, .ref a_we), (4, .ref a_ho), (5, .int x5_545), (6, .int x6_545), (7, .int x7_545), (8, .int x8_545), (9, .int x9_545)]) hx hb dL_same_545 hl (k := 10) rfl rfl (by decide) rfl (fun ls hl => ?_)
      refine lv_goto (tgt := 18) hx hb dL_same_548 (by decide) ?_
      exact ih _ _ _ _ _ _ hm _ (lv_sub hl [1, 2, 3, 4, 5, 6, 7, 8, 9, 10, 0] rfl)
    have hJ511 : ∀ (x5_511 x6_511 x7_511 x8_511 x9_511 x10_511 x13_511 x15_511 : Int32), mL_same_J511 x5_511 x6_511 x7_511 x9_511 x15_511 x13_511 x8_511 x10_511 (mL_same_L18 v_o_town_state_houses f_o_town_state_keys_cells f_ho f_o_town_namesIn_cells f_na f_we v_o_town_state_limit f_o_town_state_weights_cells f_o_town_parents_cells f_o_town_children_cells f_q f_o_town_roads_cells f_o_town_weightIn_cells f_o_town_homes_cells n) = some (y5_18, y6_18, y7_18, y8_18, y9_18, y10_18) → ∀ ls : Array Slot, lv_has ls 16 [(0, .ref a_o), (1, .ref a_q), (2, .ref a_na), (3, .ref a_we), (4, .ref a_ho), (5, .int x5_511), (6, .int x6_511), (7, .int x7_511), (8, .int x8_511), (9, .int x9_511), (10, .int x10_511), (13, .int x13_511), (15, .int x15_511)] → W p l e (headSpec wsL_same rmL_same).room s m args below meth c H [] 0 0 Q (F0 m 511 ls []) := by
      intro x5_511 x6_511 x7_511 x8_511 x9_511 x10_511 x13_511 x15_511 hm ls hl
      unfold mL_same_J511 at hm
      refine lv_iload hx hb dL_same_511 (lv_at hl 12 rfl) ?_
      refine lv_iload hx hb dL_same_513 (lv_at hl 9 rfl) ?_
      refine lv_icmp_gt (tgt := 537) hx hb dL_same_515 (by decide) (fun c515 => ?_) (fun c515 => ?_)
      · try simp only [if_pos c515] at hm
        refine lv_iload hx hb dL_same_537 (lv_at hl 12 rfl) ?_
        refine lv_istore (lv' := [(9, .int x15_511), (0, .ref a_o), (1, .ref a_q), (2, .ref a_na), (3, .ref a_we), (4, .ref a_ho), (5, .int x5_511), (6, .int x6_511), (7, .int x7_511), (8, .int x8_511), (10, .int x10_511), (13, .int x13_511), (15, .int x15_511)]) hx hb dL_same_539 hl (by decide) rfl (fun ls hl => ?_)
        refine lv_iload hx hb dL_same_541 (lv_at hl 11 rfl) ?_
        refine lv_istore (lv' := [(8, .int x13_511), (9, .int x15_511), (0, .ref a_o), (1, .ref a_q), (2, .ref a_na), (3, .ref a_we), (4, .ref a_ho), (5, .int x5_511), (6, .int x6_511), (7, .int x7_511), (10, .int x10_511), (13, .int x13_511), (15, .int x15_511)]) hx hb dL_same_543 hl (by decide) rfl (fun ls hl => ?_)
        exact hJ545 x5_511 x6_511 x7_511 x13_511 x15_511 x10_511 hm _ (lv_sub hl [2, 3, 4, 5, 6, 7, 8, 9, 0, 1, 10] rfl)
      · try simp only [if_neg c515] at hm
        refine lv_iload hx hb dL_same_518 (lv_at hl 12 rfl) ?_
        refine lv_iload hx hb dL_same_520 (lv_at hl 9 rfl) ?_
        refine lv_icmp_ne (tgt := 545) hx hb dL_same_522 (by decide) (fun c522 => ?_) (fun c522 => ?_)
        · try simp only [if_neg c522] at hm
          exact hJ545 x5_511 x6_511 x7_511 x8_511 x9_511 x10_511 hm _ (lv_sub hl [0, 1, 2, 3, 4, 5, 6, 7, 8, 9, 10] rfl)
        · try simp only [if_pos c522] at hm
          refine lv_iload hx hb dL_same_525 (lv_at hl 12 rfl) ?_
          refine lv_if_lt (tgt := 545) hx hb dL_same_527 (by decide) (fun c527 => ?_) (fun c527 => ?_)
          · try simp only [if_pos c527] at hm
            exact hJ545 x5_511 x6_511 x7_511 x8_511 x9_511 x10_511 hm _ (lv_sub hl [0, 1, 2, 3, 4, 5, 6, 7, 8, 9, 10] rfl)
          · try simp only [if_neg c527] at hm
            refine lv_iload hx hb dL_same_530 (lv_at hl 11 rfl) ?_
            refine lv_iload hx hb dL_same_532 (lv_at hl 8 rfl) ?_
            refine lv_icmp_ge (tgt := 545) hx hb dL_same_534 (by decide) (fun c534 => ?_) (fun c534 => ?_)
            · try simp only [if_pos c534] at hm
              exact hJ545 x5_511 x6_511 x7_511 x8_511 x9_511 x10_511 hm _ (lv_sub hl [0, 1, 2, 3, 4, 5, 6, 7, 8, 9, 10] rfl)
            · try simp only [if_neg c534] at hm
              refine lv_iload hx hb dL_same_537 (lv_at hl 12 rfl) ?_
              refine lv_istore (lv' := [(9, .int x15_511), (0, .ref a_o), (1, .ref a_q), (2, .ref a_na), (3, .ref a_we), (4, .ref a_ho), (5, .int x5_511), (6, .int x6_511), (7, .int x7_511), (8, .int x8_511), (10, .int x10_511), (13, .int x13_511), (15, .int x15_511)]) hx hb dL_same_539 hl (by decide) rfl (fun ls hl => ?_)
              refine lv_iload hx hb dL_same_541 (lv_at hl 11 rfl) ?_
              refine lv_istore (lv' := [(8, .int x13_511), (9, .int x15_511), (0, .ref a_o), (1, .ref a_q), (2, .ref a_na), (3, .ref a_we), (4, .ref a_ho), (5, .int x5_511), (6, .int x6_511), (7, .int x7_511), (10, .int x10_511), (13, .int x13_511), (15, .int x15_511)]) hx hb dL_same_543 hl (by decide) rfl (fun ls hl => ?_)
              exact hJ545 x5_511 x6_511 x7_511 x13_511 x15_511 x10_511 hm _ (lv_sub hl [2, 3, 4, 5, 6, 7, 8, 9, 0, 1, 10] rfl)
    have hJ498 : ∀ (x5_498 x6_498 x7_498 x8_498 x9_498 x10_498 x13_498 x15_498 : Int32), mL_same_J498 v_o_town_state_houses v_o_town_state_limit f_o_town_state_keys_cells f_o_town_state_weights_cells f_o_town_parents_cells f_o_town_children_cells f_o_town_weightIn_cells x13_498 x15_498 x5_498 x6_498 x7_498 x9_498 x8_498 x10_498 (mL_same_L18 v_o_town_state_houses f_o_town_state_keys_cells f_ho f_o_town_namesIn_cells f_na f_we v_o_town_state_limit f_o_town_state_weights_cells f_o_town_parents_cells f_o_town_children_cells f_q f_o_town_roads_cells f_o_town_weightIn_cells f_o_town_homes_cells n) = some (y5_18, y6_18, y7_18, y8_18, y9_18, y10_18) → ∀ ls : Array Slot, lv_has ls 16 [(0, .ref a_o), (1, .ref a_q), (2, .ref a_na), (3, .ref a_we), (4, .ref a_ho), (5, .int x5_498), (6, .int x6_498), (7, .int x7_498), (8, .int x8_498), (9, .int x9_498), (10, .int x10_498), (13, .int x13_498), (15, .int x15_498)] → W p l e (headSpec wsL_same rmL_same).room s m args below meth c H [] 0 0 Q (F0 m 498 ls []) := by
      intro x5_498 x6_498 x7_498 x8_498 x9_498 x10_498 x13_498 x15_498 hm ls hl
      unfold mL_same_J498 at hm
      refine lv_aload_n hx hb dL_same_498 rfl (lv_at hl 0 rfl) ?_
      refine lv_iload hx hb dL_same_499 (lv_at hl 11 rfl) ?_
      obtain ⟨r501, e501, hm⟩ := bs hm
      try dsimp only at hm
      refine ro_callVe ⟨hx, hb, hml, hown, hts⟩ (kX7_savedBy_n l dC dI cA a_o a_o_town a_o_trial a_o_saves a_o_text a_o_reader a_o_town_state a_o_town_parents a_o_town_children a_o_town_roads a_o_town_namesIn a_o_town_weightIn a_o_town_homes a_o_town_leaving a_o_town_state_keys a_o_town_state_weights a_o_town_state_keys_cells a_o_town_state_weights_cells a_o_town_parents_cells a_o_town_children_cells a_o_town_weightIn_cells v_o_town_state_houses v_o_town_state_limit v_o_town_state_movedIn v_o_town_state_evicted v_o_town_state_built v_o_town_state_tornDown f_o_town_state_keys_cells f_o_town_state_weights_cells f_o_town_parents_cells f_o_town_children_cells f_o_town_weightIn_cells x13_498 r501 e501) (cwV 1 hts gL_same_X7_savedBy rfl rfl rfl hdX7_savedBy_n ⟨Nat.le_of_ble_eq_true rfl, Nat.le_of_ble_eq_true rfl⟩) (hP.sub [0, 1, 2, 3, 4, 5, 6, 7, 8, 9, 10, 15, 16] rfl) hK rfl rfl rfl hl.1 rfl (Nat.le_of_ble_eq_true rfl) dL_same_501 ⟨Nat.zero_le _, Nat.zero_le _⟩ ?_
      refine lv_iload hx hb dL_same_504 (lv_at hl 12 rfl) ?_
      refine lv_icmp_eq (tgt := 511) hx hb dL_same_506 (by decide) (fun c506 => ?_) (fun c506 => ?_)
      · rw [if_pos c506] at hm
        exact hJ511 x5_498 x6_498 x7_498 x8_498 x9_498 x10_498 x13_498 x15_498 hm _ (lv_sub hl [0, 1, 2, 3, 4, 5, 6, 7, 8, 9, 10, 11, 12] rfl)
      · rw [if_neg c506] at hm
        cases hm
    have hJ472 : ∀ (x5_472 x6_472 x7_472 x8_472 x9_472 x10_472 x13_472 : Int32), mL_same_J472 f_q f_na f_ho x10_472 f_we v_o_town_state_houses v_o_town_state_limit f_o_town_state_keys_cells f_o_town_state_weights_cells f_o_town_parents_cells f_o_town_children_cells f_o_town_weightIn_cells x13_472 x5_472 x6_472 x7_472 x9_472 x8_472 (mL_same_L18 v_o_town_state_houses f_o_town_state_keys_cells f_ho f_o_town_namesIn_cells f_na f_we v_o_town_state_limit f_o_town_state_weights_cells f_o_town_parents_cells f_o_town_children_cells f_q f_o_town_roads_cells f_o_town_weightIn_cells f_o_town_homes_cells n) = some (y5_18, y6_18, y7_18, y8_18, y9_18, y10_18) → ∀ ls : Array Slot, lv_has ls 16 [(0, .ref a_o), (1, .ref a_q), (2, .ref a_na), (3, .ref a_we), (4, .ref a_ho), (5, .int x5_472), (6, .int x6_472), (7, .int x7_472), (8, .int x8_472), (9, .int x9_472), (10, .int x10_472), (13, .int x13_472)] → W p l e (headSpec wsL_same rmL_same).room s m args below meth c H [] 0 0 Q (F0 m 472 ls []) := by
      intro x5_472 x6_472 x7_472 x8_472 x9_472 x10_472 x13_472 hm ls hl
      unfold mL_same_J472 at hm
      refine lv_iload hx hb dL_same_472 (lv_at hl 10 rfl) ?_
      refine lv_aload_n hx hb dL_same_474 rfl (lv_at hl 1 rfl) ?_
      refine lv_aload_n hx hb dL_same_475 rfl (lv_at hl 2 rfl) ?_
      refine lv_aload hx hb dL_same_476 (lv_at hl 4 rfl) ?_
      obtain ⟨r478, e478, hm⟩ := bs hm
      try dsimp only at hm
      refine ro_callSe ⟨hx, hb, hml, hown, hts⟩ (kL_reason l dC dI cA a_q a_na a_ho f_q f_na f_ho x10_472 r478 e478) (va_cwS 4 hts gL_same_L_reason rfl rfl rfl hdL_reason.2 ⟨Nat.le_of_ble_eq_true rfl, Nat.le_of_ble_eq_true rfl⟩) (hP.sub [20, 21, 23] rfl) hK rfl hl.1 rfl (Nat.le_of_ble_eq_true rfl) dL_same_478 ⟨Nat.zero_le _, Nat.zero_le _⟩ ?_
      refine lv_if_ne (tgt := 495) hx hb dL_same_481 (by decide) (fun c481 => ?_) (fun c481 => ?_)
      · rw [if_neg c481] at hm
        refine lv_iconst (v := (-1)) hx hb dL_same_495 (by decide) ?_
        refine lv_istore (lv' := [(15, .int (-1)), (0, .ref a_o), (1, .ref a_q), (2, .ref a_na), (3, .ref a_we), (4, .ref a_ho), (5, .int x5_472), (6, .int x6_472), (7, .int x7_472), (8, .int x8_472), (9, .int x9_472), (10, .int x10_472), (13, .int x13_472)]) hx hb dL_same_496 hl (by decide) rfl (fun ls hl => ?_)
        exact hJ498 x5_472 x6_472 x7_472 x8_472 x9_472 x10_472 x13_472 (-1) hm _ (lv_sub hl [1, 2, 3, 4, 5, 6, 7, 8, 9, 10, 11, 12, 0] rfl)
      · rw [if_pos c481] at hm
        refine lv_iload hx hb dL_same_484 (lv_at hl 10 rfl) ?_
        refine lv_aload_n hx hb dL_same_486 rfl (lv_at hl 2 rfl) ?_
        refine lv_aload_n hx hb dL_same_487 rfl (lv_at hl 3 rfl) ?_
        refine lv_iconst (v := 1) hx hb dL_same_488 (by decide) ?_
        obtain ⟨r489, e489, hm⟩ := bs hm
        try dsimp only at hm
        refine ro_callSe ⟨hx, hb, hml, hown, hts⟩ (kL_below l dC dI cA a_na a_we f_na f_we x10_472 1 r489 e489) (va_cwS 4 hts gL_same_L_below rfl rfl rfl hdL_below.2 ⟨Nat.le_of_ble_eq_true rfl, Nat.le_of_ble_eq_true rfl⟩) (hP.sub [21, 22] rfl) hK rfl hl.1 rfl (Nat.le_of_ble_eq_true rfl) dL_same_489 ⟨Nat.zero_le _, Nat.zero_le _⟩ ?_
        refine lv_goto (tgt := 496) hx hb dL_same_492 (by decide) ?_
        refine lv_istore (lv' := [(15, .int r489), (0, .ref a_o), (1, .ref a_q), (2, .ref a_na), (3, .ref a_we), (4, .ref a_ho), (5, .int x5_472), (6, .int x6_472), (7, .int x7_472), (8, .int x8_472), (9, .int x9_472), (10, .int x10_472), (13, .int x13_472)]) hx hb dL_same_496 hl (by decide) rfl (fun ls hl => ?_)
        exact hJ498 x5_472 x6_472 x7_472 x8_472 x9_472 x10_472 x13_472 r489 hm _ (lv_sub hl [1, 2, 3, 4, 5, 6, 7, 8, 9, 10, 11, 12, 0] rfl)
    have hJ414 : ∀ (x5_414 x6_414 x7_414 x8_414 x9_414 x10_414 x13_414 : Int32), mL_same_J414 v_o_town_state_houses f_o_town_state_keys_cells f_o_town_state_weights_cells f_o_town_parents_cells f_o_town_children_cells f_o_town_roads_cells f_o_town_namesIn_cells f_o_town_weightIn_cells x13_414 f_na f_we x10_414 f_ho f_q v_o_town_state_limit x5_414 x6_414 x7_414 x9_414 x8_414 (mL_same_L18 v_o_town_state_houses f_o_town_state_keys_cells f_ho f_o_town_namesIn_cells f_na f_we v_o_town_state_limit f_o_town_state_weights_cells f_o_town_parents_cells f_o_town_children_cells f_q f_o_town_roads_cells f_o_town_weightIn_cells f_o_town_homes_cells n) = some (y5_18, y6_18, y7_18, y8_18, y9_18, y10_18) → ∀ ls : Array Slot, lv_has ls 16 [(0, .ref a_o), (1, .ref a_q), (2, .ref a_na), (3, .ref a_we), (4, .ref a_ho), (5, .int x5_414), (6, .int x6_414), (7, .int x7_414), (8, .int x8_414), (9, .int x9_414), (10, .int x10_414), (13, .int x13_414)] → W p l e (headSpec wsL_same rmL_same).room s m args below meth c H [] 0 0 Q (F0 m 414 ls []) := by
      intro x5_414 x6_414 x7_414 x8_414 x9_414 x10_414 x13_414 hm ls hl
      unfold mL_same_J414 at hm
      refine lv_aload_n hx hb dL_same_414 rfl (lv_at hl 0 rfl) ?_
      refine lv_iload hx hb dL_same_415 (lv_at hl 11 rfl) ?_
      refine lv_bipush (v := 6) hx hb dL_same_417 (by decide) ?_
      obtain ⟨r419, e419, hm⟩ := bs hm
      try dsimp only at hm
      refine ro_callVe ⟨hx, hb, hml, hown, hts⟩ (kX7_house_n l dC dI cA a_o a_o_town a_o_trial a_o_saves a_o_text a_o_reader a_o_town_state a_o_town_parents a_o_town_children a_o_town_roads a_o_town_namesIn a_o_town_weightIn a_o_town_homes a_o_town_leaving a_o_town_state_keys a_o_town_state_weights a_o_town_state_keys_cells a_o_town_state_weights_cells a_o_town_parents_cells a_o_town_children_cells a_o_town_roads_cells a_o_town_namesIn_cells a_o_town_weightIn_cells v_o_town_state_houses v_o_town_state_limit v_o_town_state_movedIn v_o_town_state_evicted v_o_town_state_built v_o_town_state_tornDown f_o_town_state_keys_cells f_o_town_state_weights_cells f_o_town_parents_cells f_o_town_children_cells f_o_town_roads_cells f_o_town_namesIn_cells f_o_town_weightIn_cells x13_414 6 r419 e419) (cwV 2 hts gL_same_X7_house rfl rfl rfl hdX7_house_n ⟨Nat.le_of_ble_eq_true rfl, Nat.le_of_ble_eq_true rfl⟩) (hP.sub [0, 1, 2, 3, 4, 5, 6, 7, 8, 9, 10, 11, 12, 13, 14, 15, 16] rfl) hK rfl rfl rfl hl.1 rfl (Nat.le_of_ble_eq_true rfl) dL_same_419 ⟨Nat.zero_le _, Nat.zero_le _⟩ ?_
      refine lv_iload hx hb dL_same_422 (lv_at hl 10 rfl) ?_
      refine lv_aload_n hx hb dL_same_424 rfl (lv_at hl 2 rfl) ?_
      refine lv_aload_n hx hb dL_same_425 rfl (lv_at hl 3 rfl) ?_
      refine lv_iconst (v := 0) hx hb dL_same_426 (by decide) ?_
      obtain ⟨r427, e427, hm⟩ := bs hm
      try dsimp only at hm
      refine ro_callSe ⟨hx, hb, hml, hown, hts⟩ (kL_below l dC dI cA a_na a_we f_na f_we x10_414 0 r427 e427) (va_cwS 4 hts gL_same_L_below rfl rfl rfl hdL_below.2 ⟨Nat.le_of_ble_eq_true rfl, Nat.le_of_ble_eq_true rfl⟩) (hP.sub [21, 22] rfl) hK rfl hl.1 rfl (Nat.le_of_ble_eq_true rfl) dL_same_427 ⟨Nat.zero_le _, Nat.zero_le _⟩ ?_
      refine lv_icmp_ne (tgt := 470) hx hb dL_same_430 (by decide) (fun c430 => ?_) (fun c430 => ?_)
      · rw [if_neg c430] at hm
        cases hm
      · rw [if_pos c430] at hm
        refine lv_aload_n hx hb dL_same_433 rfl (lv_at hl 0 rfl) ?_
        refine lv_iload hx hb dL_same_434 (lv_at hl 11 rfl) ?_
        refine lv_bipush (v := 7) hx hb dL_same_436 (by decide) ?_
        obtain ⟨r438, e438, hm⟩ := bs hm
        try dsimp only at hm
        refine ro_callVe ⟨hx, hb, hml, hown, hts⟩ (kX7_house_n l dC dI cA a_o a_o_town a_o_trial a_o_saves a_o_text a_o_reader a_o_town_state a_o_town_parents a_o_town_children a_o_town_roads a_o_town_namesIn a_o_town_weightIn a_o_town_homes a_o_town_leaving a_o_town_state_keys a_o_town_state_weights a_o_town_state_keys_cells a_o_town_state_weights_cells a_o_town_parents_cells a_o_town_children_cells a_o_town_roads_cells a_o_town_namesIn_cells a_o_town_weightIn_cells v_o_town_state_houses v_o_town_state_limit v_o_town_state_movedIn v_o_town_state_evicted v_o_town_state_built v_o_town_state_tornDown f_o_town_state_keys_cells f_o_town_state_weights_cells f_o_town_parents_cells f_o_town_children_cells f_o_town_roads_cells f_o_town_namesIn_cells f_o_town_weightIn_cells x13_414 7 r438 e438) (cwV 2 hts gL_same_X7_house rfl rfl rfl hdX7_house_n ⟨Nat.le_of_ble_eq_true rfl, Nat.le_of_ble_eq_true rfl⟩) (hP.sub [0, 1, 2, 3, 4, 5, 6, 7, 8, 9, 10, 11, 12, 13, 14, 15, 16] rfl) hK rfl rfl rfl hl.1 rfl (Nat.le_of_ble_eq_true rfl) dL_same_438 ⟨Nat.zero_le _, Nat.zero_le _⟩ ?_
        refine lv_iload hx hb dL_same_441 (lv_at hl 10 rfl) ?_
        refine lv_aload_n hx hb dL_same_443 rfl (lv_at hl 2 rfl) ?_
        refine lv_aload_n hx hb dL_same_444 rfl (lv_at hl 3 rfl) ?_
        refine lv_iconst (v := 1) hx hb dL_same_445 (by decide) ?_
        obtain ⟨r446, e446, hm⟩ := bs hm
        try dsimp only at hm
        refine ro_callSe ⟨hx, hb, hml, hown, hts⟩ (kL_below l dC dI cA a_na a_we f_na f_we x10_414 1 r446 e446) (va_cwS 4 hts gL_same_L_below rfl rfl rfl hdL_below.2 ⟨Nat.le_of_ble_eq_true rfl, Nat.le_of_ble_eq_true rfl⟩) (hP.sub [21, 22] rfl) hK rfl hl.1 rfl (Nat.le_of_ble_eq_true rfl) dL_same_446 ⟨Nat.zero_le _, Nat.zero_le _⟩ ?_
        refine lv_icmp_ne (tgt := 470) hx hb dL_same_449 (by decide) (fun c449 => ?_) (fun c449 => ?_)
        · rw [if_neg c449] at hm
          cases hm
        · rw [if_pos c449] at hm
          refine lv_aload_n hx hb dL_same_452 rfl (lv_at hl 0 rfl) ?_
          refine lv_iload hx hb dL_same_453 (lv_at hl 11 rfl) ?_
          refine lv_bipush (v := 8) hx hb dL_same_455 (by decide) ?_
          obtain ⟨r457, e457, hm⟩ := bs hm
          try dsimp only at hm
          refine ro_callVe ⟨hx, hb, hml, hown, hts⟩ (kX7_house_n l dC dI cA a_o a_o_town a_o_trial a_o_saves a_o_text a_o_reader a_o_town_state a_o_town_parents a_o_town_children a_o_town_roads a_o_town_namesIn a_o_town_weightIn a_o_town_homes a_o_town_leaving a_o_town_state_keys a_o_town_state_weights a_o_town_state_keys_cells a_o_town_state_weights_cells a_o_town_parents_cells a_o_town_children_cells a_o_town_roads_cells a_o_town_namesIn_cells a_o_town_weightIn_cells v_o_town_state_houses v_o_town_state_limit v_o_town_state_movedIn v_o_town_state_evicted v_o_town_state_built v_o_town_state_tornDown f_o_town_state_keys_cells f_o_town_state_weights_cells f_o_town_parents_cells f_o_town_children_cells f_o_town_roads_cells f_o_town_namesIn_cells f_o_town_weightIn_cells x13_414 8 r457 e457) (cwV 2 hts gL_same_X7_house rfl rfl rfl hdX7_house_n ⟨Nat.le_of_ble_eq_true rfl, Nat.le_of_ble_eq_true rfl⟩) (hP.sub [0, 1, 2, 3, 4, 5, 6, 7, 8, 9, 10, 11, 12, 13, 14, 15, 16] rfl) hK rfl rfl rfl hl.1 rfl (Nat.le_of_ble_eq_true rfl) dL_same_457 ⟨Nat.zero_le _, Nat.zero_le _⟩ ?_
          refine lv_iload hx hb dL_same_460 (lv_at hl 10 rfl) ?_
          refine lv_aload hx hb dL_same_462 (lv_at hl 4 rfl) ?_
          obtain ⟨r464, e464, hm⟩ := bs hm
          try dsimp only at hm
          refine ro_callSe ⟨hx, hb, hml, hown, hts⟩ (kL_roads l dC dI cA a_ho f_ho x10_414 r464 e464) (va_cwS 2 hts gL_same_L_roads rfl rfl rfl hdL_roads.2 ⟨Nat.le_of_ble_eq_true rfl, Nat.le_of_ble_eq_true rfl⟩) (hP.sub [23] rfl) hK rfl hl.1 rfl (Nat.le_of_ble_eq_true rfl) dL_same_464 ⟨Nat.zero_le _, Nat.zero_le _⟩ ?_
          refine lv_icmp_eq (tgt := 472) hx hb dL_same_467 (by decide) (fun c467 => ?_) (fun c467 => ?_)
          · rw [if_pos c467] at hm
            exact hJ472 x5_414 x6_414 x7_414 x8_414 x9_414 x10_414 x13_414 hm _ (lv_sub hl [0, 1, 2, 3, 4, 5, 6, 7, 8, 9, 10, 11] rfl)
          · rw [if_neg c467] at hm
            cases hm
    have hJ326 : ∀ (x5_326 x6_326 x7_326 x8_326 x9_326 x10_326 x11_326 x12_326 x13_326 x14_326 : Int32), mL_same_J326 v_o_town_state_houses f_o_town_state_keys_cells f_o_town_state_weights_cells f_o_town_parents_cells f_o_town_children_cells f_o_town_roads_cells f_o_town_namesIn_cells f_o_town_weightIn_cells x13_326 x11_326 x12_326 x14_326 f_ho x10_326 f_na f_we f_q v_o_town_state_limit x5_326 x6_326 x7_326 x9_326 x8_326 (mL_same_L18 v_o_town_state_houses f_o_town_state_keys_cells f_ho f_o_town_namesIn_cells f_na f_we v_o_town_state_limit f_o_town_state_weights_cells f_o_town_parents_cells f_o_town_children_cells f_q f_o_town_roads_cells f_o_town_weightIn_cells f_o_town_homes_cells n) = some (y5_18, y6_18, y7_18, y8_18, y9_18, y10_18) → ∀ ls : Array Slot, lv_has ls 16 [(0, .ref a_o), (1, .ref a_q), (2, .ref a_na), (3, .ref a_we), (4, .ref a_ho), (5, .int x5_326), (6, .int x6_326), (7, .int x7_326), (8, .int x8_326), (9, .int x9_326), (10, .int x10_326), (11, .int x11_326), (12, .int x12_326), (13, .int x13_326), (14, .int x14_326)] → W p l e (headSpec wsL_same rmL_same).room s m args below meth c H [] 0 0 Q (F0 m 326 ls []) := by
      intro x5_326 x6_326 x7_326 x8_326 x9_326 x10_326 x11_326 x12_326 x13_326 x14_326 hm ls hl
      unfold mL_same_J326 at hm
      refine lv_aload_n hx hb dL_same_326 rfl (lv_at hl 0 rfl) ?_
      refine lv_iload hx hb dL_same_327 (lv_at hl 13 rfl) ?_
      refine lv_iconst (v := 0) hx hb dL_same_329 (by decide) ?_
      obtain ⟨r330, e330, hm⟩ := bs hm
      try dsimp only at hm
      refine ro_callVe ⟨hx, hb, hml, hown, hts⟩ (kX7_house_n l dC dI cA a_o a_o_town a_o_trial a_o_saves a_o_text a_o_reader a_o_town_state a_o_town_parents a_o_town_children a_o_town_roads a_o_town_namesIn a_o_town_weightIn a_o_town_homes a_o_town_leaving a_o_town_state_keys a_o_town_state_weights a_o_town_state_keys_cells a_o_town_state_weights_cells a_o_town_parents_cells a_o_town_children_cells a_o_town_roads_cells a_o_town_namesIn_cells a_o_town_weightIn_cells v_o_town_state_houses v_o_town_state_limit v_o_town_state_movedIn v_o_town_state_evicted v_o_town_state_built v_o_town_state_tornDown f_o_town_state_keys_cells f_o_town_state_weights_cells f_o_town_parents_cells f_o_town_children_cells f_o_town_roads_cells f_o_town_namesIn_cells f_o_town_weightIn_cells x13_326 0 r330 e330) (cwV 2 hts gL_same_X7_house rfl rfl rfl hdX7_house_n ⟨Nat.le_of_ble_eq_true rfl, Nat.le_of_ble_eq_true rfl⟩) (hP.sub [0, 1, 2, 3, 4, 5, 6, 7, 8, 9, 10, 11, 12, 13, 14, 15, 16] rfl) hK rfl rfl rfl hl.1 rfl (Nat.le_of_ble_eq_true rfl) dL_same_330 ⟨Nat.zero_le _, Nat.zero_le _⟩ ?_
      refine lv_iload hx hb dL_same_333 (lv_at hl 11 rfl) ?_
      refine lv_icmp_ne (tgt := 412) hx hb dL_same_335 (by decide) (fun c335 => ?_) (fun c335 => ?_)
      · rw [if_neg c335] at hm
        cases hm
      · rw [if_pos c335] at hm
        refine lv_aload_n hx hb dL_same_338 rfl (lv_at hl 0 rfl) ?_
        refine lv_iload hx hb dL_same_339 (lv_at hl 13 rfl) ?_
        refine lv_iconst (v := 1) hx hb dL_same_341 (by decide) ?_
        obtain ⟨r342, e342, hm⟩ := bs hm
        try dsimp only at hm
        refine ro_callVe ⟨hx, hb, hml, hown, hts⟩ (kX7_house_n l dC dI cA a_o a_o_town a_o_trial a_o_saves a_o_text a_o_reader a_o_town_state a_o_town_parents a_o_town_children a_o_town_roads a_o_town_namesIn a_o_town_weightIn a_o_town_homes a_o_town_leaving a_o_town_state_keys a_o_town_state_weights a_o_town_state_keys_cells a_o_town_state_weights_cells a_o_town_parents_cells a_o_town_children_cells a_o_town_roads_cells a_o_town_namesIn_cells a_o_town_weightIn_cells v_o_town_state_houses v_o_town_state_limit v_o_town_state_movedIn v_o_town_state_evicted v_o_town_state_built v_o_town_state_tornDown f_o_town_state_keys_cells f_o_town_state_weights_cells f_o_town_parents_cells f_o_town_children_cells f_o_town_roads_cells f_o_town_namesIn_cells f_o_town_weightIn_cells x13_326 1 r342 e342) (cwV 2 hts gL_same_X7_house rfl rfl rfl hdX7_house_n ⟨Nat.le_of_ble_eq_true rfl, Nat.le_of_ble_eq_true rfl⟩) (hP.sub [0, 1, 2, 3, 4, 5, 6, 7, 8, 9, 10, 11, 12, 13, 14, 15, 16] rfl) hK rfl rfl rfl hl.1 rfl (Nat.le_of_ble_eq_true rfl) dL_same_342 ⟨Nat.zero_le _, Nat.zero_le _⟩ ?_
        refine lv_iload hx hb dL_same_345 (lv_at hl 12 rfl) ?_
        refine lv_icmp_ne (tgt := 412) hx hb dL_same_347 (by decide) (fun c347 => ?_) (fun c347 => ?_)
        · rw [if_neg c347] at hm
          cases hm
        · rw [if_pos c347] at hm
          refine lv_aload_n hx hb dL_same_350 rfl (lv_at hl 0 rfl) ?_
          refine lv_iload hx hb dL_same_351 (lv_at hl 13 rfl) ?_
          refine lv_iconst (v := 2) hx hb dL_same_353 (by decide) ?_
          obtain ⟨r354, e354, hm⟩ := bs hm
          try dsimp only at hm
          refine ro_callVe ⟨hx, hb, hml, hown, hts⟩ (kX7_house_n l dC dI cA a_o a_o_town a_o_trial a_o_saves a_o_text a_o_reader a_o_town_state a_o_town_parents a_o_town_children a_o_town_roads a_o_town_namesIn a_o_town_weightIn a_o_town_homes a_o_town_leaving a_o_town_state_keys a_o_town_state_weights a_o_town_state_keys_cells a_o_town_state_weights_cells a_o_town_parents_cells a_o_town_children_cells a_o_town_roads_cells a_o_town_namesIn_cells a_o_town_weightIn_cells v_o_town_state_houses v_o_town_state_limit v_o_town_state_movedIn v_o_town_state_evicted v_o_town_state_built v_o_town_state_tornDown f_o_town_state_keys_cells f_o_town_state_weights_cells f_o_town_parents_cells f_o_town_children_cells f_o_town_roads_cells f_o_town_namesIn_cells f_o_town_weightIn_cells x13_326 2 r354 e354) (cwV 2 hts gL_same_X7_house rfl rfl rfl hdX7_house_n ⟨Nat.le_of_ble_eq_true rfl, Nat.le_of_ble_eq_true rfl⟩) (hP.sub [0, 1, 2, 3, 4, 5, 6, 7, 8, 9, 10, 11, 12, 13, 14, 15, 16] rfl) hK rfl rfl rfl hl.1 rfl (Nat.le_of_ble_eq_true rfl) dL_same_354 ⟨Nat.zero_le _, Nat.zero_le _⟩ ?_
          refine lv_iload hx hb dL_same_357 (lv_at hl 11 rfl) ?_
          refine lv_iconst (v := 1) hx hb dL_same_359 (by decide) ?_
          refine lv_iconst (v := 3) hx hb dL_same_360 (by decide) ?_
          refine lv_iload hx hb dL_same_361 (lv_at hl 14 rfl) ?_
          refine lv_imul hx hb dL_same_363 ?_
          refine lv_ishl hx hb dL_same_364 ?_
          obtain ⟨r365, e365, hm⟩ := bs hm
          try dsimp only at hm
          refine xa_rem hx hb e365 dL_same_365 ?_
          refine lv_icmp_ne (tgt := 412) hx hb dL_same_366 (by decide) (fun c366 => ?_) (fun c366 => ?_)
          · rw [if_neg c366] at hm
            cases hm
          · rw [if_pos c366] at hm
            refine lv_aload_n hx hb dL_same_369 rfl (lv_at hl 0 rfl) ?_
            refine lv_iload hx hb dL_same_370 (lv_at hl 13 rfl) ?_
            refine lv_iconst (v := 3) hx hb dL_same_372 (by decide) ?_
            obtain ⟨r373, e373, hm⟩ := bs hm
            try dsimp only at hm
            refine ro_callVe ⟨hx, hb, hml, hown, hts⟩ (kX7_house_n l dC dI cA a_o a_o_town a_o_trial a_o_saves a_o_text a_o_reader a_o_town_state a_o_town_parents a_o_town_children a_o_town_roads a_o_town_namesIn a_o_town_weightIn a_o_town_homes a_o_town_leaving a_o_town_state_keys a_o_town_state_weights a_o_town_state_keys_cells a_o_town_state_weights_cells a_o_town_parents_cells a_o_town_children_cells a_o_town_roads_cells a_o_town_namesIn_cells a_o_town_weightIn_cells v_o_town_state_houses v_o_town_state_limit v_o_town_state_movedIn v_o_town_state_evicted v_o_town_state_built v_o_town_state_tornDown f_o_town_state_keys_cells f_o_town_state_weights_cells f_o_town_parents_cells f_o_town_children_cells f_o_town_roads_cells f_o_town_namesIn_cells f_o_town_weightIn_cells x13_326 3 r373 e373) (cwV 2 hts gL_same_X7_house rfl rfl rfl hdX7_house_n ⟨Nat.le_of_ble_eq_true rfl, Nat.le_of_ble_eq_true rfl⟩) (hP.sub [0, 1, 2, 3, 4, 5, 6, 7, 8, 9, 10, 11, 12, 13, 14, 15, 16] rfl) hK rfl rfl rfl hl.1 rfl (Nat.le_of_ble_eq_true rfl) dL_same_373 ⟨Nat.zero_le _, Nat.zero_le _⟩ ?_
            refine lv_iload hx hb dL_same_376 (lv_at hl 14 rfl) ?_
            refine lv_icmp_ne (tgt := 412) hx hb dL_same_378 (by decide) (fun c378 => ?_) (fun c378 => ?_)
            · rw [if_neg c378] at hm
              cases hm
            · rw [if_pos c378] at hm
              refine lv_aload_n hx hb dL_same_381 rfl (lv_at hl 0 rfl) ?_
              refine lv_iload hx hb dL_same_382 (lv_at hl 13 rfl) ?_
              refine lv_iconst (v := 4) hx hb dL_same_384 (by decide) ?_
              obtain ⟨r385, e385, hm⟩ := bs hm
              try dsimp only at hm
              refine ro_callVe ⟨hx, hb, hml, hown, hts⟩ (kX7_house_n l dC dI cA a_o a_o_town a_o_trial a_o_saves a_o_text a_o_reader a_o_town_state a_o_town_parents a_o_town_children a_o_town_roads a_o_town_namesIn a_o_town_weightIn a_o_town_homes a_o_town_leaving a_o_town_state_keys a_o_town_state_weights a_o_town_state_keys_cells a_o_town_state_weights_cells a_o_town_parents_cells a_o_town_children_cells a_o_town_roads_cells a_o_town_namesIn_cells a_o_town_weightIn_cells v_o_town_state_houses v_o_town_state_limit v_o_town_state_movedIn v_o_town_state_evicted v_o_town_state_built v_o_town_state_tornDown f_o_town_state_keys_cells f_o_town_state_weights_cells f_o_town_parents_cells f_o_town_children_cells f_o_town_roads_cells f_o_town_namesIn_cells f_o_town_weightIn_cells x13_326 4 r385 e385) (cwV 2 hts gL_same_X7_house rfl rfl rfl hdX7_house_n ⟨Nat.le_of_ble_eq_true rfl, Nat.le_of_ble_eq_true rfl⟩) (hP.sub [0, 1, 2, 3, 4, 5, 6, 7, 8, 9, 10, 11, 12, 13, 14, 15, 16] rfl) hK rfl rfl rfl hl.1 rfl (Nat.le_of_ble_eq_true rfl) dL_same_385 ⟨Nat.zero_le _, Nat.zero_le _⟩ ?_
              refine lv_iload hx hb dL_same_388 (lv_at hl 10 rfl) ?_
              refine lv_aload hx hb dL_same_390 (lv_at hl 4 rfl) ?_
              obtain ⟨r392, e392, hm⟩ := bs hm
              try dsimp only at hm
              refine ro_callSe ⟨hx, hb, hml, hown, hts⟩ (kL_children l dC dI cA a_ho f_ho x10_326 r392 e392) (va_cwS 2 hts gL_same_L_children rfl rfl rfl hdL_children.2 ⟨Nat.le_of_ble_eq_true rfl, Nat.le_of_ble_eq_true rfl⟩) (hP.sub [23] rfl) hK rfl hl.1 rfl (Nat.le_of_ble_eq_true rfl) dL_same_392 ⟨Nat.zero_le _, Nat.zero_le _⟩ ?_
              refine lv_icmp_ne (tgt := 412) hx hb dL_same_395 (by decide) (fun c395 => ?_) (fun c395 => ?_)
              · rw [if_neg c395] at hm
                cases hm
              · rw [if_pos c395] at hm
                refine lv_aload_n hx hb dL_same_398 rfl (lv_at hl 0 rfl) ?_
                refine lv_iload hx hb dL_same_399 (lv_at hl 13 rfl) ?_
                refine lv_iconst (v := 5) hx hb dL_same_401 (by decide) ?_
                obtain ⟨r402, e402, hm⟩ := bs hm
                try dsimp only at hm
                refine ro_callVe ⟨hx, hb, hml, hown, hts⟩ (kX7_house_n l dC dI cA a_o a_o_town a_o_trial a_o_saves a_o_text a_o_reader a_o_town_state a_o_town_parents a_o_town_children a_o_town_roads a_o_town_namesIn a_o_town_weightIn a_o_town_homes a_o_town_leaving a_o_town_state_keys a_o_town_state_weights a_o_town_state_keys_cells a_o_town_state_weights_cells a_o_town_parents_cells a_o_town_children_cells a_o_town_roads_cells a_o_town_namesIn_cells a_o_town_weightIn_cells v_o_town_state_houses v_o_town_state_limit v_o_town_state_movedIn v_o_town_state_evicted v_o_town_state_built v_o_town_state_tornDown f_o_town_state_keys_cells f_o_town_state_weights_cells f_o_town_parents_cells f_o_town_children_cells f_o_town_roads_cells f_o_town_namesIn_cells f_o_town_weightIn_cells x13_326 5 r402 e402) (cwV 2 hts gL_same_X7_house rfl rfl rfl hdX7_house_n ⟨Nat.le_of_ble_eq_true rfl, Nat.le_of_ble_eq_true rfl⟩) (hP.sub [0, 1, 2, 3, 4, 5, 6, 7, 8, 9, 10, 11, 12, 13, 14, 15, 16] rfl) hK rfl rfl rfl hl.1 rfl (Nat.le_of_ble_eq_true rfl) dL_same_402 ⟨Nat.zero_le _, Nat.zero_le _⟩ ?_
                refine lv_aload_n hx hb dL_same_405 rfl (lv_at hl 2 rfl) ?_
                refine lv_iload hx hb dL_same_406 (lv_at hl 10 rfl) ?_
                obtain ⟨r408, e408, hm⟩ := bs hm
                try dsimp only at hm
                refine xa_ldO hx hb hK hP 21 0 rfl rfl e408 dL_same_408 ?_
                refine lv_icmp_eq (tgt := 414) hx hb dL_same_409 (by decide) (fun c409 => ?_) (fun c409 => ?_)
                · rw [if_pos c409] at hm
                  exact hJ414 x5_326 x6_326 x7_326 x8_326 x9_326 x10_326 x13_326 hm _ (lv_sub hl [0, 1, 2, 3, 4, 5, 6, 7, 8, 9, 10, 13] rfl)
                · rw [if_neg c409] at hm
                  cases hm
    have hJ282 : ∀ (x5_282 x6_282 x7_282 x8_282 x9_282 x10_282 x11_282 x12_282 : Int32), mL_same_J282 f_ho x10_282 x5_282 x6_282 x7_282 x8_282 x9_282 v_o_town_state_houses f_o_town_state_keys_cells f_o_town_state_weights_cells f_o_town_parents_cells f_o_town_children_cells f_o_town_roads_cells f_o_town_namesIn_cells f_o_town_weightIn_cells x11_282 x12_282 f_na f_we f_q v_o_town_state_limit (mL_same_L18 v_o_town_state_houses f_o_town_state_keys_cells f_ho f_o_town_namesIn_cells f_na f_we v_o_town_state_limit f_o_town_state_weights_cells f_o_town_parents_cells f_o_town_children_cells f_q f_o_town_roads_cells f_o_town_weightIn_cells f_o_town_homes_cells n) = some (y5_18, y6_18, y7_18, y8_18, y9_18, y10_18) → ∀ ls : Array Slot, lv_has ls 16 [(0, .ref a_o), (1, .ref a_q), (2, .ref a_na), (3, .ref a_we), (4, .ref a_ho), (5, .int x5_282), (6, .int x6_282), (7, .int x7_282), (8, .int x8_282), (9, .int x9_282), (10, .int x10_282), (11, .int x11_282), (12, .int x12_282)] → W p l e (headSpec wsL_same rmL_same).room s m args below meth c H [] 0 0 Q (F0 m 282 ls []) := by
      intro x5_282 x6_282 x7_282 x8_282 x9_282 x10_282 x11_282 x12_282 hm ls hl
      unfold mL_same_J282 at hm
      refine lv_aload hx hb dL_same_282 (lv_at hl 4 rfl) ?_
      refine lv_iload hx hb dL_same_284 (lv_at hl 10 rfl) ?_
      obtain ⟨r286, e286, hm⟩ := bs hm
      try dsimp only at hm
      refine xa_ldO hx hb hK hP 23 0 rfl rfl e286 dL_same_286 ?_
      refine lv_if_ne (tgt := 293) hx hb dL_same_287 (by decide) (fun c287 => ?_) (fun c287 => ?_)
      · rw [if_neg c287] at hm
        refine lv_iload hx hb dL_same_293 (lv_at hl 10 rfl) ?_
        refine lv_aload hx hb dL_same_295 (lv_at hl 4 rfl) ?_
        obtain ⟨r297, e297, hm⟩ := bs hm
        try dsimp only at hm
        refine ro_callSe ⟨hx, hb, hml, hown, hts⟩ (kL_index l dC dI cA a_ho f_ho x10_282 r297 e297) (va_cwS 2 hts gL_same_L_index rfl rfl rfl hdL_index.2 ⟨Nat.le_of_ble_eq_true rfl, Nat.le_of_ble_eq_true rfl⟩) (hP.sub [23] rfl) hK rfl hl.1 rfl (Nat.le_of_ble_eq_true rfl) dL_same_297 ⟨Nat.zero_le _, Nat.zero_le _⟩ ?_
        refine lv_istore (lv' := [(13, .int r297), (0, .ref a_o), (1, .ref a_q), (2, .ref a_na), (3, .ref a_we), (4, .ref a_ho), (5, .int x5_282), (6, .int x6_282), (7, .int x7_282), (8, .int x8_282), (9, .int x9_282), (10, .int x10_282), (11, .int x11_282), (12, .int x12_282)]) hx hb dL_same_300 hl (by decide) rfl (fun ls hl => ?_)
        refine lv_iload hx hb dL_same_302 (lv_at hl 11 rfl) ?_
        refine lv_if_ne (tgt := 311) hx hb dL_same_304 (by decide) (fun c304 => ?_) (fun c304 => ?_)
        · rw [if_neg c304] at hm
          refine lv_iload hx hb dL_same_311 (lv_at hl 13 rfl) ?_
          refine lv_iload hx hb dL_same_313 (lv_at hl 11 rfl) ?_
          refine lv_aload hx hb dL_same_315 (lv_at hl 5 rfl) ?_
          obtain ⟨r317, e317, hm⟩ := bs hm
          try dsimp only at hm
          refine ro_callSe ⟨hx, hb, hml, hown, hts⟩ (kL_parent l dC dI cA a_ho f_ho x10_282 r317 e317) (va_cwS 2 hts gL_same_L_parent rfl rfl rfl hdL_parent.2 ⟨Nat.le_of_ble_eq_true rfl, Nat.le_of_ble_eq_true rfl⟩) (hP.sub [23] rfl) hK rfl hl.1 rfl (Nat.le_of_ble_eq_true rfl) dL_same_317 ⟨Nat.zero_le _, Nat.zero_le _⟩ ?_
          refine sp_callSe ⟨hx, hb, hml, hown, hts⟩ (kL_length l r317) (va_cwS 1 hts gL_same_L_length rfl rfl rfl hdL_length.2 ⟨Nat.le_of_ble_eq_true rfl, Nat.le_of_ble_eq_true rfl⟩) rfl hl.1 rfl (Nat.le_of_ble_eq_true rfl) dL_same_320 ⟨Nat.zero_le _, Nat.zero_le _⟩ ?_
          refine lv_isub hx hb dL_same_323 ?_
          refine lv_istore (lv' := [(14, .int (x12_282 - (mL_length r317))), (13, .int r297), (0, .ref a_o), (1, .ref a_q), (2, .ref a_na), (3, .ref a_we), (4, .ref a_ho), (5, .int x5_282), (6, .int x6_282), (7, .int x7_282), (8, .int x8_282), (9, .int x9_282), (10, .int x10_282), (11, .int x11_282), (12, .int x12_282)]) hx hb dL_same_324 hl (by decide) rfl (fun ls hl => ?_)
          exact hJ326 x5_282 x6_282 x7_282 x8_282 x9_282 x10_282 x11_282 x12_282 r297 (x12_282 - (mL_length r317)) hm _ (lv_sub hl [2, 3, 4, 5, 6, 7, 8, 9, 10, 11, 12, 13, 14, 1, 0] rfl)
        · rw [if_pos c304] at hm
          refine lv_iconst (v := 0) hx hb dL_same_307 (by decide) ?_
          refine lv_goto (tgt := 324) hx hb dL_same_308 (by decide) ?_
          refine lv_istore (lv' := [(14, .int 0), (13, .int r297), (0, .ref a_o), (1, .ref a_q), (2, .ref a_na), (3, .ref a_we), (4, .ref a_ho), (5, .int x5_282), (6, .int x6_282), (7, .int x7_282), (8, .int x8_282), (9, .int x9_282), (10, .int x10_282), (11, .int x11_282), (12, .int x12_282)]) hx hb dL_same_324 hl (by decide) rfl (fun ls hl => ?_)
          exact hJ326 x5_282 x6_282 x7_282 x8_282 x9_282 x10_282 x11_282 x12_282 r297 0 hm _ (lv_sub hl [2, 3, 4, 5, 6, 7, 8, 9, 10, 11, 12, 13, 14, 1, 0] rfl)
      · rw [if_pos c287] at hm
        refine lv_goto (tgt := 545) hx hb dL_same_290 (by decide) ?_
        exact hJ545 x5_282 x6_282 x7_282 x8_282 x9_282 x10_282 hm _ (lv_sub hl [0, 1, 2, 3, 4, 5, 6, 7, 8, 9, 10] rfl)
    have hJ242 : ∀ (x5_242 x6_242 x7_242 x8_242 x9_242 x10_242 x11_242 x12_242 : Int32), mL_same_J242 f_na x10_242 f_ho f_we x5_242 x6_242 x7_242 x8_242 x9_242 v_o_town_state_houses f_o_town_state_keys_cells f_o_town_state_weights_cells f_o_town_parents_cells f_o_town_children_cells f_o_town_roads_cells f_o_town_namesIn_cells f_o_town_weightIn_cells x11_242 x12_242 f_q v_o_town_state_limit (mL_same_L18 v_o_town_state_houses f_o_town_state_keys_cells f_ho f_o_town_namesIn_cells f_na f_we v_o_town_state_limit f_o_town_state_weights_cells f_o_town_parents_cells f_o_town_children_cells f_q f_o_town_roads_cells f_o_town_weightIn_cells f_o_town_homes_cells n) = some (y5_18, y6_18, y7_18, y8_18, y9_18, y10_18) → ∀ ls : Array Slot, lv_has ls 16 [(0, .ref a_o), (1, .ref a_q), (2, .ref a_na), (3, .ref a_we), (4, .ref a_ho), (5, .int x5_242), (6, .int x6_242), (7, .int x7_242), (8, .int x8_242), (9, .int x9_242), (10, .int x10_242), (11, .int x11_242), (12, .int x12_242)] → W p l e (headSpec wsL_same rmL_same).room s m args below meth c H [] 0 0 Q (F0 m 242 ls []) := by
      intro x5_242 x6_242 x7_242 x8_242 x9_242 x10_242 x11_242 x12_242 hm ls hl
      unfold mL_same_J242 at hm
      refine lv_iload hx hb dL_same_242 (lv_at hl 5 rfl) ?_
      refine lv_aload_n hx hb dL_same_244 rfl (lv_at hl 2 rfl) ?_
      refine lv_iload hx hb dL_same_245 (lv_at hl 10 rfl) ?_
      obtain ⟨r247, e247, hm⟩ := bs hm
      try dsimp only at hm
      refine xa_ldO hx hb hK hP 21 0 rfl rfl e247 dL_same_247 ?_
      refine lv_iadd hx hb dL_same_248 ?_
      refine lv_istore (lv' := [(5, .int (x5_242 + r247)), (0, .ref a_o), (1, .ref a_q), (2, .ref a_na), (3, .ref a_we), (4, .ref a_ho), (6, .int x6_242), (7, .int x7_242), (8, .int x8_242), (9, .int x9_242), (10, .int x10_242), (11, .int x11_242), (12, .int x12_242)]) hx hb dL_same_249 hl (by decide) rfl (fun ls hl => ?_)
      refine lv_iload hx hb dL_same_251 (lv_at hl 6 rfl) ?_
      refine lv_aload hx hb dL_same_253 (lv_at hl 5 rfl) ?_
      refine lv_iload hx hb dL_same_255 (lv_at hl 10 rfl) ?_
      obtain ⟨r257, e257, hm⟩ := bs hm
      try dsimp only at hm
      refine xa_ldO hx hb hK hP 23 0 rfl rfl e257 dL_same_257 ?_
      refine lv_iadd hx hb dL_same_258 ?_
      refine lv_istore (lv' := [(6, .int (x6_242 + r257)), (5, .int (x5_242 + r247)), (0, .ref a_o), (1, .ref a_q), (2, .ref a_na), (3, .ref a_we), (4, .ref a_ho), (7, .int x7_242), (8, .int x8_242), (9, .int x9_242), (10, .int x10_242), (11, .int x11_242), (12, .int x12_242)]) hx hb dL_same_259 hl (by decide) rfl (fun ls hl => ?_)
      refine lv_iload hx hb dL_same_261 (lv_at hl 7 rfl) ?_
      refine lv_aload_n hx hb dL_same_263 rfl (lv_at hl 4 rfl) ?_
      refine lv_iload hx hb dL_same_264 (lv_at hl 10 rfl) ?_
      obtain ⟨r266, e266, hm⟩ := bs hm
      try dsimp only at hm
      refine xa_ldO hx hb hK hP 21 0 rfl rfl e266 dL_same_266 ?_
      refine lv_iconst (v := 1) hx hb dL_same_267 (by decide) ?_
      refine lv_icmp_ne (tgt := 278) hx hb dL_same_268 (by decide) (fun c268 => ?_) (fun c268 => ?_)
      · rw [if_neg c268] at hm
        refine lv_iconst (v := 0) hx hb dL_same_278 (by decide) ?_
        refine lv_iadd hx hb dL_same_279 ?_
        refine lv_istore (lv' := [(7, .int (x7_242 + 0)), (6, .int (x6_242 + r257)), (5, .int (x5_242 + r247)), (0, .ref a_o), (1, .ref a_q), (2, .ref a_na), (3, .ref a_we), (4, .ref a_ho), (8, .int x8_242), (9, .int x9_242), (10, .int x10_242), (11, .int x11_242), (12, .int x12_242)]) hx hb dL_same_280 hl (by decide) rfl (fun ls hl => ?_)
        exact hJ282 (x5_242 + r247) (x6_242 + r257) (x7_242 + 0) x8_242 x9_242 x10_242 x11_242 x12_242 hm _ (lv_sub hl [3, 4, 5, 6, 7, 2, 1, 0, 8, 9, 10, 11, 12] rfl)
      · rw [if_pos c268] at hm
        refine lv_aload_n hx hb dL_same_271 rfl (lv_at hl 5 rfl) ?_
        refine lv_iload hx hb dL_same_272 (lv_at hl 10 rfl) ?_
        obtain ⟨r274, e274, hm⟩ := bs hm
        try dsimp only at hm
        refine xa_ldO hx hb hK hP 22 0 rfl rfl e274 dL_same_274 ?_
        refine lv_goto (tgt := 279) hx hb dL_same_275 (by decide) ?_
        refine lv_iadd hx hb dL_same_279 ?_
        refine lv_istore (lv' := [(7, .int (x7_242 + r274)), (6, .int (x6_242 + r257)), (5, .int (x5_242 + r247)), (0, .ref a_o), (1, .ref a_q), (2, .ref a_na), (3, .ref a_we), (4, .ref a_ho), (8, .int x8_242), (9, .int x9_242), (10, .int x10_242), (11, .int x11_242), (12, .int x12_242)]) hx hb dL_same_280 hl (by decide) rfl (fun ls hl => ?_)
        exact hJ282 (x5_242 + r247) (x6_242 + r257) (x7_242 + r274) x8_242 x9_242 x10_242 x11_242 x12_242 hm _ (lv_sub hl [3, 4, 5, 6, 7, 2, 1, 0, 8, 9, 10, 11, 12] rfl)
    have hJ164 : ∀ (x5_164 x6_164 x7_164 x8_164 x9_164 x10_164 x11_164 x12_164 : Int32), mL_same_J164 x10_164 f_na f_ho f_we x5_164 x6_164 x7_164 x8_164 x9_164 v_o_town_state_houses f_o_town_state_keys_cells f_o_town_state_weights_cells f_o_town_parents_cells f_o_town_children_cells f_o_town_roads_cells f_o_town_namesIn_cells f_o_town_weightIn_cells x11_164 x12_164 f_q v_o_town_state_limit f_o_town_homes_cells (mL_same_L18 v_o_town_state_houses f_o_town_state_keys_cells f_ho f_o_town_namesIn_cells f_na f_we v_o_town_state_limit f_o_town_state_weights_cells f_o_town_parents_cells f_o_town_children_cells f_q f_o_town_roads_cells f_o_town_weightIn_cells f_o_town_homes_cells n) = some (y5_18, y6_18, y7_18, y8_18, y9_18, y10_18) → ∀ ls : Array Slot, lv_has ls 16 [(0, .ref a_o), (1, .ref a_q), (2, .ref a_na), (3, .ref a_we), (4, .ref a_ho), (5, .int x5_164), (6, .int x6_164), (7, .int x7_164), (8, .int x8_164), (9, .int x9_164), (10, .int x10_164), (11, .int x11_164), (12, .int x12_164)] → W p l e (headSpec wsL_same rmL_same).room s m args below meth c H [] 0 0 Q (F0 m 164 ls []) := by
      intro x5_164 x6_164 x7_164 x8_164 x9_164 x10_164 x11_164 x12_164 hm ls hl
      unfold mL_same_J164 at hm
      refine lv_iload hx hb dL_same_164 (lv_at hl 10 rfl) ?_
      refine lv_if_le (tgt := 242) hx hb dL_same_166 (by decide) (fun c166 => ?_) (fun c166 => ?_)
      · rw [if_pos c166] at hm
        exact hJ242 x5_164 x6_164 x7_164 x8_164 x9_164 x10_164 x11_164 x12_164 hm _ (lv_sub hl [0, 1, 2, 3, 4, 5, 6, 7, 8, 9, 10, 11, 12] rfl)
      · rw [if_neg c166] at hm
        refine lv_aload_n hx hb dL_same_169 rfl (lv_at hl 2 rfl) ?_
        refine lv_iload hx hb dL_same_170 (lv_at hl 10 rfl) ?_
        obtain ⟨r172, e172, hm⟩ := bs hm
        try dsimp only at hm
        refine xa_ldO hx hb hK hP 21 0 rfl rfl e172 dL_same_172 ?_
        refine lv_iconst (v := 1) hx hb dL_same_173 (by decide) ?_
        refine lv_icmp_ne (tgt := 242) hx hb dL_same_174 (by decide) (fun c174 => ?_) (fun c174 => ?_)
        · rw [if_neg c174] at hm
          exact hJ242 x5_164 x6_164 x7_164 x8_164 x9_164 x10_164 x11_164 x12_164 hm _ (lv_sub hl [0, 1, 2, 3, 4, 5, 6, 7, 8, 9, 10, 11, 12] rfl)
        · rw [if_pos c174] at hm
          refine lv_iload hx hb dL_same_177 (lv_at hl 10 rfl) ?_
          refine lv_aload_n hx hb dL_same_179 rfl (lv_at hl 2 rfl) ?_
          obtain ⟨r180, e180, hm⟩ := bs hm
          try dsimp only at hm
          refine ro_callSe ⟨hx, hb, hml, hown, hts⟩ (kL_rank l dC dI cA a_na f_na x10_164 r180 e180) (va_cwS 2 hts gL_same_L_rank rfl rfl rfl hdL_rank.2 ⟨Nat.le_of_ble_eq_true rfl, Nat.le_of_ble_eq_true rfl⟩) (hP.sub [21] rfl) hK rfl hl.1 rfl (Nat.le_of_ble_eq_true rfl) dL_same_180 ⟨Nat.zero_le _, Nat.zero_le _⟩ ?_
          refine lv_istore (lv' := [(13, .int r180), (0, .ref a_o), (1, .ref a_q), (2, .ref a_na), (3, .ref a_we), (4, .ref a_ho), (5, .int x5_164), (6, .int x6_164), (7, .int x7_164), (8, .int x8_164), (9, .int x9_164), (10, .int x10_164), (11, .int x11_164), (12, .int x12_164)]) hx hb dL_same_183 hl (by decide) rfl (fun ls hl => ?_)
          refine lv_aload_n hx hb dL_same_185 rfl (lv_at hl 1 rfl) ?_
          refine lv_iload hx hb dL_same_186 (lv_at hl 0 rfl) ?_
          refine lv_iconst (v := 0) hx hb dL_same_188 (by decide) ?_
          obtain ⟨r189, e189, hm⟩ := bs hm
          try dsimp only at hm
          refine ro_callVe ⟨hx, hb, hml, hown, hts⟩ (kX7_nth_n l dC dI cA a_o a_o_town a_o_trial a_o_saves a_o_text a_o_reader a_o_town_state a_o_town_parents a_o_town_children a_o_town_roads a_o_town_namesIn a_o_town_weightIn a_o_town_homes a_o_town_leaving a_o_town_state_keys a_o_town_state_weights a_o_town_state_keys_cells a_o_town_state_weights_cells a_o_town_roads_cells a_o_town_namesIn_cells a_o_town_homes_cells v_o_town_state_houses v_o_town_state_limit v_o_town_state_movedIn v_o_town_state_evicted v_o_town_state_built v_o_town_state_tornDown f_o_town_state_keys_cells f_o_town_state_weights_cells f_o_town_roads_cells f_o_town_namesIn_cells f_o_town_homes_cells r180 0 r189 e189) (cwV 2 hts gL_same_X7_nth rfl rfl rfl hdX7_nth_n ⟨Nat.le_of_ble_eq_true rfl, Nat.le_of_ble_eq_true rfl⟩) (hP.sub [0, 1, 2, 3, 4, 5, 6, 11, 12, 13, 14, 17, 18] rfl) hK rfl rfl rfl hl.1 rfl (Nat.le_of_ble_eq_true rfl) dL_same_189 ⟨Nat.zero_le _, Nat.zero_le _⟩ ?_
          refine lv_iload hx hb dL_same_192 (lv_at hl 12 rfl) ?_
          refine lv_icmp_ne (tgt := 240) hx hb dL_same_194 (by decide) (fun c194 => ?_) (fun c194 => ?_)
          · rw [if_neg c194] at hm
            cases hm
          · rw [if_pos c194] at hm
            refine lv_aload_n hx hb dL_same_197 rfl (lv_at hl 1 rfl) ?_
            refine lv_iload hx hb dL_same_198 (lv_at hl 0 rfl) ?_
            refine lv_iconst (v := 1) hx hb dL_same_200 (by decide) ?_
            obtain ⟨r201, e201, hm⟩ := bs hm
            try dsimp only at hm
            refine ro_callVe ⟨hx, hb, hml, hown, hts⟩ (kX7_nth_n l dC dI cA a_o a_o_town a_o_trial a_o_saves a_o_text a_o_reader a_o_town_state a_o_town_parents a_o_town_children a_o_town_roads a_o_town_namesIn a_o_town_weightIn a_o_town_homes a_o_town_leaving a_o_town_state_keys a_o_town_state_weights a_o_town_state_keys_cells a_o_town_state_weights_cells a_o_town_roads_cells a_o_town_namesIn_cells a_o_town_homes_cells v_o_town_state_houses v_o_town_state_limit v_o_town_state_movedIn v_o_town_state_evicted v_o_town_state_built v_o_town_state_tornDown f_o_town_state_keys_cells f_o_town_state_weights_cells f_o_town_roads_cells f_o_town_namesIn_cells f_o_town_homes_cells r180 1 r201 e201) (cwV 2 hts gL_same_X7_nth rfl rfl rfl hdX7_nth_n ⟨Nat.le_of_ble_eq_true rfl, Nat.le_of_ble_eq_true rfl⟩) (hP.sub [0, 1, 2, 3, 4, 5, 6, 11, 12, 13, 14, 17, 18] rfl) hK rfl rfl rfl hl.1 rfl (Nat.le_of_ble_eq_true rfl) dL_same_201 ⟨Nat.zero_le _, Nat.zero_le _⟩ ?_
            refine lv_iload hx hb dL_same_204 (lv_at hl 13 rfl) ?_
            refine lv_icmp_ne (tgt := 240) hx hb dL_same_206 (by decide) (fun c206 => ?_) (fun c206 => ?_)
            · rw [if_neg c206] at hm
              cases hm
            · rw [if_pos c206] at hm
              refine lv_aload_n hx hb dL_same_209 rfl (lv_at hl 1 rfl) ?_
              refine lv_iload hx hb dL_same_210 (lv_at hl 0 rfl) ?_
              refine lv_iconst (v := 2) hx hb dL_same_212 (by decide) ?_
              obtain ⟨r213, e213, hm⟩ := bs hm
              try dsimp only at hm
              refine ro_callVe ⟨hx, hb, hml, hown, hts⟩ (kX7_nth_n l dC dI cA a_o a_o_town a_o_trial a_o_saves a_o_text a_o_reader a_o_town_state a_o_town_parents a_o_town_children a_o_town_roads a_o_town_namesIn a_o_town_weightIn a_o_town_homes a_o_town_leaving a_o_town_state_keys a_o_town_state_weights a_o_town_state_keys_cells a_o_town_state_weights_cells a_o_town_roads_cells a_o_town_namesIn_cells a_o_town_homes_cells v_o_town_state_houses v_o_town_state_limit v_o_town_state_movedIn v_o_town_state_evicted v_o_town_state_built v_o_town_state_tornDown f_o_town_state_keys_cells f_o_town_state_weights_cells f_o_town_roads_cells f_o_town_namesIn_cells f_o_town_homes_cells r180 2 r213 e213) (cwV 2 hts gL_same_X7_nth rfl rfl rfl hdX7_nth_n ⟨Nat.le_of_ble_eq_true rfl, Nat.le_of_ble_eq_true rfl⟩) (hP.sub [0, 1, 2, 3, 4, 5, 6, 11, 12, 13, 14, 17, 18] rfl) hK rfl rfl rfl hl.1 rfl (Nat.le_of_ble_eq_true rfl) dL_same_213 ⟨Nat.zero_le _, Nat.zero_le _⟩ ?_
              refine lv_aload_n hx hb dL_same_216 rfl (lv_at hl 4 rfl) ?_
              refine lv_iload hx hb dL_same_217 (lv_at hl 11 rfl) ?_
              obtain ⟨r219, e219, hm⟩ := bs hm
              try dsimp only at hm
              refine xa_ldO hx hb hK hP 22 0 rfl rfl e219 dL_same_219 ?_
              refine lv_icmp_ne (tgt := 240) hx hb dL_same_220 (by decide) (fun c220 => ?_) (fun c220 => ?_)
              · rw [if_neg c220] at hm
                cases hm
              · rw [if_pos c220] at hm
                refine lv_aload_n hx hb dL_same_223 rfl (lv_at hl 1 rfl) ?_
                refine lv_iload hx hb dL_same_224 (lv_at hl 0 rfl) ?_
                refine lv_iconst (v := 3) hx hb dL_same_226 (by decide) ?_
                obtain ⟨r227, e227, hm⟩ := bs hm
                try dsimp only at hm
                refine ro_callVe ⟨hx, hb, hml, hown, hts⟩ (kX7_nth_n l dC dI cA a_o a_o_town a_o_trial a_o_saves a_o_text a_o_reader a_o_town_state a_o_town_parents a_o_town_children a_o_town_roads a_o_town_namesIn a_o_town_weightIn a_o_town_homes a_o_town_leaving a_o_town_state_keys a_o_town_state_weights a_o_town_state_keys_cells a_o_town_state_weights_cells a_o_town_roads_cells a_o_town_namesIn_cells a_o_town_homes_cells v_o_town_state_houses v_o_town_state_limit v_o_town_state_movedIn v_o_town_state_evicted v_o_town_state_built v_o_town_state_tornDown f_o_town_state_keys_cells f_o_town_state_weights_cells f_o_town_roads_cells f_o_town_namesIn_cells f_o_town_homes_cells r180 3 r227 e227) (cwV 2 hts gL_same_X7_nth rfl rfl rfl hdX7_nth_n ⟨Nat.le_of_ble_eq_true rfl, Nat.le_of_ble_eq_true rfl⟩) (hP.sub [0, 1, 2, 3, 4, 5, 6, 11, 12, 13, 14, 17, 18] rfl) hK rfl rfl rfl hl.1 rfl (Nat.le_of_ble_eq_true rfl) dL_same_227 ⟨Nat.zero_le _, Nat.zero_le _⟩ ?_
                refine lv_iload hx hb dL_same_230 (lv_at hl 11 rfl) ?_
                refine lv_aload hx hb dL_same_232 (lv_at hl 5 rfl) ?_
                obtain ⟨r234, e234, hm⟩ := bs hm
                try dsimp only at hm
                refine ro_callSe ⟨hx, hb, hml, hown, hts⟩ (kL_roads l dC dI cA a_ho f_ho x10_164 r234 e234) (va_cwS 2 hts gL_same_L_roads rfl rfl rfl hdL_roads.2 ⟨Nat.le_of_ble_eq_true rfl, Nat.le_of_ble_eq_true rfl⟩) (hP.sub [23] rfl) hK rfl hl.1 rfl (Nat.le_of_ble_eq_true rfl) dL_same_234 ⟨Nat.zero_le _, Nat.zero_le _⟩ ?_
                refine lv_icmp_eq (tgt := 242) hx hb dL_same_237 (by decide) (fun c237 => ?_) (fun c237 => ?_)
                · rw [if_pos c237] at hm
                  exact hJ242 x5_164 x6_164 x7_164 x8_164 x9_164 x10_164 x11_164 x12_164 hm _ (lv_sub hl [1, 2, 3, 4, 5, 6, 7, 8, 9, 10, 11, 12, 13] rfl)
                · rw [if_neg c237] at hm
                  cases hm
    have hJ129 : ∀ (x5_129 x6_129 x7_129 x8_129 x9_129 x10_129 x11_129 x12_129 : Int32), mL_same_J129 v_o_town_state_houses v_o_town_state_limit f_o_town_state_keys_cells f_o_town_state_weights_cells f_o_town_parents_cells f_o_town_children_cells x11_129 x12_129 f_ho x10_129 f_q f_na f_we x5_129 x6_129 x7_129 x8_129 x9_129 f_o_town_roads_cells f_o_town_namesIn_cells f_o_town_weightIn_cells f_o_town_homes_cells (mL_same_L18 v_o_town_state_houses f_o_town_state_keys_cells f_ho f_o_town_namesIn_cells f_na f_we v_o_town_state_limit f_o_town_state_weights_cells f_o_town_parents_cells f_o_town_children_cells f_q f_o_town_roads_cells f_o_town_weightIn_cells f_o_town_homes_cells n) = some (y5_18, y6_18, y7_18, y8_18, y9_18, y10_18) → ∀ ls : Array Slot, lv_has ls 16 [(0, .ref a_o), (1, .ref a_q), (2, .ref a_na), (3, .ref a_we), (4, .ref a_ho), (5, .int x5_129), (6, .int x6_129), (7, .int x7_129), (8, .int x8_129), (9, .int x9_129), (10, .int x10_129), (11, .int x11_129), (12, .int x12_129)] → W p l e (headSpec wsL_same rmL_same).room s m args below meth c H [] 0 0 Q (F0 m 129 ls []) := by
      intro x5_129 x6_129 x7_129 x8_129 x9_129 x10_129 x11_129 x12_129 hm ls hl
      unfold mL_same_J129 at hm
      refine lv_aload_n hx hb dL_same_129 rfl (lv_at hl 0 rfl) ?_
      refine lv_iload hx hb dL_same_130 (lv_at hl 11 rfl) ?_
      refine lv_iload hx hb dL_same_132 (lv_at hl 12 rfl) ?_
      obtain ⟨r134, e134, hm⟩ := bs hm
      try dsimp only at hm
      refine ro_callVe ⟨hx, hb, hml, hown, hts⟩ (kX7_reason_n l dC dI cA a_o a_o_town a_o_trial a_o_saves a_o_text a_o_reader a_o_town_state a_o_town_parents a_o_town_children a_o_town_roads a_o_town_namesIn a_o_town_weightIn a_o_town_homes a_o_town_leaving a_o_town_state_keys a_o_town_state_weights a_o_town_state_keys_cells a_o_town_state_weights_cells a_o_town_parents_cells a_o_town_children_cells v_o_town_state_houses v_o_town_state_limit v_o_town_state_movedIn v_o_town_state_evicted v_o_town_state_built v_o_town_state_tornDown f_o_town_state_keys_cells f_o_town_state_weights_cells f_o_town_parents_cells f_o_town_children_cells x11_129 x12_129 r134 e134) (cwV 2 hts gL_same_X7_reason rfl rfl rfl hdX7_reason_n ⟨Nat.le_of_ble_eq_true rfl, Nat.le_of_ble_eq_true rfl⟩) (hP.sub [0, 1, 2, 3, 4, 5, 6, 7, 8, 9, 10] rfl) hK rfl rfl rfl hl.1 rfl (Nat.le_of_ble_eq_true rfl) dL_same_134 ⟨Nat.zero_le _, Nat.zero_le _⟩ ?_
      refine lv_aload hx hb dL_same_137 (lv_at hl 4 rfl) ?_
      refine lv_iload hx hb dL_same_139 (lv_at hl 10 rfl) ?_
      obtain ⟨r141, e141, hm⟩ := bs hm
      try dsimp only at hm
      refine xa_ldO hx hb hK hP 23 0 rfl rfl e141 dL_same_141 ?_
      refine lv_iconst (v := 1) hx hb dL_same_142 (by decide) ?_
      refine lv_icmp_ne (tgt := 158) hx hb dL_same_143 (by decide) (fun c143 => ?_) (fun c143 => ?_)
      · rw [if_neg c143] at hm
        refine lv_iconst (v := (-1)) hx hb dL_same_158 (by decide) ?_
        refine lv_icmp_eq (tgt := 164) hx hb dL_same_159 (by decide) (fun c159 => ?_) (fun c159 => ?_)
        · rw [if_pos c159] at hm
          exact hJ164 x5_129 x6_129 x7_129 x8_129 x9_129 x10_129 x11_129 x12_129 hm _ (lv_sub hl [0, 1, 2, 3, 4, 5, 6, 7, 8, 9, 10, 11, 12] rfl)
        · rw [if_neg c159] at hm
          cases hm
      · rw [if_pos c143] at hm
        refine lv_iload hx hb dL_same_146 (lv_at hl 10 rfl) ?_
        refine lv_aload_n hx hb dL_same_148 rfl (lv_at hl 1 rfl) ?_
        refine lv_aload_n hx hb dL_same_149 rfl (lv_at hl 2 rfl) ?_
        refine lv_aload hx hb dL_same_150 (lv_at hl 4 rfl) ?_
        obtain ⟨r152, e152, hm⟩ := bs hm
        try dsimp only at hm
        refine ro_callSe ⟨hx, hb, hml, hown, hts⟩ (kL_reason l dC dI cA a_q a_na a_ho f_q f_na f_ho x10_129 r152 e152) (va_cwS 4 hts gL_same_L_reason rfl rfl rfl hdL_reason.2 ⟨Nat.le_of_ble_eq_true rfl, Nat.le_of_ble_eq_true rfl⟩) (hP.sub [20, 21, 23] rfl) hK rfl hl.1 rfl (Nat.le_of_ble_eq_true rfl) dL_same_152 ⟨Nat.zero_le _, Nat.zero_le _⟩ ?_
        refine lv_goto (tgt := 159) hx hb dL_same_155 (by decide) ?_
        refine lv_icmp_eq (tgt := 164) hx hb dL_same_159 (by decide) (fun c159 => ?_) (fun c159 => ?_)
        · rw [if_pos c159] at hm
          exact hJ164 x5_129 x6_129 x7_129 x8_129 x9_129 x10_129 x11_129 x12_129 hm _ (lv_sub hl [0, 1, 2, 3, 4, 5, 6, 7, 8, 9, 10, 11, 12] rfl)
        · rw [if_neg c159] at hm
          cases hm
    have hJ78 : ∀ (x5_78 x6_78 x7_78 x8_78 x9_78 x10_78 x11_78 x12_78 : Int32), mL_same_J78 x10_78 v_o_town_state_houses v_o_town_state_limit f_o_town_state_keys_cells f_o_town_state_weights_cells f_o_town_parents_cells f_o_town_children_cells x11_78 x12_78 f_ho f_q f_na f_we x5_78 x6_78 x7_78 x8_78 x9_78 f_o_town_roads_cells f_o_town_namesIn_cells f_o_town_weightIn_cells f_o_town_homes_cells (mL_same_L18 v_o_town_state_houses f_o_town_state_keys_cells f_ho f_o_town_namesIn_cells f_na f_we v_o_town_state_limit f_o_town_state_weights_cells f_o_town_parents_cells f_o_town_children_cells f_q f_o_town_roads_cells f_o_town_weightIn_cells f_o_town_homes_cells n) = some (y5_18, y6_18, y7_18, y8_18, y9_18, y10_18) → ∀ ls : Array Slot, lv_has ls 16 [(0, .ref a_o), (1, .ref a_q), (2, .ref a_na), (3, .ref a_we), (4, .ref a_ho), (5, .int x5_78), (6, .int x6_78), (7, .int x7_78), (8, .int x8_78), (9, .int x9_78), (10, .int x10_78), (11, .int x11_78), (12, .int x12_78)] → W p l e (headSpec wsL_same rmL_same).room s m args below meth c H [] 0 0 Q (F0 m 78 ls []) := by
      intro x5_78 x6_78 x7_78 x8_78 x9_78 x10_78 x11_78 x12_78 hm ls hl
      unfold mL_same_J78 at hm
      refine lv_iload hx hb dL_same_78 (lv_at hl 10 rfl) ?_
      refine lv_if_le (tgt := 129) hx hb dL_same_80 (by decide) (fun c80 => ?_) (fun c80 => ?_)
      · rw [if_pos c80] at hm
        exact hJ129 x5_78 x6_78 x7_78 x8_78 x9_78 x10_78 x11_78 x12_78 hm _ (lv_sub hl [0, 1, 2, 3, 4, 5, 6, 7, 8, 9, 10, 11, 12] rfl)
      · rw [if_neg c80] at hm
        refine lv_aload_n hx hb dL_same_83 rfl (lv_at hl 0 rfl) ?_
        refine lv_iload hx hb dL_same_84 (lv_at hl 11 rfl) ?_
        refine lv_iload hx hb dL_same_86 (lv_at hl 12 rfl) ?_
        obtain ⟨r88, e88, hm⟩ := bs hm
        try dsimp only at hm
        refine ro_callVe ⟨hx, hb, hml, hown, hts⟩ (kX7_rank_n l dC dI cA a_o a_o_town a_o_trial a_o_saves a_o_text a_o_reader a_o_town_state a_o_town_parents a_o_town_children a_o_town_roads a_o_town_namesIn a_o_town_weightIn a_o_town_homes a_o_town_leaving a_o_town_state_keys a_o_town_state_weights a_o_town_state_keys_cells a_o_town_namesIn_cells a_o_town_homes_cells v_o_town_state_houses v_o_town_state_limit v_o_town_state_movedIn v_o_town_state_evicted v_o_town_state_built v_o_town_state_tornDown f_o_town_state_keys_cells f_o_town_namesIn_cells f_o_town_homes_cells x11_78 x12_78 r88 e88) (cwV 2 hts gL_same_X7_rank rfl rfl rfl hdX7_rank_n ⟨Nat.le_of_ble_eq_true rfl, Nat.le_of_ble_eq_true rfl⟩) (hP.sub [0, 1, 2, 3, 4, 13, 14, 17, 18] rfl) hK rfl rfl rfl hl.1 rfl (Nat.le_of_ble_eq_true rfl) dL_same_88 ⟨Nat.zero_le _, Nat.zero_le _⟩ ?_
        refine lv_iload hx hb dL_same_91 (lv_at hl 10 rfl) ?_
        refine lv_aload_n hx hb dL_same_93 rfl (lv_at hl 2 rfl) ?_
        obtain ⟨r94, e94, hm⟩ := bs hm
        try dsimp only at hm
        refine ro_callSe ⟨hx, hb, hml, hown, hts⟩ (kL_rank l dC dI cA a_na f_na x10_78 r94 e94) (va_cwS 2 hts gL_same_L_rank rfl rfl rfl hdL_rank.2 ⟨Nat.le_of_ble_eq_true rfl, Nat.le_of_ble_eq_true rfl⟩) (hP.sub [21] rfl) hK rfl hl.1 rfl (Nat.le_of_ble_eq_true rfl) dL_same_94 ⟨Nat.zero_le _, Nat.zero_le _⟩ ?_
        refine lv_icmp_ne (tgt := 127) hx hb dL_same_97 (by decide) (fun c97 => ?_) (fun c97 => ?_)
        · rw [if_neg c97] at hm
          cases hm
        · rw [if_pos c97] at hm
          refine lv_aload_n hx hb dL_same_100 rfl (lv_at hl 0 rfl) ?_
          refine lv_iload hx hb dL_same_101 (lv_at hl 11 rfl) ?_
          refine lv_iload hx hb dL_same_103 (lv_at hl 12 rfl) ?_
          obtain ⟨r105, e105, hm⟩ := bs hm
          try dsimp only at hm
          refine ro_callVe ⟨hx, hb, hml, hown, hts⟩ (kX7_weight_n l dC dI cA a_o a_o_town a_o_trial a_o_saves a_o_text a_o_reader a_o_town_state a_o_town_parents a_o_town_children a_o_town_roads a_o_town_namesIn a_o_town_weightIn a_o_town_homes a_o_town_leaving a_o_town_state_keys a_o_town_state_weights a_o_town_state_keys_cells a_o_town_state_weights_cells v_o_town_state_houses v_o_town_state_limit v_o_town_state_movedIn v_o_town_state_evicted v_o_town_state_built v_o_town_state_tornDown f_o_town_state_keys_cells f_o_town_state_weights_cells x11_78 x12_78 r105 e105) (cwV 2 hts gL_same_X7_weight rfl rfl rfl hdX7_weight_n ⟨Nat.le_of_ble_eq_true rfl, Nat.le_of_ble_eq_true rfl⟩) (hP.sub [0, 1, 2, 3, 4, 5, 6] rfl) hK rfl rfl rfl hl.1 rfl (Nat.le_of_ble_eq_true rfl) dL_same_105 ⟨Nat.zero_le _, Nat.zero_le _⟩ ?_
          refine lv_aload_n hx hb dL_same_108 rfl (lv_at hl 2 rfl) ?_
          refine lv_iload hx hb dL_same_109 (lv_at hl 10 rfl) ?_
          obtain ⟨r111, e111, hm⟩ := bs hm
          try dsimp only at hm
          refine xa_ldO hx hb hK hP 21 0 rfl rfl e111 dL_same_111 ?_
          refine lv_iconst (v := 1) hx hb dL_same_112 (by decide) ?_
          refine lv_icmp_ne (tgt := 123) hx hb dL_same_113 (by decide) (fun c113 => ?_) (fun c113 => ?_)
          · rw [if_neg c113] at hm
            refine lv_iconst (v := (-1)) hx hb dL_same_123 (by decide) ?_
            refine lv_icmp_eq (tgt := 129) hx hb dL_same_124 (by decide) (fun c124 => ?_) (fun c124 => ?_)
            · rw [if_pos c124] at hm
              exact hJ129 x5_78 x6_78 x7_78 x8_78 x9_78 x10_78 x11_78 x12_78 hm _ (lv_sub hl [0, 1, 2, 3, 4, 5, 6, 7, 8, 9, 10, 11, 12] rfl)
            · rw [if_neg c124] at hm
              cases hm
          · rw [if_pos c113] at hm
            refine lv_aload_n hx hb dL_same_116 rfl (lv_at hl 3 rfl) ?_
            refine lv_iload hx hb dL_same_117 (lv_at hl 10 rfl) ?_
            obtain ⟨r119, e119, hm⟩ := bs hm
            try dsimp only at hm
            refine xa_ldO hx hb hK hP 22 0 rfl rfl e119 dL_same_119 ?_
            refine lv_goto (tgt := 124) hx hb dL_same_120 (by decide) ?_
            refine lv_icmp_eq (tgt := 129) hx hb dL_same_124 (by decide) (fun c124 => ?_) (fun c124 => ?_)
            · rw [if_pos c124] at hm
              exact hJ129 x5_78 x6_78 x7_78 x8_78 x9_78 x10_78 x11_78 x12_78 hm _ (lv_sub hl [0, 1, 2, 3, 4, 5, 6, 7, 8, 9, 10, 11, 12] rfl)
            · rw [if_neg c124] at hm
              cases hm
    refine lv_iload hx hb dL_same_18 (lv_at hl 10 rfl) ?_
    refine lv_bipush (v := 15) hx hb dL_same_20 (by decide) ?_
    refine lv_icmp_ge (tgt := 551) hx hb dL_same_22 (by decide) (fun c22 => ?_) (fun c22 => ?_)
    · rw [if_pos c22] at hm
      cases hm
      exact kk0 _ (lv_sub hl [0, 1, 2, 3, 4, 5, 6, 7, 8, 9, 10] rfl)
    · rw [if_neg c22] at hm
      refine lv_iload hx hb dL_same_25 (lv_at hl 10 rfl) ?_
      obtain ⟨r27, e27, hm⟩ := bs hm
      try dsimp only at hm
      refine sp_callSe ⟨hx, hb, hml, hown, hts⟩ (kL_letters l x10_18 r27 e27) (va_cwS 1 hts gL_same_L_letters rfl rfl rfl hdL_letters.2 ⟨Nat.le_of_ble_eq_true rfl, Nat.le_of_ble_eq_true rfl⟩) rfl hl.1 rfl (Nat.le_of_ble_eq_true rfl) dL_same_27 ⟨Nat.zero_le _, Nat.zero_le _⟩ ?_
      refine lv_istore (lv' := [(11, .int r27), (0, .ref a_o), (1, .ref a_q), (2, .ref a_na), (3, .ref a_we), (4, .ref a_ho), (5, .int x5_18), (6, .int x6_18), (7, .int x7_18), (8, .int x8_18), (9, .int x9_18), (10, .int x10_18)]) hx hb dL_same_30 hl (by decide) rfl (fun ls hl => ?_)
      refine lv_iload hx hb dL_same_32 (lv_at hl 11 rfl) ?_
      refine sp_callSe ⟨hx, hb, hml, hown, hts⟩ (kL_length l x10_18) (va_cwS 1 hts gL_same_L_length rfl rfl rfl hdL_length.2 ⟨Nat.le_of_ble_eq_true rfl, Nat.le_of_ble_eq_true rfl⟩) rfl hl.1 rfl (Nat.le_of_ble_eq_true rfl) dL_same_34 ⟨Nat.zero_le _, Nat.zero_le _⟩ ?_
      refine lv_istore (lv' := [(12, .int (mL_length x10_18)), (11, .int r27), (0, .ref a_o), (1, .ref a_q), (2, .ref a_na), (3, .ref a_we), (4, .ref a_ho), (5, .int x5_18), (6, .int x6_18), (7, .int x7_18), (8, .int x8_18), (9, .int x9_18), (10, .int x10_18)]) hx hb dL_same_37 hl (by decide) rfl (fun ls hl => ?_)
      refine lv_aload_n hx hb dL_same_39 rfl (lv_at hl 2 rfl) ?_
      refine lv_iload hx hb dL_same_40 (lv_at hl 1 rfl) ?_
      refine lv_iload hx hb dL_same_42 (lv_at hl 0 rfl) ?_
      obtain ⟨r44, e44, hm⟩ := bs hm
      try dsimp only at hm
      refine ro_callVe ⟨hx, hb, hml, hown, hts⟩ (kX7_houseOf_n l dC dI cA a_o a_o_town a_o_trial a_o_saves a_o_text a_o_reader a_o_town_state a_o_town_parents a_o_town_children a_o_town_roads a_o_town_namesIn a_o_town_weightIn a_o_town_homes a_o_town_leaving a_o_town_state_keys a_o_town_state_weights a_o_town_state_keys_cells v_o_town_state_houses v_o_town_state_limit v_o_town_state_movedIn v_o_town_state_evicted v_o_town_state_built v_o_town_state_tornDown f_o_town_state_keys_cells r27 (mL_length x10_18) r44 e44) (cwV 2 hts gL_same_X7_houseOf rfl rfl rfl hdX7_houseOf_n ⟨Nat.le_of_ble_eq_true rfl, Nat.le_of_ble_eq_true rfl⟩) (hP.sub [0, 1, 2, 3, 4] rfl) hK rfl rfl rfl hl.1 rfl (Nat.le_of_ble_eq_true rfl) dL_same_44 ⟨Nat.zero_le _, Nat.zero_le _⟩ ?_
      refine lv_iload hx hb dL_same_47 (lv_at hl 12 rfl) ?_
      refine lv_aload hx hb dL_same_49 (lv_at hl 6 rfl) ?_
      obtain ⟨r51, e51, hm⟩ := bs hm
      try dsimp only at hm
      refine ro_callSe ⟨hx, hb, hml, hown, hts⟩ (kL_index l dC dI cA a_ho f_ho x10_18 r51 e51) (va_cwS 2 hts gL_same_L_index rfl rfl rfl hdL_index.2 ⟨Nat.le_of_ble_eq_true rfl, Nat.le_of_ble_eq_true rfl⟩) (hP.sub [23] rfl) hK rfl hl.1 rfl (Nat.le_of_ble_eq_true rfl) dL_same_51 ⟨Nat.zero_le _, Nat.zero_le _⟩ ?_
      refine lv_icmp_ne (tgt := 76) hx hb dL_same_54 (by decide) (fun c54 => ?_) (fun c54 => ?_)
      · rw [if_neg c54] at hm
        cases hm
      · rw [if_pos c54] at hm
        refine lv_aload_n hx hb dL_same_57 rfl (lv_at hl 2 rfl) ?_
        refine lv_iload hx hb dL_same_58 (lv_at hl 1 rfl) ?_
        refine lv_iload hx hb dL_same_60 (lv_at hl 0 rfl) ?_
        obtain ⟨r62, e62, hm⟩ := bs hm
        try dsimp only at hm
        refine ro_callVe ⟨hx, hb, hml, hown, hts⟩ (kX7_count_n l dC dI cA a_o a_o_town a_o_trial a_o_saves a_o_text a_o_reader a_o_town_state a_o_town_parents a_o_town_children a_o_town_roads a_o_town_namesIn a_o_town_weightIn a_o_town_homes a_o_town_leaving a_o_town_state_keys a_o_town_state_weights a_o_town_state_keys_cells a_o_town_namesIn_cells v_o_town_state_houses v_o_town_state_limit v_o_town_state_movedIn v_o_town_state_evicted v_o_town_state_built v_o_town_state_tornDown f_o_town_state_keys_cells f_o_town_namesIn_cells r27 (mL_length x10_18) r62 e62) (cwV 2 hts gL_same_X7_count rfl rfl rfl hdX7_count_n ⟨Nat.le_of_ble_eq_true rfl, Nat.le_of_ble_eq_true rfl⟩) (hP.sub [0, 1, 2, 3, 4, 13, 14] rfl) hK rfl rfl rfl hl.1 rfl (Nat.le_of_ble_eq_true rfl) dL_same_62 ⟨Nat.zero_le _, Nat.zero_le _⟩ ?_
        refine lv_iload hx hb dL_same_65 (lv_at hl 12 rfl) ?_
        refine lv_aload_n hx hb dL_same_67 rfl (lv_at hl 4 rfl) ?_
        refine lv_aload_n hx hb dL_same_68 rfl (lv_at hl 5 rfl) ?_
        refine lv_iconst (v := 0) hx hb dL_same_69 (by decide) ?_
        obtain ⟨r70, e70, hm⟩ := bs hm
        try dsimp only at hm
        refine ro_callSe ⟨hx, hb, hml, hown, hts⟩ (kL_below l dC dI cA a_na a_we f_na f_we x10_18 0 r70 e70) (va_cwS 4 hts gL_same_L_below rfl rfl rfl hdL_below.2 ⟨Nat.le_of_ble_eq_true rfl, Nat.le_of_ble_eq_true rfl⟩) (hP.sub [21, 22] rfl) hK rfl hl.1 rfl (Nat.le_of_ble_eq_true rfl) dL_same_70 ⟨Nat.zero_le _, Nat.zero_le _⟩ ?_
        refine lv_icmp_eq (tgt := 78) hx hb dL_same_73 (by decide) (fun c73 => ?_) (fun c73 => ?_)
        · rw [if_pos c73] at hm
          exact hJ78 x5_18 x6_18 x7_18 x8_18 x9_18 x10_18 r27 (mL_length x10_18) hm _ (lv_sub hl [2, 3, 4, 5, 6, 7, 8, 9, 10, 11, 12, 1, 0] rfl)
        · rw [if_neg c73] at hm
          cases hm
set_option maxHeartbeats 4000000 in
set_option maxRecDepth 100000 in
theorem kL_same (l : Launch) (dC : Nat → ClassId) (dI : Nat → Nat → Nat) (cA : ClassId) (a_o a_o_town a_o_trial a_o_saves a_o_text a_o_reader a_o_town_state a_o_town_parents a_o_town_children a_o_town_roads a_o_town_namesIn a_o_town_weightIn a_o_town_homes a_o_town_leaving a_o_town_state_keys a_o_town_state_weights a_o_town_state_keys_cells a_o_town_state_weights_cells a_o_town_parents_cells a_o_town_children_cells a_o_town_roads_cells a_o_town_namesIn_cells a_o_town_weightIn_cells a_o_town_homes_cells a_o_text_signs a_q a_na a_we a_ho : Nat) (v_o_town_state_houses v_o_town_state_limit v_o_town_state_movedIn v_o_town_state_evicted v_o_town_state_built v_o_town_state_tornDown : Int32) (f_o_town_state_keys_cells f_o_town_state_weights_cells f_o_town_parents_cells f_o_town_children_cells f_o_town_roads_cells f_o_town_namesIn_cells f_o_town_weightIn_cells f_o_town_homes_cells : Nat → Int32) (v_o_text_length : Int32) (f_q f_na f_we f_ho : Nat → Int32) (r : Int32) (hm : (mL_same v_o_town_state_houses v_o_town_state_limit v_o_town_state_movedIn v_o_town_state_evicted v_o_town_state_built v_o_town_state_tornDown f_o_town_state_keys_cells f_o_town_state_weights_cells f_o_town_parents_cells f_o_town_children_cells f_o_town_roads_cells f_o_town_namesIn_cells f_o_town_weightIn_cells f_o_town_homes_cells v_o_text_length f_q f_na f_we f_ho) = some r) : Met l yL_same wsL_same rmL_same (rpc (dC, dI) [(cA, .int)] (wL_same cA a_o a_o_town a_o_trial a_o_saves a_o_text a_o_reader a_o_town_state a_o_town_parents a_o_town_children a_o_town_roads a_o_town_namesIn a_o_town_weightIn a_o_town_homes a_o_town_leaving a_o_town_state_keys a_o_town_state_weights a_o_town_state_keys_cells a_o_town_state_weights_cells a_o_town_parents_cells a_o_town_children_cells a_o_town_roads_cells a_o_town_namesIn_cells a_o_town_weightIn_cells a_o_town_homes_cells a_o_text_signs a_q a_na a_we a_ho v_o_town_state_houses v_o_town_state_limit v_o_town_state_movedIn v_o_town_state_evicted v_o_town_state_built v_o_town_state_tornDown f_o_town_state_keys_cells f_o_town_state_weights_cells f_o_town_parents_cells f_o_town_children_cells f_o_town_roads_cells f_o_town_namesIn_cells f_o_town_weightIn_cells f_o_town_homes_cells v_o_text_length f_q f_na f_we f_ho) [.ref a_o, .ref a_q, .ref a_na, .ref a_we, .ref a_ho]) (vp_Si (fun x => x = r ∧ nbr r)) 0 0 (fun _ => False) := by
  unfold mL_same at hm
  refine ro_ofW (cc := cL_same) (maxL := 16) (ret := (some .boolean)) (own := RL) (by decide) rfl rfl (Nat.le_of_ble_eq_true rfl) ?_
  intro p e s m args below meth c hx hb hr hts hown hlocks hml hP hK ls hl
  have hl : lv_has ls 16 [(0, .ref a_o), (1, .ref a_q), (2, .ref a_na), (3, .ref a_we), (4, .ref a_ho)] := hl
  have hP : va_P (dC, dI) vwCl [(a_o, .inr (6, [.ref a_o_town, .ref a_o_trial, .ref a_o_saves, .ref a_o_text, .ref a_o_reader])), (a_o_town, .inr (4, [.ref a_o_town_state, .ref a_o_town_parents, .ref a_o_town_children, .ref a_o_town_roads, .ref a_o_town_namesIn, .ref a_o_town_weightIn, .ref a_o_town_homes, .ref a_o_town_leaving])), (a_o_town_state, .inr (3, [.ref a_o_town_state_keys, .ref a_o_town_state_weights, .int v_o_town_state_houses, .int v_o_town_state_limit, .int v_o_town_state_movedIn, .int v_o_town_state_evicted, .int v_o_town_state_built, .int v_o_town_state_tornDown])), (a_o_town_state_keys, .inr (2, [.ref a_o_town_state_keys_cells])), (a_o_town_state_keys_cells, .inl (cA, 193, .inl f_o_town_state_keys_cells)), (a_o_town_state_weights, .inr (2, [.ref a_o_town_state_weights_cells])), (a_o_town_state_weights_cells, .inl (cA, 193, .inl f_o_town_state_weights_cells)), (a_o_town_parents, .inr (2, [.ref a_o_town_parents_cells])), (a_o_town_parents_cells, .inl (cA, 193, .inl f_o_town_parents_cells)), (a_o_town_children, .inr (2, [.ref a_o_town_children_cells])), (a_o_town_children_cells, .inl (cA, 193, .inl f_o_town_children_cells)), (a_o_town_roads, .inr (2, [.ref a_o_town_roads_cells])), (a_o_town_roads_cells, .inl (cA, 193, .inl f_o_town_roads_cells)), (a_o_town_namesIn, .inr (2, [.ref a_o_town_namesIn_cells])), (a_o_town_namesIn_cells, .inl (cA, 193, .inl f_o_town_namesIn_cells)), (a_o_town_weightIn, .inr (2, [.ref a_o_town_weightIn_cells])), (a_o_town_weightIn_cells, .inl (cA, 193, .inl f_o_town_weightIn_cells)), (a_o_town_homes, .inr (2, [.ref a_o_town_homes_cells])), (a_o_town_homes_cells, .inl (cA, 24, .inl f_o_town_homes_cells)), (a_o_text, .inr (1, [.ref a_o_text_signs, .int v_o_text_length])), (a_q, .inl (cA, 5, .inl f_q)), (a_na, .inl (cA, 15, .inl f_na)), (a_we, .inl (cA, 15, .inl f_we)), (a_ho, .inl (cA, 15, .inl f_ho))] s.heap := hP
  refine lv_iconst (v := 0) hx hb dL_same_0 (by decide) ?_
  refine lv_istore (lv' := [(5, .int 0), (0, .ref a_o), (1, .ref a_q), (2, .ref a_na), (3, .ref a_we), (4, .ref a_ho)]) hx hb dL_same_1 hl (by decide) rfl (fun ls hl => ?_)
  refine lv_iconst (v := 0) hx hb dL_same_3 (by decide) ?_
  refine lv_istore (lv' := [(6, .int 0), (5, .int 0), (0, .ref a_o), (1, .ref a_q), (2, .ref a_na), (3, .ref a_we), (4, .ref a_ho)]) hx hb dL_same_4 hl (by decide) rfl (fun ls hl => ?_)
  refine lv_iconst (v := 0) hx hb dL_same_6 (by decide) ?_
  refine lv_istore (lv' := [(7, .int 0), (6, .int 0), (5, .int 0), (0, .ref a_o), (1, .ref a_q), (2, .ref a_na), (3, .ref a_we), (4, .ref a_ho)]) hx hb dL_same_7 hl (by decide) rfl (fun ls hl => ?_)
  refine lv_iconst (v := (-1)) hx hb dL_same_9 (by decide) ?_
  refine lv_istore (lv' := [(8, .int (-1)), (7, .int 0), (6, .int 0), (5, .int 0), (0, .ref a_o), (1, .ref a_q), (2, .ref a_na), (3, .ref a_we), (4, .ref a_ho)]) hx hb dL_same_10 hl (by decide) rfl (fun ls hl => ?_)
  refine lv_iconst (v := (-1)) hx hb dL_same_12 (by decide) ?_
  refine lv_istore (lv' := [(9, .int (-1)), (8, .int (-1)), (7, .int 0), (6, .int 0), (5, .int 0), (0, .ref a_o), (1, .ref a_q), (2, .ref a_na), (3, .ref a_we), (4, .ref a_ho)]) hx hb dL_same_13 hl (by decide) rfl (fun ls hl => ?_)
  refine lv_iconst (v := 0) hx hb dL_same_15 (by decide) ?_
  refine lv_istore (lv' := [(10, .int 0), (9, .int (-1)), (8, .int (-1)), (7, .int 0), (6, .int 0), (5, .int 0), (0, .ref a_o), (1, .ref a_q), (2, .ref a_na), (3, .ref a_we), (4, .ref a_ho)]) hx hb dL_same_16 hl (by decide) rfl (fun ls hl => ?_)
  obtain ⟨⟨y5_18, y6_18, y7_18, y8_18, y9_18, y10_18⟩, e18, hm⟩ := bs hm
  try dsimp only at hm
  refine wL_same_L18 dC dI cA a_o a_o_town a_o_trial a_o_saves a_o_text a_o_reader a_o_town_state a_o_town_parents a_o_town_children a_o_town_roads a_o_town_namesIn a_o_town_weightIn a_o_town_homes a_o_town_leaving a_o_town_state_keys a_o_town_state_weights a_o_town_state_keys_cells a_o_town_state_weights_cells a_o_town_parents_cells a_o_town_children_cells a_o_town_roads_cells a_o_town_namesIn_cells a_o_town_weightIn_cells a_o_town_homes_cells a_o_text_signs a_q a_na a_we a_ho v_o_town_state_houses v_o_town_state_limit v_o_town_state_movedIn v_o_town_state_evicted v_o_town_state_built v_o_town_state_tornDown f_o_town_state_keys_cells f_o_town_state_weights_cells f_o_town_parents_cells f_o_town_children_cells f_o_town_roads_cells f_o_town_namesIn_cells f_o_town_weightIn_cells f_o_town_homes_cells v_o_text_length f_q f_na f_we f_ho  y5_18 y6_18 y7_18 y8_18 y9_18 y10_18 hx hb hml hown hts hK (hP.sub [0, 1, 2, 3, 4, 5, 6, 7, 8, 9, 10, 11, 12, 13, 14, 15, 16, 17, 18, 19, 20, 21, 22, 23] rfl) ?_ FU _ _ _ _ _ _ e18 _ (lv_sub hl [6, 7, 8, 9, 10, 5, 4, 3, 2, 1, 0] rfl)
  · intro ls hl
    refine lv_aload_n hx hb dL_same_551 rfl (lv_at hl 0 rfl) ?_
    refine lv_iconst (v := 0) hx hb dL_same_552 (by decide) ?_
    obtain ⟨r553, e553, hm⟩ := bs hm
    try dsimp only at hm
    refine ro_callVe ⟨hx, hb, hml, hown, hts⟩ (kX7_whole_n l dC dI cA a_o a_o_town a_o_trial a_o_saves a_o_text a_o_reader a_o_town_state a_o_town_parents a_o_town_children a_o_town_roads a_o_town_namesIn a_o_town_weightIn a_o_town_homes a_o_town_leaving a_o_town_state_keys a_o_town_state_weights a_o_town_state_keys_cells a_o_town_state_weights_cells a_o_town_parents_cells a_o_town_roads_cells a_o_town_namesIn_cells a_o_town_homes_cells a_o_text_signs v_o_town_state_houses v_o_town_state_limit v_o_town_state_movedIn v_o_town_state_evicted v_o_town_state_built v_o_town_state_tornDown f_o_town_state_keys_cells f_o_town_state_weights_cells f_o_town_parents_cells f_o_town_roads_cells f_o_town_namesIn_cells f_o_town_homes_cells v_o_text_length 0 r553 e553) (cwV 1 hts gL_same_X7_whole rfl rfl rfl hdX7_whole_n ⟨Nat.le_of_ble_eq_true rfl, Nat.le_of_ble_eq_true rfl⟩) (hP.sub [0, 1, 2, 3, 4, 5, 6, 7, 8, 11, 12, 13, 14, 17, 18, 19] rfl) hK rfl rfl rfl hl.1 rfl (Nat.le_of_ble_eq_true rfl) dL_same_553 ⟨Nat.zero_le _, Nat.zero_le _⟩ ?_
    refine lv_iload hx hb dL_same_556 (lv_at hl 5 rfl) ?_
    refine lv_icmp_ne (tgt := 659) hx hb dL_same_558 (by decide) (fun c558 => ?_) (fun c558 => ?_)
    · rw [if_neg c558] at hm
      cases hm
    · rw [if_pos c558] at hm
      refine lv_aload_n hx hb dL_same_561 rfl (lv_at hl 0 rfl) ?_
      refine lv_iconst (v := 1) hx hb dL_same_562 (by decide) ?_
      obtain ⟨r563, e563, hm⟩ := bs hm
      try dsimp only at hm
      refine ro_callVe ⟨hx, hb, hml, hown, hts⟩ (kX7_whole_n l dC dI cA a_o a_o_town a_o_trial a_o_saves a_o_text a_o_reader a_o_town_state a_o_town_parents a_o_town_children a_o_town_roads a_o_town_namesIn a_o_town_weightIn a_o_town_homes a_o_town_leaving a_o_town_state_keys a_o_town_state_weights a_o_town_state_keys_cells a_o_town_state_weights_cells a_o_town_parents_cells a_o_town_roads_cells a_o_town_namesIn_cells a_o_town_homes_cells a_o_text_signs v_o_town_state_houses v_o_town_state_limit v_o_town_state_movedIn v_o_town_state_evicted v_o_town_state_built v_o_town_state_tornDown f_o_town_state_keys_cells f_o_town_state_weights_cells f_o_town_parents_cells f_o_town_roads_cells f_o_town_namesIn_cells f_o_town_homes_cells v_o_text_length 1 r563 e563) (cwV 1 hts gL_same_X7_whole rfl rfl rfl hdX7_whole_n ⟨Nat.le_of_ble_eq_true rfl, Nat.le_of_ble_eq_true rfl⟩) (hP.sub [0, 1, 2, 3, 4, 5, 6, 7, 8, 11, 12, 13, 14, 17, 18, 19] rfl) hK rfl rfl rfl hl.1 rfl (Nat.le_of_ble_eq_true rfl) dL_same_563 ⟨Nat.zero_le _, Nat.zero_le _⟩ ?_
      refine lv_iload hx hb dL_same_566 (lv_at hl 6 rfl) ?_
      refine lv_icmp_ne (tgt := 659) hx hb dL_same_568 (by decide) (fun c568 => ?_) (fun c568 => ?_)
      · rw [if_neg c568] at hm
        cases hm
      · rw [if_pos c568] at hm
        refine lv_aload_n hx hb dL_same_571 rfl (lv_at hl 0 rfl) ?_
        refine lv_iconst (v := 3) hx hb dL_same_572 (by decide) ?_
        obtain ⟨r573, e573, hm⟩ := bs hm
        try dsimp only at hm
        refine ro_callVe ⟨hx, hb, hml, hown, hts⟩ (kX7_whole_n l dC dI cA a_o a_o_town a_o_trial a_o_saves a_o_text a_o_reader a_o_town_state a_o_town_parents a_o_town_children a_o_town_roads a_o_town_namesIn a_o_town_weightIn a_o_town_homes a_o_town_leaving a_o_town_state_keys a_o_town_state_weights a_o_town_state_keys_cells a_o_town_state_weights_cells a_o_town_parents_cells a_o_town_roads_cells a_o_town_namesIn_cells a_o_town_homes_cells a_o_text_signs v_o_town_state_houses v_o_town_state_limit v_o_town_state_movedIn v_o_town_state_evicted v_o_town_state_built v_o_town_state_tornDown f_o_town_state_keys_cells f_o_town_state_weights_cells f_o_town_parents_cells f_o_town_roads_cells f_o_town_namesIn_cells f_o_town_homes_cells v_o_text_length 3 r573 e573) (cwV 1 hts gL_same_X7_whole rfl rfl rfl hdX7_whole_n ⟨Nat.le_of_ble_eq_true rfl, Nat.le_of_ble_eq_true rfl⟩) (hP.sub [0, 1, 2, 3, 4, 5, 6, 7, 8, 11, 12, 13, 14, 17, 18, 19] rfl) hK rfl rfl rfl hl.1 rfl (Nat.le_of_ble_eq_true rfl) dL_same_573 ⟨Nat.zero_le _, Nat.zero_le _⟩ ?_
        refine lv_aload_n hx hb dL_same_576 rfl (lv_at hl 2 rfl) ?_
        refine lv_aload_n hx hb dL_same_577 rfl (lv_at hl 3 rfl) ?_
        refine lv_aload hx hb dL_same_578 (lv_at hl 4 rfl) ?_
        obtain ⟨r580, e580, hm⟩ := bs hm
        try dsimp only at hm
        refine ro_callSe ⟨hx, hb, hml, hown, hts⟩ (kL_cost l dC dI cA a_na a_we a_ho f_na f_we f_ho r580 e580) (va_cwS 3 hts gL_same_L_cost rfl rfl rfl hdL_cost.2 ⟨Nat.le_of_ble_eq_true rfl, Nat.le_of_ble_eq_true rfl⟩) (hP.sub [21, 22, 23] rfl) hK rfl hl.1 rfl (Nat.le_of_ble_eq_true rfl) dL_same_580 ⟨Nat.zero_le _, Nat.zero_le _⟩ ?_
        refine lv_icmp_ne (tgt := 659) hx hb dL_same_583 (by decide) (fun c583 => ?_) (fun c583 => ?_)
        · rw [if_neg c583] at hm
          cases hm
        · rw [if_pos c583] at hm
          refine lv_aload_n hx hb dL_same_586 rfl (lv_at hl 0 rfl) ?_
          refine lv_bipush (v := 7) hx hb dL_same_587 (by decide) ?_
          obtain ⟨r589, e589, hm⟩ := bs hm
          try dsimp only at hm
          refine ro_callVe ⟨hx, hb, hml, hown, hts⟩ (kX7_whole_n l dC dI cA a_o a_o_town a_o_trial a_o_saves a_o_text a_o_reader a_o_town_state a_o_town_parents a_o_town_children a_o_town_roads a_o_town_namesIn a_o_town_weightIn a_o_town_homes a_o_town_leaving a_o_town_state_keys a_o_town_state_weights a_o_town_state_keys_cells a_o_town_state_weights_cells a_o_town_parents_cells a_o_town_roads_cells a_o_town_namesIn_cells a_o_town_homes_cells a_o_text_signs v_o_town_state_houses v_o_town_state_limit v_o_town_state_movedIn v_o_town_state_evicted v_o_town_state_built v_o_town_state_tornDown f_o_town_state_keys_cells f_o_town_state_weights_cells f_o_town_parents_cells f_o_town_roads_cells f_o_town_namesIn_cells f_o_town_homes_cells v_o_text_length 7 r589 e589) (cwV 1 hts gL_same_X7_whole rfl rfl rfl hdX7_whole_n ⟨Nat.le_of_ble_eq_true rfl, Nat.le_of_ble_eq_true rfl⟩) (hP.sub [0, 1, 2, 3, 4, 5, 6, 7, 8, 11, 12, 13, 14, 17, 18, 19] rfl) hK rfl rfl rfl hl.1 rfl (Nat.le_of_ble_eq_true rfl) dL_same_589 ⟨Nat.zero_le _, Nat.zero_le _⟩ ?_
          refine lv_aload_n hx hb dL_same_592 rfl (lv_at hl 1 rfl) ?_
          refine lv_iconst (v := 1) hx hb dL_same_593 (by decide) ?_
          refine xa_ldK hx hb hK hP 20 0 rfl rfl 1 rfl (by decide) (by decide) dL_same_594 ?_
          refine lv_icmp_ne (tgt := 659) hx hb dL_same_595 (by decide) (fun c595 => ?_) (fun c595 => ?_)
          · rw [if_neg c595] at hm
            cases hm
          · rw [if_pos c595] at hm
            refine lv_aload_n hx hb dL_same_598 rfl (lv_at hl 0 rfl) ?_
            refine lv_bipush (v := 8) hx hb dL_same_599 (by decide) ?_
            obtain ⟨r601, e601, hm⟩ := bs hm
            try dsimp only at hm
            refine ro_callVe ⟨hx, hb, hml, hown, hts⟩ (kX7_whole_n l dC dI cA a_o a_o_town a_o_trial a_o_saves a_o_text a_o_reader a_o_town_state a_o_town_parents a_o_town_children a_o_town_roads a_o_town_namesIn a_o_town_weightIn a_o_town_homes a_o_town_leaving a_o_town_state_keys a_o_town_state_weights a_o_town_state_keys_cells a_o_town_state_weights_cells a_o_town_parents_cells a_o_town_roads_cells a_o_town_namesIn_cells a_o_town_homes_cells a_o_text_signs v_o_town_state_houses v_o_town_state_limit v_o_town_state_movedIn v_o_town_state_evicted v_o_town_state_built v_o_town_state_tornDown f_o_town_state_keys_cells f_o_town_state_weights_cells f_o_town_parents_cells f_o_town_roads_cells f_o_town_namesIn_cells f_o_town_homes_cells v_o_text_length 8 r601 e601) (cwV 1 hts gL_same_X7_whole rfl rfl rfl hdX7_whole_n ⟨Nat.le_of_ble_eq_true rfl, Nat.le_of_ble_eq_true rfl⟩) (hP.sub [0, 1, 2, 3, 4, 5, 6, 7, 8, 11, 12, 13, 14, 17, 18, 19] rfl) hK rfl rfl rfl hl.1 rfl (Nat.le_of_ble_eq_true rfl) dL_same_601 ⟨Nat.zero_le _, Nat.zero_le _⟩ ?_
            refine lv_aload_n hx hb dL_same_604 rfl (lv_at hl 1 rfl) ?_
            refine lv_iconst (v := 2) hx hb dL_same_605 (by decide) ?_
            refine xa_ldK hx hb hK hP 20 0 rfl rfl 2 rfl (by decide) (by decide) dL_same_606 ?_
            refine lv_icmp_ne (tgt := 659) hx hb dL_same_607 (by decide) (fun c607 => ?_) (fun c607 => ?_)
            · rw [if_neg c607] at hm
              cases hm
            · rw [if_pos c607] at hm
              refine lv_aload_n hx hb dL_same_610 rfl (lv_at hl 0 rfl) ?_
              refine lv_bipush (v := 9) hx hb dL_same_611 (by decide) ?_
              obtain ⟨r613, e613, hm⟩ := bs hm
              try dsimp only at hm
              refine ro_callVe ⟨hx, hb, hml, hown, hts⟩ (kX7_whole_n l dC dI cA a_o a_o_town a_o_trial a_o_saves a_o_text a_o_reader a_o_town_state a_o_town_parents a_o_town_children a_o_town_roads a_o_town_namesIn a_o_town_weightIn a_o_town_homes a_o_town_leaving a_o_town_state_keys a_o_town_state_weights a_o_town_state_keys_cells a_o_town_state_weights_cells a_o_town_parents_cells a_o_town_roads_cells a_o_town_namesIn_cells a_o_town_homes_cells a_o_text_signs v_o_town_state_houses v_o_town_state_limit v_o_town_state_movedIn v_o_town_state_evicted v_o_town_state_built v_o_town_state_tornDown f_o_town_state_keys_cells f_o_town_state_weights_cells f_o_town_parents_cells f_o_town_roads_cells f_o_town_namesIn_cells f_o_town_homes_cells v_o_text_length 9 r613 e613) (cwV 1 hts gL_same_X7_whole rfl rfl rfl hdX7_whole_n ⟨Nat.le_of_ble_eq_true rfl, Nat.le_of_ble_eq_true rfl⟩) (hP.sub [0, 1, 2, 3, 4, 5, 6, 7, 8, 11, 12, 13, 14, 17, 18, 19] rfl) hK rfl rfl rfl hl.1 rfl (Nat.le_of_ble_eq_true rfl) dL_same_613 ⟨Nat.zero_le _, Nat.zero_le _⟩ ?_
              refine lv_aload_n hx hb dL_same_616 rfl (lv_at hl 1 rfl) ?_
              refine lv_iconst (v := 3) hx hb dL_same_617 (by decide) ?_
              refine xa_ldK hx hb hK hP 20 0 rfl rfl 3 rfl (by decide) (by decide) dL_same_618 ?_
              refine lv_icmp_ne (tgt := 659) hx hb dL_same_619 (by decide) (fun c619 => ?_) (fun c619 => ?_)
              · rw [if_neg c619] at hm
                cases hm
              · rw [if_pos c619] at hm
                refine lv_aload_n hx hb dL_same_622 rfl (lv_at hl 0 rfl) ?_
                refine lv_bipush (v := 10) hx hb dL_same_623 (by decide) ?_
                obtain ⟨r625, e625, hm⟩ := bs hm
                try dsimp only at hm
                refine ro_callVe ⟨hx, hb, hml, hown, hts⟩ (kX7_whole_n l dC dI cA a_o a_o_town a_o_trial a_o_saves a_o_text a_o_reader a_o_town_state a_o_town_parents a_o_town_children a_o_town_roads a_o_town_namesIn a_o_town_weightIn a_o_town_homes a_o_town_leaving a_o_town_state_keys a_o_town_state_weights a_o_town_state_keys_cells a_o_town_state_weights_cells a_o_town_parents_cells a_o_town_roads_cells a_o_town_namesIn_cells a_o_town_homes_cells a_o_text_signs v_o_town_state_houses v_o_town_state_limit v_o_town_state_movedIn v_o_town_state_evicted v_o_town_state_built v_o_town_state_tornDown f_o_town_state_keys_cells f_o_town_state_weights_cells f_o_town_parents_cells f_o_town_roads_cells f_o_town_namesIn_cells f_o_town_homes_cells v_o_text_length 10 r625 e625) (cwV 1 hts gL_same_X7_whole rfl rfl rfl hdX7_whole_n ⟨Nat.le_of_ble_eq_true rfl, Nat.le_of_ble_eq_true rfl⟩) (hP.sub [0, 1, 2, 3, 4, 5, 6, 7, 8, 11, 12, 13, 14, 17, 18, 19] rfl) hK rfl rfl rfl hl.1 rfl (Nat.le_of_ble_eq_true rfl) dL_same_625 ⟨Nat.zero_le _, Nat.zero_le _⟩ ?_
                refine lv_aload_n hx hb dL_same_628 rfl (lv_at hl 1 rfl) ?_
                refine lv_iconst (v := 4) hx hb dL_same_629 (by decide) ?_
                refine xa_ldK hx hb hK hP 20 0 rfl rfl 4 rfl (by decide) (by decide) dL_same_630 ?_
                refine lv_icmp_ne (tgt := 659) hx hb dL_same_631 (by decide) (fun c631 => ?_) (fun c631 => ?_)
                · rw [if_neg c631] at hm
                  cases hm
                · rw [if_pos c631] at hm
                  refine lv_aload_n hx hb dL_same_634 rfl (lv_at hl 0 rfl) ?_
                  refine lv_iconst (v := 0) hx hb dL_same_635 (by decide) ?_
                  refine lv_bipush (v := 7) hx hb dL_same_636 (by decide) ?_
                  obtain ⟨r638, e638, hm⟩ := bs hm
                  try dsimp only at hm
                  refine ro_callVe ⟨hx, hb, hml, hown, hts⟩ (kX7_house_n l dC dI cA a_o a_o_town a_o_trial a_o_saves a_o_text a_o_reader a_o_town_state a_o_town_parents a_o_town_children a_o_town_roads a_o_town_namesIn a_o_town_weightIn a_o_town_homes a_o_town_leaving a_o_town_state_keys a_o_town_state_weights a_o_town_state_keys_cells a_o_town_state_weights_cells a_o_town_parents_cells a_o_town_children_cells a_o_town_roads_cells a_o_town_namesIn_cells a_o_town_weightIn_cells v_o_town_state_houses v_o_town_state_limit v_o_town_state_movedIn v_o_town_state_evicted v_o_town_state_built v_o_town_state_tornDown f_o_town_state_keys_cells f_o_town_state_weights_cells f_o_town_parents_cells f_o_town_children_cells f_o_town_roads_cells f_o_town_namesIn_cells f_o_town_weightIn_cells 0 7 r638 e638) (cwV 2 hts gL_same_X7_house rfl rfl rfl hdX7_house_n ⟨Nat.le_of_ble_eq_true rfl, Nat.le_of_ble_eq_true rfl⟩) (hP.sub [0, 1, 2, 3, 4, 5, 6, 7, 8, 9, 10, 11, 12, 13, 14, 15, 16] rfl) hK rfl rfl rfl hl.1 rfl (Nat.le_of_ble_eq_true rfl) dL_same_638 ⟨Nat.zero_le _, Nat.zero_le _⟩ ?_
                  refine lv_iload hx hb dL_same_641 (lv_at hl 7 rfl) ?_
                  refine lv_icmp_ne (tgt := 659) hx hb dL_same_643 (by decide) (fun c643 => ?_) (fun c643 => ?_)
                  · rw [if_neg c643] at hm
                    cases hm
                  · rw [if_pos c643] at hm
                    refine lv_aload_n hx hb dL_same_646 rfl (lv_at hl 0 rfl) ?_
                    obtain ⟨r647, e647, hm⟩ := bs hm
                    try dsimp only at hm
                    refine ro_callVe ⟨hx, hb, hml, hown, hts⟩ (kX7_bestMove l dC dI cA a_o a_o_town a_o_trial a_o_saves a_o_text a_o_reader a_o_town_state a_o_town_parents a_o_town_children a_o_town_roads a_o_town_namesIn a_o_town_weightIn a_o_town_homes a_o_town_leaving a_o_town_state_keys a_o_town_state_weights a_o_town_state_keys_cells a_o_town_state_weights_cells a_o_town_parents_cells a_o_town_children_cells a_o_town_weightIn_cells v_o_town_state_houses v_o_town_state_limit v_o_town_state_movedIn v_o_town_state_evicted v_o_town_state_built v_o_town_state_tornDown f_o_town_state_keys_cells f_o_town_state_weights_cells f_o_town_parents_cells f_o_town_children_cells f_o_town_weightIn_cells r647 e647) (cwV 0 hts gL_same_X7_bestMove rfl rfl rfl hdX7_bestMove ⟨Nat.le_of_ble_eq_true rfl, Nat.le_of_ble_eq_true rfl⟩) (hP.sub [0, 1, 2, 3, 4, 5, 6, 7, 8, 9, 10, 15, 16] rfl) hK rfl rfl rfl hl.1 rfl (Nat.le_of_ble_eq_true rfl) dL_same_647 ⟨Nat.zero_le _, Nat.zero_le _⟩ ?_
                    refine lv_iload hx hb dL_same_650 (lv_at hl 8 rfl) ?_
                    refine lv_icmp_ne (tgt := 659) hx hb dL_same_652 (by decide) (fun c652 => ?_) (fun c652 => ?_)
                    · rw [if_neg c652] at hm
                      cases hm
                    · rw [if_pos c652] at hm
                      refine lv_iconst (v := 1) hx hb dL_same_655 (by decide) ?_
                      refine lv_goto (tgt := 660) hx hb dL_same_656 (by decide) ?_
                      cases hm
                      exact ro_iret hx hb hr rfl ⟨rfl, rfl⟩ dL_same_660 hlocks
