def urf_Rb_isRepository (σ : ST) (x0 : Int32) : Option (Int32) :=
  if x0 < 0 then
    some 0
  else
    if 3 ≤ x0 then
      some 0
    else
      some 1
def urf_Nm_add (σ : ST) (x1 : Int32) : Option (Int32 × ST) :=
  if (σ 111 3) < 12 then
    if ub_in (σ 111 3) 12 then
    if ub_in (σ 111 3) 12 then
    if ub_in (σ 111 3) 12 then
    if ub_in (σ 111 3) 12 then
    if ub_in (σ 111 3) 12 then
    if ub_in (σ 111 3) 12 then
    if ub_in (σ 111 3) 12 then
    if ub_in (σ 111 3) 12 then
    if ub_in (σ 111 3) 12 then
    if ub_in 0 8 then
    some ((σ 111 3), (wr (wr (wr (wr (wr (wr (wr (wr (wr (wr σ 111 3 ((σ 111 3) + 1)) 0 (σ 111 3).toNatClampNeg x1) 1 (σ 111 3).toNatClampNeg 1) 2 (σ 111 3).toNatClampNeg 0) 3 (σ 111 3).toNatClampNeg 2) 4 (σ 111 3).toNatClampNeg 1) 5 (σ 111 3).toNatClampNeg (-1)) 6 (σ 111 3).toNatClampNeg (-1)) 7 (σ 111 3).toNatClampNeg (-1)) ((σ 111 3).toNatClampNeg + 26) ((0 : Int32).toNatClampNeg) (-1)))
    else none
    else none
    else none
    else none
    else none
    else none
    else none
    else none
    else none
    else none
  else
    some ((-1), σ)
def urf_Rb_name (σ : ST) (x1 : Int32) : Option (Int32 × ST) :=
  Option.bind (urf_Rb_isRepository σ x1) (fun q1 =>
  if q1 = 0 then
    some ((-1), σ)
  else
    Option.bind (urf_Nm_add σ x1) (fun q3 =>
    some (q3.1, q3.2)))
def urf_Nm_isKnown (σ : ST) (x1 : Int32) : Option (Int32) :=
  if x1 < 0 then
    some 0
  else
    if (σ 111 3) ≤ x1 then
      some 0
    else
      some 1
def urf_Nm_addVersion (σ : ST) (x1 : Int32) (x2 : Int32) : Option (Int32 × ST) :=
  if ub_in x1 12 then
  if (σ 1 x1.toNatClampNeg) < 8 then
    if ub_in x1 12 then
    if ub_in x1 12 then
    if ub_in x1 12 then
    if ub_in (σ 1 x1.toNatClampNeg) 8 then
    if ub_in x1 12 then
    if ub_in (σ 1 x1.toNatClampNeg) 8 then
    some ((σ 1 x1.toNatClampNeg), (wr (wr (wr σ 1 x1.toNatClampNeg ((σ 1 x1.toNatClampNeg) + 1)) (x1.toNatClampNeg + 14) (σ 1 x1.toNatClampNeg).toNatClampNeg x2) (x1.toNatClampNeg + 26) (σ 1 x1.toNatClampNeg).toNatClampNeg (-1)))
    else none
    else none
    else none
    else none
    else none
    else none
  else
    some ((-1), σ)
  else none
def urf_Rb_newer (σ : ST) (x1 : Int32) (x2 : Int32) : Option (Int32 × ST) :=
  Option.bind (urf_Nm_isKnown σ x1) (fun q1 =>
  if q1 = 0 then
    some ((-1), σ)
  else
    if x2 < 0 then
      some ((-1), σ)
    else
      if x2 < 3 then
        Option.bind (urf_Nm_addVersion σ x1 x2) (fun q5 =>
        some (q5.1, q5.2))
      else
        some ((-1), σ))
def urf_Nm_hasVersion (σ : ST) (x1 : Int32) (x2 : Int32) : Option (Int32) :=
  Option.bind (urf_Nm_isKnown σ x1) (fun q1 =>
  if q1 = 0 then
    some 0
  else
    if x2 < 0 then
      some 0
    else
      if ub_in x1 12 then
      if (σ 1 x1.toNatClampNeg) ≤ x2 then
        some 0
      else
        some 1
      else none)
def urj_Rb_needs_28 (σ : ST) (y1 : Int32) (y2 : Int32) (y3 : Int32) (y4 : Int32) : Option (Int32 × ST) :=
    some (0, σ)
def urf_Rb_needs (σ : ST) (x1 : Int32) (x2 : Int32) (x3 : Int32) (x4 : Int32) : Option (Int32 × ST) :=
  Option.bind (urf_Nm_hasVersion σ x1 x2) (fun q1 =>
  if q1 = 0 then
    urj_Rb_needs_28 σ x1 x2 x3 x4
  else
    Option.bind (urf_Nm_isKnown σ x3) (fun q3 =>
    if q3 = 0 then
      urj_Rb_needs_28 σ x1 x2 x3 x4
    else
      if x1 = x3 then
        urj_Rb_needs_28 σ x1 x2 x3 x4
      else
        if x4 < 0 then
          some (0, σ)
        else
          if x4 < 8 then
            if ub_in x1 12 then
            if ub_in x2 8 then
            if ub_in x1 12 then
            if ub_in x2 8 then
            some (1, (wr (wr σ (x1.toNatClampNeg + 26) x2.toNatClampNeg x3) (x1.toNatClampNeg + 38) x2.toNatClampNeg x4))
            else none
            else none
            else none
            else none
          else
            some (0, σ)))
def urj_Rb_rule_21 (σ : ST) (y1 : Int32) (y2 : Int32) (y3 : Int32) (y4 : Int32) : Option (Int32 × ST) :=
    some (0, σ)
def urj_Rb_rule_47 (σ : ST) (y1 : Int32) (y2 : Int32) (y3 : Int32) (y4 : Int32) : Option (Int32 × ST) :=
    some (0, σ)
def urf_Rb_rule (σ : ST) (x1 : Int32) (x2 : Int32) (x3 : Int32) (x4 : Int32) : Option (Int32 × ST) :=
  Option.bind (urf_Nm_isKnown σ x1) (fun q1 =>
  if q1 = 0 then
    urj_Rb_rule_21 σ x1 x2 x3 x4
  else
    if x2 < (-1) then
      urj_Rb_rule_21 σ x1 x2 x3 x4
    else
      if x2 < 3 then
        if x3 < 1 then
          urj_Rb_rule_47 σ x1 x2 x3 x4
        else
          if 1000 < x3 then
            urj_Rb_rule_47 σ x1 x2 x3 x4
          else
            if x4 < (-1) then
              urj_Rb_rule_47 σ x1 x2 x3 x4
            else
              if x4 < 4 then
                if ub_in x1 12 then
                if ub_in x1 12 then
                if ub_in x1 12 then
                some (1, (wr (wr (wr σ 3 x1.toNatClampNeg x2) 4 x1.toNatClampNeg x3) 5 x1.toNatClampNeg x4))
                else none
                else none
                else none
              else
                urj_Rb_rule_47 σ x1 x2 x3 x4
      else
        urj_Rb_rule_21 σ x1 x2 x3 x4)
def urf_Rb_advise (σ : ST) (x1 : Int32) (x2 : Int32) : Option (Int32 × ST) :=
  Option.bind (urf_Nm_isKnown σ x1) (fun q1 =>
  if q1 = 0 then
    some (0, σ)
  else
    if x2 = (-1) then
      if ub_in x1 12 then
      some (1, (wr σ 6 x1.toNatClampNeg x2))
      else none
    else
      Option.bind (urf_Nm_hasVersion σ x1 x2) (fun q5 =>
      if q5 = 0 then
        some (0, σ)
      else
        if ub_in x1 12 then
        some (1, (wr σ 6 x1.toNatClampNeg x2))
        else none))
def urf_Rb_has (σ : ST) (x1 : Int32) : Option (Int32) :=
  Option.bind (urf_Nm_isKnown σ x1) (fun q1 =>
  if q1 = 0 then
    some (-1)
  else
    if ub_in x1 12 then
    some (σ 2 x1.toNatClampNeg)
    else none)
def url_Nm_farthestAllowed_11 (σ : ST) : Nat → Int32 → Int32 → Int32 → Option (Int32)
  | 0, _, _, _ => none
  | n + 1, y1, y2, y3 =>
      if ub_in y1 12 then
      if (σ 1 y1.toNatClampNeg) ≤ y3 then
        some y2
      else
        if ub_in y1 12 then
        if ub_in y3 8 then
        if ub_in y1 12 then
        if (σ 3 y1.toNatClampNeg) < (σ (y1.toNatClampNeg + 14) y3.toNatClampNeg) then
          some y2
        else
          url_Nm_farthestAllowed_11 σ n y1 y3 (y3 + 1)
        else none
        else none
        else none
      else none
def urf_Nm_farthestAllowed (σ : ST) (x1 : Int32) : Option (Int32) :=
  if ub_in x1 12 then
  url_Nm_farthestAllowed_11 σ 200 x1 (σ 2 x1.toNatClampNeg) ((σ 2 x1.toNatClampNeg) + 1)
  else none
def urf_Nm_isHit (σ : ST) (x1 : Int32) : Option (Int32) :=
  if ub_in x1 12 then
  if (σ 6 x1.toNatClampNeg) = (-1) then
    some 0
  else
    if ub_in x1 12 then
    if ub_in x1 12 then
    if (σ 6 x1.toNatClampNeg) < (σ 2 x1.toNatClampNeg) then
      some 0
    else
      some 1
    else none
    else none
  else none
def urf_Nm_goalOf (σ : ST) (x1 : Int32) : Option (Int32) :=
  Option.bind (urf_Nm_farthestAllowed σ x1) (fun q1 =>
  Option.bind (urf_Nm_isHit σ x1) (fun q2 =>
  if q2 = 0 then
    some q1
  else
    if ub_in x1 12 then
    if q1 ≤ (σ 6 x1.toNatClampNeg) then
      if ub_in x1 12 then
      if ub_in x1 12 then
      if (σ 1 x1.toNatClampNeg) ≤ ((σ 6 x1.toNatClampNeg) + 1) then
        some q1
      else
        some ((σ 6 x1.toNatClampNeg) + 1)
      else none
      else none
    else
      some q1
    else none))
def urf_Rb_goal (σ : ST) (x1 : Int32) : Option (Int32) :=
  Option.bind (urf_Nm_isKnown σ x1) (fun q1 =>
  if q1 = 0 then
    some (-1)
  else
    Option.bind (urf_Nm_goalOf σ x1) (fun q3 =>
    some q3))
def url_Nm_chiefOf_14 (σ : ST) : Nat → Int32 → Int32 → Option (Int32)
  | 0, _, _ => none
  | n + 1, y1, y2 =>
      if y1 ≤ y2 then
        some y1
      else
        if ub_in y2 12 then
        if ub_in y1 12 then
        if (σ 0 y2.toNatClampNeg) = (σ 0 y1.toNatClampNeg) then
          if ub_in y2 12 then
          if ub_in y1 12 then
          if (σ 5 y2.toNatClampNeg) = (σ 5 y1.toNatClampNeg) then
            some y2
          else
            url_Nm_chiefOf_14 σ n y1 (y2 + 1)
          else none
          else none
        else
          url_Nm_chiefOf_14 σ n y1 (y2 + 1)
        else none
        else none
def urf_Nm_chiefOf (σ : ST) (x1 : Int32) : Option (Int32) :=
  if ub_in x1 12 then
  if (σ 5 x1.toNatClampNeg) = (-1) then
    some x1
  else
    url_Nm_chiefOf_14 σ 200 x1 0
  else none
def urf_Rb_chief (σ : ST) (x1 : Int32) : Option (Int32) :=
  Option.bind (urf_Nm_isKnown σ x1) (fun q1 =>
  if q1 = 0 then
    some (-1)
  else
    Option.bind (urf_Nm_chiefOf σ x1) (fun q3 =>
    some q3))
def urf_Nm_isChief (σ : ST) (x1 : Int32) : Option (Int32) :=
  Option.bind (urf_Nm_isKnown σ x1) (fun q1 =>
  if q1 = 0 then
    some 0
  else
    Option.bind (urf_Nm_chiefOf σ x1) (fun q3 =>
    if q3 = x1 then
      some 1
    else
      some 0))
def url_So_setOut_2 : Nat → ST → Int32 → Int32 → Option (ST)
  | 0, _, _, _ => none
  | n + 1, σ, y2, y3 =>
      if (σ 111 3) ≤ y3 then
        some σ
      else
        Option.bind (urf_Nm_chiefOf σ y3) (fun q2 =>
        if q2 = y2 then
          Option.bind (urf_Nm_goalOf σ y3) (fun q6 =>
          if ub_in y3 12 then
          url_So_setOut_2 n (wr σ 8 y3.toNatClampNeg q6) y2 (y3 + 1)
          else none)
        else
          if ub_in y3 12 then
          if ub_in y3 12 then
          url_So_setOut_2 n (wr σ 8 y3.toNatClampNeg (σ 2 y3.toNatClampNeg)) y2 (y3 + 1)
          else none
          else none)
def urf_So_setOut (σ : ST) (x2 : Int32) : Option (ST) :=
  url_So_setOut_2 200 σ x2 0
def urj_So_lacksAtTarget_17 (σ : ST) (y2 : Int32) (y3 : Int32) : Option (Int32) :=
    some 0
def urf_So_lacksAtTarget (σ : ST) (x2 : Int32) : Option (Int32) :=
  if ub_in x2 12 then
  if (σ 8 x2.toNatClampNeg) < 0 then
    urj_So_lacksAtTarget_17 σ x2 (σ 8 x2.toNatClampNeg)
  else
    if (σ 8 x2.toNatClampNeg) < 8 then
      if ub_in x2 12 then
      if ub_in (σ 8 x2.toNatClampNeg) 8 then
      Option.bind (urf_Nm_isKnown σ (σ (x2.toNatClampNeg + 26) (σ 8 x2.toNatClampNeg).toNatClampNeg)) (fun q6 =>
      if q6 = 0 then
        some 0
      else
        if ub_in x2 12 then
        if ub_in (σ 8 x2.toNatClampNeg) 8 then
        if ub_in (σ (x2.toNatClampNeg + 26) (σ 8 x2.toNatClampNeg).toNatClampNeg) 12 then
        if (σ (x2.toNatClampNeg + 38) (σ 8 x2.toNatClampNeg).toNatClampNeg) ≤ (σ 8 (σ (x2.toNatClampNeg + 26) (σ 8 x2.toNatClampNeg).toNatClampNeg).toNatClampNeg) then
          some 0
        else
          some 1
        else none
        else none
        else none)
      else none
      else none
    else
      urj_So_lacksAtTarget_17 σ x2 (σ 8 x2.toNatClampNeg)
  else none
def url_So_firstNeedy_2 (σ : ST) : Nat → Int32 → Option (Int32)
  | 0, _ => none
  | n + 1, y2 =>
      if (σ 111 3) ≤ y2 then
        some (-1)
      else
        if ub_in y2 12 then
        if ub_in y2 12 then
        if (σ 8 y2.toNatClampNeg) ≤ (σ 2 y2.toNatClampNeg) then
          url_So_firstNeedy_2 σ n (y2 + 1)
        else
          Option.bind (urf_So_lacksAtTarget σ y2) (fun q5 =>
          if q5 = 0 then
            url_So_firstNeedy_2 σ n (y2 + 1)
          else
            some y2)
        else none
        else none
def urf_So_firstNeedy (σ : ST)  : Option (Int32) :=
  url_So_firstNeedy_2 σ 200 0
def url_So_keepRaised_4 : Nat → ST → Int32 → Int32 → Option (Int32 × ST)
  | 0, _, _, _ => none
  | n + 1, σ, y2, y3 =>
      if 12 ≤ y3 then
        some (y2, σ)
      else
        if ub_in y3 12 then
        if (σ 111 3) ≤ y3 then
          url_So_keepRaised_4 n (wr σ 9 y3.toNatClampNeg (-1)) y2 (y3 + 1)
        else
          if ub_in y3 12 then
          if ub_in y3 12 then
          if (σ 8 y3.toNatClampNeg) ≤ (σ 2 y3.toNatClampNeg) then
            url_So_keepRaised_4 n (wr σ 9 y3.toNatClampNeg (-1)) y2 (y3 + 1)
          else
            if ub_in y3 12 then
            if ub_in y3 12 then
            url_So_keepRaised_4 n (wr (wr σ 9 y3.toNatClampNeg (-1)) 9 y3.toNatClampNeg (σ 8 y3.toNatClampNeg)) (y2 + 1) (y3 + 1)
            else none
            else none
          else none
          else none
        else none
def urf_So_keepRaised (σ : ST)  : Option (Int32 × ST) :=
  url_So_keepRaised_4 200 σ 0 0
def url_So_solveUnit_8 : Nat → ST → Int32 → Int32 → Option (Int32 × ST)
  | 0, _, _, _ => none
  | n + 1, σ, y2, y3 =>
      if 96 ≤ y3 then
        Option.bind (urf_So_keepRaised σ ) (fun q3 =>
        some (q3.1, q3.2))
      else
        Option.bind (urf_So_firstNeedy σ ) (fun q4 =>
        if q4 = (-1) then
          Option.bind (urf_So_keepRaised σ ) (fun q15 =>
          some (q15.1, q15.2))
        else
          if ub_in q4 12 then
          if ub_in q4 12 then
          if ub_in (σ 8 q4.toNatClampNeg) 8 then
          if ub_in q4 12 then
          if ub_in q4 12 then
          if ub_in (σ 8 q4.toNatClampNeg) 8 then
          Option.bind (urf_Nm_farthestAllowed σ (σ (q4.toNatClampNeg + 26) (σ 8 q4.toNatClampNeg).toNatClampNeg)) (fun q12 =>
          if (σ (q4.toNatClampNeg + 38) (σ 8 q4.toNatClampNeg).toNatClampNeg) ≤ q12 then
            if ub_in (σ (q4.toNatClampNeg + 26) (σ 8 q4.toNatClampNeg).toNatClampNeg) 12 then
            url_So_solveUnit_8 n (wr σ 8 (σ (q4.toNatClampNeg + 26) (σ 8 q4.toNatClampNeg).toNatClampNeg).toNatClampNeg (σ (q4.toNatClampNeg + 38) (σ 8 q4.toNatClampNeg).toNatClampNeg)) y2 (y3 + 1)
            else none
          else
            some (((-2) - (σ (q4.toNatClampNeg + 26) (σ 8 q4.toNatClampNeg).toNatClampNeg)), σ))
          else none
          else none
          else none
          else none
          else none
          else none)
def urf_So_solveUnit (σ : ST) (x2 : Int32) : Option (Int32 × ST) :=
  Option.bind (urf_So_setOut σ x2) (fun q1 =>
  url_So_solveUnit_8 200 q1 x2 0)
def urf_Rb_solve (σ : ST) (x1 : Int32) : Option (Int32 × ST) :=
  Option.bind (urf_Nm_isChief σ x1) (fun q1 =>
  if q1 = 0 then
    some ((-1), σ)
  else
    Option.bind (urf_So_solveUnit σ x1) (fun q3 =>
    some (q3.1, q3.2)))
def urf_Rb_tick (σ : ST) (x1 : Int32) : Option (Int32 × ST) :=
  if x1 < 0 then
    some ((-1), σ)
  else
    if 100000 < x1 then
      some ((-1), σ)
    else
      if x1 ≤ (1000000000 - (σ 111 1)) then
        some (((σ 111 1) + x1), (wr σ 111 1 ((σ 111 1) + x1)))
      else
        some ((-1), σ)
def url_Nm_isUnitHit_2 (σ : ST) : Nat → Int32 → Int32 → Option (Int32)
  | 0, _, _ => none
  | n + 1, y1, y2 =>
      if (σ 111 3) ≤ y2 then
        some 0
      else
        Option.bind (urf_Nm_isHit σ y2) (fun q2 =>
        if q2 = 0 then
          url_Nm_isUnitHit_2 σ n y1 (y2 + 1)
        else
          Option.bind (urf_Nm_chiefOf σ y2) (fun q4 =>
          if q4 = y1 then
            some 1
          else
            url_Nm_isUnitHit_2 σ n y1 (y2 + 1)))
def urf_Nm_isUnitHit (σ : ST) (x1 : Int32) : Option (Int32) :=
  url_Nm_isUnitHit_2 σ 200 x1 0
def url_Nm_leastEvery_6 (σ : ST) : Nat → Int32 → Int32 → Int32 → Option (Int32)
  | 0, _, _, _ => none
  | n + 1, y1, y2, y3 =>
      if (σ 111 3) ≤ y3 then
        some y2
      else
        Option.bind (urf_Nm_chiefOf σ y3) (fun q2 =>
        if q2 = y1 then
          if ub_in y3 12 then
          url_Nm_leastEvery_6 σ n y1 (if (σ 4 y3.toNatClampNeg) < y2 then (σ 4 y3.toNatClampNeg) else y2) (y3 + 1)
          else none
        else
          url_Nm_leastEvery_6 σ n y1 y2 (y3 + 1))
def urf_Nm_leastEvery (σ : ST) (x1 : Int32) : Option (Int32) :=
  url_Nm_leastEvery_6 σ 200 x1 1000 0
def urf_Rb_isDue (σ : ST) (x1 : Int32) : Option (Int32) :=
  if ub_in x1 12 then
  if (σ 7 x1.toNatClampNeg) = (-1) then
    some 1
  else
    Option.bind (urf_Nm_isUnitHit σ x1) (fun q3 =>
    if q3 = 0 then
      Option.bind (urf_Nm_leastEvery σ x1) (fun q5 =>
      if ((σ 111 1) - (σ 7 x1.toNatClampNeg)) < q5 then
        some 0
      else
        some 1)
    else
      some 1)
  else none
def url_Pr_latestOf_7 (σ : ST) : Nat → Int32 → Int32 → Int32 → Option (Int32)
  | 0, _, _, _ => none
  | n + 1, y1, y2, y3 =>
      if y3 < 0 then
        some (-1)
      else
        if ub_in y3 60 then
        if (σ 11 y3.toNatClampNeg) = y1 then
          if ub_in y3 60 then
          if (σ 10 y3.toNatClampNeg) = y2 then
            some y3
          else
            url_Pr_latestOf_7 σ n y1 y2 (y3 + (-1))
          else none
        else
          url_Pr_latestOf_7 σ n y1 y2 (y3 + (-1))
        else none
def urf_Pr_latestOf (σ : ST) (x1 : Int32) (x2 : Int32) : Option (Int32) :=
  url_Pr_latestOf_7 σ 200 x1 x2 ((σ 111 4) - 1)
def urf_Pr_openOf (σ : ST) (x1 : Int32) : Option (Int32) :=
  Option.bind (urf_Pr_latestOf σ x1 0) (fun q1 =>
  some q1)
def urf_Pr_isKnown (σ : ST) (x1 : Int32) : Option (Int32) :=
  if x1 < 0 then
    some 0
  else
    if (σ 111 4) ≤ x1 then
      some 0
    else
      some 1
def urf_Pr_closeIfAny (σ : ST) (x1 : Int32) (x2 : Int32) : Option (ST) :=
  Option.bind (urf_Pr_isKnown σ x1) (fun q1 =>
  if q1 = 0 then
    some σ
  else
    if ub_in x1 60 then
    some (wr σ 10 x1.toNatClampNeg x2)
    else none)
def url_Pr_raisesJust_12 (σ : ST) (k2 : Nat) : Nat → Int32 → Int32 → Option (Int32)
  | 0, _, _ => none
  | n + 1, y1, y3 =>
      if 12 ≤ y3 then
        some 1
      else
        if (nI (ur_len k2)) ≤ y3 then
          some 1
        else
          if ub_in y1 60 then
          if ub_in y3 12 then
          if ub_in y3 (ur_len k2) then
          if (σ (y1.toNatClampNeg + 50) y3.toNatClampNeg) = (σ k2 y3.toNatClampNeg) then
            url_Pr_raisesJust_12 σ k2 n y1 (y3 + 1)
          else
            some 0
          else none
          else none
          else none
def urf_Pr_raisesJust (σ : ST) (x1 : Int32) (k2 : Nat) : Option (Int32) :=
  Option.bind (urf_Pr_isKnown σ x1) (fun q1 =>
  if q1 = 0 then
    some 0
  else
    url_Pr_raisesJust_12 σ k2 200 x1 0)
def urf_Pr_latestFailedOf (σ : ST) (x1 : Int32) : Option (Int32) :=
  Option.bind (urf_Pr_latestOf σ x1 4) (fun q1 =>
  some q1)
def urf_Pr_isFull (σ : ST)  : Option (Int32) :=
  if (σ 111 4) < 60 then
    some 0
  else
    some 1
def urf_Pr_isOpen (σ : ST) (x1 : Int32) : Option (Int32) :=
  Option.bind (urf_Pr_isKnown σ x1) (fun q1 =>
  if q1 = 0 then
    some 0
  else
    if ub_in x1 60 then
    if (σ 10 x1.toNatClampNeg) = 0 then
      some 1
    else
      some 0
    else none)
def url_Rb_openIn_4 (σ : ST) : Nat → Int32 → Int32 → Int32 → Option (Int32)
  | 0, _, _, _ => none
  | n + 1, y1, y2, y3 =>
      if (σ 111 4) ≤ y3 then
        some y2
      else
        Option.bind (urf_Pr_isOpen σ y3) (fun q2 =>
        if q2 = 0 then
          url_Rb_openIn_4 σ n y1 y2 (y3 + 1)
        else
          if ub_in y3 60 then
          if ub_in (σ 11 y3.toNatClampNeg) 12 then
          if (σ 0 (σ 11 y3.toNatClampNeg).toNatClampNeg) = y1 then
            url_Rb_openIn_4 σ n y1 (y2 + 1) (y3 + 1)
          else
            url_Rb_openIn_4 σ n y1 y2 (y3 + 1)
          else none
          else none)
def urf_Rb_openIn (σ : ST) (x1 : Int32) : Option (Int32) :=
  url_Rb_openIn_4 σ 200 x1 0 0
def urf_Rb_mayOpen (σ : ST) (x1 : Int32) (x2 : Int32) : Option (Int32) :=
  Option.bind (urf_Pr_isFull σ ) (fun q1 =>
  if q1 = 0 then
    if x2 = (-1) then
      Option.bind (urf_Nm_isUnitHit σ x1) (fun q4 =>
      if q4 = 0 then
        if ub_in x1 12 then
        Option.bind (urf_Rb_openIn σ (σ 0 x1.toNatClampNeg)) (fun q7 =>
        if (σ 111 0) ≤ q7 then
          some 0
        else
          some 1)
        else none
      else
        some 1)
    else
      some 1
  else
    some 0)
def url_Pr_setRaised_2 (k2 : Nat) : Nat → ST → Int32 → Int32 → Option (ST)
  | 0, _, _, _ => none
  | n + 1, σ, y1, y3 =>
      if 12 ≤ y3 then
        some σ
      else
        if (nI (ur_len k2)) ≤ y3 then
          some σ
        else
          if ub_in y1 60 then
          if ub_in y3 (ur_len k2) then
          if ub_in y3 12 then
          url_Pr_setRaised_2 k2 n (wr σ (y1.toNatClampNeg + 50) y3.toNatClampNeg (σ k2 y3.toNatClampNeg)) y1 (y3 + 1)
          else none
          else none
          else none
def urf_Pr_setRaised (σ : ST) (x1 : Int32) (k2 : Nat) : Option (ST) :=
  url_Pr_setRaised_2 k2 200 σ x1 0
def urf_Pr_add (σ : ST) (x1 : Int32) (x2 : Int32) (x3 : Int32) (k4 : Nat) : Option (ST) :=
  Option.bind (urf_Pr_isFull σ ) (fun q1 =>
  if q1 = 0 then
    if ub_in (σ 111 4) 60 then
    if ub_in (σ 111 4) 60 then
    if ub_in (σ 111 4) 60 then
    if ub_in (σ 111 4) 60 then
    if ub_in (σ 111 4) 60 then
    Option.bind (urf_Pr_setRaised (wr (wr (wr (wr (wr (wr σ 111 4 ((σ 111 4) + 1)) 10 (σ 111 4).toNatClampNeg 0) 11 (σ 111 4).toNatClampNeg x1) 12 (σ 111 4).toNatClampNeg 0) 13 (σ 111 4).toNatClampNeg x2) 110 (σ 111 4).toNatClampNeg (vp_nar .boolean x3)) (σ 111 4) k4) (fun q8 =>
    some q8)
    else none
    else none
    else none
    else none
    else none
  else
    some σ)
def urf_Rb_review (σ : ST) (x1 : Int32) : Option (ST) :=
  Option.bind (urf_Pr_openOf σ x1) (fun q1 =>
  Option.bind (urf_So_solveUnit σ x1) (fun q2 =>
  if 0 < q2.1 then
    Option.bind (urf_Pr_raisesJust q2.2 q1 9) (fun q4 =>
    if q4 = 0 then
      Option.bind (urf_Pr_latestFailedOf q2.2 x1) (fun q6 =>
      Option.bind (urf_Pr_raisesJust q2.2 q6 9) (fun q7 =>
      if q7 = 0 then
        Option.bind (urf_Rb_mayOpen q2.2 x1 q1) (fun q9 =>
        if q9 = 0 then
          some (wr q2.2 111 2 ((q2.2 111 2) + 1))
        else
          Option.bind (urf_Pr_closeIfAny q2.2 q1 2) (fun q11 =>
          Option.bind (urf_Nm_isUnitHit q11 x1) (fun q12 =>
          Option.bind (urf_Pr_add q11 x1 (q11 111 1) q12 9) (fun q13 =>
          some q13))))
      else
        Option.bind (urf_Pr_closeIfAny q2.2 q1 3) (fun q14 =>
        some q14)))
    else
      some q2.2)
  else
    Option.bind (urf_Pr_closeIfAny q2.2 q1 3) (fun q15 =>
    some q15)))
def url_Rb_run_15 : Nat → ST → Int32 → Int32 → Option (Int32 × ST)
  | 0, _, _, _ => none
  | n + 1, σ, y1, y2 =>
      if (σ 111 3) ≤ y2 then
        some (((σ 111 4) - y1), σ)
      else
        Option.bind (urf_Nm_isChief σ y2) (fun q2 =>
        if q2 = 0 then
          url_Rb_run_15 n σ y1 (y2 + 1)
        else
          Option.bind (urf_Rb_isDue σ y2) (fun q4 =>
          if q4 = 0 then
            url_Rb_run_15 n σ y1 (y2 + 1)
          else
            if ub_in y2 12 then
            Option.bind (urf_Rb_review (wr σ 7 y2.toNatClampNeg (σ 111 1)) y2) (fun q7 =>
            url_Rb_run_15 n q7 y1 (y2 + 1))
            else none))
def urf_Rb_run (σ : ST)  : Option (Int32 × ST) :=
  url_Rb_run_15 200 (wr σ 111 2 0) (σ 111 4) 0
def urf_Rb_waiting (σ : ST)  : Option (Int32) :=
  some (σ 111 2)
def urf_Rb_about (σ : ST) (x1 : Int32) (x2 : Int32) : Option (Int32) :=
  Option.bind (urf_Pr_isKnown σ x1) (fun q1 =>
  if q1 = 0 then
    some (-1)
  else
    if x2 = 0 then
      if ub_in x1 60 then
      some (σ 10 x1.toNatClampNeg)
      else none
    else
      if x2 = 1 then
        if ub_in x1 60 then
        some (σ 11 x1.toNatClampNeg)
        else none
      else
        if x2 = 2 then
          if ub_in x1 60 then
          some (σ 12 x1.toNatClampNeg)
          else none
        else
          if x2 = 3 then
            if ub_in x1 60 then
            some (σ 13 x1.toNatClampNeg)
            else none
          else
            if x2 = 4 then
              if ub_in x1 60 then
              if (σ 110 x1.toNatClampNeg) = 0 then
                some 0
              else
                some 1
              else none
            else
              some (-1))
def urf_Rb_target (σ : ST) (x1 : Int32) (x2 : Int32) : Option (Int32) :=
  Option.bind (urf_Pr_isKnown σ x1) (fun q1 =>
  if q1 = 0 then
    some (-1)
  else
    Option.bind (urf_Nm_isKnown σ x2) (fun q3 =>
    if q3 = 0 then
      some (-1)
    else
      if ub_in x1 60 then
      if ub_in x2 12 then
      some (σ (x1.toNatClampNeg + 50) x2.toNatClampNeg)
      else none
      else none))
def url_Nm_moveUp_4 (k1 : Nat) : Nat → ST → Int32 → Int32 → Option (Int32 × ST)
  | 0, _, _, _ => none
  | n + 1, σ, y2, y3 =>
      if (σ 111 3) ≤ y3 then
        some (y2, σ)
      else
        if (nI (ur_len k1)) ≤ y3 then
          some (y2, σ)
        else
          if ub_in y3 (ur_len k1) then
          if ub_in y3 12 then
          if (σ k1 y3.toNatClampNeg) ≤ (σ 2 y3.toNatClampNeg) then
            url_Nm_moveUp_4 k1 n σ y2 (y3 + 1)
          else
            if ub_in y3 (ur_len k1) then
            if ub_in y3 12 then
            url_Nm_moveUp_4 k1 n (wr σ 2 y3.toNatClampNeg (σ k1 y3.toNatClampNeg)) (y2 + 1) (y3 + 1)
            else none
            else none
          else none
          else none
def urf_Nm_moveUp (σ : ST) (k1 : Nat) : Option (Int32 × ST) :=
  url_Nm_moveUp_4 k1 200 σ 0 0
def url_Pr_overlap_2 (σ : ST) : Nat → Int32 → Int32 → Int32 → Option (Int32)
  | 0, _, _, _ => none
  | n + 1, y1, y2, y3 =>
      if 12 ≤ y3 then
        some 0
      else
        if ub_in y1 60 then
        if ub_in y3 12 then
        if (σ (y1.toNatClampNeg + 50) y3.toNatClampNeg) = (-1) then
          url_Pr_overlap_2 σ n y1 y2 (y3 + 1)
        else
          if ub_in y2 60 then
          if ub_in y3 12 then
          if (σ (y2.toNatClampNeg + 50) y3.toNatClampNeg) = (-1) then
            url_Pr_overlap_2 σ n y1 y2 (y3 + 1)
          else
            some 1
          else none
          else none
        else none
        else none
def urf_Pr_overlap (σ : ST) (x1 : Int32) (x2 : Int32) : Option (Int32) :=
  url_Pr_overlap_2 σ 200 x1 x2 0
def urf_Rb_redo (σ : ST) (x1 : Int32) : Option (ST) :=
  if ub_in x1 60 then
  Option.bind (urf_Nm_isChief σ (σ 11 x1.toNatClampNeg)) (fun q2 =>
  if q2 = 0 then
    if ub_in x1 60 then
    some (wr σ 10 x1.toNatClampNeg 3)
    else none
  else
    Option.bind (urf_So_solveUnit σ (σ 11 x1.toNatClampNeg)) (fun q5 =>
    if q5.1 ≤ 0 then
      if ub_in x1 60 then
      some (wr q5.2 10 x1.toNatClampNeg 3)
      else none
    else
      Option.bind (urf_Pr_setRaised q5.2 x1 9) (fun q8 =>
      if ub_in x1 60 then
      if ub_in x1 60 then
      some (wr q8 12 x1.toNatClampNeg ((q8 12 x1.toNatClampNeg) + 1))
      else none
      else none)))
  else none
def url_Rb_redoAllTouchedBy_2 : Nat → ST → Int32 → Int32 → Option (ST)
  | 0, _, _, _ => none
  | n + 1, σ, y1, y2 =>
      if (σ 111 4) ≤ y2 then
        some σ
      else
        Option.bind (urf_Pr_isOpen σ y2) (fun q2 =>
        if q2 = 0 then
          url_Rb_redoAllTouchedBy_2 n σ y1 (y2 + 1)
        else
          Option.bind (urf_Pr_overlap σ y2 y1) (fun q4 =>
          if q4 = 0 then
            url_Rb_redoAllTouchedBy_2 n σ y1 (y2 + 1)
          else
            Option.bind (urf_Rb_redo σ y2) (fun q6 =>
            url_Rb_redoAllTouchedBy_2 n q6 y1 (y2 + 1))))
def urf_Rb_redoAllTouchedBy (σ : ST) (x1 : Int32) : Option (ST) :=
  url_Rb_redoAllTouchedBy_2 200 σ x1 0
def urf_Rb_pass (σ : ST) (x1 : Int32) (x2 : Int32) : Option (Int32 × ST) :=
  Option.bind (urf_Pr_isOpen σ x1) (fun q1 =>
  if q1 = 0 then
    some ((-1), σ)
  else
    if x2 = 0 then
      if ub_in x1 60 then
      some (0, (wr σ 10 x1.toNatClampNeg 4))
      else none
    else
      if ub_in x1 60 then
      if ub_in x1 60 then
      Option.bind (urf_Nm_moveUp (wr σ 10 x1.toNatClampNeg 1) (x1.toNatClampNeg + 50)) (fun q6 =>
      Option.bind (urf_Rb_redoAllTouchedBy q6.2 x1) (fun q7 =>
      some (q6.1, q7)))
      else none
      else none)
def urf_Rb_open (σ : ST) (x1 : Int32) : Option (Int32) :=
  Option.bind (urf_Rb_isRepository σ x1) (fun q1 =>
  if q1 = 0 then
    some (-1)
  else
    Option.bind (urf_Rb_openIn σ x1) (fun q3 =>
    some q3))
def rff_Md_isName (σ : ST) (x1 : Int32) : Option (Int32) :=
  if x1 < 0 then
    some 0
  else
    if (σ 18 3) ≤ x1 then
      some 0
    else
      some 1
def rfj_Md_name_23 (σ : ST) (y1 : Int32) : Option (Int32 × ST) :=
    some ((-1), σ)
def rff_Md_name (σ : ST) (x1 : Int32) : Option (Int32 × ST) :=
  if (σ 18 3) = 12 then
    rfj_Md_name_23 (wr σ 18 1 0) x1
  else
    if x1 < 0 then
      rfj_Md_name_23 (wr σ 18 1 0) x1
    else
      if x1 ≤ 2 then
        if ub_in (σ 18 3) 12 then
        if ub_in (σ 18 3) 12 then
        if ub_in (σ 18 3) 12 then
        if ub_in (σ 18 3) 12 then
        if ub_in (σ 18 3) 12 then
        if ub_in (σ 18 3) 12 then
        if ub_in (8 * (σ 18 3)) 96 then
        some ((((σ 18 3) + 1) - 1), (wr (wr (wr (wr (wr (wr (wr (wr (wr σ 18 1 0) 0 (σ 18 3).toNatClampNeg x1) 3 (σ 18 3).toNatClampNeg 2) 4 (σ 18 3).toNatClampNeg 1) 5 (σ 18 3).toNatClampNeg (-1)) 6 (σ 18 3).toNatClampNeg (-1)) 7 (σ 18 3).toNatClampNeg (-1)) 9 (8 * (σ 18 3)).toNatClampNeg (-1)) 18 3 ((σ 18 3) + 1)))
        else none
        else none
        else none
        else none
        else none
        else none
        else none
      else
        rfj_Md_name_23 (wr σ 18 1 0) x1
def rfj_Md_newer_33 (σ : ST) (y1 : Int32) (y2 : Int32) : Option (Int32 × ST) :=
    some ((-1), σ)
def rff_Md_newer (σ : ST) (x1 : Int32) (x2 : Int32) : Option (Int32 × ST) :=
  Option.bind (rff_Md_isName (wr σ 18 1 0) x1) (fun q1 =>
  if q1 = 0 then
    rfj_Md_newer_33 (wr σ 18 1 0) x1 x2
  else
    if x2 < 0 then
      rfj_Md_newer_33 (wr σ 18 1 0) x1 x2
    else
      if 2 < x2 then
        rfj_Md_newer_33 (wr σ 18 1 0) x1 x2
      else
        if ub_in x1 12 then
        if (σ 1 x1.toNatClampNeg) = 7 then
          rfj_Md_newer_33 (wr σ 18 1 0) x1 x2
        else
          if ub_in x1 12 then
          if ub_in x1 12 then
          if ub_in x1 12 then
          if ub_in ((8 * x1) + ((wr (wr σ 18 1 0) 1 x1.toNatClampNeg ((σ 1 x1.toNatClampNeg) + 1)) 1 x1.toNatClampNeg)) 96 then
          if ub_in x1 12 then
          if ub_in ((8 * x1) + ((wr (wr σ 18 1 0) 1 x1.toNatClampNeg ((σ 1 x1.toNatClampNeg) + 1)) 1 x1.toNatClampNeg)) 96 then
          if ub_in x1 12 then
          some (((wr (wr σ 18 1 0) 1 x1.toNatClampNeg ((σ 1 x1.toNatClampNeg) + 1)) 1 x1.toNatClampNeg), (wr (wr (wr (wr σ 18 1 0) 1 x1.toNatClampNeg ((σ 1 x1.toNatClampNeg) + 1)) 8 ((8 * x1) + ((wr (wr σ 18 1 0) 1 x1.toNatClampNeg ((σ 1 x1.toNatClampNeg) + 1)) 1 x1.toNatClampNeg)).toNatClampNeg x2) 9 ((8 * x1) + ((wr (wr σ 18 1 0) 1 x1.toNatClampNeg ((σ 1 x1.toNatClampNeg) + 1)) 1 x1.toNatClampNeg)).toNatClampNeg (-1)))
          else none
          else none
          else none
          else none
          else none
          else none
          else none
        else none)
def rfj_Md_needs_52 (σ : ST) (y1 : Int32) (y2 : Int32) (y3 : Int32) (y4 : Int32) : Option (Int32 × ST) :=
    some (0, σ)
def rff_Md_needs (σ : ST) (x1 : Int32) (x2 : Int32) (x3 : Int32) (x4 : Int32) : Option (Int32 × ST) :=
  Option.bind (rff_Md_isName (wr σ 18 1 0) x1) (fun q1 =>
  if q1 = 0 then
    rfj_Md_needs_52 (wr σ 18 1 0) x1 x2 x3 x4
  else
    if x2 < 0 then
      rfj_Md_needs_52 (wr σ 18 1 0) x1 x2 x3 x4
    else
      if ub_in x1 12 then
      if (σ 1 x1.toNatClampNeg) < x2 then
        rfj_Md_needs_52 (wr σ 18 1 0) x1 x2 x3 x4
      else
        Option.bind (rff_Md_isName (wr σ 18 1 0) x3) (fun q6 =>
        if q6 = 0 then
          rfj_Md_needs_52 (wr σ 18 1 0) x1 x2 x3 x4
        else
          if x3 = x1 then
            rfj_Md_needs_52 (wr σ 18 1 0) x1 x2 x3 x4
          else
            if x4 < 0 then
              rfj_Md_needs_52 (wr σ 18 1 0) x1 x2 x3 x4
            else
              if x4 ≤ 7 then
                if ub_in ((8 * x1) + x2) 96 then
                if ub_in ((8 * x1) + x2) 96 then
                some (1, (wr (wr (wr σ 18 1 0) 9 ((8 * x1) + x2).toNatClampNeg x3) 10 ((8 * x1) + x2).toNatClampNeg x4))
                else none
                else none
              else
                rfj_Md_needs_52 (wr σ 18 1 0) x1 x2 x3 x4)
      else none)
def rff_Md_rule (σ : ST) (x1 : Int32) (x2 : Int32) (x3 : Int32) (x4 : Int32) : Option (Int32 × ST) :=
  Option.bind (rff_Md_isName (wr σ 18 1 0) x1) (fun q1 =>
  if q1 = 0 then
    some (0, (wr σ 18 1 0))
  else
    if x2 < (-1) then
      some (0, (wr σ 18 1 0))
    else
      if 2 < x2 then
        some (0, (wr σ 18 1 0))
      else
        if x3 < 1 then
          some (0, (wr σ 18 1 0))
        else
          if 1000 < x3 then
            some (0, (wr σ 18 1 0))
          else
            if x4 < (-1) then
              some (0, (wr σ 18 1 0))
            else
              if x4 ≤ 3 then
                if ub_in x1 12 then
                if ub_in x1 12 then
                if ub_in x1 12 then
                some (1, (wr (wr (wr (wr σ 18 1 0) 3 x1.toNatClampNeg x2) 4 x1.toNatClampNeg x3) 5 x1.toNatClampNeg x4))
                else none
                else none
                else none
              else
                some (0, (wr σ 18 1 0)))
def rff_Md_advise (σ : ST) (x1 : Int32) (x2 : Int32) : Option (Int32 × ST) :=
  Option.bind (rff_Md_isName (wr σ 18 1 0) x1) (fun q1 =>
  if q1 = 0 then
    some (0, (wr σ 18 1 0))
  else
    if x2 < (-1) then
      some (0, (wr σ 18 1 0))
    else
      if ub_in x1 12 then
      if x2 ≤ (σ 1 x1.toNatClampNeg) then
        if ub_in x1 12 then
        some (1, (wr (wr σ 18 1 0) 6 x1.toNatClampNeg x2))
        else none
      else
        some (0, (wr σ 18 1 0))
      else none)
def rff_Md_has (σ : ST) (x1 : Int32) : Option (Int32 × ST) :=
  Option.bind (rff_Md_isName (wr σ 18 1 0) x1) (fun q1 =>
  if q1 = 0 then
    some ((-1), (wr σ 18 1 0))
  else
    if ub_in x1 12 then
    some ((σ 2 x1.toNatClampNeg), (wr σ 18 1 0))
    else none)
def rff_Md_isHit (σ : ST) (x1 : Int32) : Option (Int32) :=
  if ub_in x1 12 then
  if (σ 6 x1.toNatClampNeg) = (-1) then
    some 0
  else
    if ub_in x1 12 then
    if ub_in x1 12 then
    if (σ 6 x1.toNatClampNeg) < (σ 2 x1.toNatClampNeg) then
      some 0
    else
      some 1
    else none
    else none
  else none
def rfl_Md_isAllowed_26 (σ : ST) : Nat → Int32 → Int32 → Int32 → Int32 → Option (Int32)
  | 0, _, _, _, _ => none
  | n + 1, y1, y2, y3, y4 =>
      if y2 < y4 then
        if y3 = 0 ∨ y3 = 1 then some y3 else none
      else
        if y3 = 0 then
          if y3 = 0 ∨ y3 = 1 then some y3 else none
        else
          if ub_in ((8 * y1) + y4) 96 then
          if ub_in y1 12 then
          if (σ 3 y1.toNatClampNeg) < (σ 8 ((8 * y1) + y4).toNatClampNeg) then
            rfl_Md_isAllowed_26 σ n y1 y2 0 (y4 + 1)
          else
            rfl_Md_isAllowed_26 σ n y1 y2 1 (y4 + 1)
          else none
          else none
def rff_Md_isAllowed (σ : ST) (x1 : Int32) (x2 : Int32) : Option (Int32) :=
  if ub_in x1 12 then
  if (σ 1 x1.toNatClampNeg) < x2 then
    if ub_in x1 12 then
    rfl_Md_isAllowed_26 σ 200 x1 x2 0 ((σ 2 x1.toNatClampNeg) + 1)
    else none
  else
    if ub_in x1 12 then
    rfl_Md_isAllowed_26 σ 200 x1 x2 1 ((σ 2 x1.toNatClampNeg) + 1)
    else none
  else none
def rfl_Md_goalOf_7 (σ : ST) : Nat → Int32 → Int32 → Option (Int32)
  | 0, _, _ => none
  | n + 1, y1, y2 =>
      Option.bind (rff_Md_isAllowed σ y1 (y2 + 1)) (fun q2 =>
      if q2 = 0 then
        Option.bind (rff_Md_isHit σ y1) (fun q4 =>
        if q4 = 0 then
          some y2
        else
          if ub_in y1 12 then
          if (σ 6 y1.toNatClampNeg) < y2 then
            some y2
          else
            if ub_in y1 12 then
            if ub_in y1 12 then
            if (σ 1 y1.toNatClampNeg) ≤ (σ 6 y1.toNatClampNeg) then
              some y2
            else
              if ub_in y1 12 then
              some ((σ 6 y1.toNatClampNeg) + 1)
              else none
            else none
            else none
          else none)
      else
        rfl_Md_goalOf_7 σ n y1 (y2 + 1))
def rff_Md_goalOf (σ : ST) (x1 : Int32) : Option (Int32) :=
  if ub_in x1 12 then
  rfl_Md_goalOf_7 σ 200 x1 (σ 2 x1.toNatClampNeg)
  else none
def rff_Md_goal (σ : ST) (x1 : Int32) : Option (Int32 × ST) :=
  Option.bind (rff_Md_isName (wr σ 18 1 0) x1) (fun q1 =>
  if q1 = 0 then
    some ((-1), (wr σ 18 1 0))
  else
    Option.bind (rff_Md_goalOf (wr σ 18 1 0) x1) (fun q3 =>
    some (q3, (wr σ 18 1 0))))
def rff_Md_areOne (σ : ST) (x1 : Int32) (x2 : Int32) : Option (Int32) :=
  if x1 = x2 then
    some 1
  else
    if ub_in x1 12 then
    if (σ 5 x1.toNatClampNeg) = (-1) then
      some 0
    else
      if ub_in x1 12 then
      if ub_in x2 12 then
      if (σ 5 x1.toNatClampNeg) = (σ 5 x2.toNatClampNeg) then
        if ub_in x1 12 then
        if ub_in x2 12 then
        if (σ 0 x1.toNatClampNeg) = (σ 0 x2.toNatClampNeg) then
          some 1
        else
          some 0
        else none
        else none
      else
        some 0
      else none
      else none
    else none
def rfl_Md_chiefOf_2 (σ : ST) : Nat → Int32 → Int32 → Option (Int32)
  | 0, _, _ => none
  | n + 1, y1, y2 =>
      Option.bind (rff_Md_areOne σ y2 y1) (fun q1 =>
      if q1 = 0 then
        rfl_Md_chiefOf_2 σ n y1 (y2 + 1)
      else
        some y2)
def rff_Md_chiefOf (σ : ST) (x1 : Int32) : Option (Int32) :=
  rfl_Md_chiefOf_2 σ 200 x1 0
def rff_Md_chief (σ : ST) (x1 : Int32) : Option (Int32 × ST) :=
  Option.bind (rff_Md_isName (wr σ 18 1 0) x1) (fun q1 =>
  if q1 = 0 then
    some ((-1), (wr σ 18 1 0))
  else
    Option.bind (rff_Md_chiefOf (wr σ 18 1 0) x1) (fun q3 =>
    some (q3, (wr σ 18 1 0))))
def rfl_Md_wanting_2 (σ : ST) : Nat → Int32 → Option (Int32)
  | 0, _ => none
  | n + 1, y1 =>
      if (σ 18 3) ≤ y1 then
        some (-1)
      else
        if ub_in y1 12 then
        if ub_in y1 12 then
        if ub_in y1 12 then
        if (σ 11 y1.toNatClampNeg) ≤ (σ 2 y1.toNatClampNeg) then
          rfl_Md_wanting_2 σ n (y1 + 1)
        else
          if ub_in ((8 * y1) + (σ 11 y1.toNatClampNeg)) 96 then
          if (σ 9 ((8 * y1) + (σ 11 y1.toNatClampNeg)).toNatClampNeg) = (-1) then
            rfl_Md_wanting_2 σ n (y1 + 1)
          else
            if ub_in ((8 * y1) + (σ 11 y1.toNatClampNeg)) 96 then
            if ub_in ((8 * y1) + (σ 11 y1.toNatClampNeg)) 96 then
            if ub_in (σ 9 ((8 * y1) + (σ 11 y1.toNatClampNeg)).toNatClampNeg) 12 then
            if (σ 10 ((8 * y1) + (σ 11 y1.toNatClampNeg)).toNatClampNeg) ≤ (σ 11 (σ 9 ((8 * y1) + (σ 11 y1.toNatClampNeg)).toNatClampNeg).toNatClampNeg) then
              rfl_Md_wanting_2 σ n (y1 + 1)
            else
              some y1
            else none
            else none
            else none
          else none
        else none
        else none
        else none
def rff_Md_wanting (σ : ST)  : Option (Int32) :=
  rfl_Md_wanting_2 σ 200 0
def rfl_Md_find_127 : Nat → ST → Int32 → Int32 → Int32 → Option (Int32 × ST)
  | 0, _, _, _, _ => none
  | n + 1, σ, y1, y2, y3 =>
      if (σ 18 3) ≤ y3 then
        some (y2, σ)
      else
        if ub_in y3 12 then
        if ub_in y3 12 then
        if (σ 11 y3.toNatClampNeg) ≤ (σ 2 y3.toNatClampNeg) then
          rfl_Md_find_127 n σ y1 (y2 + 0) (y3 + 1)
        else
          rfl_Md_find_127 n σ y1 (y2 + 1) (y3 + 1)
        else none
        else none
def rfl_Md_find_50 : Nat → ST → Int32 → Int32 → Option (Int32 × ST)
  | 0, _, _, _ => none
  | n + 1, σ, y1, y2 =>
      if y2 = (-1) then
        rfl_Md_find_127 200 σ y1 0 0
      else
        if ub_in y2 12 then
        if ub_in ((8 * y2) + (σ 11 y2.toNatClampNeg)) 96 then
        if ub_in ((8 * y2) + (σ 11 y2.toNatClampNeg)) 96 then
        Option.bind (rff_Md_isAllowed σ (σ 9 ((8 * y2) + (σ 11 y2.toNatClampNeg)).toNatClampNeg) (σ 10 ((8 * y2) + (σ 11 y2.toNatClampNeg)).toNatClampNeg)) (fun q11 =>
        if q11 = 0 then
          if ub_in ((8 * y2) + (σ 11 y2.toNatClampNeg)) 96 then
          some ((-1), (wr σ 18 6 (σ 9 ((8 * y2) + (σ 11 y2.toNatClampNeg)).toNatClampNeg)))
          else none
        else
          if ub_in ((8 * y2) + (σ 11 y2.toNatClampNeg)) 96 then
          if ub_in ((8 * y2) + (σ 11 y2.toNatClampNeg)) 96 then
          if ub_in (σ 9 ((8 * y2) + (σ 11 y2.toNatClampNeg)).toNatClampNeg) 12 then
          Option.bind (rff_Md_wanting (wr σ 11 (σ 9 ((8 * y2) + (σ 11 y2.toNatClampNeg)).toNatClampNeg).toNatClampNeg (σ 10 ((8 * y2) + (σ 11 y2.toNatClampNeg)).toNatClampNeg)) ) (fun q16 =>
          rfl_Md_find_50 n (wr σ 11 (σ 9 ((8 * y2) + (σ 11 y2.toNatClampNeg)).toNatClampNeg).toNatClampNeg (σ 10 ((8 * y2) + (σ 11 y2.toNatClampNeg)).toNatClampNeg)) y1 q16)
          else none
          else none
          else none)
        else none
        else none
        else none
def rfl_Md_find_2 : Nat → ST → Int32 → Int32 → Option (Int32 × ST)
  | 0, _, _, _ => none
  | n + 1, σ, y1, y2 =>
      if (σ 18 3) ≤ y2 then
        Option.bind (rff_Md_wanting σ ) (fun q2 =>
        rfl_Md_find_50 200 σ y1 q2)
      else
        Option.bind (rff_Md_areOne σ y2 y1) (fun q18 =>
        if q18 = 0 then
          if ub_in y2 12 then
          if ub_in y2 12 then
          rfl_Md_find_2 n (wr σ 11 y2.toNatClampNeg (σ 2 y2.toNatClampNeg)) y1 (y2 + 1)
          else none
          else none
        else
          Option.bind (rff_Md_goalOf σ y2) (fun q22 =>
          if ub_in y2 12 then
          rfl_Md_find_2 n (wr σ 11 y2.toNatClampNeg q22) y1 (y2 + 1)
          else none))
def rff_Md_find (σ : ST) (x1 : Int32) : Option (Int32 × ST) :=
  rfl_Md_find_2 200 σ x1 0
def rff_Md_solve (σ : ST) (x1 : Int32) : Option (Int32 × ST) :=
  Option.bind (rff_Md_isName (wr σ 18 1 0) x1) (fun q1 =>
  if q1 = 0 then
    some ((-1), (wr σ 18 1 0))
  else
    Option.bind (rff_Md_chiefOf (wr σ 18 1 0) x1) (fun q3 =>
    if q3 = x1 then
      Option.bind (rff_Md_find (wr σ 18 1 0) x1) (fun q5 =>
      if q5.1 = (-1) then
        some (((-2) - (q5.2 18 6)), q5.2)
      else
        some (q5.1, q5.2))
    else
      some ((-1), (wr σ 18 1 0))))
def rff_Md_tick (σ : ST) (x1 : Int32) : Option (Int32 × ST) :=
  if x1 < 0 then
    some ((-1), (wr σ 18 1 0))
  else
    if 100000 < x1 then
      some ((-1), (wr σ 18 1 0))
    else
      if ((σ 18 2) + x1) ≤ 1000000000 then
        some (((σ 18 2) + x1), (wr (wr σ 18 1 0) 18 2 ((σ 18 2) + x1)))
      else
        some ((-1), (wr σ 18 1 0))
def rff_Md_raised (σ : ST) (x1 : Int32) : Option (Int32) :=
  if ub_in x1 12 then
  if ub_in x1 12 then
  if (σ 11 x1.toNatClampNeg) ≤ (σ 2 x1.toNatClampNeg) then
    some (-1)
  else
    if ub_in x1 12 then
    some (σ 11 x1.toNatClampNeg)
    else none
  else none
  else none
def rfl_Md_isSame_4 (σ : ST) : Nat → Int32 → Int32 → Int32 → Option (Int32)
  | 0, _, _, _ => none
  | n + 1, y1, y2, y3 =>
      if (σ 18 3) ≤ y3 then
        if y2 = 0 ∨ y2 = 1 then some y2 else none
      else
        if y2 = 0 then
          rfl_Md_isSame_4 σ n y1 0 (y3 + 1)
        else
          if ub_in ((12 * y1) + y3) 720 then
          Option.bind (rff_Md_raised σ y3) (fun q5 =>
          if (σ 17 ((12 * y1) + y3).toNatClampNeg) = q5 then
            rfl_Md_isSame_4 σ n y1 1 (y3 + 1)
          else
            rfl_Md_isSame_4 σ n y1 0 (y3 + 1))
          else none
def rff_Md_isSame (σ : ST) (x1 : Int32) : Option (Int32) :=
  rfl_Md_isSame_4 σ 200 x1 1 0
def rfl_Md_fill_2 : Nat → ST → Int32 → Int32 → Option (ST)
  | 0, _, _, _ => none
  | n + 1, σ, y1, y2 =>
      if 12 ≤ y2 then
        some σ
      else
        if (σ 18 3) ≤ y2 then
          if ub_in ((12 * y1) + y2) 720 then
          rfl_Md_fill_2 n (wr σ 17 ((12 * y1) + y2).toNatClampNeg (-1)) y1 (y2 + 1)
          else none
        else
          Option.bind (rff_Md_raised σ y2) (fun q4 =>
          if ub_in ((12 * y1) + y2) 720 then
          rfl_Md_fill_2 n (wr σ 17 ((12 * y1) + y2).toNatClampNeg q4) y1 (y2 + 1)
          else none)
def rff_Md_fill (σ : ST) (x1 : Int32) : Option (ST) :=
  rfl_Md_fill_2 200 σ x1 0
def rfl_Md_latest_5 (σ : ST) : Nat → Int32 → Int32 → Int32 → Int32 → Option (Int32)
  | 0, _, _, _, _ => none
  | n + 1, y1, y2, y3, y4 =>
      if (σ 18 4) ≤ y4 then
        some y3
      else
        if ub_in y4 60 then
        if (σ 13 y4.toNatClampNeg) = y1 then
          if ub_in y4 60 then
          if (σ 12 y4.toNatClampNeg) = y2 then
            rfl_Md_latest_5 σ n y1 y2 y4 (y4 + 1)
          else
            rfl_Md_latest_5 σ n y1 y2 y3 (y4 + 1)
          else none
        else
          rfl_Md_latest_5 σ n y1 y2 y3 (y4 + 1)
        else none
def rff_Md_latest (σ : ST) (x1 : Int32) (x2 : Int32) : Option (Int32) :=
  rfl_Md_latest_5 σ 200 x1 x2 (-1) 0
def rfl_Md_opens_4 (σ : ST) : Nat → Int32 → Int32 → Int32 → Option (Int32)
  | 0, _, _, _ => none
  | n + 1, y1, y2, y3 =>
      if (σ 18 4) ≤ y3 then
        some y2
      else
        if ub_in y3 60 then
        if (σ 12 y3.toNatClampNeg) = 0 then
          if ub_in y3 60 then
          if ub_in (σ 13 y3.toNatClampNeg) 12 then
          if (σ 0 (σ 13 y3.toNatClampNeg).toNatClampNeg) = y1 then
            rfl_Md_opens_4 σ n y1 (y2 + 1) (y3 + 1)
          else
            rfl_Md_opens_4 σ n y1 (y2 + 0) (y3 + 1)
          else none
          else none
        else
          rfl_Md_opens_4 σ n y1 (y2 + 0) (y3 + 1)
        else none
def rff_Md_opens (σ : ST) (x1 : Int32) : Option (Int32) :=
  rfl_Md_opens_4 σ 200 x1 0 0
def rfl_Md_isDue_23 (σ : ST) : Nat → Int32 → Int32 → Int32 → Int32 → Option (Int32)
  | 0, _, _, _, _ => none
  | n + 1, y1, y2, y3, y4 =>
      if (σ 18 3) ≤ y4 then
        if y2 = 0 then
          if ub_in y1 12 then
          if ((σ 18 2) - (σ 7 y1.toNatClampNeg)) < y3 then
            some 0
          else
            some 1
          else none
        else
          some 1
      else
        Option.bind (rff_Md_areOne σ y4 y1) (fun q7 =>
        if q7 = 0 then
          rfl_Md_isDue_23 σ n y1 y2 y3 (y4 + 1)
        else
          if y2 = 0 then
            Option.bind (rff_Md_isHit σ y4) (fun q13 =>
            if q13 = 0 then
              if ub_in y4 12 then
              if y3 ≤ (σ 4 y4.toNatClampNeg) then
                rfl_Md_isDue_23 σ n y1 0 y3 (y4 + 1)
              else
                if ub_in y4 12 then
                rfl_Md_isDue_23 σ n y1 0 (σ 4 y4.toNatClampNeg) (y4 + 1)
                else none
              else none
            else
              if ub_in y4 12 then
              if y3 ≤ (σ 4 y4.toNatClampNeg) then
                rfl_Md_isDue_23 σ n y1 1 y3 (y4 + 1)
              else
                if ub_in y4 12 then
                rfl_Md_isDue_23 σ n y1 1 (σ 4 y4.toNatClampNeg) (y4 + 1)
                else none
              else none)
          else
            if ub_in y4 12 then
            if y3 ≤ (σ 4 y4.toNatClampNeg) then
              rfl_Md_isDue_23 σ n y1 1 y3 (y4 + 1)
            else
              if ub_in y4 12 then
              rfl_Md_isDue_23 σ n y1 1 (σ 4 y4.toNatClampNeg) (y4 + 1)
              else none
            else none)
def rff_Md_isDue (σ : ST) (x1 : Int32) : Option (Int32) :=
  if ub_in x1 12 then
  if (σ 7 x1.toNatClampNeg) = (-1) then
    rfl_Md_isDue_23 σ 200 x1 1 1000 0
  else
    rfl_Md_isDue_23 σ 200 x1 0 1000 0
  else none
def rfl_Md_isUnitHit_4 (σ : ST) : Nat → Int32 → Int32 → Int32 → Option (Int32)
  | 0, _, _, _ => none
  | n + 1, y1, y2, y3 =>
      if (σ 18 3) ≤ y3 then
        if y2 = 0 ∨ y2 = 1 then some y2 else none
      else
        if y2 = 0 then
          Option.bind (rff_Md_areOne σ y3 y1) (fun q4 =>
          if q4 = 0 then
            rfl_Md_isUnitHit_4 σ n y1 0 (y3 + 1)
          else
            Option.bind (rff_Md_isHit σ y3) (fun q6 =>
            if q6 = 0 then
              rfl_Md_isUnitHit_4 σ n y1 0 (y3 + 1)
            else
              rfl_Md_isUnitHit_4 σ n y1 1 (y3 + 1)))
        else
          rfl_Md_isUnitHit_4 σ n y1 1 (y3 + 1)
def rff_Md_isUnitHit (σ : ST) (x1 : Int32) : Option (Int32) :=
  rfl_Md_isUnitHit_4 σ 200 x1 0 0
def rfj_Md_propose_126 (σ : ST) (y1 : Int32) (y2 : Int32) (y3 : Int32) (y4 : Int32) (y5 : Int32) : Option (Int32 × ST) :=
    some ((-1), σ)
def rfj_Md_propose_140 (σ : ST) (y1 : Int32) (y2 : Int32) (y3 : Int32) (y4 : Int32) (y5 : Int32) : Option (Int32 × ST) :=
    if ub_in (σ 18 4) 60 then
    if ub_in (σ 18 4) 60 then
    if ub_in (σ 18 4) 60 then
    if y5 = 0 then
      if ub_in (σ 18 4) 60 then
      Option.bind (rff_Md_fill (wr (wr (wr (wr σ 12 (σ 18 4).toNatClampNeg 0) 13 (σ 18 4).toNatClampNeg y1) 15 (σ 18 4).toNatClampNeg (σ 18 2)) 16 (σ 18 4).toNatClampNeg 0) (σ 18 4)) (fun q16 =>
      some (1, (wr q16 18 4 ((q16 18 4) + 1))))
      else none
    else
      if ub_in (σ 18 4) 60 then
      Option.bind (rff_Md_fill (wr (wr (wr (wr σ 12 (σ 18 4).toNatClampNeg 0) 13 (σ 18 4).toNatClampNeg y1) 15 (σ 18 4).toNatClampNeg (σ 18 2)) 16 (σ 18 4).toNatClampNeg 1) (σ 18 4)) (fun q18 =>
      some (1, (wr q18 18 4 ((q18 18 4) + 1))))
      else none
    else none
    else none
    else none
def rfj_Md_propose_128 (σ : ST) (y1 : Int32) (y2 : Int32) (y3 : Int32) (y4 : Int32) (y5 : Int32) : Option (Int32 × ST) :=
    if y3 = (-1) then
      rfj_Md_propose_140 σ y1 y2 y3 y4 y5
    else
      if ub_in y3 60 then
      rfj_Md_propose_140 (wr σ 12 y3.toNatClampNeg 2) y1 y2 y3 y4 y5
      else none
def rfj_Md_propose_83 (σ : ST) (y1 : Int32) (y2 : Int32) (y3 : Int32) (y4 : Int32) : Option (Int32 × ST) :=
    Option.bind (rff_Md_isUnitHit σ y1) (fun q7 =>
    if (σ 18 4) = 60 then
      rfj_Md_propose_126 σ y1 y2 y3 y4 q7
    else
      if y3 = (-1) then
        if ub_in y1 12 then
        Option.bind (rff_Md_opens σ (σ 0 y1.toNatClampNeg)) (fun q21 =>
        if q21 < (σ 18 0) then
          rfj_Md_propose_128 σ y1 y2 y3 y4 q7
        else
          if q7 = 0 then
            rfj_Md_propose_126 σ y1 y2 y3 y4 q7
          else
            rfj_Md_propose_128 σ y1 y2 y3 y4 q7)
        else none
      else
        rfj_Md_propose_128 σ y1 y2 y3 y4 q7)
def rfj_Md_propose_81 (σ : ST) (y1 : Int32) (y2 : Int32) (y3 : Int32) (y4 : Int32) : Option (Int32 × ST) :=
    some (0, σ)
def rfj_Md_propose_46 (σ : ST) (y1 : Int32) (y2 : Int32) (y3 : Int32) : Option (Int32 × ST) :=
    Option.bind (rff_Md_latest σ y1 4) (fun q5 =>
    if q5 = (-1) then
      rfj_Md_propose_83 σ y1 y2 y3 q5
    else
      Option.bind (rff_Md_isSame σ q5) (fun q24 =>
      if q24 = 0 then
        rfj_Md_propose_83 σ y1 y2 y3 q5
      else
        if y3 = (-1) then
          rfj_Md_propose_81 σ y1 y2 y3 q5
        else
          if ub_in y3 60 then
          rfj_Md_propose_81 (wr σ 12 y3.toNatClampNeg 3) y1 y2 y3 q5
          else none))
def rfj_Md_propose_29 (σ : ST) (y1 : Int32) (y2 : Int32) (y3 : Int32) : Option (Int32 × ST) :=
    some (0, σ)
def rff_Md_propose (σ : ST) (x1 : Int32) : Option (Int32 × ST) :=
  Option.bind (rff_Md_find σ x1) (fun q1 =>
  Option.bind (rff_Md_latest q1.2 x1 0) (fun q2 =>
  if 0 < q1.1 then
    if q2 = (-1) then
      rfj_Md_propose_46 q1.2 x1 q1.1 q2
    else
      Option.bind (rff_Md_isSame q1.2 q2) (fun q28 =>
      if q28 = 0 then
        rfj_Md_propose_46 q1.2 x1 q1.1 q2
      else
        some (0, q1.2))
  else
    if q2 = (-1) then
      rfj_Md_propose_29 q1.2 x1 q1.1 q2
    else
      if ub_in q2 60 then
      rfj_Md_propose_29 (wr q1.2 12 q2.toNatClampNeg 3) x1 q1.1 q2
      else none))
def rfl_Md_run_14 : Nat → ST → Int32 → Int32 → Option (Int32 × ST)
  | 0, _, _, _ => none
  | n + 1, σ, y1, y2 =>
      if (σ 18 3) ≤ y2 then
        some (y1, σ)
      else
        Option.bind (rff_Md_chiefOf σ y2) (fun q2 =>
        if q2 = y2 then
          Option.bind (rff_Md_isDue σ y2) (fun q4 =>
          if q4 = 0 then
            rfl_Md_run_14 n σ y1 (y2 + 1)
          else
            if ub_in y2 12 then
            Option.bind (rff_Md_propose (wr σ 7 y2.toNatClampNeg (σ 18 2)) y2) (fun q7 =>
            if q7.1 = 1 then
              if q7.1 = (-1) then
                rfl_Md_run_14 n (wr q7.2 18 5 ((q7.2 18 5) + 1)) (y1 + 1) (y2 + 1)
              else
                rfl_Md_run_14 n (wr q7.2 18 5 ((q7.2 18 5) + 0)) (y1 + 1) (y2 + 1)
            else
              if q7.1 = (-1) then
                rfl_Md_run_14 n (wr q7.2 18 5 ((q7.2 18 5) + 1)) (y1 + 0) (y2 + 1)
              else
                rfl_Md_run_14 n (wr q7.2 18 5 ((q7.2 18 5) + 0)) (y1 + 0) (y2 + 1))
            else none)
        else
          rfl_Md_run_14 n σ y1 (y2 + 1))
def rff_Md_run (σ : ST)  : Option (Int32 × ST) :=
  rfl_Md_run_14 200 (wr (wr σ 18 1 0) 18 5 0) 0 0
def rff_Md_waiting (σ : ST)  : Option (Int32 × ST) :=
  some ((σ 18 5), (wr σ 18 1 0))
def rfj_Md_about_17 (σ : ST) (y1 : Int32) (y2 : Int32) : Option (Int32 × ST) :=
    some ((-1), σ)
def rff_Md_about (σ : ST) (x1 : Int32) (x2 : Int32) : Option (Int32 × ST) :=
  if x1 < 0 then
    rfj_Md_about_17 (wr σ 18 1 0) x1 x2
  else
    if x1 < (σ 18 4) then
      if x2 = 0 then
        if ub_in x1 60 then
        some ((σ 12 x1.toNatClampNeg), (wr σ 18 1 0))
        else none
      else
        if x2 = 1 then
          if ub_in x1 60 then
          some ((σ 13 x1.toNatClampNeg), (wr σ 18 1 0))
          else none
        else
          if x2 = 2 then
            if ub_in x1 60 then
            some ((σ 14 x1.toNatClampNeg), (wr σ 18 1 0))
            else none
          else
            if x2 = 3 then
              if ub_in x1 60 then
              some ((σ 15 x1.toNatClampNeg), (wr σ 18 1 0))
              else none
            else
              if x2 = 4 then
                if ub_in x1 60 then
                some ((σ 16 x1.toNatClampNeg), (wr σ 18 1 0))
                else none
              else
                some ((-1), (wr σ 18 1 0))
    else
      rfj_Md_about_17 (wr σ 18 1 0) x1 x2
def rff_Md_target (σ : ST) (x1 : Int32) (x2 : Int32) : Option (Int32 × ST) :=
  if x1 < 0 then
    some ((-1), (wr σ 18 1 0))
  else
    if (σ 18 4) ≤ x1 then
      some ((-1), (wr σ 18 1 0))
    else
      Option.bind (rff_Md_isName (wr σ 18 1 0) x2) (fun q3 =>
      if q3 = 0 then
        some ((-1), (wr σ 18 1 0))
      else
        if ub_in ((12 * x1) + x2) 720 then
        some ((σ 17 ((12 * x1) + x2).toNatClampNeg), (wr σ 18 1 0))
        else none)
def rff_Md_redo (σ : ST) (x1 : Int32) : Option (ST) :=
  if ub_in x1 60 then
  Option.bind (rff_Md_chiefOf σ (σ 13 x1.toNatClampNeg)) (fun q2 =>
  if q2 = (σ 13 x1.toNatClampNeg) then
    Option.bind (rff_Md_find σ (σ 13 x1.toNatClampNeg)) (fun q5 =>
    if 0 < q5.1 then
      if ub_in x1 60 then
      if ub_in x1 60 then
      Option.bind (rff_Md_fill (wr q5.2 14 x1.toNatClampNeg ((q5.2 14 x1.toNatClampNeg) + 1)) x1) (fun q9 =>
      some q9)
      else none
      else none
    else
      if ub_in x1 60 then
      some (wr q5.2 12 x1.toNatClampNeg 3)
      else none)
  else
    if ub_in x1 60 then
    some (wr σ 12 x1.toNatClampNeg 3)
    else none)
  else none
def rfj_Md_pass_26 (σ : ST) (y1 : Int32) (y2 : Int32) : Option (Int32 × ST) :=
    some ((-1), σ)
def rfl_Md_pass_144 : Nat → ST → Int32 → Int32 → Int32 → Int32 → Int32 → Int32 → Int32 → Option (ST × Int32 × Int32 × Int32 × Int32 × Int32 × Int32 × Int32)
  | 0, _, _, _, _, _, _, _, _ => none
  | n + 1, σ, y1, y2, y3, y4, y5, y6, y7 =>
      if (σ 18 3) ≤ y7 then
        some (σ, y1, y2, y3, y4, y5, y6, y7)
      else
        if y6 = 0 then
          if ((y3 >>> (y7 &&& 31)) &&& 1) = 1 then
            if ub_in ((12 * y5) + y7) 720 then
            if (σ 17 ((12 * y5) + y7).toNatClampNeg) = (-1) then
              rfl_Md_pass_144 n σ y1 y2 y3 y4 y5 0 (y7 + 1)
            else
              rfl_Md_pass_144 n σ y1 y2 y3 y4 y5 1 (y7 + 1)
            else none
          else
            rfl_Md_pass_144 n σ y1 y2 y3 y4 y5 0 (y7 + 1)
        else
          rfl_Md_pass_144 n σ y1 y2 y3 y4 y5 1 (y7 + 1)
def rfl_Md_pass_129 : Nat → ST → Int32 → Int32 → Int32 → Int32 → Int32 → Option (Int32 × ST)
  | 0, _, _, _, _, _, _ => none
  | n + 1, σ, y1, y2, y3, y4, y5 =>
      if (σ 18 4) ≤ y5 then
        some (y4, σ)
      else
        Option.bind (rfl_Md_pass_144 200 σ y1 y2 y3 y4 y5 0 0) (fun q15 =>
        if ub_in q15.2.2.2.2.2.1 60 then
        if (q15.1 12 q15.2.2.2.2.2.1.toNatClampNeg) = 0 then
          if q15.2.2.2.2.2.2.1 = 0 then
            rfl_Md_pass_129 n q15.1 q15.2.1 q15.2.2.1 q15.2.2.2.1 q15.2.2.2.2.1 (q15.2.2.2.2.2.1 + 1)
          else
            Option.bind (rff_Md_redo q15.1 q15.2.2.2.2.2.1) (fun q19 =>
            rfl_Md_pass_129 n q19 q15.2.1 q15.2.2.1 q15.2.2.2.1 q15.2.2.2.2.1 (q15.2.2.2.2.2.1 + 1))
        else
          rfl_Md_pass_129 n q15.1 q15.2.1 q15.2.2.1 q15.2.2.2.1 q15.2.2.2.2.1 (q15.2.2.2.2.2.1 + 1)
        else none)
def rfl_Md_pass_57 : Nat → ST → Int32 → Int32 → Int32 → Int32 → Int32 → Option (Int32 × ST)
  | 0, _, _, _, _, _, _ => none
  | n + 1, σ, y1, y2, y3, y4, y5 =>
      if (σ 18 3) ≤ y5 then
        rfl_Md_pass_129 200 σ y1 y2 y3 y4 0
      else
        if ub_in ((12 * y1) + y5) 720 then
        if ub_in y5 12 then
        if (σ 2 y5.toNatClampNeg) < (σ 17 ((12 * y1) + y5).toNatClampNeg) then
          if ub_in ((12 * y1) + y5) 720 then
          if ub_in y5 12 then
          rfl_Md_pass_57 n (wr σ 2 y5.toNatClampNeg (σ 17 ((12 * y1) + y5).toNatClampNeg)) y1 y2 (y3 ||| (1 <<< (y5 &&& 31))) (y4 + 1) (y5 + 1)
          else none
          else none
        else
          rfl_Md_pass_57 n σ y1 y2 y3 y4 (y5 + 1)
        else none
        else none
def rff_Md_pass (σ : ST) (x1 : Int32) (x2 : Int32) : Option (Int32 × ST) :=
  if x1 < 0 then
    rfj_Md_pass_26 (wr σ 18 1 0) x1 x2
  else
    if (σ 18 4) ≤ x1 then
      rfj_Md_pass_26 (wr σ 18 1 0) x1 x2
    else
      if ub_in x1 60 then
      if (σ 12 x1.toNatClampNeg) = 0 then
        if x2 = 0 then
          if ub_in x1 60 then
          if x2 = 0 then
            some (0, (wr (wr σ 18 1 0) 12 x1.toNatClampNeg 4))
          else
            rfl_Md_pass_57 200 (wr (wr σ 18 1 0) 12 x1.toNatClampNeg 4) x1 x2 0 0 0
          else none
        else
          if ub_in x1 60 then
          if x2 = 0 then
            some (0, (wr (wr σ 18 1 0) 12 x1.toNatClampNeg 1))
          else
            rfl_Md_pass_57 200 (wr (wr σ 18 1 0) 12 x1.toNatClampNeg 1) x1 x2 0 0 0
          else none
      else
        rfj_Md_pass_26 (wr σ 18 1 0) x1 x2
      else none
def rff_Md_open (σ : ST) (x1 : Int32) : Option (Int32 × ST) :=
  if x1 < 0 then
    some ((-1), (wr σ 18 1 0))
  else
    if x1 ≤ 2 then
      Option.bind (rff_Md_opens (wr σ 18 1 0) x1) (fun q3 =>
      some (q3, (wr σ 18 1 0)))
    else
      some ((-1), (wr σ 18 1 0))
