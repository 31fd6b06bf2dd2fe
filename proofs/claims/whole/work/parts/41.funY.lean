def f_Y_draw (σ : tm_S) (a1 : Int32) : Option (Int32 × tm_S) :=
  tm_w (sI σ 130 0 (((σ.1 130 0) * (1103515245 : Int32)) + (12345 : Int32))) fun σ1 =>
  if ¬ a1 = 0 then
    some ((((σ1.1 130 0).toUInt32 >>> ((16 : Int32).toUInt32 &&& Int32.toUInt32 31)).toInt32 - ((σ1.1 130 0).toUInt32 >>> ((16 : Int32).toUInt32 &&& Int32.toUInt32 31)).toInt32 / a1 * a1), σ1)
  else none
def f_Y_makeFrame_L2 : Nat → tm_S → Int32 → Int32 → Int32 → Option (Int32 × tm_S)
  | 0, _, _, _, _ => none
  | k + 1, σ, l1, l2, l3 =>
    if ¬ (l3 < 0 ∨ 32 ≤ l3.toNatClampNeg) then
      if (σ.1 154 l3.toNatClampNeg) = 0 then
        tm_w (sI σ 130 40 ((σ.1 130 40) + (1 : Int32))) fun σ2 =>
        if ¬ (l3 < 0 ∨ 32 ≤ l3.toNatClampNeg) then
          tm_w (sI σ2 154 l3.toNatClampNeg (1 : Int32)) fun σ4 =>
          if ¬ (l3 < 0 ∨ 32 ≤ l3.toNatClampNeg) then
            tm_w (sI σ4 155 l3.toNatClampNeg (σ4.1 130 40)) fun σ6 =>
            if ¬ (l3 < 0 ∨ 32 ≤ l3.toNatClampNeg) then
              tm_w (sI σ6 156 l3.toNatClampNeg l1) fun σ8 =>
              if ¬ (l3 < 0 ∨ 32 ≤ l3.toNatClampNeg) then
                tm_w (sI σ8 157 l3.toNatClampNeg l2) fun σ10 =>
                some (l3, σ10)
              else none
            else none
          else none
        else none
      else
        (f_Y_makeFrame_L2 k) σ l1 l2 (l3 + (1 : Int32))
    else none
def f_Y_makeFrame (σ : tm_S) (a1 : Int32) (a2 : Int32) : Option (Int32 × tm_S) :=
  f_Y_makeFrame_L2 tm_fu σ a1 a2 (0 : Int32)
def f_Y_first (σ : tm_S) (a1 : Int32) : Option (tm_S) :=
  if ¬ (a1 < 0 ∨ 7 ≤ a1.toNatClampNeg) then
    if (σ.1 148 a1.toNatClampNeg) = 0 then
      some σ
    else
      if ¬ (a1 < 0 ∨ 7 ≤ a1.toNatClampNeg) then
        tm_w (sI σ 150 a1.toNatClampNeg (0 : Int32)) fun σ3 =>
        if ¬ (a1 < 0 ∨ 7 ≤ a1.toNatClampNeg) then
          tm_w (sI σ3 151 a1.toNatClampNeg (0 : Int32)) fun σ5 =>
          (f_Y_draw σ5 (4 : Int32)).bind fun q6 =>
          if ¬ (a1 < 0 ∨ 7 ≤ a1.toNatClampNeg) then
            tm_w (sI q6.2 149 a1.toNatClampNeg q6.1) fun σ8 =>
            some σ8
          else none
        else none
      else none
  else none
def f_Y_queue_L30 (σ : tm_S) (l2 : Int32) (s0 : Int32) (s1 : Int32) : Option (tm_S) :=
  tm_w (sI σ 130 47 (s1 + s0)) fun σ11 =>
  if ¬ (l2 < 0 ∨ 32 ≤ l2.toNatClampNeg) then
    tm_w (sI σ11 154 l2.toNatClampNeg (0 : Int32)) fun σ13 =>
    some σ13
  else none
def f_Y_queue (σ : tm_S) (a1 : Int32) (a2 : Int32) : Option (tm_S) :=
  if ¬ (a1 < 0 ∨ 7 ≤ a1.toNatClampNeg) then
    if (σ.1 148 a1.toNatClampNeg) = (4 : Int32) then
      if ¬ (a2 < 0 ∨ 32 ≤ a2.toNatClampNeg) then
        if (σ.1 156 a2.toNatClampNeg) = (4 : Int32) then
          f_Y_queue_L30 σ a2 (1 : Int32) (σ.1 130 47)
        else
          f_Y_queue_L30 σ a2 (0 : Int32) (σ.1 130 47)
      else none
    else
      if ¬ (a1 < 0 ∨ 7 ≤ a1.toNatClampNeg) then
        if ¬ ((((4 : Int32) * a1) + (σ.1 148 a1.toNatClampNeg)) < 0 ∨ 28 ≤ (((4 : Int32) * a1) + (σ.1 148 a1.toNatClampNeg)).toNatClampNeg) then
          tm_w (sI σ 147 (((4 : Int32) * a1) + (σ.1 148 a1.toNatClampNeg)).toNatClampNeg a2) fun σ4 =>
          if ¬ (a1 < 0 ∨ 7 ≤ a1.toNatClampNeg) then
            if ¬ (a1 < 0 ∨ 7 ≤ a1.toNatClampNeg) then
              tm_w (sI σ4 148 a1.toNatClampNeg ((σ4.1 148 a1.toNatClampNeg) + (1 : Int32))) fun σ7 =>
              if ¬ (a1 < 0 ∨ 7 ≤ a1.toNatClampNeg) then
                if (σ7.1 148 a1.toNatClampNeg) = (1 : Int32) then
                  (f_Y_first σ7 a1).bind fun q9 =>
                  some q9
                else
                  some σ7
              else none
            else none
          else none
        else none
      else none
  else none
def f_Y_queues_L45 (rc : tm_S → Int32 → Int32 → Int32 → Int32 → Option (Int32 × tm_S)) (σ : tm_S) (l1 : Int32) (l2 : Int32) (l4 : Int32) (s0 : Int32) : Option (Int32 × tm_S) :=
  rc σ l1 l2 s0 (l4 + (1 : Int32))
def f_Y_queues_L40 (rc : tm_S → Int32 → Int32 → Int32 → Int32 → Option (Int32 × tm_S)) (σ : tm_S) (l1 : Int32) (l2 : Int32) (l4 : Int32) : Option (Int32 × tm_S) :=
  f_Y_queues_L45 rc σ l1 l2 l4 (1 : Int32)
def f_Y_queues_L5 : Nat → tm_S → Int32 → Int32 → Int32 → Int32 → Option (Int32 × tm_S)
  | 0, _, _, _, _, _ => none
  | k + 1, σ, l1, l2, l3, l4 =>
    if ¬ (l1 < 0 ∨ 7 ≤ l1.toNatClampNeg) then
      if (σ.1 148 l1.toNatClampNeg) ≤ l4 then
        if l3 = 0 ∨ l3 = 1 then
          some (l3, σ)
        else none
      else
        if l3 = 0 then
          if ¬ ((((4 : Int32) * l1) + l4) < 0 ∨ 28 ≤ (((4 : Int32) * l1) + l4).toNatClampNeg) then
            if ¬ ((σ.1 147 (((4 : Int32) * l1) + l4).toNatClampNeg) < 0 ∨ 32 ≤ (σ.1 147 (((4 : Int32) * l1) + l4).toNatClampNeg).toNatClampNeg) then
              if (σ.1 156 (σ.1 147 (((4 : Int32) * l1) + l4).toNatClampNeg).toNatClampNeg) = l2 then
                f_Y_queues_L40 (f_Y_queues_L5 k) σ l1 l2 l4
              else
                f_Y_queues_L45 (f_Y_queues_L5 k) σ l1 l2 l4 (0 : Int32)
            else none
          else none
        else
          f_Y_queues_L40 (f_Y_queues_L5 k) σ l1 l2 l4
    else none
def f_Y_queues (σ : tm_S) (a1 : Int32) (a2 : Int32) : Option (Int32 × tm_S) :=
  f_Y_queues_L5 tm_fu σ a1 a2 (0 : Int32) (0 : Int32)
def f_Y_done_L26 : Nat → tm_S → Int32 → Int32 → Option (tm_S)
  | 0, _, _, _ => none
  | k + 1, σ, l1, l2 =>
    if ¬ (l1 < 0 ∨ 7 ≤ l1.toNatClampNeg) then
      if (σ.1 148 l1.toNatClampNeg) ≤ l2 then
        (f_Y_first σ l1).bind fun q8 =>
        some q8
      else
        if ¬ (((((4 : Int32) * l1) + l2) + (1 : Int32)) < 0 ∨ 28 ≤ ((((4 : Int32) * l1) + l2) + (1 : Int32)).toNatClampNeg) then
          if ¬ ((((4 : Int32) * l1) + l2) < 0 ∨ 28 ≤ (((4 : Int32) * l1) + l2).toNatClampNeg) then
            tm_w (sI σ 147 (((4 : Int32) * l1) + l2).toNatClampNeg (σ.1 147 ((((4 : Int32) * l1) + l2) + (1 : Int32)).toNatClampNeg)) fun σ11 =>
            (f_Y_done_L26 k) σ11 l1 (l2 + (1 : Int32))
          else none
        else none
    else none
def f_Y_done (σ : tm_S) (a1 : Int32) : Option (tm_S) :=
  if ¬ (((4 : Int32) * a1) < 0 ∨ 28 ≤ ((4 : Int32) * a1).toNatClampNeg) then
    if ¬ ((σ.1 147 ((4 : Int32) * a1).toNatClampNeg) < 0 ∨ 32 ≤ (σ.1 147 ((4 : Int32) * a1).toNatClampNeg).toNatClampNeg) then
      tm_w (sI σ 154 (σ.1 147 ((4 : Int32) * a1).toNatClampNeg).toNatClampNeg (0 : Int32)) fun σ3 =>
      if ¬ (a1 < 0 ∨ 7 ≤ a1.toNatClampNeg) then
        if ¬ (a1 < 0 ∨ 7 ≤ a1.toNatClampNeg) then
          tm_w (sI σ3 148 a1.toNatClampNeg ((σ3.1 148 a1.toNatClampNeg) - (1 : Int32))) fun σ6 =>
          f_Y_done_L26 tm_fu σ6 a1 (0 : Int32)
        else none
      else none
    else none
  else none
def f_Y_begin (σ : tm_S) (a1 : Int32) : Option (tm_S) :=
  if ¬ (a1 < 0 ∨ 7 ≤ a1.toNatClampNeg) then
    tm_w (sI σ 144 a1.toNatClampNeg (0 : Int32)) fun σ2 =>
    if ¬ (a1 < 0 ∨ 7 ≤ a1.toNatClampNeg) then
      tm_w (sI σ2 146 a1.toNatClampNeg (0 : Int32)) fun σ4 =>
      if ¬ (a1 < 0 ∨ 7 ≤ a1.toNatClampNeg) then
        if ¬ (a1 < 0 ∨ 7 ≤ a1.toNatClampNeg) then
          (f_Y_draw σ4 ((σ4.1 143 a1.toNatClampNeg) / (2 : Int32))).bind fun q7 =>
          if ¬ (a1 < 0 ∨ 7 ≤ a1.toNatClampNeg) then
            tm_w (sI q7.2 145 a1.toNatClampNeg (((σ4.1 143 a1.toNatClampNeg) / (2 : Int32)) + q7.1)) fun σ9 =>
            some σ9
          else none
        else none
      else none
    else none
  else none
def f_Y_reset (σ : tm_S) (a1 : Int32) : Option (tm_S) :=
  if ¬ (a1 < 0 ∨ 7 ≤ a1.toNatClampNeg) then
    if (σ.1 142 a1.toNatClampNeg) = 0 then
      some σ
    else
      if ¬ (a1 < 0 ∨ 7 ≤ a1.toNatClampNeg) then
        if (σ.1 143 a1.toNatClampNeg) = (4 : Int32) then
          some σ
        else
          if ¬ (a1 < 0 ∨ 7 ≤ a1.toNatClampNeg) then
            tm_w (sI σ 143 a1.toNatClampNeg (4 : Int32)) fun σ4 =>
            (f_Y_begin σ4 a1).bind fun q5 =>
            some q5
          else none
      else none
  else none
def f_Y_allGoals_L35 (rc : tm_S → Int32 → Int32 → Int32 → Option (Int32 × tm_S)) (σ : tm_S) (l1 : Int32) (l3 : Int32) (s0 : Int32) : Option (Int32 × tm_S) :=
  rc σ l1 s0 (l3 + (1 : Int32))
def f_Y_allGoals_L6 : Nat → tm_S → Int32 → Int32 → Int32 → Option (Int32 × tm_S)
  | 0, _, _, _, _ => none
  | k + 1, σ, l1, l2, l3 =>
    if (7 : Int32) ≤ l3 then
      some (l2, σ)
    else
      if ¬ ((((7 : Int32) * l1) + l3) < 0 ∨ 49 ≤ (((7 : Int32) * l1) + l3).toNatClampNeg) then
        if (σ.1 134 (((7 : Int32) * l1) + l3).toNatClampNeg) < 0 then
          f_Y_allGoals_L35 (f_Y_allGoals_L6 k) σ l1 l3 l2
        else
          f_Y_allGoals_L35 (f_Y_allGoals_L6 k) σ l1 l3 (l2 ||| ((1 : Int32) <<< (l3 &&& 31)))
      else none
def f_Y_allGoals (σ : tm_S) (a1 : Int32) : Option (Int32 × tm_S) :=
  f_Y_allGoals_L6 tm_fu σ a1 ((1 : Int32) <<< (a1 &&& 31)) (0 : Int32)
def f_Y_announce_L28 : Nat → tm_S → Int32 → Int32 → Int32 → Option (tm_S)
  | 0, _, _, _, _ => none
  | k + 1, σ, l1, l5, l6 =>
    if (7 : Int32) ≤ l6 then
      (f_Y_queue σ l1 l5).bind fun q7 =>
      some q7
    else
      if ¬ ((((7 : Int32) * l1) + l6) < 0 ∨ 49 ≤ (((7 : Int32) * l1) + l6).toNatClampNeg) then
        if ¬ ((((7 : Int32) * l5) + l6) < 0 ∨ 224 ≤ (((7 : Int32) * l5) + l6).toNatClampNeg) then
          tm_w (sI σ 159 (((7 : Int32) * l5) + l6).toNatClampNeg (σ.1 135 (((7 : Int32) * l1) + l6).toNatClampNeg)) fun σ10 =>
          (f_Y_announce_L28 k) σ10 l1 l5 (l6 + (1 : Int32))
        else none
      else none
def f_Y_announce (σ : tm_S) (a1 : Int32) (a2 : Int32) (a3 : Int32) (a4 : Int32) : Option (tm_S) :=
  (f_Y_makeFrame σ (3 : Int32) a2).bind fun q1 =>
  if ¬ (q1.1 < 0 ∨ 32 ≤ q1.1.toNatClampNeg) then
    tm_w (sI q1.2 158 q1.1.toNatClampNeg a3) fun σ3 =>
    if ¬ (q1.1 < 0 ∨ 32 ≤ q1.1.toNatClampNeg) then
      if a4 = 0 ∨ a4 = 1 then
        tm_w (sI σ3 160 q1.1.toNatClampNeg a4) fun σ5 =>
        f_Y_announce_L28 tm_fu σ5 a1 q1.1 (0 : Int32)
      else none
    else none
  else none
def f_Y_choose_L124 (rc : tm_S → Int32 → Int32 → Int32 → Int32 → Option (Int32 × tm_S)) (σ : tm_S) (l1 : Int32) (l2 : Int32) (l3 : Int32) (l4 : Int32) : Option (Int32 × tm_S) :=
  rc σ l1 l2 l3 (l4 + (1 : Int32))
def f_Y_choose_L118 (rc : tm_S → Int32 → Int32 → Int32 → Int32 → Option (Int32 × tm_S)) (σ : tm_S) (l1 : Int32) (l4 : Int32) (l7 : Int32) : Option (Int32 × tm_S) :=
  f_Y_choose_L124 rc σ l1 l4 l7 l4
def f_Y_choose_L67 (rc : tm_S → Int32 → Int32 → Int32 → Int32 → Option (Int32 × tm_S)) (σ : tm_S) (l1 : Int32) (l2 : Int32) (l3 : Int32) (l4 : Int32) (l5 : Int32) (s0 : Int32) : Option (Int32 × tm_S) :=
  if ¬ (l5 < 0 ∨ 49 ≤ l5.toNatClampNeg) then
    if ¬ (l5 < 0 ∨ 49 ≤ l5.toNatClampNeg) then
      if s0 = 0 then
        f_Y_choose_L124 rc σ l1 l2 l3 l4
      else
        if l2 < 0 then
          f_Y_choose_L118 rc σ l1 l4 ((σ.1 132 l5.toNatClampNeg) + (σ.1 131 l5.toNatClampNeg))
        else
          if ((σ.1 132 l5.toNatClampNeg) + (σ.1 131 l5.toNatClampNeg)) < l3 then
            f_Y_choose_L118 rc σ l1 l4 ((σ.1 132 l5.toNatClampNeg) + (σ.1 131 l5.toNatClampNeg))
          else
            if ((σ.1 132 l5.toNatClampNeg) + (σ.1 131 l5.toNatClampNeg)) = l3 then
              if ¬ (l1 < 0 ∨ 7 ≤ l1.toNatClampNeg) then
                if l4 = (σ.1 140 l1.toNatClampNeg) then
                  f_Y_choose_L118 rc σ l1 l4 ((σ.1 132 l5.toNatClampNeg) + (σ.1 131 l5.toNatClampNeg))
                else
                  f_Y_choose_L124 rc σ l1 l2 l3 l4
              else none
            else
              f_Y_choose_L124 rc σ l1 l2 l3 l4
    else none
  else none
def f_Y_choose_L66 (rc : tm_S → Int32 → Int32 → Int32 → Int32 → Option (Int32 × tm_S)) (σ : tm_S) (l1 : Int32) (l2 : Int32) (l3 : Int32) (l4 : Int32) (l5 : Int32) : Option (Int32 × tm_S) :=
  f_Y_choose_L67 rc σ l1 l2 l3 l4 l5 (0 : Int32)
def f_Y_choose_L377 (σ : tm_S) (l7 : Int32) : Option (Int32 × tm_S) :=
  if l7 = 0 ∨ l7 = 1 then
    some (l7, σ)
  else none
def f_Y_choose_L341 (σ : tm_S) (l1 : Int32) (l7 : Int32) (l8 : Int32) : Option (Int32 × tm_S) :=
  if ¬ (l1 < 0 ∨ 7 ≤ l1.toNatClampNeg) then
    if (σ.1 140 l1.toNatClampNeg) < 0 then
      f_Y_choose_L377 σ l7
    else
      if ¬ (((8 : Int32) * l1) < 0 ∨ 49 ≤ ((8 : Int32) * l1).toNatClampNeg) then
        if ¬ (((8 : Int32) * l1) < 0 ∨ 49 ≤ ((8 : Int32) * l1).toNatClampNeg) then
          tm_w (sI σ 135 ((8 : Int32) * l1).toNatClampNeg ((σ.1 135 ((8 : Int32) * l1).toNatClampNeg) + (1 : Int32))) fun σ32 =>
          if ¬ (l1 < 0 ∨ 7 ≤ l1.toNatClampNeg) then
            (f_Y_announce σ32 l1 (σ32.1 140 l1.toNatClampNeg) l8 (0 : Int32)).bind fun q34 =>
            f_Y_choose_L377 q34 l7
          else none
        else none
      else none
  else none
def f_Y_choose_L308 (σ : tm_S) (l1 : Int32) (l5 : Int32) (l7 : Int32) : Option (Int32 × tm_S) :=
  if ¬ (l1 < 0 ∨ 7 ≤ l1.toNatClampNeg) then
    if (σ.1 140 l1.toNatClampNeg) = l5 then
      f_Y_choose_L377 σ l7
    else
      (f_Y_allGoals σ l1).bind fun q26 =>
      if l5 < 0 then
        f_Y_choose_L341 q26.2 l1 l7 q26.1
      else
        (f_Y_announce q26.2 l1 l5 q26.1 (1 : Int32)).bind fun q27 =>
        f_Y_choose_L341 q27 l1 l7 q26.1
  else none
def f_Y_choose_L296 (σ : tm_S) (l1 : Int32) (l5 : Int32) (s0 : Int32) : Option (Int32 × tm_S) :=
  if s0 = 0 then
    f_Y_choose_L308 σ l1 l5 s0
  else
    (f_Y_reset σ l1).bind fun q24 =>
    f_Y_choose_L308 q24 l1 l5 s0
def f_Y_choose_L291 (σ : tm_S) (l1 : Int32) (l5 : Int32) : Option (Int32 × tm_S) :=
  f_Y_choose_L296 σ l1 l5 (1 : Int32)
def f_Y_choose_L268 (σ : tm_S) (l1 : Int32) (l4 : Int32) (l5 : Int32) (s0 : Int32) (s1 : Int32) : Option (Int32 × tm_S) :=
  if ¬ (s1 < 0 ∨ 7 ≤ s1.toNatClampNeg) then
    if s0 = 0 ∨ s0 = 1 then
      tm_w (sI σ 142 s1.toNatClampNeg s0) fun σ20 =>
      if ¬ (l1 < 0 ∨ 7 ≤ l1.toNatClampNeg) then
        if (σ20.1 139 l1.toNatClampNeg) = l4 then
          if ¬ (l1 < 0 ∨ 7 ≤ l1.toNatClampNeg) then
            if (σ20.1 140 l1.toNatClampNeg) = l5 then
              f_Y_choose_L296 σ20 l1 l5 (0 : Int32)
            else
              f_Y_choose_L291 σ20 l1 l5
          else none
        else
          f_Y_choose_L291 σ20 l1 l5
      else none
    else none
  else none
def f_Y_choose_L263 (σ : tm_S) (l1 : Int32) (l4 : Int32) (l5 : Int32) (s0 : Int32) : Option (Int32 × tm_S) :=
  f_Y_choose_L268 σ l1 l4 l5 (1 : Int32) s0
def f_Y_choose_L243 (σ : tm_S) (l1 : Int32) (l4 : Int32) (l5 : Int32) (l6 : Int32) (s0 : Int32) (s1 : Int32) : Option (Int32 × tm_S) :=
  if ¬ (s1 < 0 ∨ 7 ≤ s1.toNatClampNeg) then
    tm_w (sI σ 141 s1.toNatClampNeg s0) fun σ17 =>
    if ¬ (l1 < 0 ∨ 7 ≤ l1.toNatClampNeg) then
      if (σ17.1 142 l1.toNatClampNeg) = 0 then
        if l6 = 0 then
          f_Y_choose_L263 σ17 l1 l4 l5 l1
        else
          f_Y_choose_L268 σ17 l1 l4 l5 (0 : Int32) l1
      else
        f_Y_choose_L263 σ17 l1 l4 l5 l1
    else none
  else none
def f_Y_choose_L237 (σ : tm_S) (l1 : Int32) (l4 : Int32) (l5 : Int32) (l6 : Int32) (s0 : Int32) : Option (Int32 × tm_S) :=
  if ¬ (l1 < 0 ∨ 7 ≤ l1.toNatClampNeg) then
    f_Y_choose_L243 σ l1 l4 l5 l6 (σ.1 141 l1.toNatClampNeg) s0
  else none
def f_Y_choose_L212 (σ : tm_S) (l1 : Int32) (l3 : Int32) (l4 : Int32) (l5 : Int32) (l6 : Int32) (s0 : Int32) (s1 : Int32) : Option (Int32 × tm_S) :=
  if ¬ (s1 < 0 ∨ 7 ≤ s1.toNatClampNeg) then
    tm_w (sI σ 140 s1.toNatClampNeg s0) fun σ13 =>
    if l6 = 0 then
      if ¬ (l1 < 0 ∨ 7 ≤ l1.toNatClampNeg) then
        if (σ13.1 141 l1.toNatClampNeg) ≤ l3 then
          f_Y_choose_L237 σ13 l1 l4 l5 l6 l1
        else
          f_Y_choose_L243 σ13 l1 l4 l5 l6 l3 l1
      else none
    else
      f_Y_choose_L237 σ13 l1 l4 l5 l6 l1
  else none
def f_Y_choose_L196 (σ : tm_S) (l1 : Int32) (l2 : Int32) (l3 : Int32) (l4 : Int32) (l5 : Int32) (l6 : Int32) (s0 : Int32) (s1 : Int32) : Option (Int32 × tm_S) :=
  if ¬ (s1 < 0 ∨ 7 ≤ s1.toNatClampNeg) then
    tm_w (sI σ 139 s1.toNatClampNeg s0) fun σ11 =>
    if l6 = 0 then
      f_Y_choose_L212 σ11 l1 l3 l4 l5 l6 l2 l1
    else
      f_Y_choose_L212 σ11 l1 l3 l4 l5 l6 (-1 : Int32) l1
  else none
def f_Y_choose_L177 (σ : tm_S) (l1 : Int32) (l2 : Int32) (l3 : Int32) (l4 : Int32) (l5 : Int32) (s0 : Int32) : Option (Int32 × tm_S) :=
  if s0 = 0 then
    f_Y_choose_L196 σ l1 l2 l3 l4 l5 s0 l3 l1
  else
    f_Y_choose_L196 σ l1 l2 l3 l4 l5 s0 (255 : Int32) l1
def f_Y_choose_L172 (σ : tm_S) (l1 : Int32) (l2 : Int32) (l3 : Int32) (l4 : Int32) (l5 : Int32) : Option (Int32 × tm_S) :=
  f_Y_choose_L177 σ l1 l2 l3 l4 l5 (1 : Int32)
def f_Y_choose_L7 : Nat → tm_S → Int32 → Int32 → Int32 → Int32 → Option (Int32 × tm_S)
  | 0, _, _, _, _, _ => none
  | k + 1, σ, l1, l2, l3, l4 =>
    if (7 : Int32) ≤ l4 then
      if ¬ (l1 < 0 ∨ 7 ≤ l1.toNatClampNeg) then
        if ¬ (l1 < 0 ∨ 7 ≤ l1.toNatClampNeg) then
          if l2 < 0 then
            f_Y_choose_L172 σ l1 l2 l3 (σ.1 139 l1.toNatClampNeg) (σ.1 140 l1.toNatClampNeg)
          else
            if (254 : Int32) < l3 then
              f_Y_choose_L172 σ l1 l2 l3 (σ.1 139 l1.toNatClampNeg) (σ.1 140 l1.toNatClampNeg)
            else
              if ¬ (l1 < 0 ∨ 7 ≤ l1.toNatClampNeg) then
                if l3 ≤ ((σ.1 141 l1.toNatClampNeg) + (σ.1 130 1)) then
                  f_Y_choose_L177 σ l1 l2 l3 (σ.1 139 l1.toNatClampNeg) (σ.1 140 l1.toNatClampNeg) (0 : Int32)
                else
                  f_Y_choose_L172 σ l1 l2 l3 (σ.1 139 l1.toNatClampNeg) (σ.1 140 l1.toNatClampNeg)
              else none
        else none
      else none
    else
      if l4 = l1 then
        f_Y_choose_L66 (f_Y_choose_L7 k) σ l1 l2 l3 l4 (((7 : Int32) * l1) + l4)
      else
        if ¬ ((((7 : Int32) * l1) + l4) < 0 ∨ 49 ≤ (((7 : Int32) * l1) + l4).toNatClampNeg) then
          if (σ.1 131 (((7 : Int32) * l1) + l4).toNatClampNeg) ≤ 0 then
            f_Y_choose_L66 (f_Y_choose_L7 k) σ l1 l2 l3 l4 (((7 : Int32) * l1) + l4)
          else
            if ¬ ((((7 : Int32) * l1) + l4) < 0 ∨ 49 ≤ (((7 : Int32) * l1) + l4).toNatClampNeg) then
              if (σ.1 133 (((7 : Int32) * l1) + l4).toNatClampNeg) = 0 then
                f_Y_choose_L66 (f_Y_choose_L7 k) σ l1 l2 l3 l4 (((7 : Int32) * l1) + l4)
              else
                if ¬ ((((7 : Int32) * l1) + l4) < 0 ∨ 49 ≤ (((7 : Int32) * l1) + l4).toNatClampNeg) then
                  if (σ.1 132 (((7 : Int32) * l1) + l4).toNatClampNeg) = (255 : Int32) then
                    f_Y_choose_L66 (f_Y_choose_L7 k) σ l1 l2 l3 l4 (((7 : Int32) * l1) + l4)
                  else
                    f_Y_choose_L67 (f_Y_choose_L7 k) σ l1 l2 l3 l4 (((7 : Int32) * l1) + l4) (1 : Int32)
                else none
            else none
        else none
def f_Y_choose (σ : tm_S) (a1 : Int32) : Option (Int32 × tm_S) :=
  f_Y_choose_L7 tm_fu σ a1 (-1 : Int32) (0 : Int32) (0 : Int32)
def f_Y_fails_L103 (rc : tm_S → Int32 → Int32 → Int32 → Option (tm_S)) (σ : tm_S) (l1 : Int32) (l3 : Int32) (l4 : Int32) (s0 : Int32) (s1 : Int32) : Option (tm_S) :=
  if ¬ (s1 < 0 ∨ 49 ≤ s1.toNatClampNeg) then
    tm_w (sI σ 134 s1.toNatClampNeg s0) fun σ13 =>
    rc σ13 l1 l3 (l4 + (1 : Int32))
  else none
def f_Y_fails_L53 : Nat → tm_S → Int32 → Int32 → Int32 → Option (tm_S)
  | 0, _, _, _, _ => none
  | k + 1, σ, l1, l3, l4 =>
    if (7 : Int32) ≤ l4 then
      if ¬ (l1 < 0 ∨ 7 ≤ l1.toNatClampNeg) then
        if (σ.1 140 l1.toNatClampNeg) = l3 then
          if ¬ ((((7 : Int32) * l1) + l3) < 0 ∨ 49 ≤ (((7 : Int32) * l1) + l3).toNatClampNeg) then
            tm_w (sI σ 133 (((7 : Int32) * l1) + l3).toNatClampNeg (0 : Int32)) fun σ8 =>
            (f_Y_choose σ8 l1).bind fun q9 =>
            some q9.2
          else none
        else
          some σ
      else none
    else
      if ¬ ((((7 : Int32) * l1) + l4) < 0 ∨ 49 ≤ (((7 : Int32) * l1) + l4).toNatClampNeg) then
        if (σ.1 134 (((7 : Int32) * l1) + l4).toNatClampNeg) = l3 then
          f_Y_fails_L103 (f_Y_fails_L53 k) σ l1 l3 l4 (-1 : Int32) (((7 : Int32) * l1) + l4)
        else
          if ¬ ((((7 : Int32) * l1) + l4) < 0 ∨ 49 ≤ (((7 : Int32) * l1) + l4).toNatClampNeg) then
            f_Y_fails_L103 (f_Y_fails_L53 k) σ l1 l3 l4 (σ.1 134 (((7 : Int32) * l1) + l4).toNatClampNeg) (((7 : Int32) * l1) + l4)
          else none
      else none
def f_Y_fails_L36 (σ : tm_S) (l1 : Int32) (l3 : Int32) (s0 : Int32) (s1 : Int32) : Option (tm_S) :=
  tm_w (sI σ 130 47 (s1 + s0)) fun σ4 =>
  (f_Y_done σ4 l1).bind fun q5 =>
  if 0 ≤ l3 then
    f_Y_fails_L53 tm_fu q5 l1 l3 (0 : Int32)
  else
    some q5
def f_Y_fails (σ : tm_S) (a1 : Int32) : Option (tm_S) :=
  if ¬ (((4 : Int32) * a1) < 0 ∨ 28 ≤ ((4 : Int32) * a1).toNatClampNeg) then
    if ¬ ((σ.1 147 ((4 : Int32) * a1).toNatClampNeg) < 0 ∨ 32 ≤ (σ.1 147 ((4 : Int32) * a1).toNatClampNeg).toNatClampNeg) then
      if ¬ ((σ.1 147 ((4 : Int32) * a1).toNatClampNeg) < 0 ∨ 32 ≤ (σ.1 147 ((4 : Int32) * a1).toNatClampNeg).toNatClampNeg) then
        if (σ.1 156 (σ.1 147 ((4 : Int32) * a1).toNatClampNeg).toNatClampNeg) = (4 : Int32) then
          f_Y_fails_L36 σ a1 (σ.1 157 (σ.1 147 ((4 : Int32) * a1).toNatClampNeg).toNatClampNeg) (1 : Int32) (σ.1 130 47)
        else
          f_Y_fails_L36 σ a1 (σ.1 157 (σ.1 147 ((4 : Int32) * a1).toNatClampNeg).toNatClampNeg) (0 : Int32) (σ.1 130 47)
      else none
    else none
  else none
def f_Y_timer_L116 (σ : tm_S) (l1 : Int32) (s0 : Int32) (s1 : Int32) : Option (tm_S) :=
  if ¬ (s1 < 0 ∨ 7 ≤ s1.toNatClampNeg) then
    tm_w (sI σ 143 s1.toNatClampNeg s0) fun σ16 =>
    (f_Y_begin σ16 l1).bind fun q17 =>
    some q17
  else none
def f_Y_timer_L70 (σ : tm_S) (l1 : Int32) : Option (tm_S) :=
  if ¬ (l1 < 0 ∨ 7 ≤ l1.toNatClampNeg) then
    if ¬ (l1 < 0 ∨ 7 ≤ l1.toNatClampNeg) then
      if (σ.1 144 l1.toNatClampNeg) = (σ.1 143 l1.toNatClampNeg) then
        if ¬ (l1 < 0 ∨ 7 ≤ l1.toNatClampNeg) then
          if ((2 : Int32) * (σ.1 143 l1.toNatClampNeg)) ≤ (64 : Int32) then
            if ¬ (l1 < 0 ∨ 7 ≤ l1.toNatClampNeg) then
              f_Y_timer_L116 σ l1 ((2 : Int32) * (σ.1 143 l1.toNatClampNeg)) l1
            else none
          else
            f_Y_timer_L116 σ l1 (64 : Int32) l1
        else none
      else
        some σ
    else none
  else none
def f_Y_timer (σ : tm_S) (a1 : Int32) : Option (tm_S) :=
  if ¬ (a1 < 0 ∨ 7 ≤ a1.toNatClampNeg) then
    if (σ.1 142 a1.toNatClampNeg) = 0 then
      some σ
    else
      if ¬ (a1 < 0 ∨ 7 ≤ a1.toNatClampNeg) then
        if ¬ (a1 < 0 ∨ 7 ≤ a1.toNatClampNeg) then
          tm_w (sI σ 144 a1.toNatClampNeg ((σ.1 144 a1.toNatClampNeg) + (1 : Int32))) fun σ4 =>
          if ¬ (a1 < 0 ∨ 7 ≤ a1.toNatClampNeg) then
            if ¬ (a1 < 0 ∨ 7 ≤ a1.toNatClampNeg) then
              if (σ4.1 144 a1.toNatClampNeg) = (σ4.1 145 a1.toNatClampNeg) then
                if ¬ (a1 < 0 ∨ 7 ≤ a1.toNatClampNeg) then
                  if (σ4.1 130 2) ≤ (σ4.1 146 a1.toNatClampNeg) then
                    f_Y_timer_L70 σ4 a1
                  else
                    (f_Y_queues σ4 a1 (2 : Int32)).bind fun q8 =>
                    if q8.1 = 0 then
                      (f_Y_makeFrame q8.2 (2 : Int32) (-1 : Int32)).bind fun q9 =>
                      (f_Y_queue q9.2 a1 q9.1).bind fun q10 =>
                      f_Y_timer_L70 q10 a1
                    else
                      f_Y_timer_L70 q8.2 a1
                else none
              else
                f_Y_timer_L70 σ4 a1
            else none
          else none
        else none
      else none
  else none
def f_Y_advert_L195 (σ : tm_S) (s0 : Int32) (s1 : Int32) (s2 : Int32) : Option (tm_S) :=
  if ¬ (s2 < 0 ∨ 7 ≤ s2.toNatClampNeg) then
    tm_w (sI σ 146 s2.toNatClampNeg (s1 + s0)) fun σ28 =>
    some σ28
  else none
def f_Y_advert_L178 (σ : tm_S) (l1 : Int32) (s0 : Int32) : Option (tm_S) :=
  if ¬ (l1 < 0 ∨ 7 ≤ l1.toNatClampNeg) then
    if s0 = 0 then
      f_Y_advert_L195 σ (1 : Int32) (σ.1 146 l1.toNatClampNeg) l1
    else
      f_Y_advert_L195 σ (0 : Int32) (σ.1 146 l1.toNatClampNeg) l1
  else none
def f_Y_advert_L177 (σ : tm_S) (l1 : Int32) : Option (tm_S) :=
  f_Y_advert_L178 σ l1 (0 : Int32)
def f_Y_advert_L132 (σ : tm_S) (l1 : Int32) (l2 : Int32) : Option (tm_S) :=
  if ¬ (l2 < 0 ∨ 7 ≤ l2.toNatClampNeg) then
    if ¬ ((((7 : Int32) * l1) + l2) < 0 ∨ 49 ≤ (((7 : Int32) * l1) + l2).toNatClampNeg) then
      tm_w (sI σ 132 (((7 : Int32) * l1) + l2).toNatClampNeg (σ.1 139 l2.toNatClampNeg)) fun σ17 =>
      if ¬ ((((7 : Int32) * l1) + l2) < 0 ∨ 49 ≤ (((7 : Int32) * l1) + l2).toNatClampNeg) then
        tm_w (sI σ17 133 (((7 : Int32) * l1) + l2).toNatClampNeg (1 : Int32)) fun σ19 =>
        if l1 = 0 then
          f_Y_advert_L177 σ19 l1
        else
          (f_Y_choose σ19 l1).bind fun q20 =>
          if q20.1 = 0 then
            f_Y_advert_L177 q20.2 l1
          else
            f_Y_advert_L178 q20.2 l1 (1 : Int32)
      else none
    else none
  else none
def f_Y_advert_L87 (σ : tm_S) (l1 : Int32) (l2 : Int32) : Option (tm_S) :=
  if ¬ (l1 < 0 ∨ 7 ≤ l1.toNatClampNeg) then
    tm_w (sI σ 139 l1.toNatClampNeg (255 : Int32)) fun σ22 =>
    if ¬ (l1 < 0 ∨ 7 ≤ l1.toNatClampNeg) then
      tm_w (sI σ22 140 l1.toNatClampNeg (-1 : Int32)) fun σ24 =>
      (f_Y_reset σ24 l1).bind fun q25 =>
      f_Y_advert_L132 q25 l1 l2
    else none
  else none
def f_Y_advert_L33 : Nat → tm_S → Int32 → Int32 → Int32 → Option (tm_S)
  | 0, _, _, _, _ => none
  | k + 1, σ, l1, l2, l3 =>
    if (7 : Int32) ≤ l3 then
      if ¬ (l1 < 0 ∨ 7 ≤ l1.toNatClampNeg) then
        tm_w (sI σ 141 l1.toNatClampNeg (255 : Int32)) fun σ10 =>
        if ¬ (l1 < 0 ∨ 7 ≤ l1.toNatClampNeg) then
          if 0 ≤ (σ10.1 140 l1.toNatClampNeg) then
            f_Y_advert_L87 σ10 l1 l2
          else
            if ¬ (l1 < 0 ∨ 7 ≤ l1.toNatClampNeg) then
              if (σ10.1 139 l1.toNatClampNeg) = (255 : Int32) then
                f_Y_advert_L132 σ10 l1 l2
              else
                f_Y_advert_L87 σ10 l1 l2
            else none
        else none
      else none
    else
      if ¬ ((((7 : Int32) * l1) + l3) < 0 ∨ 49 ≤ (((7 : Int32) * l1) + l3).toNatClampNeg) then
        tm_w (sI σ 133 (((7 : Int32) * l1) + l3).toNatClampNeg (0 : Int32)) fun σ14 =>
        (f_Y_advert_L33 k) σ14 l1 l2 (l3 + (1 : Int32))
      else none
def f_Y_advert_L111 (σ : tm_S) (l1 : Int32) (l2 : Int32) : Option (tm_S) :=
  if ¬ (l2 < 0 ∨ 7 ≤ l2.toNatClampNeg) then
    if ¬ (l1 < 0 ∨ 7 ≤ l1.toNatClampNeg) then
      if (σ.1 138 l1.toNatClampNeg) ≤ (σ.1 138 l2.toNatClampNeg) then
        f_Y_advert_L132 σ l1 l2
      else
        (f_Y_reset σ l1).bind fun q8 =>
        some q8
    else none
  else none
def f_Y_advert (σ : tm_S) (a1 : Int32) (a2 : Int32) : Option (tm_S) :=
  if ¬ (a2 < 0 ∨ 7 ≤ a2.toNatClampNeg) then
    if ¬ (a1 < 0 ∨ 7 ≤ a1.toNatClampNeg) then
      if (σ.1 138 a2.toNatClampNeg) ≤ (σ.1 138 a1.toNatClampNeg) then
        f_Y_advert_L111 σ a1 a2
      else
        if a1 = 0 then
          f_Y_advert_L111 σ a1 a2
        else
          if ¬ (a2 < 0 ∨ 7 ≤ a2.toNatClampNeg) then
            if ¬ (a1 < 0 ∨ 7 ≤ a1.toNatClampNeg) then
              tm_w (sI σ 138 a1.toNatClampNeg (σ.1 138 a2.toNatClampNeg)) fun σ5 =>
              f_Y_advert_L33 tm_fu σ5 a1 a2 (0 : Int32)
            else none
          else none
    else none
  else none
def f_Y_announced_L201 (rc : tm_S → Int32 → Int32 → Int32 → Int32 → Int32 → Option (tm_S)) (σ : tm_S) (l1 : Int32) (l2 : Int32) (l3 : Int32) (l4 : Int32) (l5 : Int32) : Option (tm_S) :=
  rc σ l1 l2 l3 l4 (l5 + (1 : Int32))
def f_Y_announced_L171 (rc : tm_S → Int32 → Int32 → Int32 → Int32 → Int32 → Option (tm_S)) (σ : tm_S) (l1 : Int32) (l2 : Int32) (l3 : Int32) (l5 : Int32) (l6 : Int32) (l9 : Int32) (s0 : Int32) : Option (tm_S) :=
  if ¬ (l6 < 0 ∨ 49 ≤ l6.toNatClampNeg) then
    tm_w (sI σ 134 l6.toNatClampNeg l9) fun σ15 =>
    if ¬ ((((7 : Int32) * l3) + l5) < 0 ∨ 224 ≤ (((7 : Int32) * l3) + l5).toNatClampNeg) then
      if ¬ (l6 < 0 ∨ 49 ≤ l6.toNatClampNeg) then
        tm_w (sI σ15 135 l6.toNatClampNeg (σ15.1 159 (((7 : Int32) * l3) + l5).toNatClampNeg)) fun σ18 =>
        f_Y_announced_L201 rc σ18 l1 l2 l3 s0 l5
      else none
    else none
  else none
def f_Y_announced_L159 (rc : tm_S → Int32 → Int32 → Int32 → Int32 → Int32 → Option (tm_S)) (σ : tm_S) (l1 : Int32) (l2 : Int32) (l3 : Int32) (l4 : Int32) (l5 : Int32) (l6 : Int32) (l9 : Int32) : Option (tm_S) :=
  f_Y_announced_L171 rc σ l1 l2 l3 l5 l6 l9 (l4 ||| ((1 : Int32) <<< (l5 &&& 31)))
def f_Y_announced_L118 (rc : tm_S → Int32 → Int32 → Int32 → Int32 → Int32 → Option (tm_S)) (σ : tm_S) (l1 : Int32) (l2 : Int32) (l3 : Int32) (l4 : Int32) (l5 : Int32) (l6 : Int32) (l8 : Int32) (s0 : Int32) : Option (tm_S) :=
  if l8 = 0 then
    f_Y_announced_L201 rc σ l1 l2 l3 l4 l5
  else
    if ¬ (l6 < 0 ∨ 49 ≤ l6.toNatClampNeg) then
      if (σ.1 134 l6.toNatClampNeg) = s0 then
        if ¬ (l6 < 0 ∨ 49 ≤ l6.toNatClampNeg) then
          if ¬ ((((7 : Int32) * l3) + l5) < 0 ∨ 224 ≤ (((7 : Int32) * l3) + l5).toNatClampNeg) then
            if (σ.1 135 l6.toNatClampNeg) = (σ.1 159 (((7 : Int32) * l3) + l5).toNatClampNeg) then
              f_Y_announced_L171 rc σ l1 l2 l3 l5 l6 s0 l4
            else
              f_Y_announced_L159 rc σ l1 l2 l3 l4 l5 l6 s0
          else none
        else none
      else
        f_Y_announced_L159 rc σ l1 l2 l3 l4 l5 l6 s0
    else none
def f_Y_announced_L102 (rc : tm_S → Int32 → Int32 → Int32 → Int32 → Int32 → Option (tm_S)) (σ : tm_S) (l1 : Int32) (l2 : Int32) (l3 : Int32) (l4 : Int32) (l5 : Int32) (l6 : Int32) (s0 : Int32) : Option (tm_S) :=
  if ¬ (l3 < 0 ∨ 32 ≤ l3.toNatClampNeg) then
    if (σ.1 160 l3.toNatClampNeg) = 0 then
      f_Y_announced_L118 rc σ l1 l2 l3 l4 l5 l6 s0 l2
    else
      f_Y_announced_L118 rc σ l1 l2 l3 l4 l5 l6 s0 (-1 : Int32)
  else none
def f_Y_announced_L97 (rc : tm_S → Int32 → Int32 → Int32 → Int32 → Int32 → Option (tm_S)) (σ : tm_S) (l1 : Int32) (l2 : Int32) (l3 : Int32) (l4 : Int32) (l5 : Int32) (l6 : Int32) : Option (tm_S) :=
  f_Y_announced_L102 rc σ l1 l2 l3 l4 l5 l6 (1 : Int32)
def f_Y_announced_L101 (rc : tm_S → Int32 → Int32 → Int32 → Int32 → Int32 → Option (tm_S)) (σ : tm_S) (l1 : Int32) (l2 : Int32) (l3 : Int32) (l4 : Int32) (l5 : Int32) (l6 : Int32) : Option (tm_S) :=
  f_Y_announced_L102 rc σ l1 l2 l3 l4 l5 l6 (0 : Int32)
def f_Y_announced_L70 (rc : tm_S → Int32 → Int32 → Int32 → Int32 → Int32 → Option (tm_S)) (σ : tm_S) (l1 : Int32) (l2 : Int32) (l3 : Int32) (l4 : Int32) (l5 : Int32) (l6 : Int32) (s0 : Int32) : Option (tm_S) :=
  if s0 = 0 then
    f_Y_announced_L101 rc σ l1 l2 l3 l4 l5 l6
  else
    if ¬ (l3 < 0 ∨ 32 ≤ l3.toNatClampNeg) then
      if (σ.1 160 l3.toNatClampNeg) = 0 then
        f_Y_announced_L97 rc σ l1 l2 l3 l4 l5 l6
      else
        if ¬ (l6 < 0 ∨ 49 ≤ l6.toNatClampNeg) then
          if (σ.1 134 l6.toNatClampNeg) = l2 then
            f_Y_announced_L97 rc σ l1 l2 l3 l4 l5 l6
          else
            f_Y_announced_L101 rc σ l1 l2 l3 l4 l5 l6
        else none
    else none
def f_Y_announced_L69 (rc : tm_S → Int32 → Int32 → Int32 → Int32 → Int32 → Option (tm_S)) (σ : tm_S) (l1 : Int32) (l2 : Int32) (l3 : Int32) (l4 : Int32) (l5 : Int32) (l6 : Int32) : Option (tm_S) :=
  f_Y_announced_L70 rc σ l1 l2 l3 l4 l5 l6 (0 : Int32)
def f_Y_announced_L6 : Nat → tm_S → Int32 → Int32 → Int32 → Int32 → Int32 → Option (tm_S)
  | 0, _, _, _, _, _, _ => none
  | k + 1, σ, l1, l2, l3, l4, l5 =>
    if (7 : Int32) ≤ l5 then
      if l4 = 0 then
        some σ
      else
        if ¬ (l1 < 0 ∨ 7 ≤ l1.toNatClampNeg) then
          if (σ.1 140 l1.toNatClampNeg) < 0 then
            some σ
          else
            if ¬ (l1 < 0 ∨ 7 ≤ l1.toNatClampNeg) then
              if ¬ (l3 < 0 ∨ 32 ≤ l3.toNatClampNeg) then
                (f_Y_announce σ l1 (σ.1 140 l1.toNatClampNeg) l4 (σ.1 160 l3.toNatClampNeg)).bind fun q4 =>
                some q4
              else none
            else none
        else none
    else
      if l5 = l1 then
        f_Y_announced_L69 (f_Y_announced_L6 k) σ l1 l2 l3 l4 l5 (((7 : Int32) * l1) + l5)
      else
        if ¬ (l3 < 0 ∨ 32 ≤ l3.toNatClampNeg) then
          if (((σ.1 158 l3.toNatClampNeg) >>> (l5 &&& 31)) &&& (1 : Int32)) = (1 : Int32) then
            if ¬ ((((7 : Int32) * l3) + l5) < 0 ∨ 224 ≤ (((7 : Int32) * l3) + l5).toNatClampNeg) then
              if ¬ ((((7 : Int32) * l1) + l5) < 0 ∨ 49 ≤ (((7 : Int32) * l1) + l5).toNatClampNeg) then
                if (σ.1 159 (((7 : Int32) * l3) + l5).toNatClampNeg) < (σ.1 135 (((7 : Int32) * l1) + l5).toNatClampNeg) then
                  f_Y_announced_L69 (f_Y_announced_L6 k) σ l1 l2 l3 l4 l5 (((7 : Int32) * l1) + l5)
                else
                  f_Y_announced_L70 (f_Y_announced_L6 k) σ l1 l2 l3 l4 l5 (((7 : Int32) * l1) + l5) (1 : Int32)
              else none
            else none
          else
            f_Y_announced_L69 (f_Y_announced_L6 k) σ l1 l2 l3 l4 l5 (((7 : Int32) * l1) + l5)
        else none
def f_Y_announced (σ : tm_S) (a1 : Int32) (a2 : Int32) (a3 : Int32) : Option (tm_S) :=
  f_Y_announced_L6 tm_fu σ a1 a2 a3 (0 : Int32) (0 : Int32)
def f_Y_sendOn_L106 (σ : tm_S) (l1 : Int32) (l6 : Int32) (l9 : Int32) (s0 : Int32) (s1 : Int32) : Option (tm_S) :=
  if ¬ (s1 < 0 ∨ 32 ≤ s1.toNatClampNeg) then
    if s0 = 0 ∨ s0 = 1 then
      tm_w (sI σ 165 s1.toNatClampNeg s0) fun σ14 =>
      if ¬ (l9 < 0 ∨ 32 ≤ l9.toNatClampNeg) then
        if l6 = 0 ∨ l6 = 1 then
          tm_w (sI σ14 166 l9.toNatClampNeg l6) fun σ17 =>
          (f_Y_queue σ17 l1 l9).bind fun q19 =>
          some q19
        else none
      else none
    else none
  else none
def f_Y_sendOn_L29 (σ : tm_S) (l1 : Int32) (l2 : Int32) (l3 : Int32) (l4 : Int32) (l5 : Int32) (l6 : Int32) (l7 : Int32) (s0 : Int32) : Option (tm_S) :=
  if 0 ≤ s0 then
    (f_Y_makeFrame σ (4 : Int32) s0).bind fun q3 =>
    if ¬ (q3.1 < 0 ∨ 32 ≤ q3.1.toNatClampNeg) then
      tm_w (sI q3.2 161 q3.1.toNatClampNeg l2) fun σ5 =>
      if ¬ (q3.1 < 0 ∨ 32 ≤ q3.1.toNatClampNeg) then
        tm_w (sI σ5 162 q3.1.toNatClampNeg l3) fun σ7 =>
        if ¬ (q3.1 < 0 ∨ 32 ≤ q3.1.toNatClampNeg) then
          tm_w (sI σ7 163 q3.1.toNatClampNeg l4) fun σ9 =>
          if ¬ (q3.1 < 0 ∨ 32 ≤ q3.1.toNatClampNeg) then
            tm_w (sI σ9 164 q3.1.toNatClampNeg l5) fun σ11 =>
            if l7 < 0 then
              f_Y_sendOn_L106 σ11 l1 l6 q3.1 (0 : Int32) q3.1
            else
              f_Y_sendOn_L106 σ11 l1 l6 q3.1 (1 : Int32) q3.1
          else none
        else none
      else none
    else none
  else
    tm_w (sI σ 130 47 ((σ.1 130 47) + (1 : Int32))) fun σ12 =>
    some σ12
def f_Y_sendOn (σ : tm_S) (a1 : Int32) (a2 : Int32) (a3 : Int32) (a4 : Int32) (a5 : Int32) (a6 : Int32) : Option (tm_S) :=
  if ¬ ((((7 : Int32) * a1) + a3) < 0 ∨ 49 ≤ (((7 : Int32) * a1) + a3).toNatClampNeg) then
    if (σ.1 134 (((7 : Int32) * a1) + a3).toNatClampNeg) < 0 then
      if ¬ (a1 < 0 ∨ 7 ≤ a1.toNatClampNeg) then
        f_Y_sendOn_L29 σ a1 a2 a3 a4 a5 a6 (σ.1 134 (((7 : Int32) * a1) + a3).toNatClampNeg) (σ.1 140 a1.toNatClampNeg)
      else none
    else
      f_Y_sendOn_L29 σ a1 a2 a3 a4 a5 a6 (σ.1 134 (((7 : Int32) * a1) + a3).toNatClampNeg) (σ.1 134 (((7 : Int32) * a1) + a3).toNatClampNeg)
  else none
def f_Y_valued_L98 : Nat → tm_S → Int32 → Int32 → Int32 → Option (tm_S)
  | 0, _, _, _, _ => none
  | k + 1, σ, l1, l3, l5 =>
    if l5 ≤ 0 then
      if ¬ (l3 < 0 ∨ 32 ≤ l3.toNatClampNeg) then
        if ¬ (l3 < 0 ∨ 32 ≤ l3.toNatClampNeg) then
          if ¬ (((8 : Int32) * l1) < 0 ∨ 56 ≤ ((8 : Int32) * l1).toNatClampNeg) then
            tm_w (sI σ 173 ((8 : Int32) * l1).toNatClampNeg ((σ.1 164 l3.toNatClampNeg) + ((1000 : Int32) * (σ.1 161 l3.toNatClampNeg)))) fun σ21 =>
            if ¬ (l1 < 0 ∨ 7 ≤ l1.toNatClampNeg) then
              if ¬ (l1 < 0 ∨ 7 ≤ l1.toNatClampNeg) then
                tm_w (sI σ21 172 l1.toNatClampNeg ((σ21.1 172 l1.toNatClampNeg) + (1 : Int32))) fun σ24 =>
                tm_w (sI σ24 130 48 ((σ24.1 130 48) + (1 : Int32))) fun σ25 =>
                some σ25
              else none
            else none
          else none
        else none
      else none
    else
      if ¬ (((((8 : Int32) * l1) + l5) - (1 : Int32)) < 0 ∨ 56 ≤ ((((8 : Int32) * l1) + l5) - (1 : Int32)).toNatClampNeg) then
        if ¬ ((((8 : Int32) * l1) + l5) < 0 ∨ 56 ≤ (((8 : Int32) * l1) + l5).toNatClampNeg) then
          tm_w (sI σ 173 (((8 : Int32) * l1) + l5).toNatClampNeg (σ.1 173 ((((8 : Int32) * l1) + l5) - (1 : Int32)).toNatClampNeg)) fun σ28 =>
          (f_Y_valued_L98 k) σ28 l1 l3 (l5 + (-1 : Int32))
        else none
      else none
def f_Y_valued_L254 (σ : tm_S) (s0 : Int32) (s1 : Int32) (s2 : Int32) (s3 : Int32) (s4 : Int32) (s5 : Int32) : Option (tm_S) :=
  (f_Y_sendOn σ s5 s4 s3 s2 s1 s0).bind fun q17 =>
  some q17
def f_Y_valued_L249 (σ : tm_S) (s0 : Int32) (s1 : Int32) (s2 : Int32) (s3 : Int32) (s4 : Int32) : Option (tm_S) :=
  f_Y_valued_L254 σ (1 : Int32) s0 s1 s2 s3 s4
def f_Y_valued_L84 (σ : tm_S) (l1 : Int32) (l3 : Int32) (l4 : Int32) : Option (tm_S) :=
  if ¬ (l3 < 0 ∨ 32 ≤ l3.toNatClampNeg) then
    if (σ.1 162 l3.toNatClampNeg) = l1 then
      f_Y_valued_L98 tm_fu σ l1 l3 (7 : Int32)
    else
      if ¬ (l3 < 0 ∨ 32 ≤ l3.toNatClampNeg) then
        if (σ.1 163 l3.toNatClampNeg) = (1 : Int32) then
          tm_w (sI σ 130 47 ((σ.1 130 47) + (1 : Int32))) fun σ16 =>
          some σ16
        else
          if ¬ (l3 < 0 ∨ 32 ≤ l3.toNatClampNeg) then
            if ¬ (l3 < 0 ∨ 32 ≤ l3.toNatClampNeg) then
              if ¬ (l3 < 0 ∨ 32 ≤ l3.toNatClampNeg) then
                if ¬ (l3 < 0 ∨ 32 ≤ l3.toNatClampNeg) then
                  if l4 = 0 then
                    if ¬ (l3 < 0 ∨ 32 ≤ l3.toNatClampNeg) then
                      if (σ.1 166 l3.toNatClampNeg) = 0 then
                        f_Y_valued_L254 σ (0 : Int32) (σ.1 164 l3.toNatClampNeg) ((σ.1 163 l3.toNatClampNeg) - (1 : Int32)) (σ.1 162 l3.toNatClampNeg) (σ.1 161 l3.toNatClampNeg) l1
                      else
                        f_Y_valued_L249 σ (σ.1 164 l3.toNatClampNeg) ((σ.1 163 l3.toNatClampNeg) - (1 : Int32)) (σ.1 162 l3.toNatClampNeg) (σ.1 161 l3.toNatClampNeg) l1
                    else none
                  else
                    f_Y_valued_L249 σ (σ.1 164 l3.toNatClampNeg) ((σ.1 163 l3.toNatClampNeg) - (1 : Int32)) (σ.1 162 l3.toNatClampNeg) (σ.1 161 l3.toNatClampNeg) l1
                else none
              else none
            else none
          else none
      else none
  else none
def f_Y_valued_L52 (σ : tm_S) (l1 : Int32) (l3 : Int32) (s0 : Int32) : Option (tm_S) :=
  if s0 = 0 then
    f_Y_valued_L84 σ l1 l3 s0
  else
    if ¬ (l3 < 0 ∨ 32 ≤ l3.toNatClampNeg) then
      if (σ.1 166 l3.toNatClampNeg) = 0 then
        f_Y_valued_L84 σ l1 l3 s0
      else
        tm_w (sI σ 130 47 ((σ.1 130 47) + (1 : Int32))) fun σ7 =>
        (f_Y_reset σ7 l1).bind fun q8 =>
        some q8
    else none
def f_Y_valued (σ : tm_S) (a1 : Int32) (a2 : Int32) (a3 : Int32) : Option (tm_S) :=
  if ¬ (a3 < 0 ∨ 32 ≤ a3.toNatClampNeg) then
    if (σ.1 165 a3.toNatClampNeg) = 0 then
      if ¬ (a2 < 0 ∨ 7 ≤ a2.toNatClampNeg) then
        if ¬ (a1 < 0 ∨ 7 ≤ a1.toNatClampNeg) then
          if (σ.1 139 a1.toNatClampNeg) < (σ.1 139 a2.toNatClampNeg) then
            f_Y_valued_L52 σ a1 a3 (0 : Int32)
          else
            f_Y_valued_L52 σ a1 a3 (1 : Int32)
        else none
      else none
    else
      if ¬ (a2 < 0 ∨ 7 ≤ a2.toNatClampNeg) then
        if ¬ (a1 < 0 ∨ 7 ≤ a1.toNatClampNeg) then
          if (σ.1 139 a2.toNatClampNeg) < (σ.1 139 a1.toNatClampNeg) then
            f_Y_valued_L52 σ a1 a3 (0 : Int32)
          else
            f_Y_valued_L52 σ a1 a3 (1 : Int32)
        else none
      else none
  else none
def f_Y_nearWasOn_L42 (rc : tm_S → Int32 → Int32 → Int32 → Option (Int32 × tm_S)) (σ : tm_S) (l1 : Int32) (l3 : Int32) (s0 : Int32) : Option (Int32 × tm_S) :=
  rc σ l1 s0 (l3 + (1 : Int32))
def f_Y_nearWasOn_L37 (rc : tm_S → Int32 → Int32 → Int32 → Option (Int32 × tm_S)) (σ : tm_S) (l1 : Int32) (l3 : Int32) : Option (Int32 × tm_S) :=
  f_Y_nearWasOn_L42 rc σ l1 l3 (1 : Int32)
def f_Y_nearWasOn_L41 (rc : tm_S → Int32 → Int32 → Int32 → Option (Int32 × tm_S)) (σ : tm_S) (l1 : Int32) (l3 : Int32) : Option (Int32 × tm_S) :=
  f_Y_nearWasOn_L42 rc σ l1 l3 (0 : Int32)
def f_Y_nearWasOn_L4 : Nat → tm_S → Int32 → Int32 → Int32 → Option (Int32 × tm_S)
  | 0, _, _, _, _ => none
  | k + 1, σ, l1, l2, l3 =>
    if (7 : Int32) ≤ l3 then
      if l2 = 0 ∨ l2 = 1 then
        some (l2, σ)
      else none
    else
      if l2 = 0 then
        if ¬ ((((7 : Int32) * l1) + l3) < 0 ∨ 49 ≤ (((7 : Int32) * l1) + l3).toNatClampNeg) then
          if (σ.1 131 (((7 : Int32) * l1) + l3).toNatClampNeg) ≤ 0 then
            f_Y_nearWasOn_L41 (f_Y_nearWasOn_L4 k) σ l1 l3
          else
            if ¬ (l3 < 0 ∨ 7 ≤ l3.toNatClampNeg) then
              if (σ.1 169 l3.toNatClampNeg) = 0 then
                f_Y_nearWasOn_L41 (f_Y_nearWasOn_L4 k) σ l1 l3
              else
                f_Y_nearWasOn_L37 (f_Y_nearWasOn_L4 k) σ l1 l3
            else none
        else none
      else
        f_Y_nearWasOn_L37 (f_Y_nearWasOn_L4 k) σ l1 l3
def f_Y_nearWasOn (σ : tm_S) (a1 : Int32) : Option (Int32 × tm_S) :=
  f_Y_nearWasOn_L4 tm_fu σ a1 (0 : Int32) (0 : Int32)
def f_Y_air_L148 (σ : tm_S) (s0 : Int32) (s2 : Int32) : Option (tm_S) :=
  (f_Y_draw σ s0).bind fun q27 =>
  if ¬ (s2 < 0 ∨ 7 ≤ s2.toNatClampNeg) then
    tm_w (sI q27.2 149 s2.toNatClampNeg q27.1) fun σ29 =>
    some σ29
  else none
def f_Y_air (σ : tm_S) (a1 : Int32) : Option (tm_S) :=
  if ¬ (a1 < 0 ∨ 7 ≤ a1.toNatClampNeg) then
    tm_w (sI σ 167 a1.toNatClampNeg (0 : Int32)) fun σ2 =>
    if ¬ (a1 < 0 ∨ 7 ≤ a1.toNatClampNeg) then
      if (σ2.1 152 a1.toNatClampNeg) < 0 then
        if ¬ (a1 < 0 ∨ 7 ≤ a1.toNatClampNeg) then
          if (σ2.1 153 a1.toNatClampNeg) = 0 then
            if ¬ (a1 < 0 ∨ 7 ≤ a1.toNatClampNeg) then
              if (σ2.1 148 a1.toNatClampNeg) ≤ 0 then
                some σ2
              else
                if ¬ (a1 < 0 ∨ 7 ≤ a1.toNatClampNeg) then
                  if (σ2.1 149 a1.toNatClampNeg) ≤ 0 then
                    (f_Y_nearWasOn σ2 a1).bind fun q7 =>
                    if q7.1 = 0 then
                      if ¬ (a1 < 0 ∨ 7 ≤ a1.toNatClampNeg) then
                        tm_w (sI q7.2 167 a1.toNatClampNeg (1 : Int32)) fun σ9 =>
                        tm_w (sI σ9 130 49 ((σ9.1 130 49) + (1 : Int32))) fun σ10 =>
                        some σ10
                      else none
                    else
                      if ¬ (a1 < 0 ∨ 7 ≤ a1.toNatClampNeg) then
                        if ¬ (a1 < 0 ∨ 7 ≤ a1.toNatClampNeg) then
                          tm_w (sI q7.2 150 a1.toNatClampNeg ((q7.2.1 150 a1.toNatClampNeg) + (1 : Int32))) fun σ13 =>
                          if ¬ (a1 < 0 ∨ 7 ≤ a1.toNatClampNeg) then
                            if (σ13.1 150 a1.toNatClampNeg) = (5 : Int32) then
                              (f_Y_fails σ13 a1).bind fun q16 =>
                              some q16
                            else
                              if ¬ (a1 < 0 ∨ 7 ≤ a1.toNatClampNeg) then
                                if ((4 : Int32) <<< ((σ13.1 150 a1.toNatClampNeg) &&& 31)) ≤ (32 : Int32) then
                                  f_Y_air_L148 σ13 ((4 : Int32) <<< ((σ13.1 150 a1.toNatClampNeg) &&& 31)) a1
                                else
                                  f_Y_air_L148 σ13 (32 : Int32) a1
                              else none
                          else none
                        else none
                      else none
                  else
                    if ¬ (a1 < 0 ∨ 7 ≤ a1.toNatClampNeg) then
                      if ¬ (a1 < 0 ∨ 7 ≤ a1.toNatClampNeg) then
                        tm_w (sI σ2 149 a1.toNatClampNeg ((σ2.1 149 a1.toNatClampNeg) - (1 : Int32))) fun σ19 =>
                        some σ19
                      else none
                    else none
                else none
            else none
          else
            some σ2
        else none
      else
        if ¬ (a1 < 0 ∨ 7 ≤ a1.toNatClampNeg) then
          tm_w (sI σ2 167 a1.toNatClampNeg (2 : Int32)) fun σ21 =>
          if ¬ (a1 < 0 ∨ 7 ≤ a1.toNatClampNeg) then
            if ¬ (a1 < 0 ∨ 7 ≤ a1.toNatClampNeg) then
              tm_w (sI σ21 168 a1.toNatClampNeg (σ21.1 152 a1.toNatClampNeg)) fun σ24 =>
              if ¬ (a1 < 0 ∨ 7 ≤ a1.toNatClampNeg) then
                tm_w (sI σ24 152 a1.toNatClampNeg (-1 : Int32)) fun σ26 =>
                some σ26
              else none
            else none
          else none
        else none
    else none
  else none
def f_Y_heardFrom_L45 (rc : tm_S → Int32 → Int32 → Int32 → Int32 → Option (Int32 × tm_S)) (σ : tm_S) (l1 : Int32) (l2 : Int32) (l3 : Int32) (l4 : Int32) : Option (Int32 × tm_S) :=
  rc σ l1 l2 l3 (l4 + (1 : Int32))
def f_Y_heardFrom_L69 (σ : tm_S) : Option (Int32 × tm_S) :=
  some ((-1 : Int32), σ)
def f_Y_heardFrom_L7 : Nat → tm_S → Int32 → Int32 → Int32 → Int32 → Option (Int32 × tm_S)
  | 0, _, _, _, _, _ => none
  | k + 1, σ, l1, l2, l3, l4 =>
    if (7 : Int32) ≤ l4 then
      if l3 = (1 : Int32) then
        if ¬ (l1 < 0 ∨ 7 ≤ l1.toNatClampNeg) then
          if (σ.1 167 l1.toNatClampNeg) = 0 then
            some (l2, σ)
          else
            f_Y_heardFrom_L69 σ
        else none
      else
        f_Y_heardFrom_L69 σ
    else
      if ¬ ((((7 : Int32) * l1) + l4) < 0 ∨ 49 ≤ (((7 : Int32) * l1) + l4).toNatClampNeg) then
        if (σ.1 131 (((7 : Int32) * l1) + l4).toNatClampNeg) ≤ 0 then
          f_Y_heardFrom_L45 (f_Y_heardFrom_L7 k) σ l1 l2 l3 l4
        else
          if ¬ (l4 < 0 ∨ 7 ≤ l4.toNatClampNeg) then
            if (σ.1 167 l4.toNatClampNeg) ≤ 0 then
              f_Y_heardFrom_L45 (f_Y_heardFrom_L7 k) σ l1 l2 l3 l4
            else
              f_Y_heardFrom_L45 (f_Y_heardFrom_L7 k) σ l1 l4 (l3 + (1 : Int32)) l4
          else none
      else none
def f_Y_heardFrom (σ : tm_S) (a1 : Int32) : Option (Int32 × tm_S) :=
  f_Y_heardFrom_L7 tm_fu σ a1 (-1 : Int32) (0 : Int32) (0 : Int32)
def f_Y_takes_L124 (σ : tm_S) (l1 : Int32) (l2 : Int32) (l3 : Int32) : Option (tm_S) :=
  if ¬ (l3 < 0 ∨ 32 ≤ l3.toNatClampNeg) then
    if (σ.1 157 l3.toNatClampNeg) = l1 then
      if ¬ (l1 < 0 ∨ 7 ≤ l1.toNatClampNeg) then
        tm_w (sI σ 152 l1.toNatClampNeg l2) fun σ19 =>
        if ¬ ((((7 : Int32) * l1) + l2) < 0 ∨ 49 ≤ (((7 : Int32) * l1) + l2).toNatClampNeg) then
          if ¬ (l3 < 0 ∨ 32 ≤ l3.toNatClampNeg) then
            if (σ19.1 136 (((7 : Int32) * l1) + l2).toNatClampNeg) = (σ19.1 155 l3.toNatClampNeg) then
              some σ19
            else
              if ¬ (l3 < 0 ∨ 32 ≤ l3.toNatClampNeg) then
                if ¬ ((((7 : Int32) * l1) + l2) < 0 ∨ 49 ≤ (((7 : Int32) * l1) + l2).toNatClampNeg) then
                  tm_w (sI σ19 136 (((7 : Int32) * l1) + l2).toNatClampNeg (σ19.1 155 l3.toNatClampNeg)) fun σ24 =>
                  if ¬ (l3 < 0 ∨ 32 ≤ l3.toNatClampNeg) then
                    if (σ24.1 156 l3.toNatClampNeg) = (3 : Int32) then
                      (f_Y_announced σ24 l1 l2 l3).bind fun q27 =>
                      some q27
                    else
                      (f_Y_valued σ24 l1 l2 l3).bind fun q26 =>
                      some q26
                  else none
                else none
              else none
          else none
        else none
      else none
    else
      some σ
  else none
def f_Y_takes (σ : tm_S) (a1 : Int32) (a2 : Int32) : Option (tm_S) :=
  if ¬ (a2 < 0 ∨ 7 ≤ a2.toNatClampNeg) then
    if (σ.1 167 a2.toNatClampNeg) = (2 : Int32) then
      if ¬ (a2 < 0 ∨ 7 ≤ a2.toNatClampNeg) then
        if (σ.1 168 a2.toNatClampNeg) = a1 then
          if ¬ (a1 < 0 ∨ 7 ≤ a1.toNatClampNeg) then
            if (σ.1 153 a1.toNatClampNeg) = 0 then
              some σ
            else
              if ¬ (((4 : Int32) * a1) < 0 ∨ 28 ≤ ((4 : Int32) * a1).toNatClampNeg) then
                if ¬ ((σ.1 147 ((4 : Int32) * a1).toNatClampNeg) < 0 ∨ 32 ≤ (σ.1 147 ((4 : Int32) * a1).toNatClampNeg).toNatClampNeg) then
                  if (σ.1 157 (σ.1 147 ((4 : Int32) * a1).toNatClampNeg).toNatClampNeg) = a2 then
                    if ¬ (a1 < 0 ∨ 7 ≤ a1.toNatClampNeg) then
                      tm_w (sI σ 171 a1.toNatClampNeg (1 : Int32)) fun σ13 =>
                      if ¬ (a1 < 0 ∨ 7 ≤ a1.toNatClampNeg) then
                        tm_w (sI σ13 153 a1.toNatClampNeg (0 : Int32)) fun σ15 =>
                        (f_Y_done σ15 a1).bind fun q16 =>
                        some q16
                      else none
                    else none
                  else
                    some σ
                else none
              else none
          else none
        else
          some σ
      else none
    else
      if ¬ (((4 : Int32) * a2) < 0 ∨ 28 ≤ ((4 : Int32) * a2).toNatClampNeg) then
        if ¬ ((σ.1 147 ((4 : Int32) * a2).toNatClampNeg) < 0 ∨ 32 ≤ (σ.1 147 ((4 : Int32) * a2).toNatClampNeg).toNatClampNeg) then
          if (σ.1 156 (σ.1 147 ((4 : Int32) * a2).toNatClampNeg).toNatClampNeg) = (2 : Int32) then
            (f_Y_advert σ a1 a2).bind fun q7 =>
            some q7
          else
            if ¬ ((σ.1 147 ((4 : Int32) * a2).toNatClampNeg) < 0 ∨ 32 ≤ (σ.1 147 ((4 : Int32) * a2).toNatClampNeg).toNatClampNeg) then
              if (σ.1 156 (σ.1 147 ((4 : Int32) * a2).toNatClampNeg).toNatClampNeg) = (1 : Int32) then
                if ¬ (a1 < 0 ∨ 7 ≤ a1.toNatClampNeg) then
                  if (σ.1 139 a1.toNatClampNeg) = (255 : Int32) then
                    f_Y_takes_L124 σ a1 a2 (σ.1 147 ((4 : Int32) * a2).toNatClampNeg)
                  else
                    (f_Y_reset σ a1).bind fun q6 =>
                    some q6
                else none
              else
                f_Y_takes_L124 σ a1 a2 (σ.1 147 ((4 : Int32) * a2).toNatClampNeg)
            else none
        else none
      else none
  else none
def f_Y_unheard (σ : tm_S) (a1 : Int32) : Option (tm_S) :=
  if ¬ (a1 < 0 ∨ 7 ≤ a1.toNatClampNeg) then
    tm_w (sI σ 153 a1.toNatClampNeg (0 : Int32)) fun σ2 =>
    if ¬ (a1 < 0 ∨ 7 ≤ a1.toNatClampNeg) then
      if ¬ (a1 < 0 ∨ 7 ≤ a1.toNatClampNeg) then
        tm_w (sI σ2 151 a1.toNatClampNeg ((σ2.1 151 a1.toNatClampNeg) + (1 : Int32))) fun σ5 =>
        if ¬ (a1 < 0 ∨ 7 ≤ a1.toNatClampNeg) then
          if (σ5.1 151 a1.toNatClampNeg) = (4 : Int32) then
            (f_Y_fails σ5 a1).bind fun q12 =>
            some q12
          else
            if ¬ (a1 < 0 ∨ 7 ≤ a1.toNatClampNeg) then
              tm_w (sI σ5 150 a1.toNatClampNeg (0 : Int32)) fun σ8 =>
              (f_Y_draw σ8 (4 : Int32)).bind fun q9 =>
              if ¬ (a1 < 0 ∨ 7 ≤ a1.toNatClampNeg) then
                tm_w (sI q9.2 149 a1.toNatClampNeg q9.1) fun σ11 =>
                some σ11
              else none
            else none
        else none
      else none
    else none
  else none
def f_Y_later_L53 (σ : tm_S) (l1 : Int32) : Option (tm_S) :=
  if ((σ.1 130 3) - (σ.1 130 3) / (64 : Int32) * (64 : Int32)) = 0 then
    if ¬ (l1 < 0 ∨ 7 ≤ l1.toNatClampNeg) then
      if (σ.1 140 l1.toNatClampNeg) < 0 then
        some σ
      else
        (f_Y_allGoals σ l1).bind fun q7 =>
        if ¬ (((8 : Int32) * l1) < 0 ∨ 49 ≤ ((8 : Int32) * l1).toNatClampNeg) then
          if ¬ (((8 : Int32) * l1) < 0 ∨ 49 ≤ ((8 : Int32) * l1).toNatClampNeg) then
            tm_w (sI q7.2 135 ((8 : Int32) * l1).toNatClampNeg ((q7.2.1 135 ((8 : Int32) * l1).toNatClampNeg) + (1 : Int32))) fun σ10 =>
            if ¬ (l1 < 0 ∨ 7 ≤ l1.toNatClampNeg) then
              (f_Y_announce σ10 l1 (σ10.1 140 l1.toNatClampNeg) q7.1 (0 : Int32)).bind fun q12 =>
              some q12
            else none
          else none
        else none
    else none
  else
    some σ
def f_Y_later (σ : tm_S) (a1 : Int32) : Option (tm_S) :=
  (f_Y_timer σ a1).bind fun q1 =>
  if a1 ≤ 0 then
    f_Y_later_L53 q1 a1
  else
    if ¬ (a1 < 0 ∨ 7 ≤ a1.toNatClampNeg) then
      if (q1.1 139 a1.toNatClampNeg) = (255 : Int32) then
        if ((q1.1 130 3) - (q1.1 130 3) / (16 : Int32) * (16 : Int32)) = 0 then
          (f_Y_queues q1 a1 (1 : Int32)).bind fun q3 =>
          if q3.1 = 0 then
            (f_Y_makeFrame q3.2 (1 : Int32) (-1 : Int32)).bind fun q4 =>
            (f_Y_queue q4.2 a1 q4.1).bind fun q5 =>
            f_Y_later_L53 q5 a1
          else
            f_Y_later_L53 q3.2 a1
        else
          f_Y_later_L53 q1 a1
      else
        f_Y_later_L53 q1 a1
    else none
def f_Y_slot_L72 (rc : tm_S → Int32 → Option (tm_S)) (σ : tm_S) (l1 : Int32) : Option (tm_S) :=
  rc σ (l1 + (1 : Int32))
def f_Y_slot_L115 (rc : tm_S → Int32 → Option (tm_S)) (σ : tm_S) (l1 : Int32) : Option (tm_S) :=
  rc σ (l1 + (1 : Int32))
def f_Y_slot_L104 (rc : tm_S → Int32 → Option (tm_S)) (σ : tm_S) (l1 : Int32) (s0 : Int32) : Option (tm_S) :=
  if s0 < 0 then
    f_Y_slot_L115 rc σ l1
  else
    (f_Y_takes σ l1 s0).bind fun q18 =>
    f_Y_slot_L115 rc q18 l1
def f_Y_slot_L180 (rc : tm_S → Int32 → Option (tm_S)) (σ : tm_S) (l1 : Int32) : Option (tm_S) :=
  rc σ (l1 + (1 : Int32))
def f_Y_slot_L163 (rc : tm_S → Int32 → Option (tm_S)) (σ : tm_S) (l1 : Int32) : Option (tm_S) :=
  if ¬ (l1 < 0 ∨ 7 ≤ l1.toNatClampNeg) then
    if (σ.1 167 l1.toNatClampNeg) = (1 : Int32) then
      if ¬ (l1 < 0 ∨ 7 ≤ l1.toNatClampNeg) then
        tm_w (sI σ 153 l1.toNatClampNeg (1 : Int32)) fun σ25 =>
        f_Y_slot_L180 rc σ25 l1
      else none
    else
      f_Y_slot_L180 rc σ l1
  else none
def f_Y_slot_L226 (rc : tm_S → Int32 → Option (tm_S)) (σ : tm_S) (l1 : Int32) : Option (tm_S) :=
  rc σ (l1 + (1 : Int32))
def f_Y_slot_L273 (rc : tm_S → Int32 → Option (tm_S)) (σ : tm_S) (l1 : Int32) (s0 : Int32) (s1 : Int32) : Option (tm_S) :=
  if ¬ (s1 < 0 ∨ 7 ≤ s1.toNatClampNeg) then
    if s0 = 0 ∨ s0 = 1 then
      tm_w (sI σ 169 s1.toNatClampNeg s0) fun σ30 =>
      rc σ30 (l1 + (1 : Int32))
    else none
  else none
def f_Y_slot_L254 (rc : tm_S → Int32 → Option (tm_S)) (σ : tm_S) (l1 : Int32) : Option (tm_S) :=
  if ¬ (l1 < 0 ∨ 7 ≤ l1.toNatClampNeg) then
    if (σ.1 167 l1.toNatClampNeg) ≤ 0 then
      f_Y_slot_L273 rc σ l1 (0 : Int32) l1
    else
      f_Y_slot_L273 rc σ l1 (1 : Int32) l1
  else none
def f_Y_slot_L234 : Nat → tm_S → Int32 → Option (tm_S)
  | 0, _, _ => none
  | k + 1, σ, l1 =>
    if (7 : Int32) ≤ l1 then
      some σ
    else
      if ¬ (l1 < 0 ∨ 7 ≤ l1.toNatClampNeg) then
        if (σ.1 137 l1.toNatClampNeg) = 0 then
          (f_Y_later σ l1).bind fun q27 =>
          f_Y_slot_L254 (f_Y_slot_L234 k) q27 l1
        else
          f_Y_slot_L254 (f_Y_slot_L234 k) σ l1
      else none
def f_Y_slot_L188 : Nat → tm_S → Int32 → Option (tm_S)
  | 0, _, _ => none
  | k + 1, σ, l1 =>
    if (7 : Int32) ≤ l1 then
      f_Y_slot_L234 tm_fu σ (0 : Int32)
    else
      if ¬ (l1 < 0 ∨ 7 ≤ l1.toNatClampNeg) then
        if (σ.1 137 l1.toNatClampNeg) = 0 then
          if ¬ (l1 < 0 ∨ 7 ≤ l1.toNatClampNeg) then
            if (σ.1 170 l1.toNatClampNeg) = 0 then
              f_Y_slot_L226 (f_Y_slot_L188 k) σ l1
            else
              if ¬ (l1 < 0 ∨ 7 ≤ l1.toNatClampNeg) then
                if (σ.1 171 l1.toNatClampNeg) = 0 then
                  (f_Y_unheard σ l1).bind fun q22 =>
                  f_Y_slot_L226 (f_Y_slot_L188 k) q22 l1
                else
                  f_Y_slot_L226 (f_Y_slot_L188 k) σ l1
              else none
          else none
        else
          f_Y_slot_L226 (f_Y_slot_L188 k) σ l1
      else none
def f_Y_slot_L123 : Nat → tm_S → Int32 → Option (tm_S)
  | 0, _, _ => none
  | k + 1, σ, l1 =>
    if (7 : Int32) ≤ l1 then
      f_Y_slot_L188 tm_fu σ (0 : Int32)
    else
      if ¬ (l1 < 0 ∨ 7 ≤ l1.toNatClampNeg) then
        if (σ.1 167 l1.toNatClampNeg) = (1 : Int32) then
          if ¬ (((4 : Int32) * l1) < 0 ∨ 28 ≤ ((4 : Int32) * l1).toNatClampNeg) then
            if ¬ ((σ.1 147 ((4 : Int32) * l1).toNatClampNeg) < 0 ∨ 32 ≤ (σ.1 147 ((4 : Int32) * l1).toNatClampNeg).toNatClampNeg) then
              if 0 ≤ (σ.1 157 (σ.1 147 ((4 : Int32) * l1).toNatClampNeg).toNatClampNeg) then
                f_Y_slot_L163 (f_Y_slot_L123 k) σ l1
              else
                (f_Y_done σ l1).bind fun q17 =>
                f_Y_slot_L180 (f_Y_slot_L123 k) q17 l1
            else none
          else none
        else
          f_Y_slot_L163 (f_Y_slot_L123 k) σ l1
      else none
def f_Y_slot_L80 : Nat → tm_S → Int32 → Option (tm_S)
  | 0, _, _ => none
  | k + 1, σ, l1 =>
    if (7 : Int32) ≤ l1 then
      f_Y_slot_L123 tm_fu σ (0 : Int32)
    else
      if ¬ (l1 < 0 ∨ 7 ≤ l1.toNatClampNeg) then
        if (σ.1 137 l1.toNatClampNeg) = 0 then
          (f_Y_heardFrom σ l1).bind fun q13 =>
          f_Y_slot_L104 (f_Y_slot_L80 k) q13.2 l1 q13.1
        else
          f_Y_slot_L104 (f_Y_slot_L80 k) σ l1 (-1 : Int32)
      else none
def f_Y_slot_L52 : Nat → tm_S → Int32 → Option (tm_S)
  | 0, _, _ => none
  | k + 1, σ, l1 =>
    if (7 : Int32) ≤ l1 then
      f_Y_slot_L80 tm_fu σ (0 : Int32)
    else
      if ¬ (l1 < 0 ∨ 7 ≤ l1.toNatClampNeg) then
        if (σ.1 137 l1.toNatClampNeg) = 0 then
          (f_Y_air σ l1).bind fun q11 =>
          f_Y_slot_L72 (f_Y_slot_L52 k) q11 l1
        else
          f_Y_slot_L72 (f_Y_slot_L52 k) σ l1
      else none
def f_Y_slot_L12 : Nat → tm_S → Int32 → Option (tm_S)
  | 0, _, _ => none
  | k + 1, σ, l1 =>
    if (7 : Int32) ≤ l1 then
      f_Y_slot_L52 tm_fu σ (0 : Int32)
    else
      if ¬ (l1 < 0 ∨ 7 ≤ l1.toNatClampNeg) then
        if ¬ (l1 < 0 ∨ 7 ≤ l1.toNatClampNeg) then
          if (σ.1 153 l1.toNatClampNeg) = 0 ∨ (σ.1 153 l1.toNatClampNeg) = 1 then
            tm_w (sI σ 170 l1.toNatClampNeg (σ.1 153 l1.toNatClampNeg)) fun σ4 =>
            if ¬ (l1 < 0 ∨ 7 ≤ l1.toNatClampNeg) then
              tm_w (sI σ4 171 l1.toNatClampNeg (0 : Int32)) fun σ7 =>
              if ¬ (l1 < 0 ∨ 7 ≤ l1.toNatClampNeg) then
                tm_w (sI σ7 167 l1.toNatClampNeg (0 : Int32)) fun σ9 =>
                (f_Y_slot_L12 k) σ9 (l1 + (1 : Int32))
              else none
            else none
          else none
        else none
      else none
def f_Y_slot (σ : tm_S) : Option (tm_S) :=
  tm_w (sI σ 130 3 ((σ.1 130 3) + (1 : Int32))) fun σ1 =>
  f_Y_slot_L12 tm_fu σ1 (0 : Int32)
def f_Y_isNode_L14 (σ : tm_S) : Option (Int32 × tm_S) :=
  some ((0 : Int32), σ)
def f_Y_isNode (σ : tm_S) (a0 : Int32) : Option (Int32 × tm_S) :=
  if a0 < 0 then
    f_Y_isNode_L14 σ
  else
    if (7 : Int32) ≤ a0 then
      f_Y_isNode_L14 σ
    else
      some ((1 : Int32), σ)
def f_Y_link_L29 (σ : tm_S) : Option (Int32 × tm_S) :=
  some ((0 : Int32), σ)
def f_Y_link (σ : tm_S) (a1 : Int32) (a2 : Int32) (a3 : Int32) : Option (Int32 × tm_S) :=
  (f_Y_isNode σ a1).bind fun q1 =>
  if q1.1 = 0 then
    f_Y_link_L29 q1.2
  else
    (f_Y_isNode q1.2 a2).bind fun q2 =>
    if q2.1 = 0 then
      f_Y_link_L29 q2.2
    else
      if a1 = a2 then
        f_Y_link_L29 q2.2
      else
        if a3 < 0 then
          f_Y_link_L29 q2.2
        else
          if a3 ≤ (9 : Int32) then
            if ¬ ((((7 : Int32) * a1) + a2) < 0 ∨ 49 ≤ (((7 : Int32) * a1) + a2).toNatClampNeg) then
              tm_w (sI q2.2 131 (((7 : Int32) * a1) + a2).toNatClampNeg a3) fun σ4 =>
              if ¬ ((((7 : Int32) * a2) + a1) < 0 ∨ 49 ≤ (((7 : Int32) * a2) + a1).toNatClampNeg) then
                tm_w (sI σ4 131 (((7 : Int32) * a2) + a1).toNatClampNeg a3) fun σ6 =>
                some ((1 : Int32), σ6)
              else none
            else none
          else
            f_Y_link_L29 q2.2
def f_Y_kill_L20 (σ : tm_S) : Option (Int32 × tm_S) :=
  some ((0 : Int32), σ)
def f_Y_kill_L31 : Nat → tm_S → Int32 → Int32 → Option (Int32 × tm_S)
  | 0, _, _, _ => none
  | k + 1, σ, l1, l2 =>
    if ¬ (l1 < 0 ∨ 7 ≤ l1.toNatClampNeg) then
      if (σ.1 148 l1.toNatClampNeg) ≤ l2 then
        if ¬ (l1 < 0 ∨ 7 ≤ l1.toNatClampNeg) then
          tm_w (sI σ 148 l1.toNatClampNeg (0 : Int32)) fun σ7 =>
          if ¬ (l1 < 0 ∨ 7 ≤ l1.toNatClampNeg) then
            tm_w (sI σ7 152 l1.toNatClampNeg (-1 : Int32)) fun σ9 =>
            if ¬ (l1 < 0 ∨ 7 ≤ l1.toNatClampNeg) then
              tm_w (sI σ9 153 l1.toNatClampNeg (0 : Int32)) fun σ11 =>
              some ((1 : Int32), σ11)
            else none
          else none
        else none
      else
        if ¬ ((((4 : Int32) * l1) + l2) < 0 ∨ 28 ≤ (((4 : Int32) * l1) + l2).toNatClampNeg) then
          if ¬ ((σ.1 147 (((4 : Int32) * l1) + l2).toNatClampNeg) < 0 ∨ 32 ≤ (σ.1 147 (((4 : Int32) * l1) + l2).toNatClampNeg).toNatClampNeg) then
            tm_w (sI σ 154 (σ.1 147 (((4 : Int32) * l1) + l2).toNatClampNeg).toNatClampNeg (0 : Int32)) fun σ14 =>
            (f_Y_kill_L31 k) σ14 l1 (l2 + (1 : Int32))
          else none
        else none
    else none
def f_Y_kill (σ : tm_S) (a1 : Int32) : Option (Int32 × tm_S) :=
  (f_Y_isNode σ a1).bind fun q1 =>
  if q1.1 = 0 then
    f_Y_kill_L20 q1.2
  else
    if a1 = 0 then
      f_Y_kill_L20 q1.2
    else
      if ¬ (a1 < 0 ∨ 7 ≤ a1.toNatClampNeg) then
        if (q1.2.1 137 a1.toNatClampNeg) = 0 then
          if ¬ (a1 < 0 ∨ 7 ≤ a1.toNatClampNeg) then
            tm_w (sI q1.2 137 a1.toNatClampNeg (1 : Int32)) fun σ4 =>
            f_Y_kill_L31 tm_fu σ4 a1 (0 : Int32)
          else none
        else
          f_Y_kill_L20 q1.2
      else none
def f_Y_repair (σ : tm_S) : Option (Int32 × tm_S) :=
  tm_w (sI σ 138 (0 : Int32).toNatClampNeg ((σ.1 138 (0 : Int32).toNatClampNeg) + (1 : Int32))) fun σ1 =>
  (f_Y_reset σ1 (0 : Int32)).bind fun q2 =>
  some ((q2.1 138 (0 : Int32).toNatClampNeg), q2)
def f_Y_send_L52 (σ : tm_S) : Option (Int32 × tm_S) :=
  some ((-1 : Int32), σ)
def f_Y_send (σ : tm_S) (a1 : Int32) (a2 : Int32) (a3 : Int32) (a4 : Int32) : Option (Int32 × tm_S) :=
  (f_Y_isNode σ a1).bind fun q1 =>
  if q1.1 = 0 then
    f_Y_send_L52 q1.2
  else
    (f_Y_isNode q1.2 a2).bind fun q2 =>
    if q2.1 = 0 then
      f_Y_send_L52 q2.2
    else
      if a1 = a2 then
        f_Y_send_L52 q2.2
      else
        if a3 < (1 : Int32) then
          f_Y_send_L52 q2.2
        else
          if (15 : Int32) < a3 then
            f_Y_send_L52 q2.2
          else
            if a4 < 0 then
              f_Y_send_L52 q2.2
            else
              if (999 : Int32) < a4 then
                f_Y_send_L52 q2.2
              else
                if ¬ (a1 < 0 ∨ 7 ≤ a1.toNatClampNeg) then
                  if (q2.2.1 137 a1.toNatClampNeg) = 0 then
                    tm_w (sI q2.2 130 46 ((q2.2.1 130 46) + (1 : Int32))) fun σ4 =>
                    (f_Y_sendOn σ4 a1 a1 a2 a3 a4 (0 : Int32)).bind fun q5 =>
                    some ((q5.1 130 46), q5)
                  else
                    f_Y_send_L52 q2.2
                else none
def f_Y_tick_L10 (σ : tm_S) : Option (Int32 × tm_S) :=
  some ((-1 : Int32), σ)
def f_Y_tick_L14 : Nat → tm_S → Int32 → Int32 → Option (Int32 × tm_S)
  | 0, _, _, _ => none
  | k + 1, σ, l1, l2 =>
    if l1 ≤ l2 then
      some ((σ.1 130 3), σ)
    else
      (f_Y_slot σ ).bind fun q1 =>
      (f_Y_tick_L14 k) q1 l1 (l2 + (1 : Int32))
def f_Y_tick (σ : tm_S) (a1 : Int32) : Option (Int32 × tm_S) :=
  if a1 < 0 then
    f_Y_tick_L10 σ
  else
    if a1 ≤ (100 : Int32) then
      f_Y_tick_L14 tm_fu σ a1 (0 : Int32)
    else
      f_Y_tick_L10 σ
def f_Y_node_L17 (σ : tm_S) : Option (Int32 × tm_S) :=
  some ((-1 : Int32), σ)
def f_Y_node_L33 (σ : tm_S) (l1 : Int32) (l2 : Int32) (s0 : Int32) : Option (Int32 × tm_S) :=
  if l2 = (0 : Int32) then
    if ¬ (l1 < 0 ∨ 7 ≤ l1.toNatClampNeg) then
      some ((σ.1 139 l1.toNatClampNeg), σ)
    else none
  else
  if l2 = (1 : Int32) then
    if ¬ (l1 < 0 ∨ 7 ≤ l1.toNatClampNeg) then
      some (((σ.1 140 l1.toNatClampNeg) + (1 : Int32)), σ)
    else none
  else
  if l2 = (2 : Int32) then
    if ¬ (l1 < 0 ∨ 7 ≤ l1.toNatClampNeg) then
      some ((σ.1 138 l1.toNatClampNeg), σ)
    else none
  else
  if l2 = (3 : Int32) then
    if ¬ (l1 < 0 ∨ 7 ≤ l1.toNatClampNeg) then
      some ((σ.1 143 l1.toNatClampNeg), σ)
    else none
  else
  if l2 = (4 : Int32) then
    if ¬ (l1 < 0 ∨ 7 ≤ l1.toNatClampNeg) then
      some ((σ.1 144 l1.toNatClampNeg), σ)
    else none
  else
  if l2 = (5 : Int32) then
    if ¬ (l1 < 0 ∨ 7 ≤ l1.toNatClampNeg) then
      some ((σ.1 146 l1.toNatClampNeg), σ)
    else none
  else
  if l2 = (6 : Int32) then
    if ¬ (l1 < 0 ∨ 7 ≤ l1.toNatClampNeg) then
      some ((σ.1 148 l1.toNatClampNeg), σ)
    else none
  else
  if l2 = (7 : Int32) then
    if s0 = 0 then
      some ((0 : Int32), σ)
    else
      if ¬ (l1 < 0 ∨ 7 ≤ l1.toNatClampNeg) then
        some ((σ.1 149 l1.toNatClampNeg), σ)
      else none
  else
  if l2 = (8 : Int32) then
    if s0 = 0 then
      some ((0 : Int32), σ)
    else
      if ¬ (l1 < 0 ∨ 7 ≤ l1.toNatClampNeg) then
        some ((σ.1 150 l1.toNatClampNeg), σ)
      else none
  else
  if l2 = (9 : Int32) then
    if s0 = 0 then
      some ((0 : Int32), σ)
    else
      if ¬ (l1 < 0 ∨ 7 ≤ l1.toNatClampNeg) then
        some ((σ.1 151 l1.toNatClampNeg), σ)
      else none
  else
  if l2 = (10 : Int32) then
    if ¬ (l1 < 0 ∨ 7 ≤ l1.toNatClampNeg) then
      some ((σ.1 141 l1.toNatClampNeg), σ)
    else none
  else
  if l2 = (11 : Int32) then
    if ¬ (l1 < 0 ∨ 7 ≤ l1.toNatClampNeg) then
      if (σ.1 137 l1.toNatClampNeg) = 0 then
        if ¬ (l1 < 0 ∨ 7 ≤ l1.toNatClampNeg) then
          if (σ.1 153 l1.toNatClampNeg) = 0 then
            if ¬ (l1 < 0 ∨ 7 ≤ l1.toNatClampNeg) then
              if (σ.1 152 l1.toNatClampNeg) < 0 then
                some ((0 : Int32), σ)
              else
                some ((3 : Int32), σ)
            else none
          else
            some ((2 : Int32), σ)
        else none
      else
        some ((1 : Int32), σ)
    else none
  else
    if ¬ (((8 : Int32) * l1) < 0 ∨ 49 ≤ ((8 : Int32) * l1).toNatClampNeg) then
      some ((σ.1 135 ((8 : Int32) * l1).toNatClampNeg), σ)
    else none
def f_Y_node (σ : tm_S) (a1 : Int32) (a2 : Int32) : Option (Int32 × tm_S) :=
  (f_Y_isNode σ a1).bind fun q1 =>
  if q1.1 = 0 then
    f_Y_node_L17 q1.2
  else
    if a2 < 0 then
      f_Y_node_L17 q1.2
    else
      if a2 ≤ (12 : Int32) then
        if ¬ (a1 < 0 ∨ 7 ≤ a1.toNatClampNeg) then
          if (q1.2.1 148 a1.toNatClampNeg) ≤ 0 then
            f_Y_node_L33 q1.2 a1 a2 (0 : Int32)
          else
            f_Y_node_L33 q1.2 a1 a2 (1 : Int32)
        else none
      else
        f_Y_node_L17 q1.2
def f_Y_next_L19 (σ : tm_S) : Option (Int32 × tm_S) :=
  some ((0 : Int32), σ)
def f_Y_next (σ : tm_S) (a1 : Int32) (a2 : Int32) : Option (Int32 × tm_S) :=
  (f_Y_isNode σ a1).bind fun q1 =>
  if q1.1 = 0 then
    f_Y_next_L19 q1.2
  else
    (f_Y_isNode q1.2 a2).bind fun q2 =>
    if q2.1 = 0 then
      f_Y_next_L19 q2.2
    else
      if a1 = a2 then
        f_Y_next_L19 q2.2
      else
        if ¬ ((((7 : Int32) * a1) + a2) < 0 ∨ 49 ≤ (((7 : Int32) * a1) + a2).toNatClampNeg) then
          some (((q2.2.1 134 (((7 : Int32) * a1) + a2).toNatClampNeg) + (1 : Int32)), q2.2)
        else none
def f_Y_known_L33 (σ : tm_S) : Option (Int32 × tm_S) :=
  some ((0 : Int32), σ)
def f_Y_known (σ : tm_S) (a1 : Int32) (a2 : Int32) : Option (Int32 × tm_S) :=
  (f_Y_isNode σ a1).bind fun q1 =>
  if q1.1 = 0 then
    f_Y_known_L33 q1.2
  else
    (f_Y_isNode q1.2 a2).bind fun q2 =>
    if q2.1 = 0 then
      f_Y_known_L33 q2.2
    else
      if a1 = a2 then
        f_Y_known_L33 q2.2
      else
        if ¬ ((((7 : Int32) * a1) + a2) < 0 ∨ 49 ≤ (((7 : Int32) * a1) + a2).toNatClampNeg) then
          if (q2.2.1 133 (((7 : Int32) * a1) + a2).toNatClampNeg) = 0 then
            f_Y_known_L33 q2.2
          else
            if ¬ ((((7 : Int32) * a1) + a2) < 0 ∨ 49 ≤ (((7 : Int32) * a1) + a2).toNatClampNeg) then
              some ((q2.2.1 132 (((7 : Int32) * a1) + a2).toNatClampNeg), q2.2)
            else none
        else none
def f_Y_delivered_L18 (σ : tm_S) : Option (Int32 × tm_S) :=
  some ((0 : Int32), σ)
def f_Y_delivered (σ : tm_S) (a1 : Int32) (a2 : Int32) : Option (Int32 × tm_S) :=
  (f_Y_isNode σ a1).bind fun q1 =>
  if q1.1 = 0 then
    f_Y_delivered_L18 q1.2
  else
    if a2 < (-1 : Int32) then
      f_Y_delivered_L18 q1.2
    else
      if a2 ≤ (7 : Int32) then
        if a2 = (-1 : Int32) then
          if ¬ (a1 < 0 ∨ 7 ≤ a1.toNatClampNeg) then
            some ((q1.2.1 172 a1.toNatClampNeg), q1.2)
          else none
        else
          if ¬ (a1 < 0 ∨ 7 ≤ a1.toNatClampNeg) then
            if (q1.2.1 172 a1.toNatClampNeg) ≤ a2 then
              some ((0 : Int32), q1.2)
            else
              if ¬ ((((8 : Int32) * a1) + a2) < 0 ∨ 56 ≤ (((8 : Int32) * a1) + a2).toNatClampNeg) then
                some ((q1.2.1 173 (((8 : Int32) * a1) + a2).toNatClampNeg), q1.2)
              else none
          else none
      else
        f_Y_delivered_L18 q1.2
def f_Y_count (σ : tm_S) (a1 : Int32) : Option (Int32 × tm_S) :=
  if a1 = 0 then
    some ((σ.1 130 47), σ)
  else
    if a1 = (1 : Int32) then
      some ((σ.1 130 48), σ)
    else
      if a1 = (2 : Int32) then
        some ((σ.1 130 49), σ)
      else
        some ((0 : Int32), σ)
