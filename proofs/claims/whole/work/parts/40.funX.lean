def f_X_isNode_L14 (σ : tm_S) : Option (Int32 × tm_S) :=
  some ((0 : Int32), σ)
def f_X_isNode (σ : tm_S) (a0 : Int32) : Option (Int32 × tm_S) :=
  if a0 < 0 then
    f_X_isNode_L14 σ
  else
    if (7 : Int32) ≤ a0 then
      f_X_isNode_L14 σ
    else
      some ((1 : Int32), σ)
def f_X_link_L29 (σ : tm_S) : Option (Int32 × tm_S) :=
  some ((0 : Int32), σ)
def f_X_link (σ : tm_S) (a1 : Int32) (a2 : Int32) (a3 : Int32) : Option (Int32 × tm_S) :=
  (f_X_isNode σ a1).bind fun q1 =>
  if q1.1 = 0 then
    f_X_link_L29 q1.2
  else
    (f_X_isNode q1.2 a2).bind fun q2 =>
    if q2.1 = 0 then
      f_X_link_L29 q2.2
    else
      if a1 = a2 then
        f_X_link_L29 q2.2
      else
        if a3 < 0 then
          f_X_link_L29 q2.2
        else
          if a3 ≤ (9 : Int32) then
            if ¬ (a1 < 0 ∨ 7 ≤ a1.toNatClampNeg) then
              if ¬ (a2 < 0 ∨ 7 ≤ a2.toNatClampNeg) then
                tm_w (sI q2.2 (4 + a1.toNatClampNeg) a2.toNatClampNeg a3) fun σ5 =>
                if ¬ (a2 < 0 ∨ 7 ≤ a2.toNatClampNeg) then
                  if ¬ (a1 < 0 ∨ 7 ≤ a1.toNatClampNeg) then
                    tm_w (sI σ5 (4 + a2.toNatClampNeg) a1.toNatClampNeg a3) fun σ8 =>
                    some ((1 : Int32), σ8)
                  else none
                else none
              else none
            else none
          else
            f_X_link_L29 q2.2
def f_X_kill_L23 (σ : tm_S) : Option (Int32 × tm_S) :=
  some ((0 : Int32), σ)
def f_X_kill (σ : tm_S) (a1 : Int32) : Option (Int32 × tm_S) :=
  (f_X_isNode σ a1).bind fun q1 =>
  if q1.1 = 0 then
    f_X_kill_L23 q1.2
  else
    if a1 = 0 then
      f_X_kill_L23 q1.2
    else
      if ¬ (a1 < 0 ∨ 7 ≤ a1.toNatClampNeg) then
        if (q1.2.1 (11 + 17 * a1.toNatClampNeg) 9) = 0 then
          f_X_kill_L23 q1.2
        else
          if ¬ (a1 < 0 ∨ 7 ≤ a1.toNatClampNeg) then
            tm_w (sI q1.2 (11 + 17 * a1.toNatClampNeg) 9 (0 : Int32)) fun σ4 =>
            if ¬ (a1 < 0 ∨ 7 ≤ a1.toNatClampNeg) then
              tm_w (sI σ4 ((11 + 17 * a1.toNatClampNeg) + 1) 1 (0 : Int32)) fun σ6 =>
              tm_w (sI σ6 ((11 + 17 * a1.toNatClampNeg) + 1) 8 (-1 : Int32)) fun σ7 =>
              tm_w (sI σ7 ((11 + 17 * a1.toNatClampNeg) + 1) 9 (0 : Int32)) fun σ8 =>
              some ((1 : Int32), σ8)
            else none
          else none
      else none
def f_X_draw (σ : tm_S) (a1 : Int32) : Option (Int32 × tm_S) :=
  tm_w (sI σ 1 4 (((σ.1 1 4) * (1103515245 : Int32)) + (12345 : Int32))) fun σ1 =>
  if a1 ≤ 0 then
    some ((0 : Int32), σ1)
  else
    if ¬ a1 = 0 then
      some ((((σ1.1 1 4).toUInt32 >>> ((16 : Int32).toUInt32 &&& Int32.toUInt32 31)).toInt32 - ((σ1.1 1 4).toUInt32 >>> ((16 : Int32).toUInt32 &&& Int32.toUInt32 31)).toInt32 / a1 * a1), σ1)
    else none
def f_X_beginInterval (σ : tm_S) (a1 : Nat) (a2 : Int32) : Option (tm_S) :=
  tm_w (sI σ a1 1 a2) fun σ1 =>
  tm_w (sI σ1 a1 2 (0 : Int32)) fun σ2 =>
  tm_w (sI σ2 a1 4 (0 : Int32)) fun σ3 =>
  (f_X_draw σ3 (a2 / (2 : Int32))).bind fun q4 =>
  tm_w (sI q4.2 a1 3 ((a2 / (2 : Int32)) + q4.1)) fun σ5 =>
  some σ5
def f_X_resetTimer (σ : tm_S) (a1 : Nat) : Option (tm_S) :=
  if (σ.1 (a1 + 11) 0) = 0 then
    some σ
  else
    if (σ.1 (a1 + 11) 1) = (4 : Int32) then
      some σ
    else
      (f_X_beginInterval σ (a1 + 11) (4 : Int32)).bind fun q1 =>
      some q1
def f_X_repair (σ : tm_S) : Option (Int32 × tm_S) :=
  tm_w (sI σ (11 + 17 * (0 : Int32).toNatClampNeg) 10 ((σ.1 (11 + 17 * (0 : Int32).toNatClampNeg) 10) + (1 : Int32))) fun σ1 =>
  (f_X_resetTimer σ1 (11 + 17 * (0 : Int32).toNatClampNeg)).bind fun q2 =>
  some ((q2.1 (11 + 17 * (0 : Int32).toNatClampNeg) 10), q2)
def f_R_beginFirst (σ : tm_S) (a0 : Nat) (a1 : Int32) : Option (tm_S) :=
  tm_w (sI σ a0 3 (0 : Int32)) fun σ1 =>
  tm_w (sI σ1 a0 4 (0 : Int32)) fun σ2 =>
  tm_w (sI σ2 a0 2 a1) fun σ3 =>
  some σ3
def f_X_enqueue_L91 (σ : tm_S) (l5 : Nat) : Option (Option Nat × tm_S) :=
  some (some l5, σ)
def f_X_enqueue (σ : tm_S) (a1 : Nat) (a2 : Int32) (a3 : Int32) : Option (Option Nat × tm_S) :=
  if (σ.1 (a1 + 1) 1) < (4 : Int32) then
    if ¬ ((σ.1 (a1 + 1) 1) < 0 ∨ 4 ≤ (σ.1 (a1 + 1) 1).toNatClampNeg) then
      tm_w (σ.2 ((a1 + 1) + 1) (σ.1 (a1 + 1) 1).toNatClampNeg) fun r3 =>
      if kd r3 = 8 then
        tm_w (sI σ (a1 + 1) 1 ((σ.1 (a1 + 1) 1) + (1 : Int32))) fun σ4 =>
        tm_w (sI σ4 1 6 ((σ4.1 1 6) + (1 : Int32))) fun σ5 =>
        tm_w (sI σ5 r3 0 (σ5.1 1 6)) fun σ6 =>
        tm_w (sI σ6 r3 1 a2) fun σ7 =>
        tm_w (sI σ7 r3 2 a3) fun σ8 =>
        if (σ8.1 (a1 + 1) 1) = (1 : Int32) then
          (f_X_draw σ8 (4 : Int32)).bind fun q9 =>
          (f_R_beginFirst q9.2 (a1 + 1) q9.1).bind fun q10 =>
          f_X_enqueue_L91 q10 r3
        else
          f_X_enqueue_L91 σ8 r3
      else none
    else none
  else
    some (none, σ)
def f_X_sendOn_L55 (σ : tm_S) (l2 : Int32) (l3 : Int32) (l4 : Int32) (l5 : Int32) (l6 : Int32) (l7 : Int32) (s0 : Option Nat) : Option (tm_S) :=
  match s0 with
  | none =>
    tm_w (sI σ 1 8 ((σ.1 1 8) + (1 : Int32))) fun σ5 =>
    some σ5
  | some o4 =>
    if kd o4 = 8 then
      tm_w (sI σ o4 6 l2) fun σ6 =>
      tm_w (sI σ6 o4 7 l3) fun σ7 =>
      tm_w (sI σ7 o4 8 l4) fun σ8 =>
      tm_w (sI σ8 o4 9 l5) fun σ9 =>
      if l7 = 0 ∨ l7 = 1 then
        tm_w (sI σ9 o4 10 l7) fun σ10 =>
        if l6 = 0 ∨ l6 = 1 then
          tm_w (sI σ10 o4 11 l6) fun σ11 =>
          some σ11
        else none
      else none
    else none
def f_X_sendOn_L35 (σ : tm_S) (l1 : Nat) (l2 : Int32) (l3 : Int32) (l4 : Int32) (l5 : Int32) (l6 : Int32) (l7 : Int32) (s0 : Int32) : Option (tm_S) :=
  if s0 = (-1 : Int32) then
    f_X_sendOn_L55 σ l2 l3 l4 l5 l6 l7 none
  else
    (f_X_enqueue σ l1 (4 : Int32) s0).bind fun q3 =>
    f_X_sendOn_L55 q3.2 l2 l3 l4 l5 l6 l7 q3.1
def f_X_sendOn_L15 (σ : tm_S) (l1 : Nat) (l2 : Int32) (l3 : Int32) (l4 : Int32) (l5 : Int32) (l6 : Int32) (s0 : Int32) : Option (tm_S) :=
  if s0 = 0 then
    f_X_sendOn_L35 σ l1 l2 l3 l4 l5 l6 s0 (σ.1 l1 12)
  else
    if ¬ (l3 < 0 ∨ 7 ≤ l3.toNatClampNeg) then
      f_X_sendOn_L35 σ l1 l2 l3 l4 l5 l6 s0 (σ.1 (l1 + 13) l3.toNatClampNeg)
    else none
def f_X_sendOn (σ : tm_S) (a1 : Nat) (a2 : Int32) (a3 : Int32) (a4 : Int32) (a5 : Int32) (a6 : Int32) : Option (tm_S) :=
  if ¬ (a3 < 0 ∨ 7 ≤ a3.toNatClampNeg) then
    if (σ.1 (a1 + 13) a3.toNatClampNeg) = (-1 : Int32) then
      f_X_sendOn_L15 σ a1 a2 a3 a4 a5 a6 (0 : Int32)
    else
      f_X_sendOn_L15 σ a1 a2 a3 a4 a5 a6 (1 : Int32)
  else none
def f_X_send_L31 (σ : tm_S) : Option (Int32 × tm_S) :=
  some ((-1 : Int32), σ)
def f_X_send_L57 (σ : tm_S) : Option (Int32 × tm_S) :=
  some ((-1 : Int32), σ)
def f_X_send (σ : tm_S) (a1 : Int32) (a2 : Int32) (a3 : Int32) (a4 : Int32) : Option (Int32 × tm_S) :=
  (f_X_isNode σ a1).bind fun q1 =>
  if q1.1 = 0 then
    f_X_send_L31 q1.2
  else
    (f_X_isNode q1.2 a2).bind fun q2 =>
    if q2.1 = 0 then
      f_X_send_L31 q2.2
    else
      if a1 = a2 then
        f_X_send_L31 q2.2
      else
        if ¬ (a1 < 0 ∨ 7 ≤ a1.toNatClampNeg) then
          if (q2.2.1 (11 + 17 * a1.toNatClampNeg) 9) = 0 then
            f_X_send_L31 q2.2
          else
            if a3 < (1 : Int32) then
              f_X_send_L57 q2.2
            else
              if (15 : Int32) < a3 then
                f_X_send_L57 q2.2
              else
                if a4 < 0 then
                  f_X_send_L57 q2.2
                else
                  if a4 ≤ (999 : Int32) then
                    tm_w (sI q2.2 1 7 ((q2.2.1 1 7) + (1 : Int32))) fun σ4 =>
                    if ¬ (a1 < 0 ∨ 7 ≤ a1.toNatClampNeg) then
                      (f_X_sendOn σ4 (11 + 17 * a1.toNatClampNeg) a1 a2 a3 a4 (0 : Int32)).bind fun q6 =>
                      some ((q6.1 1 7), q6)
                    else none
                  else
                    f_X_send_L57 q2.2
        else none
def f_X_rememberTheAir_L31 (rc : tm_S → Int32 → Option (tm_S)) (σ : tm_S) (l1 : Int32) (l2 : Nat) (s0 : Int32) (s1 : Nat) : Option (tm_S) :=
  if s0 = 0 ∨ s0 = 1 then
    tm_w (sI σ s1 6 s0) fun σ2 =>
    tm_w (sI σ2 l2 5 (0 : Int32)) fun σ3 =>
    rc σ3 (l1 + (1 : Int32))
  else none
def f_X_rememberTheAir_L2 : Nat → tm_S → Int32 → Option (tm_S)
  | 0, _, _ => none
  | k + 1, σ, l1 =>
    if (7 : Int32) ≤ l1 then
      some σ
    else
      if ¬ (l1 < 0 ∨ 7 ≤ l1.toNatClampNeg) then
        if (σ.1 ((11 + 17 * l1.toNatClampNeg) + 1) 5) = 0 then
          f_X_rememberTheAir_L31 (f_X_rememberTheAir_L2 k) σ l1 ((11 + 17 * l1.toNatClampNeg) + 1) (0 : Int32) ((11 + 17 * l1.toNatClampNeg) + 1)
        else
          f_X_rememberTheAir_L31 (f_X_rememberTheAir_L2 k) σ l1 ((11 + 17 * l1.toNatClampNeg) + 1) (1 : Int32) ((11 + 17 * l1.toNatClampNeg) + 1)
      else none
def f_X_rememberTheAir (σ : tm_S) : Option (tm_S) :=
  f_X_rememberTheAir_L2 tm_fu σ (0 : Int32)
def f_X_seemsBusy_L39 (rc : tm_S → Nat → Int32 → Option (Int32 × tm_S)) (σ : tm_S) (l1 : Nat) (l2 : Int32) : Option (Int32 × tm_S) :=
  rc σ l1 (l2 + (1 : Int32))
def f_X_seemsBusy_L2 : Nat → tm_S → Nat → Int32 → Option (Int32 × tm_S)
  | 0, _, _, _ => none
  | k + 1, σ, l1, l2 =>
    if (7 : Int32) ≤ l2 then
      some ((0 : Int32), σ)
    else
      if ¬ ((σ.1 l1 0) < 0 ∨ 7 ≤ (σ.1 l1 0).toNatClampNeg) then
        if ¬ (l2 < 0 ∨ 7 ≤ l2.toNatClampNeg) then
          if (σ.1 (4 + (σ.1 l1 0).toNatClampNeg) l2.toNatClampNeg) ≤ 0 then
            f_X_seemsBusy_L39 (f_X_seemsBusy_L2 k) σ l1 l2
          else
            if ¬ (l2 < 0 ∨ 7 ≤ l2.toNatClampNeg) then
              if (σ.1 ((11 + 17 * l2.toNatClampNeg) + 1) 6) = 0 then
                f_X_seemsBusy_L39 (f_X_seemsBusy_L2 k) σ l1 l2
              else
                some ((1 : Int32), σ)
            else none
        else none
      else none
def f_X_seemsBusy (σ : tm_S) (a1 : Nat) : Option (Int32 × tm_S) :=
  f_X_seemsBusy_L2 tm_fu σ a1 (0 : Int32)
def f_X_removeFirst_L9 : Nat → tm_S → Nat → Nat → Int32 → Option (tm_S)
  | 0, _, _, _, _ => none
  | k + 1, σ, l1, l2, l3 =>
    if (4 : Int32) ≤ l3 then
      tm_w (sP σ (l1 + 1) (3 : Int32).toNatClampNeg l2) fun σ3 =>
      tm_w (sI σ3 l1 1 ((σ3.1 l1 1) - (1 : Int32))) fun σ4 =>
      if (σ4.1 l1 1) ≤ 0 then
        some σ4
      else
        (f_X_draw σ4 (4 : Int32)).bind fun q5 =>
        (f_R_beginFirst q5.2 l1 q5.1).bind fun q6 =>
        some q6
    else
      if ¬ (l3 < 0 ∨ 4 ≤ l3.toNatClampNeg) then
        tm_w (σ.2 (l1 + 1) l3.toNatClampNeg) fun r9 =>
        if kd r9 = 8 then
          if ¬ ((l3 - (1 : Int32)) < 0 ∨ 4 ≤ (l3 - (1 : Int32)).toNatClampNeg) then
            tm_w (sP σ (l1 + 1) (l3 - (1 : Int32)).toNatClampNeg r9) fun σ11 =>
            (f_X_removeFirst_L9 k) σ11 l1 l2 (l3 + (1 : Int32))
          else none
        else none
      else none
def f_X_removeFirst (σ : tm_S) (a1 : Nat) : Option (tm_S) :=
  tm_w (σ.2 (a1 + 1) (0 : Int32).toNatClampNeg) fun r2 =>
  if kd r2 = 8 then
    f_X_removeFirst_L9 tm_fu σ a1 r2 (1 : Int32)
  else none
def f_X_rankBelow (σ : tm_S) (a1 : Nat) (a2 : Int32) : Option (Int32 × tm_S) :=
  if ¬ (a2 < 0 ∨ 7 ≤ a2.toNatClampNeg) then
    if ¬ ((σ.1 a1 0) < 0 ∨ 7 ≤ (σ.1 a1 0).toNatClampNeg) then
      if ¬ (a2 < 0 ∨ 7 ≤ a2.toNatClampNeg) then
        some (((σ.1 (a1 + 12) a2.toNatClampNeg) + (σ.1 (4 + (σ.1 a1 0).toNatClampNeg) a2.toNatClampNeg)), σ)
      else none
    else none
  else none
def f_X_isBetter_L33 (σ : tm_S) : Option (Int32 × tm_S) :=
  some ((1 : Int32), σ)
def f_X_isBetter_L37 (σ : tm_S) : Option (Int32 × tm_S) :=
  some ((0 : Int32), σ)
def f_X_isBetter (σ : tm_S) (a1 : Nat) (a2 : Int32) (a3 : Int32) : Option (Int32 × tm_S) :=
  (f_X_rankBelow σ a1 a2).bind fun q1 =>
  (f_X_rankBelow q1.2 a1 a3).bind fun q2 =>
  if (q1.1 - q2.1) < 0 then
    f_X_isBetter_L33 q2.2
  else
    if (q1.1 - q2.1) = 0 then
      if a2 = (q2.2.1 a1 12) then
        f_X_isBetter_L33 q2.2
      else
        f_X_isBetter_L37 q2.2
    else
      f_X_isBetter_L37 q2.2
def f_X_bestParent_L74 (rc : tm_S → Nat → Int32 → Int32 → Option (Int32 × tm_S)) (σ : tm_S) (l1 : Nat) (l2 : Int32) (l3 : Int32) : Option (Int32 × tm_S) :=
  rc σ l1 l2 (l3 + (1 : Int32))
def f_X_bestParent_L72 (rc : tm_S → Nat → Int32 → Int32 → Option (Int32 × tm_S)) (σ : tm_S) (l1 : Nat) (l3 : Int32) : Option (Int32 × tm_S) :=
  f_X_bestParent_L74 rc σ l1 l3 l3
def f_X_bestParent_L50 (rc : tm_S → Nat → Int32 → Int32 → Option (Int32 × tm_S)) (σ : tm_S) (l1 : Nat) (l2 : Int32) (l3 : Int32) (s0 : Int32) : Option (Int32 × tm_S) :=
  if s0 = 0 then
    f_X_bestParent_L74 rc σ l1 l2 l3
  else
    if l2 = (-1 : Int32) then
      f_X_bestParent_L72 rc σ l1 l3
    else
      (f_X_isBetter σ l1 l3 l2).bind fun q5 =>
      if q5.1 = 0 then
        f_X_bestParent_L74 rc q5.2 l1 l2 l3
      else
        f_X_bestParent_L72 rc q5.2 l1 l3
def f_X_bestParent_L49 (rc : tm_S → Nat → Int32 → Int32 → Option (Int32 × tm_S)) (σ : tm_S) (l1 : Nat) (l2 : Int32) (l3 : Int32) : Option (Int32 × tm_S) :=
  f_X_bestParent_L50 rc σ l1 l2 l3 (0 : Int32)
def f_X_bestParent_L4 : Nat → tm_S → Nat → Int32 → Int32 → Option (Int32 × tm_S)
  | 0, _, _, _, _ => none
  | k + 1, σ, l1, l2, l3 =>
    if (7 : Int32) ≤ l3 then
      some (l2, σ)
    else
      if ¬ ((σ.1 l1 0) < 0 ∨ 7 ≤ (σ.1 l1 0).toNatClampNeg) then
        if ¬ (l3 < 0 ∨ 7 ≤ l3.toNatClampNeg) then
          if (σ.1 (4 + (σ.1 l1 0).toNatClampNeg) l3.toNatClampNeg) ≤ 0 then
            f_X_bestParent_L49 (f_X_bestParent_L4 k) σ l1 l2 l3
          else
            if ¬ (l3 < 0 ∨ 7 ≤ l3.toNatClampNeg) then
              if (σ.1 (l1 + 12) l3.toNatClampNeg) = 0 then
                f_X_bestParent_L49 (f_X_bestParent_L4 k) σ l1 l2 l3
              else
                if ¬ (l3 < 0 ∨ 7 ≤ l3.toNatClampNeg) then
                  if (σ.1 (l1 + 12) l3.toNatClampNeg) = (255 : Int32) then
                    f_X_bestParent_L49 (f_X_bestParent_L4 k) σ l1 l2 l3
                  else
                    f_X_bestParent_L50 (f_X_bestParent_L4 k) σ l1 l2 l3 (1 : Int32)
                else none
            else none
        else none
      else none
def f_X_bestParent (σ : tm_S) (a1 : Nat) : Option (Int32 × tm_S) :=
  f_X_bestParent_L4 tm_fu σ a1 (-1 : Int32) (0 : Int32)
def f_X_ownGoals_L31 (rc : tm_S → Nat → Int32 → Int32 → Option (Int32 × tm_S)) (σ : tm_S) (l0 : Nat) (l1 : Int32) (l2 : Int32) : Option (Int32 × tm_S) :=
  rc σ l0 l1 (l2 + (1 : Int32))
def f_X_ownGoals_L9 : Nat → tm_S → Nat → Int32 → Int32 → Option (Int32 × tm_S)
  | 0, _, _, _, _ => none
  | k + 1, σ, l0, l1, l2 =>
    if (7 : Int32) ≤ l2 then
      some (l1, σ)
    else
      if ¬ (l2 < 0 ∨ 7 ≤ l2.toNatClampNeg) then
        if (σ.1 (l0 + 13) l2.toNatClampNeg) = (-1 : Int32) then
          f_X_ownGoals_L31 (f_X_ownGoals_L9 k) σ l0 l1 l2
        else
          f_X_ownGoals_L31 (f_X_ownGoals_L9 k) σ l0 (l1 ||| ((1 : Int32) <<< (l2 &&& 31))) l2
      else none
def f_X_ownGoals (σ : tm_S) (a0 : Nat) : Option (Int32 × tm_S) :=
  f_X_ownGoals_L9 tm_fu σ a0 ((1 : Int32) <<< ((σ.1 a0 0) &&& 31)) (0 : Int32)
def f_X_announce (σ : tm_S) (a1 : Nat) (a2 : Int32) (a3 : Int32) (a4 : Int32) : Option (tm_S) :=
  (f_X_enqueue σ a1 (3 : Int32) a3).bind fun q1 =>
  match q1.1 with
  | none =>
    some q1.2
  | some o2 =>
    if kd o2 = 8 then
      tm_w (sI q1.2 o2 3 a2) fun σ3 =>
      if a4 = 0 ∨ a4 = 1 then
        tm_w (sI σ3 o2 4 a4) fun σ4 =>
        tm_w (sC σ4 (a1 + 14) (o2 + 1)) fun σ5 =>
        some σ5
      else none
    else none
def f_X_choose_L148 (σ : tm_S) (l1 : Nat) (l3 : Int32) (l4 : Int32) : Option (tm_S) :=
  if l4 = l3 then
    some σ
  else
    if l4 = (-1 : Int32) then
      some σ
    else
      if ¬ ((σ.1 l1 0) < 0 ∨ 7 ≤ (σ.1 l1 0).toNatClampNeg) then
        if ¬ ((σ.1 l1 0) < 0 ∨ 7 ≤ (σ.1 l1 0).toNatClampNeg) then
          tm_w (sI σ (l1 + 14) (σ.1 l1 0).toNatClampNeg ((σ.1 (l1 + 14) (σ.1 l1 0).toNatClampNeg) + (1 : Int32))) fun σ12 =>
          (f_X_ownGoals σ12 l1).bind fun q13 =>
          (f_X_announce q13.2 l1 q13.1 l4 (0 : Int32)).bind fun q14 =>
          some q14
        else none
      else none
def f_X_choose_L126 (σ : tm_S) (l1 : Nat) (l3 : Int32) (l4 : Int32) : Option (tm_S) :=
  if l4 = l3 then
    f_X_choose_L148 σ l1 l3 l4
  else
    if l3 = (-1 : Int32) then
      f_X_choose_L148 σ l1 l3 l4
    else
      (f_X_ownGoals σ l1).bind fun q8 =>
      (f_X_announce q8.2 l1 q8.1 l3 (1 : Int32)).bind fun q9 =>
      f_X_choose_L148 q9 l1 l3 l4
def f_X_choose_L121 (σ : tm_S) (l1 : Nat) (l3 : Int32) (l4 : Int32) : Option (tm_S) :=
  (f_X_resetTimer σ l1).bind fun q7 =>
  f_X_choose_L126 q7 l1 l3 l4
def f_X_choose_L109 (σ : tm_S) (l1 : Nat) (l2 : Int32) (l3 : Int32) (l4 : Int32) (l5 : Int32) : Option (tm_S) :=
  if l5 = l2 then
    if l4 = l3 then
      f_X_choose_L126 σ l1 l3 l4
    else
      f_X_choose_L121 σ l1 l3 l4
  else
    f_X_choose_L121 σ l1 l3 l4
def f_X_choose_L68 (σ : tm_S) (l1 : Nat) (l2 : Int32) (l3 : Int32) (l4 : Int32) (l5 : Int32) : Option (tm_S) :=
  tm_w (sI σ l1 11 l5) fun σ3 =>
  tm_w (sI σ3 l1 12 l4) fun σ4 =>
  tm_w (sI σ4 l1 13 (if l5 < (σ4.1 l1 13) then l5 else (σ4.1 l1 13))) fun σ5 =>
  if l5 = (255 : Int32) then
    f_X_choose_L109 σ5 l1 l2 l3 l4 l5
  else
    tm_w (sI σ5 (l1 + 11) 0 (1 : Int32)) fun σ6 =>
    f_X_choose_L109 σ6 l1 l2 l3 l4 l5
def f_X_choose_L60 (σ : tm_S) (l1 : Nat) (l2 : Int32) (l3 : Int32) : Option (tm_S) :=
  f_X_choose_L68 σ l1 l2 l3 (-1 : Int32) (255 : Int32)
def f_X_choose_L36 (σ : tm_S) (l1 : Nat) (l2 : Int32) (l3 : Int32) (l4 : Int32) (s0 : Int32) : Option (tm_S) :=
  if (254 : Int32) < s0 then
    f_X_choose_L60 σ l1 l2 l3
  else
    if s0 ≤ ((σ.1 l1 13) + (σ.1 1 0)) then
      f_X_choose_L68 σ l1 l2 l3 l4 s0
    else
      f_X_choose_L60 σ l1 l2 l3
def f_X_choose (σ : tm_S) (a1 : Nat) : Option (tm_S) :=
  (f_X_bestParent σ a1).bind fun q1 =>
  if q1.1 = (-1 : Int32) then
    f_X_choose_L36 q1.2 a1 (σ.1 a1 11) (σ.1 a1 12) q1.1 (255 : Int32)
  else
    (f_X_rankBelow q1.2 a1 q1.1).bind fun q2 =>
    f_X_choose_L36 q2.2 a1 (σ.1 a1 11) (σ.1 a1 12) q1.1 q2.1
def f_X_failFirst_L76 (rc : tm_S → Nat → Int32 → Int32 → Option (tm_S)) (σ : tm_S) (l1 : Nat) (l3 : Int32) (l4 : Int32) : Option (tm_S) :=
  rc σ l1 l3 (l4 + (1 : Int32))
def f_X_failFirst_L50 : Nat → tm_S → Nat → Int32 → Int32 → Option (tm_S)
  | 0, _, _, _, _ => none
  | k + 1, σ, l1, l3, l4 =>
    if (7 : Int32) ≤ l4 then
      if (σ.1 l1 12) = l3 then
        if ¬ (l3 < 0 ∨ 7 ≤ l3.toNatClampNeg) then
          tm_w (sI σ (l1 + 12) l3.toNatClampNeg (0 : Int32)) fun σ6 =>
          (f_X_choose σ6 l1).bind fun q7 =>
          some q7
        else none
      else
        some σ
    else
      if ¬ (l4 < 0 ∨ 7 ≤ l4.toNatClampNeg) then
        if (σ.1 (l1 + 13) l4.toNatClampNeg) = l3 then
          if ¬ (l4 < 0 ∨ 7 ≤ l4.toNatClampNeg) then
            tm_w (sI σ (l1 + 13) l4.toNatClampNeg (-1 : Int32)) fun σ10 =>
            f_X_failFirst_L76 (f_X_failFirst_L50 k) σ10 l1 l3 l4
          else none
        else
          f_X_failFirst_L76 (f_X_failFirst_L50 k) σ l1 l3 l4
      else none
def f_X_failFirst_L33 (σ : tm_S) (l1 : Nat) (l3 : Int32) : Option (tm_S) :=
  (f_X_removeFirst σ (l1 + 1)).bind fun q4 =>
  if l3 = (-1 : Int32) then
    some q4
  else
    f_X_failFirst_L50 tm_fu q4 l1 l3 (0 : Int32)
def f_X_failFirst (σ : tm_S) (a1 : Nat) : Option (tm_S) :=
  tm_w (σ.2 ((a1 + 1) + 1) (0 : Int32).toNatClampNeg) fun r2 =>
  if kd r2 = 8 then
    if (σ.1 r2 1) = (4 : Int32) then
      tm_w (sI σ 1 8 ((σ.1 1 8) + (1 : Int32))) fun σ3 =>
      f_X_failFirst_L33 σ3 a1 (σ.1 r2 2)
    else
      f_X_failFirst_L33 σ a1 (σ.1 r2 2)
  else none
def f_X_goOnTheAir_L157 (rc : tm_S → Int32 → Option (tm_S)) (σ : tm_S) (l1 : Int32) : Option (tm_S) :=
  rc σ (l1 + (1 : Int32))
def f_X_goOnTheAir_L2 : Nat → tm_S → Int32 → Option (tm_S)
  | 0, _, _ => none
  | k + 1, σ, l1 =>
    if (7 : Int32) ≤ l1 then
      some σ
    else
      if ¬ (l1 < 0 ∨ 7 ≤ l1.toNatClampNeg) then
        if (σ.1 ((11 + 17 * l1.toNatClampNeg) + 1) 8) = (-1 : Int32) then
          if (σ.1 ((11 + 17 * l1.toNatClampNeg) + 1) 9) = 0 then
            if (σ.1 ((11 + 17 * l1.toNatClampNeg) + 1) 1) = 0 then
              f_X_goOnTheAir_L157 (f_X_goOnTheAir_L2 k) σ l1
            else
              if (σ.1 ((11 + 17 * l1.toNatClampNeg) + 1) 2) ≤ 0 then
                (f_X_seemsBusy σ (11 + 17 * l1.toNatClampNeg)).bind fun q2 =>
                if q2.1 = 0 then
                  tm_w (sI q2.2 ((11 + 17 * l1.toNatClampNeg) + 1) 5 (2 : Int32)) fun σ7 =>
                  tm_w (sI σ7 1 10 ((σ7.1 1 10) + (1 : Int32))) fun σ8 =>
                  f_X_goOnTheAir_L157 (f_X_goOnTheAir_L2 k) σ8 l1
                else
                  tm_w (sI q2.2 ((11 + 17 * l1.toNatClampNeg) + 1) 3 ((q2.2.1 ((11 + 17 * l1.toNatClampNeg) + 1) 3) + (1 : Int32))) fun σ3 =>
                  if (σ3.1 ((11 + 17 * l1.toNatClampNeg) + 1) 3) = (5 : Int32) then
                    (f_X_failFirst σ3 (11 + 17 * l1.toNatClampNeg)).bind fun q6 =>
                    f_X_goOnTheAir_L157 (f_X_goOnTheAir_L2 k) q6 l1
                  else
                    (f_X_draw σ3 (if ((4 : Int32) <<< ((σ3.1 ((11 + 17 * l1.toNatClampNeg) + 1) 3) &&& 31)) < (32 : Int32) then ((4 : Int32) <<< ((σ3.1 ((11 + 17 * l1.toNatClampNeg) + 1) 3) &&& 31)) else (32 : Int32))).bind fun q4 =>
                    tm_w (sI q4.2 ((11 + 17 * l1.toNatClampNeg) + 1) 2 q4.1) fun σ5 =>
                    f_X_goOnTheAir_L157 (f_X_goOnTheAir_L2 k) σ5 l1
              else
                tm_w (sI σ ((11 + 17 * l1.toNatClampNeg) + 1) 2 ((σ.1 ((11 + 17 * l1.toNatClampNeg) + 1) 2) - (1 : Int32))) fun σ9 =>
                f_X_goOnTheAir_L157 (f_X_goOnTheAir_L2 k) σ9 l1
          else
            f_X_goOnTheAir_L157 (f_X_goOnTheAir_L2 k) σ l1
        else
          tm_w (sI σ ((11 + 17 * l1.toNatClampNeg) + 1) 5 (1 : Int32)) fun σ10 =>
          tm_w (sI σ10 ((11 + 17 * l1.toNatClampNeg) + 1) 7 (σ10.1 ((11 + 17 * l1.toNatClampNeg) + 1) 8)) fun σ11 =>
          tm_w (sI σ11 ((11 + 17 * l1.toNatClampNeg) + 1) 8 (-1 : Int32)) fun σ12 =>
          f_X_goOnTheAir_L157 (f_X_goOnTheAir_L2 k) σ12 l1
      else none
def f_X_goOnTheAir (σ : tm_S) : Option (tm_S) :=
  f_X_goOnTheAir_L2 tm_fu σ (0 : Int32)
def f_X_onlySpeaker_L45 (rc : tm_S → Int32 → Int32 → Int32 → Option (Int32 × tm_S)) (σ : tm_S) (l1 : Int32) (l2 : Int32) (l3 : Int32) : Option (Int32 × tm_S) :=
  rc σ l1 l2 (l3 + (1 : Int32))
def f_X_onlySpeaker_L4 : Nat → tm_S → Int32 → Int32 → Int32 → Option (Int32 × tm_S)
  | 0, _, _, _, _ => none
  | k + 1, σ, l1, l2, l3 =>
    if (7 : Int32) ≤ l3 then
      some (l2, σ)
    else
      if ¬ (l1 < 0 ∨ 7 ≤ l1.toNatClampNeg) then
        if ¬ (l3 < 0 ∨ 7 ≤ l3.toNatClampNeg) then
          if (σ.1 (4 + l1.toNatClampNeg) l3.toNatClampNeg) ≤ 0 then
            f_X_onlySpeaker_L45 (f_X_onlySpeaker_L4 k) σ l1 l2 l3
          else
            if ¬ (l3 < 0 ∨ 7 ≤ l3.toNatClampNeg) then
              if (σ.1 ((11 + 17 * l3.toNatClampNeg) + 1) 5) = 0 then
                f_X_onlySpeaker_L45 (f_X_onlySpeaker_L4 k) σ l1 l2 l3
              else
                if l2 = (-1 : Int32) then
                  f_X_onlySpeaker_L45 (f_X_onlySpeaker_L4 k) σ l1 l3 l3
                else
                  some ((-1 : Int32), σ)
            else none
        else none
      else none
def f_X_onlySpeaker (σ : tm_S) (a1 : Int32) : Option (Int32 × tm_S) :=
  f_X_onlySpeaker_L4 tm_fu σ a1 (-1 : Int32) (0 : Int32)
def f_X_hearTheAir_L55 (rc : tm_S → Int32 → Option (tm_S)) (σ : tm_S) (l1 : Int32) (s0 : Int32) (s1 : Nat) : Option (tm_S) :=
  tm_w (sI σ s1 10 s0) fun σ3 =>
  rc σ3 (l1 + (1 : Int32))
def f_X_hearTheAir_L37 (rc : tm_S → Int32 → Option (tm_S)) (σ : tm_S) (l1 : Int32) (l2 : Nat) (s0 : Int32) : Option (tm_S) :=
  if s0 = 0 then
    f_X_hearTheAir_L55 rc σ l1 (-1 : Int32) (l2 + 1)
  else
    (f_X_onlySpeaker σ l1).bind fun q2 =>
    f_X_hearTheAir_L55 rc q2.2 l1 q2.1 (l2 + 1)
def f_X_hearTheAir_L36 (rc : tm_S → Int32 → Option (tm_S)) (σ : tm_S) (l1 : Int32) (l2 : Nat) : Option (tm_S) :=
  f_X_hearTheAir_L37 rc σ l1 l2 (0 : Int32)
def f_X_hearTheAir_L2 : Nat → tm_S → Int32 → Option (tm_S)
  | 0, _, _ => none
  | k + 1, σ, l1 =>
    if (7 : Int32) ≤ l1 then
      some σ
    else
      if ¬ (l1 < 0 ∨ 7 ≤ l1.toNatClampNeg) then
        if (σ.1 (11 + 17 * l1.toNatClampNeg) 9) = 0 then
          f_X_hearTheAir_L36 (f_X_hearTheAir_L2 k) σ l1 (11 + 17 * l1.toNatClampNeg)
        else
          if (σ.1 ((11 + 17 * l1.toNatClampNeg) + 1) 5) = 0 then
            f_X_hearTheAir_L37 (f_X_hearTheAir_L2 k) σ l1 (11 + 17 * l1.toNatClampNeg) (1 : Int32)
          else
            f_X_hearTheAir_L36 (f_X_hearTheAir_L2 k) σ l1 (11 + 17 * l1.toNatClampNeg)
      else none
def f_X_hearTheAir (σ : tm_S) : Option (tm_S) :=
  f_X_hearTheAir_L2 tm_fu σ (0 : Int32)
def f_X_takeAck_L24 (σ : tm_S) (l2 : Nat) (l3 : Nat) (s0 : Int32) : Option (tm_S) :=
  if s0 = 0 then
    some σ
  else
    if (σ.1 l3 9) = 0 then
      some σ
    else
      tm_w (σ.2 (l3 + 1) (0 : Int32).toNatClampNeg) fun r2 =>
      if kd r2 = 8 then
        if (σ.1 r2 2) = (σ.1 l2 0) then
          tm_w (sI σ l3 9 (0 : Int32)) fun σ3 =>
          (f_X_removeFirst σ3 l3).bind fun q4 =>
          some q4
        else
          some σ
      else none
def f_X_takeAck (σ : tm_S) (a1 : Nat) (a2 : Nat) : Option (tm_S) :=
  if (σ.1 (a2 + 1) 7) = (σ.1 a1 0) then
    f_X_takeAck_L24 σ a2 (a1 + 1) (1 : Int32)
  else
    f_X_takeAck_L24 σ a2 (a1 + 1) (0 : Int32)
def f_X_takeSolicit_L17 (σ : tm_S) (l1 : Nat) : Option (tm_S) :=
  (f_X_resetTimer σ l1).bind fun q1 =>
  some q1
def f_X_takeSolicit (σ : tm_S) (a1 : Nat) : Option (tm_S) :=
  if (σ.1 a1 0) = 0 then
    f_X_takeSolicit_L17 σ a1
  else
    if (σ.1 a1 11) = (255 : Int32) then
      some σ
    else
      f_X_takeSolicit_L17 σ a1
def f_X_takeVersion_L23 (σ : tm_S) (l1 : Nat) (l2 : Int32) (s0 : Int32) : Option (tm_S) :=
  tm_w (sI σ l1 10 l2) fun σ1 =>
  tm_w (sFl σ1 (l1 + 12) (0 : Int32)) fun σ2 =>
  tm_w (sI σ2 l1 13 (255 : Int32)) fun σ3 =>
  if s0 = 0 then
    some σ3
  else
    tm_w (sI σ3 l1 11 (255 : Int32)) fun σ4 =>
    tm_w (sI σ4 l1 12 (-1 : Int32)) fun σ5 =>
    (f_X_resetTimer σ5 l1).bind fun q6 =>
    some q6
def f_X_takeVersion_L18 (σ : tm_S) (l1 : Nat) (l2 : Int32) : Option (tm_S) :=
  f_X_takeVersion_L23 σ l1 l2 (1 : Int32)
def f_X_takeVersion (σ : tm_S) (a1 : Nat) (a2 : Int32) : Option (tm_S) :=
  if (σ.1 a1 12) = (-1 : Int32) then
    if (σ.1 a1 11) = (255 : Int32) then
      f_X_takeVersion_L23 σ a1 a2 (0 : Int32)
    else
      f_X_takeVersion_L18 σ a1 a2
  else
    f_X_takeVersion_L18 σ a1 a2
def f_X_takeAdvert_L80 (σ : tm_S) (l1 : Nat) (l3 : Int32) (l4 : Int32) : Option (tm_S) :=
  if (σ.1 l1 11) = l3 then
    if (σ.1 l1 12) = l4 then
      tm_w (sI σ (l1 + 11) 4 ((σ.1 (l1 + 11) 4) + (1 : Int32))) fun σ6 =>
      some σ6
    else
      some σ
  else
    some σ
def f_X_takeAdvert_L44 (σ : tm_S) (l1 : Nat) (l2 : Nat) : Option (tm_S) :=
  if ¬ ((σ.1 l2 0) < 0 ∨ 7 ≤ (σ.1 l2 0).toNatClampNeg) then
    tm_w (sI σ (l1 + 12) (σ.1 l2 0).toNatClampNeg (σ.1 l2 11)) fun σ4 =>
    if (σ4.1 l1 0) = 0 then
      f_X_takeAdvert_L80 σ4 l1 (σ4.1 l1 11) (σ4.1 l1 12)
    else
      (f_X_choose σ4 l1).bind fun q5 =>
      f_X_takeAdvert_L80 q5 l1 (σ4.1 l1 11) (σ4.1 l1 12)
  else none
def f_X_takeAdvert (σ : tm_S) (a1 : Nat) (a2 : Nat) : Option (tm_S) :=
  if (σ.1 a1 10) ≤ (σ.1 a2 10) then
    if (σ.1 a2 10) ≤ (σ.1 a1 10) then
      f_X_takeAdvert_L44 σ a1 a2
    else
      if (σ.1 a1 0) = 0 then
        f_X_takeAdvert_L44 σ a1 a2
      else
        (f_X_takeVersion σ a1 (σ.1 a2 10)).bind fun q1 =>
        f_X_takeAdvert_L44 q1 a1 a2
  else
    (f_X_resetTimer σ a1).bind fun q2 =>
    some q2
def f_X_changeRoute_L36 (σ : tm_S) : Option (Int32 × tm_S) :=
  some ((0 : Int32), σ)
def f_X_changeRoute_L79 (σ : tm_S) (l0 : Nat) (l1 : Int32) (l4 : Int32) (l5 : Int32) (s0 : Int32) : Option (Int32 × tm_S) :=
  if ¬ (l1 < 0 ∨ 7 ≤ l1.toNatClampNeg) then
    tm_w (sI σ (l0 + 14) l1.toNatClampNeg l4) fun σ7 =>
    if ¬ (l1 < 0 ∨ 7 ≤ l1.toNatClampNeg) then
      tm_w (sI σ7 (l0 + 13) l1.toNatClampNeg l5) fun σ9 =>
      if s0 = 0 ∨ s0 = 1 then
        some (s0, σ9)
      else none
    else none
  else none
def f_X_changeRoute_L74 (σ : tm_S) (l0 : Nat) (l1 : Int32) (l4 : Int32) (l5 : Int32) : Option (Int32 × tm_S) :=
  f_X_changeRoute_L79 σ l0 l1 l4 l5 (1 : Int32)
def f_X_changeRoute_L50 (σ : tm_S) (l0 : Nat) (l1 : Int32) (l4 : Int32) (s0 : Int32) : Option (Int32 × tm_S) :=
  if ¬ (l1 < 0 ∨ 7 ≤ l1.toNatClampNeg) then
    if l4 = (σ.1 (l0 + 14) l1.toNatClampNeg) then
      if ¬ (l1 < 0 ∨ 7 ≤ l1.toNatClampNeg) then
        if s0 = (σ.1 (l0 + 13) l1.toNatClampNeg) then
          f_X_changeRoute_L79 σ l0 l1 l4 s0 (0 : Int32)
        else
          f_X_changeRoute_L74 σ l0 l1 l4 s0
      else none
    else
      f_X_changeRoute_L74 σ l0 l1 l4 s0
  else none
def f_X_changeRoute_L38 (σ : tm_S) (l0 : Nat) (l1 : Int32) (l2 : Int32) (l3 : Nat) (l4 : Int32) : Option (Int32 × tm_S) :=
  if (σ.1 l3 4) = 0 then
    f_X_changeRoute_L50 σ l0 l1 l4 l2
  else
    f_X_changeRoute_L50 σ l0 l1 l4 (-1 : Int32)
def f_X_changeRoute (σ : tm_S) (a0 : Nat) (a1 : Int32) (a2 : Int32) (a3 : Nat) : Option (Int32 × tm_S) :=
  if ¬ (a1 < 0 ∨ 7 ≤ a1.toNatClampNeg) then
    if ¬ (a1 < 0 ∨ 7 ≤ a1.toNatClampNeg) then
      if (σ.1 (a3 + 1) a1.toNatClampNeg) < (σ.1 (a0 + 14) a1.toNatClampNeg) then
        f_X_changeRoute_L36 σ
      else
        if (σ.1 a3 4) = 0 then
          f_X_changeRoute_L38 σ a0 a1 a2 a3 (σ.1 (a3 + 1) a1.toNatClampNeg)
        else
          if ¬ (a1 < 0 ∨ 7 ≤ a1.toNatClampNeg) then
            if (σ.1 (a0 + 13) a1.toNatClampNeg) = a2 then
              f_X_changeRoute_L38 σ a0 a1 a2 a3 (σ.1 (a3 + 1) a1.toNatClampNeg)
            else
              f_X_changeRoute_L36 σ
          else none
    else none
  else none
def f_X_receiveAnnounce_L67 (rc : tm_S → Nat → Int32 → Nat → Int32 → Int32 → Option (tm_S)) (σ : tm_S) (l1 : Nat) (l2 : Int32) (l3 : Nat) (l4 : Int32) (l5 : Int32) : Option (tm_S) :=
  rc σ l1 l2 l3 l4 (l5 + (1 : Int32))
def f_X_receiveAnnounce_L40 (rc : tm_S → Nat → Int32 → Nat → Int32 → Int32 → Option (tm_S)) (σ : tm_S) (l1 : Nat) (l2 : Int32) (l3 : Nat) (l4 : Int32) (l5 : Int32) (s0 : Int32) : Option (tm_S) :=
  if s0 = 0 then
    f_X_receiveAnnounce_L67 rc σ l1 l2 l3 l4 l5
  else
    (f_X_changeRoute σ l1 l5 l2 l3).bind fun q2 =>
    if q2.1 = 0 then
      f_X_receiveAnnounce_L67 rc q2.2 l1 l2 l3 l4 l5
    else
      f_X_receiveAnnounce_L67 rc q2.2 l1 l2 l3 (l4 ||| ((1 : Int32) <<< (l5 &&& 31))) l5
def f_X_receiveAnnounce_L39 (rc : tm_S → Nat → Int32 → Nat → Int32 → Int32 → Option (tm_S)) (σ : tm_S) (l1 : Nat) (l2 : Int32) (l3 : Nat) (l4 : Int32) (l5 : Int32) : Option (tm_S) :=
  f_X_receiveAnnounce_L40 rc σ l1 l2 l3 l4 l5 (0 : Int32)
def f_X_receiveAnnounce_L6 : Nat → tm_S → Nat → Int32 → Nat → Int32 → Int32 → Option (tm_S)
  | 0, _, _, _, _, _, _ => none
  | k + 1, σ, l1, l2, l3, l4, l5 =>
    if (7 : Int32) ≤ l5 then
      if l4 = 0 then
        some σ
      else
        if (σ.1 l1 12) = (-1 : Int32) then
          some σ
        else
          (f_X_announce σ l1 l4 (σ.1 l1 12) (σ.1 l3 4)).bind fun q1 =>
          some q1
    else
      if (((σ.1 l3 3) >>> (l5 &&& 31)) &&& (1 : Int32)) = (1 : Int32) then
        if l5 = (σ.1 l1 0) then
          f_X_receiveAnnounce_L39 (f_X_receiveAnnounce_L6 k) σ l1 l2 l3 l4 l5
        else
          f_X_receiveAnnounce_L40 (f_X_receiveAnnounce_L6 k) σ l1 l2 l3 l4 l5 (1 : Int32)
      else
        f_X_receiveAnnounce_L39 (f_X_receiveAnnounce_L6 k) σ l1 l2 l3 l4 l5
def f_X_receiveAnnounce (σ : tm_S) (a1 : Nat) (a2 : Int32) (a3 : Nat) : Option (tm_S) :=
  f_X_receiveAnnounce_L6 tm_fu σ a1 a2 a3 (0 : Int32) (0 : Int32)
def f_X_deliver (σ : tm_S) (a1 : Nat) (a2 : Nat) : Option (tm_S) :=
  if ¬ (((σ.1 a1 8) - (σ.1 a1 8) / (8 : Int32) * (8 : Int32)) < 0 ∨ 8 ≤ ((σ.1 a1 8) - (σ.1 a1 8) / (8 : Int32) * (8 : Int32)).toNatClampNeg) then
    tm_w (sI σ (a1 + 16) ((σ.1 a1 8) - (σ.1 a1 8) / (8 : Int32) * (8 : Int32)).toNatClampNeg (((1000 : Int32) * (σ.1 a2 6)) + (σ.1 a2 9))) fun σ2 =>
    tm_w (sI σ2 a1 8 ((σ2.1 a1 8) + (1 : Int32))) fun σ3 =>
    tm_w (sI σ3 1 9 ((σ3.1 1 9) + (1 : Int32))) fun σ4 =>
    some σ4
  else none
def f_X_receiveValue_L146 (σ : tm_S) (s0 : Int32) (s1 : Int32) (s2 : Int32) (s3 : Int32) (s4 : Int32) (s5 : Nat) : Option (tm_S) :=
  (f_X_sendOn σ s5 s4 s3 s2 s1 s0).bind fun q5 =>
  some q5
def f_X_receiveValue_L141 (σ : tm_S) (s0 : Int32) (s1 : Int32) (s2 : Int32) (s3 : Int32) (s4 : Nat) : Option (tm_S) :=
  f_X_receiveValue_L146 σ (1 : Int32) s0 s1 s2 s3 s4
def f_X_receiveValue_L68 (σ : tm_S) (l1 : Nat) (l3 : Nat) (l4 : Int32) : Option (tm_S) :=
  if (σ.1 l3 7) = (σ.1 l1 0) then
    (f_X_deliver σ l1 l3).bind fun q4 =>
    some q4
  else
    if (1 : Int32) < (σ.1 l3 8) then
      if l4 = 0 then
        if (σ.1 l3 11) = 0 then
          f_X_receiveValue_L146 σ (0 : Int32) (σ.1 l3 9) ((σ.1 l3 8) - (1 : Int32)) (σ.1 l3 7) (σ.1 l3 6) l1
        else
          f_X_receiveValue_L141 σ (σ.1 l3 9) ((σ.1 l3 8) - (1 : Int32)) (σ.1 l3 7) (σ.1 l3 6) l1
      else
        f_X_receiveValue_L141 σ (σ.1 l3 9) ((σ.1 l3 8) - (1 : Int32)) (σ.1 l3 7) (σ.1 l3 6) l1
    else
      tm_w (sI σ 1 8 ((σ.1 1 8) + (1 : Int32))) fun σ3 =>
      some σ3
def f_X_receiveValue_L36 (σ : tm_S) (l1 : Nat) (l3 : Nat) (s0 : Int32) : Option (tm_S) :=
  if s0 = 0 then
    f_X_receiveValue_L68 σ l1 l3 s0
  else
    if (σ.1 l3 11) = 0 then
      f_X_receiveValue_L68 σ l1 l3 s0
    else
      tm_w (sI σ 1 8 ((σ.1 1 8) + (1 : Int32))) fun σ1 =>
      (f_X_resetTimer σ1 l1).bind fun q2 =>
      some q2
def f_X_receiveValue (σ : tm_S) (a1 : Nat) (a2 : Int32) (a3 : Nat) : Option (tm_S) :=
  if (σ.1 a3 10) = 0 then
    if (σ.1 a1 11) < a2 then
      f_X_receiveValue_L36 σ a1 a3 (0 : Int32)
    else
      f_X_receiveValue_L36 σ a1 a3 (1 : Int32)
  else
    if a2 < (σ.1 a1 11) then
      f_X_receiveValue_L36 σ a1 a3 (0 : Int32)
    else
      f_X_receiveValue_L36 σ a1 a3 (1 : Int32)
def f_X_takeOwn (σ : tm_S) (a1 : Nat) (a2 : Nat) (a3 : Nat) : Option (tm_S) :=
  tm_w (sI σ (a1 + 1) 8 (σ.1 a2 0)) fun σ1 =>
  if ¬ ((σ1.1 a2 0) < 0 ∨ 7 ≤ (σ1.1 a2 0).toNatClampNeg) then
    if (σ1.1 (a1 + 15) (σ1.1 a2 0).toNatClampNeg) = (σ1.1 a3 0) then
      some σ1
    else
      if ¬ ((σ1.1 a2 0) < 0 ∨ 7 ≤ (σ1.1 a2 0).toNatClampNeg) then
        tm_w (sI σ1 (a1 + 15) (σ1.1 a2 0).toNatClampNeg (σ1.1 a3 0)) fun σ4 =>
        if (σ4.1 a3 1) = (3 : Int32) then
          (f_X_receiveAnnounce σ4 a1 (σ4.1 a2 0) a3).bind fun q6 =>
          some q6
        else
          (f_X_receiveValue σ4 a1 (σ4.1 a2 11) a3).bind fun q5 =>
          some q5
      else none
  else none
def f_X_takeWhatWasHeard_L132 (rc : tm_S → Int32 → Option (tm_S)) (σ : tm_S) (l1 : Int32) : Option (tm_S) :=
  rc σ (l1 + (1 : Int32))
def f_X_takeWhatWasHeard_L2 : Nat → tm_S → Int32 → Option (tm_S)
  | 0, _, _ => none
  | k + 1, σ, l1 =>
    if (7 : Int32) ≤ l1 then
      some σ
    else
      if ¬ (l1 < 0 ∨ 7 ≤ l1.toNatClampNeg) then
        if (σ.1 ((11 + 17 * l1.toNatClampNeg) + 1) 10) = (-1 : Int32) then
          f_X_takeWhatWasHeard_L132 (f_X_takeWhatWasHeard_L2 k) σ l1
        else
          if ¬ (l1 < 0 ∨ 7 ≤ l1.toNatClampNeg) then
            if ¬ ((σ.1 ((11 + 17 * l1.toNatClampNeg) + 1) 10) < 0 ∨ 7 ≤ (σ.1 ((11 + 17 * l1.toNatClampNeg) + 1) 10).toNatClampNeg) then
              if (σ.1 ((11 + 17 * (σ.1 ((11 + 17 * l1.toNatClampNeg) + 1) 10).toNatClampNeg) + 1) 5) = (1 : Int32) then
                (f_X_takeAck σ (11 + 17 * l1.toNatClampNeg) (11 + 17 * (σ.1 ((11 + 17 * l1.toNatClampNeg) + 1) 10).toNatClampNeg)).bind fun q9 =>
                f_X_takeWhatWasHeard_L132 (f_X_takeWhatWasHeard_L2 k) q9 l1
              else
                tm_w (σ.2 (((11 + 17 * (σ.1 ((11 + 17 * l1.toNatClampNeg) + 1) 10).toNatClampNeg) + 1) + 1) (0 : Int32).toNatClampNeg) fun r5 =>
                if kd r5 = 8 then
                  if (σ.1 r5 1) = (1 : Int32) then
                    (f_X_takeSolicit σ (11 + 17 * l1.toNatClampNeg)).bind fun q8 =>
                    f_X_takeWhatWasHeard_L132 (f_X_takeWhatWasHeard_L2 k) q8 l1
                  else
                    if (σ.1 r5 1) = (2 : Int32) then
                      (f_X_takeAdvert σ (11 + 17 * l1.toNatClampNeg) (11 + 17 * (σ.1 ((11 + 17 * l1.toNatClampNeg) + 1) 10).toNatClampNeg)).bind fun q7 =>
                      f_X_takeWhatWasHeard_L132 (f_X_takeWhatWasHeard_L2 k) q7 l1
                    else
                      if (σ.1 r5 2) = l1 then
                        (f_X_takeOwn σ (11 + 17 * l1.toNatClampNeg) (11 + 17 * (σ.1 ((11 + 17 * l1.toNatClampNeg) + 1) 10).toNatClampNeg) r5).bind fun q6 =>
                        f_X_takeWhatWasHeard_L132 (f_X_takeWhatWasHeard_L2 k) q6 l1
                      else
                        f_X_takeWhatWasHeard_L132 (f_X_takeWhatWasHeard_L2 k) σ l1
                else none
            else none
          else none
      else none
def f_X_takeWhatWasHeard (σ : tm_S) : Option (tm_S) :=
  f_X_takeWhatWasHeard_L2 tm_fu σ (0 : Int32)
def f_X_settleWhatWasOnTheAir_L55 (rc : tm_S → Int32 → Option (tm_S)) (σ : tm_S) (l1 : Int32) : Option (tm_S) :=
  rc σ (l1 + (1 : Int32))
def f_X_settleWhatWasOnTheAir_L2 : Nat → tm_S → Int32 → Option (tm_S)
  | 0, _, _ => none
  | k + 1, σ, l1 =>
    if (7 : Int32) ≤ l1 then
      some σ
    else
      if ¬ (l1 < 0 ∨ 7 ≤ l1.toNatClampNeg) then
        if (σ.1 ((11 + 17 * l1.toNatClampNeg) + 1) 5) = (2 : Int32) then
          tm_w (σ.2 (((11 + 17 * l1.toNatClampNeg) + 1) + 1) (0 : Int32).toNatClampNeg) fun r3 =>
          if kd r3 = 8 then
            if (σ.1 r3 2) = (-1 : Int32) then
              (f_X_removeFirst σ ((11 + 17 * l1.toNatClampNeg) + 1)).bind fun q5 =>
              f_X_settleWhatWasOnTheAir_L55 (f_X_settleWhatWasOnTheAir_L2 k) q5 l1
            else
              tm_w (sI σ ((11 + 17 * l1.toNatClampNeg) + 1) 9 (1 : Int32)) fun σ4 =>
              f_X_settleWhatWasOnTheAir_L55 (f_X_settleWhatWasOnTheAir_L2 k) σ4 l1
          else none
        else
          f_X_settleWhatWasOnTheAir_L55 (f_X_settleWhatWasOnTheAir_L2 k) σ l1
      else none
def f_X_settleWhatWasOnTheAir (σ : tm_S) : Option (tm_S) :=
  f_X_settleWhatWasOnTheAir_L2 tm_fu σ (0 : Int32)
def f_X_settleWhatWasListenedFor_L85 (rc : tm_S → Int32 → Option (tm_S)) (σ : tm_S) (l1 : Int32) : Option (tm_S) :=
  rc σ (l1 + (1 : Int32))
def f_X_settleWhatWasListenedFor_L2 : Nat → tm_S → Int32 → Option (tm_S)
  | 0, _, _ => none
  | k + 1, σ, l1 =>
    if (7 : Int32) ≤ l1 then
      some σ
    else
      if ¬ (l1 < 0 ∨ 7 ≤ l1.toNatClampNeg) then
        if (σ.1 ((11 + 17 * l1.toNatClampNeg) + 1) 9) = 0 then
          f_X_settleWhatWasListenedFor_L85 (f_X_settleWhatWasListenedFor_L2 k) σ l1
        else
          if (σ.1 ((11 + 17 * l1.toNatClampNeg) + 1) 5) = 0 then
            tm_w (sI σ ((11 + 17 * l1.toNatClampNeg) + 1) 9 (0 : Int32)) fun σ2 =>
            tm_w (sI σ2 ((11 + 17 * l1.toNatClampNeg) + 1) 4 ((σ2.1 ((11 + 17 * l1.toNatClampNeg) + 1) 4) + (1 : Int32))) fun σ3 =>
            if (σ3.1 ((11 + 17 * l1.toNatClampNeg) + 1) 4) = (4 : Int32) then
              if ¬ (l1 < 0 ∨ 7 ≤ l1.toNatClampNeg) then
                (f_X_failFirst σ3 (11 + 17 * l1.toNatClampNeg)).bind fun q8 =>
                f_X_settleWhatWasListenedFor_L85 (f_X_settleWhatWasListenedFor_L2 k) q8 l1
              else none
            else
              tm_w (sI σ3 ((11 + 17 * l1.toNatClampNeg) + 1) 3 (0 : Int32)) fun σ4 =>
              (f_X_draw σ4 (4 : Int32)).bind fun q5 =>
              tm_w (sI q5.2 ((11 + 17 * l1.toNatClampNeg) + 1) 2 q5.1) fun σ6 =>
              f_X_settleWhatWasListenedFor_L85 (f_X_settleWhatWasListenedFor_L2 k) σ6 l1
          else
            f_X_settleWhatWasListenedFor_L85 (f_X_settleWhatWasListenedFor_L2 k) σ l1
      else none
def f_X_settleWhatWasListenedFor (σ : tm_S) : Option (tm_S) :=
  f_X_settleWhatWasListenedFor_L2 tm_fu σ (0 : Int32)
def f_X_enqueueOnce_L2 : Nat → tm_S → Nat → Int32 → Int32 → Option (tm_S)
  | 0, _, _, _, _ => none
  | k + 1, σ, l1, l2, l3 =>
    if (σ.1 (l1 + 1) 1) ≤ l3 then
      (f_X_enqueue σ l1 l2 (-1 : Int32)).bind fun q1 =>
      some q1.2
    else
      if ¬ (l3 < 0 ∨ 4 ≤ l3.toNatClampNeg) then
        tm_w (σ.2 ((l1 + 1) + 1) l3.toNatClampNeg) fun r4 =>
        if kd r4 = 8 then
          if (σ.1 r4 1) = l2 then
            some σ
          else
            (f_X_enqueueOnce_L2 k) σ l1 l2 (l3 + (1 : Int32))
        else none
      else none
def f_X_enqueueOnce (σ : tm_S) (a1 : Nat) (a2 : Int32) : Option (tm_S) :=
  f_X_enqueueOnce_L2 tm_fu σ a1 a2 (0 : Int32)
def f_X_runTimer_L43 (σ : tm_S) (l2 : Nat) : Option (tm_S) :=
  if (σ.1 l2 2) = (σ.1 l2 1) then
    (f_X_beginInterval σ l2 (if ((σ.1 l2 1) * (2 : Int32)) < (64 : Int32) then ((σ.1 l2 1) * (2 : Int32)) else (64 : Int32))).bind fun q3 =>
    some q3
  else
    some σ
def f_X_runTimer (σ : tm_S) (a1 : Nat) : Option (tm_S) :=
  tm_w (sI σ (a1 + 11) 2 ((σ.1 (a1 + 11) 2) + (1 : Int32))) fun σ1 =>
  if (σ1.1 (a1 + 11) 2) = (σ1.1 (a1 + 11) 3) then
    if (σ1.1 1 1) ≤ (σ1.1 (a1 + 11) 4) then
      f_X_runTimer_L43 σ1 (a1 + 11)
    else
      (f_X_enqueueOnce σ1 a1 (2 : Int32)).bind fun q2 =>
      f_X_runTimer_L43 q2 (a1 + 11)
  else
    f_X_runTimer_L43 σ1 (a1 + 11)
def f_X_runTimers_L112 (rc : tm_S → Int32 → Option (tm_S)) (σ : tm_S) (l1 : Int32) : Option (tm_S) :=
  rc σ (l1 + (1 : Int32))
def f_X_runTimers_L70 (rc : tm_S → Int32 → Option (tm_S)) (σ : tm_S) (l1 : Int32) (l2 : Nat) : Option (tm_S) :=
  if (σ.1 l2 12) = (-1 : Int32) then
    f_X_runTimers_L112 rc σ l1
  else
    if ((σ.1 1 5) - (σ.1 1 5) / (64 : Int32) * (64 : Int32)) = 0 then
      if ¬ (l1 < 0 ∨ 7 ≤ l1.toNatClampNeg) then
        if ¬ (l1 < 0 ∨ 7 ≤ l1.toNatClampNeg) then
          tm_w (sI σ (l2 + 14) l1.toNatClampNeg ((σ.1 (l2 + 14) l1.toNatClampNeg) + (1 : Int32))) fun σ6 =>
          (f_X_ownGoals σ6 l2).bind fun q7 =>
          (f_X_announce q7.2 l2 q7.1 (q7.2.1 l2 12) (0 : Int32)).bind fun q8 =>
          f_X_runTimers_L112 rc q8 l1
        else none
      else none
    else
      f_X_runTimers_L112 rc σ l1
def f_X_runTimers_L40 (rc : tm_S → Int32 → Option (tm_S)) (σ : tm_S) (l1 : Int32) (l2 : Nat) : Option (tm_S) :=
  if l1 = 0 then
    f_X_runTimers_L70 rc σ l1 l2
  else
    if (σ.1 l2 11) = (255 : Int32) then
      if ((σ.1 1 5) - (σ.1 1 5) / (16 : Int32) * (16 : Int32)) = 0 then
        (f_X_enqueueOnce σ l2 (1 : Int32)).bind fun q3 =>
        f_X_runTimers_L70 rc q3 l1 l2
      else
        f_X_runTimers_L70 rc σ l1 l2
    else
      f_X_runTimers_L70 rc σ l1 l2
def f_X_runTimers_L2 : Nat → tm_S → Int32 → Option (tm_S)
  | 0, _, _ => none
  | k + 1, σ, l1 =>
    if (7 : Int32) ≤ l1 then
      some σ
    else
      if ¬ (l1 < 0 ∨ 7 ≤ l1.toNatClampNeg) then
        if (σ.1 (11 + 17 * l1.toNatClampNeg) 9) = 0 then
          f_X_runTimers_L112 (f_X_runTimers_L2 k) σ l1
        else
          if (σ.1 ((11 + 17 * l1.toNatClampNeg) + 11) 0) = 0 then
            f_X_runTimers_L40 (f_X_runTimers_L2 k) σ l1 (11 + 17 * l1.toNatClampNeg)
          else
            (f_X_runTimer σ (11 + 17 * l1.toNatClampNeg)).bind fun q2 =>
            f_X_runTimers_L40 (f_X_runTimers_L2 k) q2 l1 (11 + 17 * l1.toNatClampNeg)
      else none
def f_X_runTimers (σ : tm_S) : Option (tm_S) :=
  f_X_runTimers_L2 tm_fu σ (0 : Int32)
def f_X_tick_L10 (σ : tm_S) : Option (Int32 × tm_S) :=
  some ((-1 : Int32), σ)
def f_X_tick_L14 : Nat → tm_S → Int32 → Int32 → Option (Int32 × tm_S)
  | 0, _, _, _ => none
  | k + 1, σ, l1, l2 =>
    if l1 ≤ l2 then
      some ((σ.1 1 5), σ)
    else
      tm_w (sI σ 1 5 ((σ.1 1 5) + (1 : Int32))) fun σ1 =>
      (f_X_rememberTheAir σ1 ).bind fun q2 =>
      (f_X_goOnTheAir q2 ).bind fun q3 =>
      (f_X_hearTheAir q3 ).bind fun q4 =>
      (f_X_takeWhatWasHeard q4 ).bind fun q5 =>
      (f_X_settleWhatWasOnTheAir q5 ).bind fun q6 =>
      (f_X_settleWhatWasListenedFor q6 ).bind fun q7 =>
      (f_X_runTimers q7 ).bind fun q8 =>
      (f_X_tick_L14 k) q8 l1 (l2 + (1 : Int32))
def f_X_tick (σ : tm_S) (a1 : Int32) : Option (Int32 × tm_S) :=
  if a1 < 0 then
    f_X_tick_L10 σ
  else
    if a1 ≤ (100 : Int32) then
      f_X_tick_L14 tm_fu σ a1 (0 : Int32)
    else
      f_X_tick_L10 σ
def f_X_condition (σ : tm_S) (a0 : Nat) : Option (Int32 × tm_S) :=
  if (σ.1 a0 9) = 0 then
    some ((1 : Int32), σ)
  else
    if (σ.1 (a0 + 1) 9) = 0 then
      if (σ.1 (a0 + 1) 8) = (-1 : Int32) then
        some ((0 : Int32), σ)
      else
        some ((3 : Int32), σ)
    else
      some ((2 : Int32), σ)
def f_X_node_L35 (σ : tm_S) (l1 : Int32) (l2 : Int32) (l3 : Nat) (l4 : Nat) (s0 : Int32) : Option (Int32 × tm_S) :=
  if l2 = (0 : Int32) then
    some ((σ.1 l3 11), σ)
  else
  if l2 = (1 : Int32) then
    some (((σ.1 l3 12) + (1 : Int32)), σ)
  else
  if l2 = (2 : Int32) then
    some ((σ.1 l3 10), σ)
  else
  if l2 = (3 : Int32) then
    some ((σ.1 (l3 + 11) 1), σ)
  else
  if l2 = (4 : Int32) then
    some ((σ.1 (l3 + 11) 2), σ)
  else
  if l2 = (5 : Int32) then
    some ((σ.1 (l3 + 11) 4), σ)
  else
  if l2 = (6 : Int32) then
    some ((σ.1 l4 1), σ)
  else
  if l2 = (7 : Int32) then
    if s0 = 0 then
      some ((0 : Int32), σ)
    else
      some ((σ.1 l4 2), σ)
  else
  if l2 = (8 : Int32) then
    if s0 = 0 then
      some ((0 : Int32), σ)
    else
      some ((σ.1 l4 3), σ)
  else
  if l2 = (9 : Int32) then
    if s0 = 0 then
      some ((0 : Int32), σ)
    else
      some ((σ.1 l4 4), σ)
  else
  if l2 = (10 : Int32) then
    some ((σ.1 l3 13), σ)
  else
  if l2 = (11 : Int32) then
    (f_X_condition σ l3).bind fun q3 =>
    some (q3.1, q3.2)
  else
  if l2 = (12 : Int32) then
    if ¬ (l1 < 0 ∨ 7 ≤ l1.toNatClampNeg) then
      some ((σ.1 (l3 + 14) l1.toNatClampNeg), σ)
    else none
  else
    some ((-1 : Int32), σ)
def f_X_node (σ : tm_S) (a1 : Int32) (a2 : Int32) : Option (Int32 × tm_S) :=
  (f_X_isNode σ a1).bind fun q1 =>
  if q1.1 = 0 then
    some ((-1 : Int32), q1.2)
  else
    if ¬ (a1 < 0 ∨ 7 ≤ a1.toNatClampNeg) then
      if (q1.2.1 ((11 + 17 * a1.toNatClampNeg) + 1) 1) ≤ 0 then
        f_X_node_L35 q1.2 a1 a2 (11 + 17 * a1.toNatClampNeg) ((11 + 17 * a1.toNatClampNeg) + 1) (0 : Int32)
      else
        f_X_node_L35 q1.2 a1 a2 (11 + 17 * a1.toNatClampNeg) ((11 + 17 * a1.toNatClampNeg) + 1) (1 : Int32)
    else none
def f_X_next_L30 (σ : tm_S) : Option (Int32 × tm_S) :=
  some ((0 : Int32), σ)
def f_X_next (σ : tm_S) (a1 : Int32) (a2 : Int32) : Option (Int32 × tm_S) :=
  (f_X_isNode σ a1).bind fun q1 =>
  if q1.1 = 0 then
    f_X_next_L30 q1.2
  else
    (f_X_isNode q1.2 a2).bind fun q2 =>
    if q2.1 = 0 then
      f_X_next_L30 q2.2
    else
      if ¬ (a1 < 0 ∨ 7 ≤ a1.toNatClampNeg) then
        if ¬ (a2 < 0 ∨ 7 ≤ a2.toNatClampNeg) then
          some (((q2.2.1 ((11 + 17 * a1.toNatClampNeg) + 13) a2.toNatClampNeg) + (1 : Int32)), q2.2)
        else none
      else none
def f_X_known_L28 (σ : tm_S) : Option (Int32 × tm_S) :=
  some ((0 : Int32), σ)
def f_X_known (σ : tm_S) (a1 : Int32) (a2 : Int32) : Option (Int32 × tm_S) :=
  (f_X_isNode σ a1).bind fun q1 =>
  if q1.1 = 0 then
    f_X_known_L28 q1.2
  else
    (f_X_isNode q1.2 a2).bind fun q2 =>
    if q2.1 = 0 then
      f_X_known_L28 q2.2
    else
      if ¬ (a1 < 0 ∨ 7 ≤ a1.toNatClampNeg) then
        if ¬ (a2 < 0 ∨ 7 ≤ a2.toNatClampNeg) then
          some ((q2.2.1 ((11 + 17 * a1.toNatClampNeg) + 12) a2.toNatClampNeg), q2.2)
        else none
      else none
def f_X_delivered_L44 (σ : tm_S) : Option (Int32 × tm_S) :=
  some ((0 : Int32), σ)
def f_X_delivered (σ : tm_S) (a1 : Int32) (a2 : Int32) : Option (Int32 × tm_S) :=
  (f_X_isNode σ a1).bind fun q1 =>
  if q1.1 = 0 then
    some ((0 : Int32), q1.2)
  else
    if ¬ (a1 < 0 ∨ 7 ≤ a1.toNatClampNeg) then
      if a2 = (-1 : Int32) then
        some ((q1.2.1 (11 + 17 * a1.toNatClampNeg) 8), q1.2)
      else
        if a2 < 0 then
          f_X_delivered_L44 q1.2
        else
          if (8 : Int32) ≤ a2 then
            f_X_delivered_L44 q1.2
          else
            if a2 < (q1.2.1 (11 + 17 * a1.toNatClampNeg) 8) then
              if ¬ (((((q1.2.1 (11 + 17 * a1.toNatClampNeg) 8) - (1 : Int32)) - a2) - (((q1.2.1 (11 + 17 * a1.toNatClampNeg) 8) - (1 : Int32)) - a2) / (8 : Int32) * (8 : Int32)) < 0 ∨ 8 ≤ ((((q1.2.1 (11 + 17 * a1.toNatClampNeg) 8) - (1 : Int32)) - a2) - (((q1.2.1 (11 + 17 * a1.toNatClampNeg) 8) - (1 : Int32)) - a2) / (8 : Int32) * (8 : Int32)).toNatClampNeg) then
                some ((q1.2.1 ((11 + 17 * a1.toNatClampNeg) + 16) ((((q1.2.1 (11 + 17 * a1.toNatClampNeg) 8) - (1 : Int32)) - a2) - (((q1.2.1 (11 + 17 * a1.toNatClampNeg) 8) - (1 : Int32)) - a2) / (8 : Int32) * (8 : Int32)).toNatClampNeg), q1.2)
              else none
            else
              f_X_delivered_L44 q1.2
    else none
def f_X_count (σ : tm_S) (a1 : Int32) : Option (Int32 × tm_S) :=
  if a1 = (0 : Int32) then
    some ((σ.1 1 8), σ)
  else
  if a1 = (1 : Int32) then
    some ((σ.1 1 9), σ)
  else
  if a1 = (2 : Int32) then
    some ((σ.1 1 10), σ)
  else
    some ((0 : Int32), σ)
def f_L_cell (σ : tm_S) (a1 : Int32) : Option (Int32 × tm_S) :=
  if (Int32.ofNat (σ.2 0 0)) ≤ a1 then
    some ((0 : Int32), σ)
  else
    if ¬ (a1 < 0 ∨ σ.2 0 0 ≤ a1.toNatClampNeg) then
      some ((σ.1 0 a1.toNatClampNeg), σ)
    else none
