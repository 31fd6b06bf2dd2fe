def f_L_law_L426 (rc : tm_S → Int32 → Option (Int32 × tm_S)) (σ : tm_S) (l3 : Int32) : Option (Int32 × tm_S) :=
  rc σ (l3 + (5 : Int32))
def f_L_law_L48 : Nat → tm_S → Int32 → Option (Int32 × tm_S)
  | 0, _, _ => none
  | k + 1, σ, l3 =>
    if ((Int32.ofNat (σ.2 0 0)) - (5 : Int32)) < l3 then
      some ((1 : Int32), σ)
    else
      if ¬ (l3 < 0 ∨ σ.2 0 0 ≤ l3.toNatClampNeg) then
        if ((σ.1 0 l3.toNatClampNeg) &&& (15 : Int32)) = (0 : Int32) then
          if ¬ ((l3 + (1 : Int32)) < 0 ∨ σ.2 0 0 ≤ (l3 + (1 : Int32)).toNatClampNeg) then
            if ¬ ((l3 + (2 : Int32)) < 0 ∨ σ.2 0 0 ≤ (l3 + (2 : Int32)).toNatClampNeg) then
              if ¬ ((l3 + (3 : Int32)) < 0 ∨ σ.2 0 0 ≤ (l3 + (3 : Int32)).toNatClampNeg) then
                (f_X_link σ (σ.1 0 (l3 + (1 : Int32)).toNatClampNeg) (σ.1 0 (l3 + (2 : Int32)).toNatClampNeg) (σ.1 0 (l3 + (3 : Int32)).toNatClampNeg)).bind fun q5 =>
                if ¬ ((l3 + (1 : Int32)) < 0 ∨ q5.2.2 0 0 ≤ (l3 + (1 : Int32)).toNatClampNeg) then
                  if ¬ ((l3 + (2 : Int32)) < 0 ∨ q5.2.2 0 0 ≤ (l3 + (2 : Int32)).toNatClampNeg) then
                    if ¬ ((l3 + (3 : Int32)) < 0 ∨ q5.2.2 0 0 ≤ (l3 + (3 : Int32)).toNatClampNeg) then
                      (f_Y_link q5.2 (q5.2.1 0 (l3 + (1 : Int32)).toNatClampNeg) (q5.2.1 0 (l3 + (2 : Int32)).toNatClampNeg) (q5.2.1 0 (l3 + (3 : Int32)).toNatClampNeg)).bind fun q9 =>
                      if q5.1 = q9.1 then
                        f_L_law_L426 (f_L_law_L48 k) q9.2 l3
                      else
                        some ((0 : Int32), q9.2)
                    else none
                  else none
                else none
              else none
            else none
          else none
        else
        if ((σ.1 0 l3.toNatClampNeg) &&& (15 : Int32)) = (1 : Int32) then
          if ¬ ((l3 + (1 : Int32)) < 0 ∨ σ.2 0 0 ≤ (l3 + (1 : Int32)).toNatClampNeg) then
            (f_X_kill σ (σ.1 0 (l3 + (1 : Int32)).toNatClampNeg)).bind fun q11 =>
            if ¬ ((l3 + (1 : Int32)) < 0 ∨ q11.2.2 0 0 ≤ (l3 + (1 : Int32)).toNatClampNeg) then
              (f_Y_kill q11.2 (q11.2.1 0 (l3 + (1 : Int32)).toNatClampNeg)).bind fun q13 =>
              if q11.1 = q13.1 then
                f_L_law_L426 (f_L_law_L48 k) q13.2 l3
              else
                some ((0 : Int32), q13.2)
            else none
          else none
        else
        if ((σ.1 0 l3.toNatClampNeg) &&& (15 : Int32)) = (2 : Int32) then
          (f_X_repair σ ).bind fun q14 =>
          (f_Y_repair q14.2 ).bind fun q15 =>
          if q14.1 = q15.1 then
            f_L_law_L426 (f_L_law_L48 k) q15.2 l3
          else
            some ((0 : Int32), q15.2)
        else
        if ((σ.1 0 l3.toNatClampNeg) &&& (15 : Int32)) = (3 : Int32) then
          if ¬ ((l3 + (1 : Int32)) < 0 ∨ σ.2 0 0 ≤ (l3 + (1 : Int32)).toNatClampNeg) then
            if ¬ ((l3 + (2 : Int32)) < 0 ∨ σ.2 0 0 ≤ (l3 + (2 : Int32)).toNatClampNeg) then
              if ¬ ((l3 + (3 : Int32)) < 0 ∨ σ.2 0 0 ≤ (l3 + (3 : Int32)).toNatClampNeg) then
                if ¬ ((l3 + (4 : Int32)) < 0 ∨ σ.2 0 0 ≤ (l3 + (4 : Int32)).toNatClampNeg) then
                  (f_X_send σ (σ.1 0 (l3 + (1 : Int32)).toNatClampNeg) (σ.1 0 (l3 + (2 : Int32)).toNatClampNeg) (σ.1 0 (l3 + (3 : Int32)).toNatClampNeg) (σ.1 0 (l3 + (4 : Int32)).toNatClampNeg)).bind fun q20 =>
                  if ¬ ((l3 + (1 : Int32)) < 0 ∨ q20.2.2 0 0 ≤ (l3 + (1 : Int32)).toNatClampNeg) then
                    if ¬ ((l3 + (2 : Int32)) < 0 ∨ q20.2.2 0 0 ≤ (l3 + (2 : Int32)).toNatClampNeg) then
                      if ¬ ((l3 + (3 : Int32)) < 0 ∨ q20.2.2 0 0 ≤ (l3 + (3 : Int32)).toNatClampNeg) then
                        if ¬ ((l3 + (4 : Int32)) < 0 ∨ q20.2.2 0 0 ≤ (l3 + (4 : Int32)).toNatClampNeg) then
                          (f_Y_send q20.2 (q20.2.1 0 (l3 + (1 : Int32)).toNatClampNeg) (q20.2.1 0 (l3 + (2 : Int32)).toNatClampNeg) (q20.2.1 0 (l3 + (3 : Int32)).toNatClampNeg) (q20.2.1 0 (l3 + (4 : Int32)).toNatClampNeg)).bind fun q25 =>
                          if q20.1 = q25.1 then
                            f_L_law_L426 (f_L_law_L48 k) q25.2 l3
                          else
                            some ((0 : Int32), q25.2)
                        else none
                      else none
                    else none
                  else none
                else none
              else none
            else none
          else none
        else
        if ((σ.1 0 l3.toNatClampNeg) &&& (15 : Int32)) = (4 : Int32) then
          if ¬ ((l3 + (1 : Int32)) < 0 ∨ σ.2 0 0 ≤ (l3 + (1 : Int32)).toNatClampNeg) then
            (f_X_tick σ (σ.1 0 (l3 + (1 : Int32)).toNatClampNeg)).bind fun q27 =>
            if ¬ ((l3 + (1 : Int32)) < 0 ∨ q27.2.2 0 0 ≤ (l3 + (1 : Int32)).toNatClampNeg) then
              (f_Y_tick q27.2 (q27.2.1 0 (l3 + (1 : Int32)).toNatClampNeg)).bind fun q29 =>
              if q27.1 = q29.1 then
                f_L_law_L426 (f_L_law_L48 k) q29.2 l3
              else
                some ((0 : Int32), q29.2)
            else none
          else none
        else
        if ((σ.1 0 l3.toNatClampNeg) &&& (15 : Int32)) = (5 : Int32) then
          if ¬ ((l3 + (1 : Int32)) < 0 ∨ σ.2 0 0 ≤ (l3 + (1 : Int32)).toNatClampNeg) then
            if ¬ ((l3 + (2 : Int32)) < 0 ∨ σ.2 0 0 ≤ (l3 + (2 : Int32)).toNatClampNeg) then
              (f_X_node σ (σ.1 0 (l3 + (1 : Int32)).toNatClampNeg) (σ.1 0 (l3 + (2 : Int32)).toNatClampNeg)).bind fun q32 =>
              if ¬ ((l3 + (1 : Int32)) < 0 ∨ q32.2.2 0 0 ≤ (l3 + (1 : Int32)).toNatClampNeg) then
                if ¬ ((l3 + (2 : Int32)) < 0 ∨ q32.2.2 0 0 ≤ (l3 + (2 : Int32)).toNatClampNeg) then
                  (f_Y_node q32.2 (q32.2.1 0 (l3 + (1 : Int32)).toNatClampNeg) (q32.2.1 0 (l3 + (2 : Int32)).toNatClampNeg)).bind fun q35 =>
                  if q32.1 = q35.1 then
                    f_L_law_L426 (f_L_law_L48 k) q35.2 l3
                  else
                    some ((0 : Int32), q35.2)
                else none
              else none
            else none
          else none
        else
        if ((σ.1 0 l3.toNatClampNeg) &&& (15 : Int32)) = (6 : Int32) then
          if ¬ ((l3 + (1 : Int32)) < 0 ∨ σ.2 0 0 ≤ (l3 + (1 : Int32)).toNatClampNeg) then
            if ¬ ((l3 + (2 : Int32)) < 0 ∨ σ.2 0 0 ≤ (l3 + (2 : Int32)).toNatClampNeg) then
              (f_X_next σ (σ.1 0 (l3 + (1 : Int32)).toNatClampNeg) (σ.1 0 (l3 + (2 : Int32)).toNatClampNeg)).bind fun q38 =>
              if ¬ ((l3 + (1 : Int32)) < 0 ∨ q38.2.2 0 0 ≤ (l3 + (1 : Int32)).toNatClampNeg) then
                if ¬ ((l3 + (2 : Int32)) < 0 ∨ q38.2.2 0 0 ≤ (l3 + (2 : Int32)).toNatClampNeg) then
                  (f_Y_next q38.2 (q38.2.1 0 (l3 + (1 : Int32)).toNatClampNeg) (q38.2.1 0 (l3 + (2 : Int32)).toNatClampNeg)).bind fun q41 =>
                  if q38.1 = q41.1 then
                    f_L_law_L426 (f_L_law_L48 k) q41.2 l3
                  else
                    some ((0 : Int32), q41.2)
                else none
              else none
            else none
          else none
        else
        if ((σ.1 0 l3.toNatClampNeg) &&& (15 : Int32)) = (7 : Int32) then
          if ¬ ((l3 + (1 : Int32)) < 0 ∨ σ.2 0 0 ≤ (l3 + (1 : Int32)).toNatClampNeg) then
            if ¬ ((l3 + (2 : Int32)) < 0 ∨ σ.2 0 0 ≤ (l3 + (2 : Int32)).toNatClampNeg) then
              (f_X_known σ (σ.1 0 (l3 + (1 : Int32)).toNatClampNeg) (σ.1 0 (l3 + (2 : Int32)).toNatClampNeg)).bind fun q44 =>
              if ¬ ((l3 + (1 : Int32)) < 0 ∨ q44.2.2 0 0 ≤ (l3 + (1 : Int32)).toNatClampNeg) then
                if ¬ ((l3 + (2 : Int32)) < 0 ∨ q44.2.2 0 0 ≤ (l3 + (2 : Int32)).toNatClampNeg) then
                  (f_Y_known q44.2 (q44.2.1 0 (l3 + (1 : Int32)).toNatClampNeg) (q44.2.1 0 (l3 + (2 : Int32)).toNatClampNeg)).bind fun q47 =>
                  if q44.1 = q47.1 then
                    f_L_law_L426 (f_L_law_L48 k) q47.2 l3
                  else
                    some ((0 : Int32), q47.2)
                else none
              else none
            else none
          else none
        else
        if ((σ.1 0 l3.toNatClampNeg) &&& (15 : Int32)) = (8 : Int32) then
          if ¬ ((l3 + (1 : Int32)) < 0 ∨ σ.2 0 0 ≤ (l3 + (1 : Int32)).toNatClampNeg) then
            if ¬ ((l3 + (2 : Int32)) < 0 ∨ σ.2 0 0 ≤ (l3 + (2 : Int32)).toNatClampNeg) then
              (f_X_delivered σ (σ.1 0 (l3 + (1 : Int32)).toNatClampNeg) (σ.1 0 (l3 + (2 : Int32)).toNatClampNeg)).bind fun q50 =>
              if ¬ ((l3 + (1 : Int32)) < 0 ∨ q50.2.2 0 0 ≤ (l3 + (1 : Int32)).toNatClampNeg) then
                if ¬ ((l3 + (2 : Int32)) < 0 ∨ q50.2.2 0 0 ≤ (l3 + (2 : Int32)).toNatClampNeg) then
                  (f_Y_delivered q50.2 (q50.2.1 0 (l3 + (1 : Int32)).toNatClampNeg) (q50.2.1 0 (l3 + (2 : Int32)).toNatClampNeg)).bind fun q53 =>
                  if q50.1 = q53.1 then
                    f_L_law_L426 (f_L_law_L48 k) q53.2 l3
                  else
                    some ((0 : Int32), q53.2)
                else none
              else none
            else none
          else none
        else
        if ((σ.1 0 l3.toNatClampNeg) &&& (15 : Int32)) = (9 : Int32) then
          if ¬ ((l3 + (1 : Int32)) < 0 ∨ σ.2 0 0 ≤ (l3 + (1 : Int32)).toNatClampNeg) then
            (f_X_count σ (σ.1 0 (l3 + (1 : Int32)).toNatClampNeg)).bind fun q55 =>
            if ¬ ((l3 + (1 : Int32)) < 0 ∨ q55.2.2 0 0 ≤ (l3 + (1 : Int32)).toNatClampNeg) then
              (f_Y_count q55.2 (q55.2.1 0 (l3 + (1 : Int32)).toNatClampNeg)).bind fun q57 =>
              if q55.1 = q57.1 then
                f_L_law_L426 (f_L_law_L48 k) q57.2 l3
              else
                some ((0 : Int32), q57.2)
            else none
          else none
        else
          f_L_law_L426 (f_L_law_L48 k) σ l3
      else none
def f_L_law (σ : tm_S) : Option (Int32 × tm_S) :=
  f_L_law_L48 tm_fl σ (3 : Int32)
