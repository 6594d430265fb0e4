set_option maxRecDepth 100000 in
theorem eq_Book_begin_0 (x0 : Int) (w : pw) : px_R (mm_Book_begin, 0, [(2, x0)], [], w) =
    (if px_go w x0 0 = true then
      if px_go (px_wr w x0 0 0) x0 0 = true then
        if px_go (px_wr (px_wr w x0 0 0) x0 1 0) x0 0 = true then
          some (0, (px_wr (px_wr (px_wr w x0 0 0) x0 1 0) x0 2 0))
        else none
      else none
    else none) := (px_Req mm_Book_begin 0 [(2, x0)] [] w).trans rfl
set_option maxRecDepth 100000 in
theorem eq_Book_mend_0 (x0 x1 x2 x3 : Int) (w : pw) : px_R (mm_Book_mend, 0, [(2, x0), (0, x1), (0, x2), (0, x3), (9, 0), (9, 0)], [], w) =
    (if px_go w x0 0 = true then
      if px_go (px_wr w x0 0 x1) x0 0 = true then
        if px_go (px_wr w x0 0 x1) x0 0 = true then
          if px_ga (px_wr w x0 0 x1) 0 (px_rd (px_wr w x0 0 x1) x0 6) (px_rd (px_wr w x0 0 x1) x0 2) = true then
            if px_go (px_wr (px_wr w x0 0 x1) (px_rd (px_wr w x0 0 x1) x0 6) ((px_rd (px_wr w x0 0 x1) x0 2)).toNat x1) x0 0 = true then
              if px_go (px_wr (px_wr w x0 0 x1) (px_rd (px_wr w x0 0 x1) x0 6) ((px_rd (px_wr w x0 0 x1) x0 2)).toNat x1) x0 0 = true then
                if px_ga (px_wr (px_wr w x0 0 x1) (px_rd (px_wr w x0 0 x1) x0 6) ((px_rd (px_wr w x0 0 x1) x0 2)).toNat x1) 0 (px_rd (px_wr (px_wr w x0 0 x1) (px_rd (px_wr w x0 0 x1) x0 6) ((px_rd (px_wr w x0 0 x1) x0 2)).toNat x1) x0 7) (px_rd (px_wr (px_wr w x0 0 x1) (px_rd (px_wr w x0 0 x1) x0 6) ((px_rd (px_wr w x0 0 x1) x0 2)).toNat x1) x0 2) = true then
                  if px_go (px_wr (px_wr (px_wr w x0 0 x1) (px_rd (px_wr w x0 0 x1) x0 6) ((px_rd (px_wr w x0 0 x1) x0 2)).toNat x1) (px_rd (px_wr (px_wr w x0 0 x1) (px_rd (px_wr w x0 0 x1) x0 6) ((px_rd (px_wr w x0 0 x1) x0 2)).toNat x1) x0 7) ((px_rd (px_wr (px_wr w x0 0 x1) (px_rd (px_wr w x0 0 x1) x0 6) ((px_rd (px_wr w x0 0 x1) x0 2)).toNat x1) x0 2)).toNat x2) x0 0 = true then
                    if px_go (px_wr (px_wr (px_wr w x0 0 x1) (px_rd (px_wr w x0 0 x1) x0 6) ((px_rd (px_wr w x0 0 x1) x0 2)).toNat x1) (px_rd (px_wr (px_wr w x0 0 x1) (px_rd (px_wr w x0 0 x1) x0 6) ((px_rd (px_wr w x0 0 x1) x0 2)).toNat x1) x0 7) ((px_rd (px_wr (px_wr w x0 0 x1) (px_rd (px_wr w x0 0 x1) x0 6) ((px_rd (px_wr w x0 0 x1) x0 2)).toNat x1) x0 2)).toNat x2) x0 0 = true then
                      if px_ga (px_wr (px_wr (px_wr w x0 0 x1) (px_rd (px_wr w x0 0 x1) x0 6) ((px_rd (px_wr w x0 0 x1) x0 2)).toNat x1) (px_rd (px_wr (px_wr w x0 0 x1) (px_rd (px_wr w x0 0 x1) x0 6) ((px_rd (px_wr w x0 0 x1) x0 2)).toNat x1) x0 7) ((px_rd (px_wr (px_wr w x0 0 x1) (px_rd (px_wr w x0 0 x1) x0 6) ((px_rd (px_wr w x0 0 x1) x0 2)).toNat x1) x0 2)).toNat x2) 0 (px_rd (px_wr (px_wr (px_wr w x0 0 x1) (px_rd (px_wr w x0 0 x1) x0 6) ((px_rd (px_wr w x0 0 x1) x0 2)).toNat x1) (px_rd (px_wr (px_wr w x0 0 x1) (px_rd (px_wr w x0 0 x1) x0 6) ((px_rd (px_wr w x0 0 x1) x0 2)).toNat x1) x0 7) ((px_rd (px_wr (px_wr w x0 0 x1) (px_rd (px_wr w x0 0 x1) x0 6) ((px_rd (px_wr w x0 0 x1) x0 2)).toNat x1) x0 2)).toNat x2) x0 8) (px_rd (px_wr (px_wr (px_wr w x0 0 x1) (px_rd (px_wr w x0 0 x1) x0 6) ((px_rd (px_wr w x0 0 x1) x0 2)).toNat x1) (px_rd (px_wr (px_wr w x0 0 x1) (px_rd (px_wr w x0 0 x1) x0 6) ((px_rd (px_wr w x0 0 x1) x0 2)).toNat x1) x0 7) ((px_rd (px_wr (px_wr w x0 0 x1) (px_rd (px_wr w x0 0 x1) x0 6) ((px_rd (px_wr w x0 0 x1) x0 2)).toNat x1) x0 2)).toNat x2) x0 2) = true then
                        px_R (mm_Book_mend, 35, [(2, x0), (0, x1), (0, x2), (0, x3), (9, 0), (9, 0)], [], (px_wr (px_wr (px_wr (px_wr w x0 0 x1) (px_rd (px_wr w x0 0 x1) x0 6) ((px_rd (px_wr w x0 0 x1) x0 2)).toNat x1) (px_rd (px_wr (px_wr w x0 0 x1) (px_rd (px_wr w x0 0 x1) x0 6) ((px_rd (px_wr w x0 0 x1) x0 2)).toNat x1) x0 7) ((px_rd (px_wr (px_wr w x0 0 x1) (px_rd (px_wr w x0 0 x1) x0 6) ((px_rd (px_wr w x0 0 x1) x0 2)).toNat x1) x0 2)).toNat x2) (px_rd (px_wr (px_wr (px_wr w x0 0 x1) (px_rd (px_wr w x0 0 x1) x0 6) ((px_rd (px_wr w x0 0 x1) x0 2)).toNat x1) (px_rd (px_wr (px_wr w x0 0 x1) (px_rd (px_wr w x0 0 x1) x0 6) ((px_rd (px_wr w x0 0 x1) x0 2)).toNat x1) x0 7) ((px_rd (px_wr (px_wr w x0 0 x1) (px_rd (px_wr w x0 0 x1) x0 6) ((px_rd (px_wr w x0 0 x1) x0 2)).toNat x1) x0 2)).toNat x2) x0 8) ((px_rd (px_wr (px_wr (px_wr w x0 0 x1) (px_rd (px_wr w x0 0 x1) x0 6) ((px_rd (px_wr w x0 0 x1) x0 2)).toNat x1) (px_rd (px_wr (px_wr w x0 0 x1) (px_rd (px_wr w x0 0 x1) x0 6) ((px_rd (px_wr w x0 0 x1) x0 2)).toNat x1) x0 7) ((px_rd (px_wr (px_wr w x0 0 x1) (px_rd (px_wr w x0 0 x1) x0 6) ((px_rd (px_wr w x0 0 x1) x0 2)).toNat x1) x0 2)).toNat x2) x0 2)).toNat x3))
                      else none
                    else none
                  else none
                else none
              else none
            else none
          else none
        else none
      else none
    else none) := (px_Req mm_Book_mend 0 [(2, x0), (0, x1), (0, x2), (0, x3), (9, 0), (9, 0)] [] w).trans rfl
set_option maxRecDepth 100000 in
theorem eq_Book_mend_35 (x0 x1 x2 x3 : Int) (w : pw) : px_R (mm_Book_mend, 35, [(2, x0), (0, x1), (0, x2), (0, x3), (9, 0), (9, 0)], [], w) =
    (if px_go w x0 0 = true then
      if px_go w x0 0 = true then
        px_R (mm_Book_mend, 51, [(2, x0), (0, x1), (0, x2), (0, x3), (0, 0), (0, 0)], [], (px_wr w x0 2 (px_w ((px_rd w x0 2) + 1))))
      else none
    else none) := (px_Req mm_Book_mend 35 [(2, x0), (0, x1), (0, x2), (0, x3), (9, 0), (9, 0)] [] w).trans rfl
set_option maxRecDepth 100000 in
theorem eq_Book_mend_51 (x0 x1 x2 x3 x4 x5 : Int) (w : pw) : px_R (mm_Book_mend, 51, [(2, x0), (0, x1), (0, x2), (0, x3), (0, x4), (0, x5)], [], w) =
    (if px_go w x0 0 = true then
      if x5 < (px_rd w x0 2) then
        if px_go w x0 0 = true then
          if px_ga w 0 (px_rd w x0 7) x5 = true then
            if (px_rd w (px_rd w x0 7) (x5).toNat) = x2 then
              px_R (mm_Book_mend, 51, [(2, x0), (0, x1), (0, x2), (0, x3), (0, (px_w (x4 + 1))), (0, (px_w (x5 + 1)))], [], w)
            else
              px_R (mm_Book_mend, 51, [(2, x0), (0, x1), (0, x2), (0, x3), (0, (px_w (x4 + 0))), (0, (px_w (x5 + 1)))], [], w)
          else none
        else none
      else
        some (x4, w)
    else none) := (px_Req mm_Book_mend 51 [(2, x0), (0, x1), (0, x2), (0, x3), (0, x4), (0, x5)] [] w).trans rfl
set_option maxRecDepth 100000 in
theorem eq_Book_note_0 (x0 x1 x2 x3 : Int) (w : pw) : px_R (mm_Book_note, 0, [(2, x0), (0, x1), (0, x2), (0, x3)], [], w) =
    (if px_go w x0 0 = true then
      if px_go (px_wr w x0 0 x1) x0 0 = true then
        if px_go (px_wr w x0 0 x1) x0 0 = true then
          if px_ga (px_wr w x0 0 x1) 0 (px_rd (px_wr w x0 0 x1) x0 3) (px_rd (px_wr w x0 0 x1) x0 1) = true then
            if px_go (px_wr (px_wr w x0 0 x1) (px_rd (px_wr w x0 0 x1) x0 3) ((px_rd (px_wr w x0 0 x1) x0 1)).toNat x1) x0 0 = true then
              if px_go (px_wr (px_wr w x0 0 x1) (px_rd (px_wr w x0 0 x1) x0 3) ((px_rd (px_wr w x0 0 x1) x0 1)).toNat x1) x0 0 = true then
                if px_ga (px_wr (px_wr w x0 0 x1) (px_rd (px_wr w x0 0 x1) x0 3) ((px_rd (px_wr w x0 0 x1) x0 1)).toNat x1) 0 (px_rd (px_wr (px_wr w x0 0 x1) (px_rd (px_wr w x0 0 x1) x0 3) ((px_rd (px_wr w x0 0 x1) x0 1)).toNat x1) x0 4) (px_rd (px_wr (px_wr w x0 0 x1) (px_rd (px_wr w x0 0 x1) x0 3) ((px_rd (px_wr w x0 0 x1) x0 1)).toNat x1) x0 1) = true then
                  if px_go (px_wr (px_wr (px_wr w x0 0 x1) (px_rd (px_wr w x0 0 x1) x0 3) ((px_rd (px_wr w x0 0 x1) x0 1)).toNat x1) (px_rd (px_wr (px_wr w x0 0 x1) (px_rd (px_wr w x0 0 x1) x0 3) ((px_rd (px_wr w x0 0 x1) x0 1)).toNat x1) x0 4) ((px_rd (px_wr (px_wr w x0 0 x1) (px_rd (px_wr w x0 0 x1) x0 3) ((px_rd (px_wr w x0 0 x1) x0 1)).toNat x1) x0 1)).toNat x2) x0 0 = true then
                    if px_go (px_wr (px_wr (px_wr w x0 0 x1) (px_rd (px_wr w x0 0 x1) x0 3) ((px_rd (px_wr w x0 0 x1) x0 1)).toNat x1) (px_rd (px_wr (px_wr w x0 0 x1) (px_rd (px_wr w x0 0 x1) x0 3) ((px_rd (px_wr w x0 0 x1) x0 1)).toNat x1) x0 4) ((px_rd (px_wr (px_wr w x0 0 x1) (px_rd (px_wr w x0 0 x1) x0 3) ((px_rd (px_wr w x0 0 x1) x0 1)).toNat x1) x0 1)).toNat x2) x0 0 = true then
                      if px_ga (px_wr (px_wr (px_wr w x0 0 x1) (px_rd (px_wr w x0 0 x1) x0 3) ((px_rd (px_wr w x0 0 x1) x0 1)).toNat x1) (px_rd (px_wr (px_wr w x0 0 x1) (px_rd (px_wr w x0 0 x1) x0 3) ((px_rd (px_wr w x0 0 x1) x0 1)).toNat x1) x0 4) ((px_rd (px_wr (px_wr w x0 0 x1) (px_rd (px_wr w x0 0 x1) x0 3) ((px_rd (px_wr w x0 0 x1) x0 1)).toNat x1) x0 1)).toNat x2) 0 (px_rd (px_wr (px_wr (px_wr w x0 0 x1) (px_rd (px_wr w x0 0 x1) x0 3) ((px_rd (px_wr w x0 0 x1) x0 1)).toNat x1) (px_rd (px_wr (px_wr w x0 0 x1) (px_rd (px_wr w x0 0 x1) x0 3) ((px_rd (px_wr w x0 0 x1) x0 1)).toNat x1) x0 4) ((px_rd (px_wr (px_wr w x0 0 x1) (px_rd (px_wr w x0 0 x1) x0 3) ((px_rd (px_wr w x0 0 x1) x0 1)).toNat x1) x0 1)).toNat x2) x0 5) (px_rd (px_wr (px_wr (px_wr w x0 0 x1) (px_rd (px_wr w x0 0 x1) x0 3) ((px_rd (px_wr w x0 0 x1) x0 1)).toNat x1) (px_rd (px_wr (px_wr w x0 0 x1) (px_rd (px_wr w x0 0 x1) x0 3) ((px_rd (px_wr w x0 0 x1) x0 1)).toNat x1) x0 4) ((px_rd (px_wr (px_wr w x0 0 x1) (px_rd (px_wr w x0 0 x1) x0 3) ((px_rd (px_wr w x0 0 x1) x0 1)).toNat x1) x0 1)).toNat x2) x0 1) = true then
                        px_R (mm_Book_note, 35, [(2, x0), (0, x1), (0, x2), (0, x3)], [], (px_wr (px_wr (px_wr (px_wr w x0 0 x1) (px_rd (px_wr w x0 0 x1) x0 3) ((px_rd (px_wr w x0 0 x1) x0 1)).toNat x1) (px_rd (px_wr (px_wr w x0 0 x1) (px_rd (px_wr w x0 0 x1) x0 3) ((px_rd (px_wr w x0 0 x1) x0 1)).toNat x1) x0 4) ((px_rd (px_wr (px_wr w x0 0 x1) (px_rd (px_wr w x0 0 x1) x0 3) ((px_rd (px_wr w x0 0 x1) x0 1)).toNat x1) x0 1)).toNat x2) (px_rd (px_wr (px_wr (px_wr w x0 0 x1) (px_rd (px_wr w x0 0 x1) x0 3) ((px_rd (px_wr w x0 0 x1) x0 1)).toNat x1) (px_rd (px_wr (px_wr w x0 0 x1) (px_rd (px_wr w x0 0 x1) x0 3) ((px_rd (px_wr w x0 0 x1) x0 1)).toNat x1) x0 4) ((px_rd (px_wr (px_wr w x0 0 x1) (px_rd (px_wr w x0 0 x1) x0 3) ((px_rd (px_wr w x0 0 x1) x0 1)).toNat x1) x0 1)).toNat x2) x0 5) ((px_rd (px_wr (px_wr (px_wr w x0 0 x1) (px_rd (px_wr w x0 0 x1) x0 3) ((px_rd (px_wr w x0 0 x1) x0 1)).toNat x1) (px_rd (px_wr (px_wr w x0 0 x1) (px_rd (px_wr w x0 0 x1) x0 3) ((px_rd (px_wr w x0 0 x1) x0 1)).toNat x1) x0 4) ((px_rd (px_wr (px_wr w x0 0 x1) (px_rd (px_wr w x0 0 x1) x0 3) ((px_rd (px_wr w x0 0 x1) x0 1)).toNat x1) x0 1)).toNat x2) x0 1)).toNat x3))
                      else none
                    else none
                  else none
                else none
              else none
            else none
          else none
        else none
      else none
    else none) := (px_Req mm_Book_note 0 [(2, x0), (0, x1), (0, x2), (0, x3)] [] w).trans rfl
set_option maxRecDepth 100000 in
theorem eq_Book_note_35 (x0 x1 x2 x3 : Int) (w : pw) : px_R (mm_Book_note, 35, [(2, x0), (0, x1), (0, x2), (0, x3)], [], w) =
    (if px_go w x0 0 = true then
      if px_go w x0 0 = true then
        if px_go (px_wr w x0 1 (px_w ((px_rd w x0 1) + 1))) x0 0 = true then
          some ((px_w ((px_rd (px_wr w x0 1 (px_w ((px_rd w x0 1) + 1))) x0 1) - 1)), (px_wr w x0 1 (px_w ((px_rd w x0 1) + 1))))
        else none
      else none
    else none) := (px_Req mm_Book_note 35 [(2, x0), (0, x1), (0, x2), (0, x3)] [] w).trans rfl
set_option maxRecDepth 100000 in
theorem eq_Book_writtenAsKnown_0 (x0 x1 x2 : Int) (w : pw) : px_R (mm_Book_writtenAsKnown, 0, [(2, x0), (0, x1), (0, x2), (9, 0), (9, 0)], [], w) =
    (if px_go w x0 0 = true then
      if px_ga w 0 (px_rd w x0 5) x1 = true then
        px_R (mm_Book_writtenAsKnown, 10, [(2, x0), (0, x1), (0, x2), (0, (px_rd w (px_rd w x0 5) (x1).toNat)), (0, 0)], [], w)
      else none
    else none) := (px_Req mm_Book_writtenAsKnown 0 [(2, x0), (0, x1), (0, x2), (9, 0), (9, 0)] [] w).trans rfl
set_option maxRecDepth 100000 in
theorem eq_Book_writtenAsKnown_10 (x0 x1 x2 x3 x4 : Int) (w : pw) : px_R (mm_Book_writtenAsKnown, 10, [(2, x0), (0, x1), (0, x2), (0, x3), (0, x4)], [], w) =
    (if px_go w x0 0 = true then
      if x4 < (px_rd w x0 2) then
        if px_go w x0 0 = true then
          if px_ga w 0 (px_rd w x0 7) x4 = true then
            if (px_rd w (px_rd w x0 7) (x4).toNat) = x1 then
              if px_go w x0 0 = true then
                if px_ga w 0 (px_rd w x0 6) x4 = true then
                  if x2 < (px_rd w (px_rd w x0 6) (x4).toNat) then
                    px_R (mm_Book_writtenAsKnown, 10, [(2, x0), (0, x1), (0, x2), (0, x3), (0, (px_w (x4 + 1)))], [], w)
                  else
                    if px_go w x0 0 = true then
                      if px_ga w 0 (px_rd w x0 8) x4 = true then
                        px_R (mm_Book_writtenAsKnown, 10, [(2, x0), (0, x1), (0, x2), (0, (px_rd w (px_rd w x0 8) (x4).toNat)), (0, (px_w (x4 + 1)))], [], w)
                      else none
                    else none
                else none
              else none
            else
              px_R (mm_Book_writtenAsKnown, 10, [(2, x0), (0, x1), (0, x2), (0, x3), (0, (px_w (x4 + 1)))], [], w)
          else none
        else none
      else
        some (x3, w)
    else none) := (px_Req mm_Book_writtenAsKnown 10 [(2, x0), (0, x1), (0, x2), (0, x3), (0, x4)] [] w).trans rfl
set_option maxRecDepth 100000 in
theorem eq_Ear_allWays_0 (x0 : Int) (w : pw) : px_R (mm_Ear_allWays, 0, [(2, x0), (9, 0)], [], w) =
    (if px_go w x0 1 = true then
      if px_go w x0 1 = true then
        some ((px_w ((px_w ((px_w ((px_w ((px_w ((px_rd w x0 1) + 1)) * (px_w ((px_rd w x0 1) + 1)))) * (px_w ((px_w ((px_rd w x0 1) + 1)) * (px_w ((px_rd w x0 1) + 1)))))) * (px_w ((px_w ((px_rd w x0 1) + 1)) * (px_w ((px_rd w x0 1) + 1)))))) * (px_w ((px_w ((px_rd w x0 1) + 1)) * (px_w ((px_rd w x0 1) + 1)))))), w)
      else none
    else none) := (px_Req mm_Ear_allWays 0 [(2, x0), (9, 0)] [] w).trans rfl
set_option maxRecDepth 100000 in
theorem eq_Ear_nearest_0 (x0 x1 : Int) (w : pw) : px_R (mm_Ear_nearest, 0, [(2, x0), (1, x1), (9, 0), (9, 0), (9, 0), (9, 0), (9, 0), (9, 0), (9, 0)], [], w) =
    (px_R (mm_Ear_nearest, 13, [(2, x0), (1, x1), (9, 0), (1, x1), (9, 0), (0, 1024), (0, 0), (0, 0), (9, 0)], [], w)) := (px_Req mm_Ear_nearest 0 [(2, x0), (1, x1), (9, 0), (9, 0), (9, 0), (9, 0), (9, 0), (9, 0), (9, 0)] [] w).trans rfl
set_option maxRecDepth 100000 in
theorem eq_Ear_nearest_13 (x0 x1 x3 x5 x6 x7 : Int) (y8 : pv) (w : pw) : px_R (mm_Ear_nearest, 13, [(2, x0), (1, x1), (9, 0), (1, x3), (9, 0), (0, x5), (0, x6), (0, x7), y8], [], w) =
    (if px_go w x0 1 = true then
      if x7 < (px_rd w x0 5) then
        if (px_and (px_w x3) 1023) < x5 then
          px_R (mm_Ear_nearest, 13, [(2, x0), (1, x1), (9, 0), (1, (px_lshr x3 10)), (9, 0), (0, (px_and (px_w x3) 1023)), (0, x7), (0, (px_w (x7 + 1))), (0, (px_and (px_w x3) 1023))], [], w)
        else
          px_R (mm_Ear_nearest, 13, [(2, x0), (1, x1), (9, 0), (1, (px_lshr x3 10)), (9, 0), (0, x5), (0, x6), (0, (px_w (x7 + 1))), (0, (px_and (px_w x3) 1023))], [], w)
      else
        if px_go w x0 1 = true then
          if px_ga w 0 (px_rd w x0 6) x6 = true then
            some ((px_rd w (px_rd w x0 6) (x6).toNat), w)
          else none
        else none
    else none) := (px_Req mm_Ear_nearest 13 [(2, x0), (1, x1), (9, 0), (1, x3), (9, 0), (0, x5), (0, x6), (0, x7), y8] [] w).trans rfl
set_option maxRecDepth 100000 in
theorem eq_Ear_soundsAsEarlier_0 (x0 x1 : Int) (w : pw) : px_R (mm_Ear_soundsAsEarlier, 0, [(2, x0), (0, x1), (9, 0), (9, 0), (9, 0), (9, 0)], [], w) =
    (px_R (mm_Ear_soundsAsEarlier, 2, [(2, x0), (0, x1), (0, 0), (9, 0), (9, 0), (9, 0)], [], w)) := (px_Req mm_Ear_soundsAsEarlier 0 [(2, x0), (0, x1), (9, 0), (9, 0), (9, 0), (9, 0)] [] w).trans rfl
set_option maxRecDepth 100000 in
theorem eq_Ear_soundsAsEarlier_2 (x0 x1 x2 : Int) (y3 y4 y5 : pv) (w : pw) : px_R (mm_Ear_soundsAsEarlier, 2, [(2, x0), (0, x1), (0, x2), y3, y4, y5], [], w) =
    (if px_go w x0 1 = true then
      if x2 < (px_rd w x0 5) then
        if px_go w x0 1 = true then
          if px_go w x0 1 = true then
            if px_ga w 0 (px_rd w x0 6) x2 = true then
              if (px_ga w 4 (px_rd w x0 2) (px_rd w (px_rd w x0 6) (x2).toNat) || (px_ga w 5 (px_rd w x0 2) (px_rd w (px_rd w x0 6) (x2).toNat) || px_ga w 6 (px_rd w x0 2) (px_rd w (px_rd w x0 6) (x2).toNat))) = true then
                px_R (mm_Ear_soundsAsEarlier, 28, [(2, x0), (0, x1), (0, x2), (2, (px_rd w (px_rd w x0 2) ((px_rd w (px_rd w x0 6) (x2).toNat)).toNat)), (0, 0), (0, 0)], [], w)
              else none
            else none
          else none
        else none
      else
        some (0, w)
    else none) := (px_Req mm_Ear_soundsAsEarlier 2 [(2, x0), (0, x1), (0, x2), y3, y4, y5] [] w).trans rfl
set_option maxRecDepth 100000 in
theorem eq_Ear_soundsAsEarlier_28 (x0 x1 x2 x3 x4 x5 : Int) (w : pw) : px_R (mm_Ear_soundsAsEarlier, 28, [(2, x0), (0, x1), (0, x2), (2, x3), (0, x4), (0, x5)], [], w) =
    (if x5 < 4 then
      if px_go w x0 1 = true then
        if (px_ga w 4 (px_rd w x0 2) x1 || (px_ga w 5 (px_rd w x0 2) x1 || px_ga w 6 (px_rd w x0 2) x1)) = true then
          if px_ga w 0 (px_rd w (px_rd w x0 2) (x1).toNat) x5 = true then
            if px_ga w 0 x3 x5 = true then
              if (px_rd w (px_rd w (px_rd w x0 2) (x1).toNat) (x5).toNat) = (px_rd w x3 (x5).toNat) then
                px_R (mm_Ear_soundsAsEarlier, 28, [(2, x0), (0, x1), (0, x2), (2, x3), (0, (px_w (x4 + 1))), (0, (px_w (x5 + 1)))], [], w)
              else
                px_R (mm_Ear_soundsAsEarlier, 28, [(2, x0), (0, x1), (0, x2), (2, x3), (0, (px_w (x4 + 0))), (0, (px_w (x5 + 1)))], [], w)
            else none
          else none
        else none
      else none
    else
      if x4 = 4 then
        some (1, w)
      else
        px_R (mm_Ear_soundsAsEarlier, 2, [(2, x0), (0, x1), (0, (px_w (x2 + 1))), (2, x3), (0, x4), (0, x5)], [], w)) := (px_Req mm_Ear_soundsAsEarlier 28 [(2, x0), (0, x1), (0, x2), (2, x3), (0, x4), (0, x5)] [] w).trans rfl
set_option maxRecDepth 100000 in
theorem eq_Line_begin_0 (x0 : Int) (w : pw) : px_R (mm_Line_begin, 0, [(2, x0)], [], w) =
    (if px_go w x0 2 = true then
      if px_go (px_wr w x0 0 0) x0 2 = true then
        if px_go (px_wr (px_wr w x0 0 0) x0 1 0) x0 2 = true then
          if px_go (px_wr (px_wr (px_wr w x0 0 0) x0 1 0) x0 2 10) x0 2 = true then
            px_R (mm_Line_begin, 21, [(2, x0)], [], (px_wr (px_wr (px_wr (px_wr w x0 0 0) x0 1 0) x0 2 10) x0 3 0))
          else none
        else none
      else none
    else none) := (px_Req mm_Line_begin 0 [(2, x0)] [] w).trans rfl
set_option maxRecDepth 100000 in
theorem eq_Line_begin_21 (x0 : Int) (w : pw) : px_R (mm_Line_begin, 21, [(2, x0)], [], w) =
    (if px_go w x0 2 = true then
      if px_go (px_wr w x0 4 0) x0 2 = true then
        some (0, (px_wr (px_wr w x0 4 0) x0 6 0))
      else none
    else none) := (px_Req mm_Line_begin 21 [(2, x0)] [] w).trans rfl
set_option maxRecDepth 100000 in
theorem eq_Line_change_0 (x0 x1 x2 x3 : Int) (w : pw) : px_R (mm_Line_change, 0, [(2, x0), (0, x1), (0, x2), (0, x3), (9, 0)], [], w) =
    (if px_go w x0 2 = true then
      if x1 = 0 then
        if px_go w x0 2 = true then
          some ((px_rd w x0 0), (px_wr w x0 0 x3))
        else none
      else
        if x1 = 1 then
          if px_go w x0 2 = true then
            if px_go w x0 2 = true then
              some ((px_rd w x0 1), (px_wr w x0 1 x3))
            else none
          else none
        else
          if x2 < 0 then
            some ((px_rd w x0 0), w)
          else
            if px_go w x0 2 = true then
              if x2 < (px_rd w x0 4) then
                if px_go w x0 2 = true then
                  if px_ga w 0 (px_rd w x0 5) x2 = true then
                    if px_go w x0 2 = true then
                      if px_ga w 0 (px_rd w x0 5) x2 = true then
                        some ((px_rd w (px_rd w x0 5) (x2).toNat), (px_wr w (px_rd w x0 5) (x2).toNat x3))
                      else none
                    else none
                  else none
                else none
              else
                some ((px_rd w x0 0), w)
            else none
    else none) := (px_Req mm_Line_change 0 [(2, x0), (0, x1), (0, x2), (0, x3), (9, 0)] [] w).trans rfl
set_option maxRecDepth 100000 in
theorem eq_Prod_beOne_0 (x0 : Int) (w : pw) : px_R (mm_Prod_beOne, 0, [(2, x0), (9, 0)], [], w) =
    (px_R (mm_Prod_beOne, 2, [(2, x0), (0, 0)], [], w)) := (px_Req mm_Prod_beOne 0 [(2, x0), (9, 0)] [] w).trans rfl
set_option maxRecDepth 100000 in
theorem eq_Prod_beOne_2 (x0 x1 : Int) (w : pw) : px_R (mm_Prod_beOne, 2, [(2, x0), (0, x1)], [], w) =
    (if x1 < 11 then
      if px_go w x0 3 = true then
        if px_ga w 1 (px_rd w x0 0) x1 = true then
          px_R (mm_Prod_beOne, 2, [(2, x0), (0, (px_w (x1 + 1)))], [], (px_wr w (px_rd w x0 0) (x1).toNat 0))
        else none
      else none
    else
      if px_go w x0 3 = true then
        if px_ga w 1 (px_rd w x0 0) 0 = true then
          some (0, (px_wr w (px_rd w x0 0) 0 1))
        else none
      else none) := (px_Req mm_Prod_beOne 2 [(2, x0), (0, x1)] [] w).trans rfl
set_option maxRecDepth 100000 in
theorem eq_Prod_become_0 (x0 x1 : Int) (w : pw) : px_R (mm_Prod_become, 0, [(2, x0), (2, x1), (9, 0)], [], w) =
    (px_R (mm_Prod_become, 2, [(2, x0), (2, x1), (0, 0)], [], w)) := (px_Req mm_Prod_become 0 [(2, x0), (2, x1), (9, 0)] [] w).trans rfl
set_option maxRecDepth 100000 in
theorem eq_Prod_become_2 (x0 x1 x2 : Int) (w : pw) : px_R (mm_Prod_become, 2, [(2, x0), (2, x1), (0, x2)], [], w) =
    (if x2 < 11 then
      if px_go w x0 3 = true then
        if px_go w x1 3 = true then
          if px_ga w 1 (px_rd w x1 0) x2 = true then
            if px_ga w 1 (px_rd w x0 0) x2 = true then
              px_R (mm_Prod_become, 2, [(2, x0), (2, x1), (0, (px_w (x2 + 1)))], [], (px_wr w (px_rd w x0 0) (x2).toNat (px_rd w (px_rd w x1 0) (x2).toNat)))
            else none
          else none
        else none
      else none
    else
      some (0, w)) := (px_Req mm_Prod_become 2 [(2, x0), (2, x1), (0, x2)] [] w).trans rfl
set_option maxRecDepth 100000 in
theorem eq_Prod_isAbove_0 (x0 x1 : Int) (w : pw) : px_R (mm_Prod_isAbove, 0, [(2, x0), (2, x1), (9, 0)], [], w) =
    (px_R (mm_Prod_isAbove, 3, [(2, x0), (2, x1), (0, 10)], [], w)) := (px_Req mm_Prod_isAbove 0 [(2, x0), (2, x1), (9, 0)] [] w).trans rfl
set_option maxRecDepth 100000 in
theorem eq_Prod_isAbove_3 (x0 x1 x2 : Int) (w : pw) : px_R (mm_Prod_isAbove, 3, [(2, x0), (2, x1), (0, x2)], [], w) =
    (if x2 < 0 then
      some (0, w)
    else
      if px_go w x0 3 = true then
        if px_ga w 1 (px_rd w x0 0) x2 = true then
          if px_go w x1 3 = true then
            if px_ga w 1 (px_rd w x1 0) x2 = true then
              if (px_cmp (px_rd w (px_rd w x0 0) (x2).toNat) (px_rd w (px_rd w x1 0) (x2).toNat)) = 0 then
                px_R (mm_Prod_isAbove, 3, [(2, x0), (2, x1), (0, (px_w (x2 + (-1))))], [], w)
              else
                if px_go w x0 3 = true then
                  if px_ga w 1 (px_rd w x0 0) x2 = true then
                    if px_go w x1 3 = true then
                      if px_ga w 1 (px_rd w x1 0) x2 = true then
                        if 0 < (px_cmp (px_rd w (px_rd w x0 0) (x2).toNat) (px_rd w (px_rd w x1 0) (x2).toNat)) then
                          some (1, w)
                        else
                          some (0, w)
                      else none
                    else none
                  else none
                else none
            else none
          else none
        else none
      else none) := (px_Req mm_Prod_isAbove 3 [(2, x0), (2, x1), (0, x2)] [] w).trans rfl
set_option maxRecDepth 100000 in
theorem eq_Prod_times_0 (x0 x1 : Int) (w : pw) : px_R (mm_Prod_times, 0, [(2, x0), (0, x1), (9, 0), (9, 0), (9, 0), (9, 0), (9, 0)], [], w) =
    (px_R (mm_Prod_times, 5, [(2, x0), (0, x1), (1, 0), (9, 0), (0, 0), (9, 0), (9, 0)], [], w)) := (px_Req mm_Prod_times 0 [(2, x0), (0, x1), (9, 0), (9, 0), (9, 0), (9, 0), (9, 0)] [] w).trans rfl
set_option maxRecDepth 100000 in
theorem eq_Prod_times_5 (x0 x1 x2 x4 : Int) (y5 : pv) (w : pw) : px_R (mm_Prod_times, 5, [(2, x0), (0, x1), (1, x2), (9, 0), (0, x4), y5, (9, 0)], [], w) =
    (if x4 < 11 then
      if px_go w x0 3 = true then
        if px_ga w 1 (px_rd w x0 0) x4 = true then
          if px_go w x0 3 = true then
            if px_ga w 1 (px_rd w x0 0) x4 = true then
              px_R (mm_Prod_times, 5, [(2, x0), (0, x1), (1, (px_lush (px_wl ((px_wl ((px_rd w (px_rd w x0 0) (x4).toNat) * x1)) + x2)) 32)), (9, 0), (0, (px_w (x4 + 1))), (1, (px_wl ((px_wl ((px_rd w (px_rd w x0 0) (x4).toNat) * x1)) + x2))), (9, 0)], [], (px_wr w (px_rd w x0 0) (x4).toNat (px_land (px_wl ((px_wl ((px_rd w (px_rd w x0 0) (x4).toNat) * x1)) + x2)) 4294967295)))
            else none
          else none
        else none
      else none
    else
      some (0, w)) := (px_Req mm_Prod_times 5 [(2, x0), (0, x1), (1, x2), (9, 0), (0, x4), y5, (9, 0)] [] w).trans rfl
set_option maxRecDepth 100000 in
theorem eq_Row_become_0 (x0 x1 : Int) (w : pw) : px_R (mm_Row_become, 0, [(2, x0), (2, x1), (9, 0)], [], w) =
    (if px_go w x1 4 = true then
      if px_go w x0 4 = true then
        if px_go (px_wr w x0 0 (px_rd w x1 0)) x1 4 = true then
          if px_go (px_wr w x0 0 (px_rd w x1 0)) x0 4 = true then
            if px_go (px_wr (px_wr w x0 0 (px_rd w x1 0)) x0 1 (px_rd (px_wr w x0 0 (px_rd w x1 0)) x1 1)) x1 4 = true then
              if px_go (px_wr (px_wr w x0 0 (px_rd w x1 0)) x0 1 (px_rd (px_wr w x0 0 (px_rd w x1 0)) x1 1)) x0 4 = true then
                if px_go (px_wr (px_wr (px_wr w x0 0 (px_rd w x1 0)) x0 1 (px_rd (px_wr w x0 0 (px_rd w x1 0)) x1 1)) x0 2 (px_rd (px_wr (px_wr w x0 0 (px_rd w x1 0)) x0 1 (px_rd (px_wr w x0 0 (px_rd w x1 0)) x1 1)) x1 2)) x1 4 = true then
                  if px_go (px_wr (px_wr (px_wr w x0 0 (px_rd w x1 0)) x0 1 (px_rd (px_wr w x0 0 (px_rd w x1 0)) x1 1)) x0 2 (px_rd (px_wr (px_wr w x0 0 (px_rd w x1 0)) x0 1 (px_rd (px_wr w x0 0 (px_rd w x1 0)) x1 1)) x1 2)) x0 4 = true then
                    px_R (mm_Row_become, 32, [(2, x0), (2, x1), (9, 0)], [], (px_wr (px_wr (px_wr (px_wr w x0 0 (px_rd w x1 0)) x0 1 (px_rd (px_wr w x0 0 (px_rd w x1 0)) x1 1)) x0 2 (px_rd (px_wr (px_wr w x0 0 (px_rd w x1 0)) x0 1 (px_rd (px_wr w x0 0 (px_rd w x1 0)) x1 1)) x1 2)) x0 3 (px_rd (px_wr (px_wr (px_wr w x0 0 (px_rd w x1 0)) x0 1 (px_rd (px_wr w x0 0 (px_rd w x1 0)) x1 1)) x0 2 (px_rd (px_wr (px_wr w x0 0 (px_rd w x1 0)) x0 1 (px_rd (px_wr w x0 0 (px_rd w x1 0)) x1 1)) x1 2)) x1 3)))
                  else none
                else none
              else none
            else none
          else none
        else none
      else none
    else none) := (px_Req mm_Row_become 0 [(2, x0), (2, x1), (9, 0)] [] w).trans rfl
set_option maxRecDepth 100000 in
theorem eq_Row_become_32 (x0 x1 : Int) (w : pw) : px_R (mm_Row_become, 32, [(2, x0), (2, x1), (9, 0)], [], w) =
    (px_R (mm_Row_become, 34, [(2, x0), (2, x1), (0, 0)], [], w)) := (px_Req mm_Row_become 32 [(2, x0), (2, x1), (9, 0)] [] w).trans rfl
set_option maxRecDepth 100000 in
theorem eq_Row_become_34 (x0 x1 x2 : Int) (w : pw) : px_R (mm_Row_become, 34, [(2, x0), (2, x1), (0, x2)], [], w) =
    (if x2 < 40 then
      if px_go w x0 4 = true then
        if px_go w x1 4 = true then
          if px_ga w 0 (px_rd w x1 4) x2 = true then
            if px_ga w 0 (px_rd w x0 4) x2 = true then
              if px_go (px_wr w (px_rd w x0 4) (x2).toNat (px_rd w (px_rd w x1 4) (x2).toNat)) x0 4 = true then
                if px_go (px_wr w (px_rd w x0 4) (x2).toNat (px_rd w (px_rd w x1 4) (x2).toNat)) x1 4 = true then
                  if px_ga (px_wr w (px_rd w x0 4) (x2).toNat (px_rd w (px_rd w x1 4) (x2).toNat)) 0 (px_rd (px_wr w (px_rd w x0 4) (x2).toNat (px_rd w (px_rd w x1 4) (x2).toNat)) x1 5) x2 = true then
                    if px_ga (px_wr w (px_rd w x0 4) (x2).toNat (px_rd w (px_rd w x1 4) (x2).toNat)) 0 (px_rd (px_wr w (px_rd w x0 4) (x2).toNat (px_rd w (px_rd w x1 4) (x2).toNat)) x0 5) x2 = true then
                      if px_go (px_wr (px_wr w (px_rd w x0 4) (x2).toNat (px_rd w (px_rd w x1 4) (x2).toNat)) (px_rd (px_wr w (px_rd w x0 4) (x2).toNat (px_rd w (px_rd w x1 4) (x2).toNat)) x0 5) (x2).toNat (px_rd (px_wr w (px_rd w x0 4) (x2).toNat (px_rd w (px_rd w x1 4) (x2).toNat)) (px_rd (px_wr w (px_rd w x0 4) (x2).toNat (px_rd w (px_rd w x1 4) (x2).toNat)) x1 5) (x2).toNat)) x0 4 = true then
                        if px_go (px_wr (px_wr w (px_rd w x0 4) (x2).toNat (px_rd w (px_rd w x1 4) (x2).toNat)) (px_rd (px_wr w (px_rd w x0 4) (x2).toNat (px_rd w (px_rd w x1 4) (x2).toNat)) x0 5) (x2).toNat (px_rd (px_wr w (px_rd w x0 4) (x2).toNat (px_rd w (px_rd w x1 4) (x2).toNat)) (px_rd (px_wr w (px_rd w x0 4) (x2).toNat (px_rd w (px_rd w x1 4) (x2).toNat)) x1 5) (x2).toNat)) x1 4 = true then
                          if px_ga (px_wr (px_wr w (px_rd w x0 4) (x2).toNat (px_rd w (px_rd w x1 4) (x2).toNat)) (px_rd (px_wr w (px_rd w x0 4) (x2).toNat (px_rd w (px_rd w x1 4) (x2).toNat)) x0 5) (x2).toNat (px_rd (px_wr w (px_rd w x0 4) (x2).toNat (px_rd w (px_rd w x1 4) (x2).toNat)) (px_rd (px_wr w (px_rd w x0 4) (x2).toNat (px_rd w (px_rd w x1 4) (x2).toNat)) x1 5) (x2).toNat)) 0 (px_rd (px_wr (px_wr w (px_rd w x0 4) (x2).toNat (px_rd w (px_rd w x1 4) (x2).toNat)) (px_rd (px_wr w (px_rd w x0 4) (x2).toNat (px_rd w (px_rd w x1 4) (x2).toNat)) x0 5) (x2).toNat (px_rd (px_wr w (px_rd w x0 4) (x2).toNat (px_rd w (px_rd w x1 4) (x2).toNat)) (px_rd (px_wr w (px_rd w x0 4) (x2).toNat (px_rd w (px_rd w x1 4) (x2).toNat)) x1 5) (x2).toNat)) x1 6) x2 = true then
                            if px_ga (px_wr (px_wr w (px_rd w x0 4) (x2).toNat (px_rd w (px_rd w x1 4) (x2).toNat)) (px_rd (px_wr w (px_rd w x0 4) (x2).toNat (px_rd w (px_rd w x1 4) (x2).toNat)) x0 5) (x2).toNat (px_rd (px_wr w (px_rd w x0 4) (x2).toNat (px_rd w (px_rd w x1 4) (x2).toNat)) (px_rd (px_wr w (px_rd w x0 4) (x2).toNat (px_rd w (px_rd w x1 4) (x2).toNat)) x1 5) (x2).toNat)) 0 (px_rd (px_wr (px_wr w (px_rd w x0 4) (x2).toNat (px_rd w (px_rd w x1 4) (x2).toNat)) (px_rd (px_wr w (px_rd w x0 4) (x2).toNat (px_rd w (px_rd w x1 4) (x2).toNat)) x0 5) (x2).toNat (px_rd (px_wr w (px_rd w x0 4) (x2).toNat (px_rd w (px_rd w x1 4) (x2).toNat)) (px_rd (px_wr w (px_rd w x0 4) (x2).toNat (px_rd w (px_rd w x1 4) (x2).toNat)) x1 5) (x2).toNat)) x0 6) x2 = true then
                              if px_go (px_wr (px_wr (px_wr w (px_rd w x0 4) (x2).toNat (px_rd w (px_rd w x1 4) (x2).toNat)) (px_rd (px_wr w (px_rd w x0 4) (x2).toNat (px_rd w (px_rd w x1 4) (x2).toNat)) x0 5) (x2).toNat (px_rd (px_wr w (px_rd w x0 4) (x2).toNat (px_rd w (px_rd w x1 4) (x2).toNat)) (px_rd (px_wr w (px_rd w x0 4) (x2).toNat (px_rd w (px_rd w x1 4) (x2).toNat)) x1 5) (x2).toNat)) (px_rd (px_wr (px_wr w (px_rd w x0 4) (x2).toNat (px_rd w (px_rd w x1 4) (x2).toNat)) (px_rd (px_wr w (px_rd w x0 4) (x2).toNat (px_rd w (px_rd w x1 4) (x2).toNat)) x0 5) (x2).toNat (px_rd (px_wr w (px_rd w x0 4) (x2).toNat (px_rd w (px_rd w x1 4) (x2).toNat)) (px_rd (px_wr w (px_rd w x0 4) (x2).toNat (px_rd w (px_rd w x1 4) (x2).toNat)) x1 5) (x2).toNat)) x0 6) (x2).toNat (px_rd (px_wr (px_wr w (px_rd w x0 4) (x2).toNat (px_rd w (px_rd w x1 4) (x2).toNat)) (px_rd (px_wr w (px_rd w x0 4) (x2).toNat (px_rd w (px_rd w x1 4) (x2).toNat)) x0 5) (x2).toNat (px_rd (px_wr w (px_rd w x0 4) (x2).toNat (px_rd w (px_rd w x1 4) (x2).toNat)) (px_rd (px_wr w (px_rd w x0 4) (x2).toNat (px_rd w (px_rd w x1 4) (x2).toNat)) x1 5) (x2).toNat)) (px_rd (px_wr (px_wr w (px_rd w x0 4) (x2).toNat (px_rd w (px_rd w x1 4) (x2).toNat)) (px_rd (px_wr w (px_rd w x0 4) (x2).toNat (px_rd w (px_rd w x1 4) (x2).toNat)) x0 5) (x2).toNat (px_rd (px_wr w (px_rd w x0 4) (x2).toNat (px_rd w (px_rd w x1 4) (x2).toNat)) (px_rd (px_wr w (px_rd w x0 4) (x2).toNat (px_rd w (px_rd w x1 4) (x2).toNat)) x1 5) (x2).toNat)) x1 6) (x2).toNat)) x0 4 = true then
                                if px_go (px_wr (px_wr (px_wr w (px_rd w x0 4) (x2).toNat (px_rd w (px_rd w x1 4) (x2).toNat)) (px_rd (px_wr w (px_rd w x0 4) (x2).toNat (px_rd w (px_rd w x1 4) (x2).toNat)) x0 5) (x2).toNat (px_rd (px_wr w (px_rd w x0 4) (x2).toNat (px_rd w (px_rd w x1 4) (x2).toNat)) (px_rd (px_wr w (px_rd w x0 4) (x2).toNat (px_rd w (px_rd w x1 4) (x2).toNat)) x1 5) (x2).toNat)) (px_rd (px_wr (px_wr w (px_rd w x0 4) (x2).toNat (px_rd w (px_rd w x1 4) (x2).toNat)) (px_rd (px_wr w (px_rd w x0 4) (x2).toNat (px_rd w (px_rd w x1 4) (x2).toNat)) x0 5) (x2).toNat (px_rd (px_wr w (px_rd w x0 4) (x2).toNat (px_rd w (px_rd w x1 4) (x2).toNat)) (px_rd (px_wr w (px_rd w x0 4) (x2).toNat (px_rd w (px_rd w x1 4) (x2).toNat)) x1 5) (x2).toNat)) x0 6) (x2).toNat (px_rd (px_wr (px_wr w (px_rd w x0 4) (x2).toNat (px_rd w (px_rd w x1 4) (x2).toNat)) (px_rd (px_wr w (px_rd w x0 4) (x2).toNat (px_rd w (px_rd w x1 4) (x2).toNat)) x0 5) (x2).toNat (px_rd (px_wr w (px_rd w x0 4) (x2).toNat (px_rd w (px_rd w x1 4) (x2).toNat)) (px_rd (px_wr w (px_rd w x0 4) (x2).toNat (px_rd w (px_rd w x1 4) (x2).toNat)) x1 5) (x2).toNat)) (px_rd (px_wr (px_wr w (px_rd w x0 4) (x2).toNat (px_rd w (px_rd w x1 4) (x2).toNat)) (px_rd (px_wr w (px_rd w x0 4) (x2).toNat (px_rd w (px_rd w x1 4) (x2).toNat)) x0 5) (x2).toNat (px_rd (px_wr w (px_rd w x0 4) (x2).toNat (px_rd w (px_rd w x1 4) (x2).toNat)) (px_rd (px_wr w (px_rd w x0 4) (x2).toNat (px_rd w (px_rd w x1 4) (x2).toNat)) x1 5) (x2).toNat)) x1 6) (x2).toNat)) x1 4 = true then
                                  if px_ga (px_wr (px_wr (px_wr w (px_rd w x0 4) (x2).toNat (px_rd w (px_rd w x1 4) (x2).toNat)) (px_rd (px_wr w (px_rd w x0 4) (x2).toNat (px_rd w (px_rd w x1 4) (x2).toNat)) x0 5) (x2).toNat (px_rd (px_wr w (px_rd w x0 4) (x2).toNat (px_rd w (px_rd w x1 4) (x2).toNat)) (px_rd (px_wr w (px_rd w x0 4) (x2).toNat (px_rd w (px_rd w x1 4) (x2).toNat)) x1 5) (x2).toNat)) (px_rd (px_wr (px_wr w (px_rd w x0 4) (x2).toNat (px_rd w (px_rd w x1 4) (x2).toNat)) (px_rd (px_wr w (px_rd w x0 4) (x2).toNat (px_rd w (px_rd w x1 4) (x2).toNat)) x0 5) (x2).toNat (px_rd (px_wr w (px_rd w x0 4) (x2).toNat (px_rd w (px_rd w x1 4) (x2).toNat)) (px_rd (px_wr w (px_rd w x0 4) (x2).toNat (px_rd w (px_rd w x1 4) (x2).toNat)) x1 5) (x2).toNat)) x0 6) (x2).toNat (px_rd (px_wr (px_wr w (px_rd w x0 4) (x2).toNat (px_rd w (px_rd w x1 4) (x2).toNat)) (px_rd (px_wr w (px_rd w x0 4) (x2).toNat (px_rd w (px_rd w x1 4) (x2).toNat)) x0 5) (x2).toNat (px_rd (px_wr w (px_rd w x0 4) (x2).toNat (px_rd w (px_rd w x1 4) (x2).toNat)) (px_rd (px_wr w (px_rd w x0 4) (x2).toNat (px_rd w (px_rd w x1 4) (x2).toNat)) x1 5) (x2).toNat)) (px_rd (px_wr (px_wr w (px_rd w x0 4) (x2).toNat (px_rd w (px_rd w x1 4) (x2).toNat)) (px_rd (px_wr w (px_rd w x0 4) (x2).toNat (px_rd w (px_rd w x1 4) (x2).toNat)) x0 5) (x2).toNat (px_rd (px_wr w (px_rd w x0 4) (x2).toNat (px_rd w (px_rd w x1 4) (x2).toNat)) (px_rd (px_wr w (px_rd w x0 4) (x2).toNat (px_rd w (px_rd w x1 4) (x2).toNat)) x1 5) (x2).toNat)) x1 6) (x2).toNat)) 0 (px_rd (px_wr (px_wr (px_wr w (px_rd w x0 4) (x2).toNat (px_rd w (px_rd w x1 4) (x2).toNat)) (px_rd (px_wr w (px_rd w x0 4) (x2).toNat (px_rd w (px_rd w x1 4) (x2).toNat)) x0 5) (x2).toNat (px_rd (px_wr w (px_rd w x0 4) (x2).toNat (px_rd w (px_rd w x1 4) (x2).toNat)) (px_rd (px_wr w (px_rd w x0 4) (x2).toNat (px_rd w (px_rd w x1 4) (x2).toNat)) x1 5) (x2).toNat)) (px_rd (px_wr (px_wr w (px_rd w x0 4) (x2).toNat (px_rd w (px_rd w x1 4) (x2).toNat)) (px_rd (px_wr w (px_rd w x0 4) (x2).toNat (px_rd w (px_rd w x1 4) (x2).toNat)) x0 5) (x2).toNat (px_rd (px_wr w (px_rd w x0 4) (x2).toNat (px_rd w (px_rd w x1 4) (x2).toNat)) (px_rd (px_wr w (px_rd w x0 4) (x2).toNat (px_rd w (px_rd w x1 4) (x2).toNat)) x1 5) (x2).toNat)) x0 6) (x2).toNat (px_rd (px_wr (px_wr w (px_rd w x0 4) (x2).toNat (px_rd w (px_rd w x1 4) (x2).toNat)) (px_rd (px_wr w (px_rd w x0 4) (x2).toNat (px_rd w (px_rd w x1 4) (x2).toNat)) x0 5) (x2).toNat (px_rd (px_wr w (px_rd w x0 4) (x2).toNat (px_rd w (px_rd w x1 4) (x2).toNat)) (px_rd (px_wr w (px_rd w x0 4) (x2).toNat (px_rd w (px_rd w x1 4) (x2).toNat)) x1 5) (x2).toNat)) (px_rd (px_wr (px_wr w (px_rd w x0 4) (x2).toNat (px_rd w (px_rd w x1 4) (x2).toNat)) (px_rd (px_wr w (px_rd w x0 4) (x2).toNat (px_rd w (px_rd w x1 4) (x2).toNat)) x0 5) (x2).toNat (px_rd (px_wr w (px_rd w x0 4) (x2).toNat (px_rd w (px_rd w x1 4) (x2).toNat)) (px_rd (px_wr w (px_rd w x0 4) (x2).toNat (px_rd w (px_rd w x1 4) (x2).toNat)) x1 5) (x2).toNat)) x1 6) (x2).toNat)) x1 7) x2 = true then
                                    if px_ga (px_wr (px_wr (px_wr w (px_rd w x0 4) (x2).toNat (px_rd w (px_rd w x1 4) (x2).toNat)) (px_rd (px_wr w (px_rd w x0 4) (x2).toNat (px_rd w (px_rd w x1 4) (x2).toNat)) x0 5) (x2).toNat (px_rd (px_wr w (px_rd w x0 4) (x2).toNat (px_rd w (px_rd w x1 4) (x2).toNat)) (px_rd (px_wr w (px_rd w x0 4) (x2).toNat (px_rd w (px_rd w x1 4) (x2).toNat)) x1 5) (x2).toNat)) (px_rd (px_wr (px_wr w (px_rd w x0 4) (x2).toNat (px_rd w (px_rd w x1 4) (x2).toNat)) (px_rd (px_wr w (px_rd w x0 4) (x2).toNat (px_rd w (px_rd w x1 4) (x2).toNat)) x0 5) (x2).toNat (px_rd (px_wr w (px_rd w x0 4) (x2).toNat (px_rd w (px_rd w x1 4) (x2).toNat)) (px_rd (px_wr w (px_rd w x0 4) (x2).toNat (px_rd w (px_rd w x1 4) (x2).toNat)) x1 5) (x2).toNat)) x0 6) (x2).toNat (px_rd (px_wr (px_wr w (px_rd w x0 4) (x2).toNat (px_rd w (px_rd w x1 4) (x2).toNat)) (px_rd (px_wr w (px_rd w x0 4) (x2).toNat (px_rd w (px_rd w x1 4) (x2).toNat)) x0 5) (x2).toNat (px_rd (px_wr w (px_rd w x0 4) (x2).toNat (px_rd w (px_rd w x1 4) (x2).toNat)) (px_rd (px_wr w (px_rd w x0 4) (x2).toNat (px_rd w (px_rd w x1 4) (x2).toNat)) x1 5) (x2).toNat)) (px_rd (px_wr (px_wr w (px_rd w x0 4) (x2).toNat (px_rd w (px_rd w x1 4) (x2).toNat)) (px_rd (px_wr w (px_rd w x0 4) (x2).toNat (px_rd w (px_rd w x1 4) (x2).toNat)) x0 5) (x2).toNat (px_rd (px_wr w (px_rd w x0 4) (x2).toNat (px_rd w (px_rd w x1 4) (x2).toNat)) (px_rd (px_wr w (px_rd w x0 4) (x2).toNat (px_rd w (px_rd w x1 4) (x2).toNat)) x1 5) (x2).toNat)) x1 6) (x2).toNat)) 0 (px_rd (px_wr (px_wr (px_wr w (px_rd w x0 4) (x2).toNat (px_rd w (px_rd w x1 4) (x2).toNat)) (px_rd (px_wr w (px_rd w x0 4) (x2).toNat (px_rd w (px_rd w x1 4) (x2).toNat)) x0 5) (x2).toNat (px_rd (px_wr w (px_rd w x0 4) (x2).toNat (px_rd w (px_rd w x1 4) (x2).toNat)) (px_rd (px_wr w (px_rd w x0 4) (x2).toNat (px_rd w (px_rd w x1 4) (x2).toNat)) x1 5) (x2).toNat)) (px_rd (px_wr (px_wr w (px_rd w x0 4) (x2).toNat (px_rd w (px_rd w x1 4) (x2).toNat)) (px_rd (px_wr w (px_rd w x0 4) (x2).toNat (px_rd w (px_rd w x1 4) (x2).toNat)) x0 5) (x2).toNat (px_rd (px_wr w (px_rd w x0 4) (x2).toNat (px_rd w (px_rd w x1 4) (x2).toNat)) (px_rd (px_wr w (px_rd w x0 4) (x2).toNat (px_rd w (px_rd w x1 4) (x2).toNat)) x1 5) (x2).toNat)) x0 6) (x2).toNat (px_rd (px_wr (px_wr w (px_rd w x0 4) (x2).toNat (px_rd w (px_rd w x1 4) (x2).toNat)) (px_rd (px_wr w (px_rd w x0 4) (x2).toNat (px_rd w (px_rd w x1 4) (x2).toNat)) x0 5) (x2).toNat (px_rd (px_wr w (px_rd w x0 4) (x2).toNat (px_rd w (px_rd w x1 4) (x2).toNat)) (px_rd (px_wr w (px_rd w x0 4) (x2).toNat (px_rd w (px_rd w x1 4) (x2).toNat)) x1 5) (x2).toNat)) (px_rd (px_wr (px_wr w (px_rd w x0 4) (x2).toNat (px_rd w (px_rd w x1 4) (x2).toNat)) (px_rd (px_wr w (px_rd w x0 4) (x2).toNat (px_rd w (px_rd w x1 4) (x2).toNat)) x0 5) (x2).toNat (px_rd (px_wr w (px_rd w x0 4) (x2).toNat (px_rd w (px_rd w x1 4) (x2).toNat)) (px_rd (px_wr w (px_rd w x0 4) (x2).toNat (px_rd w (px_rd w x1 4) (x2).toNat)) x1 5) (x2).toNat)) x1 6) (x2).toNat)) x0 7) x2 = true then
                                      px_R (mm_Row_become, 88, [(2, x0), (2, x1), (0, x2)], [], (px_wr (px_wr (px_wr (px_wr w (px_rd w x0 4) (x2).toNat (px_rd w (px_rd w x1 4) (x2).toNat)) (px_rd (px_wr w (px_rd w x0 4) (x2).toNat (px_rd w (px_rd w x1 4) (x2).toNat)) x0 5) (x2).toNat (px_rd (px_wr w (px_rd w x0 4) (x2).toNat (px_rd w (px_rd w x1 4) (x2).toNat)) (px_rd (px_wr w (px_rd w x0 4) (x2).toNat (px_rd w (px_rd w x1 4) (x2).toNat)) x1 5) (x2).toNat)) (px_rd (px_wr (px_wr w (px_rd w x0 4) (x2).toNat (px_rd w (px_rd w x1 4) (x2).toNat)) (px_rd (px_wr w (px_rd w x0 4) (x2).toNat (px_rd w (px_rd w x1 4) (x2).toNat)) x0 5) (x2).toNat (px_rd (px_wr w (px_rd w x0 4) (x2).toNat (px_rd w (px_rd w x1 4) (x2).toNat)) (px_rd (px_wr w (px_rd w x0 4) (x2).toNat (px_rd w (px_rd w x1 4) (x2).toNat)) x1 5) (x2).toNat)) x0 6) (x2).toNat (px_rd (px_wr (px_wr w (px_rd w x0 4) (x2).toNat (px_rd w (px_rd w x1 4) (x2).toNat)) (px_rd (px_wr w (px_rd w x0 4) (x2).toNat (px_rd w (px_rd w x1 4) (x2).toNat)) x0 5) (x2).toNat (px_rd (px_wr w (px_rd w x0 4) (x2).toNat (px_rd w (px_rd w x1 4) (x2).toNat)) (px_rd (px_wr w (px_rd w x0 4) (x2).toNat (px_rd w (px_rd w x1 4) (x2).toNat)) x1 5) (x2).toNat)) (px_rd (px_wr (px_wr w (px_rd w x0 4) (x2).toNat (px_rd w (px_rd w x1 4) (x2).toNat)) (px_rd (px_wr w (px_rd w x0 4) (x2).toNat (px_rd w (px_rd w x1 4) (x2).toNat)) x0 5) (x2).toNat (px_rd (px_wr w (px_rd w x0 4) (x2).toNat (px_rd w (px_rd w x1 4) (x2).toNat)) (px_rd (px_wr w (px_rd w x0 4) (x2).toNat (px_rd w (px_rd w x1 4) (x2).toNat)) x1 5) (x2).toNat)) x1 6) (x2).toNat)) (px_rd (px_wr (px_wr (px_wr w (px_rd w x0 4) (x2).toNat (px_rd w (px_rd w x1 4) (x2).toNat)) (px_rd (px_wr w (px_rd w x0 4) (x2).toNat (px_rd w (px_rd w x1 4) (x2).toNat)) x0 5) (x2).toNat (px_rd (px_wr w (px_rd w x0 4) (x2).toNat (px_rd w (px_rd w x1 4) (x2).toNat)) (px_rd (px_wr w (px_rd w x0 4) (x2).toNat (px_rd w (px_rd w x1 4) (x2).toNat)) x1 5) (x2).toNat)) (px_rd (px_wr (px_wr w (px_rd w x0 4) (x2).toNat (px_rd w (px_rd w x1 4) (x2).toNat)) (px_rd (px_wr w (px_rd w x0 4) (x2).toNat (px_rd w (px_rd w x1 4) (x2).toNat)) x0 5) (x2).toNat (px_rd (px_wr w (px_rd w x0 4) (x2).toNat (px_rd w (px_rd w x1 4) (x2).toNat)) (px_rd (px_wr w (px_rd w x0 4) (x2).toNat (px_rd w (px_rd w x1 4) (x2).toNat)) x1 5) (x2).toNat)) x0 6) (x2).toNat (px_rd (px_wr (px_wr w (px_rd w x0 4) (x2).toNat (px_rd w (px_rd w x1 4) (x2).toNat)) (px_rd (px_wr w (px_rd w x0 4) (x2).toNat (px_rd w (px_rd w x1 4) (x2).toNat)) x0 5) (x2).toNat (px_rd (px_wr w (px_rd w x0 4) (x2).toNat (px_rd w (px_rd w x1 4) (x2).toNat)) (px_rd (px_wr w (px_rd w x0 4) (x2).toNat (px_rd w (px_rd w x1 4) (x2).toNat)) x1 5) (x2).toNat)) (px_rd (px_wr (px_wr w (px_rd w x0 4) (x2).toNat (px_rd w (px_rd w x1 4) (x2).toNat)) (px_rd (px_wr w (px_rd w x0 4) (x2).toNat (px_rd w (px_rd w x1 4) (x2).toNat)) x0 5) (x2).toNat (px_rd (px_wr w (px_rd w x0 4) (x2).toNat (px_rd w (px_rd w x1 4) (x2).toNat)) (px_rd (px_wr w (px_rd w x0 4) (x2).toNat (px_rd w (px_rd w x1 4) (x2).toNat)) x1 5) (x2).toNat)) x1 6) (x2).toNat)) x0 7) (x2).toNat (px_rd (px_wr (px_wr (px_wr w (px_rd w x0 4) (x2).toNat (px_rd w (px_rd w x1 4) (x2).toNat)) (px_rd (px_wr w (px_rd w x0 4) (x2).toNat (px_rd w (px_rd w x1 4) (x2).toNat)) x0 5) (x2).toNat (px_rd (px_wr w (px_rd w x0 4) (x2).toNat (px_rd w (px_rd w x1 4) (x2).toNat)) (px_rd (px_wr w (px_rd w x0 4) (x2).toNat (px_rd w (px_rd w x1 4) (x2).toNat)) x1 5) (x2).toNat)) (px_rd (px_wr (px_wr w (px_rd w x0 4) (x2).toNat (px_rd w (px_rd w x1 4) (x2).toNat)) (px_rd (px_wr w (px_rd w x0 4) (x2).toNat (px_rd w (px_rd w x1 4) (x2).toNat)) x0 5) (x2).toNat (px_rd (px_wr w (px_rd w x0 4) (x2).toNat (px_rd w (px_rd w x1 4) (x2).toNat)) (px_rd (px_wr w (px_rd w x0 4) (x2).toNat (px_rd w (px_rd w x1 4) (x2).toNat)) x1 5) (x2).toNat)) x0 6) (x2).toNat (px_rd (px_wr (px_wr w (px_rd w x0 4) (x2).toNat (px_rd w (px_rd w x1 4) (x2).toNat)) (px_rd (px_wr w (px_rd w x0 4) (x2).toNat (px_rd w (px_rd w x1 4) (x2).toNat)) x0 5) (x2).toNat (px_rd (px_wr w (px_rd w x0 4) (x2).toNat (px_rd w (px_rd w x1 4) (x2).toNat)) (px_rd (px_wr w (px_rd w x0 4) (x2).toNat (px_rd w (px_rd w x1 4) (x2).toNat)) x1 5) (x2).toNat)) (px_rd (px_wr (px_wr w (px_rd w x0 4) (x2).toNat (px_rd w (px_rd w x1 4) (x2).toNat)) (px_rd (px_wr w (px_rd w x0 4) (x2).toNat (px_rd w (px_rd w x1 4) (x2).toNat)) x0 5) (x2).toNat (px_rd (px_wr w (px_rd w x0 4) (x2).toNat (px_rd w (px_rd w x1 4) (x2).toNat)) (px_rd (px_wr w (px_rd w x0 4) (x2).toNat (px_rd w (px_rd w x1 4) (x2).toNat)) x1 5) (x2).toNat)) x1 6) (x2).toNat)) (px_rd (px_wr (px_wr (px_wr w (px_rd w x0 4) (x2).toNat (px_rd w (px_rd w x1 4) (x2).toNat)) (px_rd (px_wr w (px_rd w x0 4) (x2).toNat (px_rd w (px_rd w x1 4) (x2).toNat)) x0 5) (x2).toNat (px_rd (px_wr w (px_rd w x0 4) (x2).toNat (px_rd w (px_rd w x1 4) (x2).toNat)) (px_rd (px_wr w (px_rd w x0 4) (x2).toNat (px_rd w (px_rd w x1 4) (x2).toNat)) x1 5) (x2).toNat)) (px_rd (px_wr (px_wr w (px_rd w x0 4) (x2).toNat (px_rd w (px_rd w x1 4) (x2).toNat)) (px_rd (px_wr w (px_rd w x0 4) (x2).toNat (px_rd w (px_rd w x1 4) (x2).toNat)) x0 5) (x2).toNat (px_rd (px_wr w (px_rd w x0 4) (x2).toNat (px_rd w (px_rd w x1 4) (x2).toNat)) (px_rd (px_wr w (px_rd w x0 4) (x2).toNat (px_rd w (px_rd w x1 4) (x2).toNat)) x1 5) (x2).toNat)) x0 6) (x2).toNat (px_rd (px_wr (px_wr w (px_rd w x0 4) (x2).toNat (px_rd w (px_rd w x1 4) (x2).toNat)) (px_rd (px_wr w (px_rd w x0 4) (x2).toNat (px_rd w (px_rd w x1 4) (x2).toNat)) x0 5) (x2).toNat (px_rd (px_wr w (px_rd w x0 4) (x2).toNat (px_rd w (px_rd w x1 4) (x2).toNat)) (px_rd (px_wr w (px_rd w x0 4) (x2).toNat (px_rd w (px_rd w x1 4) (x2).toNat)) x1 5) (x2).toNat)) (px_rd (px_wr (px_wr w (px_rd w x0 4) (x2).toNat (px_rd w (px_rd w x1 4) (x2).toNat)) (px_rd (px_wr w (px_rd w x0 4) (x2).toNat (px_rd w (px_rd w x1 4) (x2).toNat)) x0 5) (x2).toNat (px_rd (px_wr w (px_rd w x0 4) (x2).toNat (px_rd w (px_rd w x1 4) (x2).toNat)) (px_rd (px_wr w (px_rd w x0 4) (x2).toNat (px_rd w (px_rd w x1 4) (x2).toNat)) x1 5) (x2).toNat)) x1 6) (x2).toNat)) x1 7) (x2).toNat)))
                                    else none
                                  else none
                                else none
                              else none
                            else none
                          else none
                        else none
                      else none
                    else none
                  else none
                else none
              else none
            else none
          else none
        else none
      else none
    else
      some (0, w)) := (px_Req mm_Row_become 34 [(2, x0), (2, x1), (0, x2)] [] w).trans rfl
set_option maxRecDepth 100000 in
theorem eq_Row_become_88 (x0 x1 x2 : Int) (w : pw) : px_R (mm_Row_become, 88, [(2, x0), (2, x1), (0, x2)], [], w) =
    (px_R (mm_Row_become, 34, [(2, x0), (2, x1), (0, (px_w (x2 + 1)))], [], w)) := (px_Req mm_Row_become 88 [(2, x0), (2, x1), (0, x2)] [] w).trans rfl
set_option maxRecDepth 100000 in
theorem eq_Row_lay_0 (x0 x1 : Int) (w : pw) : px_R (mm_Row_lay, 0, [(2, x0), (0, x1), (9, 0)], [], w) =
    (if px_go w x0 4 = true then
      if px_go (px_wr w x0 0 x1) x0 4 = true then
        if px_go (px_wr (px_wr w x0 0 x1) x0 1 0) x0 4 = true then
          if px_go (px_wr (px_wr (px_wr w x0 0 x1) x0 1 0) x0 2 0) x0 4 = true then
            px_R (mm_Row_lay, 20, [(2, x0), (0, x1), (9, 0)], [], (px_wr (px_wr (px_wr (px_wr w x0 0 x1) x0 1 0) x0 2 0) x0 3 0))
          else none
        else none
      else none
    else none) := (px_Req mm_Row_lay 0 [(2, x0), (0, x1), (9, 0)] [] w).trans rfl
set_option maxRecDepth 100000 in
theorem eq_Row_lay_20 (x0 x1 : Int) (w : pw) : px_R (mm_Row_lay, 20, [(2, x0), (0, x1), (9, 0)], [], w) =
    (px_R (mm_Row_lay, 22, [(2, x0), (0, x1), (0, 0)], [], w)) := (px_Req mm_Row_lay 20 [(2, x0), (0, x1), (9, 0)] [] w).trans rfl
set_option maxRecDepth 100000 in
theorem eq_Row_lay_22 (x0 x1 x2 : Int) (w : pw) : px_R (mm_Row_lay, 22, [(2, x0), (0, x1), (0, x2)], [], w) =
    (if x2 < 40 then
      if px_go w x0 4 = true then
        if px_ga w 0 (px_rd w x0 4) x2 = true then
          if px_go (px_wr w (px_rd w x0 4) (x2).toNat 0) x0 4 = true then
            if px_ga (px_wr w (px_rd w x0 4) (x2).toNat 0) 0 (px_rd (px_wr w (px_rd w x0 4) (x2).toNat 0) x0 5) x2 = true then
              if px_go (px_wr (px_wr w (px_rd w x0 4) (x2).toNat 0) (px_rd (px_wr w (px_rd w x0 4) (x2).toNat 0) x0 5) (x2).toNat 0) x0 4 = true then
                if px_ga (px_wr (px_wr w (px_rd w x0 4) (x2).toNat 0) (px_rd (px_wr w (px_rd w x0 4) (x2).toNat 0) x0 5) (x2).toNat 0) 0 (px_rd (px_wr (px_wr w (px_rd w x0 4) (x2).toNat 0) (px_rd (px_wr w (px_rd w x0 4) (x2).toNat 0) x0 5) (x2).toNat 0) x0 6) x2 = true then
                  if px_go (px_wr (px_wr (px_wr w (px_rd w x0 4) (x2).toNat 0) (px_rd (px_wr w (px_rd w x0 4) (x2).toNat 0) x0 5) (x2).toNat 0) (px_rd (px_wr (px_wr w (px_rd w x0 4) (x2).toNat 0) (px_rd (px_wr w (px_rd w x0 4) (x2).toNat 0) x0 5) (x2).toNat 0) x0 6) (x2).toNat 100) x0 4 = true then
                    if px_ga (px_wr (px_wr (px_wr w (px_rd w x0 4) (x2).toNat 0) (px_rd (px_wr w (px_rd w x0 4) (x2).toNat 0) x0 5) (x2).toNat 0) (px_rd (px_wr (px_wr w (px_rd w x0 4) (x2).toNat 0) (px_rd (px_wr w (px_rd w x0 4) (x2).toNat 0) x0 5) (x2).toNat 0) x0 6) (x2).toNat 100) 0 (px_rd (px_wr (px_wr (px_wr w (px_rd w x0 4) (x2).toNat 0) (px_rd (px_wr w (px_rd w x0 4) (x2).toNat 0) x0 5) (x2).toNat 0) (px_rd (px_wr (px_wr w (px_rd w x0 4) (x2).toNat 0) (px_rd (px_wr w (px_rd w x0 4) (x2).toNat 0) x0 5) (x2).toNat 0) x0 6) (x2).toNat 100) x0 7) x2 = true then
                      px_R (mm_Row_lay, 57, [(2, x0), (0, x1), (0, x2)], [], (px_wr (px_wr (px_wr (px_wr w (px_rd w x0 4) (x2).toNat 0) (px_rd (px_wr w (px_rd w x0 4) (x2).toNat 0) x0 5) (x2).toNat 0) (px_rd (px_wr (px_wr w (px_rd w x0 4) (x2).toNat 0) (px_rd (px_wr w (px_rd w x0 4) (x2).toNat 0) x0 5) (x2).toNat 0) x0 6) (x2).toNat 100) (px_rd (px_wr (px_wr (px_wr w (px_rd w x0 4) (x2).toNat 0) (px_rd (px_wr w (px_rd w x0 4) (x2).toNat 0) x0 5) (x2).toNat 0) (px_rd (px_wr (px_wr w (px_rd w x0 4) (x2).toNat 0) (px_rd (px_wr w (px_rd w x0 4) (x2).toNat 0) x0 5) (x2).toNat 0) x0 6) (x2).toNat 100) x0 7) (x2).toNat 0))
                    else none
                  else none
                else none
              else none
            else none
          else none
        else none
      else none
    else
      some (0, w)) := (px_Req mm_Row_lay 22 [(2, x0), (0, x1), (0, x2)] [] w).trans rfl
set_option maxRecDepth 100000 in
theorem eq_Row_lay_57 (x0 x1 x2 : Int) (w : pw) : px_R (mm_Row_lay, 57, [(2, x0), (0, x1), (0, x2)], [], w) =
    (px_R (mm_Row_lay, 22, [(2, x0), (0, x1), (0, (px_w (x2 + 1)))], [], w)) := (px_Req mm_Row_lay 57 [(2, x0), (0, x1), (0, x2)] [] w).trans rfl
set_option maxRecDepth 100000 in
theorem eq_Row_part_0 (x0 x1 : Int) (w : pw) : px_R (mm_Row_part, 0, [(0, x0), (0, x1)], [], w) =
    (some ((px_w (Int.tdiv (px_w (x0 * x1)) 100)), w)) := (px_Req mm_Row_part 0 [(0, x0), (0, x1)] [] w).trans rfl
set_option maxRecDepth 100000 in
theorem eq_Str_forget_0 (x0 : Int) (w : pw) : px_R (mm_Str_forget, 0, [(2, x0), (9, 0)], [], w) =
    (if px_go w x0 5 = true then
      px_R (mm_Str_forget, 7, [(2, x0), (0, 0)], [], (px_wr w x0 0 0))
    else none) := (px_Req mm_Str_forget 0 [(2, x0), (9, 0)] [] w).trans rfl
set_option maxRecDepth 100000 in
theorem eq_Str_forget_7 (x0 x1 : Int) (w : pw) : px_R (mm_Str_forget, 7, [(2, x0), (0, x1)], [], w) =
    (if x1 < 9 then
      if px_go w x0 5 = true then
        if px_ga w 0 (px_rd w x0 1) x1 = true then
          px_R (mm_Str_forget, 7, [(2, x0), (0, (px_w (x1 + 1)))], [], (px_wr w (px_rd w x0 1) (x1).toNat 0))
        else none
      else none
    else
      if px_go w x0 5 = true then
        if (px_ga w 4 (px_rd w x0 3) 6 || (px_ga w 5 (px_rd w x0 3) 6 || px_ga w 6 (px_rd w x0 3) 6)) = true then
          if px_ga w 0 (px_rd w (px_rd w x0 3) 6) 0 = true then
            if px_go (px_wr w (px_rd w (px_rd w x0 3) 6) 0 0) x0 5 = true then
              if (px_ga (px_wr w (px_rd w (px_rd w x0 3) 6) 0 0) 4 (px_rd (px_wr w (px_rd w (px_rd w x0 3) 6) 0 0) x0 3) 7 || (px_ga (px_wr w (px_rd w (px_rd w x0 3) 6) 0 0) 5 (px_rd (px_wr w (px_rd w (px_rd w x0 3) 6) 0 0) x0 3) 7 || px_ga (px_wr w (px_rd w (px_rd w x0 3) 6) 0 0) 6 (px_rd (px_wr w (px_rd w (px_rd w x0 3) 6) 0 0) x0 3) 7)) = true then
                if px_ga (px_wr w (px_rd w (px_rd w x0 3) 6) 0 0) 0 (px_rd (px_wr w (px_rd w (px_rd w x0 3) 6) 0 0) (px_rd (px_wr w (px_rd w (px_rd w x0 3) 6) 0 0) x0 3) 7) 0 = true then
                  if px_go (px_wr (px_wr w (px_rd w (px_rd w x0 3) 6) 0 0) (px_rd (px_wr w (px_rd w (px_rd w x0 3) 6) 0 0) (px_rd (px_wr w (px_rd w (px_rd w x0 3) 6) 0 0) x0 3) 7) 0 0) x0 5 = true then
                    if (px_ga (px_wr (px_wr w (px_rd w (px_rd w x0 3) 6) 0 0) (px_rd (px_wr w (px_rd w (px_rd w x0 3) 6) 0 0) (px_rd (px_wr w (px_rd w (px_rd w x0 3) 6) 0 0) x0 3) 7) 0 0) 4 (px_rd (px_wr (px_wr w (px_rd w (px_rd w x0 3) 6) 0 0) (px_rd (px_wr w (px_rd w (px_rd w x0 3) 6) 0 0) (px_rd (px_wr w (px_rd w (px_rd w x0 3) 6) 0 0) x0 3) 7) 0 0) x0 3) 8 || (px_ga (px_wr (px_wr w (px_rd w (px_rd w x0 3) 6) 0 0) (px_rd (px_wr w (px_rd w (px_rd w x0 3) 6) 0 0) (px_rd (px_wr w (px_rd w (px_rd w x0 3) 6) 0 0) x0 3) 7) 0 0) 5 (px_rd (px_wr (px_wr w (px_rd w (px_rd w x0 3) 6) 0 0) (px_rd (px_wr w (px_rd w (px_rd w x0 3) 6) 0 0) (px_rd (px_wr w (px_rd w (px_rd w x0 3) 6) 0 0) x0 3) 7) 0 0) x0 3) 8 || px_ga (px_wr (px_wr w (px_rd w (px_rd w x0 3) 6) 0 0) (px_rd (px_wr w (px_rd w (px_rd w x0 3) 6) 0 0) (px_rd (px_wr w (px_rd w (px_rd w x0 3) 6) 0 0) x0 3) 7) 0 0) 6 (px_rd (px_wr (px_wr w (px_rd w (px_rd w x0 3) 6) 0 0) (px_rd (px_wr w (px_rd w (px_rd w x0 3) 6) 0 0) (px_rd (px_wr w (px_rd w (px_rd w x0 3) 6) 0 0) x0 3) 7) 0 0) x0 3) 8)) = true then
                      if px_ga (px_wr (px_wr w (px_rd w (px_rd w x0 3) 6) 0 0) (px_rd (px_wr w (px_rd w (px_rd w x0 3) 6) 0 0) (px_rd (px_wr w (px_rd w (px_rd w x0 3) 6) 0 0) x0 3) 7) 0 0) 0 (px_rd (px_wr (px_wr w (px_rd w (px_rd w x0 3) 6) 0 0) (px_rd (px_wr w (px_rd w (px_rd w x0 3) 6) 0 0) (px_rd (px_wr w (px_rd w (px_rd w x0 3) 6) 0 0) x0 3) 7) 0 0) (px_rd (px_wr (px_wr w (px_rd w (px_rd w x0 3) 6) 0 0) (px_rd (px_wr w (px_rd w (px_rd w x0 3) 6) 0 0) (px_rd (px_wr w (px_rd w (px_rd w x0 3) 6) 0 0) x0 3) 7) 0 0) x0 3) 8) 0 = true then
                        some (0, (px_wr (px_wr (px_wr w (px_rd w (px_rd w x0 3) 6) 0 0) (px_rd (px_wr w (px_rd w (px_rd w x0 3) 6) 0 0) (px_rd (px_wr w (px_rd w (px_rd w x0 3) 6) 0 0) x0 3) 7) 0 0) (px_rd (px_wr (px_wr w (px_rd w (px_rd w x0 3) 6) 0 0) (px_rd (px_wr w (px_rd w (px_rd w x0 3) 6) 0 0) (px_rd (px_wr w (px_rd w (px_rd w x0 3) 6) 0 0) x0 3) 7) 0 0) (px_rd (px_wr (px_wr w (px_rd w (px_rd w x0 3) 6) 0 0) (px_rd (px_wr w (px_rd w (px_rd w x0 3) 6) 0 0) (px_rd (px_wr w (px_rd w (px_rd w x0 3) 6) 0 0) x0 3) 7) 0 0) x0 3) 8) 0 1))
                      else none
                    else none
                  else none
                else none
              else none
            else none
          else none
        else none
      else none) := (px_Req mm_Str_forget 7 [(2, x0), (0, x1)] [] w).trans rfl
set_option maxRecDepth 100000 in
theorem eq_Str_isNamed_0 (x0 : Int) (w : pw) : px_R (mm_Str_isNamed, 0, [(0, x0)], [], w) =
    (if x0 < 6 then
      if x0 = 4 then
        some (0, w)
      else
        some (1, w)
    else
      some (0, w)) := (px_Req mm_Str_isNamed 0 [(0, x0)] [] w).trans rfl
set_option maxRecDepth 100000 in
theorem eq_Str_number_0 (x0 x1 x2 x3 : Int) (w : pw) : px_R (mm_Str_number, 0, [(2, x0), (0, x1), (0, x2), (0, x3)], [], w) =
    (if px_go w x0 5 = true then
      if (px_ga w 4 (px_rd w x0 3) x1 || (px_ga w 5 (px_rd w x0 3) x1 || px_ga w 6 (px_rd w x0 3) x1)) = true then
        if px_ga w 0 (px_rd w (px_rd w x0 3) (x1).toNat) (px_w ((px_w (x2 * 5)) + x3)) = true then
          some ((px_rd w (px_rd w (px_rd w x0 3) (x1).toNat) ((px_w ((px_w (x2 * 5)) + x3))).toNat), w)
        else none
      else none
    else none) := (px_Req mm_Str_number 0 [(2, x0), (0, x1), (0, x2), (0, x3)] [] w).trans rfl
set_option maxRecDepth 100000 in
theorem eq_Str_ofBand_0 (x0 x1 x2 x3 : Int) (w : pw) : px_R (mm_Str_ofBand, 0, [(2, x0), (0, x1), (0, x2), (0, x3), (9, 0)], [], w) =
    (if x1 = 0 then
      px_R (mm_Str_ofBand, 9, [(2, x0), (0, x1), (0, x2), (0, x3), (9, 0)], [], w)
    else
      if x1 = 5 then
        px_R (mm_Str_ofBand, 9, [(2, x0), (0, x1), (0, x2), (0, x3), (9, 0)], [], w)
      else
        if px_go w x0 5 = true then
          if (px_ga w 4 (px_rd w x0 3) x1 || (px_ga w 5 (px_rd w x0 3) x1 || px_ga w 6 (px_rd w x0 3) x1)) = true then
            if px_ga w 0 (px_rd w (px_rd w x0 3) (x1).toNat) (px_w ((px_w ((px_w (x2 * 5)) + 0)) + x3)) = true then
              some ((px_rd w (px_rd w (px_rd w x0 3) (x1).toNat) ((px_w ((px_w ((px_w (x2 * 5)) + 0)) + x3))).toNat), w)
            else none
          else none
        else none) := (px_Req mm_Str_ofBand 0 [(2, x0), (0, x1), (0, x2), (0, x3), (9, 0)] [] w).trans rfl
set_option maxRecDepth 100000 in
theorem eq_Str_ofBand_9 (x0 x1 x2 x3 : Int) (w : pw) : px_R (mm_Str_ofBand, 9, [(2, x0), (0, x1), (0, x2), (0, x3), (9, 0)], [], w) =
    (if px_go w x0 5 = true then
      if (px_ga w 4 (px_rd w x0 3) x1 || (px_ga w 5 (px_rd w x0 3) x1 || px_ga w 6 (px_rd w x0 3) x1)) = true then
        if px_ga w 0 (px_rd w (px_rd w x0 3) (x1).toNat) (px_w ((px_w ((px_w (x2 * 5)) + 1)) + x3)) = true then
          some ((px_rd w (px_rd w (px_rd w x0 3) (x1).toNat) ((px_w ((px_w ((px_w (x2 * 5)) + 1)) + x3))).toNat), w)
        else none
      else none
    else none) := (px_Req mm_Str_ofBand 9 [(2, x0), (0, x1), (0, x2), (0, x3), (9, 0)] [] w).trans rfl
set_option maxRecDepth 100000 in
theorem eq_Tape_isBlank_0 (x0 : Int) (w : pw) : px_R (mm_Tape_isBlank, 0, [(0, x0)], [], w) =
    (if x0 = 32 then
      some (1, w)
    else
      if x0 = 10 then
        some (1, w)
      else
        some (0, w)) := (px_Req mm_Tape_isBlank 0 [(0, x0)] [] w).trans rfl
set_option maxRecDepth 100000 in
theorem eq_Tape_isDigit_0 (x0 : Int) (w : pw) : px_R (mm_Tape_isDigit, 0, [(0, x0)], [], w) =
    (if x0 < 48 then
      some (0, w)
    else
      if 57 < x0 then
        some (0, w)
      else
        some (1, w)) := (px_Req mm_Tape_isDigit 0 [(0, x0)] [] w).trans rfl
set_option maxRecDepth 100000 in
theorem eq_Tape_isLetter_0 (x0 : Int) (w : pw) : px_R (mm_Tape_isLetter, 0, [(0, x0)], [], w) =
    (if x0 < 97 then
      some (0, w)
    else
      if 122 < x0 then
        some (0, w)
      else
        some (1, w)) := (px_Req mm_Tape_isLetter 0 [(0, x0)] [] w).trans rfl
set_option maxRecDepth 100000 in
theorem eq_Tape_put_0 (x0 x1 : Int) (w : pw) : px_R (mm_Tape_put, 0, [(2, x0), (0, x1), (9, 0)], [], w) =
    (px_R (mm_Tape_put, 3, [(2, x0), (0, x1), (0, 24)], [], w)) := (px_Req mm_Tape_put 0 [(2, x0), (0, x1), (9, 0)] [] w).trans rfl
set_option maxRecDepth 100000 in
theorem eq_Tape_put_3 (x0 x1 x2 : Int) (w : pw) : px_R (mm_Tape_put, 3, [(2, x0), (0, x1), (0, x2)], [], w) =
    (if x2 < 0 then
      some (0, w)
    else
      if px_go w x0 6 = true then
        if (px_rd w x0 1) < 900 then
          if px_go w x0 6 = true then
            if px_go w x0 6 = true then
              if px_gb w (px_rd w x0 0) (px_rd w x0 1) (px_wb (px_shr x1 x2)) = true then
                if px_go (px_wr w (px_rd w x0 0) ((px_rd w x0 1)).toNat (px_wb (px_shr x1 x2))) x0 6 = true then
                  if px_go (px_wr w (px_rd w x0 0) ((px_rd w x0 1)).toNat (px_wb (px_shr x1 x2))) x0 6 = true then
                    px_R (mm_Tape_put, 3, [(2, x0), (0, x1), (0, (px_w (x2 + (-8))))], [], (px_wr (px_wr w (px_rd w x0 0) ((px_rd w x0 1)).toNat (px_wb (px_shr x1 x2))) x0 1 (px_w ((px_rd (px_wr w (px_rd w x0 0) ((px_rd w x0 1)).toNat (px_wb (px_shr x1 x2))) x0 1) + 1))))
                  else none
                else none
              else none
            else none
          else none
        else
          px_R (mm_Tape_put, 3, [(2, x0), (0, x1), (0, (px_w (x2 + (-8))))], [], w)
      else none) := (px_Req mm_Tape_put 3 [(2, x0), (0, x1), (0, x2)] [] w).trans rfl
set_option maxRecDepth 100000 in
theorem eq_Wish_begin_0 (x0 : Int) (w : pw) : px_R (mm_Wish_begin, 0, [(2, x0)], [], w) =
    (if px_go w x0 7 = true then
      some (0, (px_wr w x0 0 0))
    else none) := (px_Req mm_Wish_begin 0 [(2, x0)] [] w).trans rfl
set_option maxRecDepth 100000 in
theorem eq_Wish_isReached_0 (x0 x1 x2 : Int) (w : pw) : px_R (mm_Wish_isReached, 0, [(2, x0), (0, x1), (0, x2), (9, 0)], [], w) =
    (px_R (mm_Wish_isReached, 2, [(2, x0), (0, x1), (0, x2), (0, 0)], [], w)) := (px_Req mm_Wish_isReached 0 [(2, x0), (0, x1), (0, x2), (9, 0)] [] w).trans rfl
set_option maxRecDepth 100000 in
theorem eq_Wish_isReached_2 (x0 x1 x2 x3 : Int) (w : pw) : px_R (mm_Wish_isReached, 2, [(2, x0), (0, x1), (0, x2), (0, x3)], [], w) =
    (if x3 < x2 then
      if px_go w x0 7 = true then
        if px_ga w 0 (px_rd w x0 4) x1 = true then
          if (px_and (px_shr (px_rd w (px_rd w x0 4) (x1).toNat) x3) 1) = 1 then
            if px_go w x0 7 = true then
              if px_ga w 0 (px_rd w x0 5) x3 = true then
                if px_go w x0 7 = true then
                  if px_ga w 0 (px_rd w x0 4) x1 = true then
                    if px_go w x0 7 = true then
                      if px_ga w 0 (px_rd w x0 4) x1 = true then
                        if (px_and (px_rd w (px_rd w x0 5) (x3).toNat) (px_rd w (px_rd w x0 4) (x1).toNat)) = (px_rd w (px_rd w x0 4) (x1).toNat) then
                          px_R (mm_Wish_isReached, 2, [(2, x0), (0, x1), (0, x2), (0, (px_w (x3 + 1)))], [], w)
                        else
                          some (0, w)
                      else none
                    else none
                  else none
                else none
              else none
            else none
          else
            px_R (mm_Wish_isReached, 2, [(2, x0), (0, x1), (0, x2), (0, (px_w (x3 + 1)))], [], w)
        else none
      else none
    else
      some (1, w)) := (px_Req mm_Wish_isReached 2 [(2, x0), (0, x1), (0, x2), (0, x3)] [] w).trans rfl
set_option maxRecDepth 100000 in
theorem eq_Wish_pairOf_0 (x0 x1 x2 : Int) (w : pw) : px_R (mm_Wish_pairOf, 0, [(0, x0), (0, x1), (0, x2)], [], w) =
    (some ((px_w ((px_w ((px_w ((px_w (Int.tdiv (px_w (x0 * (px_w ((px_w ((px_w (2 * x2)) - x0)) - 1)))) 2)) + x1)) - x0)) - 1)), w)) := (px_Req mm_Wish_pairOf 0 [(0, x0), (0, x1), (0, x2)] [] w).trans rfl
set_option maxRecDepth 100000 in
theorem eq_Wish_reachOf_0 (x0 x1 x2 x3 x4 : Int) (w : pw) : px_R (mm_Wish_reachOf, 0, [(2, x0), (0, x1), (0, x2), (0, x3), (0, x4), (9, 0), (9, 0), (9, 0), (9, 0)], [], w) =
    (px_R (mm_Wish_reachOf, 8, [(2, x0), (0, x1), (0, x2), (0, x3), (0, x4), (0, (px_shl 1 x1)), (0, 0), (9, 0), (9, 0)], [], w)) := (px_Req mm_Wish_reachOf 0 [(2, x0), (0, x1), (0, x2), (0, x3), (0, x4), (9, 0), (9, 0), (9, 0), (9, 0)] [] w).trans rfl
set_option maxRecDepth 100000 in
theorem eq_Wish_reachOf_8 (x0 x1 x2 x3 x4 x5 x6 : Int) (y7 y8 : pv) (w : pw) : px_R (mm_Wish_reachOf, 8, [(2, x0), (0, x1), (0, x2), (0, x3), (0, x4), (0, x5), (0, x6), y7, y8], [], w) =
    (if x6 < x4 then
      px_R (mm_Wish_reachOf, 22, [(2, x0), (0, x1), (0, x2), (0, x3), (0, x4), (0, x5), (0, x6), (0, x5), (0, 0)], [], w)
    else
      some (x5, w)) := (px_Req mm_Wish_reachOf 8 [(2, x0), (0, x1), (0, x2), (0, x3), (0, x4), (0, x5), (0, x6), y7, y8] [] w).trans rfl
set_option maxRecDepth 100000 in
theorem eq_Wish_reachOf_22 (x0 x1 x2 x3 x4 x5 x6 x7 x8 : Int) (w : pw) : px_R (mm_Wish_reachOf, 22, [(2, x0), (0, x1), (0, x2), (0, x3), (0, x4), (0, x5), (0, x6), (0, x7), (0, x8)], [], w) =
    (if x8 < x3 then
      if (px_and (px_shr x2 x8) 1) = 1 then
        if px_go w x0 7 = true then
          if px_ga w 0 (px_rd w x0 4) x8 = true then
            if (px_and (px_rd w (px_rd w x0 4) (x8).toNat) x5) = 0 then
              px_R (mm_Wish_reachOf, 22, [(2, x0), (0, x1), (0, x2), (0, x3), (0, x4), (0, x5), (0, x6), (0, x7), (0, (px_w (x8 + 1)))], [], w)
            else
              if px_go w x0 7 = true then
                if px_ga w 0 (px_rd w x0 4) x8 = true then
                  px_R (mm_Wish_reachOf, 22, [(2, x0), (0, x1), (0, x2), (0, x3), (0, x4), (0, x5), (0, x6), (0, (px_or x7 (px_rd w (px_rd w x0 4) (x8).toNat))), (0, (px_w (x8 + 1)))], [], w)
                else none
              else none
          else none
        else none
      else
        px_R (mm_Wish_reachOf, 22, [(2, x0), (0, x1), (0, x2), (0, x3), (0, x4), (0, x5), (0, x6), (0, x7), (0, (px_w (x8 + 1)))], [], w)
    else
      px_R (mm_Wish_reachOf, 8, [(2, x0), (0, x1), (0, x2), (0, x3), (0, x4), (0, x7), (0, (px_w (x6 + 1))), (0, x7), (0, x8)], [], w)) := (px_Req mm_Wish_reachOf 22 [(2, x0), (0, x1), (0, x2), (0, x3), (0, x4), (0, x5), (0, x6), (0, x7), (0, x8)] [] w).trans rfl
set_option maxRecDepth 100000 in
theorem eq_Wish_yardsOf_0 (x0 x1 x2 : Int) (w : pw) : px_R (mm_Wish_yardsOf, 0, [(2, x0), (0, x1), (0, x2), (9, 0), (9, 0)], [], w) =
    (px_R (mm_Wish_yardsOf, 5, [(2, x0), (0, x1), (0, x2), (0, 0), (0, 0)], [], w)) := (px_Req mm_Wish_yardsOf 0 [(2, x0), (0, x1), (0, x2), (9, 0), (9, 0)] [] w).trans rfl
set_option maxRecDepth 100000 in
theorem eq_Wish_yardsOf_5 (x0 x1 x2 x3 x4 : Int) (w : pw) : px_R (mm_Wish_yardsOf, 5, [(2, x0), (0, x1), (0, x2), (0, x3), (0, x4)], [], w) =
    (if x4 < x2 then
      if (px_and (px_shr x1 x4) 1) = 1 then
        if px_go w x0 7 = true then
          if px_ga w 0 (px_rd w x0 3) x4 = true then
            px_R (mm_Wish_yardsOf, 5, [(2, x0), (0, x1), (0, x2), (0, (px_w (x3 + (px_rd w (px_rd w x0 3) (x4).toNat)))), (0, (px_w (x4 + 1)))], [], w)
          else none
        else none
      else
        px_R (mm_Wish_yardsOf, 5, [(2, x0), (0, x1), (0, x2), (0, (px_w (x3 + 0))), (0, (px_w (x4 + 1)))], [], w)
    else
      some (x3, w)) := (px_Req mm_Wish_yardsOf 5 [(2, x0), (0, x1), (0, x2), (0, x3), (0, x4)] [] w).trans rfl
set_option maxRecDepth 100000 in
theorem eq_Tin_allWords_0 (x0 : Int) (w : pw) : px_R (mm_Tin_allWords, 0, [(2, x0)], [], w) =
    (if px_go w x0 8 = true then
      if px_go w (px_rd w x0 8) 5 = true then
        if px_ga w 0 (px_rd w (px_rd w x0 8) 1) 2 = true then
          some ((px_w ((px_shl 1 (px_rd w (px_rd w (px_rd w x0 8) 1) 2)) - 1)), w)
        else none
      else none
    else none) := (px_Req mm_Tin_allWords 0 [(2, x0)] [] w).trans rfl
set_option maxRecDepth 100000 in
theorem eq_Tin_fault_0 (x0 x1 : Int) (w : pw) : px_R (mm_Tin_fault, 0, [(2, x0), (0, x1)], [], w) =
    (if x1 = 0 then
      if px_go w x0 8 = true then
        some ((px_rd w x0 10), w)
      else none
    else
      if x1 = 1 then
        if px_go w x0 8 = true then
          some ((px_rd w x0 11), w)
        else none
      else
        some ((-1), w)) := (px_Req mm_Tin_fault 0 [(2, x0), (0, x1)] [] w).trans rfl
set_option maxRecDepth 100000 in
theorem eq_Tin_lineLacks_0 (x0 : Int) (w : pw) : px_R (mm_Tin_lineLacks, 0, [(2, x0)], [], w) =
    (if px_go w x0 8 = true then
      if px_go w (px_rd w x0 8) 5 = true then
        if px_ga w 0 (px_rd w (px_rd w x0 8) 1) 0 = true then
          if (px_rd w (px_rd w (px_rd w x0 8) 1) 0) = 0 then
            some (1, w)
          else
            if px_go w x0 8 = true then
              if px_go w (px_rd w x0 8) 5 = true then
                if px_ga w 0 (px_rd w (px_rd w x0 8) 1) 1 = true then
                  if (px_rd w (px_rd w (px_rd w x0 8) 1) 1) = 0 then
                    some (1, w)
                  else
                    some (0, w)
                else none
              else none
            else none
        else none
      else none
    else none) := (px_Req mm_Tin_lineLacks 0 [(2, x0)] [] w).trans rfl
set_option maxRecDepth 100000 in
theorem eq_Tin_straighten_0 (x0 : Int) (w : pw) : px_R (mm_Tin_straighten, 0, [(2, x0), (9, 0)], [], w) =
    (if px_go w x0 8 = true then
      if px_go w (px_rd w x0 1) 2 = true then
        if px_go w x0 8 = true then
          if px_go w (px_rd w x0 1) 2 = true then
            if px_go w x0 8 = true then
              if px_go w (px_rd w x0 1) 2 = true then
                if px_go (px_wr w (px_rd w x0 1) 4 0) x0 8 = true then
                  if px_go (px_wr w (px_rd w x0 1) 4 0) (px_rd (px_wr w (px_rd w x0 1) 4 0) x0 1) 2 = true then
                    some ((px_w ((px_rd w (px_rd w x0 1) 4) + (px_rd w (px_rd w x0 1) 6))), (px_wr (px_wr w (px_rd w x0 1) 4 0) (px_rd (px_wr w (px_rd w x0 1) 4 0) x0 1) 6 0))
                  else none
                else none
              else none
            else none
          else none
        else none
      else none
    else none) := (px_Req mm_Tin_straighten 0 [(2, x0), (9, 0)] [] w).trans rfl
set_option maxRecDepth 100000 in
theorem eq_Tin_within_0 (x0 x1 x2 : Int) (w : pw) : px_R (mm_Tin_within, 0, [(0, x0), (0, x1), (0, x2)], [], w) =
    (if x0 < x1 then
      some (0, w)
    else
      if x2 < x0 then
        some (0, w)
      else
        some (1, w)) := (px_Req mm_Tin_within 0 [(0, x0), (0, x1), (0, x2)] [] w).trans rfl
set_option maxRecDepth 100000 in
theorem eq_Mod_allWays_0 (x0 : Int) (w : pw) : px_R (mm_Mod_allWays, 0, [(2, x0), (9, 0), (9, 0)], [], w) =
    (px_R (mm_Mod_allWays, 4, [(2, x0), (0, 1), (0, 0)], [], w)) := (px_Req mm_Mod_allWays 0 [(2, x0), (9, 0), (9, 0)] [] w).trans rfl
set_option maxRecDepth 100000 in
theorem eq_Mod_allWays_4 (x0 x1 x2 : Int) (w : pw) : px_R (mm_Mod_allWays, 4, [(2, x0), (0, x1), (0, x2)], [], w) =
    (if x2 < 8 then
      if px_go w x0 9 = true then
        if px_ga w 0 (px_rd w x0 12) 8 = true then
          px_R (mm_Mod_allWays, 4, [(2, x0), (0, (px_w (x1 * (px_w ((px_rd w (px_rd w x0 12) 8) + 1))))), (0, (px_w (x2 + 1)))], [], w)
        else none
      else none
    else
      some (x1, w)) := (px_Req mm_Mod_allWays 4 [(2, x0), (0, x1), (0, x2)] [] w).trans rfl
set_option maxRecDepth 100000 in
theorem eq_Mod_allWords_0 (x0 : Int) (w : pw) : px_R (mm_Mod_allWords, 0, [(2, x0)], [], w) =
    (if px_go w x0 9 = true then
      if px_ga w 0 (px_rd w x0 12) 2 = true then
        some ((px_w ((px_shl 1 (px_rd w (px_rd w x0 12) 2)) - 1)), w)
      else none
    else none) := (px_Req mm_Mod_allWords 0 [(2, x0)] [] w).trans rfl
set_option maxRecDepth 100000 in
theorem eq_Mod_bearsOf_0 (x0 x1 : Int) (w : pw) : px_R (mm_Mod_bearsOf, 0, [(2, x0), (0, x1), (9, 0)], [], w) =
    (if px_go w x0 9 = true then
      if px_ga w 0 (px_rd w x0 14) (px_w (5 * x1)) = true then
        if px_go w x0 9 = true then
          if px_ga w 0 (px_rd w x0 12) 6 = true then
            if px_go w x0 9 = true then
              if px_ga w 0 (px_rd w x0 12) 7 = true then
                if (px_w ((px_w (Int.tdiv (px_w ((px_rd w (px_rd w x0 14) ((px_w (5 * x1))).toNat) * (px_w (100 - (px_rd w (px_rd w x0 12) 6))))) 100)) - (px_rd w (px_rd w x0 12) 7))) < 0 then
                  some (0, w)
                else
                  some ((px_w ((px_w (Int.tdiv (px_w ((px_rd w (px_rd w x0 14) ((px_w (5 * x1))).toNat) * (px_w (100 - (px_rd w (px_rd w x0 12) 6))))) 100)) - (px_rd w (px_rd w x0 12) 7))), w)
              else none
            else none
          else none
        else none
      else none
    else none) := (px_Req mm_Mod_bearsOf 0 [(2, x0), (0, x1), (9, 0)] [] w).trans rfl
set_option maxRecDepth 100000 in
theorem eq_Mod_begin_0 (x0 : Int) (w : pw) : px_R (mm_Mod_begin, 0, [(2, x0), (9, 0)], [], w) =
    (px_R (mm_Mod_begin, 2, [(2, x0), (0, 0)], [], w)) := (px_Req mm_Mod_begin 0 [(2, x0), (9, 0)] [] w).trans rfl
set_option maxRecDepth 100000 in
theorem eq_Mod_begin_2 (x0 x1 : Int) (w : pw) : px_R (mm_Mod_begin, 2, [(2, x0), (0, x1)], [], w) =
    (if x1 < 9 then
      if px_go w x0 9 = true then
        if px_ga w 0 (px_rd w x0 12) (px_w (9 + x1)) = true then
          px_R (mm_Mod_begin, 2, [(2, x0), (0, (px_w (x1 + 1)))], [], (px_wr w (px_rd w x0 12) ((px_w (9 + x1))).toNat 0))
        else none
      else none
    else
      if px_go w x0 9 = true then
        if px_ga w 0 (px_rd w x0 12) 17 = true then
          if px_go (px_wr w (px_rd w x0 12) 17 1) x0 9 = true then
            some (0, (px_wr (px_wr w (px_rd w x0 12) 17 1) x0 23 0))
          else none
        else none
      else none) := (px_Req mm_Mod_begin 2 [(2, x0), (0, x1)] [] w).trans rfl
set_option maxRecDepth 100000 in
theorem eq_Mod_bits_0 (x0 : Int) (w : pw) : px_R (mm_Mod_bits, 0, [(0, x0), (9, 0), (9, 0)], [], w) =
    (px_R (mm_Mod_bits, 4, [(0, x0), (0, 0), (0, x0)], [], w)) := (px_Req mm_Mod_bits 0 [(0, x0), (9, 0), (9, 0)] [] w).trans rfl
set_option maxRecDepth 100000 in
theorem eq_Mod_bits_4 (x0 x1 x2 : Int) (w : pw) : px_R (mm_Mod_bits, 4, [(0, x0), (0, x1), (0, x2)], [], w) =
    (if x2 = 0 then
      some (x1, w)
    else
      px_R (mm_Mod_bits, 4, [(0, x0), (0, (px_w (x1 + 1))), (0, (px_and x2 (px_w (x2 - 1))))], [], w)) := (px_Req mm_Mod_bits 4 [(0, x0), (0, x1), (0, x2)] [] w).trans rfl
set_option maxRecDepth 100000 in
theorem eq_Mod_bounded_0 (x0 : Int) (w : pw) : px_R (mm_Mod_bounded, 0, [(0, x0)], [], w) =
    (if 999999 < x0 then
      some (999999, w)
    else
      if x0 < (-999999) then
        some ((-999999), w)
      else
        some (x0, w)) := (px_Req mm_Mod_bounded 0 [(0, x0)] [] w).trans rfl
set_option maxRecDepth 100000 in
theorem eq_Mod_byteAt_0 (x0 x1 : Int) (w : pw) : px_R (mm_Mod_byteAt, 0, [(2, x0), (0, x1)], [], w) =
    (if px_go w x0 9 = true then
      if x1 < (px_rd w x0 2) then
        if px_go w x0 9 = true then
          if (px_ga w 2 (px_rd w x0 0) x1 || px_ga w 3 (px_rd w x0 0) x1) = true then
            some ((px_and (px_rd w (px_rd w x0 0) (x1).toNat) 255), w)
          else none
        else none
      else
        some ((-1), w)
    else none) := (px_Req mm_Mod_byteAt 0 [(2, x0), (0, x1)] [] w).trans rfl
set_option maxRecDepth 100000 in
theorem eq_Mod_comes_0 (x0 x1 : Int) (w : pw) : px_R (mm_Mod_comes, 0, [(2, x0), (0, x1), (9, 0)], [], w) =
    (px_R (mm_Mod_comes, 2, [(2, x0), (0, x1), (0, 0)], [], w)) := (px_Req mm_Mod_comes 0 [(2, x0), (0, x1), (9, 0)] [] w).trans rfl
set_option maxRecDepth 100000 in
theorem eq_Mod_comes_2 (x0 x1 x2 : Int) (w : pw) : px_R (mm_Mod_comes, 2, [(2, x0), (0, x1), (0, x2)], [], w) =
    (if x2 < x1 then
      if px_ga w 0 x0 (px_w (x1 + x2)) = true then
        if px_ga w 0 x0 x2 = true then
          px_R (mm_Mod_comes, 2, [(2, x0), (0, x1), (0, (px_w (x2 + 1)))], [], (px_wr w x0 (x2).toNat (px_rd w x0 ((px_w (x1 + x2))).toNat)))
        else none
      else none
    else
      some (0, w)) := (px_Req mm_Mod_comes 2 [(2, x0), (0, x1), (0, x2)] [] w).trans rfl
set_option maxRecDepth 100000 in
theorem eq_Mod_count_0 (x0 x1 : Int) (w : pw) : px_R (mm_Mod_count, 0, [(2, x0), (0, x1)], [], w) =
    (if x1 = 0 then
      if px_go w x0 9 = true then
        some ((px_rd w x0 22), w)
      else none
    else if x1 = 1 then
      if px_go w x0 9 = true then
        some ((px_rd w x0 51), w)
      else none
    else if x1 = 2 then
      if px_go w x0 9 = true then
        some ((px_rd w x0 52), w)
      else none
    else if x1 = 3 then
      if px_go w x0 9 = true then
        some ((px_rd w x0 40), w)
      else none
    else if x1 = 4 then
      if px_go w x0 9 = true then
        if px_ga w 0 (px_rd w x0 35) 0 = true then
          some ((px_rd w (px_rd w x0 35) 0), w)
        else none
      else none
    else if x1 = 5 then
      if px_go w x0 9 = true then
        if px_ga w 0 (px_rd w x0 35) 1 = true then
          some ((px_rd w (px_rd w x0 35) 1), w)
        else none
      else none
    else if x1 = 6 then
      if px_go w x0 9 = true then
        some ((px_rd w x0 1), w)
      else none
    else 
      some ((-1), w)) := (px_Req mm_Mod_count 0 [(2, x0), (0, x1)] [] w).trans rfl
set_option maxRecDepth 100000 in
theorem eq_Mod_end_0 (x0 x1 : Int) (w : pw) : px_R (mm_Mod_end, 0, [(2, x0), (0, x1)], [], w) =
    (if x1 < 0 then
      some ((-1), w)
    else
      if px_go w x0 9 = true then
        if (px_rd w x0 1) < x1 then
          some ((-1), w)
        else
          if px_go w x0 9 = true then
            some (x1, (px_wr w x0 1 x1))
          else none
      else none) := (px_Req mm_Mod_end 0 [(2, x0), (0, x1)] [] w).trans rfl
set_option maxRecDepth 100000 in
theorem eq_Mod_fails_0 (x0 x1 : Int) (w : pw) : px_R (mm_Mod_fails, 0, [(2, x0), (0, x1)], [], w) =
    (if px_go w x0 9 = true then
      if px_go (px_wr w x0 8 x1) x0 9 = true then
        if px_go (px_wr w x0 8 x1) x0 9 = true then
          some (0, (px_wr (px_wr w x0 8 x1) x0 9 (px_rd (px_wr w x0 8 x1) x0 5)))
        else none
      else none
    else none) := (px_Req mm_Mod_fails 0 [(2, x0), (0, x1)] [] w).trans rfl
set_option maxRecDepth 100000 in
theorem eq_Mod_fault_0 (x0 x1 : Int) (w : pw) : px_R (mm_Mod_fault, 0, [(2, x0), (0, x1)], [], w) =
    (if x1 = 0 then
      if px_go w x0 9 = true then
        some ((px_rd w x0 8), w)
      else none
    else
      if x1 = 1 then
        if px_go w x0 9 = true then
          some ((px_rd w x0 9), w)
        else none
      else
        some ((-1), w)) := (px_Req mm_Mod_fault 0 [(2, x0), (0, x1)] [] w).trans rfl
set_option maxRecDepth 100000 in
theorem eq_Mod_feed_0 (x0 x1 x2 x3 x4 x5 : Int) (w : pw) : px_R (mm_Mod_feed, 0, [(2, x0), (0, x1), (0, x2), (0, x3), (0, x4), (0, x5), (9, 0), (9, 0), (9, 0)], [], w) =
    (if px_go w x0 9 = true then
      if 900 < (px_w ((px_rd w x0 1) + 20)) then
        some ((-3), w)
      else
        px_R (mm_Mod_feed, 19, [(2, x0), (0, x1), (0, x2), (0, x3), (0, x4), (0, x5), (0, 0), (9, 0), (9, 0)], [], w)
    else none) := (px_Req mm_Mod_feed 0 [(2, x0), (0, x1), (0, x2), (0, x3), (0, x4), (0, x5), (9, 0), (9, 0), (9, 0)] [] w).trans rfl
set_option maxRecDepth 100000 in
theorem eq_Mod_feed_19 (x0 x1 x2 x3 x4 x5 x6 : Int) (y7 y8 : pv) (w : pw) : px_R (mm_Mod_feed, 19, [(2, x0), (0, x1), (0, x2), (0, x3), (0, x4), (0, x5), (0, x6), y7, y8], [], w) =
    (if x6 < 5 then
      if x6 = 0 then
        px_R (mm_Mod_feed, 67, [(2, x0), (0, x1), (0, x2), (0, x3), (0, x4), (0, x5), (0, x6), y7, y8], [(0, x1)], w)
      else
        if x6 = 1 then
          px_R (mm_Mod_feed, 67, [(2, x0), (0, x1), (0, x2), (0, x3), (0, x4), (0, x5), (0, x6), y7, y8], [(0, x2)], w)
        else
          if x6 = 2 then
            px_R (mm_Mod_feed, 67, [(2, x0), (0, x1), (0, x2), (0, x3), (0, x4), (0, x5), (0, x6), y7, y8], [(0, x3)], w)
          else
            if x6 = 3 then
              px_R (mm_Mod_feed, 67, [(2, x0), (0, x1), (0, x2), (0, x3), (0, x4), (0, x5), (0, x6), y7, y8], [(0, x4)], w)
            else
              px_R (mm_Mod_feed, 67, [(2, x0), (0, x1), (0, x2), (0, x3), (0, x4), (0, x5), (0, x6), y7, y8], [(0, x5)], w)
    else
      if px_go w x0 9 = true then
        some ((px_rd w x0 1), w)
      else none) := (px_Req mm_Mod_feed 19 [(2, x0), (0, x1), (0, x2), (0, x3), (0, x4), (0, x5), (0, x6), y7, y8] [] w).trans rfl
set_option maxRecDepth 100000 in
theorem eq_Mod_feed_67 (x0 x1 x2 x3 x4 x5 x6 s0 : Int) (y7 y8 : pv) (w : pw) : px_R (mm_Mod_feed, 67, [(2, x0), (0, x1), (0, x2), (0, x3), (0, x4), (0, x5), (0, x6), y7, y8], [(0, s0)], w) =
    (px_R (mm_Mod_feed, 73, [(2, x0), (0, x1), (0, x2), (0, x3), (0, x4), (0, x5), (0, x6), (0, s0), (0, 24)], [], w)) := (px_Req mm_Mod_feed 67 [(2, x0), (0, x1), (0, x2), (0, x3), (0, x4), (0, x5), (0, x6), y7, y8] [(0, s0)] w).trans rfl
set_option maxRecDepth 100000 in
theorem eq_Mod_feed_73 (x0 x1 x2 x3 x4 x5 x6 x7 x8 : Int) (w : pw) : px_R (mm_Mod_feed, 73, [(2, x0), (0, x1), (0, x2), (0, x3), (0, x4), (0, x5), (0, x6), (0, x7), (0, x8)], [], w) =
    (if x8 < 0 then
      px_R (mm_Mod_feed, 19, [(2, x0), (0, x1), (0, x2), (0, x3), (0, x4), (0, x5), (0, (px_w (x6 + 1))), (0, x7), (0, x8)], [], w)
    else
      if px_go w x0 9 = true then
        if px_go w x0 9 = true then
          if px_gb w (px_rd w x0 0) (px_rd w x0 1) (px_wb (px_shr x7 x8)) = true then
            if px_go (px_wr w (px_rd w x0 0) ((px_rd w x0 1)).toNat (px_wb (px_shr x7 x8))) x0 9 = true then
              if px_go (px_wr w (px_rd w x0 0) ((px_rd w x0 1)).toNat (px_wb (px_shr x7 x8))) x0 9 = true then
                px_R (mm_Mod_feed, 73, [(2, x0), (0, x1), (0, x2), (0, x3), (0, x4), (0, x5), (0, x6), (0, x7), (0, (px_w (x8 + (-8))))], [], (px_wr (px_wr w (px_rd w x0 0) ((px_rd w x0 1)).toNat (px_wb (px_shr x7 x8))) x0 1 (px_w ((px_rd (px_wr w (px_rd w x0 0) ((px_rd w x0 1)).toNat (px_wb (px_shr x7 x8))) x0 1) + 1))))
              else none
            else none
          else none
        else none
      else none) := (px_Req mm_Mod_feed 73 [(2, x0), (0, x1), (0, x2), (0, x3), (0, x4), (0, x5), (0, x6), (0, x7), (0, x8)] [] w).trans rfl
set_option maxRecDepth 100000 in
theorem eq_Mod_hasStuff_0 (x0 : Int) (w : pw) : px_R (mm_Mod_hasStuff, 0, [(2, x0)], [], w) =
    (if px_go w x0 9 = true then
      if px_ga w 0 (px_rd w x0 12) 0 = true then
        if 0 < (px_rd w (px_rd w x0 12) 0) then
          some (1, w)
        else
          some (0, w)
      else none
    else none) := (px_Req mm_Mod_hasStuff 0 [(2, x0)] [] w).trans rfl
set_option maxRecDepth 100000 in
theorem eq_Mod_heard_0 (x0 : Int) (w : pw) : px_R (mm_Mod_heard, 0, [(0, x0)], [], w) =
    (if x0 < 0 then
      some (0, w)
    else
      if 9 < x0 then
        some (9, w)
      else
        some (x0, w)) := (px_Req mm_Mod_heard 0 [(0, x0)] [] w).trans rfl
set_option maxRecDepth 100000 in
theorem eq_Mod_in_0 (x0 x1 x2 : Int) (w : pw) : px_R (mm_Mod_in, 0, [(0, x0), (0, x1), (0, x2)], [], w) =
    (if x0 < x1 then
      some (0, w)
    else
      if x2 < x0 then
        some (0, w)
      else
        some (1, w)) := (px_Req mm_Mod_in 0 [(0, x0), (0, x1), (0, x2)] [] w).trans rfl
set_option maxRecDepth 100000 in
theorem eq_Mod_isBarred_0 (x0 x1 x2 : Int) (w : pw) : px_R (mm_Mod_isBarred, 0, [(2, x0), (0, x1), (0, x2), (9, 0), (9, 0), (9, 0), (9, 0), (9, 0)], [], w) =
    (px_R (mm_Mod_isBarred, 2, [(2, x0), (0, x1), (0, x2), (0, 0), (9, 0), (9, 0), (9, 0), (9, 0)], [], w)) := (px_Req mm_Mod_isBarred 0 [(2, x0), (0, x1), (0, x2), (9, 0), (9, 0), (9, 0), (9, 0), (9, 0)] [] w).trans rfl
set_option maxRecDepth 100000 in
theorem eq_Mod_isBarred_2 (x0 x1 x2 x3 : Int) (y4 y5 y6 y7 : pv) (w : pw) : px_R (mm_Mod_isBarred, 2, [(2, x0), (0, x1), (0, x2), (0, x3), y4, y5, y6, y7], [], w) =
    (if px_go w x0 9 = true then
      if px_ga w 0 (px_rd w x0 12) 4 = true then
        if x3 < (px_rd w (px_rd w x0 12) 4) then
          if px_go w x0 9 = true then
            if px_ga w 0 (px_rd w x0 19) x3 = true then
              if px_go w x0 9 = true then
                if px_ga w 0 (px_rd w x0 17) x1 = true then
                  if px_go w x0 9 = true then
                    if px_ga w 0 (px_rd w x0 20) x3 = true then
                      if px_go w x0 9 = true then
                        if px_ga w 0 (px_rd w x0 18) x1 = true then
                          if px_go w x0 9 = true then
                            if px_ga w 0 (px_rd w x0 19) x3 = true then
                              if px_go w x0 9 = true then
                                if px_ga w 0 (px_rd w x0 17) x2 = true then
                                  if px_go w x0 9 = true then
                                    if px_ga w 0 (px_rd w x0 20) x3 = true then
                                      if px_go w x0 9 = true then
                                        if px_ga w 0 (px_rd w x0 18) x2 = true then
                                          if (px_w ((px_w ((px_rd w (px_rd w x0 19) (x3).toNat) - (px_rd w (px_rd w x0 17) (x1).toNat))) * (px_w ((px_rd w (px_rd w x0 20) (x3).toNat) - (px_rd w (px_rd w x0 18) (x2).toNat))))) = (px_w ((px_w ((px_rd w (px_rd w x0 20) (x3).toNat) - (px_rd w (px_rd w x0 18) (x1).toNat))) * (px_w ((px_rd w (px_rd w x0 19) (x3).toNat) - (px_rd w (px_rd w x0 17) (x2).toNat))))) then
                                            if 0 < (px_w ((px_w ((px_w ((px_rd w (px_rd w x0 19) (x3).toNat) - (px_rd w (px_rd w x0 17) (x1).toNat))) * (px_w ((px_rd w (px_rd w x0 19) (x3).toNat) - (px_rd w (px_rd w x0 17) (x2).toNat))))) + (px_w ((px_w ((px_rd w (px_rd w x0 20) (x3).toNat) - (px_rd w (px_rd w x0 18) (x1).toNat))) * (px_w ((px_rd w (px_rd w x0 20) (x3).toNat) - (px_rd w (px_rd w x0 18) (x2).toNat))))))) then
                                              px_R (mm_Mod_isBarred, 2, [(2, x0), (0, x1), (0, x2), (0, (px_w (x3 + 1))), (0, (px_w ((px_rd w (px_rd w x0 19) (x3).toNat) - (px_rd w (px_rd w x0 17) (x1).toNat)))), (0, (px_w ((px_rd w (px_rd w x0 20) (x3).toNat) - (px_rd w (px_rd w x0 18) (x1).toNat)))), (0, (px_w ((px_rd w (px_rd w x0 19) (x3).toNat) - (px_rd w (px_rd w x0 17) (x2).toNat)))), (0, (px_w ((px_rd w (px_rd w x0 20) (x3).toNat) - (px_rd w (px_rd w x0 18) (x2).toNat))))], [], w)
                                            else
                                              some (1, w)
                                          else
                                            px_R (mm_Mod_isBarred, 2, [(2, x0), (0, x1), (0, x2), (0, (px_w (x3 + 1))), (0, (px_w ((px_rd w (px_rd w x0 19) (x3).toNat) - (px_rd w (px_rd w x0 17) (x1).toNat)))), (0, (px_w ((px_rd w (px_rd w x0 20) (x3).toNat) - (px_rd w (px_rd w x0 18) (x1).toNat)))), (0, (px_w ((px_rd w (px_rd w x0 19) (x3).toNat) - (px_rd w (px_rd w x0 17) (x2).toNat)))), (0, (px_w ((px_rd w (px_rd w x0 20) (x3).toNat) - (px_rd w (px_rd w x0 18) (x2).toNat))))], [], w)
                                        else none
                                      else none
                                    else none
                                  else none
                                else none
                              else none
                            else none
                          else none
                        else none
                      else none
                    else none
                  else none
                else none
              else none
            else none
          else none
        else
          some (0, w)
      else none
    else none) := (px_Req mm_Mod_isBarred 2 [(2, x0), (0, x1), (0, x2), (0, x3), y4, y5, y6, y7] [] w).trans rfl
set_option maxRecDepth 100000 in
theorem eq_Mod_isDigit_0 (x0 : Int) (w : pw) : px_R (mm_Mod_isDigit, 0, [(0, x0)], [], w) =
    (if x0 < 48 then
      some (0, w)
    else
      if 57 < x0 then
        some (0, w)
      else
        some (1, w)) := (px_Req mm_Mod_isDigit 0 [(0, x0)] [] w).trans rfl
set_option maxRecDepth 100000 in
theorem eq_Mod_isGranted_0 (x0 x1 x2 x3 : Int) (w : pw) : px_R (mm_Mod_isGranted, 0, [(2, x0), (0, x1), (0, x2), (0, x3), (9, 0), (9, 0), (9, 0), (9, 0)], [], w) =
    (if px_go w x0 9 = true then
      if px_ga w 0 (px_rd w x0 41) x1 = true then
        px_R (mm_Mod_isGranted, 13, [(2, x0), (0, x1), (0, x2), (0, x3), (0, (px_shl 1 (px_rd w (px_rd w x0 41) (x1).toNat))), (0, 0), (9, 0), (9, 0)], [], w)
      else none
    else none) := (px_Req mm_Mod_isGranted 0 [(2, x0), (0, x1), (0, x2), (0, x3), (9, 0), (9, 0), (9, 0), (9, 0)] [] w).trans rfl
set_option maxRecDepth 100000 in
theorem eq_Mod_isGranted_13 (x0 x1 x2 x3 x4 x5 : Int) (y6 y7 : pv) (w : pw) : px_R (mm_Mod_isGranted, 13, [(2, x0), (0, x1), (0, x2), (0, x3), (0, x4), (0, x5), y6, y7], [], w) =
    (if x5 < x3 then
      px_R (mm_Mod_isGranted, 26, [(2, x0), (0, x1), (0, x2), (0, x3), (0, x4), (0, x5), (0, x4), (0, 0)], [], w)
    else
      if px_go w x0 9 = true then
        if px_ga w 0 (px_rd w x0 42) x1 = true then
          if (px_and (px_shr x4 (px_rd w (px_rd w x0 42) (x1).toNat)) 1) = 1 then
            some (1, w)
          else
            some (0, w)
        else none
      else none) := (px_Req mm_Mod_isGranted 13 [(2, x0), (0, x1), (0, x2), (0, x3), (0, x4), (0, x5), y6, y7] [] w).trans rfl
set_option maxRecDepth 100000 in
theorem eq_Mod_isGranted_26 (x0 x1 x2 x3 x4 x5 x6 x7 : Int) (w : pw) : px_R (mm_Mod_isGranted, 26, [(2, x0), (0, x1), (0, x2), (0, x3), (0, x4), (0, x5), (0, x6), (0, x7)], [], w) =
    (if px_go w x0 9 = true then
      if x7 < (px_rd w x0 43) then
        if (px_and (px_shr x2 x7) 1) = 0 then
          px_R (mm_Mod_isGranted, 26, [(2, x0), (0, x1), (0, x2), (0, x3), (0, x4), (0, x5), (0, x6), (0, (px_w (x7 + 1)))], [], w)
        else
          if px_go w x0 9 = true then
            if px_ga w 0 (px_rd w x0 44) x7 = true then
              if (px_and (px_shr x6 (px_rd w (px_rd w x0 44) (x7).toNat)) 1) = 1 then
                if px_go w x0 9 = true then
                  if px_ga w 0 (px_rd w x0 45) x7 = true then
                    px_R (mm_Mod_isGranted, 77, [(2, x0), (0, x1), (0, x2), (0, x3), (0, (px_or x4 (px_shl 1 (px_rd w (px_rd w x0 45) (x7).toNat)))), (0, x5), (0, x6), (0, x7)], [], w)
                  else none
                else none
              else
                px_R (mm_Mod_isGranted, 77, [(2, x0), (0, x1), (0, x2), (0, x3), (0, x4), (0, x5), (0, x6), (0, x7)], [], w)
            else none
          else none
      else
        px_R (mm_Mod_isGranted, 13, [(2, x0), (0, x1), (0, x2), (0, x3), (0, x4), (0, (px_w (x5 + 1))), (0, x6), (0, x7)], [], w)
    else none) := (px_Req mm_Mod_isGranted 26 [(2, x0), (0, x1), (0, x2), (0, x3), (0, x4), (0, x5), (0, x6), (0, x7)] [] w).trans rfl
set_option maxRecDepth 100000 in
theorem eq_Mod_isGranted_77 (x0 x1 x2 x3 x4 x5 x6 x7 : Int) (w : pw) : px_R (mm_Mod_isGranted, 77, [(2, x0), (0, x1), (0, x2), (0, x3), (0, x4), (0, x5), (0, x6), (0, x7)], [], w) =
    (if px_go w x0 9 = true then
      if px_ga w 0 (px_rd w x0 45) x7 = true then
        if (px_and (px_shr x6 (px_rd w (px_rd w x0 45) (x7).toNat)) 1) = 1 then
          if px_go w x0 9 = true then
            if px_ga w 0 (px_rd w x0 44) x7 = true then
              px_R (mm_Mod_isGranted, 26, [(2, x0), (0, x1), (0, x2), (0, x3), (0, (px_or x4 (px_shl 1 (px_rd w (px_rd w x0 44) (x7).toNat)))), (0, x5), (0, x6), (0, (px_w (x7 + 1)))], [], w)
            else none
          else none
        else
          px_R (mm_Mod_isGranted, 26, [(2, x0), (0, x1), (0, x2), (0, x3), (0, x4), (0, x5), (0, x6), (0, (px_w (x7 + 1)))], [], w)
      else none
    else none) := (px_Req mm_Mod_isGranted 77 [(2, x0), (0, x1), (0, x2), (0, x3), (0, x4), (0, x5), (0, x6), (0, x7)] [] w).trans rfl
set_option maxRecDepth 100000 in
theorem eq_Mod_isGreater_0 (x0 : Int) (w : pw) : px_R (mm_Mod_isGreater, 0, [(2, x0), (9, 0)], [], w) =
    (px_R (mm_Mod_isGreater, 3, [(2, x0), (0, 29)], [], w)) := (px_Req mm_Mod_isGreater 0 [(2, x0), (9, 0)] [] w).trans rfl
set_option maxRecDepth 100000 in
theorem eq_Mod_isGreater_3 (x0 x1 : Int) (w : pw) : px_R (mm_Mod_isGreater, 3, [(2, x0), (0, x1)], [], w) =
    (if x1 < 0 then
      some (0, w)
    else
      if px_go w x0 9 = true then
        if px_ga w 0 (px_rd w x0 60) x1 = true then
          if px_go w x0 9 = true then
            if px_ga w 0 (px_rd w x0 61) x1 = true then
              if (px_rd w (px_rd w x0 60) (x1).toNat) = (px_rd w (px_rd w x0 61) (x1).toNat) then
                px_R (mm_Mod_isGreater, 3, [(2, x0), (0, (px_w (x1 + (-1))))], [], w)
              else
                if px_go w x0 9 = true then
                  if px_ga w 0 (px_rd w x0 60) x1 = true then
                    if px_go w x0 9 = true then
                      if px_ga w 0 (px_rd w x0 61) x1 = true then
                        if (px_rd w (px_rd w x0 61) (x1).toNat) < (px_rd w (px_rd w x0 60) (x1).toNat) then
                          some (1, w)
                        else
                          some (0, w)
                      else none
                    else none
                  else none
                else none
            else none
          else none
        else none
      else none) := (px_Req mm_Mod_isGreater 3 [(2, x0), (0, x1)] [] w).trans rfl
set_option maxRecDepth 100000 in
theorem eq_Mod_isSmall_0 (x0 : Int) (w : pw) : px_R (mm_Mod_isSmall, 0, [(0, x0)], [], w) =
    (if x0 < 97 then
      some (0, w)
    else
      if 122 < x0 then
        some (0, w)
      else
        some (1, w)) := (px_Req mm_Mod_isSmall 0 [(0, x0)] [] w).trans rfl
set_option maxRecDepth 100000 in
theorem eq_Mod_plain_0 (x0 : Int) (w : pw) : px_R (mm_Mod_plain, 0, [(0, x0)], [], w) =
    (if x0 < 0 then
      some ((px_w (-x0)), w)
    else
      some (x0, w)) := (px_Req mm_Mod_plain 0 [(0, x0)] [] w).trans rfl
set_option maxRecDepth 100000 in
theorem eq_Mod_rowsOf_0 (x0 x1 : Int) (w : pw) : px_R (mm_Mod_rowsOf, 0, [(2, x0), (0, x1), (9, 0), (9, 0), (9, 0), (9, 0), (9, 0)], [], w) =
    (if x1 < 1 then
      some (0, w)
    else
      px_R (mm_Mod_rowsOf, 17, [(2, x0), (0, x1), (0, 0), (0, 0), (0, 0), (0, 1), (9, 0)], [], w)) := (px_Req mm_Mod_rowsOf 0 [(2, x0), (0, x1), (9, 0), (9, 0), (9, 0), (9, 0), (9, 0)] [] w).trans rfl
set_option maxRecDepth 100000 in
theorem eq_Mod_rowsOf_17 (x0 x1 x2 x3 x4 x5 : Int) (y6 : pv) (w : pw) : px_R (mm_Mod_rowsOf, 17, [(2, x0), (0, x1), (0, x2), (0, x3), (0, x4), (0, x5), y6], [], w) =
    (if x1 < x5 then
      some (x4, w)
    else
      if (Int.tmod x5 2) = 0 then
        px_R (mm_Mod_rowsOf, 59, [(2, x0), (0, x1), (0, x2), (0, x3), (0, x4), (0, x5), y6], [(0, 0)], w)
      else
        if x5 = 1 then
          px_R (mm_Mod_rowsOf, 59, [(2, x0), (0, x1), (0, x2), (0, x3), (0, x4), (0, x5), y6], [(0, 1)], w)
        else
          if x5 = 3 then
            px_R (mm_Mod_rowsOf, 59, [(2, x0), (0, x1), (0, x2), (0, x3), (0, x4), (0, x5), y6], [(0, (px_w ((px_w (x2 + x3)) + 1)))], w)
          else
            px_R (mm_Mod_rowsOf, 59, [(2, x0), (0, x1), (0, x2), (0, x3), (0, x4), (0, x5), y6], [(0, (px_w ((px_w (x2 + x3)) + 0)))], w)) := (px_Req mm_Mod_rowsOf 17 [(2, x0), (0, x1), (0, x2), (0, x3), (0, x4), (0, x5), y6] [] w).trans rfl
set_option maxRecDepth 100000 in
theorem eq_Mod_rowsOf_59 (x0 x1 x2 x3 x4 x5 s0 : Int) (y6 : pv) (w : pw) : px_R (mm_Mod_rowsOf, 59, [(2, x0), (0, x1), (0, x2), (0, x3), (0, x4), (0, x5), y6], [(0, s0)], w) =
    (if (Int.tmod x5 2) = 1 then
      px_R (mm_Mod_rowsOf, 17, [(2, x0), (0, x1), (0, s0), (0, x2), (0, s0), (0, (px_w (x5 + 1))), (0, s0)], [], w)
    else
      px_R (mm_Mod_rowsOf, 17, [(2, x0), (0, x1), (0, x2), (0, x3), (0, s0), (0, (px_w (x5 + 1))), (0, s0)], [], w)) := (px_Req mm_Mod_rowsOf 59 [(2, x0), (0, x1), (0, x2), (0, x3), (0, x4), (0, x5), y6] [(0, s0)] w).trans rfl
set_option maxRecDepth 100000 in
theorem eq_Mod_straighten_0 (x0 : Int) (w : pw) : px_R (mm_Mod_straighten, 0, [(2, x0), (9, 0)], [], w) =
    (if px_go w x0 9 = true then
      if px_go w x0 9 = true then
        if px_go w x0 9 = true then
          if px_go (px_wr w x0 28 0) x0 9 = true then
            some ((px_w ((px_rd w x0 28) + (px_rd w x0 29))), (px_wr (px_wr w x0 28 0) x0 29 0))
          else none
        else none
      else none
    else none) := (px_Req mm_Mod_straighten 0 [(2, x0), (9, 0)] [] w).trans rfl
set_option maxRecDepth 100000 in
theorem eq_Mod_times_0 (x0 x1 : Int) (w : pw) : px_R (mm_Mod_times, 0, [(2, x0), (0, x1), (9, 0), (9, 0), (9, 0), (9, 0), (9, 0)], [], w) =
    (px_R (mm_Mod_times, 5, [(2, x0), (0, x1), (1, 0), (9, 0), (0, 0), (9, 0), (9, 0)], [], w)) := (px_Req mm_Mod_times 0 [(2, x0), (0, x1), (9, 0), (9, 0), (9, 0), (9, 0), (9, 0)] [] w).trans rfl
set_option maxRecDepth 100000 in
theorem eq_Mod_times_5 (x0 x1 x2 x4 : Int) (y5 : pv) (w : pw) : px_R (mm_Mod_times, 5, [(2, x0), (0, x1), (1, x2), (9, 0), (0, x4), y5, (9, 0)], [], w) =
    (if x4 < 30 then
      if px_go w x0 9 = true then
        if px_ga w 0 (px_rd w x0 60) x4 = true then
          if px_go w x0 9 = true then
            if px_ga w 0 (px_rd w x0 60) x4 = true then
              px_R (mm_Mod_times, 5, [(2, x0), (0, x1), (1, (px_wl (Int.tdiv (px_wl ((px_wl ((px_rd w (px_rd w x0 60) (x4).toNat) * x1)) + x2)) 10000))), (9, 0), (0, (px_w (x4 + 1))), (1, (px_wl ((px_wl ((px_rd w (px_rd w x0 60) (x4).toNat) * x1)) + x2))), (9, 0)], [], (px_wr w (px_rd w x0 60) (x4).toNat (px_w (Int.tmod (px_wl ((px_wl ((px_rd w (px_rd w x0 60) (x4).toNat) * x1)) + x2)) 10000))))
            else none
          else none
        else none
      else none
    else
      some (0, w)) := (px_Req mm_Mod_times 5 [(2, x0), (0, x1), (1, x2), (9, 0), (0, x4), y5, (9, 0)] [] w).trans rfl
set_option maxRecDepth 100000 in
theorem eq_Mod_toLeft_0 (x0 x1 x2 : Int) (w : pw) : px_R (mm_Mod_toLeft, 0, [(2, x0), (0, x1), (0, x2)], [], w) =
    (if x1 < 0 then
      if px_go w x0 9 = true then
        if px_ga w 1 (px_rd w x0 36) 0 = true then
          if px_ga w 1 (px_rd w x0 36) 0 = true then
            some (0, (px_wr w (px_rd w x0 36) 0 (px_wl ((px_rd w (px_rd w x0 36) 0) + x2))))
          else none
        else none
      else none
    else
      if px_go w x0 9 = true then
        if px_ga w 0 (px_rd w x0 39) x1 = true then
          if px_ga w 0 (px_rd w x0 39) x1 = true then
            some (0, (px_wr w (px_rd w x0 39) (x1).toNat (px_w ((px_rd w (px_rd w x0 39) (x1).toNat) + x2))))
          else none
        else none
      else none) := (px_Req mm_Mod_toLeft 0 [(2, x0), (0, x1), (0, x2)] [] w).trans rfl
set_option maxRecDepth 100000 in
theorem eq_Mod_toRight_0 (x0 x1 x2 : Int) (w : pw) : px_R (mm_Mod_toRight, 0, [(2, x0), (0, x1), (0, x2)], [], w) =
    (if px_go w x0 9 = true then
      if px_ga w 0 (px_rd w x0 35) 0 = true then
        if x1 = (px_rd w (px_rd w x0 35) 0) then
          if px_go w x0 9 = true then
            if px_ga w 1 (px_rd w x0 36) 1 = true then
              if px_ga w 1 (px_rd w x0 36) 1 = true then
                some (0, (px_wr w (px_rd w x0 36) 1 (px_wl ((px_rd w (px_rd w x0 36) 1) + x2))))
              else none
            else none
          else none
        else
          if px_go w x0 9 = true then
            if px_ga w 0 (px_rd w x0 38) x1 = true then
              if px_ga w 0 (px_rd w x0 38) x1 = true then
                some (0, (px_wr w (px_rd w x0 38) (x1).toNat (px_w ((px_rd w (px_rd w x0 38) (x1).toNat) + x2))))
              else none
            else none
          else none
      else none
    else none) := (px_Req mm_Mod_toRight 0 [(2, x0), (0, x1), (0, x2)] [] w).trans rfl
set_option maxRecDepth 100000 in
theorem eq_Mod_wroteAt_0 (x0 x1 x2 : Int) (w : pw) : px_R (mm_Mod_wroteAt, 0, [(2, x0), (0, x1), (0, x2), (9, 0), (9, 0)], [], w) =
    (if px_go w x0 9 = true then
      if px_ga w 0 (px_rd w x0 56) x1 = true then
        px_R (mm_Mod_wroteAt, 10, [(2, x0), (0, x1), (0, x2), (0, (px_rd w (px_rd w x0 56) (x1).toNat)), (0, 0)], [], w)
      else none
    else none) := (px_Req mm_Mod_wroteAt 0 [(2, x0), (0, x1), (0, x2), (9, 0), (9, 0)] [] w).trans rfl
set_option maxRecDepth 100000 in
theorem eq_Mod_wroteAt_10 (x0 x1 x2 x3 x4 : Int) (w : pw) : px_R (mm_Mod_wroteAt, 10, [(2, x0), (0, x1), (0, x2), (0, x3), (0, x4)], [], w) =
    (if px_go w x0 9 = true then
      if x4 < (px_rd w x0 52) then
        if px_go w x0 9 = true then
          if px_ga w 0 (px_rd w x0 58) x4 = true then
            if (px_rd w (px_rd w x0 58) (x4).toNat) = x1 then
              if px_go w x0 9 = true then
                if px_ga w 0 (px_rd w x0 57) x4 = true then
                  if x2 < (px_rd w (px_rd w x0 57) (x4).toNat) then
                    px_R (mm_Mod_wroteAt, 10, [(2, x0), (0, x1), (0, x2), (0, x3), (0, (px_w (x4 + 1)))], [], w)
                  else
                    if px_go w x0 9 = true then
                      if px_ga w 0 (px_rd w x0 59) x4 = true then
                        px_R (mm_Mod_wroteAt, 10, [(2, x0), (0, x1), (0, x2), (0, (px_rd w (px_rd w x0 59) (x4).toNat)), (0, (px_w (x4 + 1)))], [], w)
                      else none
                    else none
                else none
              else none
            else
              px_R (mm_Mod_wroteAt, 10, [(2, x0), (0, x1), (0, x2), (0, x3), (0, (px_w (x4 + 1)))], [], w)
          else none
        else none
      else
        some (x3, w)
    else none) := (px_Req mm_Mod_wroteAt 10 [(2, x0), (0, x1), (0, x2), (0, x3), (0, x4)] [] w).trans rfl
set_option maxRecDepth 100000 in
theorem eq_Mod_yardsOf_0 (x0 x1 x2 : Int) (w : pw) : px_R (mm_Mod_yardsOf, 0, [(2, x0), (0, x1), (0, x2), (9, 0), (9, 0), (9, 0)], [], w) =
    (if px_go w x0 9 = true then
      if px_ga w 0 (px_rd w x0 17) x1 = true then
        if px_go w x0 9 = true then
          if px_ga w 0 (px_rd w x0 17) x2 = true then
            if px_go w x0 9 = true then
              if px_ga w 0 (px_rd w x0 18) x1 = true then
                if px_go w x0 9 = true then
                  if px_ga w 0 (px_rd w x0 18) x2 = true then
                    px_R (mm_Mod_yardsOf, 32, [(2, x0), (0, x1), (0, x2), (0, (px_w ((px_rd w (px_rd w x0 17) (x1).toNat) - (px_rd w (px_rd w x0 17) (x2).toNat)))), (0, (px_w ((px_rd w (px_rd w x0 18) (x1).toNat) - (px_rd w (px_rd w x0 18) (x2).toNat)))), (0, 0)], [], w)
                  else none
                else none
              else none
            else none
          else none
        else none
      else none
    else none) := (px_Req mm_Mod_yardsOf 0 [(2, x0), (0, x1), (0, x2), (9, 0), (9, 0), (9, 0)] [] w).trans rfl
set_option maxRecDepth 100000 in
theorem eq_Mod_yardsOf_32 (x0 x1 x2 x3 x4 x5 : Int) (w : pw) : px_R (mm_Mod_yardsOf, 32, [(2, x0), (0, x1), (0, x2), (0, x3), (0, x4), (0, x5)], [], w) =
    (if (px_w (x5 * x5)) < (px_w ((px_w (x3 * x3)) + (px_w (x4 * x4)))) then
      px_R (mm_Mod_yardsOf, 32, [(2, x0), (0, x1), (0, x2), (0, x3), (0, x4), (0, (px_w (x5 + 1)))], [], w)
    else
      some (x5, w)) := (px_Req mm_Mod_yardsOf 32 [(2, x0), (0, x1), (0, x2), (0, x3), (0, x4), (0, x5)] [] w).trans rfl
set_option maxRecDepth 100000 in
theorem eq_Taps_beats_0 (x0 : Int) (w : pw) : px_R (mm_Taps_beats, 0, [(0, x0), (9, 0), (9, 0)], [], w) =
    (px_R (mm_Taps_beats, 4, [(0, x0), (0, x0), (0, 1)], [], w)) := (px_Req mm_Taps_beats 0 [(0, x0), (9, 0), (9, 0)] [] w).trans rfl
set_option maxRecDepth 100000 in
theorem eq_Taps_beats_4 (x0 x1 x2 : Int) (w : pw) : px_R (mm_Taps_beats, 4, [(0, x0), (0, x1), (0, x2)], [], w) =
    (if x2 < (px_w (10 - 1)) then
      if px_gl (px_sar 3) x2 = true then
        if x1 < (px_lst (px_sar 3) (x2).toNat) then
          some (x2, w)
        else
          if px_gl (px_sar 3) x2 = true then
            px_R (mm_Taps_beats, 4, [(0, x0), (0, (px_w (x1 - (px_lst (px_sar 3) (x2).toNat)))), (0, (px_w (x2 + 1)))], [], w)
          else none
      else none
    else
      some (x2, w)) := (px_Req mm_Taps_beats 4 [(0, x0), (0, x1), (0, x2)] [] w).trans rfl
set_option maxRecDepth 100000 in
theorem eq_Integer_bitCount_0 (x0 : Int) (w : pw) : px_R (mm_Integer_bitCount, 0, [(0, x0)], [], w) =
    (some ((px_and (px_w ((px_w ((px_and (px_w ((px_w ((px_and (px_w (x0 - (px_and (px_ush x0 1) 1431655765))) 858993459) + (px_and (px_ush (px_w (x0 - (px_and (px_ush x0 1) 1431655765))) 2) 858993459))) + (px_ush (px_w ((px_and (px_w (x0 - (px_and (px_ush x0 1) 1431655765))) 858993459) + (px_and (px_ush (px_w (x0 - (px_and (px_ush x0 1) 1431655765))) 2) 858993459))) 4))) 252645135) + (px_ush (px_and (px_w ((px_w ((px_and (px_w (x0 - (px_and (px_ush x0 1) 1431655765))) 858993459) + (px_and (px_ush (px_w (x0 - (px_and (px_ush x0 1) 1431655765))) 2) 858993459))) + (px_ush (px_w ((px_and (px_w (x0 - (px_and (px_ush x0 1) 1431655765))) 858993459) + (px_and (px_ush (px_w (x0 - (px_and (px_ush x0 1) 1431655765))) 2) 858993459))) 4))) 252645135) 8))) + (px_ush (px_w ((px_and (px_w ((px_w ((px_and (px_w (x0 - (px_and (px_ush x0 1) 1431655765))) 858993459) + (px_and (px_ush (px_w (x0 - (px_and (px_ush x0 1) 1431655765))) 2) 858993459))) + (px_ush (px_w ((px_and (px_w (x0 - (px_and (px_ush x0 1) 1431655765))) 858993459) + (px_and (px_ush (px_w (x0 - (px_and (px_ush x0 1) 1431655765))) 2) 858993459))) 4))) 252645135) + (px_ush (px_and (px_w ((px_w ((px_and (px_w (x0 - (px_and (px_ush x0 1) 1431655765))) 858993459) + (px_and (px_ush (px_w (x0 - (px_and (px_ush x0 1) 1431655765))) 2) 858993459))) + (px_ush (px_w ((px_and (px_w (x0 - (px_and (px_ush x0 1) 1431655765))) 858993459) + (px_and (px_ush (px_w (x0 - (px_and (px_ush x0 1) 1431655765))) 2) 858993459))) 4))) 252645135) 8))) 16))) 63), w)) := (px_Req mm_Integer_bitCount 0 [(0, x0)] [] w).trans rfl
set_option maxRecDepth 100000 in
theorem eq_Ear_init_0 (x0 : Int) (w : pw) : px_R (mm_Ear_init, 0, [(2, x0)], [], w) =
    (if (!decide (x0 = 0)) = true then
      if px_go (px_al2 w 4 0 6 4) x0 1 = true then
        if px_go (px_al2 (px_wr (px_al2 w 4 0 6 4) x0 2 (w.1.length : Int)) 4 0 6 4) x0 1 = true then
          px_R (mm_Ear_init, 26, [(2, x0)], [], (px_wr (px_al2 (px_wr (px_al2 w 4 0 6 4) x0 2 (w.1.length : Int)) 4 0 6 4) x0 3 ((px_wr (px_al2 w 4 0 6 4) x0 2 (w.1.length : Int)).1.length : Int)))
        else none
      else none
    else none) := (px_Req mm_Ear_init 0 [(2, x0)] [] w).trans rfl
set_option maxRecDepth 100000 in
theorem eq_Ear_init_26 (x0 : Int) (w : pw) : px_R (mm_Ear_init, 26, [(2, x0)], [], w) =
    (if px_go (px_al w (0, 6)) x0 1 = true then
      if px_go (px_al (px_wr (px_al w (0, 6)) x0 4 (w.1.length : Int)) (0, 6)) x0 1 = true then
        px_R (mm_Ear_init, 42, [(2, x0)], [], (px_wr (px_al (px_wr (px_al w (0, 6)) x0 4 (w.1.length : Int)) (0, 6)) x0 6 ((px_wr (px_al w (0, 6)) x0 4 (w.1.length : Int)).1.length : Int)))
      else none
    else none) := (px_Req mm_Ear_init 26 [(2, x0)] [] w).trans rfl
set_option maxRecDepth 100000 in
theorem eq_Ear_init_42 (x0 : Int) (w : pw) : px_R (mm_Ear_init, 42, [(2, x0)], [], w) =
    (if px_go (px_al w (0, 4)) x0 1 = true then
      if px_go (px_al2 (px_wr (px_al w (0, 4)) x0 7 (w.1.length : Int)) 5 1 4 7) x0 1 = true then
        px_R (mm_Ear_init, 60, [(2, x0)], [], (px_wr (px_al2 (px_wr (px_al w (0, 4)) x0 7 (w.1.length : Int)) 5 1 4 7) x0 8 ((px_wr (px_al w (0, 4)) x0 7 (w.1.length : Int)).1.length : Int)))
      else none
    else none) := (px_Req mm_Ear_init 42 [(2, x0)] [] w).trans rfl
set_option maxRecDepth 100000 in
theorem eq_Ear_init_60 (x0 : Int) (w : pw) : px_R (mm_Ear_init, 60, [(2, x0)], [], w) =
    (if px_go (px_al2 w 4 0 4 7) x0 1 = true then
      some (0, (px_wr (px_al2 w 4 0 4 7) x0 9 (w.1.length : Int)))
    else none) := (px_Req mm_Ear_init 60 [(2, x0)] [] w).trans rfl
set_option maxRecDepth 100000 in
theorem eq_Ear_hearRest_0 (x0 x1 x3 x4 : Int) (w : pw) : px_R (mm_Ear_hearRest, 0, [(2, x0), (1, x1), (9, 0), (0, x3), (2, x4), (9, 0), (9, 0), (9, 0), (9, 0), (9, 0), (9, 0)], [], w) =
    (px_R (mm_Ear_hearRest, 3, [(2, x0), (1, x1), (9, 0), (0, x3), (2, x4), (0, 0), (9, 0), (9, 0), (9, 0), (9, 0), (9, 0)], [], w)) := (px_Req mm_Ear_hearRest 0 [(2, x0), (1, x1), (9, 0), (0, x3), (2, x4), (9, 0), (9, 0), (9, 0), (9, 0), (9, 0), (9, 0)] [] w).trans rfl
set_option maxRecDepth 100000 in
theorem eq_Ear_hearRest_3 (x0 x1 x3 x4 x5 : Int) (y6 y8 y9 y10 : pv) (w : pw) : px_R (mm_Ear_hearRest, 3, [(2, x0), (1, x1), (9, 0), (0, x3), (2, x4), (0, x5), y6, (9, 0), y8, y9, y10], [], w) =
    (if px_go w x0 1 = true then
      if px_ga w 0 (px_rd w x0 7) 2 = true then
        if x5 < (px_rd w (px_rd w x0 7) 2) then
          if px_go w x0 1 = true then
            if (px_ga w 4 (px_rd w x0 8) 2 || (px_ga w 5 (px_rd w x0 8) 2 || px_ga w 6 (px_rd w x0 8) 2)) = true then
              if px_ga w 1 (px_rd w (px_rd w x0 8) 2) x5 = true then
                if px_go w x0 1 = true then
                  if (px_ga w 4 (px_rd w x0 9) 2 || (px_ga w 5 (px_rd w x0 9) 2 || px_ga w 6 (px_rd w x0 9) 2)) = true then
                    if px_ga w 0 (px_rd w (px_rd w x0 9) 2) x5 = true then
                      px_R (mm_Ear_hearRest, 43, [(2, x0), (1, x1), (9, 0), (0, x3), (2, x4), (0, x5), (1, (px_wl (x1 + (px_rd w (px_rd w (px_rd w x0 8) 2) (x5).toNat)))), (9, 0), (0, (px_w (x3 * (px_rd w (px_rd w (px_rd w x0 9) 2) (x5).toNat)))), (0, 0), y10], [], w)
                    else none
                  else none
                else none
              else none
            else none
          else none
        else
          some (0, w)
      else none
    else none) := (px_Req mm_Ear_hearRest 3 [(2, x0), (1, x1), (9, 0), (0, x3), (2, x4), (0, x5), y6, (9, 0), y8, y9, y10] [] w).trans rfl
set_option maxRecDepth 100000 in
theorem eq_Ear_hearRest_43 (x0 x1 x3 x4 x5 x6 x8 x9 : Int) (y10 : pv) (w : pw) : px_R (mm_Ear_hearRest, 43, [(2, x0), (1, x1), (9, 0), (0, x3), (2, x4), (0, x5), (1, x6), (9, 0), (0, x8), (0, x9), y10], [], w) =
    (if px_go w x0 1 = true then
      if px_ga w 0 (px_rd w x0 7) 3 = true then
        if x9 < (px_rd w (px_rd w x0 7) 3) then
          if px_go w x0 1 = true then
            if (px_ga w 4 (px_rd w x0 8) 3 || (px_ga w 5 (px_rd w x0 8) 3 || px_ga w 6 (px_rd w x0 8) 3)) = true then
              if px_ga w 1 (px_rd w (px_rd w x0 8) 3) x9 = true then
                if px_go w x0 1 = true then
                  (px_R (mm_Ear_nearest, 0, [(2, x0), (1, (px_wl (x6 + (px_rd w (px_rd w (px_rd w x0 8) 3) (x9).toNat)))), (9, 0), (9, 0), (9, 0), (9, 0), (9, 0), (9, 0), (9, 0)], [], w)).bind fun r1 =>
                  if Nat.ble (px_kd r1.2 x4).1 6 = true then
                    if r1.1 < ((px_kd r1.2 x4).2 : Int) then
                      if px_ga r1.2 0 x4 r1.1 = true then
                        if px_go r1.2 x0 1 = true then
                          if (px_ga r1.2 4 (px_rd r1.2 x0 9) 3 || (px_ga r1.2 5 (px_rd r1.2 x0 9) 3 || px_ga r1.2 6 (px_rd r1.2 x0 9) 3)) = true then
                            if px_ga r1.2 0 (px_rd r1.2 (px_rd r1.2 x0 9) 3) x9 = true then
                              if px_ga r1.2 0 x4 r1.1 = true then
                                px_R (mm_Ear_hearRest, 43, [(2, x0), (1, x1), (9, 0), (0, x3), (2, x4), (0, x5), (1, x6), (9, 0), (0, x8), (0, (px_w (x9 + 1))), (0, r1.1)], [], (px_wr r1.2 x4 (r1.1).toNat (px_w ((px_rd r1.2 x4 (r1.1).toNat) + (px_w (x8 * (px_rd r1.2 (px_rd r1.2 (px_rd r1.2 x0 9) 3) (x9).toNat)))))))
                              else none
                            else none
                          else none
                        else none
                      else none
                    else
                      px_R (mm_Ear_hearRest, 43, [(2, x0), (1, x1), (9, 0), (0, x3), (2, x4), (0, x5), (1, x6), (9, 0), (0, x8), (0, (px_w (x9 + 1))), (0, r1.1)], [], r1.2)
                  else none
                else none
              else none
            else none
          else none
        else
          px_R (mm_Ear_hearRest, 3, [(2, x0), (1, x1), (9, 0), (0, x3), (2, x4), (0, (px_w (x5 + 1))), (1, x6), (9, 0), (0, x8), (0, x9), y10], [], w)
      else none
    else none) := (px_Req mm_Ear_hearRest 43 [(2, x0), (1, x1), (9, 0), (0, x3), (2, x4), (0, x5), (1, x6), (9, 0), (0, x8), (0, x9), y10] [] w).trans rfl
set_option maxRecDepth 100000 in
theorem eq_Ear_heardWith_0 (x0 x1 x2 x3 : Int) (w : pw) : px_R (mm_Ear_heardWith, 0, [(2, x0), (0, x1), (0, x2), (0, x3)], [], w) =
    (if px_go w x0 1 = true then
      if (px_ga w 4 (px_rd w x0 2) x1 || (px_ga w 5 (px_rd w x0 2) x1 || px_ga w 6 (px_rd w x0 2) x1)) = true then
        if px_ga w 0 (px_rd w (px_rd w x0 2) (x1).toNat) x2 = true then
          some ((px_mx 0 (px_mn 9 (px_w ((px_rd w (px_rd w (px_rd w x0 2) (x1).toNat) (x2).toNat) + x3)))), w)
        else none
      else none
    else none) := (px_Req mm_Ear_heardWith 0 [(2, x0), (0, x1), (0, x2), (0, x3)] [] w).trans rfl
set_option maxRecDepth 100000 in
theorem eq_Ear_noiseOf_0 (x0 x1 : Int) (w : pw) : px_R (mm_Ear_noiseOf, 0, [(2, x0), (0, x1), (9, 0), (9, 0)], [], w) =
    (if px_go w x0 1 = true then
      px_R (mm_Ear_noiseOf, 8, [(2, x0), (0, x1), (0, x1), (0, (px_w (-(px_rd w x0 1))))], [], w)
    else none) := (px_Req mm_Ear_noiseOf 0 [(2, x0), (0, x1), (9, 0), (9, 0)] [] w).trans rfl
set_option maxRecDepth 100000 in
theorem eq_Ear_noiseOf_8 (x0 x1 x2 x3 : Int) (w : pw) : px_R (mm_Ear_noiseOf, 8, [(2, x0), (0, x1), (0, x2), (0, x3)], [], w) =
    (if px_go w x0 1 = true then
      if x3 < (px_rd w x0 1) then
        if px_go w x0 1 = true then
          if (px_w (x2 - (px_w ((px_w ((px_rd w x0 1) + 1)) - (px_ab x3))))) < 0 then
            some (x3, w)
          else
            px_R (mm_Ear_noiseOf, 8, [(2, x0), (0, x1), (0, (px_w (x2 - (px_w ((px_w ((px_rd w x0 1) + 1)) - (px_ab x3)))))), (0, (px_w (x3 + 1)))], [], w)
        else none
      else
        if px_go w x0 1 = true then
          some ((px_rd w x0 1), w)
        else none
    else none) := (px_Req mm_Ear_noiseOf 8 [(2, x0), (0, x1), (0, x2), (0, x3)] [] w).trans rfl
set_option maxRecDepth 100000 in
theorem eq_Ear_offFrom_0 (x0 x1 x2 : Int) (w : pw) : px_R (mm_Ear_offFrom, 0, [(2, x0), (0, x1), (0, x2), (9, 0), (9, 0), (9, 0), (9, 0)], [], w) =
    (if px_go w x0 1 = true then
      px_R (mm_Ear_offFrom, 10, [(2, x0), (0, x1), (0, x2), (1, 0), (9, 0), (0, (px_w ((px_rd w x0 5) - 1))), (9, 0)], [], w)
    else none) := (px_Req mm_Ear_offFrom 0 [(2, x0), (0, x1), (0, x2), (9, 0), (9, 0), (9, 0), (9, 0)] [] w).trans rfl
set_option maxRecDepth 100000 in
theorem eq_Ear_offFrom_10 (x0 x1 x2 x3 x5 : Int) (y6 : pv) (w : pw) : px_R (mm_Ear_offFrom, 10, [(2, x0), (0, x1), (0, x2), (1, x3), (9, 0), (0, x5), y6], [], w) =
    (if x5 < 0 then
      some (x3, w)
    else
      if px_go w x0 1 = true then
        if px_go w x0 1 = true then
          if px_ga w 0 (px_rd w x0 6) x5 = true then
            if (px_ga w 4 (px_rd w x0 2) (px_rd w (px_rd w x0 6) (x5).toNat) || (px_ga w 5 (px_rd w x0 2) (px_rd w (px_rd w x0 6) (x5).toNat) || px_ga w 6 (px_rd w x0 2) (px_rd w (px_rd w x0 6) (x5).toNat))) = true then
              if px_ga w 0 (px_rd w (px_rd w x0 2) ((px_rd w (px_rd w x0 6) (x5).toNat)).toNat) x1 = true then
                if px_go w x0 1 = true then
                  if px_go w x0 1 = true then
                    if px_ga w 0 (px_rd w x0 6) 0 = true then
                      if (px_ga w 4 (px_rd w x0 2) (px_rd w (px_rd w x0 6) 0) || (px_ga w 5 (px_rd w x0 2) (px_rd w (px_rd w x0 6) 0) || px_ga w 6 (px_rd w x0 2) (px_rd w (px_rd w x0 6) 0))) = true then
                        if px_ga w 0 (px_rd w (px_rd w x0 2) ((px_rd w (px_rd w x0 6) 0)).toNat) x1 = true then
                          px_R (mm_Ear_offFrom, 10, [(2, x0), (0, x1), (0, x2), (1, (px_wl ((px_wl ((px_lshl x3 10) + (px_w ((px_ab (px_w (x2 - (px_rd w (px_rd w (px_rd w x0 2) ((px_rd w (px_rd w x0 6) (x5).toNat)).toNat) (x1).toNat)))) - (px_ab (px_w (x2 - (px_rd w (px_rd w (px_rd w x0 2) ((px_rd w (px_rd w x0 6) 0)).toNat) (x1).toNat)))))))) + 9))), (9, 0), (0, (px_w (x5 + (-1)))), (0, (px_w ((px_ab (px_w (x2 - (px_rd w (px_rd w (px_rd w x0 2) ((px_rd w (px_rd w x0 6) (x5).toNat)).toNat) (x1).toNat)))) - (px_ab (px_w (x2 - (px_rd w (px_rd w (px_rd w x0 2) ((px_rd w (px_rd w x0 6) 0)).toNat) (x1).toNat)))))))], [], w)
                        else none
                      else none
                    else none
                  else none
                else none
              else none
            else none
          else none
        else none
      else none) := (px_Req mm_Ear_offFrom 10 [(2, x0), (0, x1), (0, x2), (1, x3), (9, 0), (0, x5), y6] [] w).trans rfl
set_option maxRecDepth 100000 in
theorem eq_Ear_thinkOf_0 (x0 x1 : Int) (w : pw) : px_R (mm_Ear_thinkOf, 0, [(2, x0), (0, x1), (9, 0)], [], w) =
    (if px_go w x0 1 = true then
      px_R (mm_Ear_thinkOf, 7, [(2, x0), (0, x1), (0, 0)], [], (px_wr w x0 5 0))
    else none) := (px_Req mm_Ear_thinkOf 0 [(2, x0), (0, x1), (9, 0)] [] w).trans rfl
set_option maxRecDepth 100000 in
theorem eq_Ear_thinkOf_7 (x0 x1 x2 : Int) (w : pw) : px_R (mm_Ear_thinkOf, 7, [(2, x0), (0, x1), (0, x2)], [], w) =
    (if px_go w x0 1 = true then
      if x2 < (px_rd w x0 0) then
        if (px_and (px_shr x1 x2) 1) = 1 then
          if px_go w x0 1 = true then
            (px_R (mm_Ear_soundsAsEarlier, 0, [(2, x0), (0, x2), (9, 0), (9, 0), (9, 0), (9, 0)], [], w)).bind fun r1 =>
            if r1.1 = 0 then
              if px_go r1.2 x0 1 = true then
                if px_go r1.2 x0 1 = true then
                  if px_ga r1.2 0 (px_rd r1.2 x0 6) (px_rd r1.2 x0 5) = true then
                    if px_go (px_wr r1.2 (px_rd r1.2 x0 6) ((px_rd r1.2 x0 5)).toNat x2) x0 1 = true then
                      if px_go (px_wr r1.2 (px_rd r1.2 x0 6) ((px_rd r1.2 x0 5)).toNat x2) x0 1 = true then
                        px_R (mm_Ear_thinkOf, 7, [(2, x0), (0, x1), (0, (px_w (x2 + 1)))], [], (px_wr (px_wr r1.2 (px_rd r1.2 x0 6) ((px_rd r1.2 x0 5)).toNat x2) x0 5 (px_w ((px_rd (px_wr r1.2 (px_rd r1.2 x0 6) ((px_rd r1.2 x0 5)).toNat x2) x0 5) + 1))))
                      else none
                    else none
                  else none
                else none
              else none
            else
              px_R (mm_Ear_thinkOf, 7, [(2, x0), (0, x1), (0, (px_w (x2 + 1)))], [], r1.2)
          else none
        else
          px_R (mm_Ear_thinkOf, 7, [(2, x0), (0, x1), (0, (px_w (x2 + 1)))], [], w)
      else
        some (0, w)
    else none) := (px_Req mm_Ear_thinkOf 7 [(2, x0), (0, x1), (0, x2)] [] w).trans rfl
set_option maxRecDepth 100000 in
theorem eq_Line_init_0 (x0 : Int) (w : pw) : px_R (mm_Line_init, 0, [(2, x0)], [], w) =
    (if (!decide (x0 = 0)) = true then
      if px_go w x0 2 = true then
        if px_go (px_al (px_wr w x0 2 10) (0, 4)) x0 2 = true then
          px_R (mm_Line_init, 21, [(2, x0)], [(2, ((px_wr (px_al (px_wr w x0 2 10) (0, 4)) x0 5 ((px_wr w x0 2 10).1.length : Int)).1.length : Int)), (2, x0)], (px_al (px_wr (px_al (px_wr w x0 2 10) (0, 4)) x0 5 ((px_wr w x0 2 10).1.length : Int)) (0, 4)))
        else none
      else none
    else none) := (px_Req mm_Line_init 0 [(2, x0)] [] w).trans rfl
set_option maxRecDepth 100000 in
theorem eq_Line_init_21 (x0 s0 s1 : Int) (w : pw) : px_R (mm_Line_init, 21, [(2, x0)], [(2, s1), (2, s0)], w) =
    (if px_go w s0 2 = true then
      some (0, (px_wr w s0 7 s1))
    else none) := (px_Req mm_Line_init 21 [(2, x0)] [(2, s1), (2, s0)] w).trans rfl
set_option maxRecDepth 100000 in
theorem eq_Line_asLevel_0 (x0 : Int) (w : pw) : px_R (mm_Line_asLevel, 0, [(0, x0)], [], w) =
    (some ((px_mn 9 (px_w (Int.tdiv x0 500))), w)) := (px_Req mm_Line_asLevel 0 [(0, x0)] [] w).trans rfl
set_option maxRecDepth 100000 in
theorem eq_Line_enters_0 (x0 x1 x2 x3 x4 : Int) (w : pw) : px_R (mm_Line_enters, 0, [(2, x0), (2, x1), (0, x2), (0, x3), (0, x4), (9, 0)], [], w) =
    (if px_go w x0 2 = true then
      if px_go w x1 5 = true then
        (px_R (mm_Str_ofBand, 0, [(2, x1), (0, 1), (0, (px_rd w x0 1)), (0, x4), (9, 0)], [], w)).bind fun r1 =>
        some ((px_w (Int.tdiv (px_w ((px_w (Int.tdiv (px_w ((px_w (1000 * x3)) * r1.1)) 100)) * x2)) 100)), r1.2)
      else none
    else none) := (px_Req mm_Line_enters 0 [(2, x0), (2, x1), (0, x2), (0, x3), (0, x4), (9, 0)] [] w).trans rfl
set_option maxRecDepth 100000 in
theorem eq_Line_overBends_0 (x0 x1 x2 x3 x4 : Int) (w : pw) : px_R (mm_Line_overBends, 0, [(2, x0), (2, x1), (0, x2), (0, x3), (0, x4), (9, 0), (9, 0), (9, 0), (9, 0)], [], w) =
    (px_R (mm_Line_overBends, 6, [(2, x0), (2, x1), (0, x2), (0, x3), (0, x4), (0, x2), (0, 0), (9, 0), (9, 0)], [], w)) := (px_Req mm_Line_overBends 0 [(2, x0), (2, x1), (0, x2), (0, x3), (0, x4), (9, 0), (9, 0), (9, 0), (9, 0)] [] w).trans rfl
set_option maxRecDepth 100000 in
theorem eq_Line_overBends_6 (x0 x1 x2 x3 x4 x5 x6 : Int) (y7 y8 : pv) (w : pw) : px_R (mm_Line_overBends, 6, [(2, x0), (2, x1), (0, x2), (0, x3), (0, x4), (0, x5), (0, x6), y7, y8], [], w) =
    (if px_go w x0 2 = true then
      if x6 < (px_rd w x0 4) then
        if px_go w x0 2 = true then
          if px_ga w 0 (px_rd w x0 5) x6 = true then
            if (px_rd w (px_rd w x0 5) (x6).toNat) = (-1) then
              px_R (mm_Line_overBends, 6, [(2, x0), (2, x1), (0, x2), (0, x3), (0, x4), (0, (px_w (Int.tdiv (px_w (x5 * 0)) 100))), (0, (px_w (x6 + 1))), (0, 0), y8], [], w)
            else
              if px_go w x0 2 = true then
                if px_ga w 0 (px_rd w x0 5) x6 = true then
                  if px_go w x1 5 = true then
                    (px_R (mm_Str_number, 0, [(2, x1), (0, 5), (0, (px_rd w (px_rd w x0 5) (x6).toNat)), (0, 0)], [], w)).bind fun r1 =>
                    if px_go r1.2 x0 2 = true then
                      if px_ga r1.2 0 (px_rd r1.2 x0 5) x6 = true then
                        if px_go r1.2 x1 5 = true then
                          (px_R (mm_Str_ofBand, 0, [(2, x1), (0, 5), (0, (px_rd r1.2 (px_rd r1.2 x0 5) (x6).toNat)), (0, x3), (9, 0)], [], r1.2)).bind fun r2 =>
                          px_R (mm_Line_overBends, 6, [(2, x0), (2, x1), (0, x2), (0, x3), (0, x4), (0, (px_w (Int.tdiv (px_w (x5 * (px_w (100 - (px_w (10 * (px_ab (px_w (r1.1 - r2.1))))))))) 100))), (0, (px_w (x6 + 1))), (0, (px_w (100 - (px_w (10 * (px_ab (px_w (r1.1 - r2.1)))))))), (0, r1.1)], [], r2.2)
                        else none
                      else none
                    else none
                  else none
                else none
              else none
          else none
        else none
      else
        px_R (mm_Line_overBends, 90, [(2, x0), (2, x1), (0, x2), (0, x3), (0, x4), (0, x5), (0, 0), y7, y8], [], w)
    else none) := (px_Req mm_Line_overBends 6 [(2, x0), (2, x1), (0, x2), (0, x3), (0, x4), (0, x5), (0, x6), y7, y8] [] w).trans rfl
set_option maxRecDepth 100000 in
theorem eq_Line_overBends_90 (x0 x1 x2 x3 x4 x5 x6 : Int) (y7 y8 : pv) (w : pw) : px_R (mm_Line_overBends, 90, [(2, x0), (2, x1), (0, x2), (0, x3), (0, x4), (0, x5), (0, x6), y7, y8], [], w) =
    (if x6 < x4 then
      if px_go w x0 2 = true then
        if px_ga w 0 (px_rd w x0 7) x6 = true then
          px_R (mm_Line_overBends, 90, [(2, x0), (2, x1), (0, x2), (0, x3), (0, x4), (0, (px_w (Int.tdiv (px_w (x5 * (px_w (100 - (px_rd w (px_rd w x0 7) (x6).toNat))))) 100))), (0, (px_w (x6 + 1))), y7, y8], [], w)
        else none
      else none
    else
      some (x5, w)) := (px_Req mm_Line_overBends 90 [(2, x0), (2, x1), (0, x2), (0, x3), (0, x4), (0, x5), (0, x6), y7, y8] [] w).trans rfl
set_option maxRecDepth 100000 in
theorem eq_Line_overYards_0 (x0 x1 x2 x3 x4 : Int) (w : pw) : px_R (mm_Line_overYards, 0, [(2, x0), (2, x1), (0, x2), (0, x3), (0, x4), (9, 0), (9, 0), (9, 0)], [], w) =
    (if px_go w x0 2 = true then
      if px_go w x1 5 = true then
        (px_R (mm_Str_ofBand, 0, [(2, x1), (0, 0), (0, (px_rd w x0 0)), (0, x3), (9, 0)], [], w)).bind fun r1 =>
        px_R (mm_Line_overYards, 22, [(2, x0), (2, x1), (0, x2), (0, x3), (0, x4), (0, (px_w (1000 - r1.1))), (0, x2), (0, 0)], [], r1.2)
      else none
    else none) := (px_Req mm_Line_overYards 0 [(2, x0), (2, x1), (0, x2), (0, x3), (0, x4), (9, 0), (9, 0), (9, 0)] [] w).trans rfl
set_option maxRecDepth 100000 in
theorem eq_Line_overYards_22 (x0 x1 x2 x3 x4 x5 x6 x7 : Int) (w : pw) : px_R (mm_Line_overYards, 22, [(2, x0), (2, x1), (0, x2), (0, x3), (0, x4), (0, x5), (0, x6), (0, x7)], [], w) =
    (if x7 < x4 then
      px_R (mm_Line_overYards, 22, [(2, x0), (2, x1), (0, x2), (0, x3), (0, x4), (0, x5), (0, (px_w (Int.tdiv (px_w (x6 * x5)) 1000))), (0, (px_w (x7 + 1)))], [], w)
    else
      some (x6, w)) := (px_Req mm_Line_overYards 22 [(2, x0), (2, x1), (0, x2), (0, x3), (0, x4), (0, x5), (0, x6), (0, x7)] [] w).trans rfl
set_option maxRecDepth 100000 in
theorem eq_Line_strength_0 (x0 x1 : Int) (w : pw) : px_R (mm_Line_strength, 0, [(2, x0), (2, x1), (9, 0)], [], w) =
    (if px_go w x0 2 = true then
      if px_go w x1 5 = true then
        (px_R (mm_Str_number, 0, [(2, x1), (0, 0), (0, (px_rd w x0 0)), (0, 0)], [], w)).bind fun r1 =>
        if px_go r1.2 x1 5 = true then
          (px_R (mm_Str_number, 0, [(2, x1), (0, 6), (0, 0), (0, 0)], [], r1.2)).bind fun r2 =>
          if px_go r2.2 x1 5 = true then
            (px_R (mm_Str_number, 0, [(2, x1), (0, 7), (0, 0), (0, 0)], [], r2.2)).bind fun r3 =>
            some ((px_mx 0 (px_w ((px_w (Int.tdiv (px_w (r1.1 * (px_w (100 - r2.1)))) 100)) - r3.1))), r3.2)
          else none
        else none
      else none
    else none) := (px_Req mm_Line_strength 0 [(2, x0), (2, x1), (9, 0)] [] w).trans rfl
set_option maxRecDepth 100000 in
theorem eq_Prod_init_0 (x0 : Int) (w : pw) : px_R (mm_Prod_init, 0, [(2, x0)], [], w) =
    (if (!decide (x0 = 0)) = true then
      if px_go (px_al w (1, 11)) x0 3 = true then
        some (0, (px_wr (px_al w (1, 11)) x0 0 (w.1.length : Int)))
      else none
    else none) := (px_Req mm_Prod_init 0 [(2, x0)] [] w).trans rfl
set_option maxRecDepth 100000 in
theorem eq_Row_init_0 (x0 : Int) (w : pw) : px_R (mm_Row_init, 0, [(2, x0)], [], w) =
    (if (!decide (x0 = 0)) = true then
      if px_go (px_al w (0, 40)) x0 4 = true then
        if px_go (px_al (px_wr (px_al w (0, 40)) x0 4 (w.1.length : Int)) (0, 40)) x0 4 = true then
          px_R (mm_Row_init, 20, [(2, x0)], [], (px_wr (px_al (px_wr (px_al w (0, 40)) x0 4 (w.1.length : Int)) (0, 40)) x0 5 ((px_wr (px_al w (0, 40)) x0 4 (w.1.length : Int)).1.length : Int)))
        else none
      else none
    else none) := (px_Req mm_Row_init 0 [(2, x0)] [] w).trans rfl
set_option maxRecDepth 100000 in
theorem eq_Row_init_20 (x0 : Int) (w : pw) : px_R (mm_Row_init, 20, [(2, x0)], [], w) =
    (if px_go (px_al w (0, 40)) x0 4 = true then
      if px_go (px_al (px_wr (px_al w (0, 40)) x0 6 (w.1.length : Int)) (0, 40)) x0 4 = true then
        px_R (mm_Row_init, 36, [(2, x0)], [], (px_wr (px_al (px_wr (px_al w (0, 40)) x0 6 (w.1.length : Int)) (0, 40)) x0 7 ((px_wr (px_al w (0, 40)) x0 6 (w.1.length : Int)).1.length : Int)))
      else none
    else none) := (px_Req mm_Row_init 20 [(2, x0)] [] w).trans rfl
set_option maxRecDepth 100000 in
theorem eq_Row_init_36 (x0 : Int) (w : pw) : px_R (mm_Row_init, 36, [(2, x0)], [], w) =
    (some (0, w)) := (px_Req mm_Row_init 36 [(2, x0)] [] w).trans rfl
set_option maxRecDepth 100000 in
theorem eq_Row_bounded_0 (x0 : Int) (w : pw) : px_R (mm_Row_bounded, 0, [(0, x0)], [], w) =
    (some ((px_mx (-999999) (px_mn 999999 x0)), w)) := (px_Req mm_Row_bounded 0 [(0, x0)] [] w).trans rfl
set_option maxRecDepth 100000 in
theorem eq_Str_init_0 (x0 : Int) (w : pw) : px_R (mm_Str_init, 0, [(2, x0)], [], w) =
    (if (!decide (x0 = 0)) = true then
      if px_go (px_al w (0, 9)) x0 5 = true then
        if px_go (px_al2 (px_wr (px_al w (0, 9)) x0 1 (w.1.length : Int)) 5 1 9 6) x0 5 = true then
          px_R (mm_Str_init, 24, [(2, x0)], [], (px_wr (px_al2 (px_wr (px_al w (0, 9)) x0 1 (w.1.length : Int)) 5 1 9 6) x0 2 ((px_wr (px_al w (0, 9)) x0 1 (w.1.length : Int)).1.length : Int)))
        else none
      else none
    else none) := (px_Req mm_Str_init 0 [(2, x0)] [] w).trans rfl
set_option maxRecDepth 100000 in
theorem eq_Str_init_24 (x0 : Int) (w : pw) : px_R (mm_Str_init, 24, [(2, x0)], [], w) =
    (if px_go (px_al2 w 4 0 9 30) x0 5 = true then
      if px_go (px_wr (px_al2 w 4 0 9 30) x0 3 (w.1.length : Int)) x0 5 = true then
        if (px_ga (px_wr (px_al2 w 4 0 9 30) x0 3 (w.1.length : Int)) 4 (px_rd (px_wr (px_al2 w 4 0 9 30) x0 3 (w.1.length : Int)) x0 3) 8 || (px_ga (px_wr (px_al2 w 4 0 9 30) x0 3 (w.1.length : Int)) 5 (px_rd (px_wr (px_al2 w 4 0 9 30) x0 3 (w.1.length : Int)) x0 3) 8 || px_ga (px_wr (px_al2 w 4 0 9 30) x0 3 (w.1.length : Int)) 6 (px_rd (px_wr (px_al2 w 4 0 9 30) x0 3 (w.1.length : Int)) x0 3) 8)) = true then
          if px_ga (px_wr (px_al2 w 4 0 9 30) x0 3 (w.1.length : Int)) 0 (px_rd (px_wr (px_al2 w 4 0 9 30) x0 3 (w.1.length : Int)) (px_rd (px_wr (px_al2 w 4 0 9 30) x0 3 (w.1.length : Int)) x0 3) 8) 0 = true then
            some (0, (px_wr (px_wr (px_al2 w 4 0 9 30) x0 3 (w.1.length : Int)) (px_rd (px_wr (px_al2 w 4 0 9 30) x0 3 (w.1.length : Int)) (px_rd (px_wr (px_al2 w 4 0 9 30) x0 3 (w.1.length : Int)) x0 3) 8) 0 1))
          else none
        else none
      else none
    else none) := (px_Req mm_Str_init 24 [(2, x0)] [] w).trans rfl
set_option maxRecDepth 100000 in
theorem eq_Str_isOneAt_0 (x0 x1 x2 x3 : Int) (w : pw) : px_R (mm_Str_isOneAt, 0, [(2, x0), (0, x1), (0, x2), (0, x3), (9, 0)], [], w) =
    (px_R (mm_Str_isOneAt, 3, [(2, x0), (0, x1), (0, x2), (0, x3), (0, 0)], [], w)) := (px_Req mm_Str_isOneAt 0 [(2, x0), (0, x1), (0, x2), (0, x3), (9, 0)] [] w).trans rfl
set_option maxRecDepth 100000 in
theorem eq_Str_isOneAt_3 (x0 x1 x2 x3 x4 : Int) (w : pw) : px_R (mm_Str_isOneAt, 3, [(2, x0), (0, x1), (0, x2), (0, x3), (0, x4)], [], w) =
    (if px_go w x0 5 = true then
      if px_ga w 0 (px_rd w x0 1) x1 = true then
        if x4 < (px_rd w (px_rd w x0 1) (x1).toNat) then
          if px_go w x0 5 = true then
            (px_R (mm_Str_number, 0, [(2, x0), (0, x1), (0, x4), (0, 0)], [], w)).bind fun r1 =>
            if r1.1 = x2 then
              if px_go r1.2 x0 5 = true then
                (px_R (mm_Str_number, 0, [(2, x0), (0, x1), (0, x4), (0, 1)], [], r1.2)).bind fun r2 =>
                if r2.1 = x3 then
                  some (1, r2.2)
                else
                  px_R (mm_Str_isOneAt, 3, [(2, x0), (0, x1), (0, x2), (0, x3), (0, (px_w (x4 + 1)))], [], r2.2)
              else none
            else
              px_R (mm_Str_isOneAt, 3, [(2, x0), (0, x1), (0, x2), (0, x3), (0, (px_w (x4 + 1)))], [], r1.2)
          else none
        else
          some (0, w)
      else none
    else none) := (px_Req mm_Str_isOneAt 3 [(2, x0), (0, x1), (0, x2), (0, x3), (0, x4)] [] w).trans rfl
set_option maxRecDepth 100000 in
theorem eq_Tape_init_0 (x0 : Int) (w : pw) : px_R (mm_Tape_init, 0, [(2, x0)], [], w) =
    (if (!decide (x0 = 0)) = true then
      if px_go (px_al w (2, 900)) x0 6 = true then
        some (0, (px_wr (px_al w (2, 900)) x0 0 (w.1.length : Int)))
      else none
    else none) := (px_Req mm_Tape_init 0 [(2, x0)] [] w).trans rfl
set_option maxRecDepth 100000 in
theorem eq_Tape_readNumber_0 (x0 : Int) (w : pw) : px_R (mm_Tape_readNumber, 0, [(2, x0)], [], w) =
    (if px_go w x0 6 = true then
      if px_go w x0 6 = true then
        if (px_rd w x0 4) < (px_rd w x0 1) then
          if px_go w x0 6 = true then
            if px_go w x0 6 = true then
              if (px_ga w 2 (px_rd w x0 0) (px_rd w x0 4) || px_ga w 3 (px_rd w x0 0) (px_rd w x0 4)) = true then
                (px_R (mm_Tape_isDigit, 0, [(0, (px_rd w (px_rd w x0 0) ((px_rd w x0 4)).toNat))], [], w)).bind fun r1 =>
                  if r1.1 = 0 then
                    px_R (mm_Tape_readNumber, 63, [(2, x0)], [], r1.2)
                  else
                    if px_go r1.2 x0 6 = true then
                      if px_go r1.2 x0 6 = true then
                        if px_go r1.2 x0 6 = true then
                          if (px_ga r1.2 2 (px_rd r1.2 x0 0) (px_rd r1.2 x0 4) || px_ga r1.2 3 (px_rd r1.2 x0 0) (px_rd r1.2 x0 4)) = true then
                            if px_go r1.2 x0 6 = true then
                              if px_go (px_wr r1.2 x0 6 (px_w ((px_w ((px_rd r1.2 x0 6) * 10)) + (px_w ((px_rd r1.2 (px_rd r1.2 x0 0) ((px_rd r1.2 x0 4)).toNat) - 48))))) x0 6 = true then
                                if px_go (px_wr r1.2 x0 6 (px_w ((px_w ((px_rd r1.2 x0 6) * 10)) + (px_w ((px_rd r1.2 (px_rd r1.2 x0 0) ((px_rd r1.2 x0 4)).toNat) - 48))))) x0 6 = true then
                                  px_R (mm_Tape_readNumber, 0, [(2, x0)], [], (px_wr (px_wr r1.2 x0 6 (px_w ((px_w ((px_rd r1.2 x0 6) * 10)) + (px_w ((px_rd r1.2 (px_rd r1.2 x0 0) ((px_rd r1.2 x0 4)).toNat) - 48))))) x0 4 (px_w ((px_rd (px_wr r1.2 x0 6 (px_w ((px_w ((px_rd r1.2 x0 6) * 10)) + (px_w ((px_rd r1.2 (px_rd r1.2 x0 0) ((px_rd r1.2 x0 4)).toNat) - 48))))) x0 4) + 1))))
                                else none
                              else none
                            else none
                          else none
                        else none
                      else none
                    else none
              else none
            else none
          else none
        else
          px_R (mm_Tape_readNumber, 63, [(2, x0)], [], w)
      else none
    else none) := (px_Req mm_Tape_readNumber 0 [(2, x0)] [] w).trans rfl
set_option maxRecDepth 100000 in
theorem eq_Tape_readNumber_63 (x0 : Int) (w : pw) : px_R (mm_Tape_readNumber, 63, [(2, x0)], [], w) =
    (if px_go w x0 6 = true then
      if px_go w x0 6 = true then
        if 4 < (px_w ((px_rd w x0 4) - (px_rd w x0 3))) then
          if px_go w x0 6 = true then
            some (0, (px_wr w x0 2 1))
          else none
        else
          if px_go w x0 6 = true then
            some (0, (px_wr w x0 2 3))
          else none
      else none
    else none) := (px_Req mm_Tape_readNumber 63 [(2, x0)] [] w).trans rfl
set_option maxRecDepth 100000 in
theorem eq_Tape_readWord_0 (x0 : Int) (w : pw) : px_R (mm_Tape_readWord, 0, [(2, x0)], [], w) =
    (if px_go w x0 6 = true then
      if px_go w x0 6 = true then
        if (px_rd w x0 4) < (px_rd w x0 1) then
          if px_go w x0 6 = true then
            if px_go w x0 6 = true then
              if (px_ga w 2 (px_rd w x0 0) (px_rd w x0 4) || px_ga w 3 (px_rd w x0 0) (px_rd w x0 4)) = true then
                (px_R (mm_Tape_isLetter, 0, [(0, (px_rd w (px_rd w x0 0) ((px_rd w x0 4)).toNat))], [], w)).bind fun r1 =>
                  if r1.1 = 0 then
                    px_R (mm_Tape_readWord, 67, [(2, x0)], [], r1.2)
                  else
                    if px_go r1.2 x0 6 = true then
                      if px_go r1.2 x0 6 = true then
                        if px_go r1.2 x0 6 = true then
                          if (px_ga r1.2 2 (px_rd r1.2 x0 0) (px_rd r1.2 x0 4) || px_ga r1.2 3 (px_rd r1.2 x0 0) (px_rd r1.2 x0 4)) = true then
                            if px_go r1.2 x0 6 = true then
                              if px_go (px_wr r1.2 x0 5 (px_wl ((px_wl ((px_rd r1.2 x0 5) * 32)) + (px_w ((px_w ((px_rd r1.2 (px_rd r1.2 x0 0) ((px_rd r1.2 x0 4)).toNat) - 97)) + 1))))) x0 6 = true then
                                if px_go (px_wr r1.2 x0 5 (px_wl ((px_wl ((px_rd r1.2 x0 5) * 32)) + (px_w ((px_w ((px_rd r1.2 (px_rd r1.2 x0 0) ((px_rd r1.2 x0 4)).toNat) - 97)) + 1))))) x0 6 = true then
                                  px_R (mm_Tape_readWord, 0, [(2, x0)], [], (px_wr (px_wr r1.2 x0 5 (px_wl ((px_wl ((px_rd r1.2 x0 5) * 32)) + (px_w ((px_w ((px_rd r1.2 (px_rd r1.2 x0 0) ((px_rd r1.2 x0 4)).toNat) - 97)) + 1))))) x0 4 (px_w ((px_rd (px_wr r1.2 x0 5 (px_wl ((px_wl ((px_rd r1.2 x0 5) * 32)) + (px_w ((px_w ((px_rd r1.2 (px_rd r1.2 x0 0) ((px_rd r1.2 x0 4)).toNat) - 97)) + 1))))) x0 4) + 1))))
                                else none
                              else none
                            else none
                          else none
                        else none
                      else none
                    else none
              else none
            else none
          else none
        else
          px_R (mm_Tape_readWord, 67, [(2, x0)], [], w)
      else none
    else none) := (px_Req mm_Tape_readWord 0 [(2, x0)] [] w).trans rfl
set_option maxRecDepth 100000 in
theorem eq_Tape_readWord_67 (x0 : Int) (w : pw) : px_R (mm_Tape_readWord, 67, [(2, x0)], [], w) =
    (if px_go w x0 6 = true then
      if px_go w x0 6 = true then
        if 8 < (px_w ((px_rd w x0 4) - (px_rd w x0 3))) then
          if px_go w x0 6 = true then
            some (0, (px_wr w x0 2 1))
          else none
        else
          if px_go w x0 6 = true then
            some (0, (px_wr w x0 2 2))
          else none
      else none
    else none) := (px_Req mm_Tape_readWord 67 [(2, x0)] [] w).trans rfl
set_option maxRecDepth 100000 in
theorem eq_Wish_init_0 (x0 : Int) (w : pw) : px_R (mm_Wish_init, 0, [(2, x0)], [], w) =
    (if (!decide (x0 = 0)) = true then
      if px_go (px_al w (0, 10)) x0 7 = true then
        if px_go (px_al (px_wr (px_al w (0, 10)) x0 3 (w.1.length : Int)) (0, 10)) x0 7 = true then
          px_R (mm_Wish_init, 20, [(2, x0)], [], (px_wr (px_al (px_wr (px_al w (0, 10)) x0 3 (w.1.length : Int)) (0, 10)) x0 4 ((px_wr (px_al w (0, 10)) x0 3 (w.1.length : Int)).1.length : Int)))
        else none
      else none
    else none) := (px_Req mm_Wish_init 0 [(2, x0)] [] w).trans rfl
set_option maxRecDepth 100000 in
theorem eq_Wish_init_20 (x0 : Int) (w : pw) : px_R (mm_Wish_init, 20, [(2, x0)], [], w) =
    (if px_go (px_al w (0, 5)) x0 7 = true then
      some (0, (px_wr (px_al w (0, 5)) x0 5 (w.1.length : Int)))
    else none) := (px_Req mm_Wish_init 20 [(2, x0)] [] w).trans rfl
set_option maxRecDepth 100000 in
theorem eq_Wish_add_0 (x0 x1 : Int) (w : pw) : px_R (mm_Wish_add, 0, [(2, x0), (0, x1)], [], w) =
    (if px_go w x0 7 = true then
      if px_go w x0 7 = true then
        if px_go (px_wr w x0 0 (px_or (px_rd w x0 0) (px_shl 1 x1))) x0 7 = true then
          (px_R (mm_Integer_bitCount, 0, [(0, (px_rd (px_wr w x0 0 (px_or (px_rd w x0 0) (px_shl 1 x1))) x0 0))], [], (px_wr w x0 0 (px_or (px_rd w x0 0) (px_shl 1 x1))))).bind fun r1 =>
            some (r1.1, r1.2)
        else none
      else none
    else none) := (px_Req mm_Wish_add 0 [(2, x0), (0, x1)] [] w).trans rfl
set_option maxRecDepth 100000 in
theorem eq_Wish_grants_0 (x0 x1 x2 x3 x4 : Int) (w : pw) : px_R (mm_Wish_grants, 0, [(2, x0), (0, x1), (0, x2), (0, x3), (0, x4), (9, 0)], [], w) =
    (px_R (mm_Wish_grants, 3, [(2, x0), (0, x1), (0, x2), (0, x3), (0, x4), (0, 0)], [], w)) := (px_Req mm_Wish_grants 0 [(2, x0), (0, x1), (0, x2), (0, x3), (0, x4), (9, 0)] [] w).trans rfl
set_option maxRecDepth 100000 in
theorem eq_Wish_grants_3 (x0 x1 x2 x3 x4 x5 : Int) (w : pw) : px_R (mm_Wish_grants, 3, [(2, x0), (0, x1), (0, x2), (0, x3), (0, x4), (0, x5)], [], w) =
    (if x5 < x3 then
      if px_go w x0 7 = true then
        if px_go w x0 7 = true then
          (px_R (mm_Wish_reachOf, 0, [(2, x0), (0, x5), (0, x1), (0, x2), (0, x4), (9, 0), (9, 0), (9, 0), (9, 0)], [], w)).bind fun r1 =>
          if px_ga r1.2 0 (px_rd w x0 5) x5 = true then
            px_R (mm_Wish_grants, 3, [(2, x0), (0, x1), (0, x2), (0, x3), (0, x4), (0, (px_w (x5 + 1)))], [], (px_wr r1.2 (px_rd w x0 5) (x5).toNat r1.1))
          else none
        else none
      else none
    else
      px_R (mm_Wish_grants, 35, [(2, x0), (0, x1), (0, x2), (0, x3), (0, x4), (0, 0)], [], w)) := (px_Req mm_Wish_grants 3 [(2, x0), (0, x1), (0, x2), (0, x3), (0, x4), (0, x5)] [] w).trans rfl
set_option maxRecDepth 100000 in
theorem eq_Wish_grants_35 (x0 x1 x2 x3 x4 x5 : Int) (w : pw) : px_R (mm_Wish_grants, 35, [(2, x0), (0, x1), (0, x2), (0, x3), (0, x4), (0, x5)], [], w) =
    (if x5 < x2 then
      if px_go w x0 7 = true then
        if (px_and (px_shr (px_rd w x0 0) x5) 1) = 1 then
          if px_go w x0 7 = true then
            (px_R (mm_Wish_isReached, 0, [(2, x0), (0, x5), (0, x3), (9, 0)], [], w)).bind fun r2 =>
            if r2.1 = 0 then
              some (0, r2.2)
            else
              px_R (mm_Wish_grants, 35, [(2, x0), (0, x1), (0, x2), (0, x3), (0, x4), (0, (px_w (x5 + 1)))], [], r2.2)
          else none
        else
          px_R (mm_Wish_grants, 35, [(2, x0), (0, x1), (0, x2), (0, x3), (0, x4), (0, (px_w (x5 + 1)))], [], w)
      else none
    else
      some (1, w)) := (px_Req mm_Wish_grants 35 [(2, x0), (0, x1), (0, x2), (0, x3), (0, x4), (0, x5)] [] w).trans rfl
set_option maxRecDepth 100000 in
theorem eq_Wish_isBetween_0 (x0 x1 : Int) (w : pw) : px_R (mm_Wish_isBetween, 0, [(0, x0), (0, x1)], [], w) =
    (if x0 < (px_mn 0 x1) then
      some (0, w)
    else
      if (px_mx 0 x1) < x0 then
        some (0, w)
      else
        some (1, w)) := (px_Req mm_Wish_isBetween 0 [(0, x0), (0, x1)] [] w).trans rfl
set_option maxRecDepth 100000 in
theorem eq_Tin_cell_0 (x0 x1 x2 x3 : Int) (w : pw) : px_R (mm_Tin_cell, 0, [(2, x0), (0, x1), (0, x2), (0, x3)], [], w) =
    (if px_go w x0 8 = true then
      if px_go w (px_rd w x0 5) 4 = true then
        (px_R (mm_Tin_within, 0, [(0, x1), (0, 0), (0, (px_w ((px_rd w (px_rd w x0 5) 0) - 1)))], [], w)).bind fun r1 =>
          if r1.1 = 0 then
            some ((-2), r1.2)
          else
            (px_R (mm_Tin_within, 0, [(0, x2), (0, 0), (0, 100)], [], r1.2)).bind fun r2 =>
              if r2.1 = 0 then
                some ((-2), r2.2)
              else
                (px_R (mm_Tin_within, 0, [(0, x3), (0, 0), (0, (px_w (100 - x2)))], [], r2.2)).bind fun r3 =>
                  if r3.1 = 0 then
                    some ((-2), r3.2)
                  else
                    if px_go r3.2 x0 8 = true then
                      if px_go r3.2 (px_rd r3.2 x0 5) 4 = true then
                        if px_ga r3.2 0 (px_rd r3.2 (px_rd r3.2 x0 5) 6) x1 = true then
                          if px_go (px_wr r3.2 (px_rd r3.2 (px_rd r3.2 x0 5) 6) (x1).toNat x2) x0 8 = true then
                            if px_go (px_wr r3.2 (px_rd r3.2 (px_rd r3.2 x0 5) 6) (x1).toNat x2) (px_rd (px_wr r3.2 (px_rd r3.2 (px_rd r3.2 x0 5) 6) (x1).toNat x2) x0 5) 4 = true then
                              if px_ga (px_wr r3.2 (px_rd r3.2 (px_rd r3.2 x0 5) 6) (x1).toNat x2) 0 (px_rd (px_wr r3.2 (px_rd r3.2 (px_rd r3.2 x0 5) 6) (x1).toNat x2) (px_rd (px_wr r3.2 (px_rd r3.2 (px_rd r3.2 x0 5) 6) (x1).toNat x2) x0 5) 7) x1 = true then
                                some (1, (px_wr (px_wr r3.2 (px_rd r3.2 (px_rd r3.2 x0 5) 6) (x1).toNat x2) (px_rd (px_wr r3.2 (px_rd r3.2 (px_rd r3.2 x0 5) 6) (x1).toNat x2) (px_rd (px_wr r3.2 (px_rd r3.2 (px_rd r3.2 x0 5) 6) (x1).toNat x2) x0 5) 7) (x1).toNat x3))
                              else none
                            else none
                          else none
                        else none
                      else none
                    else none
      else none
    else none) := (px_Req mm_Tin_cell 0 [(2, x0), (0, x1), (0, x2), (0, x3)] [] w).trans rfl
set_option maxRecDepth 100000 in
theorem eq_Tin_count_0 (x0 x1 : Int) (w : pw) : px_R (mm_Tin_count, 0, [(2, x0), (0, x1)], [], w) =
    (if x1 = 0 then
      if px_go w x0 8 = true then
        if px_go w (px_rd w x0 8) 5 = true then
          some ((px_rd w (px_rd w x0 8) 0), w)
        else none
      else none
    else if x1 = 1 then
      if px_go w x0 8 = true then
        if px_go w (px_rd w x0 4) 0 = true then
          some ((px_rd w (px_rd w x0 4) 1), w)
        else none
      else none
    else if x1 = 2 then
      if px_go w x0 8 = true then
        if px_go w (px_rd w x0 4) 0 = true then
          some ((px_rd w (px_rd w x0 4) 2), w)
        else none
      else none
    else if x1 = 3 then
      if px_go w x0 8 = true then
        if px_go w (px_rd w x0 3) 7 = true then
          (px_R (mm_Integer_bitCount, 0, [(0, (px_rd w (px_rd w x0 3) 0))], [], w)).bind fun r1 =>
            some (r1.1, r1.2)
        else none
      else none
    else if x1 = 4 then
      if px_go w x0 8 = true then
        if px_go w (px_rd w x0 5) 4 = true then
          some ((px_rd w (px_rd w x0 5) 0), w)
        else none
      else none
    else if x1 = 5 then
      if px_go w x0 8 = true then
        if px_go w (px_rd w x0 5) 4 = true then
          some ((px_rd w (px_rd w x0 5) 1), w)
        else none
      else none
    else if x1 = 6 then
      if px_go w x0 8 = true then
        if px_go w (px_rd w x0 0) 6 = true then
          some ((px_rd w (px_rd w x0 0) 1), w)
        else none
      else none
    else 
      some ((-1), w)) := (px_Req mm_Tin_count 0 [(2, x0), (0, x1)] [] w).trans rfl
set_option maxRecDepth 100000 in
theorem eq_Tin_end_0 (x0 x1 : Int) (w : pw) : px_R (mm_Tin_end, 0, [(2, x0), (0, x1)], [], w) =
    (if px_go w x0 8 = true then
      if px_go w (px_rd w x0 0) 6 = true then
        (px_R (mm_Tin_within, 0, [(0, x1), (0, 0), (0, (px_rd w (px_rd w x0 0) 1))], [], w)).bind fun r1 =>
          if r1.1 = 0 then
            some ((-1), r1.2)
          else
            if px_go r1.2 x0 8 = true then
              if px_go r1.2 (px_rd r1.2 x0 0) 6 = true then
                some (x1, (px_wr r1.2 (px_rd r1.2 x0 0) 1 x1))
              else none
            else none
      else none
    else none) := (px_Req mm_Tin_end 0 [(2, x0), (0, x1)] [] w).trans rfl
set_option maxRecDepth 100000 in
theorem eq_Tin_feed_0 (x0 x1 x2 x3 x4 x5 : Int) (w : pw) : px_R (mm_Tin_feed, 0, [(2, x0), (0, x1), (0, x2), (0, x3), (0, x4), (0, x5)], [], w) =
    (if px_go w x0 8 = true then
      if px_go w (px_rd w x0 0) 6 = true then
        if 900 < (px_w ((px_rd w (px_rd w x0 0) 1) + 20)) then
          some ((-3), w)
        else
          if px_go w x0 8 = true then
            if px_go w (px_rd w x0 0) 6 = true then
              (px_R (mm_Tape_put, 0, [(2, (px_rd w x0 0)), (0, x1), (9, 0)], [], w)).bind fun r1 =>
              if px_go r1.2 x0 8 = true then
                if px_go r1.2 (px_rd r1.2 x0 0) 6 = true then
                  (px_R (mm_Tape_put, 0, [(2, (px_rd r1.2 x0 0)), (0, x2), (9, 0)], [], r1.2)).bind fun r2 =>
                  if px_go r2.2 x0 8 = true then
                    if px_go r2.2 (px_rd r2.2 x0 0) 6 = true then
                      (px_R (mm_Tape_put, 0, [(2, (px_rd r2.2 x0 0)), (0, x3), (9, 0)], [], r2.2)).bind fun r3 =>
                      if px_go r3.2 x0 8 = true then
                        if px_go r3.2 (px_rd r3.2 x0 0) 6 = true then
                          (px_R (mm_Tape_put, 0, [(2, (px_rd r3.2 x0 0)), (0, x4), (9, 0)], [], r3.2)).bind fun r4 =>
                          if px_go r4.2 x0 8 = true then
                            if px_go r4.2 (px_rd r4.2 x0 0) 6 = true then
                              (px_R (mm_Tape_put, 0, [(2, (px_rd r4.2 x0 0)), (0, x5), (9, 0)], [], r4.2)).bind fun r5 =>
                              if px_go r5.2 x0 8 = true then
                                if px_go r5.2 (px_rd r5.2 x0 0) 6 = true then
                                  some ((px_rd r5.2 (px_rd r5.2 x0 0) 1), r5.2)
                                else none
                              else none
                            else none
                          else none
                        else none
                      else none
                    else none
                  else none
                else none
              else none
            else none
          else none
      else none
    else none) := (px_Req mm_Tin_feed 0 [(2, x0), (0, x1), (0, x2), (0, x3), (0, x4), (0, x5)] [] w).trans rfl
set_option maxRecDepth 100000 in
theorem eq_Tin_goes_0 (x0 x1 x2 : Int) (w : pw) : px_R (mm_Tin_goes, 0, [(2, x0), (0, x1), (0, x2)], [], w) =
    (if px_go w x0 8 = true then
      if px_go w (px_rd w x0 5) 4 = true then
        (px_R (mm_Tin_within, 0, [(0, x1), (0, 0), (0, (px_w ((px_rd w (px_rd w x0 5) 0) - 1)))], [], w)).bind fun r1 =>
          if r1.1 = 0 then
            some ((-2000000000), r1.2)
          else
            if x2 = 0 then
              if px_go r1.2 x0 8 = true then
                if px_go r1.2 (px_rd r1.2 x0 5) 4 = true then
                  if px_ga r1.2 0 (px_rd r1.2 (px_rd r1.2 x0 5) 4) x1 = true then
                    some ((px_rd r1.2 (px_rd r1.2 (px_rd r1.2 x0 5) 4) (x1).toNat), r1.2)
                  else none
                else none
              else none
            else if x2 = 1 then
              if px_go r1.2 x0 8 = true then
                if px_go r1.2 (px_rd r1.2 x0 5) 4 = true then
                  if px_ga r1.2 0 (px_rd r1.2 (px_rd r1.2 x0 5) 5) x1 = true then
                    some ((px_rd r1.2 (px_rd r1.2 (px_rd r1.2 x0 5) 5) (x1).toNat), r1.2)
                  else none
                else none
              else none
            else if x2 = 2 then
              if px_go r1.2 x0 8 = true then
                if px_go r1.2 (px_rd r1.2 x0 5) 4 = true then
                  if px_ga r1.2 0 (px_rd r1.2 (px_rd r1.2 x0 5) 6) x1 = true then
                    some ((px_rd r1.2 (px_rd r1.2 (px_rd r1.2 x0 5) 6) (x1).toNat), r1.2)
                  else none
                else none
              else none
            else if x2 = 3 then
              if px_go r1.2 x0 8 = true then
                if px_go r1.2 (px_rd r1.2 x0 5) 4 = true then
                  if px_ga r1.2 0 (px_rd r1.2 (px_rd r1.2 x0 5) 7) x1 = true then
                    some ((px_rd r1.2 (px_rd r1.2 (px_rd r1.2 x0 5) 7) (x1).toNat), r1.2)
                  else none
                else none
              else none
            else 
              some ((-2000000000), r1.2)
      else none
    else none) := (px_Req mm_Tin_goes 0 [(2, x0), (0, x1), (0, x2)] [] w).trans rfl
set_option maxRecDepth 100000 in
theorem eq_Tin_isBand_0 (x0 : Int) (w : pw) : px_R (mm_Tin_isBand, 0, [(0, x0)], [], w) =
    ((px_R (mm_Tin_within, 0, [(0, x0), (0, 0), (0, 3)], [], w)).bind fun r1 =>
      if (decide (0 ≤ r1.1) && decide (r1.1 < 2)) = true then some (r1.1, r1.2) else none) := (px_Req mm_Tin_isBand 0 [(0, x0)] [] w).trans rfl
set_option maxRecDepth 100000 in
theorem eq_Tin_isOne_0 (x0 x1 x2 : Int) (w : pw) : px_R (mm_Tin_isOne, 0, [(2, x0), (0, x1), (0, x2)], [], w) =
    (if px_go w x0 8 = true then
      if px_go w (px_rd w x0 8) 5 = true then
        if px_ga w 0 (px_rd w (px_rd w x0 8) 1) x1 = true then
          (px_R (mm_Tin_within, 0, [(0, x2), (0, 0), (0, (px_w ((px_rd w (px_rd w (px_rd w x0 8) 1) (x1).toNat) - 1)))], [], w)).bind fun r1 =>
            if (decide (0 ≤ r1.1) && decide (r1.1 < 2)) = true then some (r1.1, r1.2) else none
        else none
      else none
    else none) := (px_Req mm_Tin_isOne 0 [(2, x0), (0, x1), (0, x2)] [] w).trans rfl
set_option maxRecDepth 100000 in
theorem eq_Tin_isStep_0 (x0 x1 : Int) (w : pw) : px_R (mm_Tin_isStep, 0, [(2, x0), (0, x1)], [], w) =
    (if px_go w x0 8 = true then
      if px_go w (px_rd w x0 4) 0 = true then
        (px_R (mm_Tin_within, 0, [(0, x1), (0, (px_rd w (px_rd w x0 4) 0)), (0, 999)], [], w)).bind fun r1 =>
          if (decide (0 ≤ r1.1) && decide (r1.1 < 2)) = true then some (r1.1, r1.2) else none
      else none
    else none) := (px_Req mm_Tin_isStep 0 [(2, x0), (0, x1)] [] w).trans rfl
set_option maxRecDepth 100000 in
theorem eq_Tin_keep_0 (x0 x1 : Int) (w : pw) : px_R (mm_Tin_keep, 0, [(2, x0), (0, x1)], [], w) =
    ((px_R (mm_Tin_within, 0, [(0, x1), (0, 0), (0, 2)], [], w)).bind fun r1 =>
      if r1.1 = 0 then
        some ((-2), r1.2)
      else
        if px_go r1.2 x0 8 = true then
          if (px_ga r1.2 4 (px_rd r1.2 x0 6) x1 || (px_ga r1.2 5 (px_rd r1.2 x0 6) x1 || px_ga r1.2 6 (px_rd r1.2 x0 6) x1)) = true then
            if px_go r1.2 x0 8 = true then
              if px_go r1.2 (px_rd r1.2 (px_rd r1.2 x0 6) (x1).toNat) 4 = true then
                (px_R (mm_Row_become, 0, [(2, (px_rd r1.2 (px_rd r1.2 x0 6) (x1).toNat)), (2, (px_rd r1.2 x0 5)), (9, 0)], [], r1.2)).bind fun r2 =>
                if px_go r2.2 x0 8 = true then
                  if px_go r2.2 (px_rd r2.2 x0 5) 4 = true then
                    some ((px_rd r2.2 (px_rd r2.2 x0 5) 1), r2.2)
                  else none
                else none
              else none
            else none
          else none
        else none) := (px_Req mm_Tin_keep 0 [(2, x0), (0, x1)] [] w).trans rfl
set_option maxRecDepth 100000 in
theorem eq_Tin_out_0 (x0 x1 : Int) (w : pw) : px_R (mm_Tin_out, 0, [(2, x0), (0, x1)], [], w) =
    ((px_R (mm_Tin_within, 0, [(0, x1), (0, 0), (0, 1)], [], w)).bind fun r1 =>
      if r1.1 = 0 then
        some ((-2000000000), r1.2)
      else
        if x1 = 0 then
          if px_go r1.2 x0 8 = true then
            if px_go r1.2 (px_rd r1.2 x0 5) 4 = true then
              some ((px_rd r1.2 (px_rd r1.2 x0 5) 2), r1.2)
            else none
          else none
        else
          if px_go r1.2 x0 8 = true then
            if px_go r1.2 (px_rd r1.2 x0 5) 4 = true then
              some ((px_rd r1.2 (px_rd r1.2 x0 5) 3), r1.2)
            else none
          else none) := (px_Req mm_Tin_out 0 [(2, x0), (0, x1)] [] w).trans rfl
set_option maxRecDepth 100000 in
theorem eq_Tin_stretch_0 (x0 x1 : Int) (w : pw) : px_R (mm_Tin_stretch, 0, [(2, x0), (0, x1)], [], w) =
    ((px_R (mm_Tin_within, 0, [(0, x1), (0, 2), (0, 40)], [], w)).bind fun r1 =>
      if r1.1 = 0 then
        some ((-2), r1.2)
      else
        if px_go r1.2 x0 8 = true then
          if px_go r1.2 (px_rd r1.2 x0 5) 4 = true then
            (px_R (mm_Row_lay, 0, [(2, (px_rd r1.2 x0 5)), (0, x1), (9, 0)], [], r1.2)).bind fun r2 =>
            some (x1, r2.2)
          else none
        else none) := (px_Req mm_Tin_stretch 0 [(2, x0), (0, x1)] [] w).trans rfl
set_option maxRecDepth 100000 in
theorem eq_Tin_take_0 (x0 x1 : Int) (w : pw) : px_R (mm_Tin_take, 0, [(2, x0), (0, x1)], [], w) =
    ((px_R (mm_Tin_within, 0, [(0, x1), (0, 0), (0, 2)], [], w)).bind fun r1 =>
      if r1.1 = 0 then
        some ((-2), r1.2)
      else
        if px_go r1.2 x0 8 = true then
          if (px_ga r1.2 4 (px_rd r1.2 x0 6) x1 || (px_ga r1.2 5 (px_rd r1.2 x0 6) x1 || px_ga r1.2 6 (px_rd r1.2 x0 6) x1)) = true then
            if px_go r1.2 (px_rd r1.2 (px_rd r1.2 x0 6) (x1).toNat) 4 = true then
              if (px_rd r1.2 (px_rd r1.2 (px_rd r1.2 x0 6) (x1).toNat) 0) = 0 then
                some ((-4), r1.2)
              else
                if px_go r1.2 x0 8 = true then
                  if px_go r1.2 x0 8 = true then
                    if (px_ga r1.2 4 (px_rd r1.2 x0 6) x1 || (px_ga r1.2 5 (px_rd r1.2 x0 6) x1 || px_ga r1.2 6 (px_rd r1.2 x0 6) x1)) = true then
                      if px_go r1.2 (px_rd r1.2 x0 5) 4 = true then
                        (px_R (mm_Row_become, 0, [(2, (px_rd r1.2 x0 5)), (2, (px_rd r1.2 (px_rd r1.2 x0 6) (x1).toNat)), (9, 0)], [], r1.2)).bind fun r2 =>
                        if px_go r2.2 x0 8 = true then
                          if px_go r2.2 (px_rd r2.2 x0 5) 4 = true then
                            some ((px_rd r2.2 (px_rd r2.2 x0 5) 1), r2.2)
                          else none
                        else none
                      else none
                    else none
                  else none
                else none
            else none
          else none
        else none) := (px_Req mm_Tin_take 0 [(2, x0), (0, x1)] [] w).trans rfl
set_option maxRecDepth 100000 in
theorem eq_Tin_tie_0 (x0 x1 : Int) (w : pw) : px_R (mm_Tin_tie, 0, [(2, x0), (0, x1)], [], w) =
    ((px_R (mm_Tin_within, 0, [(0, x1), (0, 0), (0, 100)], [], w)).bind fun r1 =>
      if r1.1 = 0 then
        some ((-2), r1.2)
      else
        if px_go r1.2 x0 8 = true then
          if px_go r1.2 (px_rd r1.2 x0 1) 2 = true then
            if (px_rd r1.2 (px_rd r1.2 x0 1) 6) < 4 then
              if px_go r1.2 x0 8 = true then
                if px_go r1.2 (px_rd r1.2 x0 1) 2 = true then
                  if px_go r1.2 x0 8 = true then
                    if px_go r1.2 (px_rd r1.2 x0 1) 2 = true then
                      if px_ga r1.2 0 (px_rd r1.2 (px_rd r1.2 x0 1) 7) (px_rd r1.2 (px_rd r1.2 x0 1) 6) = true then
                        if px_go (px_wr r1.2 (px_rd r1.2 (px_rd r1.2 x0 1) 7) ((px_rd r1.2 (px_rd r1.2 x0 1) 6)).toNat x1) x0 8 = true then
                          if px_go (px_wr r1.2 (px_rd r1.2 (px_rd r1.2 x0 1) 7) ((px_rd r1.2 (px_rd r1.2 x0 1) 6)).toNat x1) (px_rd (px_wr r1.2 (px_rd r1.2 (px_rd r1.2 x0 1) 7) ((px_rd r1.2 (px_rd r1.2 x0 1) 6)).toNat x1) x0 1) 2 = true then
                            if px_go (px_wr r1.2 (px_rd r1.2 (px_rd r1.2 x0 1) 7) ((px_rd r1.2 (px_rd r1.2 x0 1) 6)).toNat x1) (px_rd (px_wr r1.2 (px_rd r1.2 (px_rd r1.2 x0 1) 7) ((px_rd r1.2 (px_rd r1.2 x0 1) 6)).toNat x1) x0 1) 2 = true then
                              if px_go (px_wr (px_wr r1.2 (px_rd r1.2 (px_rd r1.2 x0 1) 7) ((px_rd r1.2 (px_rd r1.2 x0 1) 6)).toNat x1) (px_rd (px_wr r1.2 (px_rd r1.2 (px_rd r1.2 x0 1) 7) ((px_rd r1.2 (px_rd r1.2 x0 1) 6)).toNat x1) x0 1) 6 (px_w ((px_rd (px_wr r1.2 (px_rd r1.2 (px_rd r1.2 x0 1) 7) ((px_rd r1.2 (px_rd r1.2 x0 1) 6)).toNat x1) (px_rd (px_wr r1.2 (px_rd r1.2 (px_rd r1.2 x0 1) 7) ((px_rd r1.2 (px_rd r1.2 x0 1) 6)).toNat x1) x0 1) 6) + 1))) x0 8 = true then
                                if px_go (px_wr (px_wr r1.2 (px_rd r1.2 (px_rd r1.2 x0 1) 7) ((px_rd r1.2 (px_rd r1.2 x0 1) 6)).toNat x1) (px_rd (px_wr r1.2 (px_rd r1.2 (px_rd r1.2 x0 1) 7) ((px_rd r1.2 (px_rd r1.2 x0 1) 6)).toNat x1) x0 1) 6 (px_w ((px_rd (px_wr r1.2 (px_rd r1.2 (px_rd r1.2 x0 1) 7) ((px_rd r1.2 (px_rd r1.2 x0 1) 6)).toNat x1) (px_rd (px_wr r1.2 (px_rd r1.2 (px_rd r1.2 x0 1) 7) ((px_rd r1.2 (px_rd r1.2 x0 1) 6)).toNat x1) x0 1) 6) + 1))) (px_rd (px_wr (px_wr r1.2 (px_rd r1.2 (px_rd r1.2 x0 1) 7) ((px_rd r1.2 (px_rd r1.2 x0 1) 6)).toNat x1) (px_rd (px_wr r1.2 (px_rd r1.2 (px_rd r1.2 x0 1) 7) ((px_rd r1.2 (px_rd r1.2 x0 1) 6)).toNat x1) x0 1) 6 (px_w ((px_rd (px_wr r1.2 (px_rd r1.2 (px_rd r1.2 x0 1) 7) ((px_rd r1.2 (px_rd r1.2 x0 1) 6)).toNat x1) (px_rd (px_wr r1.2 (px_rd r1.2 (px_rd r1.2 x0 1) 7) ((px_rd r1.2 (px_rd r1.2 x0 1) 6)).toNat x1) x0 1) 6) + 1))) x0 1) 2 = true then
                                  some ((px_rd (px_wr (px_wr r1.2 (px_rd r1.2 (px_rd r1.2 x0 1) 7) ((px_rd r1.2 (px_rd r1.2 x0 1) 6)).toNat x1) (px_rd (px_wr r1.2 (px_rd r1.2 (px_rd r1.2 x0 1) 7) ((px_rd r1.2 (px_rd r1.2 x0 1) 6)).toNat x1) x0 1) 6 (px_w ((px_rd (px_wr r1.2 (px_rd r1.2 (px_rd r1.2 x0 1) 7) ((px_rd r1.2 (px_rd r1.2 x0 1) 6)).toNat x1) (px_rd (px_wr r1.2 (px_rd r1.2 (px_rd r1.2 x0 1) 7) ((px_rd r1.2 (px_rd r1.2 x0 1) 6)).toNat x1) x0 1) 6) + 1))) (px_rd (px_wr (px_wr r1.2 (px_rd r1.2 (px_rd r1.2 x0 1) 7) ((px_rd r1.2 (px_rd r1.2 x0 1) 6)).toNat x1) (px_rd (px_wr r1.2 (px_rd r1.2 (px_rd r1.2 x0 1) 7) ((px_rd r1.2 (px_rd r1.2 x0 1) 6)).toNat x1) x0 1) 6 (px_w ((px_rd (px_wr r1.2 (px_rd r1.2 (px_rd r1.2 x0 1) 7) ((px_rd r1.2 (px_rd r1.2 x0 1) 6)).toNat x1) (px_rd (px_wr r1.2 (px_rd r1.2 (px_rd r1.2 x0 1) 7) ((px_rd r1.2 (px_rd r1.2 x0 1) 6)).toNat x1) x0 1) 6) + 1))) x0 1) 6), (px_wr (px_wr r1.2 (px_rd r1.2 (px_rd r1.2 x0 1) 7) ((px_rd r1.2 (px_rd r1.2 x0 1) 6)).toNat x1) (px_rd (px_wr r1.2 (px_rd r1.2 (px_rd r1.2 x0 1) 7) ((px_rd r1.2 (px_rd r1.2 x0 1) 6)).toNat x1) x0 1) 6 (px_w ((px_rd (px_wr r1.2 (px_rd r1.2 (px_rd r1.2 x0 1) 7) ((px_rd r1.2 (px_rd r1.2 x0 1) 6)).toNat x1) (px_rd (px_wr r1.2 (px_rd r1.2 (px_rd r1.2 x0 1) 7) ((px_rd r1.2 (px_rd r1.2 x0 1) 6)).toNat x1) x0 1) 6) + 1))))
                                else none
                              else none
                            else none
                          else none
                        else none
                      else none
                    else none
                  else none
                else none
              else none
            else
              some ((-3), r1.2)
          else none
        else none) := (px_Req mm_Tin_tie 0 [(2, x0), (0, x1)] [] w).trans rfl
set_option maxRecDepth 100000 in
theorem eq_Mod_ear_0 (x0 x1 : Int) (w : pw) : px_R (mm_Mod_ear, 0, [(2, x0), (0, x1), (9, 0), (9, 0), (9, 0), (9, 0), (9, 0)], [], w) =
    (px_R (mm_Mod_ear, 7, [(2, x0), (0, x1), (0, (-1)), (0, 0), (0, 0), (9, 0), (9, 0)], [], w)) := (px_Req mm_Mod_ear 0 [(2, x0), (0, x1), (9, 0), (9, 0), (9, 0), (9, 0), (9, 0)] [] w).trans rfl
set_option maxRecDepth 100000 in
theorem eq_Mod_ear_7 (x0 x1 x2 x3 x4 : Int) (y5 y6 : pv) (w : pw) : px_R (mm_Mod_ear, 7, [(2, x0), (0, x1), (0, x2), (0, x3), (0, x4), y5, y6], [], w) =
    (if px_go w x0 9 = true then
      if px_ga w 0 (px_rd w x0 12) 2 = true then
        if x4 < (px_rd w (px_rd w x0 12) 2) then
          if (px_and (px_shr x1 x4) 1) = 0 then
            px_R (mm_Mod_ear, 7, [(2, x0), (0, x1), (0, x2), (0, x3), (0, (px_w (x4 + 1))), y5, y6], [], w)
          else
            px_R (mm_Mod_ear, 36, [(2, x0), (0, x1), (0, x2), (0, x3), (0, x4), (0, 0), (0, 0)], [], w)
        else
          some (x2, w)
      else none
    else none) := (px_Req mm_Mod_ear 7 [(2, x0), (0, x1), (0, x2), (0, x3), (0, x4), y5, y6] [] w).trans rfl
set_option maxRecDepth 100000 in
theorem eq_Mod_ear_36 (x0 x1 x2 x3 x4 x5 x6 : Int) (w : pw) : px_R (mm_Mod_ear, 36, [(2, x0), (0, x1), (0, x2), (0, x3), (0, x4), (0, x5), (0, x6)], [], w) =
    (if x6 < 4 then
      if px_go w x0 9 = true then
        if px_ga w 0 (px_rd w x0 32) (px_w ((px_w (4 * x4)) + x6)) = true then
          if px_go w x0 9 = true then
            if px_ga w 0 (px_rd w x0 33) x6 = true then
              (px_R (mm_Mod_plain, 0, [(0, (px_w ((px_rd w (px_rd w x0 32) ((px_w ((px_w (4 * x4)) + x6))).toNat) - (px_rd w (px_rd w x0 33) (x6).toNat))))], [], w)).bind fun r1 =>
                px_R (mm_Mod_ear, 36, [(2, x0), (0, x1), (0, x2), (0, x3), (0, x4), (0, (px_w (x5 + r1.1))), (0, (px_w (x6 + 1)))], [], r1.2)
            else none
          else none
        else none
      else none
    else
      if x2 = (-1) then
        px_R (mm_Mod_ear, 7, [(2, x0), (0, x1), (0, x4), (0, x5), (0, (px_w (x4 + 1))), (0, x5), (0, x6)], [], w)
      else
        if x5 < x3 then
          px_R (mm_Mod_ear, 7, [(2, x0), (0, x1), (0, x4), (0, x5), (0, (px_w (x4 + 1))), (0, x5), (0, x6)], [], w)
        else
          px_R (mm_Mod_ear, 7, [(2, x0), (0, x1), (0, x2), (0, x3), (0, (px_w (x4 + 1))), (0, x5), (0, x6)], [], w)) := (px_Req mm_Mod_ear 36 [(2, x0), (0, x1), (0, x2), (0, x3), (0, x4), (0, x5), (0, x6)] [] w).trans rfl
set_option maxRecDepth 100000 in
theorem eq_Mod_findTaps_0 (x0 x1 : Int) (w : pw) : px_R (mm_Mod_findTaps, 0, [(2, x0), (0, x1), (9, 0), (9, 0), (9, 0), (9, 0)], [], w) =
    (px_R (mm_Mod_findTaps, 4, [(2, x0), (0, x1), (0, x1), (0, 1), (9, 0), (9, 0)], [], w)) := (px_Req mm_Mod_findTaps 0 [(2, x0), (0, x1), (9, 0), (9, 0), (9, 0), (9, 0)] [] w).trans rfl
set_option maxRecDepth 100000 in
theorem eq_Mod_findTaps_4 (x0 x1 x2 x3 : Int) (w : pw) : px_R (mm_Mod_findTaps, 4, [(2, x0), (0, x1), (0, x2), (0, x3), (9, 0), (9, 0)], [], w) =
    (if px_go w x0 9 = true then
      (px_R (mm_Mod_rowsOf, 0, [(2, x0), (0, x3), (9, 0), (9, 0), (9, 0), (9, 0), (9, 0)], [], w)).bind fun r1 =>
      if x2 < r1.1 then
        if px_go r1.2 x0 9 = true then
          if px_go (px_wr r1.2 x0 47 x3) x0 9 = true then
            if px_go (px_wr (px_wr r1.2 x0 47 x3) x0 48 0) x0 9 = true then
              px_R (mm_Mod_findTaps, 42, [(2, x0), (0, x1), (0, x2), (0, x3), (9, 0), (9, 0)], [], (px_wr (px_wr (px_wr r1.2 x0 47 x3) x0 48 0) x0 49 0))
            else none
          else none
        else none
      else
        if px_go r1.2 x0 9 = true then
          (px_R (mm_Mod_rowsOf, 0, [(2, x0), (0, x3), (9, 0), (9, 0), (9, 0), (9, 0), (9, 0)], [], r1.2)).bind fun r2 =>
          px_R (mm_Mod_findTaps, 4, [(2, x0), (0, x1), (0, (px_w (x2 - r2.1))), (0, (px_w (x3 + 1))), (9, 0), (9, 0)], [], r2.2)
        else none
    else none) := (px_Req mm_Mod_findTaps 4 [(2, x0), (0, x1), (0, x2), (0, x3), (9, 0), (9, 0)] [] w).trans rfl
set_option maxRecDepth 100000 in
theorem eq_Mod_findTaps_42 (x0 x1 x2 x3 : Int) (y4 y5 : pv) (w : pw) : px_R (mm_Mod_findTaps, 42, [(2, x0), (0, x1), (0, x2), (0, x3), y4, y5], [], w) =
    (if 0 < x3 then
      if x3 = 1 then
        if x2 < 1 then
          px_R (mm_Mod_findTaps, 75, [(2, x0), (0, x1), (0, x2), (0, x3), (0, 1), y5], [(0, 0)], w)
        else
          px_R (mm_Mod_findTaps, 75, [(2, x0), (0, x1), (0, x2), (0, x3), (0, 1), y5], [(0, 1)], w)
      else
        if px_go w x0 9 = true then
          (px_R (mm_Mod_rowsOf, 0, [(2, x0), (0, (px_w (x3 - 2))), (9, 0), (9, 0), (9, 0), (9, 0), (9, 0)], [], w)).bind fun r3 =>
          if x2 < r3.1 then
            px_R (mm_Mod_findTaps, 75, [(2, x0), (0, x1), (0, x2), (0, x3), (0, r3.1), y5], [(0, 0)], r3.2)
          else
            px_R (mm_Mod_findTaps, 75, [(2, x0), (0, x1), (0, x2), (0, x3), (0, r3.1), y5], [(0, 1)], r3.2)
        else none
    else
      some (0, w)) := (px_Req mm_Mod_findTaps 42 [(2, x0), (0, x1), (0, x2), (0, x3), y4, y5] [] w).trans rfl
set_option maxRecDepth 100000 in
theorem eq_Mod_findTaps_75 (x0 x1 x2 x3 x4 s0 : Int) (y5 : pv) (w : pw) : px_R (mm_Mod_findTaps, 75, [(2, x0), (0, x1), (0, x2), (0, x3), (0, x4), y5], [(0, s0)], w) =
    (if s0 = 0 then
      if px_go w x0 9 = true then
        if s0 = 0 then
          px_R (mm_Mod_findTaps, 104, [(2, x0), (0, x1), (0, x2), (0, x3), (0, x4), (0, s0)], [(0, 0), (0, (px_w (2 * (px_rd w x0 49)))), (2, x0)], w)
        else
          px_R (mm_Mod_findTaps, 104, [(2, x0), (0, x1), (0, x2), (0, x3), (0, x4), (0, s0)], [(0, 1), (0, (px_w (2 * (px_rd w x0 49)))), (2, x0)], w)
      else none
    else
      if px_go w x0 9 = true then
        if s0 = 0 then
          px_R (mm_Mod_findTaps, 104, [(2, x0), (0, x1), (0, (px_w (x2 - x4))), (0, x3), (0, x4), (0, s0)], [(0, 0), (0, (px_w (2 * (px_rd w x0 49)))), (2, x0)], w)
        else
          px_R (mm_Mod_findTaps, 104, [(2, x0), (0, x1), (0, (px_w (x2 - x4))), (0, x3), (0, x4), (0, s0)], [(0, 1), (0, (px_w (2 * (px_rd w x0 49)))), (2, x0)], w)
      else none) := (px_Req mm_Mod_findTaps 75 [(2, x0), (0, x1), (0, x2), (0, x3), (0, x4), y5] [(0, s0)] w).trans rfl
set_option maxRecDepth 100000 in
theorem eq_Mod_findTaps_104 (x0 x1 x2 x3 x4 x5 s0 s1 s2 : Int) (w : pw) : px_R (mm_Mod_findTaps, 104, [(2, x0), (0, x1), (0, x2), (0, x3), (0, x4), (0, x5)], [(0, s2), (0, s1), (2, s0)], w) =
    (if px_go w s0 9 = true then
      if px_go (px_wr w s0 49 (px_w (s1 + s2))) x0 9 = true then
        if px_go (px_wr w s0 49 (px_w (s1 + s2))) x0 9 = true then
          if x5 = 0 then
            px_R (mm_Mod_findTaps, 42, [(2, x0), (0, x1), (0, x2), (0, (px_w (x3 - 2))), (0, x4), (0, x5)], [], (px_wr (px_wr w s0 49 (px_w (s1 + s2))) x0 48 (px_w ((px_rd (px_wr w s0 49 (px_w (s1 + s2))) x0 48) + 1))))
          else
            px_R (mm_Mod_findTaps, 42, [(2, x0), (0, x1), (0, x2), (0, (px_w (x3 - 4))), (0, x4), (0, x5)], [], (px_wr (px_wr w s0 49 (px_w (s1 + s2))) x0 48 (px_w ((px_rd (px_wr w s0 49 (px_w (s1 + s2))) x0 48) + 1))))
        else none
      else none
    else none) := (px_Req mm_Mod_findTaps 104 [(2, x0), (0, x1), (0, x2), (0, x3), (0, x4), (0, x5)] [(0, s2), (0, s1), (2, s0)] w).trans rfl
set_option maxRecDepth 100000 in
theorem eq_Mod_handsOf_0 (x0 x1 : Int) (w : pw) : px_R (mm_Mod_handsOf, 0, [(2, x0), (0, x1), (9, 0)], [], w) =
    (if px_go w x0 9 = true then
      (px_R (mm_Mod_bearsOf, 0, [(2, x0), (0, x1), (9, 0)], [], w)).bind fun r1 =>
      if px_go r1.2 x0 9 = true then
        if (px_rd r1.2 x0 27) = 0 then
          some (0, r1.2)
        else
          if px_go r1.2 x0 9 = true then
            if r1.1 < (px_rd r1.2 x0 27) then
              some (0, r1.2)
            else
              if px_go r1.2 x0 9 = true then
                if (px_w (2 * (px_rd r1.2 x0 27))) < r1.1 then
                  if px_go r1.2 x0 9 = true then
                    if (!decide (r1.1 = 0)) = true then
                      some ((px_w (Int.tdiv (px_w (200 * (px_rd r1.2 x0 27))) r1.1)), r1.2)
                    else none
                  else none
                else
                  some (100, r1.2)
              else none
          else none
      else none
    else none) := (px_Req mm_Mod_handsOf 0 [(2, x0), (0, x1), (9, 0)] [] w).trans rfl
set_option maxRecDepth 100000 in
theorem eq_Mod_hasLine_0 (x0 : Int) (w : pw) : px_R (mm_Mod_hasLine, 0, [(2, x0)], [], w) =
    (if px_go w x0 9 = true then
      (px_R (mm_Mod_hasStuff, 0, [(2, x0)], [], w)).bind fun r1 =>
      if r1.1 = 0 then
        some (0, r1.2)
      else
        if px_go r1.2 x0 9 = true then
          if px_ga r1.2 0 (px_rd r1.2 x0 12) 1 = true then
            if 0 < (px_rd r1.2 (px_rd r1.2 x0 12) 1) then
              some (1, r1.2)
            else
              some (0, r1.2)
          else none
        else none
    else none) := (px_Req mm_Mod_hasLine 0 [(2, x0)] [] w).trans rfl
set_option maxRecDepth 100000 in
theorem eq_Mod_is_0 (x0 x1 x2 : Int) (w : pw) : px_R (mm_Mod_is, 0, [(2, x0), (0, x1), (0, x2)], [], w) =
    (if px_go w x0 9 = true then
      if px_ga w 0 (px_rd w x0 12) x1 = true then
        (px_R (mm_Mod_in, 0, [(0, x2), (0, 0), (0, (px_w ((px_rd w (px_rd w x0 12) (x1).toNat) - 1)))], [], w)).bind fun r1 =>
          if (decide (0 ≤ r1.1) && decide (r1.1 < 2)) = true then some (r1.1, r1.2) else none
      else none
    else none) := (px_Req mm_Mod_is 0 [(2, x0), (0, x1), (0, x2)] [] w).trans rfl
set_option maxRecDepth 100000 in
theorem eq_Mod_isBand_0 (x0 : Int) (w : pw) : px_R (mm_Mod_isBand, 0, [(0, x0)], [], w) =
    ((px_R (mm_Mod_in, 0, [(0, x0), (0, 0), (0, 3)], [], w)).bind fun r1 =>
      if (decide (0 ≤ r1.1) && decide (r1.1 < 2)) = true then some (r1.1, r1.2) else none) := (px_Req mm_Mod_isBand 0 [(0, x0)] [] w).trans rfl
set_option maxRecDepth 100000 in
theorem eq_Mod_isCell_0 (x0 x1 : Int) (w : pw) : px_R (mm_Mod_isCell, 0, [(2, x0), (0, x1)], [], w) =
    (if px_go w x0 9 = true then
      if px_ga w 0 (px_rd w x0 35) 0 = true then
        (px_R (mm_Mod_in, 0, [(0, x1), (0, 0), (0, (px_w ((px_rd w (px_rd w x0 35) 0) - 1)))], [], w)).bind fun r1 =>
          if (decide (0 ≤ r1.1) && decide (r1.1 < 2)) = true then some (r1.1, r1.2) else none
      else none
    else none) := (px_Req mm_Mod_isCell 0 [(2, x0), (0, x1)] [] w).trans rfl
set_option maxRecDepth 100000 in
theorem eq_Mod_isSlot_0 (x0 : Int) (w : pw) : px_R (mm_Mod_isSlot, 0, [(0, x0)], [], w) =
    ((px_R (mm_Mod_in, 0, [(0, x0), (0, 0), (0, 2)], [], w)).bind fun r1 =>
      if (decide (0 ≤ r1.1) && decide (r1.1 < 2)) = true then some (r1.1, r1.2) else none) := (px_Req mm_Mod_isSlot 0 [(0, x0)] [] w).trans rfl
set_option maxRecDepth 100000 in
theorem eq_Mod_letsBy_0 (x0 x1 x2 : Int) (w : pw) : px_R (mm_Mod_letsBy, 0, [(2, x0), (0, x1), (0, x2)], [], w) =
    (if x1 = (-1) then
      some (0, w)
    else
      if px_go w x0 9 = true then
        if px_ga w 0 (px_rd w x0 21) (px_w (5 * x1)) = true then
          if px_go w x0 9 = true then
            if px_ga w 0 (px_rd w x0 21) (px_w ((px_w ((px_w (5 * x1)) + 1)) + x2)) = true then
              (px_R (mm_Mod_plain, 0, [(0, (px_w ((px_rd w (px_rd w x0 21) ((px_w (5 * x1))).toNat) - (px_rd w (px_rd w x0 21) ((px_w ((px_w ((px_w (5 * x1)) + 1)) + x2))).toNat))))], [], w)).bind fun r1 =>
                some ((px_w (100 - (px_w (10 * r1.1)))), r1.2)
            else none
          else none
        else none
      else none) := (px_Req mm_Mod_letsBy 0 [(2, x0), (0, x1), (0, x2)] [] w).trans rfl
set_option maxRecDepth 100000 in
theorem eq_Mod_makeStrings_0 (x0 : Int) (w : pw) : px_R (mm_Mod_makeStrings, 0, [(2, x0), (9, 0), (9, 0)], [], w) =
    (if px_go w x0 9 = true then
      px_R (mm_Mod_makeStrings, 7, [(2, x0), (0, 0), (9, 0)], [], (px_wr w x0 43 0))
    else none) := (px_Req mm_Mod_makeStrings 0 [(2, x0), (9, 0), (9, 0)] [] w).trans rfl
set_option maxRecDepth 100000 in
theorem eq_Mod_makeStrings_7 (x0 x1 : Int) (y2 : pv) (w : pw) : px_R (mm_Mod_makeStrings, 7, [(2, x0), (0, x1), y2], [], w) =
    (if px_go w x0 9 = true then
      if px_ga w 0 (px_rd w x0 12) 3 = true then
        if x1 < (px_rd w (px_rd w x0 12) 3) then
          px_R (mm_Mod_makeStrings, 21, [(2, x0), (0, x1), (0, (px_w (x1 + 1)))], [], w)
        else
          some (0, w)
      else none
    else none) := (px_Req mm_Mod_makeStrings 7 [(2, x0), (0, x1), y2] [] w).trans rfl
set_option maxRecDepth 100000 in
theorem eq_Mod_makeStrings_21 (x0 x1 x2 : Int) (w : pw) : px_R (mm_Mod_makeStrings, 21, [(2, x0), (0, x1), (0, x2)], [], w) =
    (if px_go w x0 9 = true then
      if px_ga w 0 (px_rd w x0 12) 3 = true then
        if x2 < (px_rd w (px_rd w x0 12) 3) then
          if px_go w x0 9 = true then
            if px_go w x0 9 = true then
              if px_ga w 0 (px_rd w x0 44) (px_rd w x0 43) = true then
                if px_go (px_wr w (px_rd w x0 44) ((px_rd w x0 43)).toNat x1) x0 9 = true then
                  if px_go (px_wr w (px_rd w x0 44) ((px_rd w x0 43)).toNat x1) x0 9 = true then
                    if px_ga (px_wr w (px_rd w x0 44) ((px_rd w x0 43)).toNat x1) 0 (px_rd (px_wr w (px_rd w x0 44) ((px_rd w x0 43)).toNat x1) x0 45) (px_rd (px_wr w (px_rd w x0 44) ((px_rd w x0 43)).toNat x1) x0 43) = true then
                      if px_go (px_wr (px_wr w (px_rd w x0 44) ((px_rd w x0 43)).toNat x1) (px_rd (px_wr w (px_rd w x0 44) ((px_rd w x0 43)).toNat x1) x0 45) ((px_rd (px_wr w (px_rd w x0 44) ((px_rd w x0 43)).toNat x1) x0 43)).toNat x2) x0 9 = true then
                        if px_go (px_wr (px_wr w (px_rd w x0 44) ((px_rd w x0 43)).toNat x1) (px_rd (px_wr w (px_rd w x0 44) ((px_rd w x0 43)).toNat x1) x0 45) ((px_rd (px_wr w (px_rd w x0 44) ((px_rd w x0 43)).toNat x1) x0 43)).toNat x2) x0 9 = true then
                          if px_go (px_wr (px_wr w (px_rd w x0 44) ((px_rd w x0 43)).toNat x1) (px_rd (px_wr w (px_rd w x0 44) ((px_rd w x0 43)).toNat x1) x0 45) ((px_rd (px_wr w (px_rd w x0 44) ((px_rd w x0 43)).toNat x1) x0 43)).toNat x2) x0 9 = true then
                            (px_R (mm_Mod_isBarred, 0, [(2, x0), (0, x1), (0, x2), (9, 0), (9, 0), (9, 0), (9, 0), (9, 0)], [], (px_wr (px_wr w (px_rd w x0 44) ((px_rd w x0 43)).toNat x1) (px_rd (px_wr w (px_rd w x0 44) ((px_rd w x0 43)).toNat x1) x0 45) ((px_rd (px_wr w (px_rd w x0 44) ((px_rd w x0 43)).toNat x1) x0 43)).toNat x2))).bind fun r1 =>
                            if r1.1 = 0 then
                              if px_go r1.2 x0 9 = true then
                                (px_R (mm_Mod_yardsOf, 0, [(2, x0), (0, x1), (0, x2), (9, 0), (9, 0), (9, 0)], [], r1.2)).bind fun r2 =>
                                if px_ga r2.2 0 (px_rd (px_wr (px_wr w (px_rd w x0 44) ((px_rd w x0 43)).toNat x1) (px_rd (px_wr w (px_rd w x0 44) ((px_rd w x0 43)).toNat x1) x0 45) ((px_rd (px_wr w (px_rd w x0 44) ((px_rd w x0 43)).toNat x1) x0 43)).toNat x2) x0 46) (px_rd (px_wr (px_wr w (px_rd w x0 44) ((px_rd w x0 43)).toNat x1) (px_rd (px_wr w (px_rd w x0 44) ((px_rd w x0 43)).toNat x1) x0 45) ((px_rd (px_wr w (px_rd w x0 44) ((px_rd w x0 43)).toNat x1) x0 43)).toNat x2) x0 43) = true then
                                  if px_go (px_wr r2.2 (px_rd (px_wr (px_wr w (px_rd w x0 44) ((px_rd w x0 43)).toNat x1) (px_rd (px_wr w (px_rd w x0 44) ((px_rd w x0 43)).toNat x1) x0 45) ((px_rd (px_wr w (px_rd w x0 44) ((px_rd w x0 43)).toNat x1) x0 43)).toNat x2) x0 46) ((px_rd (px_wr (px_wr w (px_rd w x0 44) ((px_rd w x0 43)).toNat x1) (px_rd (px_wr w (px_rd w x0 44) ((px_rd w x0 43)).toNat x1) x0 45) ((px_rd (px_wr w (px_rd w x0 44) ((px_rd w x0 43)).toNat x1) x0 43)).toNat x2) x0 43)).toNat r2.1) x0 9 = true then
                                    if px_go (px_wr r2.2 (px_rd (px_wr (px_wr w (px_rd w x0 44) ((px_rd w x0 43)).toNat x1) (px_rd (px_wr w (px_rd w x0 44) ((px_rd w x0 43)).toNat x1) x0 45) ((px_rd (px_wr w (px_rd w x0 44) ((px_rd w x0 43)).toNat x1) x0 43)).toNat x2) x0 46) ((px_rd (px_wr (px_wr w (px_rd w x0 44) ((px_rd w x0 43)).toNat x1) (px_rd (px_wr w (px_rd w x0 44) ((px_rd w x0 43)).toNat x1) x0 45) ((px_rd (px_wr w (px_rd w x0 44) ((px_rd w x0 43)).toNat x1) x0 43)).toNat x2) x0 43)).toNat r2.1) x0 9 = true then
                                      px_R (mm_Mod_makeStrings, 21, [(2, x0), (0, x1), (0, (px_w (x2 + 1)))], [], (px_wr (px_wr r2.2 (px_rd (px_wr (px_wr w (px_rd w x0 44) ((px_rd w x0 43)).toNat x1) (px_rd (px_wr w (px_rd w x0 44) ((px_rd w x0 43)).toNat x1) x0 45) ((px_rd (px_wr w (px_rd w x0 44) ((px_rd w x0 43)).toNat x1) x0 43)).toNat x2) x0 46) ((px_rd (px_wr (px_wr w (px_rd w x0 44) ((px_rd w x0 43)).toNat x1) (px_rd (px_wr w (px_rd w x0 44) ((px_rd w x0 43)).toNat x1) x0 45) ((px_rd (px_wr w (px_rd w x0 44) ((px_rd w x0 43)).toNat x1) x0 43)).toNat x2) x0 43)).toNat r2.1) x0 43 (px_w ((px_rd (px_wr r2.2 (px_rd (px_wr (px_wr w (px_rd w x0 44) ((px_rd w x0 43)).toNat x1) (px_rd (px_wr w (px_rd w x0 44) ((px_rd w x0 43)).toNat x1) x0 45) ((px_rd (px_wr w (px_rd w x0 44) ((px_rd w x0 43)).toNat x1) x0 43)).toNat x2) x0 46) ((px_rd (px_wr (px_wr w (px_rd w x0 44) ((px_rd w x0 43)).toNat x1) (px_rd (px_wr w (px_rd w x0 44) ((px_rd w x0 43)).toNat x1) x0 45) ((px_rd (px_wr w (px_rd w x0 44) ((px_rd w x0 43)).toNat x1) x0 43)).toNat x2) x0 43)).toNat r2.1) x0 43) + 1))))
                                    else none
                                  else none
                                else none
                              else none
                            else
                              if px_ga r1.2 0 (px_rd (px_wr (px_wr w (px_rd w x0 44) ((px_rd w x0 43)).toNat x1) (px_rd (px_wr w (px_rd w x0 44) ((px_rd w x0 43)).toNat x1) x0 45) ((px_rd (px_wr w (px_rd w x0 44) ((px_rd w x0 43)).toNat x1) x0 43)).toNat x2) x0 46) (px_rd (px_wr (px_wr w (px_rd w x0 44) ((px_rd w x0 43)).toNat x1) (px_rd (px_wr w (px_rd w x0 44) ((px_rd w x0 43)).toNat x1) x0 45) ((px_rd (px_wr w (px_rd w x0 44) ((px_rd w x0 43)).toNat x1) x0 43)).toNat x2) x0 43) = true then
                                if px_go (px_wr r1.2 (px_rd (px_wr (px_wr w (px_rd w x0 44) ((px_rd w x0 43)).toNat x1) (px_rd (px_wr w (px_rd w x0 44) ((px_rd w x0 43)).toNat x1) x0 45) ((px_rd (px_wr w (px_rd w x0 44) ((px_rd w x0 43)).toNat x1) x0 43)).toNat x2) x0 46) ((px_rd (px_wr (px_wr w (px_rd w x0 44) ((px_rd w x0 43)).toNat x1) (px_rd (px_wr w (px_rd w x0 44) ((px_rd w x0 43)).toNat x1) x0 45) ((px_rd (px_wr w (px_rd w x0 44) ((px_rd w x0 43)).toNat x1) x0 43)).toNat x2) x0 43)).toNat (-1)) x0 9 = true then
                                  if px_go (px_wr r1.2 (px_rd (px_wr (px_wr w (px_rd w x0 44) ((px_rd w x0 43)).toNat x1) (px_rd (px_wr w (px_rd w x0 44) ((px_rd w x0 43)).toNat x1) x0 45) ((px_rd (px_wr w (px_rd w x0 44) ((px_rd w x0 43)).toNat x1) x0 43)).toNat x2) x0 46) ((px_rd (px_wr (px_wr w (px_rd w x0 44) ((px_rd w x0 43)).toNat x1) (px_rd (px_wr w (px_rd w x0 44) ((px_rd w x0 43)).toNat x1) x0 45) ((px_rd (px_wr w (px_rd w x0 44) ((px_rd w x0 43)).toNat x1) x0 43)).toNat x2) x0 43)).toNat (-1)) x0 9 = true then
                                    px_R (mm_Mod_makeStrings, 21, [(2, x0), (0, x1), (0, (px_w (x2 + 1)))], [], (px_wr (px_wr r1.2 (px_rd (px_wr (px_wr w (px_rd w x0 44) ((px_rd w x0 43)).toNat x1) (px_rd (px_wr w (px_rd w x0 44) ((px_rd w x0 43)).toNat x1) x0 45) ((px_rd (px_wr w (px_rd w x0 44) ((px_rd w x0 43)).toNat x1) x0 43)).toNat x2) x0 46) ((px_rd (px_wr (px_wr w (px_rd w x0 44) ((px_rd w x0 43)).toNat x1) (px_rd (px_wr w (px_rd w x0 44) ((px_rd w x0 43)).toNat x1) x0 45) ((px_rd (px_wr w (px_rd w x0 44) ((px_rd w x0 43)).toNat x1) x0 43)).toNat x2) x0 43)).toNat (-1)) x0 43 (px_w ((px_rd (px_wr r1.2 (px_rd (px_wr (px_wr w (px_rd w x0 44) ((px_rd w x0 43)).toNat x1) (px_rd (px_wr w (px_rd w x0 44) ((px_rd w x0 43)).toNat x1) x0 45) ((px_rd (px_wr w (px_rd w x0 44) ((px_rd w x0 43)).toNat x1) x0 43)).toNat x2) x0 46) ((px_rd (px_wr (px_wr w (px_rd w x0 44) ((px_rd w x0 43)).toNat x1) (px_rd (px_wr w (px_rd w x0 44) ((px_rd w x0 43)).toNat x1) x0 45) ((px_rd (px_wr w (px_rd w x0 44) ((px_rd w x0 43)).toNat x1) x0 43)).toNat x2) x0 43)).toNat (-1)) x0 43) + 1))))
                                  else none
                                else none
                              else none
                          else none
                        else none
                      else none
                    else none
                  else none
                else none
              else none
            else none
          else none
        else
          px_R (mm_Mod_makeStrings, 7, [(2, x0), (0, (px_w (x1 + 1))), (0, x2)], [], w)
      else none
    else none) := (px_Req mm_Mod_makeStrings 21 [(2, x0), (0, x1), (0, x2)] [] w).trans rfl
set_option maxRecDepth 100000 in
theorem eq_Mod_newStretch_0 (x0 x1 : Int) (w : pw) : px_R (mm_Mod_newStretch, 0, [(2, x0), (0, x1), (9, 0)], [], w) =
    (px_R (mm_Mod_newStretch, 2, [(2, x0), (0, x1), (0, 0)], [], w)) := (px_Req mm_Mod_newStretch 0 [(2, x0), (0, x1), (9, 0)] [] w).trans rfl
set_option maxRecDepth 100000 in
theorem eq_Mod_newStretch_2 (x0 x1 x2 : Int) (w : pw) : px_R (mm_Mod_newStretch, 2, [(2, x0), (0, x1), (0, x2)], [], w) =
    (if x2 < 162 then
      if px_go w x0 9 = true then
        (px_R (mm_Mod_in, 0, [(0, x2), (0, 82), (0, 121)], [], w)).bind fun r1 =>
          if r1.1 = 0 then
            if px_ga r1.2 0 (px_rd w x0 35) x2 = true then
              px_R (mm_Mod_newStretch, 2, [(2, x0), (0, x1), (0, (px_w (x2 + 1)))], [], (px_wr r1.2 (px_rd w x0 35) (x2).toNat 0))
            else none
          else
            if px_ga r1.2 0 (px_rd w x0 35) x2 = true then
              px_R (mm_Mod_newStretch, 2, [(2, x0), (0, x1), (0, (px_w (x2 + 1)))], [], (px_wr r1.2 (px_rd w x0 35) (x2).toNat 100))
            else none
      else none
    else
      if px_go w x0 9 = true then
        if px_ga w 0 (px_rd w x0 35) 0 = true then
          if px_go (px_wr w (px_rd w x0 35) 0 x1) x0 9 = true then
            if px_ga (px_wr w (px_rd w x0 35) 0 x1) 1 (px_rd (px_wr w (px_rd w x0 35) 0 x1) x0 36) 0 = true then
              if px_go (px_wr (px_wr w (px_rd w x0 35) 0 x1) (px_rd (px_wr w (px_rd w x0 35) 0 x1) x0 36) 0 0) x0 9 = true then
                if px_ga (px_wr (px_wr w (px_rd w x0 35) 0 x1) (px_rd (px_wr w (px_rd w x0 35) 0 x1) x0 36) 0 0) 1 (px_rd (px_wr (px_wr w (px_rd w x0 35) 0 x1) (px_rd (px_wr w (px_rd w x0 35) 0 x1) x0 36) 0 0) x0 36) 1 = true then
                  some (0, (px_wr (px_wr (px_wr w (px_rd w x0 35) 0 x1) (px_rd (px_wr w (px_rd w x0 35) 0 x1) x0 36) 0 0) (px_rd (px_wr (px_wr w (px_rd w x0 35) 0 x1) (px_rd (px_wr w (px_rd w x0 35) 0 x1) x0 36) 0 0) x0 36) 1 0))
                else none
              else none
            else none
          else none
        else none
      else none) := (px_Req mm_Mod_newStretch 2 [(2, x0), (0, x1), (0, x2)] [] w).trans rfl
set_option maxRecDepth 100000 in
theorem eq_Mod_out_0 (x0 x1 : Int) (w : pw) : px_R (mm_Mod_out, 0, [(2, x0), (0, x1)], [], w) =
    ((px_R (mm_Mod_in, 0, [(0, x1), (0, 0), (0, 1)], [], w)).bind fun r1 =>
      if r1.1 = 0 then
        some ((-2000000000), r1.2)
      else
        if px_go r1.2 x0 9 = true then
          if px_ga r1.2 1 (px_rd r1.2 x0 36) x1 = true then
            some ((px_rd r1.2 (px_rd r1.2 x0 36) (x1).toNat), r1.2)
          else none
        else none) := (px_Req mm_Mod_out 0 [(2, x0), (0, x1)] [] w).trans rfl
set_option maxRecDepth 100000 in
theorem eq_Mod_send_0 (x0 x1 x2 : Int) (w : pw) : px_R (mm_Mod_send, 0, [(2, x0), (0, x1), (0, x2), (9, 0)], [], w) =
    ((px_R (mm_Mod_in, 0, [(0, x1), (0, 0), (0, 1)], [], w)).bind fun r1 =>
      if r1.1 = 0 then
        some ((-2), r1.2)
      else
        (px_R (mm_Mod_in, 0, [(0, x2), (0, (-9999)), (0, 9999)], [], r1.2)).bind fun r2 =>
          if r2.1 = 0 then
            some ((-2), r2.2)
          else
            if x1 = 0 then
              px_R (mm_Mod_send, 44, [(2, x0), (0, x1), (0, x2), (9, 0)], [(0, 2)], r2.2)
            else
              if px_go r2.2 x0 9 = true then
                if px_ga r2.2 0 (px_rd r2.2 x0 35) 0 = true then
                  px_R (mm_Mod_send, 44, [(2, x0), (0, x1), (0, x2), (9, 0)], [(0, (px_w ((px_w (42 + (px_rd r2.2 (px_rd r2.2 x0 35) 0))) - 1)))], r2.2)
                else none
              else none) := (px_Req mm_Mod_send 0 [(2, x0), (0, x1), (0, x2), (9, 0)] [] w).trans rfl
set_option maxRecDepth 100000 in
theorem eq_Mod_send_44 (x0 x1 x2 s0 : Int) (w : pw) : px_R (mm_Mod_send, 44, [(2, x0), (0, x1), (0, x2), (9, 0)], [(0, s0)], w) =
    (if px_go w x0 9 = true then
      if px_go w x0 9 = true then
        if px_ga w 0 (px_rd w x0 35) s0 = true then
          (px_R (mm_Mod_bounded, 0, [(0, (px_w ((px_rd w (px_rd w x0 35) (s0).toNat) + x2)))], [], w)).bind fun r3 =>
            if px_ga r3.2 0 (px_rd w x0 35) s0 = true then
              if px_go (px_wr r3.2 (px_rd w x0 35) (s0).toNat r3.1) x0 9 = true then
                if px_ga (px_wr r3.2 (px_rd w x0 35) (s0).toNat r3.1) 0 (px_rd (px_wr r3.2 (px_rd w x0 35) (s0).toNat r3.1) x0 35) s0 = true then
                  some ((px_rd (px_wr r3.2 (px_rd w x0 35) (s0).toNat r3.1) (px_rd (px_wr r3.2 (px_rd w x0 35) (s0).toNat r3.1) x0 35) (s0).toNat), (px_wr r3.2 (px_rd w x0 35) (s0).toNat r3.1))
                else none
              else none
            else none
        else none
      else none
    else none) := (px_Req mm_Mod_send 44 [(2, x0), (0, x1), (0, x2), (9, 0)] [(0, s0)] w).trans rfl
set_option maxRecDepth 100000 in
theorem eq_Mod_settle_0 (x0 : Int) (w : pw) : px_R (mm_Mod_settle, 0, [(2, x0)], [], w) =
    (if px_go w x0 9 = true then
      (px_R (mm_Mod_comes, 0, [(2, (px_rd w x0 12)), (0, 9), (9, 0)], [], w)).bind fun r1 =>
        if px_go r1.2 x0 9 = true then
          (px_R (mm_Mod_comes, 0, [(2, (px_rd r1.2 x0 14)), (0, 20), (9, 0)], [], r1.2)).bind fun r2 =>
            if px_go r2.2 x0 9 = true then
              (px_R (mm_Mod_comes, 0, [(2, (px_rd r2.2 x0 15)), (0, 16), (9, 0)], [], r2.2)).bind fun r3 =>
                if px_go r3.2 x0 9 = true then
                  (px_R (mm_Mod_comes, 0, [(2, (px_rd r3.2 x0 16)), (0, 24), (9, 0)], [], r3.2)).bind fun r4 =>
                    if px_go r4.2 x0 9 = true then
                      (px_R (mm_Mod_comes, 0, [(2, (px_rd r4.2 x0 17)), (0, 5), (9, 0)], [], r4.2)).bind fun r5 =>
                        if px_go r5.2 x0 9 = true then
                          (px_R (mm_Mod_comes, 0, [(2, (px_rd r5.2 x0 18)), (0, 5), (9, 0)], [], r5.2)).bind fun r6 =>
                            if px_go r6.2 x0 9 = true then
                              (px_R (mm_Mod_comes, 0, [(2, (px_rd r6.2 x0 19)), (0, 4), (9, 0)], [], r6.2)).bind fun r7 =>
                                if px_go r7.2 x0 9 = true then
                                  (px_R (mm_Mod_comes, 0, [(2, (px_rd r7.2 x0 20)), (0, 4), (9, 0)], [], r7.2)).bind fun r8 =>
                                    if px_go r8.2 x0 9 = true then
                                      (px_R (mm_Mod_comes, 0, [(2, (px_rd r8.2 x0 21)), (0, 20), (9, 0)], [], r8.2)).bind fun r9 =>
                                        if px_go r9.2 x0 9 = true then
                                          if px_go (px_wr r9.2 x0 24 0) x0 9 = true then
                                            if px_go (px_wr (px_wr r9.2 x0 24 0) x0 25 0) x0 9 = true then
                                              if px_go (px_wr (px_wr (px_wr r9.2 x0 24 0) x0 25 0) x0 26 10) x0 9 = true then
                                                px_R (mm_Mod_settle, 98, [(2, x0)], [], (px_wr (px_wr (px_wr (px_wr r9.2 x0 24 0) x0 25 0) x0 26 10) x0 27 0))
                                              else none
                                            else none
                                          else none
                                        else none
                                    else none
                                else none
                            else none
                        else none
                    else none
                else none
            else none
        else none
    else none) := (px_Req mm_Mod_settle 0 [(2, x0)] [] w).trans rfl
set_option maxRecDepth 100000 in
theorem eq_Mod_settle_98 (x0 : Int) (w : pw) : px_R (mm_Mod_settle, 98, [(2, x0)], [], w) =
    (if px_go w x0 9 = true then
      if px_go (px_wr w x0 28 0) x0 9 = true then
        if px_go (px_wr (px_wr w x0 28 0) x0 29 0) x0 9 = true then
          if px_go (px_wr (px_wr (px_wr w x0 28 0) x0 29 0) x0 51 0) x0 9 = true then
            px_R (mm_Mod_settle, 118, [(2, x0)], [], (px_wr (px_wr (px_wr (px_wr w x0 28 0) x0 29 0) x0 51 0) x0 52 0))
          else none
        else none
      else none
    else none) := (px_Req mm_Mod_settle 98 [(2, x0)] [] w).trans rfl
set_option maxRecDepth 100000 in
theorem eq_Mod_settle_118 (x0 : Int) (w : pw) : px_R (mm_Mod_settle, 118, [(2, x0)], [], w) =
    (if px_go w x0 9 = true then
      if px_go (px_wr w x0 53 0) x0 9 = true then
        some (0, (px_wr (px_wr w x0 53 0) x0 40 0))
      else none
    else none) := (px_Req mm_Mod_settle 118 [(2, x0)] [] w).trans rfl
set_option maxRecDepth 100000 in
theorem eq_Mod_tickOnce_0 (x0 : Int) (w : pw) : px_R (mm_Mod_tickOnce, 0, [(2, x0), (9, 0), (9, 0), (9, 0), (9, 0), (9, 0), (9, 0)], [], w) =
    (if px_go w x0 9 = true then
      if px_ga w 0 (px_rd w x0 35) 0 = true then
        px_R (mm_Mod_tickOnce, 9, [(2, x0), (0, (px_rd w (px_rd w x0 35) 0)), (0, 0), (9, 0), (9, 0), (9, 0), (9, 0)], [], w)
      else none
    else none) := (px_Req mm_Mod_tickOnce 0 [(2, x0), (9, 0), (9, 0), (9, 0), (9, 0), (9, 0), (9, 0)] [] w).trans rfl
set_option maxRecDepth 100000 in
theorem eq_Mod_tickOnce_9 (x0 x1 x2 : Int) (w : pw) : px_R (mm_Mod_tickOnce, 9, [(2, x0), (0, x1), (0, x2), (9, 0), (9, 0), (9, 0), (9, 0)], [], w) =
    (if x2 < x1 then
      if px_go w x0 9 = true then
        if px_ga w 0 (px_rd w x0 38) x2 = true then
          if px_go (px_wr w (px_rd w x0 38) (x2).toNat 0) x0 9 = true then
            if px_ga (px_wr w (px_rd w x0 38) (x2).toNat 0) 0 (px_rd (px_wr w (px_rd w x0 38) (x2).toNat 0) x0 39) x2 = true then
              px_R (mm_Mod_tickOnce, 9, [(2, x0), (0, x1), (0, (px_w (x2 + 1))), (9, 0), (9, 0), (9, 0), (9, 0)], [], (px_wr (px_wr w (px_rd w x0 38) (x2).toNat 0) (px_rd (px_wr w (px_rd w x0 38) (x2).toNat 0) x0 39) (x2).toNat 0))
            else none
          else none
        else none
      else none
    else
      px_R (mm_Mod_tickOnce, 36, [(2, x0), (0, x1), (0, 0), (9, 0), (9, 0), (9, 0), (9, 0)], [], w)) := (px_Req mm_Mod_tickOnce 9 [(2, x0), (0, x1), (0, x2), (9, 0), (9, 0), (9, 0), (9, 0)] [] w).trans rfl
set_option maxRecDepth 100000 in
theorem eq_Mod_tickOnce_36 (x0 x1 x2 : Int) (y3 y4 y5 y6 : pv) (w : pw) : px_R (mm_Mod_tickOnce, 36, [(2, x0), (0, x1), (0, x2), y3, y4, y5, y6], [], w) =
    (if x2 < x1 then
      if px_go w x0 9 = true then
        if px_ga w 0 (px_rd w x0 35) (px_w (82 + x2)) = true then
          if px_go w x0 9 = true then
            if px_ga w 0 (px_rd w x0 35) (px_w (122 + x2)) = true then
              if px_go w x0 9 = true then
                if px_ga w 0 (px_rd w x0 35) (px_w (2 + x2)) = true then
                  if px_go w x0 9 = true then
                    if px_ga w 0 (px_rd w x0 35) (px_w (42 + x2)) = true then
                      if px_go w x0 9 = true then
                        (px_R (mm_Mod_toRight, 0, [(2, x0), (0, (px_w (x2 + 1))), (0, (px_w (Int.tdiv (px_w ((px_rd w (px_rd w x0 35) ((px_w (2 + x2))).toNat) * (px_rd w (px_rd w x0 35) ((px_w (82 + x2))).toNat))) 100)))], [], w)).bind fun r1 =>
                        if px_go r1.2 x0 9 = true then
                          (px_R (mm_Mod_toLeft, 0, [(2, x0), (0, (px_w (x2 - 1))), (0, (px_w (Int.tdiv (px_w ((px_rd w (px_rd w x0 35) ((px_w (2 + x2))).toNat) * (px_rd w (px_rd w x0 35) ((px_w (122 + x2))).toNat))) 100)))], [], r1.2)).bind fun r2 =>
                          if px_go r2.2 x0 9 = true then
                            (px_R (mm_Mod_toLeft, 0, [(2, x0), (0, (px_w (x2 - 1))), (0, (px_w (Int.tdiv (px_w ((px_rd w (px_rd w x0 35) ((px_w (42 + x2))).toNat) * (px_rd w (px_rd w x0 35) ((px_w (82 + x2))).toNat))) 100)))], [], r2.2)).bind fun r3 =>
                            if px_go r3.2 x0 9 = true then
                              (px_R (mm_Mod_toRight, 0, [(2, x0), (0, (px_w (x2 + 1))), (0, (px_w (Int.tdiv (px_w ((px_rd w (px_rd w x0 35) ((px_w (42 + x2))).toNat) * (px_rd w (px_rd w x0 35) ((px_w (122 + x2))).toNat))) 100)))], [], r3.2)).bind fun r4 =>
                              px_R (mm_Mod_tickOnce, 36, [(2, x0), (0, x1), (0, (px_w (x2 + 1))), (0, (px_rd w (px_rd w x0 35) ((px_w (82 + x2))).toNat)), (0, (px_rd w (px_rd w x0 35) ((px_w (122 + x2))).toNat)), (0, (px_rd w (px_rd w x0 35) ((px_w (2 + x2))).toNat)), (0, (px_rd w (px_rd w x0 35) ((px_w (42 + x2))).toNat))], [], r4.2)
                            else none
                          else none
                        else none
                      else none
                    else none
                  else none
                else none
              else none
            else none
          else none
        else none
      else none
    else
      px_R (mm_Mod_tickOnce, 149, [(2, x0), (0, x1), (0, 0), y3, y4, y5, y6], [], w)) := (px_Req mm_Mod_tickOnce 36 [(2, x0), (0, x1), (0, x2), y3, y4, y5, y6] [] w).trans rfl
set_option maxRecDepth 100000 in
theorem eq_Mod_tickOnce_149 (x0 x1 x2 : Int) (y3 y4 y5 y6 : pv) (w : pw) : px_R (mm_Mod_tickOnce, 149, [(2, x0), (0, x1), (0, x2), y3, y4, y5, y6], [], w) =
    (if x2 < x1 then
      if px_go w x0 9 = true then
        if px_go w x0 9 = true then
          if px_ga w 0 (px_rd w x0 38) x2 = true then
            (px_R (mm_Mod_bounded, 0, [(0, (px_rd w (px_rd w x0 38) (x2).toNat))], [], w)).bind fun r5 =>
              if px_ga r5.2 0 (px_rd w x0 35) (px_w (2 + x2)) = true then
                if px_go (px_wr r5.2 (px_rd w x0 35) ((px_w (2 + x2))).toNat r5.1) x0 9 = true then
                  if px_go (px_wr r5.2 (px_rd w x0 35) ((px_w (2 + x2))).toNat r5.1) x0 9 = true then
                    if px_ga (px_wr r5.2 (px_rd w x0 35) ((px_w (2 + x2))).toNat r5.1) 0 (px_rd (px_wr r5.2 (px_rd w x0 35) ((px_w (2 + x2))).toNat r5.1) x0 39) x2 = true then
                      (px_R (mm_Mod_bounded, 0, [(0, (px_rd (px_wr r5.2 (px_rd w x0 35) ((px_w (2 + x2))).toNat r5.1) (px_rd (px_wr r5.2 (px_rd w x0 35) ((px_w (2 + x2))).toNat r5.1) x0 39) (x2).toNat))], [], (px_wr r5.2 (px_rd w x0 35) ((px_w (2 + x2))).toNat r5.1))).bind fun r6 =>
                        if px_ga r6.2 0 (px_rd (px_wr r5.2 (px_rd w x0 35) ((px_w (2 + x2))).toNat r5.1) x0 35) (px_w (42 + x2)) = true then
                          px_R (mm_Mod_tickOnce, 149, [(2, x0), (0, x1), (0, (px_w (x2 + 1))), y3, y4, y5, y6], [], (px_wr r6.2 (px_rd (px_wr r5.2 (px_rd w x0 35) ((px_w (2 + x2))).toNat r5.1) x0 35) ((px_w (42 + x2))).toNat r6.1))
                        else none
                    else none
                  else none
                else none
              else none
          else none
        else none
      else none
    else
      if px_go w x0 9 = true then
        if px_ga w 0 (px_rd w x0 35) 1 = true then
          if px_ga w 0 (px_rd w x0 35) 1 = true then
            some (0, (px_wr w (px_rd w x0 35) 1 (px_w ((px_rd w (px_rd w x0 35) 1) + 1))))
          else none
        else none
      else none) := (px_Req mm_Mod_tickOnce 149 [(2, x0), (0, x1), (0, x2), y3, y4, y5, y6] [] w).trans rfl
set_option maxRecDepth 100000 in
theorem eq_Mod_tie_0 (x0 x1 : Int) (w : pw) : px_R (mm_Mod_tie, 0, [(2, x0), (0, x1)], [], w) =
    ((px_R (mm_Mod_in, 0, [(0, x1), (0, 0), (0, 100)], [], w)).bind fun r1 =>
      if r1.1 = 0 then
        some ((-2), r1.2)
      else
        if px_go r1.2 x0 9 = true then
          if (px_rd r1.2 x0 29) = 4 then
            some ((-3), r1.2)
          else
            if px_go r1.2 x0 9 = true then
              if px_go r1.2 x0 9 = true then
                if px_ga r1.2 0 (px_rd r1.2 x0 31) (px_rd r1.2 x0 29) = true then
                  if px_go (px_wr r1.2 (px_rd r1.2 x0 31) ((px_rd r1.2 x0 29)).toNat x1) x0 9 = true then
                    if px_go (px_wr r1.2 (px_rd r1.2 x0 31) ((px_rd r1.2 x0 29)).toNat x1) x0 9 = true then
                      if px_go (px_wr (px_wr r1.2 (px_rd r1.2 x0 31) ((px_rd r1.2 x0 29)).toNat x1) x0 29 (px_w ((px_rd (px_wr r1.2 (px_rd r1.2 x0 31) ((px_rd r1.2 x0 29)).toNat x1) x0 29) + 1))) x0 9 = true then
                        some ((px_rd (px_wr (px_wr r1.2 (px_rd r1.2 x0 31) ((px_rd r1.2 x0 29)).toNat x1) x0 29 (px_w ((px_rd (px_wr r1.2 (px_rd r1.2 x0 31) ((px_rd r1.2 x0 29)).toNat x1) x0 29) + 1))) x0 29), (px_wr (px_wr r1.2 (px_rd r1.2 x0 31) ((px_rd r1.2 x0 29)).toNat x1) x0 29 (px_w ((px_rd (px_wr r1.2 (px_rd r1.2 x0 31) ((px_rd r1.2 x0 29)).toNat x1) x0 29) + 1))))
                      else none
                    else none
                  else none
                else none
              else none
            else none
        else none) := (px_Req mm_Mod_tie 0 [(2, x0), (0, x1)] [] w).trans rfl
set_option maxRecDepth 100000 in
theorem eq_Mod_yardsBy_0 (x0 x1 x2 : Int) (w : pw) : px_R (mm_Mod_yardsBy, 0, [(2, x0), (0, x1), (0, x2), (9, 0), (9, 0)], [], w) =
    (px_R (mm_Mod_yardsBy, 5, [(2, x0), (0, x1), (0, x2), (0, 0), (0, 0)], [], w)) := (px_Req mm_Mod_yardsBy 0 [(2, x0), (0, x1), (0, x2), (9, 0), (9, 0)] [] w).trans rfl
set_option maxRecDepth 100000 in
theorem eq_Mod_yardsBy_5 (x0 x1 x2 x3 x4 : Int) (w : pw) : px_R (mm_Mod_yardsBy, 5, [(2, x0), (0, x1), (0, x2), (0, x3), (0, x4)], [], w) =
    (if px_go w x0 9 = true then
      if x4 < (px_rd w x0 43) then
        if (px_and (px_shr x1 x4) 1) = 0 then
          px_R (mm_Mod_yardsBy, 5, [(2, x0), (0, x1), (0, x2), (0, x3), (0, (px_w (x4 + 1)))], [], w)
        else
          if px_go w x0 9 = true then
            if px_ga w 0 (px_rd w x0 46) x4 = true then
              if (px_rd w (px_rd w x0 46) (x4).toNat) < 0 then
                some ((-1), w)
              else
                if px_go w x0 9 = true then
                  if px_ga w 0 (px_rd w x0 46) x4 = true then
                    px_R (mm_Mod_yardsBy, 5, [(2, x0), (0, x1), (0, x2), (0, (px_w (x3 + (px_rd w (px_rd w x0 46) (x4).toNat)))), (0, (px_w (x4 + 1)))], [], w)
                  else none
                else none
            else none
          else none
      else
        px_R (mm_Mod_yardsBy, 57, [(2, x0), (0, x1), (0, x2), (0, x3), (0, 0)], [], w)
    else none) := (px_Req mm_Mod_yardsBy 5 [(2, x0), (0, x1), (0, x2), (0, x3), (0, x4)] [] w).trans rfl
set_option maxRecDepth 100000 in
theorem eq_Mod_yardsBy_57 (x0 x1 x2 x3 x4 : Int) (w : pw) : px_R (mm_Mod_yardsBy, 57, [(2, x0), (0, x1), (0, x2), (0, x3), (0, x4)], [], w) =
    (if px_go w x0 9 = true then
      if x4 < (px_rd w x0 40) then
        if px_go w x0 9 = true then
          (px_R (mm_Mod_isGranted, 0, [(2, x0), (0, x4), (0, x1), (0, x2), (9, 0), (9, 0), (9, 0), (9, 0)], [], w)).bind fun r1 =>
          if r1.1 = 0 then
            some ((-1), r1.2)
          else
            px_R (mm_Mod_yardsBy, 57, [(2, x0), (0, x1), (0, x2), (0, x3), (0, (px_w (x4 + 1)))], [], r1.2)
        else none
      else
        some (x3, w)
    else none) := (px_Req mm_Mod_yardsBy 57 [(2, x0), (0, x1), (0, x2), (0, x3), (0, x4)] [] w).trans rfl
set_option maxRecDepth 100000 in
theorem eq_Taps_lasts_0 (x0 : Int) (w : pw) : px_R (mm_Taps_lasts, 0, [(0, x0)], [], w) =
    ((px_R (mm_Taps_beats, 0, [(0, x0), (9, 0), (9, 0)], [], w)).bind fun r1 =>
      some ((px_w ((px_w (2 * r1.1)) - 1)), r1.2)) := (px_Req mm_Taps_lasts 0 [(0, x0)] [] w).trans rfl
set_option maxRecDepth 100000 in
theorem eq_Taps_place_0 (x0 : Int) (w : pw) : px_R (mm_Taps_place, 0, [(0, x0), (9, 0), (9, 0)], [], w) =
    ((px_R (mm_Taps_beats, 0, [(0, x0), (9, 0), (9, 0)], [], w)).bind fun r1 =>
      px_R (mm_Taps_place, 9, [(0, x0), (0, x0), (0, (px_w (r1.1 - 1)))], [], r1.2)) := (px_Req mm_Taps_place 0 [(0, x0), (9, 0), (9, 0)] [] w).trans rfl
set_option maxRecDepth 100000 in
theorem eq_Taps_place_9 (x0 x1 x2 : Int) (w : pw) : px_R (mm_Taps_place, 9, [(0, x0), (0, x1), (0, x2)], [], w) =
    (if x2 < 1 then
      some (x1, w)
    else
      if px_gl (px_sar 3) x2 = true then
        px_R (mm_Taps_place, 9, [(0, x0), (0, (px_w (x1 - (px_lst (px_sar 3) (x2).toNat)))), (0, (px_w (x2 + (-1))))], [], w)
      else none) := (px_Req mm_Taps_place 9 [(0, x0), (0, x1), (0, x2)] [] w).trans rfl
set_option maxRecDepth 100000 in
theorem eq_Book_init_0 (x0 : Int) (w : pw) : px_R (mm_Book_init, 0, [(2, x0)], [], w) =
    (if (!decide (x0 = 0)) = true then
      if px_go (px_al w (0, 20)) x0 0 = true then
        if px_go (px_al (px_wr (px_al w (0, 20)) x0 3 (w.1.length : Int)) (0, 20)) x0 0 = true then
          px_R (mm_Book_init, 20, [(2, x0)], [], (px_wr (px_al (px_wr (px_al w (0, 20)) x0 3 (w.1.length : Int)) (0, 20)) x0 4 ((px_wr (px_al w (0, 20)) x0 3 (w.1.length : Int)).1.length : Int)))
        else none
      else none
    else none) := (px_Req mm_Book_init 0 [(2, x0)] [] w).trans rfl
set_option maxRecDepth 100000 in
theorem eq_Book_init_20 (x0 : Int) (w : pw) : px_R (mm_Book_init, 20, [(2, x0)], [], w) =
    (if px_go (px_al w (0, 20)) x0 0 = true then
      if px_go (px_al (px_wr (px_al w (0, 20)) x0 5 (w.1.length : Int)) (0, 20)) x0 0 = true then
        px_R (mm_Book_init, 36, [(2, x0)], [], (px_wr (px_al (px_wr (px_al w (0, 20)) x0 5 (w.1.length : Int)) (0, 20)) x0 6 ((px_wr (px_al w (0, 20)) x0 5 (w.1.length : Int)).1.length : Int)))
      else none
    else none) := (px_Req mm_Book_init 20 [(2, x0)] [] w).trans rfl
set_option maxRecDepth 100000 in
theorem eq_Book_init_36 (x0 : Int) (w : pw) : px_R (mm_Book_init, 36, [(2, x0)], [], w) =
    (if px_go (px_al w (0, 20)) x0 0 = true then
      if px_go (px_al (px_wr (px_al w (0, 20)) x0 7 (w.1.length : Int)) (0, 20)) x0 0 = true then
        px_R (mm_Book_init, 52, [(2, x0)], [], (px_wr (px_al (px_wr (px_al w (0, 20)) x0 7 (w.1.length : Int)) (0, 20)) x0 8 ((px_wr (px_al w (0, 20)) x0 7 (w.1.length : Int)).1.length : Int)))
      else none
    else none) := (px_Req mm_Book_init 36 [(2, x0)] [] w).trans rfl
set_option maxRecDepth 100000 in
theorem eq_Book_init_52 (x0 : Int) (w : pw) : px_R (mm_Book_init, 52, [(2, x0)], [], w) =
    (if px_go (px_al2 w 4 0 6 6) x0 0 = true then
      if px_go (px_al (px_wr (px_al2 w 4 0 6 6) x0 12 (w.1.length : Int)) (13, 1)) ((px_wr (px_al2 w 4 0 6 6) x0 12 (w.1.length : Int)).1.length : Int) 3 = true then
        (px_R (mm_Prod_init, 0, [(2, ((px_wr (px_al2 w 4 0 6 6) x0 12 (w.1.length : Int)).1.length : Int))], [], (px_al (px_wr (px_al2 w 4 0 6 6) x0 12 (w.1.length : Int)) (13, 1)))).bind fun r1 =>
        if px_go r1.2 x0 0 = true then
          if px_go (px_al (px_wr r1.2 x0 13 ((px_wr (px_al2 w 4 0 6 6) x0 12 (w.1.length : Int)).1.length : Int)) (13, 1)) ((px_wr r1.2 x0 13 ((px_wr (px_al2 w 4 0 6 6) x0 12 (w.1.length : Int)).1.length : Int)).1.length : Int) 3 = true then
            (px_R (mm_Prod_init, 0, [(2, ((px_wr r1.2 x0 13 ((px_wr (px_al2 w 4 0 6 6) x0 12 (w.1.length : Int)).1.length : Int)).1.length : Int))], [], (px_al (px_wr r1.2 x0 13 ((px_wr (px_al2 w 4 0 6 6) x0 12 (w.1.length : Int)).1.length : Int)) (13, 1)))).bind fun r2 =>
            px_R (mm_Book_init, 83, [(2, x0)], [(2, ((px_wr r1.2 x0 13 ((px_wr (px_al2 w 4 0 6 6) x0 12 (w.1.length : Int)).1.length : Int)).1.length : Int)), (2, x0)], r2.2)
          else none
        else none
      else none
    else none) := (px_Req mm_Book_init 52 [(2, x0)] [] w).trans rfl
set_option maxRecDepth 100000 in
theorem eq_Book_init_83 (x0 s0 s1 : Int) (w : pw) : px_R (mm_Book_init, 83, [(2, x0)], [(2, s1), (2, s0)], w) =
    (if px_go w s0 0 = true then
      some (0, (px_wr w s0 14 s1))
    else none) := (px_Req mm_Book_init 83 [(2, x0)] [(2, s1), (2, s0)] w).trans rfl
set_option maxRecDepth 100000 in
theorem eq_Ear_hearOnce_0 (x0 x1 x2 : Int) (w : pw) : px_R (mm_Ear_hearOnce, 0, [(2, x0), (0, x1), (0, x2), (9, 0), (9, 0), (9, 0), (9, 0), (9, 0), (9, 0)], [], w) =
    (if px_go w x0 1 = true then
      if px_go w x0 1 = true then
        (px_R (mm_Ear_thinkOf, 0, [(2, x0), (0, (px_w ((px_shl 1 (px_rd w x0 0)) - 1))), (9, 0)], [], w)).bind fun r1 =>
        px_R (mm_Ear_hearOnce, 21, [(2, x0), (0, x1), (0, x2), (1, x2), (9, 0), (1, 0), (9, 0), (0, 0), (9, 0)], [], r1.2)
      else none
    else none) := (px_Req mm_Ear_hearOnce 0 [(2, x0), (0, x1), (0, x2), (9, 0), (9, 0), (9, 0), (9, 0), (9, 0), (9, 0)] [] w).trans rfl
set_option maxRecDepth 100000 in
theorem eq_Ear_hearOnce_21 (x0 x1 x2 x3 x5 x7 : Int) (y8 : pv) (w : pw) : px_R (mm_Ear_hearOnce, 21, [(2, x0), (0, x1), (0, x2), (1, x3), (9, 0), (1, x5), (9, 0), (0, x7), y8], [], w) =
    (if x7 < 4 then
      if px_go w x0 1 = true then
        if px_go w x0 1 = true then
          if (!decide ((px_w ((px_w ((px_rd w x0 1) + 1)) * (px_w ((px_rd w x0 1) + 1)))) = 0)) = true then
            if px_go w x0 1 = true then
              (px_R (mm_Ear_noiseOf, 0, [(2, x0), (0, (px_w (Int.tmod (px_wl (Int.tdiv (Int.tmod (px_wl ((px_wl (1103515245 * x3)) + 12345)) 2147483648) 65536)) (px_w ((px_w ((px_rd w x0 1) + 1)) * (px_w ((px_rd w x0 1) + 1))))))), (9, 0), (9, 0)], [], w)).bind fun r3 =>
              if px_go r3.2 x0 1 = true then
                (px_R (mm_Ear_heardWith, 0, [(2, x0), (0, x1), (0, x7), (0, r3.1)], [], r3.2)).bind fun r4 =>
                if px_go r4.2 x0 1 = true then
                  (px_R (mm_Ear_offFrom, 0, [(2, x0), (0, x7), (0, r4.1), (9, 0), (9, 0), (9, 0), (9, 0)], [], r4.2)).bind fun r5 =>
                  px_R (mm_Ear_hearOnce, 21, [(2, x0), (0, x1), (0, x2), (1, (Int.tmod (px_wl ((px_wl (1103515245 * x3)) + 12345)) 2147483648)), (9, 0), (1, (px_wl (x5 + r5.1))), (9, 0), (0, (px_w (x7 + 1))), (0, (px_w (Int.tmod (px_wl (Int.tdiv (Int.tmod (px_wl ((px_wl (1103515245 * x3)) + 12345)) 2147483648) 65536)) (px_w ((px_w ((px_rd w x0 1) + 1)) * (px_w ((px_rd w x0 1) + 1)))))))], [], r5.2)
                else none
              else none
            else none
          else none
        else none
      else none
    else
      if px_go w x0 1 = true then
        (px_R (mm_Ear_nearest, 0, [(2, x0), (1, x5), (9, 0), (9, 0), (9, 0), (9, 0), (9, 0), (9, 0), (9, 0)], [], w)).bind fun r2 =>
        some (r2.1, r2.2)
      else none) := (px_Req mm_Ear_hearOnce 21 [(2, x0), (0, x1), (0, x2), (1, x3), (9, 0), (1, x5), (9, 0), (0, x7), y8] [] w).trans rfl
set_option maxRecDepth 100000 in
theorem eq_Ear_spread_0 (x0 x1 x2 : Int) (w : pw) : px_R (mm_Ear_spread, 0, [(2, x0), (0, x1), (0, x2), (9, 0), (9, 0), (9, 0), (9, 0)], [], w) =
    (if px_go w x0 1 = true then
      if px_ga w 0 (px_rd w x0 7) x2 = true then
        if px_go (px_wr w (px_rd w x0 7) (x2).toNat 0) x0 1 = true then
          px_R (mm_Ear_spread, 13, [(2, x0), (0, x1), (0, x2), (0, (px_w (-(px_rd (px_wr w (px_rd w x0 7) (x2).toNat 0) x0 1)))), (9, 0), (9, 0), (9, 0)], [], (px_wr w (px_rd w x0 7) (x2).toNat 0))
        else none
      else none
    else none) := (px_Req mm_Ear_spread 0 [(2, x0), (0, x1), (0, x2), (9, 0), (9, 0), (9, 0), (9, 0)] [] w).trans rfl
set_option maxRecDepth 100000 in
theorem eq_Ear_spread_13 (x0 x1 x2 x3 : Int) (y4 y6 : pv) (w : pw) : px_R (mm_Ear_spread, 13, [(2, x0), (0, x1), (0, x2), (0, x3), y4, (9, 0), y6], [], w) =
    (if px_go w x0 1 = true then
      if (px_rd w x0 1) < x3 then
        some (0, w)
      else
        if px_go w x0 1 = true then
          (px_R (mm_Ear_heardWith, 0, [(2, x0), (0, x1), (0, x2), (0, x3)], [], w)).bind fun r1 =>
          if px_go r1.2 x0 1 = true then
            (px_R (mm_Ear_offFrom, 0, [(2, x0), (0, x2), (0, r1.1), (9, 0), (9, 0), (9, 0), (9, 0)], [], r1.2)).bind fun r2 =>
            px_R (mm_Ear_spread, 38, [(2, x0), (0, x1), (0, x2), (0, x3), (1, r2.1), (9, 0), (0, 0)], [], r2.2)
          else none
        else none
    else none) := (px_Req mm_Ear_spread 13 [(2, x0), (0, x1), (0, x2), (0, x3), y4, (9, 0), y6] [] w).trans rfl
set_option maxRecDepth 100000 in
theorem eq_Ear_spread_38 (x0 x1 x2 x3 x4 x6 : Int) (w : pw) : px_R (mm_Ear_spread, 38, [(2, x0), (0, x1), (0, x2), (0, x3), (1, x4), (9, 0), (0, x6)], [], w) =
    (if px_go w x0 1 = true then
      if px_ga w 0 (px_rd w x0 7) x2 = true then
        if x6 < (px_rd w (px_rd w x0 7) (x2).toNat) then
          if px_go w x0 1 = true then
            if (px_ga w 4 (px_rd w x0 8) x2 || (px_ga w 5 (px_rd w x0 8) x2 || px_ga w 6 (px_rd w x0 8) x2)) = true then
              if px_ga w 1 (px_rd w (px_rd w x0 8) (x2).toNat) x6 = true then
                if (px_cmp (px_rd w (px_rd w (px_rd w x0 8) (x2).toNat) (x6).toNat) x4) = 0 then
                  px_R (mm_Ear_spread, 70, [(2, x0), (0, x1), (0, x2), (0, x3), (1, x4), (9, 0), (0, x6)], [], w)
                else
                  px_R (mm_Ear_spread, 38, [(2, x0), (0, x1), (0, x2), (0, x3), (1, x4), (9, 0), (0, (px_w (x6 + 1)))], [], w)
              else none
            else none
          else none
        else
          px_R (mm_Ear_spread, 70, [(2, x0), (0, x1), (0, x2), (0, x3), (1, x4), (9, 0), (0, x6)], [], w)
      else none
    else none) := (px_Req mm_Ear_spread 38 [(2, x0), (0, x1), (0, x2), (0, x3), (1, x4), (9, 0), (0, x6)] [] w).trans rfl
set_option maxRecDepth 100000 in
theorem eq_Ear_spread_70 (x0 x1 x2 x3 x4 x6 : Int) (w : pw) : px_R (mm_Ear_spread, 70, [(2, x0), (0, x1), (0, x2), (0, x3), (1, x4), (9, 0), (0, x6)], [], w) =
    (if px_go w x0 1 = true then
      if px_ga w 0 (px_rd w x0 7) x2 = true then
        if x6 = (px_rd w (px_rd w x0 7) (x2).toNat) then
          if px_go w x0 1 = true then
            if (px_ga w 4 (px_rd w x0 8) x2 || (px_ga w 5 (px_rd w x0 8) x2 || px_ga w 6 (px_rd w x0 8) x2)) = true then
              if px_ga w 1 (px_rd w (px_rd w x0 8) (x2).toNat) x6 = true then
                if px_go (px_wr w (px_rd w (px_rd w x0 8) (x2).toNat) (x6).toNat x4) x0 1 = true then
                  if (px_ga (px_wr w (px_rd w (px_rd w x0 8) (x2).toNat) (x6).toNat x4) 4 (px_rd (px_wr w (px_rd w (px_rd w x0 8) (x2).toNat) (x6).toNat x4) x0 9) x2 || (px_ga (px_wr w (px_rd w (px_rd w x0 8) (x2).toNat) (x6).toNat x4) 5 (px_rd (px_wr w (px_rd w (px_rd w x0 8) (x2).toNat) (x6).toNat x4) x0 9) x2 || px_ga (px_wr w (px_rd w (px_rd w x0 8) (x2).toNat) (x6).toNat x4) 6 (px_rd (px_wr w (px_rd w (px_rd w x0 8) (x2).toNat) (x6).toNat x4) x0 9) x2)) = true then
                    if px_ga (px_wr w (px_rd w (px_rd w x0 8) (x2).toNat) (x6).toNat x4) 0 (px_rd (px_wr w (px_rd w (px_rd w x0 8) (x2).toNat) (x6).toNat x4) (px_rd (px_wr w (px_rd w (px_rd w x0 8) (x2).toNat) (x6).toNat x4) x0 9) (x2).toNat) x6 = true then
                      if px_go (px_wr (px_wr w (px_rd w (px_rd w x0 8) (x2).toNat) (x6).toNat x4) (px_rd (px_wr w (px_rd w (px_rd w x0 8) (x2).toNat) (x6).toNat x4) (px_rd (px_wr w (px_rd w (px_rd w x0 8) (x2).toNat) (x6).toNat x4) x0 9) (x2).toNat) (x6).toNat 0) x0 1 = true then
                        if px_ga (px_wr (px_wr w (px_rd w (px_rd w x0 8) (x2).toNat) (x6).toNat x4) (px_rd (px_wr w (px_rd w (px_rd w x0 8) (x2).toNat) (x6).toNat x4) (px_rd (px_wr w (px_rd w (px_rd w x0 8) (x2).toNat) (x6).toNat x4) x0 9) (x2).toNat) (x6).toNat 0) 0 (px_rd (px_wr (px_wr w (px_rd w (px_rd w x0 8) (x2).toNat) (x6).toNat x4) (px_rd (px_wr w (px_rd w (px_rd w x0 8) (x2).toNat) (x6).toNat x4) (px_rd (px_wr w (px_rd w (px_rd w x0 8) (x2).toNat) (x6).toNat x4) x0 9) (x2).toNat) (x6).toNat 0) x0 7) x2 = true then
                          if px_ga (px_wr (px_wr w (px_rd w (px_rd w x0 8) (x2).toNat) (x6).toNat x4) (px_rd (px_wr w (px_rd w (px_rd w x0 8) (x2).toNat) (x6).toNat x4) (px_rd (px_wr w (px_rd w (px_rd w x0 8) (x2).toNat) (x6).toNat x4) x0 9) (x2).toNat) (x6).toNat 0) 0 (px_rd (px_wr (px_wr w (px_rd w (px_rd w x0 8) (x2).toNat) (x6).toNat x4) (px_rd (px_wr w (px_rd w (px_rd w x0 8) (x2).toNat) (x6).toNat x4) (px_rd (px_wr w (px_rd w (px_rd w x0 8) (x2).toNat) (x6).toNat x4) x0 9) (x2).toNat) (x6).toNat 0) x0 7) x2 = true then
                            px_R (mm_Ear_spread, 112, [(2, x0), (0, x1), (0, x2), (0, x3), (1, x4), (9, 0), (0, x6)], [], (px_wr (px_wr (px_wr w (px_rd w (px_rd w x0 8) (x2).toNat) (x6).toNat x4) (px_rd (px_wr w (px_rd w (px_rd w x0 8) (x2).toNat) (x6).toNat x4) (px_rd (px_wr w (px_rd w (px_rd w x0 8) (x2).toNat) (x6).toNat x4) x0 9) (x2).toNat) (x6).toNat 0) (px_rd (px_wr (px_wr w (px_rd w (px_rd w x0 8) (x2).toNat) (x6).toNat x4) (px_rd (px_wr w (px_rd w (px_rd w x0 8) (x2).toNat) (x6).toNat x4) (px_rd (px_wr w (px_rd w (px_rd w x0 8) (x2).toNat) (x6).toNat x4) x0 9) (x2).toNat) (x6).toNat 0) x0 7) (x2).toNat (px_w ((px_rd (px_wr (px_wr w (px_rd w (px_rd w x0 8) (x2).toNat) (x6).toNat x4) (px_rd (px_wr w (px_rd w (px_rd w x0 8) (x2).toNat) (x6).toNat x4) (px_rd (px_wr w (px_rd w (px_rd w x0 8) (x2).toNat) (x6).toNat x4) x0 9) (x2).toNat) (x6).toNat 0) (px_rd (px_wr (px_wr w (px_rd w (px_rd w x0 8) (x2).toNat) (x6).toNat x4) (px_rd (px_wr w (px_rd w (px_rd w x0 8) (x2).toNat) (x6).toNat x4) (px_rd (px_wr w (px_rd w (px_rd w x0 8) (x2).toNat) (x6).toNat x4) x0 9) (x2).toNat) (x6).toNat 0) x0 7) (x2).toNat) + 1))))
                          else none
                        else none
                      else none
                    else none
                  else none
                else none
              else none
            else none
          else none
        else
          px_R (mm_Ear_spread, 112, [(2, x0), (0, x1), (0, x2), (0, x3), (1, x4), (9, 0), (0, x6)], [], w)
      else none
    else none) := (px_Req mm_Ear_spread 70 [(2, x0), (0, x1), (0, x2), (0, x3), (1, x4), (9, 0), (0, x6)] [] w).trans rfl
set_option maxRecDepth 100000 in
theorem eq_Ear_spread_112 (x0 x1 x2 x3 x4 x6 : Int) (w : pw) : px_R (mm_Ear_spread, 112, [(2, x0), (0, x1), (0, x2), (0, x3), (1, x4), (9, 0), (0, x6)], [], w) =
    (if px_go w x0 1 = true then
      if (px_ga w 4 (px_rd w x0 9) x2 || (px_ga w 5 (px_rd w x0 9) x2 || px_ga w 6 (px_rd w x0 9) x2)) = true then
        if px_ga w 0 (px_rd w (px_rd w x0 9) (x2).toNat) x6 = true then
          if px_go w x0 1 = true then
            if px_ga w 0 (px_rd w (px_rd w x0 9) (x2).toNat) x6 = true then
              px_R (mm_Ear_spread, 13, [(2, x0), (0, x1), (0, x2), (0, (px_w (x3 + 1))), (1, x4), (9, 0), (0, x6)], [], (px_wr w (px_rd w (px_rd w x0 9) (x2).toNat) (x6).toNat (px_w ((px_rd w (px_rd w (px_rd w x0 9) (x2).toNat) (x6).toNat) + (px_w ((px_w ((px_rd w x0 1) + 1)) - (px_ab x3)))))))
            else none
          else none
        else none
      else none
    else none) := (px_Req mm_Ear_spread 112 [(2, x0), (0, x1), (0, x2), (0, x3), (1, x4), (9, 0), (0, x6)] [] w).trans rfl
set_option maxRecDepth 100000 in
theorem eq_Line_handsOn_0 (x0 x1 : Int) (w : pw) : px_R (mm_Line_handsOn, 0, [(2, x0), (2, x1), (9, 0)], [], w) =
    (if px_go w x0 2 = true then
      (px_R (mm_Line_strength, 0, [(2, x0), (2, x1), (9, 0)], [], w)).bind fun r1 =>
      if px_go r1.2 x0 2 = true then
        if (px_rd r1.2 x0 3) = 0 then
          some (0, r1.2)
        else
          if px_go r1.2 x0 2 = true then
            if r1.1 < (px_rd r1.2 x0 3) then
              some (0, r1.2)
            else
              if px_go r1.2 x0 2 = true then
                if (px_w (2 * (px_rd r1.2 x0 3))) < r1.1 then
                  if px_go r1.2 x0 2 = true then
                    if (!decide (r1.1 = 0)) = true then
                      some ((px_w (Int.tdiv (px_w (200 * (px_rd r1.2 x0 3))) r1.1)), r1.2)
                    else none
                  else none
                else
                  some (100, r1.2)
              else none
          else none
      else none
    else none) := (px_Req mm_Line_handsOn 0 [(2, x0), (2, x1), (9, 0)] [] w).trans rfl
set_option maxRecDepth 100000 in
theorem eq_Line_leaves_0 (x0 x1 x2 x3 : Int) (w : pw) : px_R (mm_Line_leaves, 0, [(2, x0), (2, x1), (0, x2), (0, x3)], [], w) =
    (if px_go w x0 2 = true then
      if px_go w x0 2 = true then
        (px_R (mm_Line_overBends, 0, [(2, x0), (2, x1), (0, x2), (0, x3), (0, (px_rd w x0 6)), (9, 0), (9, 0), (9, 0), (9, 0)], [], w)).bind fun r1 =>
        if px_go r1.2 x0 2 = true then
          if px_go r1.2 x1 5 = true then
            (px_R (mm_Str_ofBand, 0, [(2, x1), (0, 1), (0, (px_rd r1.2 x0 1)), (0, x3), (9, 0)], [], r1.2)).bind fun r2 =>
            some ((px_w (Int.tdiv (px_w (r1.1 * r2.1)) 100)), r2.2)
          else none
        else none
      else none
    else none) := (px_Req mm_Line_leaves 0 [(2, x0), (2, x1), (0, x2), (0, x3)] [] w).trans rfl
set_option maxRecDepth 100000 in
theorem eq_Line_snaps_0 (x0 x1 : Int) (w : pw) : px_R (mm_Line_snaps, 0, [(2, x0), (2, x1)], [], w) =
    (if px_go w x0 2 = true then
      if px_go w x0 2 = true then
        (px_R (mm_Line_strength, 0, [(2, x0), (2, x1), (9, 0)], [], w)).bind fun r1 =>
        if r1.1 < (px_rd w x0 3) then
          some (1, r1.2)
        else
          some (0, r1.2)
      else none
    else none) := (px_Req mm_Line_snaps 0 [(2, x0), (2, x1)] [] w).trans rfl
set_option maxRecDepth 100000 in
theorem eq_Row_move_0 (x0 : Int) (w : pw) : px_R (mm_Row_move, 0, [(2, x0), (9, 0), (9, 0), (9, 0), (9, 0)], [], w) =
    (px_R (mm_Row_move, 4, [(2, x0), (0, 0), (0, 0), (9, 0), (9, 0)], [], w)) := (px_Req mm_Row_move 0 [(2, x0), (9, 0), (9, 0), (9, 0), (9, 0)] [] w).trans rfl
set_option maxRecDepth 100000 in
theorem eq_Row_move_4 (x0 x1 x2 : Int) (y3 y4 : pv) (w : pw) : px_R (mm_Row_move, 4, [(2, x0), (0, x1), (0, x2), y3, y4], [], w) =
    (if px_go w x0 4 = true then
      if x2 < (px_rd w x0 0) then
        if px_go w x0 4 = true then
          if px_ga w 0 (px_rd w x0 4) x2 = true then
            if px_go w x0 4 = true then
              if px_ga w 0 (px_rd w x0 6) x2 = true then
                (px_R (mm_Row_part, 0, [(0, (px_rd w (px_rd w x0 4) (x2).toNat)), (0, (px_rd w (px_rd w x0 6) (x2).toNat))], [], w)).bind fun r1 =>
                  if px_go r1.2 x0 4 = true then
                    if px_ga r1.2 0 (px_rd r1.2 x0 5) x2 = true then
                      if px_go r1.2 x0 4 = true then
                        if px_ga r1.2 0 (px_rd r1.2 x0 7) x2 = true then
                          (px_R (mm_Row_part, 0, [(0, (px_rd r1.2 (px_rd r1.2 x0 5) (x2).toNat)), (0, (px_rd r1.2 (px_rd r1.2 x0 7) (x2).toNat))], [], r1.2)).bind fun r2 =>
                            (px_R (mm_Row_bounded, 0, [(0, (px_w (r1.1 + r2.1)))], [], r2.2)).bind fun r3 =>
                              if px_go r3.2 x0 4 = true then
                                if px_ga r3.2 0 (px_rd r3.2 x0 5) x2 = true then
                                  if px_go r3.2 x0 4 = true then
                                    if px_ga r3.2 0 (px_rd r3.2 x0 6) x2 = true then
                                      (px_R (mm_Row_part, 0, [(0, (px_rd r3.2 (px_rd r3.2 x0 5) (x2).toNat)), (0, (px_rd r3.2 (px_rd r3.2 x0 6) (x2).toNat))], [], r3.2)).bind fun r4 =>
                                        if px_go r4.2 x0 4 = true then
                                          if px_ga r4.2 0 (px_rd r4.2 x0 4) x2 = true then
                                            if px_go r4.2 x0 4 = true then
                                              if px_ga r4.2 0 (px_rd r4.2 x0 7) x2 = true then
                                                (px_R (mm_Row_part, 0, [(0, (px_rd r4.2 (px_rd r4.2 x0 4) (x2).toNat)), (0, (px_rd r4.2 (px_rd r4.2 x0 7) (x2).toNat))], [], r4.2)).bind fun r5 =>
                                                  (px_R (mm_Row_bounded, 0, [(0, (px_w (r4.1 + r5.1)))], [], r5.2)).bind fun r6 =>
                                                    if x2 = 0 then
                                                      if px_go r6.2 x0 4 = true then
                                                        if px_go r6.2 x0 4 = true then
                                                          if px_go (px_wr r6.2 x0 2 (px_wl ((px_rd r6.2 x0 2) + r6.1))) x0 4 = true then
                                                            if px_ga (px_wr r6.2 x0 2 (px_wl ((px_rd r6.2 x0 2) + r6.1))) 0 (px_rd (px_wr r6.2 x0 2 (px_wl ((px_rd r6.2 x0 2) + r6.1))) x0 4) x2 = true then
                                                              px_R (mm_Row_move, 4, [(2, x0), (0, r3.1), (0, (px_w (x2 + 1))), (0, x1), (0, r6.1)], [], (px_wr (px_wr r6.2 x0 2 (px_wl ((px_rd r6.2 x0 2) + r6.1))) (px_rd (px_wr r6.2 x0 2 (px_wl ((px_rd r6.2 x0 2) + r6.1))) x0 4) (x2).toNat x1))
                                                            else none
                                                          else none
                                                        else none
                                                      else none
                                                    else
                                                      if px_go r6.2 x0 4 = true then
                                                        if px_ga r6.2 0 (px_rd r6.2 x0 5) (px_w (x2 - 1)) = true then
                                                          if px_go (px_wr r6.2 (px_rd r6.2 x0 5) ((px_w (x2 - 1))).toNat r6.1) x0 4 = true then
                                                            if px_ga (px_wr r6.2 (px_rd r6.2 x0 5) ((px_w (x2 - 1))).toNat r6.1) 0 (px_rd (px_wr r6.2 (px_rd r6.2 x0 5) ((px_w (x2 - 1))).toNat r6.1) x0 4) x2 = true then
                                                              px_R (mm_Row_move, 4, [(2, x0), (0, r3.1), (0, (px_w (x2 + 1))), (0, x1), (0, r6.1)], [], (px_wr (px_wr r6.2 (px_rd r6.2 x0 5) ((px_w (x2 - 1))).toNat r6.1) (px_rd (px_wr r6.2 (px_rd r6.2 x0 5) ((px_w (x2 - 1))).toNat r6.1) x0 4) (x2).toNat x1))
                                                            else none
                                                          else none
                                                        else none
                                                      else none
                                              else none
                                            else none
                                          else none
                                        else none
                                    else none
                                  else none
                                else none
                              else none
                        else none
                      else none
                    else none
                  else none
              else none
            else none
          else none
        else none
      else
        if px_go w x0 4 = true then
          if px_go w x0 4 = true then
            if px_ga w 0 (px_rd w x0 5) (px_w ((px_rd w x0 0) - 1)) = true then
              if px_go (px_wr w (px_rd w x0 5) ((px_w ((px_rd w x0 0) - 1))).toNat 0) x0 4 = true then
                if px_go (px_wr w (px_rd w x0 5) ((px_w ((px_rd w x0 0) - 1))).toNat 0) x0 4 = true then
                  if px_go (px_wr (px_wr w (px_rd w x0 5) ((px_w ((px_rd w x0 0) - 1))).toNat 0) x0 3 (px_wl ((px_rd (px_wr w (px_rd w x0 5) ((px_w ((px_rd w x0 0) - 1))).toNat 0) x0 3) + x1))) x0 4 = true then
                    if px_go (px_wr (px_wr w (px_rd w x0 5) ((px_w ((px_rd w x0 0) - 1))).toNat 0) x0 3 (px_wl ((px_rd (px_wr w (px_rd w x0 5) ((px_w ((px_rd w x0 0) - 1))).toNat 0) x0 3) + x1))) x0 4 = true then
                      some (0, (px_wr (px_wr (px_wr w (px_rd w x0 5) ((px_w ((px_rd w x0 0) - 1))).toNat 0) x0 3 (px_wl ((px_rd (px_wr w (px_rd w x0 5) ((px_w ((px_rd w x0 0) - 1))).toNat 0) x0 3) + x1))) x0 1 (px_w ((px_rd (px_wr (px_wr w (px_rd w x0 5) ((px_w ((px_rd w x0 0) - 1))).toNat 0) x0 3 (px_wl ((px_rd (px_wr w (px_rd w x0 5) ((px_w ((px_rd w x0 0) - 1))).toNat 0) x0 3) + x1))) x0 1) + 1))))
                    else none
                  else none
                else none
              else none
            else none
          else none
        else none
    else none) := (px_Req mm_Row_move 4 [(2, x0), (0, x1), (0, x2), y3, y4] [] w).trans rfl
set_option maxRecDepth 100000 in
theorem eq_Row_pullAt_0 (x0 x1 x2 : Int) (w : pw) : px_R (mm_Row_pullAt, 0, [(2, x0), (0, x1), (0, x2)], [], w) =
    (if x1 = 0 then
      if px_go w x0 4 = true then
        if px_go w x0 4 = true then
          if px_ga w 0 (px_rd w x0 4) 0 = true then
            (px_R (mm_Row_bounded, 0, [(0, (px_w ((px_rd w (px_rd w x0 4) 0) + x2)))], [], w)).bind fun r2 =>
              if px_ga r2.2 0 (px_rd w x0 4) 0 = true then
                if px_go (px_wr r2.2 (px_rd w x0 4) 0 r2.1) x0 4 = true then
                  if px_ga (px_wr r2.2 (px_rd w x0 4) 0 r2.1) 0 (px_rd (px_wr r2.2 (px_rd w x0 4) 0 r2.1) x0 4) 0 = true then
                    some ((px_rd (px_wr r2.2 (px_rd w x0 4) 0 r2.1) (px_rd (px_wr r2.2 (px_rd w x0 4) 0 r2.1) x0 4) 0), (px_wr r2.2 (px_rd w x0 4) 0 r2.1))
                  else none
                else none
              else none
          else none
        else none
      else none
    else
      if px_go w x0 4 = true then
        if px_go w x0 4 = true then
          if px_go w x0 4 = true then
            if px_go w x0 4 = true then
              if px_ga w 0 (px_rd w x0 5) (px_w ((px_rd w x0 0) - 1)) = true then
                (px_R (mm_Row_bounded, 0, [(0, (px_w ((px_rd w (px_rd w x0 5) ((px_w ((px_rd w x0 0) - 1))).toNat) + x2)))], [], w)).bind fun r1 =>
                  if px_ga r1.2 0 (px_rd w x0 5) (px_w ((px_rd w x0 0) - 1)) = true then
                    if px_go (px_wr r1.2 (px_rd w x0 5) ((px_w ((px_rd w x0 0) - 1))).toNat r1.1) x0 4 = true then
                      if px_go (px_wr r1.2 (px_rd w x0 5) ((px_w ((px_rd w x0 0) - 1))).toNat r1.1) x0 4 = true then
                        if px_ga (px_wr r1.2 (px_rd w x0 5) ((px_w ((px_rd w x0 0) - 1))).toNat r1.1) 0 (px_rd (px_wr r1.2 (px_rd w x0 5) ((px_w ((px_rd w x0 0) - 1))).toNat r1.1) x0 5) (px_w ((px_rd (px_wr r1.2 (px_rd w x0 5) ((px_w ((px_rd w x0 0) - 1))).toNat r1.1) x0 0) - 1)) = true then
                          some ((px_rd (px_wr r1.2 (px_rd w x0 5) ((px_w ((px_rd w x0 0) - 1))).toNat r1.1) (px_rd (px_wr r1.2 (px_rd w x0 5) ((px_w ((px_rd w x0 0) - 1))).toNat r1.1) x0 5) ((px_w ((px_rd (px_wr r1.2 (px_rd w x0 5) ((px_w ((px_rd w x0 0) - 1))).toNat r1.1) x0 0) - 1))).toNat), (px_wr r1.2 (px_rd w x0 5) ((px_w ((px_rd w x0 0) - 1))).toNat r1.1))
                        else none
                      else none
                    else none
                  else none
              else none
            else none
          else none
        else none
      else none) := (px_Req mm_Row_pullAt 0 [(2, x0), (0, x1), (0, x2)] [] w).trans rfl
set_option maxRecDepth 100000 in
theorem eq_Tape_readNext_0 (x0 : Int) (w : pw) : px_R (mm_Tape_readNext, 0, [(2, x0)], [], w) =
    (if px_go w x0 6 = true then
      if px_go w x0 6 = true then
        if (px_rd w x0 4) < (px_rd w x0 1) then
          if px_go w x0 6 = true then
            if px_go w x0 6 = true then
              if (px_ga w 2 (px_rd w x0 0) (px_rd w x0 4) || px_ga w 3 (px_rd w x0 0) (px_rd w x0 4)) = true then
                (px_R (mm_Tape_isBlank, 0, [(0, (px_rd w (px_rd w x0 0) ((px_rd w x0 4)).toNat))], [], w)).bind fun r1 =>
                  if r1.1 = 0 then
                    px_R (mm_Tape_readNext, 39, [(2, x0)], [], r1.2)
                  else
                    if px_go r1.2 x0 6 = true then
                      if px_go r1.2 x0 6 = true then
                        px_R (mm_Tape_readNext, 0, [(2, x0)], [], (px_wr r1.2 x0 4 (px_w ((px_rd r1.2 x0 4) + 1))))
                      else none
                    else none
              else none
            else none
          else none
        else
          px_R (mm_Tape_readNext, 39, [(2, x0)], [], w)
      else none
    else none) := (px_Req mm_Tape_readNext 0 [(2, x0)] [] w).trans rfl
set_option maxRecDepth 100000 in
theorem eq_Tape_readNext_39 (x0 : Int) (w : pw) : px_R (mm_Tape_readNext, 39, [(2, x0)], [], w) =
    (if px_go w x0 6 = true then
      if px_go w x0 6 = true then
        if px_go (px_wr w x0 3 (px_rd w x0 4)) x0 6 = true then
          if px_go (px_wr (px_wr w x0 3 (px_rd w x0 4)) x0 5 0) x0 6 = true then
            if px_go (px_wr (px_wr (px_wr w x0 3 (px_rd w x0 4)) x0 5 0) x0 6 0) x0 6 = true then
              if px_go (px_wr (px_wr (px_wr w x0 3 (px_rd w x0 4)) x0 5 0) x0 6 0) x0 6 = true then
                if (px_rd (px_wr (px_wr (px_wr w x0 3 (px_rd w x0 4)) x0 5 0) x0 6 0) x0 4) < (px_rd (px_wr (px_wr (px_wr w x0 3 (px_rd w x0 4)) x0 5 0) x0 6 0) x0 1) then
                  if px_go (px_wr (px_wr (px_wr w x0 3 (px_rd w x0 4)) x0 5 0) x0 6 0) x0 6 = true then
                    if px_go (px_wr (px_wr (px_wr w x0 3 (px_rd w x0 4)) x0 5 0) x0 6 0) x0 6 = true then
                      if (px_ga (px_wr (px_wr (px_wr w x0 3 (px_rd w x0 4)) x0 5 0) x0 6 0) 2 (px_rd (px_wr (px_wr (px_wr w x0 3 (px_rd w x0 4)) x0 5 0) x0 6 0) x0 0) (px_rd (px_wr (px_wr (px_wr w x0 3 (px_rd w x0 4)) x0 5 0) x0 6 0) x0 4) || px_ga (px_wr (px_wr (px_wr w x0 3 (px_rd w x0 4)) x0 5 0) x0 6 0) 3 (px_rd (px_wr (px_wr (px_wr w x0 3 (px_rd w x0 4)) x0 5 0) x0 6 0) x0 0) (px_rd (px_wr (px_wr (px_wr w x0 3 (px_rd w x0 4)) x0 5 0) x0 6 0) x0 4)) = true then
                        (px_R (mm_Tape_isLetter, 0, [(0, (px_rd (px_wr (px_wr (px_wr w x0 3 (px_rd w x0 4)) x0 5 0) x0 6 0) (px_rd (px_wr (px_wr (px_wr w x0 3 (px_rd w x0 4)) x0 5 0) x0 6 0) x0 0) ((px_rd (px_wr (px_wr (px_wr w x0 3 (px_rd w x0 4)) x0 5 0) x0 6 0) x0 4)).toNat))], [], (px_wr (px_wr (px_wr w x0 3 (px_rd w x0 4)) x0 5 0) x0 6 0))).bind fun r2 =>
                          if r2.1 = 0 then
                            if px_go r2.2 x0 6 = true then
                              if px_go r2.2 x0 6 = true then
                                if (px_ga r2.2 2 (px_rd r2.2 x0 0) (px_rd r2.2 x0 4) || px_ga r2.2 3 (px_rd r2.2 x0 0) (px_rd r2.2 x0 4)) = true then
                                  (px_R (mm_Tape_isDigit, 0, [(0, (px_rd r2.2 (px_rd r2.2 x0 0) ((px_rd r2.2 x0 4)).toNat))], [], r2.2)).bind fun r3 =>
                                    if r3.1 = 0 then
                                      if px_go r3.2 x0 6 = true then
                                        if px_go r3.2 x0 6 = true then
                                          if (px_ga r3.2 2 (px_rd r3.2 x0 0) (px_rd r3.2 x0 4) || px_ga r3.2 3 (px_rd r3.2 x0 0) (px_rd r3.2 x0 4)) = true then
                                            if (px_rd r3.2 (px_rd r3.2 x0 0) ((px_rd r3.2 x0 4)).toNat) = 59 then
                                              if px_go r3.2 x0 6 = true then
                                                if px_go (px_wr r3.2 x0 2 4) x0 6 = true then
                                                  if px_go (px_wr r3.2 x0 2 4) x0 6 = true then
                                                    some (0, (px_wr (px_wr r3.2 x0 2 4) x0 4 (px_w ((px_rd (px_wr r3.2 x0 2 4) x0 4) + 1))))
                                                  else none
                                                else none
                                              else none
                                            else
                                              if px_go r3.2 x0 6 = true then
                                                if px_go (px_wr r3.2 x0 2 1) x0 6 = true then
                                                  if px_go (px_wr r3.2 x0 2 1) x0 6 = true then
                                                    some (0, (px_wr (px_wr r3.2 x0 2 1) x0 4 (px_w ((px_rd (px_wr r3.2 x0 2 1) x0 4) + 1))))
                                                  else none
                                                else none
                                              else none
                                          else none
                                        else none
                                      else none
                                    else
                                      if px_go r3.2 x0 6 = true then
                                        (px_R (mm_Tape_readNumber, 0, [(2, x0)], [], r3.2)).bind fun r4 =>
                                        some (0, r4.2)
                                      else none
                                else none
                              else none
                            else none
                          else
                            if px_go r2.2 x0 6 = true then
                              (px_R (mm_Tape_readWord, 0, [(2, x0)], [], r2.2)).bind fun r5 =>
                              some (0, r5.2)
                            else none
                      else none
                    else none
                  else none
                else
                  if px_go (px_wr (px_wr (px_wr w x0 3 (px_rd w x0 4)) x0 5 0) x0 6 0) x0 6 = true then
                    px_R (mm_Tape_readNext, 73, [(2, x0)], [], (px_wr (px_wr (px_wr (px_wr w x0 3 (px_rd w x0 4)) x0 5 0) x0 6 0) x0 2 0))
                  else none
              else none
            else none
          else none
        else none
      else none
    else none) := (px_Req mm_Tape_readNext 39 [(2, x0)] [] w).trans rfl
set_option maxRecDepth 100000 in
theorem eq_Tape_readNext_73 (x0 : Int) (w : pw) : px_R (mm_Tape_readNext, 73, [(2, x0)], [], w) =
    (some (0, w)) := (px_Req mm_Tape_readNext 73 [(2, x0)] [] w).trans rfl
set_option maxRecDepth 100000 in
theorem eq_Wish_apart_0 (x0 x1 x2 : Int) (w : pw) : px_R (mm_Wish_apart, 0, [(2, x0), (0, x1), (0, x2), (9, 0), (9, 0), (9, 0), (9, 0), (9, 0), (9, 0), (9, 0), (9, 0)], [], w) =
    (if px_go w x0 5 = true then
      (px_R (mm_Str_number, 0, [(2, x0), (0, 3), (0, x1), (0, 0)], [], w)).bind fun r1 =>
      if px_go r1.2 x0 5 = true then
        (px_R (mm_Str_number, 0, [(2, x0), (0, 3), (0, x1), (0, 1)], [], r1.2)).bind fun r2 =>
        if px_go r2.2 x0 5 = true then
          (px_R (mm_Str_number, 0, [(2, x0), (0, 3), (0, x2), (0, 0)], [], r2.2)).bind fun r3 =>
          if px_go r3.2 x0 5 = true then
            (px_R (mm_Str_number, 0, [(2, x0), (0, 3), (0, x2), (0, 1)], [], r3.2)).bind fun r4 =>
            px_R (mm_Wish_apart, 38, [(2, x0), (0, x1), (0, x2), (0, r1.1), (0, r2.1), (0, r3.1), (0, r4.1), (0, 0), (9, 0), (9, 0), (9, 0)], [], r4.2)
          else none
        else none
      else none
    else none) := (px_Req mm_Wish_apart 0 [(2, x0), (0, x1), (0, x2), (9, 0), (9, 0), (9, 0), (9, 0), (9, 0), (9, 0), (9, 0), (9, 0)] [] w).trans rfl
set_option maxRecDepth 100000 in
theorem eq_Wish_apart_38 (x0 x1 x2 x3 x4 x5 x6 x7 : Int) (y8 y9 y10 : pv) (w : pw) : px_R (mm_Wish_apart, 38, [(2, x0), (0, x1), (0, x2), (0, x3), (0, x4), (0, x5), (0, x6), (0, x7), y8, y9, y10], [], w) =
    (if px_go w x0 5 = true then
      if px_ga w 0 (px_rd w x0 1) 4 = true then
        if x7 < (px_rd w (px_rd w x0 1) 4) then
          if px_go w x0 5 = true then
            (px_R (mm_Str_number, 0, [(2, x0), (0, 4), (0, x7), (0, 0)], [], w)).bind fun r5 =>
            if px_go r5.2 x0 5 = true then
              (px_R (mm_Str_number, 0, [(2, x0), (0, 4), (0, x7), (0, 1)], [], r5.2)).bind fun r6 =>
              if (px_w ((px_w (r5.1 - x3)) * (px_w (x6 - x4)))) = (px_w ((px_w (r6.1 - x4)) * (px_w (x5 - x3)))) then
                px_R (mm_Wish_apart, 97, [(2, x0), (0, x1), (0, x2), (0, x3), (0, x4), (0, x5), (0, x6), (0, x7), (0, (px_w (r5.1 - x3))), (0, (px_w (r6.1 - x4))), y10], [(0, 1)], r6.2)
              else
                px_R (mm_Wish_apart, 97, [(2, x0), (0, x1), (0, x2), (0, x3), (0, x4), (0, x5), (0, x6), (0, x7), (0, (px_w (r5.1 - x3))), (0, (px_w (r6.1 - x4))), y10], [(0, 0)], r6.2)
            else none
          else none
        else
          px_R (mm_Wish_apart, 163, [(2, x0), (0, x1), (0, x2), (0, x3), (0, x4), (0, x5), (0, x6), (0, (px_w ((px_w ((px_w (x5 - x3)) * (px_w (x5 - x3)))) + (px_w ((px_w (x6 - x4)) * (px_w (x6 - x4))))))), (0, 0), y9, y10], [], w)
      else none
    else none) := (px_Req mm_Wish_apart 38 [(2, x0), (0, x1), (0, x2), (0, x3), (0, x4), (0, x5), (0, x6), (0, x7), y8, y9, y10] [] w).trans rfl
set_option maxRecDepth 100000 in
theorem eq_Wish_apart_97 (x0 x1 x2 x3 x4 x5 x6 x7 x8 x9 s0 : Int) (y10 : pv) (w : pw) : px_R (mm_Wish_apart, 97, [(2, x0), (0, x1), (0, x2), (0, x3), (0, x4), (0, x5), (0, x6), (0, x7), (0, x8), (0, x9), y10], [(0, s0)], w) =
    (if s0 = 0 then
      px_R (mm_Wish_apart, 38, [(2, x0), (0, x1), (0, x2), (0, x3), (0, x4), (0, x5), (0, x6), (0, (px_w (x7 + 1))), (0, x8), (0, x9), (0, s0)], [], w)
    else
      (px_R (mm_Wish_isBetween, 0, [(0, x8), (0, (px_w (x5 - x3)))], [], w)).bind fun r7 =>
        if r7.1 = 0 then
          px_R (mm_Wish_apart, 38, [(2, x0), (0, x1), (0, x2), (0, x3), (0, x4), (0, x5), (0, x6), (0, (px_w (x7 + 1))), (0, x8), (0, x9), (0, s0)], [], r7.2)
        else
          (px_R (mm_Wish_isBetween, 0, [(0, x9), (0, (px_w (x6 - x4)))], [], r7.2)).bind fun r8 =>
            if r8.1 = 0 then
              px_R (mm_Wish_apart, 38, [(2, x0), (0, x1), (0, x2), (0, x3), (0, x4), (0, x5), (0, x6), (0, (px_w (x7 + 1))), (0, x8), (0, x9), (0, s0)], [], r8.2)
            else
              some ((-1), r8.2)) := (px_Req mm_Wish_apart 97 [(2, x0), (0, x1), (0, x2), (0, x3), (0, x4), (0, x5), (0, x6), (0, x7), (0, x8), (0, x9), y10] [(0, s0)] w).trans rfl
set_option maxRecDepth 100000 in
theorem eq_Wish_apart_163 (x0 x1 x2 x3 x4 x5 x6 x7 x8 : Int) (y9 y10 : pv) (w : pw) : px_R (mm_Wish_apart, 163, [(2, x0), (0, x1), (0, x2), (0, x3), (0, x4), (0, x5), (0, x6), (0, x7), (0, x8), y9, y10], [], w) =
    (if x8 < 141 then
      if (px_w (x8 * x8)) < x7 then
        px_R (mm_Wish_apart, 163, [(2, x0), (0, x1), (0, x2), (0, x3), (0, x4), (0, x5), (0, x6), (0, x7), (0, (px_w (x8 + 1))), y9, y10], [], w)
      else
        some (x8, w)
    else
      some (141, w)) := (px_Req mm_Wish_apart 163 [(2, x0), (0, x1), (0, x2), (0, x3), (0, x4), (0, x5), (0, x6), (0, x7), (0, x8), y9, y10] [] w).trans rfl
set_option maxRecDepth 100000 in
theorem eq_Tin_band_0 (x0 x1 x2 x3 : Int) (w : pw) : px_R (mm_Tin_band, 0, [(2, x0), (0, x1), (0, x2), (0, x3), (9, 0)], [], w) =
    ((px_R (mm_Tin_within, 0, [(0, x1), (0, 0), (0, 3)], [], w)).bind fun r1 =>
      if r1.1 = 0 then
        some ((-2), r1.2)
      else
        (px_R (mm_Tin_isBand, 0, [(0, x3)], [], r1.2)).bind fun r2 =>
          if r2.1 = 0 then
            some ((-2), r2.2)
          else
            if x1 = 3 then
              px_R (mm_Tin_band, 29, [(2, x0), (0, x1), (0, x2), (0, x3), (9, 0)], [(0, 5)], r2.2)
            else
              px_R (mm_Tin_band, 29, [(2, x0), (0, x1), (0, x2), (0, x3), (9, 0)], [(0, x1)], r2.2)) := (px_Req mm_Tin_band 0 [(2, x0), (0, x1), (0, x2), (0, x3), (9, 0)] [] w).trans rfl
set_option maxRecDepth 100000 in
theorem eq_Tin_band_29 (x0 x1 x2 x3 s0 : Int) (w : pw) : px_R (mm_Tin_band, 29, [(2, x0), (0, x1), (0, x2), (0, x3), (9, 0)], [(0, s0)], w) =
    (if px_go w x0 8 = true then
      (px_R (mm_Tin_isOne, 0, [(2, x0), (0, s0), (0, x2)], [], w)).bind fun r3 =>
      if r3.1 = 0 then
        some ((-2), r3.2)
      else
        if px_go r3.2 x0 8 = true then
          if px_go r3.2 (px_rd r3.2 x0 8) 5 = true then
            (px_R (mm_Str_ofBand, 0, [(2, (px_rd r3.2 x0 8)), (0, s0), (0, x2), (0, x3), (9, 0)], [], r3.2)).bind fun r4 =>
            some (r4.1, r4.2)
          else none
        else none
    else none) := (px_Req mm_Tin_band 29 [(2, x0), (0, x1), (0, x2), (0, x3), (9, 0)] [(0, s0)] w).trans rfl
set_option maxRecDepth 100000 in
theorem eq_Tin_bend_0 (x0 x1 : Int) (w : pw) : px_R (mm_Tin_bend, 0, [(2, x0), (0, x1)], [], w) =
    (if x1 = (-1) then
      px_R (mm_Tin_bend, 17, [(2, x0), (0, x1)], [], w)
    else
      if px_go w x0 8 = true then
        (px_R (mm_Tin_isOne, 0, [(2, x0), (0, 5), (0, x1)], [], w)).bind fun r1 =>
        if r1.1 = 0 then
          some ((-2), r1.2)
        else
          px_R (mm_Tin_bend, 17, [(2, x0), (0, x1)], [], r1.2)
      else none) := (px_Req mm_Tin_bend 0 [(2, x0), (0, x1)] [] w).trans rfl
set_option maxRecDepth 100000 in
theorem eq_Tin_bend_17 (x0 x1 : Int) (w : pw) : px_R (mm_Tin_bend, 17, [(2, x0), (0, x1)], [], w) =
    (if px_go w x0 8 = true then
      if px_go w (px_rd w x0 1) 2 = true then
        if (px_rd w (px_rd w x0 1) 4) < 4 then
          if px_go w x0 8 = true then
            if px_go w (px_rd w x0 1) 2 = true then
              if px_go w x0 8 = true then
                if px_go w (px_rd w x0 1) 2 = true then
                  if px_ga w 0 (px_rd w (px_rd w x0 1) 5) (px_rd w (px_rd w x0 1) 4) = true then
                    if px_go (px_wr w (px_rd w (px_rd w x0 1) 5) ((px_rd w (px_rd w x0 1) 4)).toNat x1) x0 8 = true then
                      if px_go (px_wr w (px_rd w (px_rd w x0 1) 5) ((px_rd w (px_rd w x0 1) 4)).toNat x1) (px_rd (px_wr w (px_rd w (px_rd w x0 1) 5) ((px_rd w (px_rd w x0 1) 4)).toNat x1) x0 1) 2 = true then
                        if px_go (px_wr w (px_rd w (px_rd w x0 1) 5) ((px_rd w (px_rd w x0 1) 4)).toNat x1) (px_rd (px_wr w (px_rd w (px_rd w x0 1) 5) ((px_rd w (px_rd w x0 1) 4)).toNat x1) x0 1) 2 = true then
                          if px_go (px_wr (px_wr w (px_rd w (px_rd w x0 1) 5) ((px_rd w (px_rd w x0 1) 4)).toNat x1) (px_rd (px_wr w (px_rd w (px_rd w x0 1) 5) ((px_rd w (px_rd w x0 1) 4)).toNat x1) x0 1) 4 (px_w ((px_rd (px_wr w (px_rd w (px_rd w x0 1) 5) ((px_rd w (px_rd w x0 1) 4)).toNat x1) (px_rd (px_wr w (px_rd w (px_rd w x0 1) 5) ((px_rd w (px_rd w x0 1) 4)).toNat x1) x0 1) 4) + 1))) x0 8 = true then
                            if px_go (px_wr (px_wr w (px_rd w (px_rd w x0 1) 5) ((px_rd w (px_rd w x0 1) 4)).toNat x1) (px_rd (px_wr w (px_rd w (px_rd w x0 1) 5) ((px_rd w (px_rd w x0 1) 4)).toNat x1) x0 1) 4 (px_w ((px_rd (px_wr w (px_rd w (px_rd w x0 1) 5) ((px_rd w (px_rd w x0 1) 4)).toNat x1) (px_rd (px_wr w (px_rd w (px_rd w x0 1) 5) ((px_rd w (px_rd w x0 1) 4)).toNat x1) x0 1) 4) + 1))) (px_rd (px_wr (px_wr w (px_rd w (px_rd w x0 1) 5) ((px_rd w (px_rd w x0 1) 4)).toNat x1) (px_rd (px_wr w (px_rd w (px_rd w x0 1) 5) ((px_rd w (px_rd w x0 1) 4)).toNat x1) x0 1) 4 (px_w ((px_rd (px_wr w (px_rd w (px_rd w x0 1) 5) ((px_rd w (px_rd w x0 1) 4)).toNat x1) (px_rd (px_wr w (px_rd w (px_rd w x0 1) 5) ((px_rd w (px_rd w x0 1) 4)).toNat x1) x0 1) 4) + 1))) x0 1) 2 = true then
                              some ((px_rd (px_wr (px_wr w (px_rd w (px_rd w x0 1) 5) ((px_rd w (px_rd w x0 1) 4)).toNat x1) (px_rd (px_wr w (px_rd w (px_rd w x0 1) 5) ((px_rd w (px_rd w x0 1) 4)).toNat x1) x0 1) 4 (px_w ((px_rd (px_wr w (px_rd w (px_rd w x0 1) 5) ((px_rd w (px_rd w x0 1) 4)).toNat x1) (px_rd (px_wr w (px_rd w (px_rd w x0 1) 5) ((px_rd w (px_rd w x0 1) 4)).toNat x1) x0 1) 4) + 1))) (px_rd (px_wr (px_wr w (px_rd w (px_rd w x0 1) 5) ((px_rd w (px_rd w x0 1) 4)).toNat x1) (px_rd (px_wr w (px_rd w (px_rd w x0 1) 5) ((px_rd w (px_rd w x0 1) 4)).toNat x1) x0 1) 4 (px_w ((px_rd (px_wr w (px_rd w (px_rd w x0 1) 5) ((px_rd w (px_rd w x0 1) 4)).toNat x1) (px_rd (px_wr w (px_rd w (px_rd w x0 1) 5) ((px_rd w (px_rd w x0 1) 4)).toNat x1) x0 1) 4) + 1))) x0 1) 4), (px_wr (px_wr w (px_rd w (px_rd w x0 1) 5) ((px_rd w (px_rd w x0 1) 4)).toNat x1) (px_rd (px_wr w (px_rd w (px_rd w x0 1) 5) ((px_rd w (px_rd w x0 1) 4)).toNat x1) x0 1) 4 (px_w ((px_rd (px_wr w (px_rd w (px_rd w x0 1) 5) ((px_rd w (px_rd w x0 1) 4)).toNat x1) (px_rd (px_wr w (px_rd w (px_rd w x0 1) 5) ((px_rd w (px_rd w x0 1) 4)).toNat x1) x0 1) 4) + 1))))
                            else none
                          else none
                        else none
                      else none
                    else none
                  else none
                else none
              else none
            else none
          else none
        else
          some ((-3), w)
      else none
    else none) := (px_Req mm_Tin_bend 17 [(2, x0), (0, x1)] [] w).trans rfl
set_option maxRecDepth 100000 in
theorem eq_Tin_isPair_0 (x0 x1 x2 : Int) (w : pw) : px_R (mm_Tin_isPair, 0, [(2, x0), (0, x1), (0, x2)], [], w) =
    (if x1 = x2 then
      some (0, w)
    else
      if px_go w x0 8 = true then
        (px_R (mm_Tin_isOne, 0, [(2, x0), (0, 3), (0, x1)], [], w)).bind fun r1 =>
        if r1.1 = 0 then
          some (0, r1.2)
        else
          if px_go r1.2 x0 8 = true then
            (px_R (mm_Tin_isOne, 0, [(2, x0), (0, 3), (0, x2)], [], r1.2)).bind fun r2 =>
            if r2.1 = 0 then
              some (0, r2.2)
            else
              some (1, r2.2)
          else none
      else none) := (px_Req mm_Tin_isPair 0 [(2, x0), (0, x1), (0, x2)] [] w).trans rfl
set_option maxRecDepth 100000 in
theorem eq_Tin_line_0 (x0 x1 x2 x3 x4 : Int) (w : pw) : px_R (mm_Tin_line, 0, [(2, x0), (0, x1), (0, x2), (0, x3), (0, x4)], [], w) =
    (if px_go w x0 8 = true then
      (px_R (mm_Tin_isOne, 0, [(2, x0), (0, 0), (0, x1)], [], w)).bind fun r1 =>
      if r1.1 = 0 then
        some ((-2), r1.2)
      else
        if px_go r1.2 x0 8 = true then
          (px_R (mm_Tin_isOne, 0, [(2, x0), (0, 1), (0, x2)], [], r1.2)).bind fun r2 =>
          if r2.1 = 0 then
            some ((-2), r2.2)
          else
            (px_R (mm_Tin_within, 0, [(0, x3), (0, 1), (0, 400)], [], r2.2)).bind fun r3 =>
              if r3.1 = 0 then
                some ((-2), r3.2)
              else
                (px_R (mm_Tin_within, 0, [(0, x4), (0, 0), (0, 99)], [], r3.2)).bind fun r4 =>
                  if r4.1 = 0 then
                    some ((-2), r4.2)
                  else
                    if px_go r4.2 x0 8 = true then
                      if px_go r4.2 (px_rd r4.2 x0 1) 2 = true then
                        if px_go (px_wr r4.2 (px_rd r4.2 x0 1) 0 x1) x0 8 = true then
                          if px_go (px_wr r4.2 (px_rd r4.2 x0 1) 0 x1) (px_rd (px_wr r4.2 (px_rd r4.2 x0 1) 0 x1) x0 1) 2 = true then
                            if px_go (px_wr (px_wr r4.2 (px_rd r4.2 x0 1) 0 x1) (px_rd (px_wr r4.2 (px_rd r4.2 x0 1) 0 x1) x0 1) 1 x2) x0 8 = true then
                              if px_go (px_wr (px_wr r4.2 (px_rd r4.2 x0 1) 0 x1) (px_rd (px_wr r4.2 (px_rd r4.2 x0 1) 0 x1) x0 1) 1 x2) (px_rd (px_wr (px_wr r4.2 (px_rd r4.2 x0 1) 0 x1) (px_rd (px_wr r4.2 (px_rd r4.2 x0 1) 0 x1) x0 1) 1 x2) x0 1) 2 = true then
                                if px_go (px_wr (px_wr (px_wr r4.2 (px_rd r4.2 x0 1) 0 x1) (px_rd (px_wr r4.2 (px_rd r4.2 x0 1) 0 x1) x0 1) 1 x2) (px_rd (px_wr (px_wr r4.2 (px_rd r4.2 x0 1) 0 x1) (px_rd (px_wr r4.2 (px_rd r4.2 x0 1) 0 x1) x0 1) 1 x2) x0 1) 2 x3) x0 8 = true then
                                  if px_go (px_wr (px_wr (px_wr r4.2 (px_rd r4.2 x0 1) 0 x1) (px_rd (px_wr r4.2 (px_rd r4.2 x0 1) 0 x1) x0 1) 1 x2) (px_rd (px_wr (px_wr r4.2 (px_rd r4.2 x0 1) 0 x1) (px_rd (px_wr r4.2 (px_rd r4.2 x0 1) 0 x1) x0 1) 1 x2) x0 1) 2 x3) (px_rd (px_wr (px_wr (px_wr r4.2 (px_rd r4.2 x0 1) 0 x1) (px_rd (px_wr r4.2 (px_rd r4.2 x0 1) 0 x1) x0 1) 1 x2) (px_rd (px_wr (px_wr r4.2 (px_rd r4.2 x0 1) 0 x1) (px_rd (px_wr r4.2 (px_rd r4.2 x0 1) 0 x1) x0 1) 1 x2) x0 1) 2 x3) x0 1) 2 = true then
                                    px_R (mm_Tin_line, 79, [(2, x0), (0, x1), (0, x2), (0, x3), (0, x4)], [], (px_wr (px_wr (px_wr (px_wr r4.2 (px_rd r4.2 x0 1) 0 x1) (px_rd (px_wr r4.2 (px_rd r4.2 x0 1) 0 x1) x0 1) 1 x2) (px_rd (px_wr (px_wr r4.2 (px_rd r4.2 x0 1) 0 x1) (px_rd (px_wr r4.2 (px_rd r4.2 x0 1) 0 x1) x0 1) 1 x2) x0 1) 2 x3) (px_rd (px_wr (px_wr (px_wr r4.2 (px_rd r4.2 x0 1) 0 x1) (px_rd (px_wr r4.2 (px_rd r4.2 x0 1) 0 x1) x0 1) 1 x2) (px_rd (px_wr (px_wr r4.2 (px_rd r4.2 x0 1) 0 x1) (px_rd (px_wr r4.2 (px_rd r4.2 x0 1) 0 x1) x0 1) 1 x2) x0 1) 2 x3) x0 1) 3 x4))
                                  else none
                                else none
                              else none
                            else none
                          else none
                        else none
                      else none
                    else none
        else none
    else none) := (px_Req mm_Tin_line 0 [(2, x0), (0, x1), (0, x2), (0, x3), (0, x4)] [] w).trans rfl
set_option maxRecDepth 100000 in
theorem eq_Tin_line_79 (x0 x1 x2 x3 x4 : Int) (w : pw) : px_R (mm_Tin_line, 79, [(2, x0), (0, x1), (0, x2), (0, x3), (0, x4)], [], w) =
    (some (1, w)) := (px_Req mm_Tin_line 79 [(2, x0), (0, x1), (0, x2), (0, x3), (0, x4)] [] w).trans rfl
set_option maxRecDepth 100000 in
theorem eq_Tin_right_0 (x0 x1 x2 x3 : Int) (w : pw) : px_R (mm_Tin_right, 0, [(2, x0), (0, x1), (0, x2), (0, x3)], [], w) =
    (if px_go w x0 8 = true then
      (px_R (mm_Tin_isStep, 0, [(2, x0), (0, x1)], [], w)).bind fun r1 =>
      if r1.1 = 0 then
        some ((-2), r1.2)
      else
        if px_go r1.2 x0 8 = true then
          if px_go r1.2 (px_rd r1.2 x0 4) 0 = true then
            (px_R (mm_Tin_within, 0, [(0, x2), (0, 0), (0, (px_w ((px_rd r1.2 (px_rd r1.2 x0 4) 1) - 1)))], [], r1.2)).bind fun r2 =>
              if r2.1 = 0 then
                some ((-2), r2.2)
              else
                if px_go r2.2 x0 8 = true then
                  (px_R (mm_Tin_isOne, 0, [(2, x0), (0, 2), (0, x3)], [], r2.2)).bind fun r3 =>
                  if r3.1 = 0 then
                    some ((-2), r3.2)
                  else
                    if px_go r3.2 x0 8 = true then
                      if px_go r3.2 (px_rd r3.2 x0 4) 0 = true then
                        if (px_rd r3.2 (px_rd r3.2 x0 4) 2) < 20 then
                          if px_go r3.2 x0 8 = true then
                            if px_go r3.2 (px_rd r3.2 x0 4) 0 = true then
                              (px_R (mm_Book_mend, 0, [(2, (px_rd r3.2 x0 4)), (0, x1), (0, x2), (0, x3), (9, 0), (9, 0)], [], r3.2)).bind fun r4 =>
                              some (r4.1, r4.2)
                            else none
                          else none
                        else
                          some ((-3), r3.2)
                      else none
                    else none
                else none
          else none
        else none
    else none) := (px_Req mm_Tin_right 0 [(2, x0), (0, x1), (0, x2), (0, x3)] [] w).trans rfl
set_option maxRecDepth 100000 in
theorem eq_Tin_told_0 (x0 x1 : Int) (w : pw) : px_R (mm_Tin_told, 0, [(2, x0), (0, x1)], [], w) =
    ((px_R (mm_Tin_within, 0, [(0, x1), (0, 0), (0, 5)], [], w)).bind fun r1 =>
      if r1.1 = 0 then
        (px_R (mm_Tin_within, 0, [(0, x1), (0, 6), (0, 8)], [], r1.2)).bind fun r2 =>
          if r2.1 = 0 then
            (px_R (mm_Tin_within, 0, [(0, x1), (0, 10), (0, 19)], [], r2.2)).bind fun r3 =>
              if r3.1 = 0 then
                px_R (mm_Tin_told, 78, [(2, x0), (0, x1)], [], r3.2)
              else
                if px_go r3.2 x0 8 = true then
                  (px_R (mm_Tin_isOne, 0, [(2, x0), (0, 0), (0, (px_w (x1 - 10)))], [], r3.2)).bind fun r4 =>
                  if r4.1 = 0 then
                    px_R (mm_Tin_told, 78, [(2, x0), (0, x1)], [], r4.2)
                  else
                    if px_go r4.2 x0 8 = true then
                      if px_go r4.2 (px_rd r4.2 x0 8) 5 = true then
                        (px_R (mm_Str_number, 0, [(2, (px_rd r4.2 x0 8)), (0, 0), (0, (px_w (x1 - 10))), (0, 0)], [], r4.2)).bind fun r5 =>
                        some (r5.1, r5.2)
                      else none
                    else none
                else none
          else
            if px_go r2.2 x0 8 = true then
              if px_go r2.2 (px_rd r2.2 x0 8) 5 = true then
                (px_R (mm_Str_number, 0, [(2, (px_rd r2.2 x0 8)), (0, x1), (0, 0), (0, 0)], [], r2.2)).bind fun r6 =>
                some (r6.1, r6.2)
              else none
            else none
      else
        if px_go r1.2 x0 8 = true then
          if px_go r1.2 (px_rd r1.2 x0 8) 5 = true then
            if px_ga r1.2 0 (px_rd r1.2 (px_rd r1.2 x0 8) 1) x1 = true then
              some ((px_rd r1.2 (px_rd r1.2 (px_rd r1.2 x0 8) 1) (x1).toNat), r1.2)
            else none
          else none
        else none) := (px_Req mm_Tin_told 0 [(2, x0), (0, x1)] [] w).trans rfl
set_option maxRecDepth 100000 in
theorem eq_Tin_told_78 (x0 x1 : Int) (w : pw) : px_R (mm_Tin_told, 78, [(2, x0), (0, x1)], [], w) =
    ((px_R (mm_Tin_within, 0, [(0, x1), (0, 20), (0, 29)], [], w)).bind fun r7 =>
      if r7.1 = 0 then
        some ((-1), r7.2)
      else
        if px_go r7.2 x0 8 = true then
          (px_R (mm_Tin_isOne, 0, [(2, x0), (0, 5), (0, (px_w (x1 - 20)))], [], r7.2)).bind fun r8 =>
          if r8.1 = 0 then
            some ((-1), r8.2)
          else
            if px_go r8.2 x0 8 = true then
              if px_go r8.2 (px_rd r8.2 x0 8) 5 = true then
                (px_R (mm_Str_number, 0, [(2, (px_rd r8.2 x0 8)), (0, 5), (0, (px_w (x1 - 20))), (0, 0)], [], r8.2)).bind fun r9 =>
                some (r9.1, r9.2)
              else none
            else none
        else none) := (px_Req mm_Tin_told 78 [(2, x0), (0, x1)] [] w).trans rfl
set_option maxRecDepth 100000 in
theorem eq_Tin_write_0 (x0 x1 x2 x3 : Int) (w : pw) : px_R (mm_Tin_write, 0, [(2, x0), (0, x1), (0, x2), (0, x3)], [], w) =
    (if px_go w x0 8 = true then
      (px_R (mm_Tin_isStep, 0, [(2, x0), (0, x1)], [], w)).bind fun r1 =>
      if r1.1 = 0 then
        some ((-2), r1.2)
      else
        if px_go r1.2 x0 8 = true then
          (px_R (mm_Tin_isOne, 0, [(2, x0), (0, 2), (0, x2)], [], r1.2)).bind fun r2 =>
          if r2.1 = 0 then
            some ((-2), r2.2)
          else
            if px_go r2.2 x0 8 = true then
              (px_R (mm_Tin_isOne, 0, [(2, x0), (0, 2), (0, x3)], [], r2.2)).bind fun r3 =>
              if r3.1 = 0 then
                some ((-2), r3.2)
              else
                if px_go r3.2 x0 8 = true then
                  if px_go r3.2 (px_rd r3.2 x0 4) 0 = true then
                    if (px_rd r3.2 (px_rd r3.2 x0 4) 1) < 20 then
                      if px_go r3.2 x0 8 = true then
                        if px_go r3.2 (px_rd r3.2 x0 4) 0 = true then
                          (px_R (mm_Book_note, 0, [(2, (px_rd r3.2 x0 4)), (0, x1), (0, x2), (0, x3)], [], r3.2)).bind fun r4 =>
                          some (r4.1, r4.2)
                        else none
                      else none
                    else
                      some ((-3), r3.2)
                  else none
                else none
            else none
        else none
    else none) := (px_Req mm_Tin_write 0 [(2, x0), (0, x1), (0, x2), (0, x3)] [] w).trans rfl
set_option maxRecDepth 100000 in
theorem eq_Mod_init_0 (x0 : Int) (w : pw) : px_R (mm_Mod_init, 0, [(2, x0)], [], w) =
    (if (!decide (x0 = 0)) = true then
      if px_go (px_al w (2, 900)) x0 9 = true then
        if px_go (px_wr (px_al w (2, 900)) x0 0 (w.1.length : Int)) x0 9 = true then
          px_R (mm_Mod_init, 23, [(2, x0)], [(2, ((px_wr (px_wr (px_al w (2, 900)) x0 0 (w.1.length : Int)) x0 9 (-1)).1.length : Int)), (2, x0)], (px_al (px_wr (px_wr (px_al w (2, 900)) x0 0 (w.1.length : Int)) x0 9 (-1)) (0, 18)))
        else none
      else none
    else none) := (px_Req mm_Mod_init 0 [(2, x0)] [] w).trans rfl
set_option maxRecDepth 100000 in
theorem eq_Mod_init_23 (x0 s0 s1 : Int) (w : pw) : px_R (mm_Mod_init, 23, [(2, x0)], [(2, s1), (2, s0)], w) =
    (if px_go w s0 9 = true then
      if px_go (px_al (px_wr w s0 12 s1) (1, 36)) x0 9 = true then
        px_R (mm_Mod_init, 39, [(2, x0)], [(2, ((px_wr (px_al (px_wr w s0 12 s1) (1, 36)) x0 13 ((px_wr w s0 12 s1).1.length : Int)).1.length : Int)), (2, x0)], (px_al (px_wr (px_al (px_wr w s0 12 s1) (1, 36)) x0 13 ((px_wr w s0 12 s1).1.length : Int)) (0, 40)))
      else none
    else none) := (px_Req mm_Mod_init 23 [(2, x0)] [(2, s1), (2, s0)] w).trans rfl
set_option maxRecDepth 100000 in
theorem eq_Mod_init_39 (x0 s0 s1 : Int) (w : pw) : px_R (mm_Mod_init, 39, [(2, x0)], [(2, s1), (2, s0)], w) =
    (if px_go w s0 9 = true then
      if px_go (px_al (px_wr w s0 14 s1) (0, 32)) x0 9 = true then
        px_R (mm_Mod_init, 55, [(2, x0)], [(2, ((px_wr (px_al (px_wr w s0 14 s1) (0, 32)) x0 15 ((px_wr w s0 14 s1).1.length : Int)).1.length : Int)), (2, x0)], (px_al (px_wr (px_al (px_wr w s0 14 s1) (0, 32)) x0 15 ((px_wr w s0 14 s1).1.length : Int)) (0, 48)))
      else none
    else none) := (px_Req mm_Mod_init 39 [(2, x0)] [(2, s1), (2, s0)] w).trans rfl
set_option maxRecDepth 100000 in
theorem eq_Mod_init_55 (x0 s0 s1 : Int) (w : pw) : px_R (mm_Mod_init, 55, [(2, x0)], [(2, s1), (2, s0)], w) =
    (if px_go w s0 9 = true then
      if px_go (px_al (px_wr w s0 16 s1) (0, 10)) x0 9 = true then
        px_R (mm_Mod_init, 71, [(2, x0)], [(2, ((px_wr (px_al (px_wr w s0 16 s1) (0, 10)) x0 17 ((px_wr w s0 16 s1).1.length : Int)).1.length : Int)), (2, x0)], (px_al (px_wr (px_al (px_wr w s0 16 s1) (0, 10)) x0 17 ((px_wr w s0 16 s1).1.length : Int)) (0, 10)))
      else none
    else none) := (px_Req mm_Mod_init 55 [(2, x0)] [(2, s1), (2, s0)] w).trans rfl
set_option maxRecDepth 100000 in
theorem eq_Mod_init_71 (x0 s0 s1 : Int) (w : pw) : px_R (mm_Mod_init, 71, [(2, x0)], [(2, s1), (2, s0)], w) =
    (if px_go w s0 9 = true then
      if px_go (px_al (px_wr w s0 18 s1) (0, 8)) x0 9 = true then
        px_R (mm_Mod_init, 87, [(2, x0)], [(2, ((px_wr (px_al (px_wr w s0 18 s1) (0, 8)) x0 19 ((px_wr w s0 18 s1).1.length : Int)).1.length : Int)), (2, x0)], (px_al (px_wr (px_al (px_wr w s0 18 s1) (0, 8)) x0 19 ((px_wr w s0 18 s1).1.length : Int)) (0, 8)))
      else none
    else none) := (px_Req mm_Mod_init 71 [(2, x0)] [(2, s1), (2, s0)] w).trans rfl
set_option maxRecDepth 100000 in
theorem eq_Mod_init_87 (x0 s0 s1 : Int) (w : pw) : px_R (mm_Mod_init, 87, [(2, x0)], [(2, s1), (2, s0)], w) =
    (if px_go w s0 9 = true then
      if px_go (px_al (px_wr w s0 20 s1) (0, 40)) x0 9 = true then
        px_R (mm_Mod_init, 102, [(2, x0)], [(2, ((px_wr (px_al (px_wr w s0 20 s1) (0, 40)) x0 21 ((px_wr w s0 20 s1).1.length : Int)).1.length : Int)), (2, x0)], (px_al (px_wr (px_al (px_wr w s0 20 s1) (0, 40)) x0 21 ((px_wr w s0 20 s1).1.length : Int)) (0, 4)))
      else none
    else none) := (px_Req mm_Mod_init 87 [(2, x0)] [(2, s1), (2, s0)] w).trans rfl
set_option maxRecDepth 100000 in
theorem eq_Mod_init_102 (x0 s0 s1 : Int) (w : pw) : px_R (mm_Mod_init, 102, [(2, x0)], [(2, s1), (2, s0)], w) =
    (if px_go w s0 9 = true then
      if px_go (px_al (px_wr w s0 30 s1) (0, 4)) x0 9 = true then
        px_R (mm_Mod_init, 117, [(2, x0)], [(2, ((px_wr (px_al (px_wr w s0 30 s1) (0, 4)) x0 31 ((px_wr w s0 30 s1).1.length : Int)).1.length : Int)), (2, x0)], (px_al (px_wr (px_al (px_wr w s0 30 s1) (0, 4)) x0 31 ((px_wr w s0 30 s1).1.length : Int)) (0, 24)))
      else none
    else none) := (px_Req mm_Mod_init 102 [(2, x0)] [(2, s1), (2, s0)] w).trans rfl
set_option maxRecDepth 100000 in
theorem eq_Mod_init_117 (x0 s0 s1 : Int) (w : pw) : px_R (mm_Mod_init, 117, [(2, x0)], [(2, s1), (2, s0)], w) =
    (if px_go w s0 9 = true then
      if px_go (px_al (px_wr w s0 32 s1) (0, 4)) x0 9 = true then
        px_R (mm_Mod_init, 132, [(2, x0)], [(2, ((px_wr (px_al (px_wr w s0 32 s1) (0, 4)) x0 33 ((px_wr w s0 32 s1).1.length : Int)).1.length : Int)), (2, x0)], (px_al (px_wr (px_al (px_wr w s0 32 s1) (0, 4)) x0 33 ((px_wr w s0 32 s1).1.length : Int)) (0, 6)))
      else none
    else none) := (px_Req mm_Mod_init 117 [(2, x0)] [(2, s1), (2, s0)] w).trans rfl
set_option maxRecDepth 100000 in
theorem eq_Mod_init_132 (x0 s0 s1 : Int) (w : pw) : px_R (mm_Mod_init, 132, [(2, x0)], [(2, s1), (2, s0)], w) =
    (if px_go w s0 9 = true then
      if px_go (px_al (px_wr w s0 34 s1) (0, 648)) x0 9 = true then
        px_R (mm_Mod_init, 149, [(2, x0)], [(2, ((px_wr (px_al (px_wr w s0 34 s1) (0, 648)) x0 35 ((px_wr w s0 34 s1).1.length : Int)).1.length : Int)), (2, x0)], (px_al (px_wr (px_al (px_wr w s0 34 s1) (0, 648)) x0 35 ((px_wr w s0 34 s1).1.length : Int)) (1, 8)))
      else none
    else none) := (px_Req mm_Mod_init 132 [(2, x0)] [(2, s1), (2, s0)] w).trans rfl
set_option maxRecDepth 100000 in
theorem eq_Mod_init_149 (x0 s0 s1 : Int) (w : pw) : px_R (mm_Mod_init, 149, [(2, x0)], [(2, s1), (2, s0)], w) =
    (if px_go w s0 9 = true then
      if px_go (px_al (px_wr w s0 36 s1) (3, 3)) x0 9 = true then
        px_R (mm_Mod_init, 164, [(2, x0)], [(2, ((px_wr (px_al (px_wr w s0 36 s1) (3, 3)) x0 37 ((px_wr w s0 36 s1).1.length : Int)).1.length : Int)), (2, x0)], (px_al (px_wr (px_al (px_wr w s0 36 s1) (3, 3)) x0 37 ((px_wr w s0 36 s1).1.length : Int)) (0, 40)))
      else none
    else none) := (px_Req mm_Mod_init 149 [(2, x0)] [(2, s1), (2, s0)] w).trans rfl
set_option maxRecDepth 100000 in
theorem eq_Mod_init_164 (x0 s0 s1 : Int) (w : pw) : px_R (mm_Mod_init, 164, [(2, x0)], [(2, s1), (2, s0)], w) =
    (if px_go w s0 9 = true then
      if px_go (px_al (px_wr w s0 38 s1) (0, 40)) x0 9 = true then
        px_R (mm_Mod_init, 180, [(2, x0)], [(2, ((px_wr (px_al (px_wr w s0 38 s1) (0, 40)) x0 39 ((px_wr w s0 38 s1).1.length : Int)).1.length : Int)), (2, x0)], (px_al (px_wr (px_al (px_wr w s0 38 s1) (0, 40)) x0 39 ((px_wr w s0 38 s1).1.length : Int)) (0, 10)))
      else none
    else none) := (px_Req mm_Mod_init 164 [(2, x0)] [(2, s1), (2, s0)] w).trans rfl
set_option maxRecDepth 100000 in
theorem eq_Mod_init_180 (x0 s0 s1 : Int) (w : pw) : px_R (mm_Mod_init, 180, [(2, x0)], [(2, s1), (2, s0)], w) =
    (if px_go w s0 9 = true then
      if px_go (px_al (px_wr w s0 41 s1) (0, 10)) x0 9 = true then
        px_R (mm_Mod_init, 196, [(2, x0)], [(2, ((px_wr (px_al (px_wr w s0 41 s1) (0, 10)) x0 42 ((px_wr w s0 41 s1).1.length : Int)).1.length : Int)), (2, x0)], (px_al (px_wr (px_al (px_wr w s0 41 s1) (0, 10)) x0 42 ((px_wr w s0 41 s1).1.length : Int)) (0, 10)))
      else none
    else none) := (px_Req mm_Mod_init 180 [(2, x0)] [(2, s1), (2, s0)] w).trans rfl
set_option maxRecDepth 100000 in
theorem eq_Mod_init_196 (x0 s0 s1 : Int) (w : pw) : px_R (mm_Mod_init, 196, [(2, x0)], [(2, s1), (2, s0)], w) =
    (if px_go w s0 9 = true then
      if px_go (px_al (px_wr w s0 44 s1) (0, 10)) x0 9 = true then
        px_R (mm_Mod_init, 212, [(2, x0)], [(2, ((px_wr (px_al (px_wr w s0 44 s1) (0, 10)) x0 45 ((px_wr w s0 44 s1).1.length : Int)).1.length : Int)), (2, x0)], (px_al (px_wr (px_al (px_wr w s0 44 s1) (0, 10)) x0 45 ((px_wr w s0 44 s1).1.length : Int)) (0, 10)))
      else none
    else none) := (px_Req mm_Mod_init 196 [(2, x0)] [(2, s1), (2, s0)] w).trans rfl
set_option maxRecDepth 100000 in
theorem eq_Mod_init_212 (x0 s0 s1 : Int) (w : pw) : px_R (mm_Mod_init, 212, [(2, x0)], [(2, s1), (2, s0)], w) =
    (if px_go w s0 9 = true then
      if px_go (px_al (px_wr w s0 46 s1) (0, 16)) x0 9 = true then
        px_R (mm_Mod_init, 228, [(2, x0)], [(2, ((px_wr (px_al (px_wr w s0 46 s1) (0, 16)) x0 50 ((px_wr w s0 46 s1).1.length : Int)).1.length : Int)), (2, x0)], (px_al (px_wr (px_al (px_wr w s0 46 s1) (0, 16)) x0 50 ((px_wr w s0 46 s1).1.length : Int)) (0, 20)))
      else none
    else none) := (px_Req mm_Mod_init 212 [(2, x0)] [(2, s1), (2, s0)] w).trans rfl
set_option maxRecDepth 100000 in
theorem eq_Mod_init_228 (x0 s0 s1 : Int) (w : pw) : px_R (mm_Mod_init, 228, [(2, x0)], [(2, s1), (2, s0)], w) =
    (if px_go w s0 9 = true then
      if px_go (px_al (px_wr w s0 54 s1) (0, 20)) x0 9 = true then
        px_R (mm_Mod_init, 244, [(2, x0)], [(2, ((px_wr (px_al (px_wr w s0 54 s1) (0, 20)) x0 55 ((px_wr w s0 54 s1).1.length : Int)).1.length : Int)), (2, x0)], (px_al (px_wr (px_al (px_wr w s0 54 s1) (0, 20)) x0 55 ((px_wr w s0 54 s1).1.length : Int)) (0, 20)))
      else none
    else none) := (px_Req mm_Mod_init 228 [(2, x0)] [(2, s1), (2, s0)] w).trans rfl
set_option maxRecDepth 100000 in
theorem eq_Mod_init_244 (x0 s0 s1 : Int) (w : pw) : px_R (mm_Mod_init, 244, [(2, x0)], [(2, s1), (2, s0)], w) =
    (if px_go w s0 9 = true then
      if px_go (px_al (px_wr w s0 56 s1) (0, 20)) x0 9 = true then
        px_R (mm_Mod_init, 260, [(2, x0)], [(2, ((px_wr (px_al (px_wr w s0 56 s1) (0, 20)) x0 57 ((px_wr w s0 56 s1).1.length : Int)).1.length : Int)), (2, x0)], (px_al (px_wr (px_al (px_wr w s0 56 s1) (0, 20)) x0 57 ((px_wr w s0 56 s1).1.length : Int)) (0, 20)))
      else none
    else none) := (px_Req mm_Mod_init 244 [(2, x0)] [(2, s1), (2, s0)] w).trans rfl
set_option maxRecDepth 100000 in
theorem eq_Mod_init_260 (x0 s0 s1 : Int) (w : pw) : px_R (mm_Mod_init, 260, [(2, x0)], [(2, s1), (2, s0)], w) =
    (if px_go w s0 9 = true then
      if px_go (px_al (px_wr w s0 58 s1) (0, 20)) x0 9 = true then
        px_R (mm_Mod_init, 276, [(2, x0)], [(2, ((px_wr (px_al (px_wr w s0 58 s1) (0, 20)) x0 59 ((px_wr w s0 58 s1).1.length : Int)).1.length : Int)), (2, x0)], (px_al (px_wr (px_al (px_wr w s0 58 s1) (0, 20)) x0 59 ((px_wr w s0 58 s1).1.length : Int)) (0, 30)))
      else none
    else none) := (px_Req mm_Mod_init 260 [(2, x0)] [(2, s1), (2, s0)] w).trans rfl
set_option maxRecDepth 100000 in
theorem eq_Mod_init_276 (x0 s0 s1 : Int) (w : pw) : px_R (mm_Mod_init, 276, [(2, x0)], [(2, s1), (2, s0)], w) =
    (if px_go w s0 9 = true then
      if px_go (px_al (px_wr w s0 60 s1) (0, 30)) x0 9 = true then
        px_R (mm_Mod_init, 291, [(2, x0)], [(2, ((px_wr (px_al (px_wr w s0 60 s1) (0, 30)) x0 61 ((px_wr w s0 60 s1).1.length : Int)).1.length : Int)), (2, x0)], (px_al (px_wr (px_al (px_wr w s0 60 s1) (0, 30)) x0 61 ((px_wr w s0 60 s1).1.length : Int)) (0, 4)))
      else none
    else none) := (px_Req mm_Mod_init 276 [(2, x0)] [(2, s1), (2, s0)] w).trans rfl
set_option maxRecDepth 100000 in
theorem eq_Mod_init_291 (x0 s0 s1 : Int) (w : pw) : px_R (mm_Mod_init, 291, [(2, x0)], [(2, s1), (2, s0)], w) =
    (if px_go w s0 9 = true then
      if px_go (px_wr w s0 62 s1) x0 9 = true then
        (px_R (mm_Mod_begin, 0, [(2, x0), (9, 0)], [], (px_wr w s0 62 s1))).bind fun r1 =>
        if px_go r1.2 x0 9 = true then
          (px_R (mm_Mod_settle, 0, [(2, x0)], [], r1.2)).bind fun r2 =>
          if px_go r2.2 x0 9 = true then
            (px_R (mm_Mod_newStretch, 0, [(2, x0), (0, 2), (9, 0)], [], r2.2)).bind fun r3 =>
            some (0, r3.2)
          else none
        else none
      else none
    else none) := (px_Req mm_Mod_init 291 [(2, x0)] [(2, s1), (2, s0)] w).trans rfl
set_option maxRecDepth 100000 in
theorem eq_Mod_arePair_0 (x0 x1 x2 : Int) (w : pw) : px_R (mm_Mod_arePair, 0, [(2, x0), (0, x1), (0, x2)], [], w) =
    (if px_go w x0 9 = true then
      (px_R (mm_Mod_is, 0, [(2, x0), (0, 3), (0, x1)], [], w)).bind fun r1 =>
      if r1.1 = 0 then
        some (0, r1.2)
      else
        if px_go r1.2 x0 9 = true then
          (px_R (mm_Mod_is, 0, [(2, x0), (0, 3), (0, x2)], [], r1.2)).bind fun r2 =>
          if r2.1 = 0 then
            some (0, r2.2)
          else
            if x1 = x2 then
              some (0, r2.2)
            else
              some (1, r2.2)
        else none
    else none) := (px_Req mm_Mod_arePair 0 [(2, x0), (0, x1), (0, x2)] [] w).trans rfl
set_option maxRecDepth 100000 in
theorem eq_Mod_band_0 (x0 x1 x2 x3 : Int) (w : pw) : px_R (mm_Mod_band, 0, [(2, x0), (0, x1), (0, x2), (0, x3)], [], w) =
    ((px_R (mm_Mod_in, 0, [(0, x1), (0, 0), (0, 3)], [], w)).bind fun r1 =>
      if r1.1 = 0 then
        some ((-2), r1.2)
      else
        if x1 = 3 then
          px_R (mm_Mod_band, 20, [(2, x0), (0, x1), (0, x2), (0, x3)], [(0, 5), (2, x0)], r1.2)
        else
          px_R (mm_Mod_band, 20, [(2, x0), (0, x1), (0, x2), (0, x3)], [(0, x1), (2, x0)], r1.2)) := (px_Req mm_Mod_band 0 [(2, x0), (0, x1), (0, x2), (0, x3)] [] w).trans rfl
set_option maxRecDepth 100000 in
theorem eq_Mod_band_20 (x0 x1 x2 x3 s0 s1 : Int) (w : pw) : px_R (mm_Mod_band, 20, [(2, x0), (0, x1), (0, x2), (0, x3)], [(0, s1), (2, s0)], w) =
    (if px_go w s0 9 = true then
      (px_R (mm_Mod_is, 0, [(2, s0), (0, s1), (0, x2)], [], w)).bind fun r2 =>
      if r2.1 = 0 then
        some ((-2), r2.2)
      else
        (px_R (mm_Mod_isBand, 0, [(0, x3)], [], r2.2)).bind fun r3 =>
          if r3.1 = 0 then
            some ((-2), r3.2)
          else
            if x1 = 0 then
              if px_go r3.2 x0 9 = true then
                if px_ga r3.2 0 (px_rd r3.2 x0 14) (px_w ((px_w ((px_w (5 * x2)) + 1)) + x3)) = true then
                  some ((px_rd r3.2 (px_rd r3.2 x0 14) ((px_w ((px_w ((px_w (5 * x2)) + 1)) + x3))).toNat), r3.2)
                else none
              else none
            else
              if x1 = 1 then
                if px_go r3.2 x0 9 = true then
                  if px_ga r3.2 0 (px_rd r3.2 x0 15) (px_w ((px_w (4 * x2)) + x3)) = true then
                    some ((px_rd r3.2 (px_rd r3.2 x0 15) ((px_w ((px_w (4 * x2)) + x3))).toNat), r3.2)
                  else none
                else none
              else
                if x1 = 2 then
                  if px_go r3.2 x0 9 = true then
                    if px_ga r3.2 0 (px_rd r3.2 x0 16) (px_w ((px_w (4 * x2)) + x3)) = true then
                      some ((px_rd r3.2 (px_rd r3.2 x0 16) ((px_w ((px_w (4 * x2)) + x3))).toNat), r3.2)
                    else none
                  else none
                else
                  if px_go r3.2 x0 9 = true then
                    if px_ga r3.2 0 (px_rd r3.2 x0 21) (px_w ((px_w ((px_w (5 * x2)) + 1)) + x3)) = true then
                      some ((px_rd r3.2 (px_rd r3.2 x0 21) ((px_w ((px_w ((px_w (5 * x2)) + 1)) + x3))).toNat), r3.2)
                    else none
                  else none
    else none) := (px_Req mm_Mod_band 20 [(2, x0), (0, x1), (0, x2), (0, x3)] [(0, s1), (2, s0)] w).trans rfl
set_option maxRecDepth 100000 in
theorem eq_Mod_bears_0 (x0 x1 : Int) (w : pw) : px_R (mm_Mod_bears, 0, [(2, x0), (0, x1)], [], w) =
    ((px_R (mm_Mod_in, 0, [(0, x1), (0, 0), (0, 4)], [], w)).bind fun r1 =>
      if r1.1 = 0 then
        some ((-2), r1.2)
      else
        if px_go r1.2 x0 9 = true then
          (px_R (mm_Mod_hasStuff, 0, [(2, x0)], [], r1.2)).bind fun r2 =>
          if r2.1 = 0 then
            some ((-4), r2.2)
          else
            if x1 = 0 then
              if px_go r2.2 x0 9 = true then
                if px_go r2.2 x0 9 = true then
                  (px_R (mm_Mod_bearsOf, 0, [(2, x0), (0, (px_rd r2.2 x0 24)), (9, 0)], [], r2.2)).bind fun r3 =>
                  some (r3.1, r3.2)
                else none
              else none
            else if x1 = 1 then
              if px_go r2.2 x0 9 = true then
                if px_go r2.2 x0 9 = true then
                  (px_R (mm_Mod_handsOf, 0, [(2, x0), (0, (px_rd r2.2 x0 24)), (9, 0)], [], r2.2)).bind fun r4 =>
                  some (r4.1, r4.2)
                else none
              else none
            else if x1 = 2 then
              if px_go r2.2 x0 9 = true then
                if px_go r2.2 x0 9 = true then
                  if px_go r2.2 x0 9 = true then
                    (px_R (mm_Mod_bearsOf, 0, [(2, x0), (0, (px_rd r2.2 x0 24)), (9, 0)], [], r2.2)).bind fun r5 =>
                    if r5.1 < (px_rd r2.2 x0 27) then
                      some (1, r5.2)
                    else
                      some (0, r5.2)
                  else none
                else none
              else none
            else if x1 = 3 then
              if px_go r2.2 x0 9 = true then
                some ((px_rd r2.2 x0 28), r2.2)
              else none
            else 
              if px_go r2.2 x0 9 = true then
                some ((px_rd r2.2 x0 29), r2.2)
              else none
        else none) := (px_Req mm_Mod_bears 0 [(2, x0), (0, x1)] [] w).trans rfl
set_option maxRecDepth 100000 in
theorem eq_Mod_bend_0 (x0 x1 : Int) (w : pw) : px_R (mm_Mod_bend, 0, [(2, x0), (0, x1)], [], w) =
    (if x1 = (-1) then
      px_R (mm_Mod_bend, 17, [(2, x0), (0, x1)], [], w)
    else
      if px_go w x0 9 = true then
        (px_R (mm_Mod_is, 0, [(2, x0), (0, 5), (0, x1)], [], w)).bind fun r1 =>
        if r1.1 = 0 then
          some ((-2), r1.2)
        else
          px_R (mm_Mod_bend, 17, [(2, x0), (0, x1)], [], r1.2)
      else none) := (px_Req mm_Mod_bend 0 [(2, x0), (0, x1)] [] w).trans rfl
set_option maxRecDepth 100000 in
theorem eq_Mod_bend_17 (x0 x1 : Int) (w : pw) : px_R (mm_Mod_bend, 17, [(2, x0), (0, x1)], [], w) =
    (if px_go w x0 9 = true then
      if (px_rd w x0 28) = 4 then
        some ((-3), w)
      else
        if px_go w x0 9 = true then
          if px_go w x0 9 = true then
            if px_ga w 0 (px_rd w x0 30) (px_rd w x0 28) = true then
              if px_go (px_wr w (px_rd w x0 30) ((px_rd w x0 28)).toNat x1) x0 9 = true then
                if px_go (px_wr w (px_rd w x0 30) ((px_rd w x0 28)).toNat x1) x0 9 = true then
                  if px_go (px_wr (px_wr w (px_rd w x0 30) ((px_rd w x0 28)).toNat x1) x0 28 (px_w ((px_rd (px_wr w (px_rd w x0 30) ((px_rd w x0 28)).toNat x1) x0 28) + 1))) x0 9 = true then
                    some ((px_rd (px_wr (px_wr w (px_rd w x0 30) ((px_rd w x0 28)).toNat x1) x0 28 (px_w ((px_rd (px_wr w (px_rd w x0 30) ((px_rd w x0 28)).toNat x1) x0 28) + 1))) x0 28), (px_wr (px_wr w (px_rd w x0 30) ((px_rd w x0 28)).toNat x1) x0 28 (px_w ((px_rd (px_wr w (px_rd w x0 30) ((px_rd w x0 28)).toNat x1) x0 28) + 1))))
                  else none
                else none
              else none
            else none
          else none
        else none
    else none) := (px_Req mm_Mod_bend 17 [(2, x0), (0, x1)] [] w).trans rfl
set_option maxRecDepth 100000 in
theorem eq_Mod_cell_0 (x0 x1 x2 x3 : Int) (w : pw) : px_R (mm_Mod_cell, 0, [(2, x0), (0, x1), (0, x2), (0, x3)], [], w) =
    (if px_go w x0 9 = true then
      (px_R (mm_Mod_isCell, 0, [(2, x0), (0, x1)], [], w)).bind fun r1 =>
      if r1.1 = 0 then
        some ((-2), r1.2)
      else
        (px_R (mm_Mod_in, 0, [(0, x2), (0, 0), (0, 100)], [], r1.2)).bind fun r2 =>
          if r2.1 = 0 then
            some ((-2), r2.2)
          else
            (px_R (mm_Mod_in, 0, [(0, x3), (0, 0), (0, 100)], [], r2.2)).bind fun r3 =>
              if r3.1 = 0 then
                some ((-2), r3.2)
              else
                if 100 < (px_w (x2 + x3)) then
                  some ((-2), r3.2)
                else
                  if px_go r3.2 x0 9 = true then
                    if px_ga r3.2 0 (px_rd r3.2 x0 35) (px_w (82 + x1)) = true then
                      if px_go (px_wr r3.2 (px_rd r3.2 x0 35) ((px_w (82 + x1))).toNat x2) x0 9 = true then
                        if px_ga (px_wr r3.2 (px_rd r3.2 x0 35) ((px_w (82 + x1))).toNat x2) 0 (px_rd (px_wr r3.2 (px_rd r3.2 x0 35) ((px_w (82 + x1))).toNat x2) x0 35) (px_w (122 + x1)) = true then
                          some (1, (px_wr (px_wr r3.2 (px_rd r3.2 x0 35) ((px_w (82 + x1))).toNat x2) (px_rd (px_wr r3.2 (px_rd r3.2 x0 35) ((px_w (82 + x1))).toNat x2) x0 35) ((px_w (122 + x1))).toNat x3))
                        else none
                      else none
                    else none
                  else none
    else none) := (px_Req mm_Mod_cell 0 [(2, x0), (0, x1), (0, x2), (0, x3)] [] w).trans rfl
set_option maxRecDepth 100000 in
theorem eq_Mod_comesTo_0 (x0 x1 x2 x3 x4 x5 x6 : Int) (w : pw) : px_R (mm_Mod_comesTo, 0, [(2, x0), (0, x1), (0, x2), (0, x3), (0, x4), (0, x5), (0, x6), (9, 0), (9, 0)], [], w) =
    (if px_go w x0 9 = true then
      if px_ga w 0 (px_rd w x0 15) (px_w ((px_w (4 * x2)) + x5)) = true then
        if px_go w x0 9 = true then
          (px_R (mm_Mod_handsOf, 0, [(2, x0), (0, x1), (9, 0)], [], w)).bind fun r1 =>
          px_R (mm_Mod_comesTo, 39, [(2, x0), (0, x1), (0, x2), (0, x3), (0, x4), (0, x5), (0, x6), (0, (px_w (Int.tdiv (px_w ((px_w (Int.tdiv (px_w ((px_w (1000 * x4)) * (px_rd w (px_rd w x0 15) ((px_w ((px_w (4 * x2)) + x5))).toNat))) 100)) * r1.1)) 100))), (0, 0)], [], r1.2)
        else none
      else none
    else none) := (px_Req mm_Mod_comesTo 0 [(2, x0), (0, x1), (0, x2), (0, x3), (0, x4), (0, x5), (0, x6), (9, 0), (9, 0)] [] w).trans rfl
set_option maxRecDepth 100000 in
theorem eq_Mod_comesTo_39 (x0 x1 x2 x3 x4 x5 x6 x7 x8 : Int) (w : pw) : px_R (mm_Mod_comesTo, 39, [(2, x0), (0, x1), (0, x2), (0, x3), (0, x4), (0, x5), (0, x6), (0, x7), (0, x8)], [], w) =
    (if x8 < x3 then
      if 0 < x7 then
        if px_go w x0 9 = true then
          if px_ga w 0 (px_rd w x0 14) (px_w ((px_w ((px_w (5 * x1)) + 1)) + x5)) = true then
            px_R (mm_Mod_comesTo, 39, [(2, x0), (0, x1), (0, x2), (0, x3), (0, x4), (0, x5), (0, x6), (0, (px_w (Int.tdiv (px_w (x7 * (px_w (1000 - (px_rd w (px_rd w x0 14) ((px_w ((px_w ((px_w (5 * x1)) + 1)) + x5))).toNat))))) 1000))), (0, (px_w (x8 + 1)))], [], w)
          else none
        else none
      else
        px_R (mm_Mod_comesTo, 85, [(2, x0), (0, x1), (0, x2), (0, x3), (0, x4), (0, x5), (0, x6), (0, x7), (0, 0)], [], w)
    else
      px_R (mm_Mod_comesTo, 85, [(2, x0), (0, x1), (0, x2), (0, x3), (0, x4), (0, x5), (0, x6), (0, x7), (0, 0)], [], w)) := (px_Req mm_Mod_comesTo 39 [(2, x0), (0, x1), (0, x2), (0, x3), (0, x4), (0, x5), (0, x6), (0, x7), (0, x8)] [] w).trans rfl
set_option maxRecDepth 100000 in
theorem eq_Mod_comesTo_85 (x0 x1 x2 x3 x4 x5 x6 x7 x8 : Int) (w : pw) : px_R (mm_Mod_comesTo, 85, [(2, x0), (0, x1), (0, x2), (0, x3), (0, x4), (0, x5), (0, x6), (0, x7), (0, x8)], [], w) =
    (if px_go w x0 9 = true then
      if x8 < (px_rd w x0 28) then
        if px_go w x0 9 = true then
          if px_ga w 0 (px_rd w x0 30) x8 = true then
            if px_go w x0 9 = true then
              (px_R (mm_Mod_letsBy, 0, [(2, x0), (0, (px_rd w (px_rd w x0 30) (x8).toNat)), (0, x5)], [], w)).bind fun r2 =>
              px_R (mm_Mod_comesTo, 85, [(2, x0), (0, x1), (0, x2), (0, x3), (0, x4), (0, x5), (0, x6), (0, (px_w (Int.tdiv (px_w (x7 * r2.1)) 100))), (0, (px_w (x8 + 1)))], [], r2.2)
            else none
          else none
        else none
      else
        px_R (mm_Mod_comesTo, 124, [(2, x0), (0, x1), (0, x2), (0, x3), (0, x4), (0, x5), (0, x6), (0, x7), (0, 0)], [], w)
    else none) := (px_Req mm_Mod_comesTo 85 [(2, x0), (0, x1), (0, x2), (0, x3), (0, x4), (0, x5), (0, x6), (0, x7), (0, x8)] [] w).trans rfl
set_option maxRecDepth 100000 in
theorem eq_Mod_comesTo_124 (x0 x1 x2 x3 x4 x5 x6 x7 x8 : Int) (w : pw) : px_R (mm_Mod_comesTo, 124, [(2, x0), (0, x1), (0, x2), (0, x3), (0, x4), (0, x5), (0, x6), (0, x7), (0, x8)], [], w) =
    (if x8 < x6 then
      if px_go w x0 9 = true then
        if px_ga w 0 (px_rd w x0 31) x8 = true then
          px_R (mm_Mod_comesTo, 124, [(2, x0), (0, x1), (0, x2), (0, x3), (0, x4), (0, x5), (0, x6), (0, (px_w (Int.tdiv (px_w (x7 * (px_w (100 - (px_rd w (px_rd w x0 31) (x8).toNat))))) 100))), (0, (px_w (x8 + 1)))], [], w)
        else none
      else none
    else
      some (x7, w)) := (px_Req mm_Mod_comesTo 124 [(2, x0), (0, x1), (0, x2), (0, x3), (0, x4), (0, x5), (0, x6), (0, x7), (0, x8)] [] w).trans rfl
set_option maxRecDepth 100000 in
theorem eq_Mod_goes_0 (x0 x1 x2 : Int) (w : pw) : px_R (mm_Mod_goes, 0, [(2, x0), (0, x1), (0, x2)], [], w) =
    (if px_go w x0 9 = true then
      (px_R (mm_Mod_isCell, 0, [(2, x0), (0, x1)], [], w)).bind fun r1 =>
      if r1.1 = 0 then
        some ((-2000000000), r1.2)
      else
        (px_R (mm_Mod_in, 0, [(0, x2), (0, 0), (0, 3)], [], r1.2)).bind fun r2 =>
          if r2.1 = 0 then
            some ((-2000000000), r2.2)
          else
            if px_go r2.2 x0 9 = true then
              if px_ga r2.2 0 (px_rd r2.2 x0 35) (px_w ((px_w (2 + (px_w (40 * x2)))) + x1)) = true then
                some ((px_rd r2.2 (px_rd r2.2 x0 35) ((px_w ((px_w (2 + (px_w (40 * x2)))) + x1))).toNat), r2.2)
              else none
            else none
    else none) := (px_Req mm_Mod_goes 0 [(2, x0), (0, x1), (0, x2)] [] w).trans rfl
set_option maxRecDepth 100000 in
theorem eq_Mod_keep_0 (x0 x1 : Int) (w : pw) : px_R (mm_Mod_keep, 0, [(2, x0), (0, x1), (9, 0)], [], w) =
    ((px_R (mm_Mod_isSlot, 0, [(0, x1)], [], w)).bind fun r1 =>
      if r1.1 = 0 then
        some ((-2), r1.2)
      else
        if px_go r1.2 x0 9 = true then
          if px_gb r1.2 (px_rd r1.2 x0 37) x1 1 = true then
            px_R (mm_Mod_keep, 19, [(2, x0), (0, x1), (0, 0)], [], (px_wr r1.2 (px_rd r1.2 x0 37) (x1).toNat 1))
          else none
        else none) := (px_Req mm_Mod_keep 0 [(2, x0), (0, x1), (9, 0)] [] w).trans rfl
set_option maxRecDepth 100000 in
theorem eq_Mod_keep_19 (x0 x1 x2 : Int) (w : pw) : px_R (mm_Mod_keep, 19, [(2, x0), (0, x1), (0, x2)], [], w) =
    (if x2 < 162 then
      if px_go w x0 9 = true then
        if px_go w x0 9 = true then
          if px_ga w 0 (px_rd w x0 35) x2 = true then
            if px_ga w 0 (px_rd w x0 35) (px_w ((px_w (162 * (px_w (x1 + 1)))) + x2)) = true then
              px_R (mm_Mod_keep, 19, [(2, x0), (0, x1), (0, (px_w (x2 + 1)))], [], (px_wr w (px_rd w x0 35) ((px_w ((px_w (162 * (px_w (x1 + 1)))) + x2))).toNat (px_rd w (px_rd w x0 35) (x2).toNat)))
            else none
          else none
        else none
      else none
    else
      px_R (mm_Mod_keep, 54, [(2, x0), (0, x1), (0, 0)], [], w)) := (px_Req mm_Mod_keep 19 [(2, x0), (0, x1), (0, x2)] [] w).trans rfl
set_option maxRecDepth 100000 in
theorem eq_Mod_keep_54 (x0 x1 x2 : Int) (w : pw) : px_R (mm_Mod_keep, 54, [(2, x0), (0, x1), (0, x2)], [], w) =
    (if x2 < 2 then
      if px_go w x0 9 = true then
        if px_go w x0 9 = true then
          if px_ga w 1 (px_rd w x0 36) x2 = true then
            if px_ga w 1 (px_rd w x0 36) (px_w ((px_w (2 * (px_w (x1 + 1)))) + x2)) = true then
              px_R (mm_Mod_keep, 54, [(2, x0), (0, x1), (0, (px_w (x2 + 1)))], [], (px_wr w (px_rd w x0 36) ((px_w ((px_w (2 * (px_w (x1 + 1)))) + x2))).toNat (px_rd w (px_rd w x0 36) (x2).toNat)))
            else none
          else none
        else none
      else none
    else
      if px_go w x0 9 = true then
        if px_ga w 0 (px_rd w x0 35) 1 = true then
          some ((px_rd w (px_rd w x0 35) 1), w)
        else none
      else none) := (px_Req mm_Mod_keep 54 [(2, x0), (0, x1), (0, x2)] [] w).trans rfl
set_option maxRecDepth 100000 in
theorem eq_Mod_least_0 (x0 x1 x2 : Int) (w : pw) : px_R (mm_Mod_least, 0, [(2, x0), (0, x1), (0, x2), (9, 0), (9, 0), (9, 0), (9, 0)], [], w) =
    ((px_R (mm_Mod_in, 0, [(0, x1), (0, 1), (0, 4)], [], w)).bind fun r1 =>
      if r1.1 = 0 then
        some ((-2), r1.2)
      else
        (px_R (mm_Mod_in, 0, [(0, x2), (0, 0), (0, 1)], [], r1.2)).bind fun r2 =>
          if r2.1 = 0 then
            some ((-2), r2.2)
          else
            if px_go r2.2 x0 9 = true then
              (px_R (mm_Mod_makeStrings, 0, [(2, x0), (9, 0), (9, 0)], [], r2.2)).bind fun r3 =>
              px_R (mm_Mod_least, 33, [(2, x0), (0, x1), (0, x2), (0, (-1)), (0, 0), (0, 0), (9, 0)], [], r3.2)
            else none) := (px_Req mm_Mod_least 0 [(2, x0), (0, x1), (0, x2), (9, 0), (9, 0), (9, 0), (9, 0)] [] w).trans rfl
set_option maxRecDepth 100000 in
theorem eq_Mod_least_33 (x0 x1 x2 x3 x4 x5 : Int) (y6 : pv) (w : pw) : px_R (mm_Mod_least, 33, [(2, x0), (0, x1), (0, x2), (0, x3), (0, x4), (0, x5), y6], [], w) =
    (if px_go w x0 9 = true then
      if x5 < (px_shl 1 (px_rd w x0 43)) then
        if px_go w x0 9 = true then
          (px_R (mm_Mod_yardsBy, 0, [(2, x0), (0, x5), (0, x1), (9, 0), (9, 0)], [], w)).bind fun r4 =>
          if r4.1 < 0 then
            px_R (mm_Mod_least, 33, [(2, x0), (0, x1), (0, x2), (0, x3), (0, x4), (0, (px_w (x5 + 1))), (0, r4.1)], [], r4.2)
          else
            if x3 = (-1) then
              px_R (mm_Mod_least, 33, [(2, x0), (0, x1), (0, x2), (0, x5), (0, r4.1), (0, (px_w (x5 + 1))), (0, r4.1)], [], r4.2)
            else
              if r4.1 < x4 then
                px_R (mm_Mod_least, 33, [(2, x0), (0, x1), (0, x2), (0, x5), (0, r4.1), (0, (px_w (x5 + 1))), (0, r4.1)], [], r4.2)
              else
                px_R (mm_Mod_least, 33, [(2, x0), (0, x1), (0, x2), (0, x3), (0, x4), (0, (px_w (x5 + 1))), (0, r4.1)], [], r4.2)
        else none
      else
        if x3 = (-1) then
          some ((-1), w)
        else
          if x2 = 0 then
            some (x4, w)
          else
            some (x3, w)
    else none) := (px_Req mm_Mod_least 33 [(2, x0), (0, x1), (0, x2), (0, x3), (0, x4), (0, x5), y6] [] w).trans rfl
set_option maxRecDepth 100000 in
theorem eq_Mod_line_0 (x0 x1 x2 x3 x4 : Int) (w : pw) : px_R (mm_Mod_line, 0, [(2, x0), (0, x1), (0, x2), (0, x3), (0, x4)], [], w) =
    (if px_go w x0 9 = true then
      (px_R (mm_Mod_is, 0, [(2, x0), (0, 0), (0, x1)], [], w)).bind fun r1 =>
      if r1.1 = 0 then
        some ((-2), r1.2)
      else
        if px_go r1.2 x0 9 = true then
          (px_R (mm_Mod_is, 0, [(2, x0), (0, 1), (0, x2)], [], r1.2)).bind fun r2 =>
          if r2.1 = 0 then
            some ((-2), r2.2)
          else
            (px_R (mm_Mod_in, 0, [(0, x3), (0, 1), (0, 400)], [], r2.2)).bind fun r3 =>
              if r3.1 = 0 then
                some ((-2), r3.2)
              else
                (px_R (mm_Mod_in, 0, [(0, x4), (0, 0), (0, 99)], [], r3.2)).bind fun r4 =>
                  if r4.1 = 0 then
                    some ((-2), r4.2)
                  else
                    if px_go r4.2 x0 9 = true then
                      if px_go (px_wr r4.2 x0 24 x1) x0 9 = true then
                        if px_go (px_wr (px_wr r4.2 x0 24 x1) x0 25 x2) x0 9 = true then
                          if px_go (px_wr (px_wr (px_wr r4.2 x0 24 x1) x0 25 x2) x0 26 x3) x0 9 = true then
                            px_R (mm_Mod_line, 64, [(2, x0), (0, x1), (0, x2), (0, x3), (0, x4)], [], (px_wr (px_wr (px_wr (px_wr r4.2 x0 24 x1) x0 25 x2) x0 26 x3) x0 27 x4))
                          else none
                        else none
                      else none
                    else none
        else none
    else none) := (px_Req mm_Mod_line 0 [(2, x0), (0, x1), (0, x2), (0, x3), (0, x4)] [] w).trans rfl
set_option maxRecDepth 100000 in
theorem eq_Mod_line_64 (x0 x1 x2 x3 x4 : Int) (w : pw) : px_R (mm_Mod_line, 64, [(2, x0), (0, x1), (0, x2), (0, x3), (0, x4)], [], w) =
    (some (1, w)) := (px_Req mm_Mod_line 64 [(2, x0), (0, x1), (0, x2), (0, x3), (0, x4)] [] w).trans rfl
set_option maxRecDepth 100000 in
theorem eq_Mod_listen_0 (x0 x1 x2 : Int) (w : pw) : px_R (mm_Mod_listen, 0, [(2, x0), (0, x1), (0, x2), (9, 0), (9, 0), (9, 0), (9, 0), (9, 0), (9, 0), (9, 0)], [], w) =
    (if px_go w x0 9 = true then
      if px_ga w 0 (px_rd w x0 12) 8 = true then
        px_R (mm_Mod_listen, 18, [(2, x0), (0, x1), (0, x2), (0, (px_rd w (px_rd w x0 12) 8)), (0, (px_w ((px_w (2 * (px_rd w (px_rd w x0 12) 8))) + 1))), (0, 0), (9, 0), (9, 0), (9, 0), (9, 0)], [], w)
      else none
    else none) := (px_Req mm_Mod_listen 0 [(2, x0), (0, x1), (0, x2), (9, 0), (9, 0), (9, 0), (9, 0), (9, 0), (9, 0), (9, 0)] [] w).trans rfl
set_option maxRecDepth 100000 in
theorem eq_Mod_listen_18 (x0 x1 x2 x3 x4 x5 : Int) (w : pw) : px_R (mm_Mod_listen, 18, [(2, x0), (0, x1), (0, x2), (0, x3), (0, x4), (0, x5), (9, 0), (9, 0), (9, 0), (9, 0)], [], w) =
    (if x5 < 6 then
      if px_go w x0 9 = true then
        if px_ga w 0 (px_rd w x0 34) x5 = true then
          px_R (mm_Mod_listen, 18, [(2, x0), (0, x1), (0, x2), (0, x3), (0, x4), (0, (px_w (x5 + 1))), (9, 0), (9, 0), (9, 0), (9, 0)], [], (px_wr w (px_rd w x0 34) (x5).toNat 0))
        else none
      else none
    else
      px_R (mm_Mod_listen, 42, [(2, x0), (0, x1), (0, x2), (0, x3), (0, x4), (0, 0), (9, 0), (9, 0), (9, 0), (9, 0)], [], w)) := (px_Req mm_Mod_listen 18 [(2, x0), (0, x1), (0, x2), (0, x3), (0, x4), (0, x5), (9, 0), (9, 0), (9, 0), (9, 0)] [] w).trans rfl
set_option maxRecDepth 100000 in
theorem eq_Mod_listen_42 (x0 x1 x2 x3 x4 x5 : Int) (y6 y7 y8 y9 : pv) (w : pw) : px_R (mm_Mod_listen, 42, [(2, x0), (0, x1), (0, x2), (0, x3), (0, x4), (0, x5), y6, y7, y8, y9], [], w) =
    (if x5 < (px_w ((px_w ((px_w (x4 * x4)) * x4)) * x4)) then
      px_R (mm_Mod_listen, 68, [(2, x0), (0, x1), (0, x2), (0, x3), (0, x4), (0, x5), (0, 1), (0, x5), (0, 0), y9], [], w)
    else
      some (0, w)) := (px_Req mm_Mod_listen 42 [(2, x0), (0, x1), (0, x2), (0, x3), (0, x4), (0, x5), y6, y7, y8, y9] [] w).trans rfl
set_option maxRecDepth 100000 in
theorem eq_Mod_listen_68 (x0 x1 x2 x3 x4 x5 x6 x7 x8 : Int) (y9 : pv) (w : pw) : px_R (mm_Mod_listen, 68, [(2, x0), (0, x1), (0, x2), (0, x3), (0, x4), (0, x5), (0, x6), (0, x7), (0, x8), y9], [], w) =
    (if x8 < 4 then
      if (!decide (x4 = 0)) = true then
        if (!decide (x4 = 0)) = true then
          (px_R (mm_Mod_plain, 0, [(0, (px_w ((Int.tmod x7 x4) - x3)))], [], w)).bind fun r2 =>
            if px_go r2.2 x0 9 = true then
              if px_go r2.2 x0 9 = true then
                if px_ga r2.2 0 (px_rd r2.2 x0 32) (px_w ((px_w (4 * x2)) + x8)) = true then
                  (px_R (mm_Mod_heard, 0, [(0, (px_w ((px_rd r2.2 (px_rd r2.2 x0 32) ((px_w ((px_w (4 * x2)) + x8))).toNat) + (px_w ((Int.tmod x7 x4) - x3)))))], [], r2.2)).bind fun r3 =>
                    if px_ga r3.2 0 (px_rd r2.2 x0 33) x8 = true then
                      px_R (mm_Mod_listen, 68, [(2, x0), (0, x1), (0, x2), (0, x3), (0, x4), (0, x5), (0, (px_w (x6 * (px_w ((px_w (x3 + 1)) - r2.1))))), (0, (px_w (Int.tdiv x7 x4))), (0, (px_w (x8 + 1))), (0, (px_w ((Int.tmod x7 x4) - x3)))], [], (px_wr r3.2 (px_rd r2.2 x0 33) (x8).toNat r3.1))
                    else none
                else none
              else none
            else none
        else none
      else none
    else
      if px_go w x0 9 = true then
        if px_go w x0 9 = true then
          (px_R (mm_Mod_ear, 0, [(2, x0), (0, x1), (9, 0), (9, 0), (9, 0), (9, 0), (9, 0)], [], w)).bind fun r1 =>
          if px_ga r1.2 0 (px_rd w x0 34) r1.1 = true then
            if px_ga r1.2 0 (px_rd w x0 34) r1.1 = true then
              px_R (mm_Mod_listen, 42, [(2, x0), (0, x1), (0, x2), (0, x3), (0, x4), (0, (px_w (x5 + 1))), (0, x6), (0, x7), (0, x8), y9], [], (px_wr r1.2 (px_rd w x0 34) (r1.1).toNat (px_w ((px_rd r1.2 (px_rd w x0 34) (r1.1).toNat) + x6))))
            else none
          else none
        else none
      else none) := (px_Req mm_Mod_listen 68 [(2, x0), (0, x1), (0, x2), (0, x3), (0, x4), (0, x5), (0, x6), (0, x7), (0, x8), y9] [] w).trans rfl
set_option maxRecDepth 100000 in
theorem eq_Mod_right_1_0 (x0 x1 x2 x3 : Int) (w : pw) : px_R (mm_Mod_right_1, 0, [(2, x0), (0, x1), (0, x2), (0, x3), (9, 0), (9, 0)], [], w) =
    (if px_go w x0 9 = true then
      (px_R (mm_Mod_in, 0, [(0, x1), (0, (px_rd w x0 53)), (0, 999)], [], w)).bind fun r1 =>
        if r1.1 = 0 then
          some ((-2), r1.2)
        else
          if px_go r1.2 x0 9 = true then
            (px_R (mm_Mod_in, 0, [(0, x2), (0, 0), (0, (px_w ((px_rd r1.2 x0 51) - 1)))], [], r1.2)).bind fun r2 =>
              if r2.1 = 0 then
                some ((-2), r2.2)
              else
                if px_go r2.2 x0 9 = true then
                  (px_R (mm_Mod_is, 0, [(2, x0), (0, 2), (0, x3)], [], r2.2)).bind fun r3 =>
                  if r3.1 = 0 then
                    some ((-2), r3.2)
                  else
                    if px_go r3.2 x0 9 = true then
                      if (px_rd r3.2 x0 52) = 20 then
                        some ((-3), r3.2)
                      else
                        if px_go r3.2 x0 9 = true then
                          if px_go (px_wr r3.2 x0 53 x1) x0 9 = true then
                            if px_go (px_wr r3.2 x0 53 x1) x0 9 = true then
                              if px_ga (px_wr r3.2 x0 53 x1) 0 (px_rd (px_wr r3.2 x0 53 x1) x0 57) (px_rd (px_wr r3.2 x0 53 x1) x0 52) = true then
                                if px_go (px_wr (px_wr r3.2 x0 53 x1) (px_rd (px_wr r3.2 x0 53 x1) x0 57) ((px_rd (px_wr r3.2 x0 53 x1) x0 52)).toNat x1) x0 9 = true then
                                  if px_go (px_wr (px_wr r3.2 x0 53 x1) (px_rd (px_wr r3.2 x0 53 x1) x0 57) ((px_rd (px_wr r3.2 x0 53 x1) x0 52)).toNat x1) x0 9 = true then
                                    if px_ga (px_wr (px_wr r3.2 x0 53 x1) (px_rd (px_wr r3.2 x0 53 x1) x0 57) ((px_rd (px_wr r3.2 x0 53 x1) x0 52)).toNat x1) 0 (px_rd (px_wr (px_wr r3.2 x0 53 x1) (px_rd (px_wr r3.2 x0 53 x1) x0 57) ((px_rd (px_wr r3.2 x0 53 x1) x0 52)).toNat x1) x0 58) (px_rd (px_wr (px_wr r3.2 x0 53 x1) (px_rd (px_wr r3.2 x0 53 x1) x0 57) ((px_rd (px_wr r3.2 x0 53 x1) x0 52)).toNat x1) x0 52) = true then
                                      if px_go (px_wr (px_wr (px_wr r3.2 x0 53 x1) (px_rd (px_wr r3.2 x0 53 x1) x0 57) ((px_rd (px_wr r3.2 x0 53 x1) x0 52)).toNat x1) (px_rd (px_wr (px_wr r3.2 x0 53 x1) (px_rd (px_wr r3.2 x0 53 x1) x0 57) ((px_rd (px_wr r3.2 x0 53 x1) x0 52)).toNat x1) x0 58) ((px_rd (px_wr (px_wr r3.2 x0 53 x1) (px_rd (px_wr r3.2 x0 53 x1) x0 57) ((px_rd (px_wr r3.2 x0 53 x1) x0 52)).toNat x1) x0 52)).toNat x2) x0 9 = true then
                                        if px_go (px_wr (px_wr (px_wr r3.2 x0 53 x1) (px_rd (px_wr r3.2 x0 53 x1) x0 57) ((px_rd (px_wr r3.2 x0 53 x1) x0 52)).toNat x1) (px_rd (px_wr (px_wr r3.2 x0 53 x1) (px_rd (px_wr r3.2 x0 53 x1) x0 57) ((px_rd (px_wr r3.2 x0 53 x1) x0 52)).toNat x1) x0 58) ((px_rd (px_wr (px_wr r3.2 x0 53 x1) (px_rd (px_wr r3.2 x0 53 x1) x0 57) ((px_rd (px_wr r3.2 x0 53 x1) x0 52)).toNat x1) x0 52)).toNat x2) x0 9 = true then
                                          if px_ga (px_wr (px_wr (px_wr r3.2 x0 53 x1) (px_rd (px_wr r3.2 x0 53 x1) x0 57) ((px_rd (px_wr r3.2 x0 53 x1) x0 52)).toNat x1) (px_rd (px_wr (px_wr r3.2 x0 53 x1) (px_rd (px_wr r3.2 x0 53 x1) x0 57) ((px_rd (px_wr r3.2 x0 53 x1) x0 52)).toNat x1) x0 58) ((px_rd (px_wr (px_wr r3.2 x0 53 x1) (px_rd (px_wr r3.2 x0 53 x1) x0 57) ((px_rd (px_wr r3.2 x0 53 x1) x0 52)).toNat x1) x0 52)).toNat x2) 0 (px_rd (px_wr (px_wr (px_wr r3.2 x0 53 x1) (px_rd (px_wr r3.2 x0 53 x1) x0 57) ((px_rd (px_wr r3.2 x0 53 x1) x0 52)).toNat x1) (px_rd (px_wr (px_wr r3.2 x0 53 x1) (px_rd (px_wr r3.2 x0 53 x1) x0 57) ((px_rd (px_wr r3.2 x0 53 x1) x0 52)).toNat x1) x0 58) ((px_rd (px_wr (px_wr r3.2 x0 53 x1) (px_rd (px_wr r3.2 x0 53 x1) x0 57) ((px_rd (px_wr r3.2 x0 53 x1) x0 52)).toNat x1) x0 52)).toNat x2) x0 59) (px_rd (px_wr (px_wr (px_wr r3.2 x0 53 x1) (px_rd (px_wr r3.2 x0 53 x1) x0 57) ((px_rd (px_wr r3.2 x0 53 x1) x0 52)).toNat x1) (px_rd (px_wr (px_wr r3.2 x0 53 x1) (px_rd (px_wr r3.2 x0 53 x1) x0 57) ((px_rd (px_wr r3.2 x0 53 x1) x0 52)).toNat x1) x0 58) ((px_rd (px_wr (px_wr r3.2 x0 53 x1) (px_rd (px_wr r3.2 x0 53 x1) x0 57) ((px_rd (px_wr r3.2 x0 53 x1) x0 52)).toNat x1) x0 52)).toNat x2) x0 52) = true then
                                            px_R (mm_Mod_right_1, 87, [(2, x0), (0, x1), (0, x2), (0, x3), (9, 0), (9, 0)], [], (px_wr (px_wr (px_wr (px_wr r3.2 x0 53 x1) (px_rd (px_wr r3.2 x0 53 x1) x0 57) ((px_rd (px_wr r3.2 x0 53 x1) x0 52)).toNat x1) (px_rd (px_wr (px_wr r3.2 x0 53 x1) (px_rd (px_wr r3.2 x0 53 x1) x0 57) ((px_rd (px_wr r3.2 x0 53 x1) x0 52)).toNat x1) x0 58) ((px_rd (px_wr (px_wr r3.2 x0 53 x1) (px_rd (px_wr r3.2 x0 53 x1) x0 57) ((px_rd (px_wr r3.2 x0 53 x1) x0 52)).toNat x1) x0 52)).toNat x2) (px_rd (px_wr (px_wr (px_wr r3.2 x0 53 x1) (px_rd (px_wr r3.2 x0 53 x1) x0 57) ((px_rd (px_wr r3.2 x0 53 x1) x0 52)).toNat x1) (px_rd (px_wr (px_wr r3.2 x0 53 x1) (px_rd (px_wr r3.2 x0 53 x1) x0 57) ((px_rd (px_wr r3.2 x0 53 x1) x0 52)).toNat x1) x0 58) ((px_rd (px_wr (px_wr r3.2 x0 53 x1) (px_rd (px_wr r3.2 x0 53 x1) x0 57) ((px_rd (px_wr r3.2 x0 53 x1) x0 52)).toNat x1) x0 52)).toNat x2) x0 59) ((px_rd (px_wr (px_wr (px_wr r3.2 x0 53 x1) (px_rd (px_wr r3.2 x0 53 x1) x0 57) ((px_rd (px_wr r3.2 x0 53 x1) x0 52)).toNat x1) (px_rd (px_wr (px_wr r3.2 x0 53 x1) (px_rd (px_wr r3.2 x0 53 x1) x0 57) ((px_rd (px_wr r3.2 x0 53 x1) x0 52)).toNat x1) x0 58) ((px_rd (px_wr (px_wr r3.2 x0 53 x1) (px_rd (px_wr r3.2 x0 53 x1) x0 57) ((px_rd (px_wr r3.2 x0 53 x1) x0 52)).toNat x1) x0 52)).toNat x2) x0 52)).toNat x3))
                                          else none
                                        else none
                                      else none
                                    else none
                                  else none
                                else none
                              else none
                            else none
                          else none
                        else none
                    else none
                else none
          else none
    else none) := (px_Req mm_Mod_right_1 0 [(2, x0), (0, x1), (0, x2), (0, x3), (9, 0), (9, 0)] [] w).trans rfl
set_option maxRecDepth 100000 in
theorem eq_Mod_right_1_87 (x0 x1 x2 x3 : Int) (w : pw) : px_R (mm_Mod_right_1, 87, [(2, x0), (0, x1), (0, x2), (0, x3), (9, 0), (9, 0)], [], w) =
    (if px_go w x0 9 = true then
      if px_go w x0 9 = true then
        px_R (mm_Mod_right_1, 103, [(2, x0), (0, x1), (0, x2), (0, x3), (0, 0), (0, 0)], [], (px_wr w x0 52 (px_w ((px_rd w x0 52) + 1))))
      else none
    else none) := (px_Req mm_Mod_right_1 87 [(2, x0), (0, x1), (0, x2), (0, x3), (9, 0), (9, 0)] [] w).trans rfl
set_option maxRecDepth 100000 in
theorem eq_Mod_right_1_103 (x0 x1 x2 x3 x4 x5 : Int) (w : pw) : px_R (mm_Mod_right_1, 103, [(2, x0), (0, x1), (0, x2), (0, x3), (0, x4), (0, x5)], [], w) =
    (if px_go w x0 9 = true then
      if x5 < (px_rd w x0 52) then
        if px_go w x0 9 = true then
          if px_ga w 0 (px_rd w x0 58) x5 = true then
            if (px_rd w (px_rd w x0 58) (x5).toNat) = x2 then
              px_R (mm_Mod_right_1, 103, [(2, x0), (0, x1), (0, x2), (0, x3), (0, (px_w (x4 + 1))), (0, (px_w (x5 + 1)))], [], w)
            else
              px_R (mm_Mod_right_1, 103, [(2, x0), (0, x1), (0, x2), (0, x3), (0, (px_w (x4 + 0))), (0, (px_w (x5 + 1)))], [], w)
          else none
        else none
      else
        some (x4, w)
    else none) := (px_Req mm_Mod_right_1 103 [(2, x0), (0, x1), (0, x2), (0, x3), (0, x4), (0, x5)] [] w).trans rfl
set_option maxRecDepth 100000 in
theorem eq_Mod_stretch_0 (x0 x1 : Int) (w : pw) : px_R (mm_Mod_stretch, 0, [(2, x0), (0, x1)], [], w) =
    ((px_R (mm_Mod_in, 0, [(0, x1), (0, 2), (0, 40)], [], w)).bind fun r1 =>
      if r1.1 = 0 then
        some ((-2), r1.2)
      else
        if px_go r1.2 x0 9 = true then
          (px_R (mm_Mod_newStretch, 0, [(2, x0), (0, x1), (9, 0)], [], r1.2)).bind fun r2 =>
          some (x1, r2.2)
        else none) := (px_Req mm_Mod_stretch 0 [(2, x0), (0, x1)] [] w).trans rfl
set_option maxRecDepth 100000 in
theorem eq_Mod_take_0 (x0 x1 : Int) (w : pw) : px_R (mm_Mod_take, 0, [(2, x0), (0, x1), (9, 0)], [], w) =
    ((px_R (mm_Mod_isSlot, 0, [(0, x1)], [], w)).bind fun r1 =>
      if r1.1 = 0 then
        some ((-2), r1.2)
      else
        if px_go r1.2 x0 9 = true then
          if (px_ga r1.2 2 (px_rd r1.2 x0 37) x1 || px_ga r1.2 3 (px_rd r1.2 x0 37) x1) = true then
            if (px_rd r1.2 (px_rd r1.2 x0 37) (x1).toNat) = 0 then
              some ((-4), r1.2)
            else
              px_R (mm_Mod_take, 24, [(2, x0), (0, x1), (0, 0)], [], r1.2)
          else none
        else none) := (px_Req mm_Mod_take 0 [(2, x0), (0, x1), (9, 0)] [] w).trans rfl
set_option maxRecDepth 100000 in
theorem eq_Mod_take_24 (x0 x1 x2 : Int) (w : pw) : px_R (mm_Mod_take, 24, [(2, x0), (0, x1), (0, x2)], [], w) =
    (if x2 < 162 then
      if px_go w x0 9 = true then
        if px_go w x0 9 = true then
          if px_ga w 0 (px_rd w x0 35) (px_w ((px_w (162 * (px_w (x1 + 1)))) + x2)) = true then
            if px_ga w 0 (px_rd w x0 35) x2 = true then
              px_R (mm_Mod_take, 24, [(2, x0), (0, x1), (0, (px_w (x2 + 1)))], [], (px_wr w (px_rd w x0 35) (x2).toNat (px_rd w (px_rd w x0 35) ((px_w ((px_w (162 * (px_w (x1 + 1)))) + x2))).toNat)))
            else none
          else none
        else none
      else none
    else
      px_R (mm_Mod_take, 59, [(2, x0), (0, x1), (0, 0)], [], w)) := (px_Req mm_Mod_take 24 [(2, x0), (0, x1), (0, x2)] [] w).trans rfl
set_option maxRecDepth 100000 in
theorem eq_Mod_take_59 (x0 x1 x2 : Int) (w : pw) : px_R (mm_Mod_take, 59, [(2, x0), (0, x1), (0, x2)], [], w) =
    (if x2 < 2 then
      if px_go w x0 9 = true then
        if px_go w x0 9 = true then
          if px_ga w 1 (px_rd w x0 36) (px_w ((px_w (2 * (px_w (x1 + 1)))) + x2)) = true then
            if px_ga w 1 (px_rd w x0 36) x2 = true then
              px_R (mm_Mod_take, 59, [(2, x0), (0, x1), (0, (px_w (x2 + 1)))], [], (px_wr w (px_rd w x0 36) (x2).toNat (px_rd w (px_rd w x0 36) ((px_w ((px_w (2 * (px_w (x1 + 1)))) + x2))).toNat)))
            else none
          else none
        else none
      else none
    else
      if px_go w x0 9 = true then
        if px_ga w 0 (px_rd w x0 35) 1 = true then
          some ((px_rd w (px_rd w x0 35) 1), w)
        else none
      else none) := (px_Req mm_Mod_take 59 [(2, x0), (0, x1), (0, x2)] [] w).trans rfl
set_option maxRecDepth 100000 in
theorem eq_Mod_tapRow_0 (x0 x1 x2 : Int) (w : pw) : px_R (mm_Mod_tapRow, 0, [(2, x0), (0, x1), (0, x2)], [], w) =
    ((px_R (mm_Mod_in, 0, [(0, x1), (0, 0), (0, 99)], [], w)).bind fun r1 =>
      if r1.1 = 0 then
        some ((-2), r1.2)
      else
        (px_R (mm_Mod_in, 0, [(0, x2), (0, 0), (0, 2)], [], r1.2)).bind fun r2 =>
          if r2.1 = 0 then
            some ((-2), r2.2)
          else
            if px_go r2.2 x0 9 = true then
              (px_R (mm_Mod_findTaps, 0, [(2, x0), (0, x1), (9, 0), (9, 0), (9, 0), (9, 0)], [], r2.2)).bind fun r3 =>
              if x2 = 0 then
                if px_go r3.2 x0 9 = true then
                  some ((px_rd r3.2 x0 47), r3.2)
                else none
              else
                if x2 = 1 then
                  if px_go r3.2 x0 9 = true then
                    some ((px_rd r3.2 x0 48), r3.2)
                  else none
                else
                  if px_go r3.2 x0 9 = true then
                    some ((px_rd r3.2 x0 49), r3.2)
                  else none
            else none) := (px_Req mm_Mod_tapRow 0 [(2, x0), (0, x1), (0, x2)] [] w).trans rfl
set_option maxRecDepth 100000 in
theorem eq_Mod_tick_0 (x0 x1 : Int) (w : pw) : px_R (mm_Mod_tick, 0, [(2, x0), (0, x1), (9, 0)], [], w) =
    ((px_R (mm_Mod_in, 0, [(0, x1), (0, 0), (0, 400)], [], w)).bind fun r1 =>
      if r1.1 = 0 then
        some ((-2), r1.2)
      else
        px_R (mm_Mod_tick, 16, [(2, x0), (0, x1), (0, 0)], [], r1.2)) := (px_Req mm_Mod_tick 0 [(2, x0), (0, x1), (9, 0)] [] w).trans rfl
set_option maxRecDepth 100000 in
theorem eq_Mod_tick_16 (x0 x1 x2 : Int) (w : pw) : px_R (mm_Mod_tick, 16, [(2, x0), (0, x1), (0, x2)], [], w) =
    (if x2 < x1 then
      if px_go w x0 9 = true then
        (px_R (mm_Mod_tickOnce, 0, [(2, x0), (9, 0), (9, 0), (9, 0), (9, 0), (9, 0), (9, 0)], [], w)).bind fun r2 =>
        px_R (mm_Mod_tick, 16, [(2, x0), (0, x1), (0, (px_w (x2 + 1)))], [], r2.2)
      else none
    else
      if px_go w x0 9 = true then
        if px_ga w 0 (px_rd w x0 35) 1 = true then
          some ((px_rd w (px_rd w x0 35) 1), w)
        else none
      else none) := (px_Req mm_Mod_tick 16 [(2, x0), (0, x1), (0, x2)] [] w).trans rfl
set_option maxRecDepth 100000 in
theorem eq_Mod_told_0 (x0 x1 : Int) (w : pw) : px_R (mm_Mod_told, 0, [(2, x0), (0, x1)], [], w) =
    ((px_R (mm_Mod_in, 0, [(0, x1), (0, 0), (0, 8)], [], w)).bind fun r1 =>
      if r1.1 = 0 then
        if px_go r1.2 x0 9 = true then
          (px_R (mm_Mod_is, 0, [(2, x0), (0, 0), (0, (px_w (x1 - 10)))], [], r1.2)).bind fun r2 =>
          if r2.1 = 0 then
            if px_go r2.2 x0 9 = true then
              (px_R (mm_Mod_is, 0, [(2, x0), (0, 5), (0, (px_w (x1 - 20)))], [], r2.2)).bind fun r3 =>
              if r3.1 = 0 then
                some ((-1), r3.2)
              else
                if px_go r3.2 x0 9 = true then
                  if px_ga r3.2 0 (px_rd r3.2 x0 21) (px_w (5 * (px_w (x1 - 20)))) = true then
                    some ((px_rd r3.2 (px_rd r3.2 x0 21) ((px_w (5 * (px_w (x1 - 20))))).toNat), r3.2)
                  else none
                else none
            else none
          else
            if px_go r2.2 x0 9 = true then
              if px_ga r2.2 0 (px_rd r2.2 x0 14) (px_w (5 * (px_w (x1 - 10)))) = true then
                some ((px_rd r2.2 (px_rd r2.2 x0 14) ((px_w (5 * (px_w (x1 - 10))))).toNat), r2.2)
              else none
            else none
        else none
      else
        if px_go r1.2 x0 9 = true then
          if px_ga r1.2 0 (px_rd r1.2 x0 12) x1 = true then
            some ((px_rd r1.2 (px_rd r1.2 x0 12) (x1).toNat), r1.2)
          else none
        else none) := (px_Req mm_Mod_told 0 [(2, x0), (0, x1)] [] w).trans rfl
set_option maxRecDepth 100000 in
theorem eq_Mod_write_0 (x0 x1 x2 x3 : Int) (w : pw) : px_R (mm_Mod_write, 0, [(2, x0), (0, x1), (0, x2), (0, x3)], [], w) =
    (if px_go w x0 9 = true then
      (px_R (mm_Mod_in, 0, [(0, x1), (0, (px_rd w x0 53)), (0, 999)], [], w)).bind fun r1 =>
        if r1.1 = 0 then
          some ((-2), r1.2)
        else
          if px_go r1.2 x0 9 = true then
            (px_R (mm_Mod_is, 0, [(2, x0), (0, 2), (0, x2)], [], r1.2)).bind fun r2 =>
            if r2.1 = 0 then
              some ((-2), r2.2)
            else
              if px_go r2.2 x0 9 = true then
                (px_R (mm_Mod_is, 0, [(2, x0), (0, 2), (0, x3)], [], r2.2)).bind fun r3 =>
                if r3.1 = 0 then
                  some ((-2), r3.2)
                else
                  if px_go r3.2 x0 9 = true then
                    if (px_rd r3.2 x0 51) = 20 then
                      some ((-3), r3.2)
                    else
                      if px_go r3.2 x0 9 = true then
                        if px_go (px_wr r3.2 x0 53 x1) x0 9 = true then
                          if px_go (px_wr r3.2 x0 53 x1) x0 9 = true then
                            if px_ga (px_wr r3.2 x0 53 x1) 0 (px_rd (px_wr r3.2 x0 53 x1) x0 54) (px_rd (px_wr r3.2 x0 53 x1) x0 51) = true then
                              if px_go (px_wr (px_wr r3.2 x0 53 x1) (px_rd (px_wr r3.2 x0 53 x1) x0 54) ((px_rd (px_wr r3.2 x0 53 x1) x0 51)).toNat x1) x0 9 = true then
                                if px_go (px_wr (px_wr r3.2 x0 53 x1) (px_rd (px_wr r3.2 x0 53 x1) x0 54) ((px_rd (px_wr r3.2 x0 53 x1) x0 51)).toNat x1) x0 9 = true then
                                  if px_ga (px_wr (px_wr r3.2 x0 53 x1) (px_rd (px_wr r3.2 x0 53 x1) x0 54) ((px_rd (px_wr r3.2 x0 53 x1) x0 51)).toNat x1) 0 (px_rd (px_wr (px_wr r3.2 x0 53 x1) (px_rd (px_wr r3.2 x0 53 x1) x0 54) ((px_rd (px_wr r3.2 x0 53 x1) x0 51)).toNat x1) x0 55) (px_rd (px_wr (px_wr r3.2 x0 53 x1) (px_rd (px_wr r3.2 x0 53 x1) x0 54) ((px_rd (px_wr r3.2 x0 53 x1) x0 51)).toNat x1) x0 51) = true then
                                    if px_go (px_wr (px_wr (px_wr r3.2 x0 53 x1) (px_rd (px_wr r3.2 x0 53 x1) x0 54) ((px_rd (px_wr r3.2 x0 53 x1) x0 51)).toNat x1) (px_rd (px_wr (px_wr r3.2 x0 53 x1) (px_rd (px_wr r3.2 x0 53 x1) x0 54) ((px_rd (px_wr r3.2 x0 53 x1) x0 51)).toNat x1) x0 55) ((px_rd (px_wr (px_wr r3.2 x0 53 x1) (px_rd (px_wr r3.2 x0 53 x1) x0 54) ((px_rd (px_wr r3.2 x0 53 x1) x0 51)).toNat x1) x0 51)).toNat x2) x0 9 = true then
                                      if px_go (px_wr (px_wr (px_wr r3.2 x0 53 x1) (px_rd (px_wr r3.2 x0 53 x1) x0 54) ((px_rd (px_wr r3.2 x0 53 x1) x0 51)).toNat x1) (px_rd (px_wr (px_wr r3.2 x0 53 x1) (px_rd (px_wr r3.2 x0 53 x1) x0 54) ((px_rd (px_wr r3.2 x0 53 x1) x0 51)).toNat x1) x0 55) ((px_rd (px_wr (px_wr r3.2 x0 53 x1) (px_rd (px_wr r3.2 x0 53 x1) x0 54) ((px_rd (px_wr r3.2 x0 53 x1) x0 51)).toNat x1) x0 51)).toNat x2) x0 9 = true then
                                        if px_ga (px_wr (px_wr (px_wr r3.2 x0 53 x1) (px_rd (px_wr r3.2 x0 53 x1) x0 54) ((px_rd (px_wr r3.2 x0 53 x1) x0 51)).toNat x1) (px_rd (px_wr (px_wr r3.2 x0 53 x1) (px_rd (px_wr r3.2 x0 53 x1) x0 54) ((px_rd (px_wr r3.2 x0 53 x1) x0 51)).toNat x1) x0 55) ((px_rd (px_wr (px_wr r3.2 x0 53 x1) (px_rd (px_wr r3.2 x0 53 x1) x0 54) ((px_rd (px_wr r3.2 x0 53 x1) x0 51)).toNat x1) x0 51)).toNat x2) 0 (px_rd (px_wr (px_wr (px_wr r3.2 x0 53 x1) (px_rd (px_wr r3.2 x0 53 x1) x0 54) ((px_rd (px_wr r3.2 x0 53 x1) x0 51)).toNat x1) (px_rd (px_wr (px_wr r3.2 x0 53 x1) (px_rd (px_wr r3.2 x0 53 x1) x0 54) ((px_rd (px_wr r3.2 x0 53 x1) x0 51)).toNat x1) x0 55) ((px_rd (px_wr (px_wr r3.2 x0 53 x1) (px_rd (px_wr r3.2 x0 53 x1) x0 54) ((px_rd (px_wr r3.2 x0 53 x1) x0 51)).toNat x1) x0 51)).toNat x2) x0 56) (px_rd (px_wr (px_wr (px_wr r3.2 x0 53 x1) (px_rd (px_wr r3.2 x0 53 x1) x0 54) ((px_rd (px_wr r3.2 x0 53 x1) x0 51)).toNat x1) (px_rd (px_wr (px_wr r3.2 x0 53 x1) (px_rd (px_wr r3.2 x0 53 x1) x0 54) ((px_rd (px_wr r3.2 x0 53 x1) x0 51)).toNat x1) x0 55) ((px_rd (px_wr (px_wr r3.2 x0 53 x1) (px_rd (px_wr r3.2 x0 53 x1) x0 54) ((px_rd (px_wr r3.2 x0 53 x1) x0 51)).toNat x1) x0 51)).toNat x2) x0 51) = true then
                                          px_R (mm_Mod_write, 82, [(2, x0), (0, x1), (0, x2), (0, x3)], [], (px_wr (px_wr (px_wr (px_wr r3.2 x0 53 x1) (px_rd (px_wr r3.2 x0 53 x1) x0 54) ((px_rd (px_wr r3.2 x0 53 x1) x0 51)).toNat x1) (px_rd (px_wr (px_wr r3.2 x0 53 x1) (px_rd (px_wr r3.2 x0 53 x1) x0 54) ((px_rd (px_wr r3.2 x0 53 x1) x0 51)).toNat x1) x0 55) ((px_rd (px_wr (px_wr r3.2 x0 53 x1) (px_rd (px_wr r3.2 x0 53 x1) x0 54) ((px_rd (px_wr r3.2 x0 53 x1) x0 51)).toNat x1) x0 51)).toNat x2) (px_rd (px_wr (px_wr (px_wr r3.2 x0 53 x1) (px_rd (px_wr r3.2 x0 53 x1) x0 54) ((px_rd (px_wr r3.2 x0 53 x1) x0 51)).toNat x1) (px_rd (px_wr (px_wr r3.2 x0 53 x1) (px_rd (px_wr r3.2 x0 53 x1) x0 54) ((px_rd (px_wr r3.2 x0 53 x1) x0 51)).toNat x1) x0 55) ((px_rd (px_wr (px_wr r3.2 x0 53 x1) (px_rd (px_wr r3.2 x0 53 x1) x0 54) ((px_rd (px_wr r3.2 x0 53 x1) x0 51)).toNat x1) x0 51)).toNat x2) x0 56) ((px_rd (px_wr (px_wr (px_wr r3.2 x0 53 x1) (px_rd (px_wr r3.2 x0 53 x1) x0 54) ((px_rd (px_wr r3.2 x0 53 x1) x0 51)).toNat x1) (px_rd (px_wr (px_wr r3.2 x0 53 x1) (px_rd (px_wr r3.2 x0 53 x1) x0 54) ((px_rd (px_wr r3.2 x0 53 x1) x0 51)).toNat x1) x0 55) ((px_rd (px_wr (px_wr r3.2 x0 53 x1) (px_rd (px_wr r3.2 x0 53 x1) x0 54) ((px_rd (px_wr r3.2 x0 53 x1) x0 51)).toNat x1) x0 51)).toNat x2) x0 51)).toNat x3))
                                        else none
                                      else none
                                    else none
                                  else none
                                else none
                              else none
                            else none
                          else none
                        else none
                      else none
                  else none
              else none
          else none
    else none) := (px_Req mm_Mod_write 0 [(2, x0), (0, x1), (0, x2), (0, x3)] [] w).trans rfl
set_option maxRecDepth 100000 in
theorem eq_Mod_write_82 (x0 x1 x2 x3 : Int) (w : pw) : px_R (mm_Mod_write, 82, [(2, x0), (0, x1), (0, x2), (0, x3)], [], w) =
    (if px_go w x0 9 = true then
      if px_go w x0 9 = true then
        if px_go (px_wr w x0 51 (px_w ((px_rd w x0 51) + 1))) x0 9 = true then
          some ((px_w ((px_rd (px_wr w x0 51 (px_w ((px_rd w x0 51) + 1))) x0 51) - 1)), (px_wr w x0 51 (px_w ((px_rd w x0 51) + 1))))
        else none
      else none
    else none) := (px_Req mm_Mod_write 82 [(2, x0), (0, x1), (0, x2), (0, x3)] [] w).trans rfl
set_option maxRecDepth 100000 in
theorem eq_Taps_bits_0 (x0 : Int) (w : pw) : px_R (mm_Taps_bits, 0, [(0, x0), (9, 0), (9, 0), (9, 0), (9, 0)], [], w) =
    ((px_R (mm_Taps_beats, 0, [(0, x0), (9, 0), (9, 0)], [], w)).bind fun r1 =>
      (px_R (mm_Taps_place, 0, [(0, x0), (9, 0), (9, 0)], [], r1.2)).bind fun r2 =>
        px_R (mm_Taps_bits, 12, [(0, x0), (0, r1.1), (0, r2.1), (0, 0), (9, 0)], [], r2.2)) := (px_Req mm_Taps_bits 0 [(0, x0), (9, 0), (9, 0), (9, 0), (9, 0)] [] w).trans rfl
set_option maxRecDepth 100000 in
theorem eq_Taps_bits_12 (x0 x1 x2 x3 : Int) (y4 : pv) (w : pw) : px_R (mm_Taps_bits, 12, [(0, x0), (0, x1), (0, x2), (0, x3), y4], [], w) =
    (if 0 < x1 then
      if px_gl (px_sar 3) (px_w (x1 - 1)) = true then
        if x2 < (px_lst (px_sar 3) ((px_w (x1 - 1))).toNat) then
          px_R (mm_Taps_bits, 32, [(0, x0), (0, x1), (0, x2), (0, x3), y4], [(0, 0)], w)
        else
          px_R (mm_Taps_bits, 32, [(0, x0), (0, x1), (0, x2), (0, x3), y4], [(0, 1)], w)
      else none
    else
      some (x3, w)) := (px_Req mm_Taps_bits 12 [(0, x0), (0, x1), (0, x2), (0, x3), y4] [] w).trans rfl
set_option maxRecDepth 100000 in
theorem eq_Taps_bits_32 (x0 x1 x2 x3 s0 : Int) (y4 : pv) (w : pw) : px_R (mm_Taps_bits, 32, [(0, x0), (0, x1), (0, x2), (0, x3), y4], [(0, s0)], w) =
    (if s0 = 0 then
      if s0 = 0 then
        px_R (mm_Taps_bits, 62, [(0, x0), (0, x1), (0, x2), (0, x3), (0, s0)], [(0, 0), (0, (px_w (x3 * 2)))], w)
      else
        px_R (mm_Taps_bits, 62, [(0, x0), (0, x1), (0, x2), (0, x3), (0, s0)], [(0, 1), (0, (px_w (x3 * 2)))], w)
    else
      if px_gl (px_sar 3) (px_w (x1 - 1)) = true then
        if s0 = 0 then
          px_R (mm_Taps_bits, 62, [(0, x0), (0, x1), (0, (px_w (x2 - (px_lst (px_sar 3) ((px_w (x1 - 1))).toNat)))), (0, x3), (0, s0)], [(0, 0), (0, (px_w (x3 * 2)))], w)
        else
          px_R (mm_Taps_bits, 62, [(0, x0), (0, x1), (0, (px_w (x2 - (px_lst (px_sar 3) ((px_w (x1 - 1))).toNat)))), (0, x3), (0, s0)], [(0, 1), (0, (px_w (x3 * 2)))], w)
      else none) := (px_Req mm_Taps_bits 32 [(0, x0), (0, x1), (0, x2), (0, x3), y4] [(0, s0)] w).trans rfl
set_option maxRecDepth 100000 in
theorem eq_Taps_bits_62 (x0 x1 x2 x3 x4 s0 s1 : Int) (w : pw) : px_R (mm_Taps_bits, 62, [(0, x0), (0, x1), (0, x2), (0, x3), (0, x4)], [(0, s1), (0, s0)], w) =
    (if x4 = 0 then
      px_R (mm_Taps_bits, 12, [(0, x0), (0, (px_w (x1 - 1))), (0, x2), (0, (px_w (s0 + s1))), (0, x4)], [], w)
    else
      px_R (mm_Taps_bits, 12, [(0, x0), (0, (px_w (x1 - 2))), (0, x2), (0, (px_w (s0 + s1))), (0, x4)], [], w)) := (px_Req mm_Taps_bits 62 [(0, x0), (0, x1), (0, x2), (0, x3), (0, x4)] [(0, s1), (0, s0)] w).trans rfl
set_option maxRecDepth 100000 in
theorem eq_Taps_together_0 (x0 x1 : Int) (w : pw) : px_R (mm_Taps_together, 0, [(2, x0), (0, x1), (9, 0), (9, 0), (9, 0), (9, 0)], [], w) =
    (px_R (mm_Taps_together, 4, [(2, x0), (0, x1), (0, 0), (0, 0), (9, 0), (9, 0)], [], w)) := (px_Req mm_Taps_together 0 [(2, x0), (0, x1), (9, 0), (9, 0), (9, 0), (9, 0)] [] w).trans rfl
set_option maxRecDepth 100000 in
theorem eq_Taps_together_4 (x0 x1 x2 x3 : Int) (y4 y5 : pv) (w : pw) : px_R (mm_Taps_together, 4, [(2, x0), (0, x1), (0, x2), (0, x3), y4, y5], [], w) =
    (if x3 < x1 then
      px_R (mm_Taps_together, 14, [(2, x0), (0, x1), (0, x2), (0, x3), (0, (px_w (x3 + 1))), y5], [], w)
    else
      some (x2, w)) := (px_Req mm_Taps_together 4 [(2, x0), (0, x1), (0, x2), (0, x3), y4, y5] [] w).trans rfl
set_option maxRecDepth 100000 in
theorem eq_Taps_together_14 (x0 x1 x2 x3 x4 : Int) (y5 : pv) (w : pw) : px_R (mm_Taps_together, 14, [(2, x0), (0, x1), (0, x2), (0, x3), (0, x4), y5], [], w) =
    (if x4 < x1 then
      if px_ga w 0 x0 x4 = true then
        if px_ga w 0 x0 x3 = true then
          if (px_rd w x0 (x3).toNat) < (px_rd w x0 (x4).toNat) then
            if px_ga w 0 x0 x3 = true then
              if px_ga w 0 x0 x4 = true then
                if px_ga w 0 x0 x3 = true then
                  if px_ga (px_wr w x0 (x3).toNat (px_rd w x0 (x4).toNat)) 0 x0 x4 = true then
                    px_R (mm_Taps_together, 14, [(2, x0), (0, x1), (0, x2), (0, x3), (0, (px_w (x4 + 1))), (0, (px_rd w x0 (x3).toNat))], [], (px_wr (px_wr w x0 (x3).toNat (px_rd w x0 (x4).toNat)) x0 (x4).toNat (px_rd w x0 (x3).toNat)))
                  else none
                else none
              else none
            else none
          else
            px_R (mm_Taps_together, 14, [(2, x0), (0, x1), (0, x2), (0, x3), (0, (px_w (x4 + 1))), y5], [], w)
        else none
      else none
    else
      if px_ga w 0 x0 x3 = true then
        (px_R (mm_Taps_lasts, 0, [(0, x3)], [], w)).bind fun r1 =>
          px_R (mm_Taps_together, 4, [(2, x0), (0, x1), (0, (px_w (x2 + (px_w ((px_rd w x0 (x3).toNat) * r1.1))))), (0, (px_w (x3 + 1))), (0, x4), y5], [], r1.2)
      else none) := (px_Req mm_Taps_together 14 [(2, x0), (0, x1), (0, x2), (0, x3), (0, x4), y5] [] w).trans rfl
set_option maxRecDepth 100000 in
theorem eq_Ear_begin_0 (x0 x1 x2 : Int) (w : pw) : px_R (mm_Ear_begin, 0, [(2, x0), (2, x1), (2, x2), (9, 0), (9, 0), (9, 0)], [], w) =
    (if px_go w x1 5 = true then
      if px_ga w 0 (px_rd w x1 1) 2 = true then
        if px_go w x0 1 = true then
          if px_go (px_wr w x0 0 (px_rd w (px_rd w x1 1) 2)) x1 5 = true then
            (px_R (mm_Str_number, 0, [(2, x1), (0, 8), (0, 0), (0, 0)], [], (px_wr w x0 0 (px_rd w (px_rd w x1 1) 2)))).bind fun r1 =>
            if px_go r1.2 x0 1 = true then
              if px_go (px_wr r1.2 x0 1 r1.1) x2 2 = true then
                (px_R (mm_Line_handsOn, 0, [(2, x2), (2, x1), (9, 0)], [], (px_wr r1.2 x0 1 r1.1))).bind fun r2 =>
                px_R (mm_Ear_begin, 31, [(2, x0), (2, x1), (2, x2), (0, r2.1), (0, 0), (9, 0)], [], r2.2)
              else none
            else none
          else none
        else none
      else none
    else none) := (px_Req mm_Ear_begin 0 [(2, x0), (2, x1), (2, x2), (9, 0), (9, 0), (9, 0)] [] w).trans rfl
set_option maxRecDepth 100000 in
theorem eq_Ear_begin_31 (x0 x1 x2 x3 x4 : Int) (y5 : pv) (w : pw) : px_R (mm_Ear_begin, 31, [(2, x0), (2, x1), (2, x2), (0, x3), (0, x4), y5], [], w) =
    (if px_go w x0 1 = true then
      if x4 < (px_rd w x0 0) then
        px_R (mm_Ear_begin, 43, [(2, x0), (2, x1), (2, x2), (0, x3), (0, x4), (0, 0)], [], w)
      else
        some (0, w)
    else none) := (px_Req mm_Ear_begin 31 [(2, x0), (2, x1), (2, x2), (0, x3), (0, x4), y5] [] w).trans rfl
set_option maxRecDepth 100000 in
theorem eq_Ear_begin_43 (x0 x1 x2 x3 x4 x5 : Int) (w : pw) : px_R (mm_Ear_begin, 43, [(2, x0), (2, x1), (2, x2), (0, x3), (0, x4), (0, x5)], [], w) =
    (if x5 < 4 then
      if px_go w x0 1 = true then
        if (px_ga w 4 (px_rd w x0 3) x4 || (px_ga w 5 (px_rd w x0 3) x4 || px_ga w 6 (px_rd w x0 3) x4)) = true then
          if px_go w x1 5 = true then
            (px_R (mm_Str_ofBand, 0, [(2, x1), (0, 2), (0, x4), (0, x5), (9, 0)], [], w)).bind fun r3 =>
            if px_go r3.2 x2 2 = true then
              (px_R (mm_Line_enters, 0, [(2, x2), (2, x1), (0, x3), (0, r3.1), (0, x5), (9, 0)], [], r3.2)).bind fun r4 =>
              if px_ga r4.2 0 (px_rd w (px_rd w x0 3) (x4).toNat) x5 = true then
                px_R (mm_Ear_begin, 43, [(2, x0), (2, x1), (2, x2), (0, x3), (0, x4), (0, (px_w (x5 + 1)))], [], (px_wr r4.2 (px_rd w (px_rd w x0 3) (x4).toNat) (x5).toNat r4.1))
              else none
            else none
          else none
        else none
      else none
    else
      px_R (mm_Ear_begin, 31, [(2, x0), (2, x1), (2, x2), (0, x3), (0, (px_w (x4 + 1))), (0, x5)], [], w)) := (px_Req mm_Ear_begin 43 [(2, x0), (2, x1), (2, x2), (0, x3), (0, x4), (0, x5)] [] w).trans rfl
set_option maxRecDepth 100000 in
theorem eq_Ear_goOn_0 (x0 x1 x2 x3 : Int) (w : pw) : px_R (mm_Ear_goOn, 0, [(2, x0), (2, x1), (2, x2), (0, x3), (9, 0), (9, 0), (9, 0), (9, 0)], [], w) =
    (px_R (mm_Ear_goOn, 6, [(2, x0), (2, x1), (2, x2), (0, x3), (0, 0), (0, 0), (9, 0), (9, 0)], [], w)) := (px_Req mm_Ear_goOn 0 [(2, x0), (2, x1), (2, x2), (0, x3), (9, 0), (9, 0), (9, 0), (9, 0)] [] w).trans rfl
set_option maxRecDepth 100000 in
theorem eq_Ear_goOn_6 (x0 x1 x2 x3 x4 x5 : Int) (y6 y7 : pv) (w : pw) : px_R (mm_Ear_goOn, 6, [(2, x0), (2, x1), (2, x2), (0, x3), (0, x4), (0, x5), y6, y7], [], w) =
    (if px_go w x0 1 = true then
      if x5 < (px_rd w x0 0) then
        px_R (mm_Ear_goOn, 18, [(2, x0), (2, x1), (2, x2), (0, x3), (0, x4), (0, x5), (0, 0), y7], [], w)
      else
        if (decide (0 ≤ x4) && decide (x4 < 2)) = true then some (x4, w) else none
    else none) := (px_Req mm_Ear_goOn 6 [(2, x0), (2, x1), (2, x2), (0, x3), (0, x4), (0, x5), y6, y7] [] w).trans rfl
set_option maxRecDepth 100000 in
theorem eq_Ear_goOn_18 (x0 x1 x2 x3 x4 x5 x6 : Int) (y7 : pv) (w : pw) : px_R (mm_Ear_goOn, 18, [(2, x0), (2, x1), (2, x2), (0, x3), (0, x4), (0, x5), (0, x6), y7], [], w) =
    (if x6 < 4 then
      if px_go w x0 1 = true then
        if (px_ga w 4 (px_rd w x0 3) x5 || (px_ga w 5 (px_rd w x0 3) x5 || px_ga w 6 (px_rd w x0 3) x5)) = true then
          if px_go w x0 1 = true then
            if (px_ga w 4 (px_rd w x0 3) x5 || (px_ga w 5 (px_rd w x0 3) x5 || px_ga w 6 (px_rd w x0 3) x5)) = true then
              if px_ga w 0 (px_rd w (px_rd w x0 3) (x5).toNat) x6 = true then
                if px_go w x2 2 = true then
                  (px_R (mm_Line_overYards, 0, [(2, x2), (2, x1), (0, (px_rd w (px_rd w (px_rd w x0 3) (x5).toNat) (x6).toNat)), (0, x6), (0, x3), (9, 0), (9, 0), (9, 0)], [], w)).bind fun r1 =>
                  if px_ga r1.2 0 (px_rd w (px_rd w x0 3) (x5).toNat) x6 = true then
                    if px_go (px_wr r1.2 (px_rd w (px_rd w x0 3) (x5).toNat) (x6).toNat r1.1) x0 1 = true then
                      if (px_ga (px_wr r1.2 (px_rd w (px_rd w x0 3) (x5).toNat) (x6).toNat r1.1) 4 (px_rd (px_wr r1.2 (px_rd w (px_rd w x0 3) (x5).toNat) (x6).toNat r1.1) x0 3) x5 || (px_ga (px_wr r1.2 (px_rd w (px_rd w x0 3) (x5).toNat) (x6).toNat r1.1) 5 (px_rd (px_wr r1.2 (px_rd w (px_rd w x0 3) (x5).toNat) (x6).toNat r1.1) x0 3) x5 || px_ga (px_wr r1.2 (px_rd w (px_rd w x0 3) (x5).toNat) (x6).toNat r1.1) 6 (px_rd (px_wr r1.2 (px_rd w (px_rd w x0 3) (x5).toNat) (x6).toNat r1.1) x0 3) x5)) = true then
                        if px_ga (px_wr r1.2 (px_rd w (px_rd w x0 3) (x5).toNat) (x6).toNat r1.1) 0 (px_rd (px_wr r1.2 (px_rd w (px_rd w x0 3) (x5).toNat) (x6).toNat r1.1) (px_rd (px_wr r1.2 (px_rd w (px_rd w x0 3) (x5).toNat) (x6).toNat r1.1) x0 3) (x5).toNat) x6 = true then
                          if px_go (px_wr r1.2 (px_rd w (px_rd w x0 3) (x5).toNat) (x6).toNat r1.1) x2 2 = true then
                            (px_R (mm_Line_leaves, 0, [(2, x2), (2, x1), (0, (px_rd (px_wr r1.2 (px_rd w (px_rd w x0 3) (x5).toNat) (x6).toNat r1.1) (px_rd (px_wr r1.2 (px_rd w (px_rd w x0 3) (x5).toNat) (x6).toNat r1.1) (px_rd (px_wr r1.2 (px_rd w (px_rd w x0 3) (x5).toNat) (x6).toNat r1.1) x0 3) (x5).toNat) (x6).toNat)), (0, x6)], [], (px_wr r1.2 (px_rd w (px_rd w x0 3) (x5).toNat) (x6).toNat r1.1))).bind fun r2 =>
                            (px_R (mm_Line_asLevel, 0, [(0, r2.1)], [], r2.2)).bind fun r3 =>
                              if x4 = 0 then
                                if px_go r3.2 x0 1 = true then
                                  if (px_ga r3.2 4 (px_rd r3.2 x0 2) x5 || (px_ga r3.2 5 (px_rd r3.2 x0 2) x5 || px_ga r3.2 6 (px_rd r3.2 x0 2) x5)) = true then
                                    if px_ga r3.2 0 (px_rd r3.2 (px_rd r3.2 x0 2) (x5).toNat) x6 = true then
                                      if r3.1 = (px_rd r3.2 (px_rd r3.2 (px_rd r3.2 x0 2) (x5).toNat) (x6).toNat) then
                                        if px_go r3.2 x0 1 = true then
                                          if (px_ga r3.2 4 (px_rd r3.2 x0 2) x5 || (px_ga r3.2 5 (px_rd r3.2 x0 2) x5 || px_ga r3.2 6 (px_rd r3.2 x0 2) x5)) = true then
                                            if px_ga r3.2 0 (px_rd r3.2 (px_rd r3.2 x0 2) (x5).toNat) x6 = true then
                                              px_R (mm_Ear_goOn, 18, [(2, x0), (2, x1), (2, x2), (0, x3), (0, 0), (0, x5), (0, (px_w (x6 + 1))), (0, r3.1)], [], (px_wr r3.2 (px_rd r3.2 (px_rd r3.2 x0 2) (x5).toNat) (x6).toNat r3.1))
                                            else none
                                          else none
                                        else none
                                      else
                                        if px_go r3.2 x0 1 = true then
                                          if (px_ga r3.2 4 (px_rd r3.2 x0 2) x5 || (px_ga r3.2 5 (px_rd r3.2 x0 2) x5 || px_ga r3.2 6 (px_rd r3.2 x0 2) x5)) = true then
                                            if px_ga r3.2 0 (px_rd r3.2 (px_rd r3.2 x0 2) (x5).toNat) x6 = true then
                                              px_R (mm_Ear_goOn, 18, [(2, x0), (2, x1), (2, x2), (0, x3), (0, 1), (0, x5), (0, (px_w (x6 + 1))), (0, r3.1)], [], (px_wr r3.2 (px_rd r3.2 (px_rd r3.2 x0 2) (x5).toNat) (x6).toNat r3.1))
                                            else none
                                          else none
                                        else none
                                    else none
                                  else none
                                else none
                              else
                                if px_go r3.2 x0 1 = true then
                                  if (px_ga r3.2 4 (px_rd r3.2 x0 2) x5 || (px_ga r3.2 5 (px_rd r3.2 x0 2) x5 || px_ga r3.2 6 (px_rd r3.2 x0 2) x5)) = true then
                                    if px_ga r3.2 0 (px_rd r3.2 (px_rd r3.2 x0 2) (x5).toNat) x6 = true then
                                      px_R (mm_Ear_goOn, 18, [(2, x0), (2, x1), (2, x2), (0, x3), (0, 1), (0, x5), (0, (px_w (x6 + 1))), (0, r3.1)], [], (px_wr r3.2 (px_rd r3.2 (px_rd r3.2 x0 2) (x5).toNat) (x6).toNat r3.1))
                                    else none
                                  else none
                                else none
                          else none
                        else none
                      else none
                    else none
                  else none
                else none
              else none
            else none
          else none
        else none
      else none
    else
      px_R (mm_Ear_goOn, 6, [(2, x0), (2, x1), (2, x2), (0, x3), (0, x4), (0, (px_w (x5 + 1))), (0, x6), y7], [], w)) := (px_Req mm_Ear_goOn 18 [(2, x0), (2, x1), (2, x2), (0, x3), (0, x4), (0, x5), (0, x6), y7] [] w).trans rfl
set_option maxRecDepth 100000 in
theorem eq_Ear_hear_0 (x0 x1 x2 x3 : Int) (w : pw) : px_R (mm_Ear_hear, 0, [(2, x0), (0, x1), (0, x2), (2, x3), (9, 0), (9, 0)], [], w) =
    (if px_go w x0 1 = true then
      (px_R (mm_Ear_thinkOf, 0, [(2, x0), (0, x2), (9, 0)], [], w)).bind fun r1 =>
      px_R (mm_Ear_hear, 8, [(2, x0), (0, x1), (0, x2), (2, x3), (0, 0), (9, 0)], [], r1.2)
    else none) := (px_Req mm_Ear_hear 0 [(2, x0), (0, x1), (0, x2), (2, x3), (9, 0), (9, 0)] [] w).trans rfl
set_option maxRecDepth 100000 in
theorem eq_Ear_hear_8 (x0 x1 x2 x3 x4 : Int) (w : pw) : px_R (mm_Ear_hear, 8, [(2, x0), (0, x1), (0, x2), (2, x3), (0, x4), (9, 0)], [], w) =
    (if Nat.ble (px_kd w x3).1 6 = true then
      if x4 < ((px_kd w x3).2 : Int) then
        if px_ga w 0 x3 x4 = true then
          px_R (mm_Ear_hear, 8, [(2, x0), (0, x1), (0, x2), (2, x3), (0, (px_w (x4 + 1))), (9, 0)], [], (px_wr w x3 (x4).toNat 0))
        else none
      else
        px_R (mm_Ear_hear, 29, [(2, x0), (0, x1), (0, x2), (2, x3), (0, 0), (9, 0)], [], w)
    else none) := (px_Req mm_Ear_hear 8 [(2, x0), (0, x1), (0, x2), (2, x3), (0, x4), (9, 0)] [] w).trans rfl
set_option maxRecDepth 100000 in
theorem eq_Ear_hear_29 (x0 x1 x2 x3 x4 : Int) (w : pw) : px_R (mm_Ear_hear, 29, [(2, x0), (0, x1), (0, x2), (2, x3), (0, x4), (9, 0)], [], w) =
    (if x4 < 4 then
      if px_go w x0 1 = true then
        (px_R (mm_Ear_spread, 0, [(2, x0), (0, x1), (0, x4), (9, 0), (9, 0), (9, 0), (9, 0)], [], w)).bind fun r2 =>
        px_R (mm_Ear_hear, 29, [(2, x0), (0, x1), (0, x2), (2, x3), (0, (px_w (x4 + 1))), (9, 0)], [], r2.2)
      else none
    else
      px_R (mm_Ear_hear, 51, [(2, x0), (0, x1), (0, x2), (2, x3), (0, 0), (9, 0)], [], w)) := (px_Req mm_Ear_hear 29 [(2, x0), (0, x1), (0, x2), (2, x3), (0, x4), (9, 0)] [] w).trans rfl
set_option maxRecDepth 100000 in
theorem eq_Ear_hear_51 (x0 x1 x2 x3 x4 : Int) (y5 : pv) (w : pw) : px_R (mm_Ear_hear, 51, [(2, x0), (0, x1), (0, x2), (2, x3), (0, x4), y5], [], w) =
    (if px_go w x0 1 = true then
      if px_ga w 0 (px_rd w x0 7) 0 = true then
        if x4 < (px_rd w (px_rd w x0 7) 0) then
          px_R (mm_Ear_hear, 65, [(2, x0), (0, x1), (0, x2), (2, x3), (0, x4), (0, 0)], [], w)
        else
          some (0, w)
      else none
    else none) := (px_Req mm_Ear_hear 51 [(2, x0), (0, x1), (0, x2), (2, x3), (0, x4), y5] [] w).trans rfl
set_option maxRecDepth 100000 in
theorem eq_Ear_hear_65 (x0 x1 x2 x3 x4 x5 : Int) (w : pw) : px_R (mm_Ear_hear, 65, [(2, x0), (0, x1), (0, x2), (2, x3), (0, x4), (0, x5)], [], w) =
    (if px_go w x0 1 = true then
      if px_ga w 0 (px_rd w x0 7) 1 = true then
        if x5 < (px_rd w (px_rd w x0 7) 1) then
          if px_go w x0 1 = true then
            if (px_ga w 4 (px_rd w x0 8) 0 || (px_ga w 5 (px_rd w x0 8) 0 || px_ga w 6 (px_rd w x0 8) 0)) = true then
              if px_ga w 1 (px_rd w (px_rd w x0 8) 0) x4 = true then
                if px_go w x0 1 = true then
                  if (px_ga w 4 (px_rd w x0 8) 1 || (px_ga w 5 (px_rd w x0 8) 1 || px_ga w 6 (px_rd w x0 8) 1)) = true then
                    if px_ga w 1 (px_rd w (px_rd w x0 8) 1) x5 = true then
                      if px_go w x0 1 = true then
                        if (px_ga w 4 (px_rd w x0 9) 0 || (px_ga w 5 (px_rd w x0 9) 0 || px_ga w 6 (px_rd w x0 9) 0)) = true then
                          if px_ga w 0 (px_rd w (px_rd w x0 9) 0) x4 = true then
                            if px_go w x0 1 = true then
                              if (px_ga w 4 (px_rd w x0 9) 1 || (px_ga w 5 (px_rd w x0 9) 1 || px_ga w 6 (px_rd w x0 9) 1)) = true then
                                if px_ga w 0 (px_rd w (px_rd w x0 9) 1) x5 = true then
                                  if px_go w x0 1 = true then
                                    (px_R (mm_Ear_hearRest, 0, [(2, x0), (1, (px_wl ((px_rd w (px_rd w (px_rd w x0 8) 0) (x4).toNat) + (px_rd w (px_rd w (px_rd w x0 8) 1) (x5).toNat)))), (9, 0), (0, (px_w ((px_rd w (px_rd w (px_rd w x0 9) 0) (x4).toNat) * (px_rd w (px_rd w (px_rd w x0 9) 1) (x5).toNat)))), (2, x3), (9, 0), (9, 0), (9, 0), (9, 0), (9, 0), (9, 0)], [], w)).bind fun r3 =>
                                    px_R (mm_Ear_hear, 65, [(2, x0), (0, x1), (0, x2), (2, x3), (0, x4), (0, (px_w (x5 + 1)))], [], r3.2)
                                  else none
                                else none
                              else none
                            else none
                          else none
                        else none
                      else none
                    else none
                  else none
                else none
              else none
            else none
          else none
        else
          px_R (mm_Ear_hear, 51, [(2, x0), (0, x1), (0, x2), (2, x3), (0, (px_w (x4 + 1))), (0, x5)], [], w)
      else none
    else none) := (px_Req mm_Ear_hear 65 [(2, x0), (0, x1), (0, x2), (2, x3), (0, x4), (0, x5)] [] w).trans rfl
set_option maxRecDepth 100000 in
theorem eq_Line_arrives_0 (x0 x1 x2 x3 : Int) (w : pw) : px_R (mm_Line_arrives, 0, [(2, x0), (2, x1), (0, x2), (0, x3)], [], w) =
    (if px_go w x0 2 = true then
      (px_R (mm_Line_handsOn, 0, [(2, x0), (2, x1), (9, 0)], [], w)).bind fun r1 =>
      if px_go r1.2 x0 2 = true then
        (px_R (mm_Line_enters, 0, [(2, x0), (2, x1), (0, r1.1), (0, x2), (0, x3), (9, 0)], [], r1.2)).bind fun r2 =>
        if px_go r2.2 x0 2 = true then
          if px_go r2.2 x0 2 = true then
            (px_R (mm_Line_overYards, 0, [(2, x0), (2, x1), (0, r2.1), (0, x3), (0, (px_rd r2.2 x0 2)), (9, 0), (9, 0), (9, 0)], [], r2.2)).bind fun r3 =>
            if px_go r3.2 x0 2 = true then
              (px_R (mm_Line_leaves, 0, [(2, x0), (2, x1), (0, r3.1), (0, x3)], [], r3.2)).bind fun r4 =>
              some (r4.1, r4.2)
            else none
          else none
        else none
      else none
    else none) := (px_Req mm_Line_arrives 0 [(2, x0), (2, x1), (0, x2), (0, x3)] [] w).trans rfl
set_option maxRecDepth 100000 in
theorem eq_Line_tiedOff_0 (x0 x1 x2 x3 x4 : Int) (w : pw) : px_R (mm_Line_tiedOff, 0, [(2, x0), (2, x1), (0, x2), (0, x3), (0, x4), (9, 0)], [], w) =
    (if px_go w x0 2 = true then
      (px_R (mm_Line_handsOn, 0, [(2, x0), (2, x1), (9, 0)], [], w)).bind fun r1 =>
      if px_go r1.2 x0 2 = true then
        (px_R (mm_Line_enters, 0, [(2, x0), (2, x1), (0, r1.1), (0, x3), (0, x4), (9, 0)], [], r1.2)).bind fun r2 =>
        if px_go r2.2 x0 2 = true then
          if px_go r2.2 x0 2 = true then
            (px_R (mm_Line_overYards, 0, [(2, x0), (2, x1), (0, r2.1), (0, x4), (0, (px_rd r2.2 x0 2)), (9, 0), (9, 0), (9, 0)], [], r2.2)).bind fun r3 =>
            if px_go r3.2 x0 2 = true then
              (px_R (mm_Line_overBends, 0, [(2, x0), (2, x1), (0, r3.1), (0, x4), (0, x2), (9, 0), (9, 0), (9, 0), (9, 0)], [], r3.2)).bind fun r4 =>
              if px_go r4.2 x0 2 = true then
                if px_ga r4.2 0 (px_rd r4.2 x0 7) x2 = true then
                  some ((px_w (Int.tdiv (px_w (r4.1 * (px_rd r4.2 (px_rd r4.2 x0 7) (x2).toNat))) 100)), r4.2)
                else none
              else none
            else none
          else none
        else none
      else none
    else none) := (px_Req mm_Line_tiedOff 0 [(2, x0), (2, x1), (0, x2), (0, x3), (0, x4), (9, 0)] [] w).trans rfl
set_option maxRecDepth 100000 in
theorem eq_Str_readName_0 (x0 x1 x2 : Int) (w : pw) : px_R (mm_Str_readName, 0, [(2, x0), (2, x1), (0, x2), (9, 0)], [], w) =
    (if px_go w x1 6 = true then
      (px_R (mm_Tape_readNext, 0, [(2, x1)], [], w)).bind fun r1 =>
      if px_go r1.2 x1 6 = true then
        if (px_rd r1.2 x1 2) = 2 then
          px_R (mm_Str_readName, 16, [(2, x0), (2, x1), (0, x2), (0, 0)], [], r1.2)
        else
          some (1, r1.2)
      else none
    else none) := (px_Req mm_Str_readName 0 [(2, x0), (2, x1), (0, x2), (9, 0)] [] w).trans rfl
set_option maxRecDepth 100000 in
theorem eq_Str_readName_16 (x0 x1 x2 x3 : Int) (w : pw) : px_R (mm_Str_readName, 16, [(2, x0), (2, x1), (0, x2), (0, x3)], [], w) =
    (if px_go w x0 5 = true then
      if px_ga w 0 (px_rd w x0 1) x2 = true then
        if x3 < (px_rd w (px_rd w x0 1) (x2).toNat) then
          if px_go w x0 5 = true then
            if (px_ga w 4 (px_rd w x0 2) x2 || (px_ga w 5 (px_rd w x0 2) x2 || px_ga w 6 (px_rd w x0 2) x2)) = true then
              if px_ga w 1 (px_rd w (px_rd w x0 2) (x2).toNat) x3 = true then
                if px_go w x1 6 = true then
                  if (px_cmp (px_rd w (px_rd w (px_rd w x0 2) (x2).toNat) (x3).toNat) (px_rd w x1 5)) = 0 then
                    some (3, w)
                  else
                    px_R (mm_Str_readName, 16, [(2, x0), (2, x1), (0, x2), (0, (px_w (x3 + 1)))], [], w)
                else none
              else none
            else none
          else none
        else
          if px_go w x0 5 = true then
            if (px_ga w 4 (px_rd w x0 2) x2 || (px_ga w 5 (px_rd w x0 2) x2 || px_ga w 6 (px_rd w x0 2) x2)) = true then
              if px_go w x0 5 = true then
                if px_ga w 0 (px_rd w x0 1) x2 = true then
                  if px_go w x1 6 = true then
                    if px_ga w 1 (px_rd w (px_rd w x0 2) (x2).toNat) (px_rd w (px_rd w x0 1) (x2).toNat) = true then
                      some (0, (px_wr w (px_rd w (px_rd w x0 2) (x2).toNat) ((px_rd w (px_rd w x0 1) (x2).toNat)).toNat (px_rd w x1 5)))
                    else none
                  else none
                else none
              else none
            else none
          else none
      else none
    else none) := (px_Req mm_Str_readName 16 [(2, x0), (2, x1), (0, x2), (0, x3)] [] w).trans rfl
set_option maxRecDepth 100000 in
theorem eq_Str_readNumber_0 (x0 x1 x2 x3 : Int) (w : pw) : px_R (mm_Str_readNumber, 0, [(2, x0), (2, x1), (0, x2), (0, x3), (9, 0), (9, 0), (9, 0), (9, 0), (9, 0)], [], w) =
    (if px_go w x1 6 = true then
      (px_R (mm_Tape_readNext, 0, [(2, x1)], [], w)).bind fun r1 =>
      if px_go r1.2 x1 6 = true then
        if (px_rd r1.2 x1 2) = 3 then
          if x3 = 0 then
            px_R (mm_Str_readNumber, 23, [(2, x0), (2, x1), (0, x2), (0, x3), (9, 0), (9, 0), (9, 0), (9, 0), (9, 0)], [(0, 1)], r1.2)
          else
            px_R (mm_Str_readNumber, 23, [(2, x0), (2, x1), (0, x2), (0, x3), (9, 0), (9, 0), (9, 0), (9, 0), (9, 0)], [(0, 0)], r1.2)
        else
          some (1, r1.2)
      else none
    else none) := (px_Req mm_Str_readNumber 0 [(2, x0), (2, x1), (0, x2), (0, x3), (9, 0), (9, 0), (9, 0), (9, 0), (9, 0)] [] w).trans rfl
set_option maxRecDepth 100000 in
theorem eq_Str_readNumber_23 (x0 x1 x2 x3 s0 : Int) (w : pw) : px_R (mm_Str_readNumber, 23, [(2, x0), (2, x1), (0, x2), (0, x3), (9, 0), (9, 0), (9, 0), (9, 0), (9, 0)], [(0, s0)], w) =
    (if s0 = 0 then
      px_R (mm_Str_readNumber, 44, [(2, x0), (2, x1), (0, x2), (0, x3), (0, s0), (9, 0), (9, 0), (9, 0), (9, 0)], [(0, 0)], w)
    else
      if x2 = 0 then
        px_R (mm_Str_readNumber, 44, [(2, x0), (2, x1), (0, x2), (0, x3), (0, s0), (9, 0), (9, 0), (9, 0), (9, 0)], [(0, 1)], w)
      else
        if x2 = 5 then
          px_R (mm_Str_readNumber, 44, [(2, x0), (2, x1), (0, x2), (0, x3), (0, s0), (9, 0), (9, 0), (9, 0), (9, 0)], [(0, 1)], w)
        else
          px_R (mm_Str_readNumber, 44, [(2, x0), (2, x1), (0, x2), (0, x3), (0, s0), (9, 0), (9, 0), (9, 0), (9, 0)], [(0, 0)], w)) := (px_Req mm_Str_readNumber 23 [(2, x0), (2, x1), (0, x2), (0, x3), (9, 0), (9, 0), (9, 0), (9, 0), (9, 0)] [(0, s0)] w).trans rfl
set_option maxRecDepth 100000 in
theorem eq_Str_readNumber_44 (x0 x1 x2 x3 x4 s0 : Int) (w : pw) : px_R (mm_Str_readNumber, 44, [(2, x0), (2, x1), (0, x2), (0, x3), (0, x4), (9, 0), (9, 0), (9, 0), (9, 0)], [(0, s0)], w) =
    (if x4 = 0 then
      if px_gl (px_sar 2) x2 = true then
        px_R (mm_Str_readNumber, 65, [(2, x0), (2, x1), (0, x2), (0, x3), (0, x4), (0, s0), (9, 0), (9, 0), (9, 0)], [(0, (px_lst (px_sar 2) (x2).toNat))], w)
      else none
    else
      if x2 = 0 then
        px_R (mm_Str_readNumber, 65, [(2, x0), (2, x1), (0, x2), (0, x3), (0, x4), (0, s0), (9, 0), (9, 0), (9, 0)], [(0, 99)], w)
      else
        if px_gl (px_sar 2) x2 = true then
          px_R (mm_Str_readNumber, 65, [(2, x0), (2, x1), (0, x2), (0, x3), (0, x4), (0, s0), (9, 0), (9, 0), (9, 0)], [(0, (px_lst (px_sar 2) (x2).toNat))], w)
        else none) := (px_Req mm_Str_readNumber 44 [(2, x0), (2, x1), (0, x2), (0, x3), (0, x4), (9, 0), (9, 0), (9, 0), (9, 0)] [(0, s0)] w).trans rfl
set_option maxRecDepth 100000 in
theorem eq_Str_readNumber_65 (x0 x1 x2 x3 x4 x5 s0 : Int) (w : pw) : px_R (mm_Str_readNumber, 65, [(2, x0), (2, x1), (0, x2), (0, x3), (0, x4), (0, x5), (9, 0), (9, 0), (9, 0)], [(0, s0)], w) =
    (if px_go w x1 6 = true then
      if (px_rd w x1 6) < x5 then
        some (2, w)
      else
        if px_go w x1 6 = true then
          if s0 < (px_rd w x1 6) then
            some (2, w)
          else
            if px_go w x0 5 = true then
              if px_ga w 0 (px_rd w x0 1) x2 = true then
                if px_go w x0 5 = true then
                  if (px_ga w 4 (px_rd w x0 3) x2 || (px_ga w 5 (px_rd w x0 3) x2 || px_ga w 6 (px_rd w x0 3) x2)) = true then
                    if px_go w x1 6 = true then
                      if px_ga w 0 (px_rd w (px_rd w x0 3) (x2).toNat) (px_w ((px_w ((px_rd w (px_rd w x0 1) (x2).toNat) * 5)) + x3)) = true then
                        if x3 = 1 then
                          if x2 = 3 then
                            px_R (mm_Str_readNumber, 132, [(2, x0), (2, x1), (0, x2), (0, x3), (0, x4), (0, x5), (0, s0), (0, (px_w ((px_rd w (px_rd w x0 1) (x2).toNat) * 5))), (9, 0)], [(0, 1)], (px_wr w (px_rd w (px_rd w x0 3) (x2).toNat) ((px_w ((px_w ((px_rd w (px_rd w x0 1) (x2).toNat) * 5)) + x3))).toNat (px_rd w x1 6)))
                          else
                            if x2 = 4 then
                              px_R (mm_Str_readNumber, 132, [(2, x0), (2, x1), (0, x2), (0, x3), (0, x4), (0, x5), (0, s0), (0, (px_w ((px_rd w (px_rd w x0 1) (x2).toNat) * 5))), (9, 0)], [(0, 1)], (px_wr w (px_rd w (px_rd w x0 3) (x2).toNat) ((px_w ((px_w ((px_rd w (px_rd w x0 1) (x2).toNat) * 5)) + x3))).toNat (px_rd w x1 6)))
                            else
                              px_R (mm_Str_readNumber, 132, [(2, x0), (2, x1), (0, x2), (0, x3), (0, x4), (0, x5), (0, s0), (0, (px_w ((px_rd w (px_rd w x0 1) (x2).toNat) * 5))), (9, 0)], [(0, 0)], (px_wr w (px_rd w (px_rd w x0 3) (x2).toNat) ((px_w ((px_w ((px_rd w (px_rd w x0 1) (x2).toNat) * 5)) + x3))).toNat (px_rd w x1 6)))
                        else
                          px_R (mm_Str_readNumber, 132, [(2, x0), (2, x1), (0, x2), (0, x3), (0, x4), (0, x5), (0, s0), (0, (px_w ((px_rd w (px_rd w x0 1) (x2).toNat) * 5))), (9, 0)], [(0, 0)], (px_wr w (px_rd w (px_rd w x0 3) (x2).toNat) ((px_w ((px_w ((px_rd w (px_rd w x0 1) (x2).toNat) * 5)) + x3))).toNat (px_rd w x1 6)))
                      else none
                    else none
                  else none
                else none
              else none
            else none
        else none
    else none) := (px_Req mm_Str_readNumber 65 [(2, x0), (2, x1), (0, x2), (0, x3), (0, x4), (0, x5), (9, 0), (9, 0), (9, 0)] [(0, s0)] w).trans rfl
set_option maxRecDepth 100000 in
theorem eq_Str_readNumber_132 (x0 x1 x2 x3 x4 x5 x6 x7 s0 : Int) (w : pw) : px_R (mm_Str_readNumber, 132, [(2, x0), (2, x1), (0, x2), (0, x3), (0, x4), (0, x5), (0, x6), (0, x7), (9, 0)], [(0, s0)], w) =
    (if s0 = 0 then
      some (0, w)
    else
      if px_go w x0 5 = true then
        if (px_ga w 4 (px_rd w x0 3) x2 || (px_ga w 5 (px_rd w x0 3) x2 || px_ga w 6 (px_rd w x0 3) x2)) = true then
          if px_ga w 0 (px_rd w (px_rd w x0 3) (x2).toNat) x7 = true then
            if px_go w x1 6 = true then
              if px_go w x0 5 = true then
                (px_R (mm_Str_isOneAt, 0, [(2, x0), (0, x2), (0, (px_rd w (px_rd w (px_rd w x0 3) (x2).toNat) (x7).toNat)), (0, (px_rd w x1 6)), (9, 0)], [], w)).bind fun r2 =>
                if r2.1 = 0 then
                  some (0, r2.2)
                else
                  some (3, r2.2)
              else none
            else none
          else none
        else none
      else none) := (px_Req mm_Str_readNumber 132 [(2, x0), (2, x1), (0, x2), (0, x3), (0, x4), (0, x5), (0, x6), (0, x7), (9, 0)] [(0, s0)] w).trans rfl
set_option maxRecDepth 100000 in
theorem eq_Tape_readNumbers_0 (x0 x1 x2 : Int) (w : pw) : px_R (mm_Tape_readNumbers, 0, [(2, x0), (2, x1), (0, x2), (9, 0), (9, 0)], [], w) =
    (if px_go w x0 6 = true then
      px_R (mm_Tape_readNumbers, 10, [(2, x0), (2, x1), (0, x2), (0, (-1)), (0, 0)], [], (px_wr w x0 4 0))
    else none) := (px_Req mm_Tape_readNumbers 0 [(2, x0), (2, x1), (0, x2), (9, 0), (9, 0)] [] w).trans rfl
set_option maxRecDepth 100000 in
theorem eq_Tape_readNumbers_10 (x0 x1 x2 x3 x4 : Int) (w : pw) : px_R (mm_Tape_readNumbers, 10, [(2, x0), (2, x1), (0, x2), (0, x3), (0, x4)], [], w) =
    (if x2 < x4 then
      px_R (mm_Tape_readNumbers, 71, [(2, x0), (2, x1), (0, x2), (0, x3), (0, x4)], [], w)
    else
      if px_go w x0 6 = true then
        (px_R (mm_Tape_readNext, 0, [(2, x0)], [], w)).bind fun r1 =>
        if px_go r1.2 x0 6 = true then
          if (px_rd r1.2 x0 2) = 0 then
            px_R (mm_Tape_readNumbers, 71, [(2, x0), (2, x1), (0, x2), (0, x4), (0, x4)], [], r1.2)
          else
            if px_go r1.2 x0 6 = true then
              if (px_rd r1.2 x0 2) = 3 then
                if x4 < x2 then
                  if Nat.ble (px_kd r1.2 x1).1 6 = true then
                    if x4 < ((px_kd r1.2 x1).2 : Int) then
                      if px_go r1.2 x0 6 = true then
                        if px_ga r1.2 0 x1 x4 = true then
                          px_R (mm_Tape_readNumbers, 10, [(2, x0), (2, x1), (0, x2), (0, x3), (0, (px_w (x4 + 1)))], [], (px_wr r1.2 x1 (x4).toNat (px_rd r1.2 x0 6)))
                        else none
                      else none
                    else
                      px_R (mm_Tape_readNumbers, 71, [(2, x0), (2, x1), (0, x2), (0, x3), (0, x4)], [], r1.2)
                  else none
                else
                  px_R (mm_Tape_readNumbers, 71, [(2, x0), (2, x1), (0, x2), (0, x3), (0, x4)], [], r1.2)
              else
                px_R (mm_Tape_readNumbers, 71, [(2, x0), (2, x1), (0, x2), (0, x3), (0, x4)], [], r1.2)
            else none
        else none
      else none) := (px_Req mm_Tape_readNumbers 10 [(2, x0), (2, x1), (0, x2), (0, x3), (0, x4)] [] w).trans rfl
set_option maxRecDepth 100000 in
theorem eq_Tape_readNumbers_71 (x0 x1 x2 x3 x4 : Int) (w : pw) : px_R (mm_Tape_readNumbers, 71, [(2, x0), (2, x1), (0, x2), (0, x3), (0, x4)], [], w) =
    (if px_go w x0 6 = true then
      some (x3, (px_wr w x0 1 0))
    else none) := (px_Req mm_Tape_readNumbers 71 [(2, x0), (2, x1), (0, x2), (0, x3), (0, x4)] [] w).trans rfl
set_option maxRecDepth 100000 in
theorem eq_Wish_search_0 (x0 x1 x2 : Int) (w : pw) : px_R (mm_Wish_search, 0, [(2, x0), (2, x1), (0, x2), (9, 0), (9, 0), (9, 0), (9, 0), (9, 0)], [], w) =
    (if px_go w x1 5 = true then
      if px_ga w 0 (px_rd w x1 1) 3 = true then
        px_R (mm_Wish_search, 16, [(2, x0), (2, x1), (0, x2), (0, (px_rd w (px_rd w x1 1) 3)), (0, 0), (0, 0), (0, 0), (9, 0)], [], w)
      else none
    else none) := (px_Req mm_Wish_search 0 [(2, x0), (2, x1), (0, x2), (9, 0), (9, 0), (9, 0), (9, 0), (9, 0)] [] w).trans rfl
set_option maxRecDepth 100000 in
theorem eq_Wish_search_16 (x0 x1 x2 x3 x4 x5 x6 : Int) (y7 : pv) (w : pw) : px_R (mm_Wish_search, 16, [(2, x0), (2, x1), (0, x2), (0, x3), (0, x4), (0, x5), (0, x6), y7], [], w) =
    (if x6 < x3 then
      px_R (mm_Wish_search, 28, [(2, x0), (2, x1), (0, x2), (0, x3), (0, x4), (0, x5), (0, x6), (0, (px_w (x6 + 1)))], [], w)
    else
      if px_go w x0 7 = true then
        if px_go (px_wr w x0 1 (-1)) x0 7 = true then
          px_R (mm_Wish_search, 117, [(2, x0), (2, x1), (0, x2), (0, x3), (0, x4), (0, x5), (0, 0), y7], [], (px_wr (px_wr w x0 1 (-1)) x0 2 (-1)))
        else none
      else none) := (px_Req mm_Wish_search 16 [(2, x0), (2, x1), (0, x2), (0, x3), (0, x4), (0, x5), (0, x6), y7] [] w).trans rfl
set_option maxRecDepth 100000 in
theorem eq_Wish_search_28 (x0 x1 x2 x3 x4 x5 x6 x7 : Int) (w : pw) : px_R (mm_Wish_search, 28, [(2, x0), (2, x1), (0, x2), (0, x3), (0, x4), (0, x5), (0, x6), (0, x7)], [], w) =
    (if x7 < x3 then
      if px_go w x0 7 = true then
        (px_R (mm_Wish_apart, 0, [(2, x1), (0, x6), (0, x7), (9, 0), (9, 0), (9, 0), (9, 0), (9, 0), (9, 0), (9, 0), (9, 0)], [], w)).bind fun r1 =>
          if px_ga r1.2 0 (px_rd w x0 3) x4 = true then
            if px_go (px_wr r1.2 (px_rd w x0 3) (x4).toNat r1.1) x0 7 = true then
              if px_ga (px_wr r1.2 (px_rd w x0 3) (x4).toNat r1.1) 0 (px_rd (px_wr r1.2 (px_rd w x0 3) (x4).toNat r1.1) x0 4) x4 = true then
                if px_go (px_wr (px_wr r1.2 (px_rd w x0 3) (x4).toNat r1.1) (px_rd (px_wr r1.2 (px_rd w x0 3) (x4).toNat r1.1) x0 4) (x4).toNat (px_or (px_shl 1 x6) (px_shl 1 x7))) x0 7 = true then
                  if px_ga (px_wr (px_wr r1.2 (px_rd w x0 3) (x4).toNat r1.1) (px_rd (px_wr r1.2 (px_rd w x0 3) (x4).toNat r1.1) x0 4) (x4).toNat (px_or (px_shl 1 x6) (px_shl 1 x7))) 0 (px_rd (px_wr (px_wr r1.2 (px_rd w x0 3) (x4).toNat r1.1) (px_rd (px_wr r1.2 (px_rd w x0 3) (x4).toNat r1.1) x0 4) (x4).toNat (px_or (px_shl 1 x6) (px_shl 1 x7))) x0 3) x4 = true then
                    if (px_rd (px_wr (px_wr r1.2 (px_rd w x0 3) (x4).toNat r1.1) (px_rd (px_wr r1.2 (px_rd w x0 3) (x4).toNat r1.1) x0 4) (x4).toNat (px_or (px_shl 1 x6) (px_shl 1 x7))) (px_rd (px_wr (px_wr r1.2 (px_rd w x0 3) (x4).toNat r1.1) (px_rd (px_wr r1.2 (px_rd w x0 3) (x4).toNat r1.1) x0 4) (x4).toNat (px_or (px_shl 1 x6) (px_shl 1 x7))) x0 3) (x4).toNat) = (-1) then
                      px_R (mm_Wish_search, 28, [(2, x0), (2, x1), (0, x2), (0, x3), (0, (px_w (x4 + 1))), (0, (px_or x5 (px_shl 1 x4))), (0, x6), (0, (px_w (x7 + 1)))], [], (px_wr (px_wr r1.2 (px_rd w x0 3) (x4).toNat r1.1) (px_rd (px_wr r1.2 (px_rd w x0 3) (x4).toNat r1.1) x0 4) (x4).toNat (px_or (px_shl 1 x6) (px_shl 1 x7))))
                    else
                      px_R (mm_Wish_search, 28, [(2, x0), (2, x1), (0, x2), (0, x3), (0, (px_w (x4 + 1))), (0, (px_or x5 0)), (0, x6), (0, (px_w (x7 + 1)))], [], (px_wr (px_wr r1.2 (px_rd w x0 3) (x4).toNat r1.1) (px_rd (px_wr r1.2 (px_rd w x0 3) (x4).toNat r1.1) x0 4) (x4).toNat (px_or (px_shl 1 x6) (px_shl 1 x7))))
                  else none
                else none
              else none
            else none
          else none
      else none
    else
      px_R (mm_Wish_search, 16, [(2, x0), (2, x1), (0, x2), (0, x3), (0, x4), (0, x5), (0, (px_w (x6 + 1))), (0, x7)], [], w)) := (px_Req mm_Wish_search 28 [(2, x0), (2, x1), (0, x2), (0, x3), (0, x4), (0, x5), (0, x6), (0, x7)] [] w).trans rfl
set_option maxRecDepth 100000 in
theorem eq_Wish_search_117 (x0 x1 x2 x3 x4 x5 x6 : Int) (y7 : pv) (w : pw) : px_R (mm_Wish_search, 117, [(2, x0), (2, x1), (0, x2), (0, x3), (0, x4), (0, x5), (0, x6), y7], [], w) =
    (if x6 < (px_shl 1 x4) then
      if (px_and x6 x5) = 0 then
        if px_go w x0 7 = true then
          (px_R (mm_Wish_yardsOf, 0, [(2, x0), (0, x6), (0, x4), (9, 0), (9, 0)], [], w)).bind fun r2 =>
          if px_go r2.2 x0 7 = true then
            if (px_rd r2.2 x0 1) = (-1) then
              px_R (mm_Wish_search, 161, [(2, x0), (2, x1), (0, x2), (0, x3), (0, x4), (0, x5), (0, x6), (0, r2.1)], [], r2.2)
            else
              if px_go r2.2 x0 7 = true then
                if r2.1 < (px_rd r2.2 x0 1) then
                  px_R (mm_Wish_search, 161, [(2, x0), (2, x1), (0, x2), (0, x3), (0, x4), (0, x5), (0, x6), (0, r2.1)], [], r2.2)
                else
                  px_R (mm_Wish_search, 117, [(2, x0), (2, x1), (0, x2), (0, x3), (0, x4), (0, x5), (0, (px_w (x6 + 1))), (0, r2.1)], [], r2.2)
              else none
          else none
        else none
      else
        px_R (mm_Wish_search, 117, [(2, x0), (2, x1), (0, x2), (0, x3), (0, x4), (0, x5), (0, (px_w (x6 + 1))), y7], [], w)
    else
      some (0, w)) := (px_Req mm_Wish_search 117 [(2, x0), (2, x1), (0, x2), (0, x3), (0, x4), (0, x5), (0, x6), y7] [] w).trans rfl
set_option maxRecDepth 100000 in
theorem eq_Wish_search_161 (x0 x1 x2 x3 x4 x5 x6 x7 : Int) (w : pw) : px_R (mm_Wish_search, 161, [(2, x0), (2, x1), (0, x2), (0, x3), (0, x4), (0, x5), (0, x6), (0, x7)], [], w) =
    (if px_go w x0 7 = true then
      (px_R (mm_Wish_grants, 0, [(2, x0), (0, x6), (0, x4), (0, x3), (0, x2), (9, 0)], [], w)).bind fun r3 =>
      if r3.1 = 0 then
        px_R (mm_Wish_search, 117, [(2, x0), (2, x1), (0, x2), (0, x3), (0, x4), (0, x5), (0, (px_w (x6 + 1))), (0, x7)], [], r3.2)
      else
        if px_go r3.2 x0 7 = true then
          if px_go (px_wr r3.2 x0 1 x7) x0 7 = true then
            px_R (mm_Wish_search, 117, [(2, x0), (2, x1), (0, x2), (0, x3), (0, x4), (0, x5), (0, (px_w (x6 + 1))), (0, x7)], [], (px_wr (px_wr r3.2 x0 1 x7) x0 2 x6))
          else none
        else none
    else none) := (px_Req mm_Wish_search 161 [(2, x0), (2, x1), (0, x2), (0, x3), (0, x4), (0, x5), (0, x6), (0, x7)] [] w).trans rfl
set_option maxRecDepth 100000 in
theorem eq_Tin_init_0 (x0 : Int) (w : pw) : px_R (mm_Tin_init, 0, [(2, x0), (9, 0)], [], w) =
    (if (!decide (x0 = 0)) = true then
      if px_go (px_al w (16, 7)) (w.1.length : Int) 6 = true then
        (px_R (mm_Tape_init, 0, [(2, (w.1.length : Int))], [], (px_al w (16, 7)))).bind fun r1 =>
        if px_go r1.2 x0 8 = true then
          if px_go (px_al (px_wr r1.2 x0 0 (w.1.length : Int)) (15, 4)) ((px_wr r1.2 x0 0 (w.1.length : Int)).1.length : Int) 5 = true then
            (px_R (mm_Str_init, 0, [(2, ((px_wr r1.2 x0 0 (w.1.length : Int)).1.length : Int))], [], (px_al (px_wr r1.2 x0 0 (w.1.length : Int)) (15, 4)))).bind fun r2 =>
            if px_go r2.2 x0 8 = true then
              px_R (mm_Tin_init, 30, [(2, x0), (9, 0)], [(2, ((px_wr r2.2 x0 8 ((px_wr r1.2 x0 0 (w.1.length : Int)).1.length : Int)).1.length : Int)), (2, x0)], (px_al (px_wr r2.2 x0 8 ((px_wr r1.2 x0 0 (w.1.length : Int)).1.length : Int)) (15, 4)))
            else none
          else none
        else none
      else none
    else none) := (px_Req mm_Tin_init 0 [(2, x0), (9, 0)] [] w).trans rfl
set_option maxRecDepth 100000 in
theorem eq_Tin_init_30 (x0 s0 s1 : Int) (w : pw) : px_R (mm_Tin_init, 30, [(2, x0), (9, 0)], [(2, s1), (2, s0)], w) =
    (if px_go w s1 5 = true then
      (px_R (mm_Str_init, 0, [(2, s1)], [], w)).bind fun r3 =>
      if px_go r3.2 s0 8 = true then
        if px_go (px_al (px_wr r3.2 s0 9 s1) (12, 8)) ((px_wr r3.2 s0 9 s1).1.length : Int) 2 = true then
          (px_R (mm_Line_init, 0, [(2, ((px_wr r3.2 s0 9 s1).1.length : Int))], [], (px_al (px_wr r3.2 s0 9 s1) (12, 8)))).bind fun r4 =>
          if px_go r4.2 x0 8 = true then
            if px_go (px_al (px_wr r4.2 x0 1 ((px_wr r3.2 s0 9 s1).1.length : Int)) (11, 10)) ((px_wr r4.2 x0 1 ((px_wr r3.2 s0 9 s1).1.length : Int)).1.length : Int) 1 = true then
              (px_R (mm_Ear_init, 0, [(2, ((px_wr r4.2 x0 1 ((px_wr r3.2 s0 9 s1).1.length : Int)).1.length : Int))], [], (px_al (px_wr r4.2 x0 1 ((px_wr r3.2 s0 9 s1).1.length : Int)) (11, 10)))).bind fun r5 =>
              px_R (mm_Tin_init, 56, [(2, x0), (9, 0)], [(2, ((px_wr r4.2 x0 1 ((px_wr r3.2 s0 9 s1).1.length : Int)).1.length : Int)), (2, x0)], r5.2)
            else none
          else none
        else none
      else none
    else none) := (px_Req mm_Tin_init 30 [(2, x0), (9, 0)] [(2, s1), (2, s0)] w).trans rfl
set_option maxRecDepth 100000 in
theorem eq_Tin_init_56 (x0 s0 s1 : Int) (w : pw) : px_R (mm_Tin_init, 56, [(2, x0), (9, 0)], [(2, s1), (2, s0)], w) =
    (if px_go w s0 8 = true then
      if px_go (px_al (px_wr w s0 2 s1) (17, 6)) ((px_wr w s0 2 s1).1.length : Int) 7 = true then
        (px_R (mm_Wish_init, 0, [(2, ((px_wr w s0 2 s1).1.length : Int))], [], (px_al (px_wr w s0 2 s1) (17, 6)))).bind fun r6 =>
        if px_go r6.2 x0 8 = true then
          if px_go (px_al (px_wr r6.2 x0 3 ((px_wr w s0 2 s1).1.length : Int)) (10, 15)) ((px_wr r6.2 x0 3 ((px_wr w s0 2 s1).1.length : Int)).1.length : Int) 0 = true then
            (px_R (mm_Book_init, 0, [(2, ((px_wr r6.2 x0 3 ((px_wr w s0 2 s1).1.length : Int)).1.length : Int))], [], (px_al (px_wr r6.2 x0 3 ((px_wr w s0 2 s1).1.length : Int)) (10, 15)))).bind fun r7 =>
            if px_go r7.2 x0 8 = true then
              px_R (mm_Tin_init, 81, [(2, x0), (9, 0)], [], (px_wr r7.2 x0 4 ((px_wr r6.2 x0 3 ((px_wr w s0 2 s1).1.length : Int)).1.length : Int)))
            else none
          else none
        else none
      else none
    else none) := (px_Req mm_Tin_init 56 [(2, x0), (9, 0)] [(2, s1), (2, s0)] w).trans rfl
set_option maxRecDepth 100000 in
theorem eq_Tin_init_81 (x0 : Int) (w : pw) : px_R (mm_Tin_init, 81, [(2, x0), (9, 0)], [], w) =
    (if px_go (px_al w (14, 8)) (w.1.length : Int) 4 = true then
      (px_R (mm_Row_init, 0, [(2, (w.1.length : Int))], [], (px_al w (14, 8)))).bind fun r8 =>
      if px_go r8.2 x0 8 = true then
        if px_go (px_al (px_wr r8.2 x0 5 (w.1.length : Int)) (6, 3)) x0 8 = true then
          px_R (mm_Tin_init, 102, [(2, x0), (0, 0)], [], (px_wr (px_al (px_wr r8.2 x0 5 (w.1.length : Int)) (6, 3)) x0 6 ((px_wr r8.2 x0 5 (w.1.length : Int)).1.length : Int)))
        else none
      else none
    else none) := (px_Req mm_Tin_init 81 [(2, x0), (9, 0)] [] w).trans rfl
set_option maxRecDepth 100000 in
theorem eq_Tin_init_102 (x0 x1 : Int) (w : pw) : px_R (mm_Tin_init, 102, [(2, x0), (0, x1)], [], w) =
    (if x1 < 3 then
      if px_go w x0 8 = true then
        if px_go (px_al w (14, 8)) (w.1.length : Int) 4 = true then
          (px_R (mm_Row_init, 0, [(2, (w.1.length : Int))], [], (px_al w (14, 8)))).bind fun r9 =>
          if (px_ga r9.2 6 (px_rd w x0 6) x1 && px_go r9.2 (w.1.length : Int) 4) = true then
            px_R (mm_Tin_init, 102, [(2, x0), (0, (px_w (x1 + 1)))], [], (px_wr r9.2 (px_rd w x0 6) (x1).toNat (w.1.length : Int)))
          else none
        else none
      else none
    else
      if px_go (px_al w (0, 16)) x0 8 = true then
        if px_go (px_wr (px_al w (0, 16)) x0 7 (w.1.length : Int)) x0 8 = true then
          if px_go (px_wr (px_wr (px_al w (0, 16)) x0 7 (w.1.length : Int)) x0 10 0) x0 8 = true then
            px_R (mm_Tin_init, 144, [(2, x0), (0, x1)], [], (px_wr (px_wr (px_wr (px_al w (0, 16)) x0 7 (w.1.length : Int)) x0 10 0) x0 11 (-1)))
          else none
        else none
      else none) := (px_Req mm_Tin_init 102 [(2, x0), (0, x1)] [] w).trans rfl
set_option maxRecDepth 100000 in
theorem eq_Tin_init_144 (x0 x1 : Int) (w : pw) : px_R (mm_Tin_init, 144, [(2, x0), (0, x1)], [], w) =
    (if px_go w x0 8 = true then
      if px_go w (px_rd w x0 5) 4 = true then
        (px_R (mm_Row_lay, 0, [(2, (px_rd w x0 5)), (0, 2), (9, 0)], [], w)).bind fun r10 =>
        some (0, r10.2)
      else none
    else none) := (px_Req mm_Tin_init 144 [(2, x0), (0, x1)] [] w).trans rfl
set_option maxRecDepth 100000 in
theorem eq_Tin_bears_0 (x0 x1 : Int) (w : pw) : px_R (mm_Tin_bears, 0, [(2, x0), (0, x1)], [], w) =
    ((px_R (mm_Tin_within, 0, [(0, x1), (0, 0), (0, 4)], [], w)).bind fun r1 =>
      if r1.1 = 0 then
        some ((-2), r1.2)
      else
        if px_go r1.2 x0 8 = true then
          if px_go r1.2 (px_rd r1.2 x0 8) 5 = true then
            if px_ga r1.2 0 (px_rd r1.2 (px_rd r1.2 x0 8) 1) 0 = true then
              if (px_rd r1.2 (px_rd r1.2 (px_rd r1.2 x0 8) 1) 0) = 0 then
                some ((-4), r1.2)
              else
                if x1 = 0 then
                  if px_go r1.2 x0 8 = true then
                    if px_go r1.2 x0 8 = true then
                      if px_go r1.2 (px_rd r1.2 x0 1) 2 = true then
                        (px_R (mm_Line_strength, 0, [(2, (px_rd r1.2 x0 1)), (2, (px_rd r1.2 x0 8)), (9, 0)], [], r1.2)).bind fun r2 =>
                        some (r2.1, r2.2)
                      else none
                    else none
                  else none
                else if x1 = 1 then
                  if px_go r1.2 x0 8 = true then
                    if px_go r1.2 x0 8 = true then
                      if px_go r1.2 (px_rd r1.2 x0 1) 2 = true then
                        (px_R (mm_Line_handsOn, 0, [(2, (px_rd r1.2 x0 1)), (2, (px_rd r1.2 x0 8)), (9, 0)], [], r1.2)).bind fun r3 =>
                        some (r3.1, r3.2)
                      else none
                    else none
                  else none
                else if x1 = 2 then
                  if px_go r1.2 x0 8 = true then
                    if px_go r1.2 x0 8 = true then
                      if px_go r1.2 (px_rd r1.2 x0 1) 2 = true then
                        (px_R (mm_Line_snaps, 0, [(2, (px_rd r1.2 x0 1)), (2, (px_rd r1.2 x0 8))], [], r1.2)).bind fun r4 =>
                        if r4.1 = 0 then
                          some (0, r4.2)
                        else
                          some (1, r4.2)
                      else none
                    else none
                  else none
                else if x1 = 3 then
                  if px_go r1.2 x0 8 = true then
                    if px_go r1.2 (px_rd r1.2 x0 1) 2 = true then
                      some ((px_rd r1.2 (px_rd r1.2 x0 1) 4), r1.2)
                    else none
                  else none
                else 
                  if px_go r1.2 x0 8 = true then
                    if px_go r1.2 (px_rd r1.2 x0 1) 2 = true then
                      some ((px_rd r1.2 (px_rd r1.2 x0 1) 6), r1.2)
                    else none
                  else none
            else none
          else none
        else none) := (px_Req mm_Tin_bears 0 [(2, x0), (0, x1)] [] w).trans rfl
set_option maxRecDepth 100000 in
theorem eq_Tin_send_0 (x0 x1 x2 : Int) (w : pw) : px_R (mm_Tin_send, 0, [(2, x0), (0, x1), (0, x2)], [], w) =
    ((px_R (mm_Tin_within, 0, [(0, x1), (0, 0), (0, 1)], [], w)).bind fun r1 =>
      if r1.1 = 0 then
        some ((-2), r1.2)
      else
        (px_R (mm_Tin_within, 0, [(0, x2), (0, (-9999)), (0, 9999)], [], r1.2)).bind fun r2 =>
          if r2.1 = 0 then
            some ((-2), r2.2)
          else
            if px_go r2.2 x0 8 = true then
              if px_go r2.2 (px_rd r2.2 x0 5) 4 = true then
                (px_R (mm_Row_pullAt, 0, [(2, (px_rd r2.2 x0 5)), (0, x1), (0, x2)], [], r2.2)).bind fun r3 =>
                some (r3.1, r3.2)
              else none
            else none) := (px_Req mm_Tin_send 0 [(2, x0), (0, x1), (0, x2)] [] w).trans rfl
set_option maxRecDepth 100000 in
theorem eq_Tin_tick_0 (x0 x1 : Int) (w : pw) : px_R (mm_Tin_tick, 0, [(2, x0), (0, x1), (9, 0)], [], w) =
    ((px_R (mm_Tin_within, 0, [(0, x1), (0, 0), (0, 400)], [], w)).bind fun r1 =>
      if r1.1 = 0 then
        some ((-2), r1.2)
      else
        px_R (mm_Tin_tick, 16, [(2, x0), (0, x1), (0, 0)], [], r1.2)) := (px_Req mm_Tin_tick 0 [(2, x0), (0, x1), (9, 0)] [] w).trans rfl
set_option maxRecDepth 100000 in
theorem eq_Tin_tick_16 (x0 x1 x2 : Int) (w : pw) : px_R (mm_Tin_tick, 16, [(2, x0), (0, x1), (0, x2)], [], w) =
    (if x2 < x1 then
      if px_go w x0 8 = true then
        if px_go w (px_rd w x0 5) 4 = true then
          (px_R (mm_Row_move, 0, [(2, (px_rd w x0 5)), (9, 0), (9, 0), (9, 0), (9, 0)], [], w)).bind fun r2 =>
          px_R (mm_Tin_tick, 16, [(2, x0), (0, x1), (0, (px_w (x2 + 1)))], [], r2.2)
        else none
      else none
    else
      if px_go w x0 8 = true then
        if px_go w (px_rd w x0 5) 4 = true then
          some ((px_rd w (px_rd w x0 5) 1), w)
        else none
      else none) := (px_Req mm_Tin_tick 16 [(2, x0), (0, x1), (0, x2)] [] w).trans rfl
set_option maxRecDepth 100000 in
theorem eq_Tin_wish_0 (x0 x1 x2 : Int) (w : pw) : px_R (mm_Tin_wish, 0, [(2, x0), (0, x1), (0, x2)], [], w) =
    (if px_go w x0 8 = true then
      (px_R (mm_Tin_isPair, 0, [(2, x0), (0, x1), (0, x2)], [], w)).bind fun r1 =>
      if r1.1 = 0 then
        some ((-2), r1.2)
      else
        if px_go r1.2 x0 8 = true then
          if px_go r1.2 x0 8 = true then
            if px_go r1.2 (px_rd r1.2 x0 8) 5 = true then
              if px_ga r1.2 0 (px_rd r1.2 (px_rd r1.2 x0 8) 1) 3 = true then
                (px_R (mm_Wish_pairOf, 0, [(0, (px_mn x1 x2)), (0, (px_mx x1 x2)), (0, (px_rd r1.2 (px_rd r1.2 (px_rd r1.2 x0 8) 1) 3))], [], r1.2)).bind fun r2 =>
                  if px_go r2.2 (px_rd r1.2 x0 3) 7 = true then
                    (px_R (mm_Wish_add, 0, [(2, (px_rd r1.2 x0 3)), (0, r2.1)], [], r2.2)).bind fun r3 =>
                    some (r3.1, r3.2)
                  else none
              else none
            else none
          else none
        else none
    else none) := (px_Req mm_Tin_wish 0 [(2, x0), (0, x1), (0, x2)] [] w).trans rfl
set_option maxRecDepth 100000 in
theorem eq_Tin_yards_0 (x0 x1 x2 : Int) (w : pw) : px_R (mm_Tin_yards, 0, [(2, x0), (0, x1), (0, x2)], [], w) =
    (if px_go w x0 8 = true then
      (px_R (mm_Tin_isPair, 0, [(2, x0), (0, x1), (0, x2)], [], w)).bind fun r1 =>
      if r1.1 = 0 then
        some ((-2), r1.2)
      else
        if px_go r1.2 x0 8 = true then
          (px_R (mm_Wish_apart, 0, [(2, (px_rd r1.2 x0 8)), (0, x1), (0, x2), (9, 0), (9, 0), (9, 0), (9, 0), (9, 0), (9, 0), (9, 0), (9, 0)], [], r1.2)).bind fun r2 =>
            some (r2.1, r2.2)
        else none
    else none) := (px_Req mm_Tin_yards 0 [(2, x0), (0, x1), (0, x2)] [] w).trans rfl
set_option maxRecDepth 100000 in
theorem eq_Mod_right_0_0 (x0 x1 x2 : Int) (w : pw) : px_R (mm_Mod_right_0, 0, [(2, x0), (0, x1), (0, x2)], [], w) =
    (if px_go w x0 9 = true then
      (px_R (mm_Mod_listen, 0, [(2, x0), (0, x1), (0, x2), (9, 0), (9, 0), (9, 0), (9, 0), (9, 0), (9, 0), (9, 0)], [], w)).bind fun r1 =>
      if px_go r1.2 x0 9 = true then
        if px_ga r1.2 0 (px_rd r1.2 x0 34) x2 = true then
          some ((px_rd r1.2 (px_rd r1.2 x0 34) (x2).toNat), r1.2)
        else none
      else none
    else none) := (px_Req mm_Mod_right_0 0 [(2, x0), (0, x1), (0, x2)] [] w).trans rfl
set_option maxRecDepth 100000 in
theorem eq_Mod_share_0 (x0 x1 x2 x3 : Int) (w : pw) : px_R (mm_Mod_share, 0, [(2, x0), (0, x1), (0, x2), (0, x3)], [], w) =
    (if px_go w x0 9 = true then
      (px_R (mm_Mod_in, 0, [(0, x1), (0, 0), (0, (px_w ((px_rd w x0 29) - 1)))], [], w)).bind fun r1 =>
        if r1.1 = 0 then
          some ((-2), r1.2)
        else
          (px_R (mm_Mod_in, 0, [(0, x2), (0, 0), (0, 9)], [], r1.2)).bind fun r2 =>
            if r2.1 = 0 then
              some ((-2), r2.2)
            else
              (px_R (mm_Mod_isBand, 0, [(0, x3)], [], r2.2)).bind fun r3 =>
                if r3.1 = 0 then
                  some ((-2), r3.2)
                else
                  if px_go r3.2 x0 9 = true then
                    (px_R (mm_Mod_hasLine, 0, [(2, x0)], [], r3.2)).bind fun r4 =>
                    if r4.1 = 0 then
                      some ((-4), r4.2)
                    else
                      if px_go r4.2 x0 9 = true then
                        if px_go r4.2 x0 9 = true then
                          if px_go r4.2 x0 9 = true then
                            if px_go r4.2 x0 9 = true then
                              (px_R (mm_Mod_comesTo, 0, [(2, x0), (0, (px_rd r4.2 x0 24)), (0, (px_rd r4.2 x0 25)), (0, (px_rd r4.2 x0 26)), (0, x2), (0, x3), (0, x1), (9, 0), (9, 0)], [], r4.2)).bind fun r5 =>
                              if px_go r5.2 x0 9 = true then
                                if px_ga r5.2 0 (px_rd r5.2 x0 31) x1 = true then
                                  some ((px_w (Int.tdiv (px_w (r5.1 * (px_rd r5.2 (px_rd r5.2 x0 31) (x1).toNat))) 100)), r5.2)
                                else none
                              else none
                            else none
                          else none
                        else none
                      else none
                  else none
    else none) := (px_Req mm_Mod_share 0 [(2, x0), (0, x1), (0, x2), (0, x3)] [] w).trans rfl
set_option maxRecDepth 100000 in
theorem eq_Mod_throughOf_0 (x0 x1 x2 x3 x4 x5 : Int) (w : pw) : px_R (mm_Mod_throughOf, 0, [(2, x0), (0, x1), (0, x2), (0, x3), (0, x4), (0, x5)], [], w) =
    (if px_go w x0 9 = true then
      if px_go w x0 9 = true then
        (px_R (mm_Mod_comesTo, 0, [(2, x0), (0, x1), (0, x2), (0, x3), (0, x4), (0, x5), (0, (px_rd w x0 29)), (9, 0), (9, 0)], [], w)).bind fun r1 =>
        if px_go r1.2 x0 9 = true then
          if px_ga r1.2 0 (px_rd r1.2 x0 15) (px_w ((px_w (4 * x2)) + x5)) = true then
            some ((px_w (Int.tdiv (px_w (r1.1 * (px_rd r1.2 (px_rd r1.2 x0 15) ((px_w ((px_w (4 * x2)) + x5))).toNat))) 100)), r1.2)
          else none
        else none
      else none
    else none) := (px_Req mm_Mod_throughOf 0 [(2, x0), (0, x1), (0, x2), (0, x3), (0, x4), (0, x5)] [] w).trans rfl
set_option maxRecDepth 100000 in
theorem eq_Mod_wish_0 (x0 x1 x2 : Int) (w : pw) : px_R (mm_Mod_wish, 0, [(2, x0), (0, x1), (0, x2), (9, 0), (9, 0), (9, 0)], [], w) =
    (if px_go w x0 9 = true then
      (px_R (mm_Mod_arePair, 0, [(2, x0), (0, x1), (0, x2)], [], w)).bind fun r1 =>
      if r1.1 = 0 then
        some ((-2), r1.2)
      else
        if x1 < x2 then
          px_R (mm_Mod_wish, 22, [(2, x0), (0, x1), (0, x2), (9, 0), (9, 0), (9, 0)], [(0, x1)], r1.2)
        else
          px_R (mm_Mod_wish, 22, [(2, x0), (0, x1), (0, x2), (9, 0), (9, 0), (9, 0)], [(0, x2)], r1.2)
    else none) := (px_Req mm_Mod_wish 0 [(2, x0), (0, x1), (0, x2), (9, 0), (9, 0), (9, 0)] [] w).trans rfl
set_option maxRecDepth 100000 in
theorem eq_Mod_wish_22 (x0 x1 x2 s0 : Int) (w : pw) : px_R (mm_Mod_wish, 22, [(2, x0), (0, x1), (0, x2), (9, 0), (9, 0), (9, 0)], [(0, s0)], w) =
    (if x1 < x2 then
      px_R (mm_Mod_wish, 38, [(2, x0), (0, x1), (0, x2), (0, s0), (0, x2), (0, 0)], [], w)
    else
      px_R (mm_Mod_wish, 38, [(2, x0), (0, x1), (0, x2), (0, s0), (0, x1), (0, 0)], [], w)) := (px_Req mm_Mod_wish 22 [(2, x0), (0, x1), (0, x2), (9, 0), (9, 0), (9, 0)] [(0, s0)] w).trans rfl
set_option maxRecDepth 100000 in
theorem eq_Mod_wish_38 (x0 x1 x2 x3 x4 x5 : Int) (w : pw) : px_R (mm_Mod_wish, 38, [(2, x0), (0, x1), (0, x2), (0, x3), (0, x4), (0, x5)], [], w) =
    (if px_go w x0 9 = true then
      if x5 < (px_rd w x0 40) then
        if px_go w x0 9 = true then
          if px_ga w 0 (px_rd w x0 41) x5 = true then
            if (px_rd w (px_rd w x0 41) (x5).toNat) = x3 then
              if px_go w x0 9 = true then
                if px_ga w 0 (px_rd w x0 42) x5 = true then
                  if (px_rd w (px_rd w x0 42) (x5).toNat) = x4 then
                    if px_go w x0 9 = true then
                      some ((px_rd w x0 40), w)
                    else none
                  else
                    px_R (mm_Mod_wish, 38, [(2, x0), (0, x1), (0, x2), (0, x3), (0, x4), (0, (px_w (x5 + 1)))], [], w)
                else none
              else none
            else
              px_R (mm_Mod_wish, 38, [(2, x0), (0, x1), (0, x2), (0, x3), (0, x4), (0, (px_w (x5 + 1)))], [], w)
          else none
        else none
      else
        if px_go w x0 9 = true then
          if px_go w x0 9 = true then
            if px_ga w 0 (px_rd w x0 41) (px_rd w x0 40) = true then
              if px_go (px_wr w (px_rd w x0 41) ((px_rd w x0 40)).toNat x3) x0 9 = true then
                if px_go (px_wr w (px_rd w x0 41) ((px_rd w x0 40)).toNat x3) x0 9 = true then
                  if px_ga (px_wr w (px_rd w x0 41) ((px_rd w x0 40)).toNat x3) 0 (px_rd (px_wr w (px_rd w x0 41) ((px_rd w x0 40)).toNat x3) x0 42) (px_rd (px_wr w (px_rd w x0 41) ((px_rd w x0 40)).toNat x3) x0 40) = true then
                    if px_go (px_wr (px_wr w (px_rd w x0 41) ((px_rd w x0 40)).toNat x3) (px_rd (px_wr w (px_rd w x0 41) ((px_rd w x0 40)).toNat x3) x0 42) ((px_rd (px_wr w (px_rd w x0 41) ((px_rd w x0 40)).toNat x3) x0 40)).toNat x4) x0 9 = true then
                      if px_go (px_wr (px_wr w (px_rd w x0 41) ((px_rd w x0 40)).toNat x3) (px_rd (px_wr w (px_rd w x0 41) ((px_rd w x0 40)).toNat x3) x0 42) ((px_rd (px_wr w (px_rd w x0 41) ((px_rd w x0 40)).toNat x3) x0 40)).toNat x4) x0 9 = true then
                        if px_go (px_wr (px_wr (px_wr w (px_rd w x0 41) ((px_rd w x0 40)).toNat x3) (px_rd (px_wr w (px_rd w x0 41) ((px_rd w x0 40)).toNat x3) x0 42) ((px_rd (px_wr w (px_rd w x0 41) ((px_rd w x0 40)).toNat x3) x0 40)).toNat x4) x0 40 (px_w ((px_rd (px_wr (px_wr w (px_rd w x0 41) ((px_rd w x0 40)).toNat x3) (px_rd (px_wr w (px_rd w x0 41) ((px_rd w x0 40)).toNat x3) x0 42) ((px_rd (px_wr w (px_rd w x0 41) ((px_rd w x0 40)).toNat x3) x0 40)).toNat x4) x0 40) + 1))) x0 9 = true then
                          some ((px_rd (px_wr (px_wr (px_wr w (px_rd w x0 41) ((px_rd w x0 40)).toNat x3) (px_rd (px_wr w (px_rd w x0 41) ((px_rd w x0 40)).toNat x3) x0 42) ((px_rd (px_wr w (px_rd w x0 41) ((px_rd w x0 40)).toNat x3) x0 40)).toNat x4) x0 40 (px_w ((px_rd (px_wr (px_wr w (px_rd w x0 41) ((px_rd w x0 40)).toNat x3) (px_rd (px_wr w (px_rd w x0 41) ((px_rd w x0 40)).toNat x3) x0 42) ((px_rd (px_wr w (px_rd w x0 41) ((px_rd w x0 40)).toNat x3) x0 40)).toNat x4) x0 40) + 1))) x0 40), (px_wr (px_wr (px_wr w (px_rd w x0 41) ((px_rd w x0 40)).toNat x3) (px_rd (px_wr w (px_rd w x0 41) ((px_rd w x0 40)).toNat x3) x0 42) ((px_rd (px_wr w (px_rd w x0 41) ((px_rd w x0 40)).toNat x3) x0 40)).toNat x4) x0 40 (px_w ((px_rd (px_wr (px_wr w (px_rd w x0 41) ((px_rd w x0 40)).toNat x3) (px_rd (px_wr w (px_rd w x0 41) ((px_rd w x0 40)).toNat x3) x0 42) ((px_rd (px_wr w (px_rd w x0 41) ((px_rd w x0 40)).toNat x3) x0 40)).toNat x4) x0 40) + 1))))
                        else none
                      else none
                    else none
                  else none
                else none
              else none
            else none
          else none
        else none
    else none) := (px_Req mm_Mod_wish 38 [(2, x0), (0, x1), (0, x2), (0, x3), (0, x4), (0, x5)] [] w).trans rfl
set_option maxRecDepth 100000 in
theorem eq_Mod_yards_0 (x0 x1 x2 : Int) (w : pw) : px_R (mm_Mod_yards, 0, [(2, x0), (0, x1), (0, x2)], [], w) =
    (if px_go w x0 9 = true then
      (px_R (mm_Mod_arePair, 0, [(2, x0), (0, x1), (0, x2)], [], w)).bind fun r1 =>
      if r1.1 = 0 then
        some ((-2), r1.2)
      else
        if px_go r1.2 x0 9 = true then
          (px_R (mm_Mod_isBarred, 0, [(2, x0), (0, x1), (0, x2), (9, 0), (9, 0), (9, 0), (9, 0), (9, 0)], [], r1.2)).bind fun r2 =>
          if r2.1 = 0 then
            if px_go r2.2 x0 9 = true then
              (px_R (mm_Mod_yardsOf, 0, [(2, x0), (0, x1), (0, x2), (9, 0), (9, 0), (9, 0)], [], r2.2)).bind fun r3 =>
              some (r3.1, r3.2)
            else none
          else
            some ((-1), r2.2)
        else none
    else none) := (px_Req mm_Mod_yards 0 [(2, x0), (0, x1), (0, x2)] [] w).trans rfl
set_option maxRecDepth 100000 in
theorem eq_Taps_length_0 (x0 : Int) (w : pw) : px_R (mm_Taps_length, 0, [(0, x0)], [], w) =
    ((px_R (mm_Taps_beats, 0, [(0, x0), (9, 0), (9, 0)], [], w)).bind fun r1 =>
      (px_R (mm_Taps_bits, 0, [(0, x0), (9, 0), (9, 0), (9, 0), (9, 0)], [], r1.2)).bind fun r2 =>
        (px_R (mm_Integer_bitCount, 0, [(0, r2.1)], [], r2.2)).bind fun r3 =>
          some ((px_w (r1.1 - r3.1)), r3.2)) := (px_Req mm_Taps_length 0 [(0, x0)] [] w).trans rfl
set_option maxRecDepth 100000 in
theorem eq_Book_weigh_0 (x0 x1 x2 : Int) (w : pw) : px_R (mm_Book_weigh, 0, [(2, x0), (2, x1), (0, x2), (9, 0), (9, 0), (9, 0), (9, 0)], [], w) =
    (if px_go w x0 0 = true then
      if px_go w (px_rd w x0 13) 3 = true then
        (px_R (mm_Prod_beOne, 0, [(2, (px_rd w x0 13)), (9, 0)], [], w)).bind fun r1 =>
        px_R (mm_Book_weigh, 12, [(2, x0), (2, x1), (0, x2), (0, 0), (0, 0), (9, 0), (9, 0)], [], r1.2)
      else none
    else none) := (px_Req mm_Book_weigh 0 [(2, x0), (2, x1), (0, x2), (9, 0), (9, 0), (9, 0), (9, 0)] [] w).trans rfl
set_option maxRecDepth 100000 in
theorem eq_Book_weigh_12 (x0 x1 x2 x3 x4 : Int) (y5 y6 : pv) (w : pw) : px_R (mm_Book_weigh, 12, [(2, x0), (2, x1), (0, x2), (0, x3), (0, x4), y5, y6], [], w) =
    (if px_go w x0 0 = true then
      if x4 < (px_rd w x0 1) then
        if px_go w x0 0 = true then
          if px_ga w 0 (px_rd w x0 3) x4 = true then
            if x2 < (px_rd w (px_rd w x0 3) (x4).toNat) then
              px_R (mm_Book_weigh, 12, [(2, x0), (2, x1), (0, x2), (0, x3), (0, (px_w (x4 + 1))), y5, y6], [], w)
            else
              if px_go w x0 0 = true then
                if px_ga w 0 (px_rd w x0 4) x4 = true then
                  if (px_and (px_shr x3 (px_rd w (px_rd w x0 4) (x4).toNat)) 1) = 0 then
                    if px_go w x1 1 = true then
                      if px_go w x0 0 = true then
                        if (px_ga w 4 (px_rd w x0 12) (px_rd w (px_rd w x0 4) (x4).toNat) || (px_ga w 5 (px_rd w x0 12) (px_rd w (px_rd w x0 4) (x4).toNat) || px_ga w 6 (px_rd w x0 12) (px_rd w (px_rd w x0 4) (x4).toNat))) = true then
                          if px_go w x1 1 = true then
                            (px_R (mm_Ear_hear, 0, [(2, x1), (0, (px_rd w (px_rd w x0 4) (x4).toNat)), (0, (px_w ((px_shl 1 (px_rd w x1 0)) - 1))), (2, (px_rd w (px_rd w x0 12) ((px_rd w (px_rd w x0 4) (x4).toNat)).toNat)), (9, 0), (9, 0)], [], w)).bind fun r2 =>
                            px_R (mm_Book_weigh, 78, [(2, x0), (2, x1), (0, x2), (0, (px_or x3 (px_shl 1 (px_rd w (px_rd w x0 4) (x4).toNat)))), (0, x4), (0, (px_rd w (px_rd w x0 4) (x4).toNat)), y6], [], r2.2)
                          else none
                        else none
                      else none
                    else none
                  else
                    px_R (mm_Book_weigh, 78, [(2, x0), (2, x1), (0, x2), (0, x3), (0, x4), (0, (px_rd w (px_rd w x0 4) (x4).toNat)), y6], [], w)
                else none
              else none
          else none
        else none
      else
        some (1, w)
    else none) := (px_Req mm_Book_weigh 12 [(2, x0), (2, x1), (0, x2), (0, x3), (0, x4), y5, y6] [] w).trans rfl
set_option maxRecDepth 100000 in
theorem eq_Book_weigh_78 (x0 x1 x2 x3 x4 x5 : Int) (y6 : pv) (w : pw) : px_R (mm_Book_weigh, 78, [(2, x0), (2, x1), (0, x2), (0, x3), (0, x4), (0, x5), y6], [], w) =
    (if px_go w x0 0 = true then
      if (px_ga w 4 (px_rd w x0 12) x5 || (px_ga w 5 (px_rd w x0 12) x5 || px_ga w 6 (px_rd w x0 12) x5)) = true then
        if px_go w x0 0 = true then
          (px_R (mm_Book_writtenAsKnown, 0, [(2, x0), (0, x4), (0, x2), (9, 0), (9, 0)], [], w)).bind fun r3 =>
          if px_ga r3.2 0 (px_rd w (px_rd w x0 12) (x5).toNat) r3.1 = true then
            if (px_rd r3.2 (px_rd w (px_rd w x0 12) (x5).toNat) (r3.1).toNat) = 0 then
              some (0, r3.2)
            else
              if px_go r3.2 x0 0 = true then
                if px_go r3.2 (px_rd r3.2 x0 13) 3 = true then
                  (px_R (mm_Prod_times, 0, [(2, (px_rd r3.2 x0 13)), (0, (px_rd r3.2 (px_rd w (px_rd w x0 12) (x5).toNat) (r3.1).toNat)), (9, 0), (9, 0), (9, 0), (9, 0), (9, 0)], [], r3.2)).bind fun r4 =>
                  px_R (mm_Book_weigh, 12, [(2, x0), (2, x1), (0, x2), (0, x3), (0, (px_w (x4 + 1))), (0, x5), (0, (px_rd r3.2 (px_rd w (px_rd w x0 12) (x5).toNat) (r3.1).toNat))], [], r4.2)
                else none
              else none
          else none
        else none
      else none
    else none) := (px_Req mm_Book_weigh 78 [(2, x0), (2, x1), (0, x2), (0, x3), (0, x4), (0, x5), y6] [] w).trans rfl
set_option maxRecDepth 100000 in
theorem eq_Ear_learn_0 (x0 x1 x2 : Int) (w : pw) : px_R (mm_Ear_learn, 0, [(2, x0), (2, x1), (2, x2)], [], w) =
    (if px_go w x0 1 = true then
      (px_R (mm_Ear_begin, 0, [(2, x0), (2, x1), (2, x2), (9, 0), (9, 0), (9, 0)], [], w)).bind fun r1 =>
      if px_go r1.2 x2 2 = true then
        if px_go r1.2 x0 1 = true then
          (px_R (mm_Ear_goOn, 0, [(2, x0), (2, x1), (2, x2), (0, (px_rd r1.2 x2 2)), (9, 0), (9, 0), (9, 0), (9, 0)], [], r1.2)).bind fun r2 =>
          if (decide (0 ≤ r2.1) && decide (r2.1 < 2)) = true then some (r2.1, r2.2) else none
        else none
      else none
    else none) := (px_Req mm_Ear_learn 0 [(2, x0), (2, x1), (2, x2)] [] w).trans rfl
set_option maxRecDepth 100000 in
theorem eq_Ear_leastOf_0 (x0 x1 x2 : Int) (w : pw) : px_R (mm_Ear_leastOf, 0, [(2, x0), (0, x1), (0, x2), (9, 0), (9, 0)], [], w) =
    (px_R (mm_Ear_leastOf, 6, [(2, x0), (0, x1), (0, x2), (0, 65536), (0, 0)], [], w)) := (px_Req mm_Ear_leastOf 0 [(2, x0), (0, x1), (0, x2), (9, 0), (9, 0)] [] w).trans rfl
set_option maxRecDepth 100000 in
theorem eq_Ear_leastOf_6 (x0 x1 x2 x3 x4 : Int) (w : pw) : px_R (mm_Ear_leastOf, 6, [(2, x0), (0, x1), (0, x2), (0, x3), (0, x4)], [], w) =
    (if px_go w x0 1 = true then
      if x4 < (px_rd w x0 0) then
        if x2 < x3 then
          if (px_and (px_shr x1 x4) 1) = 1 then
            if px_go w x0 1 = true then
              if px_go w x0 1 = true then
                (px_R (mm_Ear_hear, 0, [(2, x0), (0, x4), (0, x1), (2, (px_rd w x0 4)), (9, 0), (9, 0)], [], w)).bind fun r1 =>
                if px_go r1.2 x0 1 = true then
                  if px_ga r1.2 0 (px_rd r1.2 x0 4) x4 = true then
                    px_R (mm_Ear_leastOf, 6, [(2, x0), (0, x1), (0, x2), (0, (px_mn x3 (px_rd r1.2 (px_rd r1.2 x0 4) (x4).toNat))), (0, (px_w (x4 + 1)))], [], r1.2)
                  else none
                else none
              else none
            else none
          else
            px_R (mm_Ear_leastOf, 6, [(2, x0), (0, x1), (0, x2), (0, x3), (0, (px_w (x4 + 1)))], [], w)
        else
          some (x3, w)
      else
        some (x3, w)
    else none) := (px_Req mm_Ear_leastOf 6 [(2, x0), (0, x1), (0, x2), (0, x3), (0, x4)] [] w).trans rfl
set_option maxRecDepth 100000 in
theorem eq_Tape_isWord_0 (x0 x1 : Int) (w : pw) : px_R (mm_Tape_isWord, 0, [(2, x0), (3, x1), (9, 0)], [], w) =
    (if px_go w x0 6 = true then
      if (px_rd w x0 2) = 2 then
        if px_go w x0 6 = true then
          if px_go w x0 6 = true then
            if (px_w ((px_rd w x0 4) - (px_rd w x0 3))) = ((px_str (x1).toNat).length : Int) then
              px_R (mm_Tape_isWord, 28, [(2, x0), (3, x1), (0, 0)], [], w)
            else
              some (0, w)
          else none
        else none
      else
        some (0, w)
    else none) := (px_Req mm_Tape_isWord 0 [(2, x0), (3, x1), (9, 0)] [] w).trans rfl
set_option maxRecDepth 100000 in
theorem eq_Tape_isWord_28 (x0 x1 x2 : Int) (w : pw) : px_R (mm_Tape_isWord, 28, [(2, x0), (3, x1), (0, x2)], [], w) =
    (if x2 < ((px_str (x1).toNat).length : Int) then
      if px_go w x0 6 = true then
        if px_go w x0 6 = true then
          if (px_ga w 2 (px_rd w x0 0) (px_w ((px_rd w x0 3) + x2)) || px_ga w 3 (px_rd w x0 0) (px_w ((px_rd w x0 3) + x2))) = true then
            if px_gl (px_str (x1).toNat) x2 = true then
              if (px_rd w (px_rd w x0 0) ((px_w ((px_rd w x0 3) + x2))).toNat) = (px_lst (px_str (x1).toNat) (x2).toNat) then
                px_R (mm_Tape_isWord, 28, [(2, x0), (3, x1), (0, (px_w (x2 + 1)))], [], w)
              else
                some (0, w)
            else none
          else none
        else none
      else none
    else
      some (1, w)) := (px_Req mm_Tape_isWord 28 [(2, x0), (3, x1), (0, x2)] [] w).trans rfl
set_option maxRecDepth 100000 in
theorem eq_Tin_least_0 (x0 x1 x2 : Int) (w : pw) : px_R (mm_Tin_least, 0, [(2, x0), (0, x1), (0, x2)], [], w) =
    ((px_R (mm_Tin_within, 0, [(0, x1), (0, 1), (0, 4)], [], w)).bind fun r1 =>
      if r1.1 = 0 then
        some ((-2), r1.2)
      else
        (px_R (mm_Tin_within, 0, [(0, x2), (0, 0), (0, 1)], [], r1.2)).bind fun r2 =>
          if r2.1 = 0 then
            some ((-2), r2.2)
          else
            if px_go r2.2 x0 8 = true then
              if px_go r2.2 x0 8 = true then
                if px_go r2.2 (px_rd r2.2 x0 3) 7 = true then
                  (px_R (mm_Wish_search, 0, [(2, (px_rd r2.2 x0 3)), (2, (px_rd r2.2 x0 8)), (0, x1), (9, 0), (9, 0), (9, 0), (9, 0), (9, 0)], [], r2.2)).bind fun r3 =>
                  if x2 = 0 then
                    if px_go r3.2 x0 8 = true then
                      if px_go r3.2 (px_rd r3.2 x0 3) 7 = true then
                        some ((px_rd r3.2 (px_rd r3.2 x0 3) 1), r3.2)
                      else none
                    else none
                  else
                    if px_go r3.2 x0 8 = true then
                      if px_go r3.2 (px_rd r3.2 x0 3) 7 = true then
                        some ((px_rd r3.2 (px_rd r3.2 x0 3) 2), r3.2)
                      else none
                    else none
                else none
              else none
            else none) := (px_Req mm_Tin_least 0 [(2, x0), (0, x1), (0, x2)] [] w).trans rfl
set_option maxRecDepth 100000 in
theorem eq_Tin_level_0 (x0 x1 x2 : Int) (w : pw) : px_R (mm_Tin_level, 0, [(2, x0), (0, x1), (0, x2)], [], w) =
    (if px_go w x0 8 = true then
      (px_R (mm_Tin_isOne, 0, [(2, x0), (0, 2), (0, x1)], [], w)).bind fun r1 =>
      if r1.1 = 0 then
        some ((-2), r1.2)
      else
        (px_R (mm_Tin_isBand, 0, [(0, x2)], [], r1.2)).bind fun r2 =>
          if r2.1 = 0 then
            some ((-2), r2.2)
          else
            if px_go r2.2 x0 8 = true then
              (px_R (mm_Tin_lineLacks, 0, [(2, x0)], [], r2.2)).bind fun r3 =>
              if r3.1 = 0 then
                if px_go r3.2 x0 8 = true then
                  if px_go r3.2 x0 8 = true then
                    if px_go r3.2 x0 8 = true then
                      if px_go r3.2 (px_rd r3.2 x0 8) 5 = true then
                        (px_R (mm_Str_ofBand, 0, [(2, (px_rd r3.2 x0 8)), (0, 2), (0, x1), (0, x2), (9, 0)], [], r3.2)).bind fun r4 =>
                        if px_go r4.2 (px_rd r3.2 x0 1) 2 = true then
                          (px_R (mm_Line_arrives, 0, [(2, (px_rd r3.2 x0 1)), (2, (px_rd r3.2 x0 8)), (0, r4.1), (0, x2)], [], r4.2)).bind fun r5 =>
                          (px_R (mm_Line_asLevel, 0, [(0, r5.1)], [], r5.2)).bind fun r6 =>
                            some (r6.1, r6.2)
                        else none
                      else none
                    else none
                  else none
                else none
              else
                some ((-4), r3.2)
            else none
    else none) := (px_Req mm_Tin_level 0 [(2, x0), (0, x1), (0, x2)] [] w).trans rfl
set_option maxRecDepth 100000 in
theorem eq_Tin_listened_0 (x0 x1 x2 x3 : Int) (w : pw) : px_R (mm_Tin_listened, 0, [(2, x0), (0, x1), (0, x2), (0, x3), (9, 0), (9, 0), (9, 0)], [], w) =
    (if px_go w x0 8 = true then
      if px_go w x0 8 = true then
        if px_go w (px_rd w x0 0) 6 = true then
          (px_R (mm_Tape_readNumbers, 0, [(2, (px_rd w x0 0)), (2, (px_rd w x0 7)), (0, 4), (9, 0), (9, 0)], [], w)).bind fun r1 =>
          (px_R (mm_Tin_within, 0, [(0, x1), (0, 0), (0, 99999)], [], r1.2)).bind fun r2 =>
            if r2.1 = 0 then
              some ((-2), r2.2)
            else
              (px_R (mm_Tin_within, 0, [(0, x2), (0, 0), (0, 99999)], [], r2.2)).bind fun r3 =>
                if r3.1 = 0 then
                  some ((-2), r3.2)
                else
                  (px_R (mm_Tin_within, 0, [(0, x3), (0, 0), (0, 99999)], [], r3.2)).bind fun r4 =>
                    if r4.1 = 0 then
                      some ((-2), r4.2)
                    else
                      if r1.1 = 4 then
                        px_R (mm_Tin_listened, 64, [(2, x0), (0, x1), (0, x2), (0, x3), (0, r1.1), (0, 0), (0, 0)], [], r4.2)
                      else
                        some ((-1), r4.2)
        else none
      else none
    else none) := (px_Req mm_Tin_listened 0 [(2, x0), (0, x1), (0, x2), (0, x3), (9, 0), (9, 0), (9, 0)] [] w).trans rfl
set_option maxRecDepth 100000 in
theorem eq_Tin_listened_64 (x0 x1 x2 x3 x4 x5 x6 : Int) (w : pw) : px_R (mm_Tin_listened, 64, [(2, x0), (0, x1), (0, x2), (0, x3), (0, x4), (0, x5), (0, x6)], [], w) =
    (if x6 < 4 then
      if px_go w x0 8 = true then
        if px_ga w 0 (px_rd w x0 7) x6 = true then
          if 100 < (px_rd w (px_rd w x0 7) (x6).toNat) then
            some ((-1), w)
          else
            if px_go w x0 8 = true then
              if px_ga w 0 (px_rd w x0 7) x6 = true then
                if x3 < (px_ab (px_w ((px_w (Int.tdiv (px_w (x1 * (px_w (100 - (px_rd w (px_rd w x0 7) (x6).toNat))))) 100)) - x2))) then
                  px_R (mm_Tin_listened, 64, [(2, x0), (0, x1), (0, x2), (0, x3), (0, x4), (0, x5), (0, (px_w (x6 + 1)))], [], w)
                else
                  px_R (mm_Tin_listened, 64, [(2, x0), (0, x1), (0, x2), (0, x3), (0, x4), (0, (px_or x5 (px_shl 1 x6))), (0, (px_w (x6 + 1)))], [], w)
              else none
            else none
        else none
      else none
    else
      some (x5, w)) := (px_Req mm_Tin_listened 64 [(2, x0), (0, x1), (0, x2), (0, x3), (0, x4), (0, x5), (0, x6)] [] w).trans rfl
set_option maxRecDepth 100000 in
theorem eq_Tin_longest_0 (x0 x1 x2 x3 : Int) (w : pw) : px_R (mm_Tin_longest, 0, [(2, x0), (0, x1), (0, x2), (0, x3), (9, 0), (9, 0), (9, 0)], [], w) =
    (if px_go w x0 8 = true then
      (px_R (mm_Tin_isOne, 0, [(2, x0), (0, 2), (0, x1)], [], w)).bind fun r1 =>
      if r1.1 = 0 then
        some ((-2), r1.2)
      else
        (px_R (mm_Tin_within, 0, [(0, x2), (0, 0), (0, 65536)], [], r1.2)).bind fun r2 =>
          if r2.1 = 0 then
            some ((-2), r2.2)
          else
            (px_R (mm_Tin_within, 0, [(0, x3), (0, 1), (0, 65536)], [], r2.2)).bind fun r3 =>
              if r3.1 = 0 then
                some ((-2), r3.2)
              else
                if px_go r3.2 x0 8 = true then
                  (px_R (mm_Tin_lineLacks, 0, [(2, x0)], [], r3.2)).bind fun r4 =>
                  if r4.1 = 0 then
                    if px_go r4.2 x0 8 = true then
                      if px_go r4.2 x0 8 = true then
                        if px_go r4.2 x0 8 = true then
                          if px_go r4.2 (px_rd r4.2 x0 2) 1 = true then
                            (px_R (mm_Ear_begin, 0, [(2, (px_rd r4.2 x0 2)), (2, (px_rd r4.2 x0 8)), (2, (px_rd r4.2 x0 1)), (9, 0), (9, 0), (9, 0)], [], r4.2)).bind fun r5 =>
                            px_R (mm_Tin_longest, 66, [(2, x0), (0, x1), (0, x2), (0, x3), (0, (-1)), (0, 0), (0, 1)], [], r5.2)
                          else none
                        else none
                      else none
                    else none
                  else
                    some ((-4), r4.2)
                else none
    else none) := (px_Req mm_Tin_longest 0 [(2, x0), (0, x1), (0, x2), (0, x3), (9, 0), (9, 0), (9, 0)] [] w).trans rfl
set_option maxRecDepth 100000 in
theorem eq_Tin_longest_66 (x0 x1 x2 x3 x4 x5 x6 : Int) (w : pw) : px_R (mm_Tin_longest, 66, [(2, x0), (0, x1), (0, x2), (0, x3), (0, x4), (0, x5), (0, x6)], [], w) =
    (if 400 < x6 then
      some (x4, w)
    else
      if px_go w x0 8 = true then
        if px_go w x0 8 = true then
          if px_go w x0 8 = true then
            if px_go w (px_rd w x0 2) 1 = true then
              (px_R (mm_Ear_goOn, 0, [(2, (px_rd w x0 2)), (2, (px_rd w x0 8)), (2, (px_rd w x0 1)), (0, 1), (9, 0), (9, 0), (9, 0), (9, 0)], [], w)).bind fun r6 =>
              if r6.1 = 0 then
                if x6 = 1 then
                  px_R (mm_Tin_longest, 99, [(2, x0), (0, x1), (0, x2), (0, x3), (0, x4), (0, x5), (0, x6)], [], r6.2)
                else
                  if x5 = 0 then
                    px_R (mm_Tin_longest, 66, [(2, x0), (0, x1), (0, x2), (0, x3), (0, x4), (0, x5), (0, (px_w (x6 + 1)))], [], r6.2)
                  else
                    px_R (mm_Tin_longest, 66, [(2, x0), (0, x1), (0, x2), (0, x3), (0, x6), (0, x5), (0, (px_w (x6 + 1)))], [], r6.2)
              else
                px_R (mm_Tin_longest, 99, [(2, x0), (0, x1), (0, x2), (0, x3), (0, x4), (0, x5), (0, x6)], [], r6.2)
            else none
          else none
        else none
      else none) := (px_Req mm_Tin_longest 66 [(2, x0), (0, x1), (0, x2), (0, x3), (0, x4), (0, x5), (0, x6)] [] w).trans rfl
set_option maxRecDepth 100000 in
theorem eq_Tin_longest_99 (x0 x1 x2 x3 x4 x5 x6 : Int) (w : pw) : px_R (mm_Tin_longest, 99, [(2, x0), (0, x1), (0, x2), (0, x3), (0, x4), (0, x5), (0, x6)], [], w) =
    (if px_go w x0 8 = true then
      if px_go w x0 8 = true then
        (px_R (mm_Tin_allWords, 0, [(2, x0)], [], w)).bind fun r7 =>
        if px_go r7.2 x0 8 = true then
          if px_go r7.2 (px_rd r7.2 x0 2) 1 = true then
            if px_go r7.2 (px_rd w x0 2) 1 = true then
              (px_R (mm_Ear_hear, 0, [(2, (px_rd w x0 2)), (0, x1), (0, r7.1), (2, (px_rd r7.2 (px_rd r7.2 x0 2) 4)), (9, 0), (9, 0)], [], r7.2)).bind fun r8 =>
              if px_go r8.2 x0 8 = true then
                if px_go r8.2 (px_rd r8.2 x0 2) 1 = true then
                  if px_ga r8.2 0 (px_rd r8.2 (px_rd r8.2 x0 2) 4) x1 = true then
                    if px_go r8.2 x0 8 = true then
                      if px_go r8.2 (px_rd r8.2 x0 2) 1 = true then
                        (px_R (mm_Ear_allWays, 0, [(2, (px_rd r8.2 x0 2)), (9, 0)], [], r8.2)).bind fun r9 =>
                        if (px_cmp (px_wl ((px_rd r8.2 (px_rd r8.2 (px_rd r8.2 x0 2) 4) (x1).toNat) * x3)) (px_wl (x2 * r9.1))) < 0 then
                          if 0 = 0 then
                            px_R (mm_Tin_longest, 66, [(2, x0), (0, x1), (0, x2), (0, x3), (0, x4), (0, 0), (0, (px_w (x6 + 1)))], [], r9.2)
                          else
                            px_R (mm_Tin_longest, 66, [(2, x0), (0, x1), (0, x2), (0, x3), (0, x6), (0, 0), (0, (px_w (x6 + 1)))], [], r9.2)
                        else
                          if 1 = 0 then
                            px_R (mm_Tin_longest, 66, [(2, x0), (0, x1), (0, x2), (0, x3), (0, x4), (0, 1), (0, (px_w (x6 + 1)))], [], r9.2)
                          else
                            px_R (mm_Tin_longest, 66, [(2, x0), (0, x1), (0, x2), (0, x3), (0, x6), (0, 1), (0, (px_w (x6 + 1)))], [], r9.2)
                      else none
                    else none
                  else none
                else none
              else none
            else none
          else none
        else none
      else none
    else none) := (px_Req mm_Tin_longest 99 [(2, x0), (0, x1), (0, x2), (0, x3), (0, x4), (0, x5), (0, x6)] [] w).trans rfl
set_option maxRecDepth 100000 in
theorem eq_Tin_share_0 (x0 x1 x2 x3 : Int) (w : pw) : px_R (mm_Tin_share, 0, [(2, x0), (0, x1), (0, x2), (0, x3)], [], w) =
    (if px_go w x0 8 = true then
      if px_go w (px_rd w x0 1) 2 = true then
        (px_R (mm_Tin_within, 0, [(0, x1), (0, 0), (0, (px_w ((px_rd w (px_rd w x0 1) 6) - 1)))], [], w)).bind fun r1 =>
          if r1.1 = 0 then
            some ((-2), r1.2)
          else
            (px_R (mm_Tin_within, 0, [(0, x2), (0, 0), (0, 9)], [], r1.2)).bind fun r2 =>
              if r2.1 = 0 then
                some ((-2), r2.2)
              else
                (px_R (mm_Tin_isBand, 0, [(0, x3)], [], r2.2)).bind fun r3 =>
                  if r3.1 = 0 then
                    some ((-2), r3.2)
                  else
                    if px_go r3.2 x0 8 = true then
                      (px_R (mm_Tin_lineLacks, 0, [(2, x0)], [], r3.2)).bind fun r4 =>
                      if r4.1 = 0 then
                        if px_go r4.2 x0 8 = true then
                          if px_go r4.2 x0 8 = true then
                            if px_go r4.2 (px_rd r4.2 x0 1) 2 = true then
                              (px_R (mm_Line_tiedOff, 0, [(2, (px_rd r4.2 x0 1)), (2, (px_rd r4.2 x0 8)), (0, x1), (0, x2), (0, x3), (9, 0)], [], r4.2)).bind fun r5 =>
                              some (r5.1, r5.2)
                            else none
                          else none
                        else none
                      else
                        some ((-4), r4.2)
                    else none
      else none
    else none) := (px_Req mm_Tin_share 0 [(2, x0), (0, x1), (0, x2), (0, x3)] [] w).trans rfl
set_option maxRecDepth 100000 in
theorem eq_Tin_tapRow_0 (x0 x1 x2 : Int) (w : pw) : px_R (mm_Tin_tapRow, 0, [(2, x0), (0, x1), (0, x2)], [], w) =
    ((px_R (mm_Tin_within, 0, [(0, x1), (0, 0), (0, 99)], [], w)).bind fun r1 =>
      if r1.1 = 0 then
        some ((-2), r1.2)
      else
        if x2 = 0 then
          (px_R (mm_Taps_lasts, 0, [(0, x1)], [], r1.2)).bind fun r2 =>
            some (r2.1, r2.2)
        else if x2 = 1 then
          (px_R (mm_Taps_length, 0, [(0, x1)], [], r1.2)).bind fun r3 =>
            some (r3.1, r3.2)
        else if x2 = 2 then
          (px_R (mm_Taps_bits, 0, [(0, x1), (9, 0), (9, 0), (9, 0), (9, 0)], [], r1.2)).bind fun r4 =>
            some (r4.1, r4.2)
        else 
          some ((-2), r1.2)) := (px_Req mm_Tin_tapRow 0 [(2, x0), (0, x1), (0, x2)] [] w).trans rfl
set_option maxRecDepth 100000 in
theorem eq_Tin_taps_0 (x0 : Int) (w : pw) : px_R (mm_Tin_taps, 0, [(2, x0), (9, 0)], [], w) =
    (if px_go w x0 8 = true then
      if px_go w x0 8 = true then
        if px_go w (px_rd w x0 0) 6 = true then
          (px_R (mm_Tape_readNumbers, 0, [(2, (px_rd w x0 0)), (2, (px_rd w x0 7)), (0, 16), (9, 0), (9, 0)], [], w)).bind fun r1 =>
          if r1.1 < 1 then
            some ((-1), r1.2)
          else
            if px_go r1.2 x0 8 = true then
              (px_R (mm_Taps_together, 0, [(2, (px_rd r1.2 x0 7)), (0, r1.1), (9, 0), (9, 0), (9, 0), (9, 0)], [], r1.2)).bind fun r2 =>
                some (r2.1, r2.2)
            else none
        else none
      else none
    else none) := (px_Req mm_Tin_taps 0 [(2, x0), (9, 0)] [] w).trans rfl
set_option maxRecDepth 100000 in
theorem eq_Tin_through_0 (x0 x1 x2 : Int) (w : pw) : px_R (mm_Tin_through, 0, [(2, x0), (0, x1), (0, x2)], [], w) =
    ((px_R (mm_Tin_within, 0, [(0, x1), (0, 0), (0, 9)], [], w)).bind fun r1 =>
      if r1.1 = 0 then
        some ((-2), r1.2)
      else
        (px_R (mm_Tin_isBand, 0, [(0, x2)], [], r1.2)).bind fun r2 =>
          if r2.1 = 0 then
            some ((-2), r2.2)
          else
            if px_go r2.2 x0 8 = true then
              (px_R (mm_Tin_lineLacks, 0, [(2, x0)], [], r2.2)).bind fun r3 =>
              if r3.1 = 0 then
                if px_go r3.2 x0 8 = true then
                  if px_go r3.2 x0 8 = true then
                    if px_go r3.2 (px_rd r3.2 x0 1) 2 = true then
                      (px_R (mm_Line_arrives, 0, [(2, (px_rd r3.2 x0 1)), (2, (px_rd r3.2 x0 8)), (0, x1), (0, x2)], [], r3.2)).bind fun r4 =>
                      some (r4.1, r4.2)
                    else none
                  else none
                else none
              else
                some ((-4), r3.2)
            else none) := (px_Req mm_Tin_through 0 [(2, x0), (0, x1), (0, x2)] [] w).trans rfl
set_option maxRecDepth 100000 in
theorem eq_Mod_keyAt_0 (x0 x1 x2 : Int) (w : pw) : px_R (mm_Mod_keyAt, 0, [(2, x0), (0, x1), (0, x2), (9, 0), (9, 0), (9, 0), (9, 0), (9, 0)], [], w) =
    (px_R (mm_Mod_keyAt, 8, [(2, x0), (0, x1), (0, x2), (0, 0), (0, 0), (0, 0), (9, 0), (9, 0)], [], w)) := (px_Req mm_Mod_keyAt 0 [(2, x0), (0, x1), (0, x2), (9, 0), (9, 0), (9, 0), (9, 0), (9, 0)] [] w).trans rfl
set_option maxRecDepth 100000 in
theorem eq_Mod_keyAt_8 (x0 x1 x2 x3 x4 x5 : Int) (y6 y7 : pv) (w : pw) : px_R (mm_Mod_keyAt, 8, [(2, x0), (0, x1), (0, x2), (0, x3), (0, x4), (0, x5), y6, y7], [], w) =
    (if x5 < ((px_str 9).length : Int) then
      if px_gl (px_str 9) x5 = true then
        if (px_lst (px_str 9) (x5).toNat) = 32 then
          if (px_w (x5 - x4)) = x2 then
            px_R (mm_Mod_keyAt, 52, [(2, x0), (0, x1), (0, x2), (0, x3), (0, x4), (0, x5), (0, 1), (0, 0)], [], w)
          else
            px_R (mm_Mod_keyAt, 52, [(2, x0), (0, x1), (0, x2), (0, x3), (0, x4), (0, x5), (0, 0), (0, 0)], [], w)
        else
          px_R (mm_Mod_keyAt, 8, [(2, x0), (0, x1), (0, x2), (0, x3), (0, x4), (0, (px_w (x5 + 1))), y6, y7], [], w)
      else none
    else
      some ((-1), w)) := (px_Req mm_Mod_keyAt 8 [(2, x0), (0, x1), (0, x2), (0, x3), (0, x4), (0, x5), y6, y7] [] w).trans rfl
set_option maxRecDepth 100000 in
theorem eq_Mod_keyAt_52 (x0 x1 x2 x3 x4 x5 x6 x7 : Int) (w : pw) : px_R (mm_Mod_keyAt, 52, [(2, x0), (0, x1), (0, x2), (0, x3), (0, x4), (0, x5), (0, x6), (0, x7)], [], w) =
    (if x7 < x2 then
      if x6 = 0 then
        if x6 = 0 then
          px_R (mm_Mod_keyAt, 8, [(2, x0), (0, x1), (0, x2), (0, (px_w (x3 + 1))), (0, (px_w (x5 + 1))), (0, (px_w (x5 + 1))), (0, x6), (0, x7)], [], w)
        else
          some (x3, w)
      else
        if px_gl (px_str 9) (px_w (x4 + x7)) = true then
          if px_go w x0 9 = true then
            (px_R (mm_Mod_byteAt, 0, [(2, x0), (0, (px_w (x1 + x7)))], [], w)).bind fun r1 =>
            if (px_lst (px_str 9) ((px_w (x4 + x7))).toNat) = r1.1 then
              px_R (mm_Mod_keyAt, 52, [(2, x0), (0, x1), (0, x2), (0, x3), (0, x4), (0, x5), (0, 1), (0, (px_w (x7 + 1)))], [], r1.2)
            else
              px_R (mm_Mod_keyAt, 52, [(2, x0), (0, x1), (0, x2), (0, x3), (0, x4), (0, x5), (0, 0), (0, (px_w (x7 + 1)))], [], r1.2)
          else none
        else none
    else
      if x6 = 0 then
        px_R (mm_Mod_keyAt, 8, [(2, x0), (0, x1), (0, x2), (0, (px_w (x3 + 1))), (0, (px_w (x5 + 1))), (0, (px_w (x5 + 1))), (0, x6), (0, x7)], [], w)
      else
        some (x3, w)) := (px_Req mm_Mod_keyAt 52 [(2, x0), (0, x1), (0, x2), (0, x3), (0, x4), (0, x5), (0, x6), (0, x7)] [] w).trans rfl
set_option maxRecDepth 100000 in
theorem eq_Mod_makeLevels_0 (x0 x1 x2 x3 : Int) (w : pw) : px_R (mm_Mod_makeLevels, 0, [(2, x0), (0, x1), (0, x2), (0, x3), (9, 0), (9, 0), (9, 0)], [], w) =
    (px_R (mm_Mod_makeLevels, 3, [(2, x0), (0, x1), (0, x2), (0, x3), (0, 0), (9, 0), (9, 0)], [], w)) := (px_Req mm_Mod_makeLevels 0 [(2, x0), (0, x1), (0, x2), (0, x3), (9, 0), (9, 0), (9, 0)] [] w).trans rfl
set_option maxRecDepth 100000 in
theorem eq_Mod_makeLevels_3 (x0 x1 x2 x3 x4 : Int) (y5 y6 : pv) (w : pw) : px_R (mm_Mod_makeLevels, 3, [(2, x0), (0, x1), (0, x2), (0, x3), (0, x4), y5, y6], [], w) =
    (if px_go w x0 9 = true then
      if px_ga w 0 (px_rd w x0 12) 2 = true then
        if x4 < (px_rd w (px_rd w x0 12) 2) then
          px_R (mm_Mod_makeLevels, 17, [(2, x0), (0, x1), (0, x2), (0, x3), (0, x4), (0, 0), y6], [], w)
        else
          some (0, w)
      else none
    else none) := (px_Req mm_Mod_makeLevels 3 [(2, x0), (0, x1), (0, x2), (0, x3), (0, x4), y5, y6] [] w).trans rfl
set_option maxRecDepth 100000 in
theorem eq_Mod_makeLevels_17 (x0 x1 x2 x3 x4 x5 : Int) (y6 : pv) (w : pw) : px_R (mm_Mod_makeLevels, 17, [(2, x0), (0, x1), (0, x2), (0, x3), (0, x4), (0, x5), y6], [], w) =
    (if x5 < 4 then
      if px_go w x0 9 = true then
        if px_ga w 0 (px_rd w x0 16) (px_w ((px_w (4 * x4)) + x5)) = true then
          if px_go w x0 9 = true then
            (px_R (mm_Mod_throughOf, 0, [(2, x0), (0, x1), (0, x2), (0, x3), (0, (px_rd w (px_rd w x0 16) ((px_w ((px_w (4 * x4)) + x5))).toNat)), (0, x5)], [], w)).bind fun r1 =>
            if px_go r1.2 x0 9 = true then
              if 9 < (px_w (Int.tdiv r1.1 500)) then
                if px_ga r1.2 0 (px_rd r1.2 x0 32) (px_w ((px_w (4 * x4)) + x5)) = true then
                  px_R (mm_Mod_makeLevels, 17, [(2, x0), (0, x1), (0, x2), (0, x3), (0, x4), (0, (px_w (x5 + 1))), (0, (px_w (Int.tdiv r1.1 500)))], [], (px_wr r1.2 (px_rd r1.2 x0 32) ((px_w ((px_w (4 * x4)) + x5))).toNat 9))
                else none
              else
                if px_ga r1.2 0 (px_rd r1.2 x0 32) (px_w ((px_w (4 * x4)) + x5)) = true then
                  px_R (mm_Mod_makeLevels, 17, [(2, x0), (0, x1), (0, x2), (0, x3), (0, x4), (0, (px_w (x5 + 1))), (0, (px_w (Int.tdiv r1.1 500)))], [], (px_wr r1.2 (px_rd r1.2 x0 32) ((px_w ((px_w (4 * x4)) + x5))).toNat (px_w (Int.tdiv r1.1 500))))
                else none
            else none
          else none
        else none
      else none
    else
      px_R (mm_Mod_makeLevels, 3, [(2, x0), (0, x1), (0, x2), (0, x3), (0, (px_w (x4 + 1))), (0, x5), y6], [], w)) := (px_Req mm_Mod_makeLevels 17 [(2, x0), (0, x1), (0, x2), (0, x3), (0, x4), (0, x5), y6] [] w).trans rfl
set_option maxRecDepth 100000 in
theorem eq_Mod_through_0 (x0 x1 x2 : Int) (w : pw) : px_R (mm_Mod_through, 0, [(2, x0), (0, x1), (0, x2)], [], w) =
    ((px_R (mm_Mod_in, 0, [(0, x1), (0, 0), (0, 9)], [], w)).bind fun r1 =>
      if r1.1 = 0 then
        some ((-2), r1.2)
      else
        (px_R (mm_Mod_isBand, 0, [(0, x2)], [], r1.2)).bind fun r2 =>
          if r2.1 = 0 then
            some ((-2), r2.2)
          else
            if px_go r2.2 x0 9 = true then
              (px_R (mm_Mod_hasLine, 0, [(2, x0)], [], r2.2)).bind fun r3 =>
              if r3.1 = 0 then
                some ((-4), r3.2)
              else
                if px_go r3.2 x0 9 = true then
                  if px_go r3.2 x0 9 = true then
                    if px_go r3.2 x0 9 = true then
                      if px_go r3.2 x0 9 = true then
                        (px_R (mm_Mod_throughOf, 0, [(2, x0), (0, (px_rd r3.2 x0 24)), (0, (px_rd r3.2 x0 25)), (0, (px_rd r3.2 x0 26)), (0, x1), (0, x2)], [], r3.2)).bind fun r4 =>
                        some (r4.1, r4.2)
                      else none
                    else none
                  else none
                else none
            else none) := (px_Req mm_Mod_through 0 [(2, x0), (0, x1), (0, x2)] [] w).trans rfl
set_option maxRecDepth 100000 in
theorem eq_Mod_worst_0 (x0 x1 : Int) (w : pw) : px_R (mm_Mod_worst, 0, [(2, x0), (0, x1), (9, 0), (9, 0), (9, 0)], [], w) =
    (px_R (mm_Mod_worst, 4, [(2, x0), (0, x1), (0, (-1)), (0, 0), (9, 0)], [], w)) := (px_Req mm_Mod_worst 0 [(2, x0), (0, x1), (9, 0), (9, 0), (9, 0)] [] w).trans rfl
set_option maxRecDepth 100000 in
theorem eq_Mod_worst_4 (x0 x1 x2 x3 : Int) (y4 : pv) (w : pw) : px_R (mm_Mod_worst, 4, [(2, x0), (0, x1), (0, x2), (0, x3), y4], [], w) =
    (if px_go w x0 9 = true then
      if px_ga w 0 (px_rd w x0 12) 2 = true then
        if x3 < (px_rd w (px_rd w x0 12) 2) then
          if (px_and (px_shr x1 x3) 1) = 0 then
            px_R (mm_Mod_worst, 4, [(2, x0), (0, x1), (0, x2), (0, (px_w (x3 + 1))), y4], [], w)
          else
            if px_go w x0 9 = true then
              (px_R (mm_Mod_right_0, 0, [(2, x0), (0, x1), (0, x3)], [], w)).bind fun r1 =>
              if x2 = (-1) then
                px_R (mm_Mod_worst, 4, [(2, x0), (0, x1), (0, r1.1), (0, (px_w (x3 + 1))), (0, r1.1)], [], r1.2)
              else
                if r1.1 < x2 then
                  px_R (mm_Mod_worst, 4, [(2, x0), (0, x1), (0, r1.1), (0, (px_w (x3 + 1))), (0, r1.1)], [], r1.2)
                else
                  px_R (mm_Mod_worst, 4, [(2, x0), (0, x1), (0, x2), (0, (px_w (x3 + 1))), (0, r1.1)], [], r1.2)
            else none
        else
          some (x2, w)
      else none
    else none) := (px_Req mm_Mod_worst 4 [(2, x0), (0, x1), (0, x2), (0, x3), y4] [] w).trans rfl
set_option maxRecDepth 100000 in
theorem eq_Book_tryLaws_0 (x0 x1 x2 x3 x4 : Int) (w : pw) : px_R (mm_Book_tryLaws, 0, [(2, x0), (2, x1), (2, x2), (2, x3), (0, x4), (9, 0), (9, 0), (9, 0), (9, 0)], [], w) =
    (if px_go w x2 2 = true then
      if px_go w x2 2 = true then
        if px_go w x0 0 = true then
          if px_go (px_wr w x0 9 0) x0 0 = true then
            if px_go (px_wr (px_wr w x0 9 0) x0 10 (-1)) x0 0 = true then
              px_R (mm_Book_tryLaws, 33, [(2, x0), (2, x1), (2, x2), (2, x3), (0, x4), (0, (px_rd w x2 0)), (0, (px_rd w x2 2)), (0, 0), (0, 0)], [], (px_wr (px_wr (px_wr w x0 9 0) x0 10 (-1)) x0 11 (-1)))
            else none
          else none
        else none
      else none
    else none) := (px_Req mm_Book_tryLaws 0 [(2, x0), (2, x1), (2, x2), (2, x3), (0, x4), (9, 0), (9, 0), (9, 0), (9, 0)] [] w).trans rfl
set_option maxRecDepth 100000 in
theorem eq_Book_tryLaws_33 (x0 x1 x2 x3 x4 x5 x6 x7 x8 : Int) (w : pw) : px_R (mm_Book_tryLaws, 33, [(2, x0), (2, x1), (2, x2), (2, x3), (0, x4), (0, x5), (0, x6), (0, x7), (0, x8)], [], w) =
    (if px_go w x1 5 = true then
      if px_ga w 0 (px_rd w x1 1) 0 = true then
        if x8 < (px_w (20 * (px_rd w (px_rd w x1 1) 0))) then
          if px_go w x2 2 = true then
            if px_go (px_wr w x2 0 (px_w (Int.tdiv x8 20))) x2 2 = true then
              if px_go (px_wr (px_wr w x2 0 (px_w (Int.tdiv x8 20))) x2 2 (px_w (10 * (px_w ((Int.tmod x8 20) + 1))))) x3 1 = true then
                (px_R (mm_Ear_learn, 0, [(2, x3), (2, x1), (2, x2)], [], (px_wr (px_wr w x2 0 (px_w (Int.tdiv x8 20))) x2 2 (px_w (10 * (px_w ((Int.tmod x8 20) + 1))))))).bind fun r1 =>
                if r1.1 = 0 then
                  if x8 = 0 then
                    px_R (mm_Book_tryLaws, 84, [(2, x0), (2, x1), (2, x2), (2, x3), (0, x4), (0, x5), (0, x6), (0, x7), (0, x8)], [], r1.2)
                  else
                    px_R (mm_Book_tryLaws, 137, [(2, x0), (2, x1), (2, x2), (2, x3), (0, x4), (0, x5), (0, x6), (0, x7), (0, x8)], [], r1.2)
                else
                  px_R (mm_Book_tryLaws, 84, [(2, x0), (2, x1), (2, x2), (2, x3), (0, x4), (0, x5), (0, x6), (0, x7), (0, x8)], [], r1.2)
              else none
            else none
          else none
        else
          if px_go w x2 2 = true then
            if px_go (px_wr w x2 0 x5) x2 2 = true then
              some (0, (px_wr (px_wr w x2 0 x5) x2 2 x6))
            else none
          else none
      else none
    else none) := (px_Req mm_Book_tryLaws 33 [(2, x0), (2, x1), (2, x2), (2, x3), (0, x4), (0, x5), (0, x6), (0, x7), (0, x8)] [] w).trans rfl
set_option maxRecDepth 100000 in
theorem eq_Book_tryLaws_84 (x0 x1 x2 x3 x4 x5 x6 x7 x8 : Int) (w : pw) : px_R (mm_Book_tryLaws, 84, [(2, x0), (2, x1), (2, x2), (2, x3), (0, x4), (0, x5), (0, x6), (0, x7), (0, x8)], [], w) =
    (if px_go w x0 0 = true then
      (px_R (mm_Book_weigh, 0, [(2, x0), (2, x3), (0, x4), (9, 0), (9, 0), (9, 0), (9, 0)], [], w)).bind fun r2 =>
      if r2.1 = 0 then
        px_R (mm_Book_tryLaws, 137, [(2, x0), (2, x1), (2, x2), (2, x3), (0, x4), (0, x5), (0, x6), (0, r2.1), (0, x8)], [], r2.2)
      else
        if px_go r2.2 x0 0 = true then
          if (px_rd r2.2 x0 11) = (-1) then
            if px_go r2.2 x0 0 = true then
              if px_go (px_wr r2.2 x0 11 x8) x0 0 = true then
                if px_go (px_wr r2.2 x0 11 x8) x0 0 = true then
                  if px_go (px_wr r2.2 x0 11 x8) (px_rd (px_wr r2.2 x0 11 x8) x0 14) 3 = true then
                    (px_R (mm_Prod_become, 0, [(2, (px_rd (px_wr r2.2 x0 11 x8) x0 14)), (2, (px_rd (px_wr r2.2 x0 11 x8) x0 13)), (9, 0)], [], (px_wr r2.2 x0 11 x8))).bind fun r3 =>
                    px_R (mm_Book_tryLaws, 137, [(2, x0), (2, x1), (2, x2), (2, x3), (0, x4), (0, x5), (0, x6), (0, r2.1), (0, x8)], [], r3.2)
                  else none
                else none
              else none
            else none
          else
            if px_go r2.2 x0 0 = true then
              if px_go r2.2 x0 0 = true then
                if px_go r2.2 (px_rd r2.2 x0 13) 3 = true then
                  (px_R (mm_Prod_isAbove, 0, [(2, (px_rd r2.2 x0 13)), (2, (px_rd r2.2 x0 14)), (9, 0)], [], r2.2)).bind fun r4 =>
                  if r4.1 = 0 then
                    px_R (mm_Book_tryLaws, 137, [(2, x0), (2, x1), (2, x2), (2, x3), (0, x4), (0, x5), (0, x6), (0, r2.1), (0, x8)], [], r4.2)
                  else
                    if px_go r4.2 x0 0 = true then
                      if px_go (px_wr r4.2 x0 11 x8) x0 0 = true then
                        if px_go (px_wr r4.2 x0 11 x8) x0 0 = true then
                          if px_go (px_wr r4.2 x0 11 x8) (px_rd (px_wr r4.2 x0 11 x8) x0 14) 3 = true then
                            (px_R (mm_Prod_become, 0, [(2, (px_rd (px_wr r4.2 x0 11 x8) x0 14)), (2, (px_rd (px_wr r4.2 x0 11 x8) x0 13)), (9, 0)], [], (px_wr r4.2 x0 11 x8))).bind fun r5 =>
                            px_R (mm_Book_tryLaws, 137, [(2, x0), (2, x1), (2, x2), (2, x3), (0, x4), (0, x5), (0, x6), (0, r2.1), (0, x8)], [], r5.2)
                          else none
                        else none
                      else none
                    else none
                else none
              else none
            else none
        else none
    else none) := (px_Req mm_Book_tryLaws 84 [(2, x0), (2, x1), (2, x2), (2, x3), (0, x4), (0, x5), (0, x6), (0, x7), (0, x8)] [] w).trans rfl
set_option maxRecDepth 100000 in
theorem eq_Book_tryLaws_137 (x0 x1 x2 x3 x4 x5 x6 x7 x8 : Int) (w : pw) : px_R (mm_Book_tryLaws, 137, [(2, x0), (2, x1), (2, x2), (2, x3), (0, x4), (0, x5), (0, x6), (0, x7), (0, x8)], [], w) =
    (if x7 = 0 then
      px_R (mm_Book_tryLaws, 33, [(2, x0), (2, x1), (2, x2), (2, x3), (0, x4), (0, x5), (0, x6), (0, x7), (0, (px_w (x8 + 1)))], [], w)
    else
      if px_go w x0 0 = true then
        if px_go w x0 0 = true then
          if px_go (px_wr w x0 9 (px_w ((px_rd w x0 9) + 1))) x0 0 = true then
            if (px_rd (px_wr w x0 9 (px_w ((px_rd w x0 9) + 1))) x0 10) = (-1) then
              if px_go (px_wr w x0 9 (px_w ((px_rd w x0 9) + 1))) x0 0 = true then
                px_R (mm_Book_tryLaws, 33, [(2, x0), (2, x1), (2, x2), (2, x3), (0, x4), (0, x5), (0, x6), (0, x7), (0, (px_w (x8 + 1)))], [], (px_wr (px_wr w x0 9 (px_w ((px_rd w x0 9) + 1))) x0 10 x8))
              else none
            else
              if px_go (px_wr w x0 9 (px_w ((px_rd w x0 9) + 1))) x0 0 = true then
                if px_go (px_wr w x0 9 (px_w ((px_rd w x0 9) + 1))) x0 0 = true then
                  px_R (mm_Book_tryLaws, 33, [(2, x0), (2, x1), (2, x2), (2, x3), (0, x4), (0, x5), (0, x6), (0, x7), (0, (px_w (x8 + 1)))], [], (px_wr (px_wr w x0 9 (px_w ((px_rd w x0 9) + 1))) x0 10 (px_rd (px_wr w x0 9 (px_w ((px_rd w x0 9) + 1))) x0 10)))
                else none
              else none
          else none
        else none
      else none) := (px_Req mm_Book_tryLaws 137 [(2, x0), (2, x1), (2, x2), (2, x3), (0, x4), (0, x5), (0, x6), (0, x7), (0, x8)] [] w).trans rfl
set_option maxRecDepth 100000 in
theorem eq_Str_kindOf_0 (x0 : Int) (w : pw) : px_R (mm_Str_kindOf, 0, [(2, x0)], [], w) =
    (if px_go w x0 6 = true then
      (px_R (mm_Tape_isWord, 0, [(2, x0), (3, 0), (9, 0)], [], w)).bind fun r1 =>
      if r1.1 = 0 then
        if px_go r1.2 x0 6 = true then
          (px_R (mm_Tape_isWord, 0, [(2, x0), (3, 1), (9, 0)], [], r1.2)).bind fun r2 =>
          if r2.1 = 0 then
            if px_go r2.2 x0 6 = true then
              (px_R (mm_Tape_isWord, 0, [(2, x0), (3, 2), (9, 0)], [], r2.2)).bind fun r3 =>
              if r3.1 = 0 then
                if px_go r3.2 x0 6 = true then
                  (px_R (mm_Tape_isWord, 0, [(2, x0), (3, 3), (9, 0)], [], r3.2)).bind fun r4 =>
                  if r4.1 = 0 then
                    if px_go r4.2 x0 6 = true then
                      (px_R (mm_Tape_isWord, 0, [(2, x0), (3, 4), (9, 0)], [], r4.2)).bind fun r5 =>
                      if r5.1 = 0 then
                        if px_go r5.2 x0 6 = true then
                          (px_R (mm_Tape_isWord, 0, [(2, x0), (3, 5), (9, 0)], [], r5.2)).bind fun r6 =>
                          if r6.1 = 0 then
                            if px_go r6.2 x0 6 = true then
                              (px_R (mm_Tape_isWord, 0, [(2, x0), (3, 6), (9, 0)], [], r6.2)).bind fun r7 =>
                              if r7.1 = 0 then
                                if px_go r7.2 x0 6 = true then
                                  (px_R (mm_Tape_isWord, 0, [(2, x0), (3, 7), (9, 0)], [], r7.2)).bind fun r8 =>
                                  if r8.1 = 0 then
                                    if px_go r8.2 x0 6 = true then
                                      (px_R (mm_Tape_isWord, 0, [(2, x0), (3, 8), (9, 0)], [], r8.2)).bind fun r9 =>
                                      if r9.1 = 0 then
                                        some ((-1), r9.2)
                                      else
                                        some (8, r9.2)
                                    else none
                                  else
                                    some (7, r8.2)
                                else none
                              else
                                some (6, r7.2)
                            else none
                          else
                            some (5, r6.2)
                        else none
                      else
                        some (4, r5.2)
                    else none
                  else
                    some (3, r4.2)
                else none
              else
                some (2, r3.2)
            else none
          else
            some (1, r2.2)
        else none
      else
        some (0, r1.2)
    else none) := (px_Req mm_Str_kindOf 0 [(2, x0)] [] w).trans rfl
set_option maxRecDepth 100000 in
theorem eq_Tin_bestOf_0 (x0 x1 x2 : Int) (w : pw) : px_R (mm_Tin_bestOf, 0, [(2, x0), (0, x1), (0, x2), (9, 0), (9, 0), (9, 0), (9, 0), (9, 0)], [], w) =
    (if px_go w x0 8 = true then
      if px_go w (px_rd w x0 1) 2 = true then
        (px_R (mm_Line_change, 0, [(2, (px_rd w x0 1)), (0, x1), (0, x2), (0, 0), (9, 0)], [], w)).bind fun r1 =>
        px_R (mm_Tin_bestOf, 20, [(2, x0), (0, x1), (0, x2), (0, r1.1), (0, (-1)), (0, (-1)), (0, 0), (9, 0)], [], r1.2)
      else none
    else none) := (px_Req mm_Tin_bestOf 0 [(2, x0), (0, x1), (0, x2), (9, 0), (9, 0), (9, 0), (9, 0), (9, 0)] [] w).trans rfl
set_option maxRecDepth 100000 in
theorem eq_Tin_bestOf_20 (x0 x1 x2 x3 x4 x5 x6 : Int) (y7 : pv) (w : pw) : px_R (mm_Tin_bestOf, 20, [(2, x0), (0, x1), (0, x2), (0, x3), (0, x4), (0, x5), (0, x6), y7], [], w) =
    (if px_go w x0 8 = true then
      if px_go w (px_rd w x0 8) 5 = true then
        if px_ga w 0 (px_rd w (px_rd w x0 8) 1) x1 = true then
          if x6 < (px_rd w (px_rd w (px_rd w x0 8) 1) (x1).toNat) then
            if px_go w x0 8 = true then
              if px_go w (px_rd w x0 1) 2 = true then
                (px_R (mm_Line_change, 0, [(2, (px_rd w x0 1)), (0, x1), (0, x2), (0, x6), (9, 0)], [], w)).bind fun r3 =>
                if px_go r3.2 x0 8 = true then
                  if px_go r3.2 x0 8 = true then
                    if px_go r3.2 x0 8 = true then
                      if px_go r3.2 (px_rd r3.2 x0 2) 1 = true then
                        (px_R (mm_Ear_learn, 0, [(2, (px_rd r3.2 x0 2)), (2, (px_rd r3.2 x0 8)), (2, (px_rd r3.2 x0 1))], [], r3.2)).bind fun r4 =>
                        if px_go r4.2 x0 8 = true then
                          if px_go r4.2 x0 8 = true then
                            (px_R (mm_Tin_allWords, 0, [(2, x0)], [], r4.2)).bind fun r5 =>
                            if px_go r5.2 (px_rd r4.2 x0 2) 1 = true then
                              (px_R (mm_Ear_leastOf, 0, [(2, (px_rd r4.2 x0 2)), (0, r5.1), (0, x4), (9, 0), (9, 0)], [], r5.2)).bind fun r6 =>
                              if x4 < r6.1 then
                                px_R (mm_Tin_bestOf, 20, [(2, x0), (0, x1), (0, x2), (0, x3), (0, r6.1), (0, x6), (0, (px_w (x6 + 1))), (0, r6.1)], [], r6.2)
                              else
                                px_R (mm_Tin_bestOf, 20, [(2, x0), (0, x1), (0, x2), (0, x3), (0, x4), (0, x5), (0, (px_w (x6 + 1))), (0, r6.1)], [], r6.2)
                            else none
                          else none
                        else none
                      else none
                    else none
                  else none
                else none
              else none
            else none
          else
            if px_go w x0 8 = true then
              if px_go w (px_rd w x0 1) 2 = true then
                (px_R (mm_Line_change, 0, [(2, (px_rd w x0 1)), (0, x1), (0, x2), (0, x3), (9, 0)], [], w)).bind fun r2 =>
                some (x5, r2.2)
              else none
            else none
        else none
      else none
    else none) := (px_Req mm_Tin_bestOf 20 [(2, x0), (0, x1), (0, x2), (0, x3), (0, x4), (0, x5), (0, x6), y7] [] w).trans rfl
set_option maxRecDepth 100000 in
theorem eq_Tin_list_0 (x0 x1 : Int) (w : pw) : px_R (mm_Tin_list, 0, [(2, x0), (0, x1), (9, 0), (9, 0), (9, 0), (9, 0)], [], w) =
    (if px_go w x0 8 = true then
      if px_go w (px_rd w x0 8) 5 = true then
        if px_ga w 0 (px_rd w (px_rd w x0 8) 1) 2 = true then
          (px_R (mm_Tin_within, 0, [(0, x1), (0, 1), (0, (px_rd w (px_rd w (px_rd w x0 8) 1) 2))], [], w)).bind fun r1 =>
            if r1.1 = 0 then
              some ((-2), r1.2)
            else
              if px_go r1.2 x0 8 = true then
                (px_R (mm_Tin_lineLacks, 0, [(2, x0)], [], r1.2)).bind fun r2 =>
                if r2.1 = 0 then
                  if px_go r2.2 x0 8 = true then
                    if px_go r2.2 x0 8 = true then
                      if px_go r2.2 x0 8 = true then
                        if px_go r2.2 (px_rd r2.2 x0 2) 1 = true then
                          (px_R (mm_Ear_learn, 0, [(2, (px_rd r2.2 x0 2)), (2, (px_rd r2.2 x0 8)), (2, (px_rd r2.2 x0 1))], [], r2.2)).bind fun r3 =>
                          px_R (mm_Tin_list, 53, [(2, x0), (0, x1), (0, (-1)), (0, (-1)), (0, 1), (9, 0)], [], r3.2)
                        else none
                      else none
                    else none
                  else none
                else
                  some ((-4), r2.2)
              else none
        else none
      else none
    else none) := (px_Req mm_Tin_list 0 [(2, x0), (0, x1), (9, 0), (9, 0), (9, 0), (9, 0)] [] w).trans rfl
set_option maxRecDepth 100000 in
theorem eq_Tin_list_53 (x0 x1 x2 x3 x4 : Int) (y5 : pv) (w : pw) : px_R (mm_Tin_list, 53, [(2, x0), (0, x1), (0, x2), (0, x3), (0, x4), y5], [], w) =
    (if px_go w x0 8 = true then
      (px_R (mm_Tin_allWords, 0, [(2, x0)], [], w)).bind fun r4 =>
      if r4.1 < x4 then
        some (x3, r4.2)
      else
        (px_R (mm_Integer_bitCount, 0, [(0, x4)], [], r4.2)).bind fun r5 =>
          if r5.1 = x1 then
            if px_go r5.2 x0 8 = true then
              if px_go r5.2 (px_rd r5.2 x0 2) 1 = true then
                (px_R (mm_Ear_leastOf, 0, [(2, (px_rd r5.2 x0 2)), (0, x4), (0, x2), (9, 0), (9, 0)], [], r5.2)).bind fun r6 =>
                if x2 < r6.1 then
                  px_R (mm_Tin_list, 53, [(2, x0), (0, x1), (0, r6.1), (0, x4), (0, (px_w (x4 + 1))), (0, r6.1)], [], r6.2)
                else
                  px_R (mm_Tin_list, 53, [(2, x0), (0, x1), (0, x2), (0, x3), (0, (px_w (x4 + 1))), (0, r6.1)], [], r6.2)
              else none
            else none
          else
            px_R (mm_Tin_list, 53, [(2, x0), (0, x1), (0, x2), (0, x3), (0, (px_w (x4 + 1))), y5], [], r5.2)
    else none) := (px_Req mm_Tin_list 53 [(2, x0), (0, x1), (0, x2), (0, x3), (0, x4), y5] [] w).trans rfl
set_option maxRecDepth 100000 in
theorem eq_Tin_said_0 (x0 x1 x2 : Int) (w : pw) : px_R (mm_Tin_said, 0, [(2, x0), (0, x1), (0, x2)], [], w) =
    (if px_go w x0 8 = true then
      (px_R (mm_Tin_isOne, 0, [(2, x0), (0, 2), (0, x1)], [], w)).bind fun r1 =>
      if r1.1 = 0 then
        some ((-2), r1.2)
      else
        if x2 < 0 then
          some ((-2), r1.2)
        else
          if px_go r1.2 x0 8 = true then
            (px_R (mm_Tin_lineLacks, 0, [(2, x0)], [], r1.2)).bind fun r2 =>
            if r2.1 = 0 then
              if px_go r2.2 x0 8 = true then
                if px_go r2.2 x0 8 = true then
                  if px_go r2.2 x0 8 = true then
                    if px_go r2.2 (px_rd r2.2 x0 2) 1 = true then
                      (px_R (mm_Ear_learn, 0, [(2, (px_rd r2.2 x0 2)), (2, (px_rd r2.2 x0 8)), (2, (px_rd r2.2 x0 1))], [], r2.2)).bind fun r3 =>
                      if px_go r3.2 x0 8 = true then
                        if px_go r3.2 (px_rd r3.2 x0 2) 1 = true then
                          (px_R (mm_Ear_hearOnce, 0, [(2, (px_rd r3.2 x0 2)), (0, x1), (0, x2), (9, 0), (9, 0), (9, 0), (9, 0), (9, 0), (9, 0)], [], r3.2)).bind fun r4 =>
                          some (r4.1, r4.2)
                        else none
                      else none
                    else none
                  else none
                else none
              else none
            else
              some ((-4), r2.2)
          else none
    else none) := (px_Req mm_Tin_said 0 [(2, x0), (0, x1), (0, x2)] [] w).trans rfl
set_option maxRecDepth 100000 in
theorem eq_Tin_takenFor_0 (x0 x1 x2 x3 : Int) (w : pw) : px_R (mm_Tin_takenFor, 0, [(2, x0), (0, x1), (0, x2), (0, x3)], [], w) =
    (if px_go w x0 8 = true then
      (px_R (mm_Tin_lineLacks, 0, [(2, x0)], [], w)).bind fun r1 =>
      if r1.1 = 0 then
        if px_go r1.2 x0 8 = true then
          if px_go r1.2 x0 8 = true then
            if px_go r1.2 x0 8 = true then
              if px_go r1.2 (px_rd r1.2 x0 2) 1 = true then
                (px_R (mm_Ear_learn, 0, [(2, (px_rd r1.2 x0 2)), (2, (px_rd r1.2 x0 8)), (2, (px_rd r1.2 x0 1))], [], r1.2)).bind fun r2 =>
                if px_go r2.2 x0 8 = true then
                  if px_go r2.2 x0 8 = true then
                    if px_go r2.2 (px_rd r2.2 x0 2) 1 = true then
                      if px_go r2.2 (px_rd r2.2 x0 2) 1 = true then
                        (px_R (mm_Ear_hear, 0, [(2, (px_rd r2.2 x0 2)), (0, x2), (0, x1), (2, (px_rd r2.2 (px_rd r2.2 x0 2) 4)), (9, 0), (9, 0)], [], r2.2)).bind fun r3 =>
                        if px_go r3.2 x0 8 = true then
                          if px_go r3.2 (px_rd r3.2 x0 2) 1 = true then
                            if px_ga r3.2 0 (px_rd r3.2 (px_rd r3.2 x0 2) 4) x3 = true then
                              some ((px_rd r3.2 (px_rd r3.2 (px_rd r3.2 x0 2) 4) (x3).toNat), r3.2)
                            else none
                          else none
                        else none
                      else none
                    else none
                  else none
                else none
              else none
            else none
          else none
        else none
      else
        some ((-4), r1.2)
    else none) := (px_Req mm_Tin_takenFor 0 [(2, x0), (0, x1), (0, x2), (0, x3)] [] w).trans rfl
set_option maxRecDepth 100000 in
theorem eq_Mod_best_0 (x0 x1 : Int) (w : pw) : px_R (mm_Mod_best, 0, [(2, x0), (0, x1), (9, 0), (9, 0), (9, 0), (9, 0)], [], w) =
    ((px_R (mm_Mod_in, 0, [(0, x1), (0, 0), (0, 1)], [], w)).bind fun r1 =>
      if r1.1 = 0 then
        some ((-2), r1.2)
      else
        if px_go r1.2 x0 9 = true then
          (px_R (mm_Mod_hasLine, 0, [(2, x0)], [], r1.2)).bind fun r2 =>
          if r2.1 = 0 then
            some ((-4), r2.2)
          else
            if px_go r2.2 x0 9 = true then
              if px_ga r2.2 0 (px_rd r2.2 x0 12) 2 = true then
                if (px_rd r2.2 (px_rd r2.2 x0 12) 2) = 0 then
                  some ((-1), r2.2)
                else
                  px_R (mm_Mod_best, 40, [(2, x0), (0, x1), (0, (-1)), (0, 0), (0, 0), (9, 0)], [], r2.2)
              else none
            else none
        else none) := (px_Req mm_Mod_best 0 [(2, x0), (0, x1), (9, 0), (9, 0), (9, 0), (9, 0)] [] w).trans rfl
set_option maxRecDepth 100000 in
theorem eq_Mod_best_40 (x0 x1 x2 x3 x4 : Int) (y5 : pv) (w : pw) : px_R (mm_Mod_best, 40, [(2, x0), (0, x1), (0, x2), (0, x3), (0, x4), y5], [], w) =
    (if px_go w x0 9 = true then
      if px_ga w 0 (px_rd w x0 12) x1 = true then
        if x4 < (px_rd w (px_rd w x0 12) (x1).toNat) then
          if x1 = 0 then
            if x1 = 1 then
              px_R (mm_Mod_best, 79, [(2, x0), (0, x1), (0, x2), (0, x3), (0, x4), y5], [(0, x4), (0, x4), (2, x0)], w)
            else
              if px_go w x0 9 = true then
                px_R (mm_Mod_best, 79, [(2, x0), (0, x1), (0, x2), (0, x3), (0, x4), y5], [(0, (px_rd w x0 25)), (0, x4), (2, x0)], w)
              else none
          else
            if px_go w x0 9 = true then
              if x1 = 1 then
                px_R (mm_Mod_best, 79, [(2, x0), (0, x1), (0, x2), (0, x3), (0, x4), y5], [(0, x4), (0, (px_rd w x0 24)), (2, x0)], w)
              else
                if px_go w x0 9 = true then
                  px_R (mm_Mod_best, 79, [(2, x0), (0, x1), (0, x2), (0, x3), (0, x4), y5], [(0, (px_rd w x0 25)), (0, (px_rd w x0 24)), (2, x0)], w)
                else none
            else none
        else
          some (x2, w)
      else none
    else none) := (px_Req mm_Mod_best 40 [(2, x0), (0, x1), (0, x2), (0, x3), (0, x4), y5] [] w).trans rfl
set_option maxRecDepth 100000 in
theorem eq_Mod_best_79 (x0 x1 x2 x3 x4 s0 s1 s2 : Int) (y5 : pv) (w : pw) : px_R (mm_Mod_best, 79, [(2, x0), (0, x1), (0, x2), (0, x3), (0, x4), y5], [(0, s2), (0, s1), (2, s0)], w) =
    (if px_go w x0 9 = true then
      if px_go w s0 9 = true then
        (px_R (mm_Mod_makeLevels, 0, [(2, s0), (0, s1), (0, s2), (0, (px_rd w x0 26)), (9, 0), (9, 0), (9, 0)], [], w)).bind fun r3 =>
        if px_go r3.2 x0 9 = true then
          (px_R (mm_Mod_allWords, 0, [(2, x0)], [], r3.2)).bind fun r4 =>
          if px_go r4.2 x0 9 = true then
            (px_R (mm_Mod_worst, 0, [(2, x0), (0, r4.1), (9, 0), (9, 0), (9, 0)], [], r4.2)).bind fun r5 =>
            if x2 = (-1) then
              px_R (mm_Mod_best, 40, [(2, x0), (0, x1), (0, x4), (0, r5.1), (0, (px_w (x4 + 1))), (0, r5.1)], [], r5.2)
            else
              if x3 < r5.1 then
                px_R (mm_Mod_best, 40, [(2, x0), (0, x1), (0, x4), (0, r5.1), (0, (px_w (x4 + 1))), (0, r5.1)], [], r5.2)
              else
                px_R (mm_Mod_best, 40, [(2, x0), (0, x1), (0, x2), (0, x3), (0, (px_w (x4 + 1))), (0, r5.1)], [], r5.2)
          else none
        else none
      else none
    else none) := (px_Req mm_Mod_best 79 [(2, x0), (0, x1), (0, x2), (0, x3), (0, x4), y5] [(0, s2), (0, s1), (2, s0)] w).trans rfl
set_option maxRecDepth 100000 in
theorem eq_Mod_lets_0 (x0 x1 x2 : Int) (w : pw) : px_R (mm_Mod_lets, 0, [(2, x0), (0, x1), (0, x2), (9, 0), (9, 0)], [], w) =
    (if px_go w x0 9 = true then
      if px_go w x0 9 = true then
        (px_R (mm_Mod_makeLevels, 0, [(2, x0), (0, (px_w (Int.tdiv x1 20))), (0, (px_rd w x0 25)), (0, (px_w (10 * (px_w ((Int.tmod x1 20) + 1))))), (9, 0), (9, 0), (9, 0)], [], w)).bind fun r1 =>
        px_R (mm_Mod_lets, 23, [(2, x0), (0, x1), (0, x2), (0, 0), (9, 0)], [], r1.2)
      else none
    else none) := (px_Req mm_Mod_lets 0 [(2, x0), (0, x1), (0, x2), (9, 0), (9, 0)] [] w).trans rfl
set_option maxRecDepth 100000 in
theorem eq_Mod_lets_23 (x0 x1 x2 x3 : Int) (w : pw) : px_R (mm_Mod_lets, 23, [(2, x0), (0, x1), (0, x2), (0, x3), (9, 0)], [], w) =
    (if x3 < 30 then
      if px_go w x0 9 = true then
        if x3 = 0 then
          if px_ga w 0 (px_rd w x0 60) x3 = true then
            px_R (mm_Mod_lets, 23, [(2, x0), (0, x1), (0, x2), (0, (px_w (x3 + 1))), (9, 0)], [], (px_wr w (px_rd w x0 60) (x3).toNat 1))
          else none
        else
          if px_ga w 0 (px_rd w x0 60) x3 = true then
            px_R (mm_Mod_lets, 23, [(2, x0), (0, x1), (0, x2), (0, (px_w (x3 + 1))), (9, 0)], [], (px_wr w (px_rd w x0 60) (x3).toNat 0))
          else none
      else none
    else
      px_R (mm_Mod_lets, 52, [(2, x0), (0, x1), (0, x2), (0, 0), (9, 0)], [], w)) := (px_Req mm_Mod_lets 23 [(2, x0), (0, x1), (0, x2), (0, x3), (9, 0)] [] w).trans rfl
set_option maxRecDepth 100000 in
theorem eq_Mod_lets_52 (x0 x1 x2 x3 : Int) (y4 : pv) (w : pw) : px_R (mm_Mod_lets, 52, [(2, x0), (0, x1), (0, x2), (0, x3), y4], [], w) =
    (if px_go w x0 9 = true then
      if x3 < (px_rd w x0 51) then
        if px_go w x0 9 = true then
          if px_ga w 0 (px_rd w x0 54) x3 = true then
            if x2 < (px_rd w (px_rd w x0 54) (x3).toNat) then
              px_R (mm_Mod_lets, 52, [(2, x0), (0, x1), (0, x2), (0, (px_w (x3 + 1))), y4], [], w)
            else
              if px_go w x0 9 = true then
                (px_R (mm_Mod_allWords, 0, [(2, x0)], [], w)).bind fun r2 =>
                if px_go r2.2 x0 9 = true then
                  if px_ga r2.2 0 (px_rd r2.2 x0 55) x3 = true then
                    if px_go r2.2 x0 9 = true then
                      (px_R (mm_Mod_listen, 0, [(2, x0), (0, r2.1), (0, (px_rd r2.2 (px_rd r2.2 x0 55) (x3).toNat)), (9, 0), (9, 0), (9, 0), (9, 0), (9, 0), (9, 0), (9, 0)], [], r2.2)).bind fun r3 =>
                      if px_go r3.2 x0 9 = true then
                        if px_go r3.2 x0 9 = true then
                          (px_R (mm_Mod_wroteAt, 0, [(2, x0), (0, x3), (0, x2), (9, 0), (9, 0)], [], r3.2)).bind fun r4 =>
                          if px_ga r4.2 0 (px_rd r3.2 x0 34) r4.1 = true then
                            if (px_rd r4.2 (px_rd r3.2 x0 34) (r4.1).toNat) = 0 then
                              some (0, r4.2)
                            else
                              if px_go r4.2 x0 9 = true then
                                (px_R (mm_Mod_times, 0, [(2, x0), (0, (px_rd r4.2 (px_rd r3.2 x0 34) (r4.1).toNat)), (9, 0), (9, 0), (9, 0), (9, 0), (9, 0)], [], r4.2)).bind fun r5 =>
                                px_R (mm_Mod_lets, 52, [(2, x0), (0, x1), (0, x2), (0, (px_w (x3 + 1))), (0, (px_rd r4.2 (px_rd r3.2 x0 34) (r4.1).toNat))], [], r5.2)
                              else none
                          else none
                        else none
                      else none
                    else none
                  else none
                else none
              else none
          else none
        else none
      else
        some (1, w)
    else none) := (px_Req mm_Mod_lets 52 [(2, x0), (0, x1), (0, x2), (0, x3), y4] [] w).trans rfl
set_option maxRecDepth 100000 in
theorem eq_Mod_longest_0 (x0 x1 x2 x3 : Int) (w : pw) : px_R (mm_Mod_longest, 0, [(2, x0), (0, x1), (0, x2), (0, x3), (9, 0)], [], w) =
    (if px_go w x0 9 = true then
      (px_R (mm_Mod_is, 0, [(2, x0), (0, 2), (0, x1)], [], w)).bind fun r1 =>
      if r1.1 = 0 then
        some ((-2), r1.2)
      else
        (px_R (mm_Mod_in, 0, [(0, x2), (0, 0), (0, 65536)], [], r1.2)).bind fun r2 =>
          if r2.1 = 0 then
            some ((-2), r2.2)
          else
            (px_R (mm_Mod_in, 0, [(0, x3), (0, 1), (0, 65536)], [], r2.2)).bind fun r3 =>
              if r3.1 = 0 then
                some ((-2), r3.2)
              else
                if px_go r3.2 x0 9 = true then
                  (px_R (mm_Mod_hasLine, 0, [(2, x0)], [], r3.2)).bind fun r4 =>
                  if r4.1 = 0 then
                    some ((-4), r4.2)
                  else
                    px_R (mm_Mod_longest, 49, [(2, x0), (0, x1), (0, x2), (0, x3), (0, 400)], [], r4.2)
                else none
    else none) := (px_Req mm_Mod_longest 0 [(2, x0), (0, x1), (0, x2), (0, x3), (9, 0)] [] w).trans rfl
set_option maxRecDepth 100000 in
theorem eq_Mod_longest_49 (x0 x1 x2 x3 x4 : Int) (w : pw) : px_R (mm_Mod_longest, 49, [(2, x0), (0, x1), (0, x2), (0, x3), (0, x4)], [], w) =
    (if 0 < x4 then
      if px_go w x0 9 = true then
        if px_go w x0 9 = true then
          if px_go w x0 9 = true then
            (px_R (mm_Mod_makeLevels, 0, [(2, x0), (0, (px_rd w x0 24)), (0, (px_rd w x0 25)), (0, x4), (9, 0), (9, 0), (9, 0)], [], w)).bind fun r5 =>
            if px_go r5.2 x0 9 = true then
              (px_R (mm_Mod_allWords, 0, [(2, x0)], [], r5.2)).bind fun r6 =>
              if px_go r6.2 x0 9 = true then
                (px_R (mm_Mod_right_0, 0, [(2, x0), (0, r6.1), (0, x1)], [], r6.2)).bind fun r7 =>
                if px_go r7.2 x0 9 = true then
                  (px_R (mm_Mod_allWays, 0, [(2, x0), (9, 0), (9, 0)], [], r7.2)).bind fun r8 =>
                  if (px_cmp (px_wl (r7.1 * x3)) (px_wl (x2 * r8.1))) < 0 then
                    px_R (mm_Mod_longest, 49, [(2, x0), (0, x1), (0, x2), (0, x3), (0, (px_w (x4 + (-1))))], [], r8.2)
                  else
                    some (x4, r8.2)
                else none
              else none
            else none
          else none
        else none
      else none
    else
      some ((-1), w)) := (px_Req mm_Mod_longest 49 [(2, x0), (0, x1), (0, x2), (0, x3), (0, x4)] [] w).trans rfl
set_option maxRecDepth 100000 in
theorem eq_Mod_makeOwn_0 (x0 : Int) (w : pw) : px_R (mm_Mod_makeOwn, 0, [(2, x0)], [], w) =
    (if px_go w x0 9 = true then
      if px_go w x0 9 = true then
        if px_go w x0 9 = true then
          if px_go w x0 9 = true then
            (px_R (mm_Mod_makeLevels, 0, [(2, x0), (0, (px_rd w x0 24)), (0, (px_rd w x0 25)), (0, (px_rd w x0 26)), (9, 0), (9, 0), (9, 0)], [], w)).bind fun r1 =>
            some (0, r1.2)
          else none
        else none
      else none
    else none) := (px_Req mm_Mod_makeOwn 0 [(2, x0)] [] w).trans rfl
set_option maxRecDepth 100000 in
theorem eq_Mod_scan_0 (x0 : Int) (w : pw) : px_R (mm_Mod_scan, 0, [(2, x0), (9, 0), (9, 0), (9, 0)], [], w) =
    (if px_go w x0 9 = true then
      px_R (mm_Mod_scan, 5, [(2, x0), (0, (px_rd w x0 6)), (9, 0), (9, 0)], [], w)
    else none) := (px_Req mm_Mod_scan 0 [(2, x0), (9, 0), (9, 0), (9, 0)] [] w).trans rfl
set_option maxRecDepth 100000 in
theorem eq_Mod_scan_5 (x0 x1 : Int) (w : pw) : px_R (mm_Mod_scan, 5, [(2, x0), (0, x1), (9, 0), (9, 0)], [], w) =
    (if px_go w x0 9 = true then
      (px_R (mm_Mod_byteAt, 0, [(2, x0), (0, x1)], [], w)).bind fun r1 =>
      if r1.1 = 32 then
        px_R (mm_Mod_scan, 5, [(2, x0), (0, (px_w (x1 + 1))), (9, 0), (9, 0)], [], r1.2)
      else
        if px_go r1.2 x0 9 = true then
          (px_R (mm_Mod_byteAt, 0, [(2, x0), (0, x1)], [], r1.2)).bind fun r2 =>
          if r2.1 = 10 then
            px_R (mm_Mod_scan, 5, [(2, x0), (0, (px_w (x1 + 1))), (9, 0), (9, 0)], [], r2.2)
          else
            if px_go r2.2 x0 9 = true then
              if px_go (px_wr r2.2 x0 5 x1) x0 9 = true then
                (px_R (mm_Mod_byteAt, 0, [(2, x0), (0, x1)], [], (px_wr r2.2 x0 5 x1))).bind fun r3 =>
                if px_go r3.2 x0 9 = true then
                  if r3.1 = (-1) then
                    if px_go (px_wr r3.2 x0 4 (-1)) x0 9 = true then
                      px_R (mm_Mod_scan, 270, [(2, x0), (0, x1), (0, r3.1), (0, x1)], [], (px_wr (px_wr r3.2 x0 4 (-1)) x0 3 4))
                    else none
                  else
                    (px_R (mm_Mod_isSmall, 0, [(0, r3.1)], [], (px_wr r3.2 x0 4 (-1)))).bind fun r4 =>
                      if r4.1 = 0 then
                        (px_R (mm_Mod_isDigit, 0, [(0, r3.1)], [], r4.2)).bind fun r5 =>
                          if r5.1 = 0 then
                            if r3.1 = 59 then
                              if px_go r5.2 x0 9 = true then
                                px_R (mm_Mod_scan, 270, [(2, x0), (0, x1), (0, r3.1), (0, (px_w (x1 + 1)))], [], (px_wr r5.2 x0 3 3))
                              else none
                            else
                              if px_go r5.2 x0 9 = true then
                                px_R (mm_Mod_scan, 270, [(2, x0), (0, x1), (0, r3.1), (0, (px_w (x1 + 1)))], [], (px_wr r5.2 x0 3 0))
                              else none
                          else
                            if px_go r5.2 x0 9 = true then
                              px_R (mm_Mod_scan, 185, [(2, x0), (0, x1), (0, r3.1), (0, (px_w (x1 + 1)))], [], (px_wr r5.2 x0 7 (px_w (r3.1 - 48))))
                            else none
                      else
                        if px_go r4.2 x0 9 = true then
                          px_R (mm_Mod_scan, 80, [(2, x0), (0, x1), (0, r3.1), (0, x1)], [], (px_wr r4.2 x0 10 0))
                        else none
                else none
              else none
            else none
        else none
    else none) := (px_Req mm_Mod_scan 5 [(2, x0), (0, x1), (9, 0), (9, 0)] [] w).trans rfl
set_option maxRecDepth 100000 in
theorem eq_Mod_scan_80 (x0 x1 x2 x3 : Int) (w : pw) : px_R (mm_Mod_scan, 80, [(2, x0), (0, x1), (0, x2), (0, x3)], [], w) =
    (if px_go w x0 9 = true then
      (px_R (mm_Mod_byteAt, 0, [(2, x0), (0, x3)], [], w)).bind fun r6 =>
      (px_R (mm_Mod_isSmall, 0, [(0, r6.1)], [], r6.2)).bind fun r7 =>
        if r7.1 = 0 then
          if 8 < (px_w (x3 - x1)) then
            px_R (mm_Mod_scan, 144, [(2, x0), (0, x1), (0, x2), (0, x3)], [(0, 0), (2, x0)], r7.2)
          else
            px_R (mm_Mod_scan, 144, [(2, x0), (0, x1), (0, x2), (0, x3)], [(0, 1), (2, x0)], r7.2)
        else
          if (px_w (x3 - x1)) < 8 then
            if px_go r7.2 x0 9 = true then
              if px_go r7.2 x0 9 = true then
                (px_R (mm_Mod_byteAt, 0, [(2, x0), (0, x3)], [], r7.2)).bind fun r8 =>
                if px_go r8.2 x0 9 = true then
                  px_R (mm_Mod_scan, 80, [(2, x0), (0, x1), (0, x2), (0, (px_w (x3 + 1)))], [], (px_wr r8.2 x0 10 (px_wl ((px_wl ((px_wl ((px_wl (32 * (px_rd r7.2 x0 10))) + r8.1)) - 97)) + 1))))
                else none
              else none
            else none
          else
            px_R (mm_Mod_scan, 80, [(2, x0), (0, x1), (0, x2), (0, (px_w (x3 + 1)))], [], r7.2)
    else none) := (px_Req mm_Mod_scan 80 [(2, x0), (0, x1), (0, x2), (0, x3)] [] w).trans rfl
set_option maxRecDepth 100000 in
theorem eq_Mod_scan_144 (x0 x1 x2 x3 s0 s1 : Int) (w : pw) : px_R (mm_Mod_scan, 144, [(2, x0), (0, x1), (0, x2), (0, x3)], [(0, s1), (2, s0)], w) =
    (if px_go w s0 9 = true then
      if px_go (px_wr w s0 3 s1) x0 9 = true then
        if (px_rd (px_wr w s0 3 s1) x0 3) = 1 then
          if px_go (px_wr w s0 3 s1) x0 9 = true then
            (px_R (mm_Mod_keyAt, 0, [(2, x0), (0, x1), (0, (px_w (x3 - x1))), (9, 0), (9, 0), (9, 0), (9, 0), (9, 0)], [], (px_wr w s0 3 s1))).bind fun r9 =>
            if px_go r9.2 x0 9 = true then
              px_R (mm_Mod_scan, 270, [(2, x0), (0, x1), (0, x2), (0, x3)], [], (px_wr r9.2 x0 4 r9.1))
            else none
          else none
        else
          px_R (mm_Mod_scan, 270, [(2, x0), (0, x1), (0, x2), (0, x3)], [], (px_wr w s0 3 s1))
      else none
    else none) := (px_Req mm_Mod_scan 144 [(2, x0), (0, x1), (0, x2), (0, x3)] [(0, s1), (2, s0)] w).trans rfl
set_option maxRecDepth 100000 in
theorem eq_Mod_scan_185 (x0 x1 x2 x3 : Int) (w : pw) : px_R (mm_Mod_scan, 185, [(2, x0), (0, x1), (0, x2), (0, x3)], [], w) =
    (if px_go w x0 9 = true then
      (px_R (mm_Mod_byteAt, 0, [(2, x0), (0, x3)], [], w)).bind fun r10 =>
      (px_R (mm_Mod_isDigit, 0, [(0, r10.1)], [], r10.2)).bind fun r11 =>
        if r11.1 = 0 then
          if 4 < (px_w (x3 - x1)) then
            if px_go r11.2 x0 9 = true then
              px_R (mm_Mod_scan, 270, [(2, x0), (0, x1), (0, x2), (0, x3)], [], (px_wr r11.2 x0 3 0))
            else none
          else
            if px_go r11.2 x0 9 = true then
              px_R (mm_Mod_scan, 270, [(2, x0), (0, x1), (0, x2), (0, x3)], [], (px_wr r11.2 x0 3 2))
            else none
        else
          if (px_w (x3 - x1)) < 4 then
            if px_go r11.2 x0 9 = true then
              if px_go r11.2 x0 9 = true then
                (px_R (mm_Mod_byteAt, 0, [(2, x0), (0, x3)], [], r11.2)).bind fun r12 =>
                if px_go r12.2 x0 9 = true then
                  px_R (mm_Mod_scan, 185, [(2, x0), (0, x1), (0, x2), (0, (px_w (x3 + 1)))], [], (px_wr r12.2 x0 7 (px_w ((px_w ((px_w (10 * (px_rd r11.2 x0 7))) + r12.1)) - 48))))
                else none
              else none
            else none
          else
            if px_go r11.2 x0 9 = true then
              if px_go r11.2 x0 9 = true then
                px_R (mm_Mod_scan, 185, [(2, x0), (0, x1), (0, x2), (0, (px_w (x3 + 1)))], [], (px_wr r11.2 x0 7 (px_rd r11.2 x0 7)))
              else none
            else none
    else none) := (px_Req mm_Mod_scan 185 [(2, x0), (0, x1), (0, x2), (0, x3)] [] w).trans rfl
set_option maxRecDepth 100000 in
theorem eq_Mod_scan_270 (x0 x1 x2 x3 : Int) (w : pw) : px_R (mm_Mod_scan, 270, [(2, x0), (0, x1), (0, x2), (0, x3)], [], w) =
    (if px_go w x0 9 = true then
      some (0, (px_wr w x0 6 x3))
    else none) := (px_Req mm_Mod_scan 270 [(2, x0), (0, x1), (0, x2), (0, x3)] [] w).trans rfl
set_option maxRecDepth 100000 in
theorem eq_Str_readClause_0 (x0 x1 : Int) (w : pw) : px_R (mm_Str_readClause, 0, [(2, x0), (2, x1), (9, 0), (9, 0), (9, 0)], [], w) =
    ((px_R (mm_Str_kindOf, 0, [(2, x1)], [], w)).bind fun r1 =>
      if r1.1 = (-1) then
        some (1, r1.2)
      else
        if px_go r1.2 x0 5 = true then
          if px_ga r1.2 0 (px_rd r1.2 x0 1) r1.1 = true then
            if px_gl (px_sar 0) r1.1 = true then
              if (px_rd r1.2 (px_rd r1.2 x0 1) (r1.1).toNat) < (px_lst (px_sar 0) (r1.1).toNat) then
                (px_R (mm_Str_isNamed, 0, [(0, r1.1)], [], r1.2)).bind fun r2 =>
                  if r2.1 = 0 then
                    px_R (mm_Str_readClause, 59, [(2, x0), (2, x1), (0, r1.1), (0, 0), (0, 0)], [], r2.2)
                  else
                    if px_go r2.2 x0 5 = true then
                      (px_R (mm_Str_readName, 0, [(2, x0), (2, x1), (0, r1.1), (9, 0)], [], r2.2)).bind fun r3 =>
                      px_R (mm_Str_readClause, 59, [(2, x0), (2, x1), (0, r1.1), (0, r3.1), (0, 0)], [], r3.2)
                    else none
              else
                if r1.1 < 6 then
                  some (4, r1.2)
                else
                  some (3, r1.2)
            else none
          else none
        else none) := (px_Req mm_Str_readClause 0 [(2, x0), (2, x1), (9, 0), (9, 0), (9, 0)] [] w).trans rfl
set_option maxRecDepth 100000 in
theorem eq_Str_readClause_59 (x0 x1 x2 x3 x4 : Int) (w : pw) : px_R (mm_Str_readClause, 59, [(2, x0), (2, x1), (0, x2), (0, x3), (0, x4)], [], w) =
    (if px_gl (px_sar 1) x2 = true then
      if x4 < (px_lst (px_sar 1) (x2).toNat) then
        if x3 = 0 then
          if px_go w x0 5 = true then
            (px_R (mm_Str_readNumber, 0, [(2, x0), (2, x1), (0, x2), (0, x4), (9, 0), (9, 0), (9, 0), (9, 0), (9, 0)], [], w)).bind fun r4 =>
            px_R (mm_Str_readClause, 59, [(2, x0), (2, x1), (0, x2), (0, r4.1), (0, (px_w (x4 + 1)))], [], r4.2)
          else none
        else
          px_R (mm_Str_readClause, 88, [(2, x0), (2, x1), (0, x2), (0, x3), (0, x4)], [], w)
      else
        px_R (mm_Str_readClause, 88, [(2, x0), (2, x1), (0, x2), (0, x3), (0, x4)], [], w)
    else none) := (px_Req mm_Str_readClause 59 [(2, x0), (2, x1), (0, x2), (0, x3), (0, x4)] [] w).trans rfl
set_option maxRecDepth 100000 in
theorem eq_Str_readClause_88 (x0 x1 x2 x3 x4 : Int) (w : pw) : px_R (mm_Str_readClause, 88, [(2, x0), (2, x1), (0, x2), (0, x3), (0, x4)], [], w) =
    (if x3 = 0 then
      if px_go w x1 6 = true then
        (px_R (mm_Tape_readNext, 0, [(2, x1)], [], w)).bind fun r5 =>
        if px_go r5.2 x1 6 = true then
          if (px_rd r5.2 x1 2) = 4 then
            if px_go r5.2 x0 5 = true then
              if px_ga r5.2 0 (px_rd r5.2 x0 1) x2 = true then
                if px_ga r5.2 0 (px_rd r5.2 x0 1) x2 = true then
                  some (0, (px_wr r5.2 (px_rd r5.2 x0 1) (x2).toNat (px_w ((px_rd r5.2 (px_rd r5.2 x0 1) (x2).toNat) + 1))))
                else none
              else none
            else none
          else
            some (1, r5.2)
        else none
      else none
    else
      some (x3, w)) := (px_Req mm_Str_readClause 88 [(2, x0), (2, x1), (0, x2), (0, x3), (0, x4)] [] w).trans rfl
set_option maxRecDepth 100000 in
theorem eq_Tin_among_0 (x0 x1 x2 x3 : Int) (w : pw) : px_R (mm_Tin_among, 0, [(2, x0), (0, x1), (0, x2), (0, x3)], [], w) =
    (if px_go w x0 8 = true then
      (px_R (mm_Tin_allWords, 0, [(2, x0)], [], w)).bind fun r1 =>
      (px_R (mm_Tin_within, 0, [(0, x1), (0, 0), (0, r1.1)], [], r1.2)).bind fun r2 =>
        if r2.1 = 0 then
          some ((-2), r2.2)
        else
          if px_go r2.2 x0 8 = true then
            (px_R (mm_Tin_isOne, 0, [(2, x0), (0, 2), (0, x2)], [], r2.2)).bind fun r3 =>
            if r3.1 = 0 then
              some ((-2), r3.2)
            else
              if px_go r3.2 x0 8 = true then
                (px_R (mm_Tin_isOne, 0, [(2, x0), (0, 2), (0, x3)], [], r3.2)).bind fun r4 =>
                if r4.1 = 0 then
                  some ((-2), r4.2)
                else
                  if (px_and (px_shr x1 x2) 1) = 0 then
                    some ((-2), r4.2)
                  else
                    if (px_and (px_shr x1 x3) 1) = 0 then
                      some ((-2), r4.2)
                    else
                      if px_go r4.2 x0 8 = true then
                        (px_R (mm_Tin_takenFor, 0, [(2, x0), (0, x1), (0, x2), (0, x3)], [], r4.2)).bind fun r5 =>
                        some (r5.1, r5.2)
                      else none
              else none
          else none
    else none) := (px_Req mm_Tin_among 0 [(2, x0), (0, x1), (0, x2), (0, x3)] [] w).trans rfl
set_option maxRecDepth 100000 in
theorem eq_Tin_best_0 (x0 x1 : Int) (w : pw) : px_R (mm_Tin_best, 0, [(2, x0), (0, x1)], [], w) =
    ((px_R (mm_Tin_within, 0, [(0, x1), (0, 0), (0, 1)], [], w)).bind fun r1 =>
      if r1.1 = 0 then
        some ((-2), r1.2)
      else
        if px_go r1.2 x0 8 = true then
          (px_R (mm_Tin_lineLacks, 0, [(2, x0)], [], r1.2)).bind fun r2 =>
          if r2.1 = 0 then
            if px_go r2.2 x0 8 = true then
              if px_go r2.2 (px_rd r2.2 x0 8) 5 = true then
                if px_ga r2.2 0 (px_rd r2.2 (px_rd r2.2 x0 8) 1) 2 = true then
                  if (px_rd r2.2 (px_rd r2.2 (px_rd r2.2 x0 8) 1) 2) = 0 then
                    some ((-1), r2.2)
                  else
                    if x1 = 0 then
                      if px_go r2.2 x0 8 = true then
                        (px_R (mm_Tin_bestOf, 0, [(2, x0), (0, 0), (0, 0), (9, 0), (9, 0), (9, 0), (9, 0), (9, 0)], [], r2.2)).bind fun r4 =>
                        some (r4.1, r4.2)
                      else none
                    else
                      if px_go r2.2 x0 8 = true then
                        (px_R (mm_Tin_bestOf, 0, [(2, x0), (0, 1), (0, 0), (9, 0), (9, 0), (9, 0), (9, 0), (9, 0)], [], r2.2)).bind fun r3 =>
                        some (r3.1, r3.2)
                      else none
                else none
              else none
            else none
          else
            some ((-4), r2.2)
        else none) := (px_Req mm_Tin_best 0 [(2, x0), (0, x1)] [] w).trans rfl
set_option maxRecDepth 100000 in
theorem eq_Tin_bestLoop_0 (x0 x1 : Int) (w : pw) : px_R (mm_Tin_bestLoop, 0, [(2, x0), (0, x1)], [], w) =
    (if px_go w x0 8 = true then
      if px_go w (px_rd w x0 1) 2 = true then
        (px_R (mm_Tin_within, 0, [(0, x1), (0, 0), (0, (px_w ((px_rd w (px_rd w x0 1) 4) - 1)))], [], w)).bind fun r1 =>
          if r1.1 = 0 then
            some ((-2), r1.2)
          else
            if px_go r1.2 x0 8 = true then
              (px_R (mm_Tin_lineLacks, 0, [(2, x0)], [], r1.2)).bind fun r2 =>
              if r2.1 = 0 then
                if px_go r2.2 x0 8 = true then
                  if px_go r2.2 (px_rd r2.2 x0 8) 5 = true then
                    if px_ga r2.2 0 (px_rd r2.2 (px_rd r2.2 x0 8) 1) 2 = true then
                      if (px_rd r2.2 (px_rd r2.2 (px_rd r2.2 x0 8) 1) 2) = 0 then
                        some ((-1), r2.2)
                      else
                        if px_go r2.2 x0 8 = true then
                          (px_R (mm_Tin_bestOf, 0, [(2, x0), (0, 5), (0, x1), (9, 0), (9, 0), (9, 0), (9, 0), (9, 0)], [], r2.2)).bind fun r3 =>
                          some (r3.1, r3.2)
                        else none
                    else none
                  else none
                else none
              else
                some ((-4), r2.2)
            else none
      else none
    else none) := (px_Req mm_Tin_bestLoop 0 [(2, x0), (0, x1)] [] w).trans rfl
set_option maxRecDepth 100000 in
theorem eq_Tin_fit_0 (x0 x1 x2 : Int) (w : pw) : px_R (mm_Tin_fit, 0, [(2, x0), (0, x1), (0, x2)], [], w) =
    ((px_R (mm_Tin_within, 0, [(0, x1), (0, 0), (0, 999)], [], w)).bind fun r1 =>
      if r1.1 = 0 then
        some ((-2), r1.2)
      else
        (px_R (mm_Tin_within, 0, [(0, x2), (0, 0), (0, 2)], [], r1.2)).bind fun r2 =>
          if r2.1 = 0 then
            some ((-2), r2.2)
          else
            if px_go r2.2 x0 8 = true then
              (px_R (mm_Tin_lineLacks, 0, [(2, x0)], [], r2.2)).bind fun r3 =>
              if r3.1 = 0 then
                if px_go r3.2 x0 8 = true then
                  if px_go r3.2 x0 8 = true then
                    if px_go r3.2 x0 8 = true then
                      if px_go r3.2 x0 8 = true then
                        if px_go r3.2 (px_rd r3.2 x0 4) 0 = true then
                          (px_R (mm_Book_tryLaws, 0, [(2, (px_rd r3.2 x0 4)), (2, (px_rd r3.2 x0 8)), (2, (px_rd r3.2 x0 1)), (2, (px_rd r3.2 x0 2)), (0, x1), (9, 0), (9, 0), (9, 0), (9, 0)], [], r3.2)).bind fun r4 =>
                          if x2 = 0 then
                            if px_go r4.2 x0 8 = true then
                              if px_go r4.2 (px_rd r4.2 x0 4) 0 = true then
                                some ((px_rd r4.2 (px_rd r4.2 x0 4) 9), r4.2)
                              else none
                            else none
                          else
                            if x2 = 1 then
                              if px_go r4.2 x0 8 = true then
                                if px_go r4.2 (px_rd r4.2 x0 4) 0 = true then
                                  some ((px_rd r4.2 (px_rd r4.2 x0 4) 10), r4.2)
                                else none
                              else none
                            else
                              if px_go r4.2 x0 8 = true then
                                if px_go r4.2 (px_rd r4.2 x0 4) 0 = true then
                                  some ((px_rd r4.2 (px_rd r4.2 x0 4) 11), r4.2)
                                else none
                              else none
                        else none
                      else none
                    else none
                  else none
                else none
              else
                some ((-4), r3.2)
            else none) := (px_Req mm_Tin_fit 0 [(2, x0), (0, x1), (0, x2)] [] w).trans rfl
set_option maxRecDepth 100000 in
theorem eq_Tin_table_0 (x0 x1 x2 : Int) (w : pw) : px_R (mm_Tin_table, 0, [(2, x0), (0, x1), (0, x2)], [], w) =
    (if px_go w x0 8 = true then
      (px_R (mm_Tin_isOne, 0, [(2, x0), (0, 2), (0, x1)], [], w)).bind fun r1 =>
      if r1.1 = 0 then
        some ((-2), r1.2)
      else
        if px_go r1.2 x0 8 = true then
          (px_R (mm_Tin_isOne, 0, [(2, x0), (0, 2), (0, x2)], [], r1.2)).bind fun r2 =>
          if r2.1 = 0 then
            some ((-2), r2.2)
          else
            if px_go r2.2 x0 8 = true then
              (px_R (mm_Tin_allWords, 0, [(2, x0)], [], r2.2)).bind fun r3 =>
              if px_go r3.2 x0 8 = true then
                (px_R (mm_Tin_takenFor, 0, [(2, x0), (0, r3.1), (0, x1), (0, x2)], [], r3.2)).bind fun r4 =>
                some (r4.1, r4.2)
              else none
            else none
        else none
    else none) := (px_Req mm_Tin_table 0 [(2, x0), (0, x1), (0, x2)] [] w).trans rfl
set_option maxRecDepth 100000 in
theorem eq_Mod_among_0 (x0 x1 x2 x3 : Int) (w : pw) : px_R (mm_Mod_among, 0, [(2, x0), (0, x1), (0, x2), (0, x3)], [], w) =
    (if px_go w x0 9 = true then
      (px_R (mm_Mod_is, 0, [(2, x0), (0, 2), (0, x2)], [], w)).bind fun r1 =>
      if r1.1 = 0 then
        some ((-2), r1.2)
      else
        if px_go r1.2 x0 9 = true then
          (px_R (mm_Mod_is, 0, [(2, x0), (0, 2), (0, x3)], [], r1.2)).bind fun r2 =>
          if r2.1 = 0 then
            some ((-2), r2.2)
          else
            if px_go r2.2 x0 9 = true then
              (px_R (mm_Mod_allWords, 0, [(2, x0)], [], r2.2)).bind fun r3 =>
              (px_R (mm_Mod_in, 0, [(0, x1), (0, 0), (0, r3.1)], [], r3.2)).bind fun r4 =>
                if r4.1 = 0 then
                  some ((-2), r4.2)
                else
                  if (px_and (px_shr x1 x2) 1) = 0 then
                    some ((-2), r4.2)
                  else
                    if (px_and (px_shr x1 x3) 1) = 0 then
                      some ((-2), r4.2)
                    else
                      if px_go r4.2 x0 9 = true then
                        (px_R (mm_Mod_hasLine, 0, [(2, x0)], [], r4.2)).bind fun r5 =>
                        if r5.1 = 0 then
                          some ((-4), r5.2)
                        else
                          if px_go r5.2 x0 9 = true then
                            (px_R (mm_Mod_makeOwn, 0, [(2, x0)], [], r5.2)).bind fun r6 =>
                            if px_go r6.2 x0 9 = true then
                              (px_R (mm_Mod_listen, 0, [(2, x0), (0, x1), (0, x2), (9, 0), (9, 0), (9, 0), (9, 0), (9, 0), (9, 0), (9, 0)], [], r6.2)).bind fun r7 =>
                              if px_go r7.2 x0 9 = true then
                                if px_ga r7.2 0 (px_rd r7.2 x0 34) x3 = true then
                                  some ((px_rd r7.2 (px_rd r7.2 x0 34) (x3).toNat), r7.2)
                                else none
                              else none
                            else none
                          else none
                      else none
            else none
        else none
    else none) := (px_Req mm_Mod_among 0 [(2, x0), (0, x1), (0, x2), (0, x3)] [] w).trans rfl
set_option maxRecDepth 100000 in
theorem eq_Mod_bestLoop_0 (x0 x1 : Int) (w : pw) : px_R (mm_Mod_bestLoop, 0, [(2, x0), (0, x1), (9, 0), (9, 0), (9, 0), (9, 0), (9, 0)], [], w) =
    (if px_go w x0 9 = true then
      (px_R (mm_Mod_in, 0, [(0, x1), (0, 0), (0, (px_w ((px_rd w x0 28) - 1)))], [], w)).bind fun r1 =>
        if r1.1 = 0 then
          some ((-2), r1.2)
        else
          if px_go r1.2 x0 9 = true then
            (px_R (mm_Mod_hasLine, 0, [(2, x0)], [], r1.2)).bind fun r2 =>
            if r2.1 = 0 then
              some ((-4), r2.2)
            else
              if px_go r2.2 x0 9 = true then
                if px_ga r2.2 0 (px_rd r2.2 x0 12) 2 = true then
                  if (px_rd r2.2 (px_rd r2.2 x0 12) 2) = 0 then
                    some ((-1), r2.2)
                  else
                    if px_go r2.2 x0 9 = true then
                      if px_ga r2.2 0 (px_rd r2.2 x0 12) 5 = true then
                        if (px_rd r2.2 (px_rd r2.2 x0 12) 5) = 0 then
                          some ((-1), r2.2)
                        else
                          if px_go r2.2 x0 9 = true then
                            if px_ga r2.2 0 (px_rd r2.2 x0 30) x1 = true then
                              px_R (mm_Mod_bestLoop, 62, [(2, x0), (0, x1), (0, (px_rd r2.2 (px_rd r2.2 x0 30) (x1).toNat)), (0, (-1)), (0, 0), (0, 0), (9, 0)], [], r2.2)
                            else none
                          else none
                      else none
                    else none
                else none
              else none
          else none
    else none) := (px_Req mm_Mod_bestLoop 0 [(2, x0), (0, x1), (9, 0), (9, 0), (9, 0), (9, 0), (9, 0)] [] w).trans rfl
set_option maxRecDepth 100000 in
theorem eq_Mod_bestLoop_62 (x0 x1 x2 x3 x4 x5 : Int) (y6 : pv) (w : pw) : px_R (mm_Mod_bestLoop, 62, [(2, x0), (0, x1), (0, x2), (0, x3), (0, x4), (0, x5), y6], [], w) =
    (if px_go w x0 9 = true then
      if px_ga w 0 (px_rd w x0 12) 5 = true then
        if x5 < (px_rd w (px_rd w x0 12) 5) then
          if px_go w x0 9 = true then
            if px_ga w 0 (px_rd w x0 30) x1 = true then
              if px_go (px_wr w (px_rd w x0 30) (x1).toNat x5) x0 9 = true then
                (px_R (mm_Mod_makeOwn, 0, [(2, x0)], [], (px_wr w (px_rd w x0 30) (x1).toNat x5))).bind fun r3 =>
                if px_go r3.2 x0 9 = true then
                  (px_R (mm_Mod_allWords, 0, [(2, x0)], [], r3.2)).bind fun r4 =>
                  if px_go r4.2 x0 9 = true then
                    (px_R (mm_Mod_worst, 0, [(2, x0), (0, r4.1), (9, 0), (9, 0), (9, 0)], [], r4.2)).bind fun r5 =>
                    if x3 = (-1) then
                      px_R (mm_Mod_bestLoop, 62, [(2, x0), (0, x1), (0, x2), (0, x5), (0, r5.1), (0, (px_w (x5 + 1))), (0, r5.1)], [], r5.2)
                    else
                      if x4 < r5.1 then
                        px_R (mm_Mod_bestLoop, 62, [(2, x0), (0, x1), (0, x2), (0, x5), (0, r5.1), (0, (px_w (x5 + 1))), (0, r5.1)], [], r5.2)
                      else
                        px_R (mm_Mod_bestLoop, 62, [(2, x0), (0, x1), (0, x2), (0, x3), (0, x4), (0, (px_w (x5 + 1))), (0, r5.1)], [], r5.2)
                  else none
                else none
              else none
            else none
          else none
        else
          if px_go w x0 9 = true then
            if px_ga w 0 (px_rd w x0 30) x1 = true then
              some (x3, (px_wr w (px_rd w x0 30) (x1).toNat x2))
            else none
          else none
      else none
    else none) := (px_Req mm_Mod_bestLoop 62 [(2, x0), (0, x1), (0, x2), (0, x3), (0, x4), (0, x5), y6] [] w).trans rfl
set_option maxRecDepth 100000 in
theorem eq_Mod_fit_0 (x0 x1 x2 : Int) (w : pw) : px_R (mm_Mod_fit, 0, [(2, x0), (0, x1), (0, x2), (9, 0), (9, 0), (9, 0), (9, 0), (9, 0)], [], w) =
    ((px_R (mm_Mod_in, 0, [(0, x1), (0, 0), (0, 999)], [], w)).bind fun r1 =>
      if r1.1 = 0 then
        some ((-2), r1.2)
      else
        (px_R (mm_Mod_in, 0, [(0, x2), (0, 0), (0, 2)], [], r1.2)).bind fun r2 =>
          if r2.1 = 0 then
            some ((-2), r2.2)
          else
            if px_go r2.2 x0 9 = true then
              (px_R (mm_Mod_hasLine, 0, [(2, x0)], [], r2.2)).bind fun r3 =>
              if r3.1 = 0 then
                some ((-4), r3.2)
              else
                px_R (mm_Mod_fit, 44, [(2, x0), (0, x1), (0, x2), (0, 0), (0, (-1)), (0, (-1)), (0, 0), (9, 0)], [], r3.2)
            else none) := (px_Req mm_Mod_fit 0 [(2, x0), (0, x1), (0, x2), (9, 0), (9, 0), (9, 0), (9, 0), (9, 0)] [] w).trans rfl
set_option maxRecDepth 100000 in
theorem eq_Mod_fit_44 (x0 x1 x2 x3 x4 x5 x6 : Int) (y7 : pv) (w : pw) : px_R (mm_Mod_fit, 44, [(2, x0), (0, x1), (0, x2), (0, x3), (0, x4), (0, x5), (0, x6), y7], [], w) =
    (if px_go w x0 9 = true then
      if px_ga w 0 (px_rd w x0 12) 0 = true then
        if x6 < (px_w (20 * (px_rd w (px_rd w x0 12) 0))) then
          if px_go w x0 9 = true then
            (px_R (mm_Mod_lets, 0, [(2, x0), (0, x6), (0, x1), (9, 0), (9, 0)], [], w)).bind fun r4 =>
            if r4.1 = 0 then
              px_R (mm_Mod_fit, 44, [(2, x0), (0, x1), (0, x2), (0, x3), (0, x4), (0, x5), (0, (px_w (x6 + 1))), y7], [], r4.2)
            else
              if x4 = (-1) then
                px_R (mm_Mod_fit, 87, [(2, x0), (0, x1), (0, x2), (0, (px_w (x3 + 1))), (0, x4), (0, x5), (0, x6), y7], [(0, x6)], r4.2)
              else
                px_R (mm_Mod_fit, 87, [(2, x0), (0, x1), (0, x2), (0, (px_w (x3 + 1))), (0, x4), (0, x5), (0, x6), y7], [(0, x4)], r4.2)
          else none
        else
          if x2 = 0 then
            some (x3, w)
          else
            if x2 = 1 then
              some (x4, w)
            else
              some (x5, w)
      else none
    else none) := (px_Req mm_Mod_fit 44 [(2, x0), (0, x1), (0, x2), (0, x3), (0, x4), (0, x5), (0, x6), y7] [] w).trans rfl
set_option maxRecDepth 100000 in
theorem eq_Mod_fit_87 (x0 x1 x2 x3 x4 x5 x6 s0 : Int) (y7 : pv) (w : pw) : px_R (mm_Mod_fit, 87, [(2, x0), (0, x1), (0, x2), (0, x3), (0, x4), (0, x5), (0, x6), y7], [(0, s0)], w) =
    (if x5 = (-1) then
      px_R (mm_Mod_fit, 112, [(2, x0), (0, x1), (0, x2), (0, x3), (0, s0), (0, x6), (0, x6), (0, 0)], [], w)
    else
      if px_go w x0 9 = true then
        (px_R (mm_Mod_isGreater, 0, [(2, x0), (9, 0)], [], w)).bind fun r5 =>
        if r5.1 = 0 then
          px_R (mm_Mod_fit, 44, [(2, x0), (0, x1), (0, x2), (0, x3), (0, s0), (0, x5), (0, (px_w (x6 + 1))), y7], [], r5.2)
        else
          px_R (mm_Mod_fit, 112, [(2, x0), (0, x1), (0, x2), (0, x3), (0, s0), (0, x6), (0, x6), (0, 0)], [], r5.2)
      else none) := (px_Req mm_Mod_fit 87 [(2, x0), (0, x1), (0, x2), (0, x3), (0, x4), (0, x5), (0, x6), y7] [(0, s0)] w).trans rfl
set_option maxRecDepth 100000 in
theorem eq_Mod_fit_112 (x0 x1 x2 x3 x4 x5 x6 x7 : Int) (w : pw) : px_R (mm_Mod_fit, 112, [(2, x0), (0, x1), (0, x2), (0, x3), (0, x4), (0, x5), (0, x6), (0, x7)], [], w) =
    (if x7 < 30 then
      if px_go w x0 9 = true then
        if px_go w x0 9 = true then
          if px_ga w 0 (px_rd w x0 60) x7 = true then
            if px_ga w 0 (px_rd w x0 61) x7 = true then
              px_R (mm_Mod_fit, 112, [(2, x0), (0, x1), (0, x2), (0, x3), (0, x4), (0, x5), (0, x6), (0, (px_w (x7 + 1)))], [], (px_wr w (px_rd w x0 61) (x7).toNat (px_rd w (px_rd w x0 60) (x7).toNat)))
            else none
          else none
        else none
      else none
    else
      px_R (mm_Mod_fit, 44, [(2, x0), (0, x1), (0, x2), (0, x3), (0, x4), (0, x5), (0, (px_w (x6 + 1))), (0, x7)], [], w)) := (px_Req mm_Mod_fit 112 [(2, x0), (0, x1), (0, x2), (0, x3), (0, x4), (0, x5), (0, x6), (0, x7)] [] w).trans rfl
set_option maxRecDepth 100000 in
theorem eq_Mod_level_0 (x0 x1 x2 : Int) (w : pw) : px_R (mm_Mod_level, 0, [(2, x0), (0, x1), (0, x2)], [], w) =
    (if px_go w x0 9 = true then
      (px_R (mm_Mod_is, 0, [(2, x0), (0, 2), (0, x1)], [], w)).bind fun r1 =>
      if r1.1 = 0 then
        some ((-2), r1.2)
      else
        (px_R (mm_Mod_isBand, 0, [(0, x2)], [], r1.2)).bind fun r2 =>
          if r2.1 = 0 then
            some ((-2), r2.2)
          else
            if px_go r2.2 x0 9 = true then
              (px_R (mm_Mod_hasLine, 0, [(2, x0)], [], r2.2)).bind fun r3 =>
              if r3.1 = 0 then
                some ((-4), r3.2)
              else
                if px_go r3.2 x0 9 = true then
                  (px_R (mm_Mod_makeOwn, 0, [(2, x0)], [], r3.2)).bind fun r4 =>
                  if px_go r4.2 x0 9 = true then
                    if px_ga r4.2 0 (px_rd r4.2 x0 32) (px_w ((px_w (4 * x1)) + x2)) = true then
                      some ((px_rd r4.2 (px_rd r4.2 x0 32) ((px_w ((px_w (4 * x1)) + x2))).toNat), r4.2)
                    else none
                  else none
                else none
            else none
    else none) := (px_Req mm_Mod_level 0 [(2, x0), (0, x1), (0, x2)] [] w).trans rfl
set_option maxRecDepth 100000 in
theorem eq_Mod_list_0 (x0 x1 : Int) (w : pw) : px_R (mm_Mod_list, 0, [(2, x0), (0, x1), (9, 0), (9, 0), (9, 0), (9, 0)], [], w) =
    (if px_go w x0 9 = true then
      if px_ga w 0 (px_rd w x0 12) 2 = true then
        (px_R (mm_Mod_in, 0, [(0, x1), (0, 1), (0, (px_rd w (px_rd w x0 12) 2))], [], w)).bind fun r1 =>
          if r1.1 = 0 then
            some ((-2), r1.2)
          else
            if px_go r1.2 x0 9 = true then
              (px_R (mm_Mod_hasLine, 0, [(2, x0)], [], r1.2)).bind fun r2 =>
              if r2.1 = 0 then
                some ((-4), r2.2)
              else
                if px_go r2.2 x0 9 = true then
                  (px_R (mm_Mod_makeOwn, 0, [(2, x0)], [], r2.2)).bind fun r3 =>
                  px_R (mm_Mod_list, 38, [(2, x0), (0, x1), (0, (-1)), (0, 0), (0, 1), (9, 0)], [], r3.2)
                else none
            else none
      else none
    else none) := (px_Req mm_Mod_list 0 [(2, x0), (0, x1), (9, 0), (9, 0), (9, 0), (9, 0)] [] w).trans rfl
set_option maxRecDepth 100000 in
theorem eq_Mod_list_38 (x0 x1 x2 x3 x4 : Int) (y5 : pv) (w : pw) : px_R (mm_Mod_list, 38, [(2, x0), (0, x1), (0, x2), (0, x3), (0, x4), y5], [], w) =
    (if px_go w x0 9 = true then
      (px_R (mm_Mod_allWords, 0, [(2, x0)], [], w)).bind fun r4 =>
      if r4.1 < x4 then
        some (x2, r4.2)
      else
        (px_R (mm_Mod_bits, 0, [(0, x4), (9, 0), (9, 0)], [], r4.2)).bind fun r5 =>
          if r5.1 = x1 then
            if px_go r5.2 x0 9 = true then
              (px_R (mm_Mod_worst, 0, [(2, x0), (0, x4), (9, 0), (9, 0), (9, 0)], [], r5.2)).bind fun r6 =>
              if x2 = (-1) then
                px_R (mm_Mod_list, 38, [(2, x0), (0, x1), (0, x4), (0, r6.1), (0, (px_w (x4 + 1))), (0, r6.1)], [], r6.2)
              else
                if x3 < r6.1 then
                  px_R (mm_Mod_list, 38, [(2, x0), (0, x1), (0, x4), (0, r6.1), (0, (px_w (x4 + 1))), (0, r6.1)], [], r6.2)
                else
                  px_R (mm_Mod_list, 38, [(2, x0), (0, x1), (0, x2), (0, x3), (0, (px_w (x4 + 1))), (0, r6.1)], [], r6.2)
            else none
          else
            px_R (mm_Mod_list, 38, [(2, x0), (0, x1), (0, x2), (0, x3), (0, (px_w (x4 + 1))), y5], [], r5.2)
    else none) := (px_Req mm_Mod_list 38 [(2, x0), (0, x1), (0, x2), (0, x3), (0, x4), y5] [] w).trans rfl
set_option maxRecDepth 100000 in
theorem eq_Mod_readName_0 (x0 x1 x2 : Int) (w : pw) : px_R (mm_Mod_readName, 0, [(2, x0), (0, x1), (0, x2), (9, 0), (9, 0)], [], w) =
    (if px_go w x0 9 = true then
      if px_ga w 0 (px_rd w x0 12) (px_w (9 + x1)) = true then
        if (px_rd w (px_rd w x0 12) ((px_w (9 + x1))).toNat) = x2 then
          if px_go w x0 9 = true then
            (px_R (mm_Mod_fails, 0, [(2, x0), (0, 4)], [], w)).bind fun r3 =>
            if (decide (0 ≤ r3.1) && decide (r3.1 < 2)) = true then some (r3.1, r3.2) else none
          else none
        else
          if px_go w x0 9 = true then
            (px_R (mm_Mod_scan, 0, [(2, x0), (9, 0), (9, 0), (9, 0)], [], w)).bind fun r1 =>
            if px_go r1.2 x0 9 = true then
              if (px_rd r1.2 x0 3) = 1 then
                px_R (mm_Mod_readName, 42, [(2, x0), (0, x1), (0, x2), (0, (px_rd w (px_rd w x0 12) ((px_w (9 + x1))).toNat)), (0, 0)], [], r1.2)
              else
                if px_go r1.2 x0 9 = true then
                  (px_R (mm_Mod_fails, 0, [(2, x0), (0, 1)], [], r1.2)).bind fun r2 =>
                  if (decide (0 ≤ r2.1) && decide (r2.1 < 2)) = true then some (r2.1, r2.2) else none
                else none
            else none
          else none
      else none
    else none) := (px_Req mm_Mod_readName 0 [(2, x0), (0, x1), (0, x2), (9, 0), (9, 0)] [] w).trans rfl
set_option maxRecDepth 100000 in
theorem eq_Mod_readName_42 (x0 x1 x2 x3 x4 : Int) (w : pw) : px_R (mm_Mod_readName, 42, [(2, x0), (0, x1), (0, x2), (0, x3), (0, x4)], [], w) =
    (if x4 < x3 then
      if px_go w x0 9 = true then
        if px_ga w 1 (px_rd w x0 13) (px_w ((px_w (6 * x1)) + x4)) = true then
          if px_go w x0 9 = true then
            if (px_cmp (px_rd w (px_rd w x0 13) ((px_w ((px_w (6 * x1)) + x4))).toNat) (px_rd w x0 10)) = 0 then
              if px_go w x0 9 = true then
                (px_R (mm_Mod_fails, 0, [(2, x0), (0, 3)], [], w)).bind fun r5 =>
                if (decide (0 ≤ r5.1) && decide (r5.1 < 2)) = true then some (r5.1, r5.2) else none
              else none
            else
              px_R (mm_Mod_readName, 42, [(2, x0), (0, x1), (0, x2), (0, x3), (0, (px_w (x4 + 1)))], [], w)
          else none
        else none
      else none
    else
      if px_go w x0 9 = true then
        if px_go w x0 9 = true then
          if px_ga w 1 (px_rd w x0 13) (px_w ((px_w (6 * x1)) + x3)) = true then
            if px_go (px_wr w (px_rd w x0 13) ((px_w ((px_w (6 * x1)) + x3))).toNat (px_rd w x0 10)) x0 9 = true then
              (px_R (mm_Mod_scan, 0, [(2, x0), (9, 0), (9, 0), (9, 0)], [], (px_wr w (px_rd w x0 13) ((px_w ((px_w (6 * x1)) + x3))).toNat (px_rd w x0 10)))).bind fun r4 =>
              some (1, r4.2)
            else none
          else none
        else none
      else none) := (px_Req mm_Mod_readName 42 [(2, x0), (0, x1), (0, x2), (0, x3), (0, x4)] [] w).trans rfl
set_option maxRecDepth 100000 in
theorem eq_Mod_readNumber_0 (x0 x1 x2 : Int) (w : pw) : px_R (mm_Mod_readNumber, 0, [(2, x0), (0, x1), (0, x2)], [], w) =
    (if px_go w x0 9 = true then
      if (px_rd w x0 3) = 2 then
        if px_go w x0 9 = true then
          (px_R (mm_Mod_in, 0, [(0, (px_rd w x0 7)), (0, x1), (0, x2)], [], w)).bind fun r1 =>
            if r1.1 = 0 then
              if px_go r1.2 x0 9 = true then
                (px_R (mm_Mod_fails, 0, [(2, x0), (0, 2)], [], r1.2)).bind fun r3 =>
                if (decide (0 ≤ r3.1) && decide (r3.1 < 2)) = true then some (r3.1, r3.2) else none
              else none
            else
              if px_go r1.2 x0 9 = true then
                if px_go r1.2 x0 9 = true then
                  if px_go (px_wr r1.2 x0 11 (px_rd r1.2 x0 7)) x0 9 = true then
                    (px_R (mm_Mod_scan, 0, [(2, x0), (9, 0), (9, 0), (9, 0)], [], (px_wr r1.2 x0 11 (px_rd r1.2 x0 7)))).bind fun r2 =>
                    some (1, r2.2)
                  else none
                else none
              else none
        else none
      else
        if px_go w x0 9 = true then
          (px_R (mm_Mod_fails, 0, [(2, x0), (0, 1)], [], w)).bind fun r4 =>
          if (decide (0 ≤ r4.1) && decide (r4.1 < 2)) = true then some (r4.1, r4.2) else none
        else none
    else none) := (px_Req mm_Mod_readNumber 0 [(2, x0), (0, x1), (0, x2)] [] w).trans rfl
set_option maxRecDepth 100000 in
theorem eq_Mod_said_0 (x0 x1 x2 : Int) (w : pw) : px_R (mm_Mod_said, 0, [(2, x0), (0, x1), (0, x2), (9, 0), (9, 0), (9, 0), (9, 0), (9, 0), (9, 0)], [], w) =
    (if px_go w x0 9 = true then
      (px_R (mm_Mod_is, 0, [(2, x0), (0, 2), (0, x1)], [], w)).bind fun r1 =>
      if r1.1 = 0 then
        some ((-2), r1.2)
      else
        if x2 < 0 then
          some ((-2), r1.2)
        else
          if px_go r1.2 x0 9 = true then
            (px_R (mm_Mod_hasLine, 0, [(2, x0)], [], r1.2)).bind fun r2 =>
            if r2.1 = 0 then
              some ((-4), r2.2)
            else
              if px_go r2.2 x0 9 = true then
                (px_R (mm_Mod_makeOwn, 0, [(2, x0)], [], r2.2)).bind fun r3 =>
                if px_go r3.2 x0 9 = true then
                  if px_ga r3.2 0 (px_rd r3.2 x0 12) 8 = true then
                    px_R (mm_Mod_said, 45, [(2, x0), (0, x1), (0, x2), (0, (px_rd r3.2 (px_rd r3.2 x0 12) 8)), (1, x2), (9, 0), (0, 0), (9, 0), (9, 0)], [], r3.2)
                  else none
                else none
              else none
          else none
    else none) := (px_Req mm_Mod_said 0 [(2, x0), (0, x1), (0, x2), (9, 0), (9, 0), (9, 0), (9, 0), (9, 0), (9, 0)] [] w).trans rfl
set_option maxRecDepth 100000 in
theorem eq_Mod_said_45 (x0 x1 x2 x3 x4 x6 : Int) (y7 y8 : pv) (w : pw) : px_R (mm_Mod_said, 45, [(2, x0), (0, x1), (0, x2), (0, x3), (1, x4), (9, 0), (0, x6), y7, y8], [], w) =
    (if x6 < 4 then
      if (!decide ((px_w ((px_w (x3 + 1)) * (px_w (x3 + 1)))) = 0)) = true then
        px_R (mm_Mod_said, 89, [(2, x0), (0, x1), (0, x2), (0, x3), (1, (Int.tmod (px_wl ((px_wl (1103515245 * x4)) + 12345)) 2147483648)), (9, 0), (0, x6), (0, (px_w (Int.tmod (px_wl (Int.tdiv (Int.tmod (px_wl ((px_wl (1103515245 * x4)) + 12345)) 2147483648) 65536)) (px_w ((px_w (x3 + 1)) * (px_w (x3 + 1))))))), (0, (px_w (-x3)))], [], w)
      else none
    else
      if px_go w x0 9 = true then
        (px_R (mm_Mod_allWords, 0, [(2, x0)], [], w)).bind fun r4 =>
        if px_go r4.2 x0 9 = true then
          (px_R (mm_Mod_ear, 0, [(2, x0), (0, r4.1), (9, 0), (9, 0), (9, 0), (9, 0), (9, 0)], [], r4.2)).bind fun r5 =>
          some (r5.1, r5.2)
        else none
      else none) := (px_Req mm_Mod_said 45 [(2, x0), (0, x1), (0, x2), (0, x3), (1, x4), (9, 0), (0, x6), y7, y8] [] w).trans rfl
set_option maxRecDepth 100000 in
theorem eq_Mod_said_89 (x0 x1 x2 x3 x4 x6 x7 x8 : Int) (w : pw) : px_R (mm_Mod_said, 89, [(2, x0), (0, x1), (0, x2), (0, x3), (1, x4), (9, 0), (0, x6), (0, x7), (0, x8)], [], w) =
    ((px_R (mm_Mod_plain, 0, [(0, x8)], [], w)).bind fun r6 =>
      if x7 < (px_w ((px_w (x3 + 1)) - r6.1)) then
        if px_go r6.2 x0 9 = true then
          if px_go r6.2 x0 9 = true then
            if px_ga r6.2 0 (px_rd r6.2 x0 32) (px_w ((px_w (4 * x1)) + x6)) = true then
              (px_R (mm_Mod_heard, 0, [(0, (px_w ((px_rd r6.2 (px_rd r6.2 x0 32) ((px_w ((px_w (4 * x1)) + x6))).toNat) + x8)))], [], r6.2)).bind fun r7 =>
                if px_ga r7.2 0 (px_rd r6.2 x0 33) x6 = true then
                  px_R (mm_Mod_said, 45, [(2, x0), (0, x1), (0, x2), (0, x3), (1, x4), (9, 0), (0, (px_w (x6 + 1))), (0, x7), (0, x8)], [], (px_wr r7.2 (px_rd r6.2 x0 33) (x6).toNat r7.1))
                else none
            else none
          else none
        else none
      else
        (px_R (mm_Mod_plain, 0, [(0, x8)], [], r6.2)).bind fun r8 =>
          px_R (mm_Mod_said, 89, [(2, x0), (0, x1), (0, x2), (0, x3), (1, x4), (9, 0), (0, x6), (0, (px_w (x7 - (px_w ((px_w (x3 + 1)) - r8.1))))), (0, (px_w (x8 + 1)))], [], r8.2)) := (px_Req mm_Mod_said 89 [(2, x0), (0, x1), (0, x2), (0, x3), (1, x4), (9, 0), (0, x6), (0, x7), (0, x8)] [] w).trans rfl
set_option maxRecDepth 100000 in
theorem eq_Mod_table_0 (x0 x1 x2 : Int) (w : pw) : px_R (mm_Mod_table, 0, [(2, x0), (0, x1), (0, x2)], [], w) =
    (if px_go w x0 9 = true then
      (px_R (mm_Mod_is, 0, [(2, x0), (0, 2), (0, x1)], [], w)).bind fun r1 =>
      if r1.1 = 0 then
        some ((-2), r1.2)
      else
        if px_go r1.2 x0 9 = true then
          (px_R (mm_Mod_is, 0, [(2, x0), (0, 2), (0, x2)], [], r1.2)).bind fun r2 =>
          if r2.1 = 0 then
            some ((-2), r2.2)
          else
            if px_go r2.2 x0 9 = true then
              (px_R (mm_Mod_hasLine, 0, [(2, x0)], [], r2.2)).bind fun r3 =>
              if r3.1 = 0 then
                some ((-4), r3.2)
              else
                if px_go r3.2 x0 9 = true then
                  (px_R (mm_Mod_makeOwn, 0, [(2, x0)], [], r3.2)).bind fun r4 =>
                  if px_go r4.2 x0 9 = true then
                    (px_R (mm_Mod_allWords, 0, [(2, x0)], [], r4.2)).bind fun r5 =>
                    if px_go r5.2 x0 9 = true then
                      (px_R (mm_Mod_listen, 0, [(2, x0), (0, r5.1), (0, x1), (9, 0), (9, 0), (9, 0), (9, 0), (9, 0), (9, 0), (9, 0)], [], r5.2)).bind fun r6 =>
                      if px_go r6.2 x0 9 = true then
                        if px_ga r6.2 0 (px_rd r6.2 x0 34) x2 = true then
                          some ((px_rd r6.2 (px_rd r6.2 x0 34) (x2).toNat), r6.2)
                        else none
                      else none
                    else none
                  else none
                else none
            else none
        else none
    else none) := (px_Req mm_Mod_table 0 [(2, x0), (0, x1), (0, x2)] [] w).trans rfl
set_option maxRecDepth 100000 in
theorem eq_Mod_takeTape_0 (x0 : Int) (w : pw) : px_R (mm_Mod_takeTape, 0, [(2, x0)], [], w) =
    (if px_go w x0 9 = true then
      if px_go w x0 9 = true then
        if px_go (px_wr w x0 2 (px_rd w x0 1)) x0 9 = true then
          if px_go (px_wr (px_wr w x0 2 (px_rd w x0 1)) x0 1 0) x0 9 = true then
            if px_go (px_wr (px_wr (px_wr w x0 2 (px_rd w x0 1)) x0 1 0) x0 6 0) x0 9 = true then
              (px_R (mm_Mod_scan, 0, [(2, x0), (9, 0), (9, 0), (9, 0)], [], (px_wr (px_wr (px_wr w x0 2 (px_rd w x0 1)) x0 1 0) x0 6 0))).bind fun r1 =>
              some (0, r1.2)
            else none
          else none
        else none
      else none
    else none) := (px_Req mm_Mod_takeTape 0 [(2, x0)] [] w).trans rfl
set_option maxRecDepth 100000 in
theorem eq_Str_read_0 (x0 x1 : Int) (w : pw) : px_R (mm_Str_read, 0, [(2, x0), (2, x1), (9, 0), (9, 0)], [], w) =
    (if px_go w x0 5 = true then
      (px_R (mm_Str_forget, 0, [(2, x0), (9, 0)], [], w)).bind fun r1 =>
      if px_go r1.2 x1 6 = true then
        px_R (mm_Str_read, 11, [(2, x0), (2, x1), (0, 0), (9, 0)], [], (px_wr r1.2 x1 4 0))
      else none
    else none) := (px_Req mm_Str_read 0 [(2, x0), (2, x1), (9, 0), (9, 0)] [] w).trans rfl
set_option maxRecDepth 100000 in
theorem eq_Str_read_11 (x0 x1 x2 : Int) (y3 : pv) (w : pw) : px_R (mm_Str_read, 11, [(2, x0), (2, x1), (0, x2), y3], [], w) =
    (if 900 < x2 then
      some (1, w)
    else
      if px_go w x1 6 = true then
        (px_R (mm_Tape_readNext, 0, [(2, x1)], [], w)).bind fun r2 =>
        if px_go r2.2 x1 6 = true then
          if (px_rd r2.2 x1 2) = 0 then
            some (0, r2.2)
          else
            if px_go r2.2 x0 5 = true then
              (px_R (mm_Str_readClause, 0, [(2, x0), (2, x1), (9, 0), (9, 0), (9, 0)], [], r2.2)).bind fun r3 =>
              if r3.1 = 0 then
                if px_go r3.2 x0 5 = true then
                  if px_go r3.2 x0 5 = true then
                    px_R (mm_Str_read, 11, [(2, x0), (2, x1), (0, (px_w (x2 + 1))), (0, r3.1)], [], (px_wr r3.2 x0 0 (px_w ((px_rd r3.2 x0 0) + 1))))
                  else none
                else none
              else
                some (r3.1, r3.2)
            else none
        else none
      else none) := (px_Req mm_Str_read 11 [(2, x0), (2, x1), (0, x2), y3] [] w).trans rfl
set_option maxRecDepth 100000 in
theorem eq_Mod_readNumbers_0 (x0 x1 x2 x3 : Int) (w : pw) : px_R (mm_Mod_readNumbers, 0, [(2, x0), (2, x1), (0, x2), (0, x3), (9, 0)], [], w) =
    (if px_go w x0 9 = true then
      (px_R (mm_Mod_takeTape, 0, [(2, x0)], [], w)).bind fun r1 =>
      px_R (mm_Mod_readNumbers, 7, [(2, x0), (2, x1), (0, x2), (0, x3), (0, 0)], [], r1.2)
    else none) := (px_Req mm_Mod_readNumbers 0 [(2, x0), (2, x1), (0, x2), (0, x3), (9, 0)] [] w).trans rfl
set_option maxRecDepth 100000 in
theorem eq_Mod_readNumbers_7 (x0 x1 x2 x3 x4 : Int) (w : pw) : px_R (mm_Mod_readNumbers, 7, [(2, x0), (2, x1), (0, x2), (0, x3), (0, x4)], [], w) =
    (if px_go w x0 9 = true then
      if (px_rd w x0 3) = 4 then
        some (x4, w)
      else
        if px_go w x0 9 = true then
          if (px_rd w x0 3) = 2 then
            if px_go w x0 9 = true then
              if x3 < (px_rd w x0 7) then
                some ((-1), w)
              else
                if x4 = x2 then
                  some ((-1), w)
                else
                  if px_go w x0 9 = true then
                    if px_ga w 0 x1 x4 = true then
                      if px_go (px_wr w x1 (x4).toNat (px_rd w x0 7)) x0 9 = true then
                        (px_R (mm_Mod_scan, 0, [(2, x0), (9, 0), (9, 0), (9, 0)], [], (px_wr w x1 (x4).toNat (px_rd w x0 7)))).bind fun r2 =>
                        px_R (mm_Mod_readNumbers, 7, [(2, x0), (2, x1), (0, x2), (0, x3), (0, (px_w (x4 + 1)))], [], r2.2)
                      else none
                    else none
                  else none
            else none
          else
            some ((-1), w)
        else none
    else none) := (px_Req mm_Mod_readNumbers 7 [(2, x0), (2, x1), (0, x2), (0, x3), (0, x4)] [] w).trans rfl
set_option maxRecDepth 100000 in
theorem eq_Mod_readPlace_0 (x0 x1 x2 x3 x4 : Int) (w : pw) : px_R (mm_Mod_readPlace, 0, [(2, x0), (2, x1), (2, x2), (0, x3), (0, x4), (9, 0)], [], w) =
    (if px_go w x0 9 = true then
      (px_R (mm_Mod_readNumber, 0, [(2, x0), (0, 0), (0, 99)], [], w)).bind fun r1 =>
      if r1.1 = 0 then
        some (0, r1.2)
      else
        if px_go r1.2 x0 9 = true then
          if px_ga r1.2 0 x1 (px_w (x3 + x4)) = true then
            if px_go (px_wr r1.2 x1 ((px_w (x3 + x4))).toNat (px_rd r1.2 x0 11)) x0 9 = true then
              if (px_rd (px_wr r1.2 x1 ((px_w (x3 + x4))).toNat (px_rd r1.2 x0 11)) x0 3) = 2 then
                if px_go (px_wr r1.2 x1 ((px_w (x3 + x4))).toNat (px_rd r1.2 x0 11)) x0 9 = true then
                  (px_R (mm_Mod_in, 0, [(0, (px_rd (px_wr r1.2 x1 ((px_w (x3 + x4))).toNat (px_rd r1.2 x0 11)) x0 7)), (0, 0), (0, 99)], [], (px_wr r1.2 x1 ((px_w (x3 + x4))).toNat (px_rd r1.2 x0 11)))).bind fun r2 =>
                    if r2.1 = 0 then
                      if px_go r2.2 x0 9 = true then
                        (px_R (mm_Mod_fails, 0, [(2, x0), (0, 2)], [], r2.2)).bind fun r3 =>
                        if (decide (0 ≤ r3.1) && decide (r3.1 < 2)) = true then some (r3.1, r3.2) else none
                      else none
                    else
                      px_R (mm_Mod_readPlace, 58, [(2, x0), (2, x1), (2, x2), (0, x3), (0, x4), (0, 0)], [], r2.2)
                else none
              else
                if px_go (px_wr r1.2 x1 ((px_w (x3 + x4))).toNat (px_rd r1.2 x0 11)) x0 9 = true then
                  (px_R (mm_Mod_fails, 0, [(2, x0), (0, 1)], [], (px_wr r1.2 x1 ((px_w (x3 + x4))).toNat (px_rd r1.2 x0 11)))).bind fun r4 =>
                  if (decide (0 ≤ r4.1) && decide (r4.1 < 2)) = true then some (r4.1, r4.2) else none
                else none
            else none
          else none
        else none
    else none) := (px_Req mm_Mod_readPlace 0 [(2, x0), (2, x1), (2, x2), (0, x3), (0, x4), (9, 0)] [] w).trans rfl
set_option maxRecDepth 100000 in
theorem eq_Mod_readPlace_58 (x0 x1 x2 x3 x4 x5 : Int) (w : pw) : px_R (mm_Mod_readPlace, 58, [(2, x0), (2, x1), (2, x2), (0, x3), (0, x4), (0, x5)], [], w) =
    (if x5 < x4 then
      if px_ga w 0 x1 (px_w (x3 + x5)) = true then
        if px_ga w 0 x1 (px_w (x3 + x4)) = true then
          if (px_rd w x1 ((px_w (x3 + x5))).toNat) = (px_rd w x1 ((px_w (x3 + x4))).toNat) then
            if px_ga w 0 x2 (px_w (x3 + x5)) = true then
              if px_go w x0 9 = true then
                if (px_rd w x2 ((px_w (x3 + x5))).toNat) = (px_rd w x0 7) then
                  if px_go w x0 9 = true then
                    (px_R (mm_Mod_fails, 0, [(2, x0), (0, 3)], [], w)).bind fun r6 =>
                    if (decide (0 ≤ r6.1) && decide (r6.1 < 2)) = true then some (r6.1, r6.2) else none
                  else none
                else
                  px_R (mm_Mod_readPlace, 58, [(2, x0), (2, x1), (2, x2), (0, x3), (0, x4), (0, (px_w (x5 + 1)))], [], w)
              else none
            else none
          else
            px_R (mm_Mod_readPlace, 58, [(2, x0), (2, x1), (2, x2), (0, x3), (0, x4), (0, (px_w (x5 + 1)))], [], w)
        else none
      else none
    else
      if px_go w x0 9 = true then
        if px_ga w 0 x2 (px_w (x3 + x4)) = true then
          if px_go (px_wr w x2 ((px_w (x3 + x4))).toNat (px_rd w x0 7)) x0 9 = true then
            (px_R (mm_Mod_scan, 0, [(2, x0), (9, 0), (9, 0), (9, 0)], [], (px_wr w x2 ((px_w (x3 + x4))).toNat (px_rd w x0 7)))).bind fun r5 =>
            some (1, r5.2)
          else none
        else none
      else none) := (px_Req mm_Mod_readPlace 58 [(2, x0), (2, x1), (2, x2), (0, x3), (0, x4), (0, x5)] [] w).trans rfl
set_option maxRecDepth 100000 in
theorem eq_Mod_readRow_0 (x0 x1 x2 x3 x4 x5 x6 : Int) (w : pw) : px_R (mm_Mod_readRow, 0, [(2, x0), (2, x1), (0, x2), (0, x3), (0, x4), (0, x5), (0, x6), (9, 0)], [], w) =
    (px_R (mm_Mod_readRow, 3, [(2, x0), (2, x1), (0, x2), (0, x3), (0, x4), (0, x5), (0, x6), (0, 0)], [], w)) := (px_Req mm_Mod_readRow 0 [(2, x0), (2, x1), (0, x2), (0, x3), (0, x4), (0, x5), (0, x6), (9, 0)] [] w).trans rfl
set_option maxRecDepth 100000 in
theorem eq_Mod_readRow_3 (x0 x1 x2 x3 x4 x5 x6 x7 : Int) (w : pw) : px_R (mm_Mod_readRow, 3, [(2, x0), (2, x1), (0, x2), (0, x3), (0, x4), (0, x5), (0, x6), (0, x7)], [], w) =
    (if x7 < x3 then
      if x7 = 0 then
        if px_go w x0 9 = true then
          (px_R (mm_Mod_readNumber, 0, [(2, x0), (0, x4), (0, x5)], [], w)).bind fun r2 =>
          if r2.1 = 0 then
            some (0, r2.2)
          else
            if px_go r2.2 x0 9 = true then
              if px_ga r2.2 0 x1 (px_w (x2 + x7)) = true then
                px_R (mm_Mod_readRow, 3, [(2, x0), (2, x1), (0, x2), (0, x3), (0, x4), (0, x5), (0, x6), (0, (px_w (x7 + 1)))], [], (px_wr r2.2 x1 ((px_w (x2 + x7))).toNat (px_rd r2.2 x0 11)))
              else none
            else none
        else none
      else
        if px_go w x0 9 = true then
          (px_R (mm_Mod_readNumber, 0, [(2, x0), (0, 0), (0, x6)], [], w)).bind fun r1 =>
          if r1.1 = 0 then
            some (0, r1.2)
          else
            if px_go r1.2 x0 9 = true then
              if px_ga r1.2 0 x1 (px_w (x2 + x7)) = true then
                px_R (mm_Mod_readRow, 3, [(2, x0), (2, x1), (0, x2), (0, x3), (0, x4), (0, x5), (0, x6), (0, (px_w (x7 + 1)))], [], (px_wr r1.2 x1 ((px_w (x2 + x7))).toNat (px_rd r1.2 x0 11)))
              else none
            else none
        else none
    else
      some (1, w)) := (px_Req mm_Mod_readRow 3 [(2, x0), (2, x1), (0, x2), (0, x3), (0, x4), (0, x5), (0, x6), (0, x7)] [] w).trans rfl
set_option maxRecDepth 100000 in
theorem eq_Tin_street_0 (x0 : Int) (w : pw) : px_R (mm_Tin_street, 0, [(2, x0), (9, 0)], [], w) =
    (if px_go w x0 8 = true then
      if px_go w x0 8 = true then
        if px_go w (px_rd w x0 9) 5 = true then
          (px_R (mm_Str_read, 0, [(2, (px_rd w x0 9)), (2, (px_rd w x0 0)), (9, 0), (9, 0)], [], w)).bind fun r1 =>
          if px_go r1.2 x0 8 = true then
            if px_go (px_wr r1.2 x0 10 r1.1) x0 8 = true then
              if (px_rd (px_wr r1.2 x0 10 r1.1) x0 10) = 0 then
                px_R (mm_Tin_street, 34, [(2, x0), (9, 0)], [(0, (-1)), (2, x0)], (px_wr r1.2 x0 10 r1.1))
              else
                if px_go (px_wr r1.2 x0 10 r1.1) x0 8 = true then
                  if px_go (px_wr r1.2 x0 10 r1.1) (px_rd (px_wr r1.2 x0 10 r1.1) x0 0) 6 = true then
                    px_R (mm_Tin_street, 34, [(2, x0), (9, 0)], [(0, (px_rd (px_wr r1.2 x0 10 r1.1) (px_rd (px_wr r1.2 x0 10 r1.1) x0 0) 3)), (2, x0)], (px_wr r1.2 x0 10 r1.1))
                  else none
                else none
            else none
          else none
        else none
      else none
    else none) := (px_Req mm_Tin_street 0 [(2, x0), (9, 0)] [] w).trans rfl
set_option maxRecDepth 100000 in
theorem eq_Tin_street_34 (x0 s0 s1 : Int) (w : pw) : px_R (mm_Tin_street, 34, [(2, x0), (9, 0)], [(0, s1), (2, s0)], w) =
    (if px_go w s0 8 = true then
      if px_go (px_wr w s0 11 s1) x0 8 = true then
        if px_go (px_wr w s0 11 s1) (px_rd (px_wr w s0 11 s1) x0 0) 6 = true then
          if px_go (px_wr (px_wr w s0 11 s1) (px_rd (px_wr w s0 11 s1) x0 0) 1 0) x0 8 = true then
            if (px_rd (px_wr (px_wr w s0 11 s1) (px_rd (px_wr w s0 11 s1) x0 0) 1 0) x0 10) = 0 then
              if px_go (px_wr (px_wr w s0 11 s1) (px_rd (px_wr w s0 11 s1) x0 0) 1 0) x0 8 = true then
                if px_go (px_wr (px_wr w s0 11 s1) (px_rd (px_wr w s0 11 s1) x0 0) 1 0) x0 8 = true then
                  if px_go (px_wr (px_wr w s0 11 s1) (px_rd (px_wr w s0 11 s1) x0 0) 1 0) x0 8 = true then
                    if px_go (px_wr (px_wr (px_wr w s0 11 s1) (px_rd (px_wr w s0 11 s1) x0 0) 1 0) x0 8 (px_rd (px_wr (px_wr w s0 11 s1) (px_rd (px_wr w s0 11 s1) x0 0) 1 0) x0 9)) x0 8 = true then
                      px_R (mm_Tin_street, 72, [(2, x0), (2, (px_rd (px_wr (px_wr w s0 11 s1) (px_rd (px_wr w s0 11 s1) x0 0) 1 0) x0 8))], [], (px_wr (px_wr (px_wr (px_wr w s0 11 s1) (px_rd (px_wr w s0 11 s1) x0 0) 1 0) x0 8 (px_rd (px_wr (px_wr w s0 11 s1) (px_rd (px_wr w s0 11 s1) x0 0) 1 0) x0 9)) x0 9 (px_rd (px_wr (px_wr w s0 11 s1) (px_rd (px_wr w s0 11 s1) x0 0) 1 0) x0 8)))
                    else none
                  else none
                else none
              else none
            else
              some ((-1), (px_wr (px_wr w s0 11 s1) (px_rd (px_wr w s0 11 s1) x0 0) 1 0))
          else none
        else none
      else none
    else none) := (px_Req mm_Tin_street 34 [(2, x0), (9, 0)] [(0, s1), (2, s0)] w).trans rfl
set_option maxRecDepth 100000 in
theorem eq_Tin_street_72 (x0 x1 : Int) (w : pw) : px_R (mm_Tin_street, 72, [(2, x0), (2, x1)], [], w) =
    (if px_go w x0 8 = true then
      if px_go w (px_rd w x0 1) 2 = true then
        (px_R (mm_Line_begin, 0, [(2, (px_rd w x0 1))], [], w)).bind fun r2 =>
        if px_go r2.2 x0 8 = true then
          if px_go r2.2 (px_rd r2.2 x0 4) 0 = true then
            (px_R (mm_Book_begin, 0, [(2, (px_rd r2.2 x0 4))], [], r2.2)).bind fun r3 =>
            if px_go r3.2 x0 8 = true then
              if px_go r3.2 (px_rd r3.2 x0 3) 7 = true then
                (px_R (mm_Wish_begin, 0, [(2, (px_rd r3.2 x0 3))], [], r3.2)).bind fun r4 =>
                if px_go r4.2 x0 8 = true then
                  if px_go r4.2 (px_rd r4.2 x0 8) 5 = true then
                    some ((px_rd r4.2 (px_rd r4.2 x0 8) 0), r4.2)
                  else none
                else none
              else none
            else none
          else none
        else none
      else none
    else none) := (px_Req mm_Tin_street 72 [(2, x0), (2, x1)] [] w).trans rfl
set_option maxRecDepth 100000 in
theorem eq_Mod_listened_0 (x0 x1 x2 x3 : Int) (w : pw) : px_R (mm_Mod_listened, 0, [(2, x0), (0, x1), (0, x2), (0, x3), (9, 0), (9, 0), (9, 0)], [], w) =
    (if px_go w x0 9 = true then
      if px_go w x0 9 = true then
        (px_R (mm_Mod_readNumbers, 0, [(2, x0), (2, (px_rd w x0 62)), (0, 4), (0, 100), (9, 0)], [], w)).bind fun r1 =>
        (px_R (mm_Mod_in, 0, [(0, x1), (0, 0), (0, 99999)], [], r1.2)).bind fun r2 =>
          if r2.1 = 0 then
            some ((-2), r2.2)
          else
            (px_R (mm_Mod_in, 0, [(0, x2), (0, 0), (0, 99999)], [], r2.2)).bind fun r3 =>
              if r3.1 = 0 then
                some ((-2), r3.2)
              else
                (px_R (mm_Mod_in, 0, [(0, x3), (0, 0), (0, 99999)], [], r3.2)).bind fun r4 =>
                  if r4.1 = 0 then
                    some ((-2), r4.2)
                  else
                    if r1.1 = 4 then
                      px_R (mm_Mod_listened, 63, [(2, x0), (0, x1), (0, x2), (0, x3), (0, r1.1), (0, 0), (0, 0)], [], r4.2)
                    else
                      some ((-1), r4.2)
      else none
    else none) := (px_Req mm_Mod_listened 0 [(2, x0), (0, x1), (0, x2), (0, x3), (9, 0), (9, 0), (9, 0)] [] w).trans rfl
set_option maxRecDepth 100000 in
theorem eq_Mod_listened_63 (x0 x1 x2 x3 x4 x5 x6 : Int) (w : pw) : px_R (mm_Mod_listened, 63, [(2, x0), (0, x1), (0, x2), (0, x3), (0, x4), (0, x5), (0, x6)], [], w) =
    (if x6 < 4 then
      if px_go w x0 9 = true then
        if px_ga w 0 (px_rd w x0 62) x6 = true then
          (px_R (mm_Mod_plain, 0, [(0, (px_w ((px_w (Int.tdiv (px_w (x1 * (px_w (100 - (px_rd w (px_rd w x0 62) (x6).toNat))))) 100)) - x2)))], [], w)).bind fun r5 =>
            if x3 < r5.1 then
              px_R (mm_Mod_listened, 63, [(2, x0), (0, x1), (0, x2), (0, x3), (0, x4), (0, (px_or x5 0)), (0, (px_w (x6 + 1)))], [], r5.2)
            else
              px_R (mm_Mod_listened, 63, [(2, x0), (0, x1), (0, x2), (0, x3), (0, x4), (0, (px_or x5 (px_shl 1 x6))), (0, (px_w (x6 + 1)))], [], r5.2)
        else none
      else none
    else
      some (x5, w)) := (px_Req mm_Mod_listened 63 [(2, x0), (0, x1), (0, x2), (0, x3), (0, x4), (0, x5), (0, x6)] [] w).trans rfl
set_option maxRecDepth 100000 in
theorem eq_Mod_readThing_0 (x0 x1 : Int) (w : pw) : px_R (mm_Mod_readThing, 0, [(2, x0), (0, x1), (9, 0), (9, 0)], [], w) =
    (if px_go w x0 9 = true then
      if px_ga w 0 (px_rd w x0 12) (px_w (9 + x1)) = true then
        if x1 = 0 then
          if px_go w x0 9 = true then
            (px_R (mm_Mod_readName, 0, [(2, x0), (0, x1), (0, 4), (9, 0), (9, 0)], [], w)).bind fun r12 =>
            if r12.1 = 0 then
              px_R (mm_Mod_readThing, 262, [(2, x0), (0, x1), (0, (px_rd w (px_rd w x0 12) ((px_w (9 + x1))).toNat)), (0, 0)], [], r12.2)
            else
              if px_go r12.2 x0 9 = true then
                if px_go r12.2 x0 9 = true then
                  (px_R (mm_Mod_readRow, 0, [(2, x0), (2, (px_rd r12.2 x0 14)), (0, (px_w (5 * (px_w (4 + (px_rd w (px_rd w x0 12) ((px_w (9 + x1))).toNat)))))), (0, 5), (0, 1), (0, 99), (0, 999), (9, 0)], [], r12.2)).bind fun r13 =>
                  if r13.1 = 0 then
                    px_R (mm_Mod_readThing, 262, [(2, x0), (0, x1), (0, (px_rd w (px_rd w x0 12) ((px_w (9 + x1))).toNat)), (0, 0)], [], r13.2)
                  else
                    px_R (mm_Mod_readThing, 262, [(2, x0), (0, x1), (0, (px_rd w (px_rd w x0 12) ((px_w (9 + x1))).toNat)), (0, 1)], [], r13.2)
                else none
              else none
          else none
        else
          if x1 = 1 then
            if px_go w x0 9 = true then
              (px_R (mm_Mod_readName, 0, [(2, x0), (0, x1), (0, 4), (9, 0), (9, 0)], [], w)).bind fun r10 =>
              if r10.1 = 0 then
                px_R (mm_Mod_readThing, 262, [(2, x0), (0, x1), (0, (px_rd w (px_rd w x0 12) ((px_w (9 + x1))).toNat)), (0, 0)], [], r10.2)
              else
                if px_go r10.2 x0 9 = true then
                  if px_go r10.2 x0 9 = true then
                    (px_R (mm_Mod_readRow, 0, [(2, x0), (2, (px_rd r10.2 x0 15)), (0, (px_w (4 * (px_w (4 + (px_rd w (px_rd w x0 12) ((px_w (9 + x1))).toNat)))))), (0, 4), (0, 0), (0, 100), (0, 100), (9, 0)], [], r10.2)).bind fun r11 =>
                    if r11.1 = 0 then
                      px_R (mm_Mod_readThing, 262, [(2, x0), (0, x1), (0, (px_rd w (px_rd w x0 12) ((px_w (9 + x1))).toNat)), (0, 0)], [], r11.2)
                    else
                      px_R (mm_Mod_readThing, 262, [(2, x0), (0, x1), (0, (px_rd w (px_rd w x0 12) ((px_w (9 + x1))).toNat)), (0, 1)], [], r11.2)
                  else none
                else none
            else none
          else
            if x1 = 2 then
              if px_go w x0 9 = true then
                (px_R (mm_Mod_readName, 0, [(2, x0), (0, x1), (0, 6), (9, 0), (9, 0)], [], w)).bind fun r8 =>
                if r8.1 = 0 then
                  px_R (mm_Mod_readThing, 262, [(2, x0), (0, x1), (0, (px_rd w (px_rd w x0 12) ((px_w (9 + x1))).toNat)), (0, 0)], [], r8.2)
                else
                  if px_go r8.2 x0 9 = true then
                    if px_go r8.2 x0 9 = true then
                      (px_R (mm_Mod_readRow, 0, [(2, x0), (2, (px_rd r8.2 x0 16)), (0, (px_w (4 * (px_w (6 + (px_rd w (px_rd w x0 12) ((px_w (9 + x1))).toNat)))))), (0, 4), (0, 0), (0, 9), (0, 9), (9, 0)], [], r8.2)).bind fun r9 =>
                      if r9.1 = 0 then
                        px_R (mm_Mod_readThing, 262, [(2, x0), (0, x1), (0, (px_rd w (px_rd w x0 12) ((px_w (9 + x1))).toNat)), (0, 0)], [], r9.2)
                      else
                        px_R (mm_Mod_readThing, 262, [(2, x0), (0, x1), (0, (px_rd w (px_rd w x0 12) ((px_w (9 + x1))).toNat)), (0, 1)], [], r9.2)
                    else none
                  else none
              else none
            else
              if x1 = 3 then
                if px_go w x0 9 = true then
                  (px_R (mm_Mod_readName, 0, [(2, x0), (0, x1), (0, 5), (9, 0), (9, 0)], [], w)).bind fun r6 =>
                  if r6.1 = 0 then
                    px_R (mm_Mod_readThing, 262, [(2, x0), (0, x1), (0, (px_rd w (px_rd w x0 12) ((px_w (9 + x1))).toNat)), (0, 0)], [], r6.2)
                  else
                    if px_go r6.2 x0 9 = true then
                      if px_go r6.2 x0 9 = true then
                        if px_go r6.2 x0 9 = true then
                          (px_R (mm_Mod_readPlace, 0, [(2, x0), (2, (px_rd r6.2 x0 17)), (2, (px_rd r6.2 x0 18)), (0, 5), (0, (px_rd w (px_rd w x0 12) ((px_w (9 + x1))).toNat)), (9, 0)], [], r6.2)).bind fun r7 =>
                          if r7.1 = 0 then
                            px_R (mm_Mod_readThing, 262, [(2, x0), (0, x1), (0, (px_rd w (px_rd w x0 12) ((px_w (9 + x1))).toNat)), (0, 0)], [], r7.2)
                          else
                            px_R (mm_Mod_readThing, 262, [(2, x0), (0, x1), (0, (px_rd w (px_rd w x0 12) ((px_w (9 + x1))).toNat)), (0, 1)], [], r7.2)
                        else none
                      else none
                    else none
                else none
              else
                if x1 = 5 then
                  if px_go w x0 9 = true then
                    (px_R (mm_Mod_readName, 0, [(2, x0), (0, x1), (0, 4), (9, 0), (9, 0)], [], w)).bind fun r4 =>
                    if r4.1 = 0 then
                      px_R (mm_Mod_readThing, 262, [(2, x0), (0, x1), (0, (px_rd w (px_rd w x0 12) ((px_w (9 + x1))).toNat)), (0, 0)], [], r4.2)
                    else
                      if px_go r4.2 x0 9 = true then
                        if px_go r4.2 x0 9 = true then
                          (px_R (mm_Mod_readRow, 0, [(2, x0), (2, (px_rd r4.2 x0 21)), (0, (px_w (5 * (px_w (4 + (px_rd w (px_rd w x0 12) ((px_w (9 + x1))).toNat)))))), (0, 5), (0, 1), (0, 9), (0, 9), (9, 0)], [], r4.2)).bind fun r5 =>
                          if r5.1 = 0 then
                            px_R (mm_Mod_readThing, 262, [(2, x0), (0, x1), (0, (px_rd w (px_rd w x0 12) ((px_w (9 + x1))).toNat)), (0, 0)], [], r5.2)
                          else
                            px_R (mm_Mod_readThing, 262, [(2, x0), (0, x1), (0, (px_rd w (px_rd w x0 12) ((px_w (9 + x1))).toNat)), (0, 1)], [], r5.2)
                        else none
                      else none
                  else none
                else
                  if (px_rd w (px_rd w x0 12) ((px_w (9 + x1))).toNat) = 4 then
                    if px_go w x0 9 = true then
                      (px_R (mm_Mod_fails, 0, [(2, x0), (0, 4)], [], w)).bind fun r3 =>
                      if (decide (0 ≤ r3.1) && decide (r3.1 < 2)) = true then some (r3.1, r3.2) else none
                    else none
                  else
                    if px_go w x0 9 = true then
                      (px_R (mm_Mod_scan, 0, [(2, x0), (9, 0), (9, 0), (9, 0)], [], w)).bind fun r1 =>
                      if px_go r1.2 x0 9 = true then
                        if px_go r1.2 x0 9 = true then
                          if px_go r1.2 x0 9 = true then
                            (px_R (mm_Mod_readPlace, 0, [(2, x0), (2, (px_rd r1.2 x0 19)), (2, (px_rd r1.2 x0 20)), (0, 4), (0, (px_rd w (px_rd w x0 12) ((px_w (9 + x1))).toNat)), (9, 0)], [], r1.2)).bind fun r2 =>
                            px_R (mm_Mod_readThing, 262, [(2, x0), (0, x1), (0, (px_rd w (px_rd w x0 12) ((px_w (9 + x1))).toNat)), (0, r2.1)], [], r2.2)
                          else none
                        else none
                      else none
                    else none
      else none
    else none) := (px_Req mm_Mod_readThing 0 [(2, x0), (0, x1), (9, 0), (9, 0)] [] w).trans rfl
set_option maxRecDepth 100000 in
theorem eq_Mod_readThing_262 (x0 x1 x2 x3 : Int) (w : pw) : px_R (mm_Mod_readThing, 262, [(2, x0), (0, x1), (0, x2), (0, x3)], [], w) =
    (if x3 = 0 then
      if (decide (0 ≤ x3) && decide (x3 < 2)) = true then some (x3, w) else none
    else
      if px_go w x0 9 = true then
        if px_ga w 0 (px_rd w x0 12) (px_w (9 + x1)) = true then
          if px_ga w 0 (px_rd w x0 12) (px_w (9 + x1)) = true then
            if (decide (0 ≤ x3) && decide (x3 < 2)) = true then some (x3, (px_wr w (px_rd w x0 12) ((px_w (9 + x1))).toNat (px_w ((px_rd w (px_rd w x0 12) ((px_w (9 + x1))).toNat) + 1)))) else none
          else none
        else none
      else none) := (px_Req mm_Mod_readThing 262 [(2, x0), (0, x1), (0, x2), (0, x3)] [] w).trans rfl
set_option maxRecDepth 100000 in
theorem eq_Mod_taps_0 (x0 : Int) (w : pw) : px_R (mm_Mod_taps, 0, [(2, x0), (9, 0), (9, 0), (9, 0), (9, 0), (9, 0)], [], w) =
    (if px_go w x0 9 = true then
      if px_go w x0 9 = true then
        (px_R (mm_Mod_readNumbers, 0, [(2, x0), (2, (px_rd w x0 50)), (0, 16), (0, 9999), (9, 0)], [], w)).bind fun r1 =>
        if r1.1 < 1 then
          some ((-1), r1.2)
        else
          px_R (mm_Mod_taps, 25, [(2, x0), (0, r1.1), (0, 0), (0, 0), (9, 0), (9, 0)], [], r1.2)
      else none
    else none) := (px_Req mm_Mod_taps 0 [(2, x0), (9, 0), (9, 0), (9, 0), (9, 0), (9, 0)] [] w).trans rfl
set_option maxRecDepth 100000 in
theorem eq_Mod_taps_25 (x0 x1 x2 x3 : Int) (y4 y5 : pv) (w : pw) : px_R (mm_Mod_taps, 25, [(2, x0), (0, x1), (0, x2), (0, x3), y4, y5], [], w) =
    (if x3 < x1 then
      px_R (mm_Mod_taps, 36, [(2, x0), (0, x1), (0, x2), (0, x3), (0, 0), (0, 1)], [], w)
    else
      some (x2, w)) := (px_Req mm_Mod_taps 25 [(2, x0), (0, x1), (0, x2), (0, x3), y4, y5] [] w).trans rfl
set_option maxRecDepth 100000 in
theorem eq_Mod_taps_36 (x0 x1 x2 x3 x4 x5 : Int) (w : pw) : px_R (mm_Mod_taps, 36, [(2, x0), (0, x1), (0, x2), (0, x3), (0, x4), (0, x5)], [], w) =
    (if x5 < x1 then
      if px_go w x0 9 = true then
        if px_ga w 0 (px_rd w x0 50) x5 = true then
          if px_go w x0 9 = true then
            if px_ga w 0 (px_rd w x0 50) x4 = true then
              if (px_rd w (px_rd w x0 50) (x4).toNat) < (px_rd w (px_rd w x0 50) (x5).toNat) then
                px_R (mm_Mod_taps, 36, [(2, x0), (0, x1), (0, x2), (0, x3), (0, x5), (0, (px_w (x5 + 1)))], [], w)
              else
                px_R (mm_Mod_taps, 36, [(2, x0), (0, x1), (0, x2), (0, x3), (0, x4), (0, (px_w (x5 + 1)))], [], w)
            else none
          else none
        else none
      else none
    else
      if px_go w x0 9 = true then
        (px_R (mm_Mod_findTaps, 0, [(2, x0), (0, x3), (9, 0), (9, 0), (9, 0), (9, 0)], [], w)).bind fun r2 =>
        if px_go r2.2 x0 9 = true then
          if px_ga r2.2 0 (px_rd r2.2 x0 50) x4 = true then
            if px_go r2.2 x0 9 = true then
              if px_go r2.2 x0 9 = true then
                if px_ga r2.2 0 (px_rd r2.2 x0 50) x4 = true then
                  px_R (mm_Mod_taps, 25, [(2, x0), (0, x1), (0, (px_w (x2 + (px_w ((px_rd r2.2 (px_rd r2.2 x0 50) (x4).toNat) * (px_rd r2.2 x0 47)))))), (0, (px_w (x3 + 1))), (0, x4), (0, x5)], [], (px_wr r2.2 (px_rd r2.2 x0 50) (x4).toNat (-1)))
                else none
              else none
            else none
          else none
        else none
      else none) := (px_Req mm_Mod_taps 36 [(2, x0), (0, x1), (0, x2), (0, x3), (0, x4), (0, x5)] [] w).trans rfl
set_option maxRecDepth 100000 in
theorem eq_Mod_readClause_0 (x0 : Int) (w : pw) : px_R (mm_Mod_readClause, 0, [(2, x0), (9, 0)], [], w) =
    (if px_go w x0 9 = true then
      if (px_rd w x0 3) = 1 then
        if px_go w x0 9 = true then
          px_R (mm_Mod_readClause, 16, [(2, x0), (9, 0)], [(0, (px_rd w x0 4))], w)
        else none
      else
        px_R (mm_Mod_readClause, 16, [(2, x0), (9, 0)], [(0, (-1))], w)
    else none) := (px_Req mm_Mod_readClause 0 [(2, x0), (9, 0)] [] w).trans rfl
set_option maxRecDepth 100000 in
theorem eq_Mod_readClause_16 (x0 s0 : Int) (w : pw) : px_R (mm_Mod_readClause, 16, [(2, x0), (9, 0)], [(0, s0)], w) =
    ((px_R (mm_Mod_in, 0, [(0, s0), (0, 0), (0, 5)], [], w)).bind fun r1 =>
      if r1.1 = 0 then
        if s0 = (-1) then
          if px_go r1.2 x0 9 = true then
            (px_R (mm_Mod_fails, 0, [(2, x0), (0, 1)], [], r1.2)).bind fun r4 =>
            if (decide (0 ≤ r4.1) && decide (r4.1 < 2)) = true then some (r4.1, r4.2) else none
          else none
        else
          if px_go r1.2 x0 9 = true then
            if (px_and (px_shr (px_rd r1.2 x0 23) s0) 1) = 1 then
              if px_go r1.2 x0 9 = true then
                (px_R (mm_Mod_fails, 0, [(2, x0), (0, 3)], [], r1.2)).bind fun r3 =>
                if (decide (0 ≤ r3.1) && decide (r3.1 < 2)) = true then some (r3.1, r3.2) else none
              else none
            else
              if px_go r1.2 x0 9 = true then
                if px_go r1.2 x0 9 = true then
                  if px_go (px_wr r1.2 x0 23 (px_or (px_rd r1.2 x0 23) (px_shl 1 s0))) x0 9 = true then
                    (px_R (mm_Mod_scan, 0, [(2, x0), (9, 0), (9, 0), (9, 0)], [], (px_wr r1.2 x0 23 (px_or (px_rd r1.2 x0 23) (px_shl 1 s0))))).bind fun r2 =>
                    if s0 = 6 then
                      px_R (mm_Mod_readClause, 102, [(2, x0), (0, s0)], [(0, 90), (0, 0), (2, x0)], r2.2)
                    else
                      if s0 = 7 then
                        px_R (mm_Mod_readClause, 102, [(2, x0), (0, s0)], [(0, 50), (0, 0), (2, x0)], r2.2)
                      else
                        px_R (mm_Mod_readClause, 102, [(2, x0), (0, s0)], [(0, 3), (0, 0), (2, x0)], r2.2)
                  else none
                else none
              else none
          else none
      else
        if px_go r1.2 x0 9 = true then
          (px_R (mm_Mod_readThing, 0, [(2, x0), (0, s0), (9, 0), (9, 0)], [], r1.2)).bind fun r5 =>
          if (decide (0 ≤ r5.1) && decide (r5.1 < 2)) = true then some (r5.1, r5.2) else none
        else none) := (px_Req mm_Mod_readClause 16 [(2, x0), (9, 0)] [(0, s0)] w).trans rfl
set_option maxRecDepth 100000 in
theorem eq_Mod_readClause_102 (x0 x1 s0 s1 s2 : Int) (w : pw) : px_R (mm_Mod_readClause, 102, [(2, x0), (0, x1)], [(0, s2), (0, s1), (2, s0)], w) =
    (if px_go w s0 9 = true then
      (px_R (mm_Mod_readNumber, 0, [(2, s0), (0, s1), (0, s2)], [], w)).bind fun r6 =>
      if r6.1 = 0 then
        some (0, r6.2)
      else
        if px_go r6.2 x0 9 = true then
          if px_go r6.2 x0 9 = true then
            if px_ga r6.2 0 (px_rd r6.2 x0 12) (px_w (9 + x1)) = true then
              some (1, (px_wr r6.2 (px_rd r6.2 x0 12) ((px_w (9 + x1))).toNat (px_rd r6.2 x0 11)))
            else none
          else none
        else none
    else none) := (px_Req mm_Mod_readClause 102 [(2, x0), (0, x1)] [(0, s2), (0, s1), (2, s0)] w).trans rfl
set_option maxRecDepth 100000 in
theorem eq_Mod_street_0 (x0 : Int) (w : pw) : px_R (mm_Mod_street, 0, [(2, x0), (9, 0)], [], w) =
    (if px_go w x0 9 = true then
      (px_R (mm_Mod_takeTape, 0, [(2, x0)], [], w)).bind fun r1 =>
      if px_go r1.2 x0 9 = true then
        if px_go (px_wr r1.2 x0 8 0) x0 9 = true then
          if px_go (px_wr (px_wr r1.2 x0 8 0) x0 9 (-1)) x0 9 = true then
            (px_R (mm_Mod_begin, 0, [(2, x0), (9, 0)], [], (px_wr (px_wr r1.2 x0 8 0) x0 9 (-1)))).bind fun r2 =>
            px_R (mm_Mod_street, 20, [(2, x0), (0, 0)], [], r2.2)
          else none
        else none
      else none
    else none) := (px_Req mm_Mod_street 0 [(2, x0), (9, 0)] [] w).trans rfl
set_option maxRecDepth 100000 in
theorem eq_Mod_street_20 (x0 x1 : Int) (w : pw) : px_R (mm_Mod_street, 20, [(2, x0), (0, x1)], [], w) =
    (if px_go w x0 9 = true then
      if (px_rd w x0 3) = 4 then
        if px_go w x0 9 = true then
          (px_R (mm_Mod_settle, 0, [(2, x0)], [], w)).bind fun r3 =>
          if px_go r3.2 x0 9 = true then
            some (x1, (px_wr r3.2 x0 22 x1))
          else none
        else none
      else
        if px_go w x0 9 = true then
          (px_R (mm_Mod_readClause, 0, [(2, x0), (9, 0)], [], w)).bind fun r4 =>
          if r4.1 = 0 then
            some ((-1), r4.2)
          else
            if px_go r4.2 x0 9 = true then
              if (px_rd r4.2 x0 3) = 3 then
                if px_go r4.2 x0 9 = true then
                  (px_R (mm_Mod_scan, 0, [(2, x0), (9, 0), (9, 0), (9, 0)], [], r4.2)).bind fun r5 =>
                  px_R (mm_Mod_street, 20, [(2, x0), (0, (px_w (x1 + 1)))], [], r5.2)
                else none
              else
                if px_go r4.2 x0 9 = true then
                  (px_R (mm_Mod_fails, 0, [(2, x0), (0, 1)], [], r4.2)).bind fun r6 =>
                  some ((-1), r6.2)
                else none
            else none
        else none
    else none) := (px_Req mm_Mod_street 20 [(2, x0), (0, x1)] [] w).trans rfl
set_option maxRecDepth 100000 in
theorem eq_Law_law_0 (x0 : Int) (w : pw) : px_R (mm_Law_law, 0, [(5, x0), (9, 0), (9, 0), (9, 0)], [], w) =
    (if px_go (px_al w (18, 12)) (w.1.length : Int) 8 = true then
      (px_R (mm_Tin_init, 0, [(2, (w.1.length : Int)), (9, 0)], [], (px_al w (18, 12)))).bind fun r1 =>
      if px_go (px_al r1.2 (19, 63)) (r1.2.1.length : Int) 9 = true then
        (px_R (mm_Mod_init, 0, [(2, (r1.2.1.length : Int))], [], (px_al r1.2 (19, 63)))).bind fun r2 =>
        px_R (mm_Law_law, 18, [(5, x0), (2, (w.1.length : Int)), (2, (r1.2.1.length : Int)), (0, 0)], [], r2.2)
      else none
    else none) := (px_Req mm_Law_law 0 [(5, x0), (9, 0), (9, 0), (9, 0)] [] w).trans rfl
set_option maxRecDepth 100000 in
theorem eq_Law_law_18 (x0 x1 x2 x3 : Int) (w : pw) : px_R (mm_Law_law, 18, [(5, x0), (2, x1), (2, x2), (0, x3)], [], w) =
    (if (px_w (x0 - 6)) < x3 then
      some (1, w)
    else
      if (decide (0 ≤ x3) && decide (x3 < x0)) = true then
        if (px_and (px_rd w 0 (x3).toNat) 63) = 0 then
          px_R (mm_Law_law, 204, [(5, x0), (2, x1), (2, x2), (0, x3)], [], w)
        else if (px_and (px_rd w 0 (x3).toNat) 63) = 1 then
          px_R (mm_Law_law, 267, [(5, x0), (2, x1), (2, x2), (0, x3)], [], w)
        else if (px_and (px_rd w 0 (x3).toNat) 63) = 2 then
          px_R (mm_Law_law, 290, [(5, x0), (2, x1), (2, x2), (0, x3)], [], w)
        else if (px_and (px_rd w 0 (x3).toNat) 63) = 3 then
          px_R (mm_Law_law, 303, [(5, x0), (2, x1), (2, x2), (0, x3)], [], w)
        else if (px_and (px_rd w 0 (x3).toNat) 63) = 4 then
          px_R (mm_Law_law, 326, [(5, x0), (2, x1), (2, x2), (0, x3)], [], w)
        else if (px_and (px_rd w 0 (x3).toNat) 63) = 5 then
          px_R (mm_Law_law, 349, [(5, x0), (2, x1), (2, x2), (0, x3)], [], w)
        else if (px_and (px_rd w 0 (x3).toNat) 63) = 6 then
          px_R (mm_Law_law, 392, [(5, x0), (2, x1), (2, x2), (0, x3)], [], w)
        else if (px_and (px_rd w 0 (x3).toNat) 63) = 7 then
          px_R (mm_Law_law, 445, [(5, x0), (2, x1), (2, x2), (0, x3)], [], w)
        else if (px_and (px_rd w 0 (x3).toNat) 63) = 8 then
          px_R (mm_Law_law, 468, [(5, x0), (2, x1), (2, x2), (0, x3)], [], w)
        else if (px_and (px_rd w 0 (x3).toNat) 63) = 9 then
          px_R (mm_Law_law, 491, [(5, x0), (2, x1), (2, x2), (0, x3)], [], w)
        else if (px_and (px_rd w 0 (x3).toNat) 63) = 10 then
          px_R (mm_Law_law, 504, [(5, x0), (2, x1), (2, x2), (0, x3)], [], w)
        else if (px_and (px_rd w 0 (x3).toNat) 63) = 11 then
          px_R (mm_Law_law, 527, [(5, x0), (2, x1), (2, x2), (0, x3)], [], w)
        else if (px_and (px_rd w 0 (x3).toNat) 63) = 12 then
          px_R (mm_Law_law, 560, [(5, x0), (2, x1), (2, x2), (0, x3)], [], w)
        else if (px_and (px_rd w 0 (x3).toNat) 63) = 13 then
          px_R (mm_Law_law, 603, [(5, x0), (2, x1), (2, x2), (0, x3)], [], w)
        else if (px_and (px_rd w 0 (x3).toNat) 63) = 14 then
          px_R (mm_Law_law, 636, [(5, x0), (2, x1), (2, x2), (0, x3)], [], w)
        else if (px_and (px_rd w 0 (x3).toNat) 63) = 15 then
          px_R (mm_Law_law, 669, [(5, x0), (2, x1), (2, x2), (0, x3)], [], w)
        else if (px_and (px_rd w 0 (x3).toNat) 63) = 16 then
          px_R (mm_Law_law, 712, [(5, x0), (2, x1), (2, x2), (0, x3)], [], w)
        else if (px_and (px_rd w 0 (x3).toNat) 63) = 17 then
          px_R (mm_Law_law, 755, [(5, x0), (2, x1), (2, x2), (0, x3)], [], w)
        else if (px_and (px_rd w 0 (x3).toNat) 63) = 18 then
          px_R (mm_Law_law, 778, [(5, x0), (2, x1), (2, x2), (0, x3)], [], w)
        else if (px_and (px_rd w 0 (x3).toNat) 63) = 19 then
          px_R (mm_Law_law, 801, [(5, x0), (2, x1), (2, x2), (0, x3)], [], w)
        else if (px_and (px_rd w 0 (x3).toNat) 63) = 20 then
          px_R (mm_Law_law, 824, [(5, x0), (2, x1), (2, x2), (0, x3)], [], w)
        else if (px_and (px_rd w 0 (x3).toNat) 63) = 21 then
          px_R (mm_Law_law, 857, [(5, x0), (2, x1), (2, x2), (0, x3)], [], w)
        else if (px_and (px_rd w 0 (x3).toNat) 63) = 22 then
          px_R (mm_Law_law, 880, [(5, x0), (2, x1), (2, x2), (0, x3)], [], w)
        else if (px_and (px_rd w 0 (x3).toNat) 63) = 23 then
          px_R (mm_Law_law, 923, [(5, x0), (2, x1), (2, x2), (0, x3)], [], w)
        else if (px_and (px_rd w 0 (x3).toNat) 63) = 24 then
          px_R (mm_Law_law, 956, [(5, x0), (2, x1), (2, x2), (0, x3)], [], w)
        else if (px_and (px_rd w 0 (x3).toNat) 63) = 25 then
          px_R (mm_Law_law, 979, [(5, x0), (2, x1), (2, x2), (0, x3)], [], w)
        else if (px_and (px_rd w 0 (x3).toNat) 63) = 26 then
          px_R (mm_Law_law, 1012, [(5, x0), (2, x1), (2, x2), (0, x3)], [], w)
        else if (px_and (px_rd w 0 (x3).toNat) 63) = 27 then
          px_R (mm_Law_law, 1036, [(5, x0), (2, x1), (2, x2), (0, x3)], [], w)
        else if (px_and (px_rd w 0 (x3).toNat) 63) = 28 then
          px_R (mm_Law_law, 1059, [(5, x0), (2, x1), (2, x2), (0, x3)], [], w)
        else if (px_and (px_rd w 0 (x3).toNat) 63) = 29 then
          px_R (mm_Law_law, 1082, [(5, x0), (2, x1), (2, x2), (0, x3)], [], w)
        else if (px_and (px_rd w 0 (x3).toNat) 63) = 30 then
          px_R (mm_Law_law, 1115, [(5, x0), (2, x1), (2, x2), (0, x3)], [], w)
        else if (px_and (px_rd w 0 (x3).toNat) 63) = 31 then
          px_R (mm_Law_law, 1148, [(5, x0), (2, x1), (2, x2), (0, x3)], [], w)
        else if (px_and (px_rd w 0 (x3).toNat) 63) = 32 then
          px_R (mm_Law_law, 1181, [(5, x0), (2, x1), (2, x2), (0, x3)], [], w)
        else if (px_and (px_rd w 0 (x3).toNat) 63) = 33 then
          px_R (mm_Law_law, 1194, [(5, x0), (2, x1), (2, x2), (0, x3)], [], w)
        else if (px_and (px_rd w 0 (x3).toNat) 63) = 34 then
          px_R (mm_Law_law, 1227, [(5, x0), (2, x1), (2, x2), (0, x3)], [], w)
        else if (px_and (px_rd w 0 (x3).toNat) 63) = 35 then
          px_R (mm_Law_law, 1270, [(5, x0), (2, x1), (2, x2), (0, x3)], [], w)
        else if (px_and (px_rd w 0 (x3).toNat) 63) = 36 then
          px_R (mm_Law_law, 1313, [(5, x0), (2, x1), (2, x2), (0, x3)], [], w)
        else if (px_and (px_rd w 0 (x3).toNat) 63) = 37 then
          px_R (mm_Law_law, 1346, [(5, x0), (2, x1), (2, x2), (0, x3)], [], w)
        else if (px_and (px_rd w 0 (x3).toNat) 63) = 38 then
          px_R (mm_Law_law, 1389, [(5, x0), (2, x1), (2, x2), (0, x3)], [], w)
        else 
          px_R (mm_Law_law, 1412, [(5, x0), (2, x1), (2, x2), (0, x3)], [], w)
      else none) := (px_Req mm_Law_law 18 [(5, x0), (2, x1), (2, x2), (0, x3)] [] w).trans rfl
set_option maxRecDepth 100000 in
theorem eq_Law_law_204 (x0 x1 x2 x3 : Int) (w : pw) : px_R (mm_Law_law, 204, [(5, x0), (2, x1), (2, x2), (0, x3)], [], w) =
    (if (decide (0 ≤ (px_w (x3 + 1))) && decide ((px_w (x3 + 1)) < x0)) = true then
      if (decide (0 ≤ (px_w (x3 + 2))) && decide ((px_w (x3 + 2)) < x0)) = true then
        if (decide (0 ≤ (px_w (x3 + 3))) && decide ((px_w (x3 + 3)) < x0)) = true then
          if (decide (0 ≤ (px_w (x3 + 4))) && decide ((px_w (x3 + 4)) < x0)) = true then
            if (decide (0 ≤ (px_w (x3 + 5))) && decide ((px_w (x3 + 5)) < x0)) = true then
              if px_go w x1 8 = true then
                (px_R (mm_Tin_feed, 0, [(2, x1), (0, (px_rd w 0 ((px_w (x3 + 1))).toNat)), (0, (px_rd w 0 ((px_w (x3 + 2))).toNat)), (0, (px_rd w 0 ((px_w (x3 + 3))).toNat)), (0, (px_rd w 0 ((px_w (x3 + 4))).toNat)), (0, (px_rd w 0 ((px_w (x3 + 5))).toNat))], [], w)).bind fun r3 =>
                if (decide (0 ≤ (px_w (x3 + 1))) && decide ((px_w (x3 + 1)) < x0)) = true then
                  if (decide (0 ≤ (px_w (x3 + 2))) && decide ((px_w (x3 + 2)) < x0)) = true then
                    if (decide (0 ≤ (px_w (x3 + 3))) && decide ((px_w (x3 + 3)) < x0)) = true then
                      if (decide (0 ≤ (px_w (x3 + 4))) && decide ((px_w (x3 + 4)) < x0)) = true then
                        if (decide (0 ≤ (px_w (x3 + 5))) && decide ((px_w (x3 + 5)) < x0)) = true then
                          if px_go r3.2 x2 9 = true then
                            (px_R (mm_Mod_feed, 0, [(2, x2), (0, (px_rd r3.2 0 ((px_w (x3 + 1))).toNat)), (0, (px_rd r3.2 0 ((px_w (x3 + 2))).toNat)), (0, (px_rd r3.2 0 ((px_w (x3 + 3))).toNat)), (0, (px_rd r3.2 0 ((px_w (x3 + 4))).toNat)), (0, (px_rd r3.2 0 ((px_w (x3 + 5))).toNat)), (9, 0), (9, 0), (9, 0)], [], r3.2)).bind fun r4 =>
                            if r3.1 = r4.1 then
                              px_R (mm_Law_law, 1412, [(5, x0), (2, x1), (2, x2), (0, x3)], [], r4.2)
                            else
                              some (0, r4.2)
                          else none
                        else none
                      else none
                    else none
                  else none
                else none
              else none
            else none
          else none
        else none
      else none
    else none) := (px_Req mm_Law_law 204 [(5, x0), (2, x1), (2, x2), (0, x3)] [] w).trans rfl
set_option maxRecDepth 100000 in
theorem eq_Law_law_267 (x0 x1 x2 x3 : Int) (w : pw) : px_R (mm_Law_law, 267, [(5, x0), (2, x1), (2, x2), (0, x3)], [], w) =
    (if (decide (0 ≤ (px_w (x3 + 1))) && decide ((px_w (x3 + 1)) < x0)) = true then
      if px_go w x1 8 = true then
        (px_R (mm_Tin_end, 0, [(2, x1), (0, (px_rd w 0 ((px_w (x3 + 1))).toNat))], [], w)).bind fun r5 =>
        if (decide (0 ≤ (px_w (x3 + 1))) && decide ((px_w (x3 + 1)) < x0)) = true then
          if px_go r5.2 x2 9 = true then
            (px_R (mm_Mod_end, 0, [(2, x2), (0, (px_rd r5.2 0 ((px_w (x3 + 1))).toNat))], [], r5.2)).bind fun r6 =>
            if r5.1 = r6.1 then
              px_R (mm_Law_law, 1412, [(5, x0), (2, x1), (2, x2), (0, x3)], [], r6.2)
            else
              some (0, r6.2)
          else none
        else none
      else none
    else none) := (px_Req mm_Law_law 267 [(5, x0), (2, x1), (2, x2), (0, x3)] [] w).trans rfl
set_option maxRecDepth 100000 in
theorem eq_Law_law_290 (x0 x1 x2 x3 : Int) (w : pw) : px_R (mm_Law_law, 290, [(5, x0), (2, x1), (2, x2), (0, x3)], [], w) =
    (if px_go w x1 8 = true then
      (px_R (mm_Tin_street, 0, [(2, x1), (9, 0)], [], w)).bind fun r7 =>
      if px_go r7.2 x2 9 = true then
        (px_R (mm_Mod_street, 0, [(2, x2), (9, 0)], [], r7.2)).bind fun r8 =>
        if r7.1 = r8.1 then
          px_R (mm_Law_law, 1412, [(5, x0), (2, x1), (2, x2), (0, x3)], [], r8.2)
        else
          some (0, r8.2)
      else none
    else none) := (px_Req mm_Law_law 290 [(5, x0), (2, x1), (2, x2), (0, x3)] [] w).trans rfl
set_option maxRecDepth 100000 in
theorem eq_Law_law_303 (x0 x1 x2 x3 : Int) (w : pw) : px_R (mm_Law_law, 303, [(5, x0), (2, x1), (2, x2), (0, x3)], [], w) =
    (if (decide (0 ≤ (px_w (x3 + 1))) && decide ((px_w (x3 + 1)) < x0)) = true then
      if px_go w x1 8 = true then
        (px_R (mm_Tin_fault, 0, [(2, x1), (0, (px_rd w 0 ((px_w (x3 + 1))).toNat))], [], w)).bind fun r9 =>
        if (decide (0 ≤ (px_w (x3 + 1))) && decide ((px_w (x3 + 1)) < x0)) = true then
          if px_go r9.2 x2 9 = true then
            (px_R (mm_Mod_fault, 0, [(2, x2), (0, (px_rd r9.2 0 ((px_w (x3 + 1))).toNat))], [], r9.2)).bind fun r10 =>
            if r9.1 = r10.1 then
              px_R (mm_Law_law, 1412, [(5, x0), (2, x1), (2, x2), (0, x3)], [], r10.2)
            else
              some (0, r10.2)
          else none
        else none
      else none
    else none) := (px_Req mm_Law_law 303 [(5, x0), (2, x1), (2, x2), (0, x3)] [] w).trans rfl
set_option maxRecDepth 100000 in
theorem eq_Law_law_326 (x0 x1 x2 x3 : Int) (w : pw) : px_R (mm_Law_law, 326, [(5, x0), (2, x1), (2, x2), (0, x3)], [], w) =
    (if (decide (0 ≤ (px_w (x3 + 1))) && decide ((px_w (x3 + 1)) < x0)) = true then
      if px_go w x1 8 = true then
        (px_R (mm_Tin_told, 0, [(2, x1), (0, (px_rd w 0 ((px_w (x3 + 1))).toNat))], [], w)).bind fun r11 =>
        if (decide (0 ≤ (px_w (x3 + 1))) && decide ((px_w (x3 + 1)) < x0)) = true then
          if px_go r11.2 x2 9 = true then
            (px_R (mm_Mod_told, 0, [(2, x2), (0, (px_rd r11.2 0 ((px_w (x3 + 1))).toNat))], [], r11.2)).bind fun r12 =>
            if r11.1 = r12.1 then
              px_R (mm_Law_law, 1412, [(5, x0), (2, x1), (2, x2), (0, x3)], [], r12.2)
            else
              some (0, r12.2)
          else none
        else none
      else none
    else none) := (px_Req mm_Law_law 326 [(5, x0), (2, x1), (2, x2), (0, x3)] [] w).trans rfl
set_option maxRecDepth 100000 in
theorem eq_Law_law_349 (x0 x1 x2 x3 : Int) (w : pw) : px_R (mm_Law_law, 349, [(5, x0), (2, x1), (2, x2), (0, x3)], [], w) =
    (if (decide (0 ≤ (px_w (x3 + 1))) && decide ((px_w (x3 + 1)) < x0)) = true then
      if (decide (0 ≤ (px_w (x3 + 2))) && decide ((px_w (x3 + 2)) < x0)) = true then
        if (decide (0 ≤ (px_w (x3 + 3))) && decide ((px_w (x3 + 3)) < x0)) = true then
          if px_go w x1 8 = true then
            (px_R (mm_Tin_band, 0, [(2, x1), (0, (px_rd w 0 ((px_w (x3 + 1))).toNat)), (0, (px_rd w 0 ((px_w (x3 + 2))).toNat)), (0, (px_rd w 0 ((px_w (x3 + 3))).toNat)), (9, 0)], [], w)).bind fun r13 =>
            if (decide (0 ≤ (px_w (x3 + 1))) && decide ((px_w (x3 + 1)) < x0)) = true then
              if (decide (0 ≤ (px_w (x3 + 2))) && decide ((px_w (x3 + 2)) < x0)) = true then
                if (decide (0 ≤ (px_w (x3 + 3))) && decide ((px_w (x3 + 3)) < x0)) = true then
                  if px_go r13.2 x2 9 = true then
                    (px_R (mm_Mod_band, 0, [(2, x2), (0, (px_rd r13.2 0 ((px_w (x3 + 1))).toNat)), (0, (px_rd r13.2 0 ((px_w (x3 + 2))).toNat)), (0, (px_rd r13.2 0 ((px_w (x3 + 3))).toNat))], [], r13.2)).bind fun r14 =>
                    if r13.1 = r14.1 then
                      px_R (mm_Law_law, 1412, [(5, x0), (2, x1), (2, x2), (0, x3)], [], r14.2)
                    else
                      some (0, r14.2)
                  else none
                else none
              else none
            else none
          else none
        else none
      else none
    else none) := (px_Req mm_Law_law 349 [(5, x0), (2, x1), (2, x2), (0, x3)] [] w).trans rfl
set_option maxRecDepth 100000 in
theorem eq_Law_law_392 (x0 x1 x2 x3 : Int) (w : pw) : px_R (mm_Law_law, 392, [(5, x0), (2, x1), (2, x2), (0, x3)], [], w) =
    (if (decide (0 ≤ (px_w (x3 + 1))) && decide ((px_w (x3 + 1)) < x0)) = true then
      if (decide (0 ≤ (px_w (x3 + 2))) && decide ((px_w (x3 + 2)) < x0)) = true then
        if (decide (0 ≤ (px_w (x3 + 3))) && decide ((px_w (x3 + 3)) < x0)) = true then
          if (decide (0 ≤ (px_w (x3 + 4))) && decide ((px_w (x3 + 4)) < x0)) = true then
            if px_go w x1 8 = true then
              (px_R (mm_Tin_line, 0, [(2, x1), (0, (px_rd w 0 ((px_w (x3 + 1))).toNat)), (0, (px_rd w 0 ((px_w (x3 + 2))).toNat)), (0, (px_rd w 0 ((px_w (x3 + 3))).toNat)), (0, (px_rd w 0 ((px_w (x3 + 4))).toNat))], [], w)).bind fun r15 =>
              if (decide (0 ≤ (px_w (x3 + 1))) && decide ((px_w (x3 + 1)) < x0)) = true then
                if (decide (0 ≤ (px_w (x3 + 2))) && decide ((px_w (x3 + 2)) < x0)) = true then
                  if (decide (0 ≤ (px_w (x3 + 3))) && decide ((px_w (x3 + 3)) < x0)) = true then
                    if (decide (0 ≤ (px_w (x3 + 4))) && decide ((px_w (x3 + 4)) < x0)) = true then
                      if px_go r15.2 x2 9 = true then
                        (px_R (mm_Mod_line, 0, [(2, x2), (0, (px_rd r15.2 0 ((px_w (x3 + 1))).toNat)), (0, (px_rd r15.2 0 ((px_w (x3 + 2))).toNat)), (0, (px_rd r15.2 0 ((px_w (x3 + 3))).toNat)), (0, (px_rd r15.2 0 ((px_w (x3 + 4))).toNat))], [], r15.2)).bind fun r16 =>
                        if r15.1 = r16.1 then
                          px_R (mm_Law_law, 1412, [(5, x0), (2, x1), (2, x2), (0, x3)], [], r16.2)
                        else
                          some (0, r16.2)
                      else none
                    else none
                  else none
                else none
              else none
            else none
          else none
        else none
      else none
    else none) := (px_Req mm_Law_law 392 [(5, x0), (2, x1), (2, x2), (0, x3)] [] w).trans rfl
set_option maxRecDepth 100000 in
theorem eq_Law_law_445 (x0 x1 x2 x3 : Int) (w : pw) : px_R (mm_Law_law, 445, [(5, x0), (2, x1), (2, x2), (0, x3)], [], w) =
    (if (decide (0 ≤ (px_w (x3 + 1))) && decide ((px_w (x3 + 1)) < x0)) = true then
      if px_go w x1 8 = true then
        (px_R (mm_Tin_bend, 0, [(2, x1), (0, (px_rd w 0 ((px_w (x3 + 1))).toNat))], [], w)).bind fun r17 =>
        if (decide (0 ≤ (px_w (x3 + 1))) && decide ((px_w (x3 + 1)) < x0)) = true then
          if px_go r17.2 x2 9 = true then
            (px_R (mm_Mod_bend, 0, [(2, x2), (0, (px_rd r17.2 0 ((px_w (x3 + 1))).toNat))], [], r17.2)).bind fun r18 =>
            if r17.1 = r18.1 then
              px_R (mm_Law_law, 1412, [(5, x0), (2, x1), (2, x2), (0, x3)], [], r18.2)
            else
              some (0, r18.2)
          else none
        else none
      else none
    else none) := (px_Req mm_Law_law 445 [(5, x0), (2, x1), (2, x2), (0, x3)] [] w).trans rfl
set_option maxRecDepth 100000 in
theorem eq_Law_law_468 (x0 x1 x2 x3 : Int) (w : pw) : px_R (mm_Law_law, 468, [(5, x0), (2, x1), (2, x2), (0, x3)], [], w) =
    (if (decide (0 ≤ (px_w (x3 + 1))) && decide ((px_w (x3 + 1)) < x0)) = true then
      if px_go w x1 8 = true then
        (px_R (mm_Tin_tie, 0, [(2, x1), (0, (px_rd w 0 ((px_w (x3 + 1))).toNat))], [], w)).bind fun r19 =>
        if (decide (0 ≤ (px_w (x3 + 1))) && decide ((px_w (x3 + 1)) < x0)) = true then
          if px_go r19.2 x2 9 = true then
            (px_R (mm_Mod_tie, 0, [(2, x2), (0, (px_rd r19.2 0 ((px_w (x3 + 1))).toNat))], [], r19.2)).bind fun r20 =>
            if r19.1 = r20.1 then
              px_R (mm_Law_law, 1412, [(5, x0), (2, x1), (2, x2), (0, x3)], [], r20.2)
            else
              some (0, r20.2)
          else none
        else none
      else none
    else none) := (px_Req mm_Law_law 468 [(5, x0), (2, x1), (2, x2), (0, x3)] [] w).trans rfl
set_option maxRecDepth 100000 in
theorem eq_Law_law_491 (x0 x1 x2 x3 : Int) (w : pw) : px_R (mm_Law_law, 491, [(5, x0), (2, x1), (2, x2), (0, x3)], [], w) =
    (if px_go w x1 8 = true then
      (px_R (mm_Tin_straighten, 0, [(2, x1), (9, 0)], [], w)).bind fun r21 =>
      if px_go r21.2 x2 9 = true then
        (px_R (mm_Mod_straighten, 0, [(2, x2), (9, 0)], [], r21.2)).bind fun r22 =>
        if r21.1 = r22.1 then
          px_R (mm_Law_law, 1412, [(5, x0), (2, x1), (2, x2), (0, x3)], [], r22.2)
        else
          some (0, r22.2)
      else none
    else none) := (px_Req mm_Law_law 491 [(5, x0), (2, x1), (2, x2), (0, x3)] [] w).trans rfl
set_option maxRecDepth 100000 in
theorem eq_Law_law_504 (x0 x1 x2 x3 : Int) (w : pw) : px_R (mm_Law_law, 504, [(5, x0), (2, x1), (2, x2), (0, x3)], [], w) =
    (if (decide (0 ≤ (px_w (x3 + 1))) && decide ((px_w (x3 + 1)) < x0)) = true then
      if px_go w x1 8 = true then
        (px_R (mm_Tin_bears, 0, [(2, x1), (0, (px_rd w 0 ((px_w (x3 + 1))).toNat))], [], w)).bind fun r23 =>
        if (decide (0 ≤ (px_w (x3 + 1))) && decide ((px_w (x3 + 1)) < x0)) = true then
          if px_go r23.2 x2 9 = true then
            (px_R (mm_Mod_bears, 0, [(2, x2), (0, (px_rd r23.2 0 ((px_w (x3 + 1))).toNat))], [], r23.2)).bind fun r24 =>
            if r23.1 = r24.1 then
              px_R (mm_Law_law, 1412, [(5, x0), (2, x1), (2, x2), (0, x3)], [], r24.2)
            else
              some (0, r24.2)
          else none
        else none
      else none
    else none) := (px_Req mm_Law_law 504 [(5, x0), (2, x1), (2, x2), (0, x3)] [] w).trans rfl
set_option maxRecDepth 100000 in
theorem eq_Law_law_527 (x0 x1 x2 x3 : Int) (w : pw) : px_R (mm_Law_law, 527, [(5, x0), (2, x1), (2, x2), (0, x3)], [], w) =
    (if (decide (0 ≤ (px_w (x3 + 1))) && decide ((px_w (x3 + 1)) < x0)) = true then
      if (decide (0 ≤ (px_w (x3 + 2))) && decide ((px_w (x3 + 2)) < x0)) = true then
        if px_go w x1 8 = true then
          (px_R (mm_Tin_through, 0, [(2, x1), (0, (px_rd w 0 ((px_w (x3 + 1))).toNat)), (0, (px_rd w 0 ((px_w (x3 + 2))).toNat))], [], w)).bind fun r25 =>
          if (decide (0 ≤ (px_w (x3 + 1))) && decide ((px_w (x3 + 1)) < x0)) = true then
            if (decide (0 ≤ (px_w (x3 + 2))) && decide ((px_w (x3 + 2)) < x0)) = true then
              if px_go r25.2 x2 9 = true then
                (px_R (mm_Mod_through, 0, [(2, x2), (0, (px_rd r25.2 0 ((px_w (x3 + 1))).toNat)), (0, (px_rd r25.2 0 ((px_w (x3 + 2))).toNat))], [], r25.2)).bind fun r26 =>
                if r25.1 = r26.1 then
                  px_R (mm_Law_law, 1412, [(5, x0), (2, x1), (2, x2), (0, x3)], [], r26.2)
                else
                  some (0, r26.2)
              else none
            else none
          else none
        else none
      else none
    else none) := (px_Req mm_Law_law 527 [(5, x0), (2, x1), (2, x2), (0, x3)] [] w).trans rfl
set_option maxRecDepth 100000 in
theorem eq_Law_law_560 (x0 x1 x2 x3 : Int) (w : pw) : px_R (mm_Law_law, 560, [(5, x0), (2, x1), (2, x2), (0, x3)], [], w) =
    (if (decide (0 ≤ (px_w (x3 + 1))) && decide ((px_w (x3 + 1)) < x0)) = true then
      if (decide (0 ≤ (px_w (x3 + 2))) && decide ((px_w (x3 + 2)) < x0)) = true then
        if (decide (0 ≤ (px_w (x3 + 3))) && decide ((px_w (x3 + 3)) < x0)) = true then
          if px_go w x1 8 = true then
            (px_R (mm_Tin_share, 0, [(2, x1), (0, (px_rd w 0 ((px_w (x3 + 1))).toNat)), (0, (px_rd w 0 ((px_w (x3 + 2))).toNat)), (0, (px_rd w 0 ((px_w (x3 + 3))).toNat))], [], w)).bind fun r27 =>
            if (decide (0 ≤ (px_w (x3 + 1))) && decide ((px_w (x3 + 1)) < x0)) = true then
              if (decide (0 ≤ (px_w (x3 + 2))) && decide ((px_w (x3 + 2)) < x0)) = true then
                if (decide (0 ≤ (px_w (x3 + 3))) && decide ((px_w (x3 + 3)) < x0)) = true then
                  if px_go r27.2 x2 9 = true then
                    (px_R (mm_Mod_share, 0, [(2, x2), (0, (px_rd r27.2 0 ((px_w (x3 + 1))).toNat)), (0, (px_rd r27.2 0 ((px_w (x3 + 2))).toNat)), (0, (px_rd r27.2 0 ((px_w (x3 + 3))).toNat))], [], r27.2)).bind fun r28 =>
                    if r27.1 = r28.1 then
                      px_R (mm_Law_law, 1412, [(5, x0), (2, x1), (2, x2), (0, x3)], [], r28.2)
                    else
                      some (0, r28.2)
                  else none
                else none
              else none
            else none
          else none
        else none
      else none
    else none) := (px_Req mm_Law_law 560 [(5, x0), (2, x1), (2, x2), (0, x3)] [] w).trans rfl
set_option maxRecDepth 100000 in
theorem eq_Law_law_603 (x0 x1 x2 x3 : Int) (w : pw) : px_R (mm_Law_law, 603, [(5, x0), (2, x1), (2, x2), (0, x3)], [], w) =
    (if (decide (0 ≤ (px_w (x3 + 1))) && decide ((px_w (x3 + 1)) < x0)) = true then
      if (decide (0 ≤ (px_w (x3 + 2))) && decide ((px_w (x3 + 2)) < x0)) = true then
        if px_go w x1 8 = true then
          (px_R (mm_Tin_level, 0, [(2, x1), (0, (px_rd w 0 ((px_w (x3 + 1))).toNat)), (0, (px_rd w 0 ((px_w (x3 + 2))).toNat))], [], w)).bind fun r29 =>
          if (decide (0 ≤ (px_w (x3 + 1))) && decide ((px_w (x3 + 1)) < x0)) = true then
            if (decide (0 ≤ (px_w (x3 + 2))) && decide ((px_w (x3 + 2)) < x0)) = true then
              if px_go r29.2 x2 9 = true then
                (px_R (mm_Mod_level, 0, [(2, x2), (0, (px_rd r29.2 0 ((px_w (x3 + 1))).toNat)), (0, (px_rd r29.2 0 ((px_w (x3 + 2))).toNat))], [], r29.2)).bind fun r30 =>
                if r29.1 = r30.1 then
                  px_R (mm_Law_law, 1412, [(5, x0), (2, x1), (2, x2), (0, x3)], [], r30.2)
                else
                  some (0, r30.2)
              else none
            else none
          else none
        else none
      else none
    else none) := (px_Req mm_Law_law 603 [(5, x0), (2, x1), (2, x2), (0, x3)] [] w).trans rfl
set_option maxRecDepth 100000 in
theorem eq_Law_law_636 (x0 x1 x2 x3 : Int) (w : pw) : px_R (mm_Law_law, 636, [(5, x0), (2, x1), (2, x2), (0, x3)], [], w) =
    (if (decide (0 ≤ (px_w (x3 + 1))) && decide ((px_w (x3 + 1)) < x0)) = true then
      if (decide (0 ≤ (px_w (x3 + 2))) && decide ((px_w (x3 + 2)) < x0)) = true then
        if px_go w x1 8 = true then
          (px_R (mm_Tin_table, 0, [(2, x1), (0, (px_rd w 0 ((px_w (x3 + 1))).toNat)), (0, (px_rd w 0 ((px_w (x3 + 2))).toNat))], [], w)).bind fun r31 =>
          if (decide (0 ≤ (px_w (x3 + 1))) && decide ((px_w (x3 + 1)) < x0)) = true then
            if (decide (0 ≤ (px_w (x3 + 2))) && decide ((px_w (x3 + 2)) < x0)) = true then
              if px_go r31.2 x2 9 = true then
                (px_R (mm_Mod_table, 0, [(2, x2), (0, (px_rd r31.2 0 ((px_w (x3 + 1))).toNat)), (0, (px_rd r31.2 0 ((px_w (x3 + 2))).toNat))], [], r31.2)).bind fun r32 =>
                if r31.1 = r32.1 then
                  px_R (mm_Law_law, 1412, [(5, x0), (2, x1), (2, x2), (0, x3)], [], r32.2)
                else
                  some (0, r32.2)
              else none
            else none
          else none
        else none
      else none
    else none) := (px_Req mm_Law_law 636 [(5, x0), (2, x1), (2, x2), (0, x3)] [] w).trans rfl
set_option maxRecDepth 100000 in
theorem eq_Law_law_669 (x0 x1 x2 x3 : Int) (w : pw) : px_R (mm_Law_law, 669, [(5, x0), (2, x1), (2, x2), (0, x3)], [], w) =
    (if (decide (0 ≤ (px_w (x3 + 1))) && decide ((px_w (x3 + 1)) < x0)) = true then
      if (decide (0 ≤ (px_w (x3 + 2))) && decide ((px_w (x3 + 2)) < x0)) = true then
        if (decide (0 ≤ (px_w (x3 + 3))) && decide ((px_w (x3 + 3)) < x0)) = true then
          if px_go w x1 8 = true then
            (px_R (mm_Tin_among, 0, [(2, x1), (0, (px_rd w 0 ((px_w (x3 + 1))).toNat)), (0, (px_rd w 0 ((px_w (x3 + 2))).toNat)), (0, (px_rd w 0 ((px_w (x3 + 3))).toNat))], [], w)).bind fun r33 =>
            if (decide (0 ≤ (px_w (x3 + 1))) && decide ((px_w (x3 + 1)) < x0)) = true then
              if (decide (0 ≤ (px_w (x3 + 2))) && decide ((px_w (x3 + 2)) < x0)) = true then
                if (decide (0 ≤ (px_w (x3 + 3))) && decide ((px_w (x3 + 3)) < x0)) = true then
                  if px_go r33.2 x2 9 = true then
                    (px_R (mm_Mod_among, 0, [(2, x2), (0, (px_rd r33.2 0 ((px_w (x3 + 1))).toNat)), (0, (px_rd r33.2 0 ((px_w (x3 + 2))).toNat)), (0, (px_rd r33.2 0 ((px_w (x3 + 3))).toNat))], [], r33.2)).bind fun r34 =>
                    if r33.1 = r34.1 then
                      px_R (mm_Law_law, 1412, [(5, x0), (2, x1), (2, x2), (0, x3)], [], r34.2)
                    else
                      some (0, r34.2)
                  else none
                else none
              else none
            else none
          else none
        else none
      else none
    else none) := (px_Req mm_Law_law 669 [(5, x0), (2, x1), (2, x2), (0, x3)] [] w).trans rfl
set_option maxRecDepth 100000 in
theorem eq_Law_law_712 (x0 x1 x2 x3 : Int) (w : pw) : px_R (mm_Law_law, 712, [(5, x0), (2, x1), (2, x2), (0, x3)], [], w) =
    (if (decide (0 ≤ (px_w (x3 + 1))) && decide ((px_w (x3 + 1)) < x0)) = true then
      if (decide (0 ≤ (px_w (x3 + 2))) && decide ((px_w (x3 + 2)) < x0)) = true then
        if (decide (0 ≤ (px_w (x3 + 3))) && decide ((px_w (x3 + 3)) < x0)) = true then
          if px_go w x1 8 = true then
            (px_R (mm_Tin_longest, 0, [(2, x1), (0, (px_rd w 0 ((px_w (x3 + 1))).toNat)), (0, (px_rd w 0 ((px_w (x3 + 2))).toNat)), (0, (px_rd w 0 ((px_w (x3 + 3))).toNat)), (9, 0), (9, 0), (9, 0)], [], w)).bind fun r35 =>
            if (decide (0 ≤ (px_w (x3 + 1))) && decide ((px_w (x3 + 1)) < x0)) = true then
              if (decide (0 ≤ (px_w (x3 + 2))) && decide ((px_w (x3 + 2)) < x0)) = true then
                if (decide (0 ≤ (px_w (x3 + 3))) && decide ((px_w (x3 + 3)) < x0)) = true then
                  if px_go r35.2 x2 9 = true then
                    (px_R (mm_Mod_longest, 0, [(2, x2), (0, (px_rd r35.2 0 ((px_w (x3 + 1))).toNat)), (0, (px_rd r35.2 0 ((px_w (x3 + 2))).toNat)), (0, (px_rd r35.2 0 ((px_w (x3 + 3))).toNat)), (9, 0)], [], r35.2)).bind fun r36 =>
                    if r35.1 = r36.1 then
                      px_R (mm_Law_law, 1412, [(5, x0), (2, x1), (2, x2), (0, x3)], [], r36.2)
                    else
                      some (0, r36.2)
                  else none
                else none
              else none
            else none
          else none
        else none
      else none
    else none) := (px_Req mm_Law_law 712 [(5, x0), (2, x1), (2, x2), (0, x3)] [] w).trans rfl
set_option maxRecDepth 100000 in
theorem eq_Law_law_755 (x0 x1 x2 x3 : Int) (w : pw) : px_R (mm_Law_law, 755, [(5, x0), (2, x1), (2, x2), (0, x3)], [], w) =
    (if (decide (0 ≤ (px_w (x3 + 1))) && decide ((px_w (x3 + 1)) < x0)) = true then
      if px_go w x1 8 = true then
        (px_R (mm_Tin_best, 0, [(2, x1), (0, (px_rd w 0 ((px_w (x3 + 1))).toNat))], [], w)).bind fun r37 =>
        if (decide (0 ≤ (px_w (x3 + 1))) && decide ((px_w (x3 + 1)) < x0)) = true then
          if px_go r37.2 x2 9 = true then
            (px_R (mm_Mod_best, 0, [(2, x2), (0, (px_rd r37.2 0 ((px_w (x3 + 1))).toNat)), (9, 0), (9, 0), (9, 0), (9, 0)], [], r37.2)).bind fun r38 =>
            if r37.1 = r38.1 then
              px_R (mm_Law_law, 1412, [(5, x0), (2, x1), (2, x2), (0, x3)], [], r38.2)
            else
              some (0, r38.2)
          else none
        else none
      else none
    else none) := (px_Req mm_Law_law 755 [(5, x0), (2, x1), (2, x2), (0, x3)] [] w).trans rfl
set_option maxRecDepth 100000 in
theorem eq_Law_law_778 (x0 x1 x2 x3 : Int) (w : pw) : px_R (mm_Law_law, 778, [(5, x0), (2, x1), (2, x2), (0, x3)], [], w) =
    (if (decide (0 ≤ (px_w (x3 + 1))) && decide ((px_w (x3 + 1)) < x0)) = true then
      if px_go w x1 8 = true then
        (px_R (mm_Tin_bestLoop, 0, [(2, x1), (0, (px_rd w 0 ((px_w (x3 + 1))).toNat))], [], w)).bind fun r39 =>
        if (decide (0 ≤ (px_w (x3 + 1))) && decide ((px_w (x3 + 1)) < x0)) = true then
          if px_go r39.2 x2 9 = true then
            (px_R (mm_Mod_bestLoop, 0, [(2, x2), (0, (px_rd r39.2 0 ((px_w (x3 + 1))).toNat)), (9, 0), (9, 0), (9, 0), (9, 0), (9, 0)], [], r39.2)).bind fun r40 =>
            if r39.1 = r40.1 then
              px_R (mm_Law_law, 1412, [(5, x0), (2, x1), (2, x2), (0, x3)], [], r40.2)
            else
              some (0, r40.2)
          else none
        else none
      else none
    else none) := (px_Req mm_Law_law 778 [(5, x0), (2, x1), (2, x2), (0, x3)] [] w).trans rfl
set_option maxRecDepth 100000 in
theorem eq_Law_law_801 (x0 x1 x2 x3 : Int) (w : pw) : px_R (mm_Law_law, 801, [(5, x0), (2, x1), (2, x2), (0, x3)], [], w) =
    (if (decide (0 ≤ (px_w (x3 + 1))) && decide ((px_w (x3 + 1)) < x0)) = true then
      if px_go w x1 8 = true then
        (px_R (mm_Tin_list, 0, [(2, x1), (0, (px_rd w 0 ((px_w (x3 + 1))).toNat)), (9, 0), (9, 0), (9, 0), (9, 0)], [], w)).bind fun r41 =>
        if (decide (0 ≤ (px_w (x3 + 1))) && decide ((px_w (x3 + 1)) < x0)) = true then
          if px_go r41.2 x2 9 = true then
            (px_R (mm_Mod_list, 0, [(2, x2), (0, (px_rd r41.2 0 ((px_w (x3 + 1))).toNat)), (9, 0), (9, 0), (9, 0), (9, 0)], [], r41.2)).bind fun r42 =>
            if r41.1 = r42.1 then
              px_R (mm_Law_law, 1412, [(5, x0), (2, x1), (2, x2), (0, x3)], [], r42.2)
            else
              some (0, r42.2)
          else none
        else none
      else none
    else none) := (px_Req mm_Law_law 801 [(5, x0), (2, x1), (2, x2), (0, x3)] [] w).trans rfl
set_option maxRecDepth 100000 in
theorem eq_Law_law_824 (x0 x1 x2 x3 : Int) (w : pw) : px_R (mm_Law_law, 824, [(5, x0), (2, x1), (2, x2), (0, x3)], [], w) =
    (if (decide (0 ≤ (px_w (x3 + 1))) && decide ((px_w (x3 + 1)) < x0)) = true then
      if (decide (0 ≤ (px_w (x3 + 2))) && decide ((px_w (x3 + 2)) < x0)) = true then
        if px_go w x1 8 = true then
          (px_R (mm_Tin_said, 0, [(2, x1), (0, (px_rd w 0 ((px_w (x3 + 1))).toNat)), (0, (px_rd w 0 ((px_w (x3 + 2))).toNat))], [], w)).bind fun r43 =>
          if (decide (0 ≤ (px_w (x3 + 1))) && decide ((px_w (x3 + 1)) < x0)) = true then
            if (decide (0 ≤ (px_w (x3 + 2))) && decide ((px_w (x3 + 2)) < x0)) = true then
              if px_go r43.2 x2 9 = true then
                (px_R (mm_Mod_said, 0, [(2, x2), (0, (px_rd r43.2 0 ((px_w (x3 + 1))).toNat)), (0, (px_rd r43.2 0 ((px_w (x3 + 2))).toNat)), (9, 0), (9, 0), (9, 0), (9, 0), (9, 0), (9, 0)], [], r43.2)).bind fun r44 =>
                if r43.1 = r44.1 then
                  px_R (mm_Law_law, 1412, [(5, x0), (2, x1), (2, x2), (0, x3)], [], r44.2)
                else
                  some (0, r44.2)
              else none
            else none
          else none
        else none
      else none
    else none) := (px_Req mm_Law_law 824 [(5, x0), (2, x1), (2, x2), (0, x3)] [] w).trans rfl
set_option maxRecDepth 100000 in
theorem eq_Law_law_857 (x0 x1 x2 x3 : Int) (w : pw) : px_R (mm_Law_law, 857, [(5, x0), (2, x1), (2, x2), (0, x3)], [], w) =
    (if (decide (0 ≤ (px_w (x3 + 1))) && decide ((px_w (x3 + 1)) < x0)) = true then
      if px_go w x1 8 = true then
        (px_R (mm_Tin_stretch, 0, [(2, x1), (0, (px_rd w 0 ((px_w (x3 + 1))).toNat))], [], w)).bind fun r45 =>
        if (decide (0 ≤ (px_w (x3 + 1))) && decide ((px_w (x3 + 1)) < x0)) = true then
          if px_go r45.2 x2 9 = true then
            (px_R (mm_Mod_stretch, 0, [(2, x2), (0, (px_rd r45.2 0 ((px_w (x3 + 1))).toNat))], [], r45.2)).bind fun r46 =>
            if r45.1 = r46.1 then
              px_R (mm_Law_law, 1412, [(5, x0), (2, x1), (2, x2), (0, x3)], [], r46.2)
            else
              some (0, r46.2)
          else none
        else none
      else none
    else none) := (px_Req mm_Law_law 857 [(5, x0), (2, x1), (2, x2), (0, x3)] [] w).trans rfl
set_option maxRecDepth 100000 in
theorem eq_Law_law_880 (x0 x1 x2 x3 : Int) (w : pw) : px_R (mm_Law_law, 880, [(5, x0), (2, x1), (2, x2), (0, x3)], [], w) =
    (if (decide (0 ≤ (px_w (x3 + 1))) && decide ((px_w (x3 + 1)) < x0)) = true then
      if (decide (0 ≤ (px_w (x3 + 2))) && decide ((px_w (x3 + 2)) < x0)) = true then
        if (decide (0 ≤ (px_w (x3 + 3))) && decide ((px_w (x3 + 3)) < x0)) = true then
          if px_go w x1 8 = true then
            (px_R (mm_Tin_cell, 0, [(2, x1), (0, (px_rd w 0 ((px_w (x3 + 1))).toNat)), (0, (px_rd w 0 ((px_w (x3 + 2))).toNat)), (0, (px_rd w 0 ((px_w (x3 + 3))).toNat))], [], w)).bind fun r47 =>
            if (decide (0 ≤ (px_w (x3 + 1))) && decide ((px_w (x3 + 1)) < x0)) = true then
              if (decide (0 ≤ (px_w (x3 + 2))) && decide ((px_w (x3 + 2)) < x0)) = true then
                if (decide (0 ≤ (px_w (x3 + 3))) && decide ((px_w (x3 + 3)) < x0)) = true then
                  if px_go r47.2 x2 9 = true then
                    (px_R (mm_Mod_cell, 0, [(2, x2), (0, (px_rd r47.2 0 ((px_w (x3 + 1))).toNat)), (0, (px_rd r47.2 0 ((px_w (x3 + 2))).toNat)), (0, (px_rd r47.2 0 ((px_w (x3 + 3))).toNat))], [], r47.2)).bind fun r48 =>
                    if r47.1 = r48.1 then
                      px_R (mm_Law_law, 1412, [(5, x0), (2, x1), (2, x2), (0, x3)], [], r48.2)
                    else
                      some (0, r48.2)
                  else none
                else none
              else none
            else none
          else none
        else none
      else none
    else none) := (px_Req mm_Law_law 880 [(5, x0), (2, x1), (2, x2), (0, x3)] [] w).trans rfl
set_option maxRecDepth 100000 in
theorem eq_Law_law_923 (x0 x1 x2 x3 : Int) (w : pw) : px_R (mm_Law_law, 923, [(5, x0), (2, x1), (2, x2), (0, x3)], [], w) =
    (if (decide (0 ≤ (px_w (x3 + 1))) && decide ((px_w (x3 + 1)) < x0)) = true then
      if (decide (0 ≤ (px_w (x3 + 2))) && decide ((px_w (x3 + 2)) < x0)) = true then
        if px_go w x1 8 = true then
          (px_R (mm_Tin_send, 0, [(2, x1), (0, (px_rd w 0 ((px_w (x3 + 1))).toNat)), (0, (px_rd w 0 ((px_w (x3 + 2))).toNat))], [], w)).bind fun r49 =>
          if (decide (0 ≤ (px_w (x3 + 1))) && decide ((px_w (x3 + 1)) < x0)) = true then
            if (decide (0 ≤ (px_w (x3 + 2))) && decide ((px_w (x3 + 2)) < x0)) = true then
              if px_go r49.2 x2 9 = true then
                (px_R (mm_Mod_send, 0, [(2, x2), (0, (px_rd r49.2 0 ((px_w (x3 + 1))).toNat)), (0, (px_rd r49.2 0 ((px_w (x3 + 2))).toNat)), (9, 0)], [], r49.2)).bind fun r50 =>
                if r49.1 = r50.1 then
                  px_R (mm_Law_law, 1412, [(5, x0), (2, x1), (2, x2), (0, x3)], [], r50.2)
                else
                  some (0, r50.2)
              else none
            else none
          else none
        else none
      else none
    else none) := (px_Req mm_Law_law 923 [(5, x0), (2, x1), (2, x2), (0, x3)] [] w).trans rfl
set_option maxRecDepth 100000 in
theorem eq_Law_law_956 (x0 x1 x2 x3 : Int) (w : pw) : px_R (mm_Law_law, 956, [(5, x0), (2, x1), (2, x2), (0, x3)], [], w) =
    (if (decide (0 ≤ (px_w (x3 + 1))) && decide ((px_w (x3 + 1)) < x0)) = true then
      if px_go w x1 8 = true then
        (px_R (mm_Tin_tick, 0, [(2, x1), (0, (px_rd w 0 ((px_w (x3 + 1))).toNat)), (9, 0)], [], w)).bind fun r51 =>
        if (decide (0 ≤ (px_w (x3 + 1))) && decide ((px_w (x3 + 1)) < x0)) = true then
          if px_go r51.2 x2 9 = true then
            (px_R (mm_Mod_tick, 0, [(2, x2), (0, (px_rd r51.2 0 ((px_w (x3 + 1))).toNat)), (9, 0)], [], r51.2)).bind fun r52 =>
            if r51.1 = r52.1 then
              px_R (mm_Law_law, 1412, [(5, x0), (2, x1), (2, x2), (0, x3)], [], r52.2)
            else
              some (0, r52.2)
          else none
        else none
      else none
    else none) := (px_Req mm_Law_law 956 [(5, x0), (2, x1), (2, x2), (0, x3)] [] w).trans rfl
set_option maxRecDepth 100000 in
theorem eq_Law_law_979 (x0 x1 x2 x3 : Int) (w : pw) : px_R (mm_Law_law, 979, [(5, x0), (2, x1), (2, x2), (0, x3)], [], w) =
    (if (decide (0 ≤ (px_w (x3 + 1))) && decide ((px_w (x3 + 1)) < x0)) = true then
      if (decide (0 ≤ (px_w (x3 + 2))) && decide ((px_w (x3 + 2)) < x0)) = true then
        if px_go w x1 8 = true then
          (px_R (mm_Tin_goes, 0, [(2, x1), (0, (px_rd w 0 ((px_w (x3 + 1))).toNat)), (0, (px_rd w 0 ((px_w (x3 + 2))).toNat))], [], w)).bind fun r53 =>
          if (decide (0 ≤ (px_w (x3 + 1))) && decide ((px_w (x3 + 1)) < x0)) = true then
            if (decide (0 ≤ (px_w (x3 + 2))) && decide ((px_w (x3 + 2)) < x0)) = true then
              if px_go r53.2 x2 9 = true then
                (px_R (mm_Mod_goes, 0, [(2, x2), (0, (px_rd r53.2 0 ((px_w (x3 + 1))).toNat)), (0, (px_rd r53.2 0 ((px_w (x3 + 2))).toNat))], [], r53.2)).bind fun r54 =>
                if r53.1 = r54.1 then
                  px_R (mm_Law_law, 1412, [(5, x0), (2, x1), (2, x2), (0, x3)], [], r54.2)
                else
                  some (0, r54.2)
              else none
            else none
          else none
        else none
      else none
    else none) := (px_Req mm_Law_law 979 [(5, x0), (2, x1), (2, x2), (0, x3)] [] w).trans rfl
set_option maxRecDepth 100000 in
theorem eq_Law_law_1012 (x0 x1 x2 x3 : Int) (w : pw) : px_R (mm_Law_law, 1012, [(5, x0), (2, x1), (2, x2), (0, x3)], [], w) =
    (if (decide (0 ≤ (px_w (x3 + 1))) && decide ((px_w (x3 + 1)) < x0)) = true then
      if px_go w x1 8 = true then
        (px_R (mm_Tin_out, 0, [(2, x1), (0, (px_rd w 0 ((px_w (x3 + 1))).toNat))], [], w)).bind fun r55 =>
        if (decide (0 ≤ (px_w (x3 + 1))) && decide ((px_w (x3 + 1)) < x0)) = true then
          if px_go r55.2 x2 9 = true then
            (px_R (mm_Mod_out, 0, [(2, x2), (0, (px_rd r55.2 0 ((px_w (x3 + 1))).toNat))], [], r55.2)).bind fun r56 =>
            if (px_cmp r55.1 r56.1) = 0 then
              px_R (mm_Law_law, 1412, [(5, x0), (2, x1), (2, x2), (0, x3)], [], r56.2)
            else
              some (0, r56.2)
          else none
        else none
      else none
    else none) := (px_Req mm_Law_law 1012 [(5, x0), (2, x1), (2, x2), (0, x3)] [] w).trans rfl
set_option maxRecDepth 100000 in
theorem eq_Law_law_1036 (x0 x1 x2 x3 : Int) (w : pw) : px_R (mm_Law_law, 1036, [(5, x0), (2, x1), (2, x2), (0, x3)], [], w) =
    (if (decide (0 ≤ (px_w (x3 + 1))) && decide ((px_w (x3 + 1)) < x0)) = true then
      if px_go w x1 8 = true then
        (px_R (mm_Tin_keep, 0, [(2, x1), (0, (px_rd w 0 ((px_w (x3 + 1))).toNat))], [], w)).bind fun r57 =>
        if (decide (0 ≤ (px_w (x3 + 1))) && decide ((px_w (x3 + 1)) < x0)) = true then
          if px_go r57.2 x2 9 = true then
            (px_R (mm_Mod_keep, 0, [(2, x2), (0, (px_rd r57.2 0 ((px_w (x3 + 1))).toNat)), (9, 0)], [], r57.2)).bind fun r58 =>
            if r57.1 = r58.1 then
              px_R (mm_Law_law, 1412, [(5, x0), (2, x1), (2, x2), (0, x3)], [], r58.2)
            else
              some (0, r58.2)
          else none
        else none
      else none
    else none) := (px_Req mm_Law_law 1036 [(5, x0), (2, x1), (2, x2), (0, x3)] [] w).trans rfl
set_option maxRecDepth 100000 in
theorem eq_Law_law_1059 (x0 x1 x2 x3 : Int) (w : pw) : px_R (mm_Law_law, 1059, [(5, x0), (2, x1), (2, x2), (0, x3)], [], w) =
    (if (decide (0 ≤ (px_w (x3 + 1))) && decide ((px_w (x3 + 1)) < x0)) = true then
      if px_go w x1 8 = true then
        (px_R (mm_Tin_take, 0, [(2, x1), (0, (px_rd w 0 ((px_w (x3 + 1))).toNat))], [], w)).bind fun r59 =>
        if (decide (0 ≤ (px_w (x3 + 1))) && decide ((px_w (x3 + 1)) < x0)) = true then
          if px_go r59.2 x2 9 = true then
            (px_R (mm_Mod_take, 0, [(2, x2), (0, (px_rd r59.2 0 ((px_w (x3 + 1))).toNat)), (9, 0)], [], r59.2)).bind fun r60 =>
            if r59.1 = r60.1 then
              px_R (mm_Law_law, 1412, [(5, x0), (2, x1), (2, x2), (0, x3)], [], r60.2)
            else
              some (0, r60.2)
          else none
        else none
      else none
    else none) := (px_Req mm_Law_law 1059 [(5, x0), (2, x1), (2, x2), (0, x3)] [] w).trans rfl
set_option maxRecDepth 100000 in
theorem eq_Law_law_1082 (x0 x1 x2 x3 : Int) (w : pw) : px_R (mm_Law_law, 1082, [(5, x0), (2, x1), (2, x2), (0, x3)], [], w) =
    (if (decide (0 ≤ (px_w (x3 + 1))) && decide ((px_w (x3 + 1)) < x0)) = true then
      if (decide (0 ≤ (px_w (x3 + 2))) && decide ((px_w (x3 + 2)) < x0)) = true then
        if px_go w x1 8 = true then
          (px_R (mm_Tin_yards, 0, [(2, x1), (0, (px_rd w 0 ((px_w (x3 + 1))).toNat)), (0, (px_rd w 0 ((px_w (x3 + 2))).toNat))], [], w)).bind fun r61 =>
          if (decide (0 ≤ (px_w (x3 + 1))) && decide ((px_w (x3 + 1)) < x0)) = true then
            if (decide (0 ≤ (px_w (x3 + 2))) && decide ((px_w (x3 + 2)) < x0)) = true then
              if px_go r61.2 x2 9 = true then
                (px_R (mm_Mod_yards, 0, [(2, x2), (0, (px_rd r61.2 0 ((px_w (x3 + 1))).toNat)), (0, (px_rd r61.2 0 ((px_w (x3 + 2))).toNat))], [], r61.2)).bind fun r62 =>
                if r61.1 = r62.1 then
                  px_R (mm_Law_law, 1412, [(5, x0), (2, x1), (2, x2), (0, x3)], [], r62.2)
                else
                  some (0, r62.2)
              else none
            else none
          else none
        else none
      else none
    else none) := (px_Req mm_Law_law 1082 [(5, x0), (2, x1), (2, x2), (0, x3)] [] w).trans rfl
set_option maxRecDepth 100000 in
theorem eq_Law_law_1115 (x0 x1 x2 x3 : Int) (w : pw) : px_R (mm_Law_law, 1115, [(5, x0), (2, x1), (2, x2), (0, x3)], [], w) =
    (if (decide (0 ≤ (px_w (x3 + 1))) && decide ((px_w (x3 + 1)) < x0)) = true then
      if (decide (0 ≤ (px_w (x3 + 2))) && decide ((px_w (x3 + 2)) < x0)) = true then
        if px_go w x1 8 = true then
          (px_R (mm_Tin_wish, 0, [(2, x1), (0, (px_rd w 0 ((px_w (x3 + 1))).toNat)), (0, (px_rd w 0 ((px_w (x3 + 2))).toNat))], [], w)).bind fun r63 =>
          if (decide (0 ≤ (px_w (x3 + 1))) && decide ((px_w (x3 + 1)) < x0)) = true then
            if (decide (0 ≤ (px_w (x3 + 2))) && decide ((px_w (x3 + 2)) < x0)) = true then
              if px_go r63.2 x2 9 = true then
                (px_R (mm_Mod_wish, 0, [(2, x2), (0, (px_rd r63.2 0 ((px_w (x3 + 1))).toNat)), (0, (px_rd r63.2 0 ((px_w (x3 + 2))).toNat)), (9, 0), (9, 0), (9, 0)], [], r63.2)).bind fun r64 =>
                if r63.1 = r64.1 then
                  px_R (mm_Law_law, 1412, [(5, x0), (2, x1), (2, x2), (0, x3)], [], r64.2)
                else
                  some (0, r64.2)
              else none
            else none
          else none
        else none
      else none
    else none) := (px_Req mm_Law_law 1115 [(5, x0), (2, x1), (2, x2), (0, x3)] [] w).trans rfl
set_option maxRecDepth 100000 in
theorem eq_Law_law_1148 (x0 x1 x2 x3 : Int) (w : pw) : px_R (mm_Law_law, 1148, [(5, x0), (2, x1), (2, x2), (0, x3)], [], w) =
    (if (decide (0 ≤ (px_w (x3 + 1))) && decide ((px_w (x3 + 1)) < x0)) = true then
      if (decide (0 ≤ (px_w (x3 + 2))) && decide ((px_w (x3 + 2)) < x0)) = true then
        if px_go w x1 8 = true then
          (px_R (mm_Tin_least, 0, [(2, x1), (0, (px_rd w 0 ((px_w (x3 + 1))).toNat)), (0, (px_rd w 0 ((px_w (x3 + 2))).toNat))], [], w)).bind fun r65 =>
          if (decide (0 ≤ (px_w (x3 + 1))) && decide ((px_w (x3 + 1)) < x0)) = true then
            if (decide (0 ≤ (px_w (x3 + 2))) && decide ((px_w (x3 + 2)) < x0)) = true then
              if px_go r65.2 x2 9 = true then
                (px_R (mm_Mod_least, 0, [(2, x2), (0, (px_rd r65.2 0 ((px_w (x3 + 1))).toNat)), (0, (px_rd r65.2 0 ((px_w (x3 + 2))).toNat)), (9, 0), (9, 0), (9, 0), (9, 0)], [], r65.2)).bind fun r66 =>
                if r65.1 = r66.1 then
                  px_R (mm_Law_law, 1412, [(5, x0), (2, x1), (2, x2), (0, x3)], [], r66.2)
                else
                  some (0, r66.2)
              else none
            else none
          else none
        else none
      else none
    else none) := (px_Req mm_Law_law 1148 [(5, x0), (2, x1), (2, x2), (0, x3)] [] w).trans rfl
set_option maxRecDepth 100000 in
theorem eq_Law_law_1181 (x0 x1 x2 x3 : Int) (w : pw) : px_R (mm_Law_law, 1181, [(5, x0), (2, x1), (2, x2), (0, x3)], [], w) =
    (if px_go w x1 8 = true then
      (px_R (mm_Tin_taps, 0, [(2, x1), (9, 0)], [], w)).bind fun r67 =>
      if px_go r67.2 x2 9 = true then
        (px_R (mm_Mod_taps, 0, [(2, x2), (9, 0), (9, 0), (9, 0), (9, 0), (9, 0)], [], r67.2)).bind fun r68 =>
        if r67.1 = r68.1 then
          px_R (mm_Law_law, 1412, [(5, x0), (2, x1), (2, x2), (0, x3)], [], r68.2)
        else
          some (0, r68.2)
      else none
    else none) := (px_Req mm_Law_law 1181 [(5, x0), (2, x1), (2, x2), (0, x3)] [] w).trans rfl
set_option maxRecDepth 100000 in
theorem eq_Law_law_1194 (x0 x1 x2 x3 : Int) (w : pw) : px_R (mm_Law_law, 1194, [(5, x0), (2, x1), (2, x2), (0, x3)], [], w) =
    (if (decide (0 ≤ (px_w (x3 + 1))) && decide ((px_w (x3 + 1)) < x0)) = true then
      if (decide (0 ≤ (px_w (x3 + 2))) && decide ((px_w (x3 + 2)) < x0)) = true then
        if px_go w x1 8 = true then
          (px_R (mm_Tin_tapRow, 0, [(2, x1), (0, (px_rd w 0 ((px_w (x3 + 1))).toNat)), (0, (px_rd w 0 ((px_w (x3 + 2))).toNat))], [], w)).bind fun r69 =>
          if (decide (0 ≤ (px_w (x3 + 1))) && decide ((px_w (x3 + 1)) < x0)) = true then
            if (decide (0 ≤ (px_w (x3 + 2))) && decide ((px_w (x3 + 2)) < x0)) = true then
              if px_go r69.2 x2 9 = true then
                (px_R (mm_Mod_tapRow, 0, [(2, x2), (0, (px_rd r69.2 0 ((px_w (x3 + 1))).toNat)), (0, (px_rd r69.2 0 ((px_w (x3 + 2))).toNat))], [], r69.2)).bind fun r70 =>
                if r69.1 = r70.1 then
                  px_R (mm_Law_law, 1412, [(5, x0), (2, x1), (2, x2), (0, x3)], [], r70.2)
                else
                  some (0, r70.2)
              else none
            else none
          else none
        else none
      else none
    else none) := (px_Req mm_Law_law 1194 [(5, x0), (2, x1), (2, x2), (0, x3)] [] w).trans rfl
set_option maxRecDepth 100000 in
theorem eq_Law_law_1227 (x0 x1 x2 x3 : Int) (w : pw) : px_R (mm_Law_law, 1227, [(5, x0), (2, x1), (2, x2), (0, x3)], [], w) =
    (if (decide (0 ≤ (px_w (x3 + 1))) && decide ((px_w (x3 + 1)) < x0)) = true then
      if (decide (0 ≤ (px_w (x3 + 2))) && decide ((px_w (x3 + 2)) < x0)) = true then
        if (decide (0 ≤ (px_w (x3 + 3))) && decide ((px_w (x3 + 3)) < x0)) = true then
          if px_go w x1 8 = true then
            (px_R (mm_Tin_write, 0, [(2, x1), (0, (px_rd w 0 ((px_w (x3 + 1))).toNat)), (0, (px_rd w 0 ((px_w (x3 + 2))).toNat)), (0, (px_rd w 0 ((px_w (x3 + 3))).toNat))], [], w)).bind fun r71 =>
            if (decide (0 ≤ (px_w (x3 + 1))) && decide ((px_w (x3 + 1)) < x0)) = true then
              if (decide (0 ≤ (px_w (x3 + 2))) && decide ((px_w (x3 + 2)) < x0)) = true then
                if (decide (0 ≤ (px_w (x3 + 3))) && decide ((px_w (x3 + 3)) < x0)) = true then
                  if px_go r71.2 x2 9 = true then
                    (px_R (mm_Mod_write, 0, [(2, x2), (0, (px_rd r71.2 0 ((px_w (x3 + 1))).toNat)), (0, (px_rd r71.2 0 ((px_w (x3 + 2))).toNat)), (0, (px_rd r71.2 0 ((px_w (x3 + 3))).toNat))], [], r71.2)).bind fun r72 =>
                    if r71.1 = r72.1 then
                      px_R (mm_Law_law, 1412, [(5, x0), (2, x1), (2, x2), (0, x3)], [], r72.2)
                    else
                      some (0, r72.2)
                  else none
                else none
              else none
            else none
          else none
        else none
      else none
    else none) := (px_Req mm_Law_law 1227 [(5, x0), (2, x1), (2, x2), (0, x3)] [] w).trans rfl
set_option maxRecDepth 100000 in
theorem eq_Law_law_1270 (x0 x1 x2 x3 : Int) (w : pw) : px_R (mm_Law_law, 1270, [(5, x0), (2, x1), (2, x2), (0, x3)], [], w) =
    (if (decide (0 ≤ (px_w (x3 + 1))) && decide ((px_w (x3 + 1)) < x0)) = true then
      if (decide (0 ≤ (px_w (x3 + 2))) && decide ((px_w (x3 + 2)) < x0)) = true then
        if (decide (0 ≤ (px_w (x3 + 3))) && decide ((px_w (x3 + 3)) < x0)) = true then
          if px_go w x1 8 = true then
            (px_R (mm_Tin_right, 0, [(2, x1), (0, (px_rd w 0 ((px_w (x3 + 1))).toNat)), (0, (px_rd w 0 ((px_w (x3 + 2))).toNat)), (0, (px_rd w 0 ((px_w (x3 + 3))).toNat))], [], w)).bind fun r73 =>
            if (decide (0 ≤ (px_w (x3 + 1))) && decide ((px_w (x3 + 1)) < x0)) = true then
              if (decide (0 ≤ (px_w (x3 + 2))) && decide ((px_w (x3 + 2)) < x0)) = true then
                if (decide (0 ≤ (px_w (x3 + 3))) && decide ((px_w (x3 + 3)) < x0)) = true then
                  if px_go r73.2 x2 9 = true then
                    (px_R (mm_Mod_right_1, 0, [(2, x2), (0, (px_rd r73.2 0 ((px_w (x3 + 1))).toNat)), (0, (px_rd r73.2 0 ((px_w (x3 + 2))).toNat)), (0, (px_rd r73.2 0 ((px_w (x3 + 3))).toNat)), (9, 0), (9, 0)], [], r73.2)).bind fun r74 =>
                    if r73.1 = r74.1 then
                      px_R (mm_Law_law, 1412, [(5, x0), (2, x1), (2, x2), (0, x3)], [], r74.2)
                    else
                      some (0, r74.2)
                  else none
                else none
              else none
            else none
          else none
        else none
      else none
    else none) := (px_Req mm_Law_law 1270 [(5, x0), (2, x1), (2, x2), (0, x3)] [] w).trans rfl
set_option maxRecDepth 100000 in
theorem eq_Law_law_1313 (x0 x1 x2 x3 : Int) (w : pw) : px_R (mm_Law_law, 1313, [(5, x0), (2, x1), (2, x2), (0, x3)], [], w) =
    (if (decide (0 ≤ (px_w (x3 + 1))) && decide ((px_w (x3 + 1)) < x0)) = true then
      if (decide (0 ≤ (px_w (x3 + 2))) && decide ((px_w (x3 + 2)) < x0)) = true then
        if px_go w x1 8 = true then
          (px_R (mm_Tin_fit, 0, [(2, x1), (0, (px_rd w 0 ((px_w (x3 + 1))).toNat)), (0, (px_rd w 0 ((px_w (x3 + 2))).toNat))], [], w)).bind fun r75 =>
          if (decide (0 ≤ (px_w (x3 + 1))) && decide ((px_w (x3 + 1)) < x0)) = true then
            if (decide (0 ≤ (px_w (x3 + 2))) && decide ((px_w (x3 + 2)) < x0)) = true then
              if px_go r75.2 x2 9 = true then
                (px_R (mm_Mod_fit, 0, [(2, x2), (0, (px_rd r75.2 0 ((px_w (x3 + 1))).toNat)), (0, (px_rd r75.2 0 ((px_w (x3 + 2))).toNat)), (9, 0), (9, 0), (9, 0), (9, 0), (9, 0)], [], r75.2)).bind fun r76 =>
                if r75.1 = r76.1 then
                  px_R (mm_Law_law, 1412, [(5, x0), (2, x1), (2, x2), (0, x3)], [], r76.2)
                else
                  some (0, r76.2)
              else none
            else none
          else none
        else none
      else none
    else none) := (px_Req mm_Law_law 1313 [(5, x0), (2, x1), (2, x2), (0, x3)] [] w).trans rfl
set_option maxRecDepth 100000 in
theorem eq_Law_law_1346 (x0 x1 x2 x3 : Int) (w : pw) : px_R (mm_Law_law, 1346, [(5, x0), (2, x1), (2, x2), (0, x3)], [], w) =
    (if (decide (0 ≤ (px_w (x3 + 1))) && decide ((px_w (x3 + 1)) < x0)) = true then
      if (decide (0 ≤ (px_w (x3 + 2))) && decide ((px_w (x3 + 2)) < x0)) = true then
        if (decide (0 ≤ (px_w (x3 + 3))) && decide ((px_w (x3 + 3)) < x0)) = true then
          if px_go w x1 8 = true then
            (px_R (mm_Tin_listened, 0, [(2, x1), (0, (px_rd w 0 ((px_w (x3 + 1))).toNat)), (0, (px_rd w 0 ((px_w (x3 + 2))).toNat)), (0, (px_rd w 0 ((px_w (x3 + 3))).toNat)), (9, 0), (9, 0), (9, 0)], [], w)).bind fun r77 =>
            if (decide (0 ≤ (px_w (x3 + 1))) && decide ((px_w (x3 + 1)) < x0)) = true then
              if (decide (0 ≤ (px_w (x3 + 2))) && decide ((px_w (x3 + 2)) < x0)) = true then
                if (decide (0 ≤ (px_w (x3 + 3))) && decide ((px_w (x3 + 3)) < x0)) = true then
                  if px_go r77.2 x2 9 = true then
                    (px_R (mm_Mod_listened, 0, [(2, x2), (0, (px_rd r77.2 0 ((px_w (x3 + 1))).toNat)), (0, (px_rd r77.2 0 ((px_w (x3 + 2))).toNat)), (0, (px_rd r77.2 0 ((px_w (x3 + 3))).toNat)), (9, 0), (9, 0), (9, 0)], [], r77.2)).bind fun r78 =>
                    if r77.1 = r78.1 then
                      px_R (mm_Law_law, 1412, [(5, x0), (2, x1), (2, x2), (0, x3)], [], r78.2)
                    else
                      some (0, r78.2)
                  else none
                else none
              else none
            else none
          else none
        else none
      else none
    else none) := (px_Req mm_Law_law 1346 [(5, x0), (2, x1), (2, x2), (0, x3)] [] w).trans rfl
set_option maxRecDepth 100000 in
theorem eq_Law_law_1389 (x0 x1 x2 x3 : Int) (w : pw) : px_R (mm_Law_law, 1389, [(5, x0), (2, x1), (2, x2), (0, x3)], [], w) =
    (if (decide (0 ≤ (px_w (x3 + 1))) && decide ((px_w (x3 + 1)) < x0)) = true then
      if px_go w x1 8 = true then
        (px_R (mm_Tin_count, 0, [(2, x1), (0, (px_rd w 0 ((px_w (x3 + 1))).toNat))], [], w)).bind fun r79 =>
        if (decide (0 ≤ (px_w (x3 + 1))) && decide ((px_w (x3 + 1)) < x0)) = true then
          if px_go r79.2 x2 9 = true then
            (px_R (mm_Mod_count, 0, [(2, x2), (0, (px_rd r79.2 0 ((px_w (x3 + 1))).toNat))], [], r79.2)).bind fun r80 =>
            if r79.1 = r80.1 then
              px_R (mm_Law_law, 1412, [(5, x0), (2, x1), (2, x2), (0, x3)], [], r80.2)
            else
              some (0, r80.2)
          else none
        else none
      else none
    else none) := (px_Req mm_Law_law 1389 [(5, x0), (2, x1), (2, x2), (0, x3)] [] w).trans rfl
set_option maxRecDepth 100000 in
theorem eq_Law_law_1412 (x0 x1 x2 x3 : Int) (w : pw) : px_R (mm_Law_law, 1412, [(5, x0), (2, x1), (2, x2), (0, x3)], [], w) =
    (px_R (mm_Law_law, 18, [(5, x0), (2, x1), (2, x2), (0, (px_w (x3 + 6)))], [], w)) := (px_Req mm_Law_law 1412 [(5, x0), (2, x1), (2, x2), (0, x3)] [] w).trans rfl
