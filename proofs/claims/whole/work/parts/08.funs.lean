def f_X0_isFramed (h : tkH) (a0 : Nat) (a1 : Int32) : Option (Int32 × tkH) :=
  (rdI h (fld a0 1) a1).bind fun v5 => if v5 = 2 then ((rdI h (fld a0 5) a1).bind fun v15 => if v15 < 2 then (some (0, h)) else (some (1, h))) else (some (0, h))
def f_X0_stepAt (h : tkH) (a0 : Nat) (a1 : Int32) (a2 : Int32) : Option (Int32 × tkH) :=
  (rdI h (fld a0 6) ((a1 * 10) + a2)).bind fun v10 => some (v10, h)
def f_X8_isWithin (h : tkH) (a0 : Int32) (a1 : Int32) : Option (Int32 × tkH) :=
  if a0 < 0 then (some (0, h)) else (if a1 ≤ a0 then (some (0, h)) else (some (1, h)))
def f_X8_motifOf (h : tkH) (a0 : Int32) : Option (Int32 × tkH) :=
  some (a0 >>> (4 &&& 31), h)
def f_X0_hasTale (h : tkH) (a0 : Nat) (a1 : Int32) : Option (Int32 × tkH) :=
  (f_X8_isWithin h a1 (h a0 0)).bind fun x5 => (bz x5.1).bind fun u => some (u, x5.2)
def f_X0_howOften_L5 (a0 : Nat) (a2 : Int32) (v12 : Int32) (x20 : Int32 × tkH) (x23 : Int32 × tkH) (a1 : Int32) : Nat → tkH → Int32 → Int32 → Option (Int32 × tkH) :=
  lq2 (fun kk5 g5 y5_3 y5_4 => (rdI g5 (fld a0 5) a2).bind fun v12 => if v12 ≤ y5_4 then (some (y5_3, g5)) else ((f_X0_stepAt g5 a0 a2 y5_4).bind fun x20 => (f_X8_motifOf x20.2 x20.1).bind fun x23 => if x23.1 = a1 then (kk5 x23.2 (y5_3 + 1) (y5_4 + 1)) else (kk5 x23.2 y5_3 (y5_4 + 1))))
def f_X0_howOften (h : tkH) (a0 : Nat) (a1 : Int32) (a2 : Int32) : Option (Int32 × tkH) :=
  f_X0_howOften_L5 a0 a2 v12 x20 x23 a1 FU h 0 0
def f_X0_hasStep (h : tkH) (a0 : Nat) (a1 : Int32) (a2 : Int32) : Option (Int32 × tkH) :=
  (f_X0_hasTale h a0 a1).bind fun x2 => if x2.1 = 0 then (some (0, x2.2)) else ((rdI x2.2 (fld a0 5) a1).bind fun v14 => (f_X8_isWithin x2.2 a2 v14).bind fun x15 => if x15.1 = 0 then (some (0, x15.2)) else (some (1, x15.2)))
