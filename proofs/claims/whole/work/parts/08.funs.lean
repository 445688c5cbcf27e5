noncomputable def f_J6_bitCount_0f7a4 (h : tkH) (a0 : Int32) : Option (Int32 × tkH) :=
  some ((((((((a0 - (((Int32.toUInt32 a0 >>> (Int32.toUInt32 1 &&& Int32.toUInt32 31)).toInt32) &&& 1431655765)) &&& 858993459) + (((Int32.toUInt32 (a0 - (((Int32.toUInt32 a0 >>> (Int32.toUInt32 1 &&& Int32.toUInt32 31)).toInt32) &&& 1431655765)) >>> (Int32.toUInt32 2 &&& Int32.toUInt32 31)).toInt32) &&& 858993459)) + ((Int32.toUInt32 (((a0 - (((Int32.toUInt32 a0 >>> (Int32.toUInt32 1 &&& Int32.toUInt32 31)).toInt32) &&& 1431655765)) &&& 858993459) + (((Int32.toUInt32 (a0 - (((Int32.toUInt32 a0 >>> (Int32.toUInt32 1 &&& Int32.toUInt32 31)).toInt32) &&& 1431655765)) >>> (Int32.toUInt32 2 &&& Int32.toUInt32 31)).toInt32) &&& 858993459)) >>> (Int32.toUInt32 4 &&& Int32.toUInt32 31)).toInt32)) &&& 252645135) + ((Int32.toUInt32 (((((a0 - (((Int32.toUInt32 a0 >>> (Int32.toUInt32 1 &&& Int32.toUInt32 31)).toInt32) &&& 1431655765)) &&& 858993459) + (((Int32.toUInt32 (a0 - (((Int32.toUInt32 a0 >>> (Int32.toUInt32 1 &&& Int32.toUInt32 31)).toInt32) &&& 1431655765)) >>> (Int32.toUInt32 2 &&& Int32.toUInt32 31)).toInt32) &&& 858993459)) + ((Int32.toUInt32 (((a0 - (((Int32.toUInt32 a0 >>> (Int32.toUInt32 1 &&& Int32.toUInt32 31)).toInt32) &&& 1431655765)) &&& 858993459) + (((Int32.toUInt32 (a0 - (((Int32.toUInt32 a0 >>> (Int32.toUInt32 1 &&& Int32.toUInt32 31)).toInt32) &&& 1431655765)) >>> (Int32.toUInt32 2 &&& Int32.toUInt32 31)).toInt32) &&& 858993459)) >>> (Int32.toUInt32 4 &&& Int32.toUInt32 31)).toInt32)) &&& 252645135) >>> (Int32.toUInt32 8 &&& Int32.toUInt32 31)).toInt32)) + ((Int32.toUInt32 ((((((a0 - (((Int32.toUInt32 a0 >>> (Int32.toUInt32 1 &&& Int32.toUInt32 31)).toInt32) &&& 1431655765)) &&& 858993459) + (((Int32.toUInt32 (a0 - (((Int32.toUInt32 a0 >>> (Int32.toUInt32 1 &&& Int32.toUInt32 31)).toInt32) &&& 1431655765)) >>> (Int32.toUInt32 2 &&& Int32.toUInt32 31)).toInt32) &&& 858993459)) + ((Int32.toUInt32 (((a0 - (((Int32.toUInt32 a0 >>> (Int32.toUInt32 1 &&& Int32.toUInt32 31)).toInt32) &&& 1431655765)) &&& 858993459) + (((Int32.toUInt32 (a0 - (((Int32.toUInt32 a0 >>> (Int32.toUInt32 1 &&& Int32.toUInt32 31)).toInt32) &&& 1431655765)) >>> (Int32.toUInt32 2 &&& Int32.toUInt32 31)).toInt32) &&& 858993459)) >>> (Int32.toUInt32 4 &&& Int32.toUInt32 31)).toInt32)) &&& 252645135) + ((Int32.toUInt32 (((((a0 - (((Int32.toUInt32 a0 >>> (Int32.toUInt32 1 &&& Int32.toUInt32 31)).toInt32) &&& 1431655765)) &&& 858993459) + (((Int32.toUInt32 (a0 - (((Int32.toUInt32 a0 >>> (Int32.toUInt32 1 &&& Int32.toUInt32 31)).toInt32) &&& 1431655765)) >>> (Int32.toUInt32 2 &&& Int32.toUInt32 31)).toInt32) &&& 858993459)) + ((Int32.toUInt32 (((a0 - (((Int32.toUInt32 a0 >>> (Int32.toUInt32 1 &&& Int32.toUInt32 31)).toInt32) &&& 1431655765)) &&& 858993459) + (((Int32.toUInt32 (a0 - (((Int32.toUInt32 a0 >>> (Int32.toUInt32 1 &&& Int32.toUInt32 31)).toInt32) &&& 1431655765)) >>> (Int32.toUInt32 2 &&& Int32.toUInt32 31)).toInt32) &&& 858993459)) >>> (Int32.toUInt32 4 &&& Int32.toUInt32 31)).toInt32)) &&& 252645135) >>> (Int32.toUInt32 8 &&& Int32.toUInt32 31)).toInt32)) >>> (Int32.toUInt32 16 &&& Int32.toUInt32 31)).toInt32)) &&& 63, h)
noncomputable def f_J7_fill_53178_L5 (a0 : Nat) (a1 : Int32) : Nat → tkH → Int32 → Option (tkH) :=
  lq1 (fun kk5 g5 y5_2 => if (nI (ln a0)) ≤ y5_2 then (some g5) else ((wrI g5 a0 y5_2 a1).bind fun h13 => kk5 h13 (y5_2 + 1)))
noncomputable def f_J7_fill_53178 (h : tkH) (a0 : Nat) (a1 : Int32) : Option (tkH) :=
  f_J7_fill_53178_L5 a0 a1 FU h 0
noncomputable def f_X0_addStep (h : tkH) (a0 : Nat) (a1 : Int32) (a2 : Int32) : Option (tkH) :=
  (rdI h (fld a0 5) a1).bind fun v13 => (wrI h (fld a0 6) ((a1 * 10) + v13) a2).bind fun h16 => (rdI h16 (fld a0 5) a1).bind fun v23 => (wrI h16 (fld a0 5) a1 (v23 + 1)).bind fun h26 => some h26
noncomputable def f_X0_addTale (h : tkH) (a0 : Nat) (a1 : Int32) (a2 : Int32) (a3 : Int32) : Option (Int32 × tkH) :=
  (wrI h (fld a0 1) (h a0 0) a1).bind fun h13 => (wrI h13 (fld a0 2) (h a0 0) a2).bind fun h21 => (wrI h21 (fld a0 3) (h a0 0) a3).bind fun h29 => (wrI h29 (fld a0 4) (h a0 0) (-1)).bind fun h37 => (wrI h37 (fld a0 5) (h a0 0) 0).bind fun h45 => some (h a0 0, tkup h45 a0 0 ((h45 a0 0) + 1))
noncomputable def f_X0_howManySteps_L4 (a0 : Nat) : Nat → tkH → Int32 → Int32 → Option (Int32 × tkH) :=
  lq2 (fun kk4 g4 y4_1 y4_2 => if (g4 a0 0) ≤ y4_2 then (some (y4_1, g4)) else ((rdI g4 (fld a0 5) y4_2).bind fun v18 => kk4 g4 (y4_1 + v18) (y4_2 + 1)))
noncomputable def f_X0_howManySteps (h : tkH) (a0 : Nat) : Option (Int32 × tkH) :=
  f_X0_howManySteps_L4 a0 FU h 0 0
noncomputable def f_X0_isAt (h : tkH) (a0 : Nat) (a1 : Int32) (a2 : Int32) : Option (Int32 × tkH) :=
  if a2 = (-1) then (some (1, h)) else ((rdI h (fld a0 2) a1).bind fun v10 => if v10 = a2 then (some (1, h)) else (some (0, h)))
noncomputable def f_X0_isFramed (h : tkH) (a0 : Nat) (a1 : Int32) : Option (Int32 × tkH) :=
  (rdI h (fld a0 1) a1).bind fun v5 => if v5 = 2 then ((rdI h (fld a0 5) a1).bind fun v15 => if v15 < 2 then (some (0, h)) else (some (1, h))) else (some (0, h))
noncomputable def f_X0_printsLeadTo_L5 (a2 : Int32) (a0 : Nat) : Nat → tkH → Int32 → Int32 → Option (Int32 × tkH) :=
  lq2 (fun kk5 g5 y5_3 y5_4 => if 10 ≤ y5_4 then (some (0, g5)) else (if y5_3 < 0 then (some (0, g5)) else (if y5_3 = a2 then (some (1, g5)) else ((rdI g5 (fld a0 4) y5_3).bind fun v28 => kk5 g5 v28 (y5_4 + 1)))))
noncomputable def f_X0_printsLeadTo (h : tkH) (a0 : Nat) (a1 : Int32) (a2 : Int32) : Option (Int32 × tkH) :=
  f_X0_printsLeadTo_L5 a2 a0 FU h a1 0
noncomputable def f_X0_setWay (h : tkH) (a0 : Nat) (a1 : Int32) (a2 : Int32) (a3 : Int32) : Option (tkH) :=
  (wrI h (fld a0 8) ((a1 * 6) + a2) a3).bind fun h11 => (wrI h11 (fld a0 8) ((a2 * 6) + a1) a3).bind fun h23 => some h23
noncomputable def f_X0_stepAt (h : tkH) (a0 : Nat) (a1 : Int32) (a2 : Int32) : Option (Int32 × tkH) :=
  (rdI h (fld a0 6) ((a1 * 10) + a2)).bind fun v10 => some (v10, h)
noncomputable def f_X0_wayBetween (h : tkH) (a0 : Nat) (a1 : Int32) (a2 : Int32) : Option (Int32 × tkH) :=
  (rdI h (fld a0 8) ((a1 * 6) + a2)).bind fun v10 => some (v10, h)
noncomputable def f_X1_leads_J32 (a0 : Nat) (a1 : Int32) (a2 : Int32) : tkH → Option (Int32 × tkH) :=
  fun g32 => (rdI g32 (fld a0 0) a1).bind fun v37 => if v37 = a2 then (some (1, g32)) else (some (0, g32))
noncomputable def f_X1_leads (h : tkH) (a0 : Nat) (a1 : Int32) (a2 : Int32) : Option (Int32 × tkH) :=
  (rdI h (fld a0 0) a1).bind fun v5 => if 0 ≤ v5 then (f_X1_leads_J32 a0 a1 a2 h) else ((rdI h (fld a0 1) a2).bind fun v14 => if 0 ≤ v14 then (f_X1_leads_J32 a0 a1 a2 h) else ((wrI h (fld a0 0) a1 a2).bind fun h24 => (wrI h24 (fld a0 1) a2 a1).bind fun h31 => f_X1_leads_J32 a0 a1 a2 h31))
noncomputable def f_X2_forget_L2 (a0 : Nat) (a1 : Int32) : Nat → tkH → Int32 → Option (tkH) :=
  lq1 (fun kk2 g2 y2_2 => if 10 ≤ y2_2 then (some g2) else ((wrI g2 (fld a0 1) ((a1 * 10) + y2_2) (-1)).bind fun h19 => (wrI h19 (fld a0 1) ((y2_2 * 10) + a1) (-1)).bind fun h31 => kk2 h31 (y2_2 + 1)))
noncomputable def f_X2_forget (h : tkH) (a0 : Nat) (a1 : Int32) : Option (tkH) :=
  f_X2_forget_L2 a0 a1 FU h 0
noncomputable def f_X4_endPrice_J28 (a0 : Nat) (a2 : Int32) : tkH → Int32 → Option (Int32 × tkH) :=
  fun g28 t28_0 => if (g28 (fld a0 0) 2) = 0 then (some (t28_0 + (((g28 (fld a0 1) 1) - a2) * (g28 a0 7)), g28)) else (some (t28_0 + 0, g28))
noncomputable def f_X4_endPrice (h : tkH) (a0 : Nat) (a1 : Int32) (a2 : Int32) : Option (Int32 × tkH) :=
  if (h (fld a0 1) 2) = 0 then (f_X4_endPrice_J28 a0 a2 h (((h (fld a0 0) 1) - a1) * (h a0 7))) else (f_X4_endPrice_J28 a0 a2 h 0)
noncomputable def f_X4_pairPrice_J51 (v5 : Int32) (v14 : Int32) (a0 : Nat) : tkH → Int32 → Option (Int32 × tkH) :=
  fun g51 y51_4 => if ((v5 ^^^ v14) &&& 3) = 0 then (some (y51_4, g51)) else (some (y51_4 + (g51 a0 6), g51))
noncomputable def f_X4_pairPrice_J33 (v5 : Int32) (v14 : Int32) (a0 : Nat) : tkH → Int32 → Option (Int32 × tkH) :=
  fun g33 t33_0 => if ((v5 ^^^ v14) &&& 12) = 0 then (f_X4_pairPrice_J51 v5 v14 a0 g33 t33_0) else (f_X4_pairPrice_J51 v5 v14 a0 g33 (t33_0 + (g33 a0 6)))
noncomputable def f_X4_pairPrice (h : tkH) (a0 : Nat) (a1 : Int32) (a2 : Int32) : Option (Int32 × tkH) :=
  (rdI h (fld a0 2) a1).bind fun v5 => (rdI h (fld (fld a0 1) 0) a2).bind fun v14 => if ((v5 ^^^ v14) &&& 240) = 0 then (f_X4_pairPrice_J33 v5 v14 a0 h 0) else (f_X4_pairPrice_J33 v5 v14 a0 h (h a0 5))
noncomputable def f_X6_holds (h : tkH) (a0 : Nat) (a1 : Int32) (a2 : Int32) : Option (Int32 × tkH) :=
  if a1 < 0 then (some (0, h)) else (if a2 < 0 then (some (0, h)) else (if ((h a0 1) - a1) < a2 then (some (0, h)) else (some (1, h))))
noncomputable def f_X6_howManySteps (h : tkH) (a0 : Nat) : Option (Int32 × tkH) :=
  some ((h a0 1) / 3, h)
noncomputable def f_X6_isMissing (h : tkH) (a0 : Nat) : Option (Int32 × tkH) :=
  if (h a0 0) = 0 then (some (1, h)) else (some (0, h))
noncomputable def f_X6_write_J39 (a0 : Nat) (a1 : Int32) : tkH → Int32 → Option (tkH) :=
  fun g39 t39_0 => (wrI g39 (fld a0 2) a1 t39_0).bind fun h39 => some h39
noncomputable def f_X6_write (h : tkH) (a0 : Nat) (a1 : Int32) (a2 : Int32) : Option (tkH) :=
  if (h a0 0) = 8 then (f_X6_write_J39 a0 a1 h (a2 &&& 255)) else (if (h a0 0) = 16 then (f_X6_write_J39 a0 a1 h (a2 &&& 65535)) else (f_X6_write_J39 a0 a1 h a2))
noncomputable def f_X7_joinParts_L2 (a0 : Nat) (a2 : Int32) (a1 : Int32) : Nat → tkH → Int32 → Option (tkH) :=
  lq1 (fun kk2 g2 y2_3 => if 10 ≤ y2_3 then (some g2) else ((rdI g2 (fld a0 0) y2_3).bind fun v13 => if v13 = a2 then ((wrI g2 (fld a0 0) y2_3 a1).bind fun h24 => kk2 h24 (y2_3 + 1)) else (kk2 g2 (y2_3 + 1))))
noncomputable def f_X7_joinParts (h : tkH) (a0 : Nat) (a1 : Int32) (a2 : Int32) : Option (tkH) :=
  f_X7_joinParts_L2 a0 a2 a1 FU h 0
noncomputable def f_X8_finding (h : tkH) (a0 : Nat) (a1 : Int32) : Option (Int32 × tkH) :=
  some (a1, tkup h a0 6 ((h a0 6) + 1))
noncomputable def f_X8_goal (h : tkH) (a0 : Int32) (a1 : Int32) : Option (Int32 × tkH) :=
  some ((a0 >>> ((12 - (4 * a1)) &&& 31)) &&& 3, h)
noncomputable def f_X8_heapRefusal (h : tkH) (a0 : Nat) (a1 : Int32) : Option (Int32 × tkH) :=
  if ((Int32.toUInt32 a1 >>> (Int32.toUInt32 (h (fld a0 0) 0) &&& Int32.toUInt32 31)).toInt32) = 0 then (if a1 = 0 then (some ((-100006), h)) else (some (0, h))) else (some ((-100001), h))
noncomputable def f_X8_isInHeap (h : tkH) (a0 : Int32) (a1 : Int32) : Option (Int32 × tkH) :=
  if ((a0 >>> (a1 &&& 31)) &&& 1) = 1 then (some (1, h)) else (some (0, h))
noncomputable def f_X8_isUnder (h : tkH) (a0 : Int32) (a1 : Int32) : Option (Int32 × tkH) :=
  if a0 = a1 then (some (1, h)) else (if a1 = 0 then (some (1, h)) else (if a0 = 3 then (if a1 = 1 then (some (1, h)) else (some (0, h))) else (some (0, h))))
noncomputable def f_X8_isWithin (h : tkH) (a0 : Int32) (a1 : Int32) : Option (Int32 × tkH) :=
  if a0 < 0 then (some (0, h)) else (if a1 ≤ a0 then (some (0, h)) else (some (1, h)))
noncomputable def f_X8_motifOf (h : tkH) (a0 : Int32) : Option (Int32 × tkH) :=
  some (a0 >>> (4 &&& 31), h)
noncomputable def f_X8_packed (h : tkH) (a0 : Int32) (a1 : Int32) (a2 : Int32) : Option (Int32 × tkH) :=
  some (((a0 <<< (4 &&& 31)) ||| (a1 <<< (2 &&& 31))) ||| a2, h)
noncomputable def f_X8_whoOf (h : tkH) (a0 : Int32) : Option (Int32 × tkH) :=
  some ((a0 &&& 12) >>> (2 &&& 31), h)
noncomputable def f_X8_whomOf (h : tkH) (a0 : Int32) : Option (Int32 × tkH) :=
  some (a0 &&& 3, h)
noncomputable def f_X9_carry_J72 (y17_5 : Int32) (y56_8 : Int32) (kk56 : tkH → Int32 → Int32 → Option (tkH)) (y56_7 : Int32) : tkH → Option (tkH) :=
  fun g72 => if ((y17_5 >>> (y56_8 &&& 31)) &&& 1) = 1 then (kk56 g72 (y56_7 - 0) (y56_8 + 1)) else (kk56 g72 (y56_7 - 1) (y56_8 + 1))
noncomputable def f_X9_carry_L56 (y17_5 : Int32) (kx99 : tkH → Int32 → Option (tkH)) : Nat → tkH → Int32 → Int32 → Option (tkH) :=
  lq2 (fun kk56 g56 y56_7 y56_8 => if ((y17_5 >>> (y56_8 &&& 31)) &&& 1) = 1 then (f_X9_carry_J72 y17_5 y56_8 kk56 y56_7 g56) else (if y56_7 ≤ 0 then (kx99 g56 y56_8) else (f_X9_carry_J72 y17_5 y56_8 kk56 y56_7 g56)))
noncomputable def f_X9_carry_J51 (y17_5 : Int32) (a0 : Nat) (y17_6 : Int32) (kk17 : tkH → Int32 → Int32 → Int32 → Int32 → Option (tkH)) (v32 : Int32) (v26 : Int32) : tkH → Int32 → Option (tkH) :=
  fun g51 t51_0 => f_X9_carry_L56 y17_5 (fun gz99 z99_8 => (wrI gz99 (fld a0 7) y17_6 z99_8).bind fun h113 => kk17 h113 v32 t51_0 (y17_5 ||| (1 <<< (z99_8 &&& 31))) (y17_6 + 1)) FU g51 v26 0
noncomputable def f_X9_carry_L17 (a0 : Nat) : Nat → tkH → Int32 → Int32 → Int32 → Int32 → Option (tkH) :=
  lq4 (fun kk17 g17 y17_3 y17_4 y17_5 y17_6 => if 4 ≤ y17_6 then (some g17) else ((dvI y17_3 y17_4).bind fun v26 => (rmI y17_3 y17_4).bind fun v32 => if 2 ≤ y17_6 then (f_X9_carry_J51 y17_5 a0 y17_6 kk17 v32 v26 g17 1) else ((dvI y17_4 (3 - y17_6)).bind fun v46 => f_X9_carry_J51 y17_5 a0 y17_6 kk17 v32 v26 g17 v46)))
noncomputable def f_X9_carry (h : tkH) (a0 : Nat) (a1 : Int32) : Option (tkH) :=
  f_X9_carry_L17 a0 FU h a1 6 0 0
noncomputable def f_X9_endCost_J40 (v5 : Int32) (t23_0 : Int32) : tkH → Int32 → Option (Int32 × tkH) :=
  fun g40 t40_0 => some (v5 * (t23_0 + t40_0), g40)
noncomputable def f_X9_endCost_J23 (a0 : Nat) (v5 : Int32) (a2 : Int32) : tkH → Int32 → Option (Int32 × tkH) :=
  fun g23 t23_0 => if (g23 a0 11) = 0 then (f_X9_endCost_J40 v5 t23_0 g23 ((g23 a0 14) - a2)) else (f_X9_endCost_J40 v5 t23_0 g23 0)
noncomputable def f_X9_endCost (h : tkH) (a0 : Nat) (a1 : Int32) (a2 : Int32) : Option (Int32 × tkH) :=
  (rdI h (fld a0 0) 3).bind fun v5 => if (h a0 15) = 0 then (f_X9_endCost_J23 a0 v5 a2 h ((h a0 10) - a1)) else (f_X9_endCost_J23 a0 v5 a2 h 0)
noncomputable def f_X9_finding (h : tkH) (a0 : Nat) (a1 : Int32) : Option (Int32 × tkH) :=
  some (a1, tkup h a0 3 ((h a0 3) + 1))
noncomputable def f_X9_isCut (h : tkH) (a0 : Nat) (a1 : Int32) : Option (Int32 × tkH) :=
  (rdI h (fld a0 0) (40 + a1)).bind fun v8 => if v8 = 2 then ((rdI h (fld a0 0) (70 + a1)).bind fun v21 => if v21 ≤ 1 then (some (0, h)) else (some (1, h))) else (some (0, h))
noncomputable def f_X9_isTorn (h : tkH) (a0 : Nat) (a1 : Int32) : Option (Int32 × tkH) :=
  (rdI h (fld a0 0) (40 + a1)).bind fun v8 => if v8 = 1 then (some (1, h)) else ((rdI h (fld a0 0) (40 + a1)).bind fun v21 => if v21 = 3 then (some (1, h)) else (some (0, h)))
noncomputable def f_X9_keep_L52 (a0 : Nat) (kx86 : tkH → Option (tkH)) : Nat → tkH → Int32 → Option (tkH) :=
  lq1 (fun kk52 g52 y52_1 => if 390 ≤ y52_1 then (kx86 g52) else ((rdI g52 (fld a0 0) y52_1).bind fun v78 => (wrI g52 (fld a0 1) (((g52 a0 2) * 390) + y52_1) v78).bind fun h79 => kk52 h79 (y52_1 + 1)))
noncomputable def f_X9_keep_J50 (a0 : Nat) : tkH → Option (tkH) :=
  fun g50 => f_X9_keep_L52 a0 (fun gz86 => some (tkup gz86 a0 2 ((gz86 a0 2) + 1))) FU g50 0
noncomputable def f_X9_keep_L11 (a0 : Nat) (kx40 : tkH → Option (tkH)) : Nat → tkH → Int32 → Option (tkH) :=
  lq1 (fun kk11 g11 y11_1 => if 7410 ≤ y11_1 then (kx40 g11) else ((rdI g11 (fld a0 1) (y11_1 + 390)).bind fun v32 => (wrI g11 (fld a0 1) y11_1 v32).bind fun h33 => kk11 h33 (y11_1 + 1)))
noncomputable def f_X9_keep (h : tkH) (a0 : Nat) : Option (tkH) :=
  if (h a0 2) = 20 then (f_X9_keep_L11 a0 (fun gz40 => f_X9_keep_J50 a0 (tkup gz40 a0 2 ((gz40 a0 2) - 1))) FU h 0) else (f_X9_keep_J50 a0 h)
noncomputable def f_X9_nextBranch_L18 (a0 : Nat) (y4_2 : Int32) (kx94 : tkH → Int32 → Option (Int32 × tkH)) : Nat → tkH → Int32 → Int32 → Option (Int32 × tkH) :=
  lq2 (fun kk18 g18 y18_1 y18_3 => (rdI g18 (fld a0 0) 0).bind fun v24 => if v24 ≤ y18_3 then (kx94 g18 y18_1) else ((rdI g18 (fld a0 20) ((10 * y4_2) + y18_3)).bind fun v42 => if v42 < 0 then (kk18 g18 y18_1 (y18_3 + 1)) else ((rdI g18 (fld a0 21) y4_2).bind fun v51 => (rdI g18 (fld a0 21) y18_3).bind fun v57 => if v51 = v57 then (kk18 g18 y18_1 (y18_3 + 1)) else (if y18_1 < 0 then (kk18 g18 ((10 * y4_2) + y18_3) (y18_3 + 1)) else ((rdI g18 (fld a0 20) ((10 * y4_2) + y18_3)).bind fun v71 => (rdI g18 (fld a0 20) y18_1).bind fun v77 => if v77 ≤ v71 then (kk18 g18 y18_1 (y18_3 + 1)) else (kk18 g18 ((10 * y4_2) + y18_3) (y18_3 + 1)))))))
noncomputable def f_X9_nextBranch_L4 (a0 : Nat) : Nat → tkH → Int32 → Int32 → Option (Int32 × tkH) :=
  lq2 (fun kk4 g4 y4_1 y4_2 => (rdI g4 (fld a0 0) 0).bind fun v10 => if v10 ≤ y4_2 then (some (y4_1, g4)) else (f_X9_nextBranch_L18 a0 y4_2 (fun gz94 z94_1 => kk4 gz94 z94_1 (y4_2 + 1)) FU g4 y4_1 (y4_2 + 1)))
noncomputable def f_X9_nextBranch (h : tkH) (a0 : Nat) : Option (Int32 × tkH) :=
  f_X9_nextBranch_L4 a0 FU h (-1) 0
noncomputable def f_X9_pairsLeft (h : tkH) (a0 : Nat) (a1 : Int32) (a2 : Int32) : Option (Int32 × tkH) :=
  (rdI h (fld a0 16) ((11 * a1) + a2)).bind fun v10 => some (v10, h)
noncomputable def f_X9_setStep (h : tkH) (a0 : Nat) (a1 : Int32) (a2 : Int32) (a3 : Int32) (a4 : Int32) (a5 : Int32) : Option (tkH) :=
  (wrI h (fld a0 0) (90 + (3 * ((10 * a1) + a2))) a3).bind fun h20 => (wrI h20 (fld a0 0) ((90 + (3 * ((10 * a1) + a2))) + 1) a4).bind fun h31 => (wrI h31 (fld a0 0) ((90 + (3 * ((10 * a1) + a2))) + 2) a5).bind fun h42 => some h42
noncomputable def f_X9_stepOf (h : tkH) (a0 : Nat) (a1 : Int32) (a2 : Int32) (a3 : Int32) : Option (Int32 × tkH) :=
  (rdI h (fld a0 0) ((90 + (3 * ((10 * a1) + a2))) + a3)).bind fun v17 => some (v17, h)
noncomputable def f_X9_within (h : tkH) (a0 : Int32) (a1 : Int32) (a2 : Int32) : Option (Int32 × tkH) :=
  if a0 < a1 then (some (0, h)) else (if a2 < a0 then (some (0, h)) else (some (1, h)))
noncomputable def f_X0_changeMotif_L17 (a0 : Nat) (y5_4 : Int32) (a1 : Int32) (a2 : Int32) (kx84 : tkH → Int32 → Option (Int32 × tkH)) : Nat → tkH → Int32 → Int32 → Option (Int32 × tkH) :=
  lq2 (fun kk17 g17 y17_3 y17_5 => (rdI g17 (fld a0 5) y5_4).bind fun v25 => if v25 ≤ y17_5 then (kx84 g17 y17_3) else ((f_X0_stepAt g17 a0 y5_4 y17_5).bind fun x34 => (f_X8_motifOf x34.2 x34.1).bind fun x41 => if x41.1 = a1 then ((f_X8_whoOf x41.2 x34.1).bind fun x63 => (f_X8_whomOf x63.2 x34.1).bind fun x68 => (f_X8_packed x68.2 a2 x63.1 x68.1).bind fun x71 => (wrI x71.2 (fld a0 6) ((y5_4 * 10) + y17_5) x71.1).bind fun h74 => kk17 h74 (y17_3 + 1) (y17_5 + 1)) else (kk17 x41.2 y17_3 (y17_5 + 1))))
noncomputable def f_X0_changeMotif_L5 (a0 : Nat) (a1 : Int32) (a2 : Int32) : Nat → tkH → Int32 → Int32 → Option (Int32 × tkH) :=
  lq2 (fun kk5 g5 y5_3 y5_4 => if (g5 a0 0) ≤ y5_4 then (some (y5_3, g5)) else (f_X0_changeMotif_L17 a0 y5_4 a1 a2 (fun gz84 z84_3 => kk5 gz84 z84_3 (y5_4 + 1)) FU g5 y5_3 0))
noncomputable def f_X0_changeMotif (h : tkH) (a0 : Nat) (a1 : Int32) (a2 : Int32) : Option (Int32 × tkH) :=
  f_X0_changeMotif_L5 a0 a1 a2 FU h 0 0
noncomputable def f_X0_couldReach (h : tkH) (a0 : Nat) (a1 : Int32) (a2 : Int32) : Option (Int32 × tkH) :=
  (rdI h (fld a0 2) a1).bind fun v6 => (rdI h (fld a0 2) a2).bind fun v12 => (f_X0_wayBetween h a0 v6 v12).bind fun x13 => (rdI x13.2 (fld a0 3) a1).bind fun v22 => (rdI x13.2 (fld a0 3) a2).bind fun v28 => if v28 ≤ v22 then (some (0, x13.2)) else ((rdI x13.2 (fld a0 3) a1).bind fun v37 => (rdI x13.2 (fld a0 3) a2).bind fun v45 => if v45 < (v37 + x13.1) then (some (0, x13.2)) else (some (1, x13.2)))
noncomputable def f_X0_firstLaid (h : tkH) (a0 : Nat) (a1 : Int32) : Option (Int32 × tkH) :=
  (f_X0_isFramed h a0 a1).bind fun x2 => if x2.1 = 0 then (some (0, x2.2)) else (some (1, x2.2))
noncomputable def f_X0_hasTale (h : tkH) (a0 : Nat) (a1 : Int32) : Option (Int32 × tkH) :=
  (f_X8_isWithin h a1 (h a0 0)).bind fun x5 => (bz x5.1).bind fun u => some (u, x5.2)
noncomputable def f_X0_howOften_L5 (a0 : Nat) (a2 : Int32) (a1 : Int32) : Nat → tkH → Int32 → Int32 → Option (Int32 × tkH) :=
  lq2 (fun kk5 g5 y5_3 y5_4 => (rdI g5 (fld a0 5) a2).bind fun v12 => if v12 ≤ y5_4 then (some (y5_3, g5)) else ((f_X0_stepAt g5 a0 a2 y5_4).bind fun x20 => (f_X8_motifOf x20.2 x20.1).bind fun x23 => if x23.1 = a1 then (kk5 x23.2 (y5_3 + 1) (y5_4 + 1)) else (kk5 x23.2 y5_3 (y5_4 + 1))))
noncomputable def f_X0_howOften (h : tkH) (a0 : Nat) (a1 : Int32) (a2 : Int32) : Option (Int32 × tkH) :=
  f_X0_howOften_L5 a0 a2 a1 FU h 0 0
noncomputable def f_X0_isTorn (h : tkH) (a0 : Nat) (a1 : Int32) : Option (Int32 × tkH) :=
  (rdI h (fld a0 1) a1).bind fun v5 => (f_X8_isUnder h v5 1).bind fun x7 => (bz x7.1).bind fun u => some (u, x7.2)
noncomputable def f_X0_laidLength (h : tkH) (a0 : Nat) (a1 : Int32) : Option (Int32 × tkH) :=
  (f_X0_isFramed h a0 a1).bind fun x2 => if x2.1 = 0 then ((rdI x2.2 (fld a0 5) a1).bind fun v24 => some (v24, x2.2)) else ((rdI x2.2 (fld a0 5) a1).bind fun v13 => some (v13 - 2, x2.2))
noncomputable def f_X0_takeFrom (h : tkH) (a0 : Nat) (a1 : Nat) : Option (tkH) :=
  (cpI (tkup h a0 0 (h a1 0)) (fld a1 1) 0 (fld a0 1) 0 10).bind fun h20 => (cpI h20 (fld a1 2) 0 (fld a0 2) 0 10).bind fun h35 => (cpI h35 (fld a1 3) 0 (fld a0 3) 0 10).bind fun h50 => (cpI h50 (fld a1 4) 0 (fld a0 4) 0 10).bind fun h65 => (cpI h65 (fld a1 5) 0 (fld a0 5) 0 10).bind fun h80 => (cpI h80 (fld a1 6) 0 (fld a0 6) 0 100).bind fun h95 => (cpI h95 (fld a1 7) 0 (fld a0 7) 0 3).bind fun h109 => (cpI h109 (fld a1 8) 0 (fld a0 8) 0 36).bind fun h124 => some h124
noncomputable def f_X1_isSame (h : tkH) (a0 : Nat) (a1 : Int32) (a2 : Int32) : Option (Int32 × tkH) :=
  (f_X8_motifOf h a1).bind fun x1 => (f_X8_motifOf x1.2 a2).bind fun x5 => if x1.1 = x5.1 then ((f_X8_whoOf x5.2 a1).bind fun x13 => (f_X8_whoOf x13.2 a2).bind fun x17 => (f_X1_leads x17.2 a0 x13.1 x17.1).bind fun x20 => if x20.1 = 0 then (some (0, x20.2)) else ((f_X8_whomOf x20.2 a1).bind fun x28 => (f_X8_whomOf x28.2 a2).bind fun x32 => (f_X1_leads x32.2 a0 x28.1 x32.1).bind fun x35 => if x35.1 = 0 then (some (0, x35.2)) else (some (1, x35.2)))) else (some (0, x5.2))
noncomputable def f_X2_forgetAll (h : tkH) (a0 : Nat) : Option (tkH) :=
  (f_J7_fill_53178 h (fld a0 1) (-1)).bind fun x5 => some x5
noncomputable def f_X4_carrySteps_L2 (a0 : Nat) (a1 : Int32) : Nat → tkH → Int32 → Option (tkH) :=
  lq1 (fun kk2 g2 y2_2 => if (g2 (fld a0 0) 1) ≤ y2_2 then (some g2) else ((rdI g2 (fld (fld a0 0) 0) y2_2).bind fun v21 => (f_X8_motifOf g2 v21).bind fun x29 => (f_X8_whoOf x29.2 v21).bind fun x34 => (f_X8_goal x34.2 a1 x34.1).bind fun x37 => (f_X8_whomOf x37.2 v21).bind fun x42 => (f_X8_goal x42.2 a1 x42.1).bind fun x45 => (f_X8_packed x45.2 x29.1 x37.1 x45.1).bind fun x48 => (wrI x48.2 (fld a0 2) y2_2 x48.1).bind fun h51 => kk2 h51 (y2_2 + 1)))
noncomputable def f_X4_carrySteps (h : tkH) (a0 : Nat) (a1 : Int32) : Option (tkH) :=
  f_X4_carrySteps_L2 a0 a1 FU h 0
noncomputable def f_X4_fillRests_J131 (a0 : Nat) (y8_2 : Int32) (y24_4 : Int32) (kk24 : tkH → Int32 → Int32 → Option (Int32 × tkH)) (y24_3 : Int32) : tkH → Int32 → Option (Int32 × tkH) :=
  fun g131 y131_6 => (wrI g131 (fld a0 3) ((y8_2 * 11) + y24_4) y131_6).bind fun h139 => kk24 h139 (mnI y24_3 y131_6) (y24_4 + (-1))
noncomputable def f_X4_fillRests_L24 (a0 : Nat) (y8_2 : Int32) (kx153 : tkH → Int32 → Option (Int32 × tkH)) : Nat → tkH → Int32 → Int32 → Option (Int32 × tkH) :=
  lq2 (fun kk24 g24 y24_3 y24_4 => if y24_4 < 0 then (kx153 g24 y24_3) else ((f_X4_endPrice g24 a0 y8_2 y24_4).bind fun x42 => if ((x42.2) (fld a0 0) 1) ≤ y8_2 then (f_X4_fillRests_J131 a0 y8_2 y24_4 kk24 y24_3 x42.2 x42.1) else (if ((x42.2) (fld a0 1) 1) ≤ y24_4 then (f_X4_fillRests_J131 a0 y8_2 y24_4 kk24 y24_3 x42.2 x42.1) else ((f_X4_pairPrice x42.2 a0 y8_2 y24_4).bind fun x76 => (rdI x76.2 (fld a0 3) ((((y8_2 * 11) + y24_4) + 11) + 1)).bind fun v90 => (rdI x76.2 (fld a0 3) (((y8_2 * 11) + y24_4) + 11)).bind fun v112 => (rdI x76.2 (fld a0 3) (((y8_2 * 11) + y24_4) + 1)).bind fun v121 => f_X4_fillRests_J131 a0 y8_2 y24_4 kk24 y24_3 x76.2 (mnI (mnI x42.1 (x76.1 + v90)) (((x76.2) a0 7) + (mnI v112 v121)))))))
noncomputable def f_X4_fillRests_L8 (a0 : Nat) (a1 : Int32) (kx166 : tkH → Option (Int32 × tkH)) : Nat → tkH → Int32 → Option (Int32 × tkH) :=
  lq1 (fun kk8 g8 y8_2 => if y8_2 < 0 then (kx166 g8) else (f_X4_fillRests_L24 a0 y8_2 (fun gz153 z153_3 => if z153_3 < a1 then (kk8 gz153 (y8_2 + (-1))) else (some (a1, gz153))) FU g8 1000000 (g8 (fld a0 1) 1)))
noncomputable def f_X4_fillRests (h : tkH) (a0 : Nat) (a1 : Int32) : Option (Int32 × tkH) :=
  f_X4_fillRests_L8 a0 a1 (fun gz166 => (rdI gz166 (fld a0 3) 0).bind fun v171 => some (v171, gz166)) FU h (h (fld a0 0) 1)
noncomputable def f_X4_howManyPairs_L4 (a0 : Nat) (a1 : Int32) : Nat → tkH → Int32 → Int32 → Option (Int32 × tkH) :=
  lq2 (fun kk4 g4 y4_2 y4_3 => if (g4 (fld a0 0) 1) ≤ y4_3 then (some (y4_2, g4)) else ((rdI g4 (fld a0 4) y4_3).bind fun v20 => if v20 < 0 then (kk4 g4 y4_2 (y4_3 + 1)) else (if a1 = 0 then (kk4 g4 (y4_2 + 1) (y4_3 + 1)) else ((rdI g4 (fld (fld a0 0) 0) y4_3).bind fun v40 => (f_X8_motifOf g4 v40).bind fun x41 => (rdI x41.2 (fld (fld a0 1) 0) v20).bind fun v53 => (f_X8_motifOf x41.2 v53).bind fun x54 => if x41.1 = x54.1 then (kk4 x54.2 (y4_2 + 1) (y4_3 + 1)) else (kk4 x54.2 y4_2 (y4_3 + 1))))))
noncomputable def f_X4_howManyPairs (h : tkH) (a0 : Nat) (a1 : Int32) : Option (Int32 × tkH) :=
  f_X4_howManyPairs_L4 a0 a1 FU h 0 0
noncomputable def f_X5_takePart (h : tkH) (a0 : Nat) (a1 : Nat) (a2 : Int32) (a3 : Int32) (a4 : Int32) : Option (tkH) :=
  (cpI h (fld a1 6) ((a2 * 10) + a3) (fld a0 0) 0 a4).bind fun h17 => some (tkup (tkup h17 a0 1 a4) a0 2 0)
noncomputable def f_X6_makeAnew_J15 (a0 : Nat) : tkH → Int32 → Option (tkH) :=
  fun g15 t15_0 => (f_J7_fill_53178 (tkup g15 a0 1 t15_0) (fld a0 2) 0).bind fun x23 => some x23
noncomputable def f_X6_makeAnew (h : tkH) (a0 : Nat) (a1 : Int32) (a2 : Int32) : Option (tkH) :=
  if a1 = 0 then (f_X6_makeAnew_J15 a0 (tkup h a0 0 a1) 0) else (f_X6_makeAnew_J15 a0 (tkup h a0 0 a1) a2)
noncomputable def f_X6_stepAt (h : tkH) (a0 : Nat) (a1 : Int32) : Option (Int32 × tkH) :=
  (rdI h (fld a0 2) (3 * a1)).bind fun v7 => (rdI h (fld a0 2) ((3 * a1) + 1)).bind fun v17 => (rdI h (fld a0 2) ((3 * a1) + 2)).bind fun v27 => (f_X8_packed h v7 v17 v27).bind fun x28 => some (x28.1, x28.2)
noncomputable def f_X7_addBranch_J48 (kk18 : tkH → Int32 → Int32 → Option (tkH)) (y18_3 : Int32) (y18_5 : Int32) (a0 : Nat) (y5_4 : Int32) (a1 : Nat) : tkH → Int32 → Option (tkH) :=
  fun g48 t48_0 => if t48_0 = 0 then (kk18 g48 y18_3 (y18_5 + 1)) else ((rdI g48 (fld a0 0) y5_4).bind fun v71 => (rdI g48 (fld a0 0) y18_5).bind fun v78 => if v71 = v78 then (kk18 g48 y18_3 (y18_5 + 1)) else (if y18_3 < 0 then (kk18 g48 ((y5_4 * 10) + y18_5) (y18_5 + 1)) else ((rdI g48 a1 ((y5_4 * 10) + y18_5)).bind fun v89 => (rdI g48 a1 y18_3).bind fun v92 => if v92 ≤ v89 then (kk18 g48 y18_3 (y18_5 + 1)) else (kk18 g48 ((y5_4 * 10) + y18_5) (y18_5 + 1)))))
noncomputable def f_X7_addBranch_J47 (kk18 : tkH → Int32 → Int32 → Option (tkH)) (y18_3 : Int32) (y18_5 : Int32) (a0 : Nat) (y5_4 : Int32) (a1 : Nat) : tkH → Option (tkH) :=
  fun g47 => f_X7_addBranch_J48 kk18 y18_3 y18_5 a0 y5_4 a1 g47 0
noncomputable def f_X7_addBranch_L18 (a2 : Int32) (y5_4 : Int32) (a0 : Nat) (a1 : Nat) (kx105 : tkH → Int32 → Option (tkH)) : Nat → tkH → Int32 → Int32 → Option (tkH) :=
  lq2 (fun kk18 g18 y18_3 y18_5 => if 10 ≤ y18_5 then (kx105 g18 y18_3) else ((f_X8_isInHeap g18 a2 y5_4).bind fun x28 => if x28.1 = 0 then (f_X7_addBranch_J47 kk18 y18_3 y18_5 a0 y5_4 a1 x28.2) else ((f_X8_isInHeap x28.2 a2 y18_5).bind fun x37 => if x37.1 = 0 then (f_X7_addBranch_J47 kk18 y18_3 y18_5 a0 y5_4 a1 x37.2) else (f_X7_addBranch_J48 kk18 y18_3 y18_5 a0 y5_4 a1 x37.2 1))))
noncomputable def f_X7_addBranch_L5 (a2 : Int32) (a0 : Nat) (a1 : Nat) (kx111 : tkH → Int32 → Option (tkH)) : Nat → tkH → Int32 → Int32 → Option (tkH) :=
  lq2 (fun kk5 g5 y5_3 y5_4 => if 10 ≤ y5_4 then (kx111 g5 y5_3) else (f_X7_addBranch_L18 a2 y5_4 a0 a1 (fun gz105 z105_3 => kk5 gz105 z105_3 (y5_4 + 1)) FU g5 y5_3 (y5_4 + 1)))
noncomputable def f_X7_addBranch (h : tkH) (a0 : Nat) (a1 : Nat) (a2 : Int32) : Option (tkH) :=
  f_X7_addBranch_L5 a2 a0 a1 (fun gz111 z111_3 => if z111_3 < 0 then (some gz111) else ((wrI gz111 (fld a0 1) (gz111 a0 2) (((z111_3 / 10) * 16) + (z111_3 - z111_3 / 10 * 10))).bind fun h143 => (rdI (tkup h143 a0 2 ((h143 a0 2) + 1)) a1 z111_3).bind fun v161 => (rdI (tkup (tkup h143 a0 2 ((h143 a0 2) + 1)) a0 3 (((tkup h143 a0 2 ((h143 a0 2) + 1)) a0 3) + v161)) (fld a0 0) (z111_3 / 10)).bind fun v173 => (rdI (tkup (tkup h143 a0 2 ((h143 a0 2) + 1)) a0 3 (((tkup h143 a0 2 ((h143 a0 2) + 1)) a0 3) + v161)) (fld a0 0) (z111_3 - z111_3 / 10 * 10)).bind fun v180 => (f_X7_joinParts (tkup (tkup h143 a0 2 ((h143 a0 2) + 1)) a0 3 (((tkup h143 a0 2 ((h143 a0 2) + 1)) a0 3) + v161)) a0 v173 v180).bind fun x181 => some x181)) FU h (-1) 0
noncomputable def f_X8_all (h : tkH) (a0 : Nat) (a1 : Int32) : Option (Int32 × tkH) :=
  if a1 = 0 then (some (h (fld a0 0) 0, h)) else if a1 = 1 then ((f_X0_howManySteps h (fld a0 0)).bind fun x40 => some (x40.1, x40.2)) else if a1 = 2 then (some (h a0 6, h)) else ((f_X8_finding h a0 (-100001)).bind fun x52 => some (x52.1, x52.2))
noncomputable def f_X8_copy_J16 (a0 : Nat) : tkH → Option (Int32 × tkH) :=
  fun g16 => (f_X8_finding g16 a0 (-100001)).bind fun x19 => some (x19.1, x19.2)
noncomputable def f_X8_copy_J47 (a0 : Nat) : tkH → Option (Int32 × tkH) :=
  fun g47 => (f_X8_finding g47 a0 (-100002)).bind fun x50 => some (x50.1, x50.2)
noncomputable def f_X8_copy_J113 (a0 : Nat) : tkH → Option (Int32 × tkH) :=
  fun g113 => (f_X8_finding g113 a0 (-100001)).bind fun x116 => some (x116.1, x116.2)
noncomputable def f_X8_copy (h : tkH) (a0 : Nat) (a1 : Int32) (a2 : Int32) (a3 : Int32) (a4 : Int32) (a5 : Int32) : Option (Int32 × tkH) :=
  (f_X8_isWithin h a1 4).bind fun x2 => if x2.1 = 0 then (f_X8_copy_J16 a0 x2.2) else ((f_X8_isWithin x2.2 a3 4).bind fun x10 => if x10.1 = 0 then (f_X8_copy_J16 a0 x10.2) else ((rdA 9 (fld a0 5) a1).bind fun b28 => (f_X6_isMissing x10.2 b28).bind fun x29 => if x29.1 = 0 then ((rdA 9 (fld a0 5) a3).bind fun b40 => (f_X6_isMissing x29.2 b40).bind fun x41 => if x41.1 = 0 then ((rdA 9 (fld a0 5) a1).bind fun b59 => (rdA 9 (fld a0 5) a3).bind fun b68 => if ((x41.2) b59 0) = ((x41.2) b68 0) then ((rdA 9 (fld a0 5) a1).bind fun b87 => (f_X6_holds x41.2 b87 a2 a5).bind fun x91 => if x91.1 = 0 then (f_X8_copy_J113 a0 x91.2) else ((rdA 9 (fld a0 5) a3).bind fun b102 => (f_X6_holds x91.2 b102 a4 a5).bind fun x107 => if x107.1 = 0 then (f_X8_copy_J113 a0 x107.2) else ((rdA 9 (fld a0 5) a1).bind fun b125 => (rdA 9 (fld a0 5) a3).bind fun b135 => (cpI x107.2 (fld b125 2) a2 (fld b135 2) a4 a5).bind fun h143 => some (a5, h143)))) else ((f_X8_finding x41.2 a0 (-100004)).bind fun x78 => some (x78.1, x78.2))) else (f_X8_copy_J47 a0 x41.2)) else (f_X8_copy_J47 a0 x29.2)))
noncomputable def f_X8_isStep (h : tkH) (a0 : Int32) (a1 : Int32) (a2 : Int32) : Option (Int32 × tkH) :=
  (f_X8_isWithin h a0 16).bind fun x3 => if x3.1 = 0 then (some (0, x3.2)) else ((f_X8_isWithin x3.2 a1 4).bind fun x11 => if x11.1 = 0 then (some (0, x11.2)) else ((f_X8_isWithin x11.2 a2 4).bind fun x19 => if x19.1 = 0 then (some (0, x19.2)) else (some (1, x19.2))))
noncomputable def f_X8_put (h : tkH) (a0 : Nat) (a1 : Int32) (a2 : Int32) (a3 : Int32) : Option (Int32 × tkH) :=
  (f_X8_isWithin h a1 4).bind fun x2 => if x2.1 = 0 then ((f_X8_finding x2.2 a0 (-100001)).bind fun x11 => some (x11.1, x11.2)) else ((rdA 9 (fld a0 5) a1).bind fun b20 => (f_X6_isMissing x2.2 b20).bind fun x21 => if x21.1 = 0 then ((rdA 9 (fld a0 5) a1).bind fun b40 => (f_X8_isWithin x21.2 a2 ((x21.2) b40 1)).bind fun x44 => if x44.1 = 0 then ((f_X8_finding x44.2 a0 (-100001)).bind fun x53 => some (x53.1, x53.2)) else ((rdA 9 (fld a0 5) a1).bind fun b62 => (f_X6_write x44.2 b62 a2 a3).bind fun x65 => some (0, x65))) else ((f_X8_finding x21.2 a0 (-100002)).bind fun x30 => some (x30.1, x30.2)))
noncomputable def f_X8_sumOfCosts_L5 (a0 : Nat) (a2 : Int32) (a1 : Int32) : Nat → tkH → Int32 → Int32 → Option (Int32 × tkH) :=
  lq2 (fun kk5 g5 y5_3 y5_4 => if (g5 (fld a0 0) 0) ≤ y5_4 then (some (y5_3, g5)) else ((f_X8_isInHeap g5 a2 y5_4).bind fun x20 => if x20.1 = 0 then (kk5 x20.2 y5_3 (y5_4 + 1)) else ((rdI x20.2 (fld (fld a0 2) 1) ((a1 * 10) + y5_4)).bind fun v41 => kk5 x20.2 (y5_3 + v41) (y5_4 + 1))))
noncomputable def f_X8_sumOfCosts (h : tkH) (a0 : Nat) (a1 : Int32) (a2 : Int32) : Option (Int32 × tkH) :=
  f_X8_sumOfCosts_L5 a0 a2 a1 FU h 0 0
noncomputable def f_X9_all_L20 (a0 : Nat) (kx48 : tkH → Int32 → Option (Int32 × tkH)) : Nat → tkH → Int32 → Int32 → Option (Int32 × tkH) :=
  lq2 (fun kk20 g20 y20_2 y20_3 => (rdI g20 (fld a0 0) 0).bind fun v26 => if v26 ≤ y20_3 then (kx48 g20 y20_2) else ((rdI g20 (fld a0 0) (70 + y20_3)).bind fun v39 => kk20 g20 (y20_2 + v39) (y20_3 + 1)))
noncomputable def f_X9_all (h : tkH) (a0 : Nat) (a1 : Int32) : Option (Int32 × tkH) :=
  (f_X9_within h a1 0 2).bind fun x3 => if x3.1 = 0 then ((f_X9_finding x3.2 a0 (-100001)).bind fun x12 => some (x12.1, x12.2)) else (f_X9_all_L20 a0 (fun gz48 z48_2 => if a1 = 0 then ((rdI gz48 (fld a0 0) 0).bind fun v57 => some (v57, gz48)) else (if a1 = 1 then (some (z48_2, gz48)) else (some (gz48 a0 3, gz48)))) FU x3.2 0 0)
noncomputable def f_X9_counts_L42 (a0 : Nat) (y6_5 : Int32) (a1 : Int32) (kx86 : tkH → Int32 → Option (Int32 × tkH)) : Nat → tkH → Int32 → Int32 → Option (Int32 × tkH) :=
  lq2 (fun kk42 g42 y42_4 y42_6 => (rdI g42 (fld a0 0) (70 + y6_5)).bind fun v53 => if v53 ≤ y42_6 then (kx86 g42 y42_4) else ((f_X9_stepOf g42 a0 y6_5 y42_6 0).bind fun x65 => if x65.1 = a1 then (kk42 x65.2 (y42_4 + 1) (y42_6 + 1)) else (kk42 x65.2 (y42_4 + 0) (y42_6 + 1))))
noncomputable def f_X9_counts_J39 (a0 : Nat) (y6_5 : Int32) (a1 : Int32) (a3 : Int32) (kk6 : tkH → Int32 → Int32 → Option (Int32 × tkH)) (y6_4 : Int32) : tkH → Option (Int32 × tkH) :=
  fun g39 => f_X9_counts_L42 a0 y6_5 a1 (fun gz86 z86_4 => if a3 = 0 then (kk6 gz86 (z86_4 + 0) (y6_5 + 1)) else ((f_X9_isTorn gz86 a0 y6_5).bind fun x95 => if x95.1 = 0 then (kk6 x95.2 (z86_4 + 0) (y6_5 + 1)) else ((rdI x95.2 (fld a0 0) (70 + y6_5)).bind fun v110 => if 10 ≤ v110 then (kk6 x95.2 (z86_4 + 0) (y6_5 + 1)) else (kk6 x95.2 (z86_4 + 1) (y6_5 + 1))))) FU g39 y6_4 0
noncomputable def f_X9_counts_L6 (a0 : Nat) (a2 : Int32) (a1 : Int32) (a3 : Int32) : Nat → tkH → Int32 → Int32 → Option (Int32 × tkH) :=
  lq2 (fun kk6 g6 y6_4 y6_5 => (rdI g6 (fld a0 0) 0).bind fun v13 => if v13 ≤ y6_5 then (some (y6_4, g6)) else (if a2 = (-1) then (f_X9_counts_J39 a0 y6_5 a1 a3 kk6 y6_4 g6) else ((rdI g6 (fld a0 0) (50 + y6_5)).bind fun v31 => if v31 = a2 then (f_X9_counts_J39 a0 y6_5 a1 a3 kk6 y6_4 g6) else (kk6 g6 y6_4 (y6_5 + 1)))))
noncomputable def f_X9_counts (h : tkH) (a0 : Nat) (a1 : Int32) (a2 : Int32) (a3 : Int32) : Option (Int32 × tkH) :=
  f_X9_counts_L6 a0 a2 a1 a3 FU h 0 0
noncomputable def f_X9_isMotif (h : tkH) (a0 : Int32) : Option (Int32 × tkH) :=
  (f_X9_within h a0 0 15).bind fun x4 => (bz x4.1).bind fun u => some (u, x4.2)
noncomputable def f_X9_isPlace (h : tkH) (a0 : Int32) : Option (Int32 × tkH) :=
  (f_X9_within h a0 0 5).bind fun x3 => (bz x3.1).bind fun u => some (u, x3.2)
noncomputable def f_X9_isRole (h : tkH) (a0 : Int32) : Option (Int32 × tkH) :=
  (f_X9_within h a0 0 3).bind fun x3 => (bz x3.1).bind fun u => some (u, x3.2)
noncomputable def f_X9_isSame (h : tkH) (a0 : Nat) (a1 : Int32) (a2 : Int32) (a3 : Int32) (a4 : Int32) : Option (Int32 × tkH) :=
  (f_X9_stepOf h a0 a1 a2 0).bind fun x4 => (f_X9_stepOf x4.2 a0 a3 a4 0).bind fun x12 => if x4.1 = x12.1 then ((f_X9_stepOf x12.2 a0 a1 a2 1).bind fun x26 => (rdI x26.2 (fld a0 7) x26.1).bind fun v29 => (f_X9_stepOf x26.2 a0 a3 a4 1).bind fun x35 => if v29 = x35.1 then ((f_X9_stepOf x35.2 a0 a1 a2 2).bind fun x49 => (rdI x49.2 (fld a0 7) x49.1).bind fun v52 => (f_X9_stepOf x49.2 a0 a3 a4 2).bind fun x58 => if v52 = x58.1 then (some (1, x58.2)) else (some (0, x58.2))) else (some (0, x35.2))) else (some (0, x12.2))
noncomputable def f_X9_isSheet (h : tkH) (a0 : Int32) : Option (Int32 × tkH) :=
  (f_X9_within h a0 0 3).bind fun x3 => (bz x3.1).bind fun u => some (u, x3.2)
noncomputable def f_X9_isTale (h : tkH) (a0 : Nat) (a1 : Int32) : Option (Int32 × tkH) :=
  (rdI h (fld a0 0) 0).bind fun v7 => (f_X9_within h a1 0 (v7 - 1)).bind fun x10 => (bz x10.1).bind fun u => some (u, x10.2)
noncomputable def f_X9_laidFrom (h : tkH) (a0 : Nat) (a1 : Int32) : Option (Int32 × tkH) :=
  (f_X9_isCut h a0 a1).bind fun x2 => if x2.1 = 0 then (some (0, x2.2)) else (some (1, x2.2))
noncomputable def f_X9_leastFrom (h : tkH) (a0 : Nat) (a1 : Int32) (a2 : Int32) : Option (Int32 × tkH) :=
  (f_X9_pairsLeft h a0 a1 a2).bind fun x3 => (f_X9_endCost x3.2 a0 a1 a2).bind fun x9 => some (mnI x3.1 x9.1, x9.2)
noncomputable def f_X9_noHeap (h : tkH) (a0 : Nat) (a1 : Int32) : Option (Int32 × tkH) :=
  (rdI h (fld a0 0) 0).bind fun v8 => (f_X9_within h a1 0 ((1 <<< (v8 &&& 31)) - 1)).bind fun x12 => if x12.1 = 0 then (some ((-100001), x12.2)) else (if a1 = 0 then (some ((-100006), x12.2)) else (some (0, x12.2)))
noncomputable def f_X9_pairCost_L37 (a0 : Nat) (a1 : Int32) (a2 : Int32) : Nat → tkH → Int32 → Int32 → Option (Int32 × tkH) :=
  lq2 (fun kk37 g37 y37_3 y37_4 => if 3 ≤ y37_4 then (some (y37_3, g37)) else ((f_X9_stepOf g37 a0 (g37 a0 8) a1 y37_4).bind fun x56 => (rdI x56.2 (fld a0 7) x56.1).bind fun v59 => (f_X9_stepOf x56.2 a0 ((x56.2) a0 12) a2 y37_4).bind fun x68 => if v59 = x68.1 then (kk37 x68.2 (y37_3 + 0) (y37_4 + 1)) else ((rdI x68.2 (fld a0 0) 2).bind fun v83 => kk37 x68.2 (y37_3 + v83) (y37_4 + 1))))
noncomputable def f_X9_pairCost_J33 (a0 : Nat) (a1 : Int32) (a2 : Int32) : tkH → Int32 → Option (Int32 × tkH) :=
  fun g33 t33_0 => f_X9_pairCost_L37 a0 a1 a2 FU g33 t33_0 1
noncomputable def f_X9_pairCost (h : tkH) (a0 : Nat) (a1 : Int32) (a2 : Int32) : Option (Int32 × tkH) :=
  (f_X9_stepOf h a0 (h a0 8) a1 0).bind fun x7 => (f_X9_stepOf x7.2 a0 ((x7.2) a0 12) a2 0).bind fun x17 => if x7.1 = x17.1 then (f_X9_pairCost_J33 a0 a1 a2 x17.2 0) else ((rdI x17.2 (fld a0 0) 1).bind fun v32 => f_X9_pairCost_J33 a0 a1 a2 x17.2 v32)
noncomputable def f_X9_price_J19 (a0 : Nat) : tkH → Option (Int32 × tkH) :=
  fun g19 => (f_X9_finding g19 a0 (-100001)).bind fun x22 => some (x22.1, x22.2)
noncomputable def f_X9_price (h : tkH) (a0 : Nat) (a1 : Int32) (a2 : Int32) : Option (Int32 × tkH) :=
  (f_X9_within h a1 0 2).bind fun x3 => if x3.1 = 0 then (f_X9_price_J19 a0 x3.2) else ((f_X9_within x3.2 a2 0 9).bind fun x13 => if x13.1 = 0 then (f_X9_price_J19 a0 x13.2) else ((f_X9_keep x13.2 a0).bind fun x27 => (rdI x27 (fld a0 0) (1 + a1)).bind fun v37 => (wrI x27 (fld a0 0) (1 + a1) a2).bind fun h47 => some (v37, h47)))
noncomputable def f_X9_undo_L26 (a0 : Nat) (kx60 : tkH → Option (Int32 × tkH)) : Nat → tkH → Int32 → Option (Int32 × tkH) :=
  lq1 (fun kk26 g26 y26_1 => if 390 ≤ y26_1 then (kx60 g26) else ((rdI g26 (fld a0 1) (((g26 a0 2) * 390) + y26_1)).bind fun v52 => (wrI g26 (fld a0 0) y26_1 v52).bind fun h53 => kk26 h53 (y26_1 + 1)))
noncomputable def f_X9_undo (h : tkH) (a0 : Nat) : Option (Int32 × tkH) :=
  if (h a0 2) = 0 then ((f_X9_finding h a0 (-100006)).bind fun x10 => some (x10.1, x10.2)) else (f_X9_undo_L26 a0 (fun gz60 => some (gz60 a0 2, gz60)) FU (tkup h a0 2 ((h a0 2) - 1)) 0)
noncomputable def f_X0_doubtsAt_L4 (a0 : Nat) (a1 : Int32) : Nat → tkH → Int32 → Int32 → Option (Int32 × tkH) :=
  lq2 (fun kk4 g4 y4_2 y4_3 => if (g4 a0 0) ≤ y4_3 then (some (y4_2, g4)) else ((f_X0_isAt g4 a0 y4_3 a1).bind fun x15 => if x15.1 = 0 then (kk4 x15.2 y4_2 (y4_3 + 1)) else ((f_X0_isTorn x15.2 a0 y4_3).bind fun x23 => if x23.1 = 0 then (kk4 x23.2 y4_2 (y4_3 + 1)) else ((rdI x23.2 (fld a0 5) y4_3).bind fun v34 => if 10 ≤ v34 then (kk4 x23.2 y4_2 (y4_3 + 1)) else (kk4 x23.2 (y4_2 + 1) (y4_3 + 1))))))
noncomputable def f_X0_doubtsAt (h : tkH) (a0 : Nat) (a1 : Int32) : Option (Int32 × tkH) :=
  f_X0_doubtsAt_L4 a0 a1 FU h 0 0
noncomputable def f_X0_hasStep (h : tkH) (a0 : Nat) (a1 : Int32) (a2 : Int32) : Option (Int32 × tkH) :=
  (f_X0_hasTale h a0 a1).bind fun x2 => if x2.1 = 0 then (some (0, x2.2)) else ((rdI x2.2 (fld a0 5) a1).bind fun v14 => (f_X8_isWithin x2.2 a2 v14).bind fun x15 => if x15.1 = 0 then (some (0, x15.2)) else (some (1, x15.2)))
noncomputable def f_X0_howOftenAt_L5 (a0 : Nat) (a2 : Int32) (a1 : Int32) : Nat → tkH → Int32 → Int32 → Option (Int32 × tkH) :=
  lq2 (fun kk5 g5 y5_3 y5_4 => if (g5 a0 0) ≤ y5_4 then (some (y5_3, g5)) else ((f_X0_isAt g5 a0 y5_4 a2).bind fun x18 => if x18.1 = 0 then (kk5 x18.2 y5_3 (y5_4 + 1)) else ((f_X0_howOften x18.2 a0 a1 y5_4).bind fun x29 => kk5 x29.2 (y5_3 + x29.1) (y5_4 + 1))))
noncomputable def f_X0_howOftenAt (h : tkH) (a0 : Nat) (a1 : Int32) (a2 : Int32) : Option (Int32 × tkH) :=
  f_X0_howOftenAt_L5 a0 a2 a1 FU h 0 0
noncomputable def f_X1_sameFrom_L19 (a4 : Int32) (a1 : Nat) (a2 : Int32) (a3 : Int32) (a0 : Nat) : Nat → tkH → Int32 → Option (Int32 × tkH) :=
  lq1 (fun kk19 g19 y19_5 => if a4 ≤ y19_5 then (some (y19_5, g19)) else ((rdI g19 a1 (a2 + y19_5)).bind fun v32 => (rdI g19 a1 (a3 + y19_5)).bind fun v38 => (f_X1_isSame g19 a0 v32 v38).bind fun x39 => if x39.1 = 0 then (some (y19_5, x39.2)) else (kk19 x39.2 (y19_5 + 1))))
noncomputable def f_X1_sameFrom (h : tkH) (a0 : Nat) (a1 : Nat) (a2 : Int32) (a3 : Int32) (a4 : Int32) : Option (Int32 × tkH) :=
  (f_J7_fill_53178 h (fld a0 0) (-1)).bind fun x5 => (f_J7_fill_53178 x5 (fld a0 1) (-1)).bind fun x13 => f_X1_sameFrom_L19 a4 a1 a2 a3 a0 FU x13 0
noncomputable def f_X3_giveBack_J19 (a0 : Nat) (a1 : Nat) : tkH → Int32 → Option (tkH) :=
  fun g19 t19_0 => (rdA 3 (fld a0 0) ((tkup g19 a0 1 t19_0) a0 1)).bind fun b31 => (f_X0_takeFrom (tkup g19 a0 1 t19_0) a1 b31).bind fun x32 => some (tkup x32 a0 2 ((x32 a0 2) - 1))
noncomputable def f_X3_giveBack (h : tkH) (a0 : Nat) (a1 : Nat) : Option (tkH) :=
  if (h a0 1) ≤ 0 then (f_X3_giveBack_J19 a0 a1 h 19) else (f_X3_giveBack_J19 a0 a1 h ((h a0 1) - 1))
noncomputable def f_X3_keep_J35 (a0 : Nat) : tkH → Int32 → Option (tkH) :=
  fun g35 t35_0 => some (tkup (tkup g35 a0 1 t35_0) a0 2 (mnI (((tkup g35 a0 1 t35_0) a0 2) + 1) 20))
noncomputable def f_X3_keep (h : tkH) (a0 : Nat) (a1 : Nat) : Option (tkH) :=
  (rdA 3 (fld a0 0) (h a0 1)).bind fun b8 => (f_X0_takeFrom h b8 a1).bind fun x10 => if 20 ≤ ((x10 a0 1) + 1) then (f_X3_keep_J35 a0 x10 0) else (f_X3_keep_J35 a0 x10 ((x10 a0 1) + 1))
noncomputable def f_X4_findLeast_L29 (a0 : Nat) : Nat → tkH → Int32 → Option (tkH) :=
  lq1 (fun kk29 g29 y29_2 => if 24 ≤ y29_2 then (some g29) else (if (g29 a0 8) ≤ 0 then (some g29) else ((rdC y29_2).bind fun v49 => (f_X4_carrySteps g29 a0 v49).bind fun x50 => (f_X4_fillRests x50 a0 (x50 a0 8)).bind fun x58 => if ((x58.2) a0 8) ≤ x58.1 then (kk29 x58.2 (y29_2 + 1)) else ((rdC y29_2).bind fun v80 => kk29 (tkup (tkup x58.2 a0 8 x58.1) a0 9 v80) (y29_2 + 1)))))
noncomputable def f_X4_findLeast (h : tkH) (a0 : Nat) (a1 : Nat) : Option (tkH) :=
  (rdI h a1 0).bind fun v3 => (rdI (tkup h a0 5 v3) a1 1).bind fun v10 => (rdI (tkup (tkup h a0 5 v3) a0 6 v10) a1 2).bind fun v17 => f_X4_findLeast_L29 a0 FU (tkup (tkup (tkup (tkup h a0 5 v3) a0 6 v10) a0 7 v17) a0 8 1000000) 0
noncomputable def f_X4_findPairs_L55 (a0 : Nat) : Nat → tkH → Int32 → Int32 → Int32 → Int32 → Int32 → Int32 → Option (tkH) :=
  lq6 (fun kk55 g55 y55_1 y55_2 y55_3 y55_4 y55_5 y55_6 => if 20 ≤ y55_6 then (some g55) else (if (g55 (fld a0 0) 1) ≤ y55_1 then (some g55) else (if (g55 (fld a0 1) 1) ≤ y55_2 then (some g55) else ((f_X4_pairPrice g55 a0 y55_1 y55_2).bind fun x110 => (rdI x110.2 (fld a0 3) ((((y55_1 + 1) * 11) + y55_2) + 1)).bind fun v122 => if (((y55_3 + (y55_4 * (g55 a0 7))) + x110.1) + v122) = ((x110.2) a0 8) then ((f_X4_pairPrice x110.2 a0 y55_1 y55_2).bind fun x136 => (wrI x136.2 (fld a0 4) y55_1 y55_2).bind fun h147 => (f_X4_endPrice h147 a0 (y55_1 + 1) (y55_2 + 1)).bind fun x161 => if (((y55_3 + (y55_4 * (g55 a0 7))) + x136.1) + x161.1) = ((x161.2) a0 8) then (kk55 x161.2 (y55_1 + 1) (y55_2 + 1) ((y55_3 + (y55_4 * (g55 a0 7))) + x136.1) 0 1 (y55_6 + 1)) else (kk55 x161.2 (y55_1 + 1) (y55_2 + 1) ((y55_3 + (y55_4 * (g55 a0 7))) + x136.1) 0 0 (y55_6 + 1))) else (if y55_5 = 0 then ((rdI x110.2 (fld a0 3) (((y55_1 + 1) * 11) + y55_2)).bind fun v200 => if (((y55_3 + (y55_4 * (g55 a0 7))) + ((x110.2) a0 7)) + v200) = ((x110.2) a0 8) then (kk55 x110.2 (y55_1 + 1) y55_2 y55_3 (y55_4 + 1) y55_5 (y55_6 + 1)) else (kk55 x110.2 y55_1 (y55_2 + 1) y55_3 (y55_4 + 1) y55_5 (y55_6 + 1))) else (kk55 x110.2 (y55_1 + 1) y55_2 y55_3 (y55_4 + 1) y55_5 (y55_6 + 1)))))))
noncomputable def f_X4_findPairs_J50 (a0 : Nat) : tkH → Int32 → Option (tkH) :=
  fun g50 t50_0 => f_X4_findPairs_L55 a0 FU g50 0 0 0 0 t50_0 0
noncomputable def f_X4_findPairs (h : tkH) (a0 : Nat) : Option (tkH) :=
  (f_X4_carrySteps h a0 (h a0 9)).bind fun x5 => (f_X4_fillRests x5 a0 1000000).bind fun x11 => (f_J7_fill_53178 x11.2 (fld a0 4) (-1)).bind fun x20 => (f_X4_endPrice x20 a0 0 0).bind fun x35 => if x35.1 = ((x35.2) a0 8) then (f_X4_findPairs_J50 a0 x35.2 1) else (f_X4_findPairs_J50 a0 x35.2 0)
noncomputable def f_X5_takeLaid (h : tkH) (a0 : Nat) (a1 : Nat) (a2 : Int32) : Option (tkH) :=
  (f_X0_firstLaid h a1 a2).bind fun x5 => (f_X0_laidLength x5.2 a1 a2).bind fun x10 => (f_X5_takePart x10.2 a0 a1 a2 x5.1 x10.1).bind fun x13 => (f_X0_isTorn x13 a1 a2).bind fun x19 => (bz x19.1).bind fun u22 => some (tkup x19.2 a0 2 u22)
noncomputable def f_X6_tellsSteps_L2 (a0 : Nat) : Nat → tkH → Int32 → Option (Int32 × tkH) :=
  lq1 (fun kk2 g2 y2_1 => (f_X6_howManySteps g2 a0).bind fun x4 => if x4.1 ≤ y2_1 then (some (1, x4.2)) else ((rdI x4.2 (fld a0 2) (3 * y2_1)).bind fun v17 => (rdI x4.2 (fld a0 2) ((3 * y2_1) + 1)).bind fun v27 => (rdI x4.2 (fld a0 2) ((3 * y2_1) + 2)).bind fun v37 => (f_X8_isStep x4.2 v17 v27 v37).bind fun x38 => if x38.1 = 0 then (some (0, x38.2)) else (kk2 x38.2 (y2_1 + 1))))
noncomputable def f_X6_tellsSteps (h : tkH) (a0 : Nat) : Option (Int32 × tkH) :=
  f_X6_tellsSteps_L2 a0 FU h 0
noncomputable def f_X7_grow_L41 (x32 : Int32 × tkH) (a0 : Nat) (a1 : Nat) (a2 : Int32) : Nat → tkH → Int32 → Option (tkH) :=
  lq1 (fun kk41 g41 y41_4 => if (x32.1 - 1) ≤ y41_4 then (some g41) else (if 10 ≤ y41_4 then (some g41) else ((f_X7_addBranch g41 a0 a1 a2).bind fun x57 => kk41 x57 (y41_4 + 1))))
noncomputable def f_X7_grow_L2 (a0 : Nat) (kx21 : tkH → Option (tkH)) : Nat → tkH → Int32 → Option (tkH) :=
  lq1 (fun kk2 g2 y2_3 => if 10 ≤ y2_3 then (kx21 g2) else ((wrI g2 (fld a0 0) y2_3 y2_3).bind fun h14 => kk2 h14 (y2_3 + 1)))
noncomputable def f_X7_grow (h : tkH) (a0 : Nat) (a1 : Nat) (a2 : Int32) : Option (tkH) :=
  f_X7_grow_L2 a0 (fun gz21 => (f_J6_bitCount_0f7a4 (tkup (tkup gz21 a0 2 0) a0 3 0) a2).bind fun x32 => f_X7_grow_L41 x32 a0 a1 a2 FU x32.2 0) FU h 0
noncomputable def f_X8_as_J19 (a0 : Nat) : tkH → Option (Int32 × tkH) :=
  fun g19 => (f_X8_finding g19 a0 (-100001)).bind fun x22 => some (x22.1, x22.2)
noncomputable def f_X8_as (h : tkH) (a0 : Nat) (a1 : Int32) (a2 : Int32) : Option (Int32 × tkH) :=
  (f_X0_hasTale h (fld a0 0) a1).bind fun x5 => if x5.1 = 0 then (f_X8_as_J19 a0 x5.2) else ((f_X8_isWithin x5.2 a2 4).bind fun x13 => if x13.1 = 0 then (f_X8_as_J19 a0 x13.2) else ((rdI x13.2 (fld (fld a0 0) 1) a1).bind fun v34 => (f_X8_isUnder x13.2 v34 a2).bind fun x36 => if x36.1 = 0 then ((f_X8_finding x36.2 a0 (-100004)).bind fun x49 => some (x49.1, x49.2)) else (some (a1, x36.2))))
noncomputable def f_X8_mouldOf_J47 (kk7 : tkH → Int32 → Int32 → Int32 → Option (Int32 × tkH)) (y7_4 : Int32) (x32 : Int32 × tkH) : tkH → Option (Int32 × tkH) :=
  fun g47 => kk7 g47 y7_4 x32.1 (y7_4 + 1)
noncomputable def f_X8_mouldOf_L7 (a0 : Nat) (a1 : Int32) : Nat → tkH → Int32 → Int32 → Int32 → Option (Int32 × tkH) :=
  lq3 (fun kk7 g7 y7_2 y7_3 y7_4 => if (g7 (fld a0 0) 0) ≤ y7_4 then (some (y7_2, g7)) else ((f_X8_isInHeap g7 a1 y7_4).bind fun x22 => if x22.1 = 0 then (kk7 x22.2 y7_2 y7_3 (y7_4 + 1)) else ((f_X8_sumOfCosts x22.2 a0 y7_4 a1).bind fun x32 => if y7_2 < 0 then (f_X8_mouldOf_J47 kk7 y7_4 x32 x32.2) else (if y7_3 ≤ x32.1 then (kk7 x32.2 y7_2 y7_3 (y7_4 + 1)) else (f_X8_mouldOf_J47 kk7 y7_4 x32 x32.2)))))
noncomputable def f_X8_mouldOf (h : tkH) (a0 : Nat) (a1 : Int32) : Option (Int32 × tkH) :=
  f_X8_mouldOf_L7 a0 a1 FU h (-1) 0 0
noncomputable def f_X8_sheet_J30 (a0 : Nat) : tkH → Option (Int32 × tkH) :=
  fun g30 => (f_X8_finding g30 a0 (-100001)).bind fun x33 => some (x33.1, x33.2)
noncomputable def f_X8_sheet_J37 (a3 : Int32) (a0 : Nat) (a1 : Int32) (a2 : Int32) : tkH → Option (Int32 × tkH) :=
  fun g37 => if 0 ≤ a3 then (if a3 ≤ 30 then ((rdA 9 (fld a0 5) a1).bind fun b66 => (f_X6_makeAnew g37 b66 a2 a3).bind fun x69 => (rdA 9 (fld a0 5) a1).bind fun b77 => some (x69 b77 1, x69)) else ((f_X8_finding g37 a0 (-100001)).bind fun x57 => some (x57.1, x57.2))) else ((f_X8_finding g37 a0 (-100003)).bind fun x44 => some (x44.1, x44.2))
noncomputable def f_X8_sheet (h : tkH) (a0 : Nat) (a1 : Int32) (a2 : Int32) (a3 : Int32) : Option (Int32 × tkH) :=
  (f_X8_isWithin h a1 4).bind fun x2 => if x2.1 = 0 then (f_X8_sheet_J30 a0 x2.2) else (if a2 = 0 then (f_X8_sheet_J37 a3 a0 a1 a2 x2.2) else (if a2 = 8 then (f_X8_sheet_J37 a3 a0 a1 a2 x2.2) else (if a2 = 16 then (f_X8_sheet_J37 a3 a0 a1 a2 x2.2) else (if a2 = 32 then (f_X8_sheet_J37 a3 a0 a1 a2 x2.2) else (f_X8_sheet_J30 a0 x2.2)))))
noncomputable def f_X8_told (h : tkH) (a0 : Nat) (a1 : Int32) (a2 : Int32) : Option (Int32 × tkH) :=
  (f_X0_hasTale h (fld a0 0) a1).bind fun x5 => if x5.1 = 0 then ((f_X8_finding x5.2 a0 (-100001)).bind fun x14 => some (x14.1, x14.2)) else (if a2 = 0 then ((rdI x5.2 (fld (fld a0 0) 1) a1).bind fun v64 => some (v64, x5.2)) else if a2 = 1 then ((rdI x5.2 (fld (fld a0 0) 2) a1).bind fun v74 => some (v74, x5.2)) else if a2 = 2 then ((rdI x5.2 (fld (fld a0 0) 3) a1).bind fun v84 => some (v84, x5.2)) else if a2 = 3 then ((rdI x5.2 (fld (fld a0 0) 5) a1).bind fun v94 => some (v94, x5.2)) else if a2 = 4 then ((f_X0_laidLength x5.2 (fld a0 0) a1).bind fun x101 => some (x101.1, x101.2)) else if a2 = 5 then ((rdI x5.2 (fld (fld a0 0) 4) a1).bind fun v113 => some (v113, x5.2)) else ((f_X8_finding x5.2 a0 (-100001)).bind fun x118 => some (x118.1, x118.2)))
noncomputable def f_X9_as_J17 (a0 : Nat) : tkH → Option (Int32 × tkH) :=
  fun g17 => (f_X9_finding g17 a0 (-100001)).bind fun x20 => some (x20.1, x20.2)
noncomputable def f_X9_as_J57 (a0 : Nat) : tkH → Option (Int32 × tkH) :=
  fun g57 => (f_X9_finding g57 a0 (-100004)).bind fun x60 => some (x60.1, x60.2)
noncomputable def f_X9_as (h : tkH) (a0 : Nat) (a1 : Int32) (a2 : Int32) : Option (Int32 × tkH) :=
  (f_X9_isTale h a0 a1).bind fun x2 => if x2.1 = 0 then (f_X9_as_J17 a0 x2.2) else ((f_X9_within x2.2 a2 0 3).bind fun x11 => if x11.1 = 0 then (f_X9_as_J17 a0 x11.2) else ((rdI x11.2 (fld a0 0) (40 + a1)).bind fun v32 => if a2 = 0 then (some (a1, x11.2)) else (if v32 = a2 then (some (a1, x11.2)) else (if a2 = 1 then (if v32 = 3 then (some (a1, x11.2)) else (f_X9_as_J57 a0 x11.2)) else (f_X9_as_J57 a0 x11.2)))))
noncomputable def f_X9_copy_J14 (a0 : Nat) : tkH → Option (Int32 × tkH) :=
  fun g14 => (f_X9_finding g14 a0 (-100001)).bind fun x17 => some (x17.1, x17.2)
noncomputable def f_X9_copy_J39 (a0 : Nat) : tkH → Option (Int32 × tkH) :=
  fun g39 => (f_X9_finding g39 a0 (-100002)).bind fun x42 => some (x42.1, x42.2)
noncomputable def f_X9_copy_J117 (a0 : Nat) : tkH → Option (Int32 × tkH) :=
  fun g117 => (f_X9_finding g117 a0 (-100001)).bind fun x120 => some (x120.1, x120.2)
noncomputable def f_X9_copy_L164 (a5 : Int32) (a0 : Nat) (a3 : Int32) (a4 : Int32) : Nat → tkH → Int32 → Option (Int32 × tkH) :=
  lq1 (fun kk164 g164 y164_6 => if a5 ≤ y164_6 then (some (a5, g164)) else ((rdI g164 (fld a0 28) y164_6).bind fun v191 => (wrI g164 (fld a0 6) (((30 * a3) + a4) + y164_6) v191).bind fun h192 => kk164 h192 (y164_6 + 1)))
noncomputable def f_X9_copy_L127 (a5 : Int32) (a0 : Nat) (a1 : Int32) (a2 : Int32) (kx161 : tkH → Option (Int32 × tkH)) : Nat → tkH → Int32 → Option (Int32 × tkH) :=
  lq1 (fun kk127 g127 y127_6 => if a5 ≤ y127_6 then (kx161 g127) else ((rdI g127 (fld a0 6) (((30 * a1) + a2) + y127_6)).bind fun v153 => (wrI g127 (fld a0 28) y127_6 v153).bind fun h154 => kk127 h154 (y127_6 + 1)))
noncomputable def f_X9_copy (h : tkH) (a0 : Nat) (a1 : Int32) (a2 : Int32) (a3 : Int32) (a4 : Int32) (a5 : Int32) : Option (Int32 × tkH) :=
  (f_X9_isSheet h a1).bind fun x1 => if x1.1 = 0 then (f_X9_copy_J14 a0 x1.2) else ((f_X9_isSheet x1.2 a3).bind fun x8 => if x8.1 = 0 then (f_X9_copy_J14 a0 x8.2) else ((rdI x8.2 (fld a0 4) a1).bind fun v26 => if v26 = 0 then (f_X9_copy_J39 a0 x8.2) else ((rdI x8.2 (fld a0 4) a3).bind fun v35 => if v35 = 0 then (f_X9_copy_J39 a0 x8.2) else ((rdI x8.2 (fld a0 4) a1).bind fun v51 => (rdI x8.2 (fld a0 4) a3).bind fun v57 => if v51 = v57 then (if a2 < 0 then (f_X9_copy_J117 a0 x8.2) else (if a4 < 0 then (f_X9_copy_J117 a0 x8.2) else (if a5 < 0 then (f_X9_copy_J117 a0 x8.2) else ((rdI x8.2 (fld a0 5) a1).bind fun v93 => if 0 < (lg_cmp ((Int32.toInt64 a2) + (Int32.toInt64 a5)) (Int32.toInt64 v93)) then (f_X9_copy_J117 a0 x8.2) else ((rdI x8.2 (fld a0 5) a3).bind fun v111 => if (lg_cmp ((Int32.toInt64 a4) + (Int32.toInt64 a5)) (Int32.toInt64 v111)) ≤ 0 then (f_X9_copy_L127 a5 a0 a1 a2 (fun gz161 => f_X9_copy_L164 a5 a0 a3 a4 FU gz161 0) FU x8.2 0) else (f_X9_copy_J117 a0 x8.2)))))) else ((f_X9_finding x8.2 a0 (-100004)).bind fun x64 => some (x64.1, x64.2))))))
noncomputable def f_X9_count_J29 (a0 : Nat) : tkH → Option (Int32 × tkH) :=
  fun g29 => (f_X9_finding g29 a0 (-100001)).bind fun x32 => some (x32.1, x32.2)
noncomputable def f_X9_count_J19 (a0 : Nat) (a1 : Int32) (a2 : Int32) (a3 : Int32) : tkH → Option (Int32 × tkH) :=
  fun g19 => (f_X9_counts g19 a0 a1 a2 a3).bind fun x23 => some (x23.1, x23.2)
noncomputable def f_X9_count (h : tkH) (a0 : Nat) (a1 : Int32) (a2 : Int32) (a3 : Int32) : Option (Int32 × tkH) :=
  (f_X9_isMotif h a1).bind fun x1 => if x1.1 = 0 then (f_X9_count_J29 a0 x1.2) else (if a2 = (-1) then (f_X9_count_J19 a0 a1 a2 a3 x1.2) else ((f_X9_isPlace x1.2 a2).bind fun x13 => if x13.1 = 0 then (f_X9_count_J29 a0 x13.2) else (f_X9_count_J19 a0 a1 a2 a3 x13.2)))
noncomputable def f_X9_home_L18 (a0 : Nat) (a1 : Int32) (kx53 : tkH → Int32 → Option (Int32 × tkH)) : Nat → tkH → Int32 → Int32 → Option (Int32 × tkH) :=
  lq2 (fun kk18 g18 y18_2 y18_3 => if 6 ≤ y18_3 then (kx53 g18 y18_2) else ((f_X9_counts g18 a0 a1 y18_3 0).bind fun x28 => (f_X9_counts x28.2 a0 a1 y18_2 0).bind fun x35 => if x28.1 ≤ x35.1 then (kk18 x35.2 y18_2 (y18_3 + 1)) else (kk18 x35.2 y18_3 (y18_3 + 1))))
noncomputable def f_X9_home (h : tkH) (a0 : Nat) (a1 : Int32) : Option (Int32 × tkH) :=
  (f_X9_isMotif h a1).bind fun x1 => if x1.1 = 0 then ((f_X9_finding x1.2 a0 (-100001)).bind fun x10 => some (x10.1, x10.2)) else (f_X9_home_L18 a0 a1 (fun gz53 z53_2 => (f_X9_counts gz53 a0 a1 z53_2 0).bind fun x57 => if x57.1 = 0 then ((f_X9_finding x57.2 a0 (-100006)).bind fun x66 => some (x66.1, x66.2)) else (some (z53_2, x57.2))) FU x1.2 0 1)
noncomputable def f_X9_isStep (h : tkH) (a0 : Nat) (a1 : Int32) (a2 : Int32) : Option (Int32 × tkH) :=
  (f_X9_isTale h a0 a1).bind fun x2 => if x2.1 = 0 then (some (0, x2.2)) else ((rdI x2.2 (fld a0 0) (70 + a1)).bind fun v18 => (f_X9_within x2.2 a2 0 (v18 - 1)).bind fun x21 => if x21.1 = 0 then (some (0, x21.2)) else (some (1, x21.2)))
noncomputable def f_X9_laidTo (h : tkH) (a0 : Nat) (a1 : Int32) : Option (Int32 × tkH) :=
  (rdI h (fld a0 0) (70 + a1)).bind fun v8 => (f_X9_laidFrom h a0 a1).bind fun x11 => some (v8 - x11.1, x11.2)
noncomputable def f_X9_lay_J15 (a0 : Nat) : tkH → Option (Int32 × tkH) :=
  fun g15 => (f_X9_finding g15 a0 (-100001)).bind fun x18 => some (x18.1, x18.2)
noncomputable def f_X9_lay_L140 (v43 : Int32) (a0 : Nat) (a2 : Int32) (a1 : Int32) (kx199 : tkH → Option (Int32 × tkH)) : Nat → tkH → Int32 → Option (Int32 × tkH) :=
  lq1 (fun kk140 g140 y140_5 => if (v43 / 3) ≤ y140_5 then (kx199 g140) else ((rdI g140 (fld a0 6) ((30 * a2) + (3 * y140_5))).bind fun v161 => (rdI g140 (fld a0 6) (((30 * a2) + (3 * y140_5)) + 1)).bind fun v175 => (rdI g140 (fld a0 6) (((30 * a2) + (3 * y140_5)) + 2)).bind fun v189 => (f_X9_setStep g140 a0 a1 y140_5 v161 v175 v189).bind fun x190 => kk140 x190 (y140_5 + 1)))
noncomputable def f_X9_lay_L56 (v43 : Int32) (a0 : Nat) (a2 : Int32) (kx120 : tkH → Option (Int32 × tkH)) (kx133 : tkH → Option (Int32 × tkH)) : Nat → tkH → Int32 → Option (Int32 × tkH) :=
  lq1 (fun kk56 g56 y56_5 => if (v43 / 3) ≤ y56_5 then (kx133 g56) else ((rdI g56 (fld a0 6) ((30 * a2) + (3 * y56_5))).bind fun v73 => (f_X9_isMotif g56 v73).bind fun x74 => if x74.1 = 0 then (kx120 x74.2) else ((rdI x74.2 (fld a0 6) (((30 * a2) + (3 * y56_5)) + 1)).bind fun v93 => (f_X9_isRole x74.2 v93).bind fun x94 => if x94.1 = 0 then (kx120 x94.2) else ((rdI x94.2 (fld a0 6) (((30 * a2) + (3 * y56_5)) + 2)).bind fun v113 => (f_X9_isRole x94.2 v113).bind fun x114 => if x114.1 = 0 then (kx120 x114.2) else (kk56 x114.2 (y56_5 + 1))))))
noncomputable def f_X9_lay (h : tkH) (a0 : Nat) (a1 : Int32) (a2 : Int32) : Option (Int32 × tkH) :=
  (f_X9_isTale h a0 a1).bind fun x2 => if x2.1 = 0 then (f_X9_lay_J15 a0 x2.2) else ((f_X9_isSheet x2.2 a2).bind fun x9 => if x9.1 = 0 then (f_X9_lay_J15 a0 x9.2) else ((rdI x9.2 (fld a0 4) a2).bind fun v27 => if v27 = 0 then ((f_X9_finding x9.2 a0 (-100002)).bind fun x34 => some (x34.1, x34.2)) else ((rdI x9.2 (fld a0 5) a2).bind fun v43 => f_X9_lay_L56 v43 a0 a2 (fun gz120 => (f_X9_finding gz120 a0 (-100001)).bind fun x123 => some (x123.1, x123.2)) (fun gz133 => (f_X9_keep gz133 a0).bind fun x134 => f_X9_lay_L140 v43 a0 a2 a1 (fun gz199 => (wrI gz199 (fld a0 0) (70 + a1) (v43 / 3)).bind fun h208 => some (v43 / 3, h208)) FU x134 0) FU x9.2 0)))
noncomputable def f_X9_layBy_J130 (a0 : Nat) (y10_2 : Int32) (y23_3 : Int32) (kk23 : tkH → Int32 → Option (Int32 × tkH)) : tkH → Int32 → Option (Int32 × tkH) :=
  fun g130 y130_4 => (wrI g130 (fld a0 16) ((11 * y10_2) + y23_3) (mnI y130_4 1000000)).bind fun h147 => kk23 h147 (y23_3 + (-1))
noncomputable def f_X9_layBy_J100 (a0 : Nat) (y23_3 : Int32) (y10_2 : Int32) (kk23 : tkH → Int32 → Option (Int32 × tkH)) : tkH → Int32 → Option (Int32 × tkH) :=
  fun g100 y100_4 => if (g100 a0 14) ≤ y23_3 then (f_X9_layBy_J130 a0 y10_2 y23_3 kk23 g100 y100_4) else ((rdI g100 (fld a0 0) 3).bind fun v115 => (f_X9_pairsLeft g100 a0 y10_2 (y23_3 + 1)).bind fun x121 => f_X9_layBy_J130 a0 y10_2 y23_3 kk23 x121.2 (mnI y100_4 (v115 + x121.1)))
noncomputable def f_X9_layBy_J70 (a0 : Nat) (y10_2 : Int32) (y23_3 : Int32) (kk23 : tkH → Int32 → Option (Int32 × tkH)) : tkH → Int32 → Option (Int32 × tkH) :=
  fun g70 y70_4 => if (g70 a0 10) ≤ y10_2 then (f_X9_layBy_J100 a0 y23_3 y10_2 kk23 g70 y70_4) else ((rdI g70 (fld a0 0) 3).bind fun v85 => (f_X9_pairsLeft g70 a0 (y10_2 + 1) y23_3).bind fun x91 => f_X9_layBy_J100 a0 y23_3 y10_2 kk23 x91.2 (mnI y70_4 (v85 + x91.1)))
noncomputable def f_X9_layBy_L23 (a0 : Nat) (y10_2 : Int32) (kx154 : tkH → Option (Int32 × tkH)) : Nat → tkH → Int32 → Option (Int32 × tkH) :=
  lq1 (fun kk23 g23 y23_3 => if y23_3 < (g23 a0 13) then (kx154 g23) else (if (g23 a0 10) ≤ y10_2 then (f_X9_layBy_J70 a0 y10_2 y23_3 kk23 g23 1000000) else (if (g23 a0 14) ≤ y23_3 then (f_X9_layBy_J70 a0 y10_2 y23_3 kk23 g23 1000000) else ((f_X9_pairCost g23 a0 y10_2 y23_3).bind fun x54 => (f_X9_leastFrom x54.2 a0 (y10_2 + 1) (y23_3 + 1)).bind fun x64 => f_X9_layBy_J70 a0 y10_2 y23_3 kk23 x64.2 (x54.1 + x64.1)))))
noncomputable def f_X9_layBy_L10 (a0 : Nat) (kx160 : tkH → Option (Int32 × tkH)) : Nat → tkH → Int32 → Option (Int32 × tkH) :=
  lq1 (fun kk10 g10 y10_2 => if y10_2 < (g10 a0 9) then (kx160 g10) else (f_X9_layBy_L23 a0 y10_2 (fun gz154 => kk10 gz154 (y10_2 + (-1))) FU g10 (g10 a0 14)))
noncomputable def f_X9_layBy (h : tkH) (a0 : Nat) (a1 : Int32) : Option (Int32 × tkH) :=
  (f_X9_carry h a0 a1).bind fun x2 => f_X9_layBy_L10 a0 (fun gz160 => (f_X9_leastFrom gz160 a0 (gz160 a0 9) (gz160 a0 13)).bind fun x169 => some (x169.1, x169.2)) FU x2 (x2 a0 10)
noncomputable def f_X9_print_J21 (a0 : Nat) : tkH → Option (Int32 × tkH) :=
  fun g21 => (f_X9_finding g21 a0 (-100001)).bind fun x24 => some (x24.1, x24.2)
noncomputable def f_X9_print_L50 (a1 : Int32) (a0 : Nat) (kx59 : tkH → Option (Int32 × tkH)) (kx79 : tkH → Option (Int32 × tkH)) : Nat → tkH → Int32 → Option (Int32 × tkH) :=
  lq1 (fun kk50 g50 y50_3 => if y50_3 < 0 then (kx79 g50) else (if y50_3 = a1 then (kx59 g50) else ((rdI g50 (fld a0 0) (80 + y50_3)).bind fun v74 => kk50 g50 v74)))
noncomputable def f_X9_print_J28 (a0 : Nat) (a1 : Int32) (a2 : Int32) : tkH → Option (Int32 × tkH) :=
  fun g28 => (rdI g28 (fld a0 0) (40 + a1)).bind fun v36 => if v36 = 3 then (f_X9_print_L50 a1 a0 (fun gz59 => (f_X9_finding gz59 a0 (-100007)).bind fun x62 => some (x62.1, x62.2)) (fun gz79 => (f_X9_keep gz79 a0).bind fun x80 => (rdI x80 (fld a0 0) (80 + a1)).bind fun v91 => (wrI x80 (fld a0 0) (80 + a1) a2).bind fun h102 => some (v91, h102)) FU g28 a2) else ((f_X9_finding g28 a0 (-100004)).bind fun x44 => some (x44.1, x44.2))
noncomputable def f_X9_print (h : tkH) (a0 : Nat) (a1 : Int32) (a2 : Int32) : Option (Int32 × tkH) :=
  (f_X9_isTale h a0 a1).bind fun x2 => if x2.1 = 0 then (f_X9_print_J21 a0 x2.2) else (if a2 = (-1) then (f_X9_print_J28 a0 a1 a2 x2.2) else ((f_X9_isTale x2.2 a0 a2).bind fun x15 => if x15.1 = 0 then (f_X9_print_J21 a0 x15.2) else (f_X9_print_J28 a0 a1 a2 x15.2)))
noncomputable def f_X9_put (h : tkH) (a0 : Nat) (a1 : Int32) (a2 : Int32) (a3 : Int32) : Option (Int32 × tkH) :=
  (f_X9_isSheet h a1).bind fun x1 => if x1.1 = 0 then ((f_X9_finding x1.2 a0 (-100001)).bind fun x10 => some (x10.1, x10.2)) else ((rdI x1.2 (fld a0 4) a1).bind fun v19 => if v19 = 0 then ((f_X9_finding x1.2 a0 (-100002)).bind fun x26 => some (x26.1, x26.2)) else ((rdI x1.2 (fld a0 5) a1).bind fun v37 => (f_X9_within x1.2 a2 0 (v37 - 1)).bind fun x40 => if x40.1 = 0 then ((f_X9_finding x40.2 a0 (-100001)).bind fun x49 => some (x49.1, x49.2)) else ((rdI x40.2 (fld a0 4) a1).bind fun v60 => (wrI x40.2 (fld a0 6) ((30 * a1) + a2) ((a3 <<< ((32 - v60) &&& 31)) >>> ((32 - v60) &&& 31))).bind fun h81 => some (0, h81))))
noncomputable def f_X9_recode_J14 (a0 : Nat) : tkH → Option (Int32 × tkH) :=
  fun g14 => (f_X9_finding g14 a0 (-100001)).bind fun x17 => some (x17.1, x17.2)
noncomputable def f_X9_recode_L44 (a0 : Nat) (y30_4 : Int32) (a1 : Int32) (a2 : Int32) (kx108 : tkH → Int32 → Option (Int32 × tkH)) : Nat → tkH → Int32 → Int32 → Option (Int32 × tkH) :=
  lq2 (fun kk44 g44 y44_3 y44_5 => (rdI g44 (fld a0 0) (70 + y30_4)).bind fun v55 => if v55 ≤ y44_5 then (kx108 g44 y44_3) else ((f_X9_stepOf g44 a0 y30_4 y44_5 0).bind fun x65 => if x65.1 = a1 then ((f_X9_stepOf x65.2 a0 y30_4 y44_5 1).bind fun x84 => (f_X9_stepOf x84.2 a0 y30_4 y44_5 2).bind fun x93 => (f_X9_setStep x93.2 a0 y30_4 y44_5 a2 x84.1 x93.1).bind fun x96 => kk44 x96 (y44_3 + 1) (y44_5 + 1)) else (kk44 x65.2 y44_3 (y44_5 + 1))))
noncomputable def f_X9_recode_L30 (a0 : Nat) (a1 : Int32) (a2 : Int32) : Nat → tkH → Int32 → Int32 → Option (Int32 × tkH) :=
  lq2 (fun kk30 g30 y30_3 y30_4 => (rdI g30 (fld a0 0) 0).bind fun v37 => if v37 ≤ y30_4 then (some (y30_3, g30)) else (f_X9_recode_L44 a0 y30_4 a1 a2 (fun gz108 z108_3 => kk30 gz108 z108_3 (y30_4 + 1)) FU g30 y30_3 0))
noncomputable def f_X9_recode (h : tkH) (a0 : Nat) (a1 : Int32) (a2 : Int32) : Option (Int32 × tkH) :=
  (f_X9_isMotif h a1).bind fun x1 => if x1.1 = 0 then (f_X9_recode_J14 a0 x1.2) else ((f_X9_isMotif x1.2 a2).bind fun x8 => if x8.1 = 0 then (f_X9_recode_J14 a0 x8.2) else ((f_X9_keep x8.2 a0).bind fun x22 => f_X9_recode_L30 a0 a1 a2 FU x22 0 0))
noncomputable def f_X9_same_L3 (a0 : Nat) (a1 : Int32) (a2 : Int32) (a3 : Int32) (a4 : Int32) : Nat → tkH → Int32 → Option (Int32 × tkH) :=
  lq1 (fun kk3 g3 y3_5 => (rdI g3 (fld a0 0) (70 + a1)).bind fun v15 => if v15 ≤ (a2 + y3_5) then (some (y3_5, g3)) else ((rdI g3 (fld a0 0) (70 + a3)).bind fun v32 => if v32 ≤ (a4 + y3_5) then (some (y3_5, g3)) else ((f_X9_isSame g3 a0 a1 (a2 + y3_5) a3 (a4 + y3_5)).bind fun x48 => if x48.1 = 0 then (some (y3_5, x48.2)) else (kk3 x48.2 (y3_5 + 1)))))
noncomputable def f_X9_same (h : tkH) (a0 : Nat) (a1 : Int32) (a2 : Int32) (a3 : Int32) (a4 : Int32) : Option (Int32 × tkH) :=
  f_X9_same_L3 a0 a1 a2 a3 a4 FU h 0
noncomputable def f_X9_sheet_J29 (a0 : Nat) : tkH → Option (Int32 × tkH) :=
  fun g29 => (f_X9_finding g29 a0 (-100001)).bind fun x32 => some (x32.1, x32.2)
noncomputable def f_X9_sheet_L85 (a0 : Nat) (a1 : Int32) (kx111 : tkH → Option (Int32 × tkH)) : Nat → tkH → Int32 → Option (Int32 × tkH) :=
  lq1 (fun kk85 g85 y85_4 => if 30 ≤ y85_4 then (kx111 g85) else ((wrI g85 (fld a0 6) ((30 * a1) + y85_4) 0).bind fun h104 => kk85 h104 (y85_4 + 1)))
noncomputable def f_X9_sheet_J81 (a0 : Nat) (a1 : Int32) : tkH → Int32 → Option (Int32 × tkH) :=
  fun g81 t81_0 => (wrI g81 (fld a0 5) a1 t81_0).bind fun h81 => f_X9_sheet_L85 a0 a1 (fun gz111 => (rdI gz111 (fld a0 5) a1).bind fun v116 => some (v116, gz111)) FU h81 0
noncomputable def f_X9_sheet_J36 (a3 : Int32) (a0 : Nat) (a1 : Int32) (a2 : Int32) : tkH → Option (Int32 × tkH) :=
  fun g36 => if 0 ≤ a3 then (if a3 ≤ 30 then ((wrI g36 (fld a0 4) a1 a2).bind fun h66 => if a2 = 0 then (f_X9_sheet_J81 a0 a1 h66 0) else (f_X9_sheet_J81 a0 a1 h66 a3)) else ((f_X9_finding g36 a0 (-100001)).bind fun x56 => some (x56.1, x56.2))) else ((f_X9_finding g36 a0 (-100003)).bind fun x43 => some (x43.1, x43.2))
noncomputable def f_X9_sheet (h : tkH) (a0 : Nat) (a1 : Int32) (a2 : Int32) (a3 : Int32) : Option (Int32 × tkH) :=
  (f_X9_isSheet h a1).bind fun x1 => if x1.1 = 0 then (f_X9_sheet_J29 a0 x1.2) else (if a2 = 0 then (f_X9_sheet_J36 a3 a0 a1 a2 x1.2) else (if a2 = 8 then (f_X9_sheet_J36 a3 a0 a1 a2 x1.2) else (if a2 = 16 then (f_X9_sheet_J36 a3 a0 a1 a2 x1.2) else (if a2 = 32 then (f_X9_sheet_J36 a3 a0 a1 a2 x1.2) else (f_X9_sheet_J29 a0 x1.2)))))
noncomputable def f_X9_step_J30 (a0 : Nat) : tkH → Option (Int32 × tkH) :=
  fun g30 => (f_X9_finding g30 a0 (-100001)).bind fun x33 => some (x33.1, x33.2)
noncomputable def f_X9_step (h : tkH) (a0 : Nat) (a1 : Int32) (a2 : Int32) (a3 : Int32) (a4 : Int32) : Option (Int32 × tkH) :=
  (f_X9_isTale h a0 a1).bind fun x2 => if x2.1 = 0 then (f_X9_step_J30 a0 x2.2) else ((f_X9_isMotif x2.2 a2).bind fun x9 => if x9.1 = 0 then (f_X9_step_J30 a0 x9.2) else ((f_X9_isRole x9.2 a3).bind fun x16 => if x16.1 = 0 then (f_X9_step_J30 a0 x16.2) else ((f_X9_isRole x16.2 a4).bind fun x24 => if x24.1 = 0 then (f_X9_step_J30 a0 x24.2) else ((rdI x24.2 (fld a0 0) (70 + a1)).bind fun v45 => if v45 = 10 then ((f_X9_finding x24.2 a0 (-100005)).bind fun x54 => some (x54.1, x54.2)) else ((f_X9_keep x24.2 a0).bind fun x59 => (rdI x59 (fld a0 0) (70 + a1)).bind fun v72 => (f_X9_setStep x59 a0 a1 v72 a2 a3 a4).bind fun x77 => (rdI x77 (fld a0 0) (70 + a1)).bind fun v89 => (wrI x77 (fld a0 0) (70 + a1) (v89 + 1)).bind fun h92 => (rdI h92 (fld a0 0) (70 + a1)).bind fun v101 => some (v101, h92))))))
noncomputable def f_X9_tale_J27 (a0 : Nat) : tkH → Option (Int32 × tkH) :=
  fun g27 => (f_X9_finding g27 a0 (-100001)).bind fun x30 => some (x30.1, x30.2)
noncomputable def f_X9_tale (h : tkH) (a0 : Nat) (a1 : Int32) (a2 : Int32) (a3 : Int32) : Option (Int32 × tkH) :=
  (f_X9_within h a1 0 3).bind fun x3 => if x3.1 = 0 then (f_X9_tale_J27 a0 x3.2) else ((f_X9_isPlace x3.2 a2).bind fun x10 => if x10.1 = 0 then (f_X9_tale_J27 a0 x10.2) else ((f_X9_within x10.2 a3 0 999).bind fun x21 => if x21.1 = 0 then (f_X9_tale_J27 a0 x21.2) else ((rdI x21.2 (fld a0 0) 0).bind fun v39 => if v39 = 10 then ((f_X9_finding x21.2 a0 (-100005)).bind fun x52 => some (x52.1, x52.2)) else ((f_X9_keep x21.2 a0).bind fun x57 => (wrI x57 (fld a0 0) (40 + v39) a1).bind fun h70 => (wrI h70 (fld a0 0) (50 + v39) a2).bind fun h81 => (wrI h81 (fld a0 0) (60 + v39) a3).bind fun h92 => (wrI h92 (fld a0 0) (70 + v39) 0).bind fun h103 => (wrI h103 (fld a0 0) (80 + v39) (-1)).bind fun h114 => (rdI h114 (fld a0 0) 0).bind fun v121 => (wrI h114 (fld a0 0) 0 (v121 + 1)).bind fun h124 => some (v39, h124)))))
noncomputable def f_X9_unstep (h : tkH) (a0 : Nat) (a1 : Int32) : Option (Int32 × tkH) :=
  (f_X9_isTale h a0 a1).bind fun x2 => if x2.1 = 0 then ((f_X9_finding x2.2 a0 (-100001)).bind fun x11 => some (x11.1, x11.2)) else ((rdI x2.2 (fld a0 0) (70 + a1)).bind fun v23 => if v23 = 0 then ((f_X9_finding x2.2 a0 (-100006)).bind fun x30 => some (x30.1, x30.2)) else ((f_X9_keep x2.2 a0).bind fun x35 => (rdI x35 (fld a0 0) (70 + a1)).bind fun v47 => (wrI x35 (fld a0 0) (70 + a1) (v47 - 1)).bind fun h50 => (rdI h50 (fld a0 0) (70 + a1)).bind fun v59 => some (v59, h50)))
noncomputable def f_X9_way_J25 (a0 : Nat) : tkH → Option (Int32 × tkH) :=
  fun g25 => (f_X9_finding g25 a0 (-100001)).bind fun x28 => some (x28.1, x28.2)
noncomputable def f_X9_way (h : tkH) (a0 : Nat) (a1 : Int32) (a2 : Int32) (a3 : Int32) : Option (Int32 × tkH) :=
  (f_X9_isPlace h a1).bind fun x1 => if x1.1 = 0 then (f_X9_way_J25 a0 x1.2) else ((f_X9_isPlace x1.2 a2).bind fun x8 => if x8.1 = 0 then (f_X9_way_J25 a0 x8.2) else ((f_X9_within x8.2 a3 0 999).bind fun x19 => if x19.1 = 0 then (f_X9_way_J25 a0 x19.2) else (if a1 = a2 then ((f_X9_finding x19.2 a0 (-100003)).bind fun x40 => some (x40.1, x40.2)) else ((f_X9_keep x19.2 a0).bind fun x45 => (rdI x45 (fld a0 0) ((4 + (6 * a1)) + a2)).bind fun v60 => (wrI x45 (fld a0 0) ((4 + (6 * a1)) + a2) a3).bind fun h76 => (wrI h76 (fld a0 0) ((4 + (6 * a2)) + a1) a3).bind fun h90 => some (v60, h90)))))
noncomputable def f_X1_find_L22 (a1 : Nat) (a3 : Int32) (a2 : Int32) (a0 : Nat) (y8_4 : Int32) (kx115 : tkH → Option (tkH)) : Nat → tkH → Int32 → Option (tkH) :=
  lq1 (fun kk22 g22 y22_5 => (rdI g22 (fld a1 5) a3).bind fun v29 => if v29 ≤ y22_5 then (kx115 g22) else ((rdI g22 (fld a1 5) a2).bind fun v38 => (rdI g22 (fld a1 5) a3).bind fun v47 => (f_X1_sameFrom g22 a0 (fld a1 6) ((a2 * 10) + y8_4) ((a3 * 10) + y22_5) (mnI (v38 - y8_4) (v47 - y22_5))).bind fun x77 => if x77.1 ≤ ((x77.2) a0 2) then (kk22 x77.2 (y22_5 + 1)) else (kk22 (tkup (tkup (tkup x77.2 a0 2 x77.1) a0 3 y8_4) a0 4 y22_5) (y22_5 + 1))))
noncomputable def f_X1_find_L8 (a1 : Nat) (a2 : Int32) (a3 : Int32) (a0 : Nat) : Nat → tkH → Int32 → Option (tkH) :=
  lq1 (fun kk8 g8 y8_4 => (rdI g8 (fld a1 5) a2).bind fun v15 => if v15 ≤ y8_4 then (some g8) else (f_X1_find_L22 a1 a3 a2 a0 y8_4 (fun gz115 => kk8 gz115 (y8_4 + 1)) FU g8 0))
noncomputable def f_X1_find (h : tkH) (a0 : Nat) (a1 : Nat) (a2 : Int32) (a3 : Int32) : Option (tkH) :=
  f_X1_find_L8 a1 a2 a3 a0 FU (tkup h a0 2 0) 0
noncomputable def f_X2_between_J85 (a0 : Nat) (a2 : Int32) (a3 : Int32) : tkH → Option (Int32 × tkH) :=
  fun g85 => (rdI g85 (fld a0 1) ((a2 * 10) + a3)).bind fun v91 => some (v91, g85)
noncomputable def f_X2_between (h : tkH) (a0 : Nat) (a1 : Nat) (a2 : Int32) (a3 : Int32) : Option (Int32 × tkH) :=
  (rdI h (fld a0 1) ((a2 * 10) + a3)).bind fun v14 => if 0 ≤ v14 then (f_X2_between_J85 a0 a2 a3 h) else ((f_X5_takeLaid h (fld (fld a0 0) 0) a1 a2).bind fun x27 => (f_X5_takeLaid x27 (fld (fld a0 0) 1) a1 a3).bind fun x39 => (f_X4_findLeast x39 (fld a0 0) (fld a1 7)).bind fun x50 => (wrI x50 (fld a0 1) ((a2 * 10) + a3) (x50 (fld a0 0) 8)).bind fun h66 => (wrI h66 (fld a0 1) ((a3 * 10) + a2) (h66 (fld a0 0) 8)).bind fun h84 => f_X2_between_J85 a0 a2 a3 h84)
noncomputable def f_X2_layTales (h : tkH) (a0 : Nat) (a1 : Nat) (a2 : Int32) (a3 : Int32) : Option (Nat × tkH) :=
  (f_X5_takeLaid h (fld (fld a0 0) 0) a1 a2).bind fun x9 => (f_X5_takeLaid x9 (fld (fld a0 0) 1) a1 a3).bind fun x21 => (f_X4_findLeast x21 (fld a0 0) (fld a1 7)).bind fun x32 => some (fld a0 0, x32)
noncomputable def f_X2_ofPart (h : tkH) (a0 : Nat) (a1 : Nat) (a2 : Int32) (a3 : Int32) (a4 : Int32) (a5 : Int32) : Option (Int32 × tkH) :=
  (f_X5_takePart h (fld (fld a0 0) 0) a1 a2 a3 a4).bind fun x12 => (f_X5_takeLaid x12 (fld (fld a0 0) 1) a1 a5).bind fun x25 => (f_X4_findLeast x25 (fld a0 0) (fld a1 7)).bind fun x36 => some (x36 (fld a0 0) 8, x36)
noncomputable def f_X8_count_J23 (a0 : Nat) : tkH → Option (Int32 × tkH) :=
  fun g23 => (f_X8_finding g23 a0 (-100001)).bind fun x26 => some (x26.1, x26.2)
noncomputable def f_X8_count_J30 (a0 : Nat) (a1 : Int32) (a2 : Int32) (a3 : Int32) : tkH → Option (Int32 × tkH) :=
  fun g30 => (f_X0_howOftenAt g30 (fld a0 0) a1 a2).bind fun x36 => if a3 = 0 then (some (x36.1, x36.2)) else ((f_X0_doubtsAt x36.2 (fld a0 0) a2).bind fun x52 => some (x36.1 + x52.1, x52.2))
noncomputable def f_X8_count (h : tkH) (a0 : Nat) (a1 : Int32) (a2 : Int32) (a3 : Int32) : Option (Int32 × tkH) :=
  (f_X8_isWithin h a1 16).bind fun x3 => if x3.1 = 0 then (f_X8_count_J23 a0 x3.2) else (if a2 = (-1) then (f_X8_count_J30 a0 a1 a2 a3 x3.2) else ((f_X8_isWithin x3.2 a2 6).bind fun x17 => if x17.1 = 0 then (f_X8_count_J23 a0 x17.2) else (f_X8_count_J30 a0 a1 a2 a3 x17.2)))
noncomputable def f_X8_home_L23 (a0 : Nat) (a1 : Int32) (kx60 : tkH → Int32 → Option (Int32 × tkH)) : Nat → tkH → Int32 → Int32 → Int32 → Option (Int32 × tkH) :=
  lq3 (fun kk23 g23 y23_2 y23_3 y23_4 => if 6 ≤ y23_4 then (kx60 g23 y23_2) else ((f_X0_howOftenAt g23 (fld a0 0) a1 y23_4).bind fun x37 => if x37.1 ≤ y23_3 then (kk23 x37.2 y23_2 y23_3 (y23_4 + 1)) else (kk23 x37.2 y23_4 x37.1 (y23_4 + 1))))
noncomputable def f_X8_home (h : tkH) (a0 : Nat) (a1 : Int32) : Option (Int32 × tkH) :=
  (f_X8_isWithin h a1 16).bind fun x3 => if x3.1 = 0 then ((f_X8_finding x3.2 a0 (-100001)).bind fun x12 => some (x12.1, x12.2)) else (f_X8_home_L23 a0 a1 (fun gz60 z60_2 => if 0 ≤ z60_2 then (some (z60_2, gz60)) else ((f_X8_finding gz60 a0 (-100006)).bind fun x67 => some (x67.1, x67.2))) FU x3.2 (-1) 0 0)
noncomputable def f_X8_lay_J19 (a0 : Nat) : tkH → Option (Int32 × tkH) :=
  fun g19 => (f_X8_finding g19 a0 (-100001)).bind fun x22 => some (x22.1, x22.2)
noncomputable def f_X8_lay_L95 (a0 : Nat) (a2 : Int32) (a1 : Int32) (kx132 : tkH → Option (Int32 × tkH)) : Nat → tkH → Int32 → Option (Int32 × tkH) :=
  lq1 (fun kk95 g95 y95_3 => (rdA 9 (fld a0 5) a2).bind fun b101 => (f_X6_howManySteps g95 b101).bind fun x102 => if x102.1 ≤ y95_3 then (kx132 x102.2) else ((rdA 9 (fld a0 5) a2).bind fun b118 => (f_X6_stepAt x102.2 b118 y95_3).bind fun x120 => (f_X0_addStep x120.2 (fld a0 0) a1 x120.1).bind fun x123 => kk95 x123 (y95_3 + 1)))
noncomputable def f_X8_lay (h : tkH) (a0 : Nat) (a1 : Int32) (a2 : Int32) : Option (Int32 × tkH) :=
  (f_X0_hasTale h (fld a0 0) a1).bind fun x5 => if x5.1 = 0 then (f_X8_lay_J19 a0 x5.2) else ((f_X8_isWithin x5.2 a2 4).bind fun x13 => if x13.1 = 0 then (f_X8_lay_J19 a0 x13.2) else ((rdA 9 (fld a0 5) a2).bind fun b31 => (f_X6_isMissing x13.2 b31).bind fun x32 => if x32.1 = 0 then ((rdA 9 (fld a0 5) a2).bind fun b50 => (f_X6_tellsSteps x32.2 b50).bind fun x51 => if x51.1 = 0 then ((f_X8_finding x51.2 a0 (-100001)).bind fun x60 => some (x60.1, x60.2)) else ((f_X3_keep x51.2 (fld a0 1) (fld a0 0)).bind fun x72 => (f_X2_forget x72 (fld a0 2) a1).bind fun x80 => (wrI x80 (fld (fld a0 0) 5) a1 0).bind fun h92 => f_X8_lay_L95 a0 a2 a1 (fun gz132 => (rdI gz132 (fld (fld a0 0) 5) a1).bind fun v140 => some (v140, gz132)) FU h92 0)) else ((f_X8_finding x32.2 a0 (-100002)).bind fun x41 => some (x41.1, x41.2))))
noncomputable def f_X8_of_J20 (a0 : Nat) : tkH → Option (Int32 × tkH) :=
  fun g20 => (f_X8_finding g20 a0 (-100001)).bind fun x23 => some (x23.1, x23.2)
noncomputable def f_X8_of (h : tkH) (a0 : Nat) (a1 : Int32) (a2 : Int32) (a3 : Int32) : Option (Int32 × tkH) :=
  (f_X0_hasStep h (fld a0 0) a1 a2).bind fun x6 => if x6.1 = 0 then (f_X8_of_J20 a0 x6.2) else ((f_X8_isWithin x6.2 a3 3).bind fun x14 => if x14.1 = 0 then (f_X8_of_J20 a0 x14.2) else ((f_X0_stepAt x14.2 (fld a0 0) a1 a2).bind fun x33 => if a3 = 0 then ((f_X8_motifOf x33.2 x33.1).bind fun x44 => some (x44.1, x44.2)) else (if a3 = 1 then ((f_X8_whoOf x33.2 x33.1).bind fun x57 => some (x57.1, x57.2)) else ((f_X8_whomOf x33.2 x33.1).bind fun x65 => some (x65.1, x65.2)))))
noncomputable def f_X8_price_J17 (a0 : Nat) : tkH → Option (Int32 × tkH) :=
  fun g17 => (f_X8_finding g17 a0 (-100001)).bind fun x20 => some (x20.1, x20.2)
noncomputable def f_X8_price (h : tkH) (a0 : Nat) (a1 : Int32) (a2 : Int32) : Option (Int32 × tkH) :=
  (f_X8_isWithin h a1 3).bind fun x2 => if x2.1 = 0 then (f_X8_price_J17 a0 x2.2) else ((f_X8_isWithin x2.2 a2 10).bind fun x11 => if x11.1 = 0 then (f_X8_price_J17 a0 x11.2) else ((f_X3_keep x11.2 (fld a0 1) (fld a0 0)).bind fun x32 => (f_X2_forgetAll x32 (fld a0 2)).bind fun x39 => (rdI x39 (fld (fld a0 0) 7) a1).bind fun v50 => (wrI x39 (fld (fld a0 0) 7) a1 a2).bind fun h61 => some (v50, h61)))
noncomputable def f_X8_print_J27 (a0 : Nat) : tkH → Option (Int32 × tkH) :=
  fun g27 => (f_X8_finding g27 a0 (-100001)).bind fun x30 => some (x30.1, x30.2)
noncomputable def f_X8_print_J34 (a0 : Nat) (a1 : Int32) (a2 : Int32) : tkH → Option (Int32 × tkH) :=
  fun g34 => (rdI g34 (fld (fld a0 0) 1) a1).bind fun v42 => if v42 = 3 then ((f_X0_printsLeadTo g34 (fld a0 0) a2 a1).bind fun x60 => if x60.1 = 0 then ((f_X3_keep x60.2 (fld a0 1) (fld a0 0)).bind fun x81 => (rdI x81 (fld (fld a0 0) 4) a1).bind fun v92 => (wrI x81 (fld (fld a0 0) 4) a1 a2).bind fun h103 => some (v92, h103)) else ((f_X8_finding x60.2 a0 (-100007)).bind fun x69 => some (x69.1, x69.2))) else ((f_X8_finding g34 a0 (-100004)).bind fun x50 => some (x50.1, x50.2))
noncomputable def f_X8_print (h : tkH) (a0 : Nat) (a1 : Int32) (a2 : Int32) : Option (Int32 × tkH) :=
  (f_X0_hasTale h (fld a0 0) a1).bind fun x5 => if x5.1 = 0 then (f_X8_print_J27 a0 x5.2) else (if a2 = (-1) then (f_X8_print_J34 a0 a1 a2 x5.2) else ((f_X0_hasTale x5.2 (fld a0 0) a2).bind fun x21 => if x21.1 = 0 then (f_X8_print_J27 a0 x21.2) else (f_X8_print_J34 a0 a1 a2 x21.2)))
noncomputable def f_X8_recode_J18 (a0 : Nat) : tkH → Option (Int32 × tkH) :=
  fun g18 => (f_X8_finding g18 a0 (-100001)).bind fun x21 => some (x21.1, x21.2)
noncomputable def f_X8_recode (h : tkH) (a0 : Nat) (a1 : Int32) (a2 : Int32) : Option (Int32 × tkH) :=
  (f_X8_isWithin h a1 16).bind fun x3 => if x3.1 = 0 then (f_X8_recode_J18 a0 x3.2) else ((f_X8_isWithin x3.2 a2 16).bind fun x12 => if x12.1 = 0 then (f_X8_recode_J18 a0 x12.2) else ((f_X3_keep x12.2 (fld a0 1) (fld a0 0)).bind fun x33 => (f_X2_forgetAll x33 (fld a0 2)).bind fun x40 => (f_X0_changeMotif x40 (fld a0 0) a1 a2).bind fun x49 => some (x49.1, x49.2)))
noncomputable def f_X8_step_J21 (a0 : Nat) : tkH → Option (Int32 × tkH) :=
  fun g21 => (f_X8_finding g21 a0 (-100001)).bind fun x24 => some (x24.1, x24.2)
noncomputable def f_X8_step (h : tkH) (a0 : Nat) (a1 : Int32) (a2 : Int32) (a3 : Int32) (a4 : Int32) : Option (Int32 × tkH) :=
  (f_X0_hasTale h (fld a0 0) a1).bind fun x5 => if x5.1 = 0 then (f_X8_step_J21 a0 x5.2) else ((f_X8_isStep x5.2 a2 a3 a4).bind fun x15 => if x15.1 = 0 then (f_X8_step_J21 a0 x15.2) else ((rdI x15.2 (fld (fld a0 0) 5) a1).bind fun v36 => if v36 < 10 then ((f_X3_keep x15.2 (fld a0 1) (fld a0 0)).bind fun x57 => (f_X8_packed x57 a2 a3 a4).bind fun x69 => (f_X0_addStep x69.2 (fld a0 0) a1 x69.1).bind fun x72 => (f_X2_forget x72 (fld a0 2) a1).bind fun x80 => (rdI x80 (fld (fld a0 0) 5) a1).bind fun v91 => some (v91, x80)) else ((f_X8_finding x15.2 a0 (-100005)).bind fun x45 => some (x45.1, x45.2))))
noncomputable def f_X8_tale_J27 (a0 : Nat) : tkH → Option (Int32 × tkH) :=
  fun g27 => (f_X8_finding g27 a0 (-100001)).bind fun x30 => some (x30.1, x30.2)
noncomputable def f_X8_tale (h : tkH) (a0 : Nat) (a1 : Int32) (a2 : Int32) (a3 : Int32) : Option (Int32 × tkH) :=
  (f_X8_isWithin h a1 4).bind fun x2 => if x2.1 = 0 then (f_X8_tale_J27 a0 x2.2) else ((f_X8_isWithin x2.2 a2 6).bind fun x11 => if x11.1 = 0 then (f_X8_tale_J27 a0 x11.2) else ((f_X8_isWithin x11.2 a3 1000).bind fun x21 => if x21.1 = 0 then (f_X8_tale_J27 a0 x21.2) else (if ((x21.2) (fld a0 0) 0) < 10 then ((f_X3_keep x21.2 (fld a0 1) (fld a0 0)).bind fun x61 => (f_X0_addTale x61 (fld a0 0) a1 a2 a3).bind fun x71 => some (x71.1, x71.2)) else ((f_X8_finding x21.2 a0 (-100005)).bind fun x49 => some (x49.1, x49.2)))))
noncomputable def f_X8_undo (h : tkH) (a0 : Nat) : Option (Int32 × tkH) :=
  if 0 < (h (fld a0 1) 2) then ((f_X3_giveBack h (fld a0 1) (fld a0 0)).bind fun x25 => (f_X2_forgetAll x25 (fld a0 2)).bind fun x32 => some (x32 (fld a0 1) 2, x32)) else ((f_X8_finding h a0 (-100006)).bind fun x13 => some (x13.1, x13.2))
noncomputable def f_X8_unstep (h : tkH) (a0 : Nat) (a1 : Int32) : Option (Int32 × tkH) :=
  (f_X0_hasTale h (fld a0 0) a1).bind fun x5 => if x5.1 = 0 then ((f_X8_finding x5.2 a0 (-100001)).bind fun x14 => some (x14.1, x14.2)) else ((rdI x5.2 (fld (fld a0 0) 5) a1).bind fun v26 => if 0 < v26 then ((f_X3_keep x5.2 (fld a0 1) (fld a0 0)).bind fun x45 => (rdI x45 (fld (fld a0 0) 5) a1).bind fun v57 => (wrI x45 (fld (fld a0 0) 5) a1 (v57 - 1)).bind fun h60 => (f_X2_forget h60 (fld a0 2) a1).bind fun x66 => (rdI x66 (fld (fld a0 0) 5) a1).bind fun v77 => some (v77, x66)) else ((f_X8_finding x5.2 a0 (-100006)).bind fun x33 => some (x33.1, x33.2)))
noncomputable def f_X8_way_J28 (a0 : Nat) : tkH → Option (Int32 × tkH) :=
  fun g28 => (f_X8_finding g28 a0 (-100001)).bind fun x31 => some (x31.1, x31.2)
noncomputable def f_X8_way (h : tkH) (a0 : Nat) (a1 : Int32) (a2 : Int32) (a3 : Int32) : Option (Int32 × tkH) :=
  (f_X8_isWithin h a1 6).bind fun x3 => if x3.1 = 0 then (f_X8_way_J28 a0 x3.2) else ((f_X8_isWithin x3.2 a2 6).bind fun x12 => if x12.1 = 0 then (f_X8_way_J28 a0 x12.2) else ((f_X8_isWithin x12.2 a3 1000).bind fun x22 => if x22.1 = 0 then (f_X8_way_J28 a0 x22.2) else (if a1 = a2 then ((f_X8_finding x22.2 a0 (-100003)).bind fun x43 => some (x43.1, x43.2)) else ((f_X3_keep x22.2 (fld a0 1) (fld a0 0)).bind fun x55 => (f_X0_wayBetween x55 (fld a0 0) a1 a2).bind fun x64 => (f_X0_setWay x64.2 (fld a0 0) a1 a2 a3).bind fun x76 => some (x64.1, x76)))))
noncomputable def f_X9_findPiece_L40 (a0 : Nat) (a1 : Int32) (y7_3 : Int32) (a2 : Int32) (y23_4 : Int32) (kx96 : tkH → Option (tkH)) : Nat → tkH → Int32 → Option (tkH) :=
  lq1 (fun kk40 g40 y40_5 => if 24 ≤ y40_5 then (kx96 g40) else ((f_X9_carry g40 a0 y40_5).bind fun x50 => (f_X9_same x50 a0 a1 y7_3 a2 y23_4).bind fun x59 => if x59.1 ≤ ((x59.2) a0 25) then (kk40 x59.2 (y40_5 + 1)) else (kk40 (tkup (tkup (tkup x59.2 a0 25 x59.1) a0 26 y7_3) a0 27 y23_4) (y40_5 + 1))))
noncomputable def f_X9_findPiece_L23 (a0 : Nat) (a2 : Int32) (a1 : Int32) (y7_3 : Int32) (kx102 : tkH → Option (tkH)) : Nat → tkH → Int32 → Option (tkH) :=
  lq1 (fun kk23 g23 y23_4 => (rdI g23 (fld a0 0) (70 + a2)).bind fun v33 => if v33 ≤ y23_4 then (kx102 g23) else (f_X9_findPiece_L40 a0 a1 y7_3 a2 y23_4 (fun gz96 => kk23 gz96 (y23_4 + 1)) FU g23 0))
noncomputable def f_X9_findPiece_L7 (a0 : Nat) (a1 : Int32) (a2 : Int32) : Nat → tkH → Int32 → Option (tkH) :=
  lq1 (fun kk7 g7 y7_3 => (rdI g7 (fld a0 0) (70 + a1)).bind fun v16 => if v16 ≤ y7_3 then (some g7) else (f_X9_findPiece_L23 a0 a2 a1 y7_3 (fun gz102 => kk7 gz102 (y7_3 + 1)) FU g7 0))
noncomputable def f_X9_findPiece (h : tkH) (a0 : Nat) (a1 : Int32) (a2 : Int32) : Option (tkH) :=
  f_X9_findPiece_L7 a0 a1 a2 FU (tkup h a0 25 0) 0
noncomputable def f_X9_leastCost_L5 (a0 : Nat) : Nat → tkH → Int32 → Int32 → Option (Int32 × tkH) :=
  lq2 (fun kk5 g5 y5_1 y5_2 => if 24 ≤ y5_2 then (some (y5_1, g5)) else ((f_X9_layBy g5 a0 y5_2).bind fun x13 => if y5_1 ≤ x13.1 then (kk5 x13.2 y5_1 (y5_2 + 1)) else (kk5 (tkup x13.2 a0 17 y5_2) x13.1 (y5_2 + 1))))
noncomputable def f_X9_leastCost (h : tkH) (a0 : Nat) : Option (Int32 × tkH) :=
  f_X9_leastCost_L5 a0 FU h 1000000 0
noncomputable def f_X9_of_J28 (a0 : Nat) : tkH → Option (Int32 × tkH) :=
  fun g28 => (f_X9_finding g28 a0 (-100001)).bind fun x31 => some (x31.1, x31.2)
noncomputable def f_X9_of (h : tkH) (a0 : Nat) (a1 : Int32) (a2 : Int32) (a3 : Int32) : Option (Int32 × tkH) :=
  (f_X9_isStep h a0 a1 a2).bind fun x3 => if x3.1 = 0 then (f_X9_of_J28 a0 x3.2) else ((f_X9_within x3.2 a3 0 2).bind fun x12 => if x12.1 = 0 then (f_X9_of_J28 a0 x12.2) else ((f_X9_stepOf x12.2 a0 a1 a2 a3).bind fun x22 => some (x22.1, x22.2)))
noncomputable def f_X9_takeOther (h : tkH) (a0 : Nat) (a1 : Int32) : Option (tkH) :=
  (f_X9_laidFrom (tkup h a0 12 a1) a0 a1).bind fun x8 => (f_X9_laidTo (tkup x8.2 a0 13 x8.1) a0 a1).bind fun x17 => (f_X9_isTorn (tkup x17.2 a0 14 x17.1) a0 a1).bind fun x26 => (bz x26.1).bind fun u29 => some (tkup x26.2 a0 15 u29)
noncomputable def f_X9_told_J17 (a0 : Nat) : tkH → Option (Int32 × tkH) :=
  fun g17 => (f_X9_finding g17 a0 (-100001)).bind fun x20 => some (x20.1, x20.2)
noncomputable def f_X9_told (h : tkH) (a0 : Nat) (a1 : Int32) (a2 : Int32) : Option (Int32 × tkH) :=
  (f_X9_isTale h a0 a1).bind fun x2 => if x2.1 = 0 then (f_X9_told_J17 a0 x2.2) else ((f_X9_within x2.2 a2 0 5).bind fun x11 => if x11.1 = 0 then (f_X9_told_J17 a0 x11.2) else (if a2 = 4 then ((f_X9_laidTo x11.2 a0 a1).bind fun x31 => (f_X9_laidFrom x31.2 a0 a1).bind fun x36 => some (x31.1 - x36.1, x36.2)) else (if a2 = 5 then ((rdI x11.2 (fld a0 0) (80 + a1)).bind fun v56 => some (v56, x11.2)) else ((rdI x11.2 (fld a0 0) ((40 + (10 * a2)) + a1)).bind fun v73 => some (v73, x11.2)))))
noncomputable def f_X2_pairTales (h : tkH) (a0 : Nat) (a1 : Nat) (a2 : Int32) (a3 : Int32) : Option (Nat × tkH) :=
  (f_X2_layTales h a0 a1 a2 a3).bind fun x4 => (gk x4.1 7).bind fun _ => (f_X4_findPairs x4.2 (fld a0 0)).bind fun x12 => some (fld a0 0, x12)
noncomputable def f_X2_reckonHeap_L13 (a1 : Nat) (a2 : Int32) (y2_3 : Int32) (a0 : Nat) (kx54 : tkH → Option (tkH)) : Nat → tkH → Int32 → Option (tkH) :=
  lq1 (fun kk13 g13 y13_4 => if (g13 a1 0) ≤ y13_4 then (kx54 g13) else ((f_X8_isInHeap g13 a2 y2_3).bind fun x24 => if x24.1 = 0 then (kk13 x24.2 (y13_4 + 1)) else ((f_X8_isInHeap x24.2 a2 y13_4).bind fun x33 => if x33.1 = 0 then (kk13 x33.2 (y13_4 + 1)) else ((f_X2_between x33.2 a0 a1 y2_3 y13_4).bind fun x44 => kk13 x44.2 (y13_4 + 1)))))
noncomputable def f_X2_reckonHeap_L2 (a1 : Nat) (a2 : Int32) (a0 : Nat) : Nat → tkH → Int32 → Option (tkH) :=
  lq1 (fun kk2 g2 y2_3 => if (g2 a1 0) ≤ y2_3 then (some g2) else (f_X2_reckonHeap_L13 a1 a2 y2_3 a0 (fun gz54 => kk2 gz54 (y2_3 + 1)) FU g2 y2_3))
noncomputable def f_X2_reckonHeap (h : tkH) (a0 : Nat) (a1 : Nat) (a2 : Int32) : Option (tkH) :=
  f_X2_reckonHeap_L2 a1 a2 a0 FU h 0
noncomputable def f_X8_borrowed_J30 (a0 : Nat) : tkH → Option (Int32 × tkH) :=
  fun g30 => (f_X8_finding g30 a0 (-100001)).bind fun x33 => some (x33.1, x33.2)
noncomputable def f_X8_borrowed (h : tkH) (a0 : Nat) (a1 : Int32) (a2 : Int32) (a3 : Int32) : Option (Int32 × tkH) :=
  (f_X0_hasTale h (fld a0 0) a1).bind fun x5 => if x5.1 = 0 then (f_X8_borrowed_J30 a0 x5.2) else ((f_X0_hasTale x5.2 (fld a0 0) a2).bind fun x16 => if x16.1 = 0 then (f_X8_borrowed_J30 a0 x16.2) else ((f_X8_isWithin x16.2 a3 3).bind fun x24 => if x24.1 = 0 then (f_X8_borrowed_J30 a0 x24.2) else ((f_X1_find x24.2 (fld a0 4) (fld a0 0) a1 a2).bind fun x47 => if a3 = 0 then (some (x47 (fld a0 4) 2, x47)) else (if (x47 (fld a0 4) 2) = 0 then ((f_X8_finding x47 a0 (-100006)).bind fun x75 => some (x75.1, x75.2)) else (if a3 = 1 then (some (x47 (fld a0 4) 3, x47)) else (some (x47 (fld a0 4) 4, x47)))))))
noncomputable def f_X8_carried_J30 (a0 : Nat) : tkH → Option (Int32 × tkH) :=
  fun g30 => (f_X8_finding g30 a0 (-100001)).bind fun x33 => some (x33.1, x33.2)
noncomputable def f_X8_carried (h : tkH) (a0 : Nat) (a1 : Int32) (a2 : Int32) (a3 : Int32) : Option (Int32 × tkH) :=
  (f_X0_hasTale h (fld a0 0) a1).bind fun x5 => if x5.1 = 0 then (f_X8_carried_J30 a0 x5.2) else ((f_X0_hasTale x5.2 (fld a0 0) a2).bind fun x16 => if x16.1 = 0 then (f_X8_carried_J30 a0 x16.2) else ((f_X8_isWithin x16.2 a3 4).bind fun x24 => if x24.1 = 0 then (f_X8_carried_J30 a0 x24.2) else ((f_X2_layTales x24.2 (fld a0 2) (fld a0 0) a1 a2).bind fun x47 => (gk x47.1 7).bind fun _ => (f_X8_goal x47.2 ((x47.2) x47.1 9) a3).bind fun x54 => some (x54.1, x54.2))))
noncomputable def f_X8_cheapestBeside_J70 (kk8 : tkH → Int32 → Int32 → Int32 → Option (Int32 × tkH)) (y8_5 : Int32) (x54 : Int32 × tkH) : tkH → Option (Int32 × tkH) :=
  fun g70 => kk8 g70 y8_5 x54.1 (y8_5 + 1)
noncomputable def f_X8_cheapestBeside_J43 (a0 : Nat) (y8_5 : Int32) (a1 : Int32) (y8_3 : Int32) (kk8 : tkH → Int32 → Int32 → Int32 → Option (Int32 × tkH)) (y8_4 : Int32) : tkH → Option (Int32 × tkH) :=
  fun g43 => (f_X2_between g43 (fld a0 2) (fld a0 0) y8_5 a1).bind fun x54 => if y8_3 < 0 then (f_X8_cheapestBeside_J70 kk8 y8_5 x54 x54.2) else (if y8_4 ≤ x54.1 then (kk8 x54.2 y8_3 y8_4 (y8_5 + 1)) else (f_X8_cheapestBeside_J70 kk8 y8_5 x54 x54.2))
noncomputable def f_X8_cheapestBeside_L8 (a0 : Nat) (a1 : Int32) (a2 : Int32) : Nat → tkH → Int32 → Int32 → Int32 → Option (Int32 × tkH) :=
  lq3 (fun kk8 g8 y8_3 y8_4 y8_5 => if (g8 (fld a0 0) 0) ≤ y8_5 then (some (y8_3, g8)) else (if y8_5 = a1 then (kk8 g8 y8_3 y8_4 (y8_5 + 1)) else (if a2 = 0 then (f_X8_cheapestBeside_J43 a0 y8_5 a1 y8_3 kk8 y8_4 g8) else ((f_X0_couldReach g8 (fld a0 0) y8_5 a1).bind fun x37 => if x37.1 = 0 then (kk8 x37.2 y8_3 y8_4 (y8_5 + 1)) else (f_X8_cheapestBeside_J43 a0 y8_5 a1 y8_3 kk8 y8_4 x37.2)))))
noncomputable def f_X8_cheapestBeside (h : tkH) (a0 : Nat) (a1 : Int32) (a2 : Int32) : Option (Int32 × tkH) :=
  f_X8_cheapestBeside_L8 a0 a1 a2 FU h (-1) 0 0
noncomputable def f_X8_cost_J22 (a0 : Nat) : tkH → Option (Int32 × tkH) :=
  fun g22 => (f_X8_finding g22 a0 (-100001)).bind fun x25 => some (x25.1, x25.2)
noncomputable def f_X8_cost (h : tkH) (a0 : Nat) (a1 : Int32) (a2 : Int32) : Option (Int32 × tkH) :=
  (f_X0_hasTale h (fld a0 0) a1).bind fun x5 => if x5.1 = 0 then (f_X8_cost_J22 a0 x5.2) else ((f_X0_hasTale x5.2 (fld a0 0) a2).bind fun x16 => if x16.1 = 0 then (f_X8_cost_J22 a0 x16.2) else ((f_X2_between x16.2 (fld a0 2) (fld a0 0) a1 a2).bind fun x39 => some (x39.1, x39.2)))
noncomputable def f_X8_joined_J33 (a0 : Nat) : tkH → Option (Int32 × tkH) :=
  fun g33 => (f_X8_finding g33 a0 (-100001)).bind fun x36 => some (x36.1, x36.2)
noncomputable def f_X8_joined_J118 (kk60 : tkH → Int32 → Int32 → Int32 → Option (Int32 × tkH)) (y60_8 : Int32) (x80 : Int32 × tkH) (x100 : Int32 × tkH) : tkH → Option (Int32 × tkH) :=
  fun g118 => kk60 g118 y60_8 (x80.1 + x100.1) (y60_8 + 1)
noncomputable def f_X8_joined_L60 (v48 : Int32) (a0 : Nat) (a1 : Int32) (a2 : Int32) (a3 : Int32) (kx132 : tkH → Int32 → Int32 → Option (Int32 × tkH)) : Nat → tkH → Int32 → Int32 → Int32 → Option (Int32 × tkH) :=
  lq3 (fun kk60 g60 y60_6 y60_7 y60_8 => if v48 < y60_8 then (kx132 g60 y60_6 y60_7) else ((f_X2_ofPart g60 (fld a0 2) (fld a0 0) a1 0 y60_8 a2).bind fun x80 => (f_X2_ofPart x80.2 (fld a0 2) (fld a0 0) a1 y60_8 (v48 - y60_8) a3).bind fun x100 => if y60_8 = 0 then (f_X8_joined_J118 kk60 y60_8 x80 x100 x100.2) else (if y60_7 ≤ (x80.1 + x100.1) then (kk60 x100.2 y60_6 y60_7 (y60_8 + 1)) else (f_X8_joined_J118 kk60 y60_8 x80 x100 x100.2))))
noncomputable def f_X8_joined (h : tkH) (a0 : Nat) (a1 : Int32) (a2 : Int32) (a3 : Int32) (a4 : Int32) : Option (Int32 × tkH) :=
  (f_X0_hasTale h (fld a0 0) a1).bind fun x5 => if x5.1 = 0 then (f_X8_joined_J33 a0 x5.2) else ((f_X0_hasTale x5.2 (fld a0 0) a2).bind fun x16 => if x16.1 = 0 then (f_X8_joined_J33 a0 x16.2) else ((f_X0_hasTale x16.2 (fld a0 0) a3).bind fun x27 => if x27.1 = 0 then (f_X8_joined_J33 a0 x27.2) else ((rdI x27.2 (fld (fld a0 0) 5) a1).bind fun v48 => f_X8_joined_L60 v48 a0 a1 a2 a3 (fun gz132 z132_6 z132_7 => if a4 = 0 then (some (z132_6, gz132)) else (some (z132_7, gz132))) FU x27.2 0 0 0)))
noncomputable def f_X9_borrowed_J25 (a0 : Nat) : tkH → Option (Int32 × tkH) :=
  fun g25 => (f_X9_finding g25 a0 (-100001)).bind fun x28 => some (x28.1, x28.2)
noncomputable def f_X9_borrowed (h : tkH) (a0 : Nat) (a1 : Int32) (a2 : Int32) (a3 : Int32) : Option (Int32 × tkH) :=
  (f_X9_isTale h a0 a1).bind fun x2 => if x2.1 = 0 then (f_X9_borrowed_J25 a0 x2.2) else ((f_X9_isTale x2.2 a0 a2).bind fun x10 => if x10.1 = 0 then (f_X9_borrowed_J25 a0 x10.2) else ((f_X9_within x10.2 a3 0 2).bind fun x19 => if x19.1 = 0 then (f_X9_borrowed_J25 a0 x19.2) else ((f_X9_findPiece x19.2 a0 a1 a2).bind fun x35 => if a3 = 0 then (some (x35 a0 25, x35)) else (if (x35 a0 25) = 0 then ((f_X9_finding x35 a0 (-100006)).bind fun x57 => some (x57.1, x57.2)) else (if a3 = 1 then (some (x35 a0 26, x35)) else (some (x35 a0 27, x35)))))))
noncomputable def f_X9_partCost (h : tkH) (a0 : Nat) (a1 : Int32) (a2 : Int32) (a3 : Int32) (a4 : Int32) : Option (Int32 × tkH) :=
  (f_X9_takeOther (tkup (tkup (tkup (tkup h a0 8 a1) a0 9 a2) a0 10 a3) a0 11 0) a0 a4).bind fun x23 => (f_X9_leastCost x23 a0).bind fun x27 => some (x27.1, x27.2)
noncomputable def f_X9_takeTwo (h : tkH) (a0 : Nat) (a1 : Int32) (a2 : Int32) : Option (tkH) :=
  (f_X9_laidFrom (tkup h a0 8 a1) a0 a1).bind fun x8 => (f_X9_laidTo (tkup x8.2 a0 9 x8.1) a0 a1).bind fun x17 => (f_X9_isTorn (tkup x17.2 a0 10 x17.1) a0 a1).bind fun x26 => (bz x26.1).bind fun u29 => (f_X9_takeOther (tkup x26.2 a0 11 u29) a0 a2).bind fun x34 => some x34
noncomputable def f_X8_branch (h : tkH) (a0 : Nat) (a1 : Int32) (a2 : Int32) : Option (Int32 × tkH) :=
  (f_X8_heapRefusal h a0 a1).bind fun x2 => if 0 ≤ x2.1 then ((f_X2_reckonHeap x2.2 (fld a0 2) (fld a0 0) a1).bind fun x25 => (f_X7_grow x25 (fld a0 3) (fld (fld a0 2) 1) a1).bind fun x40 => (f_X8_isWithin x40 a2 (x40 (fld a0 3) 2)).bind fun x51 => if x51.1 = 0 then ((f_X8_finding x51.2 a0 (-100006)).bind fun x72 => some (x72.1, x72.2)) else ((rdI x51.2 (fld (fld a0 3) 1) a2).bind fun v65 => some (v65, x51.2))) else ((f_X8_finding x2.2 a0 x2.1).bind fun x12 => some (x12.1, x12.2))
noncomputable def f_X8_mould (h : tkH) (a0 : Nat) (a1 : Int32) : Option (Int32 × tkH) :=
  (f_X8_heapRefusal h a0 a1).bind fun x2 => if 0 ≤ x2.1 then ((f_X2_reckonHeap x2.2 (fld a0 2) (fld a0 0) a1).bind fun x25 => (f_X8_mouldOf x25 a0 a1).bind fun x30 => some (x30.1, x30.2)) else ((f_X8_finding x2.2 a0 x2.1).bind fun x12 => some (x12.1, x12.2))
noncomputable def f_X8_nearest (h : tkH) (a0 : Nat) (a1 : Int32) : Option (Int32 × tkH) :=
  (f_X0_hasTale h (fld a0 0) a1).bind fun x5 => if x5.1 = 0 then ((f_X8_finding x5.2 a0 (-100001)).bind fun x14 => some (x14.1, x14.2)) else ((f_X8_cheapestBeside x5.2 a0 a1 0).bind fun x21 => if 0 ≤ x21.1 then (some (x21.1, x21.2)) else ((f_X8_finding x21.2 a0 (-100006)).bind fun x32 => some (x32.1, x32.2)))
noncomputable def f_X8_pair_J23 (a0 : Nat) : tkH → Option (Int32 × tkH) :=
  fun g23 => (f_X8_finding g23 a0 (-100001)).bind fun x26 => some (x26.1, x26.2)
noncomputable def f_X8_pair (h : tkH) (a0 : Nat) (a1 : Int32) (a2 : Int32) (a3 : Int32) : Option (Int32 × tkH) :=
  (f_X0_hasStep h (fld a0 0) a1 a3).bind fun x6 => if x6.1 = 0 then (f_X8_pair_J23 a0 x6.2) else ((f_X0_hasTale x6.2 (fld a0 0) a2).bind fun x17 => if x17.1 = 0 then (f_X8_pair_J23 a0 x17.2) else ((f_X0_firstLaid x17.2 (fld a0 0) a1).bind fun x36 => (f_X0_laidLength x36.2 (fld a0 0) a1).bind fun x49 => (f_X8_isWithin x49.2 (a3 - x36.1) x49.1).bind fun x52 => if x52.1 = 0 then ((f_X8_finding x52.2 a0 (-100004)).bind fun x61 => some (x61.1, x61.2)) else ((f_X2_pairTales x52.2 (fld a0 2) (fld a0 0) a1 a2).bind fun x75 => (gk x75.1 7).bind fun _ => (rdI x75.2 (fld x75.1 4) (a3 - x36.1)).bind fun v83 => if 0 ≤ v83 then ((f_X0_firstLaid x75.2 (fld a0 0) a2).bind fun x102 => some (v83 + x102.1, x102.2)) else (some ((-1), x75.2)))))
noncomputable def f_X8_pairs_J22 (a0 : Nat) : tkH → Option (Int32 × tkH) :=
  fun g22 => (f_X8_finding g22 a0 (-100001)).bind fun x25 => some (x25.1, x25.2)
noncomputable def f_X8_pairs (h : tkH) (a0 : Nat) (a1 : Int32) (a2 : Int32) (a3 : Int32) : Option (Int32 × tkH) :=
  (f_X0_hasTale h (fld a0 0) a1).bind fun x5 => if x5.1 = 0 then (f_X8_pairs_J22 a0 x5.2) else ((f_X0_hasTale x5.2 (fld a0 0) a2).bind fun x16 => if x16.1 = 0 then (f_X8_pairs_J22 a0 x16.2) else ((f_X2_pairTales x16.2 (fld a0 2) (fld a0 0) a1 a2).bind fun x39 => (gk x39.1 7).bind fun _ => (f_X4_howManyPairs x39.2 x39.1 a3).bind fun x43 => some (x43.1, x43.2)))
noncomputable def f_X8_sourceOf (h : tkH) (a0 : Nat) (a1 : Int32) : Option (Int32 × tkH) :=
  (rdI h (fld (fld a0 0) 4) a1).bind fun v8 => if v8 < 0 then ((f_X8_cheapestBeside h a0 a1 1).bind fun x27 => some (x27.1, x27.2)) else ((rdI h (fld (fld a0 0) 4) a1).bind fun v20 => some (v20, h))
noncomputable def f_X8_spread (h : tkH) (a0 : Nat) (a1 : Int32) : Option (Int32 × tkH) :=
  (f_X8_heapRefusal h a0 a1).bind fun x2 => if 0 ≤ x2.1 then ((f_X2_reckonHeap x2.2 (fld a0 2) (fld a0 0) a1).bind fun x25 => (f_X8_mouldOf x25 a0 a1).bind fun x31 => (f_X8_sumOfCosts x31.2 a0 x31.1 a1).bind fun x35 => some (x35.1, x35.2)) else ((f_X8_finding x2.2 a0 x2.1).bind fun x12 => some (x12.1, x12.2))
noncomputable def f_X8_tree (h : tkH) (a0 : Nat) (a1 : Int32) : Option (Int32 × tkH) :=
  (f_X8_heapRefusal h a0 a1).bind fun x2 => if 0 ≤ x2.1 then ((f_X2_reckonHeap x2.2 (fld a0 2) (fld a0 0) a1).bind fun x25 => (f_X7_grow x25 (fld a0 3) (fld (fld a0 2) 1) a1).bind fun x40 => some (x40 (fld a0 3) 3, x40)) else ((f_X8_finding x2.2 a0 x2.1).bind fun x12 => some (x12.1, x12.2))
noncomputable def f_X9_costOf (h : tkH) (a0 : Nat) (a1 : Int32) (a2 : Int32) : Option (Int32 × tkH) :=
  (f_X9_takeTwo h a0 a1 a2).bind fun x3 => (f_X9_leastCost x3 a0).bind fun x7 => some (x7.1, x7.2)
noncomputable def f_X9_joined_J24 (a0 : Nat) : tkH → Option (Int32 × tkH) :=
  fun g24 => (f_X9_finding g24 a0 (-100001)).bind fun x27 => some (x27.1, x27.2)
noncomputable def f_X9_joined_L41 (a0 : Nat) (a1 : Int32) (a2 : Int32) (a3 : Int32) (kx105 : tkH → Int32 → Int32 → Option (Int32 × tkH)) : Nat → tkH → Int32 → Int32 → Int32 → Option (Int32 × tkH) :=
  lq3 (fun kk41 g41 y41_5 y41_6 y41_7 => (rdI g41 (fld a0 0) (70 + a1)).bind fun v51 => if v51 < y41_7 then (kx105 g41 y41_5 y41_6) else ((f_X9_partCost g41 a0 a1 0 y41_7 a2).bind fun x61 => (rdI x61.2 (fld a0 0) (70 + a1)).bind fun v76 => (f_X9_partCost x61.2 a0 a1 y41_7 v76 a3).bind fun x78 => if y41_6 ≤ (x61.1 + x78.1) then (kk41 x78.2 y41_5 y41_6 (y41_7 + 1)) else (kk41 x78.2 y41_7 (x61.1 + x78.1) (y41_7 + 1))))
noncomputable def f_X9_joined (h : tkH) (a0 : Nat) (a1 : Int32) (a2 : Int32) (a3 : Int32) (a4 : Int32) : Option (Int32 × tkH) :=
  (f_X9_isTale h a0 a1).bind fun x2 => if x2.1 = 0 then (f_X9_joined_J24 a0 x2.2) else ((f_X9_isTale x2.2 a0 a2).bind fun x10 => if x10.1 = 0 then (f_X9_joined_J24 a0 x10.2) else ((f_X9_isTale x10.2 a0 a3).bind fun x18 => if x18.1 = 0 then (f_X9_joined_J24 a0 x18.2) else (f_X9_joined_L41 a0 a1 a2 a3 (fun gz105 z105_5 z105_6 => if a4 = 0 then (some (z105_5, gz105)) else (some (z105_6, gz105))) FU x18.2 0 1000000 0)))
noncomputable def f_X8_first_L22 (a0 : Nat) (kx56 : tkH → Option (Int32 × tkH)) : Nat → tkH → Int32 → Int32 → Option (Int32 × tkH) :=
  lq2 (fun kk22 g22 y22_2 y22_3 => if (g22 (fld a0 0) 0) ≤ y22_3 then (kx56 g22) else ((f_X8_sourceOf g22 a0 y22_2).bind fun x35 => if 0 ≤ x35.1 then (kk22 x35.2 x35.1 (y22_3 + 1)) else (some (y22_2, x35.2))))
noncomputable def f_X8_first (h : tkH) (a0 : Nat) (a1 : Int32) : Option (Int32 × tkH) :=
  (f_X0_hasTale h (fld a0 0) a1).bind fun x5 => if x5.1 = 0 then ((f_X8_finding x5.2 a0 (-100001)).bind fun x14 => some (x14.1, x14.2)) else (f_X8_first_L22 a0 (fun gz56 => (f_X8_finding gz56 a0 (-100007)).bind fun x59 => some (x59.1, x59.2)) FU x5.2 a1 0)
noncomputable def f_X8_source (h : tkH) (a0 : Nat) (a1 : Int32) : Option (Int32 × tkH) :=
  (f_X0_hasTale h (fld a0 0) a1).bind fun x5 => if x5.1 = 0 then ((f_X8_finding x5.2 a0 (-100001)).bind fun x14 => some (x14.1, x14.2)) else ((f_X8_sourceOf x5.2 a0 a1).bind fun x20 => if 0 ≤ x20.1 then (some (x20.1, x20.2)) else ((f_X8_finding x20.2 a0 (-100006)).bind fun x31 => some (x31.1, x31.2)))
noncomputable def f_X9_carried_J23 (a0 : Nat) : tkH → Option (Int32 × tkH) :=
  fun g23 => (f_X9_finding g23 a0 (-100001)).bind fun x26 => some (x26.1, x26.2)
noncomputable def f_X9_carried (h : tkH) (a0 : Nat) (a1 : Int32) (a2 : Int32) (a3 : Int32) : Option (Int32 × tkH) :=
  (f_X9_isTale h a0 a1).bind fun x2 => if x2.1 = 0 then (f_X9_carried_J23 a0 x2.2) else ((f_X9_isTale x2.2 a0 a2).bind fun x10 => if x10.1 = 0 then (f_X9_carried_J23 a0 x10.2) else ((f_X9_isRole x10.2 a3).bind fun x17 => if x17.1 = 0 then (f_X9_carried_J23 a0 x17.2) else ((f_X9_costOf x17.2 a0 a1 a2).bind fun x33 => (f_X9_carry x33.2 a0 ((x33.2) a0 17)).bind fun x43 => (rdI x43 (fld a0 7) a3).bind fun v51 => some (v51, x43))))
noncomputable def f_X9_cost_J25 (a0 : Nat) : tkH → Option (Int32 × tkH) :=
  fun g25 => (f_X9_finding g25 a0 (-100001)).bind fun x28 => some (x28.1, x28.2)
noncomputable def f_X9_cost (h : tkH) (a0 : Nat) (a1 : Int32) (a2 : Int32) : Option (Int32 × tkH) :=
  (f_X9_isTale h a0 a1).bind fun x2 => if x2.1 = 0 then (f_X9_cost_J25 a0 x2.2) else ((f_X9_isTale x2.2 a0 a2).bind fun x10 => if x10.1 = 0 then (f_X9_cost_J25 a0 x10.2) else ((f_X9_costOf x10.2 a0 a1 a2).bind fun x19 => some (x19.1, x19.2)))
noncomputable def f_X9_findPairs_J270 (a0 : Nat) (kk90 : tkH → Int32 → Int32 → Int32 → Int32 → Int32 → Option (tkH)) (y90_3 : Int32) (y90_4 : Int32) (y90_5 : Int32) (y90_6 : Int32) (y90_7 : Int32) : tkH → Option (tkH) :=
  fun g270 => (rdI g270 (fld a0 0) 3).bind fun v276 => kk90 g270 (y90_3 - v276) y90_4 (y90_5 + 1) y90_6 y90_7
noncomputable def f_X9_findPairs_J250 (y90_7 : Int32) (a0 : Nat) (kk90 : tkH → Int32 → Int32 → Int32 → Int32 → Int32 → Option (tkH)) (y90_3 : Int32) (y90_4 : Int32) (y90_5 : Int32) (y90_6 : Int32) : tkH → Option (tkH) :=
  fun g250 => if y90_7 = 0 then (f_X9_findPairs_J270 a0 kk90 y90_3 y90_4 y90_5 y90_6 y90_7 g250) else (if (g250 a0 10) ≤ y90_4 then (f_X9_findPairs_J270 a0 kk90 y90_3 y90_4 y90_5 y90_6 y90_7 g250) else (kk90 g250 y90_3 y90_4 y90_5 0 y90_7))
noncomputable def f_X9_findPairs_J205 (a0 : Nat) (y90_4 : Int32) (y90_7 : Int32) (kk90 : tkH → Int32 → Int32 → Int32 → Int32 → Int32 → Option (tkH)) (y90_3 : Int32) (y90_5 : Int32) (y90_6 : Int32) : tkH → Option (tkH) :=
  fun g205 => if (g205 a0 10) ≤ y90_4 then (f_X9_findPairs_J250 y90_7 a0 kk90 y90_3 y90_4 y90_5 y90_6 g205) else ((rdI g205 (fld a0 0) 3).bind fun v219 => (f_X9_pairsLeft g205 a0 (y90_4 + 1) y90_5).bind fun x227 => if (v219 + x227.1) = y90_3 then ((rdI x227.2 (fld a0 0) 3).bind fun v241 => kk90 x227.2 (y90_3 - v241) (y90_4 + 1) y90_5 y90_6 y90_7) else (f_X9_findPairs_J250 y90_7 a0 kk90 y90_3 y90_4 y90_5 y90_6 x227.2))
noncomputable def f_X9_findPairs_J181 (a0 : Nat) (y90_4 : Int32) (y90_5 : Int32) (y90_3 : Int32) (x144 : Int32 × tkH) (kk90 : tkH → Int32 → Int32 → Int32 → Int32 → Int32 → Option (tkH)) : tkH → Int32 → Option (tkH) :=
  fun g181 t181_0 => (f_X9_endCost g181 a0 (y90_4 + 1) (y90_5 + 1)).bind fun x188 => if x188.1 = (y90_3 - x144.1) then (kk90 x188.2 (y90_3 - x144.1) (y90_4 + 1) (y90_5 + 1) t181_0 1) else (kk90 x188.2 (y90_3 - x144.1) (y90_4 + 1) (y90_5 + 1) t181_0 0)
noncomputable def f_X9_findPairs_L90 (a0 : Nat) : Nat → tkH → Int32 → Int32 → Int32 → Int32 → Int32 → Option (tkH) :=
  lq5 (fun kk90 g90 y90_3 y90_4 y90_5 y90_6 y90_7 => if y90_6 = 0 then (some g90) else (if (g90 a0 10) ≤ y90_4 then (f_X9_findPairs_J205 a0 y90_4 y90_7 kk90 y90_3 y90_5 y90_6 g90) else (if (g90 a0 14) ≤ y90_5 then (f_X9_findPairs_J205 a0 y90_4 y90_7 kk90 y90_3 y90_5 y90_6 g90) else ((f_X9_pairCost g90 a0 y90_4 y90_5).bind fun x118 => (f_X9_leastFrom x118.2 a0 (y90_4 + 1) (y90_5 + 1)).bind fun x130 => if (x118.1 + x130.1) = y90_3 then ((f_X9_pairCost x130.2 a0 y90_4 y90_5).bind fun x144 => (wrI x144.2 (fld a0 18) y90_4 y90_5).bind fun h157 => (f_X9_pairsLeft h157 a0 (y90_4 + 1) (y90_5 + 1)).bind fun x169 => if x169.1 = (y90_3 - x144.1) then (f_X9_findPairs_J181 a0 y90_4 y90_5 y90_3 x144 kk90 x169.2 1) else (f_X9_findPairs_J181 a0 y90_4 y90_5 y90_3 x144 kk90 x169.2 0)) else (f_X9_findPairs_J205 a0 y90_4 y90_7 kk90 y90_3 y90_5 y90_6 x130.2)))))
noncomputable def f_X9_findPairs_J88 (a0 : Nat) (x12 : Int32 × tkH) (gz40 : tkH) (t69_0 : Int32) : tkH → Int32 → Option (tkH) :=
  fun g88 t88_0 => f_X9_findPairs_L90 a0 FU g88 x12.1 (gz40 a0 9) (gz40 a0 13) t69_0 t88_0
noncomputable def f_X9_findPairs_J69 (a0 : Nat) (gz40 : tkH) (x12 : Int32 × tkH) : tkH → Int32 → Option (tkH) :=
  fun g69 t69_0 => (f_X9_endCost g69 a0 (gz40 a0 9) (gz40 a0 13)).bind fun x76 => if x76.1 = x12.1 then (f_X9_findPairs_J88 a0 x12 gz40 t69_0 x76.2 1) else (f_X9_findPairs_J88 a0 x12 gz40 t69_0 x76.2 0)
noncomputable def f_X9_findPairs_L19 (a0 : Nat) (kx40 : tkH → Option (tkH)) : Nat → tkH → Int32 → Option (tkH) :=
  lq1 (fun kk19 g19 y19_4 => if 10 ≤ y19_4 then (kx40 g19) else ((wrI g19 (fld a0 18) y19_4 (-1)).bind fun h33 => kk19 h33 (y19_4 + 1)))
noncomputable def f_X9_findPairs (h : tkH) (a0 : Nat) (a1 : Int32) (a2 : Int32) : Option (tkH) :=
  (f_X9_costOf h a0 a1 a2).bind fun x3 => (f_X9_layBy x3.2 a0 ((x3.2) a0 17)).bind fun x12 => f_X9_findPairs_L19 a0 (fun gz40 => (f_X9_pairsLeft gz40 a0 (gz40 a0 9) (gz40 a0 13)).bind fun x57 => if x57.1 = x12.1 then (f_X9_findPairs_J69 a0 gz40 x12 x57.2 1) else (f_X9_findPairs_J69 a0 gz40 x12 x57.2 0)) FU x12.2 0
noncomputable def f_X9_findTree_J171 (a0 : Nat) (y131_5 : Int32) (kk131 : tkH → Int32 → Option (tkH)) : tkH → Int32 → Option (tkH) :=
  fun g171 t171_0 => (wrI g171 (fld a0 21) y131_5 t171_0).bind fun h171 => kk131 h171 (y131_5 + 1)
noncomputable def f_X9_findTree_L131 (a0 : Nat) (v125 : Int32) (v115 : Int32) (kx178 : tkH → Option (tkH)) : Nat → tkH → Int32 → Option (tkH) :=
  lq1 (fun kk131 g131 y131_5 => (rdI g131 (fld a0 0) 0).bind fun v138 => if v138 ≤ y131_5 then (kx178 g131) else ((rdI g131 (fld a0 21) y131_5).bind fun v154 => if v154 = v125 then (f_X9_findTree_J171 a0 y131_5 kk131 g131 v115) else ((rdI g131 (fld a0 21) y131_5).bind fun v170 => f_X9_findTree_J171 a0 y131_5 kk131 g131 v170)))
noncomputable def f_X9_findTree_L103 (a0 : Nat) : Nat → tkH → Int32 → Option (tkH) :=
  lq1 (fun kk103 g103 y103_2 => if y103_2 < 0 then (some g103) else ((rdI g103 (fld a0 21) (y103_2 / 10)).bind fun v115 => (rdI g103 (fld a0 21) (y103_2 - y103_2 / 10 * 10)).bind fun v125 => f_X9_findTree_L131 a0 v125 v115 (fun gz178 => (wrI gz178 (fld a0 22) (gz178 a0 23) ((16 * (y103_2 / 10)) + (y103_2 - y103_2 / 10 * 10))).bind fun h198 => (rdI (tkup h198 a0 23 ((h198 a0 23) + 1)) (fld a0 20) y103_2).bind fun v219 => (f_X9_nextBranch (tkup (tkup h198 a0 23 ((h198 a0 23) + 1)) a0 24 (((tkup h198 a0 23 ((h198 a0 23) + 1)) a0 24) + v219)) a0).bind fun x225 => kk103 x225.2 x225.1) FU g103 0))
noncomputable def f_X9_findTree_J75 (a0 : Nat) (y2_2 : Int32) (y23_3 : Int32) (kk23 : tkH → Int32 → Option (tkH)) : tkH → Int32 → Option (tkH) :=
  fun g75 t75_0 => (wrI g75 (fld a0 20) ((10 * y2_2) + y23_3) t75_0).bind fun h75 => kk23 h75 (y23_3 + 1)
noncomputable def f_X9_findTree_L23 (a0 : Nat) (a1 : Int32) (y2_2 : Int32) (kx82 : tkH → Option (tkH)) : Nat → tkH → Int32 → Option (tkH) :=
  lq1 (fun kk23 g23 y23_3 => (rdI g23 (fld a0 0) 0).bind fun v29 => if v29 ≤ y23_3 then (kx82 g23) else (if (((a1 >>> (y2_2 &&& 31)) &&& (a1 >>> (y23_3 &&& 31))) &&& 1) = 1 then ((f_X9_costOf g23 a0 y2_2 y23_3).bind fun x59 => (f_X9_costOf x59.2 a0 y23_3 y2_2).bind fun x65 => f_X9_findTree_J75 a0 y2_2 y23_3 kk23 x65.2 (mnI x59.1 x65.1)) else (f_X9_findTree_J75 a0 y2_2 y23_3 kk23 g23 (-1))))
noncomputable def f_X9_findTree_L2 (a0 : Nat) (a1 : Int32) (kx88 : tkH → Option (tkH)) : Nat → tkH → Int32 → Option (tkH) :=
  lq1 (fun kk2 g2 y2_2 => (rdI g2 (fld a0 0) 0).bind fun v8 => if v8 ≤ y2_2 then (kx88 g2) else ((wrI g2 (fld a0 21) y2_2 y2_2).bind fun h18 => f_X9_findTree_L23 a0 a1 y2_2 (fun gz82 => kk2 gz82 (y2_2 + 1)) FU h18 (y2_2 + 1)))
noncomputable def f_X9_findTree (h : tkH) (a0 : Nat) (a1 : Int32) : Option (tkH) :=
  f_X9_findTree_L2 a0 a1 (fun gz88 => (f_X9_nextBranch (tkup (tkup gz88 a0 23 0) a0 24 0) a0).bind fun x99 => f_X9_findTree_L103 a0 FU x99.2 x99.1) FU h 0
noncomputable def f_X9_nearest_J69 (kk22 : tkH → Int32 → Int32 → Int32 → Option (Int32 × tkH)) (y22_4 : Int32) (t51_0 : Int32) : tkH → Option (Int32 × tkH) :=
  fun g69 => kk22 g69 y22_4 t51_0 (y22_4 + 1)
noncomputable def f_X9_nearest_J51 (y22_4 : Int32) (a1 : Int32) (kk22 : tkH → Int32 → Int32 → Int32 → Option (Int32 × tkH)) (y22_2 : Int32) (y22_3 : Int32) : tkH → Int32 → Option (Int32 × tkH) :=
  fun g51 t51_0 => if y22_4 = a1 then (kk22 g51 y22_2 y22_3 (y22_4 + 1)) else (if y22_2 < 0 then (f_X9_nearest_J69 kk22 y22_4 t51_0 g51) else (if y22_3 ≤ t51_0 then (kk22 g51 y22_2 y22_3 (y22_4 + 1)) else (f_X9_nearest_J69 kk22 y22_4 t51_0 g51)))
noncomputable def f_X9_nearest_L22 (a0 : Nat) (a1 : Int32) (kx81 : tkH → Int32 → Option (Int32 × tkH)) : Nat → tkH → Int32 → Int32 → Int32 → Option (Int32 × tkH) :=
  lq3 (fun kk22 g22 y22_2 y22_3 y22_4 => (rdI g22 (fld a0 0) 0).bind fun v29 => if v29 ≤ y22_4 then (kx81 g22 y22_2) else (if y22_4 = a1 then (f_X9_nearest_J51 y22_4 a1 kk22 y22_2 y22_3 g22 1000000) else ((f_X9_costOf g22 a0 y22_4 a1).bind fun x48 => f_X9_nearest_J51 y22_4 a1 kk22 y22_2 y22_3 x48.2 x48.1)))
noncomputable def f_X9_nearest (h : tkH) (a0 : Nat) (a1 : Int32) : Option (Int32 × tkH) :=
  (f_X9_isTale h a0 a1).bind fun x2 => if x2.1 = 0 then ((f_X9_finding x2.2 a0 (-100001)).bind fun x11 => some (x11.1, x11.2)) else (f_X9_nearest_L22 a0 a1 (fun gz81 z81_2 => if 0 ≤ z81_2 then (some (z81_2, gz81)) else ((f_X9_finding gz81 a0 (-100006)).bind fun x88 => some (x88.1, x88.2))) FU x2.2 (-1) 0 0)
noncomputable def f_X9_sourceOf_J143 (kk29 : tkH → Int32 → Int32 → Int32 → Option (Int32 × tkH)) (y29_4 : Int32) (x128 : Int32 × tkH) : tkH → Option (Int32 × tkH) :=
  fun g143 => kk29 g143 y29_4 x128.1 (y29_4 + 1)
noncomputable def f_X9_sourceOf_L29 (a0 : Nat) (a1 : Int32) : Nat → tkH → Int32 → Int32 → Int32 → Option (Int32 × tkH) :=
  lq3 (fun kk29 g29 y29_2 y29_3 y29_4 => (rdI g29 (fld a0 0) 0).bind fun v36 => if v36 ≤ y29_4 then (some (y29_2, g29)) else ((rdI g29 (fld a0 0) (60 + y29_4)).bind fun v49 => (rdI g29 (fld a0 0) (50 + y29_4)).bind fun v70 => (rdI g29 (fld a0 0) (50 + a1)).bind fun v81 => (rdI g29 (fld a0 0) ((4 + (6 * v70)) + v81)).bind fun v83 => if y29_4 = a1 then (kk29 g29 y29_2 y29_3 (y29_4 + 1)) else ((rdI g29 (fld a0 0) (60 + a1)).bind fun v103 => if v103 ≤ v49 then (kk29 g29 y29_2 y29_3 (y29_4 + 1)) else ((rdI g29 (fld a0 0) (60 + a1)).bind fun v117 => if (v49 + v83) ≤ v117 then ((f_X9_costOf g29 a0 y29_4 a1).bind fun x128 => if y29_2 < 0 then (f_X9_sourceOf_J143 kk29 y29_4 x128 x128.2) else (if y29_3 ≤ x128.1 then (kk29 x128.2 y29_2 y29_3 (y29_4 + 1)) else (f_X9_sourceOf_J143 kk29 y29_4 x128 x128.2))) else (kk29 g29 y29_2 y29_3 (y29_4 + 1))))))
noncomputable def f_X9_sourceOf (h : tkH) (a0 : Nat) (a1 : Int32) : Option (Int32 × tkH) :=
  (rdI h (fld a0 0) (80 + a1)).bind fun v8 => if v8 < 0 then (f_X9_sourceOf_L29 a0 a1 FU h (-1) 0 0) else ((rdI h (fld a0 0) (80 + a1)).bind fun v20 => some (v20, h))
noncomputable def f_X9_sumOf_L5 (a0 : Nat) (a2 : Int32) (a1 : Int32) : Nat → tkH → Int32 → Int32 → Option (Int32 × tkH) :=
  lq2 (fun kk5 g5 y5_3 y5_4 => (rdI g5 (fld a0 0) 0).bind fun v12 => if v12 ≤ y5_4 then (some (y5_3, g5)) else (if ((a2 >>> (y5_4 &&& 31)) &&& 1) = 1 then ((f_X9_costOf g5 a0 a1 y5_4).bind fun x31 => kk5 x31.2 (y5_3 + x31.1) (y5_4 + 1)) else (kk5 g5 (y5_3 + 0) (y5_4 + 1))))
noncomputable def f_X9_sumOf (h : tkH) (a0 : Nat) (a1 : Int32) (a2 : Int32) : Option (Int32 × tkH) :=
  f_X9_sumOf_L5 a0 a2 a1 FU h 0 0
noncomputable def f_X9_branch (h : tkH) (a0 : Nat) (a1 : Int32) (a2 : Int32) : Option (Int32 × tkH) :=
  (f_X9_noHeap h a0 a1).bind fun x2 => if x2.1 = 0 then ((f_X9_findTree x2.2 a0 a1).bind fun x20 => (f_X9_within x20 a2 0 ((x20 a0 23) - 1)).bind fun x31 => if x31.1 = 0 then ((f_X9_finding x31.2 a0 (-100006)).bind fun x49 => some (x49.1, x49.2)) else ((rdI x31.2 (fld a0 22) a2).bind fun v42 => some (v42, x31.2))) else ((f_X9_noHeap x2.2 a0 a1).bind fun x11 => (f_X9_finding x11.2 a0 x11.1).bind fun x14 => some (x14.1, x14.2))
noncomputable def f_X9_first_L19 (a0 : Nat) (kx48 : tkH → Option (Int32 × tkH)) : Nat → tkH → Int32 → Int32 → Option (Int32 × tkH) :=
  lq2 (fun kk19 g19 y19_2 y19_3 => if 10 < y19_3 then (kx48 g19) else ((f_X9_sourceOf g19 a0 y19_2).bind fun x27 => if 0 ≤ x27.1 then (kk19 x27.2 x27.1 (y19_3 + 1)) else (some (y19_2, x27.2))))
noncomputable def f_X9_first (h : tkH) (a0 : Nat) (a1 : Int32) : Option (Int32 × tkH) :=
  (f_X9_isTale h a0 a1).bind fun x2 => if x2.1 = 0 then ((f_X9_finding x2.2 a0 (-100001)).bind fun x11 => some (x11.1, x11.2)) else (f_X9_first_L19 a0 (fun gz48 => (f_X9_finding gz48 a0 (-100007)).bind fun x51 => some (x51.1, x51.2)) FU x2.2 a1 0)
noncomputable def f_X9_mouldOf_J51 (kk9 : tkH → Int32 → Int32 → Option (Int32 × tkH)) (a0 : Nat) (x33 : Int32 × tkH) (y9_3 : Int32) : tkH → Option (Int32 × tkH) :=
  fun g51 => kk9 (tkup g51 a0 19 x33.1) y9_3 (y9_3 + 1)
noncomputable def f_X9_mouldOf_L9 (a0 : Nat) (a1 : Int32) : Nat → tkH → Int32 → Int32 → Option (Int32 × tkH) :=
  lq2 (fun kk9 g9 y9_2 y9_3 => (rdI g9 (fld a0 0) 0).bind fun v15 => if v15 ≤ y9_3 then (some (y9_2, g9)) else (if ((a1 >>> (y9_3 &&& 31)) &&& 1) = 0 then (kk9 g9 y9_2 (y9_3 + 1)) else ((f_X9_sumOf g9 a0 y9_3 a1).bind fun x33 => if y9_2 < 0 then (f_X9_mouldOf_J51 kk9 a0 x33 y9_3 x33.2) else (if ((x33.2) a0 19) ≤ x33.1 then (kk9 x33.2 y9_2 (y9_3 + 1)) else (f_X9_mouldOf_J51 kk9 a0 x33 y9_3 x33.2)))))
noncomputable def f_X9_mouldOf (h : tkH) (a0 : Nat) (a1 : Int32) : Option (Int32 × tkH) :=
  f_X9_mouldOf_L9 a0 a1 FU (tkup h a0 19 0) (-1) 0
noncomputable def f_X9_pair_J25 (a0 : Nat) : tkH → Option (Int32 × tkH) :=
  fun g25 => (f_X9_finding g25 a0 (-100001)).bind fun x28 => some (x28.1, x28.2)
noncomputable def f_X9_pair (h : tkH) (a0 : Nat) (a1 : Int32) (a2 : Int32) (a3 : Int32) : Option (Int32 × tkH) :=
  (f_X9_isTale h a0 a1).bind fun x2 => if x2.1 = 0 then (f_X9_pair_J25 a0 x2.2) else ((f_X9_isTale x2.2 a0 a2).bind fun x10 => if x10.1 = 0 then (f_X9_pair_J25 a0 x10.2) else ((f_X9_isStep x10.2 a0 a1 a3).bind fun x19 => if x19.1 = 0 then (f_X9_pair_J25 a0 x19.2) else ((f_X9_laidFrom x19.2 a0 a1).bind fun x35 => (f_X9_laidTo x35.2 a0 a1).bind fun x40 => (f_X9_within x40.2 a3 x35.1 (x40.1 - 1)).bind fun x45 => if x45.1 = 0 then ((f_X9_finding x45.2 a0 (-100004)).bind fun x54 => some (x54.1, x54.2)) else ((f_X9_findPairs x45.2 a0 a1 a2).bind fun x61 => (rdI x61 (fld a0 18) a3).bind fun v69 => some (v69, x61)))))
noncomputable def f_X9_pairs_J16 (a0 : Nat) : tkH → Option (Int32 × tkH) :=
  fun g16 => (f_X9_finding g16 a0 (-100001)).bind fun x19 => some (x19.1, x19.2)
noncomputable def f_X9_pairs_J82 (kk35 : tkH → Int32 → Int32 → Option (Int32 × tkH)) (y35_4 : Int32) (y35_5 : Int32) : tkH → Option (Int32 × tkH) :=
  fun g82 => kk35 g82 (y35_4 + 1) (y35_5 + 1)
noncomputable def f_X9_pairs_L35 (a0 : Nat) (a3 : Int32) (a1 : Int32) (a2 : Int32) : Nat → tkH → Int32 → Int32 → Option (Int32 × tkH) :=
  lq2 (fun kk35 g35 y35_4 y35_5 => if 10 ≤ y35_5 then (some (y35_4, g35)) else ((rdI g35 (fld a0 18) y35_5).bind fun v50 => if v50 < 0 then (kk35 g35 (y35_4 + 0) (y35_5 + 1)) else (if a3 = 0 then (f_X9_pairs_J82 kk35 y35_4 y35_5 g35) else ((f_X9_stepOf g35 a0 a1 y35_5 0).bind fun x63 => (rdI x63.2 (fld a0 18) y35_5).bind fun v74 => (f_X9_stepOf x63.2 a0 a2 v74 0).bind fun x76 => if x63.1 = x76.1 then (f_X9_pairs_J82 kk35 y35_4 y35_5 x76.2) else (kk35 x76.2 (y35_4 + 0) (y35_5 + 1))))))
noncomputable def f_X9_pairs (h : tkH) (a0 : Nat) (a1 : Int32) (a2 : Int32) (a3 : Int32) : Option (Int32 × tkH) :=
  (f_X9_isTale h a0 a1).bind fun x2 => if x2.1 = 0 then (f_X9_pairs_J16 a0 x2.2) else ((f_X9_isTale x2.2 a0 a2).bind fun x10 => if x10.1 = 0 then (f_X9_pairs_J16 a0 x10.2) else ((f_X9_findPairs x10.2 a0 a1 a2).bind fun x26 => f_X9_pairs_L35 a0 a3 a1 a2 FU x26 0 0))
noncomputable def f_X9_source (h : tkH) (a0 : Nat) (a1 : Int32) : Option (Int32 × tkH) :=
  (f_X9_isTale h a0 a1).bind fun x2 => if x2.1 = 0 then ((f_X9_finding x2.2 a0 (-100001)).bind fun x11 => some (x11.1, x11.2)) else ((f_X9_sourceOf x2.2 a0 a1).bind fun x17 => if 0 ≤ x17.1 then (some (x17.1, x17.2)) else ((f_X9_finding x17.2 a0 (-100006)).bind fun x28 => some (x28.1, x28.2)))
noncomputable def f_X9_tree (h : tkH) (a0 : Nat) (a1 : Int32) : Option (Int32 × tkH) :=
  (f_X9_noHeap h a0 a1).bind fun x2 => if x2.1 = 0 then ((f_X9_findTree x2.2 a0 a1).bind fun x20 => some (x20 a0 24, x20)) else ((f_X9_noHeap x2.2 a0 a1).bind fun x11 => (f_X9_finding x11.2 a0 x11.1).bind fun x14 => some (x14.1, x14.2))
noncomputable def f_X9_mould (h : tkH) (a0 : Nat) (a1 : Int32) : Option (Int32 × tkH) :=
  (f_X9_noHeap h a0 a1).bind fun x2 => if x2.1 = 0 then ((f_X9_mouldOf x2.2 a0 a1).bind fun x22 => some (x22.1, x22.2)) else ((f_X9_noHeap x2.2 a0 a1).bind fun x11 => (f_X9_finding x11.2 a0 x11.1).bind fun x14 => some (x14.1, x14.2))
noncomputable def f_X9_spread (h : tkH) (a0 : Nat) (a1 : Int32) : Option (Int32 × tkH) :=
  (f_X9_noHeap h a0 a1).bind fun x2 => if x2.1 = 0 then ((f_X9_mouldOf x2.2 a0 a1).bind fun x20 => some ((x20.2) a0 19, x20.2)) else ((f_X9_noHeap x2.2 a0 a1).bind fun x11 => (f_X9_finding x11.2 a0 x11.1).bind fun x14 => some (x14.1, x14.2))
