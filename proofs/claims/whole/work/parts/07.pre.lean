theorem cB_6 : (Int8.ofInt (6)).toInt32 = 6 := by decide +kernel
theorem cB_8 : (Int8.ofInt (8)).toInt32 = 8 := by decide +kernel
theorem cB_9 : (Int8.ofInt (9)).toInt32 = 9 := by decide +kernel
theorem cB_10 : (Int8.ofInt (10)).toInt32 = 10 := by decide +kernel
theorem cB_11 : (Int8.ofInt (11)).toInt32 = 11 := by decide +kernel
theorem cB_12 : (Int8.ofInt (12)).toInt32 = 12 := by decide +kernel
theorem cB_15 : (Int8.ofInt (15)).toInt32 = 15 := by decide +kernel
theorem cB_16 : (Int8.ofInt (16)).toInt32 = 16 := by decide +kernel
theorem cB_19 : (Int8.ofInt (19)).toInt32 = 19 := by decide +kernel
theorem cB_20 : (Int8.ofInt (20)).toInt32 = 20 := by decide +kernel
theorem cB_24 : (Int8.ofInt (24)).toInt32 = 24 := by decide +kernel
theorem cB_30 : (Int8.ofInt (30)).toInt32 = 30 := by decide +kernel
theorem cB_32 : (Int8.ofInt (32)).toInt32 = 32 := by decide +kernel
theorem cB_36 : (Int8.ofInt (36)).toInt32 = 36 := by decide +kernel
theorem cB_40 : (Int8.ofInt (40)).toInt32 = 40 := by decide +kernel
theorem cB_50 : (Int8.ofInt (50)).toInt32 = 50 := by decide +kernel
theorem cB_60 : (Int8.ofInt (60)).toInt32 = 60 := by decide +kernel
theorem cB_63 : (Int8.ofInt (63)).toInt32 = 63 := by decide +kernel
theorem cB_70 : (Int8.ofInt (70)).toInt32 = 70 := by decide +kernel
theorem cB_80 : (Int8.ofInt (80)).toInt32 = 80 := by decide +kernel
theorem cB_90 : (Int8.ofInt (90)).toInt32 = 90 := by decide +kernel
theorem cB_100 : (Int8.ofInt (100)).toInt32 = 100 := by decide +kernel
theorem cI_m1 : Int32.ofInt (-1) = (-1) := by decide +kernel
theorem ci_m1 (x : Int32) : x + Int32.ofInt (-1) = x + (-1) := by rw [cI_m1]
theorem cI_0 : Int32.ofInt (0) = 0 := by decide +kernel
theorem ci_0 (x : Int32) : x + Int32.ofInt (0) = x + 0 := by rw [cI_0]
theorem cI_1 : Int32.ofInt (1) = 1 := by decide +kernel
theorem ci_1 (x : Int32) : x + Int32.ofInt (1) = x + 1 := by rw [cI_1]
theorem cI_2 : Int32.ofInt (2) = 2 := by decide +kernel
theorem ci_2 (x : Int32) : x + Int32.ofInt (2) = x + 2 := by rw [cI_2]
theorem cI_3 : Int32.ofInt (3) = 3 := by decide +kernel
theorem ci_3 (x : Int32) : x + Int32.ofInt (3) = x + 3 := by rw [cI_3]
theorem cI_4 : Int32.ofInt (4) = 4 := by decide +kernel
theorem ci_4 (x : Int32) : x + Int32.ofInt (4) = x + 4 := by rw [cI_4]
theorem cI_5 : Int32.ofInt (5) = 5 := by decide +kernel
theorem ci_5 (x : Int32) : x + Int32.ofInt (5) = x + 5 := by rw [cI_5]
theorem cS_240 : (Int16.ofInt (240)).toInt32 = 240 := by decide +kernel
theorem cS_255 : (Int16.ofInt (255)).toInt32 = 255 := by decide +kernel
theorem cS_390 : (Int16.ofInt (390)).toInt32 = 390 := by decide +kernel
theorem cS_999 : (Int16.ofInt (999)).toInt32 = 999 := by decide +kernel
theorem cS_1000 : (Int16.ofInt (1000)).toInt32 = 1000 := by decide +kernel
theorem cS_7410 : (Int16.ofInt (7410)).toInt32 = 7410 := by decide +kernel
theorem gI_0_0 : nF 0 = 9 ∧ 0 < 10 ∧ 0 < 9 ∧ ftg 0 0 = 100 := by decide +kernel
theorem gP_0_0 : nF 0 = 9 ∧ 0 < 10 ∧ 0 < 9 ∧ ftg 0 0 = 100 ∧ (TX0 0).2.2.2 = false ∧ parseFieldDescriptor (TX0 0).2.2.1 = some .int := by decide +kernel
theorem gR_0_1 : nF 0 = 9 ∧ 0 < 10 ∧ 1 < 9 ∧ ftg 0 1 ≠ 100 := by decide +kernel
theorem kF_0_1 {k : Nat} (h : kd k = 3) : kd (fld k 1) = 0 := tk_fk (c := 0) h (by decide) (by decide +kernel) (by decide +kernel) (by decide)
theorem gR_0_2 : nF 0 = 9 ∧ 0 < 10 ∧ 2 < 9 ∧ ftg 0 2 ≠ 100 := by decide +kernel
theorem kF_0_2 {k : Nat} (h : kd k = 3) : kd (fld k 2) = 0 := tk_fk (c := 0) h (by decide) (by decide +kernel) (by decide +kernel) (by decide)
theorem gR_0_3 : nF 0 = 9 ∧ 0 < 10 ∧ 3 < 9 ∧ ftg 0 3 ≠ 100 := by decide +kernel
theorem kF_0_3 {k : Nat} (h : kd k = 3) : kd (fld k 3) = 0 := tk_fk (c := 0) h (by decide) (by decide +kernel) (by decide +kernel) (by decide)
theorem gR_0_4 : nF 0 = 9 ∧ 0 < 10 ∧ 4 < 9 ∧ ftg 0 4 ≠ 100 := by decide +kernel
theorem kF_0_4 {k : Nat} (h : kd k = 3) : kd (fld k 4) = 0 := tk_fk (c := 0) h (by decide) (by decide +kernel) (by decide +kernel) (by decide)
theorem gR_0_5 : nF 0 = 9 ∧ 0 < 10 ∧ 5 < 9 ∧ ftg 0 5 ≠ 100 := by decide +kernel
theorem kF_0_5 {k : Nat} (h : kd k = 3) : kd (fld k 5) = 0 := tk_fk (c := 0) h (by decide) (by decide +kernel) (by decide +kernel) (by decide)
theorem gR_0_6 : nF 0 = 9 ∧ 0 < 10 ∧ 6 < 9 ∧ ftg 0 6 ≠ 100 := by decide +kernel
theorem kF_0_6 {k : Nat} (h : kd k = 3) : kd (fld k 6) = 0 := tk_fk (c := 0) h (by decide) (by decide +kernel) (by decide +kernel) (by decide)
theorem gR_0_7 : nF 0 = 9 ∧ 0 < 10 ∧ 7 < 9 ∧ ftg 0 7 ≠ 100 := by decide +kernel
theorem kF_0_7 {k : Nat} (h : kd k = 3) : kd (fld k 7) = 0 := tk_fk (c := 0) h (by decide) (by decide +kernel) (by decide +kernel) (by decide)
theorem gR_0_8 : nF 0 = 9 ∧ 0 < 10 ∧ 8 < 9 ∧ ftg 0 8 ≠ 100 := by decide +kernel
theorem kF_0_8 {k : Nat} (h : kd k = 3) : kd (fld k 8) = 0 := tk_fk (c := 0) h (by decide) (by decide +kernel) (by decide +kernel) (by decide)
theorem gR_1_0 : nF 1 = 5 ∧ 1 < 10 ∧ 0 < 5 ∧ ftg 1 0 ≠ 100 := by decide +kernel
theorem kF_1_0 {k : Nat} (h : kd k = 4) : kd (fld k 0) = 0 := tk_fk (c := 1) h (by decide) (by decide +kernel) (by decide +kernel) (by decide)
theorem gR_1_1 : nF 1 = 5 ∧ 1 < 10 ∧ 1 < 5 ∧ ftg 1 1 ≠ 100 := by decide +kernel
theorem kF_1_1 {k : Nat} (h : kd k = 4) : kd (fld k 1) = 0 := tk_fk (c := 1) h (by decide) (by decide +kernel) (by decide +kernel) (by decide)
theorem gI_1_2 : nF 1 = 5 ∧ 1 < 10 ∧ 2 < 5 ∧ ftg 1 2 = 100 := by decide +kernel
theorem gP_1_2 : nF 1 = 5 ∧ 1 < 10 ∧ 2 < 5 ∧ ftg 1 2 = 100 ∧ (TX1 2).2.2.2 = false ∧ parseFieldDescriptor (TX1 2).2.2.1 = some .int := by decide +kernel
theorem gI_1_3 : nF 1 = 5 ∧ 1 < 10 ∧ 3 < 5 ∧ ftg 1 3 = 100 := by decide +kernel
theorem gP_1_3 : nF 1 = 5 ∧ 1 < 10 ∧ 3 < 5 ∧ ftg 1 3 = 100 ∧ (TX1 3).2.2.2 = false ∧ parseFieldDescriptor (TX1 3).2.2.1 = some .int := by decide +kernel
theorem gI_1_4 : nF 1 = 5 ∧ 1 < 10 ∧ 4 < 5 ∧ ftg 1 4 = 100 := by decide +kernel
theorem gP_1_4 : nF 1 = 5 ∧ 1 < 10 ∧ 4 < 5 ∧ ftg 1 4 = 100 ∧ (TX1 4).2.2.2 = false ∧ parseFieldDescriptor (TX1 4).2.2.1 = some .int := by decide +kernel
theorem gR_2_0 : nF 2 = 2 ∧ 2 < 10 ∧ 0 < 2 ∧ ftg 2 0 ≠ 100 := by decide +kernel
theorem kF_2_0 {k : Nat} (h : kd k = 5) : kd (fld k 0) = 7 := tk_fk (c := 2) h (by decide) (by decide +kernel) (by decide +kernel) (by decide)
theorem gR_2_1 : nF 2 = 2 ∧ 2 < 10 ∧ 1 < 2 ∧ ftg 2 1 ≠ 100 := by decide +kernel
theorem kF_2_1 {k : Nat} (h : kd k = 5) : kd (fld k 1) = 0 := tk_fk (c := 2) h (by decide) (by decide +kernel) (by decide +kernel) (by decide)
theorem gR_3_0 : nF 3 = 3 ∧ 3 < 10 ∧ 0 < 3 ∧ ftg 3 0 ≠ 100 := by decide +kernel
theorem kF_3_0 {k : Nat} (h : kd k = 6) : kd (fld k 0) = 1 := tk_fk (c := 3) h (by decide) (by decide +kernel) (by decide +kernel) (by decide)
theorem gI_3_1 : nF 3 = 3 ∧ 3 < 10 ∧ 1 < 3 ∧ ftg 3 1 = 100 := by decide +kernel
theorem gP_3_1 : nF 3 = 3 ∧ 3 < 10 ∧ 1 < 3 ∧ ftg 3 1 = 100 ∧ (TX3 1).2.2.2 = false ∧ parseFieldDescriptor (TX3 1).2.2.1 = some .int := by decide +kernel
theorem gI_3_2 : nF 3 = 3 ∧ 3 < 10 ∧ 2 < 3 ∧ ftg 3 2 = 100 := by decide +kernel
theorem gP_3_2 : nF 3 = 3 ∧ 3 < 10 ∧ 2 < 3 ∧ ftg 3 2 = 100 ∧ (TX3 2).2.2.2 = false ∧ parseFieldDescriptor (TX3 2).2.2.1 = some .int := by decide +kernel
theorem gR_4_0 : nF 4 = 10 ∧ 4 < 10 ∧ 0 < 10 ∧ ftg 4 0 ≠ 100 := by decide +kernel
theorem kF_4_0 {k : Nat} (h : kd k = 7) : kd (fld k 0) = 8 := tk_fk (c := 4) h (by decide) (by decide +kernel) (by decide +kernel) (by decide)
theorem gR_4_1 : nF 4 = 10 ∧ 4 < 10 ∧ 1 < 10 ∧ ftg 4 1 ≠ 100 := by decide +kernel
theorem kF_4_1 {k : Nat} (h : kd k = 7) : kd (fld k 1) = 8 := tk_fk (c := 4) h (by decide) (by decide +kernel) (by decide +kernel) (by decide)
theorem gR_4_2 : nF 4 = 10 ∧ 4 < 10 ∧ 2 < 10 ∧ ftg 4 2 ≠ 100 := by decide +kernel
theorem kF_4_2 {k : Nat} (h : kd k = 7) : kd (fld k 2) = 0 := tk_fk (c := 4) h (by decide) (by decide +kernel) (by decide +kernel) (by decide)
theorem gR_4_3 : nF 4 = 10 ∧ 4 < 10 ∧ 3 < 10 ∧ ftg 4 3 ≠ 100 := by decide +kernel
theorem kF_4_3 {k : Nat} (h : kd k = 7) : kd (fld k 3) = 0 := tk_fk (c := 4) h (by decide) (by decide +kernel) (by decide +kernel) (by decide)
theorem gR_4_4 : nF 4 = 10 ∧ 4 < 10 ∧ 4 < 10 ∧ ftg 4 4 ≠ 100 := by decide +kernel
theorem kF_4_4 {k : Nat} (h : kd k = 7) : kd (fld k 4) = 0 := tk_fk (c := 4) h (by decide) (by decide +kernel) (by decide +kernel) (by decide)
theorem gI_4_5 : nF 4 = 10 ∧ 4 < 10 ∧ 5 < 10 ∧ ftg 4 5 = 100 := by decide +kernel
theorem gP_4_5 : nF 4 = 10 ∧ 4 < 10 ∧ 5 < 10 ∧ ftg 4 5 = 100 ∧ (TX4 5).2.2.2 = false ∧ parseFieldDescriptor (TX4 5).2.2.1 = some .int := by decide +kernel
theorem gI_4_6 : nF 4 = 10 ∧ 4 < 10 ∧ 6 < 10 ∧ ftg 4 6 = 100 := by decide +kernel
theorem gP_4_6 : nF 4 = 10 ∧ 4 < 10 ∧ 6 < 10 ∧ ftg 4 6 = 100 ∧ (TX4 6).2.2.2 = false ∧ parseFieldDescriptor (TX4 6).2.2.1 = some .int := by decide +kernel
theorem gI_4_7 : nF 4 = 10 ∧ 4 < 10 ∧ 7 < 10 ∧ ftg 4 7 = 100 := by decide +kernel
theorem gP_4_7 : nF 4 = 10 ∧ 4 < 10 ∧ 7 < 10 ∧ ftg 4 7 = 100 ∧ (TX4 7).2.2.2 = false ∧ parseFieldDescriptor (TX4 7).2.2.1 = some .int := by decide +kernel
theorem gI_4_8 : nF 4 = 10 ∧ 4 < 10 ∧ 8 < 10 ∧ ftg 4 8 = 100 := by decide +kernel
theorem gP_4_8 : nF 4 = 10 ∧ 4 < 10 ∧ 8 < 10 ∧ ftg 4 8 = 100 ∧ (TX4 8).2.2.2 = false ∧ parseFieldDescriptor (TX4 8).2.2.1 = some .int := by decide +kernel
theorem gI_4_9 : nF 4 = 10 ∧ 4 < 10 ∧ 9 < 10 ∧ ftg 4 9 = 100 := by decide +kernel
theorem gP_4_9 : nF 4 = 10 ∧ 4 < 10 ∧ 9 < 10 ∧ ftg 4 9 = 100 ∧ (TX4 9).2.2.2 = false ∧ parseFieldDescriptor (TX4 9).2.2.1 = some .int := by decide +kernel
theorem gR_5_0 : nF 5 = 3 ∧ 5 < 10 ∧ 0 < 3 ∧ ftg 5 0 ≠ 100 := by decide +kernel
theorem kF_5_0 {k : Nat} (h : kd k = 8) : kd (fld k 0) = 0 := tk_fk (c := 5) h (by decide) (by decide +kernel) (by decide +kernel) (by decide)
theorem gI_5_1 : nF 5 = 3 ∧ 5 < 10 ∧ 1 < 3 ∧ ftg 5 1 = 100 := by decide +kernel
theorem gP_5_1 : nF 5 = 3 ∧ 5 < 10 ∧ 1 < 3 ∧ ftg 5 1 = 100 ∧ (TX5 1).2.2.2 = false ∧ parseFieldDescriptor (TX5 1).2.2.1 = some .int := by decide +kernel
theorem gI_5_2 : nF 5 = 3 ∧ 5 < 10 ∧ 2 < 3 ∧ ftg 5 2 = 100 := by decide +kernel
theorem gP_5_2 : nF 5 = 3 ∧ 5 < 10 ∧ 2 < 3 ∧ ftg 5 2 = 100 ∧ (TX5 2).2.2.2 = false ∧ parseFieldDescriptor (TX5 2).2.2.1 = some .boolean := by decide +kernel
theorem gI_6_0 : nF 6 = 3 ∧ 6 < 10 ∧ 0 < 3 ∧ ftg 6 0 = 100 := by decide +kernel
theorem gP_6_0 : nF 6 = 3 ∧ 6 < 10 ∧ 0 < 3 ∧ ftg 6 0 = 100 ∧ (TX6 0).2.2.2 = false ∧ parseFieldDescriptor (TX6 0).2.2.1 = some .int := by decide +kernel
theorem gI_6_1 : nF 6 = 3 ∧ 6 < 10 ∧ 1 < 3 ∧ ftg 6 1 = 100 := by decide +kernel
theorem gP_6_1 : nF 6 = 3 ∧ 6 < 10 ∧ 1 < 3 ∧ ftg 6 1 = 100 ∧ (TX6 1).2.2.2 = false ∧ parseFieldDescriptor (TX6 1).2.2.1 = some .int := by decide +kernel
theorem gR_6_2 : nF 6 = 3 ∧ 6 < 10 ∧ 2 < 3 ∧ ftg 6 2 ≠ 100 := by decide +kernel
theorem kF_6_2 {k : Nat} (h : kd k = 9) : kd (fld k 2) = 0 := tk_fk (c := 6) h (by decide) (by decide +kernel) (by decide +kernel) (by decide)
theorem gR_7_0 : nF 7 = 4 ∧ 7 < 10 ∧ 0 < 4 ∧ ftg 7 0 ≠ 100 := by decide +kernel
theorem kF_7_0 {k : Nat} (h : kd k = 10) : kd (fld k 0) = 0 := tk_fk (c := 7) h (by decide) (by decide +kernel) (by decide +kernel) (by decide)
theorem gR_7_1 : nF 7 = 4 ∧ 7 < 10 ∧ 1 < 4 ∧ ftg 7 1 ≠ 100 := by decide +kernel
theorem kF_7_1 {k : Nat} (h : kd k = 10) : kd (fld k 1) = 0 := tk_fk (c := 7) h (by decide) (by decide +kernel) (by decide +kernel) (by decide)
theorem gI_7_2 : nF 7 = 4 ∧ 7 < 10 ∧ 2 < 4 ∧ ftg 7 2 = 100 := by decide +kernel
theorem gP_7_2 : nF 7 = 4 ∧ 7 < 10 ∧ 2 < 4 ∧ ftg 7 2 = 100 ∧ (TX7 2).2.2.2 = false ∧ parseFieldDescriptor (TX7 2).2.2.1 = some .int := by decide +kernel
theorem gI_7_3 : nF 7 = 4 ∧ 7 < 10 ∧ 3 < 4 ∧ ftg 7 3 = 100 := by decide +kernel
theorem gP_7_3 : nF 7 = 4 ∧ 7 < 10 ∧ 3 < 4 ∧ ftg 7 3 = 100 ∧ (TX7 3).2.2.2 = false ∧ parseFieldDescriptor (TX7 3).2.2.1 = some .int := by decide +kernel
theorem gR_8_0 : nF 8 = 7 ∧ 8 < 10 ∧ 0 < 7 ∧ ftg 8 0 ≠ 100 := by decide +kernel
theorem kF_8_0 {k : Nat} (h : kd k = 11) : kd (fld k 0) = 3 := tk_fk (c := 8) h (by decide) (by decide +kernel) (by decide +kernel) (by decide)
theorem gR_8_1 : nF 8 = 7 ∧ 8 < 10 ∧ 1 < 7 ∧ ftg 8 1 ≠ 100 := by decide +kernel
theorem kF_8_1 {k : Nat} (h : kd k = 11) : kd (fld k 1) = 6 := tk_fk (c := 8) h (by decide) (by decide +kernel) (by decide +kernel) (by decide)
theorem gR_8_2 : nF 8 = 7 ∧ 8 < 10 ∧ 2 < 7 ∧ ftg 8 2 ≠ 100 := by decide +kernel
theorem kF_8_2 {k : Nat} (h : kd k = 11) : kd (fld k 2) = 5 := tk_fk (c := 8) h (by decide) (by decide +kernel) (by decide +kernel) (by decide)
theorem gR_8_3 : nF 8 = 7 ∧ 8 < 10 ∧ 3 < 7 ∧ ftg 8 3 ≠ 100 := by decide +kernel
theorem kF_8_3 {k : Nat} (h : kd k = 11) : kd (fld k 3) = 10 := tk_fk (c := 8) h (by decide) (by decide +kernel) (by decide +kernel) (by decide)
theorem gR_8_4 : nF 8 = 7 ∧ 8 < 10 ∧ 4 < 7 ∧ ftg 8 4 ≠ 100 := by decide +kernel
theorem kF_8_4 {k : Nat} (h : kd k = 11) : kd (fld k 4) = 4 := tk_fk (c := 8) h (by decide) (by decide +kernel) (by decide +kernel) (by decide)
theorem gR_8_5 : nF 8 = 7 ∧ 8 < 10 ∧ 5 < 7 ∧ ftg 8 5 ≠ 100 := by decide +kernel
theorem kF_8_5 {k : Nat} (h : kd k = 11) : kd (fld k 5) = 2 := tk_fk (c := 8) h (by decide) (by decide +kernel) (by decide +kernel) (by decide)
theorem gI_8_6 : nF 8 = 7 ∧ 8 < 10 ∧ 6 < 7 ∧ ftg 8 6 = 100 := by decide +kernel
theorem gP_8_6 : nF 8 = 7 ∧ 8 < 10 ∧ 6 < 7 ∧ ftg 8 6 = 100 ∧ (TX8 6).2.2.2 = false ∧ parseFieldDescriptor (TX8 6).2.2.1 = some .int := by decide +kernel
theorem gR_9_0 : nF 9 = 29 ∧ 9 < 10 ∧ 0 < 29 ∧ ftg 9 0 ≠ 100 := by decide +kernel
theorem kF_9_0 {k : Nat} (h : kd k = 12) : kd (fld k 0) = 0 := tk_fk (c := 9) h (by decide) (by decide +kernel) (by decide +kernel) (by decide)
theorem gR_9_1 : nF 9 = 29 ∧ 9 < 10 ∧ 1 < 29 ∧ ftg 9 1 ≠ 100 := by decide +kernel
theorem kF_9_1 {k : Nat} (h : kd k = 12) : kd (fld k 1) = 0 := tk_fk (c := 9) h (by decide) (by decide +kernel) (by decide +kernel) (by decide)
theorem gI_9_2 : nF 9 = 29 ∧ 9 < 10 ∧ 2 < 29 ∧ ftg 9 2 = 100 := by decide +kernel
theorem gP_9_2 : nF 9 = 29 ∧ 9 < 10 ∧ 2 < 29 ∧ ftg 9 2 = 100 ∧ (TX9 2).2.2.2 = false ∧ parseFieldDescriptor (TX9 2).2.2.1 = some .int := by decide +kernel
theorem gI_9_3 : nF 9 = 29 ∧ 9 < 10 ∧ 3 < 29 ∧ ftg 9 3 = 100 := by decide +kernel
theorem gP_9_3 : nF 9 = 29 ∧ 9 < 10 ∧ 3 < 29 ∧ ftg 9 3 = 100 ∧ (TX9 3).2.2.2 = false ∧ parseFieldDescriptor (TX9 3).2.2.1 = some .int := by decide +kernel
theorem gR_9_4 : nF 9 = 29 ∧ 9 < 10 ∧ 4 < 29 ∧ ftg 9 4 ≠ 100 := by decide +kernel
theorem kF_9_4 {k : Nat} (h : kd k = 12) : kd (fld k 4) = 0 := tk_fk (c := 9) h (by decide) (by decide +kernel) (by decide +kernel) (by decide)
theorem gR_9_5 : nF 9 = 29 ∧ 9 < 10 ∧ 5 < 29 ∧ ftg 9 5 ≠ 100 := by decide +kernel
theorem kF_9_5 {k : Nat} (h : kd k = 12) : kd (fld k 5) = 0 := tk_fk (c := 9) h (by decide) (by decide +kernel) (by decide +kernel) (by decide)
theorem gR_9_6 : nF 9 = 29 ∧ 9 < 10 ∧ 6 < 29 ∧ ftg 9 6 ≠ 100 := by decide +kernel
theorem kF_9_6 {k : Nat} (h : kd k = 12) : kd (fld k 6) = 0 := tk_fk (c := 9) h (by decide) (by decide +kernel) (by decide +kernel) (by decide)
theorem gR_9_7 : nF 9 = 29 ∧ 9 < 10 ∧ 7 < 29 ∧ ftg 9 7 ≠ 100 := by decide +kernel
theorem kF_9_7 {k : Nat} (h : kd k = 12) : kd (fld k 7) = 0 := tk_fk (c := 9) h (by decide) (by decide +kernel) (by decide +kernel) (by decide)
theorem gI_9_8 : nF 9 = 29 ∧ 9 < 10 ∧ 8 < 29 ∧ ftg 9 8 = 100 := by decide +kernel
theorem gP_9_8 : nF 9 = 29 ∧ 9 < 10 ∧ 8 < 29 ∧ ftg 9 8 = 100 ∧ (TX9 8).2.2.2 = false ∧ parseFieldDescriptor (TX9 8).2.2.1 = some .int := by decide +kernel
theorem gI_9_9 : nF 9 = 29 ∧ 9 < 10 ∧ 9 < 29 ∧ ftg 9 9 = 100 := by decide +kernel
theorem gP_9_9 : nF 9 = 29 ∧ 9 < 10 ∧ 9 < 29 ∧ ftg 9 9 = 100 ∧ (TX9 9).2.2.2 = false ∧ parseFieldDescriptor (TX9 9).2.2.1 = some .int := by decide +kernel
theorem gI_9_10 : nF 9 = 29 ∧ 9 < 10 ∧ 10 < 29 ∧ ftg 9 10 = 100 := by decide +kernel
theorem gP_9_10 : nF 9 = 29 ∧ 9 < 10 ∧ 10 < 29 ∧ ftg 9 10 = 100 ∧ (TX9 10).2.2.2 = false ∧ parseFieldDescriptor (TX9 10).2.2.1 = some .int := by decide +kernel
theorem gI_9_11 : nF 9 = 29 ∧ 9 < 10 ∧ 11 < 29 ∧ ftg 9 11 = 100 := by decide +kernel
theorem gP_9_11 : nF 9 = 29 ∧ 9 < 10 ∧ 11 < 29 ∧ ftg 9 11 = 100 ∧ (TX9 11).2.2.2 = false ∧ parseFieldDescriptor (TX9 11).2.2.1 = some .boolean := by decide +kernel
theorem gI_9_12 : nF 9 = 29 ∧ 9 < 10 ∧ 12 < 29 ∧ ftg 9 12 = 100 := by decide +kernel
theorem gP_9_12 : nF 9 = 29 ∧ 9 < 10 ∧ 12 < 29 ∧ ftg 9 12 = 100 ∧ (TX9 12).2.2.2 = false ∧ parseFieldDescriptor (TX9 12).2.2.1 = some .int := by decide +kernel
theorem gI_9_13 : nF 9 = 29 ∧ 9 < 10 ∧ 13 < 29 ∧ ftg 9 13 = 100 := by decide +kernel
theorem gP_9_13 : nF 9 = 29 ∧ 9 < 10 ∧ 13 < 29 ∧ ftg 9 13 = 100 ∧ (TX9 13).2.2.2 = false ∧ parseFieldDescriptor (TX9 13).2.2.1 = some .int := by decide +kernel
theorem gI_9_14 : nF 9 = 29 ∧ 9 < 10 ∧ 14 < 29 ∧ ftg 9 14 = 100 := by decide +kernel
theorem gP_9_14 : nF 9 = 29 ∧ 9 < 10 ∧ 14 < 29 ∧ ftg 9 14 = 100 ∧ (TX9 14).2.2.2 = false ∧ parseFieldDescriptor (TX9 14).2.2.1 = some .int := by decide +kernel
theorem gI_9_15 : nF 9 = 29 ∧ 9 < 10 ∧ 15 < 29 ∧ ftg 9 15 = 100 := by decide +kernel
theorem gP_9_15 : nF 9 = 29 ∧ 9 < 10 ∧ 15 < 29 ∧ ftg 9 15 = 100 ∧ (TX9 15).2.2.2 = false ∧ parseFieldDescriptor (TX9 15).2.2.1 = some .boolean := by decide +kernel
theorem gR_9_16 : nF 9 = 29 ∧ 9 < 10 ∧ 16 < 29 ∧ ftg 9 16 ≠ 100 := by decide +kernel
theorem kF_9_16 {k : Nat} (h : kd k = 12) : kd (fld k 16) = 0 := tk_fk (c := 9) h (by decide) (by decide +kernel) (by decide +kernel) (by decide)
theorem gI_9_17 : nF 9 = 29 ∧ 9 < 10 ∧ 17 < 29 ∧ ftg 9 17 = 100 := by decide +kernel
theorem gP_9_17 : nF 9 = 29 ∧ 9 < 10 ∧ 17 < 29 ∧ ftg 9 17 = 100 ∧ (TX9 17).2.2.2 = false ∧ parseFieldDescriptor (TX9 17).2.2.1 = some .int := by decide +kernel
theorem gR_9_18 : nF 9 = 29 ∧ 9 < 10 ∧ 18 < 29 ∧ ftg 9 18 ≠ 100 := by decide +kernel
theorem kF_9_18 {k : Nat} (h : kd k = 12) : kd (fld k 18) = 0 := tk_fk (c := 9) h (by decide) (by decide +kernel) (by decide +kernel) (by decide)
theorem gI_9_19 : nF 9 = 29 ∧ 9 < 10 ∧ 19 < 29 ∧ ftg 9 19 = 100 := by decide +kernel
theorem gP_9_19 : nF 9 = 29 ∧ 9 < 10 ∧ 19 < 29 ∧ ftg 9 19 = 100 ∧ (TX9 19).2.2.2 = false ∧ parseFieldDescriptor (TX9 19).2.2.1 = some .int := by decide +kernel
theorem gR_9_20 : nF 9 = 29 ∧ 9 < 10 ∧ 20 < 29 ∧ ftg 9 20 ≠ 100 := by decide +kernel
theorem kF_9_20 {k : Nat} (h : kd k = 12) : kd (fld k 20) = 0 := tk_fk (c := 9) h (by decide) (by decide +kernel) (by decide +kernel) (by decide)
theorem gR_9_21 : nF 9 = 29 ∧ 9 < 10 ∧ 21 < 29 ∧ ftg 9 21 ≠ 100 := by decide +kernel
theorem kF_9_21 {k : Nat} (h : kd k = 12) : kd (fld k 21) = 0 := tk_fk (c := 9) h (by decide) (by decide +kernel) (by decide +kernel) (by decide)
theorem gR_9_22 : nF 9 = 29 ∧ 9 < 10 ∧ 22 < 29 ∧ ftg 9 22 ≠ 100 := by decide +kernel
theorem kF_9_22 {k : Nat} (h : kd k = 12) : kd (fld k 22) = 0 := tk_fk (c := 9) h (by decide) (by decide +kernel) (by decide +kernel) (by decide)
theorem gI_9_23 : nF 9 = 29 ∧ 9 < 10 ∧ 23 < 29 ∧ ftg 9 23 = 100 := by decide +kernel
theorem gP_9_23 : nF 9 = 29 ∧ 9 < 10 ∧ 23 < 29 ∧ ftg 9 23 = 100 ∧ (TX9 23).2.2.2 = false ∧ parseFieldDescriptor (TX9 23).2.2.1 = some .int := by decide +kernel
theorem gI_9_24 : nF 9 = 29 ∧ 9 < 10 ∧ 24 < 29 ∧ ftg 9 24 = 100 := by decide +kernel
theorem gP_9_24 : nF 9 = 29 ∧ 9 < 10 ∧ 24 < 29 ∧ ftg 9 24 = 100 ∧ (TX9 24).2.2.2 = false ∧ parseFieldDescriptor (TX9 24).2.2.1 = some .int := by decide +kernel
theorem gI_9_25 : nF 9 = 29 ∧ 9 < 10 ∧ 25 < 29 ∧ ftg 9 25 = 100 := by decide +kernel
theorem gP_9_25 : nF 9 = 29 ∧ 9 < 10 ∧ 25 < 29 ∧ ftg 9 25 = 100 ∧ (TX9 25).2.2.2 = false ∧ parseFieldDescriptor (TX9 25).2.2.1 = some .int := by decide +kernel
theorem gI_9_26 : nF 9 = 29 ∧ 9 < 10 ∧ 26 < 29 ∧ ftg 9 26 = 100 := by decide +kernel
theorem gP_9_26 : nF 9 = 29 ∧ 9 < 10 ∧ 26 < 29 ∧ ftg 9 26 = 100 ∧ (TX9 26).2.2.2 = false ∧ parseFieldDescriptor (TX9 26).2.2.1 = some .int := by decide +kernel
theorem gI_9_27 : nF 9 = 29 ∧ 9 < 10 ∧ 27 < 29 ∧ ftg 9 27 = 100 := by decide +kernel
theorem gP_9_27 : nF 9 = 29 ∧ 9 < 10 ∧ 27 < 29 ∧ ftg 9 27 = 100 ∧ (TX9 27).2.2.2 = false ∧ parseFieldDescriptor (TX9 27).2.2.1 = some .int := by decide +kernel
theorem gR_9_28 : nF 9 = 29 ∧ 9 < 10 ∧ 28 < 29 ∧ ftg 9 28 ≠ 100 := by decide +kernel
theorem kF_9_28 {k : Nat} (h : kd k = 12) : kd (fld k 28) = 0 := tk_fk (c := 9) h (by decide) (by decide +kernel) (by decide +kernel) (by decide)
theorem s_tab3 {E : tkE} {X : tkX} {cc : ByteArray} {nL n w : Nat} {own : String} {ret : Option FieldType} {pc : Nat} {al : List (Nat × Value)} {st : List Value} {h : tkH} {ρ : Type} {Zf : ρ → State → Prop} {y : Int32} {dflt : Int} {f0 f1 f2 : Int} {len t0 t1 t2 td : Nat} {o0 o1 o2 od : Option ρ} (G : tkG E X cc nL own ret) (hd : decode cc pc = .ok (.tableswitch dflt 0 2 #[f0, f1, f2], len)) (ht : (pc : Int) + f0 = (t0 : Int) ∧ (pc : Int) + f1 = (t1 : Int) ∧ (pc : Int) + f2 = (t2 : Int) ∧ (pc : Int) + dflt = (td : Int)) (k0 : tkS E X nL n w Zf t0 al st h o0) (k1 : tkS E X nL n w Zf t1 al st h o1) (k2 : tkS E X nL n w Zf t2 al st h o2) (kd : tkS E X nL n w Zf td al st h od) : tkS E X nL n w Zf pc al (.int y :: st) h (if y = 0 then o0 else (if y = 1 then o1 else (if y = 2 then o2 else od))) := by
  obtain ⟨e0, e1, e2, hd0⟩ := ht
  intro x hx
  by_cases q0 : y = 0
  · rw [if_pos q0] at hx
    subst q0
    exact tk_tabIn G hd (by decide) (by decide) rfl e0 (k0 x hx)
  rw [if_neg q0] at hx
  by_cases q1 : y = 1
  · rw [if_pos q1] at hx
    subst q1
    exact tk_tabIn G hd (by decide) (by decide) rfl e1 (k1 x hx)
  rw [if_neg q1] at hx
  by_cases q2 : y = 2
  · rw [if_pos q2] at hx
    subst q2
    exact tk_tabIn G hd (by decide) (by decide) rfl e2 (k2 x hx)
  rw [if_neg q2] at hx
  refine tk_tabOut G hd (Classical.byContradiction fun z => ?_) hd0 (kd x hx)
  have z1 : 0 ≤ y.toInt := by omega
  have z2 : y.toInt ≤ 2 := by omega
  have p0 : y.toInt ≠ 0 := fun q => q0 (Int32.toInt_inj.mp (by rw [q]; decide))
  have p1 : y.toInt ≠ 1 := fun q => q1 (Int32.toInt_inj.mp (by rw [q]; decide))
  have p2 : y.toInt ≠ 2 := fun q => q2 (Int32.toInt_inj.mp (by rw [q]; decide))
  omega
theorem s_tab6 {E : tkE} {X : tkX} {cc : ByteArray} {nL n w : Nat} {own : String} {ret : Option FieldType} {pc : Nat} {al : List (Nat × Value)} {st : List Value} {h : tkH} {ρ : Type} {Zf : ρ → State → Prop} {y : Int32} {dflt : Int} {f0 f1 f2 f3 f4 f5 : Int} {len t0 t1 t2 t3 t4 t5 td : Nat} {o0 o1 o2 o3 o4 o5 od : Option ρ} (G : tkG E X cc nL own ret) (hd : decode cc pc = .ok (.tableswitch dflt 0 5 #[f0, f1, f2, f3, f4, f5], len)) (ht : (pc : Int) + f0 = (t0 : Int) ∧ (pc : Int) + f1 = (t1 : Int) ∧ (pc : Int) + f2 = (t2 : Int) ∧ (pc : Int) + f3 = (t3 : Int) ∧ (pc : Int) + f4 = (t4 : Int) ∧ (pc : Int) + f5 = (t5 : Int) ∧ (pc : Int) + dflt = (td : Int)) (k0 : tkS E X nL n w Zf t0 al st h o0) (k1 : tkS E X nL n w Zf t1 al st h o1) (k2 : tkS E X nL n w Zf t2 al st h o2) (k3 : tkS E X nL n w Zf t3 al st h o3) (k4 : tkS E X nL n w Zf t4 al st h o4) (k5 : tkS E X nL n w Zf t5 al st h o5) (kd : tkS E X nL n w Zf td al st h od) : tkS E X nL n w Zf pc al (.int y :: st) h (if y = 0 then o0 else (if y = 1 then o1 else (if y = 2 then o2 else (if y = 3 then o3 else (if y = 4 then o4 else (if y = 5 then o5 else od)))))) := by
  obtain ⟨e0, e1, e2, e3, e4, e5, hd0⟩ := ht
  intro x hx
  by_cases q0 : y = 0
  · rw [if_pos q0] at hx
    subst q0
    exact tk_tabIn G hd (by decide) (by decide) rfl e0 (k0 x hx)
  rw [if_neg q0] at hx
  by_cases q1 : y = 1
  · rw [if_pos q1] at hx
    subst q1
    exact tk_tabIn G hd (by decide) (by decide) rfl e1 (k1 x hx)
  rw [if_neg q1] at hx
  by_cases q2 : y = 2
  · rw [if_pos q2] at hx
    subst q2
    exact tk_tabIn G hd (by decide) (by decide) rfl e2 (k2 x hx)
  rw [if_neg q2] at hx
  by_cases q3 : y = 3
  · rw [if_pos q3] at hx
    subst q3
    exact tk_tabIn G hd (by decide) (by decide) rfl e3 (k3 x hx)
  rw [if_neg q3] at hx
  by_cases q4 : y = 4
  · rw [if_pos q4] at hx
    subst q4
    exact tk_tabIn G hd (by decide) (by decide) rfl e4 (k4 x hx)
  rw [if_neg q4] at hx
  by_cases q5 : y = 5
  · rw [if_pos q5] at hx
    subst q5
    exact tk_tabIn G hd (by decide) (by decide) rfl e5 (k5 x hx)
  rw [if_neg q5] at hx
  refine tk_tabOut G hd (Classical.byContradiction fun z => ?_) hd0 (kd x hx)
  have z1 : 0 ≤ y.toInt := by omega
  have z2 : y.toInt ≤ 5 := by omega
  have p0 : y.toInt ≠ 0 := fun q => q0 (Int32.toInt_inj.mp (by rw [q]; decide))
  have p1 : y.toInt ≠ 1 := fun q => q1 (Int32.toInt_inj.mp (by rw [q]; decide))
  have p2 : y.toInt ≠ 2 := fun q => q2 (Int32.toInt_inj.mp (by rw [q]; decide))
  have p3 : y.toInt ≠ 3 := fun q => q3 (Int32.toInt_inj.mp (by rw [q]; decide))
  have p4 : y.toInt ≠ 4 := fun q => q4 (Int32.toInt_inj.mp (by rw [q]; decide))
  have p5 : y.toInt ≠ 5 := fun q => q5 (Int32.toInt_inj.mp (by rw [q]; decide))
  omega
theorem tk_rm {X : tkX} {D d nC : Nat} (hR : x_R X = tkR D) (h1 : d + 1 ≤ D) (h2 : nC ≤ 21) : d + 1 ≤ (x_R X).frames ∧ 8 + (nC + 11) + 40 * d ≤ (x_R X).locals := by
  rw [hR]
  exact ⟨h1, by show 8 + (nC + 11) + 40 * d ≤ 40 * D; omega⟩
theorem tk_rmc {X : tkX} {D c : Nat} (hR : x_R X = tkR D) (h1 : 1 ≤ D) (h2 : c + (nativeFrameWords "java/lang/System" "arraycopy" 5 + 11) ≤ 40) : 1 ≤ (x_R X).frames ∧ c + (nativeFrameWords "java/lang/System" "arraycopy" 5 + 11) ≤ (x_R X).locals := by
  rw [hR]
  exact ⟨h1, Nat.le_trans h2 (by show 40 ≤ 40 * D; omega)⟩
def mnI (x y : Int32) : Int32 := if y < x then y else x
theorem tk_rmm {X : tkX} {D c : Nat} (hR : x_R X = tkR D) (h1 : 1 ≤ D) (h2 : c + 13 ≤ 40) : 1 ≤ (x_R X).frames ∧ c + 13 ≤ (x_R X).locals := by
  rw [hR]
  exact ⟨h1, Nat.le_trans h2 (by show 40 ≤ 40 * D; omega)⟩
theorem tk_mmin {E : tkE} {X : tkX} {cc : ByteArray} {nL n w : Nat} {own : String} {ret : Option FieldType} {Z : State → Prop} {pc : Nat} {al : List (Nat × Value)} {st : List Value} {T : tkT} {h : tkH} {idx : Nat} {x y : Int32} (G : tkG E X cc nL own ret) (hd : decode cc pc = .ok (.invokestatic idx, 3)) (hw : Cond.methodLink own idx yJ9_min_7cf53 ∈ tkTb) (hR : 1 ≤ (x_R X).frames ∧ (st.map fun v => v.category).sum + 13 ≤ (x_R X).locals) (hcell : n ≤ (x_R X).cells ∧ w ≤ (x_R X).slots) (k : tkV E X nL n w Z (pc + 3) al (.int (mnI x y) :: st) T h) : tkV E X nL n w Z pc al (.int y :: .int x :: st) T h :=
  fun H locs ls hP hz hS hl => va_mmin G.1.1 G.1.2.1 (by rw [hl.1]; exact G.1.2.2.1) G.1.2.2.2.1 (G.1.2.2.2.2 _ hw) (G.1.2.2.2.2 _ wI_J9_min_7cf53) (G.1.2.2.2.2 _ wY_J9_min_7cf53.2.1) (G.1.2.2.2.2 _ wY_J9_min_7cf53.1) hR.1 hR.2 hcell.1 hcell.2 hd (k H locs ls hP hz hS hl)
