/-! bits -/
theorem xr_b : ((List.range 256).all fun x => (List.range 256).all fun y => (((x ^^^ y) &&& 240 == 0) == (x / 16 == y / 16)) && (((x ^^^ y) &&& 12 == 0) == (x / 4 % 4 == y / 4 % 4)) && (((x ^^^ y) &&& 3 == 0) == (x % 4 == y % 4))) = true := by decide +kernel
theorem beq_iff2 {p q : Bool} (h : (p == q) = true) : (p = true ↔ q = true) := by
  cases p <;> cases q <;> simp_all
theorem xr_ok {x y : Nat} (hx : x < 256) (hy : y < 256) : ((x ^^^ y) &&& 240 = 0 ↔ x / 16 = y / 16) ∧ ((x ^^^ y) &&& 12 = 0 ↔ x / 4 % 4 = y / 4 % 4) ∧ ((x ^^^ y) &&& 3 = 0 ↔ x % 4 = y % 4) := by
  have h := List.all_eq_true.mp (List.all_eq_true.mp xr_b x (List.mem_range.mpr hx)) y (List.mem_range.mpr hy)
  simp only [Bool.and_eq_true] at h
  have h1 := beq_iff2 h.1.1
  have h2 := beq_iff2 h.1.2
  have h3 := beq_iff2 h.2
  simp only [beq_iff_eq] at h1 h2 h3
  exact ⟨h1, h2, h3⟩
theorem nx_and (a b : Nat) : nI a &&& nI b = nI (a &&& b) := by
  apply Int32.toBitVec_inj.mp
  show BitVec.ofNat 32 a &&& BitVec.ofNat 32 b = BitVec.ofNat 32 (a &&& b)
  rw [BitVec.ofNat_and]
theorem nx_xor (a b : Nat) : nI a ^^^ nI b = nI (a ^^^ b) := by
  apply Int32.toBitVec_inj.mp
  show BitVec.ofNat 32 a ^^^ BitVec.ofNat 32 b = BitVec.ofNat 32 (a ^^^ b)
  rw [BitVec.ofNat_xor]
