/-! lay: what a sheet tells -/
def VS (x y : Int32) : Prop := (∃ k, k < 16 ∧ x = nI k ∧ y = nI k) ∨ ((¬ ∃ k, k < 16 ∧ x = nI k) ∧ ¬ ∃ k, k < 16 ∧ y = nI k)
theorem VS.rf (x : Int32) : VS x x := by
  by_cases c : ∃ k, k < 16 ∧ x = nI k
  · obtain ⟨k, h, e⟩ := c
    exact Or.inl ⟨k, h, e, e⟩
  · exact Or.inr ⟨c, c⟩
theorem n_of (v : Int32) : v = nI v.toBitVec.toNat := by
  apply Int32.toBitVec_inj.mp
  show v.toBitVec = BitVec.ofNat 32 v.toBitVec.toNat
  rw [BitVec.ofNat_toNat, BitVec.setWidth_eq]
theorem shl24 (u : Nat) : nI u <<< (24 : Int32) = nI (u % 256 * 2 ^ 24) := by
  apply Int32.toBitVec_inj.mp
  apply BitVec.eq_of_toNat_eq
  show (BitVec.ofNat 32 u <<< (BitVec.smod 24#32 32#32)).toNat = (BitVec.ofNat 32 (u % 256 * 2 ^ 24)).toNat
  rw [show BitVec.smod 24#32 32#32 = 24#32 by decide, BitVec.shiftLeft_eq', BitVec.toNat_shiftLeft, BitVec.toNat_ofNat, BitVec.toNat_ofNat, BitVec.toNat_ofNat, Nat.shiftLeft_eq, show 24 % 2 ^ 32 = 24 from rfl]
  omega
theorem shl16 (u : Nat) : nI u <<< (16 : Int32) = nI (u % 65536 * 2 ^ 16) := by
  apply Int32.toBitVec_inj.mp
  apply BitVec.eq_of_toNat_eq
  show (BitVec.ofNat 32 u <<< (BitVec.smod 16#32 32#32)).toNat = (BitVec.ofNat 32 (u % 65536 * 2 ^ 16)).toNat
  rw [show BitVec.smod 16#32 32#32 = 16#32 by decide, BitVec.shiftLeft_eq', BitVec.toNat_shiftLeft, BitVec.toNat_ofNat, BitVec.toNat_ofNat, BitVec.toNat_ofNat, Nat.shiftLeft_eq, show 16 % 2 ^ 32 = 16 from rfl]
  omega
theorem sx8b : ((List.range 256).all fun w => if w < 16 then nI (w * 2 ^ 24) >>> (24 : Int32) == nI w else decide (nI (w * 2 ^ 24) >>> (24 : Int32) < 0) || decide (nI 16 ≤ nI (w * 2 ^ 24) >>> (24 : Int32))) = true := by decide +kernel
theorem sx16c : ((List.range 256).all fun i => (List.range 256).all fun j => if 256 * i + j < 16 then nI ((256 * i + j) * 2 ^ 16) >>> (16 : Int32) == nI (256 * i + j) else decide (nI ((256 * i + j) * 2 ^ 16) >>> (16 : Int32) < 0) || decide (nI 16 ≤ nI ((256 * i + j) * 2 ^ 16) >>> (16 : Int32))) = true := by decide +kernel
theorem sx16b {w : Nat} (hw : w < 65536) : (if w < 16 then nI (w * 2 ^ 16) >>> (16 : Int32) == nI w else decide (nI (w * 2 ^ 16) >>> (16 : Int32) < 0) || decide (nI 16 ≤ nI (w * 2 ^ 16) >>> (16 : Int32))) = true := by
  have h := List.all_eq_true.mp (List.all_eq_true.mp sx16c (w / 256) (List.mem_range.mpr (by omega))) (w % 256) (List.mem_range.mpr (by omega))
  rw [show 256 * (w / 256) + w % 256 = w by omega] at h
  exact h
theorem VS.of {w : Nat} {y : Int32} (hw : w < 65536) (h : (if w < 16 then y == nI w else decide (y < 0) || decide (nI 16 ≤ y)) = true) : VS (nI w) y := by
  by_cases c : w < 16
  · rw [if_pos c] at h
    exact Or.inl ⟨w, c, rfl, eq_of_beq h⟩
  · rw [if_neg c] at h
    refine Or.inr ⟨fun ⟨k, hk, e⟩ => ?_, fun ⟨k, hk, e⟩ => ?_⟩
    · have := (nI_eq (by omega) (by omega)).mp e
      omega
    · rw [e] at h
      simp only [Bool.or_eq_true, decide_eq_true_eq] at h
      rcases h with h | h
      · exact nI_pos (n := k) (by omega) h
      · have := (nI_leI (a := 16) (b := k) (by omega) (by omega)).mp h
        omega
theorem sv {b v : Int32} (hb : b = 8 ∨ b = 16 ∨ b = 32) : VS (wX b v) (wM b v) := by
  rw [n_of v]
  generalize v.toBitVec.toNat = u
  rcases hb with rfl | rfl | rfl
  · have e1 : wX 8 (nI u) = nI (u % 256) := by
      unfold wX
      rw [if_pos rfl, show (255 : Int32) = nI 255 from rfl, nx_and, show u &&& 255 = u % 256 from Nat.and_two_pow_sub_one_eq_mod u 8]
    have e2 : wM 8 (nI u) = nI (u % 256 * 2 ^ 24) >>> (24 : Int32) := by
      unfold wM
      rw [show ((32 - 8 : Int32) &&& 31) = 24 by decide, shl24]
    rw [e1, e2]
    exact VS.of (by omega) (List.all_eq_true.mp sx8b (u % 256) (List.mem_range.mpr (by omega)))
  · have e1 : wX 16 (nI u) = nI (u % 65536) := by
      unfold wX
      rw [if_neg (by decide), if_pos rfl, show (65535 : Int32) = nI 65535 from rfl, nx_and, show u &&& 65535 = u % 65536 from Nat.and_two_pow_sub_one_eq_mod u 16]
    have e2 : wM 16 (nI u) = nI (u % 65536 * 2 ^ 16) >>> (16 : Int32) := by
      unfold wM
      rw [show ((32 - 16 : Int32) &&& 31) = 16 by decide, shl16]
    rw [e1, e2]
    exact VS.of (by omega) (sx16b (by omega))
  · have e1 : wX 32 (nI u) = nI u := by
      unfold wX
      rw [if_neg (by decide), if_neg (by decide)]
    have e2 : wM 32 (nI u) = nI u := by
      unfold wM
      rw [show ((32 - 32 : Int32) &&& 31) = 0 by decide]
      have z1 : nI u <<< (0 : Int32) = nI u := by simp
      have z2 : nI u >>> (0 : Int32) = nI u := by simp
      rw [z1, z2]
    rw [e1, e2]
    exact VS.rf _
theorem VS.k {x y : Int32} {n : Nat} (hn : n ≤ 16) (h : VS x y) : (∃ k, k < n ∧ x = nI k ∧ y = nI k) ∨ ((¬ ∃ k, k < n ∧ x = nI k) ∧ ¬ ∃ k, k < n ∧ y = nI k) := by
  rcases h with ⟨k, hk, e1, e2⟩ | ⟨h1, h2⟩
  · by_cases c : k < n
    · exact Or.inl ⟨k, c, e1, e2⟩
    · refine Or.inr ⟨fun ⟨j, hj, e⟩ => ?_, fun ⟨j, hj, e⟩ => ?_⟩
      · rw [e1] at e
        have := (nI_eq (by omega) (by omega)).mp e
        omega
      · rw [e2] at e
        have := (nI_eq (by omega) (by omega)).mp e
        omega
  · exact Or.inr ⟨fun ⟨j, hj, e⟩ => h1 ⟨j, by omega, e⟩, fun ⟨j, hj, e⟩ => h2 ⟨j, by omega, e⟩⟩
theorem dv3b : ((List.range 31).all fun L => (nI L / 3 : Int32) == nI (L / 3)) = true := by decide +kernel
theorem dv3 {L : Nat} (h : L ≤ 30) : (nI L / 3 : Int32) = nI (L / 3) := eq_of_beq (List.all_eq_true.mp dv3b L (List.mem_range.mpr (by omega)))
