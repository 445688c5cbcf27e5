/-! the reference's COST -/
theorem lq0_s {ρ : Type} {b : (tkH → Option ρ) → tkH → Option ρ} {n : Nat} {h : tkH} : lq0 b (n + 1) h = b (lq0 b n) h := rfl
theorem lq1_s {ρ : Type} {b : (tkH → Int32 → Option ρ) → tkH → Int32 → Option ρ} {n : Nat} {h : tkH} {x : Int32} : lq1 b (n + 1) h x = b (lq1 b n) h x := rfl
theorem lq2_s {ρ : Type} {b : (tkH → Int32 → Int32 → Option ρ) → tkH → Int32 → Int32 → Option ρ} {n : Nat} {h : tkH} {x y : Int32} : lq2 b (n + 1) h x y = b (lq2 b n) h x y := rfl
def crs (h : tkH) (k : Nat) : tkH := tkup (tkup (tkup (tkup h 223 0 (nI (pm k 0))) 223 1 (nI (pm k 1))) 223 2 (nI (pm k 2))) 223 3 (nI (pm k 3))
theorem m_carry0 (h : tkH) : f_X9_carry h 217 (nI 0) = some (crs h 0) := by rfl
theorem m_carry1 (h : tkH) : f_X9_carry h 217 (nI 1) = some (crs h 1) := by rfl
theorem m_carry2 (h : tkH) : f_X9_carry h 217 (nI 2) = some (crs h 2) := by rfl
theorem m_carry3 (h : tkH) : f_X9_carry h 217 (nI 3) = some (crs h 3) := by rfl
theorem m_carry4 (h : tkH) : f_X9_carry h 217 (nI 4) = some (crs h 4) := by rfl
theorem m_carry5 (h : tkH) : f_X9_carry h 217 (nI 5) = some (crs h 5) := by rfl
theorem m_carry6 (h : tkH) : f_X9_carry h 217 (nI 6) = some (crs h 6) := by rfl
theorem m_carry7 (h : tkH) : f_X9_carry h 217 (nI 7) = some (crs h 7) := by rfl
theorem m_carry8 (h : tkH) : f_X9_carry h 217 (nI 8) = some (crs h 8) := by rfl
theorem m_carry9 (h : tkH) : f_X9_carry h 217 (nI 9) = some (crs h 9) := by rfl
theorem m_carry10 (h : tkH) : f_X9_carry h 217 (nI 10) = some (crs h 10) := by rfl
theorem m_carry11 (h : tkH) : f_X9_carry h 217 (nI 11) = some (crs h 11) := by rfl
theorem m_carry12 (h : tkH) : f_X9_carry h 217 (nI 12) = some (crs h 12) := by rfl
theorem m_carry13 (h : tkH) : f_X9_carry h 217 (nI 13) = some (crs h 13) := by rfl
theorem m_carry14 (h : tkH) : f_X9_carry h 217 (nI 14) = some (crs h 14) := by rfl
theorem m_carry15 (h : tkH) : f_X9_carry h 217 (nI 15) = some (crs h 15) := by rfl
theorem m_carry16 (h : tkH) : f_X9_carry h 217 (nI 16) = some (crs h 16) := by rfl
theorem m_carry17 (h : tkH) : f_X9_carry h 217 (nI 17) = some (crs h 17) := by rfl
theorem m_carry18 (h : tkH) : f_X9_carry h 217 (nI 18) = some (crs h 18) := by rfl
theorem m_carry19 (h : tkH) : f_X9_carry h 217 (nI 19) = some (crs h 19) := by rfl
theorem m_carry20 (h : tkH) : f_X9_carry h 217 (nI 20) = some (crs h 20) := by rfl
theorem m_carry21 (h : tkH) : f_X9_carry h 217 (nI 21) = some (crs h 21) := by rfl
theorem m_carry22 (h : tkH) : f_X9_carry h 217 (nI 22) = some (crs h 22) := by rfl
theorem m_carry23 (h : tkH) : f_X9_carry h 217 (nI 23) = some (crs h 23) := by rfl
theorem m_carry {h : tkH} : ∀ {k : Nat}, k < 24 → f_X9_carry h 217 (nI k) = some (crs h k)
  | 0, _ => m_carry0 h
  | 1, _ => m_carry1 h
  | 2, _ => m_carry2 h
  | 3, _ => m_carry3 h
  | 4, _ => m_carry4 h
  | 5, _ => m_carry5 h
  | 6, _ => m_carry6 h
  | 7, _ => m_carry7 h
  | 8, _ => m_carry8 h
  | 9, _ => m_carry9 h
  | 10, _ => m_carry10 h
  | 11, _ => m_carry11 h
  | 12, _ => m_carry12 h
  | 13, _ => m_carry13 h
  | 14, _ => m_carry14 h
  | 15, _ => m_carry15 h
  | 16, _ => m_carry16 h
  | 17, _ => m_carry17 h
  | 18, _ => m_carry18 h
  | 19, _ => m_carry19 h
  | 20, _ => m_carry20 h
  | 21, _ => m_carry21 h
  | 22, _ => m_carry22 h
  | 23, _ => m_carry23 h
  | k + 24, hk => absurd hk (by omega)
