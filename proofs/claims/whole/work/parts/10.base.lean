/-! THE MATHEMATICS over the functions f_: base rows -/
def Po {ρ : Type} (o : Option ρ) (P : ρ → Prop) : Prop := ∃ x, o = some x ∧ P x
theorem Po.bind {α ρ : Type} {o : Option α} {P : α → Prop} {Q : Option ρ → Prop} {k : α → Option ρ} (h : Po o P) (f : ∀ x, P x → Q (k x)) : Q (o.bind k) := by
  obtain ⟨x, rfl, hx⟩ := h
  exact f x hx
theorem Po.some {ρ : Type} {x : ρ} {P : ρ → Prop} (h : P x) : Po (some x) P := ⟨x, rfl, h⟩
theorem Po.mono {ρ : Type} {o : Option ρ} {P P' : ρ → Prop} (h : Po o P) (f : ∀ x, P x → P' x) : Po o P' := by
  obtain ⟨x, e, hx⟩ := h
  exact ⟨x, e, f x hx⟩
theorem Po.of {ρ : Type} {o : Option ρ} {x : ρ} {P : ρ → Prop} (e : o = Option.some x) (h : P x) : Po o P := ⟨x, e, h⟩
theorem FU_gt {m : Nat} (h : m < 100000) : m < FU := by
  have := FU0_ge
  unfold FU
  omega
/-! loops: a measure that falls, an invariant, a goal about the whole -/
theorem lq0_i {ρ : Type} {body : (tkH → Option ρ) → tkH → Option ρ} (Q : Option ρ → Prop) (I : Nat → tkH → Prop) (step : ∀ k m h, I m h → (∀ m' h', m' < m → I m' h' → Q (k h')) → Q (body k h)) : ∀ n m h, m < n → I m h → Q (lq0 body n h)
  | 0, _, _, hm, _ => absurd hm (Nat.not_lt_zero _)
  | n + 1, m, h, hm, hI => step (lq0 body n) m h hI (fun m' h' hl hI' => lq0_i Q I step n m' h' (by omega) hI')
theorem lq1_i {ρ : Type} {body : (tkH → Int32 → Option ρ) → tkH → Int32 → Option ρ} (Q : Option ρ → Prop) (I : Nat → tkH → Int32 → Prop) (step : ∀ k m h x, I m h x → (∀ m' h' x', m' < m → I m' h' x' → Q (k h' x')) → Q (body k h x)) : ∀ n m h x, m < n → I m h x → Q (lq1 body n h x)
  | 0, _, _, _, hm, _ => absurd hm (Nat.not_lt_zero _)
  | n + 1, m, h, x, hm, hI => step (lq1 body n) m h x hI (fun m' h' x' hl hI' => lq1_i Q I step n m' h' x' (by omega) hI')
theorem lq2_i {ρ : Type} {body : (tkH → Int32 → Int32 → Option ρ) → tkH → Int32 → Int32 → Option ρ} (Q : Option ρ → Prop) (I : Nat → tkH → Int32 → Int32 → Prop) (step : ∀ k m h x y, I m h x y → (∀ m' h' x' y', m' < m → I m' h' x' y' → Q (k h' x' y')) → Q (body k h x y)) : ∀ n m h x y, m < n → I m h x y → Q (lq2 body n h x y)
  | 0, _, _, _, _, hm, _ => absurd hm (Nat.not_lt_zero _)
  | n + 1, m, h, x, y, hm, hI => step (lq2 body n) m h x y hI (fun m' h' x' y' hl hI' => lq2_i Q I step n m' h' x' y' (by omega) hI')
theorem lq3_i {ρ : Type} {body : (tkH → Int32 → Int32 → Int32 → Option ρ) → tkH → Int32 → Int32 → Int32 → Option ρ} (Q : Option ρ → Prop) (I : Nat → tkH → Int32 → Int32 → Int32 → Prop) (step : ∀ k m h x y z, I m h x y z → (∀ m' h' x' y' z', m' < m → I m' h' x' y' z' → Q (k h' x' y' z')) → Q (body k h x y z)) : ∀ n m h x y z, m < n → I m h x y z → Q (lq3 body n h x y z)
  | 0, _, _, _, _, _, hm, _ => absurd hm (Nat.not_lt_zero _)
  | n + 1, m, h, x, y, z, hm, hI => step (lq3 body n) m h x y z hI (fun m' h' x' y' z' hl hI' => lq3_i Q I step n m' h' x' y' z' (by omega) hI')
/-! numbers -/
theorem nl0 : (0 : Int32) = nI 0 := rfl
theorem nl1 : (1 : Int32) = nI 1 := rfl
theorem nl2 : (2 : Int32) = nI 2 := rfl
theorem nl3 : (3 : Int32) = nI 3 := rfl
theorem nl4 : (4 : Int32) = nI 4 := rfl
theorem nl5 : (5 : Int32) = nI 5 := rfl
theorem nl6 : (6 : Int32) = nI 6 := rfl
theorem nl9 : (9 : Int32) = nI 9 := rfl
theorem nl10 : (10 : Int32) = nI 10 := rfl
theorem nl11 : (11 : Int32) = nI 11 := rfl
theorem nl15 : (15 : Int32) = nI 15 := rfl
theorem nl16 : (16 : Int32) = nI 16 := rfl
theorem nl20 : (20 : Int32) = nI 20 := rfl
theorem nl24 : (24 : Int32) = nI 24 := rfl
theorem nl30 : (30 : Int32) = nI 30 := rfl
theorem nl40 : (40 : Int32) = nI 40 := rfl
theorem nl50 : (50 : Int32) = nI 50 := rfl
theorem nl60 : (60 : Int32) = nI 60 := rfl
theorem nl70 : (70 : Int32) = nI 70 := rfl
theorem nl80 : (80 : Int32) = nI 80 := rfl
theorem nl90 : (90 : Int32) = nI 90 := rfl
theorem nl390 : (390 : Int32) = nI 390 := rfl
theorem nl7410 : (7410 : Int32) = nI 7410 := rfl
theorem nl999 : (999 : Int32) = nI 999 := rfl
theorem nl1000 : (1000 : Int32) = nI 1000 := rfl
theorem nl1000000 : (1000000 : Int32) = nI 1000000 := rfl
/-- a number within 0 .. n-1 is one of them -/
theorem in_nat {a : Int32} {n : Nat} (h0 : ¬ a < 0) (h1 : ¬ nI n ≤ a) (hn : n < 2 ^ 31) : ∃ t, t < n ∧ a = nI t := by
  obtain ⟨j, hj, rfl⟩ := nI_of h0
  refine ⟨j, ?_, rfl⟩
  rw [nI_leI hn hj] at h1
  omega
theorem nI_not_neg {t : Nat} (ht : t < 2 ^ 31) : ¬ nI t < 0 := nI_pos ht
theorem nI_neg_one (t : Nat) (ht : t < 2 ^ 31) : nI t ≠ -1 := by
  intro e
  have := nI_pos ht
  rw [e] at this
  exact this (by decide)
/-! reading and writing at a known place -/
theorem rdI_n {h : tkH} {a t : Nat} (ht : t < ln a) (hl : ln a < 2 ^ 31) : rdI h a (nI t) = some (h a t) := by
  have h1 : (nI t).toNatClampNeg = t := nI_clamp (by omega)
  unfold rdI
  rw [h1, if_neg]
  rintro (q | q)
  · exact nI_pos (n := t) (by omega) q
  · omega
theorem wrI_n {h : tkH} {a t : Nat} {x : Int32} (ht : t < ln a) (hl : ln a < 2 ^ 31) : wrI h a (nI t) x = some (tkup h a t x) := by
  have h1 : (nI t).toNatClampNeg = t := nI_clamp (by omega)
  unfold wrI
  rw [h1, if_neg]
  rintro (q | q)
  · exact nI_pos (n := t) (by omega) q
  · omega
theorem rdC_n {t : Nat} (ht : t < 24) : rdC (nI t) = some (tkCv t) := by
  have h1 : (nI t).toNatClampNeg = t := nI_clamp (by omega)
  unfold rdC
  rw [h1, if_neg]
  rintro (q | q)
  · exact nI_pos (n := t) (by omega) q
  · omega
theorem cpI_n {h : tkH} {src dst sp dp m : Nat} (h1 : sp + m ≤ ln src) (h2 : dp + m ≤ ln dst) (hl : ln src < 2 ^ 31) (hl2 : ln dst < 2 ^ 31) : cpI h src (nI sp) dst (nI dp) (nI m) = some (tkcp h src sp dst dp m) := by
  have e1 : (nI sp).toNatClampNeg = sp := nI_clamp (by omega)
  have e2 : (nI dp).toNatClampNeg = dp := nI_clamp (by omega)
  have e3 : (nI m).toNatClampNeg = m := nI_clamp (by omega)
  unfold cpI
  rw [e1, e2, e3, if_neg]
  rintro (q | q | q | q | q)
  · exact nI_pos (n := sp) (by omega) q
  · exact nI_pos (n := dp) (by omega) q
  · exact nI_pos (n := m) (by omega) q
  · omega
  · omega
theorem bz_0 : bz 0 = some 0 := rfl
theorem bz_1 : bz 1 = some 1 := rfl
/-! the heap's readings -/
theorem up_s {h : tkH} {k i : Nat} {v : Int32} : tkup h k i v k i = v := by simp [tkup, upd]
theorem up_i {h : tkH} {k i j : Nat} {v : Int32} (e : j ≠ i) : tkup h k i v k j = h k j := by simp [tkup, upd, e]
theorem up_a {h : tkH} {k i a : Nat} {v : Int32} (e : a ≠ k) : tkup h k i v a = h a := tkup_n e
theorem up_eq (h : tkH) (k i a j : Nat) (v : Int32) : tkup h k i v a j = if a = k ∧ j = i then v else h a j := by
  unfold tkup
  by_cases e : a = k
  · subst e
    simp [upd]
  · simp [e]
theorem cp_a {h : tkH} {s sp d dp n a : Nat} (e : a ≠ d) : tkcp h s sp d dp n a = h a := tkcp_n e
theorem cp_in {h : tkH} {s sp d dp n j : Nat} (h1 : dp ≤ j) (h2 : j < dp + n) : tkcp h s sp d dp n d j = h s (sp + (j - dp)) := by
  rw [tkcp_s, va_cpy, if_pos ⟨h1, h2⟩]
theorem cp_out {h : tkH} {s sp d dp n j : Nat} (h1 : j < dp ∨ dp + n ≤ j) : tkcp h s sp d dp n d j = h d j := by
  rw [tkcp_s, va_cpy, if_neg (by omega)]
set_option maxRecDepth 20000 in
theorem FL : fld 0 0 = 1 ∧ fld 0 1 = 10 ∧ fld 0 2 = 192 ∧ fld 0 3 = 202 ∧ fld 0 4 = 205 ∧ fld 0 5 = 208 ∧ fld 1 1 = 2 ∧ fld 1 2 = 3 ∧ fld 1 3 = 4 ∧ fld 1 4 = 5 ∧ fld 1 5 = 6 ∧ fld 1 6 = 7 ∧ fld 1 7 = 8 ∧ fld 1 8 = 9 ∧ fld 10 0 = 11 ∧ fld 192 0 = 193 ∧ fld 192 1 = 201 ∧ fld 193 0 = 194 ∧ fld 193 1 = 196 ∧ fld 193 2 = 198 ∧ fld 193 3 = 199 ∧ fld 193 4 = 200 ∧ fld 194 0 = 195 ∧ fld 196 0 = 197 ∧ fld 202 0 = 203 ∧ fld 202 1 = 204 ∧ fld 205 0 = 206 ∧ fld 205 1 = 207 ∧ fld 209 2 = 210 ∧ fld 211 2 = 212 ∧ fld 213 2 = 214 ∧ fld 215 2 = 216 ∧ fld 217 0 = 218 ∧ fld 217 1 = 219 ∧ fld 217 4 = 220 ∧ fld 217 5 = 221 ∧ fld 217 6 = 222 ∧ fld 217 7 = 223 ∧ fld 217 16 = 224 ∧ fld 217 18 = 225 ∧ fld 217 20 = 226 ∧ fld 217 21 = 227 ∧ fld 217 22 = 228 ∧ fld 217 28 = 229 := by decide +kernel
set_option maxRecDepth 20000 in
theorem LN : ln 2 = 10 ∧ ln 3 = 10 ∧ ln 4 = 10 ∧ ln 5 = 10 ∧ ln 6 = 10 ∧ ln 7 = 100 ∧ ln 8 = 3 ∧ ln 9 = 36 ∧ ln 11 = 20 ∧ ln 195 = 10 ∧ ln 197 = 10 ∧ ln 198 = 10 ∧ ln 199 = 121 ∧ ln 200 = 10 ∧ ln 201 = 100 ∧ ln 203 = 10 ∧ ln 204 = 10 ∧ ln 206 = 4 ∧ ln 207 = 4 ∧ ln 208 = 4 ∧ ln 210 = 30 ∧ ln 212 = 30 ∧ ln 214 = 30 ∧ ln 216 = 30 ∧ ln 218 = 390 ∧ ln 219 = 7800 ∧ ln 220 = 4 ∧ ln 221 = 4 ∧ ln 222 = 120 ∧ ln 223 = 4 ∧ ln 224 = 121 ∧ ln 225 = 10 ∧ ln 226 = 100 ∧ ln 227 = 10 ∧ ln 228 = 10 ∧ ln 229 = 30 := by decide +kernel
theorem FLb : ((List.range 20).all fun j => (List.range 8).all fun i => fld (12 + 9 * j) (i + 1) == 12 + 9 * j + (i + 1) && kd (12 + 9 * j) == 3 && ln (12 + 9 * j + (i + 1)) == [10, 10, 10, 10, 10, 100, 3, 36].getD i 0) = true := by decide +kernel
theorem FB {j i : Nat} (hj : j < 20) (hi : i < 8) : fld (12 + 9 * j) (i + 1) = 12 + 9 * j + (i + 1) ∧ kd (12 + 9 * j) = 3 ∧ ln (12 + 9 * j + (i + 1)) = [10, 10, 10, 10, 10, 100, 3, 36].getD i 0 := by
  have h := List.all_eq_true.mp (List.all_eq_true.mp FLb j (List.mem_range.mpr hj)) i (List.mem_range.mpr hi)
  simp only [Bool.and_eq_true, beq_iff_eq] at h
  exact ⟨h.1.1, h.1.2, h.2⟩
theorem RAb : ((List.range 20).all fun j => rdA 3 11 (nI j) == some (12 + 9 * j)) = true := by decide +kernel
theorem RA3 {j : Nat} (hj : j < 20) : rdA 3 11 (nI j) = some (12 + 9 * j) := eq_of_beq (List.all_eq_true.mp RAb j (List.mem_range.mpr hj))
theorem RSb : ((List.range 4).all fun j => rdA 9 208 (nI j) == some (209 + 2 * j) && fld (209 + 2 * j) 2 == 210 + 2 * j && ln (210 + 2 * j) == 30) = true := by decide +kernel
theorem RA9 {j : Nat} (hj : j < 4) : rdA 9 208 (nI j) = some (209 + 2 * j) ∧ fld (209 + 2 * j) 2 = 210 + 2 * j ∧ ln (210 + 2 * j) = 30 := by
  have h := List.all_eq_true.mp RSb j (List.mem_range.mpr hj)
  simp only [Bool.and_eq_true, beq_iff_eq] at h
  exact ⟨h.1.1, h.1.2, h.2⟩
theorem KD : kd 7 = 0 ∧ kd 193 = 7 := by decide +kernel
