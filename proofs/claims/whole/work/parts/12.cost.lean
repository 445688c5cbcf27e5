/-! LAYINGS as numbers: what is left of both rows (x of a's, y of b's); c x y: the pair of a's STEP with x behind it and b's with y behind it; e: no pair any more; p: a STEP alone -/
def FAR : Nat := 1000000
def Rr (c e : Nat → Nat → Nat) (p : Nat) : Nat → Nat → Nat
  | 0 => fun y => e 0 y
  | x + 1 => fun y => Nat.rec (e (x + 1) 0) (fun y r => min (min (e (x + 1) (y + 1)) (c x y + Rr c e p x y)) (p + min (Rr c e p x (y + 1)) r)) y
def Wp (c e : Nat → Nat → Nat) (p : Nat) : Nat → Nat → Nat
  | 0 => fun y => Nat.rec FAR (fun _ r => min (min FAR (p + r)) FAR) y
  | x + 1 => fun y => Nat.rec (min (min FAR (p + Wp c e p x 0)) FAR) (fun y r => min (min (min (c x y + min (Wp c e p x y) (e x y)) (p + Wp c e p x (y + 1))) (p + r)) FAR) y
section
variable {c e : Nat → Nat → Nat} {p : Nat}
theorem Rr_0 (y : Nat) : Rr c e p 0 y = e 0 y := rfl
theorem Rr_x0 (x : Nat) : Rr c e p x 0 = e x 0 := by cases x <;> rfl
theorem Rr_ss (x y : Nat) : Rr c e p (x + 1) (y + 1) = min (min (e (x + 1) (y + 1)) (c x y + Rr c e p x y)) (p + min (Rr c e p x (y + 1)) (Rr c e p (x + 1) y)) := rfl
theorem Wp_ss (x y : Nat) : Wp c e p (x + 1) (y + 1) = min (min (min (c x y + min (Wp c e p x y) (e x y)) (p + Wp c e p x (y + 1))) (p + Wp c e p (x + 1) y)) FAR := rfl
theorem Wp_0 : ∀ y, Wp c e p 0 y = FAR
  | 0 => rfl
  | y + 1 => by
    show min (min FAR (p + Wp c e p 0 y)) FAR = FAR
    rw [Wp_0 y]
    omega
theorem Wp_x0 : ∀ x, Wp c e p x 0 = FAR
  | 0 => rfl
  | x + 1 => by
    show min (min FAR (p + Wp c e p x 0)) FAR = FAR
    rw [Wp_x0 x]
    omega
theorem Wp_le : ∀ x y, Wp c e p x y ≤ FAR
  | 0, y => by rw [Wp_0]; exact Nat.le_refl _
  | x + 1, 0 => by rw [Wp_x0]; exact Nat.le_refl _
  | x + 1, y + 1 => by rw [Wp_ss]; omega
theorem Rr_le_e : ∀ x y, Rr c e p x y ≤ e x y
  | 0, y => Nat.le_refl _
  | x + 1, 0 => Nat.le_refl _
  | x + 1, y + 1 => by rw [Rr_ss]; omega
/-- the two ways of reckoning agree -/
theorem Rr_eq (he1 : ∀ x y, e (x + 1) y ≤ p + e x y) (he2 : ∀ x y, e x (y + 1) ≤ p + e x y) (hb : ∀ x y, x ≤ 10 → y ≤ 10 → e x y < FAR) : ∀ x y, x ≤ 10 → y ≤ 10 → Rr c e p x y = min (Wp c e p x y) (e x y)
  | 0, y, hx, hy => by
    rw [Rr_0, Wp_0]
    have := hb 0 y hx hy
    omega
  | x + 1, 0, hx, hy => by
    rw [Rr_x0, Wp_x0]
    have := hb (x + 1) 0 hx hy
    omega
  | x + 1, y + 1, hx, hy => by
    rw [Rr_ss, Wp_ss, Rr_eq he1 he2 hb x y (by omega) (by omega), Rr_eq he1 he2 hb x (y + 1) (by omega) (by omega), Rr_eq he1 he2 hb (x + 1) y (by omega) (by omega)]
    have h1 := he1 x (y + 1)
    have h2 := he2 (x + 1) y
    have h3 := hb (x + 1) (y + 1) hx hy
    omega
/-- each row has a place that is no dearer -/
theorem Rr_row1 (hm : ∀ x y, e x y ≤ e (x + 1) y) (x : Nat) : ∀ y, ∃ y', y' ≤ y ∧ Rr c e p x y' ≤ Rr c e p (x + 1) y
  | 0 => ⟨0, Nat.le_refl _, by rw [Rr_x0, Rr_x0]; exact hm x 0⟩
  | y + 1 => by
    obtain ⟨y', h1, h2⟩ := Rr_row1 hm x y
    have h3 := hm x (y + 1)
    have h4 : Rr c e p x (y + 1) ≤ e x (y + 1) := Rr_le_e x (y + 1)
    rw [Rr_ss]
    by_cases a1 : Rr c e p x (y + 1) ≤ min (min (e (x + 1) (y + 1)) (c x y + Rr c e p x y)) (p + min (Rr c e p x (y + 1)) (Rr c e p (x + 1) y))
    · exact ⟨y + 1, Nat.le_refl _, a1⟩
    · by_cases a2 : Rr c e p x y ≤ min (min (e (x + 1) (y + 1)) (c x y + Rr c e p x y)) (p + min (Rr c e p x (y + 1)) (Rr c e p (x + 1) y))
      · exact ⟨y, by omega, a2⟩
      · exact ⟨y', by omega, by omega⟩
theorem Rr_row (hm : ∀ x y, e x y ≤ e (x + 1) y) (x' : Nat) : ∀ d y, ∃ y', y' ≤ y ∧ Rr c e p x' y' ≤ Rr c e p (x' + d) y
  | 0, y => ⟨y, Nat.le_refl _, Nat.le_refl _⟩
  | d + 1, y => by
    obtain ⟨y1, h1, h2⟩ := Rr_row1 (c := c) (p := p) hm (x' + d) y
    obtain ⟨y2, h3, h4⟩ := Rr_row hm x' d y1
    exact ⟨y2, by omega, by rw [show x' + (d + 1) = x' + d + 1 by omega]; omega⟩
theorem Rr_sym : ∀ x y, Rr c e p x y = Rr (fun a b => c b a) (fun a b => e b a) p y x
  | 0, 0 => rfl
  | 0, y + 1 => rfl
  | x + 1, 0 => rfl
  | x + 1, y + 1 => by
    rw [Rr_ss, Rr_ss, Rr_sym x y, Rr_sym x (y + 1), Rr_sym (x + 1) y]
    omega
end
theorem Rr_congr {c c' e e' : Nat → Nat → Nat} {p : Nat} : ∀ x y, (∀ a b, a < x → b < y → c a b = c' a b) → (∀ a b, a ≤ x → b ≤ y → e a b = e' a b) → Rr c e p x y = Rr c' e' p x y
  | 0, y, _, he => he 0 y (Nat.le_refl _) (Nat.le_refl _)
  | x + 1, 0, _, he => he (x + 1) 0 (Nat.le_refl _) (Nat.le_refl _)
  | x + 1, y + 1, hc, he => by
    rw [Rr_ss, Rr_ss, he (x + 1) (y + 1) (Nat.le_refl _) (Nat.le_refl _), hc x y (by omega) (by omega),
      Rr_congr x y (fun a b h1 h2 => hc a b (by omega) (by omega)) (fun a b h1 h2 => he a b (by omega) (by omega)),
      Rr_congr x (y + 1) (fun a b h1 h2 => hc a b (by omega) (by omega)) (fun a b h1 h2 => he a b (by omega) (by omega)),
      Rr_congr (x + 1) y (fun a b h1 h2 => hc a b (by omega) (by omega)) (fun a b h1 h2 => he a b (by omega) (by omega))]
/-! the first of the least -/
def bst (g : Nat → Nat) : Nat → Nat × Nat
  | 0 => (FAR, 0)
  | k + 1 => if g k < (bst g k).1 then (g k, k) else bst g k
theorem bst_le (g : Nat → Nat) : ∀ n k, k < n → (bst g n).1 ≤ g k
  | 0, k, h => absurd h (Nat.not_lt_zero _)
  | n + 1, k, h => by
    unfold bst
    by_cases e : k = n
    · subst e
      split <;> omega
    · have := bst_le g n k (by omega)
      split <;> omega
theorem bst_mem (g : Nat → Nat) (hg : ∀ k, g k < FAR) : ∀ n, 0 < n → (bst g n).2 < n ∧ (bst g n).1 = g (bst g n).2
  | 0, h => absurd h (Nat.lt_irrefl _)
  | n + 1, _ => by
    unfold bst
    split
    · exact ⟨Nat.lt_succ_self _, rfl⟩
    · next h =>
      cases n with
      | zero => exact absurd (hg 0) h
      | succ m =>
        have := bst_mem g hg (m + 1) (by omega)
        exact ⟨by omega, this.2⟩
theorem bst_lt (g : Nat → Nat) (hg : ∀ k, g k < FAR) (n : Nat) (h : 0 < n) : (bst g n).1 < FAR := by
  rw [(bst_mem g hg n h).2]
  exact hg _
theorem bst_0 (g : Nat → Nat) : ∀ n d, (bst g n).1 = 0 → bst g (n + d) = bst g n
  | _, 0, _ => rfl
  | n, d + 1, h => by
    have h1 := bst_0 g n d h
    show (if g (n + d) < (bst g (n + d)).1 then (g (n + d), n + d) else bst g (n + d)) = _
    rw [h1, if_neg (by omega)]
theorem bst_same {g g' : Nat → Nat} : ∀ n, (∀ k, k < n → g k = g' k) → bst g n = bst g' n
  | 0, _ => rfl
  | n + 1, h => by
    unfold bst
    rw [bst_same n (fun k hk => h k (by omega)), h n (by omega)]
/-- what a CARRYING's place in the row is when it is turned round -/
def iv (k : Nat) : Nat := [0, 1, 2, 4, 3, 5, 6, 7, 12, 18, 13, 19, 8, 10, 14, 20, 16, 22, 9, 11, 15, 21, 17, 23].getD k 0
theorem iv_b : ((List.range 24).all fun k => iv k < 24 && iv (iv k) == k && (List.range 4).all fun r => (List.range 4).all fun s => (pm k r == s) == (pm (iv k) s == r)) = true := by decide +kernel
theorem iv_ok {k : Nat} (hk : k < 24) : iv k < 24 ∧ iv (iv k) = k ∧ ∀ r s, r < 4 → s < 4 → (pm k r = s ↔ pm (iv k) s = r) := by
  have h := List.all_eq_true.mp iv_b k (List.mem_range.mpr hk)
  simp only [Bool.and_eq_true, beq_iff_eq, decide_eq_true_eq] at h
  refine ⟨h.1.1, h.1.2, fun r s hr hs => ?_⟩
  have h2 := List.all_eq_true.mp (List.all_eq_true.mp h.2 r (List.mem_range.mpr hr)) s (List.mem_range.mpr hs)
  simp only [beq_iff_eq] at h2
  constructor
  · intro e
    have : (pm k r == s) = true := by simp [e]
    rw [this] at h2
    exact eq_of_beq h2.symm
  · intro e
    have : (pm (iv k) s == r) = true := by simp [e]
    rw [this] at h2
    exact eq_of_beq h2
theorem bst_iv {g g' : Nat → Nat} (hg : ∀ k, g k < FAR) (hg' : ∀ k, g' k < FAR) (h : ∀ k, k < 24 → g' k = g (iv k)) : (bst g 24).1 = (bst g' 24).1 := by
  have a := bst_mem g hg 24 (by decide)
  have b := bst_mem g' hg' 24 (by decide)
  have i1 := iv_ok a.1
  have i2 := iv_ok b.1
  have c1 := bst_le g 24 (iv (bst g' 24).2) i2.1
  have c2 := bst_le g' 24 (iv (bst g 24).2) i1.1
  have d1 := h _ b.1
  have d2 := h _ i1.1
  rw [i1.2.1] at d2
  omega
/-! rows of STEPS -/
/-- a pair's price by the k-th CARRYING; A, B: STEP i's motif (0), who (1), whom (2) -/
def pq (p0 p1 k : Nat) (A B : Nat → Nat → Nat) (i j : Nat) : Nat := (if A i 0 = B j 0 then 0 else p0) + (if pm k (A i 1) = B j 1 then 0 else p1) + (if pm k (A i 2) = B j 2 then 0 else p1)
def eq_ (p2 : Nat) (ta tb : Bool) (x y : Nat) : Nat := p2 * ((if tb then 0 else x) + (if ta then 0 else y))
/-- what the least LAYING by the k-th CARRYING costs: a's STEPS up to (not with) ea, na of them; b's likewise -/
def gq (p0 p1 p2 : Nat) (A : Nat → Nat → Nat) (na ea : Nat) (ta : Bool) (B : Nat → Nat → Nat) (nb eb : Nat) (tb : Bool) (k : Nat) : Nat := Rr (fun x y => pq p0 p1 k A B (ea - (x + 1)) (eb - (y + 1))) (eq_ p2 ta tb) p2 na nb
theorem eq1 (p2 : Nat) (ta tb : Bool) (x y : Nat) : eq_ p2 ta tb (x + 1) y ≤ p2 + eq_ p2 ta tb x y := by
  unfold eq_
  cases tb <;> simp [Nat.mul_add] <;> omega
theorem eq2 (p2 : Nat) (ta tb : Bool) (x y : Nat) : eq_ p2 ta tb x (y + 1) ≤ p2 + eq_ p2 ta tb x y := by
  unfold eq_
  cases ta <;> simp [Nat.mul_add] <;> omega
theorem eqm1 (p2 : Nat) (ta tb : Bool) (x y : Nat) : eq_ p2 ta tb x y ≤ eq_ p2 ta tb (x + 1) y := by
  unfold eq_
  cases tb <;> simp [Nat.mul_add] <;> omega
theorem eq_le {p2 : Nat} (hp : p2 ≤ 9) (ta tb : Bool) {x y : Nat} (hx : x ≤ 10) (hy : y ≤ 10) : eq_ p2 ta tb x y ≤ 180 := by
  unfold eq_
  have h1 : (if tb then 0 else x) + (if ta then 0 else y) ≤ 20 := by cases ta <;> cases tb <;> simp <;> omega
  calc p2 * ((if tb then 0 else x) + (if ta then 0 else y)) ≤ 9 * 20 := Nat.mul_le_mul hp h1
    _ = 180 := rfl
theorem gq_le {p0 p1 p2 : Nat} (hp : p2 ≤ 9) {A B : Nat → Nat → Nat} {na ea nb eb : Nat} {ta tb : Bool} {k : Nat} (ha : na ≤ 10) (hb : nb ≤ 10) : gq p0 p1 p2 A na ea ta B nb eb tb k ≤ 180 := Nat.le_trans (Rr_le_e _ _) (eq_le hp ta tb ha hb)
/-- COST: the least over all CARRYINGS, and the first by which it can be -/
def cq (p0 p1 p2 : Nat) (A : Nat → Nat → Nat) (na ea : Nat) (ta : Bool) (B : Nat → Nat → Nat) (nb eb : Nat) (tb : Bool) : Nat × Nat := bst (gq p0 p1 p2 A na ea ta B nb eb tb) 24
theorem cq_sym {p0 p1 p2 : Nat} (hp : p2 ≤ 9) {A B : Nat → Nat → Nat} {na ea nb eb : Nat} {ta tb : Bool} (ha : na ≤ 10) (hb : nb ≤ 10) (hea : na ≤ ea) (heb : nb ≤ eb) (hA : ∀ i w, i < ea → 0 < w → w < 3 → A i w < 4) (hB : ∀ i w, i < eb → 0 < w → w < 3 → B i w < 4) : (cq p0 p1 p2 A na ea ta B nb eb tb).1 = (cq p0 p1 p2 B nb eb tb A na ea ta).1 := by
  refine bst_iv (fun k => Nat.lt_of_le_of_lt (gq_le hp ha hb) (by decide)) (fun k => Nat.lt_of_le_of_lt (gq_le hp hb ha) (by decide)) (fun k hk => ?_)
  unfold gq
  rw [Rr_sym]
  refine Rr_congr _ _ (fun x y hx hy => ?_) (fun x y _ _ => ?_)
  · obtain ⟨i1, i2, i3⟩ := iv_ok hk
    have e1 := i3 (B (eb - (y + 1)) 1) (A (ea - (x + 1)) 1) (hB _ 1 (by omega) (by decide) (by decide)) (hA _ 1 (by omega) (by decide) (by decide))
    have e2 := i3 (B (eb - (y + 1)) 2) (A (ea - (x + 1)) 2) (hB _ 2 (by omega) (by decide) (by decide)) (hA _ 2 (by omega) (by decide) (by decide))
    show pq p0 p1 k B A (eb - (y + 1)) (ea - (x + 1)) = pq p0 p1 (iv k) A B (ea - (x + 1)) (eb - (y + 1))
    unfold pq
    simp only [e1, e2]
    congr 2
    by_cases q : B (eb - (y + 1)) 0 = A (ea - (x + 1)) 0
    · rw [if_pos q, if_pos q.symm]
    · rw [if_neg q, if_neg (fun z => q z.symm)]
  · show eq_ p2 tb ta y x = eq_ p2 ta tb x y
    unfold eq_
    rw [Nat.add_comm]
