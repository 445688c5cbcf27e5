/-! acts that change tales, PRICES or WAYS: price, way, unstep, step -/
theorem x_fill {a : Nat} {x : Int32} (hl : ln a < 99999) : ∀ (m n i : Nat) (g : tkH), m + i = ln a → m < n → ∃ hf, BC a g hf ∧ (∀ j, j < ln a → i ≤ j → hf a j = x) ∧ (∀ j, j < i → hf a j = g a j) ∧ f_J7_fill_53178_L5 a x n g (nI i) = some hf := by
  intro m
  induction m with
  | zero =>
    intro n i g hi hn
    obtain ⟨n', rfl⟩ : ∃ n', n = n' + 1 := ⟨n - 1, by omega⟩
    refine ⟨g, BC.rf, fun j h1 h2 => by omega, fun _ _ => rfl, ?_⟩
    rw [f_J7_fill_53178_L5_s, if_pos (by rw [nI_leI (by omega) (by omega)]; omega)]
  | succ m ih =>
    intro n i g hi hn
    obtain ⟨n', rfl⟩ : ∃ n', n = n' + 1 := ⟨n - 1, by omega⟩
    rw [f_J7_fill_53178_L5_s, if_neg (by rw [nI_leI (by omega) (by omega)]; omega), wrI_n (by omega) (by omega), ob, nI_1]
    obtain ⟨hf, h1, h2, h3, h4⟩ := ih n' (i + 1) (tkup g a i x) (by omega) (by omega)
    refine ⟨hf, BC.tr BC.up h1, fun j g1 g2 => ?_, fun j hj => ?_, h4⟩
    · by_cases e : j = i
      · subst e
        rw [h3 _ (by omega), up_s]
      · exact h2 j g1 (by omega)
    · rw [h3 j (by omega), up_i (by omega)]
theorem x_fillA {g : tkH} {a : Nat} {x : Int32} (hl : ln a < 99999) : ∃ hf, BC a g hf ∧ (∀ j, j < ln a → hf a j = x) ∧ f_J7_fill_53178 g a x = some hf := by
  obtain ⟨hf, h1, h2, h3, h4⟩ := x_fill (x := x) hl (ln a) FU 0 g (by omega) (FU_gt (by omega))
  exact ⟨hf, h1, fun j hj => h2 j hj (by omega), h4⟩
theorem x_forgetAll {g : tkH} : ∃ hf, BC 201 g hf ∧ (∀ f, Ca hf f) ∧ f_X2_forgetAll g 192 = some hf := by
  have l : ln 201 = 100 := by simp only [LN]
  obtain ⟨hf, h1, h2, h3⟩ := x_fillA (g := g) (a := 201) (x := -1) (by omega)
  refine ⟨hf, h1, fun f => ⟨fun a b ha hb => ?_, fun a b ha hb => ⟨fun _ => Or.inl ?_, fun _ => ?_⟩⟩, ?_⟩
  · rw [h2 _ (by omega), h2 _ (by omega)]
  · rw [h2 _ (by omega)]
  · rw [h2 _ (by omega)]
  · unfold f_X2_forgetAll
    rw [show fld 192 1 = 201 by simp only [FL], h3, ob]
theorem x_forgetL {t : Nat} (ht : t < 10) : ∀ (m n i : Nat) (g : tkH), m + i = 10 → m < n → ∃ hf, BC 201 g hf ∧ (∀ a b, a < 10 → b < 10 → hf 201 (10 * a + b) = if (a = t ∧ i ≤ b) ∨ (b = t ∧ i ≤ a) then -1 else g 201 (10 * a + b)) ∧ f_X2_forget_L2 192 (nI t) n g (nI i) = some hf := by
  intro m
  induction m with
  | zero =>
    intro n i g hi hn
    obtain ⟨n', rfl⟩ : ∃ n', n = n' + 1 := ⟨n - 1, by omega⟩
    refine ⟨g, BC.rf, fun a b ha hb => by rw [if_neg (by omega)], ?_⟩
    rw [f_X2_forget_L2_s, if_pos (by rw [nl10, nI_leI (by omega) (by omega)]; omega)]
  | succ m ih =>
    intro n i g hi hn
    obtain ⟨n', rfl⟩ : ∃ n', n = n' + 1 := ⟨n - 1, by omega⟩
    rw [f_X2_forget_L2_s, if_neg (by rw [nl10, nI_leI (by omega) (by omega)]; omega), show fld 192 1 = 201 by simp only [FL], nl10, pk_mul, nI_add, w201 (by omega), ob, pk_mul, nI_add, w201 (by omega), ob, nI_1]
    obtain ⟨hf, h1, h2, h3⟩ := ih n' (i + 1) (tkup (tkup g 201 (t * 10 + i) (-1)) 201 (i * 10 + t) (-1)) (by omega) (by omega)
    refine ⟨hf, BC.tr (BC.tr BC.up BC.up) h1, fun a b ha hb => ?_, h3⟩
    rw [h2 a b ha hb]
    by_cases c1 : (a = t ∧ i + 1 ≤ b) ∨ (b = t ∧ i + 1 ≤ a)
    · rw [if_pos c1, if_pos (by omega)]
    · rw [if_neg c1]
      by_cases c2 : 10 * a + b = i * 10 + t
      · rw [c2, up_s, if_pos (by omega)]
      · rw [up_i c2]
        by_cases c3 : 10 * a + b = t * 10 + i
        · rw [c3, up_s, if_pos (by omega)]
        · rw [up_i c3, if_neg (by omega)]
theorem x_forget {g : tkH} {t : Nat} (ht : t < 10) : ∃ hf, BC 201 g hf ∧ (∀ a b, a < 10 → b < 10 → hf 201 (10 * a + b) = if a = t ∨ b = t then -1 else g 201 (10 * a + b)) ∧ f_X2_forget g 192 (nI t) = some hf := by
  obtain ⟨hf, h1, h2, h3⟩ := x_forgetL ht 10 FU 0 g rfl (FU_gt (by decide))
  refine ⟨hf, h1, fun a b ha hb => ?_, h3⟩
  rw [h2 a b ha hb]
  by_cases c : a = t ∨ b = t
  · rw [if_pos c, if_pos (by omega)]
  · rw [if_neg c, if_neg (by omega)]
theorem gq_congr {p0 p1 p2 : Nat} {A A' B B' : Nat → Nat → Nat} {na ea nb eb : Nat} {ta tb : Bool} {k : Nat} (ha : na ≤ ea) (hb : nb ≤ eb) (hA : ∀ i w, i < ea → w < 3 → A i w = A' i w) (hB : ∀ i w, i < eb → w < 3 → B i w = B' i w) : gq p0 p1 p2 A na ea ta B nb eb tb k = gq p0 p1 p2 A' na ea ta B' nb eb tb k := by
  unfold gq
  refine Rr_congr _ _ (fun x y hx hy => ?_) (fun _ _ _ _ => rfl)
  unfold pq
  rw [hA _ 0 (by omega) (by decide), hA _ 1 (by omega) (by decide), hA _ 2 (by omega) (by decide), hB _ 0 (by omega) (by decide), hB _ 1 (by omega) (by decide), hB _ 2 (by omega) (by decide)]
theorem cq_congr {p0 p1 p2 : Nat} {A A' B B' : Nat → Nat → Nat} {na ea nb eb : Nat} {ta tb : Bool} (ha : na ≤ ea) (hb : nb ≤ eb) (hA : ∀ i w, i < ea → w < 3 → A i w = A' i w) (hB : ∀ i w, i < eb → w < 3 → B i w = B' i w) : cq p0 p1 p2 A na ea ta B nb eb tb = cq p0 p1 p2 A' na ea ta B' nb eb tb := by
  unfold cq
  exact bst_same 24 (fun k _ => gq_congr ha hb hA hB)
/-- two tales are the same in f and f' -/
def TE (f f' : Nat → Int32) (t : Nat) : Prop := f' (40 + t) = f (40 + t) ∧ f' (70 + t) = f (70 + t) ∧ ∀ i w, i < cL f t → w < 3 → f' (90 + 3 * (10 * t + i) + w) = f (90 + 3 * (10 * t + i) + w)
theorem TE.c {f f' : Nat → Int32} {t : Nat} (e : TE f f' t) : cK f' t = cK f t ∧ cL f' t = cL f t ∧ fr f' t = fr f t ∧ to_ f' t = to_ f t ∧ torn f' t = torn f t ∧ ∀ i w, i < cL f t → w < 3 → cS f' t i w = cS f t i w := by
  have e1 : cK f' t = cK f t := by unfold cK; rw [e.1]
  have e2 : cL f' t = cL f t := by unfold cL; rw [e.2.1]
  refine ⟨e1, e2, by unfold fr; rw [e1, e2], by unfold to_ fr; rw [e1, e2], by unfold torn; rw [e1], fun i w hi hw => by unfold cS; rw [e.2.2 i w hi hw]⟩
theorem cst_congr {f f' : Nat → Int32} {a b : Nat} (hq : ∀ j, j < 3 → f' (1 + j) = f (1 + j)) (ea : TE f f' a) (eb : TE f f' b) : cst f' a b = cst f a b := by
  have q0 : cQ f' 0 = cQ f 0 := by unfold cQ; rw [hq 0 (by decide)]
  have q1 : cQ f' 1 = cQ f 1 := by unfold cQ; rw [hq 1 (by decide)]
  have q2 : cQ f' 2 = cQ f 2 := by unfold cQ; rw [hq 2 (by decide)]
  obtain ⟨a1, a2, a3, a4, a5, a6⟩ := ea.c
  obtain ⟨b1, b2, b3, b4, b5, b6⟩ := eb.c
  have la := fr_le (f := f) (t := a)
  have lb := fr_le (f := f) (t := b)
  unfold cst
  rw [q0, q1, q2, a3, a4, a5, b3, b4, b5]
  exact cq_congr (by omega) (by omega) (fun i w hi hw => a6 i w (by omega) hw) (fun i w hi hw => b6 i w (by omega) hw)
theorem upd_s {f : Nat → Int32} {k : Nat} {x : Int32} : upd f k x k = x := if_pos rfl
theorem upd_n {f : Nat → Int32} {k j : Nat} {x : Int32} (e : j ≠ k) : upd f k x j = f j := if_neg e
theorem up218 {h : tkH} {k : Nat} {x : Int32} : tkup h 218 k x 218 = upd (h 218) k x := tkup_s
/-- the highest that may stand at a place of the row -/
def bd (k : Nat) : Nat := if k < 4 then 9 else if k < 40 then 999 else if k < 50 then 3 else if k < 60 then 5 else if k < 70 then 999 else if (k - 90) % 3 = 0 then 15 else 3
theorem Vd.up1 {f : Nat → Int32} (v : Vd f) {k : Nat} {x : Int32} (hk : (1 ≤ k ∧ k < 70) ∨ 90 ≤ k) (hx : tN x (bd k)) : Vd (upd f k x) := by
  have n := v.n.2
  have eN : cN (upd f k x) = cN f := by unfold cN; rw [upd_n (by omega)]
  have eL : ∀ t, t < 10 → cL (upd f k x) t = cL f t := fun t ht => by unfold cL; rw [upd_n (by omega)]
  have eP : ∀ t, t < 10 → prt (upd f k x) t = prt f t := fun t ht => by unfold prt; rw [upd_n (by omega)]
  have T : ∀ i y, (i = k → bd k ≤ y) → tN (f i) y → tN (upd f k x i) y := by
    intro i y hi h
    by_cases e : i = k
    · subst e
      rw [upd_s]
      exact ⟨hx.1, Nat.le_trans hx.2 (hi rfl)⟩
    · rw [upd_n e]
      exact h
  refine ⟨T _ _ (by omega) v.1, fun j hj => T _ _ (fun e => by unfold bd; rw [← e]; split <;> omega) (v.2.1 j hj), fun j hj => T _ _ (fun e => by unfold bd; rw [← e, if_neg (by omega), if_pos (by omega)]; omega) (v.2.2.1 j hj), fun t ht => ?_, fun t ht => ?_⟩
  · rw [eN] at ht
    obtain ⟨v1, v2, v3, v4, v5, v6⟩ := v.2.2.2.1 t ht
    have l := (v.l ht).2
    refine ⟨T _ _ (fun e => by unfold bd; rw [← e, if_neg (by omega), if_neg (by omega), if_pos (by omega)]; omega) v1, T _ _ (fun e => by unfold bd; rw [← e, if_neg (by omega), if_neg (by omega), if_neg (by omega), if_pos (by omega)]; omega) v2, T _ _ (fun e => by unfold bd; rw [← e, if_neg (by omega), if_neg (by omega), if_neg (by omega), if_neg (by omega), if_pos (by omega)]; omega) v3, T _ _ (by omega) v4, ?_, fun i hi => ?_⟩
    · rw [upd_n (by omega), eN]
      exact v5
    · rw [eL t (by omega)] at hi
      obtain ⟨w1, w2, w3⟩ := v6 i hi
      exact ⟨T _ _ (fun e => by unfold bd; rw [← e, if_neg (by omega), if_neg (by omega), if_neg (by omega), if_neg (by omega), if_neg (by omega), if_pos (by omega)]; omega) w1, T _ _ (fun e => by unfold bd; rw [← e, if_neg (by omega), if_neg (by omega), if_neg (by omega), if_neg (by omega), if_neg (by omega), if_neg (by omega)]; omega) w2, T _ _ (fun e => by unfold bd; rw [← e, if_neg (by omega), if_neg (by omega), if_neg (by omega), if_neg (by omega), if_neg (by omega), if_neg (by omega)]; omega) w3⟩
  · rw [eN] at ht
    obtain ⟨m, hm⟩ := v.2.2.2.2 t ht
    exact ⟨m, (it_ext v eP m t ht).trans hm⟩
theorem op_price {h : tkH} (I : Inv h) (a b : Int32) : OP (f_X8_price h 0 a b) (fun g => f_X9_price g 217 a b) := by
  have v := I.1
  have n2 := v.n.2
  by_cases ha : ∃ t, t < 3 ∧ a = nI t
  · obtain ⟨j, hj, rfl⟩ := ha
    by_cases hb : ∃ t, t < 10 ∧ b = nI t
    · obtain ⟨p, hp, rfl⟩ := hb
      obtain ⟨h1, k1, k2, K⟩ := mutK I
      obtain ⟨h2, c1, c2, c3⟩ := x_forgetAll (g := h1)
      have e8 : h2 8 = h 8 := (c1 8 (by decide)).trans (k2 8 (by omega))
      obtain ⟨hk, m1, m2, m3, m4⟩ := K (tkup h2 8 j (nI p)) (fun q g1 g2 => by rw [up_a (by omega), c1 q g2]) (by rw [up_a (by decide), c1 0 (by decide)])
      refine ⟨h 218 (1 + j), tkup h2 8 j (nI p), tkup hk 218 (1 + j) (nI p), ?_, ?_, m4 _ (fun q e => up_a e) ?_ ?_ ?_⟩
      · unfold f_X8_price
        rw [f00.1, f00.2.1, f00.2.2.1, nl3, x_in hj (by decide)]
        simp only [ob, i1f, eq_self, if_true, if_false]
        rw [nl10, x_in hp (by decide)]
        simp only [ob, i1f, eq_self, if_true, if_false]
        rw [k1, ob, c3, ob, show fld 1 7 = 8 by simp only [FL], rdI_n (by simp only [LN]; exact hj) (by simp only [LN]; decide), ob, wrI_n (by simp only [LN]; exact hj) (by simp only [LN]; decide), ob, e8, I.2.1.2.2.1 j hj]
      · show f_X9_price _ 217 (nI j) (nI p) = _
        unfold f_X9_price
        rw [nl2, m_in (n := 2) (by omega) (by decide)]
        simp only [ob, i1f, eq_self, if_true, if_false]
        rw [nl9, m_in (n := 9) (by omega) (by decide)]
        simp only [ob, i1f, eq_self, if_true, if_false]
        rw [m1, ob, show fld 217 0 = 218 by simp only [FL], nl1, nI_add, r218 (by omega), ob, w218 (by omega), ob, m2]
      · rw [up218, m2]
        refine v.up1 (Or.inl (by omega)) ?_
        unfold bd
        rw [if_pos (by omega)]
        exact tN_of (by omega) (by decide)
      · rw [up218, m2]
        obtain ⟨x0, x1, x2, x3⟩ := I.2.1
        have eN : cN (upd (h 218) (1 + j) (nI p)) = cN (h 218) := by unfold cN; rw [upd_n (by omega)]
        have E : ∀ q, 1 ≤ q → q ≤ 9 → q ≠ 8 → tkup h2 8 j (nI p) q = h q := fun q g1 g2 g3 => by rw [up_a g3, c1 q (by omega), k2 q (by omega)]
        refine ⟨by rw [E 1 (by omega) (by omega) (by omega), upd_n (by omega)]; exact x0, fun t ht => ?_, fun i hi => ?_, fun i hi => by rw [E (1 + 8) (by omega) (by omega) (by omega), upd_n (by omega)]; exact x3 i hi⟩
        · rw [eN] at ht
          obtain ⟨y1, y2, y3, y4, y5, y6⟩ := x1 t ht
          have eL : cL (upd (h 218) (1 + j) (nI p)) t = cL (h 218) t := by unfold cL; rw [upd_n (by omega)]
          rw [E (1 + 1) (by omega) (by omega) (by omega), E (1 + 2) (by omega) (by omega) (by omega), E (1 + 3) (by omega) (by omega) (by omega), E (1 + 4) (by omega) (by omega) (by omega), E (1 + 5) (by omega) (by omega) (by omega), E (1 + 6) (by omega) (by omega) (by omega), upd_n (by omega), upd_n (by omega), upd_n (by omega), upd_n (by omega), upd_n (by omega), eL]
          exact ⟨y1, y2, y3, y4, y5, fun i hi => by rw [upd_n (by omega), upd_n (by omega), upd_n (by omega)]; exact y6 i hi⟩
        · show tkup h2 8 j (nI p) 8 i = _
          by_cases e : i = j
          · subst e
            rw [up_s, upd_s]
          · rw [up_i e, upd_n (by omega), e8]
            exact x2 i hi
      · rw [up218]
        exact (c2 _).keep (up_a (by decide))
    · refine OP.f0 (c := -100001) I ?_ (fun g e => ?_)
      · unfold f_X8_price f_X8_price_J17
        rw [nl3, x_in hj (by decide)]
        simp only [ob, i1f, eq_self, if_true, if_false]
        rw [nl10, x_out hb (by decide)]
        simp only [ob, i1f, eq_self, if_true, if_false]
        rfl
      · show f_X9_price g 217 (nI j) b = _
        unfold f_X9_price f_X9_price_J19
        rw [nl2, m_in (n := 2) (by omega) (by decide)]
        simp only [ob, i1f, eq_self, if_true, if_false]
        rw [nl9, m_out hb (by decide)]
        simp only [ob, i1f, eq_self, if_true, if_false]
        rfl
  · refine OP.f0 (c := -100001) I ?_ (fun g e => ?_)
    · unfold f_X8_price f_X8_price_J17
      rw [nl3, x_out ha (by decide)]
      simp only [ob, i1f, eq_self, if_true, if_false]
      rfl
    · show f_X9_price g 217 a b = _
      unfold f_X9_price f_X9_price_J19
      rw [nl2, m_out ha (by decide)]
      simp only [ob, i1f, eq_self, if_true, if_false]
      rfl
