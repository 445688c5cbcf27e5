/-! borrowed: partial carryings -/
def e4 (x : Nat) : Int32 := if x < 4 then nI x else -1
def BI (gs os : Nat → Nat) : Prop := (∀ r, r < 4 → gs r ≤ 4) ∧ (∀ s, s < 4 → os s ≤ 4) ∧ ∀ r s, r < 4 → s < 4 → (gs r = s ↔ os s = r)
def Ex (k : Nat) (gs : Nat → Nat) : Prop := ∀ r, r < 4 → gs r < 4 → pm k r = gs r
def B2 (g hf : tkH) : Prop := ∀ q, q ≠ 206 → q ≠ 207 → hf q = g q
theorem B2.rf {g : tkH} : B2 g g := fun _ _ _ => rfl
theorem B2.tr {g1 g2 g3 : tkH} (p : B2 g1 g2) (q : B2 g2 g3) : B2 g1 g3 := fun x a b => (q x a b).trans (p x a b)
def R2 (g : tkH) (gs os : Nat → Nat) : Prop := (∀ r, r < 4 → g 206 r = e4 (gs r)) ∧ ∀ s, s < 4 → g 207 s = e4 (os s)
theorem ex_b : ((List.range 5).all fun a => (List.range 5).all fun b => (List.range 5).all fun c => (List.range 5).all fun d => (decide (a < 4 ∧ (a = b ∨ a = c ∨ a = d)) || decide (b < 4 ∧ (b = c ∨ b = d)) || decide (c < 4 ∧ c = d)) || (List.range 24).any fun k => (decide (a = 4) || pm k 0 == a) && (decide (b = 4) || pm k 1 == b) && (decide (c = 4) || pm k 2 == c) && (decide (d = 4) || pm k 3 == d)) = true := by decide +kernel
theorem ex_k {gs os : Nat → Nat} (h : BI gs os) : ∃ k, k < 24 ∧ Ex k gs := by
  obtain ⟨h1, h2, h3⟩ := h
  have inj : ∀ r r', r < 4 → r' < 4 → gs r < 4 → gs r = gs r' → r = r' := fun r r' a b c d => by
    have q1 := (h3 r (gs r) a c).mp rfl
    have q2 := (h3 r' (gs r) b c).mp d.symm
    omega
  have b0 := h1 0 (by decide)
  have b1 := h1 1 (by decide)
  have b2 := h1 2 (by decide)
  have b3 := h1 3 (by decide)
  have t := List.all_eq_true.mp (List.all_eq_true.mp (List.all_eq_true.mp (List.all_eq_true.mp ex_b (gs 0) (List.mem_range.mpr (by omega))) (gs 1) (List.mem_range.mpr (by omega))) (gs 2) (List.mem_range.mpr (by omega))) (gs 3) (List.mem_range.mpr (by omega))
  rw [Bool.or_eq_true] at t
  rcases t with t | t
  · exfalso
    simp only [Bool.or_eq_true, decide_eq_true_eq] at t
    rcases t with (⟨c, e | e | e⟩ | ⟨c, e | e⟩) | ⟨c, e⟩
    · exact absurd (inj 0 1 (by decide) (by decide) c e) (by decide)
    · exact absurd (inj 0 2 (by decide) (by decide) c e) (by decide)
    · exact absurd (inj 0 3 (by decide) (by decide) c e) (by decide)
    · exact absurd (inj 1 2 (by decide) (by decide) c e) (by decide)
    · exact absurd (inj 1 3 (by decide) (by decide) c e) (by decide)
    · exact absurd (inj 2 3 (by decide) (by decide) c e) (by decide)
  · obtain ⟨k, hk, q⟩ := List.any_eq_true.mp t
    refine ⟨k, List.mem_range.mp hk, ?_⟩
    simp only [Bool.and_eq_true, Bool.or_eq_true, decide_eq_true_eq, beq_iff_eq] at q
    obtain ⟨⟨⟨q0, q1⟩, q2⟩, q3⟩ := q
    intro r hr hg
    match r, hr with
    | 0, _ => exact q0.resolve_left (by omega)
    | 1, _ => exact q1.resolve_left (by omega)
    | 2, _ => exact q2.resolve_left (by omega)
    | 3, _ => exact q3.resolve_left (by omega)
theorem pm_inj {k r r' : Nat} (hk : k < 24) (hr : r < 4) (hr' : r' < 4) (e : pm k r = pm k r') : r = r' := by
  obtain ⟨i1, i2, i3⟩ := iv_ok hk
  have p := (pm_ok hk hr).1
  have q1 := (i3 r (pm k r) hr p).mp rfl
  have q2 := (i3 r' (pm k r) hr' p).mp e.symm
  omega
theorem e4_neg {x : Nat} (h : x ≤ 4) : (0 ≤ e4 x) ↔ x < 4 := by
  unfold e4
  by_cases c : x < 4
  · rw [if_pos c]
    exact ⟨fun _ => c, fun _ => nI_pos' (by omega)⟩
  · rw [if_neg c]
    exact ⟨fun q => absurd q (by decide), fun q => absurd q c⟩
theorem e4_eq {x s : Nat} (hs : s < 4) : (e4 x = nI s) ↔ x = s := by
  unfold e4
  by_cases c : x < 4
  · rw [if_pos c]
    exact nI_eq (by omega) (by omega)
  · rw [if_neg c]
    exact ⟨fun q => absurd q.symm (nI_neg_one s (by omega)), fun q => absurd (q ▸ hs) c⟩
theorem r206 {h : tkH} {k : Nat} (hk : k < 4) : rdI h 206 (nI k) = some (h 206 k) := rdI_n (by simp only [LN]; exact hk) (by simp only [LN]; decide)
theorem w206 {h : tkH} {k : Nat} {x : Int32} (hk : k < 4) : wrI h 206 (nI k) x = some (tkup h 206 k x) := wrI_n (by simp only [LN]; exact hk) (by simp only [LN]; decide)
theorem r207 {h : tkH} {k : Nat} (hk : k < 4) : rdI h 207 (nI k) = some (h 207 k) := rdI_n (by simp only [LN]; exact hk) (by simp only [LN]; decide)
theorem w207 {h : tkH} {k : Nat} {x : Int32} (hk : k < 4) : wrI h 207 (nI k) x = some (tkup h 207 k x) := wrI_n (by simp only [LN]; exact hk) (by simp only [LN]; decide)
theorem f205 : fld 205 0 = 206 ∧ fld 205 1 = 207 := by simp only [FL]; decide
theorem x_leads {g : tkH} {gs os : Nat → Nat} {r s : Nat} (R : R2 g gs os) (B : BI gs os) (hr : r < 4) (hs : s < 4) :
    (∃ gs' os' hf, B2 g hf ∧ R2 hf gs' os' ∧ BI gs' os' ∧ (∀ k, k < 24 → (Ex k gs' ↔ Ex k gs ∧ pm k r = s)) ∧ f_X1_leads g 205 (nI r) (nI s) = some (1, hf)) ∨ ((∀ k, k < 24 → Ex k gs → ¬ pm k r = s) ∧ f_X1_leads g 205 (nI r) (nI s) = some (0, g)) := by
  obtain ⟨B1, B2', B3⟩ := id B
  have br := B1 r hr
  have bs := B2' s hs
  have J : f_X1_leads_J32 205 (nI r) (nI s) g = if gs r = s then some (1, g) else some (0, g) := by
    unfold f_X1_leads_J32
    rw [f205.1, r206 hr, ob, R.1 r hr]
    by_cases c : gs r = s
    · rw [if_pos c, if_pos ((e4_eq hs).mpr c)]
    · rw [if_neg c, if_neg (fun q => c ((e4_eq hs).mp q))]
  by_cases c1 : gs r < 4
  · have L : f_X1_leads g 205 (nI r) (nI s) = if gs r = s then some (1, g) else some (0, g) := by
      unfold f_X1_leads
      rw [f205.1, r206 hr, ob, R.1 r hr, if_pos ((e4_neg br).mpr c1), J]
    by_cases c : gs r = s
    · rw [if_pos c] at L
      refine Or.inl ⟨gs, os, g, B2.rf, R, B, fun k hk => ⟨fun q => ⟨q, (q r hr c1).trans c⟩, fun q => q.1⟩, L⟩
    · rw [if_neg c] at L
      refine Or.inr ⟨fun k hk q e => c ((q r hr c1).symm.trans e), L⟩
  · have e4r : gs r = 4 := by omega
    by_cases c2 : os s < 4
    · have L : f_X1_leads g 205 (nI r) (nI s) = some (0, g) := by
        unfold f_X1_leads
        rw [f205.1, f205.2, r206 hr, ob, R.1 r hr, if_neg (fun q => c1 ((e4_neg br).mp q)), r207 hs, ob, R.2 s hs, if_pos ((e4_neg bs).mpr c2), J, if_neg (by omega)]
      refine Or.inr ⟨fun k hk q e => ?_, L⟩
      have h1 : gs (os s) = s := (B3 (os s) s c2 hs).mpr rfl
      have h2 : pm k (os s) = s := (q (os s) c2 (by omega)).trans h1
      have h3 := pm_inj hk hr c2 (e.trans h2.symm)
      rw [← h3] at h1
      omega
    · have e4s : os s = 4 := by omega
      refine Or.inl ⟨fun x => if x = r then s else gs x, fun x => if x = s then r else os x, tkup (tkup g 206 r (nI s)) 207 s (nI r), fun q h1 h2 => by rw [up_a h2, up_a h1], ⟨fun x hx => ?_, fun x hx => ?_⟩, ⟨fun x hx => ?_, fun x hx => ?_, fun x y hx hy => ?_⟩, fun k hk => ⟨fun q => ⟨fun x hx hg => ?_, ?_⟩, fun q x hx hg => ?_⟩, ?_⟩
      · rw [up_a (by decide)]
        show _ = e4 (if x = r then s else gs x)
        by_cases e : x = r
        · rw [if_pos e, e, up_s]
          unfold e4
          rw [if_pos hs]
        · rw [if_neg e, up_i e]
          exact R.1 x hx
      · show _ = e4 (if x = s then r else os x)
        by_cases e : x = s
        · rw [if_pos e, e, up_s]
          unfold e4
          rw [if_pos hr]
        · rw [if_neg e, up_i e, up_a (by decide)]
          exact R.2 x hx
      · show (if x = r then s else gs x) ≤ 4
        split
        · omega
        · exact B1 x hx
      · show (if x = s then r else os x) ≤ 4
        split
        · omega
        · exact B2' x hx
      · show ((if x = r then s else gs x) = y) ↔ ((if y = s then r else os y) = x)
        have b3 := B3 x y hx hy
        have b4 := B3 r y hr hy
        have b5 := B3 x s hx hs
        by_cases e1 : x = r
        · rw [if_pos e1]
          by_cases e2 : y = s
          · rw [if_pos e2]
            omega
          · rw [if_neg e2, e1]
            omega
        · rw [if_neg e1]
          by_cases e2 : y = s
          · rw [if_pos e2, e2]
            omega
          · rw [if_neg e2]
            exact b3
      · have hne : x ≠ r := fun e => by rw [e] at hg; omega
        have z := q x hx (by show (if x = r then s else gs x) < 4; rw [if_neg hne]; exact hg)
        have z' : pm k x = if x = r then s else gs x := z
        rw [if_neg hne] at z'
        exact z'
      · have z : pm k r = if r = r then s else gs r := q r hr (by show (if r = r then s else gs r) < 4; rw [if_pos rfl]; exact hs)
        rw [if_pos rfl] at z
        exact z
      · show pm k x = if x = r then s else gs x
        by_cases e : x = r
        · rw [if_pos e, e]
          exact q.2
        · have hg' : (if x = r then s else gs x) < 4 := hg
          rw [if_neg e] at hg' ⊢
          exact q.1 x hx hg'
      · unfold f_X1_leads f_X1_leads_J32
        rw [f205.1, f205.2, r206 hr, ob, R.1 r hr, if_neg (fun q => c1 ((e4_neg br).mp q)), r207 hs, ob, R.2 s hs, if_neg (fun q => c2 ((e4_neg bs).mp q)), w206 hr, ob, w207 hs, ob, r206 hr, ob, up_a (by decide), up_s, if_pos rfl]
/-! borrowed: how many STEPS are the same -/
def okb (f : Nat → Int32) (a b i j k x : Nat) : Bool := decide (cS f a (i + x) 0 = cS f b (j + x) 0) && decide (pm k (cS f a (i + x) 1) = cS f b (j + x) 1) && decide (pm k (cS f a (i + x) 2) = cS f b (j + x) 2)
theorem okb_d {f : Nat → Int32} {a b i j k x : Nat} : okb f a b i j k x = true ↔ cS f a (i + x) 0 = cS f b (j + x) 0 ∧ pm k (cS f a (i + x) 1) = cS f b (j + x) 1 ∧ pm k (cS f a (i + x) 2) = cS f b (j + x) 2 := by
  unfold okb
  simp only [Bool.and_eq_true, decide_eq_true_eq]
  exact ⟨fun q => ⟨q.1.1, q.1.2, q.2⟩, fun q => ⟨⟨q.1, q.2.1⟩, q.2.2⟩⟩
def lgs_ (f : Nat → Int32) (a b i j : Nat) : Nat := min (cL f a - i) (cL f b - j)
def pl (q : Nat → Bool) : Nat → Nat → Nat
  | 0, y => y
  | m + 1, y => if q y = true then pl q m (y + 1) else y
theorem pl_ok {q : Nat → Bool} : ∀ m y, y ≤ pl q m y ∧ pl q m y ≤ y + m ∧ (∀ x, y ≤ x → x < pl q m y → q x = true) ∧ (pl q m y < y + m → ¬ q (pl q m y) = true)
  | 0, y => ⟨Nat.le_refl _, Nat.le_refl _, fun x h1 h2 => by have h2' : x < y := h2; omega, fun h => by have h' : y < y + 0 := h; omega⟩
  | m + 1, y => by
    obtain ⟨h1, h2, h3, h4⟩ := pl_ok (q := q) m (y + 1)
    unfold pl
    by_cases c : q y = true
    · rw [if_pos c]
      refine ⟨by omega, by omega, fun x g1 g2 => ?_, fun g => h4 (by omega)⟩
      by_cases e : x = y
      · rw [e]
        exact c
      · exact h3 x (by omega) g2
    · rw [if_neg c]
      exact ⟨by omega, by omega, fun x g1 g2 => by omega, fun _ => c⟩
def pz (f : Nat → Int32) (a b i j k : Nat) : Nat := pl (okb f a b i j k) (lgs_ f a b i j) 0
def mxk (z : Nat → Nat) : Nat → Nat → Nat → Nat
  | 0, _, P => P
  | m + 1, k, P => mxk z m (k + 1) (if P < z k then z k else P)
theorem mxk_lb {z : Nat → Nat} : ∀ m k P, P ≤ mxk z m k P ∧ ∀ x, k ≤ x → x < k + m → z x ≤ mxk z m k P
  | 0, k, P => ⟨Nat.le_refl _, fun x h1 h2 => by omega⟩
  | m + 1, k, P => by
    obtain ⟨h1, h2⟩ := mxk_lb (z := z) m (k + 1) (if P < z k then z k else P)
    have e : mxk z (m + 1) k P = mxk z m (k + 1) (if P < z k then z k else P) := rfl
    rw [e]
    have p1 : P ≤ (if P < z k then z k else P) := by split <;> omega
    have p2 : z k ≤ (if P < z k then z k else P) := by split <;> omega
    refine ⟨Nat.le_trans p1 h1, fun x g1 g2 => ?_⟩
    by_cases c : x = k
    · rw [c]
      exact Nat.le_trans p2 h1
    · exact h2 x (by omega) (by omega)
theorem mxk_ub {z : Nat → Nat} {Z : Nat} : ∀ m k P, P ≤ Z → (∀ x, k ≤ x → x < k + m → z x ≤ Z) → mxk z m k P ≤ Z
  | 0, k, P, h, _ => h
  | m + 1, k, P, h, hz => by
    have e : mxk z (m + 1) k P = mxk z m (k + 1) (if P < z k then z k else P) := rfl
    rw [e]
    refine mxk_ub m (k + 1) _ ?_ (fun x g1 g2 => hz x (by omega) (by omega))
    have := hz k (Nat.le_refl _) (by omega)
    split <;> omega
def Zb (f : Nat → Int32) (a b i j : Nat) : Nat := mxk (pz f a b i j) 24 0 0
theorem Zb_max {f : Nat → Int32} {a b i j P : Nat} : mxk (pz f a b i j) 24 0 P = if P < Zb f a b i j then Zb f a b i j else P := by
  have h1 := mxk_lb (z := pz f a b i j) 24 0 P
  have h2 := mxk_lb (z := pz f a b i j) 24 0 0
  by_cases c : P < Zb f a b i j
  · rw [if_pos c]
    have u := mxk_ub (z := pz f a b i j) 24 0 P (Nat.le_of_lt c) (fun x g1 g2 => h2.2 x g1 g2)
    have l : Zb f a b i j ≤ mxk (pz f a b i j) 24 0 P := mxk_ub (z := pz f a b i j) 24 0 0 (Nat.zero_le _) (fun x g1 g2 => h1.2 x g1 g2)
    omega
  · rw [if_neg c]
    have u := mxk_ub (z := pz f a b i j) (Z := P) 24 0 P (Nat.le_refl _) (fun x g1 g2 => Nat.le_trans (h2.2 x g1 g2) (Nat.le_of_not_lt c))
    omega
theorem Zb_is {f : Nat → Int32} {a b i j z k0 : Nat} (hz : z ≤ lgs_ f a b i j) (hk : k0 < 24) (h1 : ∀ x, x < z → okb f a b i j k0 x = true) (h2 : ∀ k, k < 24 → z < lgs_ f a b i j → ¬ ∀ x, x < z + 1 → okb f a b i j k x = true) : Zb f a b i j = z := by
  have lb := mxk_lb (z := pz f a b i j) 24 0 0
  have g1 : z ≤ pz f a b i j k0 := by
    obtain ⟨p1, p2, p3, p4⟩ := pl_ok (q := okb f a b i j k0) (lgs_ f a b i j) 0
    refine Nat.le_of_not_lt (fun c => ?_)
    have c' : pl (okb f a b i j k0) (lgs_ f a b i j) 0 < z := c
    exact p4 (by omega) (h1 _ c')
  have g2 : ∀ k, k < 24 → pz f a b i j k ≤ z := by
    intro k hk
    obtain ⟨p1, p2, p3, p4⟩ := pl_ok (q := okb f a b i j k) (lgs_ f a b i j) 0
    refine Nat.le_of_not_lt (fun c => ?_)
    have c' : z < pl (okb f a b i j k) (lgs_ f a b i j) 0 := c
    exact h2 k hk (by omega) (fun x hx => p3 x (Nat.zero_le _) (by omega))
  have u : Zb f a b i j ≤ z := mxk_ub (z := pz f a b i j) 24 0 0 (Nat.zero_le _) (fun x q1 q2 => g2 x (by omega))
  have l : pz f a b i j k0 ≤ Zb f a b i j := lb.2 k0 (Nat.zero_le _) (by omega)
  omega
theorem Zb_le {f : Nat → Int32} (v : Vd f) {a b i j : Nat} (ha : a < cN f) : Zb f a b i j ≤ 10 := by
  refine mxk_ub (z := pz f a b i j) 24 0 0 (Nat.zero_le _) (fun x _ _ => ?_)
  have p := (pl_ok (q := okb f a b i j x) (lgs_ f a b i j) 0).2.1
  have l := (v.l ha).2
  show pl (okb f a b i j x) (lgs_ f a b i j) 0 ≤ 10
  unfold lgs_ at p ⊢
  omega
theorem x_who {g : tkH} {f : Nat → Int32} (v : Vd f) {t i : Nat} (ht : t < cN f) (hi : i < cL f t) : f_X8_whoOf g (nI (sc f t i)) = some (nI (cS f t i 1), g) := by
  have P := pk_all (v.s0 ht hi).2 (v.s1 ht hi).2 (v.s2 ht hi).2
  unfold f_X8_whoOf sc
  rw [P.2.2.1]
theorem x_whom {g : tkH} {f : Nat → Int32} (v : Vd f) {t i : Nat} (ht : t < cN f) (hi : i < cL f t) : f_X8_whomOf g (nI (sc f t i)) = some (nI (cS f t i 2), g) := by
  have P := pk_all (v.s0 ht hi).2 (v.s1 ht hi).2 (v.s2 ht hi).2
  unfold f_X8_whomOf sc
  rw [P.2.2.2]
theorem x_isSame {g : tkH} {f : Nat → Int32} (v : Vd f) {a b x y : Nat} (ha : a < cN f) (hb : b < cN f) (hx : x < cL f a) (hy : y < cL f b) {gs os : Nat → Nat} (R : R2 g gs os) (B : BI gs os) :
    (∃ gs' os' hf, B2 g hf ∧ R2 hf gs' os' ∧ BI gs' os' ∧ (∀ k, k < 24 → (Ex k gs' ↔ Ex k gs ∧ pm k (cS f a x 1) = cS f b y 1 ∧ pm k (cS f a x 2) = cS f b y 2)) ∧ cS f a x 0 = cS f b y 0 ∧ f_X1_isSame g 205 (nI (sc f a x)) (nI (sc f b y)) = some (1, hf)) ∨ (∃ hf, B2 g hf ∧ (∀ k, k < 24 → Ex k gs → ¬ (cS f a x 0 = cS f b y 0 ∧ pm k (cS f a x 1) = cS f b y 1 ∧ pm k (cS f a x 2) = cS f b y 2)) ∧ f_X1_isSame g 205 (nI (sc f a x)) (nI (sc f b y)) = some (0, hf)) := by
  have a0 := (v.s0 ha hx).2
  have a1 := (v.s1 ha hx).2
  have a2 := (v.s2 ha hx).2
  have b0 := (v.s0 hb hy).2
  have b1 := (v.s1 hb hy).2
  have b2 := (v.s2 hb hy).2
  by_cases c0 : cS f a x 0 = cS f b y 0
  · rcases x_leads R B (r := cS f a x 1) (s := cS f b y 1) (by omega) (by omega) with ⟨gs1, os1, g1, d1, d2, d3, d4, d5⟩ | ⟨d1, d2⟩
    · rcases x_leads d2 d3 (r := cS f a x 2) (s := cS f b y 2) (by omega) (by omega) with ⟨gs2, os2, g2, k1, k2, k3, k4, k5⟩ | ⟨k1, k2⟩
      · refine Or.inl ⟨gs2, os2, g2, d1.tr k1, k2, k3, fun k hk => ?_, c0, ?_⟩
        · rw [k4 k hk, d4 k hk]
          exact ⟨fun q => ⟨q.1.1, q.1.2, q.2⟩, fun q => ⟨⟨q.1, q.2.1⟩, q.2.2⟩⟩
        · unfold f_X1_isSame
          rw [x_motif v ha hx, ob, x_motif v hb hy, ob, if_pos (by rw [c0])]
          simp only []
          rw [x_who v ha hx, ob, x_who v hb hy, ob]
          simp only []
          rw [d5]
          simp only [ob, i1f, eq_self, if_true, if_false]
          rw [x_whom v ha hx, ob, x_whom v hb hy, ob]
          simp only []
          rw [k5]
          simp only [ob, i1f, eq_self, if_true, if_false]
      · refine Or.inr ⟨g1, d1, fun k hk q e => k1 k hk ((d4 k hk).mpr ⟨q, e.2.1⟩) e.2.2, ?_⟩
        unfold f_X1_isSame
        rw [x_motif v ha hx, ob, x_motif v hb hy, ob, if_pos (by rw [c0])]
        simp only []
        rw [x_who v ha hx, ob, x_who v hb hy, ob]
        simp only []
        rw [d5]
        simp only [ob, i1f, eq_self, if_true, if_false]
        rw [x_whom v ha hx, ob, x_whom v hb hy, ob]
        simp only []
        rw [k2]
        simp only [ob, i1f, eq_self, if_true, if_false]
    · refine Or.inr ⟨g, B2.rf, fun k hk q e => d1 k hk q e.2.1, ?_⟩
      unfold f_X1_isSame
      rw [x_motif v ha hx, ob, x_motif v hb hy, ob, if_pos (by rw [c0])]
      simp only []
      rw [x_who v ha hx, ob, x_who v hb hy, ob]
      simp only []
      rw [d2]
      simp only [ob, i1f, eq_self, if_true, if_false]
  · refine Or.inr ⟨g, B2.rf, fun k hk q e => c0 e.1, ?_⟩
    unfold f_X1_isSame
    rw [x_motif v ha hx, ob, x_motif v hb hy, ob, if_neg (nIne (by omega) (by omega) c0)]
theorem x_sameL {f : Nat → Int32} (v : Vd f) {a b i j : Nat} (ha : a < cN f) (hb : b < cN f) : ∀ (m n y : Nat) (g : tkH) (gs os : Nat → Nat), m + y = lgs_ f a b i j → m < n → R2 g gs os → BI gs os → (∀ k, k < 24 → (Ex k gs ↔ ∀ x, x < y → okb f a b i j k x = true)) → (∀ x, x < cL f a → g 7 (10 * a + x) = nI (sc f a x)) → (∀ x, x < cL f b → g 7 (10 * b + x) = nI (sc f b x)) → ∃ hf, B2 g hf ∧ f_X1_sameFrom_L19 (nI (lgs_ f a b i j)) 7 (nI (10 * a + i)) (nI (10 * b + j)) 205 n g (nI y) = some (nI (Zb f a b i j), hf) := by
  have n2 := v.n.2
  have l7 : ln 7 = 100 := by simp only [LN]
  have la := (v.l ha).2
  have lb := (v.l hb).2
  have lg1 : lgs_ f a b i j ≤ cL f a - i := Nat.min_le_left _ _
  have lg2 : lgs_ f a b i j ≤ cL f b - j := Nat.min_le_right _ _
  intro m
  induction m with
  | zero =>
    intro n y g gs os h1 hn R B C sa sb
    obtain ⟨n', rfl⟩ : ∃ n', n = n' + 1 := ⟨n - 1, by omega⟩
    obtain ⟨k0, q1, q2⟩ := ex_k B
    have z : Zb f a b i j = y := Zb_is (by omega) q1 ((C k0 q1).mp q2) (fun k hk q => by omega)
    refine ⟨g, B2.rf, ?_⟩
    rw [f_X1_sameFrom_L19_s, if_pos (by rw [nI_leI (by omega) (by omega)]; omega), z]
  | succ m ih =>
    intro n y g gs os h1 hn R B C sa sb
    obtain ⟨n', rfl⟩ : ∃ n', n = n' + 1 := ⟨n - 1, by omega⟩
    rw [f_X1_sameFrom_L19_s, if_neg (by rw [nI_leI (by omega) (by omega)]; omega), nI_add, nI_add, rdI_n (by omega) (by omega), ob, rdI_n (by omega) (by omega), ob, show 10 * a + i + y = 10 * a + (i + y) by omega, show 10 * b + j + y = 10 * b + (j + y) by omega, sa _ (by omega), sb _ (by omega)]
    rcases x_isSame v ha hb (x := i + y) (y := j + y) (by omega) (by omega) R B with ⟨gs', os', g1, d1, d2, d3, d4, d5, d6⟩ | ⟨g1, d1, d2, d3⟩
    · rw [d6]
      simp only [ob, i1f, eq_self, if_true, if_false]
      rw [nI_1]
      obtain ⟨hf, k1, k2⟩ := ih n' (y + 1) g1 gs' os' (by omega) (by omega) d2 d3 (fun k hk => by
        rw [d4 k hk, C k hk]
        refine ⟨fun q x hx => ?_, fun q => ⟨fun x hx => q x (by omega), (okb_d.mp (q y (by omega))).2⟩⟩
        by_cases e : x = y
        · rw [e]
          exact okb_d.mpr ⟨d5, q.2⟩
        · exact q.1 x (by omega)) (fun x hx => by rw [d1 7 (by decide) (by decide)]; exact sa x hx) (fun x hx => by rw [d1 7 (by decide) (by decide)]; exact sb x hx)
      exact ⟨hf, d1.tr k1, k2⟩
    · rw [d3]
      simp only [ob, i1f, eq_self, if_true, if_false]
      obtain ⟨k0, q1, q2⟩ := ex_k B
      have z : Zb f a b i j = y := Zb_is (by omega) q1 ((C k0 q1).mp q2) (fun k hk _ q => d2 k hk ((C k hk).mpr (fun x hx => q x (by omega))) (okb_d.mp (q y (by omega))))
      exact ⟨g1, d1, by rw [z]⟩
theorem x_sameFrom {g : tkH} {f : Nat → Int32} (r : XR g 1 f) (v : Vd f) {a b i j : Nat} (ha : a < cN f) (hb : b < cN f) : ∃ hf, B2 g hf ∧ f_X1_sameFrom g 205 7 (nI (10 * a + i)) (nI (10 * b + j)) (nI (lgs_ f a b i j)) = some (nI (Zb f a b i j), hf) := by
  have l206 : ln 206 = 4 := by simp only [LN]
  have l207 : ln 207 = 4 := by simp only [LN]
  have la := (v.l ha).2
  have lg1 : lgs_ f a b i j ≤ cL f a - i := Nat.min_le_left _ _
  obtain ⟨g1, a1, a2, a3⟩ := x_fillA (g := g) (a := 206) (x := -1) (by omega)
  obtain ⟨g2, b1, b2, b3⟩ := x_fillA (g := g1) (a := 207) (x := -1) (by omega)
  have e7 : g2 7 = g 7 := (b1 7 (by decide)).trans (a1 7 (by decide))
  obtain ⟨hf, c1, c2⟩ := x_sameL v (a := a) (b := b) (i := i) (j := j) ha hb (lgs_ f a b i j) FU 0 g2 (fun _ => 4) (fun _ => 4) (by omega) (FU_gt (by omega)) ⟨fun q hq => by rw [b1 206 (by decide), a2 q (by omega)]; rfl, fun q hq => by rw [b2 q (by omega)]; rfl⟩ ⟨fun _ _ => Nat.le_refl _, fun _ _ => Nat.le_refl _, fun q s hq hs => by show (4 = s) ↔ (4 = q); omega⟩ (fun k hk => ⟨fun _ x hx => absurd hx (Nat.not_lt_zero _), fun _ q _ hg => absurd hg (Nat.lt_irrefl 4)⟩) (fun x hx => by rw [e7]; exact r.st v ha hx) (fun x hx => by rw [e7]; exact r.st v hb hx)
  refine ⟨hf, fun q h1 h2 => by rw [c1 q h1 h2, b1 q h2, a1 q h1], ?_⟩
  unfold f_X1_sameFrom
  rw [f205.1, f205.2, a3, ob, b3, ob]
  exact c2
