/-! tree, branch: the class -/
def trX (g : tkH) (s : trS) : Prop := (∀ t, t < 10 → g 203 t = nI (s.1 t)) ∧ (∀ i, i < s.2.2.1 → g 204 i = nI (s.2.1 i)) ∧ g 202 2 = nI s.2.2.1 ∧ g 202 3 = nI s.2.2.2
def T3 (g hf : tkH) : Prop := ∀ q, q ≠ 202 → q ≠ 203 → q ≠ 204 → hf q = g q
theorem T3.rf {g : tkH} : T3 g g := fun _ _ _ _ => rfl
theorem T3.tr {g1 g2 g3 : tkH} (p : T3 g1 g2) (q : T3 g2 g3) : T3 g1 g3 := fun x a b c => (q x a b c).trans (p x a b c)
theorem T3.xf {g hf : tkH} (p : T3 g hf) : XF g hf := fun q e => p q (by omega) (by omega) (by omega)
theorem x_joinP {A B : Int32} : ∀ (m n t : Nat) (g : tkH), m + t = 10 → m < n → ∃ hf, BC 203 g hf ∧ (∀ x, x < 10 → t ≤ x → hf 203 x = if g 203 x = B then A else g 203 x) ∧ (∀ x, x < t → hf 203 x = g 203 x) ∧ f_X7_joinParts_L2 202 B A n g (nI t) = some hf := by
  have l203 : ln 203 = 10 := by simp only [LN]
  intro m
  induction m with
  | zero =>
    intro n t g h1 hn
    obtain ⟨n', rfl⟩ : ∃ n', n = n' + 1 := ⟨n - 1, by omega⟩
    refine ⟨g, BC.rf, fun x h2 h3 => by omega, fun _ _ => rfl, ?_⟩
    rw [f_X7_joinParts_L2_s, if_pos (by rw [nl10, nI_leI (by omega) (by omega)]; omega)]
  | succ m ih =>
    intro n t g h1 hn
    obtain ⟨n', rfl⟩ : ∃ n', n = n' + 1 := ⟨n - 1, by omega⟩
    have st : f_X7_joinParts_L2 202 B A (n' + 1) g (nI t) = f_X7_joinParts_L2 202 B A n' (if g 203 t = B then tkup g 203 t A else g) (nI (t + 1)) := by
      rw [f_X7_joinParts_L2_s, if_neg (by rw [nl10, nI_leI (by omega) (by omega)]; omega), show fld 202 0 = 203 by simp only [FL], rdI_n (by omega) (by omega), ob, wrI_n (by omega) (by omega), ob, nI_1]
      by_cases c : g 203 t = B
      · rw [if_pos c, if_pos c]
      · rw [if_neg c, if_neg c]
    obtain ⟨hf, b1, b2, b3, b4⟩ := ih n' (t + 1) (if g 203 t = B then tkup g 203 t A else g) (by omega) (by omega)
    have eg : ∀ x, x ≠ t → (if g 203 t = B then tkup g 203 t A else g) 203 x = g 203 x := fun x hx => by
      by_cases c : g 203 t = B
      · rw [if_pos c, up_i hx]
      · rw [if_neg c]
    refine ⟨hf, fun q e => ?_, fun x h2 h3 => ?_, fun x hx => ?_, st.trans b4⟩
    · rw [b1 q e]
      by_cases c : g 203 t = B
      · rw [if_pos c, up_a e]
      · rw [if_neg c]
    · by_cases e : x = t
      · rw [b3 x (by omega), e]
        by_cases c : g 203 t = B
        · rw [if_pos c, if_pos c, up_s]
        · rw [if_neg c, if_neg c]
      · rw [b2 x h2 (by omega), eg x e]
    · rw [b3 x (by omega), eg x (by omega)]
theorem x_addB_n {g : tkH} {f : Nat → Int32} {a : Int32} {s : trS} (v : Vd f) (hI : trI a s) (hX : trX g s) (hK : ∀ x, x < 100 → trC a s.1 x = true → g 201 x = nI (trW f x)) (e : chb (trC a s.1) (trW f) 100 = none) : f_X7_addBranch g 202 201 a = some g := by
  refine (x_sc5 v hX.1 hI.1 hK 10 FU 0 (by omega) (FU_gt (by omega))).trans ?_
  rw [e]
  rfl
theorem x_addB_s {g : tkH} {f : Nat → Int32} {a : Int32} {s : trS} {b : Nat × Nat} (v : Vd f) (hI : trI a s) (hX : trX g s) (hK : ∀ x, x < 100 → trC a s.1 x = true → g 201 x = nI (trW f x)) (e : chb (trC a s.1) (trW f) 100 = some b) : ∃ hf, T3 g hf ∧ trX hf (trK f s b.1) ∧ f_X7_addBranch g 202 201 a = some hf := by
  have l203 : ln 203 = 10 := by simp only [LN]
  have l204 : ln 204 = 10 := by simp only [LN]
  have l201 : ln 201 = 100 := by simp only [LN]
  have ok := chb_ok _ _ e
  have cb := chb_c _ _ e
  have w := trW_le v b.1
  obtain ⟨-, s8⟩ := trI_some v hI ok.1 cb
  obtain ⟨x1, x2, x3, x4⟩ := hX
  have i5 := hI.2.2.2.2
  have p1 := hI.1 (b.1 / 10) (by omega)
  have p2 := hI.1 (b.1 % 10) (by omega)
  obtain ⟨g1, hg1⟩ : ∃ g1, g1 = tkup g 204 s.2.2.1 (nI (16 * (b.1 / 10) + b.1 % 10)) := ⟨_, rfl⟩
  obtain ⟨g2, hg2⟩ : ∃ g2, g2 = tkup g1 202 2 (nI (s.2.2.1 + 1)) := ⟨_, rfl⟩
  obtain ⟨g3, hg3⟩ : ∃ g3, g3 = tkup g2 202 3 (nI (s.2.2.2 + trW f b.1)) := ⟨_, rfl⟩
  obtain ⟨hf, b1, b2, b3, b4⟩ := x_joinP (A := nI (s.1 (b.1 / 10))) (B := nI (s.1 (b.1 % 10))) 10 FU 0 g3 (by omega) (FU_gt (by omega))
  have e203 : g3 203 = g 203 := by rw [hg3, up_a (by decide), hg2, up_a (by decide), hg1, up_a (by decide)]
  refine ⟨hf, fun q h1 h2 h3 => by rw [b1 q h2, hg3, up_a h1, hg2, up_a h1, hg1, up_a h3], ⟨fun t ht => ?_, fun i hi => ?_, ?_, ?_⟩, ?_⟩
  · rw [b2 t ht (Nat.zero_le _), e203, x1 t ht]
    show _ = nI (trJ s.1 b.1 t)
    unfold trJ
    have p3 := hI.1 t ht
    rw [nI_inj_if (by omega) (by omega)]
    by_cases c : s.1 t = s.1 (b.1 % 10)
    · rw [if_pos c, if_pos c]
    · rw [if_neg c, if_neg c]
  · have hi' : i < s.2.2.1 + 1 := hi
    show hf 204 i = nI (if i = s.2.2.1 then 16 * (b.1 / 10) + b.1 % 10 else s.2.1 i)
    rw [b1 204 (by decide), hg3, up_a (by decide), hg2, up_a (by decide), hg1]
    by_cases c : i = s.2.2.1
    · rw [if_pos c, c, up_s]
    · rw [if_neg c, up_i c, x2 i (by omega)]
  · rw [b1 202 (by decide), hg3, up_i (by decide), hg2, up_s]
    rfl
  · rw [b1 202 (by decide), hg3, up_s]
    rfl
  · refine (x_sc5 v x1 hI.1 hK 10 FU 0 (by omega) (FU_gt (by omega))).trans ?_
    rw [e, show eB (some b) = nI b.1 from rfl]
    show (if nI b.1 < 0 then _ else _) = _
    rw [if_neg (nI_pos (n := b.1) (by omega)), x3, nl10, pk_div (by omega) (by omega) (by omega), ← pk_div (a := b.1) (d := 10) (by omega) (by omega) (by omega), pk_rem (by omega) (by omega) (by omega), pk_div (by omega) (by omega) (by omega), nl16, pk_mul, nI_add, show fld 202 1 = 204 by simp only [FL], show fld 202 0 = 203 by simp only [FL], wrI_n (by omega) (by omega), ob, show b.1 / 10 * 16 + b.1 % 10 = 16 * (b.1 / 10) + b.1 % 10 by omega, ← hg1]
    have q2 : g1 202 2 = nI s.2.2.1 := by rw [hg1, up_a (by decide), x3]
    rw [q2, nI_1, ← hg2]
    have q3 : rdI g2 201 (nI b.1) = some (nI (trW f b.1)) := by
      rw [rdI_n (by omega) (by omega), hg2, up_a (by decide), hg1, up_a (by decide), hK _ ok.1 cb]
    have q4 : g2 202 3 = nI s.2.2.2 := by rw [hg2, up_i (by decide), hg1, up_a (by decide), x4]
    rw [q3, ob, q4, nI_add, ← hg3]
    have q5 : ∀ x, x < 10 → rdI g3 203 (nI x) = some (nI (s.1 x)) := fun x hx => by
      rw [rdI_n (by omega) (by omega), e203, x1 x hx]
    rw [q5 _ (by omega), ob, q5 _ (by omega), ob]
    have b4' : f_X7_joinParts g3 202 (nI (s.1 (b.1 / 10))) (nI (s.1 (b.1 % 10))) = some hf := b4
    rw [b4', ob]
theorem x_growL {f : Nat → Int32} {a : Int32} {w : Nat} (v : Vd f) (hw : w < 10) {x32 : Int32 × tkH} (hx : x32.1 - 1 = nI w) : ∀ (m n i : Nat) (g : tkH) (s : trS), m + i = w → m < n → trI a s → trX g s → (∀ x, x < 100 → x / 10 < x % 10 → hb a (x / 10) = true → hb a (x % 10) = true → g 201 x = nI (trW f x)) → ∃ hf, T3 g hf ∧ trX hf (trR a f m s) ∧ f_X7_grow_L41 x32 202 201 a n g (nI i) = some hf := by
  intro m
  induction m with
  | zero =>
    intro n i g s h1 hn hI hX hK
    obtain ⟨n', rfl⟩ : ∃ n', n = n' + 1 := ⟨n - 1, by omega⟩
    refine ⟨g, T3.rf, hX, ?_⟩
    rw [f_X7_grow_L41_s, hx, if_pos (by rw [nI_leI (by omega) (by omega)]; omega)]
  | succ m ih =>
    intro n i g s h1 hn hI hX hK
    obtain ⟨n', rfl⟩ : ∃ n', n = n' + 1 := ⟨n - 1, by omega⟩
    have hK1 : ∀ x, x < 100 → trC a s.1 x = true → g 201 x = nI (trW f x) := fun x h2 h3 => hK x h2 (trC_d h3).1 (trC_d h3).2.1 (trC_d h3).2.2.1
    rw [f_X7_grow_L41_s, hx, if_neg (by rw [nI_leI (by omega) (by omega)]; omega), if_neg (by rw [nl10, nI_leI (by omega) (by omega)]; omega), nI_1]
    cases e : chb (trC a s.1) (trW f) 100 with
    | none =>
      rw [x_addB_n v hI hX hK1 e, ob]
      have z := ih n' (i + 1) g s (by omega) (by omega) hI hX hK
      rw [trR_n (trT_n e)] at z ⊢
      exact z
    | some b =>
      obtain ⟨g1, b1, b2, b3⟩ := x_addB_s v hI hX hK1 e
      rw [b3, ob, trR_s (trT_s e)]
      obtain ⟨hf, c1, c2, c3⟩ := ih n' (i + 1) g1 (trK f s b.1) (by omega) (by omega) (trI_some v hI (chb_ok _ _ e).1 (chb_c _ _ e)).1 b2 (fun x h2 h3 h4 h5 => by rw [b1 201 (by decide) (by decide) (by decide)]; exact hK x h2 h3 h4 h5)
      exact ⟨hf, b1.tr c1, c2, c3⟩
theorem x_own {kx : tkH → Option tkH} : ∀ (m n t : Nat) (g : tkH), m + t = 10 → m < n → ∃ hf, BC 203 g hf ∧ (∀ x, x < 10 → t ≤ x → hf 203 x = nI x) ∧ (∀ x, x < t → hf 203 x = g 203 x) ∧ f_X7_grow_L2 202 kx n g (nI t) = kx hf := by
  have l203 : ln 203 = 10 := by simp only [LN]
  intro m
  induction m with
  | zero =>
    intro n t g h1 hn
    obtain ⟨n', rfl⟩ : ∃ n', n = n' + 1 := ⟨n - 1, by omega⟩
    refine ⟨g, BC.rf, fun x h2 h3 => by omega, fun _ _ => rfl, ?_⟩
    rw [f_X7_grow_L2_s, if_pos (by rw [nl10, nI_leI (by omega) (by omega)]; omega)]
  | succ m ih =>
    intro n t g h1 hn
    obtain ⟨n', rfl⟩ : ∃ n', n = n' + 1 := ⟨n - 1, by omega⟩
    rw [f_X7_grow_L2_s, if_neg (by rw [nl10, nI_leI (by omega) (by omega)]; omega), show fld 202 0 = 203 by simp only [FL], wrI_n (by omega) (by omega), ob, nI_1]
    obtain ⟨hf, b1, b2, b3, b4⟩ := ih n' (t + 1) (tkup g 203 t (nI t)) (by omega) (by omega)
    refine ⟨hf, fun q e => by rw [b1 q e, up_a e], fun x h2 h3 => ?_, fun x hx => by rw [b3 x (by omega), up_i (by omega)], b4⟩
    by_cases e : x = t
    · rw [b3 x (by omega), e, up_s]
    · exact b2 x h2 (by omega)
noncomputable def bcI (a : Int32) : Int32 := ((f_J6_bitCount_0f7a4 (fun _ _ => 0) a).getD (0, fun _ _ => 0)).1
theorem bc_h (h : tkH) (a : Int32) : f_J6_bitCount_0f7a4 h a = some (bcI a, h) := rfl
theorem bc_b : ((List.range 1024).all fun x => bcI (nI x) == nI (cr (hb (nI x)) 10)) = true := by decide +kernel
theorem hb_b : ((List.range 1024).all fun x => (List.range 11).all fun n => decide (2 ^ n ≤ x) || (List.range 10).all fun t => decide (t < n) || !(hb (nI x) t)) = true := by decide +kernel
theorem hrf_x {n : Nat} {a : Int32} (hn : n ≤ 10) (h : hrf n a = 0) : (∀ t, t < 10 → n ≤ t → ¬ hb a t = true) ∧ bcI a = nI (cr (hb a) 10) ∧ 1 ≤ cr (hb a) 10 := by
  obtain ⟨t, ht, hbt⟩ := hrf_0 hn h
  have c1 := cr_one hbt 10 (by omega)
  unfold hrf at h
  by_cases c : ∃ t, t < 2 ^ n ∧ a = nI t
  · obtain ⟨x, hx, rfl⟩ := c
    have p : 2 ^ n ≤ 2 ^ 10 := Nat.pow_le_pow_right (by decide) hn
    refine ⟨fun t h1 h2 h3 => ?_, eq_of_beq (List.all_eq_true.mp bc_b x (List.mem_range.mpr (by omega))), c1⟩
    have q := List.all_eq_true.mp (List.all_eq_true.mp hb_b x (List.mem_range.mpr (by omega))) n (List.mem_range.mpr (by omega))
    rw [Bool.or_eq_true] at q
    rcases q with q | q
    · have := of_decide_eq_true q
      omega
    · have q2 := List.all_eq_true.mp q t (List.mem_range.mpr h1)
      rw [h3] at q2
      simp only [Bool.not_true, Bool.or_false, decide_eq_true_eq] at q2
      omega
  · rw [if_neg c] at h
    exact absurd h (by decide)
def trO : trS := (fun t => t, fun _ => 0, 0, 0)
theorem trO_I (a : Int32) : trI a trO := by
  refine ⟨fun t ht => ht, fun t _ h => h, fun t _ => rfl, ?_, Nat.le_refl _⟩
  show 0 + cr (trq a fun t => t) 10 = cr (hb a) 10
  rw [Nat.zero_add]
  refine cr_congr 10 (fun t _ => ?_)
  unfold trq
  simp
theorem x_grow {g : tkH} {f : Nat → Int32} {a : Int32} (v : Vd f) (h0 : hrf (cN f) a = 0) (hK : ∀ x y, x < cN f → y < cN f → hb a x = true → hb a y = true → Kn g f x y) : ∃ hf, T3 g hf ∧ trX hf (trR a f (cr (hb a) 10 - 1) trO) ∧ f_X7_grow g 202 201 a = some hf := by
  obtain ⟨z1, z2, z3⟩ := hrf_x v.n.2 h0
  have cl := cr_le (hb a) 10
  obtain ⟨g1, b1, b2, b3, b4⟩ := x_own (kx := fun gz21 => (f_J6_bitCount_0f7a4 (tkup (tkup gz21 202 2 0) 202 3 0) a).bind fun x32 => f_X7_grow_L41 x32 202 201 a FU x32.2 0) 10 FU 0 g (by omega) (FU_gt (by omega))
  have hK' : ∀ x, x < 100 → x / 10 < x % 10 → hb a (x / 10) = true → hb a (x % 10) = true → tkup (tkup g1 202 2 0) 202 3 0 201 x = nI (trW f x) := by
    intro x h1 h2 h3 h4
    have l1 : x / 10 < cN f := Nat.lt_of_not_le (fun q => z1 _ (by omega) q h3)
    have l2 : x % 10 < cN f := Nat.lt_of_not_le (fun q => z1 _ (by omega) q h4)
    have k := hK _ _ l1 l2 h3 h4
    unfold Kn at k
    rw [show 10 * (x / 10) + x % 10 = x by omega] at k
    rw [up_a (by decide), up_a (by decide), b1 201 (by decide), k]
    unfold trW
    rw [if_pos ⟨l1, l2⟩]
  obtain ⟨hf, c1, c2, c3⟩ := x_growL (a := a) (w := cr (hb a) 10 - 1) v (by omega) (x32 := (bcI a, tkup (tkup g1 202 2 0) 202 3 0)) (by show bcI a - 1 = _; rw [z2, nI_m1 (by omega)]) (cr (hb a) 10 - 1) FU 0 (tkup (tkup g1 202 2 0) 202 3 0) trO (by omega) (FU_gt (by omega)) (trO_I a) ⟨fun t ht => by rw [up_a (by decide), up_a (by decide), b2 t ht (Nat.zero_le _)]; rfl, fun i hi => absurd hi (Nat.not_lt_zero _), by rw [up_i (by decide), up_s]; rfl, by rw [up_s]; rfl⟩ hK'
  refine ⟨hf, fun q h1 h2 h3 => by rw [c1 q h1 h2 h3, up_a h1, up_a h1, b1 q h2], c2, ?_⟩
  refine b4.trans ?_
  show (f_J6_bitCount_0f7a4 (tkup (tkup g1 202 2 0) 202 3 0) a).bind _ = _
  rw [bc_h, ob]
  exact c3
