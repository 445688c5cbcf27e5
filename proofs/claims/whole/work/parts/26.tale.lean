/-! tale, undo -/
theorem it_extN {f g : Nat → Int32} (v : Vd f) (eP : ∀ t, t < cN f → prt g t = prt f t) : ∀ m t, t < cN f → it (prt g) m t = it (prt f) m t := by
  intro m
  induction m with
  | zero => intro t _; rw [it_0, it_0]
  | succ m ih =>
    intro t ht
    rw [it_s, it_s, eP t ht]
    cases hq : prt f t with
    | none => rw [obn, obn]
    | some q => rw [ob, ob]; exact ih q (prt_lt v ht hq)
theorem Vd.tale {f g : Nat → Int32} (v : Vd f) (hn : cN f < 10) {k p d : Nat} (hk : k ≤ 3) (hp : p ≤ 5) (hd : d ≤ 999) (e0 : g 0 = nI (cN f + 1)) (e4 : g (40 + cN f) = nI k) (e5 : g (50 + cN f) = nI p) (e6 : g (60 + cN f) = nI d) (e7 : g (70 + cN f) = nI 0) (e8 : g (80 + cN f) = -1) (ee : ∀ i, i ≠ 0 → i ≠ 40 + cN f → i ≠ 50 + cN f → i ≠ 60 + cN f → i ≠ 70 + cN f → i ≠ 80 + cN f → g i = f i) : Vd g ∧ cN g = cN f + 1 := by
  have eN : cN g = cN f + 1 := by
    show (g 0).toNatClampNeg = _
    rw [e0, nI_clamp (by omega)]
  have eP : ∀ t, t < cN f → prt g t = prt f t := fun t ht => by unfold prt; rw [ee (80 + t) (by omega) (by omega) (by omega) (by omega) (by omega) (by omega)]
  have T : ∀ i y, i ≠ 0 → i ≠ 40 + cN f → i ≠ 50 + cN f → i ≠ 60 + cN f → i ≠ 70 + cN f → i ≠ 80 + cN f → tN (f i) y → tN (g i) y := fun i y h0 h1 h2 h3 h4 h5 h => by rw [ee i h0 h1 h2 h3 h4 h5]; exact h
  refine ⟨⟨by rw [e0]; exact tN_of (by omega) (by decide), fun j hj => T _ _ (by omega) (by omega) (by omega) (by omega) (by omega) (by omega) (v.2.1 j hj), fun j hj => T _ _ (by omega) (by omega) (by omega) (by omega) (by omega) (by omega) (v.2.2.1 j hj), fun t ht => ?_, fun t ht => ?_⟩, eN⟩
  · rw [eN] at ht
    by_cases c : t = cN f
    · subst c
      rw [e4, e5, e6, e7, e8]
      refine ⟨tN_of hk (by decide), tN_of hp (by decide), tN_of hd (by decide), tN_of (by omega) (by decide), Or.inl rfl, fun i hi => ?_⟩
      have : cL g (cN f) = 0 := by
        show (g (70 + cN f)).toNatClampNeg = 0
        rw [e7]
        rfl
      omega
    · have ht' : t < cN f := by omega
      obtain ⟨v1, v2, v3, v4, v5, v6⟩ := v.2.2.2.1 t ht'
      have l := (v.l ht').2
      refine ⟨T _ _ (by omega) (by omega) (by omega) (by omega) (by omega) (by omega) v1, T _ _ (by omega) (by omega) (by omega) (by omega) (by omega) (by omega) v2, T _ _ (by omega) (by omega) (by omega) (by omega) (by omega) (by omega) v3, T _ _ (by omega) (by omega) (by omega) (by omega) (by omega) (by omega) v4, ?_, fun i hi => ?_⟩
      · rw [ee (80 + t) (by omega) (by omega) (by omega) (by omega) (by omega) (by omega)]
        rcases v5 with z | ⟨q, z1, z2⟩
        · exact Or.inl z
        · exact Or.inr ⟨q, by omega, z2⟩
      · have : cL g t = cL f t := by unfold cL; rw [ee (70 + t) (by omega) (by omega) (by omega) (by omega) (by omega) (by omega)]
        rw [this] at hi
        obtain ⟨w1, w2, w3⟩ := v6 i hi
        exact ⟨T _ _ (by omega) (by omega) (by omega) (by omega) (by omega) (by omega) w1, T _ _ (by omega) (by omega) (by omega) (by omega) (by omega) (by omega) w2, T _ _ (by omega) (by omega) (by omega) (by omega) (by omega) (by omega) w3⟩
  · rw [eN] at ht
    by_cases c : t = cN f
    · subst c
      refine ⟨1, ?_⟩
      rw [it_s]
      unfold prt
      rw [e8, if_pos (by decide), obn]
    · obtain ⟨m, hm⟩ := v.2.2.2.2 t (by omega)
      exact ⟨m, (it_extN v eP m t (by omega)).trans hm⟩
theorem m_isPlace_t {g : tkH} {x : Nat} (hx : x < 6) : f_X9_isPlace g (nI x) = some (1, g) := by
  unfold f_X9_isPlace
  rw [nl5, m_in (n := 5) (by omega) (by decide)]
  simp only [ob, i1f, eq_self, if_true, if_false]
  rw [bz_1]
  simp only [ob, i1f, eq_self, if_true, if_false]
theorem m_isPlace_f {g : tkH} {x : Int32} (hx : ¬ ∃ t, t < 6 ∧ x = nI t) : f_X9_isPlace g x = some (0, g) := by
  unfold f_X9_isPlace
  rw [nl5, m_out hx (by decide)]
  simp only [ob, i1f, eq_self, if_true, if_false]
  rw [bz_0]
  simp only [ob, i1f, eq_self, if_true, if_false]
theorem op_tale {h : tkH} (I : Inv h) (a b c : Int32) : OP (f_X8_tale h 0 a b c) (fun g => f_X9_tale g 217 a b c) := by
  have v := I.1
  have n2 := v.n.2
  by_cases ha : ∃ t, t < 4 ∧ a = nI t
  · obtain ⟨k, hk, rfl⟩ := ha
    by_cases hb : ∃ t, t < 6 ∧ b = nI t
    · obtain ⟨p, hp, rfl⟩ := hb
      by_cases hc : ∃ t, t < 1000 ∧ c = nI t
      · obtain ⟨d, hd, rfl⟩ := hc
        by_cases hz : cN (h 218) = 10
        · refine OP.f0 (c := -100005) I ?_ (fun g e => ?_)
          · unfold f_X8_tale
            rw [nl4, x_in hk (by decide)]
            simp only [ob, i1f, eq_self, if_true, if_false]
            rw [nl6, x_in hp (by decide)]
            simp only [ob, i1f, eq_self, if_true, if_false]
            rw [nl1000, x_in hd (by decide)]
            simp only [ob, i1f, eq_self, if_true, if_false]
            rw [f00.1, I.x0, hz, if_neg (by decide)]
            rfl
          · show f_X9_tale g 217 (nI k) (nI p) (nI d) = _
            unfold f_X9_tale
            rw [nl3, m_in (n := 3) (by omega) (by decide)]
            simp only [ob, i1f, eq_self, if_true, if_false]
            rw [m_isPlace_t hp]
            simp only [ob, i1f, eq_self, if_true, if_false]
            rw [nl999, m_in (n := 999) (by omega) (by decide)]
            simp only [ob, i1f, eq_self, if_true, if_false]
            rw [show fld 217 0 = 218 by simp only [FL], nl0, r218 (by decide), ob, e 218 (by decide), v.n.1, hz, if_pos (show nI 10 = 10 from rfl)]
            rfl
        · obtain ⟨h1, k1, k2, K⟩ := mutK I
          generalize hN : cN (h 218) = N at *
          have L2 : ln 2 = 10 ∧ ln 3 = 10 ∧ ln 4 = 10 ∧ ln 5 = 10 ∧ ln 6 = 10 := ⟨ln_2.1, ln_2.2.1, ln_2.2.2.1, ln_2.2.2.2.1, ln_2.2.2.2.2.1⟩
          have F : fld 1 1 = 2 ∧ fld 1 2 = 3 ∧ fld 1 3 = 4 ∧ fld 1 4 = 5 ∧ fld 1 5 = 6 := by simp only [FL]; decide
          have ex0 : h 1 0 = nI N := by rw [I.x0, hN]
          have e10 : h1 1 0 = nI N := by rw [k2 1 (by omega)]; exact ex0
          have vn : h 218 0 = nI N := by rw [v.n.1, hN]
          generalize hX : tkup (tkup (tkup (tkup (tkup (tkup h1 2 N (nI k)) 3 N (nI p)) 4 N (nI d)) 5 N (-1)) 6 N 0) 1 0 (nI (N + 1)) = hx
          have Xo : ∀ q, q = 0 ∨ 7 ≤ q → hx q = h1 q := fun q e => by rw [← hX, up_a (by omega), up_a (by omega), up_a (by omega), up_a (by omega), up_a (by omega), up_a (by omega)]
          obtain ⟨hk', m1, m2, m3, m4⟩ := K hx (fun z g1 g2 => Xo z (by omega)) (Xo 0 (by omega))
          have e218 : hx 218 = h 218 := (Xo 218 (by omega)).trans (k2 218 (by omega))
          generalize hM : tkup (tkup (tkup (tkup (tkup (tkup hk' 218 (40 + N) (nI k)) 218 (50 + N) (nI p)) 218 (60 + N) (nI d)) 218 (70 + N) 0) 218 (80 + N) (-1)) 218 0 (nI (N + 1)) = hm
          have g0 : hm 218 0 = nI (N + 1) := by rw [← hM, up_s]
          have g8 : hm 218 (80 + N) = -1 := by rw [← hM, up_i (by omega), up_s]
          have g7 : hm 218 (70 + N) = nI 0 := by rw [← hM, up_i (by omega), up_i (by omega), up_s]; rfl
          have g6 : hm 218 (60 + N) = nI d := by rw [← hM, up_i (by omega), up_i (by omega), up_i (by omega), up_s]
          have g5 : hm 218 (50 + N) = nI p := by rw [← hM, up_i (by omega), up_i (by omega), up_i (by omega), up_i (by omega), up_s]
          have g4 : hm 218 (40 + N) = nI k := by rw [← hM, up_i (by omega), up_i (by omega), up_i (by omega), up_i (by omega), up_i (by omega), up_s]
          have gg : ∀ i, i ≠ 0 → i ≠ 40 + N → i ≠ 50 + N → i ≠ 60 + N → i ≠ 70 + N → i ≠ 80 + N → hm 218 i = h 218 i := fun i z0 z4 z5 z6 z7 z8 => by rw [← hM, up_i z0, up_i z8, up_i z7, up_i z6, up_i z5, up_i z4, m2]
          have VT := v.tale (g := hm 218) (k := k) (p := p) (d := d) (by omega) (by omega) (by omega) (by omega) (by rw [hN]; exact g0) (by rw [hN]; exact g4) (by rw [hN]; exact g5) (by rw [hN]; exact g6) (by rw [hN]; exact g7) (by rw [hN]; exact g8) (by rw [hN]; exact gg)
          rw [hN] at VT
          refine ⟨nI N, hx, hm, ?_, ?_, m4 _ (fun q e => by rw [← hM, up_a e, up_a e, up_a e, up_a e, up_a e, up_a e]) VT.1 ?_ ?_⟩
          · unfold f_X8_tale f_X0_addTale
            rw [nl4, x_in hk (by decide)]
            simp only [ob, i1f, eq_self, if_true, if_false]
            rw [nl6, x_in hp (by decide)]
            simp only [ob, i1f, eq_self, if_true, if_false]
            rw [nl1000, x_in hd (by decide)]
            simp only [ob, i1f, eq_self, if_true, if_false]
            rw [f00.1, f00.2.1, ex0, if_pos (by rw [nl10, nI_ltI (by omega) (by decide)]; omega), k1, ob, F.1, F.2.1, F.2.2.1, F.2.2.2.1, F.2.2.2.2, e10, wrI_n (by omega) (by omega), ob, wrI_n (by omega) (by omega), ob, wrI_n (by omega) (by omega), ob, wrI_n (by omega) (by omega), ob, wrI_n (by omega) (by omega), ob, ob]
            show some (nI N, tkup (tkup (tkup (tkup (tkup (tkup h1 2 N (nI k)) 3 N (nI p)) 4 N (nI d)) 5 N (-1)) 6 N 0) 1 0 (tkup (tkup (tkup (tkup (tkup h1 2 N (nI k)) 3 N (nI p)) 4 N (nI d)) 5 N (-1)) 6 N 0 1 0 + 1)) = _
            rw [up_a (by decide), up_a (by decide), up_a (by decide), up_a (by decide), up_a (by decide), e10, nI_1, hX]
          · show f_X9_tale hx 217 (nI k) (nI p) (nI d) = _
            unfold f_X9_tale
            rw [nl3, m_in (n := 3) (by omega) (by decide)]
            simp only [ob, i1f, eq_self, if_true, if_false]
            rw [m_isPlace_t hp]
            simp only [ob, i1f, eq_self, if_true, if_false]
            rw [nl999, m_in (n := 999) (by omega) (by decide)]
            simp only [ob, i1f, eq_self, if_true, if_false]
            rw [show fld 217 0 = 218 by simp only [FL], show rdI hx 218 0 = some (hx 218 0) from r218 (k := 0) (by decide), ob, e218, vn, if_neg (show ¬ nI N = 10 from nIne (b := 10) (by omega) (by decide) hz), m1, ob, nl40, nl50, nl60, nl70, nl80, nI_add, nI_add, nI_add, nI_add, nI_add, w218 (by omega), ob, w218 (by omega), ob, w218 (by omega), ob, w218 (by omega), ob, w218 (by omega), ob]
            have rz : ∀ g : tkH, rdI g 218 0 = some (g 218 0) := fun g => r218 (k := 0) (by decide)
            have wz : ∀ (g : tkH) (x : Int32), wrI g 218 0 x = some (tkup g 218 0 x) := fun g x => w218 (k := 0) (by decide)
            rw [rz, ob, wz, ob, up_i (by omega), up_i (by omega), up_i (by omega), up_i (by omega), up_i (by omega), m2, vn, nI_1, hM]
          · obtain ⟨x0, x1, x2, x3⟩ := I.2.1
            refine ⟨?_, fun t ht => ?_, fun i hi => ?_, fun i hi => ?_⟩
            · rw [g0, ← hX, up_s]
            · rw [VT.2] at ht
              have r2 : hx 2 t = if t = N then nI k else h 2 t := by
                rw [← hX, up_a (by decide), up_a (by decide), up_a (by decide), up_a (by decide), up_a (by decide)]
                by_cases e : t = N
                · subst e
                  rw [up_s, if_pos rfl]
                · rw [up_i e, if_neg e, k2 2 (by omega)]
              have r3 : hx 3 t = if t = N then nI p else h 3 t := by
                rw [← hX, up_a (by decide), up_a (by decide), up_a (by decide), up_a (by decide)]
                by_cases e : t = N
                · subst e
                  rw [up_s, if_pos rfl]
                · rw [up_i e, if_neg e, up_a (by decide), k2 3 (by omega)]
              have r4 : hx 4 t = if t = N then nI d else h 4 t := by
                rw [← hX, up_a (by decide), up_a (by decide), up_a (by decide)]
                by_cases e : t = N
                · subst e
                  rw [up_s, if_pos rfl]
                · rw [up_i e, if_neg e, up_a (by decide), up_a (by decide), k2 4 (by omega)]
              have r5 : hx 5 t = if t = N then -1 else h 5 t := by
                rw [← hX, up_a (by decide), up_a (by decide)]
                by_cases e : t = N
                · subst e
                  rw [up_s, if_pos rfl]
                · rw [up_i e, if_neg e, up_a (by decide), up_a (by decide), up_a (by decide), k2 5 (by omega)]
              have r6 : hx 6 t = if t = N then 0 else h 6 t := by
                rw [← hX, up_a (by decide)]
                by_cases e : t = N
                · subst e
                  rw [up_s, if_pos rfl]
                · rw [up_i e, if_neg e, up_a (by decide), up_a (by decide), up_a (by decide), up_a (by decide), k2 6 (by omega)]
              show hx 2 t = _ ∧ hx 3 t = _ ∧ hx 4 t = _ ∧ hx 5 t = _ ∧ hx 6 t = _ ∧ ∀ i, i < cL (hm 218) t → hx 7 (10 * t + i) = _
              rw [r2, r3, r4, r5, r6]
              by_cases e : t = N
              · subst e
                rw [if_pos rfl, if_pos rfl, if_pos rfl, if_pos rfl, if_pos rfl, g4, g5, g6, g7, g8]
                refine ⟨rfl, rfl, rfl, rfl, rfl, fun i hi => ?_⟩
                have : cL (hm 218) t = 0 := by
                  show (hm 218 (70 + t)).toNatClampNeg = 0
                  rw [g7]
                  rfl
                omega
              · have ht' : t < cN (h 218) := by omega
                obtain ⟨y1, y2, y3, y4, y5, y6⟩ := x1 t ht'
                have l := (v.l ht').2
                have hc : cL (hm 218) t = cL (h 218) t := by unfold cL; rw [gg (70 + t) (by omega) (by omega) (by omega) (by omega) (by omega) (by omega)]
                rw [if_neg e, if_neg e, if_neg e, if_neg e, if_neg e, gg (40 + t) (by omega) (by omega) (by omega) (by omega) (by omega) (by omega), gg (50 + t) (by omega) (by omega) (by omega) (by omega) (by omega) (by omega), gg (60 + t) (by omega) (by omega) (by omega) (by omega) (by omega) (by omega), gg (70 + t) (by omega) (by omega) (by omega) (by omega) (by omega) (by omega), gg (80 + t) (by omega) (by omega) (by omega) (by omega) (by omega) (by omega), hc]
                refine ⟨y1, y2, y3, y4, y5, fun i hi => ?_⟩
                rw [gg _ (by omega) (by omega) (by omega) (by omega) (by omega) (by omega), gg _ (by omega) (by omega) (by omega) (by omega) (by omega) (by omega), gg _ (by omega) (by omega) (by omega) (by omega) (by omega) (by omega), Xo 7 (by omega), k2 7 (by omega)]
                exact y6 i hi
            · rw [Xo (1 + 7) (by omega), k2 (1 + 7) (by omega), gg _ (by omega) (by omega) (by omega) (by omega) (by omega) (by omega)]
              exact x2 i hi
            · rw [Xo (1 + 8) (by omega), k2 (1 + 8) (by omega), gg _ (by omega) (by omega) (by omega) (by omega) (by omega) (by omega)]
              exact x3 i hi
          · have c := I.2.2.2.2.1
            have e201 : hx 201 = h 201 := (Xo 201 (by omega)).trans (k2 201 (by omega))
            refine ⟨fun a b ha hb => by rw [e201]; exact c.1 a b ha hb, fun a b ha hb => ?_⟩
            rw [e201, VT.2]
            by_cases q : a < N ∧ b < N
            · refine ⟨fun _ => ?_, fun z => absurd ⟨by omega, by omega⟩ z⟩
              have la := (v.l (t := a) (by omega)).2
              have lb := (v.l (t := b) (by omega)).2
              have := (c.2 a b ha hb).1 (by rw [hN]; exact q)
              rw [cst_congr (f := h 218) (f' := hm 218) (fun j hj => gg _ (by omega) (by omega) (by omega) (by omega) (by omega) (by omega)) ⟨gg _ (by omega) (by omega) (by omega) (by omega) (by omega) (by omega), gg _ (by omega) (by omega) (by omega) (by omega) (by omega) (by omega), fun i w _ _ => gg _ (by omega) (by omega) (by omega) (by omega) (by omega) (by omega)⟩ ⟨gg _ (by omega) (by omega) (by omega) (by omega) (by omega) (by omega), gg _ (by omega) (by omega) (by omega) (by omega) (by omega) (by omega), fun i w _ _ => gg _ (by omega) (by omega) (by omega) (by omega) (by omega) (by omega)⟩]
              exact this
            · have := (c.2 a b ha hb).2 (by rw [hN]; exact q)
              exact ⟨fun _ => Or.inl this, fun _ => this⟩
      · refine OP.f0 (c := -100001) I ?_ (fun g e => ?_)
        · unfold f_X8_tale f_X8_tale_J27
          rw [nl4, x_in hk (by decide)]
          simp only [ob, i1f, eq_self, if_true, if_false]
          rw [nl6, x_in hp (by decide)]
          simp only [ob, i1f, eq_self, if_true, if_false]
          rw [nl1000, x_out hc (by decide)]
          simp only [ob, i1f, eq_self, if_true, if_false]
          rfl
        · show f_X9_tale g 217 (nI k) (nI p) c = _
          unfold f_X9_tale f_X9_tale_J27
          rw [nl3, m_in (n := 3) (by omega) (by decide)]
          simp only [ob, i1f, eq_self, if_true, if_false]
          rw [m_isPlace_t hp]
          simp only [ob, i1f, eq_self, if_true, if_false]
          rw [nl999, m_out hc (by decide)]
          simp only [ob, i1f, eq_self, if_true, if_false]
          rfl
    · refine OP.f0 (c := -100001) I ?_ (fun g e => ?_)
      · unfold f_X8_tale f_X8_tale_J27
        rw [nl4, x_in hk (by decide)]
        simp only [ob, i1f, eq_self, if_true, if_false]
        rw [nl6, x_out hb (by decide)]
        simp only [ob, i1f, eq_self, if_true, if_false]
        rfl
      · show f_X9_tale g 217 (nI k) b c = _
        unfold f_X9_tale f_X9_tale_J27
        rw [nl3, m_in (n := 3) (by omega) (by decide)]
        simp only [ob, i1f, eq_self, if_true, if_false]
        rw [m_isPlace_f hb]
        simp only [ob, i1f, eq_self, if_true, if_false]
        rfl
  · refine OP.f0 (c := -100001) I ?_ (fun g e => ?_)
    · unfold f_X8_tale f_X8_tale_J27
      rw [nl4, x_out ha (by decide)]
      simp only [ob, i1f, eq_self, if_true, if_false]
      rfl
    · show f_X9_tale g 217 a b c = _
      unfold f_X9_tale f_X9_tale_J27
      rw [nl3, m_out ha (by decide)]
      simp only [ob, i1f, eq_self, if_true, if_false]
      rfl
