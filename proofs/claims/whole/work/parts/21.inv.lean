/-! THE INVARIANT between the class's cells and the reference's -/
def wX (b v : Int32) : Int32 := if b = 8 then v &&& 255 else if b = 16 then v &&& 65535 else v
def wM (b v : Int32) : Int32 := (v <<< ((32 - b) &&& 31)) >>> ((32 - b) &&& 31)
/-- sheet s: the class's (cell c = 209 + 2 * s, its numbers at c + 1) and the reference's -/
def Sh1 (h : tkH) (s : Nat) : Prop := h (209 + 2 * s) 0 = h 220 s ∧ h (209 + 2 * s) 1 = h 221 s ∧ (h 220 s = 0 ∨ h 220 s = 8 ∨ h 220 s = 16 ∨ h 220 s = 32) ∧ tN (h 221 s) 30 ∧ ∀ i, i < (h 221 s).toNatClampNeg → ∃ v, h (210 + 2 * s) i = wX (h 220 s) v ∧ h 222 (30 * s + i) = wM (h 220 s) v
def Inv (h : tkH) : Prop := Vd (h 218) ∧ XR h 1 (h 218) ∧ h 0 6 = h 217 3 ∧ Hs h ∧ Ca h (h 218) ∧ ∀ s, s < 4 → Sh1 h s
/-- all that outlasts a call is the same, but what is known of COSTS -/
def PF (h hf : tkH) : Prop := (∀ q, q ≤ 192 ∨ (208 ≤ q ∧ q ≤ 216) ∨ (218 ≤ q ∧ q ≤ 222) → hf q = h q) ∧ hf 217 2 = h 217 2 ∧ hf 217 3 = h 217 3
theorem PF.rf {h : tkH} : PF h h := ⟨fun _ _ => rfl, rfl, rfl⟩
theorem PF.tr {h1 h2 h3 : tkH} (p : PF h1 h2) (q : PF h2 h3) : PF h1 h3 := ⟨fun a e => (q.1 a e).trans (p.1 a e), q.2.1.trans p.2.1, q.2.2.trans p.2.2⟩
theorem XK.p {h hf : tkH} (p : XK h hf) : PF h hf := ⟨fun q e => p q (by omega), by rw [p 217 (by omega)], by rw [p 217 (by omega)]⟩
theorem XF.p {h hf : tkH} (p : XF h hf) : PF h hf := p.k.p
theorem MF.p {h hf : tkH} (p : MF h hf) : PF h hf := ⟨fun q e => p.1 q (by omega), p.2.1, p.2.2⟩
theorem MF.c {h hf : tkH} (p : MF h hf) : hf 201 = h 201 := p.1 201 (by omega)
theorem XF.c {h hf : tkH} (p : XF h hf) : hf 201 = h 201 := p 201 (by omega)
theorem Ca.keep {h hf : tkH} {f : Nat → Int32} (c : Ca h f) (e : hf 201 = h 201) : Ca hf f := by
  unfold Ca
  rw [e]
  exact c
theorem prt_lt {f : Nat → Int32} (v : Vd f) {t q : Nat} (ht : t < cN f) (e : prt f t = some q) : q < cN f := by
  have n := v.n.2
  unfold prt at e
  rcases (v.2.2.2.1 t ht).2.2.2.2.1 with z | ⟨x, hx, z⟩
  · rw [z, if_pos (by decide)] at e
    cases e
  · rw [z, if_neg (nI_pos (by omega)), nI_clamp (by omega)] at e
    cases e
    exact hx
theorem obn {α β : Type} (k : α → Option β) : (none : Option α).bind k = none := rfl
theorem it_0 (s : Nat → Option Nat) (x : Nat) : it s 0 x = some x := rfl
theorem it_s (s : Nat → Option Nat) (m x : Nat) : it s (m + 1) x = (s x).bind (it s m) := rfl
theorem it_ext {f g : Nat → Int32} (v : Vd f) (eP : ∀ t, t < 10 → prt g t = prt f t) : ∀ m t, t < cN f → it (prt g) m t = it (prt f) m t := by
  have n := v.n.2
  intro m
  induction m with
  | zero => intro t _; rw [it_0, it_0]
  | succ m ih =>
    intro t ht
    rw [it_s, it_s, eP t (by omega)]
    cases hq : prt f t with
    | none => rw [obn, obn]
    | some q => rw [ob, ob]; exact ih q (prt_lt v ht hq)
theorem Vd.ext {f g : Nat → Int32} (v : Vd f) (e : ∀ i, i < 390 → g i = f i) : Vd g := by
  have n := v.n.2
  have eN : cN g = cN f := by unfold cN; rw [e 0 (by omega)]
  have eL : ∀ t, t < 10 → cL g t = cL f t := fun t ht => by unfold cL; rw [e (70 + t) (by omega)]
  have eP : ∀ t, t < 10 → prt g t = prt f t := fun t ht => by unfold prt; rw [e (80 + t) (by omega)]
  have T : ∀ i x, i < 390 → tN (f i) x → tN (g i) x := fun i x hi h => by rw [e i hi]; exact h
  have P4 : ∀ t, t < cN g → tN (g (40 + t)) 3 ∧ tN (g (50 + t)) 5 ∧ tN (g (60 + t)) 999 ∧ tN (g (70 + t)) 10 ∧ (g (80 + t) = -1 ∨ ∃ q, q < cN g ∧ g (80 + t) = nI q) ∧
    ∀ i, i < cL g t → tN (g (90 + 3 * (10 * t + i))) 15 ∧ tN (g (90 + 3 * (10 * t + i) + 1)) 3 ∧ tN (g (90 + 3 * (10 * t + i) + 2)) 3 := by
    intro t ht
    rw [eN] at ht
    obtain ⟨v1, v2, v3, v4, v5, v6⟩ := v.2.2.2.1 t ht
    have l := (v.l ht).2
    refine ⟨T _ _ (by omega) v1, T _ _ (by omega) v2, T _ _ (by omega) v3, T _ _ (by omega) v4, ?_, fun i hi => ?_⟩
    · rw [e (80 + t) (by omega), eN]
      exact v5
    · rw [eL t (by omega)] at hi
      obtain ⟨w1, w2, w3⟩ := v6 i hi
      exact ⟨T _ _ (by omega) w1, T _ _ (by omega) w2, T _ _ (by omega) w3⟩
  have P5 : ∀ t, t < cN g → ∃ m, it (prt g) m t = none := by
    intro t ht
    rw [eN] at ht
    obtain ⟨m, hm⟩ := v.2.2.2.2 t ht
    exact ⟨m, (it_ext v eP m t ht).trans hm⟩
  exact ⟨T _ _ (by omega) v.1, fun j hj => T _ _ (by omega) (v.2.1 j hj), fun j hj => T _ _ (by omega) (v.2.2.1 j hj), P4, P5⟩
theorem XR.ext {h : tkH} {b : Nat} {f g : Nat → Int32} (r : XR h b f) (v : Vd f) (e : ∀ i, i < 390 → g i = f i) : XR h b g := by
  have n := v.n.2
  have eN : cN g = cN f := by unfold cN; rw [e 0 (by omega)]
  have eL : ∀ t, t < 10 → cL g t = cL f t := fun t ht => by unfold cL; rw [e (70 + t) (by omega)]
  refine ⟨by rw [e 0 (by omega)]; exact r.1, fun t ht => ?_, fun j hj => by rw [e (1 + j) (by omega)]; exact r.2.2.1 j hj, fun j hj => by rw [e (4 + j) (by omega)]; exact r.2.2.2 j hj⟩
  rw [eN] at ht
  obtain ⟨v1, v2, v3, v4, v5, v6⟩ := r.2.1 t ht
  have l := (v.l ht).2
  rw [e (40 + t) (by omega), e (50 + t) (by omega), e (60 + t) (by omega), e (70 + t) (by omega), e (80 + t) (by omega), eL t (by omega)]
  refine ⟨v1, v2, v3, v4, v5, fun i hi => ?_⟩
  rw [e (90 + 3 * (10 * t + i)) (by omega), e (90 + 3 * (10 * t + i) + 1) (by omega), e (90 + 3 * (10 * t + i) + 2) (by omega)]
  exact v6 i hi
theorem ps_eq {h hf : tkH} (e : hf 219 = h 219) (j : Nat) : ps hf j = ps h j := by
  unfold ps
  rw [e]
theorem Inv.keep {h hf : tkH} (I : Inv h) (p : PF h hf) (c : Ca hf (h 218)) : Inv hf := by
  obtain ⟨i1, i2, i3, ⟨k, nx, k1, k2, k3, k4, k5, k6⟩, i5, i6⟩ := I
  have e218 : hf 218 = h 218 := p.1 218 (by omega)
  refine ⟨by rw [e218]; exact i1, ?_, ?_, ⟨k, nx, k1, k2, ?_, ?_, ?_, fun j hj => ?_⟩, by rw [e218]; exact c, fun s hs => ?_⟩
  · rw [e218]
    exact i2.be i1 (BE.of_eq (fun q h1 h2 => p.1 q (by omega)))
  · rw [p.1 0 (by omega), p.2.2]
    exact i3
  · rw [p.1 10 (by omega)]
    exact k3
  · rw [p.2.1]
    exact k4
  · rw [p.1 10 (by omega)]
    exact k5
  · rw [ps_eq (p.1 219 (by omega))]
    refine ⟨(k6 j hj).1, (k6 j hj).2.be (k6 j hj).1 (BE.of_eq (fun q h1 h2 => p.1 q ?_))⟩
    unfold sl at h1 h2
    omega
  · unfold Sh1
    rw [p.1 (209 + 2 * s) (by omega), p.1 (210 + 2 * s) (by omega), p.1 220 (by omega), p.1 221 (by omega), p.1 222 (by omega)]
    exact i6 s hs
/-- one call on both sides: the same answer, and the invariant again -/
def OP (X : Option (Int32 × tkH)) (M : tkH → Option (Int32 × tkH)) : Prop := ∃ r h1 h2, X = some (r, h1) ∧ M h1 = some (r, h2) ∧ Inv h2
/-- both answer without a change that outlasts the call -/
theorem OP.q {h h1 h2 : tkH} {r : Int32} {X : Option (Int32 × tkH)} {M : tkH → Option (Int32 × tkH)} (I : Inv h) (hX : X = some (r, h1)) (hM : M h1 = some (r, h2)) (p1 : PF h h1) (c : Ca h1 (h 218)) (p2 : MF h1 h2) : OP X M := ⟨r, h1, h2, hX, hM, I.keep (p1.tr p2.p) (c.keep p2.c)⟩
/-- both tell a finding -/
theorem OP.f {h h1 : tkH} {c : Int32} {X : Option (Int32 × tkH)} {M : tkH → Option (Int32 × tkH)} (I : Inv h) (p1 : PF h h1) (k : Ca h1 (h 218)) (hX : X = some (c, tkup h1 0 6 (h1 0 6 + 1))) (hM : ∀ g, (∀ q, q ≠ 0 → g q = h1 q) → ∃ g', MF g g' ∧ M g = some (c, tkup g' 217 3 (g' 217 3 + 1))) : OP X M := by
  obtain ⟨g', m1, m2⟩ := hM (tkup h1 0 6 (h1 0 6 + 1)) (fun q e => up_a e)
  refine ⟨c, _, _, hX, m2, ?_⟩
  have p : PF h g' → False ∨ True := fun _ => Or.inr trivial
  obtain ⟨i1, i2, i3, ⟨kk, nx, k1, k2, k3, k4, k5, k6⟩, i5, i6⟩ := I
  generalize hf0 : tkup g' 217 3 (g' 217 3 + 1) = hf
  have E : ∀ q, 1 ≤ q → q ≤ 192 ∨ (208 ≤ q ∧ q ≤ 216) ∨ (218 ≤ q ∧ q ≤ 222) → hf q = h q := by
    intro q h1 h2
    rw [← hf0, up_a (by omega), m1.1 q (by omega), up_a (by omega), p1.1 q h2]
  have e218 : hf 218 = h 218 := E 218 (by omega) (by omega)
  refine ⟨by rw [e218]; exact i1, ?_, ?_, ⟨kk, nx, k1, k2, ?_, ?_, ?_, fun j hj => ?_⟩, ?_, fun s hs => ?_⟩
  · rw [e218]
    exact i2.be i1 (BE.of_eq (fun q h1 h2 => E q (by omega) (by omega)))
  · rw [← hf0, up_a (by decide), m1.1 0 (by omega), up_s, up_s, m1.2.2, up_a (by decide), p1.1 0 (by omega), p1.2.2, i3]
  · rw [E 10 (by omega) (by omega)]
    exact k3
  · rw [← hf0, up_i (by decide), m1.2.1, up_a (by decide), p1.2.1]
    exact k4
  · rw [E 10 (by omega) (by omega)]
    exact k5
  · rw [ps_eq (E 219 (by omega) (by omega))]
    refine ⟨(k6 j hj).1, (k6 j hj).2.be (k6 j hj).1 (BE.of_eq (fun q h1 h2 => E q ?_ ?_))⟩
    · unfold sl at h1
      omega
    · unfold sl at h1 h2
      omega
  · rw [e218]
    exact k.keep (by rw [← hf0, up_a (by decide), m1.1 201 (by omega), up_a (by decide)])
  · unfold Sh1
    rw [E (209 + 2 * s) (by omega) (by omega), E (210 + 2 * s) (by omega) (by omega), E 220 (by omega) (by omega), E 221 (by omega) (by omega), E 222 (by omega) (by omega)]
    exact i6 s hs
theorem m_fd {g : tkH} {c : Int32} : ((f_X9_finding g 217 c).bind fun x => some (x.1, x.2)) = some (c, tkup g 217 3 (g 217 3 + 1)) := rfl
theorem x_fd {g : tkH} {c : Int32} : ((f_X8_finding g 0 c).bind fun x => some (x.1, x.2)) = some (c, tkup g 0 6 (g 0 6 + 1)) := rfl
/-- an act that changes tales, PRICES or WAYS: what both sides' keep comes to -/
theorem mutK {h : tkH} (I : Inv h) : ∃ h1, f_X3_keep h 10 1 = some h1 ∧ (∀ q, q ≤ 9 ∨ 192 ≤ q → h1 q = h q) ∧ ∀ hx, (∀ q, 10 ≤ q → q ≠ 201 → hx q = h1 q) → hx 0 = h1 0 →
    ∃ hk, f_X9_keep hx 217 = some hk ∧ hk 218 = h 218 ∧ (∀ q, q ≠ 217 → q ≠ 219 → hk q = hx q) ∧ ∀ hm, (∀ q, q ≠ 218 → hm q = hk q) → Vd (hm 218) → XR hx 1 (hm 218) → Ca hx (hm 218) → Inv hm := by
  obtain ⟨i1, i2, i3, ⟨k, nx, k1, k2, k3, k4, k5, k6⟩, i5, i6⟩ := I
  obtain ⟨h1, a1, a2, a3, a4, a5⟩ := x_keep k1 k2 k3 k5
  refine ⟨h1, a5, fun q e => a1 q (by omega) (by omega), fun hx X X0 => ?_⟩
  have e217 : hx 217 = h 217 := (X 217 (by omega) (by omega)).trans (a1 217 (by omega) (by omega))
  have e218 : hx 218 = h 218 := (X 218 (by omega) (by omega)).trans (a1 218 (by omega) (by omega))
  have e219 : hx 219 = h 219 := (X 219 (by omega) (by omega)).trans (a1 219 (by omega) (by omega))
  obtain ⟨hk, b1, b2, b3, b4, b5, b6⟩ := m_keep (h := hx) k1 (by rw [e217]; exact k4)
  refine ⟨hk, b6, (b1 218 (by omega) (by omega)).trans e218, b1, fun hm M v r c => ?_⟩
  have q0 : hm 0 = h 0 := by rw [M 0 (by omega), b1 0 (by omega) (by omega), X0, a1 0 (by omega) (by omega)]
  have qx : ∀ q, 10 ≤ q → q ≠ 201 → q ≠ 217 → q ≠ 218 → q ≠ 219 → hm q = h1 q := fun q g1 g2 g3 g4 g5 => by rw [M q g4, b1 q g3 g5, X q g1 g2]
  have q219 : hm 219 = hk 219 := M 219 (by omega)
  refine ⟨v, ?_, ?_, ⟨min (k + 1) 20, (nx + 1) % 20, by omega, by omega, ?_, ?_, ?_, fun j hj => ?_⟩, ?_, fun s hs => ?_⟩
  · exact r.be v (BE.of_eq (fun q h1 h2 => by rw [M q (by omega), b1 q (by omega) (by omega)]))
  · rw [q0, M 217 (by omega), b2 3 (by omega), e217]
    exact i3
  · rw [qx 10 (by omega) (by omega) (by omega) (by omega) (by omega)]
    exact a4
  · rw [M 217 (by omega)]
    exact b3
  · rw [qx 10 (by omega) (by omega) (by omega) (by omega) (by omega)]
    exact a3
  · have last : j = min (k + 1) 20 - 1 ∨ j < min k 19 := by omega
    rcases last with e | e
    · have ep : ∀ i, i < 390 → ps hm j i = h 218 i := fun i hi => by
        unfold ps
        rw [q219, show 390 * j + i = 390 * (min k 19) + i by omega, b4 i hi, e218]
      have es : sl ((nx + 1) % 20) (min (k + 1) 20) j = 12 + 9 * nx := by
        unfold sl
        omega
      rw [es]
      refine ⟨i1.ext ep, ?_⟩
      have r1 : XR hm (12 + 9 * nx) (h 218) := i2.be i1 (by
        obtain ⟨z0, z1, z2, z3, z4, z5, z6, z7, z8⟩ := a2
        have q := qx
        exact ⟨by rw [qx _ (by omega) (by omega) (by omega) (by omega) (by omega)]; exact z0, fun i hi => by rw [qx _ (by omega) (by omega) (by omega) (by omega) (by omega)]; exact z1 i hi, fun i hi => by rw [qx _ (by omega) (by omega) (by omega) (by omega) (by omega)]; exact z2 i hi, fun i hi => by rw [qx _ (by omega) (by omega) (by omega) (by omega) (by omega)]; exact z3 i hi, fun i hi => by rw [qx _ (by omega) (by omega) (by omega) (by omega) (by omega)]; exact z4 i hi, fun i hi => by rw [qx _ (by omega) (by omega) (by omega) (by omega) (by omega)]; exact z5 i hi, fun i hi => by rw [qx _ (by omega) (by omega) (by omega) (by omega) (by omega)]; exact z6 i hi, fun i hi => by rw [qx _ (by omega) (by omega) (by omega) (by omega) (by omega)]; exact z7 i hi, fun i hi => by rw [qx _ (by omega) (by omega) (by omega) (by omega) (by omega)]; exact z8 i hi⟩)
      exact r1.ext i1 ep
    · have hj2 : j + (k - min k 19) < k := by omega
      obtain ⟨w1, w2⟩ := k6 (j + (k - min k 19)) hj2
      have ep : ∀ i, i < 390 → ps hm j i = ps h (j + (k - min k 19)) i := fun i hi => by
        unfold ps
        rw [q219, b5 j i e hi, e219]
      have es : sl ((nx + 1) % 20) (min (k + 1) 20) j = sl nx k (j + (k - min k 19)) := by
        unfold sl
        omega
      rw [es]
      have ne : (nx + 20 - k + (j + (k - min k 19))) % 20 ≠ nx := by omega
      refine ⟨w1.ext ep, (w2.be w1 (BE.of_eq (fun q g1 g2 => ?_))).ext w1 ep⟩
      unfold sl at g1 g2
      rw [qx q (by omega) (by omega) (by omega) (by omega) (by omega), a1 q (by omega) (by omega)]
  · exact c.keep (by rw [M 201 (by omega), b1 201 (by omega) (by omega)])
  · unfold Sh1
    rw [qx (209 + 2 * s) (by omega) (by omega) (by omega) (by omega) (by omega), qx (210 + 2 * s) (by omega) (by omega) (by omega) (by omega) (by omega), qx 220 (by omega) (by omega) (by omega) (by omega) (by omega), qx 221 (by omega) (by omega) (by omega) (by omega) (by omega), qx 222 (by omega) (by omega) (by omega) (by omega) (by omega), a1 (209 + 2 * s) (by omega) (by omega), a1 (210 + 2 * s) (by omega) (by omega), a1 220 (by omega) (by omega), a1 221 (by omega) (by omega), a1 222 (by omega) (by omega)]
    exact i6 s hs
