/-! the shape of our cells behind the constructors (cell 0 is the class, cell 217 the reference), by a program that ran the constructors; the rows over it -/
def tkF : tkT := [(11, 7, [some (some 1), some (some 10), some (some 192), some (some 202), some (some 205), some (some 208), none]), (3, 9, [none, some (some 2), some (some 3), some (some 4), some (some 5), some (some 6), some (some 7), some (some 8), some (some 9)]), (0, 10, []), (0, 10, []), (0, 10, []), (0, 10, []), (0, 10, []), (0, 100, []), (0, 3, []), (0, 36, []), (6, 3, [some (some 11), none, none]), (1, 20, [some (some 12), some (some 21), some (some 30), some (some 39), some (some 48), some (some 57), some (some 66), some (some 75), some (some 84), some (some 93), some (some 102), some (some 111), some (some 120), some (some 129), some (some 138), some (some 147), some (some 156), some (some 165), some (some 174), some (some 183)]), (3, 9, [none, some (some 13), some (some 14), some (some 15), some (some 16), some (some 17), some (some 18), some (some 19), some (some 20)]), (0, 10, []), (0, 10, []), (0, 10, []), (0, 10, []), (0, 10, []), (0, 100, []), (0, 3, []), (0, 36, []), (3, 9, [none, some (some 22), some (some 23), some (some 24), some (some 25), some (some 26), some (some 27), some (some 28), some (some 29)]), (0, 10, []), (0, 10, []), (0, 10, []), (0, 10, []), (0, 10, []), (0, 100, []), (0, 3, []), (0, 36, []), (3, 9, [none, some (some 31), some (some 32), some (some 33), some (some 34), some (some 35), some (some 36), some (some 37), some (some 38)]), (0, 10, []), (0, 10, []), (0, 10, []), (0, 10, []), (0, 10, []), (0, 100, []), (0, 3, []), (0, 36, []), (3, 9, [none, some (some 40), some (some 41), some (some 42), some (some 43), some (some 44), some (some 45), some (some 46), some (some 47)]), (0, 10, []), (0, 10, []), (0, 10, []), (0, 10, []), (0, 10, []), (0, 100, []), (0, 3, []), (0, 36, []), (3, 9, [none, some (some 49), some (some 50), some (some 51), some (some 52), some (some 53), some (some 54), some (some 55), some (some 56)]), (0, 10, []), (0, 10, []), (0, 10, []), (0, 10, []), (0, 10, []), (0, 100, []), (0, 3, []), (0, 36, []), (3, 9, [none, some (some 58), some (some 59), some (some 60), some (some 61), some (some 62), some (some 63), some (some 64), some (some 65)]), (0, 10, []), (0, 10, []), (0, 10, []), (0, 10, []), (0, 10, []), (0, 100, []), (0, 3, []), (0, 36, []), (3, 9, [none, some (some 67), some (some 68), some (some 69), some (some 70), some (some 71), some (some 72), some (some 73), some (some 74)]), (0, 10, []), (0, 10, []), (0, 10, []), (0, 10, []), (0, 10, []), (0, 100, []), (0, 3, []), (0, 36, []), (3, 9, [none, some (some 76), some (some 77), some (some 78), some (some 79), some (some 80), some (some 81), some (some 82), some (some 83)]), (0, 10, []), (0, 10, []), (0, 10, []), (0, 10, []), (0, 10, []), (0, 100, []), (0, 3, []), (0, 36, []), (3, 9, [none, some (some 85), some (some 86), some (some 87), some (some 88), some (some 89), some (some 90), some (some 91), some (some 92)]), (0, 10, []), (0, 10, []), (0, 10, []), (0, 10, []), (0, 10, []), (0, 100, []), (0, 3, []), (0, 36, []), (3, 9, [none, some (some 94), some (some 95), some (some 96), some (some 97), some (some 98), some (some 99), some (some 100), some (some 101)]), (0, 10, []), (0, 10, []), (0, 10, []), (0, 10, []), (0, 10, []), (0, 100, []), (0, 3, []), (0, 36, []), (3, 9, [none, some (some 103), some (some 104), some (some 105), some (some 106), some (some 107), some (some 108), some (some 109), some (some 110)]), (0, 10, []), (0, 10, []), (0, 10, []), (0, 10, []), (0, 10, []), (0, 100, []), (0, 3, []), (0, 36, []), (3, 9, [none, some (some 112), some (some 113), some (some 114), some (some 115), some (some 116), some (some 117), some (some 118), some (some 119)]), (0, 10, []), (0, 10, []), (0, 10, []), (0, 10, []), (0, 10, []), (0, 100, []), (0, 3, []), (0, 36, []), (3, 9, [none, some (some 121), some (some 122), some (some 123), some (some 124), some (some 125), some (some 126), some (some 127), some (some 128)]), (0, 10, []), (0, 10, []), (0, 10, []), (0, 10, []), (0, 10, []), (0, 100, []), (0, 3, []), (0, 36, []), (3, 9, [none, some (some 130), some (some 131), some (some 132), some (some 133), some (some 134), some (some 135), some (some 136), some (some 137)]), (0, 10, []), (0, 10, []), (0, 10, []), (0, 10, []), (0, 10, []), (0, 100, []), (0, 3, []), (0, 36, []), (3, 9, [none, some (some 139), some (some 140), some (some 141), some (some 142), some (some 143), some (some 144), some (some 145), some (some 146)]), (0, 10, []), (0, 10, []), (0, 10, []), (0, 10, []), (0, 10, []), (0, 100, []), (0, 3, []), (0, 36, []), (3, 9, [none, some (some 148), some (some 149), some (some 150), some (some 151), some (some 152), some (some 153), some (some 154), some (some 155)]), (0, 10, []), (0, 10, []), (0, 10, []), (0, 10, []), (0, 10, []), (0, 100, []), (0, 3, []), (0, 36, []), (3, 9, [none, some (some 157), some (some 158), some (some 159), some (some 160), some (some 161), some (some 162), some (some 163), some (some 164)]), (0, 10, []), (0, 10, []), (0, 10, []), (0, 10, []), (0, 10, []), (0, 100, []), (0, 3, []), (0, 36, []), (3, 9, [none, some (some 166), some (some 167), some (some 168), some (some 169), some (some 170), some (some 171), some (some 172), some (some 173)]), (0, 10, []), (0, 10, []), (0, 10, []), (0, 10, []), (0, 10, []), (0, 100, []), (0, 3, []), (0, 36, []), (3, 9, [none, some (some 175), some (some 176), some (some 177), some (some 178), some (some 179), some (some 180), some (some 181), some (some 182)]), (0, 10, []), (0, 10, []), (0, 10, []), (0, 10, []), (0, 10, []), (0, 100, []), (0, 3, []), (0, 36, []), (3, 9, [none, some (some 184), some (some 185), some (some 186), some (some 187), some (some 188), some (some 189), some (some 190), some (some 191)]), (0, 10, []), (0, 10, []), (0, 10, []), (0, 10, []), (0, 10, []), (0, 100, []), (0, 3, []), (0, 36, []), (5, 2, [some (some 193), some (some 201)]), (7, 10, [some (some 194), some (some 196), some (some 198), some (some 199), some (some 200), none, none, none, none, none]), (8, 3, [some (some 195), none, none]), (0, 10, []), (8, 3, [some (some 197), none, none]), (0, 10, []), (0, 10, []), (0, 121, []), (0, 10, []), (0, 100, []), (10, 4, [some (some 203), some (some 204), none, none]), (0, 10, []), (0, 10, []), (4, 5, [some (some 206), some (some 207), none, none, none]), (0, 4, []), (0, 4, []), (2, 4, [some (some 209), some (some 211), some (some 213), some (some 215)]), (9, 3, [none, none, some (some 210)]), (0, 30, []), (9, 3, [none, none, some (some 212)]), (0, 30, []), (9, 3, [none, none, some (some 214)]), (0, 30, []), (9, 3, [none, none, some (some 216)]), (0, 30, []), (12, 29, [some (some 218), some (some 219), none, none, some (some 220), some (some 221), some (some 222), some (some 223), none, none, none, none, none, none, none, none, some (some 224), none, some (some 225), none, some (some 226), some (some 227), some (some 228), none, none, none, none, none, some (some 229)]), (0, 390, []), (0, 7800, []), (0, 4, []), (0, 4, []), (0, 120, []), (0, 4, []), (0, 121, []), (0, 10, []), (0, 100, []), (0, 10, []), (0, 10, []), (0, 30, [])]
def kd (k : Nat) : Nat := (tkF.getD k (99, 0, [])).1
def ln (k : Nat) : Nat := (tkF.getD k (99, 0, [])).2.1
def rfq (k j : Nat) : Option (Option Nat) := (tkF.getD k (99, 0, [])).2.2.getD j none
def fld (k j : Nat) : Nat := ((rfq k j).getD none).getD 0
def nF (c : Nat) : Nat := [9, 5, 2, 3, 10, 3, 3, 4, 7, 29].getD c 0
def ftg (c j : Nat) : Nat := ([[100, 0, 0, 0, 0, 0, 0, 0, 0], [0, 0, 100, 100, 100], [7, 0], [1, 100, 100], [8, 8, 0, 0, 0, 100, 100, 100, 100, 100], [0, 100, 100], [100, 100, 0], [0, 0, 100, 100], [3, 6, 5, 10, 4, 2, 100], [0, 0, 100, 100, 0, 0, 0, 0, 100, 100, 100, 100, 100, 100, 100, 100, 0, 100, 0, 100, 0, 0, 0, 100, 100, 100, 100, 100, 0]].getD c []).getD j 100
theorem tkF_len : tkF.length = 230 := by decide +kernel
set_option maxRecDepth 100000 in
theorem tk_wfb : ((List.range 230).all fun k => (List.range 10).all fun c => !(kd k == c + 3) || (ln k == nF c && (List.range (nF c)).all fun j => if ftg c j = 100 then rfq k j == none else (rfq k j == some (some (fld k j)) && kd (fld k j) == ftg c j))) = true := by decide +kernel
theorem tk_wf (k : Nat) (hk : k < 230) (c : Nat) (hc : c < 10) (h : kd k = c + 3) : ln k = nF c ∧ ∀ j, j < nF c → (ftg c j = 100 → rfq k j = none) ∧ (ftg c j ≠ 100 → rfq k j = some (some (fld k j)) ∧ kd (fld k j) = ftg c j) := by
  have h1 := List.all_eq_true.mp (List.all_eq_true.mp tk_wfb k (List.mem_range.mpr hk)) c (List.mem_range.mpr hc)
  simp only [h, beq_self_eq_true, Bool.not_true, Bool.false_or, Bool.and_eq_true, beq_iff_eq] at h1
  refine ⟨h1.1, fun j hj => ?_⟩
  have h2 := List.all_eq_true.mp h1.2 j (List.mem_range.mpr hj)
  refine ⟨fun e => ?_, fun e => ?_⟩
  · rw [if_pos e] at h2
    exact eq_of_beq h2
  · rw [if_neg e] at h2
    simp only [Bool.and_eq_true, beq_iff_eq] at h2
    exact h2
theorem tk_lt {k : Nat} (h : kd k ≠ 99) : k < 230 := by
  refine Nat.lt_of_not_le (fun q => h ?_)
  unfold kd
  rw [List.getD_eq_getElem?_getD, List.getElem?_eq_none (by rw [tkF_len]; exact q)]
  rfl
theorem tk_at {k : Nat} (h : kd k ≠ 99) : tkF[k]? = some (kd k, ln k, (tkF.getD k (99, 0, [])).2.2) := by
  have hl : k < tkF.length := by rw [tkF_len]; exact tk_lt h
  unfold kd ln
  rw [List.getD_eq_getElem?_getD, List.getElem?_eq_getElem hl]
  rfl
theorem tk_arr {k : Nat} (h : kd k = 0) : tkF[k]? = some (0, ln k, (tkF.getD k (99, 0, [])).2.2) := by
  have := tk_at (k := k) (by omega)
  rwa [h] at this
theorem tk_obj {k c : Nat} (h : kd k = c + 3) (hc : c < 10) : tkF[k]? = some (c + 3, nF c, (tkF.getD k (99, 0, [])).2.2) := by
  have h9 : kd k ≠ 99 := by omega
  have := tk_at h9
  rwa [h, (tk_wf k (tk_lt h9) c hc h).1] at this
theorem tk_fk {k c j t : Nat} (h : kd k = c + 3) (hc : c < 10) (hj : j < nF c) (hf : ftg c j = t) (ht : t ≠ 100) : kd (fld k j) = t := by
  have h9 : kd k ≠ 99 := by omega
  rw [(((tk_wf k (tk_lt h9) c hc h).2 j hj).2 (by omega)).2, hf]
section
variable {E : tkE} {X : tkX} {cc : ByteArray} {nL n w : Nat} {own : String} {ret : Option FieldType} {pc : Nat} {al : List (Nat × Value)} {st : List Value} {h : tkH} {Z : State → Prop}
theorem tk_gi {c N idx j k : Nat} {C : String} {Tb : u_T} (G : tkG E X cc nL own ret) (hC : tkC c C Tb N) (hd : decode cc pc = .ok (.getfield idx, 3)) (hw : Cond.fieldLink own idx (Tb j).1 (Tb j).2.1 (Tb j).2.2.1 ∈ tkTb) (ho : kd k = c + 3) (hg : nF c = N ∧ c < 10 ∧ j < N ∧ ftg c j = 100) (kk : tkV E X nL n w Z (pc + 3) al (.int (h k j) :: st) tkF h) : tkV E X nL n w Z pc al (.ref (e_ad E k) :: st) tkF h := by
  obtain ⟨rfl, hc, hj, hf⟩ := hg
  exact tk_getf (r := none) G hC hd hw hj (tk_obj ho hc) (((tk_wf k (tk_lt (by omega)) c hc ho).2 j hj).1 hf) kk
theorem tk_gr {c N idx j k : Nat} {C : String} {Tb : u_T} (G : tkG E X cc nL own ret) (hC : tkC c C Tb N) (hd : decode cc pc = .ok (.getfield idx, 3)) (hw : Cond.fieldLink own idx (Tb j).1 (Tb j).2.1 (Tb j).2.2.1 ∈ tkTb) (ho : kd k = c + 3) (hg : nF c = N ∧ c < 10 ∧ j < N ∧ ftg c j ≠ 100) (kk : tkV E X nL n w Z (pc + 3) al (.ref (e_ad E (fld k j)) :: st) tkF h) : tkV E X nL n w Z pc al (.ref (e_ad E k) :: st) tkF h := by
  obtain ⟨rfl, hc, hj, hf⟩ := hg
  exact tk_getf (r := some (some (fld k j))) G hC hd hw hj (tk_obj ho hc) (((tk_wf k (tk_lt (by omega)) c hc ho).2 j hj).2 hf).1 kk
theorem tk_pi {c N idx j k : Nat} {C : String} {Tb : u_T} {v : Int32} (G : tkG E X cc nL own ret) (hC : tkC c C Tb N) (hd : decode cc pc = .ok (.putfield idx, 3)) (hw : Cond.fieldLink own idx (Tb j).1 (Tb j).2.1 (Tb j).2.2.1 ∈ tkTb) (ho : kd k = c + 3) (hg : nF c = N ∧ c < 10 ∧ j < N ∧ ftg c j = 100 ∧ (Tb j).2.2.2 = false ∧ parseFieldDescriptor (Tb j).2.2.1 = some .int) (kk : tkV E X nL n w Z (pc + 3) al st tkF (tkup h k j v)) : tkV E X nL n w Z pc al (.int v :: .ref (e_ad E k) :: st) tkF h := by
  obtain ⟨rfl, hc, hj, hf, h1, h2⟩ := hg
  exact tk_putf G hC hd hw hj (tk_obj ho hc) (((tk_wf k (tk_lt (by omega)) c hc ho).2 j hj).1 hf) h1 h2 rfl rfl kk
theorem tk_pz {c N idx j k : Nat} {C : String} {Tb : u_T} {v : Int32} (G : tkG E X cc nL own ret) (hC : tkC c C Tb N) (hd : decode cc pc = .ok (.putfield idx, 3)) (hw : Cond.fieldLink own idx (Tb j).1 (Tb j).2.1 (Tb j).2.2.1 ∈ tkTb) (ho : kd k = c + 3) (hg : nF c = N ∧ c < 10 ∧ j < N ∧ ftg c j = 100 ∧ (Tb j).2.2.2 = false ∧ parseFieldDescriptor (Tb j).2.2.1 = some .boolean) (hv : v = 0 ∨ v = 1) (kk : tkV E X nL n w Z (pc + 3) al st tkF (tkup h k j v)) : tkV E X nL n w Z pc al (.int v :: .ref (e_ad E k) :: st) tkF h := by
  obtain ⟨rfl, hc, hj, hf, h1, h2⟩ := hg
  exact tk_putf G hC hd hw hj (tk_obj ho hc) (((tk_wf k (tk_lt (by omega)) c hc ho).2 j hj).1 hf) h1 h2 (by rcases hv with rfl | rfl <;> rfl) (by rcases hv with rfl | rfl <;> rfl) kk
end
/-! what a call computes, as an Option (none: out of its bounds, or out of fuel) -/
def rdI (h : tkH) (a : Nat) (i : Int32) : Option Int32 := if i < 0 ∨ ln a ≤ i.toNatClampNeg then none else some (h a i.toNatClampNeg)
def wrI (h : tkH) (a : Nat) (i x : Int32) : Option tkH := if i < 0 ∨ ln a ≤ i.toNatClampNeg then none else some (tkup h a i.toNatClampNeg x)
def rdC (i : Int32) : Option Int32 := if i < 0 ∨ 24 ≤ i.toNatClampNeg then none else some (tkCv i.toNatClampNeg)
def rdA (t a : Nat) (i : Int32) : Option Nat := if i < 0 ∨ ln a ≤ i.toNatClampNeg then none else match rfq a i.toNatClampNeg with
  | some (some k) => if kd k = t then some k else none
  | _ => none
def bz (v : Int32) : Option Int32 := if v = 0 ∨ v = 1 then some v else none
def dvI (x y : Int32) : Option Int32 := if y = 0 then none else some (x / y)
def rmI (x y : Int32) : Option Int32 := if y = 0 then none else some (x - x / y * y)
def gk (k t : Nat) : Option Unit := if kd k = t then some () else none
def cpI (h : tkH) (src : Nat) (sp : Int32) (dst : Nat) (dp m : Int32) : Option tkH := if sp < 0 ∨ dp < 0 ∨ m < 0 ∨ ln src < sp.toNatClampNeg + m.toNatClampNeg ∨ ln dst < dp.toNatClampNeg + m.toNatClampNeg then none else some (tkcp h src sp.toNatClampNeg dst dp.toNatClampNeg m.toNatClampNeg)
theorem FU0x : ∃ n : Nat, 100000 ≤ n := ⟨100000, Nat.le_refl _⟩
noncomputable def FU0 : Nat := Classical.choose FU0x
theorem FU0_ge : 100000 ≤ FU0 := Classical.choose_spec FU0x
/-- fuel: more than any loop needs; its size is hidden, ten steps show -/
noncomputable def FU : Nat := FU0 + 10
def lq0 {ρ : Type} (body : (tkH → Option ρ) → tkH → Option ρ) : Nat → tkH → Option ρ
  | 0, _ => none
  | n + 1, h => body (lq0 body n) h
def lq1 {ρ : Type} (body : (tkH → Int32 → Option ρ) → tkH → Int32 → Option ρ) : Nat → tkH → Int32 → Option ρ
  | 0, _, _ => none
  | n + 1, h, x0 => body (lq1 body n) h x0
def lq2 {ρ : Type} (body : (tkH → Int32 → Int32 → Option ρ) → tkH → Int32 → Int32 → Option ρ) : Nat → tkH → Int32 → Int32 → Option ρ
  | 0, _, _, _ => none
  | n + 1, h, x0, x1 => body (lq2 body n) h x0 x1
def lq3 {ρ : Type} (body : (tkH → Int32 → Int32 → Int32 → Option ρ) → tkH → Int32 → Int32 → Int32 → Option ρ) : Nat → tkH → Int32 → Int32 → Int32 → Option ρ
  | 0, _, _, _, _ => none
  | n + 1, h, x0, x1, x2 => body (lq3 body n) h x0 x1 x2
def lq4 {ρ : Type} (body : (tkH → Int32 → Int32 → Int32 → Int32 → Option ρ) → tkH → Int32 → Int32 → Int32 → Int32 → Option ρ) : Nat → tkH → Int32 → Int32 → Int32 → Int32 → Option ρ
  | 0, _, _, _, _, _ => none
  | n + 1, h, x0, x1, x2, x3 => body (lq4 body n) h x0 x1 x2 x3
def lq5 {ρ : Type} (body : (tkH → Int32 → Int32 → Int32 → Int32 → Int32 → Option ρ) → tkH → Int32 → Int32 → Int32 → Int32 → Int32 → Option ρ) : Nat → tkH → Int32 → Int32 → Int32 → Int32 → Int32 → Option ρ
  | 0, _, _, _, _, _, _ => none
  | n + 1, h, x0, x1, x2, x3, x4 => body (lq5 body n) h x0 x1 x2 x3 x4
def lq6 {ρ : Type} (body : (tkH → Int32 → Int32 → Int32 → Int32 → Int32 → Int32 → Option ρ) → tkH → Int32 → Int32 → Int32 → Int32 → Int32 → Int32 → Option ρ) : Nat → tkH → Int32 → Int32 → Int32 → Int32 → Int32 → Int32 → Option ρ
  | 0, _, _, _, _, _, _, _ => none
  | n + 1, h, x0, x1, x2, x3, x4, x5 => body (lq6 body n) h x0 x1 x2 x3 x4 x5
def tkS {ρ : Type} (E : tkE) (X : tkX) (nL n w : Nat) (Zf : ρ → State → Prop) (pc : Nat) (al : List (Nat × Value)) (st : List Value) (h : tkH) (o : Option ρ) : Prop := ∀ x, o = some x → tkV E X nL n w (Zf x) pc al st tkF h
abbrev tkZi (E : tkE) (X : tkX) : Int32 × tkH → State → Prop := fun x => tkZ E X tkF (some (.int x.1)) x.2
abbrev tkZv (E : tkE) (X : tkX) : tkH → State → Prop := fun x => tkZ E X tkF none x
abbrev tkZa (E : tkE) (X : tkX) : Nat × tkH → State → Prop := fun x => tkZ E X tkF (some (.ref (e_ad E x.1))) x.2
section
variable {E : tkE} {X : tkX} {cc : ByteArray} {nL n w : Nat} {own : String} {ret : Option FieldType} {pc : Nat} {al : List (Nat × Value)} {st : List Value} {h : tkH} {ρ : Type} {Zf : ρ → State → Prop}
theorem s_v {pc' : Nat} {al' : List (Nat × Value)} {st' : List Value} {h' : tkH} {o : Option ρ} (f : ∀ Z, tkV E X nL n w Z pc' al' st' tkF h' → tkV E X nL n w Z pc al st tkF h) (k : tkS E X nL n w Zf pc' al' st' h' o) : tkS E X nL n w Zf pc al st h o := fun x hx => f _ (k x hx)
theorem s_sub {al' : List (Nat × Value)} {o : Option ρ} (ks : List Nat) (e : lv_pick al ks = al') (k : tkS E X nL n w Zf pc al' st h o) : tkS E X nL n w Zf pc al st h o := fun x hx => tkV_mono ks e (k x hx)
theorem s_bind {α : Type} {o1 : Option α} {o : α → Option ρ} (f : ∀ a, o1 = some a → tkS E X nL n w Zf pc al st h (o a)) : tkS E X nL n w Zf pc al st h (o1.bind o) := by
  intro x hx
  cases e : o1 with
  | none => rw [e] at hx; cases hx
  | some a => rw [e] at hx; exact f a e x hx
theorem s_none : tkS E X nL n w Zf pc al st h none := fun _ hx => by cases hx
theorem vp_of {i : Int32} {N : Nat} (h : ¬ (i < 0 ∨ N ≤ i.toNatClampNeg)) : vp_in i N := h
theorem s_iald {a : Nat} {i : Int32} {o : Int32 → Option ρ} (G : tkG E X cc nL own ret) (hd : decode cc pc = .ok (.iaload, 1)) (ha : kd a = 0) (k : ∀ v, tkS E X nL n w Zf (pc + 1) al (.int v :: st) h (o v)) : tkS E X nL n w Zf pc al (.int i :: .ref (e_ad E a) :: st) h ((rdI h a i).bind o) := by
  refine s_bind (fun v e => ?_)
  unfold rdI at e
  split at e
  · cases e
  · next hin =>
    cases e
    exact fun x hx => tk_iald G hd (tk_arr ha) hin (k _ x hx)
theorem s_iast {a : Nat} {i y : Int32} {o : tkH → Option ρ} (G : tkG E X cc nL own ret) (hd : decode cc pc = .ok (.iastore, 1)) (ha : kd a = 0) (k : ∀ h', tkS E X nL n w Zf (pc + 1) al st h' (o h')) : tkS E X nL n w Zf pc al (.int y :: .int i :: .ref (e_ad E a) :: st) h ((wrI h a i y).bind o) := by
  refine s_bind (fun v e => ?_)
  unfold wrI at e
  split at e
  · cases e
  · next hin =>
    cases e
    exact fun x hx => tk_iast G hd (tk_arr ha) hin (k _ x hx)
theorem s_cald {i : Int32} {o : Int32 → Option ρ} (G : tkG E X cc nL own ret) (hd : decode cc pc = .ok (.iaload, 1)) (k : ∀ v, tkS E X nL n w Zf (pc + 1) al (.int v :: st) h (o v)) : tkS E X nL n w Zf pc al (.int i :: .ref (e_tC E) :: st) h ((rdC i).bind o) := by
  refine s_bind (fun v e => ?_)
  unfold rdC at e
  split at e
  · cases e
  · next hin =>
    cases e
    exact fun x hx => tk_cald G hd hin (k _ x hx)
theorem s_aaldB {a : Nat} {i : Int32} {o : Nat → Option ρ} (G : tkG E X cc nL own ret) (hd : decode cc pc = .ok (.aaload, 1)) (ha : kd a = 1) (k : ∀ b, kd b = 3 → tkS E X nL n w Zf (pc + 1) al (.ref (e_ad E b) :: st) h (o b)) : tkS E X nL n w Zf pc al (.int i :: .ref (e_ad E a) :: st) h ((rdA 3 a i).bind o) := by
  refine s_bind (fun v e => ?_)
  unfold rdA at e
  split at e
  · cases e
  · next hin =>
    split at e
    · next k0 hk0 =>
      split at e
      · next hk1 =>
        cases e
        have hA := tk_at (k := a) (by omega)
        rw [ha] at hA
        exact fun x hx => tk_aaldB G hd hA hin hk0 (k _ hk1 x hx)
      · cases e
    · cases e
theorem s_aaldS {a : Nat} {i : Int32} {o : Nat → Option ρ} (G : tkG E X cc nL own ret) (hd : decode cc pc = .ok (.aaload, 1)) (ha : kd a = 2) (k : ∀ b, kd b = 9 → tkS E X nL n w Zf (pc + 1) al (.ref (e_ad E b) :: st) h (o b)) : tkS E X nL n w Zf pc al (.int i :: .ref (e_ad E a) :: st) h ((rdA 9 a i).bind o) := by
  refine s_bind (fun v e => ?_)
  unfold rdA at e
  split at e
  · cases e
  · next hin =>
    split at e
    · next k0 hk0 =>
      split at e
      · next hk1 =>
        cases e
        have hA := tk_at (k := a) (by omega)
        rw [ha] at hA
        exact fun x hx => tk_aaldS G hd hA hin hk0 (k _ hk1 x hx)
      · cases e
    · cases e
theorem s_idiv {x y : Int32} {o : Int32 → Option ρ} (G : tkG E X cc nL own ret) (hd : decode cc pc = .ok (.idiv, 1)) (k : ∀ v, tkS E X nL n w Zf (pc + 1) al (.int v :: st) h (o v)) : tkS E X nL n w Zf pc al (.int y :: .int x :: st) h ((dvI x y).bind o) := by
  refine s_bind (fun v e => ?_)
  unfold dvI at e
  split at e
  · cases e
  · next hin =>
    cases e
    exact fun x hx => tk_idiv G hd hin (k _ x hx)
theorem s_irem {x y : Int32} {o : Int32 → Option ρ} (G : tkG E X cc nL own ret) (hd : decode cc pc = .ok (.irem, 1)) (k : ∀ v, tkS E X nL n w Zf (pc + 1) al (.int v :: st) h (o v)) : tkS E X nL n w Zf pc al (.int y :: .int x :: st) h ((rmI x y).bind o) := by
  refine s_bind (fun v e => ?_)
  unfold rmI at e
  split at e
  · cases e
  · next hin =>
    cases e
    exact fun x hx => tk_irem G hd hin (k _ x hx)
theorem s_alen {a : Nat} {o : Option ρ} (G : tkG E X cc nL own ret) (hd : decode cc pc = .ok (.arraylength, 1)) (ha : kd a = 0) (k : tkS E X nL n w Zf (pc + 1) al (.int (nI (ln a)) :: st) h o) : tkS E X nL n w Zf pc al (.ref (e_ad E a) :: st) h o := fun x hx => tk_alen G hd (tk_arr ha) (k x hx)
theorem s_pz {c N idx j b : Nat} {C : String} {Tb : u_T} {v : Int32} {o : Int32 → Option ρ} (G : tkG E X cc nL own ret) (hC : tkC c C Tb N) (hd : decode cc pc = .ok (.putfield idx, 3)) (hw : Cond.fieldLink own idx (Tb j).1 (Tb j).2.1 (Tb j).2.2.1 ∈ tkTb) (ho : kd b = c + 3) (hg : nF c = N ∧ c < 10 ∧ j < N ∧ ftg c j = 100 ∧ (Tb j).2.2.2 = false ∧ parseFieldDescriptor (Tb j).2.2.1 = some .boolean) (k : ∀ u, tkS E X nL n w Zf (pc + 3) al st (tkup h b j u) (o u)) : tkS E X nL n w Zf pc al (.int v :: .ref (e_ad E b) :: st) h ((bz v).bind o) := by
  refine s_bind (fun u e => ?_)
  unfold bz at e
  split at e
  · next hv =>
    cases e
    exact fun x hx => tk_pz G hC hd hw ho hg hv (k _ x hx)
  · cases e
theorem s_gk {b t : Nat} {o : Option ρ} (k : kd b = t → tkS E X nL n w Zf pc al st h o) : tkS E X nL n w Zf pc al st h ((gk b t).bind fun _ => o) := by
  refine s_bind (fun u e => ?_)
  unfold gk at e
  split at e
  · next hv => exact k hv
  · cases e
theorem s_copy {idx a b : Nat} {sp dp m : Int32} {o : tkH → Option ρ} (G : tkG E X cc nL own ret) (hd : decode cc pc = .ok (.invokestatic idx, 3)) (hw : Cond.methodLink own idx arraycopyName ∈ tkTb) (ha : kd a = 0) (hb : kd b = 0) (hR : 1 ≤ (x_R X).frames ∧ (st.map fun v => v.category).sum + (nativeFrameWords "java/lang/System" "arraycopy" 5 + 11) ≤ (x_R X).locals) (k : ∀ h', tkS E X nL n w Zf (pc + 3) al st h' (o h')) : tkS E X nL n w Zf pc al (.int m :: .int dp :: .ref (e_ad E b) :: .int sp :: .ref (e_ad E a) :: st) h ((cpI h a sp b dp m).bind o) := by
  refine s_bind (fun v e => ?_)
  unfold cpI at e
  split at e
  · cases e
  · next hin =>
    cases e
    simp only [not_or, Nat.not_lt] at hin
    exact fun x hx => tk_copy G hd hw (tk_arr ha) (tk_arr hb) hR hin.1 hin.2.1 hin.2.2.1 hin.2.2.2.1 hin.2.2.2.2 (k _ x hx)
theorem s_iret {v : Int32} (G : tkG E X cc nL own (some .int)) (hd : decode cc pc = .ok (.ireturn, 1)) : tkS E X nL 0 0 (tkZi E X) pc al [.int v] h (some (v, h)) := fun x hx => by cases hx; exact tk_iret G hd
theorem s_zret {v : Int32} (G : tkG E X cc nL own (some .boolean)) (hd : decode cc pc = .ok (.ireturn, 1)) (hv : v = 0 ∨ v = 1) : tkS E X nL 0 0 (tkZi E X) pc al [.int v] h (some (v, h)) := fun x hx => by cases hx; exact tk_zret G hd hv
theorem s_zretG {v : Int32} (G : tkG E X cc nL own (some .boolean)) (hd : decode cc pc = .ok (.ireturn, 1)) : tkS E X nL 0 0 (tkZi E X) pc al [.int v] h ((bz v).bind fun u => some (u, h)) := by
  refine s_bind (fun u e => ?_)
  unfold bz at e
  split at e
  · next hv =>
    cases e
    exact s_zret G hd hv
  · cases e
theorem s_vret (G : tkG E X cc nL own none) (hd : decode cc pc = .ok (.return_, 1)) : tkS E X nL 0 0 (tkZv E X) pc al [] h (some h) := fun x hx => by cases hx; exact tk_vret G hd
theorem s_aret {a : Nat} {C : String} (G : tkG E X cc nL own (some (.object C))) (hd : decode cc pc = .ok (.areturn, 1)) : tkS E X nL 0 0 (tkZa E X) pc al [.ref (e_ad E a)] h (some (a, h)) := fun x hx => by cases hx; exact tk_aret G hd
theorem s_if_eq {y : Int32} {off : Int} {tgt : Nat} {o1 o2 : Option ρ} (G : tkG E X cc nL own ret) (hd : decode cc pc = .ok (.ifCond .eq off, 3)) (ht : (pc : Int) + off = (tgt : Int)) (k1 : y = 0 → tkS E X nL n w Zf tgt al st h o1) (k2 : ¬ y = 0 → tkS E X nL n w Zf (pc + 3) al st h o2) : tkS E X nL n w Zf pc al (.int y :: st) h (if y = 0 then o1 else o2) := fun x hx => tk_if_eq G hd ht (fun q => k1 q x (by rw [if_pos q] at hx; exact hx)) (fun q => k2 q x (by rw [if_neg q] at hx; exact hx))
theorem s_if_lt {y : Int32} {off : Int} {tgt : Nat} {o1 o2 : Option ρ} (G : tkG E X cc nL own ret) (hd : decode cc pc = .ok (.ifCond .lt off, 3)) (ht : (pc : Int) + off = (tgt : Int)) (k1 : y < 0 → tkS E X nL n w Zf tgt al st h o1) (k2 : ¬ y < 0 → tkS E X nL n w Zf (pc + 3) al st h o2) : tkS E X nL n w Zf pc al (.int y :: st) h (if y < 0 then o1 else o2) := fun x hx => tk_if_lt G hd ht (fun q => k1 q x (by rw [if_pos q] at hx; exact hx)) (fun q => k2 q x (by rw [if_neg q] at hx; exact hx))
theorem s_if_le {y : Int32} {off : Int} {tgt : Nat} {o1 o2 : Option ρ} (G : tkG E X cc nL own ret) (hd : decode cc pc = .ok (.ifCond .le off, 3)) (ht : (pc : Int) + off = (tgt : Int)) (k1 : y ≤ 0 → tkS E X nL n w Zf tgt al st h o1) (k2 : ¬ y ≤ 0 → tkS E X nL n w Zf (pc + 3) al st h o2) : tkS E X nL n w Zf pc al (.int y :: st) h (if y ≤ 0 then o1 else o2) := fun x hx => tk_if_le G hd ht (fun q => k1 q x (by rw [if_pos q] at hx; exact hx)) (fun q => k2 q x (by rw [if_neg q] at hx; exact hx))
theorem s_if_gt {y : Int32} {off : Int} {tgt : Nat} {o1 o2 : Option ρ} (G : tkG E X cc nL own ret) (hd : decode cc pc = .ok (.ifCond .gt off, 3)) (ht : (pc : Int) + off = (tgt : Int)) (k1 : 0 < y → tkS E X nL n w Zf tgt al st h o1) (k2 : ¬ 0 < y → tkS E X nL n w Zf (pc + 3) al st h o2) : tkS E X nL n w Zf pc al (.int y :: st) h (if 0 < y then o1 else o2) := fun x hx => tk_if_gt G hd ht (fun q => k1 q x (by rw [if_pos q] at hx; exact hx)) (fun q => k2 q x (by rw [if_neg q] at hx; exact hx))
theorem s_if_ge {y : Int32} {off : Int} {tgt : Nat} {o1 o2 : Option ρ} (G : tkG E X cc nL own ret) (hd : decode cc pc = .ok (.ifCond .ge off, 3)) (ht : (pc : Int) + off = (tgt : Int)) (k1 : 0 ≤ y → tkS E X nL n w Zf tgt al st h o1) (k2 : ¬ 0 ≤ y → tkS E X nL n w Zf (pc + 3) al st h o2) : tkS E X nL n w Zf pc al (.int y :: st) h (if 0 ≤ y then o1 else o2) := fun x hx => tk_if_ge G hd ht (fun q => k1 q x (by rw [if_pos q] at hx; exact hx)) (fun q => k2 q x (by rw [if_neg q] at hx; exact hx))
theorem s_if_ne {y : Int32} {off : Int} {tgt : Nat} {o1 o2 : Option ρ} (G : tkG E X cc nL own ret) (hd : decode cc pc = .ok (.ifCond .ne off, 3)) (ht : (pc : Int) + off = (tgt : Int)) (k1 : y = 0 → tkS E X nL n w Zf (pc + 3) al st h o1) (k2 : ¬ y = 0 → tkS E X nL n w Zf tgt al st h o2) : tkS E X nL n w Zf pc al (.int y :: st) h (if y = 0 then o1 else o2) := fun x hx => tk_if_ne G hd ht (fun q => k2 q x (by rw [if_neg q] at hx; exact hx)) (fun q => k1 q x (by rw [if_pos q] at hx; exact hx))
theorem s_icmp_eq {y z : Int32} {off : Int} {tgt : Nat} {o1 o2 : Option ρ} (G : tkG E X cc nL own ret) (hd : decode cc pc = .ok (.if_icmp .eq off, 3)) (ht : (pc : Int) + off = (tgt : Int)) (k1 : y = z → tkS E X nL n w Zf tgt al st h o1) (k2 : ¬ y = z → tkS E X nL n w Zf (pc + 3) al st h o2) : tkS E X nL n w Zf pc al (.int z :: .int y :: st) h (if y = z then o1 else o2) := fun x hx => tk_icmp_eq G hd ht (fun q => k1 q x (by rw [if_pos q] at hx; exact hx)) (fun q => k2 q x (by rw [if_neg q] at hx; exact hx))
theorem s_icmp_lt {y z : Int32} {off : Int} {tgt : Nat} {o1 o2 : Option ρ} (G : tkG E X cc nL own ret) (hd : decode cc pc = .ok (.if_icmp .lt off, 3)) (ht : (pc : Int) + off = (tgt : Int)) (k1 : y < z → tkS E X nL n w Zf tgt al st h o1) (k2 : ¬ y < z → tkS E X nL n w Zf (pc + 3) al st h o2) : tkS E X nL n w Zf pc al (.int z :: .int y :: st) h (if y < z then o1 else o2) := fun x hx => tk_icmp_lt G hd ht (fun q => k1 q x (by rw [if_pos q] at hx; exact hx)) (fun q => k2 q x (by rw [if_neg q] at hx; exact hx))
theorem s_icmp_le {y z : Int32} {off : Int} {tgt : Nat} {o1 o2 : Option ρ} (G : tkG E X cc nL own ret) (hd : decode cc pc = .ok (.if_icmp .le off, 3)) (ht : (pc : Int) + off = (tgt : Int)) (k1 : y ≤ z → tkS E X nL n w Zf tgt al st h o1) (k2 : ¬ y ≤ z → tkS E X nL n w Zf (pc + 3) al st h o2) : tkS E X nL n w Zf pc al (.int z :: .int y :: st) h (if y ≤ z then o1 else o2) := fun x hx => tk_icmp_le G hd ht (fun q => k1 q x (by rw [if_pos q] at hx; exact hx)) (fun q => k2 q x (by rw [if_neg q] at hx; exact hx))
theorem s_icmp_gt {y z : Int32} {off : Int} {tgt : Nat} {o1 o2 : Option ρ} (G : tkG E X cc nL own ret) (hd : decode cc pc = .ok (.if_icmp .gt off, 3)) (ht : (pc : Int) + off = (tgt : Int)) (k1 : z < y → tkS E X nL n w Zf tgt al st h o1) (k2 : ¬ z < y → tkS E X nL n w Zf (pc + 3) al st h o2) : tkS E X nL n w Zf pc al (.int z :: .int y :: st) h (if z < y then o1 else o2) := fun x hx => tk_icmp_gt G hd ht (fun q => k1 q x (by rw [if_pos q] at hx; exact hx)) (fun q => k2 q x (by rw [if_neg q] at hx; exact hx))
theorem s_icmp_ge {y z : Int32} {off : Int} {tgt : Nat} {o1 o2 : Option ρ} (G : tkG E X cc nL own ret) (hd : decode cc pc = .ok (.if_icmp .ge off, 3)) (ht : (pc : Int) + off = (tgt : Int)) (k1 : z ≤ y → tkS E X nL n w Zf tgt al st h o1) (k2 : ¬ z ≤ y → tkS E X nL n w Zf (pc + 3) al st h o2) : tkS E X nL n w Zf pc al (.int z :: .int y :: st) h (if z ≤ y then o1 else o2) := fun x hx => tk_icmp_ge G hd ht (fun q => k1 q x (by rw [if_pos q] at hx; exact hx)) (fun q => k2 q x (by rw [if_neg q] at hx; exact hx))
theorem s_icmp_ne {y z : Int32} {off : Int} {tgt : Nat} {o1 o2 : Option ρ} (G : tkG E X cc nL own ret) (hd : decode cc pc = .ok (.if_icmp .ne off, 3)) (ht : (pc : Int) + off = (tgt : Int)) (k1 : y = z → tkS E X nL n w Zf (pc + 3) al st h o1) (k2 : ¬ y = z → tkS E X nL n w Zf tgt al st h o2) : tkS E X nL n w Zf pc al (.int z :: .int y :: st) h (if y = z then o1 else o2) := fun x hx => tk_icmp_ne G hd ht (fun q => k2 q x (by rw [if_neg q] at hx; exact hx)) (fun q => k1 q x (by rw [if_pos q] at hx; exact hx))
theorem s_callVI {y : MethodName} {bC : ByteArray} {nC k d idx c N b : Nat} {C : String} {Tb : u_T} {rC : Option FieldType} {As st0 : List Value} {o1 : Option (Int32 × tkH)} {o : Int32 × tkH → Option ρ} (G : tkG E X cc nL own ret) (hd : decode cc pc = .ok (.invokevirtual idx, 3)) (hY : tkY y bC nC rC k) (hw : Cond.methodLink own idx y ∈ tkTb) (hi : Cond.instanceMethod y ∈ tkTb) (hs : Cond.selects C y y ∈ tkTb) (hR : d + 1 ≤ (x_R X).frames ∧ 8 + (nC + 11) + 40 * d ≤ (x_R X).locals) (hC : tkC c C Tb N) (hb : kd b = c + 3) (hN : nF c = N ∧ c < 10) (hM : ∀ x, o1 = some x → tkM E y bC nC rC d tkF (.ref (e_ad E b) :: As) h (some (.int x.1)) (x.2)) (hn : As.length = k) (hst : st0 = As.reverse ++ .ref (e_ad E b) :: st) (hcat : (st.map fun v => v.category).sum ≤ 8) (hcell : n ≤ (x_R X).cells ∧ w ≤ (x_R X).slots) (kk : ∀ x, tkS E X nL n w Zf (pc + 3) al (.int x.1 :: st) (x.2) (o x)) : tkS E X nL n w Zf pc al st0 h (o1.bind o) := by
  obtain ⟨rfl, hc⟩ := hN
  exact s_bind (fun x e z hz => tk_callV G hd hY hw hi hs hR hC (tk_obj hb hc) (hM x e) hn hst hcat hcell (kk x z hz))
theorem s_callVV {y : MethodName} {bC : ByteArray} {nC k d idx c N b : Nat} {C : String} {Tb : u_T} {rC : Option FieldType} {As st0 : List Value} {o1 : Option (tkH)} {o : tkH → Option ρ} (G : tkG E X cc nL own ret) (hd : decode cc pc = .ok (.invokevirtual idx, 3)) (hY : tkY y bC nC rC k) (hw : Cond.methodLink own idx y ∈ tkTb) (hi : Cond.instanceMethod y ∈ tkTb) (hs : Cond.selects C y y ∈ tkTb) (hR : d + 1 ≤ (x_R X).frames ∧ 8 + (nC + 11) + 40 * d ≤ (x_R X).locals) (hC : tkC c C Tb N) (hb : kd b = c + 3) (hN : nF c = N ∧ c < 10) (hM : ∀ x, o1 = some x → tkM E y bC nC rC d tkF (.ref (e_ad E b) :: As) h (none) (x)) (hn : As.length = k) (hst : st0 = As.reverse ++ .ref (e_ad E b) :: st) (hcat : (st.map fun v => v.category).sum ≤ 8) (hcell : n ≤ (x_R X).cells ∧ w ≤ (x_R X).slots) (kk : ∀ x, tkS E X nL n w Zf (pc + 3) al (st) (x) (o x)) : tkS E X nL n w Zf pc al st0 h (o1.bind o) := by
  obtain ⟨rfl, hc⟩ := hN
  exact s_bind (fun x e z hz => tk_callV G hd hY hw hi hs hR hC (tk_obj hb hc) (hM x e) hn hst hcat hcell (kk x z hz))
theorem s_callVA {y : MethodName} {bC : ByteArray} {nC k d idx c N b : Nat} {C : String} {Tb : u_T} {rC : Option FieldType} {As st0 : List Value} {o1 : Option (Nat × tkH)} {o : Nat × tkH → Option ρ} (G : tkG E X cc nL own ret) (hd : decode cc pc = .ok (.invokevirtual idx, 3)) (hY : tkY y bC nC rC k) (hw : Cond.methodLink own idx y ∈ tkTb) (hi : Cond.instanceMethod y ∈ tkTb) (hs : Cond.selects C y y ∈ tkTb) (hR : d + 1 ≤ (x_R X).frames ∧ 8 + (nC + 11) + 40 * d ≤ (x_R X).locals) (hC : tkC c C Tb N) (hb : kd b = c + 3) (hN : nF c = N ∧ c < 10) (hM : ∀ x, o1 = some x → tkM E y bC nC rC d tkF (.ref (e_ad E b) :: As) h (some (.ref (e_ad E x.1))) (x.2)) (hn : As.length = k) (hst : st0 = As.reverse ++ .ref (e_ad E b) :: st) (hcat : (st.map fun v => v.category).sum ≤ 8) (hcell : n ≤ (x_R X).cells ∧ w ≤ (x_R X).slots) (kk : ∀ x, tkS E X nL n w Zf (pc + 3) al (.ref (e_ad E x.1) :: st) (x.2) (o x)) : tkS E X nL n w Zf pc al st0 h (o1.bind o) := by
  obtain ⟨rfl, hc⟩ := hN
  exact s_bind (fun x e z hz => tk_callV G hd hY hw hi hs hR hC (tk_obj hb hc) (hM x e) hn hst hcat hcell (kk x z hz))
theorem s_callSI {y : MethodName} {bC : ByteArray} {nC k d idx : Nat} {rC : Option FieldType} {As st0 : List Value} {o1 : Option (Int32 × tkH)} {o : Int32 × tkH → Option ρ} (G : tkG E X cc nL own ret) (hd : decode cc pc = .ok (.invokestatic idx, 3)) (hY : tkY y bC nC rC k) (hw : Cond.methodLink own idx y ∈ tkTb) (hi : Cond.static y ∈ tkTb) (hR : d + 1 ≤ (x_R X).frames ∧ 8 + (nC + 11) + 40 * d ≤ (x_R X).locals) (hM : ∀ x, o1 = some x → tkM E y bC nC rC d tkF As h (some (.int x.1)) (x.2)) (hn : As.length = k) (hst : st0 = As.reverse ++ st) (hcat : (st.map fun v => v.category).sum ≤ 8) (hcell : n ≤ (x_R X).cells ∧ w ≤ (x_R X).slots) (kk : ∀ x, tkS E X nL n w Zf (pc + 3) al (.int x.1 :: st) (x.2) (o x)) : tkS E X nL n w Zf pc al st0 h (o1.bind o) := s_bind (fun x e z hz => tk_callS G hd hY hw hi hR (hM x e) hn hst hcat hcell (kk x z hz))
theorem s_callSV {y : MethodName} {bC : ByteArray} {nC k d idx : Nat} {rC : Option FieldType} {As st0 : List Value} {o1 : Option (tkH)} {o : tkH → Option ρ} (G : tkG E X cc nL own ret) (hd : decode cc pc = .ok (.invokestatic idx, 3)) (hY : tkY y bC nC rC k) (hw : Cond.methodLink own idx y ∈ tkTb) (hi : Cond.static y ∈ tkTb) (hR : d + 1 ≤ (x_R X).frames ∧ 8 + (nC + 11) + 40 * d ≤ (x_R X).locals) (hM : ∀ x, o1 = some x → tkM E y bC nC rC d tkF As h (none) (x)) (hn : As.length = k) (hst : st0 = As.reverse ++ st) (hcat : (st.map fun v => v.category).sum ≤ 8) (hcell : n ≤ (x_R X).cells ∧ w ≤ (x_R X).slots) (kk : ∀ x, tkS E X nL n w Zf (pc + 3) al (st) (x) (o x)) : tkS E X nL n w Zf pc al st0 h (o1.bind o) := s_bind (fun x e z hz => tk_callS G hd hY hw hi hR (hM x e) hn hst hcat hcell (kk x z hz))
theorem s_callSA {y : MethodName} {bC : ByteArray} {nC k d idx : Nat} {rC : Option FieldType} {As st0 : List Value} {o1 : Option (Nat × tkH)} {o : Nat × tkH → Option ρ} (G : tkG E X cc nL own ret) (hd : decode cc pc = .ok (.invokestatic idx, 3)) (hY : tkY y bC nC rC k) (hw : Cond.methodLink own idx y ∈ tkTb) (hi : Cond.static y ∈ tkTb) (hR : d + 1 ≤ (x_R X).frames ∧ 8 + (nC + 11) + 40 * d ≤ (x_R X).locals) (hM : ∀ x, o1 = some x → tkM E y bC nC rC d tkF As h (some (.ref (e_ad E x.1))) (x.2)) (hn : As.length = k) (hst : st0 = As.reverse ++ st) (hcat : (st.map fun v => v.category).sum ≤ 8) (hcell : n ≤ (x_R X).cells ∧ w ≤ (x_R X).slots) (kk : ∀ x, tkS E X nL n w Zf (pc + 3) al (.ref (e_ad E x.1) :: st) (x.2) (o x)) : tkS E X nL n w Zf pc al st0 h (o1.bind o) := s_bind (fun x e z hz => tk_callS G hd hY hw hi hR (hM x e) hn hst hcat hcell (kk x z hz))
theorem s_callSNI {y : MethodName} {bC : ByteArray} {nC k d idx : Nat} {hst0 : String} {rC : Option FieldType} {As st0 : List Value} {o1 : Option (Int32 × tkH)} {o : Int32 × tkH → Option ρ} (G : tkG E X cc nL own ret) (hd : decode cc pc = .ok (.invokestatic idx, 3)) (hY : tkY y bC nC rC k) (hw : Cond.methodLinkNest own idx y hst0 ∈ lw_tbl) (hi : Cond.static y ∈ tkTb) (hR : d + 1 ≤ (x_R X).frames ∧ 8 + (nC + 11) + 40 * d ≤ (x_R X).locals) (hM : ∀ x, o1 = some x → tkM E y bC nC rC d tkF As h (some (.int x.1)) (x.2)) (hn : As.length = k) (hst : st0 = As.reverse ++ st) (hcat : (st.map fun v => v.category).sum ≤ 8) (hcell : n ≤ (x_R X).cells ∧ w ≤ (x_R X).slots) (kk : ∀ x, tkS E X nL n w Zf (pc + 3) al (.int x.1 :: st) (x.2) (o x)) : tkS E X nL n w Zf pc al st0 h (o1.bind o) := s_bind (fun x e z hz => tk_callSN G hd hY hw hi hR (hM x e) hn hst hcat hcell (kk x z hz))
theorem s_callSNV {y : MethodName} {bC : ByteArray} {nC k d idx : Nat} {hst0 : String} {rC : Option FieldType} {As st0 : List Value} {o1 : Option (tkH)} {o : tkH → Option ρ} (G : tkG E X cc nL own ret) (hd : decode cc pc = .ok (.invokestatic idx, 3)) (hY : tkY y bC nC rC k) (hw : Cond.methodLinkNest own idx y hst0 ∈ lw_tbl) (hi : Cond.static y ∈ tkTb) (hR : d + 1 ≤ (x_R X).frames ∧ 8 + (nC + 11) + 40 * d ≤ (x_R X).locals) (hM : ∀ x, o1 = some x → tkM E y bC nC rC d tkF As h (none) (x)) (hn : As.length = k) (hst : st0 = As.reverse ++ st) (hcat : (st.map fun v => v.category).sum ≤ 8) (hcell : n ≤ (x_R X).cells ∧ w ≤ (x_R X).slots) (kk : ∀ x, tkS E X nL n w Zf (pc + 3) al (st) (x) (o x)) : tkS E X nL n w Zf pc al st0 h (o1.bind o) := s_bind (fun x e z hz => tk_callSN G hd hY hw hi hR (hM x e) hn hst hcat hcell (kk x z hz))
theorem s_callSNA {y : MethodName} {bC : ByteArray} {nC k d idx : Nat} {hst0 : String} {rC : Option FieldType} {As st0 : List Value} {o1 : Option (Nat × tkH)} {o : Nat × tkH → Option ρ} (G : tkG E X cc nL own ret) (hd : decode cc pc = .ok (.invokestatic idx, 3)) (hY : tkY y bC nC rC k) (hw : Cond.methodLinkNest own idx y hst0 ∈ lw_tbl) (hi : Cond.static y ∈ tkTb) (hR : d + 1 ≤ (x_R X).frames ∧ 8 + (nC + 11) + 40 * d ≤ (x_R X).locals) (hM : ∀ x, o1 = some x → tkM E y bC nC rC d tkF As h (some (.ref (e_ad E x.1))) (x.2)) (hn : As.length = k) (hst : st0 = As.reverse ++ st) (hcat : (st.map fun v => v.category).sum ≤ 8) (hcell : n ≤ (x_R X).cells ∧ w ≤ (x_R X).slots) (kk : ∀ x, tkS E X nL n w Zf (pc + 3) al (.ref (e_ad E x.1) :: st) (x.2) (o x)) : tkS E X nL n w Zf pc al st0 h (o1.bind o) := s_bind (fun x e z hz => tk_callSN G hd hY hw hi hR (hM x e) hn hst hcat hcell (kk x z hz))
theorem s_lp0 {al : List (Nat × Value)} {body : (tkH → Option ρ) → tkH → Option ρ} (hb : ∀ k : tkH → Option ρ, (∀ (h : tkH), tkS E X nL n w Zf pc (al) st h (k h)) → ∀ (h : tkH), tkS E X nL n w Zf pc (al) st h (body k h)) : ∀ (m : Nat) (h : tkH), tkS E X nL n w Zf pc (al) st h (lq0 body m h)
  | 0 => fun _ => fun _ hx => by cases hx
  | m + 1 => fun h => hb (lq0 body m) (fun h => s_lp0 hb m h) h 
theorem s_lp1 {al : Int32 → List (Nat × Value)} {body : (tkH → Int32 → Option ρ) → tkH → Int32 → Option ρ} (hb : ∀ k : tkH → Int32 → Option ρ, (∀ (h : tkH) (x0 : Int32), tkS E X nL n w Zf pc (al x0) st h (k h x0)) → ∀ (h : tkH) (x0 : Int32), tkS E X nL n w Zf pc (al x0) st h (body k h x0)) : ∀ (m : Nat) (h : tkH) (x0 : Int32), tkS E X nL n w Zf pc (al x0) st h (lq1 body m h x0)
  | 0 => fun _ _ => fun _ hx => by cases hx
  | m + 1 => fun h x0 => hb (lq1 body m) (fun h x0 => s_lp1 hb m h x0) h x0
theorem s_lp2 {al : Int32 → Int32 → List (Nat × Value)} {body : (tkH → Int32 → Int32 → Option ρ) → tkH → Int32 → Int32 → Option ρ} (hb : ∀ k : tkH → Int32 → Int32 → Option ρ, (∀ (h : tkH) (x0 : Int32) (x1 : Int32), tkS E X nL n w Zf pc (al x0 x1) st h (k h x0 x1)) → ∀ (h : tkH) (x0 : Int32) (x1 : Int32), tkS E X nL n w Zf pc (al x0 x1) st h (body k h x0 x1)) : ∀ (m : Nat) (h : tkH) (x0 : Int32) (x1 : Int32), tkS E X nL n w Zf pc (al x0 x1) st h (lq2 body m h x0 x1)
  | 0 => fun _ _ _ => fun _ hx => by cases hx
  | m + 1 => fun h x0 x1 => hb (lq2 body m) (fun h x0 x1 => s_lp2 hb m h x0 x1) h x0 x1
theorem s_lp3 {al : Int32 → Int32 → Int32 → List (Nat × Value)} {body : (tkH → Int32 → Int32 → Int32 → Option ρ) → tkH → Int32 → Int32 → Int32 → Option ρ} (hb : ∀ k : tkH → Int32 → Int32 → Int32 → Option ρ, (∀ (h : tkH) (x0 : Int32) (x1 : Int32) (x2 : Int32), tkS E X nL n w Zf pc (al x0 x1 x2) st h (k h x0 x1 x2)) → ∀ (h : tkH) (x0 : Int32) (x1 : Int32) (x2 : Int32), tkS E X nL n w Zf pc (al x0 x1 x2) st h (body k h x0 x1 x2)) : ∀ (m : Nat) (h : tkH) (x0 : Int32) (x1 : Int32) (x2 : Int32), tkS E X nL n w Zf pc (al x0 x1 x2) st h (lq3 body m h x0 x1 x2)
  | 0 => fun _ _ _ _ => fun _ hx => by cases hx
  | m + 1 => fun h x0 x1 x2 => hb (lq3 body m) (fun h x0 x1 x2 => s_lp3 hb m h x0 x1 x2) h x0 x1 x2
theorem s_lp4 {al : Int32 → Int32 → Int32 → Int32 → List (Nat × Value)} {body : (tkH → Int32 → Int32 → Int32 → Int32 → Option ρ) → tkH → Int32 → Int32 → Int32 → Int32 → Option ρ} (hb : ∀ k : tkH → Int32 → Int32 → Int32 → Int32 → Option ρ, (∀ (h : tkH) (x0 : Int32) (x1 : Int32) (x2 : Int32) (x3 : Int32), tkS E X nL n w Zf pc (al x0 x1 x2 x3) st h (k h x0 x1 x2 x3)) → ∀ (h : tkH) (x0 : Int32) (x1 : Int32) (x2 : Int32) (x3 : Int32), tkS E X nL n w Zf pc (al x0 x1 x2 x3) st h (body k h x0 x1 x2 x3)) : ∀ (m : Nat) (h : tkH) (x0 : Int32) (x1 : Int32) (x2 : Int32) (x3 : Int32), tkS E X nL n w Zf pc (al x0 x1 x2 x3) st h (lq4 body m h x0 x1 x2 x3)
  | 0 => fun _ _ _ _ _ => fun _ hx => by cases hx
  | m + 1 => fun h x0 x1 x2 x3 => hb (lq4 body m) (fun h x0 x1 x2 x3 => s_lp4 hb m h x0 x1 x2 x3) h x0 x1 x2 x3
theorem s_lp5 {al : Int32 → Int32 → Int32 → Int32 → Int32 → List (Nat × Value)} {body : (tkH → Int32 → Int32 → Int32 → Int32 → Int32 → Option ρ) → tkH → Int32 → Int32 → Int32 → Int32 → Int32 → Option ρ} (hb : ∀ k : tkH → Int32 → Int32 → Int32 → Int32 → Int32 → Option ρ, (∀ (h : tkH) (x0 : Int32) (x1 : Int32) (x2 : Int32) (x3 : Int32) (x4 : Int32), tkS E X nL n w Zf pc (al x0 x1 x2 x3 x4) st h (k h x0 x1 x2 x3 x4)) → ∀ (h : tkH) (x0 : Int32) (x1 : Int32) (x2 : Int32) (x3 : Int32) (x4 : Int32), tkS E X nL n w Zf pc (al x0 x1 x2 x3 x4) st h (body k h x0 x1 x2 x3 x4)) : ∀ (m : Nat) (h : tkH) (x0 : Int32) (x1 : Int32) (x2 : Int32) (x3 : Int32) (x4 : Int32), tkS E X nL n w Zf pc (al x0 x1 x2 x3 x4) st h (lq5 body m h x0 x1 x2 x3 x4)
  | 0 => fun _ _ _ _ _ _ => fun _ hx => by cases hx
  | m + 1 => fun h x0 x1 x2 x3 x4 => hb (lq5 body m) (fun h x0 x1 x2 x3 x4 => s_lp5 hb m h x0 x1 x2 x3 x4) h x0 x1 x2 x3 x4
theorem s_lp6 {al : Int32 → Int32 → Int32 → Int32 → Int32 → Int32 → List (Nat × Value)} {body : (tkH → Int32 → Int32 → Int32 → Int32 → Int32 → Int32 → Option ρ) → tkH → Int32 → Int32 → Int32 → Int32 → Int32 → Int32 → Option ρ} (hb : ∀ k : tkH → Int32 → Int32 → Int32 → Int32 → Int32 → Int32 → Option ρ, (∀ (h : tkH) (x0 : Int32) (x1 : Int32) (x2 : Int32) (x3 : Int32) (x4 : Int32) (x5 : Int32), tkS E X nL n w Zf pc (al x0 x1 x2 x3 x4 x5) st h (k h x0 x1 x2 x3 x4 x5)) → ∀ (h : tkH) (x0 : Int32) (x1 : Int32) (x2 : Int32) (x3 : Int32) (x4 : Int32) (x5 : Int32), tkS E X nL n w Zf pc (al x0 x1 x2 x3 x4 x5) st h (body k h x0 x1 x2 x3 x4 x5)) : ∀ (m : Nat) (h : tkH) (x0 : Int32) (x1 : Int32) (x2 : Int32) (x3 : Int32) (x4 : Int32) (x5 : Int32), tkS E X nL n w Zf pc (al x0 x1 x2 x3 x4 x5) st h (lq6 body m h x0 x1 x2 x3 x4 x5)
  | 0 => fun _ _ _ _ _ _ _ => fun _ hx => by cases hx
  | m + 1 => fun h x0 x1 x2 x3 x4 x5 => hb (lq6 body m) (fun h x0 x1 x2 x3 x4 x5 => s_lp6 hb m h x0 x1 x2 x3 x4 x5) h x0 x1 x2 x3 x4 x5
end
