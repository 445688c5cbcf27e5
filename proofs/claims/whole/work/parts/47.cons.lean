/-! CONSTRUCTORS: the shape as a function S of the cell's number, of the first n cells; ad: where they lie -/
def eAd (E : tkE) (ad : Nat → Nat) : tkE := (E.1, E.2.1, E.2.2.1, E.2.2.2.1, E.2.2.2.2.1, E.2.2.2.2.2.1, E.2.2.2.2.2.2.1, ad)
def oS (S : Nat → tkK) (k : Nat) (v : tkK) : Nat → tkK := fun j => if j = k then v else S j
def oT (n : Nat) (S : Nat → tkK) : tkT := (List.range n).map S
theorem oS_s {S : Nat → tkK} {k : Nat} {v : tkK} : oS S k v k = v := if_pos rfl
theorem oS_n {S : Nat → tkK} {k j : Nat} {v : tkK} (e : j ≠ k) : oS S k v j = S j := if_neg e
theorem oS_id {S : Nat → tkK} {k : Nat} {v : tkK} (e : S k = v) : oS S k v = S := by
  funext j
  unfold oS
  split
  · next h => rw [h, e]
  · rfl
theorem oS_oS {S : Nat → tkK} {k : Nat} {v v' : tkK} : oS (oS S k v) k v' = oS S k v' := by
  funext j
  unfold oS
  split <;> rfl
theorem oT_len {n : Nat} {S : Nat → tkK} : (oT n S).length = n := by simp [oT]
theorem oT_get {n k : Nat} {S : Nat → tkK} (h : k < n) : (oT n S)[k]? = some (S k) := by
  simp [oT, h]
theorem oT_none {n k : Nat} {S : Nat → tkK} (h : n ≤ k) : (oT n S)[k]? = none := by
  simp [oT, h]
theorem oT_congr {n : Nat} {S S' : Nat → tkK} (h : ∀ k, k < n → S k = S' k) : oT n S = oT n S' := by
  apply List.ext_getElem?
  intro k
  by_cases c : k < n
  · rw [oT_get c, oT_get c, h k c]
  · rw [oT_none (by omega), oT_none (by omega)]
def rfs (q : tkK) (a : Nat) : Prop := some (some a) ∈ q.2.2
def wfS (n : Nat) (S : Nat → tkK) : Prop := ∀ k, k < n → ∀ a, rfs (S k) a → a < n
theorem tkq_ad {E : tkE} {ad ad' : Nat → Nat} {rs : List (Option (Option Nat))} (h : ∀ a, some (some a) ∈ rs → ad' a = ad a) : tkq (eAd E ad') rs = tkq (eAd E ad) rs := by
  funext j
  unfold tkq
  cases e : rs.getD j none with
  | none => rfl
  | some r =>
    cases r with
    | none => rfl
    | some a =>
      have hm : some (some a) ∈ rs := by
        rw [List.getD_eq_getElem?_getD] at e
        cases g : rs[j]? with
        | none => rw [g] at e; cases e
        | some z =>
          rw [g] at e
          have : z = some (some a) := e
          rw [← this]
          exact List.mem_of_getElem? g
      show some (ad' a) = some (ad a)
      rw [h a hm]
theorem tkv_ad {E : tkE} {ad ad' : Nat → Nat} {h : tkH} {k j : Nat} {rs : List (Option (Option Nat))} (g : ∀ a, some (some a) ∈ rs → ad' a = ad a) : tkv (eAd E ad') h k j (rs.getD j none) = tkv (eAd E ad) h k j (rs.getD j none) := by
  cases e : rs.getD j none with
  | none => rfl
  | some r =>
    cases r with
    | none => rfl
    | some a =>
      have hm : some (some a) ∈ rs := by
        rw [List.getD_eq_getElem?_getD] at e
        cases q : rs[j]? with
        | none => rw [q] at e; cases e
        | some z =>
          rw [q] at e
          have : z = some (some a) := e
          rw [← this]
          exact List.mem_of_getElem? q
      show Value.ref (ad' a) = Value.ref (ad a)
      rw [g a hm]
theorem tkc_ad {E : tkE} {ad ad' : Nat → Nat} {h : tkH} {k : Nat} {q : tkK} (g : ∀ a, rfs q a → ad' a = ad a) : tkc (eAd E ad') h k q = tkc (eAd E ad) h k q := by
  obtain ⟨a, n, rs⟩ := q
  match a with
  | 0 => rfl
  | 1 => show (Sum.inl _ : va_E) = Sum.inl _; rw [tkq_ad g]; rfl
  | 2 => show (Sum.inl _ : va_E) = Sum.inl _; rw [tkq_ad g]; rfl
  | c + 3 =>
    show (Sum.inr (c, (List.range n).map (fun j => tkv (eAd E ad') h k j (rs.getD j none))) : va_E) = Sum.inr (c, (List.range n).map (fun j => tkv (eAd E ad) h k j (rs.getD j none)))
    congr 2
    refine List.map_congr_left (fun j _ => tkv_ad g)
theorem tkW_none {E : tkE} {T : tkT} {h : tkH} {k : Nat} (hk : T[k]? = none) : (tkW E T h)[k]? = none := by
  simp [tkW, List.getElem?_mapIdx, hk]
/-- the world with one cell more -/
theorem tkW_new {E : tkE} {ad ad' : Nat → Nat} {n : Nat} {S : Nat → tkK} {h : tkH} {v : tkK} (hW : wfS n S) (e : ∀ i, i < n → ad' i = ad i) : tkW (eAd E ad') (oT (n + 1) (oS S n v)) h = tkW (eAd E ad) (oT n S) h ++ [(ad' n, tkc (eAd E ad') h n v)] := by
  apply List.ext_getElem?
  intro k
  have L : (tkW (eAd E ad) (oT n S) h).length = n := by rw [tkW_len, oT_len]
  by_cases c : k < n
  · rw [tkW_get (oT_get (by omega)), List.getElem?_append_left (by omega), tkW_get (oT_get c), oS_n (by omega), tkc_ad (fun a ha => e a (hW k c a ha))]
    show some (ad' k, _) = some (ad k, _)
    rw [e k c]
  · rw [List.getElem?_append_right (by omega), L]
    by_cases c2 : k = n
    · subst c2
      rw [tkW_get (oT_get (by omega)), oS_s, Nat.sub_self]
      rfl
    · rw [tkW_none (oT_none (by omega))]
      have : k - n ≠ 0 := by omega
      obtain ⟨m, hm⟩ : ∃ m, k - n = m + 1 := ⟨k - n - 1, by omega⟩
      rw [hm]
      rfl
theorem wf_new {n : Nat} {S : Nat → tkK} {v : tkK} (h : wfS n S) (hv : ∀ a, ¬ rfs v a) : wfS (n + 1) (oS S n v) := by
  intro k hk a ha
  by_cases c : k = n
  · rw [c, oS_s] at ha
    exact absurd ha (hv a)
  · rw [oS_n c] at ha
    have := h k (by omega) a ha
    omega
theorem wf_set {n k m : Nat} {S : Nat → tkK} {c N j : Nat} {rs : List (Option (Option Nat))} (h : wfS n S) (hk : k < n) (hm : m < n) (e : S k = (c, N, rs)) : wfS n (oS S k (c, N, rs.set j (some (some m)))) := by
  intro i hi a ha
  by_cases q : i = k
  · rw [q, oS_s] at ha
    unfold rfs at ha
    rcases List.mem_or_eq_of_mem_set ha with z | z
    · exact h k hk a (by unfold rfs; rw [e]; exact z)
    · cases z
      exact hm
  · rw [oS_n q] at ha
    exact h i hi a ha
/-! the judgement: whatever the places of the cells behind the first n0 are -/
def hz0 (n : Nat) (h : tkH) : Prop := ∀ j, n ≤ j → h j = fun _ => 0
def tkJ (n0 : Nat) (E : tkE) (X : tkX) (nL c w : Nat) (Z : State → Prop) (pc : Nat) (al : (Nat → Nat) → List (Nat × Value)) (st : (Nat → Nat) → List Value) (n : Nat) (S : Nat → tkK) (h : tkH) : Prop :=
  wfS n S → hz0 n h → ∀ ad, (∀ i, i < n0 → ad i = e_ad E i) → tkV (eAd E ad) X nL c w Z pc (al ad) (st ad) (oT n S) h
/-- values that don't hang on places from n on -/
def kpt {α : Type} (n : Nat) (f : (Nat → Nat) → α) : Prop := ∀ ad ad' : Nat → Nat, (∀ i, i < n → ad' i = ad i) → f ad' = f ad
def hA (E : tkE) (X : tkX) : Prop := ∀ q, (x_s X).heap.size ≤ q → tkA E q
theorem hA_of {E : tkE} {X : tkX} {cc : ByteArray} {nL : Nat} {own : String} {ret : Option FieldType} (G : tkG E X cc nL own ret) : hA E X := fun q hq => Nat.le_trans G.2.1.2.2.2.2.2 hq
theorem tkB_cI {E : tkE} {U : State} (h : tkB E U) {cA : ClassId} (q : va_RA U cA .int) : cA = E.2.2.2.1 := by
  have r := (h.1.2 0 _ rfl).2
  exact Option.some.inj (q.symm.trans r)
theorem tkB_cB {E : tkE} {U : State} (h : tkB E U) {cA : ClassId} (q : va_RA U cA (.object RX0)) : cA = E.2.2.2.2.1 := by
  obtain ⟨_, _, _, _, _, r⟩ := (h.1.2 1 _ rfl).2
  obtain ⟨_, _, _, _, _, q⟩ := q
  exact Option.some.inj (q.symm.trans r)
theorem tkB_cS {E : tkE} {U : State} (h : tkB E U) {cA : ClassId} (q : va_RA U cA (.object RX6)) : cA = E.2.2.2.2.2.1 := by
  obtain ⟨_, _, _, _, _, r⟩ := (h.1.2 2 _ rfl).2
  obtain ⟨_, _, _, _, _, q⟩ := q
  exact Option.some.inj (q.symm.trans r)
theorem gD_map {F : Nat → Value} {N j : Nat} (hj : j < N) : vp_V ((List.range N).map F) j = F j := by
  unfold vp_V
  rw [List.getD_eq_getElem?_getD, List.getElem?_map, List.getElem?_range hj]
  rfl
section
variable {n0 : Nat} {E : tkE} {X : tkX} {cc : ByteArray} {nL c w : Nat} {own : String} {ret : Option FieldType} {Z : State → Prop} {pc : Nat} {al : (Nat → Nat) → List (Nat × Value)} {st : (Nat → Nat) → List Value} {n : Nat} {S : Nat → tkK} {h : tkH}
theorem J_al {k : Nat} {r : Fin 4} (G : tkG E X cc nL own ret) (hd : decode cc pc = .ok (.aload_n r, 1)) (q : Nat) (hq : ∀ ad : Nat → Nat, (al ad)[q]? = some ((r : Nat), .ref (ad k))) (kk : tkJ n0 E X nL c w Z (pc + 1) al (fun ad => .ref (ad k) :: st ad) n S h) : tkJ n0 E X nL c w Z pc al st n S h :=
  fun hW hz ad g => tk_aload_n (E := eAd E ad) G hd q (hq ad) (kk hW hz ad g)
theorem J_il {r : Fin 4} {x : Int32} (G : tkG E X cc nL own ret) (hd : decode cc pc = .ok (.iload_n r, 1)) (q : Nat) (hq : ∀ ad : Nat → Nat, (al ad)[q]? = some ((r : Nat), .int x)) (kk : tkJ n0 E X nL c w Z (pc + 1) al (fun ad => .int x :: st ad) n S h) : tkJ n0 E X nL c w Z pc al st n S h :=
  fun hW hz ad g => tk_iload_n (E := eAd E ad) G hd q (hq ad) (kk hW hz ad g)
theorem J_ic {i : Int} {v : Int32} (G : tkG E X cc nL own ret) (hd : decode cc pc = .ok (.iconst i, 1)) (hv : Int32.ofInt i = v) (kk : tkJ n0 E X nL c w Z (pc + 1) al (fun ad => .int v :: st ad) n S h) : tkJ n0 E X nL c w Z pc al st n S h :=
  fun hW hz ad g => tk_iconst (E := eAd E ad) G hd hv (kk hW hz ad g)
theorem J_bi {i : Int} {v : Int32} (G : tkG E X cc nL own ret) (hd : decode cc pc = .ok (.bipush i, 2)) (hv : (Int8.ofInt i).toInt32 = v) (kk : tkJ n0 E X nL c w Z (pc + 2) al (fun ad => .int v :: st ad) n S h) : tkJ n0 E X nL c w Z pc al st n S h :=
  fun hW hz ad g => tk_bipush (E := eAd E ad) G hd hv (kk hW hz ad g)
theorem J_si {i : Int} {v : Int32} (G : tkG E X cc nL own ret) (hd : decode cc pc = .ok (.sipush i, 3)) (hv : (Int16.ofInt i).toInt32 = v) (kk : tkJ n0 E X nL c w Z (pc + 3) al (fun ad => .int v :: st ad) n S h) : tkJ n0 E X nL c w Z pc al st n S h :=
  fun hW hz ad g => tk_sipush (E := eAd E ad) G hd hv (kk hW hz ad g)
theorem J_dup {k : Nat} (G : tkG E X cc nL own ret) (hd : decode cc pc = .ok (.dup, 1)) (kk : tkJ n0 E X nL c w Z (pc + 1) al (fun ad => .ref (ad k) :: .ref (ad k) :: st ad) n S h) : tkJ n0 E X nL c w Z pc al (fun ad => .ref (ad k) :: st ad) n S h :=
  fun hW hz ad g => tk_dup (E := eAd E ad) G hd rfl (kk hW hz ad g)
theorem J_is {r : Fin 4} {x : Int32} {al' : (Nat → Nat) → List (Nat × Value)} (G : tkG E X cc nL own ret) (hd : decode cc pc = .ok (.istore_n r, 1)) (hn : (r : Nat) < nL) (hl' : ∀ ad, ((r : Nat), Value.int x) :: (al ad).filter (fun q => !(q.1 == (r : Nat)) && !(q.1 + 1 == (r : Nat) && q.2.category == 2)) = al' ad) (kk : tkJ n0 E X nL c w Z (pc + 1) al' st n S h) : tkJ n0 E X nL c w Z pc al (fun ad => .int x :: st ad) n S h :=
  fun hW hz ad g => tk_istore_n (E := eAd E ad) G hd hn (hl' ad) (kk hW hz ad g)
theorem J_as {r : Fin 4} {k : Nat} {al' : (Nat → Nat) → List (Nat × Value)} (G : tkG E X cc nL own ret) (hd : decode cc pc = .ok (.astore_n r, 1)) (hn : (r : Nat) < nL) (hl' : ∀ ad : Nat → Nat, ((r : Nat), Value.ref (ad k)) :: (al ad).filter (fun q => !(q.1 == (r : Nat)) && !(q.1 + 1 == (r : Nat) && q.2.category == 2)) = al' ad) (kk : tkJ n0 E X nL c w Z (pc + 1) al' st n S h) : tkJ n0 E X nL c w Z pc al (fun ad => .ref (ad k) :: st ad) n S h :=
  fun hW hz ad g => tk_astore_n (E := eAd E ad) G hd hn (hl' ad) (kk hW hz ad g)
theorem J_ii {r : Nat} {d : Int} {x v : Int32} {al' : (Nat → Nat) → List (Nat × Value)} (G : tkG E X cc nL own ret) (hd : decode cc pc = .ok (.iinc r d, 3)) (q : Nat) (hq : ∀ ad, (al ad)[q]? = some (r, .int x)) (hv : x + Int32.ofInt d = v) (hn : r < nL) (hl' : ∀ ad, (r, Value.int v) :: (al ad).filter (fun q => !(q.1 == r) && !(q.1 + 1 == r && q.2.category == 2)) = al' ad) (kk : tkJ n0 E X nL c w Z (pc + 3) al' st n S h) : tkJ n0 E X nL c w Z pc al st n S h :=
  fun hW hz ad g => tk_iinc (E := eAd E ad) G hd q (hq ad) hv hn (hl' ad) (kk hW hz ad g)
theorem J_go {off : Int} {tgt : Nat} (G : tkG E X cc nL own ret) (hd : decode cc pc = .ok (.goto off, 3)) (ht : (pc : Int) + off = (tgt : Int)) (kk : tkJ n0 E X nL c w Z tgt al st n S h) : tkJ n0 E X nL c w Z pc al st n S h :=
  fun hW hz ad g => tk_goto (E := eAd E ad) G hd ht (kk hW hz ad g)
theorem J_ge {off : Int} {tgt : Nat} {x y : Int32} (G : tkG E X cc nL own ret) (hd : decode cc pc = .ok (.if_icmp .ge off, 3)) (ht : (pc : Int) + off = (tgt : Int)) (kt : y ≤ x → tkJ n0 E X nL c w Z tgt al st n S h) (kf : ¬ y ≤ x → tkJ n0 E X nL c w Z (pc + 3) al st n S h) : tkJ n0 E X nL c w Z pc al (fun ad => .int y :: .int x :: st ad) n S h :=
  fun hW hz ad g => tk_icmp_ge (E := eAd E ad) G hd ht (fun q => kt q hW hz ad g) (fun q => kf q hW hz ad g)
theorem J_gr {c1 N idx j k m : Nat} {C : String} {Tb : u_T} {rs : List (Option (Option Nat))} (G : tkG E X cc nL own ret) (hC : tkC c1 C Tb N) (hd : decode cc pc = .ok (.getfield idx, 3)) (hw : Cond.fieldLink own idx (Tb j).1 (Tb j).2.1 (Tb j).2.2.1 ∈ tkTb) (hj : j < N) (hk : k < n) (hS : S k = (c1 + 3, N, rs)) (hr : rs.getD j none = some (some m)) (kk : tkJ n0 E X nL c w Z (pc + 3) al (fun ad => .ref (ad m) :: st ad) n S h) : tkJ n0 E X nL c w Z pc al (fun ad => .ref (ad k) :: st ad) n S h :=
  fun hW hz ad g => tk_getf (E := eAd E ad) (k := k) (r := some (some m)) G hC hd hw hj (by rw [oT_get hk, hS]) hr (kk hW hz ad g)
theorem J_pi {c1 N idx j k : Nat} {C : String} {Tb : u_T} {rs : List (Option (Option Nat))} {v : Int32} (G : tkG E X cc nL own ret) (hC : tkC c1 C Tb N) (hd : decode cc pc = .ok (.putfield idx, 3)) (hw : Cond.fieldLink own idx (Tb j).1 (Tb j).2.1 (Tb j).2.2.1 ∈ tkTb) (hj : j < N) (hk : k < n) (hS : S k = (c1 + 3, N, rs)) (hr : rs.getD j none = none) (hf : (Tb j).2.2.2 = false) (hty : parseFieldDescriptor (Tb j).2.2.1 = some .int)
    (kk : tkJ n0 E X nL c w Z (pc + 3) al st n S (tkup h k j v)) : tkJ n0 E X nL c w Z pc al (fun ad => .int v :: .ref (ad k) :: st ad) n S h :=
  fun hW hz ad g => tk_putf (E := eAd E ad) (k := k) G hC hd hw hj (by rw [oT_get hk, hS]) hr hf hty rfl rfl (kk hW (fun q hq => by rw [up_a (by omega)]; exact hz q hq) ad g)
theorem J_ia {k N : Nat} {i x : Int32} {rs : List (Option (Option Nat))} (G : tkG E X cc nL own ret) (hd : decode cc pc = .ok (.iastore, 1)) (hk : k < n) (hS : S k = (0, N, rs)) (hin : vp_in i N) (kk : tkJ n0 E X nL c w Z (pc + 1) al st n S (tkup h k i.toNatClampNeg x)) : tkJ n0 E X nL c w Z pc al (fun ad => .int x :: .int i :: .ref (ad k) :: st ad) n S h :=
  fun hW hz ad g => tk_iast (E := eAd E ad) (k := k) G hd (by rw [oT_get hk, hS]) hin (kk hW (fun q hq => by rw [up_a (by omega)]; exact hz q hq) ad g)
/-- a new int array -/
theorem J_na {v : Int32} {N : Nat} (G : tkG E X cc nL own ret) (hd : decode cc pc = .ok (.newarray .int, 2)) (hv : v = nI N) (hN : N < 100000) (hS : S n = (0, N, [])) (hcl : c + 1 ≤ (x_R X).cells ∧ w + N ≤ (x_R X).slots) (hwd : Cond.arrayClass .int ∈ tkTb) (h0 : n0 ≤ n) (ha : kpt n al) (hs : kpt n st)
    (kk : tkJ n0 E X nL (c + 1) (w + N) Z (pc + 2) al (fun ad => .ref (ad n) :: st ad) (n + 1) S h) : tkJ n0 E X nL c w Z pc al (fun ad => .int v :: st ad) n S h := by
  intro hW hz ad g H locs ls hP hD hSv hl
  subst hv
  refine va_newa (atype := .int) (a0 := (N, .inl (fun _ => 0))) G.1.1 G.1.2.1 (G.1.2.2.2.2 _ hwd) rfl G.2.1.1 hP hD hSv (hA_of G) (fun cA => rfl) (nI_pos (by omega)) (nI_clamp (by omega)) (show N * 4 ≤ 536870912 by omega) hcl.1 hcl.2 hd (fun q cA H1 hK1 hP1 hD1 hS1 => ?_)
  have eC : cA = E.2.2.2.1 := tkB_cI G.2.1 ((hK1.2 _ (cA, .int) (by rw [List.getElem?_append_right (by exact Nat.le_refl _), Nat.sub_self]; rfl)).2)
  subst eC
  obtain ⟨ad', ha'⟩ : ∃ ad' : Nat → Nat, ad' = fun i => if i = n then q else ad i := ⟨_, rfl⟩
  have e : ∀ i, i < n → ad' i = ad i := fun i hi => by rw [ha']; exact if_neg (by omega)
  have en : ad' n = q := by rw [ha']; exact if_pos rfl
  have ew : tkW (eAd E ad') (oT (n + 1) S) h = tkW (eAd E ad) (oT n S) h ++ [(q, .inl (E.2.2.2.1, N, .inl (fun _ => 0)))] := by
    have z := tkW_new (E := E) (h := h) (v := (0, N, [])) hW e
    rw [oS_id hS, en] at z
    rw [z]
    show _ ++ [(q, (Sum.inl (E.2.2.2.1, N, .inl (h n)) : va_E))] = _
    rw [hz n (Nat.le_refl _)]
  rw [← ew] at hP1 hD1
  have wf1 : wfS (n + 1) S := by
    have z := wf_new (v := (0, N, [])) hW (fun a q => by cases q)
    rwa [oS_id hS] at z
  have k1 := kk wf1 (fun j hj => hz j (by omega)) ad' (fun i hi => by rw [e i (by omega)]; exact g i hi) H1 locs ls hP1 hD1 hS1
  simp only [ha ad ad' e, hs ad ad' e, en] at k1
  exact k1 hl
/-- a new object -/
theorem J_nw {c1 N idx : Nat} {C : String} {Tb : u_T} {rs : List (Option (Option Nat))} (G : tkG E X cc nL own ret) (hC : tkC c1 C Tb N) (hd : decode cc pc = .ok (.new idx, 3)) (hw : Cond.classLink own idx C ∈ tkTb ∧ Cond.instantiable C N ∈ tkTb ∧ Cond.initialized C ∈ tkTb) (hdf : ∀ j, j < N → (parseFieldDescriptor (Tb j).2.2.1).map defaultValue = some (match rs.getD j none with | none => .int 0 | some _ => .null)) (hrs : ∀ a, ¬ some (some a) ∈ rs) (hcl : c + 1 ≤ (x_R X).cells ∧ w + N ≤ (x_R X).slots) (h0 : n0 ≤ n) (ha : kpt n al) (hs : kpt n st)
    (kk : tkJ n0 E X nL (c + 1) (w + N) Z (pc + 3) al (fun ad => .ref (ad n) :: st ad) (n + 1) (oS S n (c1 + 3, N, rs)) h) : tkJ n0 E X nL c w Z pc al st n S h := by
  intro hW hz ad g H locs ls hP hD hSv hl
  obtain ⟨h1, h2, ty0, h3, h4⟩ := hC
  refine va_new (ci := c1) (fs := (List.range N).map (fun j => match rs.getD j none with | none => Value.int 0 | some _ => .null)) G.1.1 G.1.2.1 G.1.2.2.2.2 h2 ty0 h3 G.1.2.2.2.1 (G.1.2.2.2.2 _ hw.1) (G.1.2.2.2.2 _ hw.2.1) (G.1.2.2.2.2 _ hw.2.2) G.2.1.1 hP hD hSv (hA_of G) h1 (fun j hj => ?_) hcl.1 hcl.2 hd (fun q H1 hP1 hD1 hS1 => ?_)
  · have z := hdf j hj
    rw [h3 j hj] at z
    have z2 := Option.some.inj z
    rw [z2]
    exact (gD_map (F := fun j => match rs.getD j none with | none => Value.int 0 | some _ => .null) hj).symm
  · obtain ⟨ad', ha'⟩ : ∃ ad' : Nat → Nat, ad' = fun i => if i = n then q else ad i := ⟨_, rfl⟩
    have e : ∀ i, i < n → ad' i = ad i := fun i hi => by rw [ha']; exact if_neg (by omega)
    have en : ad' n = q := by rw [ha']; exact if_pos rfl
    have ef : tkc (eAd E ad') h n (c1 + 3, N, rs) = .inr (c1, (List.range N).map (fun j => match rs.getD j none with | none => Value.int 0 | some _ => .null)) := by
      show (Sum.inr (c1, (List.range N).map (fun j => tkv (eAd E ad') h n j (rs.getD j none))) : va_E) = _
      congr 2
      refine List.map_congr_left (fun j _ => ?_)
      cases er : rs.getD j none with
      | none =>
        show Value.int (h n j) = _
        rw [hz n (Nat.le_refl _)]
      | some r =>
        cases r with
        | none => rfl
        | some a =>
          exfalso
          rw [List.getD_eq_getElem?_getD] at er
          cases g2 : rs[j]? with
          | none => rw [g2] at er; cases er
          | some y =>
            rw [g2] at er
            have : y = some (some a) := er
            exact hrs a (this ▸ List.mem_of_getElem? g2)
    have ew : tkW (eAd E ad') (oT (n + 1) (oS S n (c1 + 3, N, rs))) h = tkW (eAd E ad) (oT n S) h ++ [(q, .inr (c1, (List.range N).map (fun j => match rs.getD j none with | none => Value.int 0 | some _ => .null)))] := by
      rw [tkW_new hW e, en, ef]
    rw [← ew] at hP1 hD1
    have k1 := kk (wf_new hW (fun a q => hrs a q)) (fun j hj => hz j (by omega)) ad' (fun i hi => by rw [e i (by omega)]; exact g i hi) H1 locs ls hP1 hD1 hS1
    simp only [ha ad ad' e, hs ad ad' e, en] at k1
    exact k1 hl
/-- a reference into a final field -/
theorem J_pr {c1 N idx j k m : Nat} {C : String} {Tb : u_T} {rs : List (Option (Option Nat))} {ty : FieldType} (G : tkG E X cc nL own ret) (hi : (x_meth X).name = "<init>") (hC : tkC c1 C Tb N) (hd : decode cc pc = .ok (.putfield idx, 3)) (hw : Cond.fieldLink own idx (Tb j).1 (Tb j).2.1 (Tb j).2.2.1 ∈ tkTb) (hj : j < N) (hk : k < n) (hm : m < n) (hS : S k = (c1 + 3, N, rs)) (hrl : j < rs.length) (hf : (Tb j).2.2.2 = true) (ho : (Tb j).1 = own) (hty : parseFieldDescriptor (Tb j).2.2.1 = some ty) (hn : ∀ a, narrow ty (.ref a) = .ref a ∧ fits ty (.ref a) = true)
    (kk : tkJ n0 E X nL c w Z (pc + 3) al st n (oS S k (c1 + 3, N, rs.set j (some (some m)))) h) : tkJ n0 E X nL c w Z pc al (fun ad => .ref (ad m) :: .ref (ad k) :: st ad) n S h := by
  intro hW hz ad g H locs ls hP hD hSv hl
  obtain ⟨h1, h2, ty0, h3, h4⟩ := id hC
  have hk' : (oT n S)[k]? = some (c1 + 3, N, rs) := by rw [oT_get hk, hS]
  refine va_putF G.1.1 G.1.2.1 G.1.2.2.2.2 h2 ty0 h3 h4 G.1.2.2.2.1 G.2.1.1 hP hD hSv k (tkW_get hk') h1 j hj (G.1.2.2.2.2 _ hw) (fun _ z => z) hf hi ho hty (hn _).1 (hn _).2 (by simpa using hj) hd (fun H1 locs1 hP1 hD1 hS1 => ?_)
  have ew : (tkW (eAd E ad) (oT n S) h).set k (e_ad (eAd E ad) k, .inr (c1, ((List.range N).map (fun i => tkv (eAd E ad) h k i (rs.getD i none))).set j (.ref (ad m)))) = tkW (eAd E ad) (oT n (oS S k (c1 + 3, N, rs.set j (some (some m))))) h := by
    apply List.ext_getElem?
    intro i
    rw [List.getElem?_set]
    have L : (tkW (eAd E ad) (oT n S) h).length = n := by rw [tkW_len, oT_len]
    by_cases q : k = i
    · subst q
      rw [if_pos rfl, if_pos (by omega), tkW_get (oT_get hk), oS_s]
      show some (ad k, (Sum.inr (c1, _) : va_E)) = some (ad k, (Sum.inr (c1, (List.range N).map (fun i => tkv (eAd E ad) h k i ((rs.set j (some (some m))).getD i none))) : va_E))
      congr 4
      apply List.ext_getElem?
      intro x
      rw [List.getElem?_set]
      simp only [List.getElem?_map, List.length_map, List.length_range]
      by_cases hx : x < N
      · rw [List.getElem?_range hx]
        by_cases q2 : j = x
        · subst q2
          rw [if_pos rfl, if_pos hx]
          simp only [Option.map_some, List.getD_eq_getElem?_getD, List.getElem?_set, if_true, hrl, Option.getD_some]
          rfl
        · rw [if_neg q2]
          simp only [Option.map_some, List.getD_eq_getElem?_getD, List.getElem?_set, q2, if_false]
      · have hnn : (List.range N)[x]? = none := by simp; omega
        rw [hnn]
        by_cases q2 : j = x
        · omega
        · rw [if_neg q2]
          rfl
    · rw [if_neg q]
      by_cases hi2 : i < n
      · rw [tkW_get (oT_get hi2), tkW_get (oT_get hi2), oS_n (fun z => q z.symm)]
      · rw [tkW_none (oT_none (by omega)), tkW_none (oT_none (by omega))]
  rw [ew] at hP1 hD1
  exact kk (wf_set hW hk hm hS) hz ad g H1 locs1 ls hP1 hD1 hS1 hl
end
