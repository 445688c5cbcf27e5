/-! constructors: contracts, calls, arrays of references -/
def tkRN (d mc ms : Nat) : Room := { frames := d, cells := mc, slots := ms, locals := 40 * d }
def tkQN (E : tkE) (n n' : Nat) (S' : Nat → tkK) (h' : tkH) : Array Value → State → Outcome → State → Prop := fun _ st o t => o = .returned none ∧ (∃ ad' : Nat → Nat, (∀ i, i < n → ad' i = e_ad E i) ∧ tkU (eAd E ad') (oT n' S') h' t) ∧ va_F (tkA E) st t
def aoQ (Q : List String) (U : State) : Prop := ∀ C, C ∈ Q → va_AO C U
theorem aoQ_mv {Q : List String} {u U : State} (hvm : u.vm.Alike U.vm) (h : aoQ Q u) : aoQ Q U := fun C hC => (h C hC).moved hvm
theorem aoQ_0 {U : State} : aoQ [] U := fun _ h => by cases h
def tkMN (E : tkE) (Q : List String) (y : MethodName) (cc : ByteArray) (nL d mc ms n : Nat) (S : Nat → tkK) (h : tkH) (k : Nat) (As : List Value) (n' : Nat) (S' : Nat → tkK) (h' : tkH) : Prop :=
  Met E.1 y (Cond.code y cc nL none :: tkTb) (tkRN d mc ms) (va_Pc (.ref (e_ad E k) :: As) (fun U => tkU E (oT n S) h U ∧ aoQ Q U)) (tkQN E n n' S' h') mc ms (tkA E)
def tkZN (E : tkE) (X : tkX) (n n' : Nat) (S' : Nat → tkK) (h' : tkH) (mc ms : Nat) : State → Prop := MQ (x_below X) (tkQN E n n' S' h') (x_args X) (x_s X) mc ms (tkA E)
theorem eAd_id (E : tkE) : eAd E (e_ad E) = E := rfl
theorem tkMN_of {E : tkE} {Q : List String} {y : MethodName} {cc : ByteArray} {nL d mc ms n k n' : Nat} {S S' : Nat → tkK} {h h' : tkH} {As : (Nat → Nat) → List Value} (hy : plainName y.cls = true) (hyi : y.name = "<init>") (hlen : ∀ ad : Nat → Nat, (lg_sl (.ref (ad k) :: As ad)).length ≤ nL) (hW : wfS n S) (hz : hz0 n h)
    (hb : ∀ X : tkX, x_R X = tkRN d mc ms → (x_meth X).name = "<init>" → aoQ Q (x_s X) → tkG E X cc nL y.cls none → tkJ n E X nL 0 0 (tkZN E X n n' S' h' mc ms) 0 (fun ad => lv_args 0 (.ref (ad k) :: As ad)) (fun _ => []) n S h) : tkMN E Q y cc nL d mc ms n S h k (As (e_ad E)) n' S' h' := by
  refine Met.ofW (cc := cc) (maxL := nL) (ret := none) hy rfl ?_
  intro p e s m args below meth c s₁ B hml hv
  obtain ⟨rfl, hU, hQ⟩ := hv
  have hG : tkG E (p, e, tkRN d mc ms, s, m, (.ref (e_ad E k) :: As (e_ad E)).toArray, below, meth, c) cc nL y.cls none := ⟨⟨B.exec, B.bytes, hml, findClass_of_methodNamed B.named, fun w hw => atoms_spec (ws := Cond.code y cc nL none :: tkTb) B.pre w (List.mem_cons_of_mem _ hw)⟩, hU.1, B.notSynchronized, B.returns⟩
  have hin : meth.name = "<init>" := ((name_of_methodNamed B.named B.method).1).trans hyi
  rw [lg_entry_eq]
  have J := hb (p, e, tkRN d mc ms, s, m, (.ref (e_ad E k) :: As (e_ad E)).toArray, below, meth, c) rfl hin hQ hG hW hz (e_ad E) (fun _ _ => rfl)
  rw [eAd_id] at J
  exact J s.heap [] _ hU.2.1 hU.2.2 va_S.rf (lv_entry _ (hlen (e_ad E)))
section
variable {n0 : Nat} {E : tkE} {X : tkX} {cc : ByteArray} {nL c w : Nat} {own : String} {ret : Option FieldType} {Z : State → Prop} {pc : Nat} {al : (Nat → Nat) → List (Nat × Value)} {st st0 : (Nat → Nat) → List Value} {n : Nat} {S : Nat → tkK} {h : tkH}
theorem J_vret {mc ms : Nat} (G : tkG E X cc nL own none) (hd : decode cc pc = .ok (.return_, 1)) (h1 : c ≤ mc) (h2 : w ≤ ms) : tkJ n0 E X nL c w (tkZN E X n0 n S h mc ms) pc al (fun _ => []) n S h := by
  intro hW hz ad g H locs ls hP hD hS hl
  refine W.widen h1 h2 ?_
  exact W.vret G.1.1 G.1.2.1 G.2.2.2 (fun t ht hW => ⟨rfl, ⟨ad, g, tkU_next (E := eAd E ad) G.2.1 hP hD hS ht hW⟩, hS.F ht⟩) hS.2.2 hd G.2.2.1
theorem J_obj {idx k : Nat} (G : tkG E X cc nL own ret) (hd : decode cc pc = .ok (.invokespecial idx, 3)) (hw : Cond.methodLink own idx Lib.objectInit ∈ tkTb ∧ Cond.instanceMethod Lib.objectInit ∈ tkTb ∧ Cond.code Lib.objectInit ⟨#[0xb1]⟩ 1 none ∈ tkTb) (hR : 1 ≤ (x_R X).frames ∧ 12 ≤ (x_R X).locals) (kk : tkJ n0 E X nL c w Z (pc + 3) al (fun _ => []) n S h) : tkJ n0 E X nL c w Z pc al (fun ad => [.ref (ad k)]) n S h := by
  intro hW hz ad g H locs ls hP hD hS hl
  exact W.objInit G.1.1 G.1.2.1 G.1.2.2.2.1 (G.1.2.2.2.2 _ hw.1) (G.1.2.2.2.2 _ hw.2.1) (G.1.2.2.2.2 _ hw.2.2) rfl (by rw [G.1.2.2.1]; exact hl.1) rfl hd hR.1 (by show 2 * 0 + 0 + 12 ≤ _; exact hR.2) (kk hW hz ad g H locs ls hP hD hS hl)
theorem J_after {mc ms n' : Nat} {S' : Nat → tkK} {h' : tkH} {av : (Nat → Nat) → Array Value}
    (hr : wfS n S → hz0 n h → ∀ ad : Nat → Nat, (∀ i, i < n0 → ad i = e_ad E i) → ∀ (H : Heap) (locs : List Loc) (ls : Array Slot), va_P E.2.1 vwCl (tkW (eAd E ad) (oT n S) h) H → va_D (tkA E) (tkW (eAd E ad) (oT n S) h) → va_S (tkA E) (x_s X).heap H locs → lv_has ls nL (al ad) → va_Run X.1 E.1 X.2.1 (x_R X) (x_s X) (x_m X) (x_args X) (x_below X) (x_meth X) (x_c X) H locs c w mc ms (F0 (x_m X) pc ls (st0 ad)) (st ad) (tkQN (eAd E ad) n n' S' h' (av ad)) (tkA E))
    (h0 : n0 ≤ n) (ha : kpt n al) (hs : kpt n st) (hW' : wfS n S → wfS n' S') (hz' : hz0 n h → hz0 n' h') (kk : tkJ n0 E X nL (c + mc) (w + ms) Z (pc + 3) al st n' S' h') : tkJ n0 E X nL c w Z pc al st0 n S h := by
  intro hW hz ad g H locs ls hP hD hS hl Ts hT Xs
  obtain ⟨v, st₀, t, T', L, h1, X', hL, e1, e2, ⟨hv, ⟨ad', hag, hU⟩, hF⟩, stp⟩ := hr hW hz ad g H locs ls hP hD hS hl Ts hT Xs
  cases hv
  have k1 := kk (hW' hW) (hz' hz) ad' (fun i hi => (hag i (by omega)).trans (g i hi))
  have ea : al ad' = al ad := ha ad ad' hag
  have es : st ad' = st ad := hs ad ad' hag
  rw [ea, es] at k1
  obtain ⟨t2, a1, b1⟩ := k1 T'.heap (locs ++ L) ls (by rw [e1]; exact hU.2.1) hU.2.2 ⟨Nat.le_trans hS.1 (by rw [e1, ← h1]; exact hF.1), fun q g1 g2 => by
      rw [e1, hF.2 q (by rw [h1]; exact Nat.lt_of_lt_of_le g1 hS.1) g2, h1]
      exact hS.2.1 q g1 g2, fun q hq => by
      rcases List.mem_append.mp hq with z | z
      · exact hS.2.2 q z
      · exact hL q z⟩ hl T' rfl X'
  exact ⟨t2, stp t2 a1, b1⟩
theorem tkUN_blind {E : tkE} {Q : List String} {T : tkT} {av : List Value} {h : tkH} : FrameBlind (va_Pc av (fun U => tkU E T h U ∧ aoQ Q U)) := fun a U g mk q => ⟨q.1, ⟨tkB_call q.2.1.1, q.2.1.2⟩, aoQ_mv (u := U) (U := U.calling g mk a) (Vm.Alike.refl U.vm) q.2.2⟩
theorem J_ci {Q : List String} {y : MethodName} {bC : ByteArray} {nC k d idx b mc ms n' : Nat} {S' : Nat → tkK} {h' : tkH} {As : (Nat → Nat) → List Value} (G : tkG E X cc nL own ret) (hd : decode cc pc = .ok (.invokespecial idx, 3)) (hY : tkY y bC nC none k) (hyi : y.name = "<init>") (hw : Cond.methodLink own idx y ∈ tkTb) (hi : Cond.instanceMethod y ∈ tkTb) (hQ : aoQ Q (x_s X))
    (hR : d + 1 ≤ (x_R X).frames ∧ 8 + (nC + 11) + 40 * d ≤ (x_R X).locals) (hM : wfS n S → hz0 n h → ∀ ad : Nat → Nat, (∀ i, i < n0 → ad i = e_ad E i) → tkMN (eAd E ad) Q y bC nC d mc ms n S h b (As ad) n' S' h') (hn : ∀ ad, (As ad).length = k) (hst : ∀ ad, st0 ad = (As ad).reverse ++ .ref (ad b) :: st ad) (hcat : ∀ ad, ((st ad).map fun v => v.category).sum ≤ 8) (hcell : c + mc ≤ (x_R X).cells ∧ w + ms ≤ (x_R X).slots)
    (h0 : n0 ≤ n) (ha : kpt n al) (hs : kpt n st) (hW' : wfS n S → wfS n' S') (hz' : hz0 n h → hz0 n' h') (kk : tkJ n0 E X nL (c + mc) (w + ms) Z (pc + 3) al st n' S' h') : tkJ n0 E X nL c w Z pc al st0 n S h := by
  refine J_after (av := fun ad => (.ref (ad b) :: As ad).toArray) (fun hW hz ad g H locs ls hP hD hS hl => ?_) h0 ha hs hW' hz' kk
  rw [hst ad]
  have hc := hcat ad
  exact va_runI (nL := nL) (n := k) G.1 (hM hW hz ad g) ⟨callB_of k G.1.2.2.2.2 (tk_goodIn hY.1) rfl rfl rfl (G.1.2.2.2.2 _ hY.2.1) (G.1.2.2.2.2 _ hw) hY.2.2 hR, hyi, G.1.2.2.2.2 _ hi⟩ ⟨tkUN_blind, fun U hU hW => ⟨rfl, tkU_next (E := eAd E ad) G.2.1 hP hD hS hU hW, aoQ_mv hW.alike hQ⟩⟩ rfl (hn ad) hl.1 rfl (by show 2 * 0 + _ ≤ 8; omega) hd hcell
theorem J_cn {Q : List String} {y : MethodName} {bC : ByteArray} {nC k d idx b mc ms n' : Nat} {hst0 : String} {S' : Nat → tkK} {h' : tkH} {As : (Nat → Nat) → List Value} (G : tkG E X cc nL own ret) (hd : decode cc pc = .ok (.invokespecial idx, 3)) (hY : tkY y bC nC none k) (hyi : y.name = "<init>") (hw : Cond.methodLinkNest own idx y hst0 ∈ lw_tbl) (hi : Cond.instanceMethod y ∈ tkTb) (hQ : aoQ Q (x_s X))
    (hR : d + 1 ≤ (x_R X).frames ∧ 8 + (nC + 11) + 40 * d ≤ (x_R X).locals) (hM : wfS n S → hz0 n h → ∀ ad : Nat → Nat, (∀ i, i < n0 → ad i = e_ad E i) → tkMN (eAd E ad) Q y bC nC d mc ms n S h b (As ad) n' S' h') (hn : ∀ ad, (As ad).length = k) (hst : ∀ ad, st0 ad = (As ad).reverse ++ .ref (ad b) :: st ad) (hcat : ∀ ad, ((st ad).map fun v => v.category).sum ≤ 8) (hcell : c + mc ≤ (x_R X).cells ∧ w + ms ≤ (x_R X).slots)
    (h0 : n0 ≤ n) (ha : kpt n al) (hs : kpt n st) (hW' : wfS n S → wfS n' S') (hz' : hz0 n h → hz0 n' h') (kk : tkJ n0 E X nL (c + mc) (w + ms) Z (pc + 3) al st n' S' h') : tkJ n0 E X nL c w Z pc al st0 n S h := by
  refine J_after (av := fun ad => (.ref (ad b) :: As ad).toArray) (fun hW hz ad g H locs ls hP hD hS hl => ?_) h0 ha hs hW' hz' kk
  rw [hst ad]
  have hc := hcat ad
  exact va_runIN (nL := nL) (n := k) (host := hst0) G.1 (hM hW hz ad g) ⟨va_cnB k G.1.2.2.2.2 (tk_goodIn hY.1) rfl rfl rfl (G.2.1.2.1 _ _ _ _ hw) (G.1.2.2.2.2 _ hY.2.1) hY.2.2 hR, hyi, G.1.2.2.2.2 _ hi⟩ ⟨tkUN_blind, fun U hU hW => ⟨rfl, tkU_next (E := eAd E ad) G.2.1 hP hD hS hU hW, aoQ_mv hW.alike hQ⟩⟩ rfl (hn ad) hl.1 rfl (by show 2 * 0 + _ ≤ 8; omega) hd hcell
theorem J_cs {y : MethodName} {bC : ByteArray} {nC k d idx : Nat} {h' : tkH} {As : (Nat → Nat) → List Value} (G : tkG E X cc nL own ret) (hd : decode cc pc = .ok (.invokestatic idx, 3)) (hY : tkY y bC nC none k) (hw : Cond.methodLink own idx y ∈ tkTb) (hi : Cond.static y ∈ tkTb)
    (hR : d + 1 ≤ (x_R X).frames ∧ 8 + (nC + 11) + 40 * d ≤ (x_R X).locals) (hM : ∀ ad : Nat → Nat, tkM (eAd E ad) y bC nC none d (oT n S) (As ad) h none h') (hn : ∀ ad, (As ad).length = k) (hst : ∀ ad, st0 ad = (As ad).reverse ++ st ad) (hcat : ∀ ad, ((st ad).map fun v => v.category).sum ≤ 8) (hcell : c ≤ (x_R X).cells ∧ w ≤ (x_R X).slots) (hz' : hz0 n h → hz0 n h')
    (kk : tkJ n0 E X nL c w Z (pc + 3) al st n S h') : tkJ n0 E X nL c w Z pc al st0 n S h :=
  fun hW hz ad g => tk_callS (E := eAd E ad) G hd hY hw hi hR (hM ad) (hn ad) (hst ad) (hcat ad) hcell (kk hW (hz' hz) ad g)
theorem tkq_nil {E : tkE} : tkq E [] = fun _ => none := rfl
/-- a new array of books, or of sheets -/
theorem J_nqB {v : Int32} {N idx : Nat} (G : tkG E X cc nL own ret) (hd : decode cc pc = .ok (.anewarray idx, 3)) (hv : v = nI N) (hN : N < 100000) (hw : Cond.classLink own idx RX0 ∈ tkTb) (ho : va_AO RX0 (x_s X)) (hcl : c + 1 ≤ (x_R X).cells ∧ w + N ≤ (x_R X).slots) (h0 : n0 ≤ n) (ha : kpt n al) (hs : kpt n st)
    (kk : tkJ n0 E X nL (c + 1) (w + N) Z (pc + 3) al (fun ad => .ref (ad n) :: st ad) (n + 1) (oS S n (1, N, [])) h) : tkJ n0 E X nL c w Z pc al (fun ad => .int v :: st ad) n S h := by
  intro hW hz ad g H locs ls hP hD hSv hl
  subst hv
  refine va_newq G.1.1 G.1.2.1 G.1.2.2.2.1 (G.1.2.2.2.2 _ hw) ho G.2.1.1 hP hD hSv (hA_of G) (nI_pos (by omega)) (nI_clamp (by omega)) (show N * 4 ≤ 536870912 by omega) hcl.1 hcl.2 hd (fun q cA H1 hK1 hP1 hD1 hS1 => ?_)
  have eC : cA = E.2.2.2.2.1 := tkB_cB G.2.1 ((hK1.2 _ (cA, .object RX0) (by rw [List.getElem?_append_right (by exact Nat.le_refl _), Nat.sub_self]; rfl)).2)
  subst eC
  obtain ⟨ad', ha'⟩ : ∃ ad' : Nat → Nat, ad' = fun i => if i = n then q else ad i := ⟨_, rfl⟩
  have e : ∀ i, i < n → ad' i = ad i := fun i hi => by rw [ha']; exact if_neg (by omega)
  have en : ad' n = q := by rw [ha']; exact if_pos rfl
  have ew : tkW (eAd E ad') (oT (n + 1) (oS S n (1, N, []))) h = tkW (eAd E ad) (oT n S) h ++ [(q, .inl (E.2.2.2.2.1, N, .inr (.inr (.inr (.inr (fun _ => none))))))] := by
    rw [tkW_new hW e, en]
    rfl
  rw [← ew] at hP1 hD1
  have k1 := kk (wf_new hW (fun a q => by cases q)) (fun j hj => hz j (by omega)) ad' (fun i hi => by rw [e i (by omega)]; exact g i hi) H1 locs ls hP1 hD1 hS1
  simp only [ha ad ad' e, hs ad ad' e, en] at k1
  exact k1 hl
theorem J_nqS {v : Int32} {N idx : Nat} (G : tkG E X cc nL own ret) (hd : decode cc pc = .ok (.anewarray idx, 3)) (hv : v = nI N) (hN : N < 100000) (hw : Cond.classLink own idx RX6 ∈ tkTb) (ho : va_AO RX6 (x_s X)) (hcl : c + 1 ≤ (x_R X).cells ∧ w + N ≤ (x_R X).slots) (h0 : n0 ≤ n) (ha : kpt n al) (hs : kpt n st)
    (kk : tkJ n0 E X nL (c + 1) (w + N) Z (pc + 3) al (fun ad => .ref (ad n) :: st ad) (n + 1) (oS S n (2, N, [])) h) : tkJ n0 E X nL c w Z pc al (fun ad => .int v :: st ad) n S h := by
  intro hW hz ad g H locs ls hP hD hSv hl
  subst hv
  refine va_newq G.1.1 G.1.2.1 G.1.2.2.2.1 (G.1.2.2.2.2 _ hw) ho G.2.1.1 hP hD hSv (hA_of G) (nI_pos (by omega)) (nI_clamp (by omega)) (show N * 4 ≤ 536870912 by omega) hcl.1 hcl.2 hd (fun q cA H1 hK1 hP1 hD1 hS1 => ?_)
  have eC : cA = E.2.2.2.2.2.1 := tkB_cS G.2.1 ((hK1.2 _ (cA, .object RX6) (by rw [List.getElem?_append_right (by exact Nat.le_refl _), Nat.sub_self]; rfl)).2)
  subst eC
  obtain ⟨ad', ha'⟩ : ∃ ad' : Nat → Nat, ad' = fun i => if i = n then q else ad i := ⟨_, rfl⟩
  have e : ∀ i, i < n → ad' i = ad i := fun i hi => by rw [ha']; exact if_neg (by omega)
  have en : ad' n = q := by rw [ha']; exact if_pos rfl
  have ew : tkW (eAd E ad') (oT (n + 1) (oS S n (2, N, []))) h = tkW (eAd E ad) (oT n S) h ++ [(q, .inl (E.2.2.2.2.2.1, N, .inr (.inr (.inr (.inr (fun _ => none))))))] := by
    rw [tkW_new hW e, en]
    rfl
  rw [← ew] at hP1 hD1
  have k1 := kk (wf_new hW (fun a q => by cases q)) (fun j hj => hz j (by omega)) ad' (fun i hi => by rw [e i (by omega)]; exact g i hi) H1 locs ls hP1 hD1 hS1
  simp only [ha ad ad' e, hs ad ad' e, en] at k1
  exact k1 hl
theorem tkq_push {E : tkE} {rs : List (Option (Option Nat))} {m : Nat} : tkq E (rs ++ [some (some m)]) = va_up (tkq E rs) rs.length (some (e_ad E m)) := by
  funext j
  unfold tkq va_up
  by_cases q : j < rs.length
  · rw [if_neg (by omega), List.getD_eq_getElem?_getD, List.getElem?_append_left q, ← List.getD_eq_getElem?_getD]
  · by_cases q2 : j = rs.length
    · rw [if_pos q2, q2, List.getD_eq_getElem?_getD, List.getElem?_append_right (Nat.le_refl _), Nat.sub_self]
      rfl
    · rw [if_neg q2]
      show Option.map _ (((rs ++ [some (some m)]).getD j none).getD none) = Option.map _ ((rs.getD j none).getD none)
      rw [List.getD_eq_getElem?_getD, List.getElem?_append_right (by omega), List.getD_eq_getElem?_getD, List.getElem?_eq_none (show rs.length ≤ j by omega)]
      obtain ⟨x, hx⟩ : ∃ x, j - rs.length = x + 1 := ⟨j - rs.length - 1, by omega⟩
      rw [hx]
      rfl
theorem wf_push {k m t N : Nat} {rs : List (Option (Option Nat))} (hW : wfS n S) (hk : k < n) (hm : m < n) (hS : S k = (t, N, rs)) : wfS n (oS S k (t, N, rs ++ [some (some m)])) := by
  intro i hi a ha
  by_cases q : i = k
  · rw [q, oS_s] at ha
    unfold rfs at ha
    rcases List.mem_append.mp ha with z | z
    · exact hW k hk a (by unfold rfs; rw [hS]; exact z)
    · have := List.mem_singleton.mp z
      cases this
      exact hm
  · rw [oS_n q] at ha
    exact hW i hi a ha
theorem tkW_oS {ad : Nat → Nat} {k : Nat} {v : tkK} {e : va_E} (hk : k < n) (he : tkc (eAd E ad) h k v = e) : (tkW (eAd E ad) (oT n S) h).set k (e_ad (eAd E ad) k, e) = tkW (eAd E ad) (oT n (oS S k v)) h := by
  apply List.ext_getElem?
  intro i
  rw [List.getElem?_set]
  have L : (tkW (eAd E ad) (oT n S) h).length = n := by rw [tkW_len, oT_len]
  by_cases q : k = i
  · subst q
    rw [if_pos rfl, if_pos (by omega), tkW_get (oT_get hk), oS_s, he]
  · rw [if_neg q]
    by_cases hi2 : i < n
    · rw [tkW_get (oT_get hi2), tkW_get (oT_get hi2), oS_n (fun z => q z.symm)]
    · rw [tkW_none (oT_none (by omega)), tkW_none (oT_none (by omega))]
theorem J_aaB {k m i N : Nat} {rs rs1 : List (Option (Option Nat))} (G : tkG E X cc nL own ret) (hd : decode cc pc = .ok (.aastore, 1)) (hk : k < n) (hm : m < n) (hS : S k = (1, N, rs)) (hSm : S m = (3, 9, rs1)) (hl0 : rs.length = i) (hiN : i < N) (hN : N < 100000)
    (kk : tkJ n0 E X nL c w Z (pc + 1) al st n (oS S k (1, N, rs ++ [some (some m)])) h) : tkJ n0 E X nL c w Z pc al (fun ad => .ref (ad m) :: .int (nI i) :: .ref (ad k) :: st ad) n S h := by
  intro hW hz ad g H locs ls hP hD hSv hl
  have hk' : (oT n S)[k]? = some (1, N, rs) := by rw [oT_get hk, hS]
  have hm' : (oT n S)[m]? = some (3, 9, rs1) := by rw [oT_get hm, hSm]
  have ic : (nI i).toNatClampNeg = i := nI_clamp (by omega)
  refine va_astq (r := (RX0, TX0, 9)) G.1.1 G.1.2.1 G.2.1.1 hP hD hSv k 1 m 0 (tkW_get hk') rfl (tkW_get hm') rfl (show vp_in (nI i) N from by
    rintro (q | q)
    · exact nI_pos (n := i) (by omega) q
    · rw [ic] at q
      omega) hd (fun H1 locs1 hP1 hD1 hS1 => ?_)
  have ew := tkW_oS (E := E) (S := S) (h := h) (ad := ad) (v := (1, N, rs ++ [some (some m)])) (e := .inl (E.2.2.2.2.1, N, .inr (.inr (.inr (.inr (va_up (tkq (eAd E ad) rs) (nI i).toNatClampNeg (some (ad m)))))))) hk (by
    show (Sum.inl (E.2.2.2.2.1, N, Sum.inr (Sum.inr (Sum.inr (Sum.inr (tkq (eAd E ad) (rs ++ [some (some m)])))))) : va_E) = _
    rw [tkq_push, hl0, ic]
    rfl)
  have ew' := ew.symm
  exact kk (wf_push hW hk hm hS) hz ad g H1 locs1 ls (by rw [ew']; exact hP1) (by rw [ew']; exact hD1) hS1 hl
theorem J_aaS {k m i N : Nat} {rs rs1 : List (Option (Option Nat))} (G : tkG E X cc nL own ret) (hd : decode cc pc = .ok (.aastore, 1)) (hk : k < n) (hm : m < n) (hS : S k = (2, N, rs)) (hSm : S m = (9, 3, rs1)) (hl0 : rs.length = i) (hiN : i < N) (hN : N < 100000)
    (kk : tkJ n0 E X nL c w Z (pc + 1) al st n (oS S k (2, N, rs ++ [some (some m)])) h) : tkJ n0 E X nL c w Z pc al (fun ad => .ref (ad m) :: .int (nI i) :: .ref (ad k) :: st ad) n S h := by
  intro hW hz ad g H locs ls hP hD hSv hl
  have hk' : (oT n S)[k]? = some (2, N, rs) := by rw [oT_get hk, hS]
  have hm' : (oT n S)[m]? = some (9, 3, rs1) := by rw [oT_get hm, hSm]
  have ic : (nI i).toNatClampNeg = i := nI_clamp (by omega)
  refine va_astq (r := (RX6, TX6, 3)) G.1.1 G.1.2.1 G.2.1.1 hP hD hSv k 2 m 6 (tkW_get hk') rfl (tkW_get hm') rfl (show vp_in (nI i) N from by
    rintro (q | q)
    · exact nI_pos (n := i) (by omega) q
    · rw [ic] at q
      omega) hd (fun H1 locs1 hP1 hD1 hS1 => ?_)
  have ew := tkW_oS (E := E) (S := S) (h := h) (ad := ad) (v := (2, N, rs ++ [some (some m)])) (e := .inl (E.2.2.2.2.2.1, N, .inr (.inr (.inr (.inr (va_up (tkq (eAd E ad) rs) (nI i).toNatClampNeg (some (ad m)))))))) hk (by
    show (Sum.inl (E.2.2.2.2.2.1, N, Sum.inr (Sum.inr (Sum.inr (Sum.inr (tkq (eAd E ad) (rs ++ [some (some m)])))))) : va_E) = _
    rw [tkq_push, hl0, ic]
    rfl)
  have ew' := ew.symm
  exact kk (wf_push hW hk hm hS) hz ad g H1 locs1 ls (by rw [ew']; exact hP1) (by rw [ew']; exact hD1) hS1 hl
end
/-! Arrays.fill over any shape -/
def flh (h : tkH) (k N : Nat) (x : Int32) : tkH := fun a => if a = k then (fun j => if j < N then x else h k j) else h a
theorem flh_0 {h : tkH} {k : Nat} {x : Int32} : flh h k 0 x = h := by
  funext a
  unfold flh
  by_cases c : a = k
  · rw [if_pos c, c]
    rfl
  · rw [if_neg c]
theorem flh_s {h : tkH} {k i : Nat} {x : Int32} : tkup (flh h k i x) k i x = flh h k (i + 1) x := by
  funext a j
  rw [up_eq]
  unfold flh
  by_cases c : a = k
  · rw [if_pos c, if_pos c]
    by_cases c2 : j = i
    · rw [if_pos ⟨c, c2⟩, if_pos (by omega)]
    · rw [if_neg (fun q => c2 q.2)]
      by_cases c3 : j < i
      · rw [if_pos c3, if_pos (by omega)]
      · rw [if_neg c3, if_neg (by omega)]
  · rw [if_neg c, if_neg c, if_neg (fun q => c q.1)]
theorem c_fillT (E : tkE) (T : tkT) (h : tkH) (k N : Nat) (rs : List (Option (Option Nat))) (x : Int32) (hk : T[k]? = some (0, N, rs)) (hN : N < 100000) : tkM E yJ7_fill_53178 cJ7_fill_53178 4 none 0 T [.ref (e_ad E k), .int x] h none (flh h k N x) := by
  refine tkM_of (by decide) (Nat.le_of_ble_eq_true rfl) (fun X hR G => ?_)
  have loop : ∀ m i, m + i = N → tkV E X 4 0 0 (tkZ E X T none (flh h k N x)) 5 [(2, .int (nI i)), (3, .int (nI N)), (0, .ref (e_ad E k)), (1, .int x)] [] T (flh h k i x) := by
    intro m
    induction m with
    | zero =>
      intro i hi
      refine tk_iload_n G dJ7_fill_53178_5 0 rfl ?_
      refine tk_iload_n G dJ7_fill_53178_6 1 rfl ?_
      refine tk_icmp_ge (tgt := 20) G dJ7_fill_53178_7 rfl (fun _ => ?_) (fun q => absurd ((nI_leI (by omega) (by omega)).mpr (by omega)) q)
      rw [show i = N by omega]
      exact tk_vret G dJ7_fill_53178_20
    | succ m ih =>
      intro i hi
      refine tk_iload_n G dJ7_fill_53178_5 0 rfl ?_
      refine tk_iload_n G dJ7_fill_53178_6 1 rfl ?_
      refine tk_icmp_ge (tgt := 20) G dJ7_fill_53178_7 rfl (fun q => absurd ((nI_leI (by omega) (by omega)).mp q) (by omega)) (fun _ => ?_)
      refine tk_aload_n G dJ7_fill_53178_10 2 rfl ?_
      refine tk_iload_n G dJ7_fill_53178_11 0 rfl ?_
      refine tk_iload_n G dJ7_fill_53178_12 3 rfl ?_
      have ic : (nI i).toNatClampNeg = i := nI_clamp (by omega)
      refine tk_iast G dJ7_fill_53178_13 hk (show vp_in (nI i) N from by
        rintro (q | q)
        · exact nI_pos (n := i) (by omega) q
        · rw [ic] at q
          omega) ?_
      rw [ic, flh_s]
      refine tk_iinc (v := nI (i + 1)) (al' := [(2, .int (nI (i + 1))), (3, .int (nI N)), (0, .ref (e_ad E k)), (1, .int x)]) G dJ7_fill_53178_14 0 rfl (by rw [ci_1, nI_1]) (by decide) rfl ?_
      refine tk_goto (tgt := 5) G dJ7_fill_53178_17 rfl ?_
      exact ih (i + 1) (by omega)
  refine tk_iconst G dJ7_fill_53178_0 cI_0 ?_
  refine tk_istore_n (al' := [(2, .int 0), (0, .ref (e_ad E k)), (1, .int x)]) G dJ7_fill_53178_1 (by decide) rfl ?_
  refine tk_aload_n G dJ7_fill_53178_2 1 rfl ?_
  refine tk_alen G dJ7_fill_53178_3 hk ?_
  refine tk_istore_n (al' := [(3, .int (nI N)), (2, .int 0), (0, .ref (e_ad E k)), (1, .int x)]) G dJ7_fill_53178_4 (by decide) rfl ?_
  refine tkV_mono [1, 0, 2, 3] rfl ?_
  have z := loop N 0 (by omega)
  rw [flh_0] at z
  exact z
