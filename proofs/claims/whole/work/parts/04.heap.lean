/-! the heap's rows, calls, returns -/
/-- a class by its number: its name, its fields, how many; its words; its fields' types and names -/
def tkC (c : Nat) (C : String) (Tb : u_T) (N : Nat) : Prop := vwCl[c]? = some (C, Tb, N) ∧ (∀ w ∈ u_ws C Tb N, w ∈ tkTb) ∧ ∃ ty : Nat → FieldType, (∀ k, k < N → parseFieldDescriptor (Tb k).2.2.1 = some (ty k)) ∧ (∀ a, a < N → ∀ b, b < N → a ≠ b → (Tb a).2.1 ≠ (Tb b).2.1)
theorem tk_ws_in {C : String} {Tb : u_T} {N : Nat} (h : ∀ w ∈ u_ws C Tb N, w ∈ lw_tbl) : ∀ w ∈ u_ws C Tb N, w ∈ tkTb := fun w hw => tk_tb (h w hw) (by
  obtain ⟨k, -, rfl⟩ := List.mem_map.mp hw
  unfold u_lay
  split <;> rfl)
theorem kX0 : tkC 0 RX0 TX0 9 := ⟨rfl, tk_ws_in inX0, tyX0, tyX0_ok, nmX0⟩
theorem kX1 : tkC 1 RX1 TX1 5 := ⟨rfl, tk_ws_in inX1, tyX1, tyX1_ok, nmX1⟩
theorem kX2 : tkC 2 RX2 TX2 2 := ⟨rfl, tk_ws_in inX2, tyX2, tyX2_ok, nmX2⟩
theorem kX3 : tkC 3 RX3 TX3 3 := ⟨rfl, tk_ws_in inX3, tyX3, tyX3_ok, nmX3⟩
theorem kX4 : tkC 4 RX4 TX4 10 := ⟨rfl, tk_ws_in inX4, tyX4, tyX4_ok, nmX4⟩
theorem kX5 : tkC 5 RX5 TX5 3 := ⟨rfl, tk_ws_in inX5, tyX5, tyX5_ok, nmX5⟩
theorem kX6 : tkC 6 RX6 TX6 3 := ⟨rfl, tk_ws_in inX6, tyX6, tyX6_ok, nmX6⟩
theorem kX7 : tkC 7 RX7 TX7 4 := ⟨rfl, tk_ws_in inX7, tyX7, tyX7_ok, nmX7⟩
theorem kX8 : tkC 8 RX8 TX8 7 := ⟨rfl, tk_ws_in inX8, tyX8, tyX8_ok, nmX8⟩
theorem kX9 : tkC 9 RX9 TX9 29 := ⟨rfl, tk_ws_in inX9, tyX9, tyX9_ok, nmX9⟩
section
variable {E : tkE} {X : tkX} {cc : ByteArray} {nL n w : Nat} {own : String} {ret : Option FieldType} {Z : State → Prop} {pc : Nat} {al : List (Nat × Value)} {st : List Value} {T : tkT} {h : tkH}
theorem tk_getf {c N idx j k : Nat} {C : String} {Tb : u_T} {rs : List (Option (Option Nat))} {r : Option (Option Nat)} (G : tkG E X cc nL own ret) (hC : tkC c C Tb N) (hd : decode cc pc = .ok (.getfield idx, 3)) (hw : Cond.fieldLink own idx (Tb j).1 (Tb j).2.1 (Tb j).2.2.1 ∈ tkTb) (hj : j < N) (hk : T[k]? = some (c + 3, N, rs)) (hr : rs.getD j none = r)
    (kk : tkV E X nL n w Z (pc + 3) al (tkv E h k j r :: st) T h) : tkV E X nL n w Z pc al (.ref (e_ad E k) :: st) T h := by
  intro H locs ls hP hz hS hl
  refine va_get G.1.1 G.1.2.1 G.1.2.2.2.2 hC.2.1 G.1.2.2.2.1 G.2.1.1 hP k (tkW_get hk) hC.1 j hj (G.1.2.2.2.2 _ hw) (fun _ z => z) ?_ hd (kk H locs ls hP hz hS hl)
  simp [hj, ← hr]
theorem tk_putf {c N idx j k : Nat} {C : String} {Tb : u_T} {rs : List (Option (Option Nat))} {v : Int32} {ty : FieldType} (G : tkG E X cc nL own ret) (hC : tkC c C Tb N) (hd : decode cc pc = .ok (.putfield idx, 3)) (hw : Cond.fieldLink own idx (Tb j).1 (Tb j).2.1 (Tb j).2.2.1 ∈ tkTb) (hj : j < N) (hk : T[k]? = some (c + 3, N, rs)) (hr : rs.getD j none = none)
    (hf : (Tb j).2.2.2 = false) (hty : parseFieldDescriptor (Tb j).2.2.1 = some ty) (hn : narrow ty (.int v) = .int v) (hfit : fits ty (.int v) = true)
    (kk : tkV E X nL n w Z (pc + 3) al st T (tkup h k j v)) : tkV E X nL n w Z pc al (.int v :: .ref (e_ad E k) :: st) T h := by
  intro H locs ls hP hz hS hl
  obtain ⟨h1, h2, ty0, h3, h4⟩ := hC
  refine va_put G.1.1 G.1.2.1 G.1.2.2.2.2 h2 ty0 h3 h4 G.1.2.2.2.1 G.2.1.1 hP hz hS k (tkW_get hk) h1 j hj (G.1.2.2.2.2 _ hw) (fun _ z => z) hf hty hn hfit (by simpa using hj) hd (fun H1 locs1 hP1 hD1 hS1 => ?_)
  rw [tkW_fld hk hr] at hP1 hD1
  exact kk H1 locs1 ls hP1 hD1 hS1 hl
theorem tk_iald {k N : Nat} {i : Int32} {rs : List (Option (Option Nat))} (G : tkG E X cc nL own ret) (hd : decode cc pc = .ok (.iaload, 1)) (hk : T[k]? = some (0, N, rs)) (hin : vp_in i N)
    (kk : tkV E X nL n w Z (pc + 1) al (.int (h k i.toNatClampNeg) :: st) T h) : tkV E X nL n w Z pc al (.int i :: .ref (e_ad E k) :: st) T h := by
  intro H locs ls hP hz hS hl
  exact va_iald G.1.1 G.1.2.1 G.2.1.1 hP k 0 (tkW_get hk) rfl hin hd (kk H locs ls hP hz hS hl)
theorem tk_iast {k N : Nat} {i x : Int32} {rs : List (Option (Option Nat))} (G : tkG E X cc nL own ret) (hd : decode cc pc = .ok (.iastore, 1)) (hk : T[k]? = some (0, N, rs)) (hin : vp_in i N)
    (kk : tkV E X nL n w Z (pc + 1) al st T (tkup h k i.toNatClampNeg x)) : tkV E X nL n w Z pc al (.int x :: .int i :: .ref (e_ad E k) :: st) T h := by
  intro H locs ls hP hz hS hl
  refine va_iast G.1.1 G.1.2.1 G.2.1.1 hP hz hS k 0 (tkW_get hk) rfl hin hd (fun H1 locs1 hP1 hD1 hS1 => ?_)
  rw [tkW_arr hk] at hP1 hD1
  exact kk H1 locs1 ls hP1 hD1 hS1 hl
theorem tk_aaldB {k N a : Nat} {i : Int32} {rs : List (Option (Option Nat))} (G : tkG E X cc nL own ret) (hd : decode cc pc = .ok (.aaload, 1)) (hk : T[k]? = some (1, N, rs)) (hin : vp_in i N) (hr : rs.getD i.toNatClampNeg none = some (some a))
    (kk : tkV E X nL n w Z (pc + 1) al (.ref (e_ad E a) :: st) T h) : tkV E X nL n w Z pc al (.int i :: .ref (e_ad E k) :: st) T h := by
  intro H locs ls hP hz hS hl
  refine va_aldq G.1.1 G.1.2.1 G.2.1.1 hP k 1 (tkW_get hk) rfl hin hd ?_
  rw [show tkq E rs i.toNatClampNeg = some (e_ad E a) by simp only [tkq, hr]; rfl]
  exact kk H locs ls hP hz hS hl
theorem tk_aaldS {k N a : Nat} {i : Int32} {rs : List (Option (Option Nat))} (G : tkG E X cc nL own ret) (hd : decode cc pc = .ok (.aaload, 1)) (hk : T[k]? = some (2, N, rs)) (hin : vp_in i N) (hr : rs.getD i.toNatClampNeg none = some (some a))
    (kk : tkV E X nL n w Z (pc + 1) al (.ref (e_ad E a) :: st) T h) : tkV E X nL n w Z pc al (.int i :: .ref (e_ad E k) :: st) T h := by
  intro H locs ls hP hz hS hl
  refine va_aldq G.1.1 G.1.2.1 G.2.1.1 hP k 2 (tkW_get hk) rfl hin hd ?_
  rw [show tkq E rs i.toNatClampNeg = some (e_ad E a) by simp only [tkq, hr]; rfl]
  exact kk H locs ls hP hz hS hl
theorem tk_alen {k N : Nat} {rs : List (Option (Option Nat))} (G : tkG E X cc nL own ret) (hd : decode cc pc = .ok (.arraylength, 1)) (hk : T[k]? = some (0, N, rs))
    (kk : tkV E X nL n w Z (pc + 1) al (.int (Int32.ofNat N) :: st) T h) : tkV E X nL n w Z pc al (.ref (e_ad E k) :: st) T h := by
  intro H locs ls hP hz hS hl
  exact va_alen G.1.1 G.1.2.1 G.2.1.1 hP k 0 (tkW_get hk) rfl rfl hd (kk H locs ls hP hz hS hl)
theorem tk_getsN {idx : Nat} {hst : String} (G : tkG E X cc nL own ret) (hd : decode cc pc = .ok (.getstatic idx, 3)) (hw : Cond.fieldLinkNest own idx "TaleDesk" "CARRYINGS" "[I" hst ∈ lw_tbl)
    (kk : tkV E X nL n w Z (pc + 3) al (.ref (e_tC E) :: st) T h) : tkV E X nL n w Z pc al st T h := by
  intro H locs ls hP hz hS hl
  exact va_getsN G.1.1 G.1.2.1 G.2.1.2.2.2.1 hS G.1.2.2.2.1 (va_Nw.use rfl (G.2.1.2.2.1 _ _ _ _ _ _ hw)) (fun _ z => z) hd (kk H locs ls hP hz hS hl)
theorem tk_cald {i : Int32} (G : tkG E X cc nL own ret) (hd : decode cc pc = .ok (.iaload, 1)) (hin : vp_in i 24)
    (kk : tkV E X nL n w Z (pc + 1) al (.int (tkCv i.toNatClampNeg) :: st) T h) : tkV E X nL n w Z pc al (.int i :: .ref (e_tC E) :: st) T h := by
  intro H locs ls hP hz hS hl
  exact va_ti G.1.1 G.1.2.1 G.2.1.2.2.2.2.1 hS hin rfl hd (kk H locs ls hP hz hS hl)
theorem tk_clen (G : tkG E X cc nL own ret) (hd : decode cc pc = .ok (.arraylength, 1))
    (kk : tkV E X nL n w Z (pc + 1) al (.int 24 :: st) T h) : tkV E X nL n w Z pc al (.ref (e_tC E) :: st) T h := by
  intro H locs ls hP hz hS hl
  exact va_tlen G.1.1 G.1.2.1 G.2.1.2.2.2.2.1 hS rfl hd (kk H locs ls hP hz hS hl)
theorem tk_copy {idx k k1 N N1 : Nat} {sp dp m : Int32} {rs rs1 : List (Option (Option Nat))} (G : tkG E X cc nL own ret) (hd : decode cc pc = .ok (.invokestatic idx, 3)) (hw : Cond.methodLink own idx arraycopyName ∈ tkTb) (hk : T[k]? = some (0, N, rs)) (hk1 : T[k1]? = some (0, N1, rs1))
    (hR : 1 ≤ (x_R X).frames ∧ (st.map fun v => v.category).sum + (nativeFrameWords "java/lang/System" "arraycopy" 5 + 11) ≤ (x_R X).locals) (h1 : ¬ sp < 0) (h2 : ¬ dp < 0) (h3 : ¬ m < 0) (h4 : sp.toNatClampNeg + m.toNatClampNeg ≤ N) (h5 : dp.toNatClampNeg + m.toNatClampNeg ≤ N1)
    (kk : tkV E X nL n w Z (pc + 3) al st T (tkcp h k sp.toNatClampNeg k1 dp.toNatClampNeg m.toNatClampNeg)) : tkV E X nL n w Z pc al (.int m :: .int dp :: .ref (e_ad E k1) :: .int sp :: .ref (e_ad E k) :: st) T h := by
  intro H locs ls hP hz hS hl
  refine va_copyi G.1.1 G.1.2.1 (by rw [hl.1]; exact G.1.2.2.1) G.1.2.2.2.1 (G.1.2.2.2.2 _ hw) (G.1.2.2.2.2 _ (tk_tb (by decide +kernel) rfl)) (G.1.2.2.2.2 _ (tk_tb (by decide +kernel) rfl)) (G.1.2.2.2.2 _ (tk_tb (by decide +kernel) rfl)) G.2.1.1 hP hz hS k k1 0 0 (tkW_get hk) (tkW_get hk1) rfl rfl rfl h1 h2 h3 h4 h5 (fun _ _ => rfl) hR.1 hR.2 hd (fun H1 locs1 hP1 hD1 hS1 => ?_)
  rw [tkW_cpy hk1] at hP1 hD1
  exact kk H1 locs1 ls hP1 hD1 hS1 hl
end
/-! contracts -/
def tkR (d : Nat) : Room := { frames := d, cells := 0, slots := 0, locals := 40 * d }
def tkQ (E : tkE) (T : tkT) (r : Option Value) (h' : tkH) : Array Value → State → Outcome → State → Prop := fun _ st o t => o = .returned r ∧ tkU E T h' t ∧ va_F (tkA E) st t
def tkM (E : tkE) (y : MethodName) (cc : ByteArray) (nL : Nat) (ret : Option FieldType) (d : Nat) (T : tkT) (av : List Value) (h : tkH) (r : Option Value) (h' : tkH) : Prop :=
  Met E.1 y (Cond.code y cc nL ret :: tkTb) (tkR d) (va_Pc av (tkU E T h)) (tkQ E T r h') 0 0 (tkA E)
/-- the end of a method that answers r and leaves h' -/
def tkZ (E : tkE) (X : tkX) (T : tkT) (r : Option Value) (h' : tkH) : State → Prop := MQ (x_below X) (tkQ E T r h') (x_args X) (x_s X) 0 0 (tkA E)
theorem tkU_blind {E : tkE} {T : tkT} {av : List Value} {h : tkH} : FrameBlind (va_Pc av (tkU E T h)) := fun _ _ _ _ q => ⟨q.1, tkB_call q.2.1, q.2.2⟩
theorem tkU_next {E : tkE} {T : tkT} {h : tkH} {s U : State} {H : Heap} {locs : List Loc} (hB : tkB E s) (hP : va_P E.2.1 vwCl (tkW E T h) H) (hD : va_D (tkA E) (tkW E T h)) (hS : va_S (tkA E) s.heap H locs) (hU : U.heap = H) (hW : s.WarmedH U.vm) : tkU E T h U := by
  subst hU
  exact ⟨tkB_next hB hW hS, hP, hD⟩
theorem tkM_of {E : tkE} {y : MethodName} {cc : ByteArray} {nL : Nat} {ret : Option FieldType} {d : Nat} {T : tkT} {av : List Value} {h : tkH} {r : Option Value} {h' : tkH} (hy : plainName y.cls = true) (hlen : (lg_sl av).length ≤ nL)
    (hb : ∀ X : tkX, x_R X = tkR d → tkG E X cc nL y.cls ret → tkV E X nL 0 0 (tkZ E X T r h') 0 (lv_args 0 av) [] T h) : tkM E y cc nL ret d T av h r h' := by
  refine Met.ofW (cc := cc) (maxL := nL) (ret := ret) hy rfl ?_
  intro p e s m args below meth c s₁ B hml hv
  obtain ⟨rfl, hU⟩ := hv
  have hG : tkG E (p, e, tkR d, s, m, av.toArray, below, meth, c) cc nL y.cls ret := ⟨⟨B.exec, B.bytes, hml, findClass_of_methodNamed B.named, fun w hw => atoms_spec (ws := Cond.code y cc nL ret :: tkTb) B.pre w (List.mem_cons_of_mem _ hw)⟩, hU.1, B.notSynchronized, B.returns⟩
  rw [lg_entry_eq]
  exact hb (p, e, tkR d, s, m, av.toArray, below, meth, c) rfl hG s.heap [] _ hU.2.1 hU.2.2 va_S.rf (lv_entry av hlen)
section
variable {E : tkE} {X : tkX} {cc : ByteArray} {nL n w : Nat} {own : String} {ret : Option FieldType} {Z : State → Prop} {pc : Nat} {al : List (Nat × Value)} {st : List Value} {T : tkT} {h : tkH}
theorem tk_iret {v : Int32} (G : tkG E X cc nL own (some .int)) (hd : decode cc pc = .ok (.ireturn, 1)) : tkV E X nL 0 0 (tkZ E X T (some (.int v)) h) pc al [.int v] T h := by
  intro H locs ls hP hz hS hl
  exact W.iret G.1.1 G.1.2.1 G.2.2.2 (fun t ht hW => ⟨rfl, tkU_next G.2.1 hP hz hS ht hW, hS.F ht⟩) hS.2.2 hd G.2.2.1
theorem tk_zret {v : Int32} (G : tkG E X cc nL own (some .boolean)) (hd : decode cc pc = .ok (.ireturn, 1)) (hv : v = 0 ∨ v = 1) : tkV E X nL 0 0 (tkZ E X T (some (.int v)) h) pc al [.int v] T h := by
  intro H locs ls hP hz hS hl
  exact W.zret G.1.1 G.1.2.1 G.2.2.2 (by rcases hv with rfl | rfl <;> rfl) (fun t ht hW => ⟨rfl, tkU_next G.2.1 hP hz hS ht hW, hS.F ht⟩) hS.2.2 hd G.2.2.1
theorem tk_vret (G : tkG E X cc nL own none) (hd : decode cc pc = .ok (.return_, 1)) : tkV E X nL 0 0 (tkZ E X T none h) pc al [] T h := by
  intro H locs ls hP hz hS hl
  exact W.vret G.1.1 G.1.2.1 G.2.2.2 (fun t ht hW => ⟨rfl, tkU_next G.2.1 hP hz hS ht hW, hS.F ht⟩) hS.2.2 hd G.2.2.1
theorem tk_aret {a : Nat} {C : String} (G : tkG E X cc nL own (some (.object C))) (hd : decode cc pc = .ok (.areturn, 1)) : tkV E X nL 0 0 (tkZ E X T (some (.ref a)) h) pc al [.ref a] T h := by
  intro H locs ls hP hz hS hl
  exact W.aret G.1.1 G.1.2.1 G.2.2.2 (Or.inl ⟨_, rfl⟩) (Or.inr ⟨_, rfl⟩) (fun t ht hW => ⟨rfl, tkU_next G.2.1 hP hz hS ht hW, hS.F ht⟩) hS.2.2 hd G.2.2.1
/-- behind a call -/
theorem tk_after {av : List Value} {r : Option Value} {h' : tkH} {rest st0 : List Value} (hr : ∀ (H : Heap) (locs : List Loc) (ls : Array Slot), va_P E.2.1 vwCl (tkW E T h) H → va_D (tkA E) (tkW E T h) → va_S (tkA E) (x_s X).heap H locs → lv_has ls nL al → va_Run X.1 E.1 X.2.1 (x_R X) (x_s X) (x_m X) (x_args X) (x_below X) (x_meth X) (x_c X) H locs n w 0 0 (F0 (x_m X) pc ls st0) rest (tkQ E T r h' av.toArray) (tkA E))
    (kk : tkV E X nL n w Z (pc + 3) al (r.toList ++ rest) T h') : tkV E X nL n w Z pc al st0 T h := by
  intro H locs ls hP hz hS hl Ts hT Xs
  obtain ⟨v, st₀, t, T', L, h0, X', hL, e1, e2, ⟨hv, hU, hF⟩, stp⟩ := hr H locs ls hP hz hS hl Ts hT Xs
  cases hv
  obtain ⟨t2, a1, b1⟩ := kk T'.heap (locs ++ L) ls (by rw [e1]; exact hU.2.1) hU.2.2 ⟨Nat.le_trans hS.1 (by rw [e1, ← h0]; exact hF.1), fun q g1 g2 => by
      rw [e1, hF.2 q (by rw [h0]; exact Nat.lt_of_lt_of_le g1 hS.1) g2, h0]
      exact hS.2.1 q g1 g2, fun q hq => by
      rcases List.mem_append.mp hq with z | z
      · exact hS.2.2 q z
      · exact hL q z⟩ hl T' rfl X'
  exact ⟨t2, stp t2 a1, b1⟩
def tkArity (y : MethodName) (k : Nat) : Prop := y.cls ≠ "java/lang/invoke/MethodHandle" ∧ y.cls ≠ "java/lang/invoke/VarHandle" ∧ (parseMethodDescriptor y.desc).map (fun d => d.parameters.length) = some k
/-- a callee's words -/
def tkY (y : MethodName) (bC : ByteArray) (nC : Nat) (rC : Option FieldType) (k : Nat) : Prop := Cond.code y bC nC rC ∈ tkTb ∧ Cond.initialized y.cls ∈ tkTb ∧ tkArity y k
theorem tk_goodIn {y : MethodName} {bC : ByteArray} {nC : Nat} {rC : Option FieldType} (hc : Cond.code y bC nC rC ∈ tkTb) : GoodIn tkTb (Cond.code y bC nC rC :: tkTb) := by
  intro x hx
  have hx' : x ∈ tkTb := by
    rcases List.mem_cons.mp hx with rfl | z
    · exact hc
    · exact z
  exact ⟨hx', good_of_word (List.mem_filter.mp hx').2⟩
theorem tk_callV {y : MethodName} {bC : ByteArray} {nC k d idx c N b : Nat} {C : String} {Tb : u_T} {rs : List (Option (Option Nat))} {rC : Option FieldType} {As : List Value} {r : Option Value} {h' : tkH} {st0 : List Value} (G : tkG E X cc nL own ret) (hd : decode cc pc = .ok (.invokevirtual idx, 3)) (hY : tkY y bC nC rC k) (hw : Cond.methodLink own idx y ∈ tkTb) (hi : Cond.instanceMethod y ∈ tkTb) (hs : Cond.selects C y y ∈ tkTb)
    (hR : d + 1 ≤ (x_R X).frames ∧ 8 + (nC + 11) + 40 * d ≤ (x_R X).locals) (hC : tkC c C Tb N) (hb : T[b]? = some (c + 3, N, rs)) (hM : tkM E y bC nC rC d T (.ref (e_ad E b) :: As) h r h') (hn : As.length = k) (hst : st0 = As.reverse ++ .ref (e_ad E b) :: st) (hcat : (st.map fun v => v.category).sum ≤ 8) (hcell : n ≤ (x_R X).cells ∧ w ≤ (x_R X).slots)
    (kk : tkV E X nL n w Z (pc + 3) al (r.toList ++ st) T h') : tkV E X nL n w Z pc al st0 T h := by
  subst hst
  refine tk_after (av := .ref (e_ad E b) :: As) (fun H locs ls hP hz hS hl => ?_) kk
  refine va_runV (nL := nL) (n := k) G.1 hM ⟨callB_of k G.1.2.2.2.2 (tk_goodIn hY.1) rfl rfl rfl (G.1.2.2.2.2 _ hY.2.1) (G.1.2.2.2.2 _ hw) hY.2.2 hR, G.1.2.2.2.2 _ hi, G.1.2.2.2.2 _ hs⟩ ⟨tkU_blind, ?_, fun U hU hW => ⟨rfl, tkU_next G.2.1 hP hz hS hU hW⟩⟩ rfl hn hl.1 rfl (by show 2 * 0 + _ ≤ 8; omega) hd hcell
  exact va_recv G.2.1.1 hP hC.1 (tkW_get hb)
theorem tk_callS {y : MethodName} {bC : ByteArray} {nC k d idx : Nat} {rC : Option FieldType} {As : List Value} {r : Option Value} {h' : tkH} {st0 : List Value} (G : tkG E X cc nL own ret) (hd : decode cc pc = .ok (.invokestatic idx, 3)) (hY : tkY y bC nC rC k) (hw : Cond.methodLink own idx y ∈ tkTb) (hi : Cond.static y ∈ tkTb)
    (hR : d + 1 ≤ (x_R X).frames ∧ 8 + (nC + 11) + 40 * d ≤ (x_R X).locals) (hM : tkM E y bC nC rC d T As h r h') (hn : As.length = k) (hst : st0 = As.reverse ++ st) (hcat : (st.map fun v => v.category).sum ≤ 8) (hcell : n ≤ (x_R X).cells ∧ w ≤ (x_R X).slots)
    (kk : tkV E X nL n w Z (pc + 3) al (r.toList ++ st) T h') : tkV E X nL n w Z pc al st0 T h := by
  subst hst
  refine tk_after (av := As) (fun H locs ls hP hz hS hl => ?_) kk
  exact va_runS (nL := nL) (n := k) G.1 hM ⟨callB_of k G.1.2.2.2.2 (tk_goodIn hY.1) rfl rfl rfl (G.1.2.2.2.2 _ hY.2.1) (G.1.2.2.2.2 _ hw) hY.2.2 hR, G.1.2.2.2.2 _ hi⟩ ⟨tkU_blind, fun U hU hW => ⟨rfl, tkU_next G.2.1 hP hz hS hU hW⟩⟩ rfl hn hl.1 rfl (by show 2 * 0 + _ ≤ 8; omega) hd hcell
theorem tk_callSN {y : MethodName} {bC : ByteArray} {nC k d idx : Nat} {hst0 : String} {rC : Option FieldType} {As : List Value} {r : Option Value} {h' : tkH} {st0 : List Value} (G : tkG E X cc nL own ret) (hd : decode cc pc = .ok (.invokestatic idx, 3)) (hY : tkY y bC nC rC k) (hw : Cond.methodLinkNest own idx y hst0 ∈ lw_tbl) (hi : Cond.static y ∈ tkTb)
    (hR : d + 1 ≤ (x_R X).frames ∧ 8 + (nC + 11) + 40 * d ≤ (x_R X).locals) (hM : tkM E y bC nC rC d T As h r h') (hn : As.length = k) (hst : st0 = As.reverse ++ st) (hcat : (st.map fun v => v.category).sum ≤ 8) (hcell : n ≤ (x_R X).cells ∧ w ≤ (x_R X).slots)
    (kk : tkV E X nL n w Z (pc + 3) al (r.toList ++ st) T h') : tkV E X nL n w Z pc al st0 T h := by
  subst hst
  refine tk_after (av := As) (fun H locs ls hP hz hS hl => ?_) kk
  exact va_runSN (nL := nL) (n := k) (host := hst0) G.1 hM ⟨va_cnB k G.1.2.2.2.2 (tk_goodIn hY.1) rfl rfl rfl (G.2.1.2.1 _ _ _ _ hw) (G.1.2.2.2.2 _ hY.2.1) hY.2.2 hR, G.1.2.2.2.2 _ hi, trivial⟩ ⟨tkU_blind, fun U hU hW => ⟨rfl, tkU_next G.2.1 hP hz hS hU hW⟩⟩ rfl hn hl.1 rfl (by show 2 * 0 + _ ≤ 8; omega) hd hcell
end
