/-! THE CLAIM OUT OF ONE WALK OF THE LAW'S BODY. Your part is whole_start (and what it stands on); all else here is the same for every law, but numbers. -/
def R_law : String := "TaleDeskLaw"
def lw_P (b : Addr) (xs : List Int32) (args : Array Value) (s : State) : Prop := args = #[.ref b] ∧ s.IntsAt b xs ∧ xs.length ≤ 3072 ∧ (Jvm.Cond.and given_1 narrow_1).before args s = true
def lw_Q (_ : Array Value) (s : State) (o : Outcome) (t : State) : Prop := o = .returned (some (.int 1)) ∧ Framed s o t [] 600000 7302250
def lw_Z (below : List Frame) (a : Array Value) (s : State) : State → Prop := fun t => ∃ o, t.status = .running ∧ Ended t below o ∧ lw_Q a s o t
/-- the law's own end, with 1 on the stack, nothing written that was there before, its room as the claim has it -/
theorem lw_ret {p : Program} {l : Launch} {e : Env} {s : State} {m : MethodId} {below : List Frame} {meth : Method} {c : Code} {b : Nat} (hx : p.tables.exec = Jvm.exec) (hb : c.code = code) (hr : meth.sig.returnType = ret) (hlocks : meth.locks = false) {pc : Nat} {H : Heap} {ls : Array Slot} (hdg : decode code pc = .ok (.ireturn, 1)) : W p l e room_1 s m #[Value.ref b] below meth c H [] 600000 7302250 (lw_Z below #[Value.ref b] s) (F0 m pc ls [.int 1]) := by
  intro T hT X
  obtain ⟨fs, hret, hrun, hended, hW, hframe⟩ := X.leave (v := some (.int 1)) (hlocks := hlocks) (fun h => by rw [hr] at h; cases h)
  have hmeth' : T.vm.method? m = some meth := X.method'
  refine ⟨T.setFrames fs, ?_, .returned (some (.int 1)), hrun, hended, rfl, ⟨_, rfl⟩, hW, hframe⟩
  jvm_step X.here [X.here.top, hx, hb, hdg, hmeth', hr, ret, narrow_b1]
  (try refine ⟨rfl, ?_⟩); (try refine ⟨rfl, ?_⟩)
  first | (intro acts; rw [hret _ acts rfl rfl rfl]) | rw [hret _ _ rfl rfl rfl]
  exact Steps.refl _
/-- what holds at the law's entry: the machine, the code, the tables' words (any of lw_tbl by 'hts w (by decide +kernel)'), the script of L ints xs at the cell b, what the Statement gives of the start (any of its parts by flat_of_before) -/
def lw_At (p : Program) (s : State) (m : MethodId) (meth : Method) (c : Code) (b L : Nat) (xs : Nat → Int32) : Prop :=
  p.tables.exec = Jvm.exec ∧ c.code = code ∧ meth.sig.returnType = ret ∧ c.maxLocals = 4 ∧ s.vm.findClass R_law = some m.cls ∧ (∀ w ∈ lw_tbl, w.before #[Value.ref b] s = true) ∧ va_X b L xs s s.heap ∧ b < s.heap.size ∧ meth.locks = false ∧ (Jvm.Cond.and given_1 narrow_1).before #[Value.ref b] s = true
theorem lw_lt {L j : Nat} (hL : L ≤ 3072) (hj : j ≤ 4000) : (nI L - 6 < nI j) ↔ L < 6 + j := by
  have e : (nI L - 6 : Int32).toInt = (L : Int) - 6 := pk_sub_toInt (a := L) (b := 6) (by omega) (by decide)
  rw [Int32.lt_iff_toInt_lt, e, nI_toInt (by omega)]
  omega
theorem and31 (x : Int32) : ∃ t, t < 32 ∧ x &&& 31 = nI t := by
  refine ⟨x.toBitVec.toNat % 32, Nat.mod_lt _ (by decide), ?_⟩
  rw [show x &&& 31 = nI x.toBitVec.toNat &&& nI 31 from by rw [← n_of x]; rfl, nx_and, show x.toBitVec.toNat &&& 31 = x.toBitVec.toNat % 32 from Nat.and_two_pow_sub_one_eq_mod _ 5]
theorem law_exit {p : Program} {e : Env} {s : State} {m : MethodId} {below : List Frame} {meth : Method} {c : Code} {E : tkE} {b n w : Nat} {al : List (Nat × Value)} {h : tkH} {own : String} (hsz : e_sz E = s.heap.size) (hn : n ≤ 600000) (hw : w ≤ 7302250) (G : tkG E (p, e, room_1, s, m, #[Value.ref b], below, meth, c) code 4 own ret) : tkV E (p, e, room_1, s, m, #[Value.ref b], below, meth, c) 4 n w (lw_Z below #[Value.ref b] s) 1309 al [] tkF h := by
  refine tk_iconst G dL_law_1309 cI_1 ?_
  intro H locs ls hP hz hS hl
  refine va_forget (fun q hq => ?_) ?_
  · have z : e_sz E ≤ q.base := hS.2.2 q hq
    have z2 : s.heap.size ≤ q.base := by rw [← hsz]; exact z
    exact z2
  · refine W.widen hn hw ?_
    exact lw_ret G.1.1 G.1.2.1 G.2.2.2 G.2.2.1 dL_law_1310
theorem law_loop {p : Program} {e : Env} {s : State} {m : MethodId} {below : List Frame} {meth : Method} {c : Code} {E : tkE} {b L n w : Nat} {xs : Nat → Int32} (C : lwC E (p, e, room_1, s, m, #[Value.ref b], below, meth, c) b L xs n w) (G : tkG E (p, e, room_1, s, m, #[Value.ref b], below, meth, c) cL_law 4 RL ret) : ∀ (q i : Nat) (h : tkH), q + i = 600 → Inv h → tkV E (p, e, room_1, s, m, #[Value.ref b], below, meth, c) 4 n w (lw_Z below #[Value.ref b] s) 18 (lwA E b (6 * i)) [] tkF h := by
  obtain ⟨-, -, -, c4, c5, c6, c7⟩ := id C
  intro q
  induction q with
  | zero =>
    intro i h hi I
    refine tk_iload_n G dL_law_18 0 rfl ?_
    refine tk_aload_n G dL_law_19 3 rfl ?_
    refine tk_slen C G dL_law_20 ?_
    refine tk_bipush (v := 6) G dL_law_21 (by decide) ?_
    refine tk_isub G dL_law_23 ?_
    exact tk_icmp_gt (tgt := 1309) G dL_law_24 rfl (fun _ => law_exit c4 c6 c7 G) (fun z => absurd ((lw_lt c5 (by omega)).mpr (by omega)) z)
  | succ q ih =>
    intro i h hi I
    refine tk_iload_n G dL_law_18 0 rfl ?_
    refine tk_aload_n G dL_law_19 3 rfl ?_
    refine tk_slen C G dL_law_20 ?_
    refine tk_bipush (v := 6) G dL_law_21 (by decide) ?_
    refine tk_isub G dL_law_23 ?_
    refine tk_icmp_gt (tgt := 1309) G dL_law_24 rfl (fun _ => law_exit c4 c6 c7 G) (fun z => ?_)
    have hk : 6 * i + 5 < L := by
      rw [lw_lt c5 (by omega)] at z
      omega
    refine tk_aload_n G dL_law_27 3 rfl ?_
    refine tk_iload_n G dL_law_28 0 rfl ?_
    refine tk_sld C G dL_law_29 (show 6 * i < L by omega) ?_
    refine tk_bipush (v := 31) G dL_law_30 (by decide) ?_
    refine tk_iand G dL_law_32 ?_
    have K : ∀ h', Inv h' → tkV E (p, e, room_1, s, m, #[Value.ref b], below, meth, c) 4 n w (lw_Z below #[Value.ref b] s) 1303 (lwA E b (6 * i)) [] tkF h' := by
      intro h' I'
      refine tk_iinc (v := nI (6 * (i + 1))) (al' := lwA E b (6 * (i + 1))) G dL_law_1303 0 rfl (by rw [show (Int32.ofInt 6 : Int32) = nI 6 from rfl, nI_add, show 6 * (i + 1) = 6 * i + 6 by omega]) (by decide) rfl ?_
      refine tk_goto (tgt := 18) G dL_law_1306 rfl ?_
      exact ih (i + 1) h' (by omega) I'
    obtain ⟨t, ht, et⟩ := and31 (xs (6 * i))
    rw [et]
    match t, ht with
    | 0, _ => exact tk_tabIn (off := 139) (tgt := 172) G dL_law_33 (by decide) (by decide) (by decide) rfl (lw_c0 C G hk I K)
    | 1, _ => exact tk_tabIn (off := 182) (tgt := 215) G dL_law_33 (by decide) (by decide) (by decide) rfl (lw_c1 C G hk I K)
    | 2, _ => exact tk_tabIn (off := 215) (tgt := 248) G dL_law_33 (by decide) (by decide) (by decide) rfl (lw_c2 C G hk I K)
    | 3, _ => exact tk_tabIn (off := 268) (tgt := 301) G dL_law_33 (by decide) (by decide) (by decide) rfl (lw_c3 C G hk I K)
    | 4, _ => exact tk_tabIn (off := 291) (tgt := 324) G dL_law_33 (by decide) (by decide) (by decide) rfl (lw_c4 C G hk I K)
    | 5, _ => exact tk_tabIn (off := 334) (tgt := 367) G dL_law_33 (by decide) (by decide) (by decide) rfl (lw_c5 C G hk I K)
    | 6, _ => exact tk_tabIn (off := 367) (tgt := 400) G dL_law_33 (by decide) (by decide) (by decide) rfl (lw_c6 C G hk I K)
    | 7, _ => exact tk_tabIn (off := 400) (tgt := 433) G dL_law_33 (by decide) (by decide) (by decide) rfl (lw_c7 C G hk I K)
    | 8, _ => exact tk_tabIn (off := 433) (tgt := 466) G dL_law_33 (by decide) (by decide) (by decide) rfl (lw_c8 C G hk I K)
    | 9, _ => exact tk_tabIn (off := 466) (tgt := 499) G dL_law_33 (by decide) (by decide) (by decide) rfl (lw_c9 C G hk I K)
    | 10, _ => exact tk_tabIn (off := 509) (tgt := 542) G dL_law_33 (by decide) (by decide) (by decide) rfl (lw_c10 C G hk I K)
    | 11, _ => exact tk_tabIn (off := 542) (tgt := 575) G dL_law_33 (by decide) (by decide) (by decide) rfl (lw_c11 C G hk I K)
    | 12, _ => exact tk_tabIn (off := 585) (tgt := 618) G dL_law_33 (by decide) (by decide) (by decide) rfl (lw_c12 C G hk I K)
    | 13, _ => exact tk_tabIn (off := 628) (tgt := 661) G dL_law_33 (by decide) (by decide) (by decide) rfl (lw_c13 C G hk I K)
    | 14, _ => exact tk_tabIn (off := 687) (tgt := 720) G dL_law_33 (by decide) (by decide) (by decide) rfl (lw_c14 C G hk I K)
    | 15, _ => exact tk_tabIn (off := 710) (tgt := 743) G dL_law_33 (by decide) (by decide) (by decide) rfl (lw_c15 C G hk I K)
    | 16, _ => exact tk_tabIn (off := 733) (tgt := 766) G dL_law_33 (by decide) (by decide) (by decide) rfl (lw_c16 C G hk I K)
    | 17, _ => exact tk_tabIn (off := 756) (tgt := 789) G dL_law_33 (by decide) (by decide) (by decide) rfl (lw_c17 C G hk I K)
    | 18, _ => exact tk_tabIn (off := 789) (tgt := 822) G dL_law_33 (by decide) (by decide) (by decide) rfl (lw_c18 C G hk I K)
    | 19, _ => exact tk_tabIn (off := 812) (tgt := 845) G dL_law_33 (by decide) (by decide) (by decide) rfl (lw_c19 C G hk I K)
    | 20, _ => exact tk_tabIn (off := 835) (tgt := 868) G dL_law_33 (by decide) (by decide) (by decide) rfl (lw_c20 C G hk I K)
    | 21, _ => exact tk_tabIn (off := 858) (tgt := 891) G dL_law_33 (by decide) (by decide) (by decide) rfl (lw_c21 C G hk I K)
    | 22, _ => exact tk_tabIn (off := 901) (tgt := 934) G dL_law_33 (by decide) (by decide) (by decide) rfl (lw_c22 C G hk I K)
    | 23, _ => exact tk_tabIn (off := 970) (tgt := 1003) G dL_law_33 (by decide) (by decide) (by decide) rfl (lw_c23 C G hk I K)
    | 24, _ => exact tk_tabIn (off := 1029) (tgt := 1062) G dL_law_33 (by decide) (by decide) (by decide) rfl (lw_c24 C G hk I K)
    | 25, _ => exact tk_tabIn (off := 1052) (tgt := 1085) G dL_law_33 (by decide) (by decide) (by decide) rfl (lw_c25 C G hk I K)
    | 26, _ => exact tk_tabIn (off := 1095) (tgt := 1128) G dL_law_33 (by decide) (by decide) (by decide) rfl (lw_c26 C G hk I K)
    | 27, _ => exact tk_tabIn (off := 1138) (tgt := 1171) G dL_law_33 (by decide) (by decide) (by decide) rfl (lw_c27 C G hk I K)
    | 28, _ => exact tk_tabIn (off := 1201) (tgt := 1234) G dL_law_33 (by decide) (by decide) (by decide) rfl (lw_c28 C G hk I K)
    | 29, _ => exact tk_tabIn (off := 1234) (tgt := 1267) G dL_law_33 (by decide) (by decide) (by decide) rfl (lw_c29 C G hk I K)
    | 30, _ => exact tk_tabIn (off := 1247) (tgt := 1280) G dL_law_33 (by decide) (by decide) (by decide) rfl (lw_c30 C G hk I K)
    | 31, _ => exact tk_tabOut (tgt := 1303) G dL_law_33 (Or.inr (by decide)) rfl (K h I)
    | t + 32, ht => exact absurd ht (by omega)
theorem wN_L7 : Cond.classLink RL 7 RX8 ∈ tkTb ∧ Cond.instantiable RX8 7 ∈ tkTb ∧ Cond.initialized RX8 ∈ tkTb := ⟨tk_tb (by decide +kernel) rfl, tk_tb (by decide +kernel) rfl, tk_tb (by decide +kernel) rfl⟩
theorem wN_L10 : Cond.classLink RL 10 RX9 ∈ tkTb ∧ Cond.instantiable RX9 29 ∈ tkTb ∧ Cond.initialized RX9 ∈ tkTb := ⟨tk_tb (by decide +kernel) rfl, tk_tb (by decide +kernel) rfl, tk_tb (by decide +kernel) rfl⟩
theorem lw_Kc {s : State} {b : Nat} (hts : ∀ w ∈ lw_tbl, w.before #[Value.ref b] s = true) : ∃ D : va_G, ∀ (k : Nat) (q : vw_C), vwCl[k]? = some q → u_Kn s q.1 q.2.1 q.2.2 (D.1 k) (D.2 k) := by
  obtain ⟨c0, s0, k0⟩ := u_known (C := RX0) (T := TX0) (N := 9) (n := 9) hts inX0 (hts (.instantiable RX0 9) (by decide +kernel))
  obtain ⟨c1, s1, k1⟩ := u_known (C := RX1) (T := TX1) (N := 5) (n := 5) hts inX1 (hts (.instantiable RX1 5) (by decide +kernel))
  obtain ⟨c2, s2, k2⟩ := u_known (C := RX2) (T := TX2) (N := 2) (n := 2) hts inX2 (hts (.instantiable RX2 2) (by decide +kernel))
  obtain ⟨c3, s3, k3⟩ := u_known (C := RX3) (T := TX3) (N := 3) (n := 3) hts inX3 (hts (.instantiable RX3 3) (by decide +kernel))
  obtain ⟨c4, s4, k4⟩ := u_known (C := RX4) (T := TX4) (N := 10) (n := 10) hts inX4 (hts (.instantiable RX4 10) (by decide +kernel))
  obtain ⟨c5, s5, k5⟩ := u_known (C := RX5) (T := TX5) (N := 3) (n := 3) hts inX5 (hts (.instantiable RX5 3) (by decide +kernel))
  obtain ⟨c6, s6, k6⟩ := u_known (C := RX6) (T := TX6) (N := 3) (n := 3) hts inX6 (hts (.instantiable RX6 3) (by decide +kernel))
  obtain ⟨c7, s7, k7⟩ := u_known (C := RX7) (T := TX7) (N := 4) (n := 4) hts inX7 (hts (.instantiable RX7 4) (by decide +kernel))
  obtain ⟨c8, s8, k8⟩ := u_known (C := RX8) (T := TX8) (N := 7) (n := 7) hts inX8 (hts (.instantiable RX8 7) (by decide +kernel))
  obtain ⟨c9, s9, k9⟩ := u_known (C := RX9) (T := TX9) (N := 29) (n := 29) hts inX9 (hts (.instantiable RX9 29) (by decide +kernel))
  refine ⟨(fun k => match k with | 0 => c0  | 1 => c1  | 2 => c2  | 3 => c3  | 4 => c4  | 5 => c5  | 6 => c6  | 7 => c7  | 8 => c8 | _ => c9, fun k => match k with | 0 => s0  | 1 => s1  | 2 => s2  | 3 => s3  | 4 => s4  | 5 => s5  | 6 => s6  | 7 => s7  | 8 => s8 | _ => s9), ?_⟩
  intro k q hq
  match k, hq with
  | 0, hq => cases hq; exact k0
  | 1, hq => cases hq; exact k1
  | 2, hq => cases hq; exact k2
  | 3, hq => cases hq; exact k3
  | 4, hq => cases hq; exact k4
  | 5, hq => cases hq; exact k5
  | 6, hq => cases hq; exact k6
  | 7, hq => cases hq; exact k7
  | 8, hq => cases hq; exact k8
  | 9, hq => cases hq; exact k9
  | k + 10, hq => simp [vwCl] at hq
theorem lw_tab {s : State} {b : Nat} (hts : ∀ w ∈ lw_tbl, w.before #[Value.ref b] s = true) (hgv : (Jvm.Cond.and given_1 narrow_1).before #[Value.ref b] s = true) : ∃ t : Nat, va_Z "TaleDesk" "CARRYINGS" "[I" (.ref t) (fun q => s.heap.size ≤ q) s s.heap ∧ va_T .int t 24 (fun j => .int (tkCv j)) (fun q => s.heap.size ≤ q) s s.heap := by
  have hs := flat_of_before _ hgv
  have hA : ∀ a : Nat, a < s.heap.size → ¬ (fun q => s.heap.size ≤ q) a := fun a h => Nat.not_le.mpr h
  have harr : (Cond.arrayOf (Term.static "TaleDesk" "CARRYINGS" "[I") .int).before #[Value.ref b] s = true := hs _ (by decide +kernel)
  have hlen := va_eqt (hs (Cond.eq (Term.length (Term.static "TaleDesk" "CARRYINGS" "[I")) (Term.int 24)) (by decide +kernel))
  obtain ⟨t, ht, hT⟩ := va_Tof (N := 24) (f := fun j => .int (tkCv j)) (A := fun q => s.heap.size ≤ q) (by decide) harr hlen (fun j hj => by
    match j, hj with
    | 0, _ => exact va_eqt (hs (Cond.eq (Term.elem (Term.static "TaleDesk" "CARRYINGS" "[I") (Term.int 0)) (Term.int 291)) (by decide +kernel))
    | 1, _ => exact va_eqt (hs (Cond.eq (Term.elem (Term.static "TaleDesk" "CARRYINGS" "[I") (Term.int 1)) (Term.int 306)) (by decide +kernel))
    | 2, _ => exact va_eqt (hs (Cond.eq (Term.elem (Term.static "TaleDesk" "CARRYINGS" "[I") (Term.int 2)) (Term.int 531)) (by decide +kernel))
    | 3, _ => exact va_eqt (hs (Cond.eq (Term.elem (Term.static "TaleDesk" "CARRYINGS" "[I") (Term.int 3)) (Term.int 561)) (by decide +kernel))
    | 4, _ => exact va_eqt (hs (Cond.eq (Term.elem (Term.static "TaleDesk" "CARRYINGS" "[I") (Term.int 4)) (Term.int 786)) (by decide +kernel))
    | 5, _ => exact va_eqt (hs (Cond.eq (Term.elem (Term.static "TaleDesk" "CARRYINGS" "[I") (Term.int 5)) (Term.int 801)) (by decide +kernel))
    | 6, _ => exact va_eqt (hs (Cond.eq (Term.elem (Term.static "TaleDesk" "CARRYINGS" "[I") (Term.int 6)) (Term.int 4131)) (by decide +kernel))
    | 7, _ => exact va_eqt (hs (Cond.eq (Term.elem (Term.static "TaleDesk" "CARRYINGS" "[I") (Term.int 7)) (Term.int 4146)) (by decide +kernel))
    | 8, _ => exact va_eqt (hs (Cond.eq (Term.elem (Term.static "TaleDesk" "CARRYINGS" "[I") (Term.int 8)) (Term.int 4611)) (by decide +kernel))
    | 9, _ => exact va_eqt (hs (Cond.eq (Term.elem (Term.static "TaleDesk" "CARRYINGS" "[I") (Term.int 9)) (Term.int 4656)) (by decide +kernel))
    | 10, _ => exact va_eqt (hs (Cond.eq (Term.elem (Term.static "TaleDesk" "CARRYINGS" "[I") (Term.int 10)) (Term.int 4866)) (by decide +kernel))
    | 11, _ => exact va_eqt (hs (Cond.eq (Term.elem (Term.static "TaleDesk" "CARRYINGS" "[I") (Term.int 11)) (Term.int 4896)) (by decide +kernel))
    | 12, _ => exact va_eqt (hs (Cond.eq (Term.elem (Term.static "TaleDesk" "CARRYINGS" "[I") (Term.int 12)) (Term.int 8211)) (by decide +kernel))
    | 13, _ => exact va_eqt (hs (Cond.eq (Term.elem (Term.static "TaleDesk" "CARRYINGS" "[I") (Term.int 13)) (Term.int 8241)) (by decide +kernel))
    | 14, _ => exact va_eqt (hs (Cond.eq (Term.elem (Term.static "TaleDesk" "CARRYINGS" "[I") (Term.int 14)) (Term.int 8451)) (by decide +kernel))
    | 15, _ => exact va_eqt (hs (Cond.eq (Term.elem (Term.static "TaleDesk" "CARRYINGS" "[I") (Term.int 15)) (Term.int 8496)) (by decide +kernel))
    | 16, _ => exact va_eqt (hs (Cond.eq (Term.elem (Term.static "TaleDesk" "CARRYINGS" "[I") (Term.int 16)) (Term.int 8961)) (by decide +kernel))
    | 17, _ => exact va_eqt (hs (Cond.eq (Term.elem (Term.static "TaleDesk" "CARRYINGS" "[I") (Term.int 17)) (Term.int 8976)) (by decide +kernel))
    | 18, _ => exact va_eqt (hs (Cond.eq (Term.elem (Term.static "TaleDesk" "CARRYINGS" "[I") (Term.int 18)) (Term.int 12306)) (by decide +kernel))
    | 19, _ => exact va_eqt (hs (Cond.eq (Term.elem (Term.static "TaleDesk" "CARRYINGS" "[I") (Term.int 19)) (Term.int 12321)) (by decide +kernel))
    | 20, _ => exact va_eqt (hs (Cond.eq (Term.elem (Term.static "TaleDesk" "CARRYINGS" "[I") (Term.int 20)) (Term.int 12546)) (by decide +kernel))
    | 21, _ => exact va_eqt (hs (Cond.eq (Term.elem (Term.static "TaleDesk" "CARRYINGS" "[I") (Term.int 21)) (Term.int 12576)) (by decide +kernel))
    | 22, _ => exact va_eqt (hs (Cond.eq (Term.elem (Term.static "TaleDesk" "CARRYINGS" "[I") (Term.int 22)) (Term.int 12801)) (by decide +kernel))
    | 23, _ => exact va_eqt (hs (Cond.eq (Term.elem (Term.static "TaleDesk" "CARRYINGS" "[I") (Term.int 23)) (Term.int 12816)) (by decide +kernel))
    | j + 24, hj => exact absurd hj (by omega)) hA
  exact ⟨t, va_Zref (hts (.laysStatic "TaleDesk" "CARRYINGS" "[I") (by decide +kernel)) (hts (.initialized "TaleDesk") (by decide +kernel)) ht hA, hT⟩
theorem lw_AO {s : State} {C : String} (h : va_AO C s) : ∃ cA : ClassId, ArrOfT s cA (.object C) ∧ va_RA s cA (.object C) := by
  obtain ⟨comp, c, k, h1, h2, h3, h4, h5⟩ := Cond.arrayOver_spec h
  exact ⟨c, fun n z => ⟨(fun k h => by cases h), k, h3, comp, h4⟩, k, comp, h3, h4, h1, h5⟩
theorem lw_AI {s : State} {b : Nat} (h : (Cond.arrayClass .int).before #[Value.ref b] s = true) : ∃ cA : ClassId, ArrOfT s cA .int ∧ va_RA s cA .int := by
  obtain ⟨c, k, comp, h1, h2, h3⟩ := Cond.arrayClass_spec h
  exact ⟨c, fun n z => ⟨(fun k h => by cases h), k, h2, comp, h3⟩, h1⟩
theorem rmL {p : Program} {e : Env} {s : State} {m : MethodId} {a : Array Value} {below : List Frame} {meth : Method} {c : Code} {i j : Nat} (h : i ≤ 600000 ∧ j ≤ 7302250) : i ≤ (x_R (p, e, room_1, s, m, a, below, meth, c)).cells ∧ j ≤ (x_R (p, e, room_1, s, m, a, below, meth, c)).slots := h
theorem rmLF {p : Program} {e : Env} {s : State} {m : MethodId} {a : Array Value} {below : List Frame} {meth : Method} {c : Code} {i j : Nat} (h : i ≤ 11 ∧ j ≤ 398) : i ≤ (x_R (p, e, room_1, s, m, a, below, meth, c)).frames ∧ j ≤ (x_R (p, e, room_1, s, m, a, below, meth, c)).locals := h
theorem whole_start {p : Program} {e : Env} {s : State} {m : MethodId} {below : List Frame} {meth : Method} {c : Code} (l : Launch) {b L : Nat} {xs : Nat → Int32} (hL : L ≤ 3072) (C0 : lw_At p s m meth c b L xs) : W p l e room_1 s m #[Value.ref b] below meth c s.heap [] 0 0 (lw_Z below #[Value.ref b] s) (entryFrame m ([Value.ref b] : List Value).toArray 4) := by
  obtain ⟨hx, hb, hr, hml, hown, hts, hX, hbl, hlocks, hgv⟩ := id C0
  obtain ⟨D, hKc⟩ := lw_Kc hts
  obtain ⟨tC, hZ, hT⟩ := lw_tab hts hgv
  have aoB : va_AO RX0 s := va_AO.of (hts (.arrayOver (.object RX0)) (by decide +kernel))
  have aoS : va_AO RX6 s := va_AO.of (hts (.arrayOver (.object RX6)) (by decide +kernel))
  obtain ⟨cI, hI⟩ := lw_AI (hts (.arrayClass .int) (by decide +kernel))
  obtain ⟨cB, hBk⟩ := lw_AO aoB
  obtain ⟨cS, hSh⟩ := lw_AO aoS
  obtain ⟨E, hE0⟩ : ∃ E : tkE, E = (l, D, s.heap.size, cI, cB, cS, tC, fun _ => 0) := ⟨_, rfl⟩
  have hB : tkB E s := by
    subst hE0
    refine ⟨⟨hKc, fun k q hk => ?_⟩, fun a i x z q => va_Nw.of rfl (hts _ q), fun a i y n d z q => va_Nw.of rfl (hts _ q), hZ, hT, Nat.le_refl _⟩
    match k, hk with
    | 0, hk => cases hk; exact hI
    | 1, hk => cases hk; exact hBk
    | 2, hk => cases hk; exact hSh
    | k + 3, hk => simp at hk
  have G : tkG E (p, e, room_1, s, m, #[Value.ref b], below, meth, c) cL_law 4 RL ret := ⟨⟨hx, hb, hml, hown, fun w hw => hts w (List.mem_filter.mp hw).1⟩, hB, hlocks, hr⟩
  have hsz : e_sz E = s.heap.size := by rw [hE0]
  have hQ : aoQ [RX0, RX6] s := fun C hC => by
    rcases List.mem_cons.mp hC with z | z
    · rw [z]; exact aoB
    · rw [List.mem_singleton.mp z]; exact aoS
  have J : tkJ 0 E (p, e, room_1, s, m, #[Value.ref b], below, meth, c) 4 0 0 (lw_Z below #[Value.ref b] s) 0 (fun _ => [(0, .ref b)]) (fun _ => []) 0 fS h00 := by
    refine J_nw (rs := [some none, some none, some none, some none, some none, some none, none]) G kX8 dL_law_0 wN_L7 dfX8 (nR rfl) (rmL (by decide)) (by omega) kp_n kp_n ?_
    refine J_dup G dL_law_3 ?_
    refine J_ci (Q := [RX0, RX6]) (b := 0) (n' := 217) (S' := fS) (h' := desH h00) (As := fun _ => []) (st := fun ad => [.ref (ad 0)]) G dL_law_4 wY_X8_init rfl wM_L_9 wI_X8_init hQ (rmLF (by decide)) (fun w1 z1 ad _ => c_des (eAd E ad) w1 z1) (fun _ => rfl) (fun _ => rfl) (fun _ => Nat.le_of_ble_eq_true rfl) (rmL (by decide)) (by omega) kp_n (kp_s1 (by omega)) (fun w1 => wf_closeF w1 (by omega) (by omega) fS0 (by decide +kernel)) (fun _ j hj => desH_o (by omega) (by omega) (by omega) (by omega)) ?_
    refine J_as (k := 0) (al' := fun ad => [(1, .ref (ad 0)), (0, .ref b)]) G dL_law_7 (by decide) (fun _ => rfl) ?_
    refine J_nw (rs := [some none, some none, none, none, some none, some none, some none, some none, none, none, none, none, none, none, none, none, some none, none, some none, none, some none, some none, some none, none, none, none, none, none, some none]) G kX9 dL_law_8 wN_L10 dfX9 (nR rfl) (rmL (by decide)) (by omega) (fun ad ad' e => by simp only [e 0 (by omega)]) kp_n ?_
    refine J_dup G dL_law_11 ?_
    refine J_ci (Q := []) (b := 217) (n' := 230) (S' := fS) (h' := hE) (As := fun _ => []) (st := fun ad => [.ref (ad 217)]) G dL_law_12 wY_X9_init rfl wM_L_12 wI_X9_init aoQ_0 (rmLF (by decide)) (fun w1 z1 ad _ => c_mod (eAd E ad) (k := 217) w1 z1 f217S f218S f219S f220S f221S f222S f223S f224S f225S f226S f227S f228S f229S) (fun _ => rfl) (fun _ => rfl) (fun _ => Nat.le_of_ble_eq_true rfl) (rmL (by decide)) (by omega) (fun ad ad' e => by simp only [e 0 (by omega)]) (kp_s1 (by omega)) (fun w1 => wf_closeF w1 (by omega) (by omega) (fun _ _ => rfl) (by decide +kernel)) (fun _ j hj => hE_o (by omega) (by omega) (by omega) (by omega) (by omega)) ?_
    refine J_as (k := 217) (al' := fun ad => [(2, .ref (ad 217)), (1, .ref (ad 0)), (0, .ref b)]) G dL_law_15 (by decide) (fun _ => rfl) ?_
    intro _ _ ad _
    rw [show oT 230 fS = tkF from oT_F]
    have G' : tkG (eAd E ad) (p, e, room_1, s, m, #[Value.ref b], below, meth, c) cL_law 4 RL ret := G
    refine tk_iconst G' dL_law_16 cI_0 ?_
    refine tk_istore_n (al' := lwA (eAd E ad) b (6 * 0)) G' dL_law_17 (by decide) rfl ?_
    have C : lwC (eAd E ad) (p, e, room_1, s, m, #[Value.ref b], below, meth, c) b L xs 230 13272 := ⟨rfl, hX, hbl, hsz, hL, by decide, by decide⟩
    exact law_loop C G' 600 0 hE (Nat.add_zero 600) hE_I
  have J0 := J (fun k hk => absurd hk (Nat.not_lt_zero _)) (fun _ _ => rfl) (e_ad E) (fun _ _ => rfl)
  rw [eAd_id] at J0
  have hl := lv_entry ([.ref b]) (n := 4) (Nat.le_of_ble_eq_true rfl)
  rw [lg_entry_eq]
  have J1 := J0 s.heap [] _ (fun k q h => by cases h) ⟨(fun i j p q h => by cases h), (fun k q h => by cases h)⟩ va_S.rf hl
  rw [hE0] at J1
  exact J1
