/-! THE MACHINE, SEEN FROM ABOVE. E: launch, class numbers, the heap's size at the start, the three array classes, the place of the static table, the places of our cells.
X: program, env, room, entry state, method, arguments, frames below, method's row, code. T: the shape of our cells; h: the ints that they hold. -/
abbrev tkE : Type := Launch × va_G × Nat × ClassId × ClassId × ClassId × Nat × (Nat → Nat)
abbrev tkX : Type := Program × Env × Room × State × MethodId × Array Value × List Frame × Method × Code
abbrev tkH : Type := Nat → Nat → Int32
abbrev tkK : Type := Nat × Nat × List (Option (Option Nat))
abbrev tkT : Type := List tkK
abbrev e_sz (E : tkE) : Nat := E.2.2.1
abbrev e_tC (E : tkE) : Nat := E.2.2.2.2.2.2.1
abbrev e_ad (E : tkE) : Nat → Nat := E.2.2.2.2.2.2.2
abbrev x_R (X : tkX) : Room := X.2.2.1
abbrev x_s (X : tkX) : State := X.2.2.2.1
abbrev x_m (X : tkX) : MethodId := X.2.2.2.2.1
abbrev x_args (X : tkX) : Array Value := X.2.2.2.2.2.1
abbrev x_below (X : tkX) : List Frame := X.2.2.2.2.2.2.1
abbrev x_meth (X : tkX) : Method := X.2.2.2.2.2.2.2.1
abbrev x_c (X : tkX) : Code := X.2.2.2.2.2.2.2.2
def tkA (E : tkE) : Nat → Prop := fun q => e_sz E ≤ q
abbrev tkTy (E : tkE) : List (ClassId × FieldType) := [(E.2.2.2.1, .int), (E.2.2.2.2.1, .object RX0), (E.2.2.2.2.2.1, .object RX6)]
def tkTb : List Cond := lw_tbl.filter goodWord
theorem tk_tb {w : Cond} (h : w ∈ lw_tbl) (g : goodWord w = true) : w ∈ tkTb := List.mem_filter.mpr ⟨h, g⟩
def tkv (E : tkE) (h : tkH) (k j : Nat) (r : Option (Option Nat)) : Value := match r with
  | none => .int (h k j)
  | some none => .null
  | some (some a) => .ref (e_ad E a)
def tkq (E : tkE) (rs : List (Option (Option Nat))) : Nat → Option Nat := fun j => ((rs.getD j none).getD none).map (fun a => e_ad E a)
def tkc (E : tkE) (h : tkH) (k : Nat) (q : tkK) : va_E := match q with
  | (0, n, _) => .inl (E.2.2.2.1, n, .inl (h k))
  | (1, n, rs) => .inl (E.2.2.2.2.1, n, .inr (.inr (.inr (.inr (tkq E rs)))))
  | (2, n, rs) => .inl (E.2.2.2.2.2.1, n, .inr (.inr (.inr (.inr (tkq E rs)))))
  | (c + 3, N, rs) => .inr (c, (List.range N).map (fun j => tkv E h k j (rs.getD j none)))
def tkW (E : tkE) (T : tkT) (h : tkH) : va_W := T.mapIdx (fun k q => (e_ad E k, tkc E h k q))
def tkup (h : tkH) (k i : Nat) (v : Int32) : tkH := fun a => if a = k then upd (h a) i v else h a
def tkcp (h : tkH) (src sp dst dp n : Nat) : tkH := fun a => if a = dst then va_cpy (h src) (h a) sp dp n else h a
theorem tkup_s {h : tkH} {k i : Nat} {v : Int32} : tkup h k i v k = upd (h k) i v := if_pos rfl
theorem tkup_n {h : tkH} {k i a : Nat} {v : Int32} (e : a ≠ k) : tkup h k i v a = h a := if_neg e
theorem tkcp_s {h : tkH} {src sp dst dp n : Nat} : tkcp h src sp dst dp n dst = va_cpy (h src) (h dst) sp dp n := if_pos rfl
theorem tkcp_n {h : tkH} {src sp dst dp n a : Nat} (e : a ≠ dst) : tkcp h src sp dst dp n a = h a := if_neg e
theorem tkW_len {E : tkE} {T : tkT} {h : tkH} : (tkW E T h).length = T.length := by simp [tkW]
theorem tkW_get {E : tkE} {T : tkT} {h : tkH} {k : Nat} {q : tkK} (hk : T[k]? = some q) : (tkW E T h)[k]? = some (e_ad E k, tkc E h k q) := by
  simp [tkW, List.getElem?_mapIdx, hk]
theorem tkW_at {E : tkE} {T : tkT} {h : tkH} {k : Nat} {x : Nat × va_E} (hk : (tkW E T h)[k]? = some x) : ∃ q, T[k]? = some q ∧ x = (e_ad E k, tkc E h k q) := by
  rw [tkW, List.getElem?_mapIdx] at hk
  cases hq : T[k]? with
  | none => rw [hq] at hk; cases hk
  | some q => rw [hq] at hk; exact ⟨q, rfl, (Option.some.inj hk).symm⟩
theorem tkc_congr {E : tkE} {h h' : tkH} {k : Nat} (e : h' k = h k) (q : tkK) : tkc E h' k q = tkc E h k q := by
  obtain ⟨a, n, rs⟩ := q
  match a with
  | 0 => simp [tkc, e]
  | 1 => rfl
  | 2 => rfl
  | c + 3 => simp [tkc, tkv, e]
/-- one cell of the world is another: the shape stays -/
theorem tkW_set {E : tkE} {T : tkT} {h h' : tkH} {k : Nat} {q : tkK} {e : va_E} (hk : T[k]? = some q) (ho : ∀ a, a ≠ k → h' a = h a) (he : tkc E h' k q = e) : (tkW E T h).set k (e_ad E k, e) = tkW E T h' := by
  apply List.ext_getElem?
  intro j
  rw [List.getElem?_set]
  by_cases hj : k = j
  · subst hj
    have hl : k < (tkW E T h).length := by rw [tkW_len]; exact (List.getElem?_eq_some_iff.mp hk).1
    rw [if_pos rfl, if_pos hl, tkW_get hk, he]
  · rw [if_neg hj]
    cases hq : T[j]? with
    | none =>
      have : (tkW E T h)[j]? = none := by simp [tkW, List.getElem?_mapIdx, hq]
      rw [this]
      simp [tkW, List.getElem?_mapIdx, hq]
    | some q' => rw [tkW_get hq, tkW_get hq, tkc_congr (ho j (fun z => hj z.symm))]
theorem tkW_arr {E : tkE} {T : tkT} {h : tkH} {k i n : Nat} {v : Int32} {rs : List (Option (Option Nat))} (hk : T[k]? = some (0, n, rs)) : (tkW E T h).set k (e_ad E k, .inl (E.2.2.2.1, n, .inl (upd (h k) i v))) = tkW E T (tkup h k i v) :=
  tkW_set hk (fun _ e => tkup_n e) (by simp [tkc, tkup_s])
theorem tkW_cpy {E : tkE} {T : tkT} {h : tkH} {src sp dst dp m n : Nat} {rs : List (Option (Option Nat))} (hk : T[dst]? = some (0, n, rs)) : (tkW E T h).set dst (e_ad E dst, .inl (E.2.2.2.1, n, .inl (va_cpy (h src) (h dst) sp dp m))) = tkW E T (tkcp h src sp dst dp m) :=
  tkW_set hk (fun _ e => tkcp_n e) (by simp [tkc, tkcp_s])
theorem tkW_fld {E : tkE} {T : tkT} {h : tkH} {k j c N : Nat} {v : Int32} {rs : List (Option (Option Nat))} (hk : T[k]? = some (c + 3, N, rs)) (hj : rs.getD j none = none) : (tkW E T h).set k (e_ad E k, .inr (c, ((List.range N).map (fun j => tkv E h k j (rs.getD j none))).set j (.int v))) = tkW E T (tkup h k j v) := by
  refine tkW_set hk (fun _ e => tkup_n e) ?_
  simp only [tkc]
  congr 2
  apply List.ext_getElem?
  intro i
  rw [List.getElem?_set]
  simp only [List.getElem?_map, List.length_map, List.length_range]
  by_cases hi : i < N
  · rw [List.getElem?_range hi]
    by_cases e : j = i
    · subst e
      rw [if_pos rfl, if_pos hi]
      simp only [Option.map_some, hj, tkv, tkup_s, upd, if_true]
    · rw [if_neg e]
      simp only [Option.map_some]
      congr 1
      cases hr : rs.getD i none with
      | none => simp [tkv, tkup_s, upd, Ne.symm e]
      | some r => cases r <;> rfl
  · have hn : (List.range N)[i]? = none := by simp; omega
    rw [hn]
    by_cases e : j = i
    · subst e
      rw [if_pos rfl, if_neg hi]
      rfl
    · rw [if_neg e]
      rfl
/-! the judgement -/
def tkV (E : tkE) (X : tkX) (nL n w : Nat) (Z : State → Prop) (pc : Nat) (al : List (Nat × Value)) (st : List Value) (T : tkT) (h : tkH) : Prop :=
  ∀ (H : Heap) (locs : List Loc) (ls : Array Slot), va_P E.2.1 vwCl (tkW E T h) H → va_D (tkA E) (tkW E T h) → va_S (tkA E) (x_s X).heap H locs → lv_has ls nL al →
    W X.1 E.1 X.2.1 (x_R X) (x_s X) (x_m X) (x_args X) (x_below X) (x_meth X) (x_c X) H locs n w Z (F0 (x_m X) pc ls st)
def tkCar : List Int32 := [0x0123, 0x0132, 0x0213, 0x0231, 0x0312, 0x0321, 0x1023, 0x1032, 0x1203, 0x1230, 0x1302, 0x1320, 0x2013, 0x2031, 0x2103, 0x2130, 0x2301, 0x2310, 0x3012, 0x3021, 0x3102, 0x3120, 0x3201, 0x3210]
def tkCv (j : Nat) : Int32 := tkCar.getD j 0
/-- what the tables and the static table say, of a state -/
def tkB (E : tkE) (U : State) : Prop :=
  va_K E.2.1 vwCl (tkTy E) U ∧ (∀ a i x z, Cond.methodLinkNest a i x z ∈ lw_tbl → va_Nw (.methodLinkNest a i x z) U) ∧ (∀ a i b n d z, Cond.fieldLinkNest a i b n d z ∈ lw_tbl → va_Nw (.fieldLinkNest a i b n d z) U) ∧
  va_Z "TaleDesk" "CARRYINGS" "[I" (.ref (e_tC E)) (tkA E) U U.heap ∧ va_T .int (e_tC E) 24 (fun j => .int (tkCv j)) (tkA E) U U.heap ∧ e_sz E ≤ U.heap.size
def tkU (E : tkE) (T : tkT) (h : tkH) (U : State) : Prop := tkB E U ∧ va_P E.2.1 vwCl (tkW E T h) U.heap ∧ va_D (tkA E) (tkW E T h)
def tkG (E : tkE) (X : tkX) (cc : ByteArray) (nL : Nat) (own : String) (ret : Option FieldType) : Prop :=
  CallFix X.1 (x_m X) (x_c X) cc nL (x_s X) (x_args X) tkTb own ∧ tkB E (x_s X) ∧ (x_meth X).locks = false ∧ (x_meth X).sig.returnType = ret
theorem tkB_next {E : tkE} {s U : State} {locs : List Loc} (h : tkB E s) (hW : s.WarmedH U.vm) (hS : va_S (tkA E) s.heap U.heap locs) : tkB E U := by
  obtain ⟨h1, h2, h3, h4, h5, h6⟩ := h
  refine ⟨h1.moved hW.alike, fun a i x z q => (h2 a i x z q).warmM hW, fun a i b n d z q => (h3 a i b n d z q).warmF hW, (va_Z.moved hW.alike h4).kept hS.2.1, (va_T.moved hW.alike h5).kept hS.2.1, Nat.le_trans h6 hS.1⟩
theorem tkB_call {E : tkE} {U : State} {g : JFrame} {mk : MethodId} {a : Array Value} (h : tkB E U) : tkB E (U.calling g mk a) := by
  obtain ⟨h1, h2, h3, h4, h5, h6⟩ := h
  exact ⟨h1.moved (U := U.calling g mk a) (Vm.Alike.refl U.vm), fun a' i x z q => (h2 a' i x z q).same rfl (U := U.calling g mk a) rfl, fun a' i b n d z q => (h3 a' i b n d z q).same rfl (U := U.calling g mk a) rfl, va_Z.moved (U := U.calling g mk a) (Vm.Alike.refl U.vm) h4, va_T.moved (U := U.calling g mk a) (Vm.Alike.refl U.vm) h5, h6⟩
theorem tkV_mono {E : tkE} {X : tkX} {nL n w : Nat} {Z : State → Prop} {pc : Nat} {al al' : List (Nat × Value)} {st : List Value} {T : tkT} {h : tkH} (ks : List Nat) (e : lv_pick al ks = al') (k : tkV E X nL n w Z pc al' st T h) : tkV E X nL n w Z pc al st T h :=
  fun H locs ls hP hz hS hl => k H locs ls hP hz hS (lv_sub hl ks e)
theorem tk_iconst {E : tkE} {X : tkX} {cc : ByteArray} {nL n w : Nat} {own : String} {ret : Option FieldType} {Z : State → Prop} {pc : Nat} {al : List (Nat × Value)} {st : List Value} {T : tkT} {h : tkH} {c : Int} {v : Int32} (G : tkG E X cc nL own ret) (hd : decode cc pc = .ok (.iconst c, 1)) (hv : Int32.ofInt c = v) (k : tkV E X nL n w Z (pc + 1) al (.int v :: st) T h) : tkV E X nL n w Z pc al (st) T h :=
  fun H locs ls hP hz hS hl => lv_iconst G.1.1 G.1.2.1 hd hv (k H locs ls hP hz hS hl)
theorem tk_bipush {E : tkE} {X : tkX} {cc : ByteArray} {nL n w : Nat} {own : String} {ret : Option FieldType} {Z : State → Prop} {pc : Nat} {al : List (Nat × Value)} {st : List Value} {T : tkT} {h : tkH} {c : Int} {v : Int32} (G : tkG E X cc nL own ret) (hd : decode cc pc = .ok (.bipush c, 2)) (hv : (Int8.ofInt c).toInt32 = v) (k : tkV E X nL n w Z (pc + 2) al (.int v :: st) T h) : tkV E X nL n w Z pc al (st) T h :=
  fun H locs ls hP hz hS hl => lv_bipush G.1.1 G.1.2.1 hd hv (k H locs ls hP hz hS hl)
theorem tk_sipush {E : tkE} {X : tkX} {cc : ByteArray} {nL n w : Nat} {own : String} {ret : Option FieldType} {Z : State → Prop} {pc : Nat} {al : List (Nat × Value)} {st : List Value} {T : tkT} {h : tkH} {c : Int} {v : Int32} (G : tkG E X cc nL own ret) (hd : decode cc pc = .ok (.sipush c, 3)) (hv : (Int16.ofInt c).toInt32 = v) (k : tkV E X nL n w Z (pc + 3) al (.int v :: st) T h) : tkV E X nL n w Z pc al (st) T h :=
  fun H locs ls hP hz hS hl => lv_sipush G.1.1 G.1.2.1 hd hv (k H locs ls hP hz hS hl)
theorem tk_ldc {E : tkE} {X : tkX} {cc : ByteArray} {nL n w : Nat} {own : String} {ret : Option FieldType} {Z : State → Prop} {pc : Nat} {al : List (Nat × Value)} {st : List Value} {T : tkT} {h : tkH} {c : Nat} {v : Int32} (G : tkG E X cc nL own ret) (hd : decode cc pc = .ok (.ldc c, 2)) (hw : Cond.constant own c v ∈ tkTb) (k : tkV E X nL n w Z (pc + 2) al (.int v :: st) T h) : tkV E X nL n w Z pc al (st) T h :=
  fun H locs ls hP hz hS hl => lv_ldc G.1.1 G.1.2.1 G.1.2.2.2.1 (G.1.2.2.2.2 _ hw) hd (k H locs ls hP hz hS hl)
theorem tk_ldcw {E : tkE} {X : tkX} {cc : ByteArray} {nL n w : Nat} {own : String} {ret : Option FieldType} {Z : State → Prop} {pc : Nat} {al : List (Nat × Value)} {st : List Value} {T : tkT} {h : tkH} {c : Nat} {v : Int32} (G : tkG E X cc nL own ret) (hd : decode cc pc = .ok (.ldc_w c, 3)) (hw : Cond.constant own c v ∈ tkTb) (k : tkV E X nL n w Z (pc + 3) al (.int v :: st) T h) : tkV E X nL n w Z pc al (st) T h :=
  fun H locs ls hP hz hS hl => lv_ldcw G.1.1 G.1.2.1 G.1.2.2.2.1 (G.1.2.2.2.2 _ hw) hd (k H locs ls hP hz hS hl)
theorem tk_iload_n {E : tkE} {X : tkX} {cc : ByteArray} {nL n w : Nat} {own : String} {ret : Option FieldType} {Z : State → Prop} {pc : Nat} {al : List (Nat × Value)} {st : List Value} {T : tkT} {h : tkH} {c : Fin 4} {x : Int32} (G : tkG E X cc nL own ret) (hd : decode cc pc = .ok (.iload_n c, 1)) (q : Nat) (hq : al[q]? = some ((c : Nat), .int x)) (k : tkV E X nL n w Z (pc + 1) al (.int x :: st) T h) : tkV E X nL n w Z pc al (st) T h :=
  fun H locs ls hP hz hS hl => lv_iload_n G.1.1 G.1.2.1 hd rfl (lv_at hl q hq) (k H locs ls hP hz hS hl)
theorem tk_iload {E : tkE} {X : tkX} {cc : ByteArray} {nL n w : Nat} {own : String} {ret : Option FieldType} {Z : State → Prop} {pc : Nat} {al : List (Nat × Value)} {st : List Value} {T : tkT} {h : tkH} {c : Nat} {x : Int32} (G : tkG E X cc nL own ret) (hd : decode cc pc = .ok (.iload c, 2)) (q : Nat) (hq : al[q]? = some (c, .int x)) (k : tkV E X nL n w Z (pc + 2) al (.int x :: st) T h) : tkV E X nL n w Z pc al (st) T h :=
  fun H locs ls hP hz hS hl => lv_iload G.1.1 G.1.2.1 hd (lv_at hl q hq) (k H locs ls hP hz hS hl)
theorem tk_aload_n {E : tkE} {X : tkX} {cc : ByteArray} {nL n w : Nat} {own : String} {ret : Option FieldType} {Z : State → Prop} {pc : Nat} {al : List (Nat × Value)} {st : List Value} {T : tkT} {h : tkH} {c : Fin 4} {x : Nat} (G : tkG E X cc nL own ret) (hd : decode cc pc = .ok (.aload_n c, 1)) (q : Nat) (hq : al[q]? = some ((c : Nat), .ref x)) (k : tkV E X nL n w Z (pc + 1) al (.ref x :: st) T h) : tkV E X nL n w Z pc al (st) T h :=
  fun H locs ls hP hz hS hl => lv_aload_n G.1.1 G.1.2.1 hd rfl (lv_at hl q hq) (k H locs ls hP hz hS hl)
theorem tk_aload {E : tkE} {X : tkX} {cc : ByteArray} {nL n w : Nat} {own : String} {ret : Option FieldType} {Z : State → Prop} {pc : Nat} {al : List (Nat × Value)} {st : List Value} {T : tkT} {h : tkH} {c : Nat} {x : Nat} (G : tkG E X cc nL own ret) (hd : decode cc pc = .ok (.aload c, 2)) (q : Nat) (hq : al[q]? = some (c, .ref x)) (k : tkV E X nL n w Z (pc + 2) al (.ref x :: st) T h) : tkV E X nL n w Z pc al (st) T h :=
  fun H locs ls hP hz hS hl => lv_aload G.1.1 G.1.2.1 hd (lv_at hl q hq) (k H locs ls hP hz hS hl)
theorem tk_iadd {E : tkE} {X : tkX} {cc : ByteArray} {nL n w : Nat} {own : String} {ret : Option FieldType} {Z : State → Prop} {pc : Nat} {al : List (Nat × Value)} {st : List Value} {T : tkT} {h : tkH} {x y : Int32} (G : tkG E X cc nL own ret) (hd : decode cc pc = .ok (.iadd, 1))  (k : tkV E X nL n w Z (pc + 1) al (.int (x + y) :: st) T h) : tkV E X nL n w Z pc al (.int y :: .int x :: st) T h :=
  fun H locs ls hP hz hS hl => lv_iadd G.1.1 G.1.2.1 hd (k H locs ls hP hz hS hl)
theorem tk_isub {E : tkE} {X : tkX} {cc : ByteArray} {nL n w : Nat} {own : String} {ret : Option FieldType} {Z : State → Prop} {pc : Nat} {al : List (Nat × Value)} {st : List Value} {T : tkT} {h : tkH} {x y : Int32} (G : tkG E X cc nL own ret) (hd : decode cc pc = .ok (.isub, 1))  (k : tkV E X nL n w Z (pc + 1) al (.int (x - y) :: st) T h) : tkV E X nL n w Z pc al (.int y :: .int x :: st) T h :=
  fun H locs ls hP hz hS hl => lv_isub G.1.1 G.1.2.1 hd (k H locs ls hP hz hS hl)
theorem tk_imul {E : tkE} {X : tkX} {cc : ByteArray} {nL n w : Nat} {own : String} {ret : Option FieldType} {Z : State → Prop} {pc : Nat} {al : List (Nat × Value)} {st : List Value} {T : tkT} {h : tkH} {x y : Int32} (G : tkG E X cc nL own ret) (hd : decode cc pc = .ok (.imul, 1))  (k : tkV E X nL n w Z (pc + 1) al (.int (x * y) :: st) T h) : tkV E X nL n w Z pc al (.int y :: .int x :: st) T h :=
  fun H locs ls hP hz hS hl => lv_imul G.1.1 G.1.2.1 hd (k H locs ls hP hz hS hl)
theorem tk_iand {E : tkE} {X : tkX} {cc : ByteArray} {nL n w : Nat} {own : String} {ret : Option FieldType} {Z : State → Prop} {pc : Nat} {al : List (Nat × Value)} {st : List Value} {T : tkT} {h : tkH} {x y : Int32} (G : tkG E X cc nL own ret) (hd : decode cc pc = .ok (.iand, 1))  (k : tkV E X nL n w Z (pc + 1) al (.int (x &&& y) :: st) T h) : tkV E X nL n w Z pc al (.int y :: .int x :: st) T h :=
  fun H locs ls hP hz hS hl => lv_iand G.1.1 G.1.2.1 hd (k H locs ls hP hz hS hl)
theorem tk_ior {E : tkE} {X : tkX} {cc : ByteArray} {nL n w : Nat} {own : String} {ret : Option FieldType} {Z : State → Prop} {pc : Nat} {al : List (Nat × Value)} {st : List Value} {T : tkT} {h : tkH} {x y : Int32} (G : tkG E X cc nL own ret) (hd : decode cc pc = .ok (.ior, 1))  (k : tkV E X nL n w Z (pc + 1) al (.int (x ||| y) :: st) T h) : tkV E X nL n w Z pc al (.int y :: .int x :: st) T h :=
  fun H locs ls hP hz hS hl => lv_ior G.1.1 G.1.2.1 hd (k H locs ls hP hz hS hl)
theorem tk_ixor {E : tkE} {X : tkX} {cc : ByteArray} {nL n w : Nat} {own : String} {ret : Option FieldType} {Z : State → Prop} {pc : Nat} {al : List (Nat × Value)} {st : List Value} {T : tkT} {h : tkH} {x y : Int32} (G : tkG E X cc nL own ret) (hd : decode cc pc = .ok (.ixor, 1))  (k : tkV E X nL n w Z (pc + 1) al (.int (x ^^^ y) :: st) T h) : tkV E X nL n w Z pc al (.int y :: .int x :: st) T h :=
  fun H locs ls hP hz hS hl => lv_ixor G.1.1 G.1.2.1 hd (k H locs ls hP hz hS hl)
theorem tk_ishl {E : tkE} {X : tkX} {cc : ByteArray} {nL n w : Nat} {own : String} {ret : Option FieldType} {Z : State → Prop} {pc : Nat} {al : List (Nat × Value)} {st : List Value} {T : tkT} {h : tkH} {x y : Int32} (G : tkG E X cc nL own ret) (hd : decode cc pc = .ok (.ishl, 1))  (k : tkV E X nL n w Z (pc + 1) al (.int (x <<< (y &&& 31)) :: st) T h) : tkV E X nL n w Z pc al (.int y :: .int x :: st) T h :=
  fun H locs ls hP hz hS hl => lv_ishl G.1.1 G.1.2.1 hd (k H locs ls hP hz hS hl)
theorem tk_ishr {E : tkE} {X : tkX} {cc : ByteArray} {nL n w : Nat} {own : String} {ret : Option FieldType} {Z : State → Prop} {pc : Nat} {al : List (Nat × Value)} {st : List Value} {T : tkT} {h : tkH} {x y : Int32} (G : tkG E X cc nL own ret) (hd : decode cc pc = .ok (.ishr, 1))  (k : tkV E X nL n w Z (pc + 1) al (.int (x >>> (y &&& 31)) :: st) T h) : tkV E X nL n w Z pc al (.int y :: .int x :: st) T h :=
  fun H locs ls hP hz hS hl => lv_ishr G.1.1 G.1.2.1 hd (k H locs ls hP hz hS hl)
theorem tk_iushr {E : tkE} {X : tkX} {cc : ByteArray} {nL n w : Nat} {own : String} {ret : Option FieldType} {Z : State → Prop} {pc : Nat} {al : List (Nat × Value)} {st : List Value} {T : tkT} {h : tkH} {x y : Int32} (G : tkG E X cc nL own ret) (hd : decode cc pc = .ok (.iushr, 1))  (k : tkV E X nL n w Z (pc + 1) al (.int ((x.toUInt32 >>> (y.toUInt32 &&& Int32.toUInt32 31)).toInt32) :: st) T h) : tkV E X nL n w Z pc al (.int y :: .int x :: st) T h :=
  fun H locs ls hP hz hS hl => lv_iushr G.1.1 G.1.2.1 hd rfl (k H locs ls hP hz hS hl)
theorem tk_idiv {E : tkE} {X : tkX} {cc : ByteArray} {nL n w : Nat} {own : String} {ret : Option FieldType} {Z : State → Prop} {pc : Nat} {al : List (Nat × Value)} {st : List Value} {T : tkT} {h : tkH} {x y : Int32} (G : tkG E X cc nL own ret) (hd : decode cc pc = .ok (.idiv, 1)) (hy : ¬ y = 0) (k : tkV E X nL n w Z (pc + 1) al (.int (x / y) :: st) T h) : tkV E X nL n w Z pc al (.int y :: .int x :: st) T h :=
  fun H locs ls hP hz hS hl => lv_idiv G.1.1 G.1.2.1 hd hy (k H locs ls hP hz hS hl)
theorem tk_irem {E : tkE} {X : tkX} {cc : ByteArray} {nL n w : Nat} {own : String} {ret : Option FieldType} {Z : State → Prop} {pc : Nat} {al : List (Nat × Value)} {st : List Value} {T : tkT} {h : tkH} {x y : Int32} (G : tkG E X cc nL own ret) (hd : decode cc pc = .ok (.irem, 1)) (hy : ¬ y = 0) (k : tkV E X nL n w Z (pc + 1) al (.int (x - x / y * y) :: st) T h) : tkV E X nL n w Z pc al (.int y :: .int x :: st) T h :=
  fun H locs ls hP hz hS hl => lv_irem G.1.1 G.1.2.1 hd hy (k H locs ls hP hz hS hl)
theorem tk_i2l {E : tkE} {X : tkX} {cc : ByteArray} {nL n w : Nat} {own : String} {ret : Option FieldType} {Z : State → Prop} {pc : Nat} {al : List (Nat × Value)} {st : List Value} {T : tkT} {h : tkH} {x : Int32} (G : tkG E X cc nL own ret) (hd : decode cc pc = .ok (.i2l, 1))  (k : tkV E X nL n w Z (pc + 1) al (.long x.toInt64 :: st) T h) : tkV E X nL n w Z pc al (.int x :: st) T h :=
  fun H locs ls hP hz hS hl => lv_i2l G.1.1 G.1.2.1 hd rfl (k H locs ls hP hz hS hl)
theorem tk_ladd {E : tkE} {X : tkX} {cc : ByteArray} {nL n w : Nat} {own : String} {ret : Option FieldType} {Z : State → Prop} {pc : Nat} {al : List (Nat × Value)} {st : List Value} {T : tkT} {h : tkH} {x y : Int64} (G : tkG E X cc nL own ret) (hd : decode cc pc = .ok (.ladd, 1))  (k : tkV E X nL n w Z (pc + 1) al (.long (x + y) :: st) T h) : tkV E X nL n w Z pc al (.long y :: .long x :: st) T h :=
  fun H locs ls hP hz hS hl => lv_ladd G.1.1 G.1.2.1 hd (k H locs ls hP hz hS hl)
theorem tk_lcmp {E : tkE} {X : tkX} {cc : ByteArray} {nL n w : Nat} {own : String} {ret : Option FieldType} {Z : State → Prop} {pc : Nat} {al : List (Nat × Value)} {st : List Value} {T : tkT} {h : tkH} {x y : Int64} (G : tkG E X cc nL own ret) (hd : decode cc pc = .ok (.lcmp, 1))  (k : tkV E X nL n w Z (pc + 1) al (.int (lg_cmp x y) :: st) T h) : tkV E X nL n w Z pc al (.long y :: .long x :: st) T h :=
  fun H locs ls hP hz hS hl => W.lcmp G.1.1 G.1.2.1 hd (k H locs ls hP hz hS hl)
theorem tk_dup {E : tkE} {X : tkX} {cc : ByteArray} {nL n w : Nat} {own : String} {ret : Option FieldType} {Z : State → Prop} {pc : Nat} {al : List (Nat × Value)} {st : List Value} {T : tkT} {h : tkH} {v : Value} (G : tkG E X cc nL own ret) (hd : decode cc pc = .ok (.dup, 1)) (hv : v.category = 1) (k : tkV E X nL n w Z (pc + 1) al (v :: v :: st) T h) : tkV E X nL n w Z pc al (v :: st) T h :=
  fun H locs ls hP hz hS hl => lv_dup G.1.1 G.1.2.1 hd hv (k H locs ls hP hz hS hl)
theorem tk_pop {E : tkE} {X : tkX} {cc : ByteArray} {nL n w : Nat} {own : String} {ret : Option FieldType} {Z : State → Prop} {pc : Nat} {al : List (Nat × Value)} {st : List Value} {T : tkT} {h : tkH} {v : Value} (G : tkG E X cc nL own ret) (hd : decode cc pc = .ok (.pop, 1)) (hv : v.category = 1) (k : tkV E X nL n w Z (pc + 1) al (st) T h) : tkV E X nL n w Z pc al (v :: st) T h :=
  fun H locs ls hP hz hS hl => lv_pop G.1.1 G.1.2.1 hd hv (k H locs ls hP hz hS hl)
theorem tk_dup2 {E : tkE} {X : tkX} {cc : ByteArray} {nL n w : Nat} {own : String} {ret : Option FieldType} {Z : State → Prop} {pc : Nat} {al : List (Nat × Value)} {st : List Value} {T : tkT} {h : tkH} {v u : Value} (G : tkG E X cc nL own ret) (hd : decode cc pc = .ok (.dup2, 1)) (hv : v.category = 1) (hu : u.category = 1) (k : tkV E X nL n w Z (pc + 1) al (v :: u :: v :: u :: st) T h) : tkV E X nL n w Z pc al (v :: u :: st) T h :=
  fun H locs ls hP hz hS hl => lv_dup2_11 G.1.1 G.1.2.1 hd hv hu (k H locs ls hP hz hS hl)
theorem tk_istore_n {E : tkE} {X : tkX} {cc : ByteArray} {nL n w : Nat} {own : String} {ret : Option FieldType} {Z : State → Prop} {pc : Nat} {al : List (Nat × Value)} {st : List Value} {T : tkT} {h : tkH} {c : Fin 4} {x : Int32} {al' : List (Nat × Value)} (G : tkG E X cc nL own ret) (hd : decode cc pc = .ok (.istore_n c, 1)) (hn : (c : Nat) < nL) (hl' : ((c : Nat), Value.int x) :: al.filter (fun q => !(q.1 == (c : Nat)) && !(q.1 + 1 == (c : Nat) && q.2.category == 2)) = al') (k : tkV E X nL n w Z (pc + 1) al' st T h) : tkV E X nL n w Z pc al (Value.int x :: st) T h :=
  fun H locs ls hP hz hS hl => lv_istore_n G.1.1 G.1.2.1 hd rfl hl hn hl' (fun ls' hl'' => k H locs ls' hP hz hS hl'')
theorem tk_istore {E : tkE} {X : tkX} {cc : ByteArray} {nL n w : Nat} {own : String} {ret : Option FieldType} {Z : State → Prop} {pc : Nat} {al : List (Nat × Value)} {st : List Value} {T : tkT} {h : tkH} {c : Nat} {x : Int32} {al' : List (Nat × Value)} (G : tkG E X cc nL own ret) (hd : decode cc pc = .ok (.istore c, 2)) (hn : (c : Nat) < nL) (hl' : ((c : Nat), Value.int x) :: al.filter (fun q => !(q.1 == (c : Nat)) && !(q.1 + 1 == (c : Nat) && q.2.category == 2)) = al') (k : tkV E X nL n w Z (pc + 2) al' st T h) : tkV E X nL n w Z pc al (Value.int x :: st) T h :=
  fun H locs ls hP hz hS hl => lv_istore G.1.1 G.1.2.1 hd hl hn hl' (fun ls' hl'' => k H locs ls' hP hz hS hl'')
theorem tk_astore_n {E : tkE} {X : tkX} {cc : ByteArray} {nL n w : Nat} {own : String} {ret : Option FieldType} {Z : State → Prop} {pc : Nat} {al : List (Nat × Value)} {st : List Value} {T : tkT} {h : tkH} {c : Fin 4} {x : Nat} {al' : List (Nat × Value)} (G : tkG E X cc nL own ret) (hd : decode cc pc = .ok (.astore_n c, 1)) (hn : (c : Nat) < nL) (hl' : ((c : Nat), Value.ref x) :: al.filter (fun q => !(q.1 == (c : Nat)) && !(q.1 + 1 == (c : Nat) && q.2.category == 2)) = al') (k : tkV E X nL n w Z (pc + 1) al' st T h) : tkV E X nL n w Z pc al (Value.ref x :: st) T h :=
  fun H locs ls hP hz hS hl => lv_astore_n G.1.1 G.1.2.1 hd rfl hl hn hl' (fun ls' hl'' => k H locs ls' hP hz hS hl'')
theorem tk_astore {E : tkE} {X : tkX} {cc : ByteArray} {nL n w : Nat} {own : String} {ret : Option FieldType} {Z : State → Prop} {pc : Nat} {al : List (Nat × Value)} {st : List Value} {T : tkT} {h : tkH} {c : Nat} {x : Nat} {al' : List (Nat × Value)} (G : tkG E X cc nL own ret) (hd : decode cc pc = .ok (.astore c, 2)) (hn : (c : Nat) < nL) (hl' : ((c : Nat), Value.ref x) :: al.filter (fun q => !(q.1 == (c : Nat)) && !(q.1 + 1 == (c : Nat) && q.2.category == 2)) = al') (k : tkV E X nL n w Z (pc + 2) al' st T h) : tkV E X nL n w Z pc al (Value.ref x :: st) T h :=
  fun H locs ls hP hz hS hl => lv_astore G.1.1 G.1.2.1 hd hl hn hl' (fun ls' hl'' => k H locs ls' hP hz hS hl'')
theorem tk_iinc {E : tkE} {X : tkX} {cc : ByteArray} {nL n w : Nat} {own : String} {ret : Option FieldType} {Z : State → Prop} {pc : Nat} {al : List (Nat × Value)} {st : List Value} {T : tkT} {h : tkH} {c : Nat} {d : Int} {x v : Int32} {al' : List (Nat × Value)} (G : tkG E X cc nL own ret) (hd : decode cc pc = .ok (.iinc c d, 3)) (q : Nat) (hq : al[q]? = some (c, .int x)) (hv : x + Int32.ofInt d = v) (hn : c < nL) (hl' : (c, Value.int v) :: al.filter (fun q => !(q.1 == c) && !(q.1 + 1 == c && q.2.category == 2)) = al') (k : tkV E X nL n w Z (pc + 3) al' st T h) : tkV E X nL n w Z pc al st T h :=
  fun H locs ls hP hz hS hl => lv_iinc G.1.1 G.1.2.1 hd hl hq hv hn hl' (fun ls' hl'' => k H locs ls' hP hz hS hl'')
theorem tk_goto {E : tkE} {X : tkX} {cc : ByteArray} {nL n w : Nat} {own : String} {ret : Option FieldType} {Z : State → Prop} {pc : Nat} {al : List (Nat × Value)} {st : List Value} {T : tkT} {h : tkH} {off : Int} {tgt : Nat} (G : tkG E X cc nL own ret) (hd : decode cc pc = .ok (.goto off, 3)) (ht : (pc : Int) + off = (tgt : Int)) (k : tkV E X nL n w Z tgt al st T h) : tkV E X nL n w Z pc al st T h :=
  fun H locs ls hP hz hS hl => lv_goto G.1.1 G.1.2.1 hd ht (k H locs ls hP hz hS hl)
theorem tk_if_eq {E : tkE} {X : tkX} {cc : ByteArray} {nL n w : Nat} {own : String} {ret : Option FieldType} {Z : State → Prop} {pc : Nat} {al : List (Nat × Value)} {st : List Value} {T : tkT} {h : tkH} {x : Int32} {off : Int} {tgt : Nat} (G : tkG E X cc nL own ret) (hd : decode cc pc = .ok (.ifCond .eq off, 3)) (ht : (pc : Int) + off = (tgt : Int)) (kt : (x = 0) → tkV E X nL n w Z tgt al st T h) (kf : (¬ x = 0) → tkV E X nL n w Z (pc + 3) al st T h) : tkV E X nL n w Z pc al (.int x :: st) T h :=
  fun H locs ls hP hz hS hl => lv_if_eq G.1.1 G.1.2.1 hd ht (fun q => kt q H locs ls hP hz hS hl) (fun q => kf q H locs ls hP hz hS hl)
theorem tk_if_lt {E : tkE} {X : tkX} {cc : ByteArray} {nL n w : Nat} {own : String} {ret : Option FieldType} {Z : State → Prop} {pc : Nat} {al : List (Nat × Value)} {st : List Value} {T : tkT} {h : tkH} {x : Int32} {off : Int} {tgt : Nat} (G : tkG E X cc nL own ret) (hd : decode cc pc = .ok (.ifCond .lt off, 3)) (ht : (pc : Int) + off = (tgt : Int)) (kt : (x < 0) → tkV E X nL n w Z tgt al st T h) (kf : (¬ x < 0) → tkV E X nL n w Z (pc + 3) al st T h) : tkV E X nL n w Z pc al (.int x :: st) T h :=
  fun H locs ls hP hz hS hl => lv_if_lt G.1.1 G.1.2.1 hd ht (fun q => kt q H locs ls hP hz hS hl) (fun q => kf q H locs ls hP hz hS hl)
theorem tk_if_le {E : tkE} {X : tkX} {cc : ByteArray} {nL n w : Nat} {own : String} {ret : Option FieldType} {Z : State → Prop} {pc : Nat} {al : List (Nat × Value)} {st : List Value} {T : tkT} {h : tkH} {x : Int32} {off : Int} {tgt : Nat} (G : tkG E X cc nL own ret) (hd : decode cc pc = .ok (.ifCond .le off, 3)) (ht : (pc : Int) + off = (tgt : Int)) (kt : (x ≤ 0) → tkV E X nL n w Z tgt al st T h) (kf : (¬ x ≤ 0) → tkV E X nL n w Z (pc + 3) al st T h) : tkV E X nL n w Z pc al (.int x :: st) T h :=
  fun H locs ls hP hz hS hl => lv_if_le G.1.1 G.1.2.1 hd ht (fun q => kt q H locs ls hP hz hS hl) (fun q => kf q H locs ls hP hz hS hl)
theorem tk_if_gt {E : tkE} {X : tkX} {cc : ByteArray} {nL n w : Nat} {own : String} {ret : Option FieldType} {Z : State → Prop} {pc : Nat} {al : List (Nat × Value)} {st : List Value} {T : tkT} {h : tkH} {x : Int32} {off : Int} {tgt : Nat} (G : tkG E X cc nL own ret) (hd : decode cc pc = .ok (.ifCond .gt off, 3)) (ht : (pc : Int) + off = (tgt : Int)) (kt : (0 < x) → tkV E X nL n w Z tgt al st T h) (kf : (¬ 0 < x) → tkV E X nL n w Z (pc + 3) al st T h) : tkV E X nL n w Z pc al (.int x :: st) T h :=
  fun H locs ls hP hz hS hl => lv_if_gt G.1.1 G.1.2.1 hd ht (fun q => kt q H locs ls hP hz hS hl) (fun q => kf q H locs ls hP hz hS hl)
theorem tk_if_ge {E : tkE} {X : tkX} {cc : ByteArray} {nL n w : Nat} {own : String} {ret : Option FieldType} {Z : State → Prop} {pc : Nat} {al : List (Nat × Value)} {st : List Value} {T : tkT} {h : tkH} {x : Int32} {off : Int} {tgt : Nat} (G : tkG E X cc nL own ret) (hd : decode cc pc = .ok (.ifCond .ge off, 3)) (ht : (pc : Int) + off = (tgt : Int)) (kt : (0 ≤ x) → tkV E X nL n w Z tgt al st T h) (kf : (¬ 0 ≤ x) → tkV E X nL n w Z (pc + 3) al st T h) : tkV E X nL n w Z pc al (.int x :: st) T h :=
  fun H locs ls hP hz hS hl => lv_if_ge G.1.1 G.1.2.1 hd ht (fun q => kt q H locs ls hP hz hS hl) (fun q => kf q H locs ls hP hz hS hl)
theorem tk_if_ne {E : tkE} {X : tkX} {cc : ByteArray} {nL n w : Nat} {own : String} {ret : Option FieldType} {Z : State → Prop} {pc : Nat} {al : List (Nat × Value)} {st : List Value} {T : tkT} {h : tkH} {x : Int32} {off : Int} {tgt : Nat} (G : tkG E X cc nL own ret) (hd : decode cc pc = .ok (.ifCond .ne off, 3)) (ht : (pc : Int) + off = (tgt : Int)) (kt : (¬ x = 0) → tkV E X nL n w Z tgt al st T h) (kf : (x = 0) → tkV E X nL n w Z (pc + 3) al st T h) : tkV E X nL n w Z pc al (.int x :: st) T h :=
  fun H locs ls hP hz hS hl => lv_if_ne G.1.1 G.1.2.1 hd ht (fun q => kt q H locs ls hP hz hS hl) (fun q => kf q H locs ls hP hz hS hl)
theorem tk_icmp_eq {E : tkE} {X : tkX} {cc : ByteArray} {nL n w : Nat} {own : String} {ret : Option FieldType} {Z : State → Prop} {pc : Nat} {al : List (Nat × Value)} {st : List Value} {T : tkT} {h : tkH} {x y : Int32} {off : Int} {tgt : Nat} (G : tkG E X cc nL own ret) (hd : decode cc pc = .ok (.if_icmp .eq off, 3)) (ht : (pc : Int) + off = (tgt : Int)) (kt : (x = y) → tkV E X nL n w Z tgt al st T h) (kf : (¬ x = y) → tkV E X nL n w Z (pc + 3) al st T h) : tkV E X nL n w Z pc al (.int y :: .int x :: st) T h :=
  fun H locs ls hP hz hS hl => lv_icmp_eq G.1.1 G.1.2.1 hd ht (fun q => kt q H locs ls hP hz hS hl) (fun q => kf q H locs ls hP hz hS hl)
theorem tk_icmp_lt {E : tkE} {X : tkX} {cc : ByteArray} {nL n w : Nat} {own : String} {ret : Option FieldType} {Z : State → Prop} {pc : Nat} {al : List (Nat × Value)} {st : List Value} {T : tkT} {h : tkH} {x y : Int32} {off : Int} {tgt : Nat} (G : tkG E X cc nL own ret) (hd : decode cc pc = .ok (.if_icmp .lt off, 3)) (ht : (pc : Int) + off = (tgt : Int)) (kt : (x < y) → tkV E X nL n w Z tgt al st T h) (kf : (¬ x < y) → tkV E X nL n w Z (pc + 3) al st T h) : tkV E X nL n w Z pc al (.int y :: .int x :: st) T h :=
  fun H locs ls hP hz hS hl => lv_icmp_lt G.1.1 G.1.2.1 hd ht (fun q => kt q H locs ls hP hz hS hl) (fun q => kf q H locs ls hP hz hS hl)
theorem tk_icmp_le {E : tkE} {X : tkX} {cc : ByteArray} {nL n w : Nat} {own : String} {ret : Option FieldType} {Z : State → Prop} {pc : Nat} {al : List (Nat × Value)} {st : List Value} {T : tkT} {h : tkH} {x y : Int32} {off : Int} {tgt : Nat} (G : tkG E X cc nL own ret) (hd : decode cc pc = .ok (.if_icmp .le off, 3)) (ht : (pc : Int) + off = (tgt : Int)) (kt : (x ≤ y) → tkV E X nL n w Z tgt al st T h) (kf : (¬ x ≤ y) → tkV E X nL n w Z (pc + 3) al st T h) : tkV E X nL n w Z pc al (.int y :: .int x :: st) T h :=
  fun H locs ls hP hz hS hl => lv_icmp_le G.1.1 G.1.2.1 hd ht (fun q => kt q H locs ls hP hz hS hl) (fun q => kf q H locs ls hP hz hS hl)
theorem tk_icmp_gt {E : tkE} {X : tkX} {cc : ByteArray} {nL n w : Nat} {own : String} {ret : Option FieldType} {Z : State → Prop} {pc : Nat} {al : List (Nat × Value)} {st : List Value} {T : tkT} {h : tkH} {x y : Int32} {off : Int} {tgt : Nat} (G : tkG E X cc nL own ret) (hd : decode cc pc = .ok (.if_icmp .gt off, 3)) (ht : (pc : Int) + off = (tgt : Int)) (kt : (y < x) → tkV E X nL n w Z tgt al st T h) (kf : (¬ y < x) → tkV E X nL n w Z (pc + 3) al st T h) : tkV E X nL n w Z pc al (.int y :: .int x :: st) T h :=
  fun H locs ls hP hz hS hl => lv_icmp_gt G.1.1 G.1.2.1 hd ht (fun q => kt q H locs ls hP hz hS hl) (fun q => kf q H locs ls hP hz hS hl)
theorem tk_icmp_ge {E : tkE} {X : tkX} {cc : ByteArray} {nL n w : Nat} {own : String} {ret : Option FieldType} {Z : State → Prop} {pc : Nat} {al : List (Nat × Value)} {st : List Value} {T : tkT} {h : tkH} {x y : Int32} {off : Int} {tgt : Nat} (G : tkG E X cc nL own ret) (hd : decode cc pc = .ok (.if_icmp .ge off, 3)) (ht : (pc : Int) + off = (tgt : Int)) (kt : (y ≤ x) → tkV E X nL n w Z tgt al st T h) (kf : (¬ y ≤ x) → tkV E X nL n w Z (pc + 3) al st T h) : tkV E X nL n w Z pc al (.int y :: .int x :: st) T h :=
  fun H locs ls hP hz hS hl => lv_icmp_ge G.1.1 G.1.2.1 hd ht (fun q => kt q H locs ls hP hz hS hl) (fun q => kf q H locs ls hP hz hS hl)
theorem tk_icmp_ne {E : tkE} {X : tkX} {cc : ByteArray} {nL n w : Nat} {own : String} {ret : Option FieldType} {Z : State → Prop} {pc : Nat} {al : List (Nat × Value)} {st : List Value} {T : tkT} {h : tkH} {x y : Int32} {off : Int} {tgt : Nat} (G : tkG E X cc nL own ret) (hd : decode cc pc = .ok (.if_icmp .ne off, 3)) (ht : (pc : Int) + off = (tgt : Int)) (kt : (¬ x = y) → tkV E X nL n w Z tgt al st T h) (kf : (x = y) → tkV E X nL n w Z (pc + 3) al st T h) : tkV E X nL n w Z pc al (.int y :: .int x :: st) T h :=
  fun H locs ls hP hz hS hl => lv_icmp_ne G.1.1 G.1.2.1 hd ht (fun q => kt q H locs ls hP hz hS hl) (fun q => kf q H locs ls hP hz hS hl)
theorem tk_tabIn {E : tkE} {X : tkX} {cc : ByteArray} {nL n w : Nat} {own : String} {ret : Option FieldType} {Z : State → Prop} {pc : Nat} {al : List (Nat × Value)} {st : List Value} {T : tkT} {h : tkH} {dflt lo hi off : Int} {offs : Array Int} {len : Nat} {x : Int32} {tgt : Nat} (G : tkG E X cc nL own ret) (hd : decode cc pc = .ok (.tableswitch dflt lo hi offs, len)) (h1 : ¬ x.toInt < lo) (h2 : ¬ hi < x.toInt) (ho : offs[(x.toInt - lo).toNat]? = some off) (ht : (pc : Int) + off = (tgt : Int)) (k : tkV E X nL n w Z tgt al st T h) : tkV E X nL n w Z pc al (.int x :: st) T h :=
  fun H locs ls hP hz hS hl => lv_tableIn G.1.1 G.1.2.1 hd h1 h2 ho ht (k H locs ls hP hz hS hl)
theorem tk_tabOut {E : tkE} {X : tkX} {cc : ByteArray} {nL n w : Nat} {own : String} {ret : Option FieldType} {Z : State → Prop} {pc : Nat} {al : List (Nat × Value)} {st : List Value} {T : tkT} {h : tkH} {dflt lo hi : Int} {offs : Array Int} {len : Nat} {x : Int32} {tgt : Nat} (G : tkG E X cc nL own ret) (hd : decode cc pc = .ok (.tableswitch dflt lo hi offs, len)) (h1 : x.toInt < lo ∨ hi < x.toInt) (ht : (pc : Int) + dflt = (tgt : Int)) (k : tkV E X nL n w Z tgt al st T h) : tkV E X nL n w Z pc al (.int x :: st) T h :=
  fun H locs ls hP hz hS hl => lv_tableOut G.1.1 G.1.2.1 hd h1 ht (k H locs ls hP hz hS hl)
