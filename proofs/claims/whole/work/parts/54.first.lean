/-! behind the constructors: the first state -/
def h00 : tkH := fun _ _ => 0
def hE : tkH := mdh (desH h00) 217
theorem desH_o {q : Nat} (e : q < 12 ∨ 192 ≤ q) (e0 : q ≠ 0) (e8 : q ≠ 8) (e2 : q ≠ 201) : desH h00 q = fun _ => 0 := by
  unfold desH
  rw [up_a e0]
  unfold flh
  rw [if_neg e2, hisH_o e 20 (Nat.le_refl _), bkh_o (by omega)]
  rfl
theorem hE_d {q : Nat} (e : q ≠ 218) : hE q = desH h00 q := by
  unfold hE mdh
  rw [up_a e, up_a e, up_a e]
theorem hE_o {q : Nat} (e : q < 12 ∨ 192 ≤ q) (e0 : q ≠ 0) (e8 : q ≠ 8) (e2 : q ≠ 201) (e3 : q ≠ 218) : hE q = fun _ => 0 := (hE_d e3).trans (desH_o e e0 e8 e2)
def vE (i : Nat) : Nat := if i = 3 then 3 else if i = 2 then 1 else if i = 1 then 4 else 0
theorem hE218 (i : Nat) : hE 218 i = nI (vE i) := by
  have d := desH_o (q := 218) (by omega) (by decide) (by decide) (by decide)
  unfold hE mdh vE
  show tkup (tkup (tkup (desH h00) 218 1 4) 218 2 1) 218 3 3 218 i = _
  by_cases c3 : i = 3
  · rw [if_pos c3, c3, up_s]
    rfl
  · rw [if_neg c3, up_i c3]
    by_cases c2 : i = 2
    · rw [if_pos c2, c2, up_s]
      rfl
    · rw [if_neg c2, up_i c2]
      by_cases c1 : i = 1
      · rw [if_pos c1, c1, up_s]
        rfl
      · rw [if_neg c1, up_i c1, d]
        rfl
theorem vE_0 {i : Nat} (h : i = 0 ∨ 4 ≤ i) : vE i = 0 := by
  unfold vE
  rw [if_neg (by omega), if_neg (by omega), if_neg (by omega)]
theorem hE8 (j : Nat) (hj : j < 3) : hE 8 j = nI (vE (1 + j)) := by
  have e : hE 8 = bkh h00 1 8 := by
    rw [hE_d (by decide)]
    unfold desH
    rw [up_a (by decide)]
    unfold flh
    rw [if_neg (by decide), hisH_o (by omega) 20 (Nat.le_refl _)]
  rw [e]
  match j, hj with
  | 0, _ => rfl
  | 1, _ => rfl
  | 2, _ => rfl
theorem hE201 {j : Nat} (hj : j < 100) : hE 201 j = -1 := by
  rw [hE_d (by decide)]
  unfold desH
  rw [up_a (by decide)]
  unfold flh
  rw [if_pos rfl, if_pos hj]
theorem hE0 : hE 0 6 = 0 := by
  rw [hE_d (by decide)]
  unfold desH
  rw [up_s]
theorem hE_N : cN (hE 218) = 0 := by
  unfold cN
  rw [hE218, vE_0 (Or.inl rfl)]
  rfl
theorem hE_V : Vd (hE 218) := by
  refine ⟨by rw [hE218]; exact tN_of (by rw [vE_0 (Or.inl rfl)]; exact Nat.zero_le _) (by decide), fun j hj => ?_, fun j hj => by rw [hE218, vE_0 (by omega)]; exact tN_of (Nat.zero_le _) (by decide), fun t ht => ?_, fun t ht => ?_⟩
  · rw [hE218]
    refine tN_of ?_ (by decide)
    unfold vE
    split
    · omega
    · split
      · omega
      · split <;> omega
  · rw [hE_N] at ht
    omega
  · rw [hE_N] at ht
    omega
theorem hE_I : Inv hE := by
  have z : ∀ q, (q < 12 ∨ 192 ≤ q) → q ≠ 0 → q ≠ 8 → q ≠ 201 → q ≠ 218 → ∀ j, hE q j = 0 := fun q a b c d e j => by rw [hE_o a b c d e]
  refine ⟨hE_V, ⟨?_, fun t ht => ?_, fun j hj => ?_, fun j hj => ?_⟩, ?_, ⟨0, 0, by omega, by omega, ?_, ?_, ?_, fun j hj => by omega⟩, ⟨fun a b ha hb => ?_, fun a b ha hb => ⟨fun q => ?_, fun _ => ?_⟩⟩, fun s hs => ⟨?_, ?_, Or.inl ?_, ?_, fun i hi => ?_⟩⟩
  · rw [z 1 (by omega) (by decide) (by decide) (by decide) (by decide), hE218, vE_0 (Or.inl rfl)]
    rfl
  · rw [hE_N] at ht
    omega
  · rw [hE218]
    exact hE8 j hj
  · rw [z (1 + 8) (by omega) (by decide) (by decide) (by decide) (by decide), hE218, vE_0 (by omega)]
    rfl
  · rw [hE0, z 217 (by omega) (by decide) (by decide) (by decide) (by decide)]
  · rw [z 10 (by omega) (by decide) (by decide) (by decide) (by decide)]
    rfl
  · rw [z 217 (by omega) (by decide) (by decide) (by decide) (by decide)]
    rfl
  · rw [z 10 (by omega) (by decide) (by decide) (by decide) (by decide)]
    rfl
  · rw [hE201 (by omega), hE201 (by omega)]
  · rw [hE_N] at q
    omega
  · exact hE201 (by omega)
  · rw [z (209 + 2 * s) (by omega) (by omega) (by omega) (by omega) (by omega), z 220 (by omega) (by decide) (by decide) (by decide) (by decide)]
  · rw [z (209 + 2 * s) (by omega) (by omega) (by omega) (by omega) (by omega), z 221 (by omega) (by decide) (by decide) (by decide) (by decide)]
  · exact z 220 (by omega) (by decide) (by decide) (by decide) (by decide) s
  · rw [z 221 (by omega) (by decide) (by decide) (by decide) (by decide) s]
    exact tN_of (t := 0) (Nat.zero_le _) (by decide)
  · rw [z 221 (by omega) (by decide) (by decide) (by decide) (by decide) s] at hi
    exact absurd hi (Nat.not_lt_zero _)
theorem oT_F : oT 230 fS = tkF := by
  apply List.ext_getElem?
  intro k
  by_cases c : k < 230
  · rw [oT_get c]
    unfold fS
    rw [List.getD_eq_getElem?_getD, List.getElem?_eq_getElem (by rw [tkF_len]; exact c)]
    rfl
  · rw [oT_none (by omega), List.getElem?_eq_none (by rw [tkF_len]; omega)]
theorem f217S : fS 217 = (12, 29, [some (some 218), some (some 219), none, none, some (some 220), some (some 221), some (some 222), some (some 223), none, none, none, none, none, none, none, none, some (some 224), none, some (some 225), none, some (some 226), some (some 227), some (some 228), none, none, none, none, none, some (some 229)]) := by decide +kernel
theorem f218S : fS 218 = (0, 390, []) := by decide +kernel
theorem f219S : fS 219 = (0, 7800, []) := by decide +kernel
theorem f220S : fS 220 = (0, 4, []) := by decide +kernel
theorem f221S : fS 221 = (0, 4, []) := by decide +kernel
theorem f222S : fS 222 = (0, 120, []) := by decide +kernel
theorem f223S : fS 223 = (0, 4, []) := by decide +kernel
theorem f224S : fS 224 = (0, 121, []) := by decide +kernel
theorem f225S : fS 225 = (0, 10, []) := by decide +kernel
theorem f226S : fS 226 = (0, 100, []) := by decide +kernel
theorem f227S : fS 227 = (0, 10, []) := by decide +kernel
theorem f228S : fS 228 = (0, 10, []) := by decide +kernel
theorem f229S : fS 229 = (0, 30, []) := by decide +kernel
