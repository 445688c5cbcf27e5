-- ===== PART A: goes FIRST, ahead of the names: the tables' words, and 'selects' of the private methods out of them =====
/-- a private method of a class that the tables say can be made, by its rows of tables_1 -/
def lw_okq (q : MethodName × Nat) : Prop := (q.1.cls ≠ "java/lang/invoke/MethodHandle" ∧ q.1.cls ≠ "java/lang/invoke/VarHandle") ∧ Cond.instantiable q.1.cls q.2 ∈ tables_1 ∧ Cond.privateMethod q.1 ∈ tables_1 ∧ Cond.instanceMethod q.1 ∈ tables_1
theorem lw_p0 : lw_okq (⟨"TaleDesk", "finding", "(I)I"⟩, 7) := ⟨⟨by decide +kernel, by decide +kernel⟩, List.mem_of_getElem? (i := 16) (by decide +kernel), List.mem_of_getElem? (i := 266) (by decide +kernel), List.mem_of_getElem? (i := 267) (by decide +kernel)⟩
theorem lw_p1 : lw_okq (⟨"TaleDesk", "heapRefusal", "(I)I"⟩, 7) := ⟨⟨by decide +kernel, by decide +kernel⟩, List.mem_of_getElem? (i := 16) (by decide +kernel), List.mem_of_getElem? (i := 496) (by decide +kernel), List.mem_of_getElem? (i := 497) (by decide +kernel)⟩
theorem lw_p2 : lw_okq (⟨"TaleDesk", "mouldOf", "(I)I"⟩, 7) := ⟨⟨by decide +kernel, by decide +kernel⟩, List.mem_of_getElem? (i := 16) (by decide +kernel), List.mem_of_getElem? (i := 508) (by decide +kernel), List.mem_of_getElem? (i := 509) (by decide +kernel)⟩
theorem lw_p3 : lw_okq (⟨"TaleDesk", "sumOfCosts", "(II)I"⟩, 7) := ⟨⟨by decide +kernel, by decide +kernel⟩, List.mem_of_getElem? (i := 16) (by decide +kernel), List.mem_of_getElem? (i := 513) (by decide +kernel), List.mem_of_getElem? (i := 514) (by decide +kernel)⟩
theorem lw_p4 : lw_okq (⟨"TaleDesk", "cheapestBeside", "(IZ)I"⟩, 7) := ⟨⟨by decide +kernel, by decide +kernel⟩, List.mem_of_getElem? (i := 16) (by decide +kernel), List.mem_of_getElem? (i := 552) (by decide +kernel), List.mem_of_getElem? (i := 553) (by decide +kernel)⟩
theorem lw_p5 : lw_okq (⟨"TaleDesk", "sourceOf", "(I)I"⟩, 7) := ⟨⟨by decide +kernel, by decide +kernel⟩, List.mem_of_getElem? (i := 16) (by decide +kernel), List.mem_of_getElem? (i := 565) (by decide +kernel), List.mem_of_getElem? (i := 566) (by decide +kernel)⟩
theorem lw_p6 : lw_okq (⟨"TaleDeskModel", "finding", "(I)I"⟩, 29) := ⟨⟨by decide +kernel, by decide +kernel⟩, List.mem_of_getElem? (i := 699) (by decide +kernel), List.mem_of_getElem? (i := 798) (by decide +kernel), List.mem_of_getElem? (i := 799) (by decide +kernel)⟩
theorem lw_p7 : lw_okq (⟨"TaleDeskModel", "keep", "()V"⟩, 29) := ⟨⟨by decide +kernel, by decide +kernel⟩, List.mem_of_getElem? (i := 699) (by decide +kernel), List.mem_of_getElem? (i := 814) (by decide +kernel), List.mem_of_getElem? (i := 815) (by decide +kernel)⟩
theorem lw_p8 : lw_okq (⟨"TaleDeskModel", "isTale", "(I)Z"⟩, 29) := ⟨⟨by decide +kernel, by decide +kernel⟩, List.mem_of_getElem? (i := 699) (by decide +kernel), List.mem_of_getElem? (i := 822) (by decide +kernel), List.mem_of_getElem? (i := 823) (by decide +kernel)⟩
theorem lw_p9 : lw_okq (⟨"TaleDeskModel", "setStep", "(IIIII)V"⟩, 29) := ⟨⟨by decide +kernel, by decide +kernel⟩, List.mem_of_getElem? (i := 699) (by decide +kernel), List.mem_of_getElem? (i := 837) (by decide +kernel), List.mem_of_getElem? (i := 838) (by decide +kernel)⟩
theorem lw_p10 : lw_okq (⟨"TaleDeskModel", "isStep", "(II)Z"⟩, 29) := ⟨⟨by decide +kernel, by decide +kernel⟩, List.mem_of_getElem? (i := 699) (by decide +kernel), List.mem_of_getElem? (i := 849) (by decide +kernel), List.mem_of_getElem? (i := 850) (by decide +kernel)⟩
theorem lw_p11 : lw_okq (⟨"TaleDeskModel", "stepOf", "(III)I"⟩, 29) := ⟨⟨by decide +kernel, by decide +kernel⟩, List.mem_of_getElem? (i := 699) (by decide +kernel), List.mem_of_getElem? (i := 853) (by decide +kernel), List.mem_of_getElem? (i := 854) (by decide +kernel)⟩
theorem lw_p12 : lw_okq (⟨"TaleDeskModel", "laidTo", "(I)I"⟩, 29) := ⟨⟨by decide +kernel, by decide +kernel⟩, List.mem_of_getElem? (i := 699) (by decide +kernel), List.mem_of_getElem? (i := 861) (by decide +kernel), List.mem_of_getElem? (i := 862) (by decide +kernel)⟩
theorem lw_p13 : lw_okq (⟨"TaleDeskModel", "laidFrom", "(I)I"⟩, 29) := ⟨⟨by decide +kernel, by decide +kernel⟩, List.mem_of_getElem? (i := 699) (by decide +kernel), List.mem_of_getElem? (i := 865) (by decide +kernel), List.mem_of_getElem? (i := 866) (by decide +kernel)⟩
theorem lw_p14 : lw_okq (⟨"TaleDeskModel", "isCut", "(I)Z"⟩, 29) := ⟨⟨by decide +kernel, by decide +kernel⟩, List.mem_of_getElem? (i := 699) (by decide +kernel), List.mem_of_getElem? (i := 869) (by decide +kernel), List.mem_of_getElem? (i := 870) (by decide +kernel)⟩
theorem lw_p15 : lw_okq (⟨"TaleDeskModel", "costOf", "(II)I"⟩, 29) := ⟨⟨by decide +kernel, by decide +kernel⟩, List.mem_of_getElem? (i := 699) (by decide +kernel), List.mem_of_getElem? (i := 895) (by decide +kernel), List.mem_of_getElem? (i := 896) (by decide +kernel)⟩
def lw_privs_1 : List (MethodName × Nat) := [(⟨"TaleDesk", "finding", "(I)I"⟩, 7), (⟨"TaleDesk", "heapRefusal", "(I)I"⟩, 7), (⟨"TaleDesk", "mouldOf", "(I)I"⟩, 7), (⟨"TaleDesk", "sumOfCosts", "(II)I"⟩, 7), (⟨"TaleDesk", "cheapestBeside", "(IZ)I"⟩, 7), (⟨"TaleDesk", "sourceOf", "(I)I"⟩, 7), (⟨"TaleDeskModel", "finding", "(I)I"⟩, 29), (⟨"TaleDeskModel", "keep", "()V"⟩, 29), (⟨"TaleDeskModel", "isTale", "(I)Z"⟩, 29), (⟨"TaleDeskModel", "setStep", "(IIIII)V"⟩, 29), (⟨"TaleDeskModel", "isStep", "(II)Z"⟩, 29), (⟨"TaleDeskModel", "stepOf", "(III)I"⟩, 29), (⟨"TaleDeskModel", "laidTo", "(I)I"⟩, 29), (⟨"TaleDeskModel", "laidFrom", "(I)I"⟩, 29), (⟨"TaleDeskModel", "isCut", "(I)Z"⟩, 29), (⟨"TaleDeskModel", "costOf", "(II)I"⟩, 29)]
theorem lw_r1 : ∀ q ∈ lw_privs_1, lw_okq q := List.forall_mem_cons.mpr ⟨lw_p0, List.forall_mem_cons.mpr ⟨lw_p1, List.forall_mem_cons.mpr ⟨lw_p2, List.forall_mem_cons.mpr ⟨lw_p3, List.forall_mem_cons.mpr ⟨lw_p4, List.forall_mem_cons.mpr ⟨lw_p5, List.forall_mem_cons.mpr ⟨lw_p6, List.forall_mem_cons.mpr ⟨lw_p7, List.forall_mem_cons.mpr ⟨lw_p8, List.forall_mem_cons.mpr ⟨lw_p9, List.forall_mem_cons.mpr ⟨lw_p10, List.forall_mem_cons.mpr ⟨lw_p11, List.forall_mem_cons.mpr ⟨lw_p12, List.forall_mem_cons.mpr ⟨lw_p13, List.forall_mem_cons.mpr ⟨lw_p14, List.forall_mem_cons.mpr ⟨lw_p15, fun _ h => absurd h List.not_mem_nil⟩⟩⟩⟩⟩⟩⟩⟩⟩⟩⟩⟩⟩⟩⟩⟩
theorem lw_p16 : lw_okq (⟨"TaleDeskModel", "takeTwo", "(II)V"⟩, 29) := ⟨⟨by decide +kernel, by decide +kernel⟩, List.mem_of_getElem? (i := 699) (by decide +kernel), List.mem_of_getElem? (i := 899) (by decide +kernel), List.mem_of_getElem? (i := 900) (by decide +kernel)⟩
theorem lw_p17 : lw_okq (⟨"TaleDeskModel", "isTorn", "(I)Z"⟩, 29) := ⟨⟨by decide +kernel, by decide +kernel⟩, List.mem_of_getElem? (i := 699) (by decide +kernel), List.mem_of_getElem? (i := 903) (by decide +kernel), List.mem_of_getElem? (i := 904) (by decide +kernel)⟩
theorem lw_p18 : lw_okq (⟨"TaleDeskModel", "takeOther", "(I)V"⟩, 29) := ⟨⟨by decide +kernel, by decide +kernel⟩, List.mem_of_getElem? (i := 699) (by decide +kernel), List.mem_of_getElem? (i := 907) (by decide +kernel), List.mem_of_getElem? (i := 908) (by decide +kernel)⟩
theorem lw_p19 : lw_okq (⟨"TaleDeskModel", "leastCost", "()I"⟩, 29) := ⟨⟨by decide +kernel, by decide +kernel⟩, List.mem_of_getElem? (i := 699) (by decide +kernel), List.mem_of_getElem? (i := 911) (by decide +kernel), List.mem_of_getElem? (i := 912) (by decide +kernel)⟩
theorem lw_p20 : lw_okq (⟨"TaleDeskModel", "layBy", "(I)I"⟩, 29) := ⟨⟨by decide +kernel, by decide +kernel⟩, List.mem_of_getElem? (i := 699) (by decide +kernel), List.mem_of_getElem? (i := 916) (by decide +kernel), List.mem_of_getElem? (i := 917) (by decide +kernel)⟩
theorem lw_p21 : lw_okq (⟨"TaleDeskModel", "carry", "(I)V"⟩, 29) := ⟨⟨by decide +kernel, by decide +kernel⟩, List.mem_of_getElem? (i := 699) (by decide +kernel), List.mem_of_getElem? (i := 920) (by decide +kernel), List.mem_of_getElem? (i := 921) (by decide +kernel)⟩
theorem lw_p22 : lw_okq (⟨"TaleDeskModel", "pairCost", "(II)I"⟩, 29) := ⟨⟨by decide +kernel, by decide +kernel⟩, List.mem_of_getElem? (i := 699) (by decide +kernel), List.mem_of_getElem? (i := 924) (by decide +kernel), List.mem_of_getElem? (i := 925) (by decide +kernel)⟩
theorem lw_p23 : lw_okq (⟨"TaleDeskModel", "leastFrom", "(II)I"⟩, 29) := ⟨⟨by decide +kernel, by decide +kernel⟩, List.mem_of_getElem? (i := 699) (by decide +kernel), List.mem_of_getElem? (i := 928) (by decide +kernel), List.mem_of_getElem? (i := 929) (by decide +kernel)⟩
theorem lw_p24 : lw_okq (⟨"TaleDeskModel", "pairsLeft", "(II)I"⟩, 29) := ⟨⟨by decide +kernel, by decide +kernel⟩, List.mem_of_getElem? (i := 699) (by decide +kernel), List.mem_of_getElem? (i := 932) (by decide +kernel), List.mem_of_getElem? (i := 933) (by decide +kernel)⟩
theorem lw_p25 : lw_okq (⟨"TaleDeskModel", "endCost", "(II)I"⟩, 29) := ⟨⟨by decide +kernel, by decide +kernel⟩, List.mem_of_getElem? (i := 699) (by decide +kernel), List.mem_of_getElem? (i := 936) (by decide +kernel), List.mem_of_getElem? (i := 937) (by decide +kernel)⟩
theorem lw_p26 : lw_okq (⟨"TaleDeskModel", "findPairs", "(II)V"⟩, 29) := ⟨⟨by decide +kernel, by decide +kernel⟩, List.mem_of_getElem? (i := 699) (by decide +kernel), List.mem_of_getElem? (i := 949) (by decide +kernel), List.mem_of_getElem? (i := 950) (by decide +kernel)⟩
theorem lw_p27 : lw_okq (⟨"TaleDeskModel", "noHeap", "(I)I"⟩, 29) := ⟨⟨by decide +kernel, by decide +kernel⟩, List.mem_of_getElem? (i := 699) (by decide +kernel), List.mem_of_getElem? (i := 961) (by decide +kernel), List.mem_of_getElem? (i := 962) (by decide +kernel)⟩
theorem lw_p28 : lw_okq (⟨"TaleDeskModel", "mouldOf", "(I)I"⟩, 29) := ⟨⟨by decide +kernel, by decide +kernel⟩, List.mem_of_getElem? (i := 699) (by decide +kernel), List.mem_of_getElem? (i := 965) (by decide +kernel), List.mem_of_getElem? (i := 966) (by decide +kernel)⟩
theorem lw_p29 : lw_okq (⟨"TaleDeskModel", "sumOf", "(II)I"⟩, 29) := ⟨⟨by decide +kernel, by decide +kernel⟩, List.mem_of_getElem? (i := 699) (by decide +kernel), List.mem_of_getElem? (i := 969) (by decide +kernel), List.mem_of_getElem? (i := 970) (by decide +kernel)⟩
theorem lw_p30 : lw_okq (⟨"TaleDeskModel", "findTree", "(I)V"⟩, 29) := ⟨⟨by decide +kernel, by decide +kernel⟩, List.mem_of_getElem? (i := 699) (by decide +kernel), List.mem_of_getElem? (i := 981) (by decide +kernel), List.mem_of_getElem? (i := 982) (by decide +kernel)⟩
theorem lw_p31 : lw_okq (⟨"TaleDeskModel", "nextBranch", "()I"⟩, 29) := ⟨⟨by decide +kernel, by decide +kernel⟩, List.mem_of_getElem? (i := 699) (by decide +kernel), List.mem_of_getElem? (i := 985) (by decide +kernel), List.mem_of_getElem? (i := 986) (by decide +kernel)⟩
def lw_privs_2 : List (MethodName × Nat) := [(⟨"TaleDeskModel", "takeTwo", "(II)V"⟩, 29), (⟨"TaleDeskModel", "isTorn", "(I)Z"⟩, 29), (⟨"TaleDeskModel", "takeOther", "(I)V"⟩, 29), (⟨"TaleDeskModel", "leastCost", "()I"⟩, 29), (⟨"TaleDeskModel", "layBy", "(I)I"⟩, 29), (⟨"TaleDeskModel", "carry", "(I)V"⟩, 29), (⟨"TaleDeskModel", "pairCost", "(II)I"⟩, 29), (⟨"TaleDeskModel", "leastFrom", "(II)I"⟩, 29), (⟨"TaleDeskModel", "pairsLeft", "(II)I"⟩, 29), (⟨"TaleDeskModel", "endCost", "(II)I"⟩, 29), (⟨"TaleDeskModel", "findPairs", "(II)V"⟩, 29), (⟨"TaleDeskModel", "noHeap", "(I)I"⟩, 29), (⟨"TaleDeskModel", "mouldOf", "(I)I"⟩, 29), (⟨"TaleDeskModel", "sumOf", "(II)I"⟩, 29), (⟨"TaleDeskModel", "findTree", "(I)V"⟩, 29), (⟨"TaleDeskModel", "nextBranch", "()I"⟩, 29)]
theorem lw_r2 : ∀ q ∈ lw_privs_2, lw_okq q := List.forall_mem_cons.mpr ⟨lw_p16, List.forall_mem_cons.mpr ⟨lw_p17, List.forall_mem_cons.mpr ⟨lw_p18, List.forall_mem_cons.mpr ⟨lw_p19, List.forall_mem_cons.mpr ⟨lw_p20, List.forall_mem_cons.mpr ⟨lw_p21, List.forall_mem_cons.mpr ⟨lw_p22, List.forall_mem_cons.mpr ⟨lw_p23, List.forall_mem_cons.mpr ⟨lw_p24, List.forall_mem_cons.mpr ⟨lw_p25, List.forall_mem_cons.mpr ⟨lw_p26, List.forall_mem_cons.mpr ⟨lw_p27, List.forall_mem_cons.mpr ⟨lw_p28, List.forall_mem_cons.mpr ⟨lw_p29, List.forall_mem_cons.mpr ⟨lw_p30, List.forall_mem_cons.mpr ⟨lw_p31, fun _ h => absurd h List.not_mem_nil⟩⟩⟩⟩⟩⟩⟩⟩⟩⟩⟩⟩⟩⟩⟩⟩
theorem lw_p32 : lw_okq (⟨"TaleDeskModel", "sourceOf", "(I)I"⟩, 29) := ⟨⟨by decide +kernel, by decide +kernel⟩, List.mem_of_getElem? (i := 699) (by decide +kernel), List.mem_of_getElem? (i := 1001) (by decide +kernel), List.mem_of_getElem? (i := 1002) (by decide +kernel)⟩
theorem lw_p33 : lw_okq (⟨"TaleDeskModel", "findPiece", "(II)V"⟩, 29) := ⟨⟨by decide +kernel, by decide +kernel⟩, List.mem_of_getElem? (i := 699) (by decide +kernel), List.mem_of_getElem? (i := 1013) (by decide +kernel), List.mem_of_getElem? (i := 1014) (by decide +kernel)⟩
theorem lw_p34 : lw_okq (⟨"TaleDeskModel", "same", "(IIII)I"⟩, 29) := ⟨⟨by decide +kernel, by decide +kernel⟩, List.mem_of_getElem? (i := 699) (by decide +kernel), List.mem_of_getElem? (i := 1017) (by decide +kernel), List.mem_of_getElem? (i := 1018) (by decide +kernel)⟩
theorem lw_p35 : lw_okq (⟨"TaleDeskModel", "isSame", "(IIII)Z"⟩, 29) := ⟨⟨by decide +kernel, by decide +kernel⟩, List.mem_of_getElem? (i := 699) (by decide +kernel), List.mem_of_getElem? (i := 1021) (by decide +kernel), List.mem_of_getElem? (i := 1022) (by decide +kernel)⟩
theorem lw_p36 : lw_okq (⟨"TaleDeskModel", "partCost", "(IIII)I"⟩, 29) := ⟨⟨by decide +kernel, by decide +kernel⟩, List.mem_of_getElem? (i := 699) (by decide +kernel), List.mem_of_getElem? (i := 1029) (by decide +kernel), List.mem_of_getElem? (i := 1030) (by decide +kernel)⟩
theorem lw_p37 : lw_okq (⟨"TaleDeskModel", "counts", "(IIZ)I"⟩, 29) := ⟨⟨by decide +kernel, by decide +kernel⟩, List.mem_of_getElem? (i := 699) (by decide +kernel), List.mem_of_getElem? (i := 1037) (by decide +kernel), List.mem_of_getElem? (i := 1038) (by decide +kernel)⟩
def lw_privs_3 : List (MethodName × Nat) := [(⟨"TaleDeskModel", "sourceOf", "(I)I"⟩, 29), (⟨"TaleDeskModel", "findPiece", "(II)V"⟩, 29), (⟨"TaleDeskModel", "same", "(IIII)I"⟩, 29), (⟨"TaleDeskModel", "isSame", "(IIII)Z"⟩, 29), (⟨"TaleDeskModel", "partCost", "(IIII)I"⟩, 29), (⟨"TaleDeskModel", "counts", "(IIZ)I"⟩, 29)]
theorem lw_r3 : ∀ q ∈ lw_privs_3, lw_okq q := List.forall_mem_cons.mpr ⟨lw_p32, List.forall_mem_cons.mpr ⟨lw_p33, List.forall_mem_cons.mpr ⟨lw_p34, List.forall_mem_cons.mpr ⟨lw_p35, List.forall_mem_cons.mpr ⟨lw_p36, List.forall_mem_cons.mpr ⟨lw_p37, fun _ h => absurd h List.not_mem_nil⟩⟩⟩⟩⟩⟩
def lw_privs : List (MethodName × Nat) := lw_privs_1 ++ (lw_privs_2 ++ (lw_privs_3))
def lw_tbl : List Cond := k2_sels lw_privs ++ tables_1
theorem lw_privs_ok : ∀ q ∈ lw_privs, lw_okq q := by
  show ∀ q ∈ lw_privs_1 ++ (lw_privs_2 ++ (lw_privs_3)), lw_okq q
  exact List.forall_mem_append.mpr ⟨lw_r1, List.forall_mem_append.mpr ⟨lw_r2, lw_r3⟩⟩
/-! ===== BEGIN words of one list among another's, by their places ===== -/
theorem goodIn_r {big : List Cond} (ws : List Cond) (ps : List Nat) (hp : ws = ps.filterMap (fun i => big[i]?)) (h : ws.all goodWord = true) : GoodIn big ws := by
  intro w hw
  have h1 := List.all_eq_true.mp h w hw
  rw [hp] at hw
  obtain ⟨i, -, hi⟩ := List.mem_filterMap.mp hw
  have hm : w ∈ big := by first | exact List.mem_of_getElem? hi | exact List.getElem?_mem hi
  exact ⟨hm, good_of_word h1⟩
theorem goodIn_app {big a b : List Cond} (ha : GoodIn big a) (hb : GoodIn big b) : GoodIn big (a ++ b) := fun w h => (List.mem_append.mp h).elim (ha w) (hb w)
theorem goodIn_ca {big a b : List Cond} {c : Cond} (ha : GoodIn big (c :: a)) (hb : GoodIn big b) : GoodIn big (c :: (a ++ b)) := fun w h => (List.mem_cons.mp h).elim (fun e => ha w (List.mem_cons.mpr (Or.inl e))) (fun h => (List.mem_append.mp h).elim (fun h => ha w (List.mem_cons.mpr (Or.inr h))) (hb w))
theorem goodIn_sub {big ws : List Cond} (hm : ∀ w ∈ ws, w ∈ big) (h : ws.all goodWord = true) : GoodIn big ws := fun w hw => ⟨hm w hw, good_of_word (List.all_eq_true.mp h w hw)⟩
/-! ===== END ===== -/

/-! ===== BEGIN printed: names, fields, word lists, decode rows ===== -/
def RX0 : String := "TaleDesk$Book"
def TX0 : u_T := fun k => match k with
  | 0 => ("TaleDesk$Book", "tales", "I", false)
  | 1 => ("TaleDesk$Book", "kinds", "[I", true)
  | 2 => ("TaleDesk$Book", "places", "[I", true)
  | 3 => ("TaleDesk$Book", "days", "[I", true)
  | 4 => ("TaleDesk$Book", "prints", "[I", true)
  | 5 => ("TaleDesk$Book", "lengths", "[I", true)
  | 6 => ("TaleDesk$Book", "steps", "[I", true)
  | 7 => ("TaleDesk$Book", "prices", "[I", true)
  | _ => ("TaleDesk$Book", "ways", "[I", true)
def tyX0 : Nat → FieldType := fun k => match k with
  | 0 => .int
  | 1 => .array .int
  | 2 => .array .int
  | 3 => .array .int
  | 4 => .array .int
  | 5 => .array .int
  | 6 => .array .int
  | 7 => .array .int
  | _ => .array .int
abbrev wsX00 : List Cond := u_ws RX0 TX0 9
theorem nmX0 : ∀ a, a < 9 → ∀ b, b < 9 → a ≠ b → (TX0 a).2.1 ≠ (TX0 b).2.1 := by decide +kernel
theorem tyX0_ok : ∀ k, k < 9 → parseFieldDescriptor (TX0 k).2.2.1 = some (tyX0 k) := by decide +kernel
abbrev cX0_init : ByteArray := prog_2_method_1_code
def yX0_init : MethodName := ⟨RX0, "<init>", "()V"⟩
abbrev cX0_takeFrom : ByteArray := prog_2_method_2_code
def yX0_takeFrom : MethodName := ⟨RX0, "takeFrom", "(LTaleDesk$Book;)V"⟩
abbrev cX0_hasTale : ByteArray := prog_2_method_3_code
def yX0_hasTale : MethodName := ⟨RX0, "hasTale", "(I)Z"⟩
abbrev cX0_hasStep : ByteArray := prog_2_method_4_code
def yX0_hasStep : MethodName := ⟨RX0, "hasStep", "(II)Z"⟩
abbrev cX0_stepAt : ByteArray := prog_2_method_5_code
def yX0_stepAt : MethodName := ⟨RX0, "stepAt", "(II)I"⟩
abbrev cX0_addTale : ByteArray := prog_2_method_6_code
def yX0_addTale : MethodName := ⟨RX0, "addTale", "(III)I"⟩
abbrev cX0_addStep : ByteArray := prog_2_method_7_code
def yX0_addStep : MethodName := ⟨RX0, "addStep", "(II)V"⟩
abbrev cX0_changeMotif : ByteArray := prog_2_method_8_code
def yX0_changeMotif : MethodName := ⟨RX0, "changeMotif", "(II)I"⟩
abbrev cX0_isTorn : ByteArray := prog_2_method_9_code
def yX0_isTorn : MethodName := ⟨RX0, "isTorn", "(I)Z"⟩
abbrev cX0_isFramed : ByteArray := prog_2_method_10_code
def yX0_isFramed : MethodName := ⟨RX0, "isFramed", "(I)Z"⟩
abbrev cX0_firstLaid : ByteArray := prog_2_method_11_code
def yX0_firstLaid : MethodName := ⟨RX0, "firstLaid", "(I)I"⟩
abbrev cX0_laidLength : ByteArray := prog_2_method_12_code
def yX0_laidLength : MethodName := ⟨RX0, "laidLength", "(I)I"⟩
abbrev cX0_printsLeadTo : ByteArray := prog_2_method_13_code
def yX0_printsLeadTo : MethodName := ⟨RX0, "printsLeadTo", "(II)Z"⟩
abbrev cX0_wayBetween : ByteArray := prog_2_method_14_code
def yX0_wayBetween : MethodName := ⟨RX0, "wayBetween", "(II)I"⟩
abbrev cX0_setWay : ByteArray := prog_2_method_15_code
def yX0_setWay : MethodName := ⟨RX0, "setWay", "(III)V"⟩
abbrev cX0_couldReach : ByteArray := prog_2_method_16_code
def yX0_couldReach : MethodName := ⟨RX0, "couldReach", "(II)Z"⟩
abbrev cX0_howManySteps : ByteArray := prog_2_method_17_code
def yX0_howManySteps : MethodName := ⟨RX0, "howManySteps", "()I"⟩
abbrev cX0_howOften : ByteArray := prog_2_method_18_code
def yX0_howOften : MethodName := ⟨RX0, "howOften", "(II)I"⟩
abbrev cX0_howOftenAt : ByteArray := prog_2_method_19_code
def yX0_howOftenAt : MethodName := ⟨RX0, "howOftenAt", "(II)I"⟩
abbrev cX0_doubtsAt : ByteArray := prog_2_method_20_code
def yX0_doubtsAt : MethodName := ⟨RX0, "doubtsAt", "(I)I"⟩
abbrev cX0_isAt : ByteArray := prog_2_method_21_code
def yX0_isAt : MethodName := ⟨RX0, "isAt", "(II)Z"⟩
def RX1 : String := "TaleDesk$Borrowing"
def TX1 : u_T := fun k => match k with
  | 0 => ("TaleDesk$Borrowing", "goals", "[I", true)
  | 1 => ("TaleDesk$Borrowing", "origins", "[I", true)
  | 2 => ("TaleDesk$Borrowing", "length", "I", false)
  | 3 => ("TaleDesk$Borrowing", "fromA", "I", false)
  | _ => ("TaleDesk$Borrowing", "fromB", "I", false)
def tyX1 : Nat → FieldType := fun k => match k with
  | 0 => .array .int
  | 1 => .array .int
  | 2 => .int
  | 3 => .int
  | _ => .int
abbrev wsX10 : List Cond := u_ws RX1 TX1 5
theorem nmX1 : ∀ a, a < 5 → ∀ b, b < 5 → a ≠ b → (TX1 a).2.1 ≠ (TX1 b).2.1 := by decide +kernel
theorem tyX1_ok : ∀ k, k < 5 → parseFieldDescriptor (TX1 k).2.2.1 = some (tyX1 k) := by decide +kernel
abbrev cX1_init : ByteArray := prog_3_method_1_code
def yX1_init : MethodName := ⟨RX1, "<init>", "()V"⟩
abbrev cX1_find : ByteArray := prog_3_method_2_code
def yX1_find : MethodName := ⟨RX1, "find", "(LTaleDesk$Book;II)V"⟩
abbrev cX1_sameFrom : ByteArray := prog_3_method_3_code
def yX1_sameFrom : MethodName := ⟨RX1, "sameFrom", "([IIII)I"⟩
abbrev cX1_isSame : ByteArray := prog_3_method_4_code
def yX1_isSame : MethodName := ⟨RX1, "isSame", "(II)Z"⟩
abbrev cX1_leads : ByteArray := prog_3_method_5_code
def yX1_leads : MethodName := ⟨RX1, "leads", "(II)Z"⟩
def RX2 : String := "TaleDesk$Costs"
def TX2 : u_T := fun k => match k with
  | 0 => ("TaleDesk$Costs", "laying", "LTaleDesk$Laying;", true)
  | _ => ("TaleDesk$Costs", "known", "[I", true)
def tyX2 : Nat → FieldType := fun k => match k with
  | 0 => .object "TaleDesk$Laying"
  | _ => .array .int
abbrev wsX20 : List Cond := u_ws RX2 TX2 2
theorem nmX2 : ∀ a, a < 2 → ∀ b, b < 2 → a ≠ b → (TX2 a).2.1 ≠ (TX2 b).2.1 := by decide +kernel
theorem tyX2_ok : ∀ k, k < 2 → parseFieldDescriptor (TX2 k).2.2.1 = some (tyX2 k) := by decide +kernel
abbrev cX2_init : ByteArray := prog_4_method_1_code
def yX2_init : MethodName := ⟨RX2, "<init>", "()V"⟩
abbrev cX2_forget : ByteArray := prog_4_method_2_code
def yX2_forget : MethodName := ⟨RX2, "forget", "(I)V"⟩
abbrev cX2_forgetAll : ByteArray := prog_4_method_3_code
def yX2_forgetAll : MethodName := ⟨RX2, "forgetAll", "()V"⟩
abbrev cX2_between : ByteArray := prog_4_method_4_code
def yX2_between : MethodName := ⟨RX2, "between", "(LTaleDesk$Book;II)I"⟩
abbrev cX2_reckonHeap : ByteArray := prog_4_method_5_code
def yX2_reckonHeap : MethodName := ⟨RX2, "reckonHeap", "(LTaleDesk$Book;I)V"⟩
abbrev cX2_layTales : ByteArray := prog_4_method_6_code
def yX2_layTales : MethodName := ⟨RX2, "layTales", "(LTaleDesk$Book;II)LTaleDesk$Laying;"⟩
abbrev cX2_pairTales : ByteArray := prog_4_method_7_code
def yX2_pairTales : MethodName := ⟨RX2, "pairTales", "(LTaleDesk$Book;II)LTaleDesk$Laying;"⟩
abbrev cX2_ofPart : ByteArray := prog_4_method_8_code
def yX2_ofPart : MethodName := ⟨RX2, "ofPart", "(LTaleDesk$Book;IIII)I"⟩
def RX3 : String := "TaleDesk$History"
def TX3 : u_T := fun k => match k with
  | 0 => ("TaleDesk$History", "books", "[LTaleDesk$Book;", true)
  | 1 => ("TaleDesk$History", "next", "I", false)
  | _ => ("TaleDesk$History", "kept", "I", false)
def tyX3 : Nat → FieldType := fun k => match k with
  | 0 => .array (.object "TaleDesk$Book")
  | 1 => .int
  | _ => .int
abbrev wsX30 : List Cond := u_ws RX3 TX3 3
theorem nmX3 : ∀ a, a < 3 → ∀ b, b < 3 → a ≠ b → (TX3 a).2.1 ≠ (TX3 b).2.1 := by decide +kernel
theorem tyX3_ok : ∀ k, k < 3 → parseFieldDescriptor (TX3 k).2.2.1 = some (tyX3 k) := by decide +kernel
abbrev cX3_init : ByteArray := prog_5_method_1_code
def yX3_init : MethodName := ⟨RX3, "<init>", "()V"⟩
abbrev cX3_keep : ByteArray := prog_5_method_2_code
def yX3_keep : MethodName := ⟨RX3, "keep", "(LTaleDesk$Book;)V"⟩
abbrev cX3_giveBack : ByteArray := prog_5_method_3_code
def yX3_giveBack : MethodName := ⟨RX3, "giveBack", "(LTaleDesk$Book;)V"⟩
def RX4 : String := "TaleDesk$Laying"
def TX4 : u_T := fun k => match k with
  | 0 => ("TaleDesk$Laying", "a", "LTaleDesk$Row;", true)
  | 1 => ("TaleDesk$Laying", "b", "LTaleDesk$Row;", true)
  | 2 => ("TaleDesk$Laying", "carriedSteps", "[I", true)
  | 3 => ("TaleDesk$Laying", "rests", "[I", true)
  | 4 => ("TaleDesk$Laying", "partners", "[I", true)
  | 5 => ("TaleDesk$Laying", "motifPrice", "I", false)
  | 6 => ("TaleDesk$Laying", "rolePrice", "I", false)
  | 7 => ("TaleDesk$Laying", "alonePrice", "I", false)
  | 8 => ("TaleDesk$Laying", "leastCost", "I", false)
  | _ => ("TaleDesk$Laying", "carrying", "I", false)
def tyX4 : Nat → FieldType := fun k => match k with
  | 0 => .object "TaleDesk$Row"
  | 1 => .object "TaleDesk$Row"
  | 2 => .array .int
  | 3 => .array .int
  | 4 => .array .int
  | 5 => .int
  | 6 => .int
  | 7 => .int
  | 8 => .int
  | _ => .int
abbrev wsX40 : List Cond := u_ws RX4 TX4 10
theorem nmX4 : ∀ a, a < 10 → ∀ b, b < 10 → a ≠ b → (TX4 a).2.1 ≠ (TX4 b).2.1 := by decide +kernel
theorem tyX4_ok : ∀ k, k < 10 → parseFieldDescriptor (TX4 k).2.2.1 = some (tyX4 k) := by decide +kernel
abbrev cX4_init : ByteArray := prog_6_method_1_code
def yX4_init : MethodName := ⟨RX4, "<init>", "()V"⟩
abbrev cX4_findLeast : ByteArray := prog_6_method_2_code
def yX4_findLeast : MethodName := ⟨RX4, "findLeast", "([I)V"⟩
abbrev cX4_carrySteps : ByteArray := prog_6_method_3_code
def yX4_carrySteps : MethodName := ⟨RX4, "carrySteps", "(I)V"⟩
abbrev cX4_fillRests : ByteArray := prog_6_method_4_code
def yX4_fillRests : MethodName := ⟨RX4, "fillRests", "(I)I"⟩
abbrev cX4_endPrice : ByteArray := prog_6_method_5_code
def yX4_endPrice : MethodName := ⟨RX4, "endPrice", "(II)I"⟩
abbrev cX4_pairPrice : ByteArray := prog_6_method_6_code
def yX4_pairPrice : MethodName := ⟨RX4, "pairPrice", "(II)I"⟩
abbrev cX4_findPairs : ByteArray := prog_6_method_7_code
def yX4_findPairs : MethodName := ⟨RX4, "findPairs", "()V"⟩
abbrev cX4_howManyPairs : ByteArray := prog_6_method_8_code
def yX4_howManyPairs : MethodName := ⟨RX4, "howManyPairs", "(Z)I"⟩
def RX5 : String := "TaleDesk$Row"
def TX5 : u_T := fun k => match k with
  | 0 => ("TaleDesk$Row", "steps", "[I", true)
  | 1 => ("TaleDesk$Row", "length", "I", false)
  | _ => ("TaleDesk$Row", "isTorn", "Z", false)
def tyX5 : Nat → FieldType := fun k => match k with
  | 0 => .array .int
  | 1 => .int
  | _ => .boolean
abbrev wsX50 : List Cond := u_ws RX5 TX5 3
theorem nmX5 : ∀ a, a < 3 → ∀ b, b < 3 → a ≠ b → (TX5 a).2.1 ≠ (TX5 b).2.1 := by decide +kernel
theorem tyX5_ok : ∀ k, k < 3 → parseFieldDescriptor (TX5 k).2.2.1 = some (tyX5 k) := by decide +kernel
abbrev cX5_init : ByteArray := prog_7_method_1_code
def yX5_init : MethodName := ⟨RX5, "<init>", "()V"⟩
abbrev cX5_takeLaid : ByteArray := prog_7_method_2_code
def yX5_takeLaid : MethodName := ⟨RX5, "takeLaid", "(LTaleDesk$Book;I)V"⟩
abbrev cX5_takePart : ByteArray := prog_7_method_3_code
def yX5_takePart : MethodName := ⟨RX5, "takePart", "(LTaleDesk$Book;III)V"⟩
def RX6 : String := "TaleDesk$Sheet"
def TX6 : u_T := fun k => match k with
  | 0 => ("TaleDesk$Sheet", "bits", "I", false)
  | 1 => ("TaleDesk$Sheet", "length", "I", false)
  | _ => ("TaleDesk$Sheet", "numbers", "[I", true)
def tyX6 : Nat → FieldType := fun k => match k with
  | 0 => .int
  | 1 => .int
  | _ => .array .int
abbrev wsX60 : List Cond := u_ws RX6 TX6 3
theorem nmX6 : ∀ a, a < 3 → ∀ b, b < 3 → a ≠ b → (TX6 a).2.1 ≠ (TX6 b).2.1 := by decide +kernel
theorem tyX6_ok : ∀ k, k < 3 → parseFieldDescriptor (TX6 k).2.2.1 = some (tyX6 k) := by decide +kernel
abbrev cX6_init : ByteArray := prog_8_method_1_code
def yX6_init : MethodName := ⟨RX6, "<init>", "()V"⟩
abbrev cX6_makeAnew : ByteArray := prog_8_method_2_code
def yX6_makeAnew : MethodName := ⟨RX6, "makeAnew", "(II)V"⟩
abbrev cX6_isMissing : ByteArray := prog_8_method_3_code
def yX6_isMissing : MethodName := ⟨RX6, "isMissing", "()Z"⟩
abbrev cX6_write : ByteArray := prog_8_method_4_code
def yX6_write : MethodName := ⟨RX6, "write", "(II)V"⟩
abbrev cX6_holds : ByteArray := prog_8_method_5_code
def yX6_holds : MethodName := ⟨RX6, "holds", "(II)Z"⟩
abbrev cX6_howManySteps : ByteArray := prog_8_method_6_code
def yX6_howManySteps : MethodName := ⟨RX6, "howManySteps", "()I"⟩
abbrev cX6_tellsSteps : ByteArray := prog_8_method_7_code
def yX6_tellsSteps : MethodName := ⟨RX6, "tellsSteps", "()Z"⟩
abbrev cX6_stepAt : ByteArray := prog_8_method_8_code
def yX6_stepAt : MethodName := ⟨RX6, "stepAt", "(I)I"⟩
def RX7 : String := "TaleDesk$Tree"
def TX7 : u_T := fun k => match k with
  | 0 => ("TaleDesk$Tree", "parts", "[I", true)
  | 1 => ("TaleDesk$Tree", "branches", "[I", true)
  | 2 => ("TaleDesk$Tree", "size", "I", false)
  | _ => ("TaleDesk$Tree", "sum", "I", false)
def tyX7 : Nat → FieldType := fun k => match k with
  | 0 => .array .int
  | 1 => .array .int
  | 2 => .int
  | _ => .int
abbrev wsX70 : List Cond := u_ws RX7 TX7 4
theorem nmX7 : ∀ a, a < 4 → ∀ b, b < 4 → a ≠ b → (TX7 a).2.1 ≠ (TX7 b).2.1 := by decide +kernel
theorem tyX7_ok : ∀ k, k < 4 → parseFieldDescriptor (TX7 k).2.2.1 = some (tyX7 k) := by decide +kernel
abbrev cX7_init : ByteArray := prog_9_method_1_code
def yX7_init : MethodName := ⟨RX7, "<init>", "()V"⟩
abbrev cX7_grow : ByteArray := prog_9_method_2_code
def yX7_grow : MethodName := ⟨RX7, "grow", "([II)V"⟩
abbrev cX7_addBranch : ByteArray := prog_9_method_3_code
def yX7_addBranch : MethodName := ⟨RX7, "addBranch", "([II)V"⟩
abbrev cX7_joinParts : ByteArray := prog_9_method_4_code
def yX7_joinParts : MethodName := ⟨RX7, "joinParts", "(II)V"⟩
def RX8 : String := "TaleDesk"
def TX8 : u_T := fun k => match k with
  | 0 => ("TaleDesk", "book", "LTaleDesk$Book;", true)
  | 1 => ("TaleDesk", "history", "LTaleDesk$History;", true)
  | 2 => ("TaleDesk", "costs", "LTaleDesk$Costs;", true)
  | 3 => ("TaleDesk", "bestTree", "LTaleDesk$Tree;", true)
  | 4 => ("TaleDesk", "borrowing", "LTaleDesk$Borrowing;", true)
  | 5 => ("TaleDesk", "sheets", "[LTaleDesk$Sheet;", true)
  | _ => ("TaleDesk", "findings", "I", false)
def tyX8 : Nat → FieldType := fun k => match k with
  | 0 => .object "TaleDesk$Book"
  | 1 => .object "TaleDesk$History"
  | 2 => .object "TaleDesk$Costs"
  | 3 => .object "TaleDesk$Tree"
  | 4 => .object "TaleDesk$Borrowing"
  | 5 => .array (.object "TaleDesk$Sheet")
  | _ => .int
abbrev wsX80 : List Cond := u_ws RX8 TX8 7
theorem nmX8 : ∀ a, a < 7 → ∀ b, b < 7 → a ≠ b → (TX8 a).2.1 ≠ (TX8 b).2.1 := by decide +kernel
theorem tyX8_ok : ∀ k, k < 7 → parseFieldDescriptor (TX8 k).2.2.1 = some (tyX8 k) := by decide +kernel
abbrev cX8_init : ByteArray := prog_1_method_1_code
def yX8_init : MethodName := ⟨RX8, "<init>", "()V"⟩
abbrev cX8_tale : ByteArray := prog_1_method_2_code
def yX8_tale : MethodName := ⟨RX8, "tale", "(III)I"⟩
abbrev cX8_as : ByteArray := prog_1_method_3_code
def yX8_as : MethodName := ⟨RX8, "as", "(II)I"⟩
abbrev cX8_step : ByteArray := prog_1_method_4_code
def yX8_step : MethodName := ⟨RX8, "step", "(IIII)I"⟩
abbrev cX8_unstep : ByteArray := prog_1_method_5_code
def yX8_unstep : MethodName := ⟨RX8, "unstep", "(I)I"⟩
abbrev cX8_of : ByteArray := prog_1_method_6_code
def yX8_of : MethodName := ⟨RX8, "of", "(III)I"⟩
abbrev cX8_told : ByteArray := prog_1_method_7_code
def yX8_told : MethodName := ⟨RX8, "told", "(II)I"⟩
abbrev cX8_print : ByteArray := prog_1_method_8_code
def yX8_print : MethodName := ⟨RX8, "print", "(II)I"⟩
abbrev cX8_recode : ByteArray := prog_1_method_9_code
def yX8_recode : MethodName := ⟨RX8, "recode", "(II)I"⟩
abbrev cX8_price : ByteArray := prog_1_method_10_code
def yX8_price : MethodName := ⟨RX8, "price", "(II)I"⟩
abbrev cX8_way : ByteArray := prog_1_method_11_code
def yX8_way : MethodName := ⟨RX8, "way", "(III)I"⟩
abbrev cX8_cost : ByteArray := prog_1_method_12_code
def yX8_cost : MethodName := ⟨RX8, "cost", "(II)I"⟩
abbrev cX8_carried : ByteArray := prog_1_method_13_code
def yX8_carried : MethodName := ⟨RX8, "carried", "(III)I"⟩
abbrev cX8_pair : ByteArray := prog_1_method_14_code
def yX8_pair : MethodName := ⟨RX8, "pair", "(III)I"⟩
abbrev cX8_pairs : ByteArray := prog_1_method_15_code
def yX8_pairs : MethodName := ⟨RX8, "pairs", "(IIZ)I"⟩
abbrev cX8_mould : ByteArray := prog_1_method_16_code
def yX8_mould : MethodName := ⟨RX8, "mould", "(I)I"⟩
abbrev cX8_spread : ByteArray := prog_1_method_17_code
def yX8_spread : MethodName := ⟨RX8, "spread", "(I)I"⟩
abbrev cX8_tree : ByteArray := prog_1_method_18_code
def yX8_tree : MethodName := ⟨RX8, "tree", "(I)I"⟩
abbrev cX8_branch : ByteArray := prog_1_method_19_code
def yX8_branch : MethodName := ⟨RX8, "branch", "(II)I"⟩
abbrev cX8_nearest : ByteArray := prog_1_method_20_code
def yX8_nearest : MethodName := ⟨RX8, "nearest", "(I)I"⟩
abbrev cX8_source : ByteArray := prog_1_method_21_code
def yX8_source : MethodName := ⟨RX8, "source", "(I)I"⟩
abbrev cX8_first : ByteArray := prog_1_method_22_code
def yX8_first : MethodName := ⟨RX8, "first", "(I)I"⟩
abbrev cX8_borrowed : ByteArray := prog_1_method_23_code
def yX8_borrowed : MethodName := ⟨RX8, "borrowed", "(III)I"⟩
abbrev cX8_joined : ByteArray := prog_1_method_24_code
def yX8_joined : MethodName := ⟨RX8, "joined", "(IIIZ)I"⟩
abbrev cX8_count : ByteArray := prog_1_method_25_code
def yX8_count : MethodName := ⟨RX8, "count", "(IIZ)I"⟩
abbrev cX8_home : ByteArray := prog_1_method_26_code
def yX8_home : MethodName := ⟨RX8, "home", "(I)I"⟩
abbrev cX8_sheet : ByteArray := prog_1_method_27_code
def yX8_sheet : MethodName := ⟨RX8, "sheet", "(III)I"⟩
abbrev cX8_put : ByteArray := prog_1_method_28_code
def yX8_put : MethodName := ⟨RX8, "put", "(III)I"⟩
abbrev cX8_copy : ByteArray := prog_1_method_29_code
def yX8_copy : MethodName := ⟨RX8, "copy", "(IIIII)I"⟩
abbrev cX8_lay : ByteArray := prog_1_method_30_code
def yX8_lay : MethodName := ⟨RX8, "lay", "(II)I"⟩
abbrev cX8_undo : ByteArray := prog_1_method_31_code
def yX8_undo : MethodName := ⟨RX8, "undo", "()I"⟩
abbrev cX8_all : ByteArray := prog_1_method_32_code
def yX8_all : MethodName := ⟨RX8, "all", "(I)I"⟩
abbrev cX8_finding : ByteArray := prog_1_method_33_code
def yX8_finding : MethodName := ⟨RX8, "finding", "(I)I"⟩
abbrev cX8_heapRefusal : ByteArray := prog_1_method_34_code
def yX8_heapRefusal : MethodName := ⟨RX8, "heapRefusal", "(I)I"⟩
abbrev cX8_mouldOf : ByteArray := prog_1_method_35_code
def yX8_mouldOf : MethodName := ⟨RX8, "mouldOf", "(I)I"⟩
abbrev cX8_sumOfCosts : ByteArray := prog_1_method_36_code
def yX8_sumOfCosts : MethodName := ⟨RX8, "sumOfCosts", "(II)I"⟩
abbrev cX8_sourceOf : ByteArray := prog_1_method_37_code
def yX8_sourceOf : MethodName := ⟨RX8, "sourceOf", "(I)I"⟩
abbrev cX8_cheapestBeside : ByteArray := prog_1_method_38_code
def yX8_cheapestBeside : MethodName := ⟨RX8, "cheapestBeside", "(IZ)I"⟩
abbrev cX8_isWithin : ByteArray := prog_1_method_39_code
def yX8_isWithin : MethodName := ⟨RX8, "isWithin", "(II)Z"⟩
abbrev cX8_isInHeap : ByteArray := prog_1_method_40_code
def yX8_isInHeap : MethodName := ⟨RX8, "isInHeap", "(II)Z"⟩
abbrev cX8_isUnder : ByteArray := prog_1_method_41_code
def yX8_isUnder : MethodName := ⟨RX8, "isUnder", "(II)Z"⟩
abbrev cX8_isStep : ByteArray := prog_1_method_42_code
def yX8_isStep : MethodName := ⟨RX8, "isStep", "(III)Z"⟩
abbrev cX8_packed : ByteArray := prog_1_method_43_code
def yX8_packed : MethodName := ⟨RX8, "packed", "(III)I"⟩
abbrev cX8_motifOf : ByteArray := prog_1_method_44_code
def yX8_motifOf : MethodName := ⟨RX8, "motifOf", "(I)I"⟩
abbrev cX8_whoOf : ByteArray := prog_1_method_45_code
def yX8_whoOf : MethodName := ⟨RX8, "whoOf", "(I)I"⟩
abbrev cX8_whomOf : ByteArray := prog_1_method_46_code
def yX8_whomOf : MethodName := ⟨RX8, "whomOf", "(I)I"⟩
abbrev cX8_goal : ByteArray := prog_1_method_47_code
def yX8_goal : MethodName := ⟨RX8, "goal", "(II)I"⟩
def RX9 : String := "TaleDeskModel"
def TX9 : u_T := fun k => match k with
  | 0 => ("TaleDeskModel", "now", "[I", true)
  | 1 => ("TaleDeskModel", "past", "[I", true)
  | 2 => ("TaleDeskModel", "kept", "I", false)
  | 3 => ("TaleDeskModel", "findings", "I", false)
  | 4 => ("TaleDeskModel", "bits", "[I", true)
  | 5 => ("TaleDeskModel", "sizes", "[I", true)
  | 6 => ("TaleDeskModel", "sheets", "[I", true)
  | 7 => ("TaleDeskModel", "carrying", "[I", true)
  | 8 => ("TaleDeskModel", "one", "I", false)
  | 9 => ("TaleDeskModel", "oneFrom", "I", false)
  | 10 => ("TaleDeskModel", "oneTo", "I", false)
  | 11 => ("TaleDeskModel", "isOneTorn", "Z", false)
  | 12 => ("TaleDeskModel", "other", "I", false)
  | 13 => ("TaleDeskModel", "otherFrom", "I", false)
  | 14 => ("TaleDeskModel", "otherTo", "I", false)
  | 15 => ("TaleDeskModel", "isOtherTorn", "Z", false)
  | 16 => ("TaleDeskModel", "withPair", "[I", true)
  | 17 => ("TaleDeskModel", "bestCarrying", "I", false)
  | 18 => ("TaleDeskModel", "mate", "[I", true)
  | 19 => ("TaleDeskModel", "mouldSum", "I", false)
  | 20 => ("TaleDeskModel", "links", "[I", true)
  | 21 => ("TaleDeskModel", "group", "[I", true)
  | 22 => ("TaleDeskModel", "branches", "[I", true)
  | 23 => ("TaleDeskModel", "branchMany", "I", false)
  | 24 => ("TaleDeskModel", "treeSum", "I", false)
  | 25 => ("TaleDeskModel", "pieceLong", "I", false)
  | 26 => ("TaleDeskModel", "pieceOne", "I", false)
  | 27 => ("TaleDeskModel", "pieceOther", "I", false)
  | _ => ("TaleDeskModel", "carriedOver", "[I", true)
def tyX9 : Nat → FieldType := fun k => match k with
  | 0 => .array .int
  | 1 => .array .int
  | 2 => .int
  | 3 => .int
  | 4 => .array .int
  | 5 => .array .int
  | 6 => .array .int
  | 7 => .array .int
  | 8 => .int
  | 9 => .int
  | 10 => .int
  | 11 => .boolean
  | 12 => .int
  | 13 => .int
  | 14 => .int
  | 15 => .boolean
  | 16 => .array .int
  | 17 => .int
  | 18 => .array .int
  | 19 => .int
  | 20 => .array .int
  | 21 => .array .int
  | 22 => .array .int
  | 23 => .int
  | 24 => .int
  | 25 => .int
  | 26 => .int
  | 27 => .int
  | _ => .array .int
abbrev wsX90 : List Cond := u_ws RX9 TX9 29
theorem nmX9 : ∀ a, a < 29 → ∀ b, b < 29 → a ≠ b → (TX9 a).2.1 ≠ (TX9 b).2.1 := by decide +kernel
theorem tyX9_ok : ∀ k, k < 29 → parseFieldDescriptor (TX9 k).2.2.1 = some (tyX9 k) := by decide +kernel
abbrev cX9_init : ByteArray := prog_11_method_1_code
def yX9_init : MethodName := ⟨RX9, "<init>", "()V"⟩
abbrev cX9_finding : ByteArray := prog_11_method_2_code
def yX9_finding : MethodName := ⟨RX9, "finding", "(I)I"⟩
abbrev cX9_within : ByteArray := prog_11_method_3_code
def yX9_within : MethodName := ⟨RX9, "within", "(III)Z"⟩
abbrev cX9_isTale : ByteArray := prog_11_method_4_code
def yX9_isTale : MethodName := ⟨RX9, "isTale", "(I)Z"⟩
abbrev cX9_isMotif : ByteArray := prog_11_method_5_code
def yX9_isMotif : MethodName := ⟨RX9, "isMotif", "(I)Z"⟩
abbrev cX9_isRole : ByteArray := prog_11_method_6_code
def yX9_isRole : MethodName := ⟨RX9, "isRole", "(I)Z"⟩
abbrev cX9_isPlace : ByteArray := prog_11_method_7_code
def yX9_isPlace : MethodName := ⟨RX9, "isPlace", "(I)Z"⟩
abbrev cX9_keep : ByteArray := prog_11_method_8_code
def yX9_keep : MethodName := ⟨RX9, "keep", "()V"⟩
abbrev cX9_undo : ByteArray := prog_11_method_9_code
def yX9_undo : MethodName := ⟨RX9, "undo", "()I"⟩
abbrev cX9_tale : ByteArray := prog_11_method_10_code
def yX9_tale : MethodName := ⟨RX9, "tale", "(III)I"⟩
abbrev cX9_as : ByteArray := prog_11_method_11_code
def yX9_as : MethodName := ⟨RX9, "as", "(II)I"⟩
abbrev cX9_stepOf : ByteArray := prog_11_method_12_code
def yX9_stepOf : MethodName := ⟨RX9, "stepOf", "(III)I"⟩
abbrev cX9_setStep : ByteArray := prog_11_method_13_code
def yX9_setStep : MethodName := ⟨RX9, "setStep", "(IIIII)V"⟩
abbrev cX9_step : ByteArray := prog_11_method_14_code
def yX9_step : MethodName := ⟨RX9, "step", "(IIII)I"⟩
abbrev cX9_unstep : ByteArray := prog_11_method_15_code
def yX9_unstep : MethodName := ⟨RX9, "unstep", "(I)I"⟩
abbrev cX9_isStep : ByteArray := prog_11_method_16_code
def yX9_isStep : MethodName := ⟨RX9, "isStep", "(II)Z"⟩
abbrev cX9_of : ByteArray := prog_11_method_17_code
def yX9_of : MethodName := ⟨RX9, "of", "(III)I"⟩
abbrev cX9_isCut : ByteArray := prog_11_method_18_code
def yX9_isCut : MethodName := ⟨RX9, "isCut", "(I)Z"⟩
abbrev cX9_laidFrom : ByteArray := prog_11_method_19_code
def yX9_laidFrom : MethodName := ⟨RX9, "laidFrom", "(I)I"⟩
abbrev cX9_laidTo : ByteArray := prog_11_method_20_code
def yX9_laidTo : MethodName := ⟨RX9, "laidTo", "(I)I"⟩
abbrev cX9_told : ByteArray := prog_11_method_21_code
def yX9_told : MethodName := ⟨RX9, "told", "(II)I"⟩
abbrev cX9_print : ByteArray := prog_11_method_22_code
def yX9_print : MethodName := ⟨RX9, "print", "(II)I"⟩
abbrev cX9_recode : ByteArray := prog_11_method_23_code
def yX9_recode : MethodName := ⟨RX9, "recode", "(II)I"⟩
abbrev cX9_price : ByteArray := prog_11_method_24_code
def yX9_price : MethodName := ⟨RX9, "price", "(II)I"⟩
abbrev cX9_way : ByteArray := prog_11_method_25_code
def yX9_way : MethodName := ⟨RX9, "way", "(III)I"⟩
abbrev cX9_carry : ByteArray := prog_11_method_26_code
def yX9_carry : MethodName := ⟨RX9, "carry", "(I)V"⟩
abbrev cX9_isTorn : ByteArray := prog_11_method_27_code
def yX9_isTorn : MethodName := ⟨RX9, "isTorn", "(I)Z"⟩
abbrev cX9_takeTwo : ByteArray := prog_11_method_28_code
def yX9_takeTwo : MethodName := ⟨RX9, "takeTwo", "(II)V"⟩
abbrev cX9_takeOther : ByteArray := prog_11_method_29_code
def yX9_takeOther : MethodName := ⟨RX9, "takeOther", "(I)V"⟩
abbrev cX9_pairCost : ByteArray := prog_11_method_30_code
def yX9_pairCost : MethodName := ⟨RX9, "pairCost", "(II)I"⟩
abbrev cX9_endCost : ByteArray := prog_11_method_31_code
def yX9_endCost : MethodName := ⟨RX9, "endCost", "(II)I"⟩
abbrev cX9_pairsLeft : ByteArray := prog_11_method_32_code
def yX9_pairsLeft : MethodName := ⟨RX9, "pairsLeft", "(II)I"⟩
abbrev cX9_leastFrom : ByteArray := prog_11_method_33_code
def yX9_leastFrom : MethodName := ⟨RX9, "leastFrom", "(II)I"⟩
abbrev cX9_layBy : ByteArray := prog_11_method_34_code
def yX9_layBy : MethodName := ⟨RX9, "layBy", "(I)I"⟩
abbrev cX9_leastCost : ByteArray := prog_11_method_35_code
def yX9_leastCost : MethodName := ⟨RX9, "leastCost", "()I"⟩
abbrev cX9_costOf : ByteArray := prog_11_method_36_code
def yX9_costOf : MethodName := ⟨RX9, "costOf", "(II)I"⟩
abbrev cX9_cost : ByteArray := prog_11_method_37_code
def yX9_cost : MethodName := ⟨RX9, "cost", "(II)I"⟩
abbrev cX9_carried : ByteArray := prog_11_method_38_code
def yX9_carried : MethodName := ⟨RX9, "carried", "(III)I"⟩
abbrev cX9_findPairs : ByteArray := prog_11_method_39_code
def yX9_findPairs : MethodName := ⟨RX9, "findPairs", "(II)V"⟩
abbrev cX9_pair : ByteArray := prog_11_method_40_code
def yX9_pair : MethodName := ⟨RX9, "pair", "(III)I"⟩
abbrev cX9_pairs : ByteArray := prog_11_method_41_code
def yX9_pairs : MethodName := ⟨RX9, "pairs", "(IIZ)I"⟩
abbrev cX9_noHeap : ByteArray := prog_11_method_42_code
def yX9_noHeap : MethodName := ⟨RX9, "noHeap", "(I)I"⟩
abbrev cX9_sumOf : ByteArray := prog_11_method_43_code
def yX9_sumOf : MethodName := ⟨RX9, "sumOf", "(II)I"⟩
abbrev cX9_mouldOf : ByteArray := prog_11_method_44_code
def yX9_mouldOf : MethodName := ⟨RX9, "mouldOf", "(I)I"⟩
abbrev cX9_mould : ByteArray := prog_11_method_45_code
def yX9_mould : MethodName := ⟨RX9, "mould", "(I)I"⟩
abbrev cX9_spread : ByteArray := prog_11_method_46_code
def yX9_spread : MethodName := ⟨RX9, "spread", "(I)I"⟩
abbrev cX9_findTree : ByteArray := prog_11_method_47_code
def yX9_findTree : MethodName := ⟨RX9, "findTree", "(I)V"⟩
abbrev cX9_nextBranch : ByteArray := prog_11_method_48_code
def yX9_nextBranch : MethodName := ⟨RX9, "nextBranch", "()I"⟩
abbrev cX9_tree : ByteArray := prog_11_method_49_code
def yX9_tree : MethodName := ⟨RX9, "tree", "(I)I"⟩
abbrev cX9_branch : ByteArray := prog_11_method_50_code
def yX9_branch : MethodName := ⟨RX9, "branch", "(II)I"⟩
abbrev cX9_nearest : ByteArray := prog_11_method_51_code
def yX9_nearest : MethodName := ⟨RX9, "nearest", "(I)I"⟩
abbrev cX9_sourceOf : ByteArray := prog_11_method_52_code
def yX9_sourceOf : MethodName := ⟨RX9, "sourceOf", "(I)I"⟩
abbrev cX9_source : ByteArray := prog_11_method_53_code
def yX9_source : MethodName := ⟨RX9, "source", "(I)I"⟩
abbrev cX9_first : ByteArray := prog_11_method_54_code
def yX9_first : MethodName := ⟨RX9, "first", "(I)I"⟩
abbrev cX9_same : ByteArray := prog_11_method_55_code
def yX9_same : MethodName := ⟨RX9, "same", "(IIII)I"⟩
abbrev cX9_isSame : ByteArray := prog_11_method_56_code
def yX9_isSame : MethodName := ⟨RX9, "isSame", "(IIII)Z"⟩
abbrev cX9_findPiece : ByteArray := prog_11_method_57_code
def yX9_findPiece : MethodName := ⟨RX9, "findPiece", "(II)V"⟩
abbrev cX9_borrowed : ByteArray := prog_11_method_58_code
def yX9_borrowed : MethodName := ⟨RX9, "borrowed", "(III)I"⟩
abbrev cX9_partCost : ByteArray := prog_11_method_59_code
def yX9_partCost : MethodName := ⟨RX9, "partCost", "(IIII)I"⟩
abbrev cX9_joined : ByteArray := prog_11_method_60_code
def yX9_joined : MethodName := ⟨RX9, "joined", "(IIIZ)I"⟩
abbrev cX9_counts : ByteArray := prog_11_method_61_code
def yX9_counts : MethodName := ⟨RX9, "counts", "(IIZ)I"⟩
abbrev cX9_count : ByteArray := prog_11_method_62_code
def yX9_count : MethodName := ⟨RX9, "count", "(IIZ)I"⟩
abbrev cX9_home : ByteArray := prog_11_method_63_code
def yX9_home : MethodName := ⟨RX9, "home", "(I)I"⟩
abbrev cX9_isSheet : ByteArray := prog_11_method_64_code
def yX9_isSheet : MethodName := ⟨RX9, "isSheet", "(I)Z"⟩
abbrev cX9_sheet : ByteArray := prog_11_method_65_code
def yX9_sheet : MethodName := ⟨RX9, "sheet", "(III)I"⟩
abbrev cX9_put : ByteArray := prog_11_method_66_code
def yX9_put : MethodName := ⟨RX9, "put", "(III)I"⟩
abbrev cX9_copy : ByteArray := prog_11_method_67_code
def yX9_copy : MethodName := ⟨RX9, "copy", "(IIIII)I"⟩
abbrev cX9_lay : ByteArray := prog_11_method_68_code
def yX9_lay : MethodName := ⟨RX9, "lay", "(II)I"⟩
abbrev cX9_all : ByteArray := prog_11_method_69_code
def yX9_all : MethodName := ⟨RX9, "all", "(I)I"⟩
def RJ6 : String := "java/lang/Integer"
def TJ6 : u_T := fun k => match k with
  | _ => ("", "", "", false)
def tyJ6 : Nat → FieldType := fun k => match k with
  | _ => .int
abbrev wsJ60 : List Cond := u_ws RJ6 TJ6 0
theorem nmJ6 : ∀ a, a < 0 → ∀ b, b < 0 → a ≠ b → (TJ6 a).2.1 ≠ (TJ6 b).2.1 := by decide +kernel
theorem tyJ6_ok : ∀ k, k < 0 → parseFieldDescriptor (TJ6 k).2.2.1 = some (tyJ6 k) := by decide +kernel
abbrev cJ6_bitCount_0f7a4 : ByteArray := prog_12_method_49_code
def yJ6_bitCount_0f7a4 : MethodName := ⟨RJ6, "bitCount", "(I)I"⟩
def RJ9 : String := "java/lang/Math"
def TJ9 : u_T := fun k => match k with
  | _ => ("", "", "", false)
def tyJ9 : Nat → FieldType := fun k => match k with
  | _ => .int
abbrev wsJ90 : List Cond := u_ws RJ9 TJ9 0
theorem nmJ9 : ∀ a, a < 0 → ∀ b, b < 0 → a ≠ b → (TJ9 a).2.1 ≠ (TJ9 b).2.1 := by decide +kernel
theorem tyJ9_ok : ∀ k, k < 0 → parseFieldDescriptor (TJ9 k).2.2.1 = some (tyJ9 k) := by decide +kernel
abbrev cJ9_min_7cf53 : ByteArray := prog_13_method_69_code
def yJ9_min_7cf53 : MethodName := ⟨RJ9, "min", "(II)I"⟩
def RJ10 : String := "java/lang/System"
def TJ10 : u_T := fun k => match k with
  | _ => ("", "", "", false)
def tyJ10 : Nat → FieldType := fun k => match k with
  | _ => .int
abbrev wsJ100 : List Cond := u_ws RJ10 TJ10 0
theorem nmJ10 : ∀ a, a < 0 → ∀ b, b < 0 → a ≠ b → (TJ10 a).2.1 ≠ (TJ10 b).2.1 := by decide +kernel
theorem tyJ10_ok : ∀ k, k < 0 → parseFieldDescriptor (TJ10 k).2.2.1 = some (tyJ10 k) := by decide +kernel
def RJ7 : String := "java/util/Arrays"
def TJ7 : u_T := fun k => match k with
  | _ => ("", "", "", false)
def tyJ7 : Nat → FieldType := fun k => match k with
  | _ => .int
abbrev wsJ70 : List Cond := u_ws RJ7 TJ7 0
theorem nmJ7 : ∀ a, a < 0 → ∀ b, b < 0 → a ≠ b → (TJ7 a).2.1 ≠ (TJ7 b).2.1 := by decide +kernel
theorem tyJ7_ok : ∀ k, k < 0 → parseFieldDescriptor (TJ7 k).2.2.1 = some (tyJ7 k) := by decide +kernel
abbrev cJ7_fill_53178 : ByteArray := prog_15_method_103_code
def yJ7_fill_53178 : MethodName := ⟨RJ7, "fill", "([II)V"⟩
def RL : String := "TaleDeskLaw"
abbrev cL_law : ByteArray := code
def yL_law : MethodName := ⟨RL, "law", "([I)Z"⟩
abbrev vwCl : List vw_C := [(RX0, TX0, 9), (RX1, TX1, 5), (RX2, TX2, 2), (RX3, TX3, 3), (RX4, TX4, 10), (RX5, TX5, 3), (RX6, TX6, 3), (RX7, TX7, 4), (RX8, TX8, 7), (RX9, TX9, 29)]
set_option maxRecDepth 20000 in
theorem inX0 : ∀ w ∈ wsX00, w ∈ lw_tbl := by decide +kernel
set_option maxRecDepth 20000 in
theorem inX1 : ∀ w ∈ wsX10, w ∈ lw_tbl := by decide +kernel
set_option maxRecDepth 20000 in
theorem inX2 : ∀ w ∈ wsX20, w ∈ lw_tbl := by decide +kernel
set_option maxRecDepth 20000 in
theorem inX3 : ∀ w ∈ wsX30, w ∈ lw_tbl := by decide +kernel
set_option maxRecDepth 20000 in
theorem inX4 : ∀ w ∈ wsX40, w ∈ lw_tbl := by decide +kernel
set_option maxRecDepth 20000 in
theorem inX5 : ∀ w ∈ wsX50, w ∈ lw_tbl := by decide +kernel
set_option maxRecDepth 20000 in
theorem inX6 : ∀ w ∈ wsX60, w ∈ lw_tbl := by decide +kernel
set_option maxRecDepth 20000 in
theorem inX7 : ∀ w ∈ wsX70, w ∈ lw_tbl := by decide +kernel
set_option maxRecDepth 20000 in
theorem inX8 : ∀ w ∈ wsX80, w ∈ lw_tbl := by decide +kernel
set_option maxRecDepth 20000 in
theorem inX9 : ∀ w ∈ wsX90, w ∈ lw_tbl := by decide +kernel
