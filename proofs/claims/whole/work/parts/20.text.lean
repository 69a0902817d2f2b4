theorem c_X6_append_0 {g : Gl} {M : Mem} {x : Int32} (hI : ∀ i, 10 ≤ i ∧ i ≤ 13 → i ∈ g.2.2.2.2) (e1 : M 10 3 = nI 120) : Ct g yX6_append cX6_append 2 (some .boolean) 0 [.ref (g.2.2.2.1 10), .int x] M (fun v M' => v = some (.int (nI 0)) ∧ M' = M) := by
  refine Ct.ofV (by decide) (Nat.le_of_ble_eq_true rfl) (by simp [Value.category]) (fun κ => ?_)
  refine V.aload_n dX6_append_0 rfl ?_
  refine V.getf (ci := 5) (k := 3) (C := RX6) (T := TX6) (N := 8) dX6_append_1 lfX6_22 inX6 rfl (by first | assumption | exact hI _ (by omega)) rfl (by decide) rfl ?_
  rw [e1]
  refine V.bipush (v := nI 120) dX6_append_4 (by decide) ?_
  refine V.ltN (tgt := 11) dX6_append_6 (by decide) (by omega) (by omega) (fun h1 => ?_) (fun h1 => ?_)
  · omega
  · refine V.iconst (v := nI 0) dX6_append_9 rfl ?_
    refine V.zret dX6_append_10 rfl ?_
    exact ⟨rfl, rfl⟩
theorem c_X6_append_1 {g : Gl} {M : Mem} {x : Int32} {n : Nat} (hI : ∀ i, 10 ≤ i ∧ i ≤ 13 → i ∈ g.2.2.2.2) (hn : n < 120) (e1 : M 10 3 = nI n) : Ct g yX6_append cX6_append 2 (some .boolean) 0 [.ref (g.2.2.2.1 10), .int x] M (fun v M' => v = some (.int (nI 1)) ∧ M' = mset (mset M 13 n x) 10 3 (nI (n + 1))) := by
  refine Ct.ofV (by decide) (Nat.le_of_ble_eq_true rfl) (by simp [Value.category]) (fun κ => ?_)
  refine V.aload_n dX6_append_0 rfl ?_
  refine V.getf (ci := 5) (k := 3) (C := RX6) (T := TX6) (N := 8) dX6_append_1 lfX6_22 inX6 rfl (by first | assumption | exact hI _ (by omega)) rfl (by decide) rfl ?_
  rw [e1]
  refine V.bipush (v := nI 120) dX6_append_4 (by decide) ?_
  refine V.ltN (tgt := 11) dX6_append_6 (by decide) (by omega) (by omega) (fun h1 => ?_) (fun h1 => ?_)
  · refine V.aload_n dX6_append_11 rfl ?_
    refine V.getf (ci := 5) (k := 4) (C := RX6) (T := TX6) (N := 8) dX6_append_12 lfX6_25 inX6 rfl (by first | assumption | exact hI _ (by omega)) rfl (by decide) rfl ?_
    refine V.aload_n dX6_append_15 rfl ?_
    refine V.getf (ci := 5) (k := 3) (C := RX6) (T := TX6) (N := 8) dX6_append_16 lfX6_22 inX6 rfl (by first | assumption | exact hI _ (by omega)) rfl (by decide) rfl ?_
    rw [e1]
    refine V.iload_n dX6_append_19 rfl ?_
    refine V.iast (n := 120) dX6_append_20 (by first | assumption | exact hI _ (by omega)) (by first | assumption | decide) (by omega) ?_
    refine V.aload_n dX6_append_21 rfl ?_
    refine V.dup dX6_append_22 rfl ?_
    refine V.getf (ci := 5) (k := 3) (C := RX6) (T := TX6) (N := 8) dX6_append_23 lfX6_22 inX6 rfl (by first | assumption | exact hI _ (by omega)) rfl (by decide) rfl ?_
    rw [mset_ne (a := 10) (by decide), e1]
    refine V.iconst (v := nI 1) dX6_append_26 rfl ?_
    first | refine V.iaddN dX6_append_27 ?_ | refine V.iadd dX6_append_27 ?_
    refine V.putf (ci := 5) (k := 3) (C := RX6) (T := TX6) (N := 8) (ty := .int) tyX6 dX6_append_28 lfX6_22 inX6 tyX6_ok nmX6 rfl (by first | assumption | exact hI _ (by omega)) rfl (by decide) rfl rfl rfl rfl (Nat.le_of_ble_eq_true rfl) rfl ?_
    refine V.iconst (v := nI 1) dX6_append_31 rfl ?_
    refine V.zret dX6_append_32 rfl ?_
    exact ⟨rfl, rfl⟩
  · omega
theorem c_X6_clear {g : Gl} {M : Mem} (hI : ∀ i, 10 ≤ i ∧ i ≤ 13 → i ∈ g.2.2.2.2) : Ct g yX6_clear cX6_clear 1 none 0 [.ref (g.2.2.2.1 10)] M (fun v M' => v = none ∧ M' = mset M 10 3 (nI 0)) := by
  refine Ct.ofV (by decide) (Nat.le_of_ble_eq_true rfl) (by simp [Value.category]) (fun κ => ?_)
  refine V.aload_n dX6_clear_0 rfl ?_
  refine V.iconst (v := nI 0) dX6_clear_1 rfl ?_
  refine V.putf (ci := 5) (k := 3) (C := RX6) (T := TX6) (N := 8) (ty := .int) tyX6 dX6_clear_2 lfX6_22 inX6 tyX6_ok nmX6 rfl (by first | assumption | exact hI _ (by omega)) rfl (by decide) rfl rfl rfl rfl (Nat.le_of_ble_eq_true rfl) rfl ?_
  refine V.vret dX6_clear_5 ?_
  exact ⟨rfl, rfl⟩
theorem c_X6_isName {g : Gl} {M : Mem} {x : Int32} : Ct g yX6_isName cX6_isName 1 (some .boolean) 0 [.int x] M (fun v M' => v = some (.int (nI (isNm x).toNat)) ∧ M' = M) := by
  refine Ct.ofV (by decide) (Nat.le_of_ble_eq_true rfl) (by simp [Value.category]) (fun κ => ?_)
  refine V.iload_n dX6_isName_0 rfl ?_
  refine V.bipush (v := nI 101) dX6_isName_1 (by decide) ?_
  refine V.icmp_eq (tgt := 24) dX6_isName_3 (by decide) (fun h1 => ?_) (fun h1 => ?_)
  · refine V.iconst (v := nI 1) dX6_isName_24 rfl ?_
    refine V.goto (tgt := 29) dX6_isName_25 (by decide) ?_
    refine V.zret dX6_isName_29 rfl ?_
    exact ⟨by simp [isNm, h1], rfl⟩
  · refine V.iload_n dX6_isName_6 rfl ?_
    refine V.bipush (v := nI 113) dX6_isName_7 (by decide) ?_
    refine V.icmp_eq (tgt := 24) dX6_isName_9 (by decide) (fun h2 => ?_) (fun h2 => ?_)
    · refine V.iconst (v := nI 1) dX6_isName_24 rfl ?_
      refine V.goto (tgt := 29) dX6_isName_25 (by decide) ?_
      refine V.zret dX6_isName_29 rfl ?_
      exact ⟨by simp [isNm, h2], rfl⟩
    · refine V.iload_n dX6_isName_12 rfl ?_
      refine V.bipush (v := nI 108) dX6_isName_13 (by decide) ?_
      refine V.icmp_eq (tgt := 24) dX6_isName_15 (by decide) (fun h3 => ?_) (fun h3 => ?_)
      · refine V.iconst (v := nI 1) dX6_isName_24 rfl ?_
        refine V.goto (tgt := 29) dX6_isName_25 (by decide) ?_
        refine V.zret dX6_isName_29 rfl ?_
        exact ⟨by simp [isNm, h3], rfl⟩
      · refine V.iload_n dX6_isName_18 rfl ?_
        refine V.bipush (v := nI 105) dX6_isName_19 (by decide) ?_
        refine V.icmp_ne (tgt := 28) dX6_isName_21 (by decide) (fun h4 => ?_) (fun h4 => ?_)
        · refine V.iconst (v := nI 0) dX6_isName_28 rfl ?_
          refine V.zret dX6_isName_29 rfl ?_
          exact ⟨by simp [isNm, h1, h2, h3, h4], rfl⟩
        · refine V.iconst (v := nI 1) dX6_isName_24 rfl ?_
          refine V.goto (tgt := 29) dX6_isName_25 (by decide) ?_
          refine V.zret dX6_isName_29 rfl ?_
          exact ⟨by simp [isNm, h4], rfl⟩
theorem c_X6_isDigit {g : Gl} {M : Mem} {x : Int32} : Ct g yX6_isDigit cX6_isDigit 1 (some .boolean) 0 [.int x] M (fun v M' => v = some (.int (nI (isDg x).toNat)) ∧ M' = M) := by
  refine Ct.ofV (by decide) (Nat.le_of_ble_eq_true rfl) (by simp [Value.category]) (fun κ => ?_)
  refine V.iload_n dX6_isDigit_0 rfl ?_
  refine V.bipush (v := nI 48) dX6_isDigit_1 (by decide) ?_
  refine V.icmp_lt (tgt := 16) dX6_isDigit_3 (by decide) (fun h1 => ?_) (fun h1 => ?_)
  · refine V.iconst (v := nI 0) dX6_isDigit_16 rfl ?_
    refine V.zret dX6_isDigit_17 rfl ?_
    exact ⟨by simp [isDg, h1], rfl⟩
  · refine V.iload_n dX6_isDigit_6 rfl ?_
    refine V.bipush (v := nI 57) dX6_isDigit_7 (by decide) ?_
    refine V.icmp_gt (tgt := 16) dX6_isDigit_9 (by decide) (fun h2 => ?_) (fun h2 => ?_)
    · refine V.iconst (v := nI 0) dX6_isDigit_16 rfl ?_
      refine V.zret dX6_isDigit_17 rfl ?_
      exact ⟨by simp [isDg, h2], rfl⟩
    · refine V.iconst (v := nI 1) dX6_isDigit_12 rfl ?_
      refine V.goto (tgt := 17) dX6_isDigit_13 (by decide) ?_
      refine V.zret dX6_isDigit_17 rfl ?_
      exact ⟨by simp [isDg, h1, h2], rfl⟩
theorem c_X6_addStep {g : Gl} {M : Mem} {x z : Int32} {l : Nat → Int32} {n q : Nat} {S : Stp2} (hI : ∀ i, 10 ≤ i ∧ i ≤ 13 → i ∈ g.2.2.2.2) (h : TS l n q S M) : Ct g yX6_addStep cX6_addStep 3 none 0 [.ref (g.2.2.2.1 10), .int x, .int z] M (fun v M' => v = none ∧ TS l n q (addS S (x, z)) M' ∧ keep tx M M') := by
  obtain ⟨⟨t1, t2, t3, t4, t5, t6, t7, t8⟩, t9, t10, t11⟩ := id h
  refine Ct.ofV (by decide) (Nat.le_of_ble_eq_true rfl) (by simp [Value.category]) (fun κ => ?_)
  refine V.aload_n dX6_addStep_0 rfl ?_
  refine V.getf (ci := 5) (k := 2) (C := RX6) (T := TX6) (N := 8) dX6_addStep_1 lfX6_18 inX6 rfl (by first | assumption | exact hI _ (by omega)) rfl (by decide) rfl ?_
  rw [t7]
  refine V.bipush (v := nI 120) dX6_addStep_4 (by decide) ?_
  refine V.geN (tgt := 39) dX6_addStep_6 (by decide) (by omega) (by omega) (fun h1 => ?_) (fun h1 => ?_)
  · refine V.vret dX6_addStep_39 ?_
    refine ⟨rfl, ?_, keep.rf⟩
    unfold addS; rw [if_neg (by omega)]; exact h
  · refine V.aload_n dX6_addStep_9 rfl ?_
    refine V.getf (ci := 5) (k := 0) (C := RX6) (T := TX6) (N := 8) dX6_addStep_10 lfX6_9 inX6 rfl (by first | assumption | exact hI _ (by omega)) rfl (by decide) rfl ?_
    refine V.aload_n dX6_addStep_13 rfl ?_
    refine V.getf (ci := 5) (k := 2) (C := RX6) (T := TX6) (N := 8) dX6_addStep_14 lfX6_18 inX6 rfl (by first | assumption | exact hI _ (by omega)) rfl (by decide) rfl ?_
    rw [t7]
    refine V.iload_n dX6_addStep_17 rfl ?_
    refine V.iast (n := 120) dX6_addStep_18 (by first | assumption | exact hI _ (by omega)) (by first | assumption | decide) (by omega) ?_
    refine V.aload_n dX6_addStep_19 rfl ?_
    refine V.getf (ci := 5) (k := 1) (C := RX6) (T := TX6) (N := 8) dX6_addStep_20 lfX6_15 inX6 rfl (by first | assumption | exact hI _ (by omega)) rfl (by decide) rfl ?_
    refine V.aload_n dX6_addStep_23 rfl ?_
    refine V.getf (ci := 5) (k := 2) (C := RX6) (T := TX6) (N := 8) dX6_addStep_24 lfX6_18 inX6 rfl (by first | assumption | exact hI _ (by omega)) rfl (by decide) rfl ?_
    rw [mset_ne (a := 10) (by decide), t7]
    refine V.iload_n dX6_addStep_27 rfl ?_
    refine V.iast (n := 120) dX6_addStep_28 (by first | assumption | exact hI _ (by omega)) (by first | assumption | decide) (by omega) ?_
    refine V.aload_n dX6_addStep_29 rfl ?_
    refine V.dup dX6_addStep_30 rfl ?_
    refine V.getf (ci := 5) (k := 2) (C := RX6) (T := TX6) (N := 8) dX6_addStep_31 lfX6_18 inX6 rfl (by first | assumption | exact hI _ (by omega)) rfl (by decide) rfl ?_
    rw [mset_ne (a := 10) (by decide), mset_ne (a := 10) (by decide), t7]
    refine V.iconst (v := nI 1) dX6_addStep_34 rfl ?_
    first | refine V.iaddN dX6_addStep_35 ?_ | refine V.iadd dX6_addStep_35 ?_
    refine V.putf (ci := 5) (k := 2) (C := RX6) (T := TX6) (N := 8) (ty := .int) tyX6 dX6_addStep_36 lfX6_18 inX6 tyX6_ok nmX6 rfl (by first | assumption | exact hI _ (by omega)) rfl (by decide) rfl rfl rfl rfl (Nat.le_of_ble_eq_true rfl) rfl ?_
    refine V.vret dX6_addStep_39 ?_
    refine ⟨rfl, ?_, ((keep.rf.ms (Or.inr (Or.inl rfl))).ms (Or.inr (Or.inr rfl))).ms (Or.inl rfl)⟩
    have ea : addS S (x, z) = S ++ [(x, z)] := by unfold addS; rw [if_pos (by omega)]
    have el : (S ++ [(x, z)]).length = S.length + 1 := by simp
    have f10 : ∀ k, k ≠ 2 → mset (mset (mset M 11 S.length x) 12 S.length z) 10 2 (nI (S.length + 1)) 10 k = M 10 k := fun k hk => by rw [mset_nat hk, mset_ne (by decide), mset_ne (by decide)]
    rw [ea]
    refine ⟨⟨t1, t2, by omega, ?_, ?_, ?_, ?_, ?_⟩, t9, ?_, ?_⟩
    · rw [mset_ne (by decide), mset_ne (by decide), mset_ne (by decide)]; exact t4
    · rw [f10 3 (by decide)]; exact t5
    · rw [f10 6 (by decide)]; exact t6
    · rw [mset_at, el]
    · intro i hi
      rw [mset_ne (a := 11) (by decide), mset_ne (a := 12) (by decide), mset_ne (a := 11) (by decide)]
      by_cases e : i = S.length
      · subst e
        rw [mset_at, mset_at]
        simp
      · have hi2 : i < S.length := by omega
        rw [mset_nat e, mset_nat e, mset_ne (a := 12) (by decide)]
        have := t8 i hi2
        rw [List.getD_eq_getElem?_getD, List.getElem?_append_left hi2, ← List.getD_eq_getElem?_getD]
        exact this
    · rw [f10 5 (by decide)]; exact t10
    · rw [f10 7 (by decide)]; exact t11
abbrev v_X6_amount (g : Gl) (κ : Ka) (Q : State → Prop) (M : Mem) (pc : Nat) (L : List (Option Value)) (st : List Value) : Prop := V g cX6_amount 3 yX6_amount.cls (some .int) (rmd 0) Q κ M pc L st
theorem c_X6_amount {g : Gl} {M : Mem} {l : Nat → Int32} {n q : Nat} {S : Stp2} (hI : ∀ i, 10 ≤ i ∧ i ≤ 13 → i ∈ g.2.2.2.2) (h : TS l n q S M) : Ct g yX6_amount cX6_amount 3 (some .int) 0 [.ref (g.2.2.2.1 10)] M (fun v M' => v = some (.int (amt l n q)) ∧ M' = M) := by
  obtain ⟨⟨t1, t2, t3, t4, t5, t6, t7, t8⟩, t9, t10, t11⟩ := id h
  have s1 := sk_le (l := l) t9
  refine Ct.ofV (by decide) (Nat.le_of_ble_eq_true rfl) (by simp [Value.category]) (fun κ => ?_)
  refine V.iconst (v := nI 0) dX6_amount_0 rfl ?_
  refine V.istore_n dX6_amount_1 (by decide) ?_
  refine V.aload_n dX6_amount_2 rfl ?_
  refine V.getf (ci := 5) (k := 5) (C := RX6) (T := TX6) (N := 8) dX6_amount_3 lfX6_28 inX6 rfl (by first | assumption | exact hI _ (by omega)) rfl (by decide) rfl ?_
  rw [t10]
  refine V.istore_n dX6_amount_6 (by decide) ?_
  by_cases hse : sk l n q ≤ en l n q
  · have lp := up_loop (en l n q - sk l n q) (fun k => v_X6_amount g κ (Qm g κ (fun v M' => v = some (.int (amt l n q)) ∧ M' = M)) M 7 [some (.ref (g.2.2.2.1 10)), some (.int (amtf l (sk l n q) k)), some (.int (nI (sk l n q + k)))] []) (fun k hk ih => ?_) 0 (by omega)
    · exact lp
    · refine V.iload_n dX6_amount_7 rfl ?_
      refine V.aload_n dX6_amount_8 rfl ?_
      refine V.getf (ci := 5) (k := 6) (C := RX6) (T := TX6) (N := 8) dX6_amount_9 lfX6_31 inX6 rfl (by first | assumption | exact hI _ (by omega)) rfl (by decide) rfl ?_
      rw [t6]
      refine V.geN (tgt := 36) dX6_amount_12 (by decide) (by omega) (by omega) (fun h1 => ?_) (fun h1 => ?_)
      · have e : k = en l n q - sk l n q := by omega
        subst e
        refine V.iload_n dX6_amount_36 rfl ?_
        refine V.iret dX6_amount_37 ?_
        exact ⟨rfl, rfl⟩
      · refine V.bipush (v := nI 10) dX6_amount_15 (by decide) ?_
        refine V.iload_n dX6_amount_17 rfl ?_
        refine V.imul dX6_amount_18 ?_
        refine V.aload_n dX6_amount_19 rfl ?_
        refine V.getf (ci := 5) (k := 4) (C := RX6) (T := TX6) (N := 8) dX6_amount_20 lfX6_25 inX6 rfl (by first | assumption | exact hI _ (by omega)) rfl (by decide) rfl ?_
        refine V.iload_n dX6_amount_23 rfl ?_
        refine V.iald (n := 120) dX6_amount_24 (by first | assumption | exact hI _ (by omega)) (by first | assumption | decide) (by omega) ?_
        refine V.bipush (v := nI 48) dX6_amount_25 (by decide) ?_
        refine V.isub dX6_amount_27 ?_
        refine V.iadd dX6_amount_28 ?_
        refine V.istore_n dX6_amount_29 (by decide) ?_
        refine V.iincN dX6_amount_30 (by decide) rfl ?_
        refine V.goto (tgt := 7) dX6_amount_33 (by decide) ?_
        rw [t4]
        exact ih (by omega)
  · refine V.iload_n dX6_amount_7 rfl ?_
    refine V.aload_n dX6_amount_8 rfl ?_
    refine V.getf (ci := 5) (k := 6) (C := RX6) (T := TX6) (N := 8) dX6_amount_9 lfX6_31 inX6 rfl (by first | assumption | exact hI _ (by omega)) rfl (by decide) rfl ?_
    rw [t6]
    refine V.geN (tgt := 36) dX6_amount_12 (by decide) (by omega) (by omega) (fun h1 => ?_) (fun h1 => ?_)
    · refine V.iload_n dX6_amount_36 rfl ?_
      refine V.iret dX6_amount_37 ?_
      refine ⟨?_, rfl⟩
      unfold amt; rw [show en l n q - sk l n q = 0 by omega]; rfl
    · omega
theorem c_X6_isNumber {g : Gl} {M : Mem} {l : Nat → Int32} {n q : Nat} {S : Stp2} (hI : ∀ i, 10 ≤ i ∧ i ≤ 13 → i ∈ g.2.2.2.2) (h : TS l n q S M) (hse : sk l n q ≤ en l n q) : Ct g yX6_isNumber cX6_isNumber 1 (some .boolean) 1 [.ref (g.2.2.2.1 10)] M (fun v M' => v = some (.int (nI (isNum l n q).toNat)) ∧ M' = M) := by
  obtain ⟨⟨t1, t2, t3, t4, t5, t6, t7, t8⟩, t9, t10, t11⟩ := id h
  refine Ct.ofV (by decide) (Nat.le_of_ble_eq_true rfl) (by simp [Value.category]) (fun κ => ?_)
  refine V.aload_n dX6_isNumber_0 rfl ?_
  refine V.getf (ci := 5) (k := 6) (C := RX6) (T := TX6) (N := 8) dX6_isNumber_1 lfX6_31 inX6 rfl (by first | assumption | exact hI _ (by omega)) rfl (by decide) rfl ?_
  rw [t6]
  refine V.aload_n dX6_isNumber_4 rfl ?_
  refine V.getf (ci := 5) (k := 5) (C := RX6) (T := TX6) (N := 8) dX6_isNumber_5 lfX6_28 inX6 rfl (by first | assumption | exact hI _ (by omega)) rfl (by decide) rfl ?_
  rw [t10]
  first | refine V.isubN dX6_isNumber_8 (by omega) ?_ | refine V.isub dX6_isNumber_8 ?_
  refine V.iconst (v := nI 4) dX6_isNumber_9 rfl ?_
  refine V.gtN (tgt := 27) dX6_isNumber_10 (by decide) (by omega) (by omega) (fun h1 => ?_) (fun h1 => ?_)
  · refine V.iconst (v := nI 0) dX6_isNumber_27 rfl ?_
    refine V.zret dX6_isNumber_28 rfl ?_
    exact ⟨by unfold isNum; rw [decide_eq_false (by omega)]; rfl, rfl⟩
  · refine V.aload_n dX6_isNumber_13 rfl ?_
    refine V.callV (ci := 5) (T := TX6) (N := 8) dX6_isNumber_14 (c_X6_amount hI h) lkX6_60 im_X6_amount se_X6_amount cd_X6_amount ini_X6 rfl (by first | assumption | exact hI _ (by omega)) rfl hd_X6_amount ⟨Nat.le_of_ble_eq_true rfl, Nat.le_of_ble_eq_true rfl⟩ rfl (Nat.le_of_ble_eq_true rfl) (V.kkF ?_)
    refine V.callS dX6_isNumber_17 (c_X2_holds) lkX6_71 st_X2_holds cd_X2_holds ini_X2 hd_X2_holds ⟨Nat.le_of_ble_eq_true rfl, Nat.le_of_ble_eq_true rfl⟩ rfl (Nat.le_of_ble_eq_true rfl) (V.kkF ?_)
    refine V.if_eqB (tgt := 27) dX6_isNumber_20 (by decide) (fun h2 => ?_) (fun h2 => ?_)
    · refine V.iconst (v := nI 0) dX6_isNumber_27 rfl ?_
      refine V.zret dX6_isNumber_28 rfl ?_
      exact ⟨by unfold isNum; rw [decide_eq_true h1, Bool.true_and, h2]; rfl, rfl⟩
    · refine V.iconst (v := nI 1) dX6_isNumber_23 rfl ?_
      refine V.goto (tgt := 28) dX6_isNumber_24 (by decide) ?_
      refine V.zret dX6_isNumber_28 rfl ?_
      exact ⟨by unfold isNum; rw [decide_eq_true h1, Bool.true_and, h2]; rfl, rfl⟩
abbrev v_X6_toNextToken (g : Gl) (κ : Ka) (Q : State → Prop) (M : Mem) (pc : Nat) (L : List (Option Value)) (st : List Value) : Prop := V g cX6_toNextToken 1 yX6_toNextToken.cls none (rmd 1) Q κ M pc L st
theorem c_X6_toNextToken {g : Gl} {M : Mem} {l : Nat → Int32} {n e : Nat} {S : Stp2} (hI : ∀ i, 10 ≤ i ∧ i ≤ 13 → i ∈ g.2.2.2.2) (h : TS0 l n e S M) : Ct g yX6_toNextToken cX6_toNextToken 1 none 1 [.ref (g.2.2.2.1 10)] M (fun v M' => v = none ∧ TS l n e S M' ∧ keep (fun j => j = 10) M M') := by
  obtain ⟨t1, t2, t3, t4, t5, t6, t7, t8⟩ := id h
  refine Ct.ofV (by decide) (Nat.le_of_ble_eq_true rfl) (by simp [Value.category]) (fun κ => ?_)
  refine V.aload_n dX6_toNextToken_0 rfl ?_
  refine V.aload_n dX6_toNextToken_1 rfl ?_
  refine V.getf (ci := 5) (k := 6) (C := RX6) (T := TX6) (N := 8) dX6_toNextToken_2 lfX6_31 inX6 rfl (by first | assumption | exact hI _ (by omega)) rfl (by decide) rfl ?_
  rw [t6]
  refine V.putf (ci := 5) (k := 5) (C := RX6) (T := TX6) (N := 8) (ty := .int) tyX6 dX6_toNextToken_5 lfX6_28 inX6 tyX6_ok nmX6 rfl (by first | assumption | exact hI _ (by omega)) rfl (by decide) rfl rfl rfl rfl (Nat.le_of_ble_eq_true rfl) rfl ?_
  have lp := up_loop n (fun p => e ≤ p → sk l n p = sk l n e → v_X6_toNextToken g κ (Qm g κ (fun v M' => v = none ∧ TS l n e S M' ∧ keep (fun j => j = 10) M M')) (mset M 10 5 (nI p)) 8 [some (.ref (g.2.2.2.1 10))] []) (fun p hp ih hep hs => ?_) e t2 (Nat.le_refl _) rfl
  · exact lp
  · have fin : sk l n p = p → v_X6_toNextToken g κ (Qm g κ (fun v M' => v = none ∧ TS l n e S M' ∧ keep (fun j => j = 10) M M')) (mset M 10 5 (nI p)) 46 [some (.ref (g.2.2.2.1 10))] [] := by
      intro hsp
      have hse : sk l n e = p := by rw [← hs]; exact hsp
      refine V.aload_n dX6_toNextToken_46 rfl ?_
      refine V.getf (ci := 5) (k := 5) (C := RX6) (T := TX6) (N := 8) dX6_toNextToken_47 lfX6_28 inX6 rfl (by first | assumption | exact hI _ (by omega)) rfl (by decide) rfl ?_
      rw [mset_at]
      refine V.aload_n dX6_toNextToken_50 rfl ?_
      refine V.getf (ci := 5) (k := 3) (C := RX6) (T := TX6) (N := 8) dX6_toNextToken_51 lfX6_22 inX6 rfl (by first | assumption | exact hI _ (by omega)) rfl (by decide) rfl ?_
      rw [mset_nat (by decide), t5]
      refine V.ltN (tgt := 63) dX6_toNextToken_54 (by decide) (by omega) (by omega) (fun h1 => ?_) (fun h1 => ?_)
      · refine V.aload_n dX6_toNextToken_63 rfl ?_
        refine V.aload_n dX6_toNextToken_64 rfl ?_
        refine V.getf (ci := 5) (k := 4) (C := RX6) (T := TX6) (N := 8) dX6_toNextToken_65 lfX6_25 inX6 rfl (by first | assumption | exact hI _ (by omega)) rfl (by decide) rfl ?_
        refine V.aload_n dX6_toNextToken_68 rfl ?_
        refine V.getf (ci := 5) (k := 5) (C := RX6) (T := TX6) (N := 8) dX6_toNextToken_69 lfX6_28 inX6 rfl (by first | assumption | exact hI _ (by omega)) rfl (by decide) rfl ?_
        rw [mset_at]
        refine V.iald (n := 120) dX6_toNextToken_72 (by first | assumption | exact hI _ (by omega)) (by first | assumption | decide) (by omega) ?_
        refine V.putf (ci := 5) (k := 7) (C := RX6) (T := TX6) (N := 8) (ty := .int) tyX6 dX6_toNextToken_73 lfX6_34 inX6 tyX6_ok nmX6 rfl (by first | assumption | exact hI _ (by omega)) rfl (by decide) rfl rfl rfl rfl (Nat.le_of_ble_eq_true rfl) rfl ?_
        refine V.aload_n dX6_toNextToken_76 rfl ?_
        refine V.aload_n dX6_toNextToken_77 rfl ?_
        refine V.getf (ci := 5) (k := 5) (C := RX6) (T := TX6) (N := 8) dX6_toNextToken_78 lfX6_28 inX6 rfl (by first | assumption | exact hI _ (by omega)) rfl (by decide) rfl ?_
        rw [mset_nat (j := 7) (by decide), mset_at, mset_ne (a := 13) (by decide), t4]
        refine V.iconst (v := nI 1) dX6_toNextToken_81 rfl ?_
        first | refine V.iaddN dX6_toNextToken_82 ?_ | refine V.iadd dX6_toNextToken_82 ?_
        refine V.putf (ci := 5) (k := 6) (C := RX6) (T := TX6) (N := 8) (ty := .int) tyX6 dX6_toNextToken_83 lfX6_31 inX6 tyX6_ok nmX6 rfl (by first | assumption | exact hI _ (by omega)) rfl (by decide) rfl rfl rfl rfl (Nat.le_of_ble_eq_true rfl) rfl ?_
        refine V.aload_n dX6_toNextToken_86 rfl ?_
        refine V.getf (ci := 5) (k := 7) (C := RX6) (T := TX6) (N := 8) dX6_toNextToken_87 lfX6_34 inX6 rfl (by first | assumption | exact hI _ (by omega)) rfl (by decide) rfl ?_
        rw [mset_nat (j := 6) (by decide), mset_at]
        refine V.callS dX6_toNextToken_90 (c_X6_isDigit) lkX6_57 st_X6_isDigit cd_X6_isDigit ini_X6 hd_X6_isDigit ⟨Nat.le_of_ble_eq_true rfl, Nat.le_of_ble_eq_true rfl⟩ rfl (Nat.le_of_ble_eq_true rfl) (V.kkF ?_)
        have key : ∀ z, z ≤ n → en l n e = z → TS l n e S (mset (mset (mset M 10 5 (nI p)) 10 7 (l p)) 10 6 (nI z)) := by
          intro z hz hez
          have f10 : ∀ k, k ≠ 5 → k ≠ 6 → k ≠ 7 → mset (mset (mset M 10 5 (nI p)) 10 7 (l p)) 10 6 (nI z) 10 k = M 10 k := fun k h5 h6 h7 => by rw [mset_nat h6, mset_nat h7, mset_nat h5]
          refine ⟨⟨t1, en_le t2, t3, ?_, ?_, ?_, ?_, ?_⟩, t2, ?_, ?_⟩
          · rw [mset_ne (by decide), mset_ne (by decide), mset_ne (by decide)]; exact t4
          · rw [f10 3 (by decide) (by decide) (by decide)]; exact t5
          · rw [mset_at, hez]
          · rw [f10 2 (by decide) (by decide) (by decide)]; exact t7
          · intro i hi
            rw [mset_ne (a := 11) (by decide), mset_ne (a := 11) (by decide), mset_ne (a := 11) (by decide), mset_ne (a := 12) (by decide), mset_ne (a := 12) (by decide), mset_ne (a := 12) (by decide)]; exact t8 i hi
          · rw [mset_nat (by decide), mset_nat (by decide), mset_at, hse]
          · rw [mset_nat (by decide), mset_at]; unfold fs; rw [hse, if_pos h1]
        refine V.if_eqB (tgt := 135) dX6_toNextToken_93 (by decide) (fun hd => ?_) (fun hd => ?_)
        · refine V.vret dX6_toNextToken_135 ?_
          exact ⟨rfl, key (p + 1) (by omega) (by unfold en; rw [hse, if_pos h1, hd]; rfl), (((keep.rf (P := fun j => j = 10)).ms rfl).ms rfl).ms rfl⟩
        · have hen : en l n e = dg l n (p + 1) := by unfold en; rw [hse, if_pos h1, hd]; rfl
          have l2 := up_loop n (fun z => p + 1 ≤ z → dg l n z = dg l n (p + 1) → v_X6_toNextToken g κ (Qm g κ (fun v M' => v = none ∧ TS l n e S M' ∧ keep (fun j => j = 10) M M')) (mset (mset (mset M 10 5 (nI p)) 10 7 (l p)) 10 6 (nI z)) 96 [some (.ref (g.2.2.2.1 10))] []) (fun z hz iz hz1 hdz => ?_) (p + 1) (by omega) (Nat.le_refl _) rfl
          · exact l2
          · refine V.aload_n dX6_toNextToken_96 rfl ?_
            refine V.getf (ci := 5) (k := 6) (C := RX6) (T := TX6) (N := 8) dX6_toNextToken_97 lfX6_31 inX6 rfl (by first | assumption | exact hI _ (by omega)) rfl (by decide) rfl ?_
            rw [mset_at]
            refine V.aload_n dX6_toNextToken_100 rfl ?_
            refine V.getf (ci := 5) (k := 3) (C := RX6) (T := TX6) (N := 8) dX6_toNextToken_101 lfX6_22 inX6 rfl (by first | assumption | exact hI _ (by omega)) rfl (by decide) rfl ?_
            rw [mset_nat (by decide), mset_nat (by decide), mset_nat (by decide), t5]
            refine V.geN (tgt := 135) dX6_toNextToken_104 (by decide) (by omega) (by omega) (fun h3 => ?_) (fun h3 => ?_)
            · refine V.vret dX6_toNextToken_135 ?_
              exact ⟨rfl, key z hz (by rw [hen, ← hdz, dg_no (by omega)]), (((keep.rf (P := fun j => j = 10)).ms rfl).ms rfl).ms rfl⟩
            · refine V.aload_n dX6_toNextToken_107 rfl ?_
              refine V.getf (ci := 5) (k := 4) (C := RX6) (T := TX6) (N := 8) dX6_toNextToken_108 lfX6_25 inX6 rfl (by first | assumption | exact hI _ (by omega)) rfl (by decide) rfl ?_
              refine V.aload_n dX6_toNextToken_111 rfl ?_
              refine V.getf (ci := 5) (k := 6) (C := RX6) (T := TX6) (N := 8) dX6_toNextToken_112 lfX6_31 inX6 rfl (by first | assumption | exact hI _ (by omega)) rfl (by decide) rfl ?_
              rw [mset_at]
              refine V.iald (n := 120) dX6_toNextToken_115 (by first | assumption | exact hI _ (by omega)) (by first | assumption | decide) (by omega) ?_
              rw [mset_ne (a := 13) (by decide), mset_ne (a := 13) (by decide), mset_ne (a := 13) (by decide), t4]
              refine V.callS dX6_toNextToken_116 (c_X6_isDigit) lkX6_57 st_X6_isDigit cd_X6_isDigit ini_X6 hd_X6_isDigit ⟨Nat.le_of_ble_eq_true rfl, Nat.le_of_ble_eq_true rfl⟩ rfl (Nat.le_of_ble_eq_true rfl) (V.kkF ?_)
              refine V.if_eqB (tgt := 135) dX6_toNextToken_119 (by decide) (fun hd4 => ?_) (fun hd4 => ?_)
              · refine V.vret dX6_toNextToken_135 ?_
                exact ⟨rfl, key z hz (by rw [hen, ← hdz, dg_no (by rw [hd4]; simp)]), (((keep.rf (P := fun j => j = 10)).ms rfl).ms rfl).ms rfl⟩
              · refine V.aload_n dX6_toNextToken_122 rfl ?_
                refine V.dup dX6_toNextToken_123 rfl ?_
                refine V.getf (ci := 5) (k := 6) (C := RX6) (T := TX6) (N := 8) dX6_toNextToken_124 lfX6_31 inX6 rfl (by first | assumption | exact hI _ (by omega)) rfl (by decide) rfl ?_
                rw [mset_at]
                refine V.iconst (v := nI 1) dX6_toNextToken_127 rfl ?_
                first | refine V.iaddN dX6_toNextToken_128 ?_ | refine V.iadd dX6_toNextToken_128 ?_
                refine V.putf (ci := 5) (k := 6) (C := RX6) (T := TX6) (N := 8) (ty := .int) tyX6 dX6_toNextToken_129 lfX6_31 inX6 tyX6_ok nmX6 rfl (by first | assumption | exact hI _ (by omega)) rfl (by decide) rfl rfl rfl rfl (Nat.le_of_ble_eq_true rfl) rfl ?_
                refine V.goto (tgt := 96) dX6_toNextToken_132 (by decide) ?_
                have e6 : ∀ x, mset (mset (mset (mset M 10 5 (nI p)) 10 7 (l p)) 10 6 (nI z)) 10 6 x = mset (mset (mset M 10 5 (nI p)) 10 7 (l p)) 10 6 x := by
                  intro x; funext a b; simp only [mset]
                  by_cases ha : a = 10
                  · by_cases hb : b = 6
                    · simp [ha, hb]
                    · simp [ha, hb]
                  · simp [ha]
                rw [e6]
                exact iz h3 (by omega) (by rw [← dg_yes h3 hd4]; exact hdz)
      · have hpn : p = n := by omega
        refine V.aload_n dX6_toNextToken_57 rfl ?_
        refine V.iconst (v := -1) dX6_toNextToken_58 rfl ?_
        refine V.putf (ci := 5) (k := 7) (C := RX6) (T := TX6) (N := 8) (ty := .int) tyX6 dX6_toNextToken_59 lfX6_34 inX6 tyX6_ok nmX6 rfl (by first | assumption | exact hI _ (by omega)) rfl (by decide) rfl rfl rfl rfl (Nat.le_of_ble_eq_true rfl) rfl ?_
        refine V.vret dX6_toNextToken_62 ?_
        refine ⟨rfl, ?_, ((keep.rf (P := fun j => j = 10)).ms rfl).ms rfl⟩
        have f10 : ∀ k, k ≠ 5 → k ≠ 7 → mset (mset M 10 5 (nI p)) 10 7 (-1) 10 k = M 10 k := fun k h5 h7 => by rw [mset_nat h7, mset_nat h5]
        have hen : en l n e = e := by unfold en; rw [hse, if_neg (by omega)]
        refine ⟨⟨t1, en_le t2, t3, ?_, ?_, ?_, ?_, ?_⟩, t2, ?_, ?_⟩
        · rw [mset_ne (by decide), mset_ne (by decide)]; exact t4
        · rw [f10 3 (by decide) (by decide)]; exact t5
        · rw [f10 6 (by decide) (by decide), hen]; exact t6
        · rw [f10 2 (by decide) (by decide)]; exact t7
        · intro i hi
          rw [mset_ne (a := 11) (by decide), mset_ne (a := 11) (by decide), mset_ne (a := 12) (by decide), mset_ne (a := 12) (by decide)]; exact t8 i hi
        · rw [mset_nat (by decide), mset_at, hse]
        · rw [mset_at]; unfold fs; rw [hse, if_neg (by omega)]
    refine V.aload_n dX6_toNextToken_8 rfl ?_
    refine V.getf (ci := 5) (k := 5) (C := RX6) (T := TX6) (N := 8) dX6_toNextToken_9 lfX6_28 inX6 rfl (by first | assumption | exact hI _ (by omega)) rfl (by decide) rfl ?_
    rw [mset_at]
    refine V.aload_n dX6_toNextToken_12 rfl ?_
    refine V.getf (ci := 5) (k := 3) (C := RX6) (T := TX6) (N := 8) dX6_toNextToken_13 lfX6_22 inX6 rfl (by first | assumption | exact hI _ (by omega)) rfl (by decide) rfl ?_
    rw [mset_nat (by decide), t5]
    refine V.geN (tgt := 46) dX6_toNextToken_16 (by decide) (by omega) (by omega) (fun h1 => ?_) (fun h1 => ?_)
    · exact fin (sk_no (by omega))
    · refine V.aload_n dX6_toNextToken_19 rfl ?_
      refine V.getf (ci := 5) (k := 4) (C := RX6) (T := TX6) (N := 8) dX6_toNextToken_20 lfX6_25 inX6 rfl (by first | assumption | exact hI _ (by omega)) rfl (by decide) rfl ?_
      refine V.aload_n dX6_toNextToken_23 rfl ?_
      refine V.getf (ci := 5) (k := 5) (C := RX6) (T := TX6) (N := 8) dX6_toNextToken_24 lfX6_28 inX6 rfl (by first | assumption | exact hI _ (by omega)) rfl (by decide) rfl ?_
      rw [mset_at]
      refine V.iald (n := 120) dX6_toNextToken_27 (by first | assumption | exact hI _ (by omega)) (by first | assumption | decide) (by omega) ?_
      rw [mset_ne (a := 13) (by decide), t4]
      refine V.bipush (v := nI 32) dX6_toNextToken_28 (by decide) ?_
      refine V.icmp_ne (tgt := 46) dX6_toNextToken_30 (by decide) (fun h2 => ?_) (fun h2 => ?_)
      · exact fin (sk_no (fun q => h2 q.2))
      · refine V.aload_n dX6_toNextToken_33 rfl ?_
        refine V.dup dX6_toNextToken_34 rfl ?_
        refine V.getf (ci := 5) (k := 5) (C := RX6) (T := TX6) (N := 8) dX6_toNextToken_35 lfX6_28 inX6 rfl (by first | assumption | exact hI _ (by omega)) rfl (by decide) rfl ?_
        rw [mset_at]
        refine V.iconst (v := nI 1) dX6_toNextToken_38 rfl ?_
        first | refine V.iaddN dX6_toNextToken_39 ?_ | refine V.iadd dX6_toNextToken_39 ?_
        refine V.putf (ci := 5) (k := 5) (C := RX6) (T := TX6) (N := 8) (ty := .int) tyX6 dX6_toNextToken_40 lfX6_28 inX6 tyX6_ok nmX6 rfl (by first | assumption | exact hI _ (by omega)) rfl (by decide) rfl rfl rfl rfl (Nat.le_of_ble_eq_true rfl) rfl ?_
        refine V.goto (tgt := 8) dX6_toNextToken_43 (by decide) ?_
        have e5 : ∀ x, mset (mset M 10 5 (nI p)) 10 5 x = mset M 10 5 x := by
          intro x; funext a b; simp only [mset]
          by_cases ha : a = 10
          · by_cases hb : b = 5
            · simp [ha, hb]
            · simp [ha, hb]
          · simp [ha]
        rw [e5]
        exact ih h1 (by omega) (by rw [← sk_yes h1 h2]; exact hs)

