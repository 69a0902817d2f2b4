/-! ===== Numbers, and the class's own static methods ===== -/
abbrev v_X2_add (g : Gl) (κ : Ka) (Q : State → Prop) (M : Mem) (pc : Nat) (L : List (Option Value)) (st : List Value) : Prop := V g cX2_add 2 yX2_add.cls (some .int) (rmd 0) Q κ M pc L st
theorem c_X2_add {g : Gl} {M : Mem} {x z : Int32} : Ct g yX2_add cX2_add 2 (some .int) 0 [.int x, .int z] M (fun v M' => v = some (.int (fadd x z)) ∧ M' = M) := by
  refine Ct.ofV (by decide) (Nat.le_of_ble_eq_true rfl) (by simp [Value.category]) (fun κ => ?_)
  refine V.iload_n dX2_add_0 rfl ?_
  refine V.iload_n dX2_add_1 rfl ?_
  refine V.iadd dX2_add_2 ?_
  refine V.sipush (v := nI 9973) dX2_add_3 (by decide) ?_
  first | refine V.iremN dX2_add_6 (by omega) (by omega) (by omega) ?_ | refine V.irem dX2_add_6 (by decide) ?_
  refine V.iret dX2_add_7 ?_
  exact ⟨rfl, rfl⟩
theorem c_X2_subtract {g : Gl} {M : Mem} {x z : Int32} : Ct g yX2_subtract cX2_subtract 2 (some .int) 0 [.int x, .int z] M (fun v M' => v = some (.int (fsub x z)) ∧ M' = M) := by
  refine Ct.ofV (by decide) (Nat.le_of_ble_eq_true rfl) (by simp [Value.category]) (fun κ => ?_)
  refine V.iload_n dX2_subtract_0 rfl ?_
  refine V.iload_n dX2_subtract_1 rfl ?_
  refine V.isub dX2_subtract_2 ?_
  refine V.sipush (v := nI 9973) dX2_subtract_3 (by decide) ?_
  refine V.iadd dX2_subtract_6 ?_
  refine V.sipush (v := nI 9973) dX2_subtract_7 (by decide) ?_
  first | refine V.iremN dX2_subtract_10 (by omega) (by omega) (by omega) ?_ | refine V.irem dX2_subtract_10 (by decide) ?_
  refine V.iret dX2_subtract_11 ?_
  exact ⟨rfl, rfl⟩
theorem c_X2_multiply {g : Gl} {M : Mem} {x z : Int32} : Ct g yX2_multiply cX2_multiply 2 (some .int) 0 [.int x, .int z] M (fun v M' => v = some (.int (fmul x z)) ∧ M' = M) := by
  refine Ct.ofV (by decide) (Nat.le_of_ble_eq_true rfl) (by simp [Value.category]) (fun κ => ?_)
  refine V.iload_n dX2_multiply_0 rfl ?_
  refine V.iload_n dX2_multiply_1 rfl ?_
  refine V.imul dX2_multiply_2 ?_
  refine V.sipush (v := nI 9973) dX2_multiply_3 (by decide) ?_
  first | refine V.iremN dX2_multiply_6 (by omega) (by omega) (by omega) ?_ | refine V.irem dX2_multiply_6 (by decide) ?_
  refine V.iret dX2_multiply_7 ?_
  exact ⟨rfl, rfl⟩
theorem c_X2_holds {g : Gl} {M : Mem} {x : Int32} : Ct g yX2_holds cX2_holds 1 (some .boolean) 0 [.int x] M (fun v M' => v = some (.int (nI (isN x 9973).toNat)) ∧ M' = M) := by
  refine Ct.ofV (by decide) (Nat.le_of_ble_eq_true rfl) (by simp [Value.category]) (fun κ => ?_)
  refine V.iload_n dX2_holds_0 rfl ?_
  refine V.if_lt (tgt := 15) dX2_holds_1 (by decide) (fun h1 => ?_) (fun h1 => ?_)
  · refine V.iconst (v := nI 0) dX2_holds_15 rfl ?_
    refine V.zret dX2_holds_16 rfl ?_
    exact ⟨by rw [isN_0 h1]; rfl, rfl⟩
  · refine V.iload_n dX2_holds_4 rfl ?_
    refine V.sipush (v := nI 9973) dX2_holds_5 (by decide) ?_
    refine V.icmp_ge (tgt := 15) dX2_holds_8 (by decide) (fun h2 => ?_) (fun h2 => ?_)
    · refine V.iconst (v := nI 0) dX2_holds_15 rfl ?_
      refine V.zret dX2_holds_16 rfl ?_
      exact ⟨by rw [isN_1 h2]; rfl, rfl⟩
    · refine V.iconst (v := nI 1) dX2_holds_11 rfl ?_
      refine V.goto (tgt := 16) dX2_holds_12 (by decide) ?_
      refine V.zret dX2_holds_16 rfl ?_
      exact ⟨by rw [isN_2 h1 h2]; rfl, rfl⟩
theorem c_X7_isRow {g : Gl} {M : Mem} {x : Int32} : Ct g yX7_isRow cX7_isRow 1 (some .boolean) 0 [.int x] M (fun v M' => v = some (.int (nI (isN x 4).toNat)) ∧ M' = M) := by
  refine Ct.ofV (by decide) (Nat.le_of_ble_eq_true rfl) (by simp [Value.category]) (fun κ => ?_)
  refine V.iload_n dX7_isRow_0 rfl ?_
  refine V.if_lt (tgt := 13) dX7_isRow_1 (by decide) (fun h1 => ?_) (fun h1 => ?_)
  · refine V.iconst (v := nI 0) dX7_isRow_13 rfl ?_
    refine V.zret dX7_isRow_14 rfl ?_
    exact ⟨by rw [isN_0 h1]; rfl, rfl⟩
  · refine V.iload_n dX7_isRow_4 rfl ?_
    refine V.iconst (v := nI 4) dX7_isRow_5 rfl ?_
    refine V.icmp_ge (tgt := 13) dX7_isRow_6 (by decide) (fun h2 => ?_) (fun h2 => ?_)
    · refine V.iconst (v := nI 0) dX7_isRow_13 rfl ?_
      refine V.zret dX7_isRow_14 rfl ?_
      exact ⟨by rw [isN_1 h2]; rfl, rfl⟩
    · refine V.iconst (v := nI 1) dX7_isRow_9 rfl ?_
      refine V.goto (tgt := 14) dX7_isRow_10 (by decide) ?_
      refine V.zret dX7_isRow_14 rfl ?_
      exact ⟨by rw [isN_2 h1 h2]; rfl, rfl⟩
theorem c_X7_copy {g : Gl} {M : Mem} {i j : Nat} (hi : i ∈ g.2.2.2.2) (hj : j ∈ g.2.2.2.2) (li : ial i = 9) (lj : ial j = 9) : Ct g yX7_copy cX7_copy 2 none 1 [.ref (g.2.2.2.1 i), .ref (g.2.2.2.1 j)] M (fun v M' => v = none ∧ M' = aset M j 0 9 (M i)) := by
  refine Ct.ofV (by decide) (Nat.le_of_ble_eq_true rfl) (by simp [Value.category]) (fun κ => ?_)
  refine V.aload_n dX7_copy_0 rfl ?_
  refine V.iconst (v := nI 0) dX7_copy_1 rfl ?_
  refine V.aload_n dX7_copy_2 rfl ?_
  refine V.iconst (v := nI 0) dX7_copy_3 rfl ?_
  refine V.bipush (v := nI 9) dX7_copy_4 (by decide) ?_
  refine V.copy dX7_copy_6 rfl hi hj li lj (by decide) (by decide) (by decide) ⟨Nat.le_of_ble_eq_true rfl, Nat.le_of_ble_eq_true rfl⟩ ?_
  refine V.vret dX7_copy_9 ?_
  exact ⟨rfl, rfl⟩
abbrev v_X7_setMonomial (g : Gl) (κ : Ka) (Q : State → Prop) (M : Mem) (pc : Nat) (L : List (Option Value)) (st : List Value) : Prop := V g cX7_setMonomial 4 yX7_setMonomial.cls none (rmd 0) Q κ M pc L st
theorem c_X7_setMonomial {g : Gl} {M : Mem} {i k : Nat} {a : Int32} (hi : i ∈ g.2.2.2.2) (li : ial i = 9) (hk : k < 9) : Ct g yX7_setMonomial cX7_setMonomial 4 none 0 [.ref (g.2.2.2.1 i), .int (nI k), .int a] M (fun v M' => v = none ∧ M' = aset M i 0 9 (mono k a)) := by
  refine Ct.ofV (by decide) (Nat.le_of_ble_eq_true rfl) (by simp [Value.category]) (fun κ => ?_)
  refine V.iconst (v := nI 0) dX7_setMonomial_0 rfl ?_
  refine V.istore_n dX7_setMonomial_1 (by decide) ?_
  have lp := up_loop 9 (fun j => v_X7_setMonomial g κ (Qm g κ (fun v M' => v = none ∧ M' = aset M i 0 9 (mono k a))) (aset M i 0 j (mono k a)) 2 [some (.ref (g.2.2.2.1 i)), some (.int (nI k)), some (.int a), some (.int (nI j))] []) (fun j hj ih => ?_) 0 (by omega)
  · rw [aset_nil (Nat.le_refl 0)] at lp
    exact lp
  · refine V.iload_n dX7_setMonomial_2 rfl ?_
    refine V.bipush (v := nI 9) dX7_setMonomial_3 (by decide) ?_
    refine V.geN (tgt := 27) dX7_setMonomial_5 (by decide) (by omega) (by omega) (fun h1 => ?_) (fun h1 => ?_)
    · refine V.vret dX7_setMonomial_27 ?_
      have e : j = 9 := by omega
      subst e
      exact ⟨rfl, rfl⟩
    · refine V.aload_n dX7_setMonomial_8 rfl ?_
      refine V.iload_n dX7_setMonomial_9 rfl ?_
      refine V.iload_n dX7_setMonomial_10 rfl ?_
      refine V.iload_n dX7_setMonomial_11 rfl ?_
      refine V.neN (tgt := 19) dX7_setMonomial_12 (by decide) (by omega) (by omega) (fun h2 => ?_) (fun h2 => ?_)
      · refine V.iconst (v := nI 0) dX7_setMonomial_19 rfl ?_
        refine V.iast (n := 9) dX7_setMonomial_20 (by first | assumption | exact hI _ (by omega)) (by first | assumption | decide) (by omega) ?_
        refine V.iincN dX7_setMonomial_21 (by decide) rfl ?_
        refine V.goto (tgt := 2) dX7_setMonomial_24 (by decide) ?_
        rw [aset_up (Nat.zero_le _) (by simp [mono, h2])]
        exact ih (by omega)
      · refine V.iload_n dX7_setMonomial_15 rfl ?_
        refine V.goto (tgt := 20) dX7_setMonomial_16 (by decide) ?_
        refine V.iast (n := 9) dX7_setMonomial_20 (by first | assumption | exact hI _ (by omega)) (by first | assumption | decide) (by omega) ?_
        refine V.iincN dX7_setMonomial_21 (by decide) rfl ?_
        refine V.goto (tgt := 2) dX7_setMonomial_24 (by decide) ?_
        rw [aset_up (Nat.zero_le _) (by simp [mono, h2])]
        exact ih (by omega)
abbrev v_X7_addMultiple (g : Gl) (κ : Ka) (Q : State → Prop) (M : Mem) (pc : Nat) (L : List (Option Value)) (st : List Value) : Prop := V g cX7_addMultiple 4 yX7_addMultiple.cls none (rmd 1) Q κ M pc L st
theorem c_X7_addMultiple {g : Gl} {M : Mem} {i k : Nat} {c : Int32} (hi : i ∈ g.2.2.2.2) (li : ial i = 9) (hk : k ∈ g.2.2.2.2) (lk : ial k = 9) (hne : i ≠ k) : Ct g yX7_addMultiple cX7_addMultiple 4 none 1 [.ref (g.2.2.2.1 i), .ref (g.2.2.2.1 k), .int c] M (fun v M' => v = none ∧ M' = aset M i 0 9 (fax (M i) (M k) c)) := by
  refine Ct.ofV (by decide) (Nat.le_of_ble_eq_true rfl) (by simp [Value.category]) (fun κ => ?_)
  refine V.iconst (v := nI 0) dX7_addMultiple_0 rfl ?_
  refine V.istore_n dX7_addMultiple_1 (by decide) ?_
  have lp := up_loop 9 (fun j => v_X7_addMultiple g κ (Qm g κ (fun v M' => v = none ∧ M' = aset M i 0 9 (fax (M i) (M k) c))) (aset M i 0 j (fax (M i) (M k) c)) 2 [some (.ref (g.2.2.2.1 i)), some (.ref (g.2.2.2.1 k)), some (.int c), some (.int (nI j))] []) (fun j hj ih => ?_) 0 (by omega)
  · rw [aset_nil (Nat.le_refl 0)] at lp
    exact lp
  · refine V.iload_n dX7_addMultiple_2 rfl ?_
    refine V.bipush (v := nI 9) dX7_addMultiple_3 (by decide) ?_
    refine V.geN (tgt := 30) dX7_addMultiple_5 (by decide) (by omega) (by omega) (fun h1 => ?_) (fun h1 => ?_)
    · refine V.vret dX7_addMultiple_30 ?_
      have e : j = 9 := by omega
      subst e
      exact ⟨rfl, rfl⟩
    · refine V.aload_n dX7_addMultiple_8 rfl ?_
      refine V.iload_n dX7_addMultiple_9 rfl ?_
      refine V.aload_n dX7_addMultiple_10 rfl ?_
      refine V.iload_n dX7_addMultiple_11 rfl ?_
      refine V.iald (n := 9) dX7_addMultiple_12 (by first | assumption | exact hI _ (by omega)) (by first | assumption | decide) (by omega) ?_
      refine V.aload_n dX7_addMultiple_13 rfl ?_
      refine V.iload_n dX7_addMultiple_14 rfl ?_
      refine V.iald (n := 9) dX7_addMultiple_15 (by first | assumption | exact hI _ (by omega)) (by first | assumption | decide) (by omega) ?_
      refine V.iload_n dX7_addMultiple_16 rfl ?_
      refine V.callS dX7_addMultiple_17 (c_X2_multiply) lkX7_192 st_X2_multiply cd_X2_multiply ini_X2 hd_X2_multiply ⟨Nat.le_of_ble_eq_true rfl, Nat.le_of_ble_eq_true rfl⟩ rfl (Nat.le_of_ble_eq_true rfl) (V.kkF ?_)
      refine V.callS dX7_addMultiple_20 (c_X2_add) lkX7_200 st_X2_add cd_X2_add ini_X2 hd_X2_add ⟨Nat.le_of_ble_eq_true rfl, Nat.le_of_ble_eq_true rfl⟩ rfl (Nat.le_of_ble_eq_true rfl) (V.kkF ?_)
      refine V.iast (n := 9) dX7_addMultiple_23 (by first | assumption | exact hI _ (by omega)) (by first | assumption | decide) (by omega) ?_
      refine V.iincN dX7_addMultiple_24 (by decide) rfl ?_
      refine V.goto (tgt := 2) dX7_addMultiple_27 (by decide) ?_
      rw [aset_up (Nat.zero_le _) (by rw [aset_out (Or.inr (Nat.le_refl _)), aset_ne (Ne.symm hne)]; rfl)]
      exact ih (by omega)
abbrev v_X7_moveUp (g : Gl) (κ : Ka) (Q : State → Prop) (M : Mem) (pc : Nat) (L : List (Option Value)) (st : List Value) : Prop := V g cX7_moveUp 2 yX7_moveUp.cls none (rmd 0) Q κ M pc L st
theorem c_X7_moveUp {g : Gl} {M : Mem} {i : Nat} (hi : i ∈ g.2.2.2.2) (li : ial i = 9) : Ct g yX7_moveUp cX7_moveUp 2 none 0 [.ref (g.2.2.2.1 i)] M (fun v M' => v = none ∧ M' = aset M i 0 9 (fup (M i))) := by
  refine Ct.ofV (by decide) (Nat.le_of_ble_eq_true rfl) (by simp [Value.category]) (fun κ => ?_)
  refine V.bipush (v := nI 8) dX7_moveUp_0 (by decide) ?_
  refine V.istore_n dX7_moveUp_2 (by decide) ?_
  have lp := dn_loop (fun k => k ≤ 8 → v_X7_moveUp g κ (Qm g κ (fun v M' => v = none ∧ M' = aset M i 0 9 (fup (M i)))) (aset M i (k + 1) 9 (fup (M i))) 3 [some (.ref (g.2.2.2.1 i)), some (.int (nI k))] []) (fun k ih hk => ?_) 8 (by omega)
  · rw [aset_nil (Nat.le_refl 9)] at lp
    exact lp
  · refine V.iload_n dX7_moveUp_3 rfl ?_
    refine V.if_leD (tgt := 21) dX7_moveUp_4 (by decide) (by omega) (fun h1 => ?_) (fun j h1 => ?_)
    · subst h1
      refine V.aload_n dX7_moveUp_21 rfl ?_
      refine V.iconst (v := nI 0) dX7_moveUp_22 rfl ?_
      refine V.iconst (v := nI 0) dX7_moveUp_23 rfl ?_
      refine V.iast (n := 9) dX7_moveUp_24 (by first | assumption | exact hI _ (by omega)) (by first | assumption | decide) (by omega) ?_
      refine V.vret dX7_moveUp_25 ?_
      exact ⟨rfl, aset_dn (by decide) rfl⟩
    · subst h1
      refine V.aload_n dX7_moveUp_7 rfl ?_
      refine V.iload_n dX7_moveUp_8 rfl ?_
      refine V.aload_n dX7_moveUp_9 rfl ?_
      refine V.iload_n dX7_moveUp_10 rfl ?_
      refine V.iconst (v := nI 1) dX7_moveUp_11 rfl ?_
      first | refine V.isubN dX7_moveUp_12 (by omega) ?_ | refine V.isub dX7_moveUp_12 ?_
      refine V.iald (n := 9) dX7_moveUp_13 (by first | assumption | exact hI _ (by omega)) (by first | assumption | decide) (by omega) ?_
      refine V.iast (n := 9) dX7_moveUp_14 (by first | assumption | exact hI _ (by omega)) (by first | assumption | decide) (by omega) ?_
      refine V.iincD dX7_moveUp_15 (by decide) rfl ?_
      refine V.goto (tgt := 3) dX7_moveUp_18 (by decide) ?_
      rw [nI_pred, aset_dn (by omega) (by rw [aset_out (Or.inl (by omega))]; simp [fup])]
      exact ih j rfl (by omega)
abbrev v_X7_valueAt (g : Gl) (κ : Ka) (Q : State → Prop) (M : Mem) (pc : Nat) (L : List (Option Value)) (st : List Value) : Prop := V g cX7_valueAt 4 yX7_valueAt.cls (some .int) (rmd 1) Q κ M pc L st
theorem c_X7_valueAt {g : Gl} {M : Mem} {i : Nat} {x : Int32} (hi : i ∈ g.2.2.2.2) (li : ial i = 9) : Ct g yX7_valueAt cX7_valueAt 4 (some .int) 1 [.ref (g.2.2.2.1 i), .int x] M (fun v M' => v = some (.int (horn (M i) x 9)) ∧ M' = M) := by
  refine Ct.ofV (by decide) (Nat.le_of_ble_eq_true rfl) (by simp [Value.category]) (fun κ => ?_)
  refine V.iconst (v := nI 0) dX7_valueAt_0 rfl ?_
  refine V.istore_n dX7_valueAt_1 (by decide) ?_
  refine V.bipush (v := nI 8) dX7_valueAt_2 (by decide) ?_
  refine V.istore_n dX7_valueAt_4 (by decide) ?_
  have lp := dn_loop (fun k => k ≤ 9 → v_X7_valueAt g κ (Qm g κ (fun v M' => v = some (.int (horn (M i) x 9)) ∧ M' = M)) M 5 [some (.ref (g.2.2.2.1 i)), some (.int x), some (.int (horn (M i) x (9 - k))), some (.int (nI k - 1))] []) (fun k ih hk => ?_) 9 (by omega)
  · exact lp
  · refine V.iload_n dX7_valueAt_5 rfl ?_
    refine V.if_ltD (tgt := 27) dX7_valueAt_6 (by decide) (by omega) (fun h1 => ?_) (fun j h1 => ?_)
    · subst h1
      refine V.iload_n dX7_valueAt_27 rfl ?_
      refine V.iret dX7_valueAt_28 ?_
      exact ⟨rfl, rfl⟩
    · subst h1
      rw [nI_pred]
      refine V.iload_n dX7_valueAt_9 rfl ?_
      refine V.iload_n dX7_valueAt_10 rfl ?_
      refine V.callS dX7_valueAt_11 (c_X2_multiply) lkX7_192 st_X2_multiply cd_X2_multiply ini_X2 hd_X2_multiply ⟨Nat.le_of_ble_eq_true rfl, Nat.le_of_ble_eq_true rfl⟩ rfl (Nat.le_of_ble_eq_true rfl) (V.kkF ?_)
      refine V.aload_n dX7_valueAt_14 rfl ?_
      refine V.iload_n dX7_valueAt_15 rfl ?_
      refine V.iald (n := 9) dX7_valueAt_16 (by first | assumption | exact hI _ (by omega)) (by first | assumption | decide) (by omega) ?_
      refine V.callS dX7_valueAt_17 (c_X2_add) lkX7_200 st_X2_add cd_X2_add ini_X2 hd_X2_add ⟨Nat.le_of_ble_eq_true rfl, Nat.le_of_ble_eq_true rfl⟩ rfl (Nat.le_of_ble_eq_true rfl) (V.kkF ?_)
      refine V.istore_n dX7_valueAt_20 (by decide) ?_
      refine V.iincD dX7_valueAt_21 (by decide) rfl ?_
      refine V.goto (tgt := 5) dX7_valueAt_24 (by decide) ?_
      have e := ih j rfl (by omega)
      rw [show 9 - j = (9 - (j + 1)) + 1 by omega] at e
      simp only [horn] at e
      rw [show 8 - (9 - (j + 1)) = j by omega] at e
      exact e

