section VMI
variable {g : Gl} {cc : ByteArray} {nL : Nat} {own : String} {ret : Option FieldType} {R : Room} {Q : State → Prop} {κ : Ka} {M : Mem} {pc : Nat} {L : List (Option Value)} {st : List Value}
theorem V.min {a b : Nat} (d : decode cc pc = .ok (.invokestatic 31, 3)) (ho : own = RX0) (ha : a < 2 ^ 31) (hb : b < 2 ^ 31) (hR : 1 ≤ R.frames ∧ 40 ≤ R.locals) (hw : (st.map fun v => v.category).sum ≤ 8) (kk : V g cc nL own ret R Q κ M (pc + 3) L (.int (nI (Nat.min a b)) :: st)) : V g cc nL own ret R Q κ M pc L (.int (nI b) :: .int (nI a) :: st) := fun E H locs ls w hl => by
  subst ho
  refine va_mmin E.1 E.2.1 (by rw [hl.1]; exact E.2.2.1) E.2.2.2.1 (E.2.2.2.2.1 _ lkX0_31) (E.2.2.2.2.1 _ st_J9_min_7cf53) (E.2.2.2.2.1 _ ini_J9) (E.2.2.2.2.1 _ cd_J9_min_7cf53) hR.1 (by omega) (Nat.zero_le _) (Nat.zero_le _) d ?_
  have e : (if nI b < nI a then nI b else nI a) = nI (Nat.min a b) := by
    by_cases h : b < a
    · rw [if_pos (nI_lt h ha), show Nat.min a b = b from Nat.min_eq_right (by omega)]
    · rw [if_neg (nI_nlt (by omega) hb), show Nat.min a b = a from Nat.min_eq_left (by omega)]
  rw [e]
  exact kk E H locs ls w hl
end VMI
theorem c_X0_remember {g : Gl} {M : Mem} {a u : Nat} (hI : ∀ i, 102 ≤ i ∧ i ≤ 112 → i ∈ g.2.2.2.2) (ha : a < 8) (e3 : M 102 3 = nI a) (hu : u ≤ 8) (e1 : M 102 1 = nI u) : Ct g yX0_remember cX0_remember 1 none 2 [.ref (g.2.2.2.1 102)] M (fun v M' => v = none ∧ M' = mset (mset (aset M (105 + a) 0 9 (M 103)) 102 3 (nI ((a + 1) % 8))) 102 1 (nI (min (u + 1) 8))) := by
  have l5 : ial (105 + a) = 9 := by unfold ial; rw [if_pos (by omega), if_neg (by omega), if_neg (by omega), if_neg (by omega), if_neg (by omega), if_pos (by omega), if_neg (by omega)]
  refine Ct.ofV (by decide) (Nat.le_of_ble_eq_true rfl) (by simp [Value.category]) (fun κ => ?_)
  refine V.aload_n dX0_remember_0 rfl ?_
  refine V.getf (ci := 0) (k := 0) (C := RX0) (T := TX0) (N := 4) dX0_remember_1 lfX0_9 inX0 rfl (by first | assumption | exact hI _ (by omega)) rfl (by decide) rfl ?_
  refine V.aload_n dX0_remember_4 rfl ?_
  refine V.getf (ci := 0) (k := 2) (C := RX0) (T := TX0) (N := 4) dX0_remember_5 lfX0_21 inX0 rfl (by first | assumption | exact hI _ (by omega)) rfl (by decide) rfl ?_
  refine V.aload_n dX0_remember_8 rfl ?_
  refine V.getf (ci := 0) (k := 3) (C := RX0) (T := TX0) (N := 4) dX0_remember_9 lfX0_24 inX0 rfl (by first | assumption | exact hI _ (by omega)) rfl (by decide) rfl ?_
  rw [e3]
  refine V.aald (n := 8) (t := 2) dX0_remember_12 (by first | assumption | exact hI _ (by omega)) rfl rfl rfl (by decide) (by omega) ?_
  refine V.callSN dX0_remember_13 (c_X7_copy (hI 103 (by decide)) (hI (105 + a) (by omega)) rfl l5) nlX0_27 st_X7_copy cd_X7_copy ini_X7 hd_X7_copy ⟨Nat.le_of_ble_eq_true rfl, Nat.le_of_ble_eq_true rfl⟩ rfl (Nat.le_of_ble_eq_true rfl) (V.kkN ?_)
  refine V.aload_n dX0_remember_16 rfl ?_
  refine V.aload_n dX0_remember_17 rfl ?_
  refine V.getf (ci := 0) (k := 3) (C := RX0) (T := TX0) (N := 4) dX0_remember_18 lfX0_24 inX0 rfl (by first | assumption | exact hI _ (by omega)) rfl (by decide) rfl ?_
  rw [aset_ne (a := 102) (by omega), e3]
  refine V.iconst (v := nI 1) dX0_remember_21 rfl ?_
  first | refine V.iaddN dX0_remember_22 ?_ | refine V.iadd dX0_remember_22 ?_
  refine V.bipush (v := nI 8) dX0_remember_23 (by decide) ?_
  first | refine V.iremN dX0_remember_25 (by omega) (by omega) (by omega) ?_ | refine V.irem dX0_remember_25 (by decide) ?_
  refine V.putf (ci := 0) (k := 3) (C := RX0) (T := TX0) (N := 4) (ty := .int) tyX0 dX0_remember_26 lfX0_24 inX0 tyX0_ok nmX0 rfl (by first | assumption | exact hI _ (by omega)) rfl (by decide) rfl rfl rfl rfl (Nat.le_of_ble_eq_true rfl) rfl ?_
  refine V.aload_n dX0_remember_29 rfl ?_
  refine V.aload_n dX0_remember_30 rfl ?_
  refine V.getf (ci := 0) (k := 1) (C := RX0) (T := TX0) (N := 4) dX0_remember_31 lfX0_15 inX0 rfl (by first | assumption | exact hI _ (by omega)) rfl (by decide) rfl ?_
  rw [mset_nat (by decide), aset_ne (a := 102) (by omega), e1]
  refine V.iconst (v := nI 1) dX0_remember_34 rfl ?_
  first | refine V.iaddN dX0_remember_35 ?_ | refine V.iadd dX0_remember_35 ?_
  refine V.bipush (v := nI 8) dX0_remember_36 (by decide) ?_
  refine V.min dX0_remember_38 rfl (by omega) (by omega) ⟨Nat.le_of_ble_eq_true rfl, Nat.le_of_ble_eq_true rfl⟩ (Nat.le_of_ble_eq_true rfl) ?_
  refine V.putf (ci := 0) (k := 1) (C := RX0) (T := TX0) (N := 4) (ty := .int) tyX0 dX0_remember_41 lfX0_15 inX0 tyX0_ok nmX0 rfl (by first | assumption | exact hI _ (by omega)) rfl (by decide) rfl rfl rfl rfl (Nat.le_of_ble_eq_true rfl) rfl ?_
  refine V.vret dX0_remember_44 ?_
  exact ⟨rfl, rfl⟩
theorem c_X0_restore_0 {g : Gl} {M : Mem} (hI : ∀ i, 102 ≤ i ∧ i ≤ 112 → i ∈ g.2.2.2.2) (e1 : M 102 1 = nI 0) : Ct g yX0_restore cX0_restore 1 (some .boolean) 2 [.ref (g.2.2.2.1 102)] M (fun v M' => v = some (.int (nI 0)) ∧ M' = M) := by
  refine Ct.ofV (by decide) (Nat.le_of_ble_eq_true rfl) (by simp [Value.category]) (fun κ => ?_)
  refine V.aload_n dX0_restore_0 rfl ?_
  refine V.getf (ci := 0) (k := 1) (C := RX0) (T := TX0) (N := 4) dX0_restore_1 lfX0_15 inX0 rfl (by first | assumption | exact hI _ (by omega)) rfl (by decide) rfl ?_
  rw [e1]
  refine V.if_neN (tgt := 9) dX0_restore_4 (by decide) (by omega) (fun h1 => ?_) (fun h1 => ?_)
  · omega
  · refine V.iconst (v := nI 0) dX0_restore_7 rfl ?_
    refine V.zret dX0_restore_8 rfl ?_
    exact ⟨rfl, rfl⟩
theorem c_X0_restore_1 {g : Gl} {M : Mem} {a u : Nat} (hI : ∀ i, 102 ≤ i ∧ i ≤ 112 → i ∈ g.2.2.2.2) (ha : a < 8) (e3 : M 102 3 = nI a) (hu : u ≤ 7) (e1 : M 102 1 = nI (u + 1)) : Ct g yX0_restore cX0_restore 1 (some .boolean) 2 [.ref (g.2.2.2.1 102)] M (fun v M' => v = some (.int (nI 1)) ∧ M' = aset (mset (mset M 102 3 (nI ((a + 7) % 8))) 102 1 (nI u)) 103 0 9 (M (105 + (a + 7) % 8))) := by
  have hq : (a + 7) % 8 < 8 := Nat.mod_lt _ (by decide)
  have l5 : ial (105 + (a + 7) % 8) = 9 := by unfold ial; rw [if_pos (by omega), if_neg (by omega), if_neg (by omega), if_neg (by omega), if_neg (by omega), if_pos (by omega), if_neg (by omega)]
  refine Ct.ofV (by decide) (Nat.le_of_ble_eq_true rfl) (by simp [Value.category]) (fun κ => ?_)
  refine V.aload_n dX0_restore_0 rfl ?_
  refine V.getf (ci := 0) (k := 1) (C := RX0) (T := TX0) (N := 4) dX0_restore_1 lfX0_15 inX0 rfl (by first | assumption | exact hI _ (by omega)) rfl (by decide) rfl ?_
  rw [e1]
  refine V.if_neN (tgt := 9) dX0_restore_4 (by decide) (by omega) (fun h1 => ?_) (fun h1 => ?_)
  · refine V.aload_n dX0_restore_9 rfl ?_
    refine V.aload_n dX0_restore_10 rfl ?_
    refine V.getf (ci := 0) (k := 3) (C := RX0) (T := TX0) (N := 4) dX0_restore_11 lfX0_24 inX0 rfl (by first | assumption | exact hI _ (by omega)) rfl (by decide) rfl ?_
    rw [e3]
    refine V.bipush (v := nI 8) dX0_restore_14 (by decide) ?_
    first | refine V.iaddN dX0_restore_16 ?_ | refine V.iadd dX0_restore_16 ?_
    refine V.iconst (v := nI 1) dX0_restore_17 rfl ?_
    first | refine V.isubN dX0_restore_18 (by omega) ?_ | refine V.isub dX0_restore_18 ?_
    refine V.bipush (v := nI 8) dX0_restore_19 (by decide) ?_
    first | refine V.iremN dX0_restore_21 (by omega) (by omega) (by omega) ?_ | refine V.irem dX0_restore_21 (by decide) ?_
    refine V.putf (ci := 0) (k := 3) (C := RX0) (T := TX0) (N := 4) (ty := .int) tyX0 dX0_restore_22 lfX0_24 inX0 tyX0_ok nmX0 rfl (by first | assumption | exact hI _ (by omega)) rfl (by decide) rfl rfl rfl rfl (Nat.le_of_ble_eq_true rfl) rfl ?_
    refine V.aload_n dX0_restore_25 rfl ?_
    refine V.dup dX0_restore_26 rfl ?_
    refine V.getf (ci := 0) (k := 1) (C := RX0) (T := TX0) (N := 4) dX0_restore_27 lfX0_15 inX0 rfl (by first | assumption | exact hI _ (by omega)) rfl (by decide) rfl ?_
    rw [mset_nat (by decide), e1]
    refine V.iconst (v := nI 1) dX0_restore_30 rfl ?_
    first | refine V.isubN dX0_restore_31 (by omega) ?_ | refine V.isub dX0_restore_31 ?_
    refine V.putf (ci := 0) (k := 1) (C := RX0) (T := TX0) (N := 4) (ty := .int) tyX0 dX0_restore_32 lfX0_15 inX0 tyX0_ok nmX0 rfl (by first | assumption | exact hI _ (by omega)) rfl (by decide) rfl rfl rfl rfl (Nat.le_of_ble_eq_true rfl) rfl ?_
    refine V.aload_n dX0_restore_35 rfl ?_
    refine V.getf (ci := 0) (k := 2) (C := RX0) (T := TX0) (N := 4) dX0_restore_36 lfX0_21 inX0 rfl (by first | assumption | exact hI _ (by omega)) rfl (by decide) rfl ?_
    refine V.aload_n dX0_restore_39 rfl ?_
    refine V.getf (ci := 0) (k := 3) (C := RX0) (T := TX0) (N := 4) dX0_restore_40 lfX0_24 inX0 rfl (by first | assumption | exact hI _ (by omega)) rfl (by decide) rfl ?_
    rw [mset_nat (by decide), mset_at, show a + 8 - 1 = a + 7 by omega, show u + 1 - 1 = u by omega]
    refine V.aald (n := 8) (t := 2) dX0_restore_43 (by first | assumption | exact hI _ (by omega)) rfl rfl rfl (by decide) (by omega) ?_
    refine V.aload_n dX0_restore_44 rfl ?_
    refine V.getf (ci := 0) (k := 0) (C := RX0) (T := TX0) (N := 4) dX0_restore_45 lfX0_9 inX0 rfl (by first | assumption | exact hI _ (by omega)) rfl (by decide) rfl ?_
    refine V.callSN dX0_restore_48 (c_X7_copy (hI (105 + (a + 7) % 8) (by omega)) (hI 103 (by decide)) l5 rfl) nlX0_27 st_X7_copy cd_X7_copy ini_X7 hd_X7_copy ⟨Nat.le_of_ble_eq_true rfl, Nat.le_of_ble_eq_true rfl⟩ rfl (Nat.le_of_ble_eq_true rfl) (V.kkN ?_)
    refine V.iconst (v := nI 1) dX0_restore_51 rfl ?_
    refine V.zret dX0_restore_52 rfl ?_
    exact ⟨rfl, by rw [mset_ne (by omega), mset_ne (by omega)]⟩
  · omega
theorem c_X0_forget {g : Gl} {M : Mem} (hI : ∀ i, 102 ≤ i ∧ i ≤ 112 → i ∈ g.2.2.2.2) : Ct g yX0_forget cX0_forget 1 none 0 [.ref (g.2.2.2.1 102)] M (fun v M' => v = none ∧ M' = mset M 102 1 (nI 0)) := by
  refine Ct.ofV (by decide) (Nat.le_of_ble_eq_true rfl) (by simp [Value.category]) (fun κ => ?_)
  refine V.aload_n dX0_forget_0 rfl ?_
  refine V.iconst (v := nI 0) dX0_forget_1 rfl ?_
  refine V.putf (ci := 0) (k := 1) (C := RX0) (T := TX0) (N := 4) (ty := .int) tyX0 dX0_forget_2 lfX0_15 inX0 tyX0_ok nmX0 rfl (by first | assumption | exact hI _ (by omega)) rfl (by decide) rfl rfl rfl rfl (Nat.le_of_ble_eq_true rfl) rfl ?_
  refine V.vret dX0_forget_5 ?_
  exact ⟨rfl, rfl⟩
theorem c_X0_hasTopPower {g : Gl} {M : Mem} (hI : ∀ i, 102 ≤ i ∧ i ≤ 112 → i ∈ g.2.2.2.2) : Ct g yX0_hasTopPower cX0_hasTopPower 1 (some .boolean) 0 [.ref (g.2.2.2.1 102)] M (fun v M' => v = some (.int (nI (decide (¬ M 103 8 = 0)).toNat)) ∧ M' = M) := by
  refine Ct.ofV (by decide) (Nat.le_of_ble_eq_true rfl) (by simp [Value.category]) (fun κ => ?_)
  refine V.aload_n dX0_hasTopPower_0 rfl ?_
  refine V.getf (ci := 0) (k := 0) (C := RX0) (T := TX0) (N := 4) dX0_hasTopPower_1 lfX0_9 inX0 rfl (by first | assumption | exact hI _ (by omega)) rfl (by decide) rfl ?_
  refine V.bipush (v := nI 8) dX0_hasTopPower_4 (by decide) ?_
  refine V.iald (n := 9) dX0_hasTopPower_6 (by first | assumption | exact hI _ (by omega)) (by first | assumption | decide) (by omega) ?_
  refine V.if_eq (tgt := 14) dX0_hasTopPower_7 (by decide) (fun h1 => ?_) (fun h1 => ?_)
  · refine V.iconst (v := nI 0) dX0_hasTopPower_14 rfl ?_
    refine V.zret dX0_hasTopPower_15 rfl ?_
    exact ⟨by simp [h1], rfl⟩
  · refine V.iconst (v := nI 1) dX0_hasTopPower_10 rfl ?_
    refine V.goto (tgt := 15) dX0_hasTopPower_11 (by decide) ?_
    refine V.zret dX0_hasTopPower_15 rfl ?_
    exact ⟨by simp [h1], rfl⟩
abbrev v_X0_degree (g : Gl) (κ : Ka) (Q : State → Prop) (M : Mem) (pc : Nat) (L : List (Option Value)) (st : List Value) : Prop := V g cX0_degree 2 yX0_degree.cls (some .int) (rmd 0) Q κ M pc L st
theorem c_X0_degree {g : Gl} {M : Mem} (hI : ∀ i, 102 ≤ i ∧ i ≤ 112 → i ∈ g.2.2.2.2) : Ct g yX0_degree cX0_degree 2 (some .int) 0 [.ref (g.2.2.2.1 102)] M (fun v M' => v = some (.int (fdeg (M 103) 9)) ∧ M' = M) := by
  refine Ct.ofV (by decide) (Nat.le_of_ble_eq_true rfl) (by simp [Value.category]) (fun κ => ?_)
  refine V.bipush (v := nI 8) dX0_degree_0 (by decide) ?_
  refine V.istore_n dX0_degree_2 (by decide) ?_
  have lp := dn_loop (fun k => k ≤ 9 → fdeg (M 103) k = fdeg (M 103) 9 → v_X0_degree g κ (Qm g κ (fun v M' => v = some (.int (fdeg (M 103) 9)) ∧ M' = M)) M 3 [some (.ref (g.2.2.2.1 102)), some (.int (nI k - 1))] []) (fun k ih hk he => ?_) 9 (by omega) rfl
  · exact lp
  · refine V.iload_n dX0_degree_3 rfl ?_
    refine V.if_ltD (tgt := 24) dX0_degree_4 (by decide) (by omega) (fun h1 => ?_) (fun j h1 => ?_)
    · subst h1
      refine V.iconst (v := -1) dX0_degree_24 rfl ?_
      refine V.iret dX0_degree_25 ?_
      exact ⟨by rw [← he]; rfl, rfl⟩
    · subst h1
      have u : fdeg (M 103) (j + 1) = if M 103 j = 0 then fdeg (M 103) j else nI j := rfl
      rw [u] at he
      rw [nI_pred]
      refine V.aload_n dX0_degree_7 rfl ?_
      refine V.getf (ci := 0) (k := 0) (C := RX0) (T := TX0) (N := 4) dX0_degree_8 lfX0_9 inX0 rfl (by first | assumption | exact hI _ (by omega)) rfl (by decide) rfl ?_
      refine V.iload_n dX0_degree_11 rfl ?_
      refine V.iald (n := 9) dX0_degree_12 (by first | assumption | exact hI _ (by omega)) (by first | assumption | decide) (by omega) ?_
      refine V.if_eq (tgt := 18) dX0_degree_13 (by decide) (fun h3 => ?_) (fun h3 => ?_)
      · rw [if_pos h3] at he
        refine V.iincD dX0_degree_18 (by decide) rfl ?_
        refine V.goto (tgt := 3) dX0_degree_21 (by decide) ?_
        exact ih j rfl (by omega) he
      · rw [if_neg h3] at he
        refine V.iload_n dX0_degree_16 rfl ?_
        refine V.iret dX0_degree_17 ?_
        exact ⟨by rw [he], rfl⟩
abbrev v_X0_size (g : Gl) (κ : Ka) (Q : State → Prop) (M : Mem) (pc : Nat) (L : List (Option Value)) (st : List Value) : Prop := V g cX0_size 3 yX0_size.cls (some .int) (rmd 0) Q κ M pc L st
theorem c_X0_size {g : Gl} {M : Mem} (hI : ∀ i, 102 ≤ i ∧ i ≤ 112 → i ∈ g.2.2.2.2) : Ct g yX0_size cX0_size 3 (some .int) 0 [.ref (g.2.2.2.1 102)] M (fun v M' => v = some (.int (nI (fsz (M 103) 9))) ∧ M' = M) := by
  refine Ct.ofV (by decide) (Nat.le_of_ble_eq_true rfl) (by simp [Value.category]) (fun κ => ?_)
  refine V.iconst (v := nI 0) dX0_size_0 rfl ?_
  refine V.istore_n dX0_size_1 (by decide) ?_
  refine V.iconst (v := nI 0) dX0_size_2 rfl ?_
  refine V.istore_n dX0_size_3 (by decide) ?_
  have lp := up_loop 9 (fun j => v_X0_size g κ (Qm g κ (fun v M' => v = some (.int (nI (fsz (M 103) 9))) ∧ M' = M)) M 4 [some (.ref (g.2.2.2.1 102)), some (.int (nI (fsz (M 103) j))), some (.int (nI j))] []) (fun j hj ih => ?_) 0 (by omega)
  · exact lp
  · refine V.iload_n dX0_size_4 rfl ?_
    refine V.bipush (v := nI 9) dX0_size_5 (by decide) ?_
    refine V.geN (tgt := 28) dX0_size_7 (by decide) (by omega) (by omega) (fun h1 => ?_) (fun h1 => ?_)
    · have e : j = 9 := by omega
      subst e
      refine V.iload_n dX0_size_28 rfl ?_
      refine V.iret dX0_size_29 ?_
      exact ⟨rfl, rfl⟩
    · have u : fsz (M 103) (j + 1) = if M 103 j = 0 then fsz (M 103) j else fsz (M 103) j + 1 := rfl
      rw [u] at ih
      refine V.aload_n dX0_size_10 rfl ?_
      refine V.getf (ci := 0) (k := 0) (C := RX0) (T := TX0) (N := 4) dX0_size_11 lfX0_9 inX0 rfl (by first | assumption | exact hI _ (by omega)) rfl (by decide) rfl ?_
      refine V.iload_n dX0_size_14 rfl ?_
      refine V.iald (n := 9) dX0_size_15 (by first | assumption | exact hI _ (by omega)) (by first | assumption | decide) (by omega) ?_
      refine V.if_eq (tgt := 22) dX0_size_16 (by decide) (fun h3 => ?_) (fun h3 => ?_)
      · rw [if_pos h3] at ih
        refine V.iincN dX0_size_22 (by decide) rfl ?_
        refine V.goto (tgt := 4) dX0_size_25 (by decide) ?_
        exact ih (by omega)
      · rw [if_neg h3] at ih
        refine V.iincN dX0_size_19 (by decide) rfl ?_
        refine V.iincN dX0_size_22 (by decide) rfl ?_
        refine V.goto (tgt := 4) dX0_size_25 (by decide) ?_
        exact ih (by omega)

