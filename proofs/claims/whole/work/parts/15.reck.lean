/-! ===== Reckoner ===== -/
theorem and1 {e : Nat} (he : e < 2 ^ 31) : nI e &&& nI 1 = nI (e % 2) := pk_andN (by omega) 1 (by decide)
theorem shr1 {e : Nat} (he : e < 2 ^ 31) : nI e >>> (nI 1 &&& 31) = nI (e / 2) := pk_shrN he _ 1 (by decide)
abbrev v_X2_inverse (g : Gl) (κ : Ka) (Q : State → Prop) (M : Mem) (pc : Nat) (L : List (Option Value)) (st : List Value) : Prop := V g cX2_inverse 4 yX2_inverse.cls (some .int) (rmd 0) Q κ M pc L st
theorem c_X2_inverse {g : Gl} {M : Mem} {x : Int32} : Ct g yX2_inverse cX2_inverse 4 (some .int) 0 [.int x] M (fun v M' => v = some (.int (finv x)) ∧ M' = M) := by
  refine Ct.ofV (by decide) (Nat.le_of_ble_eq_true rfl) (by simp [Value.category]) (fun κ => ?_)
  refine V.iconst (v := nI 1) dX2_inverse_0 rfl ?_
  refine V.istore_n dX2_inverse_1 (by decide) ?_
  refine V.iload_n dX2_inverse_2 rfl ?_
  refine V.istore_n dX2_inverse_3 (by decide) ?_
  refine V.sipush (v := nI 9971) dX2_inverse_4 (by decide) ?_
  refine V.istore_n dX2_inverse_7 (by decide) ?_
  have lp : ∀ (n e : Nat) (r s : Int32), e < 2 ^ n → n ≤ 14 → pwl n e r s = finv x → v_X2_inverse g κ (Qm g κ (fun v M' => v = some (.int (finv x)) ∧ M' = M)) M 8 [some (.int x), some (.int r), some (.int s), some (.int (nI e))] [] := by
    intro n
    induction n with
    | zero =>
      intro e r s h0 hn hp
      have he : e = 0 := by omega
      subst he
      refine V.iload_n dX2_inverse_8 rfl ?_
      refine V.if_leN (tgt := 42) dX2_inverse_9 (by decide) (by omega) (fun h1 => ?_) (fun h1 => ?_)
      · refine V.iload_n dX2_inverse_42 rfl ?_
        refine V.iret dX2_inverse_43 ?_
        exact ⟨by rw [← hp]; rfl, rfl⟩
      · omega
    | succ n ih =>
      intro e r s h0 hn hp
      have hb : e < 2 ^ 31 := Nat.lt_of_lt_of_le h0 (Nat.pow_le_pow_right (by decide) (by omega))
      refine V.iload_n dX2_inverse_8 rfl ?_
      refine V.if_leN (tgt := 42) dX2_inverse_9 (by decide) (by omega) (fun h1 => ?_) (fun h1 => ?_)
      · refine V.iload_n dX2_inverse_42 rfl ?_
        refine V.iret dX2_inverse_43 ?_
        exact ⟨by rw [← hp, pwl, if_pos h1], rfl⟩
      · rw [pwl, if_neg (by omega)] at hp
        have h2 : e / 2 < 2 ^ n := by rw [Nat.pow_succ] at h0; omega
        refine V.iload_n dX2_inverse_12 rfl ?_
        refine V.iconst (v := nI 1) dX2_inverse_13 rfl ?_
        refine V.iand dX2_inverse_14 ?_
        rw [and1 hb]
        refine V.iconst (v := nI 1) dX2_inverse_15 rfl ?_
        refine V.neN (tgt := 27) dX2_inverse_16 (by decide) (by omega) (by omega) (fun h3 => ?_) (fun h3 => ?_)
        · rw [if_neg h3] at hp
          refine V.iload_n dX2_inverse_27 rfl ?_
          refine V.iload_n dX2_inverse_28 rfl ?_
          refine V.imul dX2_inverse_29 ?_
          refine V.sipush (v := nI 9973) dX2_inverse_30 (by decide) ?_
          first | refine V.iremN dX2_inverse_33 (by omega) (by omega) (by omega) ?_ | refine V.irem dX2_inverse_33 (by decide) ?_
          refine V.istore_n dX2_inverse_34 (by decide) ?_
          refine V.iload_n dX2_inverse_35 rfl ?_
          refine V.iconst (v := nI 1) dX2_inverse_36 rfl ?_
          refine V.ishr dX2_inverse_37 ?_
          rw [shr1 hb]
          refine V.istore_n dX2_inverse_38 (by decide) ?_
          refine V.goto (tgt := 8) dX2_inverse_39 (by decide) ?_
          exact ih (e / 2) r _ h2 (by omega) hp
        · rw [if_pos h3] at hp
          refine V.iload_n dX2_inverse_19 rfl ?_
          refine V.iload_n dX2_inverse_20 rfl ?_
          refine V.imul dX2_inverse_21 ?_
          refine V.sipush (v := nI 9973) dX2_inverse_22 (by decide) ?_
          first | refine V.iremN dX2_inverse_25 (by omega) (by omega) (by omega) ?_ | refine V.irem dX2_inverse_25 (by decide) ?_
          refine V.istore_n dX2_inverse_26 (by decide) ?_
          refine V.iload_n dX2_inverse_27 rfl ?_
          refine V.iload_n dX2_inverse_28 rfl ?_
          refine V.imul dX2_inverse_29 ?_
          refine V.sipush (v := nI 9973) dX2_inverse_30 (by decide) ?_
          first | refine V.iremN dX2_inverse_33 (by omega) (by omega) (by omega) ?_ | refine V.irem dX2_inverse_33 (by decide) ?_
          refine V.istore_n dX2_inverse_34 (by decide) ?_
          refine V.iload_n dX2_inverse_35 rfl ?_
          refine V.iconst (v := nI 1) dX2_inverse_36 rfl ?_
          refine V.ishr dX2_inverse_37 ?_
          rw [shr1 hb]
          refine V.istore_n dX2_inverse_38 (by decide) ?_
          refine V.goto (tgt := 8) dX2_inverse_39 (by decide) ?_
          exact ih (e / 2) _ _ h2 (by omega) hp
  exact lp 14 9971 _ _ (by decide) (by decide) rfl
abbrev v_X4_multiply (g : Gl) (κ : Ka) (Q : State → Prop) (M : Mem) (pc : Nat) (L : List (Option Value)) (st : List Value) : Prop := V g cX4_multiply 7 yX4_multiply.cls none (rmd 1) Q κ M pc L st
theorem c_X4_multiply {g : Gl} {M : Mem} {i a b : Nat} (hi : i ∈ g.2.2.2.2) (li : ial i = 9) (ha : a ∈ g.2.2.2.2) (la : ial a = 9) (hb : b ∈ g.2.2.2.2) (lb : ial b = 9) : Ct g yX4_multiply cX4_multiply 7 none 1 [.ref (g.2.2.2.1 1), .ref (g.2.2.2.1 i), .ref (g.2.2.2.1 a), .ref (g.2.2.2.1 b)] M (fun v M' => v = none ∧ M' = aset M i 0 9 (fprod (M a) (M b))) := by
  refine Ct.ofV (by decide) (Nat.le_of_ble_eq_true rfl) (by simp [Value.category]) (fun κ => ?_)
  refine V.bipush (v := nI 8) dX4_multiply_0 (by decide) ?_
  refine V.istore dX4_multiply_2 (by decide) ?_
  have lp := dn_loop (fun k => k ≤ 9 → ∀ x5 x6, v_X4_multiply g κ (Qm g κ (fun v M' => v = none ∧ M' = aset M i 0 9 (fprod (M a) (M b)))) (aset M i k 9 (fprod (M a) (M b))) 4 [some (.ref (g.2.2.2.1 1)), some (.ref (g.2.2.2.1 i)), some (.ref (g.2.2.2.1 a)), some (.ref (g.2.2.2.1 b)), some (.int (nI k - 1)), x5, x6] []) (fun k ih hk x5 x6 => ?_) 9 (by omega) none none
  · rw [aset_nil (Nat.le_refl 9)] at lp
    exact lp
  · refine V.iload dX4_multiply_4 rfl ?_
    refine V.if_ltD (tgt := 61) dX4_multiply_6 (by decide) (by omega) (fun h1 => ?_) (fun j h1 => ?_)
    · subst h1
      refine V.vret dX4_multiply_61 ?_
      exact ⟨rfl, rfl⟩
    · subst h1
      rw [nI_pred]
      refine V.iconst (v := nI 0) dX4_multiply_9 rfl ?_
      refine V.istore dX4_multiply_10 (by decide) ?_
      refine V.iconst (v := nI 0) dX4_multiply_12 rfl ?_
      refine V.istore dX4_multiply_13 (by decide) ?_
      refine up_loop (j + 1) (fun q => v_X4_multiply g κ (Qm g κ (fun v M' => v = none ∧ M' = aset M i 0 9 (fprod (M a) (M b)))) (aset M i (j + 1) 9 (fprod (M a) (M b))) 15 [some (.ref (g.2.2.2.1 1)), some (.ref (g.2.2.2.1 i)), some (.ref (g.2.2.2.1 a)), some (.ref (g.2.2.2.1 b)), some (.int (nI j)), some (.int (cvl (M a) (M b) j q)), some (.int (nI q))] []) (fun q hq iq => ?_) 0 (by omega)
      refine V.iload dX4_multiply_15 rfl ?_
      refine V.iload dX4_multiply_17 rfl ?_
      refine V.gtN (tgt := 49) dX4_multiply_19 (by decide) (by omega) (by omega) (fun h2 => ?_) (fun h2 => ?_)
      · have e : q = j + 1 := by omega
        subst e
        refine V.aload_n dX4_multiply_49 rfl ?_
        refine V.iload dX4_multiply_50 rfl ?_
        refine V.iload dX4_multiply_52 rfl ?_
        refine V.iast (n := 9) dX4_multiply_54 (by first | assumption | exact hI _ (by omega)) (by first | assumption | decide) (by omega) ?_
        refine V.iincD dX4_multiply_55 (by decide) rfl ?_
        refine V.goto (tgt := 4) dX4_multiply_58 (by decide) ?_
        rw [aset_dn (f := fprod (M a) (M b)) (by omega) (show cvl (M a) (M b) j (j + 1) = fprod (M a) (M b) j from rfl)]
        exact ih j rfl (by omega) _ _
      · refine V.iload dX4_multiply_22 rfl ?_
        refine V.aload_n dX4_multiply_24 rfl ?_
        refine V.iload dX4_multiply_25 rfl ?_
        refine V.iald (n := 9) dX4_multiply_27 (by first | assumption | exact hI _ (by omega)) (by first | assumption | decide) (by omega) ?_
        refine V.aload_n dX4_multiply_28 rfl ?_
        refine V.iload dX4_multiply_29 rfl ?_
        refine V.iload dX4_multiply_31 rfl ?_
        first | refine V.isubN dX4_multiply_33 (by omega) ?_ | refine V.isub dX4_multiply_33 ?_
        refine V.iald (n := 9) dX4_multiply_34 (by first | assumption | exact hI _ (by omega)) (by first | assumption | decide) (by omega) ?_
        refine V.callS dX4_multiply_35 (c_X2_multiply) lkX4_42 st_X2_multiply cd_X2_multiply ini_X2 hd_X2_multiply ⟨Nat.le_of_ble_eq_true rfl, Nat.le_of_ble_eq_true rfl⟩ rfl (Nat.le_of_ble_eq_true rfl) (V.kkF ?_)
        refine V.callS dX4_multiply_38 (c_X2_add) lkX4_49 st_X2_add cd_X2_add ini_X2 hd_X2_add ⟨Nat.le_of_ble_eq_true rfl, Nat.le_of_ble_eq_true rfl⟩ rfl (Nat.le_of_ble_eq_true rfl) (V.kkF ?_)
        refine V.istore dX4_multiply_41 (by decide) ?_
        refine V.iincN dX4_multiply_43 (by decide) rfl ?_
        refine V.goto (tgt := 15) dX4_multiply_46 (by decide) ?_
        rw [aset_lo (by omega), aset_lo (by omega)]
        exact iq (by omega)
abbrev v_X4_divide (g : Gl) (κ : Ka) (Q : State → Prop) (M : Mem) (pc : Nat) (L : List (Option Value)) (st : List Value) : Prop := V g cX4_divide 8 yX4_divide.cls none (rmd 1) Q κ M pc L st
theorem c_X4_divide {g : Gl} {M : Mem} {i a b : Nat} (hi : i ∈ g.2.2.2.2) (li : ial i = 9) (ha : a ∈ g.2.2.2.2) (la : ial a = 9) (hb : b ∈ g.2.2.2.2) (lb : ial b = 9) (hne : i ≠ b) : Ct g yX4_divide cX4_divide 8 none 1 [.ref (g.2.2.2.1 1), .ref (g.2.2.2.1 i), .ref (g.2.2.2.1 a), .ref (g.2.2.2.1 b)] M (fun v M' => v = none ∧ M' = aset M i 0 9 (fdiv (M a) (M b))) := by
  refine Ct.ofV (by decide) (Nat.le_of_ble_eq_true rfl) (by simp [Value.category]) (fun κ => ?_)
  refine V.aload_n dX4_divide_0 rfl ?_
  refine V.iconst (v := nI 0) dX4_divide_1 rfl ?_
  refine V.iald (n := 9) dX4_divide_2 (by first | assumption | exact hI _ (by omega)) (by first | assumption | decide) (by omega) ?_
  refine V.callS dX4_divide_3 (c_X2_inverse) lkX4_36 st_X2_inverse cd_X2_inverse ini_X2 hd_X2_inverse ⟨Nat.le_of_ble_eq_true rfl, Nat.le_of_ble_eq_true rfl⟩ rfl (Nat.le_of_ble_eq_true rfl) (V.kkF ?_)
  refine V.istore dX4_divide_6 (by decide) ?_
  refine V.iconst (v := nI 0) dX4_divide_8 rfl ?_
  refine V.istore dX4_divide_9 (by decide) ?_
  have lp := up_loop 9 (fun n => ∀ x6 x7, v_X4_divide g κ (Qm g κ (fun v M' => v = none ∧ M' = aset M i 0 9 (fdiv (M a) (M b)))) (aset M i 0 n (fdiv (M a) (M b))) 11 [some (.ref (g.2.2.2.1 1)), some (.ref (g.2.2.2.1 i)), some (.ref (g.2.2.2.1 a)), some (.ref (g.2.2.2.1 b)), some (.int (finv (M b 0))), some (.int (nI n)), x6, x7] []) (fun n hn ih x6 x7 => ?_) 0 (by omega) none none
  · rw [aset_nil (Nat.le_refl 0)] at lp
    exact lp
  · refine V.iload dX4_divide_11 rfl ?_
    refine V.bipush (v := nI 9) dX4_divide_13 (by decide) ?_
    refine V.geN (tgt := 78) dX4_divide_15 (by decide) (by omega) (by omega) (fun h1 => ?_) (fun h1 => ?_)
    · have e : n = 9 := by omega
      subst e
      refine V.vret dX4_divide_78 ?_
      exact ⟨rfl, rfl⟩
    · refine V.aload_n dX4_divide_18 rfl ?_
      refine V.iload dX4_divide_19 rfl ?_
      refine V.iald (n := 9) dX4_divide_21 (by first | assumption | exact hI _ (by omega)) (by first | assumption | decide) (by omega) ?_
      rw [aset_hi (Nat.le_refl n)]
      refine V.istore dX4_divide_22 (by decide) ?_
      refine V.iconst (v := nI 1) dX4_divide_24 rfl ?_
      refine V.istore dX4_divide_25 (by decide) ?_
      have l2 := up_loop (n + 1) (fun q => 1 ≤ q → v_X4_divide g κ (Qm g κ (fun v M' => v = none ∧ M' = aset M i 0 9 (fdiv (M a) (M b)))) (aset M i 0 n (fdiv (M a) (M b))) 27 [some (.ref (g.2.2.2.1 1)), some (.ref (g.2.2.2.1 i)), some (.ref (g.2.2.2.1 a)), some (.ref (g.2.2.2.1 b)), some (.int (finv (M b 0))), some (.int (nI n)), some (.int (dl (fdiv (M a) (M b)) (M a) (M b) n (q - 1))), some (.int (nI q))] []) (fun q hq iq h0 => ?_) 1 (by omega) (by omega)
      · exact l2
      · refine V.iload dX4_divide_27 rfl ?_
        refine V.iload dX4_divide_29 rfl ?_
        refine V.gtN (tgt := 61) dX4_divide_31 (by decide) (by omega) (by omega) (fun h2 => ?_) (fun h2 => ?_)
        · have e : q = n + 1 := by omega
          subst e
          refine V.aload_n dX4_divide_61 rfl ?_
          refine V.iload dX4_divide_62 rfl ?_
          refine V.iload dX4_divide_64 rfl ?_
          refine V.iload dX4_divide_66 rfl ?_
          refine V.callS dX4_divide_68 (c_X2_multiply) lkX4_42 st_X2_multiply cd_X2_multiply ini_X2 hd_X2_multiply ⟨Nat.le_of_ble_eq_true rfl, Nat.le_of_ble_eq_true rfl⟩ rfl (Nat.le_of_ble_eq_true rfl) (V.kkF ?_)
          refine V.iast (n := 9) dX4_divide_71 (by first | assumption | exact hI _ (by omega)) (by first | assumption | decide) (by omega) ?_
          refine V.iincN dX4_divide_72 (by decide) rfl ?_
          refine V.goto (tgt := 11) dX4_divide_75 (by decide) ?_
          rw [aset_up (Nat.zero_le _) (by rw [fdiv_eq]; rfl)]
          exact ih (by omega) _ _
        · refine V.iload dX4_divide_34 rfl ?_
          refine V.aload_n dX4_divide_36 rfl ?_
          refine V.iload dX4_divide_37 rfl ?_
          refine V.iald (n := 9) dX4_divide_39 (by first | assumption | exact hI _ (by omega)) (by first | assumption | decide) (by omega) ?_
          refine V.aload_n dX4_divide_40 rfl ?_
          refine V.iload dX4_divide_41 rfl ?_
          refine V.iload dX4_divide_43 rfl ?_
          first | refine V.isubN dX4_divide_45 (by omega) ?_ | refine V.isub dX4_divide_45 ?_
          refine V.iald (n := 9) dX4_divide_46 (by first | assumption | exact hI _ (by omega)) (by first | assumption | decide) (by omega) ?_
          refine V.callS dX4_divide_47 (c_X2_multiply) lkX4_42 st_X2_multiply cd_X2_multiply ini_X2 hd_X2_multiply ⟨Nat.le_of_ble_eq_true rfl, Nat.le_of_ble_eq_true rfl⟩ rfl (Nat.le_of_ble_eq_true rfl) (V.kkF ?_)
          refine V.callS dX4_divide_50 (c_X2_subtract) lkX4_46 st_X2_subtract cd_X2_subtract ini_X2 hd_X2_subtract ⟨Nat.le_of_ble_eq_true rfl, Nat.le_of_ble_eq_true rfl⟩ rfl (Nat.le_of_ble_eq_true rfl) (V.kkF ?_)
          refine V.istore dX4_divide_53 (by decide) ?_
          refine V.iincN dX4_divide_55 (by decide) rfl ?_
          refine V.goto (tgt := 27) dX4_divide_58 (by decide) ?_
          rw [aset_ne (Ne.symm hne), aset_in (Nat.zero_le _) (by omega)]
          have e := iq (by omega) (by omega)
          rw [show q + 1 - 1 = (q - 1) + 1 by omega] at e
          simp only [dl] at e
          rw [show q - 1 + 1 = q by omega] at e
          exact e
theorem c_X4_overSeries {g : Gl} {M : Mem} {i b : Nat} (h1 : 1 ∈ g.2.2.2.2) (hi : i ∈ g.2.2.2.2) (li : ial i = 9) (hb : b ∈ g.2.2.2.2) (lb : ial b = 9) (hne : i ≠ b) : Ct g yX4_overSeries cX4_overSeries 3 none 2 [.ref (g.2.2.2.1 1), .ref (g.2.2.2.1 i), .ref (g.2.2.2.1 b)] M (fun v M' => v = none ∧ M' = aset M i 0 9 (fover (M b))) := by
  refine Ct.ofV (by decide) (Nat.le_of_ble_eq_true rfl) (by simp [Value.category]) (fun κ => ?_)
  refine V.aload_n dX4_overSeries_0 rfl ?_
  refine V.iconst (v := nI 0) dX4_overSeries_1 rfl ?_
  refine V.iconst (v := nI 1) dX4_overSeries_2 rfl ?_
  refine V.callSN dX4_overSeries_3 (c_X7_setMonomial (k := 0) hi li (by decide)) nlX4_52 st_X7_setMonomial cd_X7_setMonomial ini_X7 hd_X7_setMonomial ⟨Nat.le_of_ble_eq_true rfl, Nat.le_of_ble_eq_true rfl⟩ rfl (Nat.le_of_ble_eq_true rfl) (V.kkN ?_)
  refine V.aload_n dX4_overSeries_6 rfl ?_
  refine V.aload_n dX4_overSeries_7 rfl ?_
  refine V.aload_n dX4_overSeries_8 rfl ?_
  refine V.aload_n dX4_overSeries_9 rfl ?_
  refine V.callV (ci := 3) (T := TX4) (N := 8) dX4_overSeries_10 (c_X4_divide hi li hi li hb lb hne) lkX4_56 im_X4_divide se_X4_divide cd_X4_divide ini_X4 rfl (by first | assumption | exact hI _ (by omega)) rfl hd_X4_divide ⟨Nat.le_of_ble_eq_true rfl, Nat.le_of_ble_eq_true rfl⟩ rfl (Nat.le_of_ble_eq_true rfl) (V.kkN ?_)
  refine V.vret dX4_overSeries_13 ?_
  refine ⟨rfl, ?_⟩
  rw [aset_aset, aset_ne (Ne.symm hne)]
  exact aset_cg9 (fdiv_cg aset_9 eq9.rf)
abbrev v_X4_putInside (g : Gl) (κ : Ka) (Q : State → Prop) (M : Mem) (pc : Nat) (L : List (Option Value)) (st : List Value) : Prop := V g cX4_putInside 5 yX4_putInside.cls none (rmd 2) Q κ M pc L st
theorem c_X4_putInside {g : Gl} {M : Mem} {i a b : Nat} (hI : ∀ i, 1 ≤ i ∧ i ≤ 9 → i ∈ g.2.2.2.2) (hi : i ∈ g.2.2.2.2) (li : ial i = 9) (ha : a ∈ g.2.2.2.2) (la : ial a = 9) (hb : b ∈ g.2.2.2.2) (lb : ial b = 9) (ha6 : a ≠ 6) (hb6 : b ≠ 6) : Ct g yX4_putInside cX4_putInside 5 none 2 [.ref (g.2.2.2.1 1), .ref (g.2.2.2.1 i), .ref (g.2.2.2.1 a), .ref (g.2.2.2.1 b)] M (fun v M' => v = none ∧ M' = aset (aset M 6 0 9 (fput (M a) (M b))) i 0 9 (fput (M a) (M b))) := by
  refine Ct.ofV (by decide) (Nat.le_of_ble_eq_true rfl) (by simp [Value.category]) (fun κ => ?_)
  refine V.aload_n dX4_putInside_0 rfl ?_
  refine V.getf (ci := 3) (k := 4) (C := RX4) (T := TX4) (N := 8) dX4_putInside_1 lfX4_24 inX4 rfl (by first | assumption | exact hI _ (by omega)) rfl (by decide) rfl ?_
  refine V.iconst (v := nI 0) dX4_putInside_4 rfl ?_
  refine V.aload_n dX4_putInside_5 rfl ?_
  refine V.bipush (v := nI 8) dX4_putInside_6 (by decide) ?_
  refine V.iald (n := 9) dX4_putInside_8 (by first | assumption | exact hI _ (by omega)) (by first | assumption | decide) (by omega) ?_
  refine V.callSN dX4_putInside_9 (c_X7_setMonomial (k := 0) (hI 6 (by decide)) rfl (by decide)) nlX4_52 st_X7_setMonomial cd_X7_setMonomial ini_X7 hd_X7_setMonomial ⟨Nat.le_of_ble_eq_true rfl, Nat.le_of_ble_eq_true rfl⟩ rfl (Nat.le_of_ble_eq_true rfl) (V.kkN ?_)
  refine V.bipush (v := nI 7) dX4_putInside_12 (by decide) ?_
  refine V.istore dX4_putInside_14 (by decide) ?_
  have lp := dn_loop (fun k => k ≤ 8 → v_X4_putInside g κ (Qm g κ (fun v M' => v = none ∧ M' = aset (aset M 6 0 9 (fput (M a) (M b))) i 0 9 (fput (M a) (M b)))) (aset M 6 0 9 (pin (M a) (M b) (8 - k))) 16 [some (.ref (g.2.2.2.1 1)), some (.ref (g.2.2.2.1 i)), some (.ref (g.2.2.2.1 a)), some (.ref (g.2.2.2.1 b)), some (.int (nI k - 1))] []) (fun k ih hk => ?_) 8 (by omega)
  · exact lp
  · refine V.iload dX4_putInside_16 rfl ?_
    refine V.if_ltD (tgt := 59) dX4_putInside_18 (by decide) (by omega) (fun h1 => ?_) (fun j h1 => ?_)
    · subst h1
      refine V.aload_n dX4_putInside_59 rfl ?_
      refine V.getf (ci := 3) (k := 4) (C := RX4) (T := TX4) (N := 8) dX4_putInside_60 lfX4_24 inX4 rfl (by first | assumption | exact hI _ (by omega)) rfl (by decide) rfl ?_
      refine V.aload_n dX4_putInside_63 rfl ?_
      refine V.callSN dX4_putInside_64 (c_X7_copy (hI 6 (by decide)) hi rfl li) nlX4_62 st_X7_copy cd_X7_copy ini_X7 hd_X7_copy ⟨Nat.le_of_ble_eq_true rfl, Nat.le_of_ble_eq_true rfl⟩ rfl (Nat.le_of_ble_eq_true rfl) (V.kkN ?_)
      refine V.vret dX4_putInside_67 ?_
      exact ⟨rfl, aset_cg9 aset_9⟩
    · subst h1
      rw [nI_pred]
      refine V.aload_n dX4_putInside_21 rfl ?_
      refine V.aload_n dX4_putInside_22 rfl ?_
      refine V.getf (ci := 3) (k := 4) (C := RX4) (T := TX4) (N := 8) dX4_putInside_23 lfX4_24 inX4 rfl (by first | assumption | exact hI _ (by omega)) rfl (by decide) rfl ?_
      refine V.aload_n dX4_putInside_26 rfl ?_
      refine V.getf (ci := 3) (k := 4) (C := RX4) (T := TX4) (N := 8) dX4_putInside_27 lfX4_24 inX4 rfl (by first | assumption | exact hI _ (by omega)) rfl (by decide) rfl ?_
      refine V.aload_n dX4_putInside_30 rfl ?_
      refine V.callV (ci := 3) (T := TX4) (N := 8) dX4_putInside_31 (c_X4_multiply (hI 6 (by decide)) rfl (hI 6 (by decide)) rfl hb lb) lkX4_60 im_X4_multiply se_X4_multiply cd_X4_multiply ini_X4 rfl (by first | assumption | exact hI _ (by omega)) rfl hd_X4_multiply ⟨Nat.le_of_ble_eq_true rfl, Nat.le_of_ble_eq_true rfl⟩ rfl (Nat.le_of_ble_eq_true rfl) (V.kkN ?_)
      refine V.aload_n dX4_putInside_34 rfl ?_
      refine V.getf (ci := 3) (k := 4) (C := RX4) (T := TX4) (N := 8) dX4_putInside_35 lfX4_24 inX4 rfl (by first | assumption | exact hI _ (by omega)) rfl (by decide) rfl ?_
      refine V.iconst (v := nI 0) dX4_putInside_38 rfl ?_
      refine V.aload_n dX4_putInside_39 rfl ?_
      refine V.getf (ci := 3) (k := 4) (C := RX4) (T := TX4) (N := 8) dX4_putInside_40 lfX4_24 inX4 rfl (by first | assumption | exact hI _ (by omega)) rfl (by decide) rfl ?_
      refine V.iconst (v := nI 0) dX4_putInside_43 rfl ?_
      refine V.iald (n := 9) dX4_putInside_44 (by first | assumption | exact hI _ (by omega)) (by first | assumption | decide) (by omega) ?_
      refine V.aload_n dX4_putInside_45 rfl ?_
      refine V.iload dX4_putInside_46 rfl ?_
      refine V.iald (n := 9) dX4_putInside_48 (by first | assumption | exact hI _ (by omega)) (by first | assumption | decide) (by omega) ?_
      refine V.callS dX4_putInside_49 (c_X2_add) lkX4_49 st_X2_add cd_X2_add ini_X2 hd_X2_add ⟨Nat.le_of_ble_eq_true rfl, Nat.le_of_ble_eq_true rfl⟩ rfl (Nat.le_of_ble_eq_true rfl) (V.kkF ?_)
      refine V.iast (n := 9) dX4_putInside_52 (by first | assumption | exact hI _ (by omega)) (by first | assumption | decide) (by omega) ?_
      refine V.iincD dX4_putInside_53 (by decide) rfl ?_
      refine V.goto (tgt := 16) dX4_putInside_56 (by decide) ?_
      have e := ih j rfl (by omega)
      rw [show 8 - j = (8 - (j + 1)) + 1 by omega] at e
      have e2 : mset (aset (aset M 6 0 9 (pin (M a) (M b) (8 - (j + 1)))) 6 0 9 (fprod (aset M 6 0 9 (pin (M a) (M b) (8 - (j + 1))) 6) (aset M 6 0 9 (pin (M a) (M b) (8 - (j + 1))) b))) 6 0 (fadd (aset (aset M 6 0 9 (pin (M a) (M b) (8 - (j + 1)))) 6 0 9 (fprod (aset M 6 0 9 (pin (M a) (M b) (8 - (j + 1))) 6) (aset M 6 0 9 (pin (M a) (M b) (8 - (j + 1))) b)) 6 0) (aset (aset M 6 0 9 (pin (M a) (M b) (8 - (j + 1)))) 6 0 9 (fprod (aset M 6 0 9 (pin (M a) (M b) (8 - (j + 1))) 6) (aset M 6 0 9 (pin (M a) (M b) (8 - (j + 1))) b)) a j)) = aset M 6 0 9 (pin (M a) (M b) (8 - (j + 1) + 1)) := by
        rw [aset_aset, aset_ne hb6, aset_cg9 (fprod_cg aset_9 eq9.rf), aset_ne ha6, aset_in (Nat.zero_le _) (by decide)]
        funext x z
        simp only [pin, fad0, mset, aset]
        rw [show 7 - (8 - (j + 1)) = j by omega]
        by_cases hx : x = 6
        · subst hx
          by_cases hz : z = 0
          · subst hz; simp
          · simp [hz]
        · simp [hx]
      rw [← e2] at e
      exact e
abbrev v_X4_lower (g : Gl) (κ : Ka) (Q : State → Prop) (M : Mem) (pc : Nat) (L : List (Option Value)) (st : List Value) : Prop := V g cX4_lower 3 yX4_lower.cls none (rmd 0) Q κ M pc L st
theorem c_X4_lower {g : Gl} {M : Mem} {a : Nat} (hI : ∀ i, 1 ≤ i ∧ i ≤ 9 → i ∈ g.2.2.2.2) (ha : a ∈ g.2.2.2.2) (la : ial a = 9) (hne : a ≠ 7) : Ct g yX4_lower cX4_lower 3 none 0 [.ref (g.2.2.2.1 1), .ref (g.2.2.2.1 a)] M (fun v M' => v = none ∧ M' = aset M 7 0 9 (flow (M a))) := by
  refine Ct.ofV (by decide) (Nat.le_of_ble_eq_true rfl) (by simp [Value.category]) (fun κ => ?_)
  refine V.iconst (v := nI 0) dX4_lower_0 rfl ?_
  refine V.istore_n dX4_lower_1 (by decide) ?_
  have lp := up_loop 8 (fun j => v_X4_lower g κ (Qm g κ (fun v M' => v = none ∧ M' = aset M 7 0 9 (flow (M a)))) (aset M 7 0 j (flow (M a))) 2 [some (.ref (g.2.2.2.1 1)), some (.ref (g.2.2.2.1 a)), some (.int (nI j))] []) (fun j hj ih => ?_) 0 (by omega)
  · rw [aset_nil (Nat.le_refl 0)] at lp
    exact lp
  · refine V.iload_n dX4_lower_2 rfl ?_
    refine V.bipush (v := nI 8) dX4_lower_3 (by decide) ?_
    refine V.geN (tgt := 25) dX4_lower_5 (by decide) (by omega) (by omega) (fun h1 => ?_) (fun h1 => ?_)
    · have e : j = 8 := by omega
      subst e
      refine V.aload_n dX4_lower_25 rfl ?_
      refine V.getf (ci := 3) (k := 5) (C := RX4) (T := TX4) (N := 8) dX4_lower_26 lfX4_27 inX4 rfl (by first | assumption | exact hI _ (by omega)) rfl (by decide) rfl ?_
      refine V.bipush (v := nI 8) dX4_lower_29 (by decide) ?_
      refine V.iconst (v := nI 0) dX4_lower_31 rfl ?_
      refine V.iast (n := 9) dX4_lower_32 (by first | assumption | exact hI _ (by omega)) (by first | assumption | decide) (by omega) ?_
      refine V.vret dX4_lower_33 ?_
      exact ⟨rfl, aset_up (f := flow (M a)) (hi := 8) (by decide) rfl⟩
    · refine V.aload_n dX4_lower_8 rfl ?_
      refine V.getf (ci := 3) (k := 5) (C := RX4) (T := TX4) (N := 8) dX4_lower_9 lfX4_27 inX4 rfl (by first | assumption | exact hI _ (by omega)) rfl (by decide) rfl ?_
      refine V.iload_n dX4_lower_12 rfl ?_
      refine V.aload_n dX4_lower_13 rfl ?_
      refine V.iload_n dX4_lower_14 rfl ?_
      refine V.iconst (v := nI 1) dX4_lower_15 rfl ?_
      first | refine V.iaddN dX4_lower_16 ?_ | refine V.iadd dX4_lower_16 ?_
      refine V.iald (n := 9) dX4_lower_17 (by first | assumption | exact hI _ (by omega)) (by first | assumption | decide) (by omega) ?_
      refine V.iast (n := 9) dX4_lower_18 (by first | assumption | exact hI _ (by omega)) (by first | assumption | decide) (by omega) ?_
      refine V.iincN dX4_lower_19 (by decide) rfl ?_
      refine V.goto (tgt := 2) dX4_lower_22 (by decide) ?_
      rw [aset_up (f := flow (M a)) (hi := j) (Nat.zero_le _) (by rw [aset_ne hne]; unfold flow; rw [if_neg (by omega)])]
      exact ih (by omega)
abbrev v_X4_exponentialOf (g : Gl) (κ : Ka) (Q : State → Prop) (M : Mem) (pc : Nat) (L : List (Option Value)) (st : List Value) : Prop := V g cX4_exponentialOf 5 yX4_exponentialOf.cls none (rmd 1) Q κ M pc L st
theorem c_X4_exponentialOf {g : Gl} {M : Mem} {i : Nat} {a : Int32} (hI : ∀ i, 1 ≤ i ∧ i ≤ 9 → i ∈ g.2.2.2.2) (hi : i ∈ g.2.2.2.2) (li : ial i = 9) (hne : 2 ≠ i) : Ct g yX4_exponentialOf cX4_exponentialOf 5 none 1 [.ref (g.2.2.2.1 1), .ref (g.2.2.2.1 i), .int a] M (fun v M' => v = none ∧ M' = aset M i 0 9 (fexp (M 2) a)) := by
  refine Ct.ofV (by decide) (Nat.le_of_ble_eq_true rfl) (by simp [Value.category]) (fun κ => ?_)
  refine V.iconst (v := nI 1) dX4_exponentialOf_0 rfl ?_
  refine V.istore_n dX4_exponentialOf_1 (by decide) ?_
  refine V.iconst (v := nI 0) dX4_exponentialOf_2 rfl ?_
  refine V.istore dX4_exponentialOf_3 (by decide) ?_
  have lp := up_loop 9 (fun j => v_X4_exponentialOf g κ (Qm g κ (fun v M' => v = none ∧ M' = aset M i 0 9 (fexp (M 2) a))) (aset M i 0 j (fexp (M 2) a)) 5 [some (.ref (g.2.2.2.1 1)), some (.ref (g.2.2.2.1 i)), some (.int a), some (.int (fpows a j)), some (.int (nI j))] []) (fun j hj ih => ?_) 0 (by omega)
  · rw [aset_nil (Nat.le_refl 0)] at lp
    exact lp
  · refine V.iload dX4_exponentialOf_5 rfl ?_
    refine V.bipush (v := nI 9) dX4_exponentialOf_7 (by decide) ?_
    refine V.geN (tgt := 39) dX4_exponentialOf_9 (by decide) (by omega) (by omega) (fun h1 => ?_) (fun h1 => ?_)
    · have e : j = 9 := by omega
      subst e
      refine V.vret dX4_exponentialOf_39 ?_
      exact ⟨rfl, rfl⟩
    · refine V.aload_n dX4_exponentialOf_12 rfl ?_
      refine V.iload dX4_exponentialOf_13 rfl ?_
      refine V.iload_n dX4_exponentialOf_15 rfl ?_
      refine V.aload_n dX4_exponentialOf_16 rfl ?_
      refine V.getf (ci := 3) (k := 0) (C := RX4) (T := TX4) (N := 8) dX4_exponentialOf_17 lfX4_9 inX4 rfl (by first | assumption | exact hI _ (by omega)) rfl (by decide) rfl ?_
      refine V.iload dX4_exponentialOf_20 rfl ?_
      refine V.iald (n := 9) dX4_exponentialOf_22 (by first | assumption | exact hI _ (by omega)) (by first | assumption | decide) (by omega) ?_
      refine V.callS dX4_exponentialOf_23 (c_X2_multiply) lkX4_42 st_X2_multiply cd_X2_multiply ini_X2 hd_X2_multiply ⟨Nat.le_of_ble_eq_true rfl, Nat.le_of_ble_eq_true rfl⟩ rfl (Nat.le_of_ble_eq_true rfl) (V.kkF ?_)
      refine V.iast (n := 9) dX4_exponentialOf_26 (by first | assumption | exact hI _ (by omega)) (by first | assumption | decide) (by omega) ?_
      refine V.iload_n dX4_exponentialOf_27 rfl ?_
      refine V.iload_n dX4_exponentialOf_28 rfl ?_
      refine V.callS dX4_exponentialOf_29 (c_X2_multiply) lkX4_42 st_X2_multiply cd_X2_multiply ini_X2 hd_X2_multiply ⟨Nat.le_of_ble_eq_true rfl, Nat.le_of_ble_eq_true rfl⟩ rfl (Nat.le_of_ble_eq_true rfl) (V.kkF ?_)
      refine V.istore_n dX4_exponentialOf_32 (by decide) ?_
      refine V.iincN dX4_exponentialOf_33 (by decide) rfl ?_
      refine V.goto (tgt := 5) dX4_exponentialOf_36 (by decide) ?_
      rw [aset_up (f := fexp (M 2) a) (hi := j) (Nat.zero_le _) (by rw [aset_ne hne]; rfl)]
      exact ih (by omega)
abbrev v_X4_takeBy (g : Gl) (κ : Ka) (Q : State → Prop) (M : Mem) (pc : Nat) (L : List (Option Value)) (st : List Value) : Prop := V g cX4_takeBy 7 yX4_takeBy.cls none (rmd 1) Q κ M pc L st
theorem c_X4_takeBy {g : Gl} {M : Mem} {i a : Nat} (hI : ∀ i, 1 ≤ i ∧ i ≤ 9 → i ∈ g.2.2.2.2) (hi : i ∈ g.2.2.2.2) (li : ial i = 9) (ha : a ∈ g.2.2.2.2) (la : ial a = 9) (hne : a ≠ i) (h2 : 2 ≠ i) (h5 : 5 ≠ i) : Ct g yX4_takeBy cX4_takeBy 7 none 1 [.ref (g.2.2.2.1 1), .ref (g.2.2.2.1 i), .ref (g.2.2.2.1 a)] M (fun v M' => v = none ∧ M' = aset M i 0 9 (ftake (M 5) (M 2) (M i) (M a))) := by
  refine Ct.ofV (by decide) (Nat.le_of_ble_eq_true rfl) (by simp [Value.category]) (fun κ => ?_)
  refine V.iconst (v := nI 0) dX4_takeBy_0 rfl ?_
  refine V.istore_n dX4_takeBy_1 (by decide) ?_
  have lp := up_loop 9 (fun j => ∀ x4 x5 x6, v_X4_takeBy g κ (Qm g κ (fun v M' => v = none ∧ M' = aset M i 0 9 (ftake (M 5) (M 2) (M i) (M a)))) (aset M i 0 j (ftake (M 5) (M 2) (M i) (M a))) 2 [some (.ref (g.2.2.2.1 1)), some (.ref (g.2.2.2.1 i)), some (.ref (g.2.2.2.1 a)), some (.int (nI j)), x4, x5, x6] []) (fun j hj ih x4 x5 x6 => ?_) 0 (by omega) none none none
  · rw [aset_nil (Nat.le_refl 0)] at lp
    exact lp
  · refine V.iload_n dX4_takeBy_2 rfl ?_
    refine V.bipush (v := nI 9) dX4_takeBy_3 (by decide) ?_
    refine V.geN (tgt := 85) dX4_takeBy_5 (by decide) (by omega) (by omega) (fun h1 => ?_) (fun h1 => ?_)
    · have e : j = 9 := by omega
      subst e
      refine V.vret dX4_takeBy_85 ?_
      exact ⟨rfl, rfl⟩
    · refine V.iconst (v := nI 0) dX4_takeBy_8 rfl ?_
      refine V.istore dX4_takeBy_9 (by decide) ?_
      refine V.iconst (v := nI 0) dX4_takeBy_11 rfl ?_
      refine V.istore dX4_takeBy_12 (by decide) ?_
      refine up_loop (9 - j) (fun q => ∀ x6, v_X4_takeBy g κ (Qm g κ (fun v M' => v = none ∧ M' = aset M i 0 9 (ftake (M 5) (M 2) (M i) (M a)))) (aset M i 0 j (ftake (M 5) (M 2) (M i) (M a))) 14 [some (.ref (g.2.2.2.1 1)), some (.ref (g.2.2.2.1 i)), some (.ref (g.2.2.2.1 a)), some (.int (nI j)), some (.int (tkl (M 5) (M i) (M a) j q)), some (.int (nI q)), x6] []) (fun q hq iq x6 => ?_) 0 (by omega) _
      refine V.iload_n dX4_takeBy_14 rfl ?_
      refine V.iload dX4_takeBy_15 rfl ?_
      first | refine V.iaddN dX4_takeBy_17 ?_ | refine V.iadd dX4_takeBy_17 ?_
      refine V.bipush (v := nI 9) dX4_takeBy_18 (by decide) ?_
      refine V.geN (tgt := 65) dX4_takeBy_20 (by decide) (by omega) (by omega) (fun h3 => ?_) (fun h3 => ?_)
      · have e : q = 9 - j := by omega
        subst e
        refine V.aload_n dX4_takeBy_65 rfl ?_
        refine V.iload_n dX4_takeBy_66 rfl ?_
        refine V.iload dX4_takeBy_67 rfl ?_
        refine V.aload_n dX4_takeBy_69 rfl ?_
        refine V.getf (ci := 3) (k := 0) (C := RX4) (T := TX4) (N := 8) dX4_takeBy_70 lfX4_9 inX4 rfl (by first | assumption | exact hI _ (by omega)) rfl (by decide) rfl ?_
        refine V.iload_n dX4_takeBy_73 rfl ?_
        refine V.iald (n := 9) dX4_takeBy_74 (by first | assumption | exact hI _ (by omega)) (by first | assumption | decide) (by omega) ?_
        refine V.callS dX4_takeBy_75 (c_X2_multiply) lkX4_42 st_X2_multiply cd_X2_multiply ini_X2 hd_X2_multiply ⟨Nat.le_of_ble_eq_true rfl, Nat.le_of_ble_eq_true rfl⟩ rfl (Nat.le_of_ble_eq_true rfl) (V.kkF ?_)
        refine V.iast (n := 9) dX4_takeBy_78 (by first | assumption | exact hI _ (by omega)) (by first | assumption | decide) (by omega) ?_
        refine V.iincN dX4_takeBy_79 (by decide) rfl ?_
        refine V.goto (tgt := 2) dX4_takeBy_82 (by decide) ?_
        rw [aset_up (f := ftake (M 5) (M 2) (M i) (M a)) (hi := j) (Nat.zero_le _) (by rw [aset_ne h2]; rfl)]
        exact ih (by omega) _ _ _
      · refine V.aload_n dX4_takeBy_23 rfl ?_
        refine V.iload_n dX4_takeBy_24 rfl ?_
        refine V.iload dX4_takeBy_25 rfl ?_
        first | refine V.iaddN dX4_takeBy_27 ?_ | refine V.iadd dX4_takeBy_27 ?_
        refine V.iald (n := 9) dX4_takeBy_28 (by first | assumption | exact hI _ (by omega)) (by first | assumption | decide) (by omega) ?_
        refine V.aload_n dX4_takeBy_29 rfl ?_
        refine V.getf (ci := 3) (k := 3) (C := RX4) (T := TX4) (N := 8) dX4_takeBy_30 lfX4_21 inX4 rfl (by first | assumption | exact hI _ (by omega)) rfl (by decide) rfl ?_
        refine V.iload_n dX4_takeBy_33 rfl ?_
        refine V.iload dX4_takeBy_34 rfl ?_
        first | refine V.iaddN dX4_takeBy_36 ?_ | refine V.iadd dX4_takeBy_36 ?_
        refine V.iald (n := 9) dX4_takeBy_37 (by first | assumption | exact hI _ (by omega)) (by first | assumption | decide) (by omega) ?_
        refine V.callS dX4_takeBy_38 (c_X2_multiply) lkX4_42 st_X2_multiply cd_X2_multiply ini_X2 hd_X2_multiply ⟨Nat.le_of_ble_eq_true rfl, Nat.le_of_ble_eq_true rfl⟩ rfl (Nat.le_of_ble_eq_true rfl) (V.kkF ?_)
        refine V.istore dX4_takeBy_41 (by decide) ?_
        refine V.iload dX4_takeBy_43 rfl ?_
        refine V.iload dX4_takeBy_45 rfl ?_
        refine V.aload_n dX4_takeBy_47 rfl ?_
        refine V.iload dX4_takeBy_48 rfl ?_
        refine V.iald (n := 9) dX4_takeBy_50 (by first | assumption | exact hI _ (by omega)) (by first | assumption | decide) (by omega) ?_
        refine V.callS dX4_takeBy_51 (c_X2_multiply) lkX4_42 st_X2_multiply cd_X2_multiply ini_X2 hd_X2_multiply ⟨Nat.le_of_ble_eq_true rfl, Nat.le_of_ble_eq_true rfl⟩ rfl (Nat.le_of_ble_eq_true rfl) (V.kkF ?_)
        refine V.callS dX4_takeBy_54 (c_X2_add) lkX4_49 st_X2_add cd_X2_add ini_X2 hd_X2_add ⟨Nat.le_of_ble_eq_true rfl, Nat.le_of_ble_eq_true rfl⟩ rfl (Nat.le_of_ble_eq_true rfl) (V.kkF ?_)
        refine V.istore dX4_takeBy_57 (by decide) ?_
        refine V.iincN dX4_takeBy_59 (by decide) rfl ?_
        refine V.goto (tgt := 14) dX4_takeBy_62 (by decide) ?_
        rw [aset_hi (by omega), aset_ne h5, aset_ne hne]
        exact iq (by omega) _
abbrev v_X4_turnInsideOut (g : Gl) (κ : Ka) (Q : State → Prop) (M : Mem) (pc : Nat) (L : List (Option Value)) (st : List Value) : Prop := V g cX4_turnInsideOut 5 yX4_turnInsideOut.cls none (rmd 3) Q κ M pc L st
theorem c_X4_turnInsideOut {g : Gl} {M : Mem} {i a : Nat} (hI : ∀ i, 1 ≤ i ∧ i ≤ 9 → i ∈ g.2.2.2.2) (hi : i ∈ g.2.2.2.2) (li : ial i = 9) (ha : a ∈ g.2.2.2.2) (la : ial a = 9) (hi6 : ¬ (6 ≤ i ∧ i ≤ 9)) (ha6 : ¬ (6 ≤ a ∧ a ≤ 9)) : Ct g yX4_turnInsideOut cX4_turnInsideOut 5 none 3 [.ref (g.2.2.2.1 1), .ref (g.2.2.2.1 i), .ref (g.2.2.2.1 a)] M (fun v M' => v = none ∧ keep (fun j => j = i ∨ (6 ≤ j ∧ j ≤ 9)) M M' ∧ eq9 (M' i) (fturn (M a))) := by
  refine Ct.ofV (by decide) (Nat.le_of_ble_eq_true rfl) (by simp [Value.category]) (fun κ => ?_)
  refine V.aload_n dX4_turnInsideOut_0 rfl ?_
  refine V.aload_n dX4_turnInsideOut_1 rfl ?_
  refine V.callV (ci := 3) (T := TX4) (N := 8) dX4_turnInsideOut_2 (c_X4_lower hI ha la (by omega)) lkX4_66 im_X4_lower se_X4_lower cd_X4_lower ini_X4 rfl (by first | assumption | exact hI _ (by omega)) rfl hd_X4_lower ⟨Nat.le_of_ble_eq_true rfl, Nat.le_of_ble_eq_true rfl⟩ rfl (Nat.le_of_ble_eq_true rfl) (V.kkN ?_)
  refine V.aload_n dX4_turnInsideOut_5 rfl ?_
  refine V.aload_n dX4_turnInsideOut_6 rfl ?_
  refine V.getf (ci := 3) (k := 6) (C := RX4) (T := TX4) (N := 8) dX4_turnInsideOut_7 lfX4_30 inX4 rfl (by first | assumption | exact hI _ (by omega)) rfl (by decide) rfl ?_
  refine V.aload_n dX4_turnInsideOut_10 rfl ?_
  refine V.getf (ci := 3) (k := 5) (C := RX4) (T := TX4) (N := 8) dX4_turnInsideOut_11 lfX4_27 inX4 rfl (by first | assumption | exact hI _ (by omega)) rfl (by decide) rfl ?_
  refine V.callV (ci := 3) (T := TX4) (N := 8) dX4_turnInsideOut_14 (c_X4_overSeries (hI 1 (by decide)) (hI 8 (by decide)) rfl (hI 7 (by decide)) rfl (by decide)) lkX4_70 im_X4_overSeries se_X4_overSeries cd_X4_overSeries ini_X4 rfl (by first | assumption | exact hI _ (by omega)) rfl hd_X4_overSeries ⟨Nat.le_of_ble_eq_true rfl, Nat.le_of_ble_eq_true rfl⟩ rfl (Nat.le_of_ble_eq_true rfl) (V.kkN ?_)
  refine V.aload_n dX4_turnInsideOut_17 rfl ?_
  refine V.getf (ci := 3) (k := 7) (C := RX4) (T := TX4) (N := 8) dX4_turnInsideOut_18 lfX4_33 inX4 rfl (by first | assumption | exact hI _ (by omega)) rfl (by decide) rfl ?_
  refine V.iconst (v := nI 0) dX4_turnInsideOut_21 rfl ?_
  refine V.iconst (v := nI 1) dX4_turnInsideOut_22 rfl ?_
  refine V.callSN dX4_turnInsideOut_23 (c_X7_setMonomial (k := 0) (hI 9 (by decide)) rfl (by decide)) nlX4_52 st_X7_setMonomial cd_X7_setMonomial ini_X7 hd_X7_setMonomial ⟨Nat.le_of_ble_eq_true rfl, Nat.le_of_ble_eq_true rfl⟩ rfl (Nat.le_of_ble_eq_true rfl) (V.kkN ?_)
  refine V.aload_n dX4_turnInsideOut_26 rfl ?_
  refine V.getf (ci := 3) (k := 4) (C := RX4) (T := TX4) (N := 8) dX4_turnInsideOut_27 lfX4_24 inX4 rfl (by first | assumption | exact hI _ (by omega)) rfl (by decide) rfl ?_
  refine V.astore_n dX4_turnInsideOut_30 (by decide) ?_
  refine V.aload_n dX4_turnInsideOut_31 rfl ?_
  refine V.iconst (v := nI 0) dX4_turnInsideOut_32 rfl ?_
  refine V.iconst (v := nI 0) dX4_turnInsideOut_33 rfl ?_
  refine V.iast (n := 9) dX4_turnInsideOut_34 (by first | assumption | exact hI _ (by omega)) (by first | assumption | decide) (by omega) ?_
  refine V.iconst (v := nI 1) dX4_turnInsideOut_35 rfl ?_
  refine V.istore dX4_turnInsideOut_36 (by decide) ?_
  have lp := up_loop 9 (fun n => ∀ M1, keep (fun j => j = i ∨ (6 ≤ j ∧ j ≤ 9)) M M1 → eq9 (M1 8) (fover (flow (M a))) → eq9 (M1 9) (fpow (fover (flow (M a))) (n - 1)) → (∀ k, k < n → M1 6 k = fturn (M a) k) → 1 ≤ n → v_X4_turnInsideOut g κ (Qm g κ (fun v M' => v = none ∧ keep (fun j => j = i ∨ (6 ≤ j ∧ j ≤ 9)) M M' ∧ eq9 (M' i) (fturn (M a)))) M1 38 [some (.ref (g.2.2.2.1 1)), some (.ref (g.2.2.2.1 i)), some (.ref (g.2.2.2.1 a)), some (.ref (g.2.2.2.1 6)), some (.int (nI n))] []) (fun n hn ih M1 k1 k2 k3 k4 hn1 => ?_) 1 (by omega)
  · refine lp _ ?_ ?_ ?_ ?_ (by decide)
    · exact (((keep.rf.as (by omega)).as (by omega)).as (by omega)).ms (by omega)
    · rw [mset_ne (by decide), aset_ne (by decide)]
      exact aset_9.tr (fover_cg aset_9)
    · rw [mset_ne (by decide)]
      exact aset_9
    · intro k hk
      rw [show k = 0 by omega, mset_at]; rfl
  · refine V.iload dX4_turnInsideOut_38 rfl ?_
    refine V.bipush (v := nI 9) dX4_turnInsideOut_40 (by decide) ?_
    refine V.geN (tgt := 88) dX4_turnInsideOut_42 (by decide) (by omega) (by omega) (fun h1 => ?_) (fun h1 => ?_)
    · have e : n = 9 := by omega
      subst e
      refine V.aload_n dX4_turnInsideOut_88 rfl ?_
      refine V.aload_n dX4_turnInsideOut_89 rfl ?_
      refine V.callSN dX4_turnInsideOut_90 (c_X7_copy (hI 6 (by decide)) hi rfl li) nlX4_62 st_X7_copy cd_X7_copy ini_X7 hd_X7_copy ⟨Nat.le_of_ble_eq_true rfl, Nat.le_of_ble_eq_true rfl⟩ rfl (Nat.le_of_ble_eq_true rfl) (V.kkN ?_)
      refine V.vret dX4_turnInsideOut_93 ?_
      exact ⟨rfl, k1.as (Or.inl rfl), aset_9.tr (fun k hk => k4 k hk)⟩
    · refine V.aload_n dX4_turnInsideOut_45 rfl ?_
      refine V.aload_n dX4_turnInsideOut_46 rfl ?_
      refine V.getf (ci := 3) (k := 7) (C := RX4) (T := TX4) (N := 8) dX4_turnInsideOut_47 lfX4_33 inX4 rfl (by first | assumption | exact hI _ (by omega)) rfl (by decide) rfl ?_
      refine V.aload_n dX4_turnInsideOut_50 rfl ?_
      refine V.getf (ci := 3) (k := 7) (C := RX4) (T := TX4) (N := 8) dX4_turnInsideOut_51 lfX4_33 inX4 rfl (by first | assumption | exact hI _ (by omega)) rfl (by decide) rfl ?_
      refine V.aload_n dX4_turnInsideOut_54 rfl ?_
      refine V.getf (ci := 3) (k := 6) (C := RX4) (T := TX4) (N := 8) dX4_turnInsideOut_55 lfX4_30 inX4 rfl (by first | assumption | exact hI _ (by omega)) rfl (by decide) rfl ?_
      refine V.callV (ci := 3) (T := TX4) (N := 8) dX4_turnInsideOut_58 (c_X4_multiply (hI 9 (by decide)) rfl (hI 9 (by decide)) rfl (hI 8 (by decide)) rfl) lkX4_60 im_X4_multiply se_X4_multiply cd_X4_multiply ini_X4 rfl (by first | assumption | exact hI _ (by omega)) rfl hd_X4_multiply ⟨Nat.le_of_ble_eq_true rfl, Nat.le_of_ble_eq_true rfl⟩ rfl (Nat.le_of_ble_eq_true rfl) (V.kkN ?_)
      refine V.aload_n dX4_turnInsideOut_61 rfl ?_
      refine V.iload dX4_turnInsideOut_62 rfl ?_
      refine V.aload_n dX4_turnInsideOut_64 rfl ?_
      refine V.getf (ci := 3) (k := 7) (C := RX4) (T := TX4) (N := 8) dX4_turnInsideOut_65 lfX4_33 inX4 rfl (by first | assumption | exact hI _ (by omega)) rfl (by decide) rfl ?_
      refine V.iload dX4_turnInsideOut_68 rfl ?_
      refine V.iconst (v := nI 1) dX4_turnInsideOut_70 rfl ?_
      first | refine V.isubN dX4_turnInsideOut_71 (by omega) ?_ | refine V.isub dX4_turnInsideOut_71 ?_
      refine V.iald (n := 9) dX4_turnInsideOut_72 (by first | assumption | exact hI _ (by omega)) (by first | assumption | decide) (by omega) ?_
      refine V.iload dX4_turnInsideOut_73 rfl ?_
      refine V.callS dX4_turnInsideOut_75 (c_X2_inverse) lkX4_36 st_X2_inverse cd_X2_inverse ini_X2 hd_X2_inverse ⟨Nat.le_of_ble_eq_true rfl, Nat.le_of_ble_eq_true rfl⟩ rfl (Nat.le_of_ble_eq_true rfl) (V.kkF ?_)
      refine V.callS dX4_turnInsideOut_78 (c_X2_multiply) lkX4_42 st_X2_multiply cd_X2_multiply ini_X2 hd_X2_multiply ⟨Nat.le_of_ble_eq_true rfl, Nat.le_of_ble_eq_true rfl⟩ rfl (Nat.le_of_ble_eq_true rfl) (V.kkF ?_)
      refine V.iast (n := 9) dX4_turnInsideOut_81 (by first | assumption | exact hI _ (by omega)) (by first | assumption | decide) (by omega) ?_
      refine V.iincN dX4_turnInsideOut_82 (by decide) rfl ?_
      refine V.goto (tgt := 38) dX4_turnInsideOut_85 (by decide) ?_
      have p9 : eq9 (fprod (M1 9) (M1 8)) (fpow (fover (flow (M a))) n) := by
        have e := fprod_cg k3 k2
        have e2 : fprod (fpow (fover (flow (M a))) (n - 1)) (fover (flow (M a))) = fpow (fover (flow (M a))) (n - 1 + 1) := rfl
        rw [e2, show n - 1 + 1 = n by omega] at e
        exact e
      refine ih (by omega) _ ((k1.as (by omega)).ms (by omega)) ?_ ?_ ?_ (by omega)
      · rw [mset_ne (by decide), aset_ne (by decide)]; exact k2
      · rw [mset_ne (by decide)]; exact aset_9.tr p9
      · intro k hk
        by_cases e : k = n
        · subst e
          rw [mset_at, aset_9 (k - 1) (by omega), p9 (k - 1) (by omega)]
          unfold fturn; rw [if_neg (by omega)]
        · rw [mset_nat e, aset_ne (by decide)]; exact k4 k (by omega)
abbrev v_X4_untakeBy (g : Gl) (κ : Ka) (Q : State → Prop) (M : Mem) (pc : Nat) (L : List (Option Value)) (st : List Value) : Prop := V g cX4_untakeBy 4 yX4_untakeBy.cls none (rmd 3) Q κ M pc L st
theorem c_X4_untakeBy {g : Gl} {M : Mem} {i a : Nat} (hI : ∀ i, 1 ≤ i ∧ i ≤ 9 → i ∈ g.2.2.2.2) (hi : i ∈ g.2.2.2.2) (li : ial i = 9) (ha : a ∈ g.2.2.2.2) (la : ial a = 9) (hi6 : ¬ (1 ≤ i ∧ i ≤ 9)) (ha6 : ¬ (6 ≤ a ∧ a ≤ 9)) (hne : a ≠ i) : Ct g yX4_untakeBy cX4_untakeBy 4 none 3 [.ref (g.2.2.2.1 1), .ref (g.2.2.2.1 i), .ref (g.2.2.2.1 a)] M (fun v M' => v = none ∧ keep (fun j => j = i ∨ (6 ≤ j ∧ j ≤ 9)) M M' ∧ eq9 (M' i) (funtake (M 5) (M 2) (M i) (M a))) := by
  refine Ct.ofV (by decide) (Nat.le_of_ble_eq_true rfl) (by simp [Value.category]) (fun κ => ?_)
  refine V.aload_n dX4_untakeBy_0 rfl ?_
  refine V.aload_n dX4_untakeBy_1 rfl ?_
  refine V.callV (ci := 3) (T := TX4) (N := 8) dX4_untakeBy_2 (c_X4_lower hI ha la (by omega)) lkX4_66 im_X4_lower se_X4_lower cd_X4_lower ini_X4 rfl (by first | assumption | exact hI _ (by omega)) rfl hd_X4_lower ⟨Nat.le_of_ble_eq_true rfl, Nat.le_of_ble_eq_true rfl⟩ rfl (Nat.le_of_ble_eq_true rfl) (V.kkN ?_)
  refine V.aload_n dX4_untakeBy_5 rfl ?_
  refine V.aload_n dX4_untakeBy_6 rfl ?_
  refine V.getf (ci := 3) (k := 6) (C := RX4) (T := TX4) (N := 8) dX4_untakeBy_7 lfX4_30 inX4 rfl (by first | assumption | exact hI _ (by omega)) rfl (by decide) rfl ?_
  refine V.aload_n dX4_untakeBy_10 rfl ?_
  refine V.getf (ci := 3) (k := 5) (C := RX4) (T := TX4) (N := 8) dX4_untakeBy_11 lfX4_27 inX4 rfl (by first | assumption | exact hI _ (by omega)) rfl (by decide) rfl ?_
  refine V.callV (ci := 3) (T := TX4) (N := 8) dX4_untakeBy_14 (c_X4_overSeries (hI 1 (by decide)) (hI 8 (by decide)) rfl (hI 7 (by decide)) rfl (by decide)) lkX4_70 im_X4_overSeries se_X4_overSeries cd_X4_overSeries ini_X4 rfl (by first | assumption | exact hI _ (by omega)) rfl hd_X4_overSeries ⟨Nat.le_of_ble_eq_true rfl, Nat.le_of_ble_eq_true rfl⟩ rfl (Nat.le_of_ble_eq_true rfl) (V.kkN ?_)
  refine V.aload_n dX4_untakeBy_17 rfl ?_
  refine V.aload_n dX4_untakeBy_18 rfl ?_
  refine V.aload_n dX4_untakeBy_19 rfl ?_
  refine V.getf (ci := 3) (k := 6) (C := RX4) (T := TX4) (N := 8) dX4_untakeBy_20 lfX4_30 inX4 rfl (by first | assumption | exact hI _ (by omega)) rfl (by decide) rfl ?_
  refine V.callV (ci := 3) (T := TX4) (N := 8) dX4_untakeBy_23 (c_X4_takeBy hI hi li (hI 8 (by decide)) rfl (by omega) (by omega) (by omega)) lkX4_73 im_X4_takeBy se_X4_takeBy cd_X4_takeBy ini_X4 rfl (by first | assumption | exact hI _ (by omega)) rfl hd_X4_takeBy ⟨Nat.le_of_ble_eq_true rfl, Nat.le_of_ble_eq_true rfl⟩ rfl (Nat.le_of_ble_eq_true rfl) (V.kkN ?_)
  refine V.aload_n dX4_untakeBy_26 rfl ?_
  refine V.callSN dX4_untakeBy_27 (c_X7_moveUp hi li) nlX4_76 st_X7_moveUp cd_X7_moveUp ini_X7 hd_X7_moveUp ⟨Nat.le_of_ble_eq_true rfl, Nat.le_of_ble_eq_true rfl⟩ rfl (Nat.le_of_ble_eq_true rfl) (V.kkN ?_)
  refine V.iconst (v := nI 1) dX4_untakeBy_30 rfl ?_
  refine V.istore_n dX4_untakeBy_31 (by decide) ?_
  have lp := up_loop 9 (fun n => ∀ M1, keep (fun j => j = i ∨ (6 ≤ j ∧ j ≤ 9)) M M1 → (∀ k, n ≤ k → k < 9 → M1 i k = fup (ftake (M 5) (M 2) (M i) (fover (flow (M a)))) k) → (∀ k, k < n → M1 i k = funtake (M 5) (M 2) (M i) (M a) k) → 1 ≤ n → v_X4_untakeBy g κ (Qm g κ (fun v M' => v = none ∧ keep (fun j => j = i ∨ (6 ≤ j ∧ j ≤ 9)) M M' ∧ eq9 (M' i) (funtake (M 5) (M 2) (M i) (M a)))) M1 32 [some (.ref (g.2.2.2.1 1)), some (.ref (g.2.2.2.1 i)), some (.ref (g.2.2.2.1 a)), some (.int (nI n))] []) (fun n hn ih M1 k1 k2 k3 hn1 => ?_) 1 (by omega)
  · have e8 : eq9 (aset (aset M 7 0 9 (flow (M a))) 8 0 9 (fover (aset M 7 0 9 (flow (M a)) 7)) 8) (fover (flow (M a))) := aset_9.tr (fover_cg aset_9)
    have e5 : aset (aset M 7 0 9 (flow (M a))) 8 0 9 (fover (aset M 7 0 9 (flow (M a)) 7)) 5 = M 5 := by rw [aset_ne (by decide), aset_ne (by decide)]
    have e2 : aset (aset M 7 0 9 (flow (M a))) 8 0 9 (fover (aset M 7 0 9 (flow (M a)) 7)) 2 = M 2 := by rw [aset_ne (by decide), aset_ne (by decide)]
    have ei : aset (aset M 7 0 9 (flow (M a))) 8 0 9 (fover (aset M 7 0 9 (flow (M a)) 7)) i = M i := by rw [aset_ne (by omega), aset_ne (by omega)]
    have ef := fup_cg (aset_9.tr (ftake_cg (fa := M 5) (ex := M 2) (p := M i) eq9.rf eq9.rf eq9.rf e8) : eq9 (aset (aset (aset M 7 0 9 (flow (M a))) 8 0 9 (fover (aset M 7 0 9 (flow (M a)) 7))) i 0 9 (ftake (M 5) (M 2) (M i) (aset (aset M 7 0 9 (flow (M a))) 8 0 9 (fover (aset M 7 0 9 (flow (M a)) 7)) 8)) i) _)
    rw [e5, e2, ei]
    refine lp _ ?_ ?_ ?_ (by decide)
    · exact (((keep.rf.as (by omega)).as (by omega)).as (by omega)).as (by omega)
    · intro k hk hk9
      rw [aset_9 k hk9]; exact ef k hk9
    · intro k hk
      rw [show k = 0 by omega, aset_9 0 (by decide), ef 0 (by decide)]; unfold funtake fint; rw [if_pos rfl]
  · refine V.iload_n dX4_untakeBy_32 rfl ?_
    refine V.bipush (v := nI 9) dX4_untakeBy_33 (by decide) ?_
    refine V.geN (tgt := 57) dX4_untakeBy_35 (by decide) (by omega) (by omega) (fun h1 => ?_) (fun h1 => ?_)
    · have e : n = 9 := by omega
      subst e
      refine V.vret dX4_untakeBy_57 ?_
      exact ⟨rfl, k1, fun k hk => k3 k hk⟩
    · refine V.aload_n dX4_untakeBy_38 rfl ?_
      refine V.iload_n dX4_untakeBy_39 rfl ?_
      refine V.aload_n dX4_untakeBy_40 rfl ?_
      refine V.iload_n dX4_untakeBy_41 rfl ?_
      refine V.iald (n := 9) dX4_untakeBy_42 (by first | assumption | exact hI _ (by omega)) (by first | assumption | decide) (by omega) ?_
      refine V.iload_n dX4_untakeBy_43 rfl ?_
      refine V.callS dX4_untakeBy_44 (c_X2_inverse) lkX4_36 st_X2_inverse cd_X2_inverse ini_X2 hd_X2_inverse ⟨Nat.le_of_ble_eq_true rfl, Nat.le_of_ble_eq_true rfl⟩ rfl (Nat.le_of_ble_eq_true rfl) (V.kkF ?_)
      refine V.callS dX4_untakeBy_47 (c_X2_multiply) lkX4_42 st_X2_multiply cd_X2_multiply ini_X2 hd_X2_multiply ⟨Nat.le_of_ble_eq_true rfl, Nat.le_of_ble_eq_true rfl⟩ rfl (Nat.le_of_ble_eq_true rfl) (V.kkF ?_)
      refine V.iast (n := 9) dX4_untakeBy_50 (by first | assumption | exact hI _ (by omega)) (by first | assumption | decide) (by omega) ?_
      refine V.iincN dX4_untakeBy_51 (by decide) rfl ?_
      refine V.goto (tgt := 32) dX4_untakeBy_54 (by decide) ?_
      refine ih (by omega) _ (k1.ms (Or.inl rfl)) ?_ ?_ (by omega)
      · intro k hk hk9
        rw [mset_nat (by omega)]; exact k2 k (by omega) hk9
      · intro k hk
        by_cases e : k = n
        · subst e
          rw [mset_at, k2 k (Nat.le_refl _) (by omega)]
          by_cases h0 : k = 0
          · omega
          · simp only [funtake, fint, h0, if_false]
        · rw [mset_nat e]; exact k3 k (by omega)
abbrev v_X4_tellPolynomials (g : Gl) (κ : Ka) (Q : State → Prop) (M : Mem) (pc : Nat) (L : List (Option Value)) (st : List Value) : Prop := V g cX4_tellPolynomials 7 yX4_tellPolynomials.cls none (rmd 2) Q κ M pc L st
theorem c_X4_tellPolynomials {g : Gl} {M : Mem} {q a b : Nat} (hI : ∀ i, 1 ≤ i ∧ i ≤ 9 → i ∈ g.2.2.2.2) (hq : q ∈ g.2.2.2.2) (hO : ∀ M, cont g.2.2.1 g.2.2.2.1 M q = rarr (g.2.2.1 2) 9 (fun j => g.2.2.2.1 (q + 1 + j))) (hin : ∀ j, j < 9 → q + 1 + j ∈ g.2.2.2.2 ∧ ial (q + 1 + j) = 9) (ha : a ∈ g.2.2.2.2) (la : ial a = 9) (hb : b ∈ g.2.2.2.2) (lb : ial b = 9) (h9 : 9 < q) (ha9 : a ≠ 9) (hb9 : b ≠ 9) (hbq : ¬ (q < b ∧ b ≤ q + 9)) : Ct g yX4_tellPolynomials cX4_tellPolynomials 7 none 2 [.ref (g.2.2.2.1 1), .ref (g.2.2.2.1 q), .ref (g.2.2.2.1 a), .ref (g.2.2.2.1 b)] M (fun v M' => v = none ∧ keep (fun j => j = 9 ∨ (q < j ∧ j ≤ q + 9)) M M' ∧ ∀ n k, n < 9 → k < 9 → M' (q + 1 + n) k = fpol (M 5) (M 2) (M a) (M b) n k) := by
  refine Ct.ofV (by decide) (Nat.le_of_ble_eq_true rfl) (by simp [Value.category]) (fun κ => ?_)
  refine V.aload_n dX4_tellPolynomials_0 rfl ?_
  refine V.aload_n dX4_tellPolynomials_1 rfl ?_
  refine V.getf (ci := 3) (k := 7) (C := RX4) (T := TX4) (N := 8) dX4_tellPolynomials_2 lfX4_33 inX4 rfl (by first | assumption | exact hI _ (by omega) | exact (hin _ (by omega)).1) rfl (by decide) rfl ?_
  refine V.callSN dX4_tellPolynomials_5 (c_X7_copy ha (hI 9 (by decide)) la rfl) nlX4_62 st_X7_copy cd_X7_copy ini_X7 hd_X7_copy ⟨Nat.le_of_ble_eq_true rfl, Nat.le_of_ble_eq_true rfl⟩ rfl (Nat.le_of_ble_eq_true rfl) (V.kkN ?_)
  refine V.iconst (v := nI 0) dX4_tellPolynomials_8 rfl ?_
  refine V.istore dX4_tellPolynomials_9 (by decide) ?_
  have lp := up_loop 9 (fun k => ∀ M1 x5 x6, keep (fun j => j = 9 ∨ (q < j ∧ j ≤ q + 9)) M M1 → eq9 (M1 9) (fpol.tpow (M a) (M b) k) → (∀ n k', n < 9 → k' < k → M1 (q + 1 + n) k' = fpol (M 5) (M 2) (M a) (M b) n k') → v_X4_tellPolynomials g κ (Qm g κ (fun v M' => v = none ∧ keep (fun j => j = 9 ∨ (q < j ∧ j ≤ q + 9)) M M' ∧ ∀ n k, n < 9 → k < 9 → M' (q + 1 + n) k = fpol (M 5) (M 2) (M a) (M b) n k)) M1 11 [some (.ref (g.2.2.2.1 1)), some (.ref (g.2.2.2.1 q)), some (.ref (g.2.2.2.1 a)), some (.ref (g.2.2.2.1 b)), some (.int (nI k)), x5, x6] []) (fun k hk ih M1 x5 x6 k1 k2 k3 => ?_) 0 (by omega)
  · exact lp _ _ _ (keep.rf.as (Or.inl rfl)) aset_9 (fun n k' _ h => by omega)
  · refine V.iload dX4_tellPolynomials_11 rfl ?_
    refine V.bipush (v := nI 9) dX4_tellPolynomials_13 (by decide) ?_
    refine V.geN (tgt := 91) dX4_tellPolynomials_15 (by decide) (by omega) (by omega) (fun h1 => ?_) (fun h1 => ?_)
    · have e : k = 9 := by omega
      subst e
      refine V.vret dX4_tellPolynomials_91 ?_
      exact ⟨rfl, k1, fun n k' hn hk' => k3 n k' hn hk'⟩
    · refine V.iconst (v := nI 0) dX4_tellPolynomials_18 rfl ?_
      refine V.istore dX4_tellPolynomials_19 (by decide) ?_
      have l2 := up_loop 9 (fun n => ∀ M2 x6, keep (fun j => j = 9 ∨ (q < j ∧ j ≤ q + 9)) M M2 → eq9 (M2 9) (fpol.tpow (M a) (M b) k) → (∀ n' k', n' < 9 → (k' < k ∨ (k' = k ∧ n' < n)) → M2 (q + 1 + n') k' = fpol (M 5) (M 2) (M a) (M b) n' k') → v_X4_tellPolynomials g κ (Qm g κ (fun v M' => v = none ∧ keep (fun j => j = 9 ∨ (q < j ∧ j ≤ q + 9)) M M' ∧ ∀ n k, n < 9 → k < 9 → M' (q + 1 + n) k = fpol (M 5) (M 2) (M a) (M b) n k)) M2 21 [some (.ref (g.2.2.2.1 1)), some (.ref (g.2.2.2.1 q)), some (.ref (g.2.2.2.1 a)), some (.ref (g.2.2.2.1 b)), some (.int (nI k)), some (.int (nI n)), x6] []) (fun n hn in2 M2 x6 j1 j2 j3 => ?_) 0 (by omega)
      · exact l2 M1 _ k1 k2 (fun n' k' hn' h => k3 n' k' hn' (by omega))
      · refine V.iload dX4_tellPolynomials_21 rfl ?_
        refine V.bipush (v := nI 9) dX4_tellPolynomials_23 (by decide) ?_
        refine V.geN (tgt := 72) dX4_tellPolynomials_25 (by decide) (by omega) (by omega) (fun h2 => ?_) (fun h2 => ?_)
        · have e : n = 9 := by omega
          subst e
          refine V.aload_n dX4_tellPolynomials_72 rfl ?_
          refine V.aload_n dX4_tellPolynomials_73 rfl ?_
          refine V.getf (ci := 3) (k := 7) (C := RX4) (T := TX4) (N := 8) dX4_tellPolynomials_74 lfX4_33 inX4 rfl (by first | assumption | exact hI _ (by omega) | exact (hin _ (by omega)).1) rfl (by decide) rfl ?_
          refine V.aload_n dX4_tellPolynomials_77 rfl ?_
          refine V.getf (ci := 3) (k := 7) (C := RX4) (T := TX4) (N := 8) dX4_tellPolynomials_78 lfX4_33 inX4 rfl (by first | assumption | exact hI _ (by omega) | exact (hin _ (by omega)).1) rfl (by decide) rfl ?_
          refine V.aload_n dX4_tellPolynomials_81 rfl ?_
          refine V.callV (ci := 3) (T := TX4) (N := 8) dX4_tellPolynomials_82 (c_X4_multiply (hI 9 (by decide)) rfl (hI 9 (by decide)) rfl hb lb) lkX4_60 im_X4_multiply se_X4_multiply cd_X4_multiply ini_X4 rfl (by first | assumption | exact hI _ (by omega) | exact (hin _ (by omega)).1) rfl hd_X4_multiply ⟨Nat.le_of_ble_eq_true rfl, Nat.le_of_ble_eq_true rfl⟩ rfl (Nat.le_of_ble_eq_true rfl) (V.kkN ?_)
          refine V.iincN dX4_tellPolynomials_85 (by decide) rfl ?_
          refine V.goto (tgt := 11) dX4_tellPolynomials_88 (by decide) ?_
          refine ih (by omega) _ _ _ (j1.as (Or.inl rfl)) (aset_9.tr (fprod_cg j2 (by rw [j1 b (by omega)]; exact eq9.rf))) ?_
          intro n' k' hn' hk'
          rw [aset_ne (by omega)]
          exact j3 n' k' hn' (by omega)
        · refine V.aload_n dX4_tellPolynomials_28 rfl ?_
          refine V.getf (ci := 3) (k := 3) (C := RX4) (T := TX4) (N := 8) dX4_tellPolynomials_29 lfX4_21 inX4 rfl (by first | assumption | exact hI _ (by omega) | exact (hin _ (by omega)).1) rfl (by decide) rfl ?_
          refine V.iload dX4_tellPolynomials_32 rfl ?_
          refine V.iald (n := 9) dX4_tellPolynomials_34 (by first | assumption | exact hI _ (by omega) | exact (hin _ (by omega)).1) (by first | assumption | decide | exact (hin _ (by omega)).2) (by omega) ?_
          refine V.aload_n dX4_tellPolynomials_35 rfl ?_
          refine V.getf (ci := 3) (k := 0) (C := RX4) (T := TX4) (N := 8) dX4_tellPolynomials_36 lfX4_9 inX4 rfl (by first | assumption | exact hI _ (by omega) | exact (hin _ (by omega)).1) rfl (by decide) rfl ?_
          refine V.iload dX4_tellPolynomials_39 rfl ?_
          refine V.iald (n := 9) dX4_tellPolynomials_41 (by first | assumption | exact hI _ (by omega) | exact (hin _ (by omega)).1) (by first | assumption | decide | exact (hin _ (by omega)).2) (by omega) ?_
          refine V.callS dX4_tellPolynomials_42 (c_X2_multiply) lkX4_42 st_X2_multiply cd_X2_multiply ini_X2 hd_X2_multiply ⟨Nat.le_of_ble_eq_true rfl, Nat.le_of_ble_eq_true rfl⟩ rfl (Nat.le_of_ble_eq_true rfl) (V.kkF ?_)
          refine V.istore dX4_tellPolynomials_45 (by decide) ?_
          refine V.aload_n dX4_tellPolynomials_47 rfl ?_
          refine V.iload dX4_tellPolynomials_48 rfl ?_
          refine V.aald (n := 9) (t := 2) dX4_tellPolynomials_50 (by first | assumption | exact hI _ (by omega) | exact (hin _ (by omega)).1) (hO _) rfl rfl (by decide) (by omega) ?_
          refine V.iload dX4_tellPolynomials_51 rfl ?_
          refine V.iload dX4_tellPolynomials_53 rfl ?_
          refine V.aload_n dX4_tellPolynomials_55 rfl ?_
          refine V.getf (ci := 3) (k := 7) (C := RX4) (T := TX4) (N := 8) dX4_tellPolynomials_56 lfX4_33 inX4 rfl (by first | assumption | exact hI _ (by omega) | exact (hin _ (by omega)).1) rfl (by decide) rfl ?_
          refine V.iload dX4_tellPolynomials_59 rfl ?_
          refine V.iald (n := 9) dX4_tellPolynomials_61 (by first | assumption | exact hI _ (by omega) | exact (hin _ (by omega)).1) (by first | assumption | decide | exact (hin _ (by omega)).2) (by omega) ?_
          refine V.callS dX4_tellPolynomials_62 (c_X2_multiply) lkX4_42 st_X2_multiply cd_X2_multiply ini_X2 hd_X2_multiply ⟨Nat.le_of_ble_eq_true rfl, Nat.le_of_ble_eq_true rfl⟩ rfl (Nat.le_of_ble_eq_true rfl) (V.kkF ?_)
          refine V.iast (n := 9) dX4_tellPolynomials_65 (by first | assumption | exact hI _ (by omega) | exact (hin _ (by omega)).1) (by first | assumption | decide | exact (hin _ (by omega)).2) (by omega) ?_
          refine V.iincN dX4_tellPolynomials_66 (by decide) rfl ?_
          refine V.goto (tgt := 21) dX4_tellPolynomials_69 (by decide) ?_
          refine in2 (by omega) _ _ (j1.ms (Or.inr (by omega))) (by rw [mset_ne (by omega)]; exact j2) ?_
          intro n' k' hn' hk'
          by_cases e : n' = n
          · subst e
            by_cases e2 : k' = k
            · subst e2
              rw [mset_at, j1 5 (by omega), j1 2 (by omega), j2 n' (by omega)]; rfl
            · rw [mset_nat e2]; exact j3 n' k' hn' (by omega)
          · rw [mset_ne (by omega)]; exact j3 n' k' hn' (by omega)

