theorem c_X8_in {g : Gl} {M : Mem} {x a b : Int32} : Ct g yX8_in cX8_in 3 (some .boolean) 0 [.int x, .int a, .int b] M (fun v M' => v = some (.int (nI (decide (¬ x < a) && decide (¬ b < x)).toNat)) ∧ M' = M) := by
  refine Ct.ofV (by decide) (Nat.le_of_ble_eq_true rfl) (by simp [Value.category]) (fun κ => ?_)
  refine V.iload_n dX8_in_0 rfl ?_
  refine V.iload_n dX8_in_1 rfl ?_
  refine V.icmp_lt (tgt := 14) dX8_in_2 (by decide) (fun h1 => ?_) (fun h1 => ?_)
  · refine V.iconst (v := nI 0) dX8_in_14 rfl ?_
    refine V.zret dX8_in_15 rfl ?_
    exact ⟨by simp [h1], rfl⟩
  · refine V.iload_n dX8_in_5 rfl ?_
    refine V.iload_n dX8_in_6 rfl ?_
    refine V.icmp_gt (tgt := 14) dX8_in_7 (by decide) (fun h2 => ?_) (fun h2 => ?_)
    · refine V.iconst (v := nI 0) dX8_in_14 rfl ?_
      refine V.zret dX8_in_15 rfl ?_
      exact ⟨by simp [h2], rfl⟩
    · refine V.iconst (v := nI 1) dX8_in_10 rfl ?_
      refine V.goto (tgt := 15) dX8_in_11 (by decide) ?_
      refine V.zret dX8_in_15 rfl ?_
      exact ⟨by simp [h1, h2], rfl⟩
theorem in_isN {x : Int32} {n : Nat} (hn : n + 1 < 2 ^ 31) : (decide (¬ x < nI 0) && decide (¬ nI n < x)) = isN x (n + 1) := by
  by_cases h1 : x < 0
  · rw [isN_0 h1]; have : x < nI 0 := h1; simp [this]
  · by_cases h2 : nI n < x
    · have e : isN x (n + 1) = false := by
        cases hb : isN x (n + 1)
        · rfl
        · obtain ⟨j, hj, rfl⟩ := isN_yes hn hb
          exact absurd h2 (nI_nlt (by omega) (by omega))
      rw [e]; simp [h2]
    · rw [isN_gt hn h1 h2]
      have : ¬ x < nI 0 := h1
      simp [this, h2]
theorem c_X8_isRow {g : Gl} {M : Mem} {x : Int32} : Ct g yX8_isRow cX8_isRow 1 (some .boolean) 1 [.int x] M (fun v M' => v = some (.int (nI (isN x 4).toNat)) ∧ M' = M) := by
  refine Ct.ofV (by decide) (Nat.le_of_ble_eq_true rfl) (by simp [Value.category]) (fun κ => ?_)
  refine V.iload_n dX8_isRow_0 rfl ?_
  refine V.iconst (v := nI 0) dX8_isRow_1 rfl ?_
  refine V.iconst (v := nI 3) dX8_isRow_2 rfl ?_
  refine V.callS dX8_isRow_3 (c_X8_in) lkX8_104 st_X8_in cd_X8_in ini_X8 hd_X8_in ⟨Nat.le_of_ble_eq_true rfl, Nat.le_of_ble_eq_true rfl⟩ rfl (Nat.le_of_ble_eq_true rfl) (V.kkF ?_)
  rw [in_isN (by decide)]
  cases hb : isN x (3 + 1)
  · refine V.zret dX8_isRow_6 rfl ?_
    exact ⟨rfl, rfl⟩
  · refine V.zret dX8_isRow_6 rfl ?_
    exact ⟨rfl, rfl⟩
theorem c_X8_isPlace {g : Gl} {M : Mem} {x : Int32} : Ct g yX8_isPlace cX8_isPlace 1 (some .boolean) 1 [.int x] M (fun v M' => v = some (.int (nI (isN x 9).toNat)) ∧ M' = M) := by
  refine Ct.ofV (by decide) (Nat.le_of_ble_eq_true rfl) (by simp [Value.category]) (fun κ => ?_)
  refine V.iload_n dX8_isPlace_0 rfl ?_
  refine V.iconst (v := nI 0) dX8_isPlace_1 rfl ?_
  refine V.bipush (v := nI 8) dX8_isPlace_2 (by decide) ?_
  refine V.callS dX8_isPlace_4 (c_X8_in) lkX8_104 st_X8_in cd_X8_in ini_X8 hd_X8_in ⟨Nat.le_of_ble_eq_true rfl, Nat.le_of_ble_eq_true rfl⟩ rfl (Nat.le_of_ble_eq_true rfl) (V.kkF ?_)
  rw [in_isN (by decide)]
  cases hb : isN x (8 + 1)
  · refine V.zret dX8_isPlace_7 rfl ?_
    exact ⟨rfl, rfl⟩
  · refine V.zret dX8_isPlace_7 rfl ?_
    exact ⟨rfl, rfl⟩
theorem c_X8_isNumber {g : Gl} {M : Mem} {x : Int32} : Ct g yX8_isNumber cX8_isNumber 1 (some .boolean) 1 [.int x] M (fun v M' => v = some (.int (nI (isN x 9973).toNat)) ∧ M' = M) := by
  refine Ct.ofV (by decide) (Nat.le_of_ble_eq_true rfl) (by simp [Value.category]) (fun κ => ?_)
  refine V.iload_n dX8_isNumber_0 rfl ?_
  refine V.iconst (v := nI 0) dX8_isNumber_1 rfl ?_
  refine V.sipush (v := nI 9972) dX8_isNumber_2 (by decide) ?_
  refine V.callS dX8_isNumber_5 (c_X8_in) lkX8_104 st_X8_in cd_X8_in ini_X8 hd_X8_in ⟨Nat.le_of_ble_eq_true rfl, Nat.le_of_ble_eq_true rfl⟩ rfl (Nat.le_of_ble_eq_true rfl) (V.kkF ?_)
  rw [in_isN (by decide)]
  cases hb : isN x (9972 + 1)
  · refine V.zret dX8_isNumber_8 rfl ?_
    exact ⟨rfl, rfl⟩
  · refine V.zret dX8_isNumber_8 rfl ?_
    exact ⟨rfl, rfl⟩
abbrev v_X8_bring (g : Gl) (κ : Ka) (Q : State → Prop) (M : Mem) (pc : Nat) (L : List (Option Value)) (st : List Value) : Prop := V g cX8_bring 6 yX8_bring.cls none (rmd 0) Q κ M pc L st
theorem c_X8_bring {g : Gl} {M : Mem} {a i b j n na nb : Nat} (ha : a ∈ g.2.2.2.2) (hb : b ∈ g.2.2.2.2) (la : ial a = na) (lb : ial b = nb) (h1 : i + n ≤ na) (h2 : j + n ≤ nb) (hne : a ≠ b ∨ j ≤ i) : Ct g yX8_bring cX8_bring 6 none 0 [.ref (g.2.2.2.1 a), .int (nI i), .ref (g.2.2.2.1 b), .int (nI j), .int (nI n)] M (fun v M' => v = none ∧ M' = brg M a i b j n) := by
  have sa := ial_small a
  have sb := ial_small b
  refine Ct.ofV (by decide) (Nat.le_of_ble_eq_true rfl) (by simp [Value.category]) (fun κ => ?_)
  refine V.iconst (v := nI 0) dX8_bring_0 rfl ?_
  refine V.istore dX8_bring_1 (by decide) ?_
  have lp := up_loop n (fun k => v_X8_bring g κ (Qm g κ (fun v M' => v = none ∧ M' = brg M a i b j n)) (aset M b j (j + k) (fun q => M a (i + (q - j)))) 3 [some (.ref (g.2.2.2.1 a)), some (.int (nI i)), some (.ref (g.2.2.2.1 b)), some (.int (nI j)), some (.int (nI n)), some (.int (nI k))] []) (fun k hk ih => ?_) 0 (by omega)
  · rw [aset_nil (show j + 0 ≤ j by omega)] at lp
    exact lp
  · refine V.iload dX8_bring_3 rfl ?_
    refine V.iload dX8_bring_5 rfl ?_
    refine V.geN (tgt := 28) dX8_bring_7 (by decide) (by omega) (by omega) (fun h3 => ?_) (fun h3 => ?_)
    · have e : k = n := by omega
      subst e
      refine V.vret dX8_bring_28 ?_
      exact ⟨rfl, rfl⟩
    · refine V.aload_n dX8_bring_10 rfl ?_
      refine V.iload_n dX8_bring_11 rfl ?_
      refine V.iload dX8_bring_12 rfl ?_
      first | refine V.iaddN dX8_bring_14 ?_ | refine V.iadd dX8_bring_14 ?_
      refine V.aload_n dX8_bring_15 rfl ?_
      refine V.iload_n dX8_bring_16 rfl ?_
      refine V.iload dX8_bring_17 rfl ?_
      first | refine V.iaddN dX8_bring_19 ?_ | refine V.iadd dX8_bring_19 ?_
      refine V.iald (n := na) dX8_bring_20 (by first | assumption | exact hI _ (by omega)) (by first | assumption | decide) (by omega) ?_
      refine V.iast (n := nb) dX8_bring_21 (by first | assumption | exact hI _ (by omega)) (by first | assumption | decide) (by omega) ?_
      refine V.iincN dX8_bring_22 (by decide) rfl ?_
      refine V.goto (tgt := 3) dX8_bring_25 (by decide) ?_
      have er : aset M b j (j + k) (fun q => M a (i + (q - j))) a (i + k) = M a (i + k) := by
        rcases hne with h | h
        · rw [aset_ne h]
        · rw [aset_hi (by omega)]
      rw [er, aset_up (f := fun q => M a (i + (q - j))) (hi := j + k) (by omega) (by show M a (i + k) = M a (i + (j + k - j)); congr 1; omega)]
      exact ih h3
theorem c_X8_together {g : Gl} {M : Mem} {x z : Int32} : Ct g yX8_together cX8_together 2 (some .int) 0 [.int x, .int z] M (fun v M' => v = some (.int (fadd x z)) ∧ M' = M) := by
  refine Ct.ofV (by decide) (Nat.le_of_ble_eq_true rfl) (by simp [Value.category]) (fun κ => ?_)
  refine V.iload_n dX8_together_0 rfl ?_
  refine V.iload_n dX8_together_1 rfl ?_
  refine V.iadd dX8_together_2 ?_
  refine V.sipush (v := nI 9973) dX8_together_3 (by decide) ?_
  first | refine V.iremN dX8_together_6 (by omega) (by omega) (by omega) ?_ | refine V.irem dX8_together_6 (by decide) ?_
  refine V.iret dX8_together_7 ?_
  exact ⟨rfl, rfl⟩
theorem c_X8_less {g : Gl} {M : Mem} {x z : Int32} : Ct g yX8_less cX8_less 2 (some .int) 0 [.int x, .int z] M (fun v M' => v = some (.int (fsub x z)) ∧ M' = M) := by
  refine Ct.ofV (by decide) (Nat.le_of_ble_eq_true rfl) (by simp [Value.category]) (fun κ => ?_)
  refine V.iload_n dX8_less_0 rfl ?_
  refine V.sipush (v := nI 9973) dX8_less_1 (by decide) ?_
  refine V.iadd dX8_less_4 ?_
  refine V.iload_n dX8_less_5 rfl ?_
  refine V.isub dX8_less_6 ?_
  refine V.sipush (v := nI 9973) dX8_less_7 (by decide) ?_
  first | refine V.iremN dX8_less_10 (by omega) (by omega) (by omega) ?_ | refine V.irem dX8_less_10 (by decide) ?_
  refine V.iret dX8_less_11 ?_
  exact ⟨by rw [← less_eq]; rfl, rfl⟩
theorem c_X8_product {g : Gl} {M : Mem} {x z : Int32} : Ct g yX8_product cX8_product 2 (some .int) 0 [.int x, .int z] M (fun v M' => v = some (.int (fmul x z)) ∧ M' = M) := by
  refine Ct.ofV (by decide) (Nat.le_of_ble_eq_true rfl) (by simp [Value.category]) (fun κ => ?_)
  refine V.iload_n dX8_product_0 rfl ?_
  refine V.iload_n dX8_product_1 rfl ?_
  refine V.imul dX8_product_2 ?_
  refine V.sipush (v := nI 9973) dX8_product_3 (by decide) ?_
  first | refine V.iremN dX8_product_6 (by omega) (by omega) (by omega) ?_ | refine V.irem dX8_product_6 (by decide) ?_
  refine V.iret dX8_product_7 ?_
  exact ⟨rfl, rfl⟩
abbrev v_X8_over (g : Gl) (κ : Ka) (Q : State → Prop) (M : Mem) (pc : Nat) (L : List (Option Value)) (st : List Value) : Prop := V g cX8_over 4 yX8_over.cls (some .int) (rmd 1) Q κ M pc L st
theorem c_X8_over {g : Gl} {M : Mem} {x : Int32} : Ct g yX8_over cX8_over 4 (some .int) 1 [.int x] M (fun v M' => v = some (.int (finv x)) ∧ M' = M) := by
  refine Ct.ofV (by decide) (Nat.le_of_ble_eq_true rfl) (by simp [Value.category]) (fun κ => ?_)
  refine V.iconst (v := nI 1) dX8_over_0 rfl ?_
  refine V.istore_n dX8_over_1 (by decide) ?_
  refine V.iload_n dX8_over_2 rfl ?_
  refine V.istore_n dX8_over_3 (by decide) ?_
  refine V.sipush (v := nI 9971) dX8_over_4 (by decide) ?_
  refine V.istore_n dX8_over_7 (by decide) ?_
  have lp : ∀ (n e : Nat) (r s : Int32), e < 2 ^ n → n ≤ 14 → pwl n e r s = finv x → v_X8_over g κ (Qm g κ (fun v M' => v = some (.int (finv x)) ∧ M' = M)) M 8 [some (.int x), some (.int r), some (.int s), some (.int (nI e))] [] := by
    intro n
    induction n with
    | zero =>
      intro e r s h0 hn hp
      have he : e = 0 := by omega
      subst he
      refine V.iload_n dX8_over_8 rfl ?_
      refine V.if_leN (tgt := 42) dX8_over_9 (by decide) (by omega) (fun h1 => ?_) (fun h1 => ?_)
      · refine V.iload_n dX8_over_42 rfl ?_
        refine V.iret dX8_over_43 ?_
        exact ⟨by rw [← hp]; rfl, rfl⟩
      · omega
    | succ n ih =>
      intro e r s h0 hn hp
      have hb : e < 2 ^ 31 := Nat.lt_of_lt_of_le h0 (Nat.pow_le_pow_right (by decide) (by omega))
      refine V.iload_n dX8_over_8 rfl ?_
      refine V.if_leN (tgt := 42) dX8_over_9 (by decide) (by omega) (fun h1 => ?_) (fun h1 => ?_)
      · refine V.iload_n dX8_over_42 rfl ?_
        refine V.iret dX8_over_43 ?_
        exact ⟨by rw [← hp, pwl, if_pos h1], rfl⟩
      · rw [pwl, if_neg (by omega)] at hp
        have h2 : e / 2 < 2 ^ n := by rw [Nat.pow_succ] at h0; omega
        refine V.iload_n dX8_over_12 rfl ?_
        refine V.iconst (v := nI 2) dX8_over_13 rfl ?_
        first | refine V.iremN dX8_over_14 (by omega) (by omega) (by omega) ?_ | refine V.irem dX8_over_14 (by decide) ?_
        refine V.iconst (v := nI 1) dX8_over_15 rfl ?_
        refine V.neN (tgt := 27) dX8_over_16 (by decide) (by omega) (by omega) (fun h3 => ?_) (fun h3 => ?_)
        · rw [if_neg h3] at hp
          refine V.iload_n dX8_over_27 rfl ?_
          refine V.istore_n dX8_over_28 (by decide) ?_
          refine V.iload_n dX8_over_29 rfl ?_
          refine V.iload_n dX8_over_30 rfl ?_
          refine V.callS dX8_over_31 (c_X8_product) lkX8_108 st_X8_product cd_X8_product ini_X8 hd_X8_product ⟨Nat.le_of_ble_eq_true rfl, Nat.le_of_ble_eq_true rfl⟩ rfl (Nat.le_of_ble_eq_true rfl) (V.kkF ?_)
          refine V.istore_n dX8_over_34 (by decide) ?_
          refine V.iload_n dX8_over_35 rfl ?_
          refine V.iconst (v := nI 2) dX8_over_36 rfl ?_
          first | refine V.idivN dX8_over_37 (by omega) (by omega) (by omega) ?_ | refine V.idiv dX8_over_37 (by decide) ?_
          refine V.istore_n dX8_over_38 (by decide) ?_
          refine V.goto (tgt := 8) dX8_over_39 (by decide) ?_
          exact ih (e / 2) r _ h2 (by omega) hp
        · rw [if_pos h3] at hp
          refine V.iload_n dX8_over_19 rfl ?_
          refine V.iload_n dX8_over_20 rfl ?_
          refine V.callS dX8_over_21 (c_X8_product) lkX8_108 st_X8_product cd_X8_product ini_X8 hd_X8_product ⟨Nat.le_of_ble_eq_true rfl, Nat.le_of_ble_eq_true rfl⟩ rfl (Nat.le_of_ble_eq_true rfl) (V.kkF ?_)
          refine V.goto (tgt := 28) dX8_over_24 (by decide) ?_
          refine V.istore_n dX8_over_28 (by decide) ?_
          refine V.iload_n dX8_over_29 rfl ?_
          refine V.iload_n dX8_over_30 rfl ?_
          refine V.callS dX8_over_31 (c_X8_product) lkX8_108 st_X8_product cd_X8_product ini_X8 hd_X8_product ⟨Nat.le_of_ble_eq_true rfl, Nat.le_of_ble_eq_true rfl⟩ rfl (Nat.le_of_ble_eq_true rfl) (V.kkF ?_)
          refine V.istore_n dX8_over_34 (by decide) ?_
          refine V.iload_n dX8_over_35 rfl ?_
          refine V.iconst (v := nI 2) dX8_over_36 rfl ?_
          first | refine V.idivN dX8_over_37 (by omega) (by omega) (by omega) ?_ | refine V.idiv dX8_over_37 (by decide) ?_
          refine V.istore_n dX8_over_38 (by decide) ?_
          refine V.goto (tgt := 8) dX8_over_39 (by decide) ?_
          exact ih (e / 2) _ _ h2 (by omega) hp
  exact lp 14 9971 _ _ (by decide) (by decide) rfl
theorem c_X8_toMade {g : Gl} {M : Mem} {b : Nat} (hI : ∀ i, 142 ≤ i ∧ i < 174 → i ∈ g.2.2.2.2) (hb : b ∈ g.2.2.2.2) (lb : ial b = 9) : Ct g yX8_toMade cX8_toMade 3 none 1 [.ref (g.2.2.2.1 142), .ref (g.2.2.2.1 b), .int (nI 0)] M (fun v M' => v = none ∧ M' = aset M b 0 9 (M 150)) := by
  refine Ct.ofV (by decide) (Nat.le_of_ble_eq_true rfl) (by simp [Value.category]) (fun κ => ?_)
  refine V.aload_n dX8_toMade_0 rfl ?_
  refine V.getf (ci := 7) (k := 9) (C := RX8) (T := TX8) (N := 37) dX8_toMade_1 lfX8_32 inX8 rfl (by first | assumption | exact hI _ (by omega)) rfl (by decide) rfl ?_
  refine V.iconst (v := nI 0) dX8_toMade_4 rfl ?_
  refine V.aload_n dX8_toMade_5 rfl ?_
  refine V.iload_n dX8_toMade_6 rfl ?_
  refine V.bipush (v := nI 9) dX8_toMade_7 (by decide) ?_
  refine V.callS dX8_toMade_9 (c_X8_bring (a := 150) (na := 9) (nb := 9) (hI 150 (by decide)) hb rfl lb (by decide) (by decide) (Or.inr (Nat.le_refl 0))) lkX8_112 st_X8_bring cd_X8_bring ini_X8 hd_X8_bring ⟨Nat.le_of_ble_eq_true rfl, Nat.le_of_ble_eq_true rfl⟩ rfl (Nat.le_of_ble_eq_true rfl) (V.kkN ?_)
  refine V.vret dX8_toMade_12 ?_
  exact ⟨rfl, by rw [brg_as, sl_0]⟩
abbrev v_X8_clears (g : Gl) (κ : Ka) (Q : State → Prop) (M : Mem) (pc : Nat) (L : List (Option Value)) (st : List Value) : Prop := V g cX8_clears 2 yX8_clears.cls none (rmd 0) Q κ M pc L st
theorem c_X8_clears {g : Gl} {M : Mem} (hI : ∀ i, 142 ≤ i ∧ i < 174 → i ∈ g.2.2.2.2) : Ct g yX8_clears cX8_clears 2 none 0 [.ref (g.2.2.2.1 142)] M (fun v M' => v = none ∧ M' = aset M 150 0 9 (fun _ => nI 0)) := by
  refine Ct.ofV (by decide) (Nat.le_of_ble_eq_true rfl) (by simp [Value.category]) (fun κ => ?_)
  refine V.iconst (v := nI 0) dX8_clears_0 rfl ?_
  refine V.istore_n dX8_clears_1 (by decide) ?_
  have lp := up_loop 9 (fun j => v_X8_clears g κ (Qm g κ (fun v M' => v = none ∧ M' = aset M 150 0 9 (fun _ => nI 0))) (aset M 150 0 j (fun _ => nI 0)) 2 [some (.ref (g.2.2.2.1 142)), some (.int (nI j))] []) (fun j hj ih => ?_) 0 (by omega)
  · rw [aset_nil (Nat.le_refl 0)] at lp
    exact lp
  · refine V.iload_n dX8_clears_2 rfl ?_
    refine V.bipush (v := nI 9) dX8_clears_3 (by decide) ?_
    refine V.geN (tgt := 21) dX8_clears_5 (by decide) (by omega) (by omega) (fun h1 => ?_) (fun h1 => ?_)
    · have e : j = 9 := by omega
      subst e
      refine V.vret dX8_clears_21 ?_
      exact ⟨rfl, rfl⟩
    · refine V.aload_n dX8_clears_8 rfl ?_
      refine V.getf (ci := 7) (k := 9) (C := RX8) (T := TX8) (N := 37) dX8_clears_9 lfX8_32 inX8 rfl (by first | assumption | exact hI _ (by omega)) rfl (by decide) rfl ?_
      refine V.iload_n dX8_clears_12 rfl ?_
      refine V.iconst (v := nI 0) dX8_clears_13 rfl ?_
      refine V.iast (n := 9) dX8_clears_14 (by first | assumption | exact hI _ (by omega)) (by first | assumption | decide) (by omega) ?_
      refine V.iincN dX8_clears_15 (by decide) rfl ?_
      refine V.goto (tgt := 2) dX8_clears_18 (by decide) ?_
      rw [aset_up (f := fun _ => nI 0) (hi := j) (Nat.zero_le _) rfl]
      exact ih h1
/-- the products so far: x whole rows, and of the next one those up to place x + y -/
def mcv (a b : Ser) (x y n : Nat) : Int32 := cvl a b n (if n < x + y then min (x + 1) (n + 1) else min x (n + 1))
abbrev v_X8_multiplies (g : Gl) (κ : Ka) (Q : State → Prop) (M : Mem) (pc : Nat) (L : List (Option Value)) (st : List Value) : Prop := V g cX8_multiplies 8 yX8_multiplies.cls none (rmd 2) Q κ M pc L st
theorem c_X8_multiplies {g : Gl} {M : Mem} {a i b j c na nb : Nat} (hI : ∀ i, 142 ≤ i ∧ i < 174 → i ∈ g.2.2.2.2) (ha : a ∈ g.2.2.2.2) (la : ial a = na) (h1 : i + 9 ≤ na) (hb : b ∈ g.2.2.2.2) (lb : ial b = nb) (h2 : j + 9 ≤ nb) (hc : c ∈ g.2.2.2.2) (lc : ial c = 9) (ha1 : a ≠ 150) (hb1 : b ≠ 150) : Ct g yX8_multiplies cX8_multiplies 8 none 2 [.ref (g.2.2.2.1 142), .ref (g.2.2.2.1 a), .int (nI i), .ref (g.2.2.2.1 b), .int (nI j), .ref (g.2.2.2.1 c)] M (fun v M' => v = none ∧ M' = aset (aset M 150 0 9 (fprod (sl (M a) i) (sl (M b) j))) c 0 9 (fprod (sl (M a) i) (sl (M b) j))) := by
  have sa := ial_small a
  have sb := ial_small b
  refine Ct.ofV (by decide) (Nat.le_of_ble_eq_true rfl) (by simp [Value.category]) (fun κ => ?_)
  refine V.aload_n dX8_multiplies_0 rfl ?_
  refine V.callV (ci := 7) (T := TX8) (N := 37) dX8_multiplies_1 (c_X8_clears hI) lkX8_116 im_X8_clears se_X8_clears cd_X8_clears ini_X8 rfl (by first | assumption | exact hI _ (by omega)) rfl hd_X8_clears ⟨Nat.le_of_ble_eq_true rfl, Nat.le_of_ble_eq_true rfl⟩ rfl (Nat.le_of_ble_eq_true rfl) (V.kkN ?_)
  refine V.iconst (v := nI 0) dX8_multiplies_4 rfl ?_
  refine V.istore dX8_multiplies_5 (by decide) ?_
  have lp := up_loop 9 (fun x => ∀ x7, v_X8_multiplies g κ (Qm g κ (fun v M' => v = none ∧ M' = aset (aset M 150 0 9 (fprod (sl (M a) i) (sl (M b) j))) c 0 9 (fprod (sl (M a) i) (sl (M b) j)))) (aset M 150 0 9 (mcv (sl (M a) i) (sl (M b) j) x 0)) 7 [some (.ref (g.2.2.2.1 142)), some (.ref (g.2.2.2.1 a)), some (.int (nI i)), some (.ref (g.2.2.2.1 b)), some (.int (nI j)), some (.ref (g.2.2.2.1 c)), some (.int (nI x)), x7] []) (fun x hx ih x7 => ?_) 0 (by omega) none
  · have e0 : aset M 150 0 9 (mcv (sl (M a) i) (sl (M b) j) 0 0) = aset M 150 0 9 (fun _ => nI 0) := aset_congr (fun q _ _ => by unfold mcv; rw [if_neg (by omega), show min 0 (q + 1) = 0 by omega]; rfl)
    rw [e0] at lp
    exact lp
  · refine V.iload dX8_multiplies_7 rfl ?_
    refine V.bipush (v := nI 9) dX8_multiplies_9 (by decide) ?_
    refine V.geN (tgt := 78) dX8_multiplies_11 (by decide) (by omega) (by omega) (fun h3 => ?_) (fun h3 => ?_)
    · have e : x = 9 := by omega
      subst e
      refine V.aload_n dX8_multiplies_78 rfl ?_
      refine V.aload dX8_multiplies_79 rfl ?_
      refine V.iconst (v := nI 0) dX8_multiplies_81 rfl ?_
      have e9 : aset M 150 0 9 (mcv (sl (M a) i) (sl (M b) j) 9 0) = aset M 150 0 9 (fprod (sl (M a) i) (sl (M b) j)) := aset_congr (fun q _ hq => by unfold mcv fprod; rw [if_pos (by omega), show min (9 + 1) (q + 1) = q + 1 by omega])
      rw [e9]
      refine V.callV (ci := 7) (T := TX8) (N := 37) dX8_multiplies_82 (c_X8_toMade hI hc lc) lkX8_122 im_X8_toMade se_X8_toMade cd_X8_toMade ini_X8 rfl (by first | assumption | exact hI _ (by omega)) rfl hd_X8_toMade ⟨Nat.le_of_ble_eq_true rfl, Nat.le_of_ble_eq_true rfl⟩ rfl (Nat.le_of_ble_eq_true rfl) (V.kkN ?_)
      refine V.vret dX8_multiplies_85 ?_
      exact ⟨rfl, aset_cg9 aset_9⟩
    · refine V.iconst (v := nI 0) dX8_multiplies_14 rfl ?_
      refine V.istore dX8_multiplies_15 (by decide) ?_
      have l2 := up_loop (9 - x) (fun y => v_X8_multiplies g κ (Qm g κ (fun v M' => v = none ∧ M' = aset (aset M 150 0 9 (fprod (sl (M a) i) (sl (M b) j))) c 0 9 (fprod (sl (M a) i) (sl (M b) j)))) (aset M 150 0 9 (mcv (sl (M a) i) (sl (M b) j) x y)) 17 [some (.ref (g.2.2.2.1 142)), some (.ref (g.2.2.2.1 a)), some (.int (nI i)), some (.ref (g.2.2.2.1 b)), some (.int (nI j)), some (.ref (g.2.2.2.1 c)), some (.int (nI x)), some (.int (nI y))] []) (fun y hy iy => ?_) 0 (by omega)
      · exact l2
      · refine V.iload dX8_multiplies_17 rfl ?_
        refine V.iload dX8_multiplies_19 rfl ?_
        first | refine V.iaddN dX8_multiplies_21 ?_ | refine V.iadd dX8_multiplies_21 ?_
        refine V.bipush (v := nI 9) dX8_multiplies_22 (by decide) ?_
        refine V.geN (tgt := 72) dX8_multiplies_24 (by decide) (by omega) (by omega) (fun h4 => ?_) (fun h4 => ?_)
        · refine V.iincN dX8_multiplies_72 (by decide) rfl ?_
          refine V.goto (tgt := 7) dX8_multiplies_75 (by decide) ?_
          have e := ih h3 (some (.int (nI y)))
          have e1 : aset M 150 0 9 (mcv (sl (M a) i) (sl (M b) j) (x + 1) 0) = aset M 150 0 9 (mcv (sl (M a) i) (sl (M b) j) x y) := aset_congr (fun q _ hq => by
            unfold mcv
            rw [if_pos (show q < x + y by omega)]
            by_cases h5 : q < x + 1 + 0
            · rw [if_pos h5]; congr 1; omega
            · rw [if_neg h5])
          rw [e1] at e
          exact e
        · refine V.aload_n dX8_multiplies_27 rfl ?_
          refine V.getf (ci := 7) (k := 9) (C := RX8) (T := TX8) (N := 37) dX8_multiplies_28 lfX8_32 inX8 rfl (by first | assumption | exact hI _ (by omega)) rfl (by decide) rfl ?_
          refine V.iload dX8_multiplies_31 rfl ?_
          refine V.iload dX8_multiplies_33 rfl ?_
          first | refine V.iaddN dX8_multiplies_35 ?_ | refine V.iadd dX8_multiplies_35 ?_
          refine V.aload_n dX8_multiplies_36 rfl ?_
          refine V.getf (ci := 7) (k := 9) (C := RX8) (T := TX8) (N := 37) dX8_multiplies_37 lfX8_32 inX8 rfl (by first | assumption | exact hI _ (by omega)) rfl (by decide) rfl ?_
          refine V.iload dX8_multiplies_40 rfl ?_
          refine V.iload dX8_multiplies_42 rfl ?_
          first | refine V.iaddN dX8_multiplies_44 ?_ | refine V.iadd dX8_multiplies_44 ?_
          refine V.iald (n := 9) dX8_multiplies_45 (by first | assumption | exact hI _ (by omega)) (by first | assumption | decide) (by omega) ?_
          refine V.aload_n dX8_multiplies_46 rfl ?_
          refine V.iload_n dX8_multiplies_47 rfl ?_
          refine V.iload dX8_multiplies_48 rfl ?_
          first | refine V.iaddN dX8_multiplies_50 ?_ | refine V.iadd dX8_multiplies_50 ?_
          refine V.iald (n := na) dX8_multiplies_51 (by first | assumption | exact hI _ (by omega)) (by first | assumption | decide) (by omega) ?_
          refine V.aload_n dX8_multiplies_52 rfl ?_
          refine V.iload dX8_multiplies_53 rfl ?_
          refine V.iload dX8_multiplies_55 rfl ?_
          first | refine V.iaddN dX8_multiplies_57 ?_ | refine V.iadd dX8_multiplies_57 ?_
          refine V.iald (n := nb) dX8_multiplies_58 (by first | assumption | exact hI _ (by omega)) (by first | assumption | decide) (by omega) ?_
          refine V.callS dX8_multiplies_59 (c_X8_product) lkX8_108 st_X8_product cd_X8_product ini_X8 hd_X8_product ⟨Nat.le_of_ble_eq_true rfl, Nat.le_of_ble_eq_true rfl⟩ rfl (Nat.le_of_ble_eq_true rfl) (V.kkF ?_)
          refine V.callS dX8_multiplies_62 (c_X8_together) lkX8_119 st_X8_together cd_X8_together ini_X8 hd_X8_together ⟨Nat.le_of_ble_eq_true rfl, Nat.le_of_ble_eq_true rfl⟩ rfl (Nat.le_of_ble_eq_true rfl) (V.kkF ?_)
          refine V.iast (n := 9) dX8_multiplies_65 (by first | assumption | exact hI _ (by omega)) (by first | assumption | decide) (by omega) ?_
          refine V.iincN dX8_multiplies_66 (by decide) rfl ?_
          refine V.goto (tgt := 17) dX8_multiplies_69 (by decide) ?_
          rw [aset_in (Nat.zero_le _) (by omega), aset_ne ha1, aset_ne hb1]
          have e := iy (by omega)
          have e1 : mset (aset M 150 0 9 (mcv (sl (M a) i) (sl (M b) j) x y)) 150 (x + y) (fadd (mcv (sl (M a) i) (sl (M b) j) x y (x + y)) (fmul (M a (i + x)) (M b (j + y)))) = aset M 150 0 9 (mcv (sl (M a) i) (sl (M b) j) x (y + 1)) := by
            funext u z
            unfold mset aset
            by_cases hu : u = 150
            · subst hu
              by_cases hz : z = x + y
              · subst hz
                rw [if_pos rfl, if_pos rfl, if_pos ⟨rfl, Nat.zero_le _, by omega⟩]
                unfold mcv
                rw [if_neg (by omega), if_pos (show x + y < x + (y + 1) by omega), show min x (x + y + 1) = x by omega, show min (x + 1) (x + y + 1) = x + 1 by omega]
                show _ = fadd (cvl _ _ _ x) (fmul (sl (M a) i x) (sl (M b) j (x + y - x)))
                rw [show x + y - x = y by omega]; rfl
              · rw [if_pos rfl, if_neg hz]
                by_cases hz9 : z < 9
                · rw [if_pos ⟨rfl, Nat.zero_le _, hz9⟩, if_pos ⟨rfl, Nat.zero_le _, hz9⟩]
                  unfold mcv
                  by_cases h5 : z < x + y
                  · rw [if_pos h5, if_pos (show z < x + (y + 1) by omega)]
                  · rw [if_neg h5, if_neg (show ¬ z < x + (y + 1) by omega)]
                · rw [if_neg (by omega), if_neg (by omega)]
            · rw [if_neg hu, if_neg (by omega), if_neg (by omega)]
          rw [e1]
          exact e
abbrev v_X8_divides (g : Gl) (κ : Ka) (Q : State → Prop) (M : Mem) (pc : Nat) (L : List (Option Value)) (st : List Value) : Prop := V g cX8_divides 10 yX8_divides.cls none (rmd 2) Q κ M pc L st
theorem c_X8_divides {g : Gl} {M : Mem} {a i b j c na nb : Nat} (hI : ∀ i, 142 ≤ i ∧ i < 174 → i ∈ g.2.2.2.2) (ha : a ∈ g.2.2.2.2) (la : ial a = na) (h1 : i + 9 ≤ na) (hb : b ∈ g.2.2.2.2) (lb : ial b = nb) (h2 : j + 9 ≤ nb) (hc : c ∈ g.2.2.2.2) (lc : ial c = 9) (ha1 : a ≠ 150) (hb1 : b ≠ 150) : Ct g yX8_divides cX8_divides 10 none 2 [.ref (g.2.2.2.1 142), .ref (g.2.2.2.1 a), .int (nI i), .ref (g.2.2.2.1 b), .int (nI j), .ref (g.2.2.2.1 c)] M (fun v M' => v = none ∧ M' = aset (aset M 150 0 9 (mdiv (sl (M a) i) (sl (M b) j))) c 0 9 (mdiv (sl (M a) i) (sl (M b) j))) := by
  have sa := ial_small a
  have sb := ial_small b
  refine Ct.ofV (by decide) (Nat.le_of_ble_eq_true rfl) (by simp [Value.category]) (fun κ => ?_)
  refine V.aload_n dX8_divides_0 rfl ?_
  refine V.iload dX8_divides_1 rfl ?_
  refine V.iald (n := nb) dX8_divides_3 (by first | assumption | exact hI _ (by omega)) (by first | assumption | decide) (by omega) ?_
  refine V.callS dX8_divides_4 (c_X8_over) lkX8_126 st_X8_over cd_X8_over ini_X8 hd_X8_over ⟨Nat.le_of_ble_eq_true rfl, Nat.le_of_ble_eq_true rfl⟩ rfl (Nat.le_of_ble_eq_true rfl) (V.kkF ?_)
  refine V.istore dX8_divides_7 (by decide) ?_
  refine V.aload_n dX8_divides_9 rfl ?_
  refine V.callV (ci := 7) (T := TX8) (N := 37) dX8_divides_10 (c_X8_clears hI) lkX8_116 im_X8_clears se_X8_clears cd_X8_clears ini_X8 rfl (by first | assumption | exact hI _ (by omega)) rfl hd_X8_clears ⟨Nat.le_of_ble_eq_true rfl, Nat.le_of_ble_eq_true rfl⟩ rfl (Nat.le_of_ble_eq_true rfl) (V.kkN ?_)
  refine V.iconst (v := nI 0) dX8_divides_13 rfl ?_
  refine V.istore dX8_divides_14 (by decide) ?_
  have lp := up_loop 9 (fun n => ∀ M1 x8 x9, keep (fun q => q = 150) M M1 → (∀ k, k < n → M1 150 k = mdiv (sl (M a) i) (sl (M b) j) k) → (∀ k, 9 ≤ k → M1 150 k = M 150 k) → v_X8_divides g κ (Qm g κ (fun v M' => v = none ∧ M' = aset (aset M 150 0 9 (mdiv (sl (M a) i) (sl (M b) j))) c 0 9 (mdiv (sl (M a) i) (sl (M b) j)))) M1 16 [some (.ref (g.2.2.2.1 142)), some (.ref (g.2.2.2.1 a)), some (.int (nI i)), some (.ref (g.2.2.2.1 b)), some (.int (nI j)), some (.ref (g.2.2.2.1 c)), some (.int (finv (M b j))), some (.int (nI n)), x8, x9] []) (fun n hn ih M1 x8 x9 k1 k2 k3 => ?_) 0 (by omega)
  · exact lp _ _ _ ((keep.rf (P := fun q => q = 150)).as rfl) (fun k hk => by omega) (fun k hk => by rw [aset_out (Or.inr hk)])
  · refine V.iload dX8_divides_16 rfl ?_
    refine V.bipush (v := nI 9) dX8_divides_18 (by decide) ?_
    refine V.geN (tgt := 94) dX8_divides_20 (by decide) (by omega) (by omega) (fun h3 => ?_) (fun h3 => ?_)
    · have e : n = 9 := by omega
      subst e
      have eM : M1 = aset M 150 0 9 (mdiv (sl (M a) i) (sl (M b) j)) := by
        funext u z
        by_cases hu : u = 150
        · subst hu
          by_cases hz : z < 9
          · rw [aset_in (Nat.zero_le _) hz]; exact k2 z hz
          · rw [aset_out (by omega)]; exact k3 z (by omega)
        · rw [aset_ne hu, k1 u hu]
      rw [eM]
      refine V.aload_n dX8_divides_94 rfl ?_
      refine V.aload dX8_divides_95 rfl ?_
      refine V.iconst (v := nI 0) dX8_divides_97 rfl ?_
      refine V.callV (ci := 7) (T := TX8) (N := 37) dX8_divides_98 (c_X8_toMade hI hc lc) lkX8_122 im_X8_toMade se_X8_toMade cd_X8_toMade ini_X8 rfl (by first | assumption | exact hI _ (by omega)) rfl hd_X8_toMade ⟨Nat.le_of_ble_eq_true rfl, Nat.le_of_ble_eq_true rfl⟩ rfl (Nat.le_of_ble_eq_true rfl) (V.kkN ?_)
      refine V.vret dX8_divides_101 ?_
      exact ⟨rfl, aset_cg9 aset_9⟩
    · refine V.aload_n dX8_divides_23 rfl ?_
      refine V.iload_n dX8_divides_24 rfl ?_
      refine V.iload dX8_divides_25 rfl ?_
      first | refine V.iaddN dX8_divides_27 ?_ | refine V.iadd dX8_divides_27 ?_
      refine V.iald (n := na) dX8_divides_28 (by first | assumption | exact hI _ (by omega)) (by first | assumption | decide) (by omega) ?_
      rw [k1 a ha1]
      refine V.istore dX8_divides_29 (by decide) ?_
      refine V.iconst (v := nI 0) dX8_divides_31 rfl ?_
      refine V.istore dX8_divides_32 (by decide) ?_
      have l2 := up_loop n (fun x => v_X8_divides g κ (Qm g κ (fun v M' => v = none ∧ M' = aset (aset M 150 0 9 (mdiv (sl (M a) i) (sl (M b) j))) c 0 9 (mdiv (sl (M a) i) (sl (M b) j)))) M1 34 [some (.ref (g.2.2.2.1 142)), some (.ref (g.2.2.2.1 a)), some (.int (nI i)), some (.ref (g.2.2.2.1 b)), some (.int (nI j)), some (.ref (g.2.2.2.1 c)), some (.int (finv (M b j))), some (.int (nI n)), some (.int (mdl (mdiv (sl (M a) i) (sl (M b) j)) (sl (M a) i) (sl (M b) j) n x)), some (.int (nI x))] []) (fun x hx ix => ?_) 0 (by omega)
      · exact l2
      · refine V.iload dX8_divides_34 rfl ?_
        refine V.iload dX8_divides_36 rfl ?_
        refine V.geN (tgt := 74) dX8_divides_38 (by decide) (by omega) (by omega) (fun h4 => ?_) (fun h4 => ?_)
        · have e : x = n := by omega
          subst e
          refine V.aload_n dX8_divides_74 rfl ?_
          refine V.getf (ci := 7) (k := 9) (C := RX8) (T := TX8) (N := 37) dX8_divides_75 lfX8_32 inX8 rfl (by first | assumption | exact hI _ (by omega)) rfl (by decide) rfl ?_
          refine V.iload dX8_divides_78 rfl ?_
          refine V.iload dX8_divides_80 rfl ?_
          refine V.iload dX8_divides_82 rfl ?_
          refine V.callS dX8_divides_84 (c_X8_product) lkX8_108 st_X8_product cd_X8_product ini_X8 hd_X8_product ⟨Nat.le_of_ble_eq_true rfl, Nat.le_of_ble_eq_true rfl⟩ rfl (Nat.le_of_ble_eq_true rfl) (V.kkF ?_)
          refine V.iast (n := 9) dX8_divides_87 (by first | assumption | exact hI _ (by omega)) (by first | assumption | decide) (by omega) ?_
          refine V.iincN dX8_divides_88 (by decide) rfl ?_
          refine V.goto (tgt := 16) dX8_divides_91 (by decide) ?_
          refine ih h3 _ _ _ (k1.ms rfl) (fun k hk => ?_) (fun k hk => ?_)
          · by_cases e : k = x
            · subst e
              rw [mset_at, mdiv_eq]
              rfl
            · rw [mset_nat e]; exact k2 k (by omega)
          · rw [mset_nat (by omega)]; exact k3 k hk
        · refine V.iload dX8_divides_41 rfl ?_
          refine V.aload_n dX8_divides_43 rfl ?_
          refine V.getf (ci := 7) (k := 9) (C := RX8) (T := TX8) (N := 37) dX8_divides_44 lfX8_32 inX8 rfl (by first | assumption | exact hI _ (by omega)) rfl (by decide) rfl ?_
          refine V.iload dX8_divides_47 rfl ?_
          refine V.iald (n := 9) dX8_divides_49 (by first | assumption | exact hI _ (by omega)) (by first | assumption | decide) (by omega) ?_
          refine V.aload_n dX8_divides_50 rfl ?_
          refine V.iload dX8_divides_51 rfl ?_
          refine V.iload dX8_divides_53 rfl ?_
          first | refine V.iaddN dX8_divides_55 ?_ | refine V.iadd dX8_divides_55 ?_
          refine V.iload dX8_divides_56 rfl ?_
          first | refine V.isubN dX8_divides_58 (by omega) ?_ | refine V.isub dX8_divides_58 ?_
          refine V.iald (n := nb) dX8_divides_59 (by first | assumption | exact hI _ (by omega)) (by first | assumption | decide) (by omega) ?_
          refine V.callS dX8_divides_60 (c_X8_product) lkX8_108 st_X8_product cd_X8_product ini_X8 hd_X8_product ⟨Nat.le_of_ble_eq_true rfl, Nat.le_of_ble_eq_true rfl⟩ rfl (Nat.le_of_ble_eq_true rfl) (V.kkF ?_)
          refine V.callS dX8_divides_63 (c_X8_less) lkX8_130 st_X8_less cd_X8_less ini_X8 hd_X8_less ⟨Nat.le_of_ble_eq_true rfl, Nat.le_of_ble_eq_true rfl⟩ rfl (Nat.le_of_ble_eq_true rfl) (V.kkF ?_)
          refine V.istore dX8_divides_66 (by decide) ?_
          refine V.iincN dX8_divides_68 (by decide) rfl ?_
          refine V.goto (tgt := 34) dX8_divides_71 (by decide) ?_
          rw [k2 x (by omega), k1 b hb1, show j + n - x = j + (n - x) by omega]
          exact ix h4

