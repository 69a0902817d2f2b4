theorem c_X8_isLetter {g : Gl} {M : Mem} {x : Int32} : Ct g yX8_isLetter cX8_isLetter 1 (some .boolean) 0 [.int x] M (fun v M' => v = some (.int (nI (isNm x).toNat)) ∧ M' = M) := by
  refine Ct.ofV (by decide) (Nat.le_of_ble_eq_true rfl) (by simp [Value.category]) (fun κ => ?_)
  refine V.iload_n dX8_isLetter_0 rfl ?_
  refine V.bipush (v := nI 101) dX8_isLetter_1 (by decide) ?_
  refine V.icmp_eq (tgt := 24) dX8_isLetter_3 (by decide) (fun h1 => ?_) (fun h1 => ?_)
  · refine V.iconst (v := nI 1) dX8_isLetter_24 rfl ?_
    refine V.goto (tgt := 29) dX8_isLetter_25 (by decide) ?_
    refine V.zret dX8_isLetter_29 rfl ?_
    exact ⟨by simp [isNm, h1], rfl⟩
  · refine V.iload_n dX8_isLetter_6 rfl ?_
    refine V.bipush (v := nI 113) dX8_isLetter_7 (by decide) ?_
    refine V.icmp_eq (tgt := 24) dX8_isLetter_9 (by decide) (fun h2 => ?_) (fun h2 => ?_)
    · refine V.iconst (v := nI 1) dX8_isLetter_24 rfl ?_
      refine V.goto (tgt := 29) dX8_isLetter_25 (by decide) ?_
      refine V.zret dX8_isLetter_29 rfl ?_
      exact ⟨by simp [isNm, h2], rfl⟩
    · refine V.iload_n dX8_isLetter_12 rfl ?_
      refine V.bipush (v := nI 108) dX8_isLetter_13 (by decide) ?_
      refine V.icmp_eq (tgt := 24) dX8_isLetter_15 (by decide) (fun h3 => ?_) (fun h3 => ?_)
      · refine V.iconst (v := nI 1) dX8_isLetter_24 rfl ?_
        refine V.goto (tgt := 29) dX8_isLetter_25 (by decide) ?_
        refine V.zret dX8_isLetter_29 rfl ?_
        exact ⟨by simp [isNm, h3], rfl⟩
      · refine V.iload_n dX8_isLetter_18 rfl ?_
        refine V.bipush (v := nI 105) dX8_isLetter_19 (by decide) ?_
        refine V.icmp_ne (tgt := 28) dX8_isLetter_21 (by decide) (fun h4 => ?_) (fun h4 => ?_)
        · refine V.iconst (v := nI 0) dX8_isLetter_28 rfl ?_
          refine V.zret dX8_isLetter_29 rfl ?_
          exact ⟨by simp [isNm, h1, h2, h3, h4], rfl⟩
        · refine V.iconst (v := nI 1) dX8_isLetter_24 rfl ?_
          refine V.goto (tgt := 29) dX8_isLetter_25 (by decide) ?_
          refine V.zret dX8_isLetter_29 rfl ?_
          exact ⟨by simp [isNm, h4], rfl⟩
theorem c_X8_isDigit {g : Gl} {M : Mem} {x : Int32} : Ct g yX8_isDigit cX8_isDigit 1 (some .boolean) 0 [.int x] M (fun v M' => v = some (.int (nI (isDg x).toNat)) ∧ M' = M) := by
  refine Ct.ofV (by decide) (Nat.le_of_ble_eq_true rfl) (by simp [Value.category]) (fun κ => ?_)
  refine V.iload_n dX8_isDigit_0 rfl ?_
  refine V.bipush (v := nI 48) dX8_isDigit_1 (by decide) ?_
  refine V.icmp_lt (tgt := 16) dX8_isDigit_3 (by decide) (fun h1 => ?_) (fun h1 => ?_)
  · refine V.iconst (v := nI 0) dX8_isDigit_16 rfl ?_
    refine V.zret dX8_isDigit_17 rfl ?_
    exact ⟨by simp [isDg, h1], rfl⟩
  · refine V.iload_n dX8_isDigit_6 rfl ?_
    refine V.bipush (v := nI 57) dX8_isDigit_7 (by decide) ?_
    refine V.icmp_gt (tgt := 16) dX8_isDigit_9 (by decide) (fun h2 => ?_) (fun h2 => ?_)
    · refine V.iconst (v := nI 0) dX8_isDigit_16 rfl ?_
      refine V.zret dX8_isDigit_17 rfl ?_
      exact ⟨by simp [isDg, h2], rfl⟩
    · refine V.iconst (v := nI 1) dX8_isDigit_12 rfl ?_
      refine V.goto (tgt := 17) dX8_isDigit_13 (by decide) ?_
      refine V.zret dX8_isDigit_17 rfl ?_
      exact ⟨by simp [isDg, h1, h2], rfl⟩
abbrev v_X8_sign (g : Gl) (κ : Ka) (Q : State → Prop) (M : Mem) (pc : Nat) (L : List (Option Value)) (st : List Value) : Prop := V g cX8_sign 1 yX8_sign.cls (some .int) (rmd 0) Q κ M pc L st
theorem c_X8_sign {g : Gl} {M : Mem} {l : Ser} {n p o : Nat} {w : Bool} {ah : Int32} (hI : ∀ i, 142 ≤ i ∧ i < 174 → i ∈ g.2.2.2.2) (h : MI l n p o w ah M) : Ct g yX8_sign cX8_sign 1 (some .int) 0 [.ref (g.2.2.2.1 142)] M (fun v M' => v = some (.int (fs l n p)) ∧ MI l n (sk l n p) o w ah M' ∧ keep (fun j => j = 142) M M' ∧ KM M M') := by
  refine Ct.ofV (by decide) (Nat.le_of_ble_eq_true rfl) (by simp [Value.category]) (fun κ => ?_)
  have out : ∀ q M1, sk l n q = q → sk l n p = q → MI l n q o w ah M1 → keep (fun j => j = 142) M M1 → KM M M1 → v_X8_sign g κ (Qm g κ (fun v M' => v = some (.int (fs l n p)) ∧ MI l n (sk l n p) o w ah M' ∧ keep (fun j => j = 142) M M' ∧ KM M M')) M1 38 [some (.ref (g.2.2.2.1 142))] [] := by
    intro q M1 e1 e2 h1 k1 k2
    obtain ⟨a1, a2, a3, a4, a5, a6, a7, a8, a9⟩ := id h1
    have ef : fs l n p = fs l n q := by unfold fs; rw [e2, e1]
    refine V.aload_n dX8_sign_38 rfl ?_
    refine V.getf (ci := 7) (k := 15) (C := RX8) (T := TX8) (N := 37) dX8_sign_39 lfX8_140 inX8 rfl (by first | assumption | exact hI _ (by omega)) rfl (by decide) rfl ?_
    refine V.aload_n dX8_sign_42 rfl ?_
    refine V.getf (ci := 7) (k := 8) (C := RX8) (T := TX8) (N := 37) dX8_sign_43 lfX8_144 inX8 rfl (by first | assumption | exact hI _ (by omega)) rfl (by decide) rfl ?_
    rw [a6, a5]
    refine V.geN (tgt := 61) dX8_sign_46 (by decide) (by omega) (by omega) (fun h3 => ?_) (fun h3 => ?_)
    · refine V.iconst (v := -1) dX8_sign_61 rfl ?_
      refine V.iret dX8_sign_62 ?_
      exact ⟨by rw [ef, fs_end e1 (by omega)], by rw [e2]; exact h1, k1, k2⟩
    · refine V.aload_n dX8_sign_49 rfl ?_
      refine V.getf (ci := 7) (k := 7) (C := RX8) (T := TX8) (N := 37) dX8_sign_50 lfX8_29 inX8 rfl (by first | assumption | exact hI _ (by omega)) rfl (by decide) rfl ?_
      refine V.aload_n dX8_sign_53 rfl ?_
      refine V.getf (ci := 7) (k := 15) (C := RX8) (T := TX8) (N := 37) dX8_sign_54 lfX8_140 inX8 rfl (by first | assumption | exact hI _ (by omega)) rfl (by decide) rfl ?_
      rw [a6]
      refine V.iald (n := 120) dX8_sign_57 (by first | assumption | exact hI _ (by omega)) (by first | assumption | decide) (by omega) ?_
      refine V.goto (tgt := 62) dX8_sign_58 (by decide) ?_
      refine V.iret dX8_sign_62 ?_
      exact ⟨by rw [ef, fs_at e1 h3, a4], by rw [e2]; exact h1, k1, k2⟩
  have lp : ∀ f q M1, n - q = f → sk l n q = sk l n p → MI l n q o w ah M1 → keep (fun j => j = 142) M M1 → KM M M1 → v_X8_sign g κ (Qm g κ (fun v M' => v = some (.int (fs l n p)) ∧ MI l n (sk l n p) o w ah M' ∧ keep (fun j => j = 142) M M' ∧ KM M M')) M1 0 [some (.ref (g.2.2.2.1 142))] [] := by
    intro f
    induction f with
    | zero =>
      intro q M1 hf e1 h1 k1 k2
      obtain ⟨a1, a2, a3, a4, a5, a6, a7, a8, a9⟩ := id h1
      have e2 : sk l n q = q := sk_no (by omega)
      refine V.aload_n dX8_sign_0 rfl ?_
      refine V.getf (ci := 7) (k := 15) (C := RX8) (T := TX8) (N := 37) dX8_sign_1 lfX8_140 inX8 rfl (by first | assumption | exact hI _ (by omega)) rfl (by decide) rfl ?_
      refine V.aload_n dX8_sign_4 rfl ?_
      refine V.getf (ci := 7) (k := 8) (C := RX8) (T := TX8) (N := 37) dX8_sign_5 lfX8_144 inX8 rfl (by first | assumption | exact hI _ (by omega)) rfl (by decide) rfl ?_
      rw [a6, a5]
      refine V.geN (tgt := 38) dX8_sign_8 (by decide) (by omega) (by omega) (fun h3 => ?_) (fun h3 => ?_)
      · exact out q M1 e2 (by rw [← e1, e2]) h1 k1 k2
      · omega
    | succ f ih =>
      intro q M1 hf e1 h1 k1 k2
      obtain ⟨a1, a2, a3, a4, a5, a6, a7, a8, a9⟩ := id h1
      refine V.aload_n dX8_sign_0 rfl ?_
      refine V.getf (ci := 7) (k := 15) (C := RX8) (T := TX8) (N := 37) dX8_sign_1 lfX8_140 inX8 rfl (by first | assumption | exact hI _ (by omega)) rfl (by decide) rfl ?_
      refine V.aload_n dX8_sign_4 rfl ?_
      refine V.getf (ci := 7) (k := 8) (C := RX8) (T := TX8) (N := 37) dX8_sign_5 lfX8_144 inX8 rfl (by first | assumption | exact hI _ (by omega)) rfl (by decide) rfl ?_
      rw [a6, a5]
      refine V.geN (tgt := 38) dX8_sign_8 (by decide) (by omega) (by omega) (fun h3 => ?_) (fun h3 => ?_)
      · omega
      · refine V.aload_n dX8_sign_11 rfl ?_
        refine V.getf (ci := 7) (k := 7) (C := RX8) (T := TX8) (N := 37) dX8_sign_12 lfX8_29 inX8 rfl (by first | assumption | exact hI _ (by omega)) rfl (by decide) rfl ?_
        refine V.aload_n dX8_sign_15 rfl ?_
        refine V.getf (ci := 7) (k := 15) (C := RX8) (T := TX8) (N := 37) dX8_sign_16 lfX8_140 inX8 rfl (by first | assumption | exact hI _ (by omega)) rfl (by decide) rfl ?_
        rw [a6]
        refine V.iald (n := 120) dX8_sign_19 (by first | assumption | exact hI _ (by omega)) (by first | assumption | decide) (by omega) ?_
        refine V.bipush (v := nI 32) dX8_sign_20 (by decide) ?_
        rw [a4]
        refine V.icmp_ne (tgt := 38) dX8_sign_22 (by decide) (fun h4 => ?_) (fun h4 => ?_)
        · have e2 : sk l n q = q := sk_no (fun z => h4 z.2)
          exact out q M1 e2 (by rw [← e1, e2]) h1 k1 k2
        · have h4 : l q = nI 32 := by simpa using h4
          refine V.aload_n dX8_sign_25 rfl ?_
          refine V.dup dX8_sign_26 rfl ?_
          refine V.getf (ci := 7) (k := 15) (C := RX8) (T := TX8) (N := 37) dX8_sign_27 lfX8_140 inX8 rfl (by first | assumption | exact hI _ (by omega)) rfl (by decide) rfl ?_
          rw [a6]
          refine V.iconst (v := nI 1) dX8_sign_30 rfl ?_
          first | refine V.iaddN dX8_sign_31 ?_ | refine V.iadd dX8_sign_31 ?_
          refine V.putf (ci := 7) (k := 15) (C := RX8) (T := TX8) (N := 37) (ty := .int) tyX8 dX8_sign_32 lfX8_140 inX8 tyX8_ok nmX8 rfl (by first | assumption | exact hI _ (by omega)) rfl (by decide) rfl rfl rfl rfl (Nat.le_of_ble_eq_true rfl) rfl ?_
          refine V.goto (tgt := 0) dX8_sign_35 (by decide) ?_
          exact ih (q + 1) _ (by omega) (by rw [← sk_yes h3 h4]; exact e1) (h1.p' (by omega)) (k1.ms rfl) (k2.tr (KM.ms (by omega)))
  exact lp _ p M rfl rfl h keep.rf KM.rf
abbrev v_X8_figures (g : Gl) (κ : Ka) (Q : State → Prop) (M : Mem) (pc : Nat) (L : List (Option Value)) (st : List Value) : Prop := V g cX8_figures 2 yX8_figures.cls (some .int) (rmd 1) Q κ M pc L st
theorem c_X8_figures {g : Gl} {M : Mem} {l : Ser} {n p o : Nat} {w : Bool} {ah : Int32} (hI : ∀ i, 142 ≤ i ∧ i < 174 → i ∈ g.2.2.2.2) (h : MI l n p o w ah M) : Ct g yX8_figures cX8_figures 2 (some .int) 1 [.ref (g.2.2.2.1 142)] M (fun v M' => v = some (.int (nI (dg l n p - p))) ∧ M' = M) := by
  obtain ⟨a1, a2, a3, a4, a5, a6, a7, a8, a9⟩ := id h
  refine Ct.ofV (by decide) (Nat.le_of_ble_eq_true rfl) (by simp [Value.category]) (fun κ => ?_)
  refine V.iconst (v := nI 0) dX8_figures_0 rfl ?_
  refine V.istore_n dX8_figures_1 (by decide) ?_
  have lp : ∀ f k, n - (p + k) = f → p + k ≤ n → dg l n (p + k) = dg l n p → v_X8_figures g κ (Qm g κ (fun v M' => v = some (.int (nI (dg l n p - p))) ∧ M' = M)) M 2 [some (.ref (g.2.2.2.1 142)), some (.int (nI k))] [] := by
    intro f
    induction f with
    | zero =>
      intro k hf hk e1
      refine V.aload_n dX8_figures_2 rfl ?_
      refine V.getf (ci := 7) (k := 15) (C := RX8) (T := TX8) (N := 37) dX8_figures_3 lfX8_140 inX8 rfl (by first | assumption | exact hI _ (by omega)) rfl (by decide) rfl ?_
      rw [a6]
      refine V.iload_n dX8_figures_6 rfl ?_
      first | refine V.iaddN dX8_figures_7 ?_ | refine V.iadd dX8_figures_7 ?_
      refine V.aload_n dX8_figures_8 rfl ?_
      refine V.getf (ci := 7) (k := 8) (C := RX8) (T := TX8) (N := 37) dX8_figures_9 lfX8_144 inX8 rfl (by first | assumption | exact hI _ (by omega)) rfl (by decide) rfl ?_
      rw [a5]
      refine V.geN (tgt := 38) dX8_figures_12 (by decide) (by omega) (by omega) (fun h3 => ?_) (fun h3 => ?_)
      · refine V.iload_n dX8_figures_38 rfl ?_
        refine V.iret dX8_figures_39 ?_
        have := dg_no (l := l) (n := n) (p := p + k) (by omega)
        exact ⟨by rw [show dg l n p - p = k by omega], rfl⟩
      · omega
    | succ f ih =>
      intro k hf hk e1
      refine V.aload_n dX8_figures_2 rfl ?_
      refine V.getf (ci := 7) (k := 15) (C := RX8) (T := TX8) (N := 37) dX8_figures_3 lfX8_140 inX8 rfl (by first | assumption | exact hI _ (by omega)) rfl (by decide) rfl ?_
      rw [a6]
      refine V.iload_n dX8_figures_6 rfl ?_
      first | refine V.iaddN dX8_figures_7 ?_ | refine V.iadd dX8_figures_7 ?_
      refine V.aload_n dX8_figures_8 rfl ?_
      refine V.getf (ci := 7) (k := 8) (C := RX8) (T := TX8) (N := 37) dX8_figures_9 lfX8_144 inX8 rfl (by first | assumption | exact hI _ (by omega)) rfl (by decide) rfl ?_
      rw [a5]
      refine V.geN (tgt := 38) dX8_figures_12 (by decide) (by omega) (by omega) (fun h3 => ?_) (fun h3 => ?_)
      · omega
      · refine V.aload_n dX8_figures_15 rfl ?_
        refine V.getf (ci := 7) (k := 7) (C := RX8) (T := TX8) (N := 37) dX8_figures_16 lfX8_29 inX8 rfl (by first | assumption | exact hI _ (by omega)) rfl (by decide) rfl ?_
        refine V.aload_n dX8_figures_19 rfl ?_
        refine V.getf (ci := 7) (k := 15) (C := RX8) (T := TX8) (N := 37) dX8_figures_20 lfX8_140 inX8 rfl (by first | assumption | exact hI _ (by omega)) rfl (by decide) rfl ?_
        rw [a6]
        refine V.iload_n dX8_figures_23 rfl ?_
        first | refine V.iaddN dX8_figures_24 ?_ | refine V.iadd dX8_figures_24 ?_
        refine V.iald (n := 120) dX8_figures_25 (by first | assumption | exact hI _ (by omega)) (by first | assumption | decide) (by omega) ?_
        refine V.callS dX8_figures_26 (c_X8_isDigit) lkX8_147 st_X8_isDigit cd_X8_isDigit ini_X8 hd_X8_isDigit ⟨Nat.le_of_ble_eq_true rfl, Nat.le_of_ble_eq_true rfl⟩ rfl (Nat.le_of_ble_eq_true rfl) (V.kkF ?_)
        rw [a4]
        refine V.if_eqB (tgt := 38) dX8_figures_29 (by decide) (fun h4 => ?_) (fun h4 => ?_)
        · refine V.iload_n dX8_figures_38 rfl ?_
          refine V.iret dX8_figures_39 ?_
          have := dg_no (l := l) (n := n) (p := p + k) (by rw [h4]; simp)
          exact ⟨by rw [show dg l n p - p = k by omega], rfl⟩
        · refine V.iincN dX8_figures_32 (by decide) rfl ?_
          refine V.goto (tgt := 2) dX8_figures_35 (by decide) ?_
          exact ih (k + 1) (by omega) (by omega) (by rw [← e1, dg_yes h3 h4]; rfl)
  exact lp _ 0 rfl (by omega) rfl
abbrev v_X8_numberOf (g : Gl) (κ : Ka) (Q : State → Prop) (M : Mem) (pc : Nat) (L : List (Option Value)) (st : List Value) : Prop := V g cX8_numberOf 4 yX8_numberOf.cls (some .int) (rmd 0) Q κ M pc L st
theorem c_X8_numberOf {g : Gl} {M : Mem} {l : Ser} {n p o k : Nat} {w : Bool} {ah : Int32} (hI : ∀ i, 142 ≤ i ∧ i < 174 → i ∈ g.2.2.2.2) (h : MI l n p o w ah M) (hk : p + k ≤ n) : Ct g yX8_numberOf cX8_numberOf 4 (some .int) 0 [.ref (g.2.2.2.1 142), .int (nI k)] M (fun v M' => v = some (.int (amtf l p k)) ∧ M' = M) := by
  obtain ⟨a1, a2, a3, a4, a5, a6, a7, a8, a9⟩ := id h
  refine Ct.ofV (by decide) (Nat.le_of_ble_eq_true rfl) (by simp [Value.category]) (fun κ => ?_)
  refine V.iconst (v := nI 0) dX8_numberOf_0 rfl ?_
  refine V.istore_n dX8_numberOf_1 (by decide) ?_
  refine V.iconst (v := nI 0) dX8_numberOf_2 rfl ?_
  refine V.istore_n dX8_numberOf_3 (by decide) ?_
  have lp := up_loop k (fun j => v_X8_numberOf g κ (Qm g κ (fun v M' => v = some (.int (amtf l p k)) ∧ M' = M)) M 4 [some (.ref (g.2.2.2.1 142)), some (.int (nI k)), some (.int (amtf l p j)), some (.int (nI j))] []) (fun j hj ih => ?_) 0 (by omega)
  · exact lp
  · refine V.iload_n dX8_numberOf_4 rfl ?_
    refine V.iload_n dX8_numberOf_5 rfl ?_
    refine V.geN (tgt := 35) dX8_numberOf_6 (by decide) (by omega) (by omega) (fun h1 => ?_) (fun h1 => ?_)
    · have e : j = k := by omega
      subst e
      refine V.iload_n dX8_numberOf_35 rfl ?_
      refine V.iret dX8_numberOf_36 ?_
      exact ⟨rfl, rfl⟩
    · refine V.bipush (v := nI 10) dX8_numberOf_9 (by decide) ?_
      refine V.iload_n dX8_numberOf_11 rfl ?_
      first | refine V.imulN dX8_numberOf_12 ?_ | refine V.imul dX8_numberOf_12 ?_
      refine V.aload_n dX8_numberOf_13 rfl ?_
      refine V.getf (ci := 7) (k := 7) (C := RX8) (T := TX8) (N := 37) dX8_numberOf_14 lfX8_29 inX8 rfl (by first | assumption | exact hI _ (by omega)) rfl (by decide) rfl ?_
      refine V.aload_n dX8_numberOf_17 rfl ?_
      refine V.getf (ci := 7) (k := 15) (C := RX8) (T := TX8) (N := 37) dX8_numberOf_18 lfX8_140 inX8 rfl (by first | assumption | exact hI _ (by omega)) rfl (by decide) rfl ?_
      rw [a6]
      refine V.iload_n dX8_numberOf_21 rfl ?_
      first | refine V.iaddN dX8_numberOf_22 ?_ | refine V.iadd dX8_numberOf_22 ?_
      refine V.iald (n := 120) dX8_numberOf_23 (by first | assumption | exact hI _ (by omega)) (by first | assumption | decide) (by omega) ?_
      first | refine V.iaddN dX8_numberOf_24 ?_ | refine V.iadd dX8_numberOf_24 ?_
      refine V.bipush (v := nI 48) dX8_numberOf_25 (by decide) ?_
      first | refine V.isubN dX8_numberOf_27 (by omega) ?_ | refine V.isub dX8_numberOf_27 ?_
      refine V.istore_n dX8_numberOf_28 (by decide) ?_
      refine V.iincN dX8_numberOf_29 (by decide) rfl ?_
      refine V.goto (tgt := 4) dX8_numberOf_32 (by decide) ?_
      have e := ih h1
      simp only [amtf] at e
      rw [a4, Int32.sub_eq_add_neg, Int32.add_assoc, ← Int32.sub_eq_add_neg]
      exact e
theorem c_X8_begins {g : Gl} {M : Mem} {c : Int32} {o : Nat} (hI : ∀ i, 142 ≤ i ∧ i < 174 → i ∈ g.2.2.2.2) (ho : o ≤ 6) (a7 : M 142 16 = nI o) : Ct g yX8_begins cX8_begins 2 none 0 [.ref (g.2.2.2.1 142), .int c] M (fun v M' => v = none ∧ M' = mset (mset (mset M 162 o c) 160 o (nI 0)) 161 o (nI 0)) := by
  refine Ct.ofV (by decide) (Nat.le_of_ble_eq_true rfl) (by simp [Value.category]) (fun κ => ?_)
  refine V.aload_n dX8_begins_0 rfl ?_
  refine V.getf (ci := 7) (k := 24) (C := RX8) (T := TX8) (N := 37) dX8_begins_1 lfX8_68 inX8 rfl (by first | assumption | exact hI _ (by omega)) rfl (by decide) rfl ?_
  refine V.aload_n dX8_begins_4 rfl ?_
  refine V.getf (ci := 7) (k := 16) (C := RX8) (T := TX8) (N := 37) dX8_begins_5 lfX8_151 inX8 rfl (by first | assumption | exact hI _ (by omega)) rfl (by decide) rfl ?_
  rw [a7]
  refine V.iload_n dX8_begins_8 rfl ?_
  refine V.iast (n := 7) dX8_begins_9 (by first | assumption | exact hI _ (by omega)) (by first | assumption | decide) (by omega) ?_
  refine V.aload_n dX8_begins_10 rfl ?_
  refine V.getf (ci := 7) (k := 22) (C := RX8) (T := TX8) (N := 37) dX8_begins_11 lfX8_62 inX8 rfl (by first | assumption | exact hI _ (by omega)) rfl (by decide) rfl ?_
  refine V.aload_n dX8_begins_14 rfl ?_
  refine V.getf (ci := 7) (k := 16) (C := RX8) (T := TX8) (N := 37) dX8_begins_15 lfX8_151 inX8 rfl (by first | assumption | exact hI _ (by omega)) rfl (by decide) rfl ?_
  rw [mset_ne (a := 142) (by decide), a7]
  refine V.iconst (v := nI 0) dX8_begins_18 rfl ?_
  refine V.iast (n := 7) dX8_begins_19 (by first | assumption | exact hI _ (by omega)) (by first | assumption | decide) (by omega) ?_
  refine V.aload_n dX8_begins_20 rfl ?_
  refine V.getf (ci := 7) (k := 23) (C := RX8) (T := TX8) (N := 37) dX8_begins_21 lfX8_65 inX8 rfl (by first | assumption | exact hI _ (by omega)) rfl (by decide) rfl ?_
  refine V.aload_n dX8_begins_24 rfl ?_
  refine V.getf (ci := 7) (k := 16) (C := RX8) (T := TX8) (N := 37) dX8_begins_25 lfX8_151 inX8 rfl (by first | assumption | exact hI _ (by omega)) rfl (by decide) rfl ?_
  rw [mset_ne (a := 142) (by decide), mset_ne (a := 142) (by decide), a7]
  refine V.iconst (v := nI 0) dX8_begins_28 rfl ?_
  refine V.iast (n := 7) dX8_begins_29 (by first | assumption | exact hI _ (by omega)) (by first | assumption | decide) (by omega) ?_
  refine V.vret dX8_begins_30 ?_
  exact ⟨rfl, rfl⟩
abbrev v_X8_endsPower (g : Gl) (κ : Ka) (Q : State → Prop) (M : Mem) (pc : Nat) (L : List (Option Value)) (st : List Value) : Prop := V g cX8_endsPower 3 yX8_endsPower.cls none (rmd 3) Q κ M pc L st
theorem c_X8_endsPower {g : Gl} {M : Mem} {l : Ser} {n p o : Nat} {w : Bool} {ah : Int32} {th : Ser} {fr : Nat → Fr} (hI : ∀ i, 142 ≤ i ∧ i < 174 → i ∈ g.2.2.2.2) (h : MI l n p o w ah M) (hF : MF th fr M) : Ct g yX8_endsPower cX8_endsPower 3 none 3 [.ref (g.2.2.2.1 142)] M (fun v M' => v = none ∧ MI l n p o (mEP o w th fr).1 ah M' ∧ MF th (mEP o w th fr).2 M' ∧ KM M M') := by
  obtain ⟨a1, a2, a3, a4, a5, a6, a7, a8, a9⟩ := id h
  obtain ⟨b1, b2⟩ := id hF
  obtain ⟨c1, c2, c3, c4, c5⟩ := b2 o (by omega)
  refine Ct.ofV (by decide) (Nat.le_of_ble_eq_true rfl) (by simp [Value.category]) (fun κ => ?_)
  have tail : ∀ M2 w1 (P : Ser), MI l n p o w1 ah M2 → MF th fr M2 → eq9 (M2 159) P → KM M M2 → mEP o w th fr = (w1, va_up fr o ((fr o).1, P, (fr o).2.2)) → v_X8_endsPower g κ (Qm g κ (fun v M' => v = none ∧ MI l n p o (mEP o w th fr).1 ah M' ∧ MF th (mEP o w th fr).2 M' ∧ KM M M')) M2 117 [some (.ref (g.2.2.2.1 142)), some (.int (nI (9 * o))), some (.int (fr o).2.2.2.1)] [] := by
    intro M2 w1 P h1 h2 h3 h4 h5
    refine V.aload_n dX8_endsPower_117 rfl ?_
    refine V.getf (ci := 7) (k := 21) (C := RX8) (T := TX8) (N := 37) dX8_endsPower_118 lfX8_59 inX8 rfl (by first | assumption | exact hI _ (by omega)) rfl (by decide) rfl ?_
    refine V.iconst (v := nI 0) dX8_endsPower_121 rfl ?_
    refine V.aload_n dX8_endsPower_122 rfl ?_
    refine V.getf (ci := 7) (k := 20) (C := RX8) (T := TX8) (N := 37) dX8_endsPower_123 lfX8_56 inX8 rfl (by first | assumption | exact hI _ (by omega)) rfl (by decide) rfl ?_
    refine V.iload_n dX8_endsPower_126 rfl ?_
    refine V.bipush (v := nI 9) dX8_endsPower_127 (by decide) ?_
    refine V.callS dX8_endsPower_129 (c_X8_bring (a := 159) (i := 0) (b := 158) (j := 9 * o) (n := 9) (na := 9) (nb := 63) (hI _ (by decide)) (hI _ (by decide)) rfl rfl (by decide) (by omega) (Or.inl (by decide))) lkX8_112 st_X8_bring cd_X8_bring ini_X8 hd_X8_bring ⟨Nat.le_of_ble_eq_true rfl, Nat.le_of_ble_eq_true rfl⟩ rfl (Nat.le_of_ble_eq_true rfl) (V.kkN ?_)
    refine V.vret dX8_endsPower_132 ?_
    rw [h5]
    exact ⟨rfl, h1.kp ((keep.rf (P := msp)).br (by unfold msp; omega)), h2.pr a3 h3, h4.tr (KM.of ((keep.rf (P := msp)).br (by unfold msp; omega)))⟩
  refine V.bipush (v := nI 9) dX8_endsPower_0 (by decide) ?_
  refine V.aload_n dX8_endsPower_2 rfl ?_
  refine V.getf (ci := 7) (k := 16) (C := RX8) (T := TX8) (N := 37) dX8_endsPower_3 lfX8_151 inX8 rfl (by first | assumption | exact hI _ (by omega)) rfl (by decide) rfl ?_
  rw [a7]
  first | refine V.imulN dX8_endsPower_6 ?_ | refine V.imul dX8_endsPower_6 ?_
  refine V.istore_n dX8_endsPower_7 (by decide) ?_
  refine V.aload_n dX8_endsPower_8 rfl ?_
  refine V.getf (ci := 7) (k := 23) (C := RX8) (T := TX8) (N := 37) dX8_endsPower_9 lfX8_65 inX8 rfl (by first | assumption | exact hI _ (by omega)) rfl (by decide) rfl ?_
  refine V.aload_n dX8_endsPower_12 rfl ?_
  refine V.getf (ci := 7) (k := 16) (C := RX8) (T := TX8) (N := 37) dX8_endsPower_13 lfX8_151 inX8 rfl (by first | assumption | exact hI _ (by omega)) rfl (by decide) rfl ?_
  rw [a7]
  refine V.iald (n := 7) dX8_endsPower_16 (by first | assumption | exact hI _ (by omega)) (by first | assumption | decide) (by omega) ?_
  rw [c4]
  refine V.istore_n dX8_endsPower_17 (by decide) ?_
  refine V.aload_n dX8_endsPower_18 rfl ?_
  refine V.getf (ci := 7) (k := 20) (C := RX8) (T := TX8) (N := 37) dX8_endsPower_19 lfX8_56 inX8 rfl (by first | assumption | exact hI _ (by omega)) rfl (by decide) rfl ?_
  refine V.iload_n dX8_endsPower_22 rfl ?_
  refine V.aload_n dX8_endsPower_23 rfl ?_
  refine V.getf (ci := 7) (k := 21) (C := RX8) (T := TX8) (N := 37) dX8_endsPower_24 lfX8_59 inX8 rfl (by first | assumption | exact hI _ (by omega)) rfl (by decide) rfl ?_
  refine V.iconst (v := nI 0) dX8_endsPower_27 rfl ?_
  refine V.bipush (v := nI 9) dX8_endsPower_28 (by decide) ?_
  refine V.callS dX8_endsPower_30 (c_X8_bring (a := 158) (i := 9 * o) (b := 159) (j := 0) (n := 9) (na := 63) (nb := 9) (hI _ (by decide)) (hI _ (by decide)) rfl rfl (by omega) (by decide) (Or.inl (by decide))) lkX8_112 st_X8_bring cd_X8_bring ini_X8 hd_X8_bring ⟨Nat.le_of_ble_eq_true rfl, Nat.le_of_ble_eq_true rfl⟩ rfl (Nat.le_of_ble_eq_true rfl) (V.kkN ?_)
  have k1 : keep msp M (brg M 158 (9 * o) 159 0 9) := (keep.rf (P := msp)).br (by unfold msp; omega)
  have h1 := h.kp k1
  have hF1 : MF th fr (brg M 158 (9 * o) 159 0 9) := hF.kp (fun j _ _ h3 => brg_ne h3)
  have e1 : eq9 (brg M 158 (9 * o) 159 0 9 159) (fr o).2.1 := brg_0.tr c2
  generalize brg M 158 (9 * o) 159 0 9 = M1 at k1 h1 hF1 e1
  refine V.iload_n dX8_endsPower_33 rfl ?_
  refine V.if_ne (tgt := 55) dX8_endsPower_34 (by decide) (fun h2 => ?_) (fun h2 => ?_)
  · have h2n : ¬ (fr o).2.2.2.1 = nI 0 := h2
    refine V.iload_n dX8_endsPower_55 rfl ?_
    refine V.bipush (v := nI 42) dX8_endsPower_56 (by decide) ?_
    refine V.icmp_ne (tgt := 82) dX8_endsPower_58 (by decide) (fun h3 => ?_) (fun h3 => ?_)
    · have h3n : ¬ (fr o).2.2.2.1 = nI 42 := h3
      refine V.aload_n dX8_endsPower_82 rfl ?_
      refine V.getf (ci := 7) (k := 18) (C := RX8) (T := TX8) (N := 37) dX8_endsPower_83 lfX8_50 inX8 rfl (by first | assumption | exact hI _ (by omega)) rfl (by decide) rfl ?_
      refine V.iconst (v := nI 0) dX8_endsPower_86 rfl ?_
      refine V.iald (n := 9) dX8_endsPower_87 (by first | assumption | exact hI _ (by omega)) (by first | assumption | decide) (by omega) ?_
      refine V.if_ne (tgt := 99) dX8_endsPower_88 (by decide) (fun h4 => ?_) (fun h4 => ?_)
      · have t0 : th 0 ≠ 0 := by rw [← hF1.1 0 (by decide)]; exact h4
        refine V.aload_n dX8_endsPower_99 rfl ?_
        refine V.aload_n dX8_endsPower_100 rfl ?_
        refine V.getf (ci := 7) (k := 21) (C := RX8) (T := TX8) (N := 37) dX8_endsPower_101 lfX8_59 inX8 rfl (by first | assumption | exact hI _ (by omega)) rfl (by decide) rfl ?_
        refine V.iconst (v := nI 0) dX8_endsPower_104 rfl ?_
        refine V.aload_n dX8_endsPower_105 rfl ?_
        refine V.getf (ci := 7) (k := 18) (C := RX8) (T := TX8) (N := 37) dX8_endsPower_106 lfX8_50 inX8 rfl (by first | assumption | exact hI _ (by omega)) rfl (by decide) rfl ?_
        refine V.iconst (v := nI 0) dX8_endsPower_109 rfl ?_
        refine V.aload_n dX8_endsPower_110 rfl ?_
        refine V.getf (ci := 7) (k := 21) (C := RX8) (T := TX8) (N := 37) dX8_endsPower_111 lfX8_59 inX8 rfl (by first | assumption | exact hI _ (by omega)) rfl (by decide) rfl ?_
        refine V.callV (ci := 7) (T := TX8) (N := 37) dX8_endsPower_114 (c_X8_divides (a := 159) (i := 0) (b := 156) (j := 0) (c := 159) (na := 9) (nb := 9) hI (hI _ (by decide)) rfl (by decide) (hI _ (by decide)) rfl (by decide) (hI _ (by decide)) rfl (by decide) (by decide)) lkX8_158 im_X8_divides se_X8_divides cd_X8_divides ini_X8 rfl (by first | assumption | exact hI _ (by omega)) rfl hd_X8_divides ⟨Nat.le_of_ble_eq_true rfl, Nat.le_of_ble_eq_true rfl⟩ rfl (Nat.le_of_ble_eq_true rfl) (V.kkN ?_)
        have k2 : keep msp M1 (aset (aset M1 150 0 9 (mdiv (sl (M1 159) 0) (sl (M1 156) 0))) 159 0 9 (mdiv (sl (M1 159) 0) (sl (M1 156) 0))) := ((keep.rf (P := msp)).as (by unfold msp; omega)).as (by unfold msp; omega)
        refine tail _ w (mdiv (fr o).2.1 th) (h1.kp k2) (hF1.kp (fun j q1 _ q3 => by rw [aset_ne q3, aset_ne (by omega)])) (aset_9.tr (mdiv_cg (by rw [sl_0]; exact e1) (by rw [sl_0]; exact hF1.1))) (KM.of (k1.tr k2)) ?_
        unfold mEP; rw [if_neg h2n, if_neg h3n, if_neg t0]
      · have t0 : th 0 = 0 := by rw [← hF1.1 0 (by decide)]; simpa using h4
        refine V.aload_n dX8_endsPower_91 rfl ?_
        refine V.iconst (v := nI 1) dX8_endsPower_92 rfl ?_
        refine V.putf (ci := 7) (k := 17) (C := RX8) (T := TX8) (N := 37) (ty := .boolean) tyX8 dX8_endsPower_93 lfX8_154 inX8 tyX8_ok nmX8 rfl (by first | assumption | exact hI _ (by omega)) rfl (by decide) rfl rfl rfl rfl (Nat.le_of_ble_eq_true rfl) rfl ?_
        refine V.goto (tgt := 117) dX8_endsPower_96 (by decide) ?_
        refine tail _ true (fr o).2.1 (h1.w' rfl) hF1.m142 (by rw [mset_ne (by decide)]; exact e1) ((KM.of k1).tr (KM.ms (by omega))) ?_
        unfold mEP; rw [if_neg h2n, if_neg h3n, if_pos t0]
        exact congrArg (Prod.mk true) (va_up_id fr o).symm
    · have h3n : (fr o).2.2.2.1 = nI 42 := by simpa using h3
      refine V.aload_n dX8_endsPower_61 rfl ?_
      refine V.aload_n dX8_endsPower_62 rfl ?_
      refine V.getf (ci := 7) (k := 21) (C := RX8) (T := TX8) (N := 37) dX8_endsPower_63 lfX8_59 inX8 rfl (by first | assumption | exact hI _ (by omega)) rfl (by decide) rfl ?_
      refine V.iconst (v := nI 0) dX8_endsPower_66 rfl ?_
      refine V.aload_n dX8_endsPower_67 rfl ?_
      refine V.getf (ci := 7) (k := 18) (C := RX8) (T := TX8) (N := 37) dX8_endsPower_68 lfX8_50 inX8 rfl (by first | assumption | exact hI _ (by omega)) rfl (by decide) rfl ?_
      refine V.iconst (v := nI 0) dX8_endsPower_71 rfl ?_
      refine V.aload_n dX8_endsPower_72 rfl ?_
      refine V.getf (ci := 7) (k := 21) (C := RX8) (T := TX8) (N := 37) dX8_endsPower_73 lfX8_59 inX8 rfl (by first | assumption | exact hI _ (by omega)) rfl (by decide) rfl ?_
      refine V.callV (ci := 7) (T := TX8) (N := 37) dX8_endsPower_76 (c_X8_multiplies (a := 159) (i := 0) (b := 156) (j := 0) (c := 159) (na := 9) (nb := 9) hI (hI _ (by decide)) rfl (by decide) (hI _ (by decide)) rfl (by decide) (hI _ (by decide)) rfl (by decide) (by decide)) lkX8_133 im_X8_multiplies se_X8_multiplies cd_X8_multiplies ini_X8 rfl (by first | assumption | exact hI _ (by omega)) rfl hd_X8_multiplies ⟨Nat.le_of_ble_eq_true rfl, Nat.le_of_ble_eq_true rfl⟩ rfl (Nat.le_of_ble_eq_true rfl) (V.kkN ?_)
      refine V.goto (tgt := 117) dX8_endsPower_79 (by decide) ?_
      have k2 : keep msp M1 (aset (aset M1 150 0 9 (fprod (sl (M1 159) 0) (sl (M1 156) 0))) 159 0 9 (fprod (sl (M1 159) 0) (sl (M1 156) 0))) := ((keep.rf (P := msp)).as (by unfold msp; omega)).as (by unfold msp; omega)
      refine tail _ w (fprod (fr o).2.1 th) (h1.kp k2) (hF1.kp (fun j q1 _ q3 => by rw [aset_ne q3, aset_ne (by omega)])) (aset_9.tr (fprod_cg (by rw [sl_0]; exact e1) (by rw [sl_0]; exact hF1.1))) (KM.of (k1.tr k2)) ?_
      unfold mEP; rw [if_neg h2n, if_pos h3n]
  · have h2n : (fr o).2.2.2.1 = nI 0 := show (fr o).2.2.2.1 = 0 by simpa using h2
    refine V.aload_n dX8_endsPower_37 rfl ?_
    refine V.getf (ci := 7) (k := 18) (C := RX8) (T := TX8) (N := 37) dX8_endsPower_38 lfX8_50 inX8 rfl (by first | assumption | exact hI _ (by omega)) rfl (by decide) rfl ?_
    refine V.iconst (v := nI 0) dX8_endsPower_41 rfl ?_
    refine V.aload_n dX8_endsPower_42 rfl ?_
    refine V.getf (ci := 7) (k := 21) (C := RX8) (T := TX8) (N := 37) dX8_endsPower_43 lfX8_59 inX8 rfl (by first | assumption | exact hI _ (by omega)) rfl (by decide) rfl ?_
    refine V.iconst (v := nI 0) dX8_endsPower_46 rfl ?_
    refine V.bipush (v := nI 9) dX8_endsPower_47 (by decide) ?_
    refine V.callS dX8_endsPower_49 (c_X8_bring (a := 156) (i := 0) (b := 159) (j := 0) (n := 9) (na := 9) (nb := 9) (hI _ (by decide)) (hI _ (by decide)) rfl rfl (by decide) (by decide) (Or.inl (by decide))) lkX8_112 st_X8_bring cd_X8_bring ini_X8 hd_X8_bring ⟨Nat.le_of_ble_eq_true rfl, Nat.le_of_ble_eq_true rfl⟩ rfl (Nat.le_of_ble_eq_true rfl) (V.kkN ?_)
    refine V.goto (tgt := 117) dX8_endsPower_52 (by decide) ?_
    have k2 : keep msp M1 (brg M1 156 0 159 0 9) := (keep.rf (P := msp)).br (by unfold msp; omega)
    refine tail _ w th (h1.kp k2) (hF1.kp (fun j _ _ q3 => brg_ne q3)) (brg_0.tr (by rw [sl_0]; exact hF1.1)) (KM.of (k1.tr k2)) ?_
    unfold mEP; rw [if_pos h2n]

