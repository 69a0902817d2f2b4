theorem c_X8_copiesRow {g : Gl} {M : Mem} {r : Nat} (hI : ∀ i, 142 ≤ i ∧ i < 174 → i ∈ g.2.2.2.2) (hr : r < 4) : Ct g yX8_copiesRow cX8_copiesRow 2 none 1 [.ref (g.2.2.2.1 142), .int (nI r)] M (fun v M' => v = none ∧ M' = aset (aset M 165 0 9 (sl (M 143) (9 * r))) 166 0 9 (sl (M 144) (9 * r))) := by
  refine Ct.ofV (by decide) (Nat.le_of_ble_eq_true rfl) (by simp [Value.category]) (fun κ => ?_)
  refine V.aload_n dX8_copiesRow_0 rfl ?_
  refine V.getf (ci := 7) (k := 0) (C := RX8) (T := TX8) (N := 37) dX8_copiesRow_1 lfX8_7 inX8 rfl (by first | assumption | exact hI _ (by omega)) rfl (by decide) rfl ?_
  refine V.bipush (v := nI 9) dX8_copiesRow_4 (by decide) ?_
  refine V.iload_n dX8_copiesRow_6 rfl ?_
  first | refine V.imulN dX8_copiesRow_7 ?_ | refine V.imul dX8_copiesRow_7 ?_
  refine V.aload_n dX8_copiesRow_8 rfl ?_
  refine V.getf (ci := 7) (k := 28) (C := RX8) (T := TX8) (N := 37) dX8_copiesRow_9 lfX8_77 inX8 rfl (by first | assumption | exact hI _ (by omega)) rfl (by decide) rfl ?_
  refine V.iconst (v := nI 0) dX8_copiesRow_12 rfl ?_
  refine V.bipush (v := nI 9) dX8_copiesRow_13 (by decide) ?_
  refine V.callS dX8_copiesRow_15 (c_X8_bring (a := 143) (i := 9 * r) (b := 165) (na := 36) (nb := 9) (hI 143 (by decide)) (hI 165 (by decide)) rfl rfl (by omega) (by decide) (Or.inl (by decide))) lkX8_112 st_X8_bring cd_X8_bring ini_X8 hd_X8_bring ⟨Nat.le_of_ble_eq_true rfl, Nat.le_of_ble_eq_true rfl⟩ rfl (Nat.le_of_ble_eq_true rfl) (V.kkN ?_)
  refine V.aload_n dX8_copiesRow_18 rfl ?_
  refine V.getf (ci := 7) (k := 1) (C := RX8) (T := TX8) (N := 37) dX8_copiesRow_19 lfX8_13 inX8 rfl (by first | assumption | exact hI _ (by omega)) rfl (by decide) rfl ?_
  refine V.bipush (v := nI 9) dX8_copiesRow_22 (by decide) ?_
  refine V.iload_n dX8_copiesRow_24 rfl ?_
  first | refine V.imulN dX8_copiesRow_25 ?_ | refine V.imul dX8_copiesRow_25 ?_
  refine V.aload_n dX8_copiesRow_26 rfl ?_
  refine V.getf (ci := 7) (k := 29) (C := RX8) (T := TX8) (N := 37) dX8_copiesRow_27 lfX8_80 inX8 rfl (by first | assumption | exact hI _ (by omega)) rfl (by decide) rfl ?_
  refine V.iconst (v := nI 0) dX8_copiesRow_30 rfl ?_
  refine V.bipush (v := nI 9) dX8_copiesRow_31 (by decide) ?_
  refine V.callS dX8_copiesRow_33 (c_X8_bring (a := 144) (i := 9 * r) (b := 166) (na := 36) (nb := 9) (hI 144 (by decide)) (hI 166 (by decide)) rfl rfl (by omega) (by decide) (Or.inl (by decide))) lkX8_112 st_X8_bring cd_X8_bring ini_X8 hd_X8_bring ⟨Nat.le_of_ble_eq_true rfl, Nat.le_of_ble_eq_true rfl⟩ rfl (Nat.le_of_ble_eq_true rfl) (V.kkN ?_)
  refine V.vret dX8_copiesRow_36 ?_
  exact ⟨rfl, by rw [brg_as, brg_as, aset_ne (a := 144) (by decide)]⟩
theorem c_X8_becomes {g : Gl} {M : Mem} {r a b : Nat} (hI : ∀ i, 142 ≤ i ∧ i < 174 → i ∈ g.2.2.2.2) (hr : r < 4) (ha : a ∈ g.2.2.2.2) (la : ial a = 9) (hb : b ∈ g.2.2.2.2) (lb : ial b = 9) (ha1 : a ≠ 143) (hb1 : b ≠ 143 ∧ b ≠ 144) : Ct g yX8_becomes cX8_becomes 4 (some .int) 1 [.ref (g.2.2.2.1 142), .int (nI r), .ref (g.2.2.2.1 a), .ref (g.2.2.2.1 b)] M (fun v M' => v = some (.int (M b 1)) ∧ M' = rowM M a b r) := by
  refine Ct.ofV (by decide) (Nat.le_of_ble_eq_true rfl) (by simp [Value.category]) (fun κ => ?_)
  refine V.aload_n dX8_becomes_0 rfl ?_
  refine V.iconst (v := nI 0) dX8_becomes_1 rfl ?_
  refine V.aload_n dX8_becomes_2 rfl ?_
  refine V.getf (ci := 7) (k := 0) (C := RX8) (T := TX8) (N := 37) dX8_becomes_3 lfX8_7 inX8 rfl (by first | assumption | exact hI _ (by omega)) rfl (by decide) rfl ?_
  refine V.bipush (v := nI 9) dX8_becomes_6 (by decide) ?_
  refine V.iload_n dX8_becomes_8 rfl ?_
  first | refine V.imulN dX8_becomes_9 ?_ | refine V.imul dX8_becomes_9 ?_
  refine V.bipush (v := nI 9) dX8_becomes_10 (by decide) ?_
  refine V.callS dX8_becomes_12 (c_X8_bring (a := a) (i := 0) (b := 143) (j := 9 * r) (na := 9) (nb := 36) ha (hI 143 (by decide)) la rfl (by decide) (by omega) (Or.inl ha1)) lkX8_112 st_X8_bring cd_X8_bring ini_X8 hd_X8_bring ⟨Nat.le_of_ble_eq_true rfl, Nat.le_of_ble_eq_true rfl⟩ rfl (Nat.le_of_ble_eq_true rfl) (V.kkN ?_)
  refine V.aload_n dX8_becomes_15 rfl ?_
  refine V.iconst (v := nI 0) dX8_becomes_16 rfl ?_
  refine V.aload_n dX8_becomes_17 rfl ?_
  refine V.getf (ci := 7) (k := 1) (C := RX8) (T := TX8) (N := 37) dX8_becomes_18 lfX8_13 inX8 rfl (by first | assumption | exact hI _ (by omega)) rfl (by decide) rfl ?_
  refine V.bipush (v := nI 9) dX8_becomes_21 (by decide) ?_
  refine V.iload_n dX8_becomes_23 rfl ?_
  first | refine V.imulN dX8_becomes_24 ?_ | refine V.imul dX8_becomes_24 ?_
  refine V.bipush (v := nI 9) dX8_becomes_25 (by decide) ?_
  refine V.callS dX8_becomes_27 (c_X8_bring (a := b) (i := 0) (b := 144) (j := 9 * r) (na := 9) (nb := 36) hb (hI 144 (by decide)) lb rfl (by decide) (by omega) (Or.inl hb1.2)) lkX8_112 st_X8_bring cd_X8_bring ini_X8 hd_X8_bring ⟨Nat.le_of_ble_eq_true rfl, Nat.le_of_ble_eq_true rfl⟩ rfl (Nat.le_of_ble_eq_true rfl) (V.kkN ?_)
  refine V.aload_n dX8_becomes_30 rfl ?_
  refine V.getf (ci := 7) (k := 1) (C := RX8) (T := TX8) (N := 37) dX8_becomes_31 lfX8_13 inX8 rfl (by first | assumption | exact hI _ (by omega)) rfl (by decide) rfl ?_
  refine V.bipush (v := nI 9) dX8_becomes_34 (by decide) ?_
  refine V.iload_n dX8_becomes_36 rfl ?_
  first | refine V.imulN dX8_becomes_37 ?_ | refine V.imul dX8_becomes_37 ?_
  refine V.iconst (v := nI 1) dX8_becomes_38 rfl ?_
  first | refine V.iaddN dX8_becomes_39 ?_ | refine V.iadd dX8_becomes_39 ?_
  refine V.iald (n := 36) dX8_becomes_40 (by first | assumption | exact hI _ (by omega)) (by first | assumption | decide) (by omega) ?_
  rw [brg_in (by decide), Nat.zero_add, brg_ne hb1.1]
  refine V.iret dX8_becomes_41 ?_
  exact ⟨rfl, rfl⟩
theorem c_X8_notes {g : Gl} {M : Mem} {p : Ser} {past : List Ser} (hI : ∀ i, 142 ≤ i ∧ i < 174 → i ∈ g.2.2.2.2) (h : RmH p past M) : Ct g yX8_notes cX8_notes 1 none 1 [.ref (g.2.2.2.1 142)] M (fun v M' => v = none ∧ keep (fun j => j = 142 ∨ j = 146) M M' ∧ (∀ k, k ≠ 4 → M' 142 k = M 142 k) ∧ RmH p (rmb p past) M') := by
  obtain ⟨h1, h2, h3, h4⟩ := h
  refine Ct.ofV (by decide) (Nat.le_of_ble_eq_true rfl) (by simp [Value.category]) (fun κ => ?_)
  refine V.aload_n dX8_notes_0 rfl ?_
  refine V.getf (ci := 7) (k := 4) (C := RX8) (T := TX8) (N := 37) dX8_notes_1 lfX8_270 inX8 rfl (by first | assumption | exact hI _ (by omega)) rfl (by decide) rfl ?_
  rw [h3]
  refine V.bipush (v := nI 8) dX8_notes_4 (by decide) ?_
  refine V.neN (tgt := 35) dX8_notes_6 (by decide) (by omega) (by omega) (fun h5 => ?_) (fun h5 => ?_)
  · have hl : (rmb p past).length = past.length + 1 := by unfold rmb; rw [List.length_take, List.length_cons]; omega
    refine V.aload_n dX8_notes_35 rfl ?_
    refine V.getf (ci := 7) (k := 2) (C := RX8) (T := TX8) (N := 37) dX8_notes_36 lfX8_16 inX8 rfl (by first | assumption | exact hI _ (by omega)) rfl (by decide) rfl ?_
    refine V.iconst (v := nI 0) dX8_notes_39 rfl ?_
    refine V.aload_n dX8_notes_40 rfl ?_
    refine V.getf (ci := 7) (k := 3) (C := RX8) (T := TX8) (N := 37) dX8_notes_41 lfX8_19 inX8 rfl (by first | assumption | exact hI _ (by omega)) rfl (by decide) rfl ?_
    refine V.bipush (v := nI 9) dX8_notes_44 (by decide) ?_
    refine V.aload_n dX8_notes_46 rfl ?_
    refine V.getf (ci := 7) (k := 4) (C := RX8) (T := TX8) (N := 37) dX8_notes_47 lfX8_270 inX8 rfl (by first | assumption | exact hI _ (by omega)) rfl (by decide) rfl ?_
    rw [h3]
    first | refine V.imulN dX8_notes_50 ?_ | refine V.imul dX8_notes_50 ?_
    refine V.bipush (v := nI 9) dX8_notes_51 (by decide) ?_
    refine V.callS dX8_notes_53 (c_X8_bring (a := 145) (i := 0) (b := 146) (j := 9 * past.length) (na := 9) (nb := 72) (hI 145 (by decide)) (hI 146 (by decide)) rfl rfl (by decide) (by omega) (Or.inl (by decide))) lkX8_112 st_X8_bring cd_X8_bring ini_X8 hd_X8_bring ⟨Nat.le_of_ble_eq_true rfl, Nat.le_of_ble_eq_true rfl⟩ rfl (Nat.le_of_ble_eq_true rfl) (V.kkN ?_)
    refine V.aload_n dX8_notes_56 rfl ?_
    refine V.dup dX8_notes_57 rfl ?_
    refine V.getf (ci := 7) (k := 4) (C := RX8) (T := TX8) (N := 37) dX8_notes_58 lfX8_270 inX8 rfl (by first | assumption | exact hI _ (by omega)) rfl (by decide) rfl ?_
    rw [brg_ne (by decide), h3]
    refine V.iconst (v := nI 1) dX8_notes_61 rfl ?_
    first | refine V.iaddN dX8_notes_62 ?_ | refine V.iadd dX8_notes_62 ?_
    refine V.putf (ci := 7) (k := 4) (C := RX8) (T := TX8) (N := 37) (ty := .int) tyX8 dX8_notes_63 lfX8_270 inX8 tyX8_ok nmX8 rfl (by first | assumption | exact hI _ (by omega)) rfl (by decide) rfl rfl rfl rfl (Nat.le_of_ble_eq_true rfl) rfl ?_
    refine V.vret dX8_notes_66 ?_
    refine ⟨rfl, ((keep.rf (P := fun j => j = 142 ∨ j = 146)).br (Or.inr rfl)).ms (Or.inl rfl), fun k hk => by rw [mset_nat hk, brg_ne (by decide)], ?_, by omega, by rw [mset_at, hl], fun i hi => ?_⟩
    · rw [mset_ne (by decide), brg_ne (by decide)]; exact h1
    · rw [mset_ne (by decide), hl]
      intro z hz
      show brg M 145 0 146 (9 * past.length) 9 146 (9 * (past.length + 1 - 1 - i) + z) = _
      cases i with
      | zero =>
        rw [show past.length + 1 - 1 - 0 = past.length by omega, brg_in hz, Nat.zero_add, h1 z hz]; rfl
      | succ i =>
        have hi2 : i < past.length := by omega
        rw [brg_out (by omega), show past.length + 1 - 1 - (i + 1) = past.length - 1 - i by omega]
        have e : (rmb p past).getD (i + 1) zser = past.getD i zser := by unfold rmb; rw [List.getD_eq_getElem?_getD, List.getElem?_take, if_pos (by omega), List.getElem?_cons_succ, ← List.getD_eq_getElem?_getD]
        rw [e]; exact h4 i hi2 z hz
  · have hl : (rmb p past).length = 8 := by unfold rmb; rw [List.length_take, List.length_cons]; omega
    refine V.aload_n dX8_notes_9 rfl ?_
    refine V.getf (ci := 7) (k := 3) (C := RX8) (T := TX8) (N := 37) dX8_notes_10 lfX8_19 inX8 rfl (by first | assumption | exact hI _ (by omega)) rfl (by decide) rfl ?_
    refine V.bipush (v := nI 9) dX8_notes_13 (by decide) ?_
    refine V.aload_n dX8_notes_15 rfl ?_
    refine V.getf (ci := 7) (k := 3) (C := RX8) (T := TX8) (N := 37) dX8_notes_16 lfX8_19 inX8 rfl (by first | assumption | exact hI _ (by omega)) rfl (by decide) rfl ?_
    refine V.iconst (v := nI 0) dX8_notes_19 rfl ?_
    refine V.bipush (v := nI 63) dX8_notes_20 (by decide) ?_
    refine V.callS dX8_notes_22 (c_X8_bring (a := 146) (i := 9) (b := 146) (j := 0) (n := 63) (na := 72) (nb := 72) (hI 146 (by decide)) (hI 146 (by decide)) rfl rfl (by decide) (by decide) (Or.inr (by decide))) lkX8_112 st_X8_bring cd_X8_bring ini_X8 hd_X8_bring ⟨Nat.le_of_ble_eq_true rfl, Nat.le_of_ble_eq_true rfl⟩ rfl (Nat.le_of_ble_eq_true rfl) (V.kkN ?_)
    refine V.aload_n dX8_notes_25 rfl ?_
    refine V.dup dX8_notes_26 rfl ?_
    refine V.getf (ci := 7) (k := 4) (C := RX8) (T := TX8) (N := 37) dX8_notes_27 lfX8_270 inX8 rfl (by first | assumption | exact hI _ (by omega)) rfl (by decide) rfl ?_
    rw [brg_ne (by decide), h3]
    refine V.iconst (v := nI 1) dX8_notes_30 rfl ?_
    first | refine V.isubN dX8_notes_31 (by omega) ?_ | refine V.isub dX8_notes_31 ?_
    refine V.putf (ci := 7) (k := 4) (C := RX8) (T := TX8) (N := 37) (ty := .int) tyX8 dX8_notes_32 lfX8_270 inX8 tyX8_ok nmX8 rfl (by first | assumption | exact hI _ (by omega)) rfl (by decide) rfl rfl rfl rfl (Nat.le_of_ble_eq_true rfl) rfl ?_
    refine V.aload_n dX8_notes_35 rfl ?_
    refine V.getf (ci := 7) (k := 2) (C := RX8) (T := TX8) (N := 37) dX8_notes_36 lfX8_16 inX8 rfl (by first | assumption | exact hI _ (by omega)) rfl (by decide) rfl ?_
    refine V.iconst (v := nI 0) dX8_notes_39 rfl ?_
    refine V.aload_n dX8_notes_40 rfl ?_
    refine V.getf (ci := 7) (k := 3) (C := RX8) (T := TX8) (N := 37) dX8_notes_41 lfX8_19 inX8 rfl (by first | assumption | exact hI _ (by omega)) rfl (by decide) rfl ?_
    refine V.bipush (v := nI 9) dX8_notes_44 (by decide) ?_
    refine V.aload_n dX8_notes_46 rfl ?_
    refine V.getf (ci := 7) (k := 4) (C := RX8) (T := TX8) (N := 37) dX8_notes_47 lfX8_270 inX8 rfl (by first | assumption | exact hI _ (by omega)) rfl (by decide) rfl ?_
    rw [mset_at, h5]
    first | refine V.imulN dX8_notes_50 ?_ | refine V.imul dX8_notes_50 ?_
    refine V.bipush (v := nI 9) dX8_notes_51 (by decide) ?_
    refine V.callS dX8_notes_53 (c_X8_bring (a := 145) (i := 0) (b := 146) (j := 9 * (8 - 1)) (na := 9) (nb := 72) (hI 145 (by decide)) (hI 146 (by decide)) rfl rfl (by decide) (by decide) (Or.inl (by decide))) lkX8_112 st_X8_bring cd_X8_bring ini_X8 hd_X8_bring ⟨Nat.le_of_ble_eq_true rfl, Nat.le_of_ble_eq_true rfl⟩ rfl (Nat.le_of_ble_eq_true rfl) (V.kkN ?_)
    refine V.aload_n dX8_notes_56 rfl ?_
    refine V.dup dX8_notes_57 rfl ?_
    refine V.getf (ci := 7) (k := 4) (C := RX8) (T := TX8) (N := 37) dX8_notes_58 lfX8_270 inX8 rfl (by first | assumption | exact hI _ (by omega)) rfl (by decide) rfl ?_
    rw [brg_ne (by decide), mset_at]
    refine V.iconst (v := nI 1) dX8_notes_61 rfl ?_
    first | refine V.iaddN dX8_notes_62 ?_ | refine V.iadd dX8_notes_62 ?_
    refine V.putf (ci := 7) (k := 4) (C := RX8) (T := TX8) (N := 37) (ty := .int) tyX8 dX8_notes_63 lfX8_270 inX8 tyX8_ok nmX8 rfl (by first | assumption | exact hI _ (by omega)) rfl (by decide) rfl rfl rfl rfl (Nat.le_of_ble_eq_true rfl) rfl ?_
    refine V.vret dX8_notes_66 ?_
    refine ⟨rfl, ((((keep.rf (P := fun j => j = 142 ∨ j = 146)).br (Or.inr rfl)).ms (Or.inl rfl)).br (Or.inr rfl)).ms (Or.inl rfl), fun k hk => by rw [mset_nat hk, brg_ne (by decide), mset_nat hk, brg_ne (by decide)], ?_, by omega, by rw [mset_at, hl], fun i hi => ?_⟩
    · rw [mset_ne (by decide), brg_ne (by decide), mset_ne (by decide), brg_ne (by decide)]; exact h1
    · rw [mset_ne (by decide), hl]
      intro z hz
      show brg _ 145 0 146 (9 * (8 - 1)) 9 146 (9 * (8 - 1 - i) + z) = _
      cases i with
      | zero =>
        rw [show 8 - 1 - 0 = 8 - 1 by omega, brg_in hz, Nat.zero_add, mset_ne (by decide), brg_ne (by decide), h1 z hz]; rfl
      | succ i =>
        have hi2 : i < past.length := by omega
        rw [brg_out (by omega), mset_ne (by decide), show 9 * (8 - 1 - (i + 1)) + z = 0 + (9 * (6 - i) + z) by omega, brg_in (by omega)]
        have e : (rmb p past).getD (i + 1) zser = past.getD i zser := by unfold rmb; rw [List.getD_eq_getElem?_getD, List.getElem?_take, if_pos (by omega), List.getElem?_cons_succ, ← List.getD_eq_getElem?_getD]
        rw [e]
        have := h4 i hi2 z hz
        rw [← this]
        show M 146 _ = M 146 (9 * (past.length - 1 - i) + z)
        congr 1; omega
abbrev v_X8_many (g : Gl) (κ : Ka) (Q : State → Prop) (M : Mem) (pc : Nat) (L : List (Option Value)) (st : List Value) : Prop := V g cX8_many 3 yX8_many.cls (some .int) (rmd 0) Q κ M pc L st
theorem c_X8_many {g : Gl} {M : Mem} (hI : ∀ i, 142 ≤ i ∧ i < 174 → i ∈ g.2.2.2.2) : Ct g yX8_many cX8_many 3 (some .int) 0 [.ref (g.2.2.2.1 142)] M (fun v M' => v = some (.int (nI (fsz (M 145) 9))) ∧ M' = M) := by
  refine Ct.ofV (by decide) (Nat.le_of_ble_eq_true rfl) (by simp [Value.category]) (fun κ => ?_)
  refine V.iconst (v := nI 0) dX8_many_0 rfl ?_
  refine V.istore_n dX8_many_1 (by decide) ?_
  refine V.iconst (v := nI 0) dX8_many_2 rfl ?_
  refine V.istore_n dX8_many_3 (by decide) ?_
  have lp := up_loop 9 (fun j => v_X8_many g κ (Qm g κ (fun v M' => v = some (.int (nI (fsz (M 145) 9))) ∧ M' = M)) M 4 [some (.ref (g.2.2.2.1 142)), some (.int (nI (fsz (M 145) j))), some (.int (nI j))] []) (fun j hj ih => ?_) 0 (by omega)
  · exact lp
  · refine V.iload_n dX8_many_4 rfl ?_
    refine V.bipush (v := nI 9) dX8_many_5 (by decide) ?_
    refine V.geN (tgt := 33) dX8_many_7 (by decide) (by omega) (by omega) (fun h1 => ?_) (fun h1 => ?_)
    · have e : j = 9 := by omega
      subst e
      refine V.iload_n dX8_many_33 rfl ?_
      refine V.iret dX8_many_34 ?_
      exact ⟨rfl, rfl⟩
    · have u : fsz (M 145) (j + 1) = if M 145 j = 0 then fsz (M 145) j else fsz (M 145) j + 1 := rfl
      rw [u] at ih
      refine V.iload_n dX8_many_10 rfl ?_
      refine V.aload_n dX8_many_11 rfl ?_
      refine V.getf (ci := 7) (k := 2) (C := RX8) (T := TX8) (N := 37) dX8_many_12 lfX8_16 inX8 rfl (by first | assumption | exact hI _ (by omega)) rfl (by decide) rfl ?_
      refine V.iload_n dX8_many_15 rfl ?_
      refine V.iald (n := 9) dX8_many_16 (by first | assumption | exact hI _ (by omega)) (by first | assumption | decide) (by omega) ?_
      refine V.if_ne (tgt := 24) dX8_many_17 (by decide) (fun h3 => ?_) (fun h3 => ?_)
      · rw [if_neg h3] at ih
        refine V.iconst (v := nI 1) dX8_many_24 rfl ?_
        first | refine V.iaddN dX8_many_25 ?_ | refine V.iadd dX8_many_25 ?_
        refine V.istore_n dX8_many_26 (by decide) ?_
        refine V.iincN dX8_many_27 (by decide) rfl ?_
        refine V.goto (tgt := 4) dX8_many_30 (by decide) ?_
        exact ih (by omega)
      · rw [if_pos h3] at ih
        refine V.iconst (v := nI 0) dX8_many_20 rfl ?_
        refine V.goto (tgt := 25) dX8_many_21 (by decide) ?_
        first | refine V.iaddN dX8_many_25 ?_ | refine V.iadd dX8_many_25 ?_
        refine V.istore_n dX8_many_26 (by decide) ?_
        refine V.iincN dX8_many_27 (by decide) rfl ?_
        refine V.goto (tgt := 4) dX8_many_30 (by decide) ?_
        exact ih (by omega)
abbrev v_X8_leastOf (g : Gl) (κ : Ka) (Q : State → Prop) (M : Mem) (pc : Nat) (L : List (Option Value)) (st : List Value) : Prop := V g cX8_leastOf 3 yX8_leastOf.cls (some .int) (rmd 0) Q κ M pc L st
theorem c_X8_leastOf {g : Gl} {M : Mem} {r : Nat} (hI : ∀ i, 142 ≤ i ∧ i < 174 → i ∈ g.2.2.2.2) (hr : r < 4) : Ct g yX8_leastOf cX8_leastOf 3 (some .int) 0 [.ref (g.2.2.2.1 142), .int (nI r)] M (fun v M' => v = some (.int (fsec (sl (M 144) (9 * r)) 7)) ∧ M' = M) := by
  refine Ct.ofV (by decide) (Nat.le_of_ble_eq_true rfl) (by simp [Value.category]) (fun κ => ?_)
  refine V.iconst (v := nI 2) dX8_leastOf_0 rfl ?_
  refine V.istore_n dX8_leastOf_1 (by decide) ?_
  have lp := up_loop 9 (fun n => 2 ≤ n → fsec (sl (M 144) (9 * r)) (9 - n) = fsec (sl (M 144) (9 * r)) 7 → v_X8_leastOf g κ (Qm g κ (fun v M' => v = some (.int (fsec (sl (M 144) (9 * r)) 7)) ∧ M' = M)) M 2 [some (.ref (g.2.2.2.1 142)), some (.int (nI r)), some (.int (nI n))] []) (fun n hn ih h2 he => ?_) 2 (by omega) (by omega) rfl
  · exact lp
  · refine V.iload_n dX8_leastOf_2 rfl ?_
    refine V.bipush (v := nI 9) dX8_leastOf_3 (by decide) ?_
    refine V.geN (tgt := 30) dX8_leastOf_5 (by decide) (by omega) (by omega) (fun h1 => ?_) (fun h1 => ?_)
    · have e : n = 9 := by omega
      subst e
      refine V.iconst (v := -1) dX8_leastOf_30 rfl ?_
      refine V.iret dX8_leastOf_31 ?_
      exact ⟨by rw [← he]; rfl, rfl⟩
    · rw [show 9 - n = (8 - n) + 1 by omega] at he
      have u : fsec (sl (M 144) (9 * r)) (8 - n + 1) = if sl (M 144) (9 * r) (8 - (8 - n)) = 0 then fsec (sl (M 144) (9 * r)) (8 - n) else nI (8 - (8 - n)) := rfl
      rw [u, show 8 - (8 - n) = n by omega, show sl (M 144) (9 * r) n = M 144 (9 * r + n) from rfl] at he
      refine V.aload_n dX8_leastOf_8 rfl ?_
      refine V.getf (ci := 7) (k := 1) (C := RX8) (T := TX8) (N := 37) dX8_leastOf_9 lfX8_13 inX8 rfl (by first | assumption | exact hI _ (by omega)) rfl (by decide) rfl ?_
      refine V.bipush (v := nI 9) dX8_leastOf_12 (by decide) ?_
      refine V.iload_n dX8_leastOf_14 rfl ?_
      first | refine V.imulN dX8_leastOf_15 ?_ | refine V.imul dX8_leastOf_15 ?_
      refine V.iload_n dX8_leastOf_16 rfl ?_
      first | refine V.iaddN dX8_leastOf_17 ?_ | refine V.iadd dX8_leastOf_17 ?_
      refine V.iald (n := 36) dX8_leastOf_18 (by first | assumption | exact hI _ (by omega)) (by first | assumption | decide) (by omega) ?_
      refine V.if_eq (tgt := 24) dX8_leastOf_19 (by decide) (fun h3 => ?_) (fun h3 => ?_)
      · rw [if_pos h3] at he
        refine V.iincN dX8_leastOf_24 (by decide) rfl ?_
        refine V.goto (tgt := 2) dX8_leastOf_27 (by decide) ?_
        exact ih (by omega) (by omega) (by rw [show 9 - (n + 1) = 8 - n by omega]; exact he)
      · rw [if_neg h3] at he
        refine V.iload_n dX8_leastOf_22 rfl ?_
        refine V.iret dX8_leastOf_23 ?_
        exact ⟨by rw [he], rfl⟩
abbrev v_X8_degree (g : Gl) (κ : Ka) (Q : State → Prop) (M : Mem) (pc : Nat) (L : List (Option Value)) (st : List Value) : Prop := V g cX8_degree 2 yX8_degree.cls (some .int) (rmd 0) Q κ M pc L st
theorem c_X8_degree {g : Gl} {M : Mem} (hI : ∀ i, 142 ≤ i ∧ i < 174 → i ∈ g.2.2.2.2) : Ct g yX8_degree cX8_degree 2 (some .int) 0 [.ref (g.2.2.2.1 142)] M (fun v M' => v = some (.int (fdeg (M 145) 9)) ∧ M' = M) := by
  refine Ct.ofV (by decide) (Nat.le_of_ble_eq_true rfl) (by simp [Value.category]) (fun κ => ?_)
  refine V.bipush (v := nI 8) dX8_degree_0 (by decide) ?_
  refine V.istore_n dX8_degree_2 (by decide) ?_
  have lp := dn_loop (fun k => k ≤ 9 → fdeg (M 145) k = fdeg (M 145) 9 → v_X8_degree g κ (Qm g κ (fun v M' => v = some (.int (fdeg (M 145) 9)) ∧ M' = M)) M 3 [some (.ref (g.2.2.2.1 142)), some (.int (nI k - 1))] []) (fun k ih hk he => ?_) 9 (by omega) rfl
  · exact lp
  · refine V.iload_n dX8_degree_3 rfl ?_
    refine V.if_ltD (tgt := 22) dX8_degree_4 (by decide) (by omega) (fun h1 => ?_) (fun j h1 => ?_)
    · subst h1
      refine V.iload_n dX8_degree_22 rfl ?_
      refine V.iret dX8_degree_23 ?_
      exact ⟨by rw [← he]; rfl, rfl⟩
    · subst h1
      have u : fdeg (M 145) (j + 1) = if M 145 j = 0 then fdeg (M 145) j else nI j := rfl
      rw [u] at he
      rw [nI_pred]
      refine V.aload_n dX8_degree_7 rfl ?_
      refine V.getf (ci := 7) (k := 2) (C := RX8) (T := TX8) (N := 37) dX8_degree_8 lfX8_16 inX8 rfl (by first | assumption | exact hI _ (by omega)) rfl (by decide) rfl ?_
      refine V.iload_n dX8_degree_11 rfl ?_
      refine V.iald (n := 9) dX8_degree_12 (by first | assumption | exact hI _ (by omega)) (by first | assumption | decide) (by omega) ?_
      refine V.if_ne (tgt := 22) dX8_degree_13 (by decide) (fun h3 => ?_) (fun h3 => ?_)
      · rw [if_neg h3] at he
        refine V.iload_n dX8_degree_22 rfl ?_
        refine V.iret dX8_degree_23 ?_
        exact ⟨by rw [he], rfl⟩
      · rw [if_pos h3] at he
        refine V.iincD dX8_degree_16 (by decide) rfl ?_
        refine V.goto (tgt := 3) dX8_degree_19 (by decide) ?_
        exact ih j rfl (by omega) he

