theorem k_part_2 {g : Gl} {M : Mem} {x y z : Int32} (h : isN x 4 = false ∨ isN y 4 = false) : Ct g yX7_part cX7_part 4 (some .int) 6 [.ref (g.2.2.2.1 0), .int x, .int y, .int z] M (fun v M' => v = some (.int (-2)) ∧ M' = M) := by
  refine Ct.ofV (by decide) (Nat.le_of_ble_eq_true rfl) (by simp [Value.category]) (fun κ => ?_)
  refine V.iload_n dX7_part_0 rfl ?_
  refine V.callS dX7_part_1 (c_X7_isRow) lkX7_81 st_X7_isRow cd_X7_isRow ini_X7 hd_X7_isRow ⟨Nat.le_of_ble_eq_true rfl, Nat.le_of_ble_eq_true rfl⟩ rfl (Nat.le_of_ble_eq_true rfl) (V.kkF ?_)
  refine V.if_eqB (tgt := 14) dX7_part_4 (by decide) (fun h1 => ?_) (fun h1 => ?_)
  · refine V.bipush (v := -2) dX7_part_14 (by decide) ?_
    refine V.iret dX7_part_16 ?_
    exact ⟨rfl, rfl⟩
  · skip
    refine V.iload_n dX7_part_7 rfl ?_
    refine V.callS dX7_part_8 (c_X7_isRow) lkX7_81 st_X7_isRow cd_X7_isRow ini_X7 hd_X7_isRow ⟨Nat.le_of_ble_eq_true rfl, Nat.le_of_ble_eq_true rfl⟩ rfl (Nat.le_of_ble_eq_true rfl) (V.kkF ?_)
    refine V.if_neB (tgt := 17) dX7_part_11 (by decide) (fun h2 => ?_) (fun h2 => ?_)
    · rcases h with h | h
      · rw [h1] at h; cases h
      · rw [h2] at h; cases h
    · refine V.bipush (v := -2) dX7_part_14 (by decide) ?_
      refine V.iret dX7_part_16 ?_
      exact ⟨rfl, rfl⟩
theorem k_part_3 {g : Gl} {M : Mem} {r o : Nat} {z : Int32} (hr : r < 4) (ho : o < 4) (hz : isN z 2 = false) : Ct g yX7_part cX7_part 4 (some .int) 6 [.ref (g.2.2.2.1 0), .int (nI r), .int (nI o), .int z] M (fun v M' => v = some (.int (-3)) ∧ M' = M) := by
  refine Ct.ofV (by decide) (Nat.le_of_ble_eq_true rfl) (by simp [Value.category]) (fun κ => ?_)
  refine V.iload_n dX7_part_0 rfl ?_
  refine V.callS dX7_part_1 (c_X7_isRow) lkX7_81 st_X7_isRow cd_X7_isRow ini_X7 hd_X7_isRow ⟨Nat.le_of_ble_eq_true rfl, Nat.le_of_ble_eq_true rfl⟩ rfl (Nat.le_of_ble_eq_true rfl) (V.kkF ?_)
  rw [isN_nI (by decide) hr]
  refine V.if_eqB (tgt := 14) dX7_part_4 (by decide) (fun qr => ?_) (fun qr => ?_)
  · cases qr
  · skip
    refine V.iload_n dX7_part_7 rfl ?_
    refine V.callS dX7_part_8 (c_X7_isRow) lkX7_81 st_X7_isRow cd_X7_isRow ini_X7 hd_X7_isRow ⟨Nat.le_of_ble_eq_true rfl, Nat.le_of_ble_eq_true rfl⟩ rfl (Nat.le_of_ble_eq_true rfl) (V.kkF ?_)
    rw [isN_nI (by decide) ho]
    refine V.if_neB (tgt := 17) dX7_part_11 (by decide) (fun qo => ?_) (fun qo => ?_)
    · skip
      refine V.iload_n dX7_part_17 rfl ?_
      refine V.if_eq (tgt := 29) dX7_part_18 (by decide) (fun h1 => ?_) (fun h1 => ?_)
      · subst h1; exact absurd hz (by decide)
      · refine V.iload_n dX7_part_21 rfl ?_
        refine V.iconst (v := nI 1) dX7_part_22 rfl ?_
        refine V.icmp_eq (tgt := 29) dX7_part_23 (by decide) (fun h2 => ?_) (fun h2 => ?_)
        · subst h2; exact absurd hz (by decide)
        · refine V.bipush (v := -3) dX7_part_26 (by decide) ?_
          refine V.iret dX7_part_28 ?_
          exact ⟨rfl, rfl⟩
    · cases qo
theorem k_part0 {g : Gl} {M : Mem} {A : Ab} {r o : Nat} (hI : ∀ i, i < 142 → i ∈ g.2.2.2.2) (h : Rc A M) (hr : r < 4) (ho : o < 4) : Ct g yX7_part cX7_part 4 (some .int) 6 [.ref (g.2.2.2.1 0), .int (nI r), .int (nI o), .int (nI 0)] M (fun v M' => v = some (.int ((A.2.2.1 o) 1)) ∧ Rc (A.1, va_up A.2.1 r (mono 0 (nI 1)), va_up A.2.2.1 r (A.2.2.1 o), A.2.2.2) M' ∧ keep cP M M') := by
  have hI9 : ∀ i, 1 ≤ i ∧ i ≤ 9 → i ∈ g.2.2.2.2 := fun i h => hI i (by omega)
  have hw_r := isRw_of hr
  have hJ_r : ∀ i, 34 + 17 * r ≤ i ∧ i < 34 + 17 * r + 17 → i ∈ g.2.2.2.2 := fun i h => hI i (by omega)
  have hw_o := isRw_of ho
  have hJ_o : ∀ i, 34 + 17 * o ≤ i ∧ i < 34 + 17 * o + 17 → i ∈ g.2.2.2.2 := fun i h => hI i (by omega)
  refine Ct.ofV (by decide) (Nat.le_of_ble_eq_true rfl) (by simp [Value.category]) (fun κ => ?_)
  refine V.iload_n dX7_part_0 rfl ?_
  refine V.callS dX7_part_1 (c_X7_isRow) lkX7_81 st_X7_isRow cd_X7_isRow ini_X7 hd_X7_isRow ⟨Nat.le_of_ble_eq_true rfl, Nat.le_of_ble_eq_true rfl⟩ rfl (Nat.le_of_ble_eq_true rfl) (V.kkF ?_)
  rw [isN_nI (by decide) hr]
  refine V.if_eqB (tgt := 14) dX7_part_4 (by decide) (fun qr => ?_) (fun qr => ?_)
  · cases qr
  · skip
    refine V.iload_n dX7_part_7 rfl ?_
    refine V.callS dX7_part_8 (c_X7_isRow) lkX7_81 st_X7_isRow cd_X7_isRow ini_X7 hd_X7_isRow ⟨Nat.le_of_ble_eq_true rfl, Nat.le_of_ble_eq_true rfl⟩ rfl (Nat.le_of_ble_eq_true rfl) (V.kkF ?_)
    rw [isN_nI (by decide) ho]
    refine V.if_neB (tgt := 17) dX7_part_11 (by decide) (fun qo => ?_) (fun qo => ?_)
    · skip
      refine V.iload_n dX7_part_17 rfl ?_
      refine V.if_eqN (tgt := 29) dX7_part_18 (by decide) (by omega) (fun h1 => ?_) (fun h1 => ?_)
      · skip
        refine V.aload_n dX7_part_29 rfl ?_
        refine V.getf (ci := 6) (k := 3) (C := RX7) (T := TX7) (N := 10) dX7_part_30 lfX7_34 inX7 rfl (by first | assumption | exact hI _ (by omega)) rfl (by decide) rfl ?_
        refine V.iload_n dX7_part_33 rfl ?_
        refine V.aald (n := 4) (t := 3) dX7_part_34 (by first | assumption | exact hI _ (by omega)) rfl rfl rfl (by decide) (by omega) ?_
        refine V.getf (ci := 4) (k := 0) (C := RX5) (T := TX5) (N := 8) dX7_part_35 lfX7_99 inX5 rfl (by first | assumption | exact hI _ (by omega)) (cont_row hw_o _) (by decide) rfl ?_
        refine V.aload_n dX7_part_38 rfl ?_
        refine V.getf (ci := 6) (k := 6) (C := RX7) (T := TX7) (N := 10) dX7_part_39 lfX7_53 inX7 rfl (by first | assumption | exact hI _ (by omega)) rfl (by decide) rfl ?_
        refine V.callS dX7_part_42 (c_X7_copy (i := 34 + 17 * o + 1) (j := 138) (hI _ (by omega)) (hI _ (by omega)) (ial_row hw_o (by omega) (by omega) (by omega)) rfl) lkX7_119 st_X7_copy cd_X7_copy ini_X7 hd_X7_copy ⟨Nat.le_of_ble_eq_true rfl, Nat.le_of_ble_eq_true rfl⟩ rfl (Nat.le_of_ble_eq_true rfl) (V.kkN ?_)
        refine V.aload_n dX7_part_45 rfl ?_
        refine V.getf (ci := 6) (k := 3) (C := RX7) (T := TX7) (N := 10) dX7_part_46 lfX7_34 inX7 rfl (by first | assumption | exact hI _ (by omega)) rfl (by decide) rfl ?_
        refine V.iload_n dX7_part_49 rfl ?_
        refine V.aald (n := 4) (t := 3) dX7_part_50 (by first | assumption | exact hI _ (by omega)) rfl rfl rfl (by decide) (by omega) ?_
        refine V.getf (ci := 4) (k := 1) (C := RX5) (T := TX5) (N := 8) dX7_part_51 lfX7_102 inX5 rfl (by first | assumption | exact hI _ (by omega)) (cont_row hw_o _) (by decide) rfl ?_
        refine V.aload_n dX7_part_54 rfl ?_
        refine V.getf (ci := 6) (k := 7) (C := RX7) (T := TX7) (N := 10) dX7_part_55 lfX7_57 inX7 rfl (by first | assumption | exact hI _ (by omega)) rfl (by decide) rfl ?_
        refine V.callS dX7_part_58 (c_X7_copy (i := 34 + 17 * o + 2) (j := 139) (hI _ (by omega)) (hI _ (by omega)) (ial_row hw_o (by omega) (by omega) (by omega)) rfl) lkX7_119 st_X7_copy cd_X7_copy ini_X7 hd_X7_copy ⟨Nat.le_of_ble_eq_true rfl, Nat.le_of_ble_eq_true rfl⟩ rfl (Nat.le_of_ble_eq_true rfl) (V.kkN ?_)
        refine V.iload_n dX7_part_61 rfl ?_
        refine V.if_neN (tgt := 77) dX7_part_62 (by decide) (by omega) (fun h3 => ?_) (fun h3 => ?_)
        · omega
        · refine V.aload_n dX7_part_65 rfl ?_
          refine V.getf (ci := 6) (k := 6) (C := RX7) (T := TX7) (N := 10) dX7_part_66 lfX7_53 inX7 rfl (by first | assumption | exact hI _ (by omega)) rfl (by decide) rfl ?_
          refine V.iconst (v := nI 0) dX7_part_69 rfl ?_
          refine V.iconst (v := nI 1) dX7_part_70 rfl ?_
          refine V.callS dX7_part_71 (c_X7_setMonomial (i := 138) (k := 0) (hI _ (by omega)) rfl (by decide)) lkX7_122 st_X7_setMonomial cd_X7_setMonomial ini_X7 hd_X7_setMonomial ⟨Nat.le_of_ble_eq_true rfl, Nat.le_of_ble_eq_true rfl⟩ rfl (Nat.le_of_ble_eq_true rfl) (V.kkN ?_)
          refine V.goto (tgt := 86) dX7_part_74 (by decide) ?_
          refine V.aload_n dX7_part_86 rfl ?_
          refine V.getf (ci := 6) (k := 3) (C := RX7) (T := TX7) (N := 10) dX7_part_87 lfX7_34 inX7 rfl (by first | assumption | exact hI _ (by omega)) rfl (by decide) rfl ?_
          refine V.iload_n dX7_part_90 rfl ?_
          refine V.aald (n := 4) (t := 3) dX7_part_91 (by first | assumption | exact hI _ (by omega)) rfl rfl rfl (by decide) (by omega) ?_
          refine V.aload_n dX7_part_92 rfl ?_
          refine V.getf (ci := 6) (k := 6) (C := RX7) (T := TX7) (N := 10) dX7_part_93 lfX7_53 inX7 rfl (by first | assumption | exact hI _ (by omega)) rfl (by decide) rfl ?_
          refine V.aload_n dX7_part_96 rfl ?_
          refine V.getf (ci := 6) (k := 7) (C := RX7) (T := TX7) (N := 10) dX7_part_97 lfX7_57 inX7 rfl (by first | assumption | exact hI _ (by omega)) rfl (by decide) rfl ?_
          refine V.callV (ci := 4) (T := TX5) (N := 8) dX7_part_100 (c_X5_become (a := 138) (b := 139) hw_r hI9 hJ_r (hI _ (by omega)) rfl (hI _ (by omega)) rfl (by omega) (by omega)) lkX7_95 im_X5_become se_X5_become cd_X5_become ini_X5 rfl (by first | assumption | exact hI _ (by omega)) (cont_row hw_r _) hd_X5_become ⟨Nat.le_of_ble_eq_true rfl, Nat.le_of_ble_eq_true rfl⟩ rfl (Nat.le_of_ble_eq_true rfl) (V.kkX (fun M9 q9 => ?_))
          refine V.iret dX7_part_103 ?_
          obtain ⟨k9, r9, g9, f9⟩ := q9
          generalize hM1 : aset (aset (aset M 138 0 9 _) 139 0 9 _) 138 0 9 _ = M1 at k9 g9 f9 ⊢
          have kk : keep (fun j => j = 138 ∨ j = 139) M M1 := by
            rw [← hM1]
            exact (((keep.rf (P := fun j => j = 138 ∨ j = 139)).as (by omega)).as (by omega)).as (by omega)
          have e1 : eq9 (M1 138) (mono 0 (nI 1)) := by
            rw [← hM1]; exact aset_9
          have e2 : eq9 (M1 139) (A.2.2.1 o) := by
            rw [← hM1, aset_ne (by decide)]
            refine aset_9.tr ?_
            rw [aset_ne (by omega)]; exact h.f ho
          exact ⟨by rw [e2 1 (by decide)], h.row hr (kk.wk (fun j hj => by unfold scr; omega)) (by rw [kk 10 (by omega)]) k9 r9 (g9.tr e1) (f9.tr e2), (kk.wk (fun j hj => by unfold cP; omega)).tr (k9.wk (fun j hj => by unfold cP; omega))⟩
      · omega
    · cases qo
theorem k_part1 {g : Gl} {M : Mem} {A : Ab} {r o : Nat} (hI : ∀ i, i < 142 → i ∈ g.2.2.2.2) (h : Rc A M) (hr : r < 4) (ho : o < 4) : Ct g yX7_part cX7_part 4 (some .int) 6 [.ref (g.2.2.2.1 0), .int (nI r), .int (nI o), .int (nI 1)] M (fun v M' => v = some (.int ((mono 1 (nI 1)) 1)) ∧ Rc (A.1, va_up A.2.1 r (A.2.1 o), va_up A.2.2.1 r (mono 1 (nI 1)), A.2.2.2) M' ∧ keep cP M M') := by
  have hI9 : ∀ i, 1 ≤ i ∧ i ≤ 9 → i ∈ g.2.2.2.2 := fun i h => hI i (by omega)
  have hw_r := isRw_of hr
  have hJ_r : ∀ i, 34 + 17 * r ≤ i ∧ i < 34 + 17 * r + 17 → i ∈ g.2.2.2.2 := fun i h => hI i (by omega)
  have hw_o := isRw_of ho
  have hJ_o : ∀ i, 34 + 17 * o ≤ i ∧ i < 34 + 17 * o + 17 → i ∈ g.2.2.2.2 := fun i h => hI i (by omega)
  refine Ct.ofV (by decide) (Nat.le_of_ble_eq_true rfl) (by simp [Value.category]) (fun κ => ?_)
  refine V.iload_n dX7_part_0 rfl ?_
  refine V.callS dX7_part_1 (c_X7_isRow) lkX7_81 st_X7_isRow cd_X7_isRow ini_X7 hd_X7_isRow ⟨Nat.le_of_ble_eq_true rfl, Nat.le_of_ble_eq_true rfl⟩ rfl (Nat.le_of_ble_eq_true rfl) (V.kkF ?_)
  rw [isN_nI (by decide) hr]
  refine V.if_eqB (tgt := 14) dX7_part_4 (by decide) (fun qr => ?_) (fun qr => ?_)
  · cases qr
  · skip
    refine V.iload_n dX7_part_7 rfl ?_
    refine V.callS dX7_part_8 (c_X7_isRow) lkX7_81 st_X7_isRow cd_X7_isRow ini_X7 hd_X7_isRow ⟨Nat.le_of_ble_eq_true rfl, Nat.le_of_ble_eq_true rfl⟩ rfl (Nat.le_of_ble_eq_true rfl) (V.kkF ?_)
    rw [isN_nI (by decide) ho]
    refine V.if_neB (tgt := 17) dX7_part_11 (by decide) (fun qo => ?_) (fun qo => ?_)
    · skip
      refine V.iload_n dX7_part_17 rfl ?_
      refine V.if_eqN (tgt := 29) dX7_part_18 (by decide) (by omega) (fun h1 => ?_) (fun h1 => ?_)
      · omega
      · refine V.iload_n dX7_part_21 rfl ?_
        refine V.iconst (v := nI 1) dX7_part_22 rfl ?_
        refine V.eqN (tgt := 29) dX7_part_23 (by decide) (by omega) (by omega) (fun h2 => ?_) (fun h2 => ?_)
        · skip
          refine V.aload_n dX7_part_29 rfl ?_
          refine V.getf (ci := 6) (k := 3) (C := RX7) (T := TX7) (N := 10) dX7_part_30 lfX7_34 inX7 rfl (by first | assumption | exact hI _ (by omega)) rfl (by decide) rfl ?_
          refine V.iload_n dX7_part_33 rfl ?_
          refine V.aald (n := 4) (t := 3) dX7_part_34 (by first | assumption | exact hI _ (by omega)) rfl rfl rfl (by decide) (by omega) ?_
          refine V.getf (ci := 4) (k := 0) (C := RX5) (T := TX5) (N := 8) dX7_part_35 lfX7_99 inX5 rfl (by first | assumption | exact hI _ (by omega)) (cont_row hw_o _) (by decide) rfl ?_
          refine V.aload_n dX7_part_38 rfl ?_
          refine V.getf (ci := 6) (k := 6) (C := RX7) (T := TX7) (N := 10) dX7_part_39 lfX7_53 inX7 rfl (by first | assumption | exact hI _ (by omega)) rfl (by decide) rfl ?_
          refine V.callS dX7_part_42 (c_X7_copy (i := 34 + 17 * o + 1) (j := 138) (hI _ (by omega)) (hI _ (by omega)) (ial_row hw_o (by omega) (by omega) (by omega)) rfl) lkX7_119 st_X7_copy cd_X7_copy ini_X7 hd_X7_copy ⟨Nat.le_of_ble_eq_true rfl, Nat.le_of_ble_eq_true rfl⟩ rfl (Nat.le_of_ble_eq_true rfl) (V.kkN ?_)
          refine V.aload_n dX7_part_45 rfl ?_
          refine V.getf (ci := 6) (k := 3) (C := RX7) (T := TX7) (N := 10) dX7_part_46 lfX7_34 inX7 rfl (by first | assumption | exact hI _ (by omega)) rfl (by decide) rfl ?_
          refine V.iload_n dX7_part_49 rfl ?_
          refine V.aald (n := 4) (t := 3) dX7_part_50 (by first | assumption | exact hI _ (by omega)) rfl rfl rfl (by decide) (by omega) ?_
          refine V.getf (ci := 4) (k := 1) (C := RX5) (T := TX5) (N := 8) dX7_part_51 lfX7_102 inX5 rfl (by first | assumption | exact hI _ (by omega)) (cont_row hw_o _) (by decide) rfl ?_
          refine V.aload_n dX7_part_54 rfl ?_
          refine V.getf (ci := 6) (k := 7) (C := RX7) (T := TX7) (N := 10) dX7_part_55 lfX7_57 inX7 rfl (by first | assumption | exact hI _ (by omega)) rfl (by decide) rfl ?_
          refine V.callS dX7_part_58 (c_X7_copy (i := 34 + 17 * o + 2) (j := 139) (hI _ (by omega)) (hI _ (by omega)) (ial_row hw_o (by omega) (by omega) (by omega)) rfl) lkX7_119 st_X7_copy cd_X7_copy ini_X7 hd_X7_copy ⟨Nat.le_of_ble_eq_true rfl, Nat.le_of_ble_eq_true rfl⟩ rfl (Nat.le_of_ble_eq_true rfl) (V.kkN ?_)
          refine V.iload_n dX7_part_61 rfl ?_
          refine V.if_neN (tgt := 77) dX7_part_62 (by decide) (by omega) (fun h3 => ?_) (fun h3 => ?_)
          · refine V.aload_n dX7_part_77 rfl ?_
            refine V.getf (ci := 6) (k := 7) (C := RX7) (T := TX7) (N := 10) dX7_part_78 lfX7_57 inX7 rfl (by first | assumption | exact hI _ (by omega)) rfl (by decide) rfl ?_
            refine V.iconst (v := nI 1) dX7_part_81 rfl ?_
            refine V.iconst (v := nI 1) dX7_part_82 rfl ?_
            refine V.callS dX7_part_83 (c_X7_setMonomial (i := 139) (k := 1) (hI _ (by omega)) rfl (by decide)) lkX7_122 st_X7_setMonomial cd_X7_setMonomial ini_X7 hd_X7_setMonomial ⟨Nat.le_of_ble_eq_true rfl, Nat.le_of_ble_eq_true rfl⟩ rfl (Nat.le_of_ble_eq_true rfl) (V.kkN ?_)
            refine V.aload_n dX7_part_86 rfl ?_
            refine V.getf (ci := 6) (k := 3) (C := RX7) (T := TX7) (N := 10) dX7_part_87 lfX7_34 inX7 rfl (by first | assumption | exact hI _ (by omega)) rfl (by decide) rfl ?_
            refine V.iload_n dX7_part_90 rfl ?_
            refine V.aald (n := 4) (t := 3) dX7_part_91 (by first | assumption | exact hI _ (by omega)) rfl rfl rfl (by decide) (by omega) ?_
            refine V.aload_n dX7_part_92 rfl ?_
            refine V.getf (ci := 6) (k := 6) (C := RX7) (T := TX7) (N := 10) dX7_part_93 lfX7_53 inX7 rfl (by first | assumption | exact hI _ (by omega)) rfl (by decide) rfl ?_
            refine V.aload_n dX7_part_96 rfl ?_
            refine V.getf (ci := 6) (k := 7) (C := RX7) (T := TX7) (N := 10) dX7_part_97 lfX7_57 inX7 rfl (by first | assumption | exact hI _ (by omega)) rfl (by decide) rfl ?_
            refine V.callV (ci := 4) (T := TX5) (N := 8) dX7_part_100 (c_X5_become (a := 138) (b := 139) hw_r hI9 hJ_r (hI _ (by omega)) rfl (hI _ (by omega)) rfl (by omega) (by omega)) lkX7_95 im_X5_become se_X5_become cd_X5_become ini_X5 rfl (by first | assumption | exact hI _ (by omega)) (cont_row hw_r _) hd_X5_become ⟨Nat.le_of_ble_eq_true rfl, Nat.le_of_ble_eq_true rfl⟩ rfl (Nat.le_of_ble_eq_true rfl) (V.kkX (fun M9 q9 => ?_))
            refine V.iret dX7_part_103 ?_
            obtain ⟨k9, r9, g9, f9⟩ := q9
            generalize hM1 : aset (aset (aset M 138 0 9 _) 139 0 9 _) 139 0 9 _ = M1 at k9 g9 f9 ⊢
            have kk : keep (fun j => j = 138 ∨ j = 139) M M1 := by
              rw [← hM1]
              exact (((keep.rf (P := fun j => j = 138 ∨ j = 139)).as (by omega)).as (by omega)).as (by omega)
            have e1 : eq9 (M1 138) (A.2.1 o) := by
              rw [← hM1, aset_ne (by decide), aset_ne (by decide)]
              exact aset_9.tr (h.g ho)
            have e2 : eq9 (M1 139) (mono 1 (nI 1)) := by
              rw [← hM1]; exact aset_9
            exact ⟨by rw [e2 1 (by decide)], h.row hr (kk.wk (fun j hj => by unfold scr; omega)) (by rw [kk 10 (by omega)]) k9 r9 (g9.tr e1) (f9.tr e2), (kk.wk (fun j hj => by unfold cP; omega)).tr (k9.wk (fun j hj => by unfold cP; omega))⟩
          · omega
        · omega
    · cases qo
theorem k_move_2 {g : Gl} {M : Mem} {x y z : Int32} (h : isN x 4 = false ∨ isN y 4 = false) : Ct g yX7_move cX7_move 4 (some .int) 6 [.ref (g.2.2.2.1 0), .int x, .int y, .int z] M (fun v M' => v = some (.int (-2)) ∧ M' = M) := by
  refine Ct.ofV (by decide) (Nat.le_of_ble_eq_true rfl) (by simp [Value.category]) (fun κ => ?_)
  refine V.iload_n dX7_move_0 rfl ?_
  refine V.callS dX7_move_1 (c_X7_isRow) lkX7_81 st_X7_isRow cd_X7_isRow ini_X7 hd_X7_isRow ⟨Nat.le_of_ble_eq_true rfl, Nat.le_of_ble_eq_true rfl⟩ rfl (Nat.le_of_ble_eq_true rfl) (V.kkF ?_)
  refine V.if_eqB (tgt := 14) dX7_move_4 (by decide) (fun h1 => ?_) (fun h1 => ?_)
  · refine V.bipush (v := -2) dX7_move_14 (by decide) ?_
    refine V.iret dX7_move_16 ?_
    exact ⟨rfl, rfl⟩
  · skip
    refine V.iload_n dX7_move_7 rfl ?_
    refine V.callS dX7_move_8 (c_X7_isRow) lkX7_81 st_X7_isRow cd_X7_isRow ini_X7 hd_X7_isRow ⟨Nat.le_of_ble_eq_true rfl, Nat.le_of_ble_eq_true rfl⟩ rfl (Nat.le_of_ble_eq_true rfl) (V.kkF ?_)
    refine V.if_neB (tgt := 17) dX7_move_11 (by decide) (fun h2 => ?_) (fun h2 => ?_)
    · rcases h with h | h
      · rw [h1] at h; cases h
      · rw [h2] at h; cases h
    · refine V.bipush (v := -2) dX7_move_14 (by decide) ?_
      refine V.iret dX7_move_16 ?_
      exact ⟨rfl, rfl⟩
theorem k_move_3 {g : Gl} {M : Mem} {r o : Nat} {z : Int32} (hr : r < 4) (ho : o < 4) (hz : isN z 9973 = false) : Ct g yX7_move cX7_move 4 (some .int) 6 [.ref (g.2.2.2.1 0), .int (nI r), .int (nI o), .int z] M (fun v M' => v = some (.int (-3)) ∧ M' = M) := by
  refine Ct.ofV (by decide) (Nat.le_of_ble_eq_true rfl) (by simp [Value.category]) (fun κ => ?_)
  refine V.iload_n dX7_move_0 rfl ?_
  refine V.callS dX7_move_1 (c_X7_isRow) lkX7_81 st_X7_isRow cd_X7_isRow ini_X7 hd_X7_isRow ⟨Nat.le_of_ble_eq_true rfl, Nat.le_of_ble_eq_true rfl⟩ rfl (Nat.le_of_ble_eq_true rfl) (V.kkF ?_)
  rw [isN_nI (by decide) hr]
  refine V.if_eqB (tgt := 14) dX7_move_4 (by decide) (fun qr => ?_) (fun qr => ?_)
  · cases qr
  · skip
    refine V.iload_n dX7_move_7 rfl ?_
    refine V.callS dX7_move_8 (c_X7_isRow) lkX7_81 st_X7_isRow cd_X7_isRow ini_X7 hd_X7_isRow ⟨Nat.le_of_ble_eq_true rfl, Nat.le_of_ble_eq_true rfl⟩ rfl (Nat.le_of_ble_eq_true rfl) (V.kkF ?_)
    rw [isN_nI (by decide) ho]
    refine V.if_neB (tgt := 17) dX7_move_11 (by decide) (fun qo => ?_) (fun qo => ?_)
    · skip
      refine V.iload_n dX7_move_17 rfl ?_
      refine V.callS dX7_move_18 (c_X2_holds) lkX7_126 st_X2_holds cd_X2_holds ini_X2 hd_X2_holds ⟨Nat.le_of_ble_eq_true rfl, Nat.le_of_ble_eq_true rfl⟩ rfl (Nat.le_of_ble_eq_true rfl) (V.kkF ?_)
      rw [hz]
      refine V.if_neB (tgt := 27) dX7_move_21 (by decide) (fun h1 => ?_) (fun h1 => ?_)
      · cases h1
      · refine V.bipush (v := -3) dX7_move_24 (by decide) ?_
        refine V.iret dX7_move_26 ?_
        exact ⟨rfl, rfl⟩
    · cases qo
theorem k_move {g : Gl} {M : Mem} {A : Ab} {r o a : Nat} (hI : ∀ i, i < 142 → i ∈ g.2.2.2.2) (h : Rc A M) (hr : r < 4) (ho : o < 4) (ha : a < 9973) : Ct g yX7_move cX7_move 4 (some .int) 6 [.ref (g.2.2.2.1 0), .int (nI r), .int (nI o), .int (nI a)] M (fun v M' => v = some (.int ((A.2.2.1 o) 1)) ∧ Rc (A.1, va_up A.2.1 r (fprod (A.2.1 o) (fexp exC (fsub (nI 0) (nI a)))), va_up A.2.2.1 r (A.2.2.1 o), A.2.2.2) M' ∧ keep cP M M') := by
  have hI9 : ∀ i, 1 ≤ i ∧ i ≤ 9 → i ∈ g.2.2.2.2 := fun i h => hI i (by omega)
  have hw_r := isRw_of hr
  have hJ_r : ∀ i, 34 + 17 * r ≤ i ∧ i < 34 + 17 * r + 17 → i ∈ g.2.2.2.2 := fun i h => hI i (by omega)
  have hw_o := isRw_of ho
  have hJ_o : ∀ i, 34 + 17 * o ≤ i ∧ i < 34 + 17 * o + 17 → i ∈ g.2.2.2.2 := fun i h => hI i (by omega)
  refine Ct.ofV (by decide) (Nat.le_of_ble_eq_true rfl) (by simp [Value.category]) (fun κ => ?_)
  refine V.iload_n dX7_move_0 rfl ?_
  refine V.callS dX7_move_1 (c_X7_isRow) lkX7_81 st_X7_isRow cd_X7_isRow ini_X7 hd_X7_isRow ⟨Nat.le_of_ble_eq_true rfl, Nat.le_of_ble_eq_true rfl⟩ rfl (Nat.le_of_ble_eq_true rfl) (V.kkF ?_)
  rw [isN_nI (by decide) hr]
  refine V.if_eqB (tgt := 14) dX7_move_4 (by decide) (fun qr => ?_) (fun qr => ?_)
  · cases qr
  · skip
    refine V.iload_n dX7_move_7 rfl ?_
    refine V.callS dX7_move_8 (c_X7_isRow) lkX7_81 st_X7_isRow cd_X7_isRow ini_X7 hd_X7_isRow ⟨Nat.le_of_ble_eq_true rfl, Nat.le_of_ble_eq_true rfl⟩ rfl (Nat.le_of_ble_eq_true rfl) (V.kkF ?_)
    rw [isN_nI (by decide) ho]
    refine V.if_neB (tgt := 17) dX7_move_11 (by decide) (fun qo => ?_) (fun qo => ?_)
    · skip
      refine V.iload_n dX7_move_17 rfl ?_
      refine V.callS dX7_move_18 (c_X2_holds) lkX7_126 st_X2_holds cd_X2_holds ini_X2 hd_X2_holds ⟨Nat.le_of_ble_eq_true rfl, Nat.le_of_ble_eq_true rfl⟩ rfl (Nat.le_of_ble_eq_true rfl) (V.kkF ?_)
      rw [isN_nI (by decide) ha]
      refine V.if_neB (tgt := 27) dX7_move_21 (by decide) (fun h1 => ?_) (fun h1 => ?_)
      · refine V.aload_n dX7_move_27 rfl ?_
        refine V.getf (ci := 6) (k := 0) (C := RX7) (T := TX7) (N := 10) dX7_move_28 lfX7_12 inX7 rfl (by first | assumption | exact hI _ (by omega)) rfl (by decide) rfl ?_
        refine V.aload_n dX7_move_31 rfl ?_
        refine V.getf (ci := 6) (k := 8) (C := RX7) (T := TX7) (N := 10) dX7_move_32 lfX7_60 inX7 rfl (by first | assumption | exact hI _ (by omega)) rfl (by decide) rfl ?_
        refine V.iconst (v := nI 0) dX7_move_35 rfl ?_
        refine V.iload_n dX7_move_36 rfl ?_
        refine V.callS dX7_move_37 (c_X2_subtract) lkX7_131 st_X2_subtract cd_X2_subtract ini_X2 hd_X2_subtract ⟨Nat.le_of_ble_eq_true rfl, Nat.le_of_ble_eq_true rfl⟩ rfl (Nat.le_of_ble_eq_true rfl) (V.kkF ?_)
        refine V.callV (ci := 3) (T := TX4) (N := 8) dX7_move_40 (c_X4_exponentialOf (i := 140) hI9 (hI _ (by omega)) rfl (by decide)) lkX7_135 im_X4_exponentialOf se_X4_exponentialOf cd_X4_exponentialOf ini_X4 rfl (by first | assumption | exact hI _ (by omega)) rfl hd_X4_exponentialOf ⟨Nat.le_of_ble_eq_true rfl, Nat.le_of_ble_eq_true rfl⟩ rfl (Nat.le_of_ble_eq_true rfl) (V.kkN ?_)
        refine V.aload_n dX7_move_43 rfl ?_
        refine V.getf (ci := 6) (k := 0) (C := RX7) (T := TX7) (N := 10) dX7_move_44 lfX7_12 inX7 rfl (by first | assumption | exact hI _ (by omega)) rfl (by decide) rfl ?_
        refine V.aload_n dX7_move_47 rfl ?_
        refine V.getf (ci := 6) (k := 6) (C := RX7) (T := TX7) (N := 10) dX7_move_48 lfX7_53 inX7 rfl (by first | assumption | exact hI _ (by omega)) rfl (by decide) rfl ?_
        refine V.aload_n dX7_move_51 rfl ?_
        refine V.getf (ci := 6) (k := 3) (C := RX7) (T := TX7) (N := 10) dX7_move_52 lfX7_34 inX7 rfl (by first | assumption | exact hI _ (by omega)) rfl (by decide) rfl ?_
        refine V.iload_n dX7_move_55 rfl ?_
        refine V.aald (n := 4) (t := 3) dX7_move_56 (by first | assumption | exact hI _ (by omega)) rfl rfl rfl (by decide) (by omega) ?_
        refine V.getf (ci := 4) (k := 0) (C := RX5) (T := TX5) (N := 8) dX7_move_57 lfX7_99 inX5 rfl (by first | assumption | exact hI _ (by omega)) (cont_row hw_o _) (by decide) rfl ?_
        refine V.aload_n dX7_move_60 rfl ?_
        refine V.getf (ci := 6) (k := 8) (C := RX7) (T := TX7) (N := 10) dX7_move_61 lfX7_60 inX7 rfl (by first | assumption | exact hI _ (by omega)) rfl (by decide) rfl ?_
        refine V.callV (ci := 3) (T := TX4) (N := 8) dX7_move_64 (c_X4_multiply (i := 138) (a := 34 + 17 * o + 1) (b := 140) (hI _ (by omega)) rfl (hI _ (by omega)) (ial_row hw_o (by omega) (by omega) (by omega)) (hI _ (by omega)) rfl) lkX7_109 im_X4_multiply se_X4_multiply cd_X4_multiply ini_X4 rfl (by first | assumption | exact hI _ (by omega)) rfl hd_X4_multiply ⟨Nat.le_of_ble_eq_true rfl, Nat.le_of_ble_eq_true rfl⟩ rfl (Nat.le_of_ble_eq_true rfl) (V.kkN ?_)
        refine V.aload_n dX7_move_67 rfl ?_
        refine V.getf (ci := 6) (k := 3) (C := RX7) (T := TX7) (N := 10) dX7_move_68 lfX7_34 inX7 rfl (by first | assumption | exact hI _ (by omega)) rfl (by decide) rfl ?_
        refine V.iload_n dX7_move_71 rfl ?_
        refine V.aald (n := 4) (t := 3) dX7_move_72 (by first | assumption | exact hI _ (by omega)) rfl rfl rfl (by decide) (by omega) ?_
        refine V.getf (ci := 4) (k := 1) (C := RX5) (T := TX5) (N := 8) dX7_move_73 lfX7_102 inX5 rfl (by first | assumption | exact hI _ (by omega)) (cont_row hw_o _) (by decide) rfl ?_
        refine V.aload_n dX7_move_76 rfl ?_
        refine V.getf (ci := 6) (k := 7) (C := RX7) (T := TX7) (N := 10) dX7_move_77 lfX7_57 inX7 rfl (by first | assumption | exact hI _ (by omega)) rfl (by decide) rfl ?_
        refine V.callS dX7_move_80 (c_X7_copy (i := 34 + 17 * o + 2) (j := 139) (hI _ (by omega)) (hI _ (by omega)) (ial_row hw_o (by omega) (by omega) (by omega)) rfl) lkX7_119 st_X7_copy cd_X7_copy ini_X7 hd_X7_copy ⟨Nat.le_of_ble_eq_true rfl, Nat.le_of_ble_eq_true rfl⟩ rfl (Nat.le_of_ble_eq_true rfl) (V.kkN ?_)
        refine V.aload_n dX7_move_83 rfl ?_
        refine V.getf (ci := 6) (k := 3) (C := RX7) (T := TX7) (N := 10) dX7_move_84 lfX7_34 inX7 rfl (by first | assumption | exact hI _ (by omega)) rfl (by decide) rfl ?_
        refine V.iload_n dX7_move_87 rfl ?_
        refine V.aald (n := 4) (t := 3) dX7_move_88 (by first | assumption | exact hI _ (by omega)) rfl rfl rfl (by decide) (by omega) ?_
        refine V.aload_n dX7_move_89 rfl ?_
        refine V.getf (ci := 6) (k := 6) (C := RX7) (T := TX7) (N := 10) dX7_move_90 lfX7_53 inX7 rfl (by first | assumption | exact hI _ (by omega)) rfl (by decide) rfl ?_
        refine V.aload_n dX7_move_93 rfl ?_
        refine V.getf (ci := 6) (k := 7) (C := RX7) (T := TX7) (N := 10) dX7_move_94 lfX7_57 inX7 rfl (by first | assumption | exact hI _ (by omega)) rfl (by decide) rfl ?_
        refine V.callV (ci := 4) (T := TX5) (N := 8) dX7_move_97 (c_X5_become (a := 138) (b := 139) hw_r hI9 hJ_r (hI _ (by omega)) rfl (hI _ (by omega)) rfl (by omega) (by omega)) lkX7_95 im_X5_become se_X5_become cd_X5_become ini_X5 rfl (by first | assumption | exact hI _ (by omega)) (cont_row hw_r _) hd_X5_become ⟨Nat.le_of_ble_eq_true rfl, Nat.le_of_ble_eq_true rfl⟩ rfl (Nat.le_of_ble_eq_true rfl) (V.kkX (fun M9 q9 => ?_))
        refine V.iret dX7_move_100 ?_
        obtain ⟨k9, r9, g9, f9⟩ := q9
        generalize hM1 : aset (aset (aset M 140 0 9 _) 138 0 9 _) 139 0 9 _ = M1 at k9 g9 f9 ⊢
        have kk : keep (fun j => j = 138 ∨ j = 139 ∨ j = 140) M M1 := by
          rw [← hM1]
          exact (((keep.rf (P := fun j => j = 138 ∨ j = 139 ∨ j = 140)).as (by omega)).as (by omega)).as (by omega)
        have e1 : eq9 (M1 138) (fprod (A.2.1 o) (fexp exC (fsub (nI 0) (nI a)))) := by
          rw [← hM1, aset_ne (by decide)]
          refine aset_9.tr (fprod_cg ?_ (aset_9.tr (fexp_cg h.1.1)))
          rw [aset_ne (by omega)]; exact h.g ho
        have e2 : eq9 (M1 139) (A.2.2.1 o) := by
          rw [← hM1]
          refine aset_9.tr ?_
          rw [aset_ne (by omega), aset_ne (by omega)]; exact h.f ho
        exact ⟨by rw [e2 1 (by decide)], h.row hr (kk.wk (fun j hj => by unfold scr; omega)) (by rw [kk 10 (by omega)]) k9 r9 (g9.tr e1) (f9.tr e2), (kk.wk (fun j hj => by unfold cP; omega)).tr (k9.wk (fun j hj => by unfold cP; omega))⟩
      · cases h1
    · cases qo
theorem k_stretch_2 {g : Gl} {M : Mem} {x y z : Int32} (h : isN x 4 = false ∨ isN y 4 = false) : Ct g yX7_stretch cX7_stretch 4 (some .int) 6 [.ref (g.2.2.2.1 0), .int x, .int y, .int z] M (fun v M' => v = some (.int (-2)) ∧ M' = M) := by
  refine Ct.ofV (by decide) (Nat.le_of_ble_eq_true rfl) (by simp [Value.category]) (fun κ => ?_)
  refine V.iload_n dX7_stretch_0 rfl ?_
  refine V.callS dX7_stretch_1 (c_X7_isRow) lkX7_81 st_X7_isRow cd_X7_isRow ini_X7 hd_X7_isRow ⟨Nat.le_of_ble_eq_true rfl, Nat.le_of_ble_eq_true rfl⟩ rfl (Nat.le_of_ble_eq_true rfl) (V.kkF ?_)
  refine V.if_eqB (tgt := 14) dX7_stretch_4 (by decide) (fun h1 => ?_) (fun h1 => ?_)
  · refine V.bipush (v := -2) dX7_stretch_14 (by decide) ?_
    refine V.iret dX7_stretch_16 ?_
    exact ⟨rfl, rfl⟩
  · skip
    refine V.iload_n dX7_stretch_7 rfl ?_
    refine V.callS dX7_stretch_8 (c_X7_isRow) lkX7_81 st_X7_isRow cd_X7_isRow ini_X7 hd_X7_isRow ⟨Nat.le_of_ble_eq_true rfl, Nat.le_of_ble_eq_true rfl⟩ rfl (Nat.le_of_ble_eq_true rfl) (V.kkF ?_)
    refine V.if_neB (tgt := 17) dX7_stretch_11 (by decide) (fun h2 => ?_) (fun h2 => ?_)
    · rcases h with h | h
      · rw [h1] at h; cases h
      · rw [h2] at h; cases h
    · refine V.bipush (v := -2) dX7_stretch_14 (by decide) ?_
      refine V.iret dX7_stretch_16 ?_
      exact ⟨rfl, rfl⟩
theorem k_stretch_3 {g : Gl} {M : Mem} {r o : Nat} {z : Int32} (hr : r < 4) (ho : o < 4) (hz : z = nI 0 ∨ isN z 9973 = false) : Ct g yX7_stretch cX7_stretch 4 (some .int) 6 [.ref (g.2.2.2.1 0), .int (nI r), .int (nI o), .int z] M (fun v M' => v = some (.int (-3)) ∧ M' = M) := by
  refine Ct.ofV (by decide) (Nat.le_of_ble_eq_true rfl) (by simp [Value.category]) (fun κ => ?_)
  refine V.iload_n dX7_stretch_0 rfl ?_
  refine V.callS dX7_stretch_1 (c_X7_isRow) lkX7_81 st_X7_isRow cd_X7_isRow ini_X7 hd_X7_isRow ⟨Nat.le_of_ble_eq_true rfl, Nat.le_of_ble_eq_true rfl⟩ rfl (Nat.le_of_ble_eq_true rfl) (V.kkF ?_)
  rw [isN_nI (by decide) hr]
  refine V.if_eqB (tgt := 14) dX7_stretch_4 (by decide) (fun qr => ?_) (fun qr => ?_)
  · cases qr
  · skip
    refine V.iload_n dX7_stretch_7 rfl ?_
    refine V.callS dX7_stretch_8 (c_X7_isRow) lkX7_81 st_X7_isRow cd_X7_isRow ini_X7 hd_X7_isRow ⟨Nat.le_of_ble_eq_true rfl, Nat.le_of_ble_eq_true rfl⟩ rfl (Nat.le_of_ble_eq_true rfl) (V.kkF ?_)
    rw [isN_nI (by decide) ho]
    refine V.if_neB (tgt := 17) dX7_stretch_11 (by decide) (fun qo => ?_) (fun qo => ?_)
    · skip
      refine V.iload_n dX7_stretch_17 rfl ?_
      refine V.if_eq (tgt := 28) dX7_stretch_18 (by decide) (fun h1 => ?_) (fun h1 => ?_)
      · refine V.bipush (v := -3) dX7_stretch_28 (by decide) ?_
        refine V.iret dX7_stretch_30 ?_
        exact ⟨rfl, rfl⟩
      · refine V.iload_n dX7_stretch_21 rfl ?_
        refine V.callS dX7_stretch_22 (c_X2_holds) lkX7_126 st_X2_holds cd_X2_holds ini_X2 hd_X2_holds ⟨Nat.le_of_ble_eq_true rfl, Nat.le_of_ble_eq_true rfl⟩ rfl (Nat.le_of_ble_eq_true rfl) (V.kkF ?_)
        rcases hz with hz | hz
        · exact absurd hz h1
        · rw [hz]
          refine V.if_neB (tgt := 31) dX7_stretch_25 (by decide) (fun h2 => ?_) (fun h2 => ?_)
          · cases h2
          · refine V.bipush (v := -3) dX7_stretch_28 (by decide) ?_
            refine V.iret dX7_stretch_30 ?_
            exact ⟨rfl, rfl⟩
    · cases qo
theorem k_stretch {g : Gl} {M : Mem} {A : Ab} {r o a : Nat} (hI : ∀ i, i < 142 → i ∈ g.2.2.2.2) (h : Rc A M) (hr : r < 4) (ho : o < 4) (ha : a < 9973) (ha0 : a ≠ 0) : Ct g yX7_stretch cX7_stretch 4 (some .int) 6 [.ref (g.2.2.2.1 0), .int (nI r), .int (nI o), .int (nI a)] M (fun v M' => v = some (.int ((fput (A.2.2.1 o) (mono 1 (finv (nI a)))) 1)) ∧ Rc (A.1, va_up A.2.1 r (fput (A.2.1 o) (mono 1 (finv (nI a)))), va_up A.2.2.1 r (fput (A.2.2.1 o) (mono 1 (finv (nI a)))), A.2.2.2) M' ∧ keep cP M M') := by
  have hI9 : ∀ i, 1 ≤ i ∧ i ≤ 9 → i ∈ g.2.2.2.2 := fun i h => hI i (by omega)
  have hw_r := isRw_of hr
  have hJ_r : ∀ i, 34 + 17 * r ≤ i ∧ i < 34 + 17 * r + 17 → i ∈ g.2.2.2.2 := fun i h => hI i (by omega)
  have hw_o := isRw_of ho
  have hJ_o : ∀ i, 34 + 17 * o ≤ i ∧ i < 34 + 17 * o + 17 → i ∈ g.2.2.2.2 := fun i h => hI i (by omega)
  refine Ct.ofV (by decide) (Nat.le_of_ble_eq_true rfl) (by simp [Value.category]) (fun κ => ?_)
  refine V.iload_n dX7_stretch_0 rfl ?_
  refine V.callS dX7_stretch_1 (c_X7_isRow) lkX7_81 st_X7_isRow cd_X7_isRow ini_X7 hd_X7_isRow ⟨Nat.le_of_ble_eq_true rfl, Nat.le_of_ble_eq_true rfl⟩ rfl (Nat.le_of_ble_eq_true rfl) (V.kkF ?_)
  rw [isN_nI (by decide) hr]
  refine V.if_eqB (tgt := 14) dX7_stretch_4 (by decide) (fun qr => ?_) (fun qr => ?_)
  · cases qr
  · skip
    refine V.iload_n dX7_stretch_7 rfl ?_
    refine V.callS dX7_stretch_8 (c_X7_isRow) lkX7_81 st_X7_isRow cd_X7_isRow ini_X7 hd_X7_isRow ⟨Nat.le_of_ble_eq_true rfl, Nat.le_of_ble_eq_true rfl⟩ rfl (Nat.le_of_ble_eq_true rfl) (V.kkF ?_)
    rw [isN_nI (by decide) ho]
    refine V.if_neB (tgt := 17) dX7_stretch_11 (by decide) (fun qo => ?_) (fun qo => ?_)
    · skip
      refine V.iload_n dX7_stretch_17 rfl ?_
      refine V.if_eqN (tgt := 28) dX7_stretch_18 (by decide) (by omega) (fun h1 => ?_) (fun h1 => ?_)
      · omega
      · refine V.iload_n dX7_stretch_21 rfl ?_
        refine V.callS dX7_stretch_22 (c_X2_holds) lkX7_126 st_X2_holds cd_X2_holds ini_X2 hd_X2_holds ⟨Nat.le_of_ble_eq_true rfl, Nat.le_of_ble_eq_true rfl⟩ rfl (Nat.le_of_ble_eq_true rfl) (V.kkF ?_)
        rw [isN_nI (by decide) ha]
        refine V.if_neB (tgt := 31) dX7_stretch_25 (by decide) (fun h2 => ?_) (fun h2 => ?_)
        · refine V.aload_n dX7_stretch_31 rfl ?_
          refine V.getf (ci := 6) (k := 8) (C := RX7) (T := TX7) (N := 10) dX7_stretch_32 lfX7_60 inX7 rfl (by first | assumption | exact hI _ (by omega)) rfl (by decide) rfl ?_
          refine V.iconst (v := nI 1) dX7_stretch_35 rfl ?_
          refine V.iload_n dX7_stretch_36 rfl ?_
          refine V.callS dX7_stretch_37 (c_X2_inverse) lkX7_139 st_X2_inverse cd_X2_inverse ini_X2 hd_X2_inverse ⟨Nat.le_of_ble_eq_true rfl, Nat.le_of_ble_eq_true rfl⟩ rfl (Nat.le_of_ble_eq_true rfl) (V.kkF ?_)
          refine V.callS dX7_stretch_40 (c_X7_setMonomial (i := 140) (k := 1) (hI _ (by omega)) rfl (by decide)) lkX7_122 st_X7_setMonomial cd_X7_setMonomial ini_X7 hd_X7_setMonomial ⟨Nat.le_of_ble_eq_true rfl, Nat.le_of_ble_eq_true rfl⟩ rfl (Nat.le_of_ble_eq_true rfl) (V.kkN ?_)
          refine V.aload_n dX7_stretch_43 rfl ?_
          refine V.getf (ci := 6) (k := 0) (C := RX7) (T := TX7) (N := 10) dX7_stretch_44 lfX7_12 inX7 rfl (by first | assumption | exact hI _ (by omega)) rfl (by decide) rfl ?_
          refine V.aload_n dX7_stretch_47 rfl ?_
          refine V.getf (ci := 6) (k := 6) (C := RX7) (T := TX7) (N := 10) dX7_stretch_48 lfX7_53 inX7 rfl (by first | assumption | exact hI _ (by omega)) rfl (by decide) rfl ?_
          refine V.aload_n dX7_stretch_51 rfl ?_
          refine V.getf (ci := 6) (k := 3) (C := RX7) (T := TX7) (N := 10) dX7_stretch_52 lfX7_34 inX7 rfl (by first | assumption | exact hI _ (by omega)) rfl (by decide) rfl ?_
          refine V.iload_n dX7_stretch_55 rfl ?_
          refine V.aald (n := 4) (t := 3) dX7_stretch_56 (by first | assumption | exact hI _ (by omega)) rfl rfl rfl (by decide) (by omega) ?_
          refine V.getf (ci := 4) (k := 0) (C := RX5) (T := TX5) (N := 8) dX7_stretch_57 lfX7_99 inX5 rfl (by first | assumption | exact hI _ (by omega)) (cont_row hw_o _) (by decide) rfl ?_
          refine V.aload_n dX7_stretch_60 rfl ?_
          refine V.getf (ci := 6) (k := 8) (C := RX7) (T := TX7) (N := 10) dX7_stretch_61 lfX7_60 inX7 rfl (by first | assumption | exact hI _ (by omega)) rfl (by decide) rfl ?_
          refine V.callV (ci := 3) (T := TX4) (N := 8) dX7_stretch_64 (c_X4_putInside (i := 138) (a := 34 + 17 * o + 1) (b := 140) hI9 (hI _ (by omega)) rfl (hI _ (by omega)) (ial_row hw_o (by omega) (by omega) (by omega)) (hI _ (by omega)) rfl (by omega) (by omega)) lkX7_105 im_X4_putInside se_X4_putInside cd_X4_putInside ini_X4 rfl (by first | assumption | exact hI _ (by omega)) rfl hd_X4_putInside ⟨Nat.le_of_ble_eq_true rfl, Nat.le_of_ble_eq_true rfl⟩ rfl (Nat.le_of_ble_eq_true rfl) (V.kkN ?_)
          refine V.aload_n dX7_stretch_67 rfl ?_
          refine V.getf (ci := 6) (k := 0) (C := RX7) (T := TX7) (N := 10) dX7_stretch_68 lfX7_12 inX7 rfl (by first | assumption | exact hI _ (by omega)) rfl (by decide) rfl ?_
          refine V.aload_n dX7_stretch_71 rfl ?_
          refine V.getf (ci := 6) (k := 7) (C := RX7) (T := TX7) (N := 10) dX7_stretch_72 lfX7_57 inX7 rfl (by first | assumption | exact hI _ (by omega)) rfl (by decide) rfl ?_
          refine V.aload_n dX7_stretch_75 rfl ?_
          refine V.getf (ci := 6) (k := 3) (C := RX7) (T := TX7) (N := 10) dX7_stretch_76 lfX7_34 inX7 rfl (by first | assumption | exact hI _ (by omega)) rfl (by decide) rfl ?_
          refine V.iload_n dX7_stretch_79 rfl ?_
          refine V.aald (n := 4) (t := 3) dX7_stretch_80 (by first | assumption | exact hI _ (by omega)) rfl rfl rfl (by decide) (by omega) ?_
          refine V.getf (ci := 4) (k := 1) (C := RX5) (T := TX5) (N := 8) dX7_stretch_81 lfX7_102 inX5 rfl (by first | assumption | exact hI _ (by omega)) (cont_row hw_o _) (by decide) rfl ?_
          refine V.aload_n dX7_stretch_84 rfl ?_
          refine V.getf (ci := 6) (k := 8) (C := RX7) (T := TX7) (N := 10) dX7_stretch_85 lfX7_60 inX7 rfl (by first | assumption | exact hI _ (by omega)) rfl (by decide) rfl ?_
          refine V.callV (ci := 3) (T := TX4) (N := 8) dX7_stretch_88 (c_X4_putInside (i := 139) (a := 34 + 17 * o + 2) (b := 140) hI9 (hI _ (by omega)) rfl (hI _ (by omega)) (ial_row hw_o (by omega) (by omega) (by omega)) (hI _ (by omega)) rfl (by omega) (by omega)) lkX7_105 im_X4_putInside se_X4_putInside cd_X4_putInside ini_X4 rfl (by first | assumption | exact hI _ (by omega)) rfl hd_X4_putInside ⟨Nat.le_of_ble_eq_true rfl, Nat.le_of_ble_eq_true rfl⟩ rfl (Nat.le_of_ble_eq_true rfl) (V.kkN ?_)
          refine V.aload_n dX7_stretch_91 rfl ?_
          refine V.getf (ci := 6) (k := 3) (C := RX7) (T := TX7) (N := 10) dX7_stretch_92 lfX7_34 inX7 rfl (by first | assumption | exact hI _ (by omega)) rfl (by decide) rfl ?_
          refine V.iload_n dX7_stretch_95 rfl ?_
          refine V.aald (n := 4) (t := 3) dX7_stretch_96 (by first | assumption | exact hI _ (by omega)) rfl rfl rfl (by decide) (by omega) ?_
          refine V.aload_n dX7_stretch_97 rfl ?_
          refine V.getf (ci := 6) (k := 6) (C := RX7) (T := TX7) (N := 10) dX7_stretch_98 lfX7_53 inX7 rfl (by first | assumption | exact hI _ (by omega)) rfl (by decide) rfl ?_
          refine V.aload_n dX7_stretch_101 rfl ?_
          refine V.getf (ci := 6) (k := 7) (C := RX7) (T := TX7) (N := 10) dX7_stretch_102 lfX7_57 inX7 rfl (by first | assumption | exact hI _ (by omega)) rfl (by decide) rfl ?_
          refine V.callV (ci := 4) (T := TX5) (N := 8) dX7_stretch_105 (c_X5_become (a := 138) (b := 139) hw_r hI9 hJ_r (hI _ (by omega)) rfl (hI _ (by omega)) rfl (by omega) (by omega)) lkX7_95 im_X5_become se_X5_become cd_X5_become ini_X5 rfl (by first | assumption | exact hI _ (by omega)) (cont_row hw_r _) hd_X5_become ⟨Nat.le_of_ble_eq_true rfl, Nat.le_of_ble_eq_true rfl⟩ rfl (Nat.le_of_ble_eq_true rfl) (V.kkX (fun M9 q9 => ?_))
          refine V.iret dX7_stretch_108 ?_
          obtain ⟨k9, r9, g9, f9⟩ := q9
          generalize hM1 : aset (aset (aset (aset (aset M 140 0 9 _) 6 0 9 _) 138 0 9 _) 6 0 9 _) 139 0 9 _ = M1 at k9 g9 f9 ⊢
          have kk : keep (fun j => j = 6 ∨ j = 138 ∨ j = 139 ∨ j = 140) M M1 := by
            rw [← hM1]
            exact (((((keep.rf (P := fun j => j = 6 ∨ j = 138 ∨ j = 139 ∨ j = 140)).as (by omega)).as (by omega)).as (by omega)).as (by omega)).as (by omega)
          have e1 : eq9 (M1 138) (fput (A.2.1 o) (mono 1 (finv (nI a)))) := by
            rw [← hM1, aset_ne (by decide), aset_ne (by decide)]
            refine aset_9.tr (fput_cg ?_ aset_9)
            rw [aset_ne (by omega)]; exact h.g ho
          have e2 : eq9 (M1 139) (fput (A.2.2.1 o) (mono 1 (finv (nI a)))) := by
            rw [← hM1]
            refine aset_9.tr (fput_cg ?_ ?_)
            · rw [aset_ne (by omega), aset_ne (by omega), aset_ne (by omega)]; exact h.f ho
            · rw [aset_ne (by omega), aset_ne (by omega)]; exact aset_9
          exact ⟨by rw [e2 1 (by decide)], h.row hr (kk.wk (fun j hj => by unfold scr; omega)) (by rw [kk 10 (by omega)]) k9 r9 (g9.tr e1) (f9.tr e2), (kk.wk (fun j hj => by unfold cP; omega)).tr (k9.wk (fun j hj => by unfold cP; omega))⟩
        · cases h2
    · cases qo
theorem k_series_2 {g : Gl} {M : Mem} {x y z : Int32} (h : isN x 4 = false) : Ct g yX7_series cX7_series 4 (some .int) 1 [.ref (g.2.2.2.1 0), .int x, .int y, .int z] M (fun v M' => v = some (.int (-2)) ∧ M' = M) := by
  refine Ct.ofV (by decide) (Nat.le_of_ble_eq_true rfl) (by simp [Value.category]) (fun κ => ?_)
  refine V.iload_n dX7_series_0 rfl ?_
  refine V.callS dX7_series_1 (c_X7_isRow) lkX7_81 st_X7_isRow cd_X7_isRow ini_X7 hd_X7_isRow ⟨Nat.le_of_ble_eq_true rfl, Nat.le_of_ble_eq_true rfl⟩ rfl (Nat.le_of_ble_eq_true rfl) (V.kkF ?_)
  refine V.if_neB (tgt := 10) dX7_series_4 (by decide) (fun h1 => ?_) (fun h1 => ?_)
  · rw [h1] at h; cases h
  · refine V.bipush (v := -2) dX7_series_7 (by decide) ?_
    refine V.iret dX7_series_9 ?_
    exact ⟨rfl, rfl⟩
theorem k_series_3 {g : Gl} {M : Mem} {r : Nat} {y z : Int32} (hr : r < 4) (hz : isN y 4 = false ∨ isN z 9 = false) : Ct g yX7_series cX7_series 4 (some .int) 1 [.ref (g.2.2.2.1 0), .int (nI r), .int y, .int z] M (fun v M' => v = some (.int (-3)) ∧ M' = M) := by
  refine Ct.ofV (by decide) (Nat.le_of_ble_eq_true rfl) (by simp [Value.category]) (fun κ => ?_)
  refine V.iload_n dX7_series_0 rfl ?_
  refine V.callS dX7_series_1 (c_X7_isRow) lkX7_81 st_X7_isRow cd_X7_isRow ini_X7 hd_X7_isRow ⟨Nat.le_of_ble_eq_true rfl, Nat.le_of_ble_eq_true rfl⟩ rfl (Nat.le_of_ble_eq_true rfl) (V.kkF ?_)
  rw [isN_nI (by decide) hr]
  refine V.if_neB (tgt := 10) dX7_series_4 (by decide) (fun qr => ?_) (fun qr => ?_)
  · skip
    refine V.iload_n dX7_series_10 rfl ?_
    refine V.if_lt (tgt := 26) dX7_series_11 (by decide) (fun h1 => ?_) (fun h1 => ?_)
    · refine V.bipush (v := -3) dX7_series_26 (by decide) ?_
      refine V.iret dX7_series_28 ?_
      exact ⟨rfl, rfl⟩
    · refine V.iload_n dX7_series_14 rfl ?_
      refine V.iconst (v := nI 3) dX7_series_15 rfl ?_
      refine V.icmp_gt (tgt := 26) dX7_series_16 (by decide) (fun h2 => ?_) (fun h2 => ?_)
      · refine V.bipush (v := -3) dX7_series_26 (by decide) ?_
        refine V.iret dX7_series_28 ?_
        exact ⟨rfl, rfl⟩
      · refine V.iload_n dX7_series_19 rfl ?_
        refine V.callS dX7_series_20 (c_X7_isPower) lkX7_143 st_X7_isPower cd_X7_isPower ini_X7 hd_X7_isPower ⟨Nat.le_of_ble_eq_true rfl, Nat.le_of_ble_eq_true rfl⟩ rfl (Nat.le_of_ble_eq_true rfl) (V.kkF ?_)
        rcases hz with hz | hz
        · rw [isN_gt (by decide) h1 h2] at hz; cases hz
        · rw [hz]
          refine V.if_neB (tgt := 29) dX7_series_23 (by decide) (fun h3 => ?_) (fun h3 => ?_)
          · cases h3
          · refine V.bipush (v := -3) dX7_series_26 (by decide) ?_
            refine V.iret dX7_series_28 ?_
            exact ⟨rfl, rfl⟩
  · cases qr
theorem k_series {g : Gl} {M : Mem} {A : Ab} {r y z : Nat} (hI : ∀ i, i < 142 → i ∈ g.2.2.2.2) (h : Rc A M) (hr : r < 4) (hy : y < 4) (hz : z < 9) : Ct g yX7_series cX7_series 4 (some .int) 1 [.ref (g.2.2.2.1 0), .int (nI r), .int (nI y), .int (nI z)] M (fun v M' => v = some (.int (chS A r y z)) ∧ M' = M) := by
  have hw_r := isRw_of hr
  have hJ_r : ∀ i, 34 + 17 * r ≤ i ∧ i < 34 + 17 * r + 17 → i ∈ g.2.2.2.2 := fun i h => hI i (by omega)
  refine Ct.ofV (by decide) (Nat.le_of_ble_eq_true rfl) (by simp [Value.category]) (fun κ => ?_)
  refine V.iload_n dX7_series_0 rfl ?_
  refine V.callS dX7_series_1 (c_X7_isRow) lkX7_81 st_X7_isRow cd_X7_isRow ini_X7 hd_X7_isRow ⟨Nat.le_of_ble_eq_true rfl, Nat.le_of_ble_eq_true rfl⟩ rfl (Nat.le_of_ble_eq_true rfl) (V.kkF ?_)
  rw [isN_nI (by decide) hr]
  refine V.if_neB (tgt := 10) dX7_series_4 (by decide) (fun qr => ?_) (fun qr => ?_)
  · skip
    refine V.iload_n dX7_series_10 rfl ?_
    refine V.if_lt (tgt := 26) dX7_series_11 (by decide) (fun h1 => ?_) (fun h1 => ?_)
    · exact absurd h1 (nI_pos (by omega))
    · refine V.iload_n dX7_series_14 rfl ?_
      refine V.iconst (v := nI 3) dX7_series_15 rfl ?_
      refine V.gtN (tgt := 26) dX7_series_16 (by decide) (by omega) (by omega) (fun h2 => ?_) (fun h2 => ?_)
      · omega
      · refine V.iload_n dX7_series_19 rfl ?_
        refine V.callS dX7_series_20 (c_X7_isPower) lkX7_143 st_X7_isPower cd_X7_isPower ini_X7 hd_X7_isPower ⟨Nat.le_of_ble_eq_true rfl, Nat.le_of_ble_eq_true rfl⟩ rfl (Nat.le_of_ble_eq_true rfl) (V.kkF ?_)
        rw [isN_nI (by decide) hz]
        refine V.if_neB (tgt := 29) dX7_series_23 (by decide) (fun h3 => ?_) (fun h3 => ?_)
        · refine V.aload_n dX7_series_29 rfl ?_
          refine V.getf (ci := 6) (k := 3) (C := RX7) (T := TX7) (N := 10) dX7_series_30 lfX7_34 inX7 rfl (by first | assumption | exact hI _ (by omega)) rfl (by decide) rfl ?_
          refine V.iload_n dX7_series_33 rfl ?_
          refine V.aald (n := 4) (t := 3) dX7_series_34 (by first | assumption | exact hI _ (by omega)) rfl rfl rfl (by decide) (by omega) ?_
          refine V.iload_n dX7_series_35 rfl ?_
          refine V.callV (ci := 4) (T := TX5) (N := 8) dX7_series_36 (c_X5_chosen hw_r hJ_r hy) lkX7_146 im_X5_chosen se_X5_chosen cd_X5_chosen ini_X5 rfl (by first | assumption | exact hI _ (by omega)) (cont_row hw_r _) hd_X5_chosen ⟨Nat.le_of_ble_eq_true rfl, Nat.le_of_ble_eq_true rfl⟩ rfl (Nat.le_of_ble_eq_true rfl) (V.kkA ?_)
          refine V.iload_n dX7_series_39 rfl ?_
          refine V.iald (n := 9) dX7_series_40 (by first | assumption | exact hI _ (by omega)) (by first | assumption | decide | exact ial_row hw_r (by omega) (by omega) (by omega)) (by omega) ?_
          refine V.iret dX7_series_41 ?_
          exact ⟨by rw [h.ch hr hy z hz], rfl⟩
        · cases h3
  · cases qr
theorem k_polynomial_2 {g : Gl} {M : Mem} {x y z : Int32} (h : isN x 4 = false) : Ct g yX7_polynomial cX7_polynomial 4 (some .int) 1 [.ref (g.2.2.2.1 0), .int x, .int y, .int z] M (fun v M' => v = some (.int (-2)) ∧ M' = M) := by
  refine Ct.ofV (by decide) (Nat.le_of_ble_eq_true rfl) (by simp [Value.category]) (fun κ => ?_)
  refine V.iload_n dX7_polynomial_0 rfl ?_
  refine V.callS dX7_polynomial_1 (c_X7_isRow) lkX7_81 st_X7_isRow cd_X7_isRow ini_X7 hd_X7_isRow ⟨Nat.le_of_ble_eq_true rfl, Nat.le_of_ble_eq_true rfl⟩ rfl (Nat.le_of_ble_eq_true rfl) (V.kkF ?_)
  refine V.if_neB (tgt := 10) dX7_polynomial_4 (by decide) (fun h1 => ?_) (fun h1 => ?_)
  · rw [h1] at h; cases h
  · refine V.bipush (v := -2) dX7_polynomial_7 (by decide) ?_
    refine V.iret dX7_polynomial_9 ?_
    exact ⟨rfl, rfl⟩
theorem k_polynomial_3 {g : Gl} {M : Mem} {r : Nat} {y z : Int32} (hr : r < 4) (hz : isN y 9 = false ∨ isN z 9 = false) : Ct g yX7_polynomial cX7_polynomial 4 (some .int) 1 [.ref (g.2.2.2.1 0), .int (nI r), .int y, .int z] M (fun v M' => v = some (.int (-3)) ∧ M' = M) := by
  refine Ct.ofV (by decide) (Nat.le_of_ble_eq_true rfl) (by simp [Value.category]) (fun κ => ?_)
  refine V.iload_n dX7_polynomial_0 rfl ?_
  refine V.callS dX7_polynomial_1 (c_X7_isRow) lkX7_81 st_X7_isRow cd_X7_isRow ini_X7 hd_X7_isRow ⟨Nat.le_of_ble_eq_true rfl, Nat.le_of_ble_eq_true rfl⟩ rfl (Nat.le_of_ble_eq_true rfl) (V.kkF ?_)
  rw [isN_nI (by decide) hr]
  refine V.if_neB (tgt := 10) dX7_polynomial_4 (by decide) (fun qr => ?_) (fun qr => ?_)
  · skip
    refine V.iload_n dX7_polynomial_10 rfl ?_
    refine V.callS dX7_polynomial_11 (c_X7_isPower) lkX7_143 st_X7_isPower cd_X7_isPower ini_X7 hd_X7_isPower ⟨Nat.le_of_ble_eq_true rfl, Nat.le_of_ble_eq_true rfl⟩ rfl (Nat.le_of_ble_eq_true rfl) (V.kkF ?_)
    refine V.if_eqB (tgt := 24) dX7_polynomial_14 (by decide) (fun h1 => ?_) (fun h1 => ?_)
    · refine V.bipush (v := -3) dX7_polynomial_24 (by decide) ?_
      refine V.iret dX7_polynomial_26 ?_
      exact ⟨rfl, rfl⟩
    · refine V.iload_n dX7_polynomial_17 rfl ?_
      refine V.callS dX7_polynomial_18 (c_X7_isPower) lkX7_143 st_X7_isPower cd_X7_isPower ini_X7 hd_X7_isPower ⟨Nat.le_of_ble_eq_true rfl, Nat.le_of_ble_eq_true rfl⟩ rfl (Nat.le_of_ble_eq_true rfl) (V.kkF ?_)
      rcases hz with hz | hz
      · rw [h1] at hz; cases hz
      · rw [hz]
        refine V.if_neB (tgt := 27) dX7_polynomial_21 (by decide) (fun h3 => ?_) (fun h3 => ?_)
        · cases h3
        · refine V.bipush (v := -3) dX7_polynomial_24 (by decide) ?_
          refine V.iret dX7_polynomial_26 ?_
          exact ⟨rfl, rfl⟩
  · cases qr
theorem k_polynomial {g : Gl} {M : Mem} {A : Ab} {r y z : Nat} (hI : ∀ i, i < 142 → i ∈ g.2.2.2.2) (h : Rc A M) (hr : r < 4) (hy : y < 9) (hz : z < 9) : Ct g yX7_polynomial cX7_polynomial 4 (some .int) 1 [.ref (g.2.2.2.1 0), .int (nI r), .int (nI y), .int (nI z)] M (fun v M' => v = some (.int (PR A r y z)) ∧ M' = M) := by
  have hw_r := isRw_of hr
  have hJ_r : ∀ i, 34 + 17 * r ≤ i ∧ i < 34 + 17 * r + 17 → i ∈ g.2.2.2.2 := fun i h => hI i (by omega)
  refine Ct.ofV (by decide) (Nat.le_of_ble_eq_true rfl) (by simp [Value.category]) (fun κ => ?_)
  refine V.iload_n dX7_polynomial_0 rfl ?_
  refine V.callS dX7_polynomial_1 (c_X7_isRow) lkX7_81 st_X7_isRow cd_X7_isRow ini_X7 hd_X7_isRow ⟨Nat.le_of_ble_eq_true rfl, Nat.le_of_ble_eq_true rfl⟩ rfl (Nat.le_of_ble_eq_true rfl) (V.kkF ?_)
  rw [isN_nI (by decide) hr]
  refine V.if_neB (tgt := 10) dX7_polynomial_4 (by decide) (fun qr => ?_) (fun qr => ?_)
  · skip
    refine V.iload_n dX7_polynomial_10 rfl ?_
    refine V.callS dX7_polynomial_11 (c_X7_isPower) lkX7_143 st_X7_isPower cd_X7_isPower ini_X7 hd_X7_isPower ⟨Nat.le_of_ble_eq_true rfl, Nat.le_of_ble_eq_true rfl⟩ rfl (Nat.le_of_ble_eq_true rfl) (V.kkF ?_)
    rw [isN_nI (by decide) hy]
    refine V.if_eqB (tgt := 24) dX7_polynomial_14 (by decide) (fun h1 => ?_) (fun h1 => ?_)
    · cases h1
    · refine V.iload_n dX7_polynomial_17 rfl ?_
      refine V.callS dX7_polynomial_18 (c_X7_isPower) lkX7_143 st_X7_isPower cd_X7_isPower ini_X7 hd_X7_isPower ⟨Nat.le_of_ble_eq_true rfl, Nat.le_of_ble_eq_true rfl⟩ rfl (Nat.le_of_ble_eq_true rfl) (V.kkF ?_)
      rw [isN_nI (by decide) hz]
      refine V.if_neB (tgt := 27) dX7_polynomial_21 (by decide) (fun h3 => ?_) (fun h3 => ?_)
      · skip
        refine V.aload_n dX7_polynomial_27 rfl ?_
        refine V.getf (ci := 6) (k := 3) (C := RX7) (T := TX7) (N := 10) dX7_polynomial_28 lfX7_34 inX7 rfl (by first | assumption | exact hI _ (by omega)) rfl (by decide) rfl ?_
        refine V.iload_n dX7_polynomial_31 rfl ?_
        refine V.aald (n := 4) (t := 3) dX7_polynomial_32 (by first | assumption | exact hI _ (by omega)) rfl rfl rfl (by decide) (by omega) ?_
        refine V.getf (ci := 4) (k := 4) (C := RX5) (T := TX5) (N := 8) dX7_polynomial_33 lfX7_150 inX5 rfl (by first | assumption | exact hI _ (by omega)) (cont_row hw_r _) (by decide) rfl ?_
        refine V.iload_n dX7_polynomial_36 rfl ?_
        refine V.aald (n := 9) (t := 2) dX7_polynomial_37 (by first | assumption | exact hI _ (by omega)) (cont_pols hw_r _) rfl rfl (by decide) (by omega) ?_
        refine V.iload_n dX7_polynomial_38 rfl ?_
        refine V.iald (n := 9) dX7_polynomial_39 (by first | assumption | exact hI _ (by omega)) (by first | assumption | decide | exact ial_row hw_r (by omega) (by omega) (by omega)) (by omega) ?_
        refine V.iret dX7_polynomial_40 ?_
        exact ⟨by rw [h.pol' hr hy z hz], rfl⟩
      · cases h3
  · cases qr
theorem k_value_2 {g : Gl} {M : Mem} {x y z : Int32} (h : isN x 4 = false) : Ct g yX7_value cX7_value 4 (some .int) 2 [.ref (g.2.2.2.1 0), .int x, .int y, .int z] M (fun v M' => v = some (.int (-2)) ∧ M' = M) := by
  refine Ct.ofV (by decide) (Nat.le_of_ble_eq_true rfl) (by simp [Value.category]) (fun κ => ?_)
  refine V.iload_n dX7_value_0 rfl ?_
  refine V.callS dX7_value_1 (c_X7_isRow) lkX7_81 st_X7_isRow cd_X7_isRow ini_X7 hd_X7_isRow ⟨Nat.le_of_ble_eq_true rfl, Nat.le_of_ble_eq_true rfl⟩ rfl (Nat.le_of_ble_eq_true rfl) (V.kkF ?_)
  refine V.if_neB (tgt := 10) dX7_value_4 (by decide) (fun h1 => ?_) (fun h1 => ?_)
  · rw [h1] at h; cases h
  · refine V.bipush (v := -2) dX7_value_7 (by decide) ?_
    refine V.iret dX7_value_9 ?_
    exact ⟨rfl, rfl⟩
theorem k_value_3 {g : Gl} {M : Mem} {r : Nat} {y z : Int32} (hr : r < 4) (hz : isN y 9 = false ∨ isN z 9973 = false) : Ct g yX7_value cX7_value 4 (some .int) 2 [.ref (g.2.2.2.1 0), .int (nI r), .int y, .int z] M (fun v M' => v = some (.int (-3)) ∧ M' = M) := by
  refine Ct.ofV (by decide) (Nat.le_of_ble_eq_true rfl) (by simp [Value.category]) (fun κ => ?_)
  refine V.iload_n dX7_value_0 rfl ?_
  refine V.callS dX7_value_1 (c_X7_isRow) lkX7_81 st_X7_isRow cd_X7_isRow ini_X7 hd_X7_isRow ⟨Nat.le_of_ble_eq_true rfl, Nat.le_of_ble_eq_true rfl⟩ rfl (Nat.le_of_ble_eq_true rfl) (V.kkF ?_)
  rw [isN_nI (by decide) hr]
  refine V.if_neB (tgt := 10) dX7_value_4 (by decide) (fun qr => ?_) (fun qr => ?_)
  · skip
    refine V.iload_n dX7_value_10 rfl ?_
    refine V.callS dX7_value_11 (c_X7_isPower) lkX7_143 st_X7_isPower cd_X7_isPower ini_X7 hd_X7_isPower ⟨Nat.le_of_ble_eq_true rfl, Nat.le_of_ble_eq_true rfl⟩ rfl (Nat.le_of_ble_eq_true rfl) (V.kkF ?_)
    refine V.if_eqB (tgt := 24) dX7_value_14 (by decide) (fun h1 => ?_) (fun h1 => ?_)
    · refine V.bipush (v := -3) dX7_value_24 (by decide) ?_
      refine V.iret dX7_value_26 ?_
      exact ⟨rfl, rfl⟩
    · refine V.iload_n dX7_value_17 rfl ?_
      refine V.callS dX7_value_18 (c_X2_holds) lkX7_126 st_X2_holds cd_X2_holds ini_X2 hd_X2_holds ⟨Nat.le_of_ble_eq_true rfl, Nat.le_of_ble_eq_true rfl⟩ rfl (Nat.le_of_ble_eq_true rfl) (V.kkF ?_)
      rcases hz with hz | hz
      · rw [h1] at hz; cases hz
      · rw [hz]
        refine V.if_neB (tgt := 27) dX7_value_21 (by decide) (fun h3 => ?_) (fun h3 => ?_)
        · cases h3
        · refine V.bipush (v := -3) dX7_value_24 (by decide) ?_
          refine V.iret dX7_value_26 ?_
          exact ⟨rfl, rfl⟩
  · cases qr
theorem k_value {g : Gl} {M : Mem} {A : Ab} {r y z : Nat} (hI : ∀ i, i < 142 → i ∈ g.2.2.2.2) (h : Rc A M) (hr : r < 4) (hy : y < 9) (hz : z < 9973) : Ct g yX7_value cX7_value 4 (some .int) 2 [.ref (g.2.2.2.1 0), .int (nI r), .int (nI y), .int (nI z)] M (fun v M' => v = some (.int (horn (PR A r y) (nI z) 9)) ∧ M' = M) := by
  have hw_r := isRw_of hr
  have hJ_r : ∀ i, 34 + 17 * r ≤ i ∧ i < 34 + 17 * r + 17 → i ∈ g.2.2.2.2 := fun i h => hI i (by omega)
  refine Ct.ofV (by decide) (Nat.le_of_ble_eq_true rfl) (by simp [Value.category]) (fun κ => ?_)
  refine V.iload_n dX7_value_0 rfl ?_
  refine V.callS dX7_value_1 (c_X7_isRow) lkX7_81 st_X7_isRow cd_X7_isRow ini_X7 hd_X7_isRow ⟨Nat.le_of_ble_eq_true rfl, Nat.le_of_ble_eq_true rfl⟩ rfl (Nat.le_of_ble_eq_true rfl) (V.kkF ?_)
  rw [isN_nI (by decide) hr]
  refine V.if_neB (tgt := 10) dX7_value_4 (by decide) (fun qr => ?_) (fun qr => ?_)
  · skip
    refine V.iload_n dX7_value_10 rfl ?_
    refine V.callS dX7_value_11 (c_X7_isPower) lkX7_143 st_X7_isPower cd_X7_isPower ini_X7 hd_X7_isPower ⟨Nat.le_of_ble_eq_true rfl, Nat.le_of_ble_eq_true rfl⟩ rfl (Nat.le_of_ble_eq_true rfl) (V.kkF ?_)
    rw [isN_nI (by decide) hy]
    refine V.if_eqB (tgt := 24) dX7_value_14 (by decide) (fun h1 => ?_) (fun h1 => ?_)
    · cases h1
    · refine V.iload_n dX7_value_17 rfl ?_
      refine V.callS dX7_value_18 (c_X2_holds) lkX7_126 st_X2_holds cd_X2_holds ini_X2 hd_X2_holds ⟨Nat.le_of_ble_eq_true rfl, Nat.le_of_ble_eq_true rfl⟩ rfl (Nat.le_of_ble_eq_true rfl) (V.kkF ?_)
      rw [isN_nI (by decide) hz]
      refine V.if_neB (tgt := 27) dX7_value_21 (by decide) (fun h3 => ?_) (fun h3 => ?_)
      · skip
        refine V.aload_n dX7_value_27 rfl ?_
        refine V.getf (ci := 6) (k := 3) (C := RX7) (T := TX7) (N := 10) dX7_value_28 lfX7_34 inX7 rfl (by first | assumption | exact hI _ (by omega)) rfl (by decide) rfl ?_
        refine V.iload_n dX7_value_31 rfl ?_
        refine V.aald (n := 4) (t := 3) dX7_value_32 (by first | assumption | exact hI _ (by omega)) rfl rfl rfl (by decide) (by omega) ?_
        refine V.getf (ci := 4) (k := 4) (C := RX5) (T := TX5) (N := 8) dX7_value_33 lfX7_150 inX5 rfl (by first | assumption | exact hI _ (by omega)) (cont_row hw_r _) (by decide) rfl ?_
        refine V.iload_n dX7_value_36 rfl ?_
        refine V.aald (n := 9) (t := 2) dX7_value_37 (by first | assumption | exact hI _ (by omega)) (cont_pols hw_r _) rfl rfl (by decide) (by omega) ?_
        refine V.iload_n dX7_value_38 rfl ?_
        refine V.callS dX7_value_39 (c_X7_valueAt (hI _ (by omega)) (ial_row hw_r (by omega) (by omega) (by omega))) lkX7_154 st_X7_valueAt cd_X7_valueAt ini_X7 hd_X7_valueAt ⟨Nat.le_of_ble_eq_true rfl, Nat.le_of_ble_eq_true rfl⟩ rfl (Nat.le_of_ble_eq_true rfl) (V.kkF ?_)
        refine V.iret dX7_value_42 ?_
        exact ⟨by rw [horn_cg (h.pol' hr hy) 9 (by decide)], rfl⟩
      · cases h3
  · cases qr
theorem k_connect_2 {g : Gl} {M : Mem} {x y z t : Int32} (h : isN x 4 = false ∨ isN y 4 = false) : Ct g yX7_connect cX7_connect 5 (some .int) 3 [.ref (g.2.2.2.1 0), .int x, .int y, .int z, .int t] M (fun v M' => v = some (.int (-2)) ∧ M' = M) := by
  refine Ct.ofV (by decide) (Nat.le_of_ble_eq_true rfl) (by simp [Value.category]) (fun κ => ?_)
  refine V.iload_n dX7_connect_0 rfl ?_
  refine V.callS dX7_connect_1 (c_X7_isRow) lkX7_81 st_X7_isRow cd_X7_isRow ini_X7 hd_X7_isRow ⟨Nat.le_of_ble_eq_true rfl, Nat.le_of_ble_eq_true rfl⟩ rfl (Nat.le_of_ble_eq_true rfl) (V.kkF ?_)
  refine V.if_eqB (tgt := 14) dX7_connect_4 (by decide) (fun h1 => ?_) (fun h1 => ?_)
  · refine V.bipush (v := -2) dX7_connect_14 (by decide) ?_
    refine V.iret dX7_connect_16 ?_
    exact ⟨rfl, rfl⟩
  · skip
    refine V.iload_n dX7_connect_7 rfl ?_
    refine V.callS dX7_connect_8 (c_X7_isRow) lkX7_81 st_X7_isRow cd_X7_isRow ini_X7 hd_X7_isRow ⟨Nat.le_of_ble_eq_true rfl, Nat.le_of_ble_eq_true rfl⟩ rfl (Nat.le_of_ble_eq_true rfl) (V.kkF ?_)
    refine V.if_neB (tgt := 17) dX7_connect_11 (by decide) (fun h2 => ?_) (fun h2 => ?_)
    · rcases h with h | h
      · rw [h1] at h; cases h
      · rw [h2] at h; cases h
    · refine V.bipush (v := -2) dX7_connect_14 (by decide) ?_
      refine V.iret dX7_connect_16 ?_
      exact ⟨rfl, rfl⟩
theorem k_connect_3 {g : Gl} {M : Mem} {s o : Nat} {z t : Int32} (hs : s < 4) (ho : o < 4) (hz : isN z 9 = false ∨ isN t 9 = false) : Ct g yX7_connect cX7_connect 5 (some .int) 3 [.ref (g.2.2.2.1 0), .int (nI s), .int (nI o), .int z, .int t] M (fun v M' => v = some (.int (-3)) ∧ M' = M) := by
  refine Ct.ofV (by decide) (Nat.le_of_ble_eq_true rfl) (by simp [Value.category]) (fun κ => ?_)
  refine V.iload_n dX7_connect_0 rfl ?_
  refine V.callS dX7_connect_1 (c_X7_isRow) lkX7_81 st_X7_isRow cd_X7_isRow ini_X7 hd_X7_isRow ⟨Nat.le_of_ble_eq_true rfl, Nat.le_of_ble_eq_true rfl⟩ rfl (Nat.le_of_ble_eq_true rfl) (V.kkF ?_)
  rw [isN_nI (by decide) hs]
  refine V.if_eqB (tgt := 14) dX7_connect_4 (by decide) (fun qs => ?_) (fun qs => ?_)
  · cases qs
  · skip
    refine V.iload_n dX7_connect_7 rfl ?_
    refine V.callS dX7_connect_8 (c_X7_isRow) lkX7_81 st_X7_isRow cd_X7_isRow ini_X7 hd_X7_isRow ⟨Nat.le_of_ble_eq_true rfl, Nat.le_of_ble_eq_true rfl⟩ rfl (Nat.le_of_ble_eq_true rfl) (V.kkF ?_)
    rw [isN_nI (by decide) ho]
    refine V.if_neB (tgt := 17) dX7_connect_11 (by decide) (fun qo => ?_) (fun qo => ?_)
    · skip
      refine V.iload_n dX7_connect_17 rfl ?_
      refine V.callS dX7_connect_18 (c_X7_isPower) lkX7_143 st_X7_isPower cd_X7_isPower ini_X7 hd_X7_isPower ⟨Nat.le_of_ble_eq_true rfl, Nat.le_of_ble_eq_true rfl⟩ rfl (Nat.le_of_ble_eq_true rfl) (V.kkF ?_)
      refine V.if_eqB (tgt := 32) dX7_connect_21 (by decide) (fun h1 => ?_) (fun h1 => ?_)
      · refine V.bipush (v := -3) dX7_connect_32 (by decide) ?_
        refine V.iret dX7_connect_34 ?_
        exact ⟨rfl, rfl⟩
      · refine V.iload dX7_connect_24 rfl ?_
        refine V.callS dX7_connect_26 (c_X7_isPower) lkX7_143 st_X7_isPower cd_X7_isPower ini_X7 hd_X7_isPower ⟨Nat.le_of_ble_eq_true rfl, Nat.le_of_ble_eq_true rfl⟩ rfl (Nat.le_of_ble_eq_true rfl) (V.kkF ?_)
        rcases hz with hz | hz
        · rw [h1] at hz; cases hz
        · rw [hz]
          refine V.if_neB (tgt := 35) dX7_connect_29 (by decide) (fun h3 => ?_) (fun h3 => ?_)
          · cases h3
          · refine V.bipush (v := -3) dX7_connect_32 (by decide) ?_
            refine V.iret dX7_connect_34 ?_
            exact ⟨rfl, rfl⟩
    · cases qo
theorem k_connect {g : Gl} {M : Mem} {A : Ab} {s o z t : Nat} (hI : ∀ i, i < 142 → i ∈ g.2.2.2.2) (h : Rc A M) (hs : s < 4) (ho : o < 4) (hz : z < 9) (ht : t < 9) : Ct g yX7_connect cX7_connect 5 (some .int) 3 [.ref (g.2.2.2.1 0), .int (nI s), .int (nI o), .int (nI z), .int (nI t)] M (fun v M' => v = some (.int (ftell (PR A o) (PR A s z) t)) ∧ Rc A M' ∧ keep cP M M') := by
  have hw_s := isRw_of hs
  have hJ_s : ∀ i, 34 + 17 * s ≤ i ∧ i < 34 + 17 * s + 17 → i ∈ g.2.2.2.2 := fun i h => hI i (by omega)
  have hw_o := isRw_of ho
  have hJ_o : ∀ i, 34 + 17 * o ≤ i ∧ i < 34 + 17 * o + 17 → i ∈ g.2.2.2.2 := fun i h => hI i (by omega)
  refine Ct.ofV (by decide) (Nat.le_of_ble_eq_true rfl) (by simp [Value.category]) (fun κ => ?_)
  refine V.iload_n dX7_connect_0 rfl ?_
  refine V.callS dX7_connect_1 (c_X7_isRow) lkX7_81 st_X7_isRow cd_X7_isRow ini_X7 hd_X7_isRow ⟨Nat.le_of_ble_eq_true rfl, Nat.le_of_ble_eq_true rfl⟩ rfl (Nat.le_of_ble_eq_true rfl) (V.kkF ?_)
  rw [isN_nI (by decide) hs]
  refine V.if_eqB (tgt := 14) dX7_connect_4 (by decide) (fun qs => ?_) (fun qs => ?_)
  · cases qs
  · skip
    refine V.iload_n dX7_connect_7 rfl ?_
    refine V.callS dX7_connect_8 (c_X7_isRow) lkX7_81 st_X7_isRow cd_X7_isRow ini_X7 hd_X7_isRow ⟨Nat.le_of_ble_eq_true rfl, Nat.le_of_ble_eq_true rfl⟩ rfl (Nat.le_of_ble_eq_true rfl) (V.kkF ?_)
    rw [isN_nI (by decide) ho]
    refine V.if_neB (tgt := 17) dX7_connect_11 (by decide) (fun qo => ?_) (fun qo => ?_)
    · skip
      refine V.iload_n dX7_connect_17 rfl ?_
      refine V.callS dX7_connect_18 (c_X7_isPower) lkX7_143 st_X7_isPower cd_X7_isPower ini_X7 hd_X7_isPower ⟨Nat.le_of_ble_eq_true rfl, Nat.le_of_ble_eq_true rfl⟩ rfl (Nat.le_of_ble_eq_true rfl) (V.kkF ?_)
      rw [isN_nI (by decide) hz]
      refine V.if_eqB (tgt := 32) dX7_connect_21 (by decide) (fun h1 => ?_) (fun h1 => ?_)
      · cases h1
      · refine V.iload dX7_connect_24 rfl ?_
        refine V.callS dX7_connect_26 (c_X7_isPower) lkX7_143 st_X7_isPower cd_X7_isPower ini_X7 hd_X7_isPower ⟨Nat.le_of_ble_eq_true rfl, Nat.le_of_ble_eq_true rfl⟩ rfl (Nat.le_of_ble_eq_true rfl) (V.kkF ?_)
        rw [isN_nI (by decide) ht]
        refine V.if_neB (tgt := 35) dX7_connect_29 (by decide) (fun h3 => ?_) (fun h3 => ?_)
        · refine V.aload_n dX7_connect_35 rfl ?_
          refine V.getf (ci := 6) (k := 3) (C := RX7) (T := TX7) (N := 10) dX7_connect_36 lfX7_34 inX7 rfl (by first | assumption | exact hI _ (by omega)) rfl (by decide) rfl ?_
          refine V.iload_n dX7_connect_39 rfl ?_
          refine V.aald (n := 4) (t := 3) dX7_connect_40 (by first | assumption | exact hI _ (by omega)) rfl rfl rfl (by decide) (by omega) ?_
          refine V.aload_n dX7_connect_41 rfl ?_
          refine V.getf (ci := 6) (k := 9) (C := RX7) (T := TX7) (N := 10) dX7_connect_42 lfX7_63 inX7 rfl (by first | assumption | exact hI _ (by omega)) rfl (by decide) rfl ?_
          refine V.aload_n dX7_connect_45 rfl ?_
          refine V.getf (ci := 6) (k := 3) (C := RX7) (T := TX7) (N := 10) dX7_connect_46 lfX7_34 inX7 rfl (by first | assumption | exact hI _ (by omega)) rfl (by decide) rfl ?_
          refine V.iload_n dX7_connect_49 rfl ?_
          refine V.aald (n := 4) (t := 3) dX7_connect_50 (by first | assumption | exact hI _ (by omega)) rfl rfl rfl (by decide) (by omega) ?_
          refine V.getf (ci := 4) (k := 4) (C := RX5) (T := TX5) (N := 8) dX7_connect_51 lfX7_150 inX5 rfl (by first | assumption | exact hI _ (by omega)) (cont_row hw_s _) (by decide) rfl ?_
          refine V.iload_n dX7_connect_54 rfl ?_
          refine V.aald (n := 9) (t := 2) dX7_connect_55 (by first | assumption | exact hI _ (by omega)) (cont_pols hw_s _) rfl rfl (by decide) (by omega) ?_
          refine V.callV (ci := 4) (T := TX5) (N := 8) dX7_connect_56 (c_X5_tell hw_o hJ_o (hI 141 (by omega)) rfl (hI _ (by omega)) (ial_row hw_s (by omega) (by omega) (by omega)) (by omega)) lkX7_158 im_X5_tell se_X5_tell cd_X5_tell ini_X5 rfl (by first | assumption | exact hI _ (by omega)) (cont_row hw_o _) hd_X5_tell ⟨Nat.le_of_ble_eq_true rfl, Nat.le_of_ble_eq_true rfl⟩ rfl (Nat.le_of_ble_eq_true rfl) (V.kkP (fun M1 q1 => ?_))
          refine V.aload_n dX7_connect_59 rfl ?_
          refine V.getf (ci := 6) (k := 9) (C := RX7) (T := TX7) (N := 10) dX7_connect_60 lfX7_63 inX7 rfl (by first | assumption | exact hI _ (by omega)) rfl (by decide) rfl ?_
          refine V.iload dX7_connect_63 rfl ?_
          refine V.iald (n := 9) dX7_connect_65 (by first | assumption | exact hI _ (by omega)) (by first | assumption | decide) (by omega) ?_
          refine V.iret dX7_connect_66 ?_
          exact ⟨by rw [q1.2 t ht, ftell_cg (fun n hn => h.pol ho hn) (h.pol' hs hz) t ht], h.kp (q1.1.wk (fun j hj => by unfold scr; omega)) (by rw [q1.1 10 (by omega)]), q1.1.wk (fun j hj => by unfold cP; omega)⟩
        · cases h3
    · cases qo
abbrev v_X7_areAlike (g : Gl) (κ : Ka) (Q : State → Prop) (M : Mem) (pc : Nat) (L : List (Option Value)) (st : List Value) : Prop := V g cX7_areAlike 3 yX7_areAlike.cls (some .boolean) (rmd 0) Q κ M pc L st
theorem c_X7_areAlike {g : Gl} {M : Mem} {a b : Nat} (ha : a ∈ g.2.2.2.2) (la : ial a = 9) (hb : b ∈ g.2.2.2.2) (lb : ial b = 9) : Ct g yX7_areAlike cX7_areAlike 3 (some .boolean) 0 [.ref (g.2.2.2.1 a), .ref (g.2.2.2.1 b)] M (fun v M' => ∃ q : Bool, (q = true ↔ eq9 (M a) (M b)) ∧ v = some (.int (nI q.toNat)) ∧ M' = M) := by
  refine Ct.ofV (by decide) (Nat.le_of_ble_eq_true rfl) (by simp [Value.category]) (fun κ => ?_)
  refine V.iconst (v := nI 0) dX7_areAlike_0 rfl ?_
  refine V.istore_n dX7_areAlike_1 (by decide) ?_
  have lp := up_loop 9 (fun j => (∀ k, k < j → M a k = M b k) → v_X7_areAlike g κ (Qm g κ (fun v M' => ∃ q : Bool, (q = true ↔ eq9 (M a) (M b)) ∧ v = some (.int (nI q.toNat)) ∧ M' = M)) M 2 [some (.ref (g.2.2.2.1 a)), some (.ref (g.2.2.2.1 b)), some (.int (nI j))] []) (fun j hj ih he => ?_) 0 (by omega) (fun k hk => by omega)
  · exact lp
  · refine V.iload_n dX7_areAlike_2 rfl ?_
    refine V.bipush (v := nI 9) dX7_areAlike_3 (by decide) ?_
    refine V.geN (tgt := 25) dX7_areAlike_5 (by decide) (by omega) (by omega) (fun h1 => ?_) (fun h1 => ?_)
    · refine V.iconst (v := nI 1) dX7_areAlike_25 rfl ?_
      refine V.zret dX7_areAlike_26 rfl ?_
      exact ⟨true, ⟨fun _ k hk => he k (by omega), fun _ => rfl⟩, rfl, rfl⟩
    · refine V.aload_n dX7_areAlike_8 rfl ?_
      refine V.iload_n dX7_areAlike_9 rfl ?_
      refine V.iald (n := 9) dX7_areAlike_10 (by first | assumption | exact hI _ (by omega)) (by first | assumption | decide) (by omega) ?_
      refine V.aload_n dX7_areAlike_11 rfl ?_
      refine V.iload_n dX7_areAlike_12 rfl ?_
      refine V.iald (n := 9) dX7_areAlike_13 (by first | assumption | exact hI _ (by omega)) (by first | assumption | decide) (by omega) ?_
      refine V.icmp_eq (tgt := 19) dX7_areAlike_14 (by decide) (fun h2 => ?_) (fun h2 => ?_)
      · refine V.iincN dX7_areAlike_19 (by decide) rfl ?_
        refine V.goto (tgt := 2) dX7_areAlike_22 (by decide) ?_
        exact ih h1 (fun k hk => by
          by_cases e : k = j
          · subst e; exact h2
          · exact he k (by omega))
      · refine V.iconst (v := nI 0) dX7_areAlike_17 rfl ?_
        refine V.zret dX7_areAlike_18 rfl ?_
        exact ⟨false, ⟨fun q => (by cases q), fun q => absurd (q j h1) h2⟩, rfl, rfl⟩
theorem k_differ_2 {g : Gl} {M : Mem} {x y : Int32} (h : isN x 4 = false ∨ isN y 4 = false) : Ct g yX7_differ cX7_differ 4 (some .int) 1 [.ref (g.2.2.2.1 0), .int x, .int y] M (fun v M' => v = some (.int (-2)) ∧ M' = M) := by
  refine Ct.ofV (by decide) (Nat.le_of_ble_eq_true rfl) (by simp [Value.category]) (fun κ => ?_)
  refine V.iload_n dX7_differ_0 rfl ?_
  refine V.callS dX7_differ_1 (c_X7_isRow) lkX7_81 st_X7_isRow cd_X7_isRow ini_X7 hd_X7_isRow ⟨Nat.le_of_ble_eq_true rfl, Nat.le_of_ble_eq_true rfl⟩ rfl (Nat.le_of_ble_eq_true rfl) (V.kkF ?_)
  refine V.if_eqB (tgt := 14) dX7_differ_4 (by decide) (fun h1 => ?_) (fun h1 => ?_)
  · refine V.bipush (v := -2) dX7_differ_14 (by decide) ?_
    refine V.iret dX7_differ_16 ?_
    exact ⟨rfl, rfl⟩
  · skip
    refine V.iload_n dX7_differ_7 rfl ?_
    refine V.callS dX7_differ_8 (c_X7_isRow) lkX7_81 st_X7_isRow cd_X7_isRow ini_X7 hd_X7_isRow ⟨Nat.le_of_ble_eq_true rfl, Nat.le_of_ble_eq_true rfl⟩ rfl (Nat.le_of_ble_eq_true rfl) (V.kkF ?_)
    refine V.if_neB (tgt := 17) dX7_differ_11 (by decide) (fun h2 => ?_) (fun h2 => ?_)
    · rcases h with h | h
      · rw [h1] at h; cases h
      · rw [h2] at h; cases h
    · refine V.bipush (v := -2) dX7_differ_14 (by decide) ?_
      refine V.iret dX7_differ_16 ?_
      exact ⟨rfl, rfl⟩
abbrev v_X7_differ (g : Gl) (κ : Ka) (Q : State → Prop) (M : Mem) (pc : Nat) (L : List (Option Value)) (st : List Value) : Prop := V g cX7_differ 4 yX7_differ.cls (some .int) (rmd 1) Q κ M pc L st
theorem k_differ {g : Gl} {M : Mem} {A : Ab} {s o : Nat} (hI : ∀ i, i < 142 → i ∈ g.2.2.2.2) (h : Rc A M) (hs : s < 4) (ho : o < 4) : Ct g yX7_differ cX7_differ 4 (some .int) 1 [.ref (g.2.2.2.1 0), .int (nI s), .int (nI o)] M (fun v M' => v = some (.int (fdiff (PR A s) (PR A o) 9)) ∧ M' = M) := by
  have hw_s := isRw_of hs
  have hJ_s : ∀ i, 34 + 17 * s ≤ i ∧ i < 34 + 17 * s + 17 → i ∈ g.2.2.2.2 := fun i h => hI i (by omega)
  have hw_o := isRw_of ho
  have hJ_o : ∀ i, 34 + 17 * o ≤ i ∧ i < 34 + 17 * o + 17 → i ∈ g.2.2.2.2 := fun i h => hI i (by omega)
  refine Ct.ofV (by decide) (Nat.le_of_ble_eq_true rfl) (by simp [Value.category]) (fun κ => ?_)
  refine V.iload_n dX7_differ_0 rfl ?_
  refine V.callS dX7_differ_1 (c_X7_isRow) lkX7_81 st_X7_isRow cd_X7_isRow ini_X7 hd_X7_isRow ⟨Nat.le_of_ble_eq_true rfl, Nat.le_of_ble_eq_true rfl⟩ rfl (Nat.le_of_ble_eq_true rfl) (V.kkF ?_)
  rw [isN_nI (by decide) hs]
  refine V.if_eqB (tgt := 14) dX7_differ_4 (by decide) (fun qs => ?_) (fun qs => ?_)
  · cases qs
  · skip
    refine V.iload_n dX7_differ_7 rfl ?_
    refine V.callS dX7_differ_8 (c_X7_isRow) lkX7_81 st_X7_isRow cd_X7_isRow ini_X7 hd_X7_isRow ⟨Nat.le_of_ble_eq_true rfl, Nat.le_of_ble_eq_true rfl⟩ rfl (Nat.le_of_ble_eq_true rfl) (V.kkF ?_)
    rw [isN_nI (by decide) ho]
    refine V.if_neB (tgt := 17) dX7_differ_11 (by decide) (fun qo => ?_) (fun qo => ?_)
    · skip
      refine V.iconst (v := nI 0) dX7_differ_17 rfl ?_
      refine V.istore_n dX7_differ_18 (by decide) ?_
      have lp := up_loop 9 (fun n => fdiff (PR A s) (PR A o) (9 - n) = fdiff (PR A s) (PR A o) 9 → v_X7_differ g κ (Qm g κ (fun v M' => v = some (.int (fdiff (PR A s) (PR A o) 9)) ∧ M' = M)) M 19 [some (.ref (g.2.2.2.1 0)), some (.int (nI s)), some (.int (nI o)), some (.int (nI n))] []) (fun n hn ih he => ?_) 0 (by omega) rfl
      · exact lp
      · refine V.iload_n dX7_differ_19 rfl ?_
        refine V.bipush (v := nI 9) dX7_differ_20 (by decide) ?_
        refine V.geN (tgt := 61) dX7_differ_22 (by decide) (by omega) (by omega) (fun h1 => ?_) (fun h1 => ?_)
        · rw [show 9 - n = 0 by omega] at he
          refine V.iconst (v := -1) dX7_differ_61 rfl ?_
          refine V.iret dX7_differ_62 ?_
          exact ⟨by rw [← he]; rfl, rfl⟩
        · rw [show 9 - n = (8 - n) + 1 by omega] at he
          have u : fdiff (PR A s) (PR A o) (8 - n + 1) = if ∀ k, k < 9 → PR A s (8 - (8 - n)) k = PR A o (8 - (8 - n)) k then fdiff (PR A s) (PR A o) (8 - n) else nI (8 - (8 - n)) := rfl
          rw [u, show 8 - (8 - n) = n by omega] at he
          refine V.aload_n dX7_differ_25 rfl ?_
          refine V.getf (ci := 6) (k := 3) (C := RX7) (T := TX7) (N := 10) dX7_differ_26 lfX7_34 inX7 rfl (by first | assumption | exact hI _ (by omega)) rfl (by decide) rfl ?_
          refine V.iload_n dX7_differ_29 rfl ?_
          refine V.aald (n := 4) (t := 3) dX7_differ_30 (by first | assumption | exact hI _ (by omega)) rfl rfl rfl (by decide) (by omega) ?_
          refine V.getf (ci := 4) (k := 4) (C := RX5) (T := TX5) (N := 8) dX7_differ_31 lfX7_150 inX5 rfl (by first | assumption | exact hI _ (by omega)) (cont_row hw_s _) (by decide) rfl ?_
          refine V.iload_n dX7_differ_34 rfl ?_
          refine V.aald (n := 9) (t := 2) dX7_differ_35 (by first | assumption | exact hI _ (by omega)) (cont_pols hw_s _) rfl rfl (by decide) (by omega) ?_
          refine V.aload_n dX7_differ_36 rfl ?_
          refine V.getf (ci := 6) (k := 3) (C := RX7) (T := TX7) (N := 10) dX7_differ_37 lfX7_34 inX7 rfl (by first | assumption | exact hI _ (by omega)) rfl (by decide) rfl ?_
          refine V.iload_n dX7_differ_40 rfl ?_
          refine V.aald (n := 4) (t := 3) dX7_differ_41 (by first | assumption | exact hI _ (by omega)) rfl rfl rfl (by decide) (by omega) ?_
          refine V.getf (ci := 4) (k := 4) (C := RX5) (T := TX5) (N := 8) dX7_differ_42 lfX7_150 inX5 rfl (by first | assumption | exact hI _ (by omega)) (cont_row hw_o _) (by decide) rfl ?_
          refine V.iload_n dX7_differ_45 rfl ?_
          refine V.aald (n := 9) (t := 2) dX7_differ_46 (by first | assumption | exact hI _ (by omega)) (cont_pols hw_o _) rfl rfl (by decide) (by omega) ?_
          refine V.callS dX7_differ_47 (c_X7_areAlike (hI _ (by omega)) (ial_row hw_s (by omega) (by omega) (by omega)) (hI _ (by omega)) (ial_row hw_o (by omega) (by omega) (by omega))) lkX7_161 st_X7_areAlike cd_X7_areAlike ini_X7 hd_X7_areAlike ⟨Nat.le_of_ble_eq_true rfl, Nat.le_of_ble_eq_true rfl⟩ rfl (Nat.le_of_ble_eq_true rfl) (fun v1 M1 q1 => ?_)
          obtain ⟨q, hq, rfl, rfl⟩ := q1
          have hq2 : q = true ↔ ∀ k, k < 9 → PR A s n k = PR A o n k := hq.trans ⟨fun e => ((h.pol' hs h1).sy.tr e).tr (h.pol' ho h1), fun e => ((h.pol' hs h1).tr e).tr (h.pol' ho h1).sy⟩
          refine V.if_neB (tgt := 55) dX7_differ_50 (by decide) (fun h2 => ?_) (fun h2 => ?_)
          · rw [if_pos (hq2.mp h2)] at he
            refine V.iincN dX7_differ_55 (by decide) rfl ?_
            refine V.goto (tgt := 19) dX7_differ_58 (by decide) ?_
            exact ih h1 (by rw [show 9 - (n + 1) = 8 - n by omega]; exact he)
          · rw [if_neg (fun z => by rw [hq2.mpr z] at h2; cases h2)] at he
            refine V.iload_n dX7_differ_53 rfl ?_
            refine V.iret dX7_differ_54 ?_
            exact ⟨by rw [he], rfl⟩
    · cases qo

