theorem m_series_2 {g : Gl} {M : Mem} {x y z : Int32} (h : isN x 4 = false) : Ct g yX8_series cX8_series 4 (some .int) 5 [.ref (g.2.2.2.1 142), .int x, .int y, .int z] M (fun v M' => v = some (.int (-2)) ∧ M' = M) := by
  refine Ct.ofV (by decide) (Nat.le_of_ble_eq_true rfl) (by simp [Value.category]) (fun κ => ?_)
  refine V.iload_n dX8_series_0 rfl ?_
  refine V.callS dX8_series_1 (c_X8_isRow) lkX8_234 st_X8_isRow cd_X8_isRow ini_X8 hd_X8_isRow ⟨Nat.le_of_ble_eq_true rfl, Nat.le_of_ble_eq_true rfl⟩ rfl (Nat.le_of_ble_eq_true rfl) (V.kkF ?_)
  refine V.if_neB (tgt := 10) dX8_series_4 (by decide) (fun h1 => ?_) (fun h1 => ?_)
  · rw [h1] at h; cases h
  · refine V.bipush (v := -2) dX8_series_7 (by decide) ?_
    refine V.iret dX8_series_9 ?_
    exact ⟨rfl, rfl⟩
theorem m_series_3 {g : Gl} {M : Mem} {r : Nat} {y z : Int32} (hr : r < 4) (hz : isN y 4 = false ∨ isN z 9 = false) : Ct g yX8_series cX8_series 4 (some .int) 5 [.ref (g.2.2.2.1 142), .int (nI r), .int y, .int z] M (fun v M' => v = some (.int (-3)) ∧ M' = M) := by
  refine Ct.ofV (by decide) (Nat.le_of_ble_eq_true rfl) (by simp [Value.category]) (fun κ => ?_)
  refine V.iload_n dX8_series_0 rfl ?_
  refine V.callS dX8_series_1 (c_X8_isRow) lkX8_234 st_X8_isRow cd_X8_isRow ini_X8 hd_X8_isRow ⟨Nat.le_of_ble_eq_true rfl, Nat.le_of_ble_eq_true rfl⟩ rfl (Nat.le_of_ble_eq_true rfl) (V.kkF ?_)
  rw [isN_nI (by decide) hr]
  refine V.if_neB (tgt := 10) dX8_series_4 (by decide) (fun qr => ?_) (fun qr => ?_)
  · skip
    refine V.iload_n dX8_series_10 rfl ?_
    refine V.iconst (v := nI 0) dX8_series_11 rfl ?_
    refine V.iconst (v := nI 3) dX8_series_12 rfl ?_
    refine V.callS dX8_series_13 (c_X8_in) lkX8_104 st_X8_in cd_X8_in ini_X8 hd_X8_in ⟨Nat.le_of_ble_eq_true rfl, Nat.le_of_ble_eq_true rfl⟩ rfl (Nat.le_of_ble_eq_true rfl) (V.kkF ?_)
    rw [in_isN (by decide)]
    refine V.if_eqB (tgt := 26) dX8_series_16 (by decide) (fun h1 => ?_) (fun h1 => ?_)
    · refine V.bipush (v := -3) dX8_series_26 (by decide) ?_
      refine V.iret dX8_series_28 ?_
      exact ⟨rfl, rfl⟩
    · refine V.iload_n dX8_series_19 rfl ?_
      refine V.callS dX8_series_20 (c_X8_isPlace) lkX8_250 st_X8_isPlace cd_X8_isPlace ini_X8 hd_X8_isPlace ⟨Nat.le_of_ble_eq_true rfl, Nat.le_of_ble_eq_true rfl⟩ rfl (Nat.le_of_ble_eq_true rfl) (V.kkF ?_)
      rcases hz with hz | hz
      · rw [show isN y 4 = isN y (3 + 1) from rfl, h1] at hz; cases hz
      · rw [hz]
        refine V.if_neB (tgt := 29) dX8_series_23 (by decide) (fun h3 => ?_) (fun h3 => ?_)
        · cases h3
        · refine V.bipush (v := -3) dX8_series_26 (by decide) ?_
          refine V.iret dX8_series_28 ?_
          exact ⟨rfl, rfl⟩
  · cases qr
theorem m_series {g : Gl} {M : Mem} {A : Ab} {r y z : Nat} (hI : ∀ i, 142 ≤ i ∧ i < 174 → i ∈ g.2.2.2.2) (h : Rm A M) (hr : r < 4) (hy : y < 4) (hz : z < 9) : Ct g yX8_series cX8_series 4 (some .int) 5 [.ref (g.2.2.2.1 142), .int (nI r), .int (nI y), .int (nI z)] M (fun v M' => v = some (.int (mchS A r y z)) ∧ Rm A M' ∧ keep mP M M') := by
  refine Ct.ofV (by decide) (Nat.le_of_ble_eq_true rfl) (by simp [Value.category]) (fun κ => ?_)
  refine V.iload_n dX8_series_0 rfl ?_
  refine V.callS dX8_series_1 (c_X8_isRow) lkX8_234 st_X8_isRow cd_X8_isRow ini_X8 hd_X8_isRow ⟨Nat.le_of_ble_eq_true rfl, Nat.le_of_ble_eq_true rfl⟩ rfl (Nat.le_of_ble_eq_true rfl) (V.kkF ?_)
  rw [isN_nI (by decide) hr]
  refine V.if_neB (tgt := 10) dX8_series_4 (by decide) (fun qr => ?_) (fun qr => ?_)
  · skip
    refine V.iload_n dX8_series_10 rfl ?_
    refine V.iconst (v := nI 0) dX8_series_11 rfl ?_
    refine V.iconst (v := nI 3) dX8_series_12 rfl ?_
    refine V.callS dX8_series_13 (c_X8_in) lkX8_104 st_X8_in cd_X8_in ini_X8 hd_X8_in ⟨Nat.le_of_ble_eq_true rfl, Nat.le_of_ble_eq_true rfl⟩ rfl (Nat.le_of_ble_eq_true rfl) (V.kkF ?_)
    rw [in_isN (by decide), isN_nI (by decide) (show y < 3 + 1 by omega)]
    refine V.if_eqB (tgt := 26) dX8_series_16 (by decide) (fun h1 => ?_) (fun h1 => ?_)
    · cases h1
    · refine V.iload_n dX8_series_19 rfl ?_
      refine V.callS dX8_series_20 (c_X8_isPlace) lkX8_250 st_X8_isPlace cd_X8_isPlace ini_X8 hd_X8_isPlace ⟨Nat.le_of_ble_eq_true rfl, Nat.le_of_ble_eq_true rfl⟩ rfl (Nat.le_of_ble_eq_true rfl) (V.kkF ?_)
      rw [isN_nI (by decide) hz]
      refine V.if_neB (tgt := 29) dX8_series_23 (by decide) (fun h3 => ?_) (fun h3 => ?_)
      · refine V.iload_n dX8_series_29 rfl ?_
        refine V.iconst (v := nI 2) dX8_series_30 rfl ?_
        refine V.geN (tgt := 64) dX8_series_31 (by decide) (by omega) (by omega) (fun h4 => ?_) (fun h4 => ?_)
        · refine V.aload_n dX8_series_64 rfl ?_
          refine V.callV (ci := 7) (T := TX8) (N := 37) dX8_series_65 (c_X8_laysOne hI) lkX8_241 im_X8_laysOne se_X8_laysOne cd_X8_laysOne ini_X8 rfl (by first | assumption | exact hI _ (by omega)) rfl hd_X8_laysOne ⟨Nat.le_of_ble_eq_true rfl, Nat.le_of_ble_eq_true rfl⟩ rfl (Nat.le_of_ble_eq_true rfl) (V.kkN ?_)
          refine V.iload_n dX8_series_68 rfl ?_
          refine V.iconst (v := nI 2) dX8_series_69 rfl ?_
          refine V.neN (tgt := 101) dX8_series_70 (by decide) (by omega) (by omega) (fun h5 => ?_) (fun h5 => ?_)
          · have e : y = 3 := by omega
            subst e
            refine V.aload_n dX8_series_101 rfl ?_
            refine V.aload_n dX8_series_102 rfl ?_
            refine V.getf (ci := 7) (k := 1) (C := RX8) (T := TX8) (N := 37) dX8_series_103 lfX8_13 inX8 rfl (by first | assumption | exact hI _ (by omega)) rfl (by decide) rfl ?_
            refine V.bipush (v := nI 9) dX8_series_106 (by decide) ?_
            refine V.iload_n dX8_series_108 rfl ?_
            first | refine V.imulN dX8_series_109 ?_ | refine V.imul dX8_series_109 ?_
            refine V.aload_n dX8_series_110 rfl ?_
            refine V.getf (ci := 7) (k := 29) (C := RX8) (T := TX8) (N := 37) dX8_series_111 lfX8_80 inX8 rfl (by first | assumption | exact hI _ (by omega)) rfl (by decide) rfl ?_
            refine V.callV (ci := 7) (T := TX8) (N := 37) dX8_series_114 (c_X8_turns (a := 144) (i := 9 * r) (c := 166) (na := 36) hI (hI _ (by decide)) rfl (by omega) (hI _ (by decide)) rfl (by decide) (by decide)) lkX8_171 im_X8_turns se_X8_turns cd_X8_turns ini_X8 rfl (by first | assumption | exact hI _ (by omega)) rfl hd_X8_turns ⟨Nat.le_of_ble_eq_true rfl, Nat.le_of_ble_eq_true rfl⟩ rfl (Nat.le_of_ble_eq_true rfl) (V.kkP (fun M1 q1 => ?_))
            refine V.aload_n dX8_series_117 rfl ?_
            refine V.getf (ci := 7) (k := 29) (C := RX8) (T := TX8) (N := 37) dX8_series_118 lfX8_80 inX8 rfl (by first | assumption | exact hI _ (by omega)) rfl (by decide) rfl ?_
            refine V.iload_n dX8_series_121 rfl ?_
            refine V.iald (n := 9) dX8_series_122 (by first | assumption | exact hI _ (by omega)) (by first | assumption | decide) (by omega) ?_
            refine V.iret dX8_series_123 ?_
            have kk : keep msr M M1 := ((keep.rf (P := msr)).as (by unfold msr; omega)).tr (q1.1.wk (fun j hj => by unfold msr; omega))
            exact ⟨by rw [q1.2.1 z hz, aset_ne (by decide), mturn_cg (h.f hr) z hz]; rfl, h.ks kk, kk.wk (fun j hj => by unfold mP; unfold msr at hj; omega)⟩
          · subst h5
            refine V.aload_n dX8_series_73 rfl ?_
            refine V.aload_n dX8_series_74 rfl ?_
            refine V.getf (ci := 7) (k := 30) (C := RX8) (T := TX8) (N := 37) dX8_series_75 lfX8_83 inX8 rfl (by first | assumption | exact hI _ (by omega)) rfl (by decide) rfl ?_
            refine V.iconst (v := nI 0) dX8_series_78 rfl ?_
            refine V.aload_n dX8_series_79 rfl ?_
            refine V.getf (ci := 7) (k := 0) (C := RX8) (T := TX8) (N := 37) dX8_series_80 lfX8_7 inX8 rfl (by first | assumption | exact hI _ (by omega)) rfl (by decide) rfl ?_
            refine V.bipush (v := nI 9) dX8_series_83 (by decide) ?_
            refine V.iload_n dX8_series_85 rfl ?_
            first | refine V.imulN dX8_series_86 ?_ | refine V.imul dX8_series_86 ?_
            refine V.aload_n dX8_series_87 rfl ?_
            refine V.getf (ci := 7) (k := 28) (C := RX8) (T := TX8) (N := 37) dX8_series_88 lfX8_77 inX8 rfl (by first | assumption | exact hI _ (by omega)) rfl (by decide) rfl ?_
            refine V.callV (ci := 7) (T := TX8) (N := 37) dX8_series_91 (c_X8_divides (a := 167) (i := 0) (b := 143) (j := 9 * r) (c := 165) (na := 9) (nb := 36) hI (hI _ (by decide)) rfl (by decide) (hI _ (by decide)) rfl (by omega) (hI _ (by decide)) rfl (by decide) (by decide)) lkX8_158 im_X8_divides se_X8_divides cd_X8_divides ini_X8 rfl (by first | assumption | exact hI _ (by omega)) rfl hd_X8_divides ⟨Nat.le_of_ble_eq_true rfl, Nat.le_of_ble_eq_true rfl⟩ rfl (Nat.le_of_ble_eq_true rfl) (V.kkN ?_)
            refine V.aload_n dX8_series_94 rfl ?_
            refine V.getf (ci := 7) (k := 28) (C := RX8) (T := TX8) (N := 37) dX8_series_95 lfX8_77 inX8 rfl (by first | assumption | exact hI _ (by omega)) rfl (by decide) rfl ?_
            refine V.iload_n dX8_series_98 rfl ?_
            refine V.iald (n := 9) dX8_series_99 (by first | assumption | exact hI _ (by omega)) (by first | assumption | decide) (by omega) ?_
            refine V.iret dX8_series_100 ?_
            have kk : keep msr M (aset (aset (aset M 167 0 9 (mono 0 (nI 1))) 150 0 9 (mdiv (sl (aset M 167 0 9 (mono 0 (nI 1)) 167) 0) (sl (aset M 167 0 9 (mono 0 (nI 1)) 143) (9 * r)))) 165 0 9 (mdiv (sl (aset M 167 0 9 (mono 0 (nI 1)) 167) 0) (sl (aset M 167 0 9 (mono 0 (nI 1)) 143) (9 * r)))) := (((keep.rf (P := msr)).as (by unfold msr; omega)).as (by unfold msr; omega)).as (by unfold msr; omega)
            refine ⟨?_, h.ks kk, kk.wk (fun j hj => by unfold mP; unfold msr at hj; omega)⟩
            rw [aset_in (Nat.zero_le _) hz, mdiv_cg (by rw [sl_0]; exact aset_9) (by rw [aset_ne (by decide)]; exact h.g hr) z hz]; rfl
        · refine V.iload_n dX8_series_34 rfl ?_
          refine V.if_neN (tgt := 52) dX8_series_35 (by decide) (by omega) (fun h5 => ?_) (fun h5 => ?_)
          · have e : y = 1 := by omega
            subst e
            refine V.aload_n dX8_series_52 rfl ?_
            refine V.getf (ci := 7) (k := 1) (C := RX8) (T := TX8) (N := 37) dX8_series_53 lfX8_13 inX8 rfl (by first | assumption | exact hI _ (by omega)) rfl (by decide) rfl ?_
            refine V.bipush (v := nI 9) dX8_series_56 (by decide) ?_
            refine V.iload_n dX8_series_58 rfl ?_
            first | refine V.imulN dX8_series_59 ?_ | refine V.imul dX8_series_59 ?_
            refine V.iload_n dX8_series_60 rfl ?_
            first | refine V.iaddN dX8_series_61 ?_ | refine V.iadd dX8_series_61 ?_
            refine V.iald (n := 36) dX8_series_62 (by first | assumption | exact hI _ (by omega)) (by first | assumption | decide) (by omega) ?_
            refine V.iret dX8_series_63 ?_
            exact ⟨congrArg (fun q => some (Value.int q)) (h.f hr z hz), h, keep.rf⟩
          · subst h5
            refine V.aload_n dX8_series_38 rfl ?_
            refine V.getf (ci := 7) (k := 0) (C := RX8) (T := TX8) (N := 37) dX8_series_39 lfX8_7 inX8 rfl (by first | assumption | exact hI _ (by omega)) rfl (by decide) rfl ?_
            refine V.bipush (v := nI 9) dX8_series_42 (by decide) ?_
            refine V.iload_n dX8_series_44 rfl ?_
            first | refine V.imulN dX8_series_45 ?_ | refine V.imul dX8_series_45 ?_
            refine V.iload_n dX8_series_46 rfl ?_
            first | refine V.iaddN dX8_series_47 ?_ | refine V.iadd dX8_series_47 ?_
            refine V.iald (n := 36) dX8_series_48 (by first | assumption | exact hI _ (by omega)) (by first | assumption | decide) (by omega) ?_
            refine V.goto (tgt := 63) dX8_series_49 (by decide) ?_
            refine V.iret dX8_series_63 ?_
            exact ⟨congrArg (fun q => some (Value.int q)) (h.g hr z hz), h, keep.rf⟩
      · cases h3
  · cases qr
theorem m_polynomial_2 {g : Gl} {M : Mem} {x y z : Int32} (h : isN x 4 = false) : Ct g yX8_polynomial cX8_polynomial 4 (some .int) 4 [.ref (g.2.2.2.1 142), .int x, .int y, .int z] M (fun v M' => v = some (.int (-2)) ∧ M' = M) := by
  refine Ct.ofV (by decide) (Nat.le_of_ble_eq_true rfl) (by simp [Value.category]) (fun κ => ?_)
  refine V.iload_n dX8_polynomial_0 rfl ?_
  refine V.callS dX8_polynomial_1 (c_X8_isRow) lkX8_234 st_X8_isRow cd_X8_isRow ini_X8 hd_X8_isRow ⟨Nat.le_of_ble_eq_true rfl, Nat.le_of_ble_eq_true rfl⟩ rfl (Nat.le_of_ble_eq_true rfl) (V.kkF ?_)
  refine V.if_neB (tgt := 10) dX8_polynomial_4 (by decide) (fun h1 => ?_) (fun h1 => ?_)
  · rw [h1] at h; cases h
  · refine V.bipush (v := -2) dX8_polynomial_7 (by decide) ?_
    refine V.iret dX8_polynomial_9 ?_
    exact ⟨rfl, rfl⟩
theorem m_polynomial_3 {g : Gl} {M : Mem} {r : Nat} {y z : Int32} (hr : r < 4) (hz : isN y 9 = false ∨ isN z 9 = false) : Ct g yX8_polynomial cX8_polynomial 4 (some .int) 4 [.ref (g.2.2.2.1 142), .int (nI r), .int y, .int z] M (fun v M' => v = some (.int (-3)) ∧ M' = M) := by
  refine Ct.ofV (by decide) (Nat.le_of_ble_eq_true rfl) (by simp [Value.category]) (fun κ => ?_)
  refine V.iload_n dX8_polynomial_0 rfl ?_
  refine V.callS dX8_polynomial_1 (c_X8_isRow) lkX8_234 st_X8_isRow cd_X8_isRow ini_X8 hd_X8_isRow ⟨Nat.le_of_ble_eq_true rfl, Nat.le_of_ble_eq_true rfl⟩ rfl (Nat.le_of_ble_eq_true rfl) (V.kkF ?_)
  rw [isN_nI (by decide) hr]
  refine V.if_neB (tgt := 10) dX8_polynomial_4 (by decide) (fun qr => ?_) (fun qr => ?_)
  · skip
    refine V.iload_n dX8_polynomial_10 rfl ?_
    refine V.callS dX8_polynomial_11 (c_X8_isPlace) lkX8_250 st_X8_isPlace cd_X8_isPlace ini_X8 hd_X8_isPlace ⟨Nat.le_of_ble_eq_true rfl, Nat.le_of_ble_eq_true rfl⟩ rfl (Nat.le_of_ble_eq_true rfl) (V.kkF ?_)
    refine V.if_eqB (tgt := 24) dX8_polynomial_14 (by decide) (fun h1 => ?_) (fun h1 => ?_)
    · refine V.bipush (v := -3) dX8_polynomial_24 (by decide) ?_
      refine V.iret dX8_polynomial_26 ?_
      exact ⟨rfl, rfl⟩
    · refine V.iload_n dX8_polynomial_17 rfl ?_
      refine V.callS dX8_polynomial_18 (c_X8_isPlace) lkX8_250 st_X8_isPlace cd_X8_isPlace ini_X8 hd_X8_isPlace ⟨Nat.le_of_ble_eq_true rfl, Nat.le_of_ble_eq_true rfl⟩ rfl (Nat.le_of_ble_eq_true rfl) (V.kkF ?_)
      rcases hz with hz | hz
      · rw [h1] at hz; cases hz
      · rw [hz]
        refine V.if_neB (tgt := 27) dX8_polynomial_21 (by decide) (fun h3 => ?_) (fun h3 => ?_)
        · cases h3
        · refine V.bipush (v := -3) dX8_polynomial_24 (by decide) ?_
          refine V.iret dX8_polynomial_26 ?_
          exact ⟨rfl, rfl⟩
  · cases qr
theorem m_polynomial {g : Gl} {M : Mem} {A : Ab} {r y z : Nat} (hI : ∀ i, 142 ≤ i ∧ i < 174 → i ∈ g.2.2.2.2) (h : Rm A M) (hr : r < 4) (hy : y < 9) (hz : z < 9) : Ct g yX8_polynomial cX8_polynomial 4 (some .int) 4 [.ref (g.2.2.2.1 142), .int (nI r), .int (nI y), .int (nI z)] M (fun v M' => v = some (.int (MR A r y z)) ∧ Rm A M' ∧ keep mP M M') := by
  refine Ct.ofV (by decide) (Nat.le_of_ble_eq_true rfl) (by simp [Value.category]) (fun κ => ?_)
  refine V.iload_n dX8_polynomial_0 rfl ?_
  refine V.callS dX8_polynomial_1 (c_X8_isRow) lkX8_234 st_X8_isRow cd_X8_isRow ini_X8 hd_X8_isRow ⟨Nat.le_of_ble_eq_true rfl, Nat.le_of_ble_eq_true rfl⟩ rfl (Nat.le_of_ble_eq_true rfl) (V.kkF ?_)
  rw [isN_nI (by decide) hr]
  refine V.if_neB (tgt := 10) dX8_polynomial_4 (by decide) (fun qr => ?_) (fun qr => ?_)
  · skip
    refine V.iload_n dX8_polynomial_10 rfl ?_
    refine V.callS dX8_polynomial_11 (c_X8_isPlace) lkX8_250 st_X8_isPlace cd_X8_isPlace ini_X8 hd_X8_isPlace ⟨Nat.le_of_ble_eq_true rfl, Nat.le_of_ble_eq_true rfl⟩ rfl (Nat.le_of_ble_eq_true rfl) (V.kkF ?_)
    rw [isN_nI (by decide) hy]
    refine V.if_eqB (tgt := 24) dX8_polynomial_14 (by decide) (fun h1 => ?_) (fun h1 => ?_)
    · cases h1
    · refine V.iload_n dX8_polynomial_17 rfl ?_
      refine V.callS dX8_polynomial_18 (c_X8_isPlace) lkX8_250 st_X8_isPlace cd_X8_isPlace ini_X8 hd_X8_isPlace ⟨Nat.le_of_ble_eq_true rfl, Nat.le_of_ble_eq_true rfl⟩ rfl (Nat.le_of_ble_eq_true rfl) (V.kkF ?_)
      rw [isN_nI (by decide) hz]
      refine V.if_neB (tgt := 27) dX8_polynomial_21 (by decide) (fun h3 => ?_) (fun h3 => ?_)
      · skip
        refine V.aload_n dX8_polynomial_27 rfl ?_
        refine V.iload_n dX8_polynomial_28 rfl ?_
        refine V.aload_n dX8_polynomial_29 rfl ?_
        refine V.getf (ci := 7) (k := 31) (C := RX8) (T := TX8) (N := 37) dX8_polynomial_30 lfX8_86 inX8 rfl (by first | assumption | exact hI _ (by omega)) rfl (by decide) rfl ?_
        refine V.callV (ci := 7) (T := TX8) (N := 37) dX8_polynomial_33 (c_X8_laysRow (t := 168) hI hr (hI _ (by decide)) rfl (by decide)) lkX8_260 im_X8_laysRow se_X8_laysRow cd_X8_laysRow ini_X8 rfl (by first | assumption | exact hI _ (by omega)) rfl hd_X8_laysRow ⟨Nat.le_of_ble_eq_true rfl, Nat.le_of_ble_eq_true rfl⟩ rfl (Nat.le_of_ble_eq_true rfl) (V.kkP (fun M1 q1 => ?_))
        have hp1 : ∀ n k, n < 9 → k < 9 → M1 168 (9 * n + k) = MR A r n k := fun n k hn hk => by rw [q1.2 n k hn hk, mpol_cg (h.g hr) (h.f hr) n k hk]; rfl
        have k1 : keep msr M M1 := q1.1.wk (fun j hj => by unfold msr; omega)
        refine V.aload_n dX8_polynomial_36 rfl ?_
        refine V.getf (ci := 7) (k := 31) (C := RX8) (T := TX8) (N := 37) dX8_polynomial_37 lfX8_86 inX8 rfl (by first | assumption | exact hI _ (by omega)) rfl (by decide) rfl ?_
        refine V.bipush (v := nI 9) dX8_polynomial_40 (by decide) ?_
        refine V.iload_n dX8_polynomial_42 rfl ?_
        first | refine V.imulN dX8_polynomial_43 ?_ | refine V.imul dX8_polynomial_43 ?_
        refine V.iload_n dX8_polynomial_44 rfl ?_
        first | refine V.iaddN dX8_polynomial_45 ?_ | refine V.iadd dX8_polynomial_45 ?_
        refine V.iald (n := 81) dX8_polynomial_46 (by first | assumption | exact hI _ (by omega)) (by first | assumption | decide) (by omega) ?_
        refine V.iret dX8_polynomial_47 ?_
        exact ⟨by rw [hp1 y z hy hz], h.ks k1, k1.wk (fun j hj => by unfold mP; unfold msr at hj; omega)⟩
      · cases h3
  · cases qr
theorem m_value_2 {g : Gl} {M : Mem} {x y z : Int32} (h : isN x 4 = false) : Ct g yX8_value cX8_value 4 (some .int) 4 [.ref (g.2.2.2.1 142), .int x, .int y, .int z] M (fun v M' => v = some (.int (-2)) ∧ M' = M) := by
  refine Ct.ofV (by decide) (Nat.le_of_ble_eq_true rfl) (by simp [Value.category]) (fun κ => ?_)
  refine V.iload_n dX8_value_0 rfl ?_
  refine V.callS dX8_value_1 (c_X8_isRow) lkX8_234 st_X8_isRow cd_X8_isRow ini_X8 hd_X8_isRow ⟨Nat.le_of_ble_eq_true rfl, Nat.le_of_ble_eq_true rfl⟩ rfl (Nat.le_of_ble_eq_true rfl) (V.kkF ?_)
  refine V.if_neB (tgt := 10) dX8_value_4 (by decide) (fun h1 => ?_) (fun h1 => ?_)
  · rw [h1] at h; cases h
  · refine V.bipush (v := -2) dX8_value_7 (by decide) ?_
    refine V.iret dX8_value_9 ?_
    exact ⟨rfl, rfl⟩
theorem m_value_3 {g : Gl} {M : Mem} {r : Nat} {y z : Int32} (hr : r < 4) (hz : isN y 9 = false ∨ isN z 9973 = false) : Ct g yX8_value cX8_value 4 (some .int) 4 [.ref (g.2.2.2.1 142), .int (nI r), .int y, .int z] M (fun v M' => v = some (.int (-3)) ∧ M' = M) := by
  refine Ct.ofV (by decide) (Nat.le_of_ble_eq_true rfl) (by simp [Value.category]) (fun κ => ?_)
  refine V.iload_n dX8_value_0 rfl ?_
  refine V.callS dX8_value_1 (c_X8_isRow) lkX8_234 st_X8_isRow cd_X8_isRow ini_X8 hd_X8_isRow ⟨Nat.le_of_ble_eq_true rfl, Nat.le_of_ble_eq_true rfl⟩ rfl (Nat.le_of_ble_eq_true rfl) (V.kkF ?_)
  rw [isN_nI (by decide) hr]
  refine V.if_neB (tgt := 10) dX8_value_4 (by decide) (fun qr => ?_) (fun qr => ?_)
  · skip
    refine V.iload_n dX8_value_10 rfl ?_
    refine V.callS dX8_value_11 (c_X8_isPlace) lkX8_250 st_X8_isPlace cd_X8_isPlace ini_X8 hd_X8_isPlace ⟨Nat.le_of_ble_eq_true rfl, Nat.le_of_ble_eq_true rfl⟩ rfl (Nat.le_of_ble_eq_true rfl) (V.kkF ?_)
    refine V.if_eqB (tgt := 24) dX8_value_14 (by decide) (fun h1 => ?_) (fun h1 => ?_)
    · refine V.bipush (v := -3) dX8_value_24 (by decide) ?_
      refine V.iret dX8_value_26 ?_
      exact ⟨rfl, rfl⟩
    · refine V.iload_n dX8_value_17 rfl ?_
      refine V.callS dX8_value_18 (c_X8_isNumber) lkX8_247 st_X8_isNumber cd_X8_isNumber ini_X8 hd_X8_isNumber ⟨Nat.le_of_ble_eq_true rfl, Nat.le_of_ble_eq_true rfl⟩ rfl (Nat.le_of_ble_eq_true rfl) (V.kkF ?_)
      rcases hz with hz | hz
      · rw [h1] at hz; cases hz
      · rw [hz]
        refine V.if_neB (tgt := 27) dX8_value_21 (by decide) (fun h3 => ?_) (fun h3 => ?_)
        · cases h3
        · refine V.bipush (v := -3) dX8_value_24 (by decide) ?_
          refine V.iret dX8_value_26 ?_
          exact ⟨rfl, rfl⟩
  · cases qr
theorem m_value {g : Gl} {M : Mem} {A : Ab} {r y z : Nat} (hI : ∀ i, 142 ≤ i ∧ i < 174 → i ∈ g.2.2.2.2) (h : Rm A M) (hr : r < 4) (hy : y < 9) (hz : z < 9973) : Ct g yX8_value cX8_value 4 (some .int) 4 [.ref (g.2.2.2.1 142), .int (nI r), .int (nI y), .int (nI z)] M (fun v M' => v = some (.int (horn (MR A r y) (nI z) 9)) ∧ Rm A M' ∧ keep mP M M') := by
  refine Ct.ofV (by decide) (Nat.le_of_ble_eq_true rfl) (by simp [Value.category]) (fun κ => ?_)
  refine V.iload_n dX8_value_0 rfl ?_
  refine V.callS dX8_value_1 (c_X8_isRow) lkX8_234 st_X8_isRow cd_X8_isRow ini_X8 hd_X8_isRow ⟨Nat.le_of_ble_eq_true rfl, Nat.le_of_ble_eq_true rfl⟩ rfl (Nat.le_of_ble_eq_true rfl) (V.kkF ?_)
  rw [isN_nI (by decide) hr]
  refine V.if_neB (tgt := 10) dX8_value_4 (by decide) (fun qr => ?_) (fun qr => ?_)
  · skip
    refine V.iload_n dX8_value_10 rfl ?_
    refine V.callS dX8_value_11 (c_X8_isPlace) lkX8_250 st_X8_isPlace cd_X8_isPlace ini_X8 hd_X8_isPlace ⟨Nat.le_of_ble_eq_true rfl, Nat.le_of_ble_eq_true rfl⟩ rfl (Nat.le_of_ble_eq_true rfl) (V.kkF ?_)
    rw [isN_nI (by decide) hy]
    refine V.if_eqB (tgt := 24) dX8_value_14 (by decide) (fun h1 => ?_) (fun h1 => ?_)
    · cases h1
    · refine V.iload_n dX8_value_17 rfl ?_
      refine V.callS dX8_value_18 (c_X8_isNumber) lkX8_247 st_X8_isNumber cd_X8_isNumber ini_X8 hd_X8_isNumber ⟨Nat.le_of_ble_eq_true rfl, Nat.le_of_ble_eq_true rfl⟩ rfl (Nat.le_of_ble_eq_true rfl) (V.kkF ?_)
      rw [isN_nI (by decide) hz]
      refine V.if_neB (tgt := 27) dX8_value_21 (by decide) (fun h3 => ?_) (fun h3 => ?_)
      · skip
        refine V.aload_n dX8_value_27 rfl ?_
        refine V.iload_n dX8_value_28 rfl ?_
        refine V.aload_n dX8_value_29 rfl ?_
        refine V.getf (ci := 7) (k := 31) (C := RX8) (T := TX8) (N := 37) dX8_value_30 lfX8_86 inX8 rfl (by first | assumption | exact hI _ (by omega)) rfl (by decide) rfl ?_
        refine V.callV (ci := 7) (T := TX8) (N := 37) dX8_value_33 (c_X8_laysRow (t := 168) hI hr (hI _ (by decide)) rfl (by decide)) lkX8_260 im_X8_laysRow se_X8_laysRow cd_X8_laysRow ini_X8 rfl (by first | assumption | exact hI _ (by omega)) rfl hd_X8_laysRow ⟨Nat.le_of_ble_eq_true rfl, Nat.le_of_ble_eq_true rfl⟩ rfl (Nat.le_of_ble_eq_true rfl) (V.kkP (fun M1 q1 => ?_))
        have hp1 : ∀ n k, n < 9 → k < 9 → M1 168 (9 * n + k) = MR A r n k := fun n k hn hk => by rw [q1.2 n k hn hk, mpol_cg (h.g hr) (h.f hr) n k hk]; rfl
        have k1 : keep msr M M1 := q1.1.wk (fun j hj => by unfold msr; omega)
        refine V.aload_n dX8_value_36 rfl ?_
        refine V.getf (ci := 7) (k := 31) (C := RX8) (T := TX8) (N := 37) dX8_value_37 lfX8_86 inX8 rfl (by first | assumption | exact hI _ (by omega)) rfl (by decide) rfl ?_
        refine V.bipush (v := nI 9) dX8_value_40 (by decide) ?_
        refine V.iload_n dX8_value_42 rfl ?_
        first | refine V.imulN dX8_value_43 ?_ | refine V.imul dX8_value_43 ?_
        refine V.iload_n dX8_value_44 rfl ?_
        refine V.callS dX8_value_45 (c_X8_valueOf (a := 168) (i := 9 * y) (na := 81) (hI _ (by decide)) rfl (by omega)) lkX8_263 st_X8_valueOf cd_X8_valueOf ini_X8 hd_X8_valueOf ⟨Nat.le_of_ble_eq_true rfl, Nat.le_of_ble_eq_true rfl⟩ rfl (Nat.le_of_ble_eq_true rfl) (V.kkF ?_)
        refine V.iret dX8_value_48 ?_
        exact ⟨by rw [horn_cg (p := sl (M1 168) (9 * y)) (p' := MR A r y) (fun k hk => hp1 y k hy hk) 9 (by decide)], h.ks k1, k1.wk (fun j hj => by unfold mP; unfold msr at hj; omega)⟩
      · cases h3
  · cases qr
theorem m_connect_2 {g : Gl} {M : Mem} {x y z t : Int32} (h : isN x 4 = false ∨ isN y 4 = false) : Ct g yX8_connect cX8_connect 5 (some .int) 4 [.ref (g.2.2.2.1 142), .int x, .int y, .int z, .int t] M (fun v M' => v = some (.int (-2)) ∧ M' = M) := by
  refine Ct.ofV (by decide) (Nat.le_of_ble_eq_true rfl) (by simp [Value.category]) (fun κ => ?_)
  refine V.iload_n dX8_connect_0 rfl ?_
  refine V.callS dX8_connect_1 (c_X8_isRow) lkX8_234 st_X8_isRow cd_X8_isRow ini_X8 hd_X8_isRow ⟨Nat.le_of_ble_eq_true rfl, Nat.le_of_ble_eq_true rfl⟩ rfl (Nat.le_of_ble_eq_true rfl) (V.kkF ?_)
  refine V.if_eqB (tgt := 14) dX8_connect_4 (by decide) (fun h1 => ?_) (fun h1 => ?_)
  · refine V.bipush (v := -2) dX8_connect_14 (by decide) ?_
    refine V.iret dX8_connect_16 ?_
    exact ⟨rfl, rfl⟩
  · skip
    refine V.iload_n dX8_connect_7 rfl ?_
    refine V.callS dX8_connect_8 (c_X8_isRow) lkX8_234 st_X8_isRow cd_X8_isRow ini_X8 hd_X8_isRow ⟨Nat.le_of_ble_eq_true rfl, Nat.le_of_ble_eq_true rfl⟩ rfl (Nat.le_of_ble_eq_true rfl) (V.kkF ?_)
    refine V.if_neB (tgt := 17) dX8_connect_11 (by decide) (fun h2 => ?_) (fun h2 => ?_)
    · rcases h with h | h
      · rw [h1] at h; cases h
      · rw [h2] at h; cases h
    · refine V.bipush (v := -2) dX8_connect_14 (by decide) ?_
      refine V.iret dX8_connect_16 ?_
      exact ⟨rfl, rfl⟩
theorem m_connect_3 {g : Gl} {M : Mem} {s o : Nat} {z t : Int32} (hs : s < 4) (ho : o < 4) (hz : isN z 9 = false ∨ isN t 9 = false) : Ct g yX8_connect cX8_connect 5 (some .int) 4 [.ref (g.2.2.2.1 142), .int (nI s), .int (nI o), .int z, .int t] M (fun v M' => v = some (.int (-3)) ∧ M' = M) := by
  refine Ct.ofV (by decide) (Nat.le_of_ble_eq_true rfl) (by simp [Value.category]) (fun κ => ?_)
  refine V.iload_n dX8_connect_0 rfl ?_
  refine V.callS dX8_connect_1 (c_X8_isRow) lkX8_234 st_X8_isRow cd_X8_isRow ini_X8 hd_X8_isRow ⟨Nat.le_of_ble_eq_true rfl, Nat.le_of_ble_eq_true rfl⟩ rfl (Nat.le_of_ble_eq_true rfl) (V.kkF ?_)
  rw [isN_nI (by decide) hs]
  refine V.if_eqB (tgt := 14) dX8_connect_4 (by decide) (fun qs => ?_) (fun qs => ?_)
  · cases qs
  · skip
    refine V.iload_n dX8_connect_7 rfl ?_
    refine V.callS dX8_connect_8 (c_X8_isRow) lkX8_234 st_X8_isRow cd_X8_isRow ini_X8 hd_X8_isRow ⟨Nat.le_of_ble_eq_true rfl, Nat.le_of_ble_eq_true rfl⟩ rfl (Nat.le_of_ble_eq_true rfl) (V.kkF ?_)
    rw [isN_nI (by decide) ho]
    refine V.if_neB (tgt := 17) dX8_connect_11 (by decide) (fun qo => ?_) (fun qo => ?_)
    · skip
      refine V.iload_n dX8_connect_17 rfl ?_
      refine V.callS dX8_connect_18 (c_X8_isPlace) lkX8_250 st_X8_isPlace cd_X8_isPlace ini_X8 hd_X8_isPlace ⟨Nat.le_of_ble_eq_true rfl, Nat.le_of_ble_eq_true rfl⟩ rfl (Nat.le_of_ble_eq_true rfl) (V.kkF ?_)
      refine V.if_eqB (tgt := 32) dX8_connect_21 (by decide) (fun h1 => ?_) (fun h1 => ?_)
      · refine V.bipush (v := -3) dX8_connect_32 (by decide) ?_
        refine V.iret dX8_connect_34 ?_
        exact ⟨rfl, rfl⟩
      · refine V.iload dX8_connect_24 rfl ?_
        refine V.callS dX8_connect_26 (c_X8_isPlace) lkX8_250 st_X8_isPlace cd_X8_isPlace ini_X8 hd_X8_isPlace ⟨Nat.le_of_ble_eq_true rfl, Nat.le_of_ble_eq_true rfl⟩ rfl (Nat.le_of_ble_eq_true rfl) (V.kkF ?_)
        rcases hz with hz | hz
        · rw [h1] at hz; cases hz
        · rw [hz]
          refine V.if_neB (tgt := 35) dX8_connect_29 (by decide) (fun h3 => ?_) (fun h3 => ?_)
          · cases h3
          · refine V.bipush (v := -3) dX8_connect_32 (by decide) ?_
            refine V.iret dX8_connect_34 ?_
            exact ⟨rfl, rfl⟩
    · cases qo
theorem m_connect {g : Gl} {M : Mem} {A : Ab} {s o z t : Nat} (hI : ∀ i, 142 ≤ i ∧ i < 174 → i ∈ g.2.2.2.2) (h : Rm A M) (hs : s < 4) (ho : o < 4) (hz : z < 9) (ht : t < 9) : Ct g yX8_connect cX8_connect 5 (some .int) 4 [.ref (g.2.2.2.1 142), .int (nI s), .int (nI o), .int (nI z), .int (nI t)] M (fun v M' => v = some (.int (mtell (MR A o) (MR A s z) t)) ∧ Rm A M' ∧ keep mP M M') := by
  refine Ct.ofV (by decide) (Nat.le_of_ble_eq_true rfl) (by simp [Value.category]) (fun κ => ?_)
  refine V.iload_n dX8_connect_0 rfl ?_
  refine V.callS dX8_connect_1 (c_X8_isRow) lkX8_234 st_X8_isRow cd_X8_isRow ini_X8 hd_X8_isRow ⟨Nat.le_of_ble_eq_true rfl, Nat.le_of_ble_eq_true rfl⟩ rfl (Nat.le_of_ble_eq_true rfl) (V.kkF ?_)
  rw [isN_nI (by decide) hs]
  refine V.if_eqB (tgt := 14) dX8_connect_4 (by decide) (fun qs => ?_) (fun qs => ?_)
  · cases qs
  · skip
    refine V.iload_n dX8_connect_7 rfl ?_
    refine V.callS dX8_connect_8 (c_X8_isRow) lkX8_234 st_X8_isRow cd_X8_isRow ini_X8 hd_X8_isRow ⟨Nat.le_of_ble_eq_true rfl, Nat.le_of_ble_eq_true rfl⟩ rfl (Nat.le_of_ble_eq_true rfl) (V.kkF ?_)
    rw [isN_nI (by decide) ho]
    refine V.if_neB (tgt := 17) dX8_connect_11 (by decide) (fun qo => ?_) (fun qo => ?_)
    · skip
      refine V.iload_n dX8_connect_17 rfl ?_
      refine V.callS dX8_connect_18 (c_X8_isPlace) lkX8_250 st_X8_isPlace cd_X8_isPlace ini_X8 hd_X8_isPlace ⟨Nat.le_of_ble_eq_true rfl, Nat.le_of_ble_eq_true rfl⟩ rfl (Nat.le_of_ble_eq_true rfl) (V.kkF ?_)
      rw [isN_nI (by decide) hz]
      refine V.if_eqB (tgt := 32) dX8_connect_21 (by decide) (fun h1 => ?_) (fun h1 => ?_)
      · cases h1
      · refine V.iload dX8_connect_24 rfl ?_
        refine V.callS dX8_connect_26 (c_X8_isPlace) lkX8_250 st_X8_isPlace cd_X8_isPlace ini_X8 hd_X8_isPlace ⟨Nat.le_of_ble_eq_true rfl, Nat.le_of_ble_eq_true rfl⟩ rfl (Nat.le_of_ble_eq_true rfl) (V.kkF ?_)
        rw [isN_nI (by decide) ht]
        refine V.if_neB (tgt := 35) dX8_connect_29 (by decide) (fun h3 => ?_) (fun h3 => ?_)
        · refine V.aload_n dX8_connect_35 rfl ?_
          refine V.iload_n dX8_connect_36 rfl ?_
          refine V.aload_n dX8_connect_37 rfl ?_
          refine V.getf (ci := 7) (k := 31) (C := RX8) (T := TX8) (N := 37) dX8_connect_38 lfX8_86 inX8 rfl (by first | assumption | exact hI _ (by omega)) rfl (by decide) rfl ?_
          refine V.callV (ci := 7) (T := TX8) (N := 37) dX8_connect_41 (c_X8_laysRow (t := 168) hI hs (hI _ (by decide)) rfl (by decide)) lkX8_260 im_X8_laysRow se_X8_laysRow cd_X8_laysRow ini_X8 rfl (by first | assumption | exact hI _ (by omega)) rfl hd_X8_laysRow ⟨Nat.le_of_ble_eq_true rfl, Nat.le_of_ble_eq_true rfl⟩ rfl (Nat.le_of_ble_eq_true rfl) (V.kkP (fun M1 q1 => ?_))
          refine V.aload_n dX8_connect_44 rfl ?_
          refine V.iload_n dX8_connect_45 rfl ?_
          refine V.aload_n dX8_connect_46 rfl ?_
          refine V.getf (ci := 7) (k := 32) (C := RX8) (T := TX8) (N := 37) dX8_connect_47 lfX8_89 inX8 rfl (by first | assumption | exact hI _ (by omega)) rfl (by decide) rfl ?_
          refine V.callV (ci := 7) (T := TX8) (N := 37) dX8_connect_50 (c_X8_laysRow (t := 169) hI ho (hI _ (by decide)) rfl (by decide)) lkX8_260 im_X8_laysRow se_X8_laysRow cd_X8_laysRow ini_X8 rfl (by first | assumption | exact hI _ (by omega)) rfl hd_X8_laysRow ⟨Nat.le_of_ble_eq_true rfl, Nat.le_of_ble_eq_true rfl⟩ rfl (Nat.le_of_ble_eq_true rfl) (V.kkP (fun M2 q2 => ?_))
          obtain ⟨k1, q1⟩ := q1
          obtain ⟨k2, q2⟩ := q2
          have hp1 : ∀ n k, n < 9 → k < 9 → M2 168 (9 * n + k) = MR A s n k := fun n k hn hk => by rw [k2 168 (by omega), q1 n k hn hk, mpol_cg (h.g hs) (h.f hs) n k hk]; rfl
          have hp2 : ∀ n k, n < 9 → k < 9 → M2 169 (9 * n + k) = MR A o n k := fun n k hn hk => by rw [q2 n k hn hk, k1 143 (by omega), k1 144 (by omega), mpol_cg (h.g ho) (h.f ho) n k hk]; rfl
          have k12 : keep msr M M2 := (k1.wk (fun j hj => by unfold msr; omega)).tr (k2.wk (fun j hj => by unfold msr; omega))
          refine V.aload_n dX8_connect_53 rfl ?_
          refine V.aload_n dX8_connect_54 rfl ?_
          refine V.getf (ci := 7) (k := 31) (C := RX8) (T := TX8) (N := 37) dX8_connect_55 lfX8_86 inX8 rfl (by first | assumption | exact hI _ (by omega)) rfl (by decide) rfl ?_
          refine V.bipush (v := nI 9) dX8_connect_58 (by decide) ?_
          refine V.iload_n dX8_connect_60 rfl ?_
          first | refine V.imulN dX8_connect_61 ?_ | refine V.imul dX8_connect_61 ?_
          refine V.aload_n dX8_connect_62 rfl ?_
          refine V.getf (ci := 7) (k := 32) (C := RX8) (T := TX8) (N := 37) dX8_connect_63 lfX8_89 inX8 rfl (by first | assumption | exact hI _ (by omega)) rfl (by decide) rfl ?_
          refine V.callV (ci := 7) (T := TX8) (N := 37) dX8_connect_66 (c_X8_takesApart (a := 168) (i := 9 * z) (t := 169) (na := 81) hI (hI _ (by decide)) rfl (by omega) (hI _ (by decide)) rfl (by decide) hp2) lkX8_267 im_X8_takesApart se_X8_takesApart cd_X8_takesApart ini_X8 rfl (by first | assumption | exact hI _ (by omega)) rfl hd_X8_takesApart ⟨Nat.le_of_ble_eq_true rfl, Nat.le_of_ble_eq_true rfl⟩ rfl (Nat.le_of_ble_eq_true rfl) (V.kkP (fun M3 q3 => ?_))
          refine V.aload_n dX8_connect_69 rfl ?_
          refine V.getf (ci := 7) (k := 36) (C := RX8) (T := TX8) (N := 37) dX8_connect_70 lfX8_101 inX8 rfl (by first | assumption | exact hI _ (by omega)) rfl (by decide) rfl ?_
          refine V.iload dX8_connect_73 rfl ?_
          refine V.iald (n := 9) dX8_connect_75 (by first | assumption | exact hI _ (by omega)) (by first | assumption | decide) (by omega) ?_
          refine V.iret dX8_connect_76 ?_
          have kk : keep msr M M3 := k12.tr (q3.1.wk (fun j hj => by unfold msr; omega))
          exact ⟨by rw [q3.2 t ht, mtell_cg (P' := MR A o) (p := sl (M2 168) (9 * z)) (p' := MR A s z) (fun n hn => eq9.rf) (fun k hk => hp1 z k hz hk) t ht], h.ks kk, kk.wk (fun j hj => by unfold mP; unfold msr at hj; omega)⟩
        · cases h3
    · cases qo
theorem m_differ_2 {g : Gl} {M : Mem} {x y : Int32} (h : isN x 4 = false ∨ isN y 4 = false) : Ct g yX8_differ cX8_differ 4 (some .int) 4 [.ref (g.2.2.2.1 142), .int x, .int y] M (fun v M' => v = some (.int (-2)) ∧ M' = M) := by
  refine Ct.ofV (by decide) (Nat.le_of_ble_eq_true rfl) (by simp [Value.category]) (fun κ => ?_)
  refine V.iload_n dX8_differ_0 rfl ?_
  refine V.callS dX8_differ_1 (c_X8_isRow) lkX8_234 st_X8_isRow cd_X8_isRow ini_X8 hd_X8_isRow ⟨Nat.le_of_ble_eq_true rfl, Nat.le_of_ble_eq_true rfl⟩ rfl (Nat.le_of_ble_eq_true rfl) (V.kkF ?_)
  refine V.if_eqB (tgt := 14) dX8_differ_4 (by decide) (fun h1 => ?_) (fun h1 => ?_)
  · refine V.bipush (v := -2) dX8_differ_14 (by decide) ?_
    refine V.iret dX8_differ_16 ?_
    exact ⟨rfl, rfl⟩
  · skip
    refine V.iload_n dX8_differ_7 rfl ?_
    refine V.callS dX8_differ_8 (c_X8_isRow) lkX8_234 st_X8_isRow cd_X8_isRow ini_X8 hd_X8_isRow ⟨Nat.le_of_ble_eq_true rfl, Nat.le_of_ble_eq_true rfl⟩ rfl (Nat.le_of_ble_eq_true rfl) (V.kkF ?_)
    refine V.if_neB (tgt := 17) dX8_differ_11 (by decide) (fun h2 => ?_) (fun h2 => ?_)
    · rcases h with h | h
      · rw [h1] at h; cases h
      · rw [h2] at h; cases h
    · refine V.bipush (v := -2) dX8_differ_14 (by decide) ?_
      refine V.iret dX8_differ_16 ?_
      exact ⟨rfl, rfl⟩
abbrev v_X8_differ (g : Gl) (κ : Ka) (Q : State → Prop) (M : Mem) (pc : Nat) (L : List (Option Value)) (st : List Value) : Prop := V g cX8_differ 4 yX8_differ.cls (some .int) (rmd 4) Q κ M pc L st
theorem m_differ {g : Gl} {M : Mem} {A : Ab} {s o : Nat} (hI : ∀ i, 142 ≤ i ∧ i < 174 → i ∈ g.2.2.2.2) (h : Rm A M) (hs : s < 4) (ho : o < 4) : Ct g yX8_differ cX8_differ 4 (some .int) 4 [.ref (g.2.2.2.1 142), .int (nI s), .int (nI o)] M (fun v M' => v = some (.int (fdiff (MR A s) (MR A o) 9)) ∧ Rm A M' ∧ keep mP M M') := by
  refine Ct.ofV (by decide) (Nat.le_of_ble_eq_true rfl) (by simp [Value.category]) (fun κ => ?_)
  refine V.iload_n dX8_differ_0 rfl ?_
  refine V.callS dX8_differ_1 (c_X8_isRow) lkX8_234 st_X8_isRow cd_X8_isRow ini_X8 hd_X8_isRow ⟨Nat.le_of_ble_eq_true rfl, Nat.le_of_ble_eq_true rfl⟩ rfl (Nat.le_of_ble_eq_true rfl) (V.kkF ?_)
  rw [isN_nI (by decide) hs]
  refine V.if_eqB (tgt := 14) dX8_differ_4 (by decide) (fun qs => ?_) (fun qs => ?_)
  · cases qs
  · skip
    refine V.iload_n dX8_differ_7 rfl ?_
    refine V.callS dX8_differ_8 (c_X8_isRow) lkX8_234 st_X8_isRow cd_X8_isRow ini_X8 hd_X8_isRow ⟨Nat.le_of_ble_eq_true rfl, Nat.le_of_ble_eq_true rfl⟩ rfl (Nat.le_of_ble_eq_true rfl) (V.kkF ?_)
    rw [isN_nI (by decide) ho]
    refine V.if_neB (tgt := 17) dX8_differ_11 (by decide) (fun qo => ?_) (fun qo => ?_)
    · skip
      refine V.aload_n dX8_differ_17 rfl ?_
      refine V.iload_n dX8_differ_18 rfl ?_
      refine V.aload_n dX8_differ_19 rfl ?_
      refine V.getf (ci := 7) (k := 31) (C := RX8) (T := TX8) (N := 37) dX8_differ_20 lfX8_86 inX8 rfl (by first | assumption | exact hI _ (by omega)) rfl (by decide) rfl ?_
      refine V.callV (ci := 7) (T := TX8) (N := 37) dX8_differ_23 (c_X8_laysRow (t := 168) hI hs (hI _ (by decide)) rfl (by decide)) lkX8_260 im_X8_laysRow se_X8_laysRow cd_X8_laysRow ini_X8 rfl (by first | assumption | exact hI _ (by omega)) rfl hd_X8_laysRow ⟨Nat.le_of_ble_eq_true rfl, Nat.le_of_ble_eq_true rfl⟩ rfl (Nat.le_of_ble_eq_true rfl) (V.kkP (fun M1 q1 => ?_))
      refine V.aload_n dX8_differ_26 rfl ?_
      refine V.iload_n dX8_differ_27 rfl ?_
      refine V.aload_n dX8_differ_28 rfl ?_
      refine V.getf (ci := 7) (k := 32) (C := RX8) (T := TX8) (N := 37) dX8_differ_29 lfX8_89 inX8 rfl (by first | assumption | exact hI _ (by omega)) rfl (by decide) rfl ?_
      refine V.callV (ci := 7) (T := TX8) (N := 37) dX8_differ_32 (c_X8_laysRow (t := 169) hI ho (hI _ (by decide)) rfl (by decide)) lkX8_260 im_X8_laysRow se_X8_laysRow cd_X8_laysRow ini_X8 rfl (by first | assumption | exact hI _ (by omega)) rfl hd_X8_laysRow ⟨Nat.le_of_ble_eq_true rfl, Nat.le_of_ble_eq_true rfl⟩ rfl (Nat.le_of_ble_eq_true rfl) (V.kkP (fun M2 q2 => ?_))
      obtain ⟨k1, q1⟩ := q1
      obtain ⟨k2, q2⟩ := q2
      have hp1 : ∀ n k, n < 9 → k < 9 → M2 168 (9 * n + k) = MR A s n k := fun n k hn hk => by rw [k2 168 (by omega), q1 n k hn hk, mpol_cg (h.g hs) (h.f hs) n k hk]; rfl
      have hp2 : ∀ n k, n < 9 → k < 9 → M2 169 (9 * n + k) = MR A o n k := fun n k hn hk => by rw [q2 n k hn hk, k1 143 (by omega), k1 144 (by omega), mpol_cg (h.g ho) (h.f ho) n k hk]; rfl
      have k12 : keep msr M M2 := (k1.wk (fun j hj => by unfold msr; omega)).tr (k2.wk (fun j hj => by unfold msr; omega))
      refine V.iconst (v := nI 0) dX8_differ_35 rfl ?_
      refine V.istore_n dX8_differ_36 (by decide) ?_
      have lp := up_loop 81 (fun j => (∀ z, z < j → M2 168 z = M2 169 z) → v_X8_differ g κ (Qm g κ (fun v M' => v = some (.int (fdiff (MR A s) (MR A o) 9)) ∧ Rm A M' ∧ keep mP M M')) M2 37 [some (.ref (g.2.2.2.1 142)), some (.int (nI s)), some (.int (nI o)), some (.int (nI j))] []) (fun j hj ih he => ?_) 0 (by omega) (fun z hz => by omega)
      · exact lp
      · have al : ∀ m, 9 * m + 9 ≤ j → ∀ k, k < 9 → MR A s m k = MR A o m k := fun m hm k hk => by
          rw [← hp1 m k (by omega) hk, ← hp2 m k (by omega) hk]; exact he _ (by omega)
        refine V.iload_n dX8_differ_37 rfl ?_
        refine V.bipush (v := nI 81) dX8_differ_38 (by decide) ?_
        refine V.geN (tgt := 69) dX8_differ_40 (by decide) (by omega) (by omega) (fun h1 => ?_) (fun h1 => ?_)
        · refine V.iconst (v := -1) dX8_differ_69 rfl ?_
          refine V.iret dX8_differ_70 ?_
          exact ⟨by rw [fdiff_no (fun m hm => al m (by omega)) 9], h.ks k12, k12.wk (fun j hj => by unfold mP; unfold msr at hj; omega)⟩
        · refine V.aload_n dX8_differ_43 rfl ?_
          refine V.getf (ci := 7) (k := 31) (C := RX8) (T := TX8) (N := 37) dX8_differ_44 lfX8_86 inX8 rfl (by first | assumption | exact hI _ (by omega)) rfl (by decide) rfl ?_
          refine V.iload_n dX8_differ_47 rfl ?_
          refine V.iald (n := 81) dX8_differ_48 (by first | assumption | exact hI _ (by omega)) (by first | assumption | decide) (by omega) ?_
          refine V.aload_n dX8_differ_49 rfl ?_
          refine V.getf (ci := 7) (k := 32) (C := RX8) (T := TX8) (N := 37) dX8_differ_50 lfX8_89 inX8 rfl (by first | assumption | exact hI _ (by omega)) rfl (by decide) rfl ?_
          refine V.iload_n dX8_differ_53 rfl ?_
          refine V.iald (n := 81) dX8_differ_54 (by first | assumption | exact hI _ (by omega)) (by first | assumption | decide) (by omega) ?_
          refine V.icmp_eq (tgt := 63) dX8_differ_55 (by decide) (fun h2 => ?_) (fun h2 => ?_)
          · refine V.iincN dX8_differ_63 (by decide) rfl ?_
            refine V.goto (tgt := 37) dX8_differ_66 (by decide) ?_
            exact ih h1 (fun z hz => by
              by_cases e : z = j
              · subst e; exact h2
              · exact he z (by omega))
          · refine V.iload_n dX8_differ_58 rfl ?_
            refine V.bipush (v := nI 9) dX8_differ_59 (by decide) ?_
            first | refine V.idivN dX8_differ_61 (by omega) (by omega) (by omega) ?_ | refine V.idiv dX8_differ_61 (by decide) ?_
            refine V.iret dX8_differ_62 ?_
            have e : fdiff (MR A s) (MR A o) 9 = nI (j / 9) := by
              have := fdiff_at (P := MR A s) (Q := MR A o) (n := j / 9) (by omega) (fun m hm => al m (by omega)) (fun q => h2 (by
                have e1 := hp1 (j / 9) (j % 9) (by omega) (by omega)
                have e2 := hp2 (j / 9) (j % 9) (by omega) (by omega)
                rw [show 9 * (j / 9) + j % 9 = j by omega] at e1 e2
                rw [e1, e2]; exact q _ (by omega))) (8 - j / 9) (by omega) (j / 9) (Nat.le_refl _)
              rw [show 8 - j / 9 + 1 + j / 9 = 9 by omega] at this
              exact this
            exact ⟨by rw [e], h.ks k12, k12.wk (fun j hj => by unfold mP; unfold msr at hj; omega)⟩
    · cases qo
theorem m_take_2 {g : Gl} {M : Mem} {x y : Int32} (h : isN x 4 = false) : Ct g yX8_take cX8_take 3 (some .int) 4 [.ref (g.2.2.2.1 142), .int x, .int y] M (fun v M' => v = some (.int (-2)) ∧ M' = M) := by
  refine Ct.ofV (by decide) (Nat.le_of_ble_eq_true rfl) (by simp [Value.category]) (fun κ => ?_)
  refine V.iload_n dX8_take_0 rfl ?_
  refine V.callS dX8_take_1 (c_X8_isRow) lkX8_234 st_X8_isRow cd_X8_isRow ini_X8 hd_X8_isRow ⟨Nat.le_of_ble_eq_true rfl, Nat.le_of_ble_eq_true rfl⟩ rfl (Nat.le_of_ble_eq_true rfl) (V.kkF ?_)
  refine V.if_neB (tgt := 10) dX8_take_4 (by decide) (fun h1 => ?_) (fun h1 => ?_)
  · rw [h1] at h; cases h
  · refine V.bipush (v := -2) dX8_take_7 (by decide) ?_
    refine V.iret dX8_take_9 ?_
    exact ⟨rfl, rfl⟩
theorem m_take_3 {g : Gl} {M : Mem} {r : Nat} {y : Int32} (hr : r < 4) (hz : isN y 9 = false) : Ct g yX8_take cX8_take 3 (some .int) 4 [.ref (g.2.2.2.1 142), .int (nI r), .int y] M (fun v M' => v = some (.int (-3)) ∧ M' = M) := by
  refine Ct.ofV (by decide) (Nat.le_of_ble_eq_true rfl) (by simp [Value.category]) (fun κ => ?_)
  refine V.iload_n dX8_take_0 rfl ?_
  refine V.callS dX8_take_1 (c_X8_isRow) lkX8_234 st_X8_isRow cd_X8_isRow ini_X8 hd_X8_isRow ⟨Nat.le_of_ble_eq_true rfl, Nat.le_of_ble_eq_true rfl⟩ rfl (Nat.le_of_ble_eq_true rfl) (V.kkF ?_)
  rw [isN_nI (by decide) hr]
  refine V.if_neB (tgt := 10) dX8_take_4 (by decide) (fun qr => ?_) (fun qr => ?_)
  · skip
    refine V.iload_n dX8_take_10 rfl ?_
    refine V.callS dX8_take_11 (c_X8_isPlace) lkX8_250 st_X8_isPlace cd_X8_isPlace ini_X8 hd_X8_isPlace ⟨Nat.le_of_ble_eq_true rfl, Nat.le_of_ble_eq_true rfl⟩ rfl (Nat.le_of_ble_eq_true rfl) (V.kkF ?_)
    rw [hz]
    refine V.if_neB (tgt := 20) dX8_take_14 (by decide) (fun h1 => ?_) (fun h1 => ?_)
    · cases h1
    · refine V.bipush (v := -3) dX8_take_17 (by decide) ?_
      refine V.iret dX8_take_19 ?_
      exact ⟨rfl, rfl⟩
  · cases qr
theorem m_take {g : Gl} {M : Mem} {A : Ab} {r y : Nat} (hI : ∀ i, 142 ≤ i ∧ i < 174 → i ∈ g.2.2.2.2) (h : Rm A M) (hr : r < 4) (hy : y < 9) : Ct g yX8_take cX8_take 3 (some .int) 4 [.ref (g.2.2.2.1 142), .int (nI r), .int (nI y)] M (fun v M' => v = some (.int (MR A r y y)) ∧ Rm (A.1, A.2.1, A.2.2.1, MR A r y, rmb A.2.2.2.1 A.2.2.2.2.1, A.2.2.2.2.2) M' ∧ keep mP M M') := by
  refine Ct.ofV (by decide) (Nat.le_of_ble_eq_true rfl) (by simp [Value.category]) (fun κ => ?_)
  refine V.iload_n dX8_take_0 rfl ?_
  refine V.callS dX8_take_1 (c_X8_isRow) lkX8_234 st_X8_isRow cd_X8_isRow ini_X8 hd_X8_isRow ⟨Nat.le_of_ble_eq_true rfl, Nat.le_of_ble_eq_true rfl⟩ rfl (Nat.le_of_ble_eq_true rfl) (V.kkF ?_)
  rw [isN_nI (by decide) hr]
  refine V.if_neB (tgt := 10) dX8_take_4 (by decide) (fun qr => ?_) (fun qr => ?_)
  · skip
    refine V.iload_n dX8_take_10 rfl ?_
    refine V.callS dX8_take_11 (c_X8_isPlace) lkX8_250 st_X8_isPlace cd_X8_isPlace ini_X8 hd_X8_isPlace ⟨Nat.le_of_ble_eq_true rfl, Nat.le_of_ble_eq_true rfl⟩ rfl (Nat.le_of_ble_eq_true rfl) (V.kkF ?_)
    rw [isN_nI (by decide) hy]
    refine V.if_neB (tgt := 20) dX8_take_14 (by decide) (fun h1 => ?_) (fun h1 => ?_)
    · refine V.aload_n dX8_take_20 rfl ?_
      refine V.iload_n dX8_take_21 rfl ?_
      refine V.aload_n dX8_take_22 rfl ?_
      refine V.getf (ci := 7) (k := 31) (C := RX8) (T := TX8) (N := 37) dX8_take_23 lfX8_86 inX8 rfl (by first | assumption | exact hI _ (by omega)) rfl (by decide) rfl ?_
      refine V.callV (ci := 7) (T := TX8) (N := 37) dX8_take_26 (c_X8_laysRow (t := 168) hI hr (hI _ (by decide)) rfl (by decide)) lkX8_260 im_X8_laysRow se_X8_laysRow cd_X8_laysRow ini_X8 rfl (by first | assumption | exact hI _ (by omega)) rfl hd_X8_laysRow ⟨Nat.le_of_ble_eq_true rfl, Nat.le_of_ble_eq_true rfl⟩ rfl (Nat.le_of_ble_eq_true rfl) (V.kkP (fun M1 q1 => ?_))
      have hp1 : ∀ n k, n < 9 → k < 9 → M1 168 (9 * n + k) = MR A r n k := fun n k hn hk => by rw [q1.2 n k hn hk, mpol_cg (h.g hr) (h.f hr) n k hk]; rfl
      have k1 : keep msr M M1 := q1.1.wk (fun j hj => by unfold msr; omega)
      have hr1 := h.ks k1
      refine V.aload_n dX8_take_29 rfl ?_
      refine V.callV (ci := 7) (T := TX8) (N := 37) dX8_take_30 (c_X8_notes hI hr1.2.2.1) lkX8_273 im_X8_notes se_X8_notes cd_X8_notes ini_X8 rfl (by first | assumption | exact hI _ (by omega)) rfl hd_X8_notes ⟨Nat.le_of_ble_eq_true rfl, Nat.le_of_ble_eq_true rfl⟩ rfl (Nat.le_of_ble_eq_true rfl) (V.kkP (fun M2 qn => ?_))
      obtain ⟨kn, sn, hn⟩ := qn
      have hrn : Rm (A.1, A.2.1, A.2.2.1, A.2.2.2.1, rmb A.2.2.2.1 A.2.2.2.2.1, A.2.2.2.2.2) M2 := ⟨⟨hr1.1.1, by rw [sn 8 (by decide)]; exact hr1.1.2.1, by rw [kn 149 (by omega)]; exact hr1.1.2.2⟩, fun r hr => by rw [kn 143 (by omega), kn 144 (by omega)]; exact hr1.2.1 r hr, hn, fun q hq => (hr1.2.2.2 q hq).kp (kn 147 (by omega)) (kn 148 (by omega))⟩
      refine V.aload_n dX8_take_33 rfl ?_
      refine V.getf (ci := 7) (k := 31) (C := RX8) (T := TX8) (N := 37) dX8_take_34 lfX8_86 inX8 rfl (by first | assumption | exact hI _ (by omega)) rfl (by decide) rfl ?_
      refine V.bipush (v := nI 9) dX8_take_37 (by decide) ?_
      refine V.iload_n dX8_take_39 rfl ?_
      first | refine V.imulN dX8_take_40 ?_ | refine V.imul dX8_take_40 ?_
      refine V.aload_n dX8_take_41 rfl ?_
      refine V.getf (ci := 7) (k := 2) (C := RX8) (T := TX8) (N := 37) dX8_take_42 lfX8_16 inX8 rfl (by first | assumption | exact hI _ (by omega)) rfl (by decide) rfl ?_
      refine V.iconst (v := nI 0) dX8_take_45 rfl ?_
      refine V.bipush (v := nI 9) dX8_take_46 (by decide) ?_
      refine V.callS dX8_take_48 (c_X8_bring (a := 168) (i := 9 * y) (b := 145) (na := 81) (nb := 9) (hI _ (by decide)) (hI _ (by decide)) rfl rfl (by omega) (by decide) (Or.inl (by decide))) lkX8_112 st_X8_bring cd_X8_bring ini_X8 hd_X8_bring ⟨Nat.le_of_ble_eq_true rfl, Nat.le_of_ble_eq_true rfl⟩ rfl (Nat.le_of_ble_eq_true rfl) (V.kkN ?_)
      refine V.aload_n dX8_take_51 rfl ?_
      refine V.getf (ci := 7) (k := 2) (C := RX8) (T := TX8) (N := 37) dX8_take_52 lfX8_16 inX8 rfl (by first | assumption | exact hI _ (by omega)) rfl (by decide) rfl ?_
      refine V.iload_n dX8_take_55 rfl ?_
      refine V.iald (n := 9) dX8_take_56 (by first | assumption | exact hI _ (by omega)) (by first | assumption | decide) (by omega) ?_
      refine V.iret dX8_take_57 ?_
      have ep : eq9 (brg M2 168 (9 * y) 145 0 9 145) (MR A r y) := brg_0.tr (fun k hk => by show M2 168 (9 * y + k) = _; rw [kn 168 (by omega)]; exact hp1 y k hy hk)
      have kk : keep (fun j => msr j ∨ j = 145) M2 (brg M2 168 (9 * y) 145 0 9) := (keep.rf (P := (fun j => msr j ∨ j = 145))).br (Or.inr rfl)
      exact ⟨congrArg (fun q => some (Value.int q)) (ep y hy), hrn.hand kk ep, ((k1.wk (P' := mP) (fun j hj => by unfold mP; unfold msr at hj; omega)).tr (kn.wk (fun j hj => by unfold mP; omega))).tr (kk.wk (fun j hj => by unfold mP; unfold msr at hj; omega))⟩
    · cases h1
  · cases qr
theorem m_put_3 {g : Gl} {M : Mem} {x y : Int32} (hz : isN x 9 = false ∨ isN y 9973 = false) : Ct g yX8_put cX8_put 4 (some .int) 2 [.ref (g.2.2.2.1 142), .int x, .int y] M (fun v M' => v = some (.int (-3)) ∧ M' = M) := by
  refine Ct.ofV (by decide) (Nat.le_of_ble_eq_true rfl) (by simp [Value.category]) (fun κ => ?_)
  refine V.iload_n dX8_put_0 rfl ?_
  refine V.callS dX8_put_1 (c_X8_isPlace) lkX8_250 st_X8_isPlace cd_X8_isPlace ini_X8 hd_X8_isPlace ⟨Nat.le_of_ble_eq_true rfl, Nat.le_of_ble_eq_true rfl⟩ rfl (Nat.le_of_ble_eq_true rfl) (V.kkF ?_)
  refine V.if_eqB (tgt := 14) dX8_put_4 (by decide) (fun h1 => ?_) (fun h1 => ?_)
  · refine V.bipush (v := -3) dX8_put_14 (by decide) ?_
    refine V.iret dX8_put_16 ?_
    exact ⟨rfl, rfl⟩
  · refine V.iload_n dX8_put_7 rfl ?_
    refine V.callS dX8_put_8 (c_X8_isNumber) lkX8_247 st_X8_isNumber cd_X8_isNumber ini_X8 hd_X8_isNumber ⟨Nat.le_of_ble_eq_true rfl, Nat.le_of_ble_eq_true rfl⟩ rfl (Nat.le_of_ble_eq_true rfl) (V.kkF ?_)
    rcases hz with hz | hz
    · rw [h1] at hz; cases hz
    · rw [hz]
      refine V.if_neB (tgt := 17) dX8_put_11 (by decide) (fun h2 => ?_) (fun h2 => ?_)
      · cases h2
      · refine V.bipush (v := -3) dX8_put_14 (by decide) ?_
        refine V.iret dX8_put_16 ?_
        exact ⟨rfl, rfl⟩
theorem m_put {g : Gl} {M : Mem} {A : Ab} {x y : Nat} (hI : ∀ i, 142 ≤ i ∧ i < 174 → i ∈ g.2.2.2.2) (h : Rm A M) (hx : x < 9) (hy : y < 9973) : Ct g yX8_put cX8_put 4 (some .int) 2 [.ref (g.2.2.2.1 142), .int (nI x), .int (nI y)] M (fun v M' => v = some (.int (A.2.2.2.1 x)) ∧ Rm (A.1, A.2.1, A.2.2.1, upd A.2.2.2.1 x (nI y), rmb A.2.2.2.1 A.2.2.2.2.1, A.2.2.2.2.2) M' ∧ keep mP M M') := by
  refine Ct.ofV (by decide) (Nat.le_of_ble_eq_true rfl) (by simp [Value.category]) (fun κ => ?_)
  refine V.iload_n dX8_put_0 rfl ?_
  refine V.callS dX8_put_1 (c_X8_isPlace) lkX8_250 st_X8_isPlace cd_X8_isPlace ini_X8 hd_X8_isPlace ⟨Nat.le_of_ble_eq_true rfl, Nat.le_of_ble_eq_true rfl⟩ rfl (Nat.le_of_ble_eq_true rfl) (V.kkF ?_)
  rw [isN_nI (by decide) hx]
  refine V.if_eqB (tgt := 14) dX8_put_4 (by decide) (fun h1 => ?_) (fun h1 => ?_)
  · cases h1
  · refine V.iload_n dX8_put_7 rfl ?_
    refine V.callS dX8_put_8 (c_X8_isNumber) lkX8_247 st_X8_isNumber cd_X8_isNumber ini_X8 hd_X8_isNumber ⟨Nat.le_of_ble_eq_true rfl, Nat.le_of_ble_eq_true rfl⟩ rfl (Nat.le_of_ble_eq_true rfl) (V.kkF ?_)
    rw [isN_nI (by decide) hy]
    refine V.if_neB (tgt := 17) dX8_put_11 (by decide) (fun h2 => ?_) (fun h2 => ?_)
    · refine V.aload_n dX8_put_17 rfl ?_
      refine V.getf (ci := 7) (k := 2) (C := RX8) (T := TX8) (N := 37) dX8_put_18 lfX8_16 inX8 rfl (by first | assumption | exact hI _ (by omega)) rfl (by decide) rfl ?_
      refine V.iload_n dX8_put_21 rfl ?_
      refine V.iald (n := 9) dX8_put_22 (by first | assumption | exact hI _ (by omega)) (by first | assumption | decide) (by omega) ?_
      refine V.istore_n dX8_put_23 (by decide) ?_
      refine V.aload_n dX8_put_24 rfl ?_
      refine V.callV (ci := 7) (T := TX8) (N := 37) dX8_put_25 (c_X8_notes hI h.2.2.1) lkX8_273 im_X8_notes se_X8_notes cd_X8_notes ini_X8 rfl (by first | assumption | exact hI _ (by omega)) rfl hd_X8_notes ⟨Nat.le_of_ble_eq_true rfl, Nat.le_of_ble_eq_true rfl⟩ rfl (Nat.le_of_ble_eq_true rfl) (V.kkP (fun M2 qn => ?_))
      obtain ⟨kn, sn, hn⟩ := qn
      have hrn : Rm (A.1, A.2.1, A.2.2.1, A.2.2.2.1, rmb A.2.2.2.1 A.2.2.2.2.1, A.2.2.2.2.2) M2 := ⟨⟨h.1.1, by rw [sn 8 (by decide)]; exact h.1.2.1, by rw [kn 149 (by omega)]; exact h.1.2.2⟩, fun r hr => by rw [kn 143 (by omega), kn 144 (by omega)]; exact h.2.1 r hr, hn, fun q hq => (h.2.2.2 q hq).kp (kn 147 (by omega)) (kn 148 (by omega))⟩
      refine V.aload_n dX8_put_28 rfl ?_
      refine V.getf (ci := 7) (k := 2) (C := RX8) (T := TX8) (N := 37) dX8_put_29 lfX8_16 inX8 rfl (by first | assumption | exact hI _ (by omega)) rfl (by decide) rfl ?_
      refine V.iload_n dX8_put_32 rfl ?_
      refine V.iload_n dX8_put_33 rfl ?_
      refine V.iast (n := 9) dX8_put_34 (by first | assumption | exact hI _ (by omega)) (by first | assumption | decide) (by omega) ?_
      refine V.iload_n dX8_put_35 rfl ?_
      refine V.iret dX8_put_36 ?_
      have ep : eq9 (mset M2 145 x (nI y) 145) (upd A.2.2.2.1 x (nI y)) := fun k hk => by
        rw [mset_self]; unfold upd
        by_cases e : k = x
        · rw [if_pos e, if_pos e]
        · rw [if_neg e, if_neg e]; exact hn.1 k hk
      have kk : keep (fun j => msr j ∨ j = 145) M2 (mset M2 145 x (nI y)) := (keep.rf (P := (fun j => msr j ∨ j = 145))).ms (Or.inr rfl)
      exact ⟨congrArg (fun q => some (Value.int q)) (h.2.2.1.1 x hx), hrn.hand kk ep, (kn.wk (fun j hj => by unfold mP; omega)).tr (kk.wk (fun j hj => by unfold mP; unfold msr at hj; omega))⟩
    · cases h2
theorem m_plus_2 {g : Gl} {M : Mem} {x y z : Int32} (h : isN x 4 = false) : Ct g yX8_plus cX8_plus 5 (some .int) 4 [.ref (g.2.2.2.1 142), .int x, .int y, .int z] M (fun v M' => v = some (.int (-2)) ∧ M' = M) := by
  refine Ct.ofV (by decide) (Nat.le_of_ble_eq_true rfl) (by simp [Value.category]) (fun κ => ?_)
  refine V.iload_n dX8_plus_0 rfl ?_
  refine V.callS dX8_plus_1 (c_X8_isRow) lkX8_234 st_X8_isRow cd_X8_isRow ini_X8 hd_X8_isRow ⟨Nat.le_of_ble_eq_true rfl, Nat.le_of_ble_eq_true rfl⟩ rfl (Nat.le_of_ble_eq_true rfl) (V.kkF ?_)
  refine V.if_neB (tgt := 10) dX8_plus_4 (by decide) (fun h1 => ?_) (fun h1 => ?_)
  · rw [h1] at h; cases h
  · refine V.bipush (v := -2) dX8_plus_7 (by decide) ?_
    refine V.iret dX8_plus_9 ?_
    exact ⟨rfl, rfl⟩
theorem m_plus_3 {g : Gl} {M : Mem} {r : Nat} {y z : Int32} (hr : r < 4) (hz : isN y 9 = false ∨ isN z 9973 = false) : Ct g yX8_plus cX8_plus 5 (some .int) 4 [.ref (g.2.2.2.1 142), .int (nI r), .int y, .int z] M (fun v M' => v = some (.int (-3)) ∧ M' = M) := by
  refine Ct.ofV (by decide) (Nat.le_of_ble_eq_true rfl) (by simp [Value.category]) (fun κ => ?_)
  refine V.iload_n dX8_plus_0 rfl ?_
  refine V.callS dX8_plus_1 (c_X8_isRow) lkX8_234 st_X8_isRow cd_X8_isRow ini_X8 hd_X8_isRow ⟨Nat.le_of_ble_eq_true rfl, Nat.le_of_ble_eq_true rfl⟩ rfl (Nat.le_of_ble_eq_true rfl) (V.kkF ?_)
  rw [isN_nI (by decide) hr]
  refine V.if_neB (tgt := 10) dX8_plus_4 (by decide) (fun qr => ?_) (fun qr => ?_)
  · skip
    refine V.iload_n dX8_plus_10 rfl ?_
    refine V.callS dX8_plus_11 (c_X8_isPlace) lkX8_250 st_X8_isPlace cd_X8_isPlace ini_X8 hd_X8_isPlace ⟨Nat.le_of_ble_eq_true rfl, Nat.le_of_ble_eq_true rfl⟩ rfl (Nat.le_of_ble_eq_true rfl) (V.kkF ?_)
    refine V.if_eqB (tgt := 24) dX8_plus_14 (by decide) (fun h1 => ?_) (fun h1 => ?_)
    · refine V.bipush (v := -3) dX8_plus_24 (by decide) ?_
      refine V.iret dX8_plus_26 ?_
      exact ⟨rfl, rfl⟩
    · refine V.iload_n dX8_plus_17 rfl ?_
      refine V.callS dX8_plus_18 (c_X8_isNumber) lkX8_247 st_X8_isNumber cd_X8_isNumber ini_X8 hd_X8_isNumber ⟨Nat.le_of_ble_eq_true rfl, Nat.le_of_ble_eq_true rfl⟩ rfl (Nat.le_of_ble_eq_true rfl) (V.kkF ?_)
      rcases hz with hz | hz
      · rw [h1] at hz; cases hz
      · rw [hz]
        refine V.if_neB (tgt := 27) dX8_plus_21 (by decide) (fun h3 => ?_) (fun h3 => ?_)
        · cases h3
        · refine V.bipush (v := -3) dX8_plus_24 (by decide) ?_
          refine V.iret dX8_plus_26 ?_
          exact ⟨rfl, rfl⟩
  · cases qr
abbrev v_X8_plus (g : Gl) (κ : Ka) (Q : State → Prop) (M : Mem) (pc : Nat) (L : List (Option Value)) (st : List Value) : Prop := V g cX8_plus 5 yX8_plus.cls (some .int) (rmd 4) Q κ M pc L st
theorem m_plus {g : Gl} {M : Mem} {A : Ab} {r y z : Nat} (hI : ∀ i, 142 ≤ i ∧ i < 174 → i ∈ g.2.2.2.2) (h : Rm A M) (hr : r < 4) (hy : y < 9) (hz : z < 9973) : Ct g yX8_plus cX8_plus 5 (some .int) 4 [.ref (g.2.2.2.1 142), .int (nI r), .int (nI y), .int (nI z)] M (fun v M' => v = some (.int (fax A.2.2.2.1 (MR A r y) (nI z) 0)) ∧ Rm (A.1, A.2.1, A.2.2.1, fax A.2.2.2.1 (MR A r y) (nI z), rmb A.2.2.2.1 A.2.2.2.2.1, A.2.2.2.2.2) M' ∧ keep mP M M') := by
  refine Ct.ofV (by decide) (Nat.le_of_ble_eq_true rfl) (by simp [Value.category]) (fun κ => ?_)
  refine V.iload_n dX8_plus_0 rfl ?_
  refine V.callS dX8_plus_1 (c_X8_isRow) lkX8_234 st_X8_isRow cd_X8_isRow ini_X8 hd_X8_isRow ⟨Nat.le_of_ble_eq_true rfl, Nat.le_of_ble_eq_true rfl⟩ rfl (Nat.le_of_ble_eq_true rfl) (V.kkF ?_)
  rw [isN_nI (by decide) hr]
  refine V.if_neB (tgt := 10) dX8_plus_4 (by decide) (fun qr => ?_) (fun qr => ?_)
  · skip
    refine V.iload_n dX8_plus_10 rfl ?_
    refine V.callS dX8_plus_11 (c_X8_isPlace) lkX8_250 st_X8_isPlace cd_X8_isPlace ini_X8 hd_X8_isPlace ⟨Nat.le_of_ble_eq_true rfl, Nat.le_of_ble_eq_true rfl⟩ rfl (Nat.le_of_ble_eq_true rfl) (V.kkF ?_)
    rw [isN_nI (by decide) hy]
    refine V.if_eqB (tgt := 24) dX8_plus_14 (by decide) (fun h1 => ?_) (fun h1 => ?_)
    · cases h1
    · refine V.iload_n dX8_plus_17 rfl ?_
      refine V.callS dX8_plus_18 (c_X8_isNumber) lkX8_247 st_X8_isNumber cd_X8_isNumber ini_X8 hd_X8_isNumber ⟨Nat.le_of_ble_eq_true rfl, Nat.le_of_ble_eq_true rfl⟩ rfl (Nat.le_of_ble_eq_true rfl) (V.kkF ?_)
      rw [isN_nI (by decide) hz]
      refine V.if_neB (tgt := 27) dX8_plus_21 (by decide) (fun h3 => ?_) (fun h3 => ?_)
      · skip
        refine V.aload_n dX8_plus_27 rfl ?_
        refine V.iload_n dX8_plus_28 rfl ?_
        refine V.aload_n dX8_plus_29 rfl ?_
        refine V.getf (ci := 7) (k := 31) (C := RX8) (T := TX8) (N := 37) dX8_plus_30 lfX8_86 inX8 rfl (by first | assumption | exact hI _ (by omega)) rfl (by decide) rfl ?_
        refine V.callV (ci := 7) (T := TX8) (N := 37) dX8_plus_33 (c_X8_laysRow (t := 168) hI hr (hI _ (by decide)) rfl (by decide)) lkX8_260 im_X8_laysRow se_X8_laysRow cd_X8_laysRow ini_X8 rfl (by first | assumption | exact hI _ (by omega)) rfl hd_X8_laysRow ⟨Nat.le_of_ble_eq_true rfl, Nat.le_of_ble_eq_true rfl⟩ rfl (Nat.le_of_ble_eq_true rfl) (V.kkP (fun M1 q1 => ?_))
        have hp1 : ∀ n k, n < 9 → k < 9 → M1 168 (9 * n + k) = MR A r n k := fun n k hn hk => by rw [q1.2 n k hn hk, mpol_cg (h.g hr) (h.f hr) n k hk]; rfl
        have k1 : keep msr M M1 := q1.1.wk (fun j hj => by unfold msr; omega)
        have hr1 := h.ks k1
        refine V.aload_n dX8_plus_36 rfl ?_
        refine V.callV (ci := 7) (T := TX8) (N := 37) dX8_plus_37 (c_X8_notes hI hr1.2.2.1) lkX8_273 im_X8_notes se_X8_notes cd_X8_notes ini_X8 rfl (by first | assumption | exact hI _ (by omega)) rfl hd_X8_notes ⟨Nat.le_of_ble_eq_true rfl, Nat.le_of_ble_eq_true rfl⟩ rfl (Nat.le_of_ble_eq_true rfl) (V.kkP (fun M2 qn => ?_))
        obtain ⟨kn, sn, hn⟩ := qn
        have hrn : Rm (A.1, A.2.1, A.2.2.1, A.2.2.2.1, rmb A.2.2.2.1 A.2.2.2.2.1, A.2.2.2.2.2) M2 := ⟨⟨hr1.1.1, by rw [sn 8 (by decide)]; exact hr1.1.2.1, by rw [kn 149 (by omega)]; exact hr1.1.2.2⟩, fun r hr => by rw [kn 143 (by omega), kn 144 (by omega)]; exact hr1.2.1 r hr, hn, fun q hq => (hr1.2.2.2 q hq).kp (kn 147 (by omega)) (kn 148 (by omega))⟩
        refine V.iconst (v := nI 0) dX8_plus_40 rfl ?_
        refine V.istore dX8_plus_41 (by decide) ?_
        have hq : ∀ k, k < 9 → M2 168 (9 * y + k) = MR A r y k := fun k hk => by rw [kn 168 (by omega)]; exact hp1 y k hy hk
        have lp := up_loop 9 (fun j => v_X8_plus g κ (Qm g κ (fun v M' => v = some (.int (fax A.2.2.2.1 (MR A r y) (nI z) 0)) ∧ Rm (A.1, A.2.1, A.2.2.1, fax A.2.2.2.1 (MR A r y) (nI z), rmb A.2.2.2.1 A.2.2.2.2.1, A.2.2.2.2.2) M' ∧ keep mP M M')) (aset M2 145 0 j (fax (M2 145) (MR A r y) (nI z))) 43 [some (.ref (g.2.2.2.1 142)), some (.int (nI r)), some (.int (nI y)), some (.int (nI z)), some (.int (nI j))] []) (fun j hj ih => ?_) 0 (by omega)
        · rw [aset_nil (Nat.le_refl 0)] at lp
          exact lp
        · refine V.iload dX8_plus_43 rfl ?_
          refine V.bipush (v := nI 9) dX8_plus_45 (by decide) ?_
          refine V.geN (tgt := 89) dX8_plus_47 (by decide) (by omega) (by omega) (fun h4 => ?_) (fun h4 => ?_)
          · have e : j = 9 := by omega
            subst e
            refine V.aload_n dX8_plus_89 rfl ?_
            refine V.getf (ci := 7) (k := 2) (C := RX8) (T := TX8) (N := 37) dX8_plus_90 lfX8_16 inX8 rfl (by first | assumption | exact hI _ (by omega)) rfl (by decide) rfl ?_
            refine V.iconst (v := nI 0) dX8_plus_93 rfl ?_
            refine V.iald (n := 9) dX8_plus_94 (by first | assumption | exact hI _ (by omega)) (by first | assumption | decide) (by omega) ?_
            refine V.iret dX8_plus_95 ?_
            have ep : eq9 (aset M2 145 0 9 (fax (M2 145) (MR A r y) (nI z)) 145) (fax A.2.2.2.1 (MR A r y) (nI z)) := aset_9.tr (fax_cg hn.1 eq9.rf)
            have kk : keep (fun j => msr j ∨ j = 145) M2 (aset M2 145 0 9 (fax (M2 145) (MR A r y) (nI z))) := (keep.rf (P := (fun j => msr j ∨ j = 145))).as (Or.inr rfl)
            exact ⟨congrArg (fun q => some (Value.int q)) (ep 0 (by decide)), hrn.hand kk ep, ((k1.wk (P' := mP) (fun j hj => by unfold mP; unfold msr at hj; omega)).tr (kn.wk (fun j hj => by unfold mP; omega))).tr (kk.wk (fun j hj => by unfold mP; unfold msr at hj; omega))⟩
          · refine V.aload_n dX8_plus_50 rfl ?_
            refine V.getf (ci := 7) (k := 2) (C := RX8) (T := TX8) (N := 37) dX8_plus_51 lfX8_16 inX8 rfl (by first | assumption | exact hI _ (by omega)) rfl (by decide) rfl ?_
            refine V.iload dX8_plus_54 rfl ?_
            refine V.aload_n dX8_plus_56 rfl ?_
            refine V.getf (ci := 7) (k := 2) (C := RX8) (T := TX8) (N := 37) dX8_plus_57 lfX8_16 inX8 rfl (by first | assumption | exact hI _ (by omega)) rfl (by decide) rfl ?_
            refine V.iload dX8_plus_60 rfl ?_
            refine V.iald (n := 9) dX8_plus_62 (by first | assumption | exact hI _ (by omega)) (by first | assumption | decide) (by omega) ?_
            refine V.iload_n dX8_plus_63 rfl ?_
            refine V.aload_n dX8_plus_64 rfl ?_
            refine V.getf (ci := 7) (k := 31) (C := RX8) (T := TX8) (N := 37) dX8_plus_65 lfX8_86 inX8 rfl (by first | assumption | exact hI _ (by omega)) rfl (by decide) rfl ?_
            refine V.bipush (v := nI 9) dX8_plus_68 (by decide) ?_
            refine V.iload_n dX8_plus_70 rfl ?_
            first | refine V.imulN dX8_plus_71 ?_ | refine V.imul dX8_plus_71 ?_
            refine V.iload dX8_plus_72 rfl ?_
            first | refine V.iaddN dX8_plus_74 ?_ | refine V.iadd dX8_plus_74 ?_
            refine V.iald (n := 81) dX8_plus_75 (by first | assumption | exact hI _ (by omega)) (by first | assumption | decide) (by omega) ?_
            refine V.callS dX8_plus_76 (c_X8_product) lkX8_108 st_X8_product cd_X8_product ini_X8 hd_X8_product ⟨Nat.le_of_ble_eq_true rfl, Nat.le_of_ble_eq_true rfl⟩ rfl (Nat.le_of_ble_eq_true rfl) (V.kkF ?_)
            refine V.callS dX8_plus_79 (c_X8_together) lkX8_119 st_X8_together cd_X8_together ini_X8 hd_X8_together ⟨Nat.le_of_ble_eq_true rfl, Nat.le_of_ble_eq_true rfl⟩ rfl (Nat.le_of_ble_eq_true rfl) (V.kkF ?_)
            refine V.iast (n := 9) dX8_plus_82 (by first | assumption | exact hI _ (by omega)) (by first | assumption | decide) (by omega) ?_
            refine V.iincN dX8_plus_83 (by decide) rfl ?_
            refine V.goto (tgt := 43) dX8_plus_86 (by decide) ?_
            rw [aset_up (f := fax (M2 145) (MR A r y) (nI z)) (hi := j) (Nat.zero_le _) (by rw [aset_hi (Nat.le_refl _), aset_ne (by decide), hq j h4, fmul_comm]; rfl)]
            exact ih h4
      · cases h3
  · cases qr

