theorem m_write_3 {g : Gl} {M : Mem} {x : Int32} (h : isN x 256 = false) : Ct g yX8_write cX8_write 2 (some .int) 1 [.ref (g.2.2.2.1 142), .int x] M (fun v M' => v = some (.int (-3)) ∧ M' = M) := by
  refine Ct.ofV (by decide) (Nat.le_of_ble_eq_true rfl) (by simp [Value.category]) (fun κ => ?_)
  refine V.iload_n dX8_write_0 rfl ?_
  refine V.iconst (v := nI 0) dX8_write_1 rfl ?_
  refine V.sipush (v := nI 255) dX8_write_2 (by decide) ?_
  refine V.callS dX8_write_5 (c_X8_in) lkX8_104 st_X8_in cd_X8_in ini_X8 hd_X8_in ⟨Nat.le_of_ble_eq_true rfl, Nat.le_of_ble_eq_true rfl⟩ rfl (Nat.le_of_ble_eq_true rfl) (V.kkF ?_)
  rw [in_isN (by decide), h]
  refine V.if_neB (tgt := 14) dX8_write_8 (by decide) (fun h1 => ?_) (fun h1 => ?_)
  · cases h1
  · refine V.bipush (v := -3) dX8_write_11 (by decide) ?_
    refine V.iret dX8_write_13 ?_
    exact ⟨rfl, rfl⟩
theorem m_write_5 {g : Gl} {M : Mem} {A : Ab} {x : Nat} (hI : ∀ i, 142 ≤ i ∧ i < 174 → i ∈ g.2.2.2.2) (h : Rm A M) (hx : x < 256) (hn : A.1.1 = 120) : Ct g yX8_write cX8_write 2 (some .int) 1 [.ref (g.2.2.2.1 142), .int (nI x)] M (fun v M' => v = some (.int (-5)) ∧ M' = M) := by
  have e1 := h.1.2.1
  rw [hn] at e1
  refine Ct.ofV (by decide) (Nat.le_of_ble_eq_true rfl) (by simp [Value.category]) (fun κ => ?_)
  refine V.iload_n dX8_write_0 rfl ?_
  refine V.iconst (v := nI 0) dX8_write_1 rfl ?_
  refine V.sipush (v := nI 255) dX8_write_2 (by decide) ?_
  refine V.callS dX8_write_5 (c_X8_in) lkX8_104 st_X8_in cd_X8_in ini_X8 hd_X8_in ⟨Nat.le_of_ble_eq_true rfl, Nat.le_of_ble_eq_true rfl⟩ rfl (Nat.le_of_ble_eq_true rfl) (V.kkF ?_)
  rw [in_isN (by decide), isN_nI (by decide) hx]
  refine V.if_neB (tgt := 14) dX8_write_8 (by decide) (fun h1 => ?_) (fun h1 => ?_)
  · refine V.aload_n dX8_write_14 rfl ?_
    refine V.getf (ci := 7) (k := 8) (C := RX8) (T := TX8) (N := 37) dX8_write_15 lfX8_144 inX8 rfl (by first | assumption | exact hI _ (by omega)) rfl (by decide) rfl ?_
    rw [e1]
    refine V.bipush (v := nI 120) dX8_write_18 (by decide) ?_
    refine V.neN (tgt := 26) dX8_write_20 (by decide) (by omega) (by omega) (fun h2 => ?_) (fun h2 => ?_)
    · omega
    · refine V.bipush (v := -5) dX8_write_23 (by decide) ?_
      refine V.iret dX8_write_25 ?_
      exact ⟨rfl, rfl⟩
  · cases h1
theorem m_write {g : Gl} {M : Mem} {A : Ab} {x : Nat} (hI : ∀ i, 142 ≤ i ∧ i < 174 → i ∈ g.2.2.2.2) (h : Rm A M) (hx : x < 256) (hn : A.1.1 < 120) : Ct g yX8_write cX8_write 2 (some .int) 1 [.ref (g.2.2.2.1 142), .int (nI x)] M (fun v M' => v = some (.int (nI (A.1.1 + 1))) ∧ Rm ((A.1.1 + 1, upd A.1.2 A.1.1 (nI x)), A.2) M' ∧ keep mP M M') := by
  obtain ⟨⟨a1, a2, a3⟩, b, c, d⟩ := id h
  refine Ct.ofV (by decide) (Nat.le_of_ble_eq_true rfl) (by simp [Value.category]) (fun κ => ?_)
  refine V.iload_n dX8_write_0 rfl ?_
  refine V.iconst (v := nI 0) dX8_write_1 rfl ?_
  refine V.sipush (v := nI 255) dX8_write_2 (by decide) ?_
  refine V.callS dX8_write_5 (c_X8_in) lkX8_104 st_X8_in cd_X8_in ini_X8 hd_X8_in ⟨Nat.le_of_ble_eq_true rfl, Nat.le_of_ble_eq_true rfl⟩ rfl (Nat.le_of_ble_eq_true rfl) (V.kkF ?_)
  rw [in_isN (by decide), isN_nI (by decide) hx]
  refine V.if_neB (tgt := 14) dX8_write_8 (by decide) (fun h1 => ?_) (fun h1 => ?_)
  · refine V.aload_n dX8_write_14 rfl ?_
    refine V.getf (ci := 7) (k := 8) (C := RX8) (T := TX8) (N := 37) dX8_write_15 lfX8_144 inX8 rfl (by first | assumption | exact hI _ (by omega)) rfl (by decide) rfl ?_
    rw [a2]
    refine V.bipush (v := nI 120) dX8_write_18 (by decide) ?_
    refine V.neN (tgt := 26) dX8_write_20 (by decide) (by omega) (by omega) (fun h2 => ?_) (fun h2 => ?_)
    · refine V.aload_n dX8_write_26 rfl ?_
      refine V.getf (ci := 7) (k := 7) (C := RX8) (T := TX8) (N := 37) dX8_write_27 lfX8_29 inX8 rfl (by first | assumption | exact hI _ (by omega)) rfl (by decide) rfl ?_
      refine V.aload_n dX8_write_30 rfl ?_
      refine V.getf (ci := 7) (k := 8) (C := RX8) (T := TX8) (N := 37) dX8_write_31 lfX8_144 inX8 rfl (by first | assumption | exact hI _ (by omega)) rfl (by decide) rfl ?_
      rw [a2]
      refine V.iload_n dX8_write_34 rfl ?_
      refine V.iast (n := 120) dX8_write_35 (by first | assumption | exact hI _ (by omega)) (by first | assumption | decide) (by omega) ?_
      refine V.aload_n dX8_write_36 rfl ?_
      refine V.dup dX8_write_37 rfl ?_
      refine V.getf (ci := 7) (k := 8) (C := RX8) (T := TX8) (N := 37) dX8_write_38 lfX8_144 inX8 rfl (by first | assumption | exact hI _ (by omega)) rfl (by decide) rfl ?_
      rw [mset_ne (a := 142) (by decide), a2]
      refine V.iconst (v := nI 1) dX8_write_41 rfl ?_
      first | refine V.iaddN dX8_write_42 ?_ | refine V.iadd dX8_write_42 ?_
      refine V.putf (ci := 7) (k := 8) (C := RX8) (T := TX8) (N := 37) (ty := .int) tyX8 dX8_write_43 lfX8_144 inX8 tyX8_ok nmX8 rfl (by first | assumption | exact hI _ (by omega)) rfl (by decide) rfl rfl rfl rfl (Nat.le_of_ble_eq_true rfl) rfl ?_
      refine V.aload_n dX8_write_46 rfl ?_
      refine V.getf (ci := 7) (k := 8) (C := RX8) (T := TX8) (N := 37) dX8_write_47 lfX8_144 inX8 rfl (by first | assumption | exact hI _ (by omega)) rfl (by decide) rfl ?_
      rw [mset_at]
      refine V.iret dX8_write_50 ?_
      have k : ∀ j, 143 ≤ j → j < 149 → mset (mset M 149 A.1.1 (nI x)) 142 8 (nI (A.1.1 + 1)) j = M j := fun j h1 h2 => by rw [mset_ne (by omega), mset_ne (by omega)]
      refine ⟨rfl, ⟨⟨by show A.1.1 + 1 ≤ 120; omega, by rw [mset_at], ?_⟩, fun r hr => by rw [k 143 (by omega) (by omega), k 144 (by omega) (by omega)]; exact b r hr, ⟨by rw [k 145 (by omega) (by omega)]; exact c.1, c.2.1, by rw [mset_nat (by decide), mset_ne (by decide)]; exact c.2.2.1, fun i hi => by rw [k 146 (by omega) (by omega)]; exact c.2.2.2 i hi⟩, fun q hq => (d q hq).kp (k 147 (by omega) (by omega)) (k 148 (by omega) (by omega))⟩, ((keep.rf (P := mP)).ms (by unfold mP; omega)).ms (by unfold mP; omega)⟩
      rw [mset_ne (by decide), mset_self, a3]
    · omega
  · cases h1
theorem m_erase {g : Gl} {M : Mem} {A : Ab} (hI : ∀ i, 142 ≤ i ∧ i < 174 → i ∈ g.2.2.2.2) (h : Rm A M) : Ct g yX8_erase cX8_erase 2 (some .int) 0 [.ref (g.2.2.2.1 142)] M (fun v M' => v = some (.int (nI A.1.1)) ∧ Rm ((0, A.1.2), A.2) M' ∧ keep mP M M') := by
  obtain ⟨⟨a1, a2, a3⟩, b, c, d⟩ := id h
  refine Ct.ofV (by decide) (Nat.le_of_ble_eq_true rfl) (by simp [Value.category]) (fun κ => ?_)
  refine V.aload_n dX8_erase_0 rfl ?_
  refine V.getf (ci := 7) (k := 8) (C := RX8) (T := TX8) (N := 37) dX8_erase_1 lfX8_144 inX8 rfl (by first | assumption | exact hI _ (by omega)) rfl (by decide) rfl ?_
  refine V.istore_n dX8_erase_4 (by decide) ?_
  refine V.aload_n dX8_erase_5 rfl ?_
  refine V.iconst (v := nI 0) dX8_erase_6 rfl ?_
  refine V.putf (ci := 7) (k := 8) (C := RX8) (T := TX8) (N := 37) (ty := .int) tyX8 dX8_erase_7 lfX8_144 inX8 tyX8_ok nmX8 rfl (by first | assumption | exact hI _ (by omega)) rfl (by decide) rfl rfl rfl rfl (Nat.le_of_ble_eq_true rfl) rfl ?_
  refine V.iload_n dX8_erase_10 rfl ?_
  refine V.iret dX8_erase_11 ?_
  have k : ∀ j, 143 ≤ j → j < 150 → mset M 142 8 (nI 0) j = M j := fun j h1 h2 => by rw [mset_ne (by omega)]
  exact ⟨by rw [a2], ⟨⟨Nat.zero_le _, by rw [mset_at], by rw [k 149 (by omega) (by omega)]; exact a3⟩, fun r hr => by rw [k 143 (by omega) (by omega), k 144 (by omega) (by omega)]; exact b r hr, ⟨by rw [k 145 (by omega) (by omega)]; exact c.1, c.2.1, by rw [mset_nat (by decide)]; exact c.2.2.1, fun i hi => by rw [k 146 (by omega) (by omega)]; exact c.2.2.2 i hi⟩, fun q hq => (d q hq).kp (k 147 (by omega) (by omega)) (k 148 (by omega) (by omega))⟩, (keep.rf (P := mP)).ms (by unfold mP; omega)⟩
theorem m_compose_2 {g : Gl} {M : Mem} {x y z : Int32} (h : isN x 4 = false ∨ isN y 4 = false ∨ isN z 4 = false) : Ct g yX8_compose cX8_compose 4 (some .int) 4 [.ref (g.2.2.2.1 142), .int x, .int y, .int z] M (fun v M' => v = some (.int (-2)) ∧ M' = M) := by
  refine Ct.ofV (by decide) (Nat.le_of_ble_eq_true rfl) (by simp [Value.category]) (fun κ => ?_)
  refine V.iload_n dX8_compose_0 rfl ?_
  refine V.callS dX8_compose_1 (c_X8_isRow) lkX8_234 st_X8_isRow cd_X8_isRow ini_X8 hd_X8_isRow ⟨Nat.le_of_ble_eq_true rfl, Nat.le_of_ble_eq_true rfl⟩ rfl (Nat.le_of_ble_eq_true rfl) (V.kkF ?_)
  refine V.if_eqB (tgt := 21) dX8_compose_4 (by decide) (fun h1 => ?_) (fun h1 => ?_)
  · refine V.bipush (v := -2) dX8_compose_21 (by decide) ?_
    refine V.iret dX8_compose_23 ?_
    exact ⟨rfl, rfl⟩
  · skip
    refine V.iload_n dX8_compose_7 rfl ?_
    refine V.callS dX8_compose_8 (c_X8_isRow) lkX8_234 st_X8_isRow cd_X8_isRow ini_X8 hd_X8_isRow ⟨Nat.le_of_ble_eq_true rfl, Nat.le_of_ble_eq_true rfl⟩ rfl (Nat.le_of_ble_eq_true rfl) (V.kkF ?_)
    refine V.if_eqB (tgt := 21) dX8_compose_11 (by decide) (fun h2 => ?_) (fun h2 => ?_)
    · refine V.bipush (v := -2) dX8_compose_21 (by decide) ?_
      refine V.iret dX8_compose_23 ?_
      exact ⟨rfl, rfl⟩
    · skip
      refine V.iload_n dX8_compose_14 rfl ?_
      refine V.callS dX8_compose_15 (c_X8_isRow) lkX8_234 st_X8_isRow cd_X8_isRow ini_X8 hd_X8_isRow ⟨Nat.le_of_ble_eq_true rfl, Nat.le_of_ble_eq_true rfl⟩ rfl (Nat.le_of_ble_eq_true rfl) (V.kkF ?_)
      refine V.if_neB (tgt := 24) dX8_compose_18 (by decide) (fun h3 => ?_) (fun h3 => ?_)
      · rcases h with h | h | h
        · rw [h1] at h; cases h
        · rw [h2] at h; cases h
        · rw [h3] at h; cases h
      · refine V.bipush (v := -2) dX8_compose_21 (by decide) ?_
        refine V.iret dX8_compose_23 ?_
        exact ⟨rfl, rfl⟩
theorem m_compose {g : Gl} {M : Mem} {A : Ab} {r s o : Nat} (hI : ∀ i, 142 ≤ i ∧ i < 174 → i ∈ g.2.2.2.2) (h : Rm A M) (hr : r < 4) (hs : s < 4) (ho : o < 4) : Ct g yX8_compose cX8_compose 4 (some .int) 4 [.ref (g.2.2.2.1 142), .int (nI r), .int (nI s), .int (nI o)] M (fun v M' => v = some (.int ((mput (A.2.2.1 s) (A.2.2.1 o)) 1)) ∧ Rm (A.1, va_up A.2.1 r (fprod (mput (A.2.1 s) (A.2.2.1 o)) (A.2.1 o)), va_up A.2.2.1 r (mput (A.2.2.1 s) (A.2.2.1 o)), A.2.2.2) M' ∧ keep mP M M') := by
  refine Ct.ofV (by decide) (Nat.le_of_ble_eq_true rfl) (by simp [Value.category]) (fun κ => ?_)
  refine V.iload_n dX8_compose_0 rfl ?_
  refine V.callS dX8_compose_1 (c_X8_isRow) lkX8_234 st_X8_isRow cd_X8_isRow ini_X8 hd_X8_isRow ⟨Nat.le_of_ble_eq_true rfl, Nat.le_of_ble_eq_true rfl⟩ rfl (Nat.le_of_ble_eq_true rfl) (V.kkF ?_)
  rw [isN_nI (by decide) hr]
  refine V.if_eqB (tgt := 21) dX8_compose_4 (by decide) (fun qr => ?_) (fun qr => ?_)
  · cases qr
  · skip
    refine V.iload_n dX8_compose_7 rfl ?_
    refine V.callS dX8_compose_8 (c_X8_isRow) lkX8_234 st_X8_isRow cd_X8_isRow ini_X8 hd_X8_isRow ⟨Nat.le_of_ble_eq_true rfl, Nat.le_of_ble_eq_true rfl⟩ rfl (Nat.le_of_ble_eq_true rfl) (V.kkF ?_)
    rw [isN_nI (by decide) hs]
    refine V.if_eqB (tgt := 21) dX8_compose_11 (by decide) (fun qs => ?_) (fun qs => ?_)
    · cases qs
    · skip
      refine V.iload_n dX8_compose_14 rfl ?_
      refine V.callS dX8_compose_15 (c_X8_isRow) lkX8_234 st_X8_isRow cd_X8_isRow ini_X8 hd_X8_isRow ⟨Nat.le_of_ble_eq_true rfl, Nat.le_of_ble_eq_true rfl⟩ rfl (Nat.le_of_ble_eq_true rfl) (V.kkF ?_)
      rw [isN_nI (by decide) ho]
      refine V.if_neB (tgt := 24) dX8_compose_18 (by decide) (fun qo => ?_) (fun qo => ?_)
      · skip
        refine V.aload_n dX8_compose_24 rfl ?_
        refine V.aload_n dX8_compose_25 rfl ?_
        refine V.getf (ci := 7) (k := 0) (C := RX8) (T := TX8) (N := 37) dX8_compose_26 lfX8_7 inX8 rfl (by first | assumption | exact hI _ (by omega)) rfl (by decide) rfl ?_
        refine V.bipush (v := nI 9) dX8_compose_29 (by decide) ?_
        refine V.iload_n dX8_compose_31 rfl ?_
        first | refine V.imulN dX8_compose_32 ?_ | refine V.imul dX8_compose_32 ?_
        refine V.aload_n dX8_compose_33 rfl ?_
        refine V.getf (ci := 7) (k := 1) (C := RX8) (T := TX8) (N := 37) dX8_compose_34 lfX8_13 inX8 rfl (by first | assumption | exact hI _ (by omega)) rfl (by decide) rfl ?_
        refine V.bipush (v := nI 9) dX8_compose_37 (by decide) ?_
        refine V.iload_n dX8_compose_39 rfl ?_
        first | refine V.imulN dX8_compose_40 ?_ | refine V.imul dX8_compose_40 ?_
        refine V.aload_n dX8_compose_41 rfl ?_
        refine V.getf (ci := 7) (k := 28) (C := RX8) (T := TX8) (N := 37) dX8_compose_42 lfX8_77 inX8 rfl (by first | assumption | exact hI _ (by omega)) rfl (by decide) rfl ?_
        refine V.callV (ci := 7) (T := TX8) (N := 37) dX8_compose_45 (c_X8_puts (a := 143) (i := 9 * s) (b := 144) (j := 9 * o) (c := 165) (na := 36) (nb := 36) hI (hI _ (by decide)) rfl (by omega) (hI _ (by decide)) rfl (by omega) (hI _ (by decide)) rfl (by decide) (by decide)) lkX8_137 im_X8_puts se_X8_puts cd_X8_puts ini_X8 rfl (by first | assumption | exact hI _ (by omega)) rfl hd_X8_puts ⟨Nat.le_of_ble_eq_true rfl, Nat.le_of_ble_eq_true rfl⟩ rfl (Nat.le_of_ble_eq_true rfl) (V.kkP (fun M1 q1 => ?_))
        obtain ⟨k1, g1, -⟩ := q1
        refine V.aload_n dX8_compose_48 rfl ?_
        refine V.aload_n dX8_compose_49 rfl ?_
        refine V.getf (ci := 7) (k := 28) (C := RX8) (T := TX8) (N := 37) dX8_compose_50 lfX8_77 inX8 rfl (by first | assumption | exact hI _ (by omega)) rfl (by decide) rfl ?_
        refine V.iconst (v := nI 0) dX8_compose_53 rfl ?_
        refine V.aload_n dX8_compose_54 rfl ?_
        refine V.getf (ci := 7) (k := 0) (C := RX8) (T := TX8) (N := 37) dX8_compose_55 lfX8_7 inX8 rfl (by first | assumption | exact hI _ (by omega)) rfl (by decide) rfl ?_
        refine V.bipush (v := nI 9) dX8_compose_58 (by decide) ?_
        refine V.iload_n dX8_compose_60 rfl ?_
        first | refine V.imulN dX8_compose_61 ?_ | refine V.imul dX8_compose_61 ?_
        refine V.aload_n dX8_compose_62 rfl ?_
        refine V.getf (ci := 7) (k := 28) (C := RX8) (T := TX8) (N := 37) dX8_compose_63 lfX8_77 inX8 rfl (by first | assumption | exact hI _ (by omega)) rfl (by decide) rfl ?_
        refine V.callV (ci := 7) (T := TX8) (N := 37) dX8_compose_66 (c_X8_multiplies (a := 165) (i := 0) (b := 143) (j := 9 * o) (c := 165) (na := 9) (nb := 36) hI (hI _ (by decide)) rfl (by decide) (hI _ (by decide)) rfl (by omega) (hI _ (by decide)) rfl (by decide) (by decide)) lkX8_133 im_X8_multiplies se_X8_multiplies cd_X8_multiplies ini_X8 rfl (by first | assumption | exact hI _ (by omega)) rfl hd_X8_multiplies ⟨Nat.le_of_ble_eq_true rfl, Nat.le_of_ble_eq_true rfl⟩ rfl (Nat.le_of_ble_eq_true rfl) (V.kkN ?_)
        refine V.aload_n dX8_compose_69 rfl ?_
        refine V.aload_n dX8_compose_70 rfl ?_
        refine V.getf (ci := 7) (k := 1) (C := RX8) (T := TX8) (N := 37) dX8_compose_71 lfX8_13 inX8 rfl (by first | assumption | exact hI _ (by omega)) rfl (by decide) rfl ?_
        refine V.bipush (v := nI 9) dX8_compose_74 (by decide) ?_
        refine V.iload_n dX8_compose_76 rfl ?_
        first | refine V.imulN dX8_compose_77 ?_ | refine V.imul dX8_compose_77 ?_
        refine V.aload_n dX8_compose_78 rfl ?_
        refine V.getf (ci := 7) (k := 1) (C := RX8) (T := TX8) (N := 37) dX8_compose_79 lfX8_13 inX8 rfl (by first | assumption | exact hI _ (by omega)) rfl (by decide) rfl ?_
        refine V.bipush (v := nI 9) dX8_compose_82 (by decide) ?_
        refine V.iload_n dX8_compose_84 rfl ?_
        first | refine V.imulN dX8_compose_85 ?_ | refine V.imul dX8_compose_85 ?_
        refine V.aload_n dX8_compose_86 rfl ?_
        refine V.getf (ci := 7) (k := 29) (C := RX8) (T := TX8) (N := 37) dX8_compose_87 lfX8_80 inX8 rfl (by first | assumption | exact hI _ (by omega)) rfl (by decide) rfl ?_
        refine V.callV (ci := 7) (T := TX8) (N := 37) dX8_compose_90 (c_X8_puts (a := 144) (i := 9 * s) (b := 144) (j := 9 * o) (c := 166) (na := 36) (nb := 36) hI (hI _ (by decide)) rfl (by omega) (hI _ (by decide)) rfl (by omega) (hI _ (by decide)) rfl (by decide) (by decide)) lkX8_137 im_X8_puts se_X8_puts cd_X8_puts ini_X8 rfl (by first | assumption | exact hI _ (by omega)) rfl hd_X8_puts ⟨Nat.le_of_ble_eq_true rfl, Nat.le_of_ble_eq_true rfl⟩ rfl (Nat.le_of_ble_eq_true rfl) (V.kkP (fun M3 q3 => ?_))
        obtain ⟨k3, f3, -⟩ := q3
        refine V.aload_n dX8_compose_93 rfl ?_
        refine V.iload_n dX8_compose_94 rfl ?_
        refine V.aload_n dX8_compose_95 rfl ?_
        refine V.getf (ci := 7) (k := 28) (C := RX8) (T := TX8) (N := 37) dX8_compose_96 lfX8_77 inX8 rfl (by first | assumption | exact hI _ (by omega)) rfl (by decide) rfl ?_
        refine V.aload_n dX8_compose_99 rfl ?_
        refine V.getf (ci := 7) (k := 29) (C := RX8) (T := TX8) (N := 37) dX8_compose_100 lfX8_80 inX8 rfl (by first | assumption | exact hI _ (by omega)) rfl (by decide) rfl ?_
        refine V.callV (ci := 7) (T := TX8) (N := 37) dX8_compose_103 (c_X8_becomes (a := 165) (b := 166) hI hr (hI _ (by decide)) rfl (hI _ (by decide)) rfl (by decide) (by decide)) lkX8_237 im_X8_becomes se_X8_becomes cd_X8_becomes ini_X8 rfl (by first | assumption | exact hI _ (by omega)) rfl hd_X8_becomes ⟨Nat.le_of_ble_eq_true rfl, Nat.le_of_ble_eq_true rfl⟩ rfl (Nat.le_of_ble_eq_true rfl) (V.kkF ?_)
        refine V.iret dX8_compose_106 ?_
        have kk : keep msr M M3 := (((k1.wk (fun j hj => by unfold msr; omega)).as (by unfold msr; omega)).as (by unfold msr; omega)).tr (k3.wk (fun j hj => by unfold msr; omega))
        have e1 : eq9 (M3 165) (fprod (mput (A.2.1 s) (A.2.2.1 o)) (A.2.1 o)) := by
          rw [k3 165 (by omega)]
          refine aset_9.tr (fprod_cg (by rw [sl_0]; exact g1.tr (mput_cg (h.g hs) (h.f ho))) ?_)
          rw [k1 143 (by omega)]; exact h.g ho
        have e2 : eq9 (M3 166) (mput (A.2.2.1 s) (A.2.2.1 o)) := by
          refine f3.tr (mput_cg ?_ ?_)
          · rw [aset_ne (by decide), aset_ne (by decide), k1 144 (by omega)]; exact h.f hs
          · rw [aset_ne (by decide), aset_ne (by decide), k1 144 (by omega)]; exact h.f ho
        exact ⟨congrArg (fun q => some (Value.int q)) (e2 1 (by decide)), (h.ks kk).row hr (by decide) e1 e2, (kk.wk (fun j hj => by unfold mP; unfold msr at hj; omega)).tr (rowM_keep.wk (fun j hj => by unfold mP; omega))⟩
      · cases qo
theorem m_invert_2 {g : Gl} {M : Mem} {x y : Int32} (h : isN x 4 = false ∨ isN y 4 = false) : Ct g yX8_invert cX8_invert 3 (some .int) 5 [.ref (g.2.2.2.1 142), .int x, .int y] M (fun v M' => v = some (.int (-2)) ∧ M' = M) := by
  refine Ct.ofV (by decide) (Nat.le_of_ble_eq_true rfl) (by simp [Value.category]) (fun κ => ?_)
  refine V.iload_n dX8_invert_0 rfl ?_
  refine V.callS dX8_invert_1 (c_X8_isRow) lkX8_234 st_X8_isRow cd_X8_isRow ini_X8 hd_X8_isRow ⟨Nat.le_of_ble_eq_true rfl, Nat.le_of_ble_eq_true rfl⟩ rfl (Nat.le_of_ble_eq_true rfl) (V.kkF ?_)
  refine V.if_eqB (tgt := 14) dX8_invert_4 (by decide) (fun h1 => ?_) (fun h1 => ?_)
  · refine V.bipush (v := -2) dX8_invert_14 (by decide) ?_
    refine V.iret dX8_invert_16 ?_
    exact ⟨rfl, rfl⟩
  · skip
    refine V.iload_n dX8_invert_7 rfl ?_
    refine V.callS dX8_invert_8 (c_X8_isRow) lkX8_234 st_X8_isRow cd_X8_isRow ini_X8 hd_X8_isRow ⟨Nat.le_of_ble_eq_true rfl, Nat.le_of_ble_eq_true rfl⟩ rfl (Nat.le_of_ble_eq_true rfl) (V.kkF ?_)
    refine V.if_neB (tgt := 17) dX8_invert_11 (by decide) (fun h2 => ?_) (fun h2 => ?_)
    · rcases h with h | h
      · rw [h1] at h; cases h
      · rw [h2] at h; cases h
    · refine V.bipush (v := -2) dX8_invert_14 (by decide) ?_
      refine V.iret dX8_invert_16 ?_
      exact ⟨rfl, rfl⟩
theorem m_invert {g : Gl} {M : Mem} {A : Ab} {r o : Nat} (hI : ∀ i, 142 ≤ i ∧ i < 174 → i ∈ g.2.2.2.2) (h : Rm A M) (hr : r < 4) (ho : o < 4) : Ct g yX8_invert cX8_invert 3 (some .int) 5 [.ref (g.2.2.2.1 142), .int (nI r), .int (nI o)] M (fun v M' => v = some (.int ((mturn (A.2.2.1 o)) 1)) ∧ Rm (A.1, va_up A.2.1 r (mdiv (mono 0 (nI 1)) (mput (A.2.1 o) (mturn (A.2.2.1 o)))), va_up A.2.2.1 r (mturn (A.2.2.1 o)), A.2.2.2) M' ∧ keep mP M M') := by
  refine Ct.ofV (by decide) (Nat.le_of_ble_eq_true rfl) (by simp [Value.category]) (fun κ => ?_)
  refine V.iload_n dX8_invert_0 rfl ?_
  refine V.callS dX8_invert_1 (c_X8_isRow) lkX8_234 st_X8_isRow cd_X8_isRow ini_X8 hd_X8_isRow ⟨Nat.le_of_ble_eq_true rfl, Nat.le_of_ble_eq_true rfl⟩ rfl (Nat.le_of_ble_eq_true rfl) (V.kkF ?_)
  rw [isN_nI (by decide) hr]
  refine V.if_eqB (tgt := 14) dX8_invert_4 (by decide) (fun qr => ?_) (fun qr => ?_)
  · cases qr
  · skip
    refine V.iload_n dX8_invert_7 rfl ?_
    refine V.callS dX8_invert_8 (c_X8_isRow) lkX8_234 st_X8_isRow cd_X8_isRow ini_X8 hd_X8_isRow ⟨Nat.le_of_ble_eq_true rfl, Nat.le_of_ble_eq_true rfl⟩ rfl (Nat.le_of_ble_eq_true rfl) (V.kkF ?_)
    rw [isN_nI (by decide) ho]
    refine V.if_neB (tgt := 17) dX8_invert_11 (by decide) (fun qo => ?_) (fun qo => ?_)
    · skip
      refine V.aload_n dX8_invert_17 rfl ?_
      refine V.aload_n dX8_invert_18 rfl ?_
      refine V.getf (ci := 7) (k := 1) (C := RX8) (T := TX8) (N := 37) dX8_invert_19 lfX8_13 inX8 rfl (by first | assumption | exact hI _ (by omega)) rfl (by decide) rfl ?_
      refine V.bipush (v := nI 9) dX8_invert_22 (by decide) ?_
      refine V.iload_n dX8_invert_24 rfl ?_
      first | refine V.imulN dX8_invert_25 ?_ | refine V.imul dX8_invert_25 ?_
      refine V.aload_n dX8_invert_26 rfl ?_
      refine V.getf (ci := 7) (k := 29) (C := RX8) (T := TX8) (N := 37) dX8_invert_27 lfX8_80 inX8 rfl (by first | assumption | exact hI _ (by omega)) rfl (by decide) rfl ?_
      refine V.callV (ci := 7) (T := TX8) (N := 37) dX8_invert_30 (c_X8_turns (a := 144) (i := 9 * o) (c := 166) (na := 36) hI (hI _ (by decide)) rfl (by omega) (hI _ (by decide)) rfl (by decide) (by decide)) lkX8_171 im_X8_turns se_X8_turns cd_X8_turns ini_X8 rfl (by first | assumption | exact hI _ (by omega)) rfl hd_X8_turns ⟨Nat.le_of_ble_eq_true rfl, Nat.le_of_ble_eq_true rfl⟩ rfl (Nat.le_of_ble_eq_true rfl) (V.kkP (fun M1 q1 => ?_))
      obtain ⟨k1, f1, -⟩ := q1
      refine V.aload_n dX8_invert_33 rfl ?_
      refine V.aload_n dX8_invert_34 rfl ?_
      refine V.getf (ci := 7) (k := 0) (C := RX8) (T := TX8) (N := 37) dX8_invert_35 lfX8_7 inX8 rfl (by first | assumption | exact hI _ (by omega)) rfl (by decide) rfl ?_
      refine V.bipush (v := nI 9) dX8_invert_38 (by decide) ?_
      refine V.iload_n dX8_invert_40 rfl ?_
      first | refine V.imulN dX8_invert_41 ?_ | refine V.imul dX8_invert_41 ?_
      refine V.aload_n dX8_invert_42 rfl ?_
      refine V.getf (ci := 7) (k := 29) (C := RX8) (T := TX8) (N := 37) dX8_invert_43 lfX8_80 inX8 rfl (by first | assumption | exact hI _ (by omega)) rfl (by decide) rfl ?_
      refine V.iconst (v := nI 0) dX8_invert_46 rfl ?_
      refine V.aload_n dX8_invert_47 rfl ?_
      refine V.getf (ci := 7) (k := 28) (C := RX8) (T := TX8) (N := 37) dX8_invert_48 lfX8_77 inX8 rfl (by first | assumption | exact hI _ (by omega)) rfl (by decide) rfl ?_
      refine V.callV (ci := 7) (T := TX8) (N := 37) dX8_invert_51 (c_X8_puts (a := 143) (i := 9 * o) (b := 166) (j := 0) (c := 165) (na := 36) (nb := 9) hI (hI _ (by decide)) rfl (by omega) (hI _ (by decide)) rfl (by decide) (hI _ (by decide)) rfl (by decide) (by decide)) lkX8_137 im_X8_puts se_X8_puts cd_X8_puts ini_X8 rfl (by first | assumption | exact hI _ (by omega)) rfl hd_X8_puts ⟨Nat.le_of_ble_eq_true rfl, Nat.le_of_ble_eq_true rfl⟩ rfl (Nat.le_of_ble_eq_true rfl) (V.kkP (fun M2 q2 => ?_))
      obtain ⟨k2, g2, -⟩ := q2
      refine V.aload_n dX8_invert_54 rfl ?_
      refine V.callV (ci := 7) (T := TX8) (N := 37) dX8_invert_55 (c_X8_laysOne hI) lkX8_241 im_X8_laysOne se_X8_laysOne cd_X8_laysOne ini_X8 rfl (by first | assumption | exact hI _ (by omega)) rfl hd_X8_laysOne ⟨Nat.le_of_ble_eq_true rfl, Nat.le_of_ble_eq_true rfl⟩ rfl (Nat.le_of_ble_eq_true rfl) (V.kkN ?_)
      refine V.aload_n dX8_invert_58 rfl ?_
      refine V.aload_n dX8_invert_59 rfl ?_
      refine V.getf (ci := 7) (k := 30) (C := RX8) (T := TX8) (N := 37) dX8_invert_60 lfX8_83 inX8 rfl (by first | assumption | exact hI _ (by omega)) rfl (by decide) rfl ?_
      refine V.iconst (v := nI 0) dX8_invert_63 rfl ?_
      refine V.aload_n dX8_invert_64 rfl ?_
      refine V.getf (ci := 7) (k := 28) (C := RX8) (T := TX8) (N := 37) dX8_invert_65 lfX8_77 inX8 rfl (by first | assumption | exact hI _ (by omega)) rfl (by decide) rfl ?_
      refine V.iconst (v := nI 0) dX8_invert_68 rfl ?_
      refine V.aload_n dX8_invert_69 rfl ?_
      refine V.getf (ci := 7) (k := 28) (C := RX8) (T := TX8) (N := 37) dX8_invert_70 lfX8_77 inX8 rfl (by first | assumption | exact hI _ (by omega)) rfl (by decide) rfl ?_
      refine V.callV (ci := 7) (T := TX8) (N := 37) dX8_invert_73 (c_X8_divides (a := 167) (i := 0) (b := 165) (j := 0) (c := 165) (na := 9) (nb := 9) hI (hI _ (by decide)) rfl (by decide) (hI _ (by decide)) rfl (by decide) (hI _ (by decide)) rfl (by decide) (by decide)) lkX8_158 im_X8_divides se_X8_divides cd_X8_divides ini_X8 rfl (by first | assumption | exact hI _ (by omega)) rfl hd_X8_divides ⟨Nat.le_of_ble_eq_true rfl, Nat.le_of_ble_eq_true rfl⟩ rfl (Nat.le_of_ble_eq_true rfl) (V.kkN ?_)
      refine V.aload_n dX8_invert_76 rfl ?_
      refine V.iload_n dX8_invert_77 rfl ?_
      refine V.aload_n dX8_invert_78 rfl ?_
      refine V.getf (ci := 7) (k := 28) (C := RX8) (T := TX8) (N := 37) dX8_invert_79 lfX8_77 inX8 rfl (by first | assumption | exact hI _ (by omega)) rfl (by decide) rfl ?_
      refine V.aload_n dX8_invert_82 rfl ?_
      refine V.getf (ci := 7) (k := 29) (C := RX8) (T := TX8) (N := 37) dX8_invert_83 lfX8_80 inX8 rfl (by first | assumption | exact hI _ (by omega)) rfl (by decide) rfl ?_
      refine V.callV (ci := 7) (T := TX8) (N := 37) dX8_invert_86 (c_X8_becomes (a := 165) (b := 166) hI hr (hI _ (by decide)) rfl (hI _ (by decide)) rfl (by decide) (by decide)) lkX8_237 im_X8_becomes se_X8_becomes cd_X8_becomes ini_X8 rfl (by first | assumption | exact hI _ (by omega)) rfl hd_X8_becomes ⟨Nat.le_of_ble_eq_true rfl, Nat.le_of_ble_eq_true rfl⟩ rfl (Nat.le_of_ble_eq_true rfl) (V.kkF ?_)
      refine V.iret dX8_invert_89 ?_
      generalize hM3 : aset (aset (aset M2 167 0 9 _) 150 0 9 _) 165 0 9 _ = M3
      have k23 : keep msr M2 M3 := by
        rw [← hM3]; exact (((keep.rf (P := msr)).as (by unfold msr; omega)).as (by unfold msr; omega)).as (by unfold msr; omega)
      have kk : keep msr M M3 := ((k1.wk (fun j hj => by unfold msr; omega)).tr (k2.wk (fun j hj => by unfold msr; omega))).tr k23
      have e2 : eq9 (M3 166) (mturn (A.2.2.1 o)) := by
        rw [← hM3, aset_ne (by decide), aset_ne (by decide), aset_ne (by decide), k2 166 (by omega)]
        exact f1.tr (mturn_cg (h.f ho))
      have e1 : eq9 (M3 165) (mdiv (mono 0 (nI 1)) (mput (A.2.1 o) (mturn (A.2.2.1 o)))) := by
        rw [← hM3]
        refine aset_9.tr (mdiv_cg (by rw [sl_0]; exact aset_9) ?_)
        rw [sl_0, aset_ne (by decide)]
        refine g2.tr (mput_cg ?_ ?_)
        · rw [k1 143 (by omega)]; exact h.g ho
        · rw [sl_0]; exact f1.tr (mturn_cg (h.f ho))
      exact ⟨congrArg (fun q => some (Value.int q)) (e2 1 (by decide)), (h.ks kk).row hr (by decide) e1 e2, (kk.wk (fun j hj => by unfold mP; unfold msr at hj; omega)).tr (rowM_keep.wk (fun j hj => by unfold mP; omega))⟩
    · cases qo
theorem m_part_2 {g : Gl} {M : Mem} {x y z : Int32} (h : isN x 4 = false ∨ isN y 4 = false) : Ct g yX8_part cX8_part 5 (some .int) 2 [.ref (g.2.2.2.1 142), .int x, .int y, .int z] M (fun v M' => v = some (.int (-2)) ∧ M' = M) := by
  refine Ct.ofV (by decide) (Nat.le_of_ble_eq_true rfl) (by simp [Value.category]) (fun κ => ?_)
  refine V.iload_n dX8_part_0 rfl ?_
  refine V.callS dX8_part_1 (c_X8_isRow) lkX8_234 st_X8_isRow cd_X8_isRow ini_X8 hd_X8_isRow ⟨Nat.le_of_ble_eq_true rfl, Nat.le_of_ble_eq_true rfl⟩ rfl (Nat.le_of_ble_eq_true rfl) (V.kkF ?_)
  refine V.if_eqB (tgt := 14) dX8_part_4 (by decide) (fun h1 => ?_) (fun h1 => ?_)
  · refine V.bipush (v := -2) dX8_part_14 (by decide) ?_
    refine V.iret dX8_part_16 ?_
    exact ⟨rfl, rfl⟩
  · skip
    refine V.iload_n dX8_part_7 rfl ?_
    refine V.callS dX8_part_8 (c_X8_isRow) lkX8_234 st_X8_isRow cd_X8_isRow ini_X8 hd_X8_isRow ⟨Nat.le_of_ble_eq_true rfl, Nat.le_of_ble_eq_true rfl⟩ rfl (Nat.le_of_ble_eq_true rfl) (V.kkF ?_)
    refine V.if_neB (tgt := 17) dX8_part_11 (by decide) (fun h2 => ?_) (fun h2 => ?_)
    · rcases h with h | h
      · rw [h1] at h; cases h
      · rw [h2] at h; cases h
    · refine V.bipush (v := -2) dX8_part_14 (by decide) ?_
      refine V.iret dX8_part_16 ?_
      exact ⟨rfl, rfl⟩
theorem m_part_3 {g : Gl} {M : Mem} {r o : Nat} {z : Int32} (hr : r < 4) (ho : o < 4) (hz : isN z 2 = false) : Ct g yX8_part cX8_part 5 (some .int) 2 [.ref (g.2.2.2.1 142), .int (nI r), .int (nI o), .int z] M (fun v M' => v = some (.int (-3)) ∧ M' = M) := by
  refine Ct.ofV (by decide) (Nat.le_of_ble_eq_true rfl) (by simp [Value.category]) (fun κ => ?_)
  refine V.iload_n dX8_part_0 rfl ?_
  refine V.callS dX8_part_1 (c_X8_isRow) lkX8_234 st_X8_isRow cd_X8_isRow ini_X8 hd_X8_isRow ⟨Nat.le_of_ble_eq_true rfl, Nat.le_of_ble_eq_true rfl⟩ rfl (Nat.le_of_ble_eq_true rfl) (V.kkF ?_)
  rw [isN_nI (by decide) hr]
  refine V.if_eqB (tgt := 14) dX8_part_4 (by decide) (fun qr => ?_) (fun qr => ?_)
  · cases qr
  · skip
    refine V.iload_n dX8_part_7 rfl ?_
    refine V.callS dX8_part_8 (c_X8_isRow) lkX8_234 st_X8_isRow cd_X8_isRow ini_X8 hd_X8_isRow ⟨Nat.le_of_ble_eq_true rfl, Nat.le_of_ble_eq_true rfl⟩ rfl (Nat.le_of_ble_eq_true rfl) (V.kkF ?_)
    rw [isN_nI (by decide) ho]
    refine V.if_neB (tgt := 17) dX8_part_11 (by decide) (fun qo => ?_) (fun qo => ?_)
    · skip
      refine V.iload_n dX8_part_17 rfl ?_
      refine V.iconst (v := nI 0) dX8_part_18 rfl ?_
      refine V.iconst (v := nI 1) dX8_part_19 rfl ?_
      refine V.callS dX8_part_20 (c_X8_in) lkX8_104 st_X8_in cd_X8_in ini_X8 hd_X8_in ⟨Nat.le_of_ble_eq_true rfl, Nat.le_of_ble_eq_true rfl⟩ rfl (Nat.le_of_ble_eq_true rfl) (V.kkF ?_)
      rw [in_isN (by decide), hz]
      refine V.if_neB (tgt := 29) dX8_part_23 (by decide) (fun h1 => ?_) (fun h1 => ?_)
      · cases h1
      · refine V.bipush (v := -3) dX8_part_26 (by decide) ?_
        refine V.iret dX8_part_28 ?_
        exact ⟨rfl, rfl⟩
    · cases qo
abbrev v_X8_part (g : Gl) (κ : Ka) (Q : State → Prop) (M : Mem) (pc : Nat) (L : List (Option Value)) (st : List Value) : Prop := V g cX8_part 5 yX8_part.cls (some .int) (rmd 2) Q κ M pc L st
theorem m_part0 {g : Gl} {M : Mem} {A : Ab} {r o : Nat} (hI : ∀ i, 142 ≤ i ∧ i < 174 → i ∈ g.2.2.2.2) (h : Rm A M) (hr : r < 4) (ho : o < 4) : Ct g yX8_part cX8_part 5 (some .int) 2 [.ref (g.2.2.2.1 142), .int (nI r), .int (nI o), .int (nI 0)] M (fun v M' => v = some (.int ((A.2.2.1 o) 1)) ∧ Rm (A.1, va_up A.2.1 r (mono 0 (nI 1)), va_up A.2.2.1 r (A.2.2.1 o), A.2.2.2) M' ∧ keep mP M M') := by
  refine Ct.ofV (by decide) (Nat.le_of_ble_eq_true rfl) (by simp [Value.category]) (fun κ => ?_)
  refine V.iload_n dX8_part_0 rfl ?_
  refine V.callS dX8_part_1 (c_X8_isRow) lkX8_234 st_X8_isRow cd_X8_isRow ini_X8 hd_X8_isRow ⟨Nat.le_of_ble_eq_true rfl, Nat.le_of_ble_eq_true rfl⟩ rfl (Nat.le_of_ble_eq_true rfl) (V.kkF ?_)
  rw [isN_nI (by decide) hr]
  refine V.if_eqB (tgt := 14) dX8_part_4 (by decide) (fun qr => ?_) (fun qr => ?_)
  · cases qr
  · skip
    refine V.iload_n dX8_part_7 rfl ?_
    refine V.callS dX8_part_8 (c_X8_isRow) lkX8_234 st_X8_isRow cd_X8_isRow ini_X8 hd_X8_isRow ⟨Nat.le_of_ble_eq_true rfl, Nat.le_of_ble_eq_true rfl⟩ rfl (Nat.le_of_ble_eq_true rfl) (V.kkF ?_)
    rw [isN_nI (by decide) ho]
    refine V.if_neB (tgt := 17) dX8_part_11 (by decide) (fun qo => ?_) (fun qo => ?_)
    · skip
      refine V.iload_n dX8_part_17 rfl ?_
      refine V.iconst (v := nI 0) dX8_part_18 rfl ?_
      refine V.iconst (v := nI 1) dX8_part_19 rfl ?_
      refine V.callS dX8_part_20 (c_X8_in) lkX8_104 st_X8_in cd_X8_in ini_X8 hd_X8_in ⟨Nat.le_of_ble_eq_true rfl, Nat.le_of_ble_eq_true rfl⟩ rfl (Nat.le_of_ble_eq_true rfl) (V.kkF ?_)
      rw [in_isN (by decide), isN_nI (by decide) (show 0 < 1 + 1 by decide)]
      refine V.if_neB (tgt := 29) dX8_part_23 (by decide) (fun h1 => ?_) (fun h1 => ?_)
      · refine V.aload_n dX8_part_29 rfl ?_
        refine V.iload_n dX8_part_30 rfl ?_
        refine V.callV (ci := 7) (T := TX8) (N := 37) dX8_part_31 (c_X8_copiesRow hI ho) lkX8_244 im_X8_copiesRow se_X8_copiesRow cd_X8_copiesRow ini_X8 rfl (by first | assumption | exact hI _ (by omega)) rfl hd_X8_copiesRow ⟨Nat.le_of_ble_eq_true rfl, Nat.le_of_ble_eq_true rfl⟩ rfl (Nat.le_of_ble_eq_true rfl) (V.kkN ?_)
        refine V.iconst (v := nI 0) dX8_part_34 rfl ?_
        refine V.istore dX8_part_35 (by decide) ?_
        have lp := up_loop 9 (fun k => v_X8_part g κ (Qm g κ (fun v M' => v = some (.int ((A.2.2.1 o) 1)) ∧ Rm (A.1, va_up A.2.1 r (mono 0 (nI 1)), va_up A.2.2.1 r (A.2.2.1 o), A.2.2.2) M' ∧ keep mP M M')) (aset (aset (aset M 165 0 9 (sl (M 143) (9 * o))) 166 0 9 (sl (M 144) (9 * o))) 165 0 k (mono 0 (nI 1))) 37 [some (.ref (g.2.2.2.1 142)), some (.int (nI r)), some (.int (nI o)), some (.int (nI 0)), some (.int (nI k))] []) (fun k hk ih => ?_) 0 (by omega)
        · rw [aset_nil (Nat.le_refl 0)] at lp
          exact lp
        · refine V.iload dX8_part_37 rfl ?_
          refine V.bipush (v := nI 9) dX8_part_39 (by decide) ?_
          refine V.geN (tgt := 92) dX8_part_41 (by decide) (by omega) (by omega) (fun h2 => ?_) (fun h2 => ?_)
          · have e : k = 9 := by omega
            subst e
            refine V.aload_n dX8_part_92 rfl ?_
            refine V.iload_n dX8_part_93 rfl ?_
            refine V.aload_n dX8_part_94 rfl ?_
            refine V.getf (ci := 7) (k := 28) (C := RX8) (T := TX8) (N := 37) dX8_part_95 lfX8_77 inX8 rfl (by first | assumption | exact hI _ (by omega)) rfl (by decide) rfl ?_
            refine V.aload_n dX8_part_98 rfl ?_
            refine V.getf (ci := 7) (k := 29) (C := RX8) (T := TX8) (N := 37) dX8_part_99 lfX8_80 inX8 rfl (by first | assumption | exact hI _ (by omega)) rfl (by decide) rfl ?_
            generalize hM1 : aset (aset (aset M 165 0 9 (sl (M 143) (9 * o))) 166 0 9 (sl (M 144) (9 * o))) 165 0 9 (mono 0 (nI 1)) = M1
            refine V.callV (ci := 7) (T := TX8) (N := 37) dX8_part_102 (c_X8_becomes (a := 165) (b := 166) hI hr (hI _ (by decide)) rfl (hI _ (by decide)) rfl (by decide) (by decide)) lkX8_237 im_X8_becomes se_X8_becomes cd_X8_becomes ini_X8 rfl (by first | assumption | exact hI _ (by omega)) rfl hd_X8_becomes ⟨Nat.le_of_ble_eq_true rfl, Nat.le_of_ble_eq_true rfl⟩ rfl (Nat.le_of_ble_eq_true rfl) (V.kkF ?_)
            refine V.iret dX8_part_105 ?_
            have kk : keep msr M M1 := by
              rw [← hM1]; exact (((keep.rf (P := msr)).as (by unfold msr; omega)).as (by unfold msr; omega)).as (by unfold msr; omega)
            have e1 : eq9 (M1 165) (mono 0 (nI 1)) := by rw [← hM1]; exact aset_9
            have e2 : eq9 (M1 166) (A.2.2.1 o) := by rw [← hM1, aset_ne (by decide)]; exact aset_9.tr (h.f ho)
            exact ⟨congrArg (fun q => some (Value.int q)) (e2 1 (by decide)), (h.ks kk).row hr (by decide) e1 e2, (kk.wk (fun j hj => by unfold mP; unfold msr at hj; omega)).tr (rowM_keep.wk (fun j hj => by unfold mP; omega))⟩
          · refine V.iload_n dX8_part_44 rfl ?_
            refine V.if_neN (tgt := 68) dX8_part_45 (by decide) (by omega) (fun h3 => ?_) (fun h3 => ?_)
            · omega
            · refine V.aload_n dX8_part_48 rfl ?_
              refine V.getf (ci := 7) (k := 28) (C := RX8) (T := TX8) (N := 37) dX8_part_49 lfX8_77 inX8 rfl (by first | assumption | exact hI _ (by omega)) rfl (by decide) rfl ?_
              refine V.iload dX8_part_52 rfl ?_
              refine V.iload dX8_part_54 rfl ?_
              refine V.if_neN (tgt := 63) dX8_part_56 (by decide) (by omega) (fun h4 => ?_) (fun h4 => ?_)
              · refine V.iconst (v := nI 0) dX8_part_63 rfl ?_
                refine V.iast (n := 9) dX8_part_64 (by first | assumption | exact hI _ (by omega)) (by first | assumption | decide) (by omega) ?_
                refine V.goto (tgt := 86) dX8_part_65 (by decide) ?_
                refine V.iincN dX8_part_86 (by decide) rfl ?_
                refine V.goto (tgt := 37) dX8_part_89 (by decide) ?_
                rw [aset_up (f := mono 0 (nI 1)) (hi := k) (Nat.zero_le _) (by simp [mono, h4])]
                exact ih h2
              · refine V.iconst (v := nI 1) dX8_part_59 rfl ?_
                refine V.goto (tgt := 64) dX8_part_60 (by decide) ?_
                refine V.iast (n := 9) dX8_part_64 (by first | assumption | exact hI _ (by omega)) (by first | assumption | decide) (by omega) ?_
                refine V.goto (tgt := 86) dX8_part_65 (by decide) ?_
                refine V.iincN dX8_part_86 (by decide) rfl ?_
                refine V.goto (tgt := 37) dX8_part_89 (by decide) ?_
                rw [aset_up (f := mono 0 (nI 1)) (hi := k) (Nat.zero_le _) (by simp [mono, h4])]
                exact ih h2
      · cases h1
    · cases qo
theorem m_part1 {g : Gl} {M : Mem} {A : Ab} {r o : Nat} (hI : ∀ i, 142 ≤ i ∧ i < 174 → i ∈ g.2.2.2.2) (h : Rm A M) (hr : r < 4) (ho : o < 4) : Ct g yX8_part cX8_part 5 (some .int) 2 [.ref (g.2.2.2.1 142), .int (nI r), .int (nI o), .int (nI 1)] M (fun v M' => v = some (.int ((mono 1 (nI 1)) 1)) ∧ Rm (A.1, va_up A.2.1 r (A.2.1 o), va_up A.2.2.1 r (mono 1 (nI 1)), A.2.2.2) M' ∧ keep mP M M') := by
  refine Ct.ofV (by decide) (Nat.le_of_ble_eq_true rfl) (by simp [Value.category]) (fun κ => ?_)
  refine V.iload_n dX8_part_0 rfl ?_
  refine V.callS dX8_part_1 (c_X8_isRow) lkX8_234 st_X8_isRow cd_X8_isRow ini_X8 hd_X8_isRow ⟨Nat.le_of_ble_eq_true rfl, Nat.le_of_ble_eq_true rfl⟩ rfl (Nat.le_of_ble_eq_true rfl) (V.kkF ?_)
  rw [isN_nI (by decide) hr]
  refine V.if_eqB (tgt := 14) dX8_part_4 (by decide) (fun qr => ?_) (fun qr => ?_)
  · cases qr
  · skip
    refine V.iload_n dX8_part_7 rfl ?_
    refine V.callS dX8_part_8 (c_X8_isRow) lkX8_234 st_X8_isRow cd_X8_isRow ini_X8 hd_X8_isRow ⟨Nat.le_of_ble_eq_true rfl, Nat.le_of_ble_eq_true rfl⟩ rfl (Nat.le_of_ble_eq_true rfl) (V.kkF ?_)
    rw [isN_nI (by decide) ho]
    refine V.if_neB (tgt := 17) dX8_part_11 (by decide) (fun qo => ?_) (fun qo => ?_)
    · skip
      refine V.iload_n dX8_part_17 rfl ?_
      refine V.iconst (v := nI 0) dX8_part_18 rfl ?_
      refine V.iconst (v := nI 1) dX8_part_19 rfl ?_
      refine V.callS dX8_part_20 (c_X8_in) lkX8_104 st_X8_in cd_X8_in ini_X8 hd_X8_in ⟨Nat.le_of_ble_eq_true rfl, Nat.le_of_ble_eq_true rfl⟩ rfl (Nat.le_of_ble_eq_true rfl) (V.kkF ?_)
      rw [in_isN (by decide), isN_nI (by decide) (show 1 < 1 + 1 by decide)]
      refine V.if_neB (tgt := 29) dX8_part_23 (by decide) (fun h1 => ?_) (fun h1 => ?_)
      · refine V.aload_n dX8_part_29 rfl ?_
        refine V.iload_n dX8_part_30 rfl ?_
        refine V.callV (ci := 7) (T := TX8) (N := 37) dX8_part_31 (c_X8_copiesRow hI ho) lkX8_244 im_X8_copiesRow se_X8_copiesRow cd_X8_copiesRow ini_X8 rfl (by first | assumption | exact hI _ (by omega)) rfl hd_X8_copiesRow ⟨Nat.le_of_ble_eq_true rfl, Nat.le_of_ble_eq_true rfl⟩ rfl (Nat.le_of_ble_eq_true rfl) (V.kkN ?_)
        refine V.iconst (v := nI 0) dX8_part_34 rfl ?_
        refine V.istore dX8_part_35 (by decide) ?_
        have lp := up_loop 9 (fun k => v_X8_part g κ (Qm g κ (fun v M' => v = some (.int ((mono 1 (nI 1)) 1)) ∧ Rm (A.1, va_up A.2.1 r (A.2.1 o), va_up A.2.2.1 r (mono 1 (nI 1)), A.2.2.2) M' ∧ keep mP M M')) (aset (aset (aset M 165 0 9 (sl (M 143) (9 * o))) 166 0 9 (sl (M 144) (9 * o))) 166 0 k (mono 1 (nI 1))) 37 [some (.ref (g.2.2.2.1 142)), some (.int (nI r)), some (.int (nI o)), some (.int (nI 1)), some (.int (nI k))] []) (fun k hk ih => ?_) 0 (by omega)
        · rw [aset_nil (Nat.le_refl 0)] at lp
          exact lp
        · refine V.iload dX8_part_37 rfl ?_
          refine V.bipush (v := nI 9) dX8_part_39 (by decide) ?_
          refine V.geN (tgt := 92) dX8_part_41 (by decide) (by omega) (by omega) (fun h2 => ?_) (fun h2 => ?_)
          · have e : k = 9 := by omega
            subst e
            refine V.aload_n dX8_part_92 rfl ?_
            refine V.iload_n dX8_part_93 rfl ?_
            refine V.aload_n dX8_part_94 rfl ?_
            refine V.getf (ci := 7) (k := 28) (C := RX8) (T := TX8) (N := 37) dX8_part_95 lfX8_77 inX8 rfl (by first | assumption | exact hI _ (by omega)) rfl (by decide) rfl ?_
            refine V.aload_n dX8_part_98 rfl ?_
            refine V.getf (ci := 7) (k := 29) (C := RX8) (T := TX8) (N := 37) dX8_part_99 lfX8_80 inX8 rfl (by first | assumption | exact hI _ (by omega)) rfl (by decide) rfl ?_
            generalize hM1 : aset (aset (aset M 165 0 9 (sl (M 143) (9 * o))) 166 0 9 (sl (M 144) (9 * o))) 166 0 9 (mono 1 (nI 1)) = M1
            refine V.callV (ci := 7) (T := TX8) (N := 37) dX8_part_102 (c_X8_becomes (a := 165) (b := 166) hI hr (hI _ (by decide)) rfl (hI _ (by decide)) rfl (by decide) (by decide)) lkX8_237 im_X8_becomes se_X8_becomes cd_X8_becomes ini_X8 rfl (by first | assumption | exact hI _ (by omega)) rfl hd_X8_becomes ⟨Nat.le_of_ble_eq_true rfl, Nat.le_of_ble_eq_true rfl⟩ rfl (Nat.le_of_ble_eq_true rfl) (V.kkF ?_)
            refine V.iret dX8_part_105 ?_
            have kk : keep msr M M1 := by
              rw [← hM1]; exact (((keep.rf (P := msr)).as (by unfold msr; omega)).as (by unfold msr; omega)).as (by unfold msr; omega)
            have e1 : eq9 (M1 165) (A.2.1 o) := by rw [← hM1, aset_ne (by decide), aset_ne (by decide)]; exact aset_9.tr (h.g ho)
            have e2 : eq9 (M1 166) (mono 1 (nI 1)) := by rw [← hM1]; exact aset_9
            exact ⟨congrArg (fun q => some (Value.int q)) (e2 1 (by decide)), (h.ks kk).row hr (by decide) e1 e2, (kk.wk (fun j hj => by unfold mP; unfold msr at hj; omega)).tr (rowM_keep.wk (fun j hj => by unfold mP; omega))⟩
          · refine V.iload_n dX8_part_44 rfl ?_
            refine V.if_neN (tgt := 68) dX8_part_45 (by decide) (by omega) (fun h3 => ?_) (fun h3 => ?_)
            · refine V.aload_n dX8_part_68 rfl ?_
              refine V.getf (ci := 7) (k := 29) (C := RX8) (T := TX8) (N := 37) dX8_part_69 lfX8_80 inX8 rfl (by first | assumption | exact hI _ (by omega)) rfl (by decide) rfl ?_
              refine V.iload dX8_part_72 rfl ?_
              refine V.iload dX8_part_74 rfl ?_
              refine V.iconst (v := nI 1) dX8_part_76 rfl ?_
              refine V.neN (tgt := 84) dX8_part_77 (by decide) (by omega) (by omega) (fun h4 => ?_) (fun h4 => ?_)
              · refine V.iconst (v := nI 0) dX8_part_84 rfl ?_
                refine V.iast (n := 9) dX8_part_85 (by first | assumption | exact hI _ (by omega)) (by first | assumption | decide) (by omega) ?_
                refine V.iincN dX8_part_86 (by decide) rfl ?_
                refine V.goto (tgt := 37) dX8_part_89 (by decide) ?_
                rw [aset_up (f := mono 1 (nI 1)) (hi := k) (Nat.zero_le _) (by simp [mono, h4])]
                exact ih h2
              · refine V.iconst (v := nI 1) dX8_part_80 rfl ?_
                refine V.goto (tgt := 85) dX8_part_81 (by decide) ?_
                refine V.iast (n := 9) dX8_part_85 (by first | assumption | exact hI _ (by omega)) (by first | assumption | decide) (by omega) ?_
                refine V.iincN dX8_part_86 (by decide) rfl ?_
                refine V.goto (tgt := 37) dX8_part_89 (by decide) ?_
                rw [aset_up (f := mono 1 (nI 1)) (hi := k) (Nat.zero_le _) (by simp [mono, h4])]
                exact ih h2
            · omega
      · cases h1
    · cases qo
theorem m_move_2 {g : Gl} {M : Mem} {x y z : Int32} (h : isN x 4 = false ∨ isN y 4 = false) : Ct g yX8_move cX8_move 4 (some .int) 4 [.ref (g.2.2.2.1 142), .int x, .int y, .int z] M (fun v M' => v = some (.int (-2)) ∧ M' = M) := by
  refine Ct.ofV (by decide) (Nat.le_of_ble_eq_true rfl) (by simp [Value.category]) (fun κ => ?_)
  refine V.iload_n dX8_move_0 rfl ?_
  refine V.callS dX8_move_1 (c_X8_isRow) lkX8_234 st_X8_isRow cd_X8_isRow ini_X8 hd_X8_isRow ⟨Nat.le_of_ble_eq_true rfl, Nat.le_of_ble_eq_true rfl⟩ rfl (Nat.le_of_ble_eq_true rfl) (V.kkF ?_)
  refine V.if_eqB (tgt := 14) dX8_move_4 (by decide) (fun h1 => ?_) (fun h1 => ?_)
  · refine V.bipush (v := -2) dX8_move_14 (by decide) ?_
    refine V.iret dX8_move_16 ?_
    exact ⟨rfl, rfl⟩
  · skip
    refine V.iload_n dX8_move_7 rfl ?_
    refine V.callS dX8_move_8 (c_X8_isRow) lkX8_234 st_X8_isRow cd_X8_isRow ini_X8 hd_X8_isRow ⟨Nat.le_of_ble_eq_true rfl, Nat.le_of_ble_eq_true rfl⟩ rfl (Nat.le_of_ble_eq_true rfl) (V.kkF ?_)
    refine V.if_neB (tgt := 17) dX8_move_11 (by decide) (fun h2 => ?_) (fun h2 => ?_)
    · rcases h with h | h
      · rw [h1] at h; cases h
      · rw [h2] at h; cases h
    · refine V.bipush (v := -2) dX8_move_14 (by decide) ?_
      refine V.iret dX8_move_16 ?_
      exact ⟨rfl, rfl⟩
theorem m_move_3 {g : Gl} {M : Mem} {r o : Nat} {z : Int32} (hr : r < 4) (ho : o < 4) (hz : isN z 9973 = false) : Ct g yX8_move cX8_move 4 (some .int) 4 [.ref (g.2.2.2.1 142), .int (nI r), .int (nI o), .int z] M (fun v M' => v = some (.int (-3)) ∧ M' = M) := by
  refine Ct.ofV (by decide) (Nat.le_of_ble_eq_true rfl) (by simp [Value.category]) (fun κ => ?_)
  refine V.iload_n dX8_move_0 rfl ?_
  refine V.callS dX8_move_1 (c_X8_isRow) lkX8_234 st_X8_isRow cd_X8_isRow ini_X8 hd_X8_isRow ⟨Nat.le_of_ble_eq_true rfl, Nat.le_of_ble_eq_true rfl⟩ rfl (Nat.le_of_ble_eq_true rfl) (V.kkF ?_)
  rw [isN_nI (by decide) hr]
  refine V.if_eqB (tgt := 14) dX8_move_4 (by decide) (fun qr => ?_) (fun qr => ?_)
  · cases qr
  · skip
    refine V.iload_n dX8_move_7 rfl ?_
    refine V.callS dX8_move_8 (c_X8_isRow) lkX8_234 st_X8_isRow cd_X8_isRow ini_X8 hd_X8_isRow ⟨Nat.le_of_ble_eq_true rfl, Nat.le_of_ble_eq_true rfl⟩ rfl (Nat.le_of_ble_eq_true rfl) (V.kkF ?_)
    rw [isN_nI (by decide) ho]
    refine V.if_neB (tgt := 17) dX8_move_11 (by decide) (fun qo => ?_) (fun qo => ?_)
    · skip
      refine V.iload_n dX8_move_17 rfl ?_
      refine V.callS dX8_move_18 (c_X8_isNumber) lkX8_247 st_X8_isNumber cd_X8_isNumber ini_X8 hd_X8_isNumber ⟨Nat.le_of_ble_eq_true rfl, Nat.le_of_ble_eq_true rfl⟩ rfl (Nat.le_of_ble_eq_true rfl) (V.kkF ?_)
      rw [hz]
      refine V.if_neB (tgt := 27) dX8_move_21 (by decide) (fun h1 => ?_) (fun h1 => ?_)
      · cases h1
      · refine V.bipush (v := -3) dX8_move_24 (by decide) ?_
        refine V.iret dX8_move_26 ?_
        exact ⟨rfl, rfl⟩
    · cases qo
theorem m_move {g : Gl} {M : Mem} {A : Ab} {r o a : Nat} (hI : ∀ i, 142 ≤ i ∧ i < 174 → i ∈ g.2.2.2.2) (h : Rm A M) (hr : r < 4) (ho : o < 4) (ha : a < 9973) : Ct g yX8_move cX8_move 4 (some .int) 4 [.ref (g.2.2.2.1 142), .int (nI r), .int (nI o), .int (nI a)] M (fun v M' => v = some (.int ((A.2.2.1 o) 1)) ∧ Rm (A.1, va_up A.2.1 r (fprod (A.2.1 o) (mmake (nI 101) (mono 1 (fsub (nI 0) (nI a))))), va_up A.2.2.1 r (A.2.2.1 o), A.2.2.2) M' ∧ keep mP M M') := by
  refine Ct.ofV (by decide) (Nat.le_of_ble_eq_true rfl) (by simp [Value.category]) (fun κ => ?_)
  refine V.iload_n dX8_move_0 rfl ?_
  refine V.callS dX8_move_1 (c_X8_isRow) lkX8_234 st_X8_isRow cd_X8_isRow ini_X8 hd_X8_isRow ⟨Nat.le_of_ble_eq_true rfl, Nat.le_of_ble_eq_true rfl⟩ rfl (Nat.le_of_ble_eq_true rfl) (V.kkF ?_)
  rw [isN_nI (by decide) hr]
  refine V.if_eqB (tgt := 14) dX8_move_4 (by decide) (fun qr => ?_) (fun qr => ?_)
  · cases qr
  · skip
    refine V.iload_n dX8_move_7 rfl ?_
    refine V.callS dX8_move_8 (c_X8_isRow) lkX8_234 st_X8_isRow cd_X8_isRow ini_X8 hd_X8_isRow ⟨Nat.le_of_ble_eq_true rfl, Nat.le_of_ble_eq_true rfl⟩ rfl (Nat.le_of_ble_eq_true rfl) (V.kkF ?_)
    rw [isN_nI (by decide) ho]
    refine V.if_neB (tgt := 17) dX8_move_11 (by decide) (fun qo => ?_) (fun qo => ?_)
    · skip
      refine V.iload_n dX8_move_17 rfl ?_
      refine V.callS dX8_move_18 (c_X8_isNumber) lkX8_247 st_X8_isNumber cd_X8_isNumber ini_X8 hd_X8_isNumber ⟨Nat.le_of_ble_eq_true rfl, Nat.le_of_ble_eq_true rfl⟩ rfl (Nat.le_of_ble_eq_true rfl) (V.kkF ?_)
      rw [isN_nI (by decide) ha]
      refine V.if_neB (tgt := 27) dX8_move_21 (by decide) (fun h1 => ?_) (fun h1 => ?_)
      · refine V.aload_n dX8_move_27 rfl ?_
        refine V.iload_n dX8_move_28 rfl ?_
        refine V.callV (ci := 7) (T := TX8) (N := 37) dX8_move_29 (c_X8_copiesRow hI ho) lkX8_244 im_X8_copiesRow se_X8_copiesRow cd_X8_copiesRow ini_X8 rfl (by first | assumption | exact hI _ (by omega)) rfl hd_X8_copiesRow ⟨Nat.le_of_ble_eq_true rfl, Nat.le_of_ble_eq_true rfl⟩ rfl (Nat.le_of_ble_eq_true rfl) (V.kkN ?_)
        refine V.aload_n dX8_move_32 rfl ?_
        refine V.iconst (v := nI 0) dX8_move_33 rfl ?_
        refine V.iconst (v := nI 0) dX8_move_34 rfl ?_
        refine V.iload_n dX8_move_35 rfl ?_
        refine V.callS dX8_move_36 (c_X8_less) lkX8_130 st_X8_less cd_X8_less ini_X8 hd_X8_less ⟨Nat.le_of_ble_eq_true rfl, Nat.le_of_ble_eq_true rfl⟩ rfl (Nat.le_of_ble_eq_true rfl) (V.kkF ?_)
        refine V.callV (ci := 7) (T := TX8) (N := 37) dX8_move_39 (c_X8_sets hI) lkX8_192 im_X8_sets se_X8_sets cd_X8_sets ini_X8 rfl (by first | assumption | exact hI _ (by omega)) rfl hd_X8_sets ⟨Nat.le_of_ble_eq_true rfl, Nat.le_of_ble_eq_true rfl⟩ rfl (Nat.le_of_ble_eq_true rfl) (V.kkN ?_)
        refine V.aload_n dX8_move_42 rfl ?_
        refine V.bipush (v := nI 101) dX8_move_43 (by decide) ?_
        refine V.aload_n dX8_move_45 rfl ?_
        refine V.getf (ci := 7) (k := 18) (C := RX8) (T := TX8) (N := 37) dX8_move_46 lfX8_50 inX8 rfl (by first | assumption | exact hI _ (by omega)) rfl (by decide) rfl ?_
        generalize hM1 : mset (mset (aset (aset (aset M 165 0 9 _) 166 0 9 _) 156 0 9 _) 156 0 _) 156 1 _ = M1
        have k1 : keep msr M M1 := by
          rw [← hM1]; exact (((((keep.rf (P := msr)).as (by unfold msr; omega)).as (by unfold msr; omega)).as (by unfold msr; omega)).ms (by unfold msr; omega)).ms (by unfold msr; omega)
        have t1 : eq9 (M1 156) (mono 1 (fsub (nI 0) (nI a))) := fun z hz => by
          rw [← hM1]; unfold mono
          by_cases e : z = 1
          · subst e; rw [mset_at, if_pos rfl]
          · rw [mset_nat e, if_neg e]
            by_cases e0 : z = 0
            · subst e0; rw [mset_at]
            · rw [mset_nat e0, aset_in (Nat.zero_le _) hz]
        have g1 : eq9 (M1 165) (A.2.1 o) := by
          rw [← hM1, mset_ne (by decide), mset_ne (by decide), aset_ne (by decide), aset_ne (by decide)]; exact aset_9.tr (h.g ho)
        have f1 : eq9 (M1 166) (A.2.2.1 o) := by
          rw [← hM1, mset_ne (by decide), mset_ne (by decide), aset_ne (by decide)]; exact aset_9.tr (h.f ho)
        refine V.callV (ci := 7) (T := TX8) (N := 37) dX8_move_49 (c_X8_makes hI) lkX8_178 im_X8_makes se_X8_makes cd_X8_makes ini_X8 rfl (by first | assumption | exact hI _ (by omega)) rfl hd_X8_makes ⟨Nat.le_of_ble_eq_true rfl, Nat.le_of_ble_eq_true rfl⟩ rfl (Nat.le_of_ble_eq_true rfl) (V.kkP (fun M2 q2 => ?_))
        obtain ⟨k2, t2⟩ := q2
        refine V.aload_n dX8_move_52 rfl ?_
        refine V.aload_n dX8_move_53 rfl ?_
        refine V.getf (ci := 7) (k := 28) (C := RX8) (T := TX8) (N := 37) dX8_move_54 lfX8_77 inX8 rfl (by first | assumption | exact hI _ (by omega)) rfl (by decide) rfl ?_
        refine V.iconst (v := nI 0) dX8_move_57 rfl ?_
        refine V.aload_n dX8_move_58 rfl ?_
        refine V.getf (ci := 7) (k := 18) (C := RX8) (T := TX8) (N := 37) dX8_move_59 lfX8_50 inX8 rfl (by first | assumption | exact hI _ (by omega)) rfl (by decide) rfl ?_
        refine V.iconst (v := nI 0) dX8_move_62 rfl ?_
        refine V.aload_n dX8_move_63 rfl ?_
        refine V.getf (ci := 7) (k := 28) (C := RX8) (T := TX8) (N := 37) dX8_move_64 lfX8_77 inX8 rfl (by first | assumption | exact hI _ (by omega)) rfl (by decide) rfl ?_
        refine V.callV (ci := 7) (T := TX8) (N := 37) dX8_move_67 (c_X8_multiplies (a := 165) (i := 0) (b := 156) (j := 0) (c := 165) (na := 9) (nb := 9) hI (hI _ (by decide)) rfl (by decide) (hI _ (by decide)) rfl (by decide) (hI _ (by decide)) rfl (by decide) (by decide)) lkX8_133 im_X8_multiplies se_X8_multiplies cd_X8_multiplies ini_X8 rfl (by first | assumption | exact hI _ (by omega)) rfl hd_X8_multiplies ⟨Nat.le_of_ble_eq_true rfl, Nat.le_of_ble_eq_true rfl⟩ rfl (Nat.le_of_ble_eq_true rfl) (V.kkN ?_)
        refine V.aload_n dX8_move_70 rfl ?_
        refine V.iload_n dX8_move_71 rfl ?_
        refine V.aload_n dX8_move_72 rfl ?_
        refine V.getf (ci := 7) (k := 28) (C := RX8) (T := TX8) (N := 37) dX8_move_73 lfX8_77 inX8 rfl (by first | assumption | exact hI _ (by omega)) rfl (by decide) rfl ?_
        refine V.aload_n dX8_move_76 rfl ?_
        refine V.getf (ci := 7) (k := 29) (C := RX8) (T := TX8) (N := 37) dX8_move_77 lfX8_80 inX8 rfl (by first | assumption | exact hI _ (by omega)) rfl (by decide) rfl ?_
        generalize hM3 : aset (aset M2 150 0 9 _) 165 0 9 _ = M3
        refine V.callV (ci := 7) (T := TX8) (N := 37) dX8_move_80 (c_X8_becomes (a := 165) (b := 166) hI hr (hI _ (by decide)) rfl (hI _ (by decide)) rfl (by decide) (by decide)) lkX8_237 im_X8_becomes se_X8_becomes cd_X8_becomes ini_X8 rfl (by first | assumption | exact hI _ (by omega)) rfl hd_X8_becomes ⟨Nat.le_of_ble_eq_true rfl, Nat.le_of_ble_eq_true rfl⟩ rfl (Nat.le_of_ble_eq_true rfl) (V.kkF ?_)
        refine V.iret dX8_move_83 ?_
        have kk : keep msr M M3 := by
          rw [← hM3]; exact ((k1.tr (k2.wk (fun j hj => by unfold msr; omega))).as (by unfold msr; omega)).as (by unfold msr; omega)
        have e1 : eq9 (M3 165) (fprod (A.2.1 o) (mmake (nI 101) (mono 1 (fsub (nI 0) (nI a))))) := by
          rw [← hM3]
          refine aset_9.tr (fprod_cg ?_ ?_)
          · rw [sl_0, k2 165 (by omega)]; exact g1
          · rw [sl_0]; exact t2.tr (mmake_cg t1)
        have e2 : eq9 (M3 166) (A.2.2.1 o) := by
          rw [← hM3, aset_ne (by decide), aset_ne (by decide), k2 166 (by omega)]; exact f1
        exact ⟨congrArg (fun q => some (Value.int q)) (e2 1 (by decide)), (h.ks kk).row hr (by decide) e1 e2, (kk.wk (fun j hj => by unfold mP; unfold msr at hj; omega)).tr (rowM_keep.wk (fun j hj => by unfold mP; omega))⟩
      · cases h1
    · cases qo
theorem in_isN1 {x : Int32} {n : Nat} (hn : n + 1 < 2 ^ 31) : (decide (¬ x < nI 1) && decide (¬ nI n < x)) = (isN x (n + 1) && decide (¬ x = nI 0)) := by
  rw [← in_isN hn]
  by_cases h0 : x < nI 0
  · have : x < nI 1 := Int32.lt_trans h0 (by decide)
    simp [h0, this]
  · by_cases h1 : x < nI 1
    · have e : x = nI 0 := by
        rcases pk_ix x (n := 1) (by decide) with h | h | ⟨j, hj, rfl⟩
        · exact absurd h h0
        · exact absurd h1 (by rw [Int32.not_lt]; exact h)
        · rw [show j = 0 by omega]
      rw [e]
      have a1 : decide (¬ nI 0 < nI 1) = false := by decide
      have a2 : decide (¬ (nI 0 : Int32) = nI 0) = false := by decide
      rw [a1, a2, Bool.false_and, Bool.and_false]
    · have e : ¬ x = nI 0 := fun e => h1 (by rw [e]; decide)
      simp [h0, h1, e]
theorem m_stretch_2 {g : Gl} {M : Mem} {x y z : Int32} (h : isN x 4 = false ∨ isN y 4 = false) : Ct g yX8_stretch cX8_stretch 6 (some .int) 2 [.ref (g.2.2.2.1 142), .int x, .int y, .int z] M (fun v M' => v = some (.int (-2)) ∧ M' = M) := by
  refine Ct.ofV (by decide) (Nat.le_of_ble_eq_true rfl) (by simp [Value.category]) (fun κ => ?_)
  refine V.iload_n dX8_stretch_0 rfl ?_
  refine V.callS dX8_stretch_1 (c_X8_isRow) lkX8_234 st_X8_isRow cd_X8_isRow ini_X8 hd_X8_isRow ⟨Nat.le_of_ble_eq_true rfl, Nat.le_of_ble_eq_true rfl⟩ rfl (Nat.le_of_ble_eq_true rfl) (V.kkF ?_)
  refine V.if_eqB (tgt := 14) dX8_stretch_4 (by decide) (fun h1 => ?_) (fun h1 => ?_)
  · refine V.bipush (v := -2) dX8_stretch_14 (by decide) ?_
    refine V.iret dX8_stretch_16 ?_
    exact ⟨rfl, rfl⟩
  · skip
    refine V.iload_n dX8_stretch_7 rfl ?_
    refine V.callS dX8_stretch_8 (c_X8_isRow) lkX8_234 st_X8_isRow cd_X8_isRow ini_X8 hd_X8_isRow ⟨Nat.le_of_ble_eq_true rfl, Nat.le_of_ble_eq_true rfl⟩ rfl (Nat.le_of_ble_eq_true rfl) (V.kkF ?_)
    refine V.if_neB (tgt := 17) dX8_stretch_11 (by decide) (fun h2 => ?_) (fun h2 => ?_)
    · rcases h with h | h
      · rw [h1] at h; cases h
      · rw [h2] at h; cases h
    · refine V.bipush (v := -2) dX8_stretch_14 (by decide) ?_
      refine V.iret dX8_stretch_16 ?_
      exact ⟨rfl, rfl⟩
theorem m_stretch_3 {g : Gl} {M : Mem} {r o : Nat} {z : Int32} (hr : r < 4) (ho : o < 4) (hz : z = nI 0 ∨ isN z 9973 = false) : Ct g yX8_stretch cX8_stretch 6 (some .int) 2 [.ref (g.2.2.2.1 142), .int (nI r), .int (nI o), .int z] M (fun v M' => v = some (.int (-3)) ∧ M' = M) := by
  refine Ct.ofV (by decide) (Nat.le_of_ble_eq_true rfl) (by simp [Value.category]) (fun κ => ?_)
  refine V.iload_n dX8_stretch_0 rfl ?_
  refine V.callS dX8_stretch_1 (c_X8_isRow) lkX8_234 st_X8_isRow cd_X8_isRow ini_X8 hd_X8_isRow ⟨Nat.le_of_ble_eq_true rfl, Nat.le_of_ble_eq_true rfl⟩ rfl (Nat.le_of_ble_eq_true rfl) (V.kkF ?_)
  rw [isN_nI (by decide) hr]
  refine V.if_eqB (tgt := 14) dX8_stretch_4 (by decide) (fun qr => ?_) (fun qr => ?_)
  · cases qr
  · skip
    refine V.iload_n dX8_stretch_7 rfl ?_
    refine V.callS dX8_stretch_8 (c_X8_isRow) lkX8_234 st_X8_isRow cd_X8_isRow ini_X8 hd_X8_isRow ⟨Nat.le_of_ble_eq_true rfl, Nat.le_of_ble_eq_true rfl⟩ rfl (Nat.le_of_ble_eq_true rfl) (V.kkF ?_)
    rw [isN_nI (by decide) ho]
    refine V.if_neB (tgt := 17) dX8_stretch_11 (by decide) (fun qo => ?_) (fun qo => ?_)
    · skip
      refine V.iload_n dX8_stretch_17 rfl ?_
      refine V.iconst (v := nI 1) dX8_stretch_18 rfl ?_
      refine V.sipush (v := nI 9972) dX8_stretch_19 (by decide) ?_
      refine V.callS dX8_stretch_22 (c_X8_in) lkX8_104 st_X8_in cd_X8_in ini_X8 hd_X8_in ⟨Nat.le_of_ble_eq_true rfl, Nat.le_of_ble_eq_true rfl⟩ rfl (Nat.le_of_ble_eq_true rfl) (V.kkF ?_)
      rw [in_isN1 (by decide)]
      have hz2 : (isN z (9972 + 1) && decide (¬ z = nI 0)) = false := by
        rcases hz with hz | hz
        · simp [hz]
        · rw [hz]; rfl
      rw [hz2]
      refine V.if_neB (tgt := 31) dX8_stretch_25 (by decide) (fun h1 => ?_) (fun h1 => ?_)
      · cases h1
      · refine V.bipush (v := -3) dX8_stretch_28 (by decide) ?_
        refine V.iret dX8_stretch_30 ?_
        exact ⟨rfl, rfl⟩
    · cases qo
abbrev v_X8_stretch (g : Gl) (κ : Ka) (Q : State → Prop) (M : Mem) (pc : Nat) (L : List (Option Value)) (st : List Value) : Prop := V g cX8_stretch 6 yX8_stretch.cls (some .int) (rmd 2) Q κ M pc L st
theorem m_stretch {g : Gl} {M : Mem} {A : Ab} {r o a : Nat} (hI : ∀ i, 142 ≤ i ∧ i < 174 → i ∈ g.2.2.2.2) (h : Rm A M) (hr : r < 4) (ho : o < 4) (ha : a < 9973) (ha0 : a ≠ 0) : Ct g yX8_stretch cX8_stretch 6 (some .int) 2 [.ref (g.2.2.2.1 142), .int (nI r), .int (nI o), .int (nI a)] M (fun v M' => v = some (.int ((fstr (A.2.2.1 o) (nI a)) 1)) ∧ Rm (A.1, va_up A.2.1 r (fstr (A.2.1 o) (nI a)), va_up A.2.2.1 r (fstr (A.2.2.1 o) (nI a)), A.2.2.2) M' ∧ keep mP M M') := by
  refine Ct.ofV (by decide) (Nat.le_of_ble_eq_true rfl) (by simp [Value.category]) (fun κ => ?_)
  refine V.iload_n dX8_stretch_0 rfl ?_
  refine V.callS dX8_stretch_1 (c_X8_isRow) lkX8_234 st_X8_isRow cd_X8_isRow ini_X8 hd_X8_isRow ⟨Nat.le_of_ble_eq_true rfl, Nat.le_of_ble_eq_true rfl⟩ rfl (Nat.le_of_ble_eq_true rfl) (V.kkF ?_)
  rw [isN_nI (by decide) hr]
  refine V.if_eqB (tgt := 14) dX8_stretch_4 (by decide) (fun qr => ?_) (fun qr => ?_)
  · cases qr
  · skip
    refine V.iload_n dX8_stretch_7 rfl ?_
    refine V.callS dX8_stretch_8 (c_X8_isRow) lkX8_234 st_X8_isRow cd_X8_isRow ini_X8 hd_X8_isRow ⟨Nat.le_of_ble_eq_true rfl, Nat.le_of_ble_eq_true rfl⟩ rfl (Nat.le_of_ble_eq_true rfl) (V.kkF ?_)
    rw [isN_nI (by decide) ho]
    refine V.if_neB (tgt := 17) dX8_stretch_11 (by decide) (fun qo => ?_) (fun qo => ?_)
    · skip
      refine V.iload_n dX8_stretch_17 rfl ?_
      refine V.iconst (v := nI 1) dX8_stretch_18 rfl ?_
      refine V.sipush (v := nI 9972) dX8_stretch_19 (by decide) ?_
      refine V.callS dX8_stretch_22 (c_X8_in) lkX8_104 st_X8_in cd_X8_in ini_X8 hd_X8_in ⟨Nat.le_of_ble_eq_true rfl, Nat.le_of_ble_eq_true rfl⟩ rfl (Nat.le_of_ble_eq_true rfl) (V.kkF ?_)
      rw [in_isN1 (by decide), isN_nI (by decide) ha, decide_eq_true (show ¬ nI a = nI 0 from fun e => ha0 ((nI_eq (by omega) (by decide)).mp e))]
      refine V.if_neB (tgt := 31) dX8_stretch_25 (by decide) (fun h1 => ?_) (fun h1 => ?_)
      · refine V.aload_n dX8_stretch_31 rfl ?_
        refine V.iload_n dX8_stretch_32 rfl ?_
        refine V.callV (ci := 7) (T := TX8) (N := 37) dX8_stretch_33 (c_X8_copiesRow hI ho) lkX8_244 im_X8_copiesRow se_X8_copiesRow cd_X8_copiesRow ini_X8 rfl (by first | assumption | exact hI _ (by omega)) rfl hd_X8_copiesRow ⟨Nat.le_of_ble_eq_true rfl, Nat.le_of_ble_eq_true rfl⟩ rfl (Nat.le_of_ble_eq_true rfl) (V.kkN ?_)
        refine V.iconst (v := nI 1) dX8_stretch_36 rfl ?_
        refine V.istore dX8_stretch_37 (by decide) ?_
        refine V.iconst (v := nI 0) dX8_stretch_39 rfl ?_
        refine V.istore dX8_stretch_40 (by decide) ?_
        have lp := up_loop 9 (fun k => ∀ M1, keep msr M M1 → (∀ z, z < k → M1 165 z = fstr (A.2.1 o) (nI a) z ∧ M1 166 z = fstr (A.2.2.1 o) (nI a) z) → (∀ z, k ≤ z → z < 9 → M1 165 z = A.2.1 o z ∧ M1 166 z = A.2.2.1 o z) → v_X8_stretch g κ (Qm g κ (fun v M' => v = some (.int ((fstr (A.2.2.1 o) (nI a)) 1)) ∧ Rm (A.1, va_up A.2.1 r (fstr (A.2.1 o) (nI a)), va_up A.2.2.1 r (fstr (A.2.2.1 o) (nI a)), A.2.2.2) M' ∧ keep mP M M')) M1 42 [some (.ref (g.2.2.2.1 142)), some (.int (nI r)), some (.int (nI o)), some (.int (nI a)), some (.int (fpows (finv (nI a)) k)), some (.int (nI k))] []) (fun k hk ih M1 k1 k2 k3 => ?_) 0 (by omega)
        · refine lp _ (((keep.rf (P := msr)).as (by unfold msr; omega)).as (by unfold msr; omega)) (fun z hz => by omega) (fun z _ hz => ⟨?_, ?_⟩)
          · rw [aset_ne (by decide), aset_in (Nat.zero_le _) hz]; exact h.g ho z hz
          · rw [aset_in (Nat.zero_le _) hz]; exact h.f ho z hz
        · refine V.iload dX8_stretch_42 rfl ?_
          refine V.bipush (v := nI 9) dX8_stretch_44 (by decide) ?_
          refine V.geN (tgt := 104) dX8_stretch_46 (by decide) (by omega) (by omega) (fun h2 => ?_) (fun h2 => ?_)
          · have e : k = 9 := by omega
            subst e
            refine V.aload_n dX8_stretch_104 rfl ?_
            refine V.iload_n dX8_stretch_105 rfl ?_
            refine V.aload_n dX8_stretch_106 rfl ?_
            refine V.getf (ci := 7) (k := 28) (C := RX8) (T := TX8) (N := 37) dX8_stretch_107 lfX8_77 inX8 rfl (by first | assumption | exact hI _ (by omega)) rfl (by decide) rfl ?_
            refine V.aload_n dX8_stretch_110 rfl ?_
            refine V.getf (ci := 7) (k := 29) (C := RX8) (T := TX8) (N := 37) dX8_stretch_111 lfX8_80 inX8 rfl (by first | assumption | exact hI _ (by omega)) rfl (by decide) rfl ?_
            refine V.callV (ci := 7) (T := TX8) (N := 37) dX8_stretch_114 (c_X8_becomes (a := 165) (b := 166) hI hr (hI _ (by decide)) rfl (hI _ (by decide)) rfl (by decide) (by decide)) lkX8_237 im_X8_becomes se_X8_becomes cd_X8_becomes ini_X8 rfl (by first | assumption | exact hI _ (by omega)) rfl hd_X8_becomes ⟨Nat.le_of_ble_eq_true rfl, Nat.le_of_ble_eq_true rfl⟩ rfl (Nat.le_of_ble_eq_true rfl) (V.kkF ?_)
            refine V.iret dX8_stretch_117 ?_
            have kk := k1
            have e1 : eq9 (M1 165) (fstr (A.2.1 o) (nI a)) := fun z hz => (k2 z hz).1
            have e2 : eq9 (M1 166) (fstr (A.2.2.1 o) (nI a)) := fun z hz => (k2 z hz).2
            exact ⟨congrArg (fun q => some (Value.int q)) (e2 1 (by decide)), (h.ks kk).row hr (by decide) e1 e2, (kk.wk (fun j hj => by unfold mP; unfold msr at hj; omega)).tr (rowM_keep.wk (fun j hj => by unfold mP; omega))⟩
          · refine V.aload_n dX8_stretch_49 rfl ?_
            refine V.getf (ci := 7) (k := 28) (C := RX8) (T := TX8) (N := 37) dX8_stretch_50 lfX8_77 inX8 rfl (by first | assumption | exact hI _ (by omega)) rfl (by decide) rfl ?_
            refine V.iload dX8_stretch_53 rfl ?_
            refine V.aload_n dX8_stretch_55 rfl ?_
            refine V.getf (ci := 7) (k := 28) (C := RX8) (T := TX8) (N := 37) dX8_stretch_56 lfX8_77 inX8 rfl (by first | assumption | exact hI _ (by omega)) rfl (by decide) rfl ?_
            refine V.iload dX8_stretch_59 rfl ?_
            refine V.iald (n := 9) dX8_stretch_61 (by first | assumption | exact hI _ (by omega)) (by first | assumption | decide) (by omega) ?_
            refine V.iload dX8_stretch_62 rfl ?_
            refine V.callS dX8_stretch_64 (c_X8_product) lkX8_108 st_X8_product cd_X8_product ini_X8 hd_X8_product ⟨Nat.le_of_ble_eq_true rfl, Nat.le_of_ble_eq_true rfl⟩ rfl (Nat.le_of_ble_eq_true rfl) (V.kkF ?_)
            refine V.iast (n := 9) dX8_stretch_67 (by first | assumption | exact hI _ (by omega)) (by first | assumption | decide) (by omega) ?_
            refine V.aload_n dX8_stretch_68 rfl ?_
            refine V.getf (ci := 7) (k := 29) (C := RX8) (T := TX8) (N := 37) dX8_stretch_69 lfX8_80 inX8 rfl (by first | assumption | exact hI _ (by omega)) rfl (by decide) rfl ?_
            refine V.iload dX8_stretch_72 rfl ?_
            refine V.aload_n dX8_stretch_74 rfl ?_
            refine V.getf (ci := 7) (k := 29) (C := RX8) (T := TX8) (N := 37) dX8_stretch_75 lfX8_80 inX8 rfl (by first | assumption | exact hI _ (by omega)) rfl (by decide) rfl ?_
            refine V.iload dX8_stretch_78 rfl ?_
            refine V.iald (n := 9) dX8_stretch_80 (by first | assumption | exact hI _ (by omega)) (by first | assumption | decide) (by omega) ?_
            refine V.iload dX8_stretch_81 rfl ?_
            refine V.callS dX8_stretch_83 (c_X8_product) lkX8_108 st_X8_product cd_X8_product ini_X8 hd_X8_product ⟨Nat.le_of_ble_eq_true rfl, Nat.le_of_ble_eq_true rfl⟩ rfl (Nat.le_of_ble_eq_true rfl) (V.kkF ?_)
            refine V.iast (n := 9) dX8_stretch_86 (by first | assumption | exact hI _ (by omega)) (by first | assumption | decide) (by omega) ?_
            refine V.iload dX8_stretch_87 rfl ?_
            refine V.iload_n dX8_stretch_89 rfl ?_
            refine V.callS dX8_stretch_90 (c_X8_over) lkX8_126 st_X8_over cd_X8_over ini_X8 hd_X8_over ⟨Nat.le_of_ble_eq_true rfl, Nat.le_of_ble_eq_true rfl⟩ rfl (Nat.le_of_ble_eq_true rfl) (V.kkF ?_)
            refine V.callS dX8_stretch_93 (c_X8_product) lkX8_108 st_X8_product cd_X8_product ini_X8 hd_X8_product ⟨Nat.le_of_ble_eq_true rfl, Nat.le_of_ble_eq_true rfl⟩ rfl (Nat.le_of_ble_eq_true rfl) (V.kkF ?_)
            refine V.istore dX8_stretch_96 (by decide) ?_
            refine V.iincN dX8_stretch_98 (by decide) rfl ?_
            refine V.goto (tgt := 42) dX8_stretch_101 (by decide) ?_
            refine ih h2 _ ((k1.ms (by unfold msr; omega)).ms (by unfold msr; omega)) (fun z hz => ?_) (fun z h3 h4 => ?_)
            · by_cases e : z = k
              · subst e
                rw [mset_ne (a := 165) (by decide), mset_at, mset_at, mset_ne (a := 166) (by decide), (k3 z (Nat.le_refl _) h2).1, (k3 z (Nat.le_refl _) h2).2]
                exact ⟨rfl, rfl⟩
              · rw [mset_ne (a := 165) (by decide), mset_nat e, mset_nat e, mset_ne (a := 166) (by decide)]
                exact k2 z (by omega)
            · rw [mset_ne (a := 165) (by decide), mset_nat (by omega), mset_nat (by omega), mset_ne (a := 166) (by decide)]
              exact k3 z (by omega) h4
      · cases h1
    · cases qo

