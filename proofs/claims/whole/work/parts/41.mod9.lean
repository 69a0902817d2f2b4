theorem m_undo_4 {g : Gl} {M : Mem} {A : Ab} (hI : ∀ i, 142 ≤ i ∧ i < 174 → i ∈ g.2.2.2.2) (h : Rm A M) (hp : A.2.2.2.2.1 = []) : Ct g yX8_undo cX8_undo 1 (some .int) 1 [.ref (g.2.2.2.1 142)] M (fun v M' => v = some (.int (-4)) ∧ M' = M) := by
  have e1 : M 142 4 = nI 0 := by rw [h.2.2.1.2.2.1, hp]; rfl
  refine Ct.ofV (by decide) (Nat.le_of_ble_eq_true rfl) (by simp [Value.category]) (fun κ => ?_)
  refine V.aload_n dX8_undo_0 rfl ?_
  refine V.getf (ci := 7) (k := 4) (C := RX8) (T := TX8) (N := 37) dX8_undo_1 lfX8_270 inX8 rfl (by first | assumption | exact hI _ (by omega)) rfl (by decide) rfl ?_
  rw [e1]
  refine V.if_neN (tgt := 10) dX8_undo_4 (by decide) (by omega) (fun h1 => ?_) (fun h1 => ?_)
  · exact absurd rfl h1
  · refine V.bipush (v := -4) dX8_undo_7 (by decide) ?_
    refine V.iret dX8_undo_9 ?_
    exact ⟨rfl, rfl⟩
theorem m_undo {g : Gl} {M : Mem} {A : Ab} {p : Ser} {past : List Ser} (hI : ∀ i, 142 ≤ i ∧ i < 174 → i ∈ g.2.2.2.2) (h : Rm A M) (hp : A.2.2.2.2.1 = p :: past) : Ct g yX8_undo cX8_undo 1 (some .int) 1 [.ref (g.2.2.2.1 142)] M (fun v M' => v = some (.int (nI past.length)) ∧ Rm (A.1, A.2.1, A.2.2.1, p, past, A.2.2.2.2.2) M' ∧ keep mP M M') := by
  obtain ⟨⟨a1, a2, a3⟩, b, ⟨c1, c2, c3, c4⟩, d⟩ := id h
  rw [hp] at c2 c3 c4
  have hl : (p :: past).length = past.length + 1 := rfl
  rw [hl] at c2 c3 c4
  refine Ct.ofV (by decide) (Nat.le_of_ble_eq_true rfl) (by simp [Value.category]) (fun κ => ?_)
  refine V.aload_n dX8_undo_0 rfl ?_
  refine V.getf (ci := 7) (k := 4) (C := RX8) (T := TX8) (N := 37) dX8_undo_1 lfX8_270 inX8 rfl (by first | assumption | exact hI _ (by omega)) rfl (by decide) rfl ?_
  rw [c3]
  refine V.if_neN (tgt := 10) dX8_undo_4 (by decide) (by omega) (fun h1 => ?_) (fun h1 => ?_)
  · refine V.aload_n dX8_undo_10 rfl ?_
    refine V.dup dX8_undo_11 rfl ?_
    refine V.getf (ci := 7) (k := 4) (C := RX8) (T := TX8) (N := 37) dX8_undo_12 lfX8_270 inX8 rfl (by first | assumption | exact hI _ (by omega)) rfl (by decide) rfl ?_
    rw [c3]
    refine V.iconst (v := nI 1) dX8_undo_15 rfl ?_
    refine V.isub dX8_undo_16 ?_
    rw [show nI (past.length + 1) - nI 1 = nI past.length from nI_pred _]
    refine V.putf (ci := 7) (k := 4) (C := RX8) (T := TX8) (N := 37) (ty := .int) tyX8 dX8_undo_17 lfX8_270 inX8 tyX8_ok nmX8 rfl (by first | assumption | exact hI _ (by omega)) rfl (by decide) rfl rfl rfl rfl (Nat.le_of_ble_eq_true rfl) rfl ?_
    refine V.aload_n dX8_undo_20 rfl ?_
    refine V.getf (ci := 7) (k := 3) (C := RX8) (T := TX8) (N := 37) dX8_undo_21 lfX8_19 inX8 rfl (by first | assumption | exact hI _ (by omega)) rfl (by decide) rfl ?_
    refine V.bipush (v := nI 9) dX8_undo_24 (by decide) ?_
    refine V.aload_n dX8_undo_26 rfl ?_
    refine V.getf (ci := 7) (k := 4) (C := RX8) (T := TX8) (N := 37) dX8_undo_27 lfX8_270 inX8 rfl (by first | assumption | exact hI _ (by omega)) rfl (by decide) rfl ?_
    rw [mset_at]
    first | refine V.imulN dX8_undo_30 ?_ | refine V.imul dX8_undo_30 ?_
    refine V.aload_n dX8_undo_31 rfl ?_
    refine V.getf (ci := 7) (k := 2) (C := RX8) (T := TX8) (N := 37) dX8_undo_32 lfX8_16 inX8 rfl (by first | assumption | exact hI _ (by omega)) rfl (by decide) rfl ?_
    refine V.iconst (v := nI 0) dX8_undo_35 rfl ?_
    refine V.bipush (v := nI 9) dX8_undo_36 (by decide) ?_
    refine V.callS dX8_undo_38 (c_X8_bring (a := 146) (i := 9 * past.length) (b := 145) (na := 72) (nb := 9) (hI _ (by decide)) (hI _ (by decide)) rfl rfl (by omega) (by decide) (Or.inl (by decide))) lkX8_112 st_X8_bring cd_X8_bring ini_X8 hd_X8_bring ⟨Nat.le_of_ble_eq_true rfl, Nat.le_of_ble_eq_true rfl⟩ rfl (Nat.le_of_ble_eq_true rfl) (V.kkN ?_)
    refine V.aload_n dX8_undo_41 rfl ?_
    refine V.getf (ci := 7) (k := 4) (C := RX8) (T := TX8) (N := 37) dX8_undo_42 lfX8_270 inX8 rfl (by first | assumption | exact hI _ (by omega)) rfl (by decide) rfl ?_
    rw [brg_ne (c := 142) (by decide), mset_at]
    refine V.iret dX8_undo_45 ?_
    generalize hM3 : brg (mset M 142 4 (nI past.length)) 146 (9 * past.length) 145 0 9 = M3
    have kk : keep (fun j => j = 142 ∨ j = 145) M M3 := by
      rw [← hM3]; exact ((keep.rf (P := fun j => j = 142 ∨ j = 145)).ms (Or.inl rfl)).br (Or.inr rfl)
    refine ⟨rfl, ⟨⟨a1, ?_, by rw [kk 149 (by omega)]; exact a3⟩, fun r hr => by rw [kk 143 (by omega), kk 144 (by omega)]; exact b r hr, ⟨?_, by show past.length ≤ 8; omega, ?_, fun i hi => ?_⟩, fun q hq => (d q hq).kp (kk 147 (by omega)) (kk 148 (by omega))⟩, kk.wk (fun j hj => by unfold mP; omega)⟩
    · rw [← hM3, brg_ne (by decide), mset_nat (by decide)]; exact a2
    · rw [← hM3]
      refine brg_0.tr ?_
      rw [mset_ne (by decide)]
      have := c4 0 (by omega)
      rw [show past.length + 1 - 1 - 0 = past.length by omega] at this
      exact this
    · rw [← hM3, brg_ne (by decide), mset_at]
    · have hi2 : i < past.length := hi
      rw [kk 146 (by omega)]
      have := c4 (i + 1) (by omega)
      rw [show past.length + 1 - 1 - (i + 1) = past.length - 1 - i by omega] at this
      exact this
  · omega
theorem m_hand_3 {g : Gl} {M : Mem} {x : Int32} (hz : isN x 9 = false) : Ct g yX8_hand cX8_hand 2 (some .int) 2 [.ref (g.2.2.2.1 142), .int x] M (fun v M' => v = some (.int (-3)) ∧ M' = M) := by
  refine Ct.ofV (by decide) (Nat.le_of_ble_eq_true rfl) (by simp [Value.category]) (fun κ => ?_)
  refine V.iload_n dX8_hand_0 rfl ?_
  refine V.callS dX8_hand_1 (c_X8_isPlace) lkX8_250 st_X8_isPlace cd_X8_isPlace ini_X8 hd_X8_isPlace ⟨Nat.le_of_ble_eq_true rfl, Nat.le_of_ble_eq_true rfl⟩ rfl (Nat.le_of_ble_eq_true rfl) (V.kkF ?_)
  rw [hz]
  refine V.if_eqB (tgt := 16) dX8_hand_4 (by decide) (fun h1 => ?_) (fun h1 => ?_)
  · refine V.bipush (v := -3) dX8_hand_16 (by decide) ?_
    refine V.iret dX8_hand_18 ?_
    exact ⟨rfl, rfl⟩
  · cases h1
theorem m_hand {g : Gl} {M : Mem} {A : Ab} {x : Nat} (hI : ∀ i, 142 ≤ i ∧ i < 174 → i ∈ g.2.2.2.2) (h : Rm A M) (hx : x < 9) : Ct g yX8_hand cX8_hand 2 (some .int) 2 [.ref (g.2.2.2.1 142), .int (nI x)] M (fun v M' => v = some (.int (A.2.2.2.1 x)) ∧ M' = M) := by
  refine Ct.ofV (by decide) (Nat.le_of_ble_eq_true rfl) (by simp [Value.category]) (fun κ => ?_)
  refine V.iload_n dX8_hand_0 rfl ?_
  refine V.callS dX8_hand_1 (c_X8_isPlace) lkX8_250 st_X8_isPlace cd_X8_isPlace ini_X8 hd_X8_isPlace ⟨Nat.le_of_ble_eq_true rfl, Nat.le_of_ble_eq_true rfl⟩ rfl (Nat.le_of_ble_eq_true rfl) (V.kkF ?_)
  rw [isN_nI (by decide) hx]
  refine V.if_eqB (tgt := 16) dX8_hand_4 (by decide) (fun h1 => ?_) (fun h1 => ?_)
  · cases h1
  · refine V.aload_n dX8_hand_7 rfl ?_
    refine V.getf (ci := 7) (k := 2) (C := RX8) (T := TX8) (N := 37) dX8_hand_8 lfX8_16 inX8 rfl (by first | assumption | exact hI _ (by omega)) rfl (by decide) rfl ?_
    refine V.iload_n dX8_hand_11 rfl ?_
    refine V.iald (n := 9) dX8_hand_12 (by first | assumption | exact hI _ (by omega)) (by first | assumption | decide) (by omega) ?_
    refine V.goto (tgt := 18) dX8_hand_13 (by decide) ?_
    refine V.iret dX8_hand_18 ?_
    exact ⟨by rw [h.2.2.1.1 x hx], rfl⟩
theorem m_at_3 {g : Gl} {M : Mem} {x : Int32} (hz : isN x 9973 = false) : Ct g yX8_at cX8_at 2 (some .int) 2 [.ref (g.2.2.2.1 142), .int x] M (fun v M' => v = some (.int (-3)) ∧ M' = M) := by
  refine Ct.ofV (by decide) (Nat.le_of_ble_eq_true rfl) (by simp [Value.category]) (fun κ => ?_)
  refine V.iload_n dX8_at_0 rfl ?_
  refine V.callS dX8_at_1 (c_X8_isNumber) lkX8_247 st_X8_isNumber cd_X8_isNumber ini_X8 hd_X8_isNumber ⟨Nat.le_of_ble_eq_true rfl, Nat.le_of_ble_eq_true rfl⟩ rfl (Nat.le_of_ble_eq_true rfl) (V.kkF ?_)
  rw [hz]
  refine V.if_eqB (tgt := 19) dX8_at_4 (by decide) (fun h1 => ?_) (fun h1 => ?_)
  · refine V.bipush (v := -3) dX8_at_19 (by decide) ?_
    refine V.iret dX8_at_21 ?_
    exact ⟨rfl, rfl⟩
  · cases h1
theorem m_at {g : Gl} {M : Mem} {A : Ab} {x : Nat} (hI : ∀ i, 142 ≤ i ∧ i < 174 → i ∈ g.2.2.2.2) (h : Rm A M) (hx : x < 9973) : Ct g yX8_at cX8_at 2 (some .int) 2 [.ref (g.2.2.2.1 142), .int (nI x)] M (fun v M' => v = some (.int (horn A.2.2.2.1 (nI x) 9)) ∧ M' = M) := by
  refine Ct.ofV (by decide) (Nat.le_of_ble_eq_true rfl) (by simp [Value.category]) (fun κ => ?_)
  refine V.iload_n dX8_at_0 rfl ?_
  refine V.callS dX8_at_1 (c_X8_isNumber) lkX8_247 st_X8_isNumber cd_X8_isNumber ini_X8 hd_X8_isNumber ⟨Nat.le_of_ble_eq_true rfl, Nat.le_of_ble_eq_true rfl⟩ rfl (Nat.le_of_ble_eq_true rfl) (V.kkF ?_)
  rw [isN_nI (by decide) hx]
  refine V.if_eqB (tgt := 19) dX8_at_4 (by decide) (fun h1 => ?_) (fun h1 => ?_)
  · cases h1
  · refine V.aload_n dX8_at_7 rfl ?_
    refine V.getf (ci := 7) (k := 2) (C := RX8) (T := TX8) (N := 37) dX8_at_8 lfX8_16 inX8 rfl (by first | assumption | exact hI _ (by omega)) rfl (by decide) rfl ?_
    refine V.iconst (v := nI 0) dX8_at_11 rfl ?_
    refine V.iload_n dX8_at_12 rfl ?_
    refine V.callS dX8_at_13 (c_X8_valueOf (a := 145) (i := 0) (na := 9) (hI _ (by decide)) rfl (by decide)) lkX8_263 st_X8_valueOf cd_X8_valueOf ini_X8 hd_X8_valueOf ⟨Nat.le_of_ble_eq_true rfl, Nat.le_of_ble_eq_true rfl⟩ rfl (Nat.le_of_ble_eq_true rfl) (V.kkF ?_)
    refine V.goto (tgt := 21) dX8_at_16 (by decide) ?_
    refine V.iret dX8_at_21 ?_
    exact ⟨by rw [sl_0, horn_cg h.2.2.1.1 9 (by decide)], rfl⟩
theorem m_expand_2 {g : Gl} {M : Mem} {x y : Int32} (h : isN x 4 = false) : Ct g yX8_expand cX8_expand 3 (some .int) 4 [.ref (g.2.2.2.1 142), .int x, .int y] M (fun v M' => v = some (.int (-2)) ∧ M' = M) := by
  refine Ct.ofV (by decide) (Nat.le_of_ble_eq_true rfl) (by simp [Value.category]) (fun κ => ?_)
  refine V.iload_n dX8_expand_0 rfl ?_
  refine V.callS dX8_expand_1 (c_X8_isRow) lkX8_234 st_X8_isRow cd_X8_isRow ini_X8 hd_X8_isRow ⟨Nat.le_of_ble_eq_true rfl, Nat.le_of_ble_eq_true rfl⟩ rfl (Nat.le_of_ble_eq_true rfl) (V.kkF ?_)
  refine V.if_neB (tgt := 10) dX8_expand_4 (by decide) (fun h1 => ?_) (fun h1 => ?_)
  · rw [h1] at h; cases h
  · refine V.bipush (v := -2) dX8_expand_7 (by decide) ?_
    refine V.iret dX8_expand_9 ?_
    exact ⟨rfl, rfl⟩
theorem m_expand_3 {g : Gl} {M : Mem} {r : Nat} {y : Int32} (hr : r < 4) (hz : isN y 9 = false) : Ct g yX8_expand cX8_expand 3 (some .int) 4 [.ref (g.2.2.2.1 142), .int (nI r), .int y] M (fun v M' => v = some (.int (-3)) ∧ M' = M) := by
  refine Ct.ofV (by decide) (Nat.le_of_ble_eq_true rfl) (by simp [Value.category]) (fun κ => ?_)
  refine V.iload_n dX8_expand_0 rfl ?_
  refine V.callS dX8_expand_1 (c_X8_isRow) lkX8_234 st_X8_isRow cd_X8_isRow ini_X8 hd_X8_isRow ⟨Nat.le_of_ble_eq_true rfl, Nat.le_of_ble_eq_true rfl⟩ rfl (Nat.le_of_ble_eq_true rfl) (V.kkF ?_)
  rw [isN_nI (by decide) hr]
  refine V.if_neB (tgt := 10) dX8_expand_4 (by decide) (fun qr => ?_) (fun qr => ?_)
  · skip
    refine V.iload_n dX8_expand_10 rfl ?_
    refine V.callS dX8_expand_11 (c_X8_isPlace) lkX8_250 st_X8_isPlace cd_X8_isPlace ini_X8 hd_X8_isPlace ⟨Nat.le_of_ble_eq_true rfl, Nat.le_of_ble_eq_true rfl⟩ rfl (Nat.le_of_ble_eq_true rfl) (V.kkF ?_)
    rw [hz]
    refine V.if_neB (tgt := 20) dX8_expand_14 (by decide) (fun h1 => ?_) (fun h1 => ?_)
    · cases h1
    · refine V.bipush (v := -3) dX8_expand_17 (by decide) ?_
      refine V.iret dX8_expand_19 ?_
      exact ⟨rfl, rfl⟩
  · cases qr
theorem m_expand {g : Gl} {M : Mem} {A : Ab} {r y : Nat} (hI : ∀ i, 142 ≤ i ∧ i < 174 → i ∈ g.2.2.2.2) (h : Rm A M) (hr : r < 4) (hy : y < 9) : Ct g yX8_expand cX8_expand 3 (some .int) 4 [.ref (g.2.2.2.1 142), .int (nI r), .int (nI y)] M (fun v M' => v = some (.int (mtell (MR A r) A.2.2.2.1 y)) ∧ Rm A M' ∧ keep mP M M') := by
  refine Ct.ofV (by decide) (Nat.le_of_ble_eq_true rfl) (by simp [Value.category]) (fun κ => ?_)
  refine V.iload_n dX8_expand_0 rfl ?_
  refine V.callS dX8_expand_1 (c_X8_isRow) lkX8_234 st_X8_isRow cd_X8_isRow ini_X8 hd_X8_isRow ⟨Nat.le_of_ble_eq_true rfl, Nat.le_of_ble_eq_true rfl⟩ rfl (Nat.le_of_ble_eq_true rfl) (V.kkF ?_)
  rw [isN_nI (by decide) hr]
  refine V.if_neB (tgt := 10) dX8_expand_4 (by decide) (fun qr => ?_) (fun qr => ?_)
  · skip
    refine V.iload_n dX8_expand_10 rfl ?_
    refine V.callS dX8_expand_11 (c_X8_isPlace) lkX8_250 st_X8_isPlace cd_X8_isPlace ini_X8 hd_X8_isPlace ⟨Nat.le_of_ble_eq_true rfl, Nat.le_of_ble_eq_true rfl⟩ rfl (Nat.le_of_ble_eq_true rfl) (V.kkF ?_)
    rw [isN_nI (by decide) hy]
    refine V.if_neB (tgt := 20) dX8_expand_14 (by decide) (fun h1 => ?_) (fun h1 => ?_)
    · refine V.aload_n dX8_expand_20 rfl ?_
      refine V.iload_n dX8_expand_21 rfl ?_
      refine V.aload_n dX8_expand_22 rfl ?_
      refine V.getf (ci := 7) (k := 31) (C := RX8) (T := TX8) (N := 37) dX8_expand_23 lfX8_86 inX8 rfl (by first | assumption | exact hI _ (by omega)) rfl (by decide) rfl ?_
      refine V.callV (ci := 7) (T := TX8) (N := 37) dX8_expand_26 (c_X8_laysRow (t := 168) hI hr (hI _ (by decide)) rfl (by decide)) lkX8_260 im_X8_laysRow se_X8_laysRow cd_X8_laysRow ini_X8 rfl (by first | assumption | exact hI _ (by omega)) rfl hd_X8_laysRow ⟨Nat.le_of_ble_eq_true rfl, Nat.le_of_ble_eq_true rfl⟩ rfl (Nat.le_of_ble_eq_true rfl) (V.kkP (fun M1 q1 => ?_))
      have hp1 : ∀ n k, n < 9 → k < 9 → M1 168 (9 * n + k) = MR A r n k := fun n k hn hk => by rw [q1.2 n k hn hk, mpol_cg (h.g hr) (h.f hr) n k hk]; rfl
      have k1 : keep msr M M1 := q1.1.wk (fun j hj => by unfold msr; omega)
      refine V.aload_n dX8_expand_29 rfl ?_
      refine V.aload_n dX8_expand_30 rfl ?_
      refine V.getf (ci := 7) (k := 2) (C := RX8) (T := TX8) (N := 37) dX8_expand_31 lfX8_16 inX8 rfl (by first | assumption | exact hI _ (by omega)) rfl (by decide) rfl ?_
      refine V.iconst (v := nI 0) dX8_expand_34 rfl ?_
      refine V.aload_n dX8_expand_35 rfl ?_
      refine V.getf (ci := 7) (k := 31) (C := RX8) (T := TX8) (N := 37) dX8_expand_36 lfX8_86 inX8 rfl (by first | assumption | exact hI _ (by omega)) rfl (by decide) rfl ?_
      refine V.callV (ci := 7) (T := TX8) (N := 37) dX8_expand_39 (c_X8_takesApart (a := 145) (i := 0) (t := 168) (na := 9) (P := MR A r) hI (hI _ (by decide)) rfl (by decide) (hI _ (by decide)) rfl (by decide) hp1) lkX8_267 im_X8_takesApart se_X8_takesApart cd_X8_takesApart ini_X8 rfl (by first | assumption | exact hI _ (by omega)) rfl hd_X8_takesApart ⟨Nat.le_of_ble_eq_true rfl, Nat.le_of_ble_eq_true rfl⟩ rfl (Nat.le_of_ble_eq_true rfl) (V.kkP (fun M4 q4 => ?_))
      obtain ⟨k4, e4⟩ := q4
      refine V.aload_n dX8_expand_42 rfl ?_
      refine V.getf (ci := 7) (k := 36) (C := RX8) (T := TX8) (N := 37) dX8_expand_43 lfX8_101 inX8 rfl (by first | assumption | exact hI _ (by omega)) rfl (by decide) rfl ?_
      refine V.iload_n dX8_expand_46 rfl ?_
      refine V.iald (n := 9) dX8_expand_47 (by first | assumption | exact hI _ (by omega)) (by first | assumption | decide) (by omega) ?_
      refine V.iret dX8_expand_48 ?_
      have kk : keep msr M M4 := k1.tr (k4.wk (fun j hj => by unfold msr; omega))
      exact ⟨by rw [e4 y hy, mtell_cg (fun _ _ => eq9.rf) (by rw [sl_0, k1 145 (by unfold msr; omega)]; exact h.2.2.1.1) y hy], h.ks kk, kk.wk (fun j hj => by unfold mP; unfold msr at hj; omega)⟩
    · cases h1
  · cases qr
abbrev v_X8_sum (g : Gl) (κ : Ka) (Q : State → Prop) (M : Mem) (pc : Nat) (L : List (Option Value)) (st : List Value) : Prop := V g cX8_sum 4 yX8_sum.cls (some .int) (rmd 2) Q κ M pc L st
theorem m_sum_3 {g : Gl} {M : Mem} {x : Int32} (hz : isN x 501 = false) : Ct g yX8_sum cX8_sum 4 (some .int) 2 [.ref (g.2.2.2.1 142), .int x] M (fun v M' => v = some (.int (-3)) ∧ M' = M) := by
  refine Ct.ofV (by decide) (Nat.le_of_ble_eq_true rfl) (by simp [Value.category]) (fun κ => ?_)
  refine V.iload_n dX8_sum_0 rfl ?_
  refine V.iconst (v := nI 0) dX8_sum_1 rfl ?_
  refine V.sipush (v := nI 500) dX8_sum_2 (by decide) ?_
  refine V.callS dX8_sum_5 (c_X8_in) lkX8_104 st_X8_in cd_X8_in ini_X8 hd_X8_in ⟨Nat.le_of_ble_eq_true rfl, Nat.le_of_ble_eq_true rfl⟩ rfl (Nat.le_of_ble_eq_true rfl) (V.kkF ?_)
  rw [in_isN (by decide), hz]
  refine V.if_neB (tgt := 14) dX8_sum_8 (by decide) (fun h1 => ?_) (fun h1 => ?_)
  · cases h1
  · refine V.bipush (v := -3) dX8_sum_11 (by decide) ?_
    refine V.iret dX8_sum_13 ?_
    exact ⟨rfl, rfl⟩
theorem m_sum {g : Gl} {M : Mem} {A : Ab} {x : Nat} (hI : ∀ i, 142 ≤ i ∧ i < 174 → i ∈ g.2.2.2.2) (h : Rm A M) (hx : x < 501) : Ct g yX8_sum cX8_sum 4 (some .int) 2 [.ref (g.2.2.2.1 142), .int (nI x)] M (fun v M' => v = some (.int (fsm A.2.2.2.1 x)) ∧ M' = M) := by
  refine Ct.ofV (by decide) (Nat.le_of_ble_eq_true rfl) (by simp [Value.category]) (fun κ => ?_)
  refine V.iload_n dX8_sum_0 rfl ?_
  refine V.iconst (v := nI 0) dX8_sum_1 rfl ?_
  refine V.sipush (v := nI 500) dX8_sum_2 (by decide) ?_
  refine V.callS dX8_sum_5 (c_X8_in) lkX8_104 st_X8_in cd_X8_in ini_X8 hd_X8_in ⟨Nat.le_of_ble_eq_true rfl, Nat.le_of_ble_eq_true rfl⟩ rfl (Nat.le_of_ble_eq_true rfl) (V.kkF ?_)
  rw [in_isN (by decide), isN_nI (by decide) hx]
  refine V.if_neB (tgt := 14) dX8_sum_8 (by decide) (fun h1 => ?_) (fun h1 => ?_)
  · refine V.iconst (v := nI 0) dX8_sum_14 rfl ?_
    refine V.istore_n dX8_sum_15 (by decide) ?_
    refine V.iconst (v := nI 0) dX8_sum_16 rfl ?_
    refine V.istore_n dX8_sum_17 (by decide) ?_
    have lp := up_loop x (fun j => v_X8_sum g κ (Qm g κ (fun v M' => v = some (.int (fsm A.2.2.2.1 x)) ∧ M' = M)) M 18 [some (.ref (g.2.2.2.1 142)), some (.int (nI x)), some (.int (fsm A.2.2.2.1 j)), some (.int (nI j))] []) (fun j hj ih => ?_) 0 (by omega)
    · exact lp
    · refine V.iload_n dX8_sum_18 rfl ?_
      refine V.iload_n dX8_sum_19 rfl ?_
      refine V.geN (tgt := 43) dX8_sum_20 (by decide) (by omega) (by omega) (fun h3 => ?_) (fun h3 => ?_)
      · have e : j = x := by omega
        subst e
        refine V.iload_n dX8_sum_43 rfl ?_
        refine V.iret dX8_sum_44 ?_
        exact ⟨rfl, rfl⟩
      · refine V.iload_n dX8_sum_23 rfl ?_
        refine V.aload_n dX8_sum_24 rfl ?_
        refine V.getf (ci := 7) (k := 2) (C := RX8) (T := TX8) (N := 37) dX8_sum_25 lfX8_16 inX8 rfl (by first | assumption | exact hI _ (by omega)) rfl (by decide) rfl ?_
        refine V.iconst (v := nI 0) dX8_sum_28 rfl ?_
        refine V.iload_n dX8_sum_29 rfl ?_
        refine V.callS dX8_sum_30 (c_X8_valueOf (a := 145) (i := 0) (na := 9) (hI _ (by decide)) rfl (by decide)) lkX8_263 st_X8_valueOf cd_X8_valueOf ini_X8 hd_X8_valueOf ⟨Nat.le_of_ble_eq_true rfl, Nat.le_of_ble_eq_true rfl⟩ rfl (Nat.le_of_ble_eq_true rfl) (V.kkF ?_)
        refine V.callS dX8_sum_33 (c_X8_together) lkX8_119 st_X8_together cd_X8_together ini_X8 hd_X8_together ⟨Nat.le_of_ble_eq_true rfl, Nat.le_of_ble_eq_true rfl⟩ rfl (Nat.le_of_ble_eq_true rfl) (V.kkF ?_)
        refine V.istore_n dX8_sum_36 (by decide) ?_
        refine V.iincN dX8_sum_37 (by decide) rfl ?_
        refine V.goto (tgt := 18) dX8_sum_40 (by decide) ?_
        rw [sl_0, horn_cg h.2.2.1.1 9 (by decide)]
        exact ih h3
  · cases h1
theorem m_keep_3 {g : Gl} {M : Mem} {x : Int32} (hz : isN x 2 = false) : Ct g yX8_keep cX8_keep 2 (some .int) 1 [.ref (g.2.2.2.1 142), .int x] M (fun v M' => v = some (.int (-3)) ∧ M' = M) := by
  refine Ct.ofV (by decide) (Nat.le_of_ble_eq_true rfl) (by simp [Value.category]) (fun κ => ?_)
  refine V.iload_n dX8_keep_0 rfl ?_
  refine V.iconst (v := nI 0) dX8_keep_1 rfl ?_
  refine V.iconst (v := nI 1) dX8_keep_2 rfl ?_
  refine V.callS dX8_keep_3 (c_X8_in) lkX8_104 st_X8_in cd_X8_in ini_X8 hd_X8_in ⟨Nat.le_of_ble_eq_true rfl, Nat.le_of_ble_eq_true rfl⟩ rfl (Nat.le_of_ble_eq_true rfl) (V.kkF ?_)
  rw [in_isN (by decide), hz]
  refine V.if_neB (tgt := 12) dX8_keep_6 (by decide) (fun h1 => ?_) (fun h1 => ?_)
  · cases h1
  · refine V.bipush (v := -3) dX8_keep_9 (by decide) ?_
    refine V.iret dX8_keep_11 ?_
    exact ⟨rfl, rfl⟩
theorem m_keep {g : Gl} {M : Mem} {A : Ab} {x : Nat} (hI : ∀ i, 142 ≤ i ∧ i < 174 → i ∈ g.2.2.2.2) (h : Rm A M) (hx : x < 2) : Ct g yX8_keep cX8_keep 2 (some .int) 1 [.ref (g.2.2.2.1 142), .int (nI x)] M (fun v M' => v = some (.int (nI (fsz A.2.2.2.1 9))) ∧ Rm (A.1, A.2.1, A.2.2.1, A.2.2.2.1, A.2.2.2.2.1, va_up A.2.2.2.2.2 x (some (A.2.1, A.2.2.1, A.2.2.2.1))) M' ∧ keep mP M M') := by
  refine Ct.ofV (by decide) (Nat.le_of_ble_eq_true rfl) (by simp [Value.category]) (fun κ => ?_)
  refine V.iload_n dX8_keep_0 rfl ?_
  refine V.iconst (v := nI 0) dX8_keep_1 rfl ?_
  refine V.iconst (v := nI 1) dX8_keep_2 rfl ?_
  refine V.callS dX8_keep_3 (c_X8_in) lkX8_104 st_X8_in cd_X8_in ini_X8 hd_X8_in ⟨Nat.le_of_ble_eq_true rfl, Nat.le_of_ble_eq_true rfl⟩ rfl (Nat.le_of_ble_eq_true rfl) (V.kkF ?_)
  rw [in_isN (by decide), isN_nI (by decide) hx]
  refine V.if_neB (tgt := 12) dX8_keep_6 (by decide) (fun h1 => ?_) (fun h1 => ?_)
  · refine V.aload_n dX8_keep_12 rfl ?_
    refine V.getf (ci := 7) (k := 6) (C := RX8) (T := TX8) (N := 37) dX8_keep_13 lfX8_25 inX8 rfl (by first | assumption | exact hI _ (by omega)) rfl (by decide) rfl ?_
    refine V.iload_n dX8_keep_16 rfl ?_
    refine V.iconst (v := nI 1) dX8_keep_17 rfl ?_
    refine V.zast dX8_keep_18 (by first | assumption | exact hI _ (by omega)) (by omega) rfl ?_
    refine V.aload_n dX8_keep_19 rfl ?_
    refine V.getf (ci := 7) (k := 0) (C := RX8) (T := TX8) (N := 37) dX8_keep_20 lfX8_7 inX8 rfl (by first | assumption | exact hI _ (by omega)) rfl (by decide) rfl ?_
    refine V.iconst (v := nI 0) dX8_keep_23 rfl ?_
    refine V.aload_n dX8_keep_24 rfl ?_
    refine V.getf (ci := 7) (k := 5) (C := RX8) (T := TX8) (N := 37) dX8_keep_25 lfX8_22 inX8 rfl (by first | assumption | exact hI _ (by omega)) rfl (by decide) rfl ?_
    refine V.bipush (v := nI 81) dX8_keep_28 (by decide) ?_
    refine V.iload_n dX8_keep_30 rfl ?_
    first | refine V.imulN dX8_keep_31 ?_ | refine V.imul dX8_keep_31 ?_
    refine V.bipush (v := nI 36) dX8_keep_32 (by decide) ?_
    refine V.callS dX8_keep_34 (c_X8_bring (a := 143) (i := 0) (b := 147) (j := 81 * x) (n := 36) (na := 36) (nb := 162) (hI _ (by decide)) (hI _ (by decide)) rfl rfl (by decide) (by omega) (Or.inl (by decide))) lkX8_112 st_X8_bring cd_X8_bring ini_X8 hd_X8_bring ⟨Nat.le_of_ble_eq_true rfl, Nat.le_of_ble_eq_true rfl⟩ rfl (Nat.le_of_ble_eq_true rfl) (V.kkN ?_)
    refine V.aload_n dX8_keep_37 rfl ?_
    refine V.getf (ci := 7) (k := 1) (C := RX8) (T := TX8) (N := 37) dX8_keep_38 lfX8_13 inX8 rfl (by first | assumption | exact hI _ (by omega)) rfl (by decide) rfl ?_
    refine V.iconst (v := nI 0) dX8_keep_41 rfl ?_
    refine V.aload_n dX8_keep_42 rfl ?_
    refine V.getf (ci := 7) (k := 5) (C := RX8) (T := TX8) (N := 37) dX8_keep_43 lfX8_22 inX8 rfl (by first | assumption | exact hI _ (by omega)) rfl (by decide) rfl ?_
    refine V.bipush (v := nI 81) dX8_keep_46 (by decide) ?_
    refine V.iload_n dX8_keep_48 rfl ?_
    first | refine V.imulN dX8_keep_49 ?_ | refine V.imul dX8_keep_49 ?_
    refine V.bipush (v := nI 36) dX8_keep_50 (by decide) ?_
    first | refine V.iaddN dX8_keep_52 ?_ | refine V.iadd dX8_keep_52 ?_
    refine V.bipush (v := nI 36) dX8_keep_53 (by decide) ?_
    refine V.callS dX8_keep_55 (c_X8_bring (a := 144) (i := 0) (b := 147) (j := 81 * x + 36) (n := 36) (na := 36) (nb := 162) (hI _ (by decide)) (hI _ (by decide)) rfl rfl (by decide) (by omega) (Or.inl (by decide))) lkX8_112 st_X8_bring cd_X8_bring ini_X8 hd_X8_bring ⟨Nat.le_of_ble_eq_true rfl, Nat.le_of_ble_eq_true rfl⟩ rfl (Nat.le_of_ble_eq_true rfl) (V.kkN ?_)
    refine V.aload_n dX8_keep_58 rfl ?_
    refine V.getf (ci := 7) (k := 2) (C := RX8) (T := TX8) (N := 37) dX8_keep_59 lfX8_16 inX8 rfl (by first | assumption | exact hI _ (by omega)) rfl (by decide) rfl ?_
    refine V.iconst (v := nI 0) dX8_keep_62 rfl ?_
    refine V.aload_n dX8_keep_63 rfl ?_
    refine V.getf (ci := 7) (k := 5) (C := RX8) (T := TX8) (N := 37) dX8_keep_64 lfX8_22 inX8 rfl (by first | assumption | exact hI _ (by omega)) rfl (by decide) rfl ?_
    refine V.bipush (v := nI 81) dX8_keep_67 (by decide) ?_
    refine V.iload_n dX8_keep_69 rfl ?_
    first | refine V.imulN dX8_keep_70 ?_ | refine V.imul dX8_keep_70 ?_
    refine V.bipush (v := nI 72) dX8_keep_71 (by decide) ?_
    first | refine V.iaddN dX8_keep_73 ?_ | refine V.iadd dX8_keep_73 ?_
    refine V.bipush (v := nI 9) dX8_keep_74 (by decide) ?_
    refine V.callS dX8_keep_76 (c_X8_bring (a := 145) (i := 0) (b := 147) (j := 81 * x + 72) (n := 9) (na := 9) (nb := 162) (hI _ (by decide)) (hI _ (by decide)) rfl rfl (by decide) (by omega) (Or.inl (by decide))) lkX8_112 st_X8_bring cd_X8_bring ini_X8 hd_X8_bring ⟨Nat.le_of_ble_eq_true rfl, Nat.le_of_ble_eq_true rfl⟩ rfl (Nat.le_of_ble_eq_true rfl) (V.kkN ?_)
    refine V.aload_n dX8_keep_79 rfl ?_
    refine V.callV (ci := 7) (T := TX8) (N := 37) dX8_keep_80 (c_X8_many hI) lkX8_280 im_X8_many se_X8_many cd_X8_many ini_X8 rfl (by first | assumption | exact hI _ (by omega)) rfl hd_X8_many ⟨Nat.le_of_ble_eq_true rfl, Nat.le_of_ble_eq_true rfl⟩ rfl (Nat.le_of_ble_eq_true rfl) (V.kkF ?_)
    refine V.iret dX8_keep_83 ?_
    generalize hM3 : brg (brg (brg (mset M 148 x _) 143 0 147 (81 * x) 36) 144 0 147 (81 * x + 36) 36) 145 0 147 (81 * x + 72) 9 = M3
    have k3 : keep (fun j => j = 147 ∨ j = 148) M M3 := by
      rw [← hM3]; exact ((((keep.rf (P := fun j => j = 147 ∨ j = 148)).ms (Or.inr rfl)).br (Or.inl rfl)).br (Or.inl rfl)).br (Or.inl rfl)
    obtain ⟨⟨a1, a2, a3⟩, b, ⟨c1, c2, c3, c4⟩, d⟩ := id h
    refine ⟨by rw [k3 145 (by omega), fsz_cg c1 9 (by decide)], ⟨⟨a1, by rw [k3 142 (by omega)]; exact a2, by rw [k3 149 (by omega)]; exact a3⟩, fun r hr => by rw [k3 143 (by omega), k3 144 (by omega)]; exact b r hr, ⟨by rw [k3 145 (by omega)]; exact c1, c2, by rw [k3 142 (by omega)]; exact c3, fun i hi => by rw [k3 146 (by omega)]; exact c4 i hi⟩, fun q hq => ?_⟩, k3.wk (fun j hj => by unfold mP; omega)⟩
    have e148 : M3 148 = upd (M 148) x (nI 1) := by
      rw [← hM3, brg_ne (by decide), brg_ne (by decide), brg_ne (by decide)]; exact mset_self
    by_cases e : q = x
    · subst e
      show RmK q (va_up A.2.2.2.2.2 q _ q) M3
      rw [va_up_self]
      refine ⟨by rw [e148]; unfold upd; rw [if_pos rfl], fun r hr => ⟨fun z hz => ?_, fun z hz => ?_⟩, fun z hz => ?_⟩
      · show M3 147 (81 * q + 9 * r + z) = _
        rw [← hM3, brg_out (Or.inl (by omega)), brg_out (Or.inl (by omega)), show 81 * q + 9 * r + z = 81 * q + (9 * r + z) by omega, brg_in (by omega), mset_ne (by decide), Nat.zero_add]
        exact (b r hr).1 z hz
      · show M3 147 (81 * q + 36 + 9 * r + z) = _
        rw [← hM3, brg_out (Or.inl (by omega)), show 81 * q + 36 + 9 * r + z = 81 * q + 36 + (9 * r + z) by omega, brg_in (by omega), brg_ne (by decide), mset_ne (by decide), Nat.zero_add]
        exact (b r hr).2 z hz
      · show M3 147 (81 * q + 72 + z) = _
        rw [← hM3, brg_in hz, brg_ne (by decide), brg_ne (by decide), mset_ne (by decide), Nat.zero_add]
        exact c1 z hz
    · show RmK q (va_up A.2.2.2.2.2 x _ q) M3
      rw [va_up_ne _ _ e]
      have hk := d q hq
      have o147 : ∀ z, 81 * q ≤ z → z < 81 * q + 81 → M3 147 z = M 147 z := fun z h1 h2 => by
        rw [← hM3, brg_out (by omega), brg_out (by omega), brg_out (by omega), mset_ne (by decide)]
      have o148 : M3 148 q = M 148 q := by rw [e148]; unfold upd; rw [if_neg e]
      cases hK : A.2.2.2.2.2 q with
      | none =>
        rw [hK] at hk
        show M3 148 q = _
        rw [o148]; exact hk
      | some z =>
        obtain ⟨G, F, p⟩ := z
        rw [hK] at hk
        obtain ⟨h1, h2, h3⟩ := hk
        refine ⟨by rw [o148]; exact h1, fun r hr => ⟨fun z hz => ?_, fun z hz => ?_⟩, fun z hz => ?_⟩
        · show M3 147 (81 * q + 9 * r + z) = _
          rw [o147 _ (by omega) (by omega)]; exact (h2 r hr).1 z hz
        · show M3 147 (81 * q + 36 + 9 * r + z) = _
          rw [o147 _ (by omega) (by omega)]; exact (h2 r hr).2 z hz
        · show M3 147 (81 * q + 72 + z) = _
          rw [o147 _ (by omega) (by omega)]; exact h3 z hz
  · cases h1
theorem m_back_3 {g : Gl} {M : Mem} {x : Int32} (hz : isN x 2 = false) : Ct g yX8_back cX8_back 2 (some .int) 1 [.ref (g.2.2.2.1 142), .int x] M (fun v M' => v = some (.int (-3)) ∧ M' = M) := by
  refine Ct.ofV (by decide) (Nat.le_of_ble_eq_true rfl) (by simp [Value.category]) (fun κ => ?_)
  refine V.iload_n dX8_back_0 rfl ?_
  refine V.iconst (v := nI 0) dX8_back_1 rfl ?_
  refine V.iconst (v := nI 1) dX8_back_2 rfl ?_
  refine V.callS dX8_back_3 (c_X8_in) lkX8_104 st_X8_in cd_X8_in ini_X8 hd_X8_in ⟨Nat.le_of_ble_eq_true rfl, Nat.le_of_ble_eq_true rfl⟩ rfl (Nat.le_of_ble_eq_true rfl) (V.kkF ?_)
  rw [in_isN (by decide), hz]
  refine V.if_neB (tgt := 12) dX8_back_6 (by decide) (fun h1 => ?_) (fun h1 => ?_)
  · cases h1
  · refine V.bipush (v := -3) dX8_back_9 (by decide) ?_
    refine V.iret dX8_back_11 ?_
    exact ⟨rfl, rfl⟩
theorem m_back_4 {g : Gl} {M : Mem} {A : Ab} {x : Nat} (hI : ∀ i, 142 ≤ i ∧ i < 174 → i ∈ g.2.2.2.2) (h : Rm A M) (hx : x < 2) (hk : A.2.2.2.2.2 x = none) : Ct g yX8_back cX8_back 2 (some .int) 1 [.ref (g.2.2.2.1 142), .int (nI x)] M (fun v M' => v = some (.int (-4)) ∧ M' = M) := by
  have e := h.2.2.2 x hx
  rw [hk] at e
  have e1 : M 148 x = nI 0 := e
  refine Ct.ofV (by decide) (Nat.le_of_ble_eq_true rfl) (by simp [Value.category]) (fun κ => ?_)
  refine V.iload_n dX8_back_0 rfl ?_
  refine V.iconst (v := nI 0) dX8_back_1 rfl ?_
  refine V.iconst (v := nI 1) dX8_back_2 rfl ?_
  refine V.callS dX8_back_3 (c_X8_in) lkX8_104 st_X8_in cd_X8_in ini_X8 hd_X8_in ⟨Nat.le_of_ble_eq_true rfl, Nat.le_of_ble_eq_true rfl⟩ rfl (Nat.le_of_ble_eq_true rfl) (V.kkF ?_)
  rw [in_isN (by decide), isN_nI (by decide) hx]
  refine V.if_neB (tgt := 12) dX8_back_6 (by decide) (fun h1 => ?_) (fun h1 => ?_)
  · refine V.aload_n dX8_back_12 rfl ?_
    refine V.getf (ci := 7) (k := 6) (C := RX8) (T := TX8) (N := 37) dX8_back_13 lfX8_25 inX8 rfl (by first | assumption | exact hI _ (by omega)) rfl (by decide) rfl ?_
    refine V.iload_n dX8_back_16 rfl ?_
    refine V.zald dX8_back_17 (by first | assumption | exact hI _ (by omega)) (by omega) ?_
    rw [e1]
    refine V.if_neN (tgt := 24) dX8_back_18 (by decide) (by omega) (fun h2 => ?_) (fun h2 => ?_)
    · exact absurd rfl h2
    · refine V.bipush (v := -4) dX8_back_21 (by decide) ?_
      refine V.iret dX8_back_23 ?_
      exact ⟨rfl, rfl⟩
  · cases h1
theorem m_back {g : Gl} {M : Mem} {A : Ab} {x : Nat} {G F : Nat → Ser} {p : Ser} (hI : ∀ i, 142 ≤ i ∧ i < 174 → i ∈ g.2.2.2.2) (h : Rm A M) (hx : x < 2) (hk : A.2.2.2.2.2 x = some (G, F, p)) : Ct g yX8_back cX8_back 2 (some .int) 1 [.ref (g.2.2.2.1 142), .int (nI x)] M (fun v M' => v = some (.int (nI (fsz p 9))) ∧ Rm (A.1, (fun r => if r < 4 then G r else A.2.1 r), (fun r => if r < 4 then F r else A.2.2.1 r), p, [], A.2.2.2.2.2) M' ∧ keep mP M M') := by
  have e := h.2.2.2 x hx
  rw [hk] at e
  have e1 : M 148 x = nI 1 := e.1
  refine Ct.ofV (by decide) (Nat.le_of_ble_eq_true rfl) (by simp [Value.category]) (fun κ => ?_)
  refine V.iload_n dX8_back_0 rfl ?_
  refine V.iconst (v := nI 0) dX8_back_1 rfl ?_
  refine V.iconst (v := nI 1) dX8_back_2 rfl ?_
  refine V.callS dX8_back_3 (c_X8_in) lkX8_104 st_X8_in cd_X8_in ini_X8 hd_X8_in ⟨Nat.le_of_ble_eq_true rfl, Nat.le_of_ble_eq_true rfl⟩ rfl (Nat.le_of_ble_eq_true rfl) (V.kkF ?_)
  rw [in_isN (by decide), isN_nI (by decide) hx]
  refine V.if_neB (tgt := 12) dX8_back_6 (by decide) (fun h1 => ?_) (fun h1 => ?_)
  · refine V.aload_n dX8_back_12 rfl ?_
    refine V.getf (ci := 7) (k := 6) (C := RX8) (T := TX8) (N := 37) dX8_back_13 lfX8_25 inX8 rfl (by first | assumption | exact hI _ (by omega)) rfl (by decide) rfl ?_
    refine V.iload_n dX8_back_16 rfl ?_
    refine V.zald dX8_back_17 (by first | assumption | exact hI _ (by omega)) (by omega) ?_
    rw [e1]
    refine V.if_neN (tgt := 24) dX8_back_18 (by decide) (by omega) (fun h2 => ?_) (fun h2 => ?_)
    · refine V.aload_n dX8_back_24 rfl ?_
      refine V.getf (ci := 7) (k := 5) (C := RX8) (T := TX8) (N := 37) dX8_back_25 lfX8_22 inX8 rfl (by first | assumption | exact hI _ (by omega)) rfl (by decide) rfl ?_
      refine V.bipush (v := nI 81) dX8_back_28 (by decide) ?_
      refine V.iload_n dX8_back_30 rfl ?_
      first | refine V.imulN dX8_back_31 ?_ | refine V.imul dX8_back_31 ?_
      refine V.aload_n dX8_back_32 rfl ?_
      refine V.getf (ci := 7) (k := 0) (C := RX8) (T := TX8) (N := 37) dX8_back_33 lfX8_7 inX8 rfl (by first | assumption | exact hI _ (by omega)) rfl (by decide) rfl ?_
      refine V.iconst (v := nI 0) dX8_back_36 rfl ?_
      refine V.bipush (v := nI 36) dX8_back_37 (by decide) ?_
      refine V.callS dX8_back_39 (c_X8_bring (a := 147) (i := 81 * x) (b := 143) (j := 0) (n := 36) (na := 162) (nb := 36) (hI _ (by decide)) (hI _ (by decide)) rfl rfl (by omega) (by decide) (Or.inl (by decide))) lkX8_112 st_X8_bring cd_X8_bring ini_X8 hd_X8_bring ⟨Nat.le_of_ble_eq_true rfl, Nat.le_of_ble_eq_true rfl⟩ rfl (Nat.le_of_ble_eq_true rfl) (V.kkN ?_)
      refine V.aload_n dX8_back_42 rfl ?_
      refine V.getf (ci := 7) (k := 5) (C := RX8) (T := TX8) (N := 37) dX8_back_43 lfX8_22 inX8 rfl (by first | assumption | exact hI _ (by omega)) rfl (by decide) rfl ?_
      refine V.bipush (v := nI 81) dX8_back_46 (by decide) ?_
      refine V.iload_n dX8_back_48 rfl ?_
      first | refine V.imulN dX8_back_49 ?_ | refine V.imul dX8_back_49 ?_
      refine V.bipush (v := nI 36) dX8_back_50 (by decide) ?_
      first | refine V.iaddN dX8_back_52 ?_ | refine V.iadd dX8_back_52 ?_
      refine V.aload_n dX8_back_53 rfl ?_
      refine V.getf (ci := 7) (k := 1) (C := RX8) (T := TX8) (N := 37) dX8_back_54 lfX8_13 inX8 rfl (by first | assumption | exact hI _ (by omega)) rfl (by decide) rfl ?_
      refine V.iconst (v := nI 0) dX8_back_57 rfl ?_
      refine V.bipush (v := nI 36) dX8_back_58 (by decide) ?_
      refine V.callS dX8_back_60 (c_X8_bring (a := 147) (i := 81 * x + 36) (b := 144) (j := 0) (n := 36) (na := 162) (nb := 36) (hI _ (by decide)) (hI _ (by decide)) rfl rfl (by omega) (by decide) (Or.inl (by decide))) lkX8_112 st_X8_bring cd_X8_bring ini_X8 hd_X8_bring ⟨Nat.le_of_ble_eq_true rfl, Nat.le_of_ble_eq_true rfl⟩ rfl (Nat.le_of_ble_eq_true rfl) (V.kkN ?_)
      refine V.aload_n dX8_back_63 rfl ?_
      refine V.getf (ci := 7) (k := 5) (C := RX8) (T := TX8) (N := 37) dX8_back_64 lfX8_22 inX8 rfl (by first | assumption | exact hI _ (by omega)) rfl (by decide) rfl ?_
      refine V.bipush (v := nI 81) dX8_back_67 (by decide) ?_
      refine V.iload_n dX8_back_69 rfl ?_
      first | refine V.imulN dX8_back_70 ?_ | refine V.imul dX8_back_70 ?_
      refine V.bipush (v := nI 72) dX8_back_71 (by decide) ?_
      first | refine V.iaddN dX8_back_73 ?_ | refine V.iadd dX8_back_73 ?_
      refine V.aload_n dX8_back_74 rfl ?_
      refine V.getf (ci := 7) (k := 2) (C := RX8) (T := TX8) (N := 37) dX8_back_75 lfX8_16 inX8 rfl (by first | assumption | exact hI _ (by omega)) rfl (by decide) rfl ?_
      refine V.iconst (v := nI 0) dX8_back_78 rfl ?_
      refine V.bipush (v := nI 9) dX8_back_79 (by decide) ?_
      refine V.callS dX8_back_81 (c_X8_bring (a := 147) (i := 81 * x + 72) (b := 145) (j := 0) (n := 9) (na := 162) (nb := 9) (hI _ (by decide)) (hI _ (by decide)) rfl rfl (by omega) (by decide) (Or.inl (by decide))) lkX8_112 st_X8_bring cd_X8_bring ini_X8 hd_X8_bring ⟨Nat.le_of_ble_eq_true rfl, Nat.le_of_ble_eq_true rfl⟩ rfl (Nat.le_of_ble_eq_true rfl) (V.kkN ?_)
      refine V.aload_n dX8_back_84 rfl ?_
      refine V.iconst (v := nI 0) dX8_back_85 rfl ?_
      refine V.putf (ci := 7) (k := 4) (C := RX8) (T := TX8) (N := 37) (ty := .int) tyX8 dX8_back_86 lfX8_270 inX8 tyX8_ok nmX8 rfl (by first | assumption | exact hI _ (by omega)) rfl (by decide) rfl rfl rfl rfl (Nat.le_of_ble_eq_true rfl) rfl ?_
      refine V.aload_n dX8_back_89 rfl ?_
      refine V.callV (ci := 7) (T := TX8) (N := 37) dX8_back_90 (c_X8_many hI) lkX8_280 im_X8_many se_X8_many cd_X8_many ini_X8 rfl (by first | assumption | exact hI _ (by omega)) rfl hd_X8_many ⟨Nat.le_of_ble_eq_true rfl, Nat.le_of_ble_eq_true rfl⟩ rfl (Nat.le_of_ble_eq_true rfl) (V.kkF ?_)
      refine V.iret dX8_back_93 ?_
      generalize hM3 : mset (brg (brg (brg M 147 (81 * x) 143 0 36) 147 (81 * x + 36) 144 0 36) 147 (81 * x + 72) 145 0 9) 142 4 _ = M3
      have k3 : keep (fun j => j = 142 ∨ j = 143 ∨ j = 144 ∨ j = 145) M M3 := by
        rw [← hM3]; exact ((((keep.rf (P := fun j => j = 142 ∨ j = 143 ∨ j = 144 ∨ j = 145)).br (by omega)).br (by omega)).br (by omega)).ms (by omega)
      obtain ⟨⟨a1, a2, a3⟩, b, ⟨c1, c2, c3, c4⟩, d⟩ := id h
      have ep : eq9 (M3 145) p := by
        rw [← hM3, mset_ne (by decide)]
        refine brg_0.tr ?_
        rw [brg_ne (by decide), brg_ne (by decide)]; exact e.2.2
      refine ⟨by rw [fsz_cg ep 9 (by decide)], ⟨⟨a1, ?_, by rw [k3 149 (by omega)]; exact a3⟩, fun r hr => ⟨fun z hz => ?_, fun z hz => ?_⟩, ⟨ep, Nat.zero_le _, ?_, fun i hi => absurd hi (Nat.not_lt_zero _)⟩, fun q hq => (d q hq).kp (k3 147 (by omega)) (k3 148 (by omega))⟩, k3.wk (fun j hj => by unfold mP; omega)⟩
      · rw [← hM3, mset_nat (by decide), brg_ne (by decide), brg_ne (by decide), brg_ne (by decide)]; exact a2
      · show M3 143 (9 * r + z) = (if r < 4 then G r else A.2.1 r) z
        rw [if_pos hr, ← hM3, mset_ne (by decide), brg_ne (by decide), brg_ne (by decide), show 9 * r + z = 0 + (9 * r + z) by omega, brg_in (by omega), ← Nat.add_assoc]
        exact (e.2.1 r hr).1 z hz
      · show M3 144 (9 * r + z) = (if r < 4 then F r else A.2.2.1 r) z
        rw [if_pos hr, ← hM3, mset_ne (by decide), brg_ne (by decide), show 9 * r + z = 0 + (9 * r + z) by omega, brg_in (by omega), brg_ne (by decide), ← Nat.add_assoc]
        exact (e.2.1 r hr).2 z hz
      · rw [← hM3, mset_at]; rfl
    · omega
  · cases h1
theorem m_count_3 {g : Gl} {M : Mem} {x : Int32} (hz : isN x 7 = false) : Ct g yX8_count cX8_count 2 (some .int) 1 [.ref (g.2.2.2.1 142), .int x] M (fun v M' => v = some (.int (-3)) ∧ M' = M) := by
  refine Ct.ofV (by decide) (Nat.le_of_ble_eq_true rfl) (by simp [Value.category]) (fun κ => ?_)
  refine V.iload_n dX8_count_0 rfl ?_
  refine V.iconst (v := nI 0) dX8_count_1 rfl ?_
  refine V.bipush (v := nI 6) dX8_count_2 (by decide) ?_
  refine V.callS dX8_count_4 (c_X8_in) lkX8_104 st_X8_in cd_X8_in ini_X8 hd_X8_in ⟨Nat.le_of_ble_eq_true rfl, Nat.le_of_ble_eq_true rfl⟩ rfl (Nat.le_of_ble_eq_true rfl) (V.kkF ?_)
  rw [in_isN (by decide), hz]
  refine V.if_neB (tgt := 13) dX8_count_7 (by decide) (fun h1 => ?_) (fun h1 => ?_)
  · cases h1
  · refine V.bipush (v := -3) dX8_count_10 (by decide) ?_
    refine V.iret dX8_count_12 ?_
    exact ⟨rfl, rfl⟩
theorem m_count0 {g : Gl} {M : Mem} {A : Ab} (hI : ∀ i, 142 ≤ i ∧ i < 174 → i ∈ g.2.2.2.2) (h : Rm A M) : Ct g yX8_count cX8_count 2 (some .int) 1 [.ref (g.2.2.2.1 142), .int (nI 0)] M (fun v M' => v = some (.int (fdeg A.2.2.2.1 9)) ∧ M' = M) := by
  refine Ct.ofV (by decide) (Nat.le_of_ble_eq_true rfl) (by simp [Value.category]) (fun κ => ?_)
  refine V.iload_n dX8_count_0 rfl ?_
  refine V.iconst (v := nI 0) dX8_count_1 rfl ?_
  refine V.bipush (v := nI 6) dX8_count_2 (by decide) ?_
  refine V.callS dX8_count_4 (c_X8_in) lkX8_104 st_X8_in cd_X8_in ini_X8 hd_X8_in ⟨Nat.le_of_ble_eq_true rfl, Nat.le_of_ble_eq_true rfl⟩ rfl (Nat.le_of_ble_eq_true rfl) (V.kkF ?_)
  rw [in_isN (by decide), isN_nI (by decide) (by decide)]
  refine V.if_neB (tgt := 13) dX8_count_7 (by decide) (fun h1 => ?_) (fun h1 => ?_)
  · refine V.iload_n dX8_count_13 rfl ?_
    refine V.if_neN (tgt := 24) dX8_count_14 (by decide) (by omega) (fun h2 => ?_) (fun h2 => ?_)
    · omega
    · refine V.aload_n dX8_count_17 rfl ?_
      refine V.callV (ci := 7) (T := TX8) (N := 37) dX8_count_18 (c_X8_degree hI) lkX8_283 im_X8_degree se_X8_degree cd_X8_degree ini_X8 rfl (by first | assumption | exact hI _ (by omega)) rfl hd_X8_degree ⟨Nat.le_of_ble_eq_true rfl, Nat.le_of_ble_eq_true rfl⟩ rfl (Nat.le_of_ble_eq_true rfl) (V.kkF ?_)
      refine V.goto (tgt := 55) dX8_count_21 (by decide) ?_
      refine V.iret dX8_count_55 ?_
      exact ⟨by rw [fdeg_cg h.2.2.1.1 9 (by decide)], rfl⟩
  · cases h1
theorem m_count1 {g : Gl} {M : Mem} {A : Ab} (hI : ∀ i, 142 ≤ i ∧ i < 174 → i ∈ g.2.2.2.2) (h : Rm A M) : Ct g yX8_count cX8_count 2 (some .int) 1 [.ref (g.2.2.2.1 142), .int (nI 1)] M (fun v M' => v = some (.int (nI A.2.2.2.2.1.length)) ∧ M' = M) := by
  refine Ct.ofV (by decide) (Nat.le_of_ble_eq_true rfl) (by simp [Value.category]) (fun κ => ?_)
  refine V.iload_n dX8_count_0 rfl ?_
  refine V.iconst (v := nI 0) dX8_count_1 rfl ?_
  refine V.bipush (v := nI 6) dX8_count_2 (by decide) ?_
  refine V.callS dX8_count_4 (c_X8_in) lkX8_104 st_X8_in cd_X8_in ini_X8 hd_X8_in ⟨Nat.le_of_ble_eq_true rfl, Nat.le_of_ble_eq_true rfl⟩ rfl (Nat.le_of_ble_eq_true rfl) (V.kkF ?_)
  rw [in_isN (by decide), isN_nI (by decide) (by decide)]
  refine V.if_neB (tgt := 13) dX8_count_7 (by decide) (fun h1 => ?_) (fun h1 => ?_)
  · refine V.iload_n dX8_count_13 rfl ?_
    refine V.if_neN (tgt := 24) dX8_count_14 (by decide) (by omega) (fun h2 => ?_) (fun h2 => ?_)
    · refine V.iload_n dX8_count_24 rfl ?_
      refine V.iconst (v := nI 1) dX8_count_25 rfl ?_
      refine V.neN (tgt := 36) dX8_count_26 (by decide) (by omega) (by omega) (fun h3 => ?_) (fun h3 => ?_)
      · omega
      · refine V.aload_n dX8_count_29 rfl ?_
        refine V.getf (ci := 7) (k := 4) (C := RX8) (T := TX8) (N := 37) dX8_count_30 lfX8_270 inX8 rfl (by first | assumption | exact hI _ (by omega)) rfl (by decide) rfl ?_
        rw [h.2.2.1.2.2.1]
        refine V.goto (tgt := 55) dX8_count_33 (by decide) ?_
        refine V.iret dX8_count_55 ?_
        exact ⟨rfl, rfl⟩
    · omega
  · cases h1
theorem m_count2 {g : Gl} {M : Mem} {A : Ab} (hI : ∀ i, 142 ≤ i ∧ i < 174 → i ∈ g.2.2.2.2) (h : Rm A M) : Ct g yX8_count cX8_count 2 (some .int) 1 [.ref (g.2.2.2.1 142), .int (nI 2)] M (fun v M' => v = some (.int (nI A.1.1)) ∧ M' = M) := by
  refine Ct.ofV (by decide) (Nat.le_of_ble_eq_true rfl) (by simp [Value.category]) (fun κ => ?_)
  refine V.iload_n dX8_count_0 rfl ?_
  refine V.iconst (v := nI 0) dX8_count_1 rfl ?_
  refine V.bipush (v := nI 6) dX8_count_2 (by decide) ?_
  refine V.callS dX8_count_4 (c_X8_in) lkX8_104 st_X8_in cd_X8_in ini_X8 hd_X8_in ⟨Nat.le_of_ble_eq_true rfl, Nat.le_of_ble_eq_true rfl⟩ rfl (Nat.le_of_ble_eq_true rfl) (V.kkF ?_)
  rw [in_isN (by decide), isN_nI (by decide) (by decide)]
  refine V.if_neB (tgt := 13) dX8_count_7 (by decide) (fun h1 => ?_) (fun h1 => ?_)
  · refine V.iload_n dX8_count_13 rfl ?_
    refine V.if_neN (tgt := 24) dX8_count_14 (by decide) (by omega) (fun h2 => ?_) (fun h2 => ?_)
    · refine V.iload_n dX8_count_24 rfl ?_
      refine V.iconst (v := nI 1) dX8_count_25 rfl ?_
      refine V.neN (tgt := 36) dX8_count_26 (by decide) (by omega) (by omega) (fun h3 => ?_) (fun h3 => ?_)
      · refine V.iload_n dX8_count_36 rfl ?_
        refine V.iconst (v := nI 2) dX8_count_37 rfl ?_
        refine V.neN (tgt := 48) dX8_count_38 (by decide) (by omega) (by omega) (fun h4 => ?_) (fun h4 => ?_)
        · omega
        · refine V.aload_n dX8_count_41 rfl ?_
          refine V.getf (ci := 7) (k := 8) (C := RX8) (T := TX8) (N := 37) dX8_count_42 lfX8_144 inX8 rfl (by first | assumption | exact hI _ (by omega)) rfl (by decide) rfl ?_
          rw [h.1.2.1]
          refine V.goto (tgt := 55) dX8_count_45 (by decide) ?_
          refine V.iret dX8_count_55 ?_
          exact ⟨rfl, rfl⟩
      · omega
    · omega
  · cases h1
theorem m_count {g : Gl} {M : Mem} {A : Ab} {r : Nat} (hI : ∀ i, 142 ≤ i ∧ i < 174 → i ∈ g.2.2.2.2) (h : Rm A M) (hr : r < 4) : Ct g yX8_count cX8_count 2 (some .int) 1 [.ref (g.2.2.2.1 142), .int (nI (r + 3))] M (fun v M' => v = some (.int (fsec (A.2.2.1 r) 7)) ∧ M' = M) := by
  refine Ct.ofV (by decide) (Nat.le_of_ble_eq_true rfl) (by simp [Value.category]) (fun κ => ?_)
  refine V.iload_n dX8_count_0 rfl ?_
  refine V.iconst (v := nI 0) dX8_count_1 rfl ?_
  refine V.bipush (v := nI 6) dX8_count_2 (by decide) ?_
  refine V.callS dX8_count_4 (c_X8_in) lkX8_104 st_X8_in cd_X8_in ini_X8 hd_X8_in ⟨Nat.le_of_ble_eq_true rfl, Nat.le_of_ble_eq_true rfl⟩ rfl (Nat.le_of_ble_eq_true rfl) (V.kkF ?_)
  rw [in_isN (by decide), isN_nI (by decide) (show r + 3 < 6 + 1 by omega)]
  refine V.if_neB (tgt := 13) dX8_count_7 (by decide) (fun h1 => ?_) (fun h1 => ?_)
  · refine V.iload_n dX8_count_13 rfl ?_
    refine V.if_neN (tgt := 24) dX8_count_14 (by decide) (by omega) (fun h2 => ?_) (fun h2 => ?_)
    · refine V.iload_n dX8_count_24 rfl ?_
      refine V.iconst (v := nI 1) dX8_count_25 rfl ?_
      refine V.neN (tgt := 36) dX8_count_26 (by decide) (by omega) (by omega) (fun h3 => ?_) (fun h3 => ?_)
      · refine V.iload_n dX8_count_36 rfl ?_
        refine V.iconst (v := nI 2) dX8_count_37 rfl ?_
        refine V.neN (tgt := 48) dX8_count_38 (by decide) (by omega) (by omega) (fun h4 => ?_) (fun h4 => ?_)
        · refine V.aload_n dX8_count_48 rfl ?_
          refine V.iload_n dX8_count_49 rfl ?_
          refine V.iconst (v := nI 3) dX8_count_50 rfl ?_
          refine V.isub dX8_count_51 ?_
          rw [show nI (r + 3) - nI 3 = nI r by rw [← nI_add, Int32.add_sub_cancel]]
          refine V.callV (ci := 7) (T := TX8) (N := 37) dX8_count_52 (c_X8_leastOf hI hr) lkX8_286 im_X8_leastOf se_X8_leastOf cd_X8_leastOf ini_X8 rfl (by first | assumption | exact hI _ (by omega)) rfl hd_X8_leastOf ⟨Nat.le_of_ble_eq_true rfl, Nat.le_of_ble_eq_true rfl⟩ rfl (Nat.le_of_ble_eq_true rfl) (V.kkF ?_)
          refine V.iret dX8_count_55 ?_
          exact ⟨by rw [fsec_cg (h.f hr) 7 (by decide)], rfl⟩
        · omega
      · omega
    · omega
  · cases h1

