theorem c_X7_isPower {g : Gl} {M : Mem} {x : Int32} : Ct g yX7_isPower cX7_isPower 1 (some .boolean) 0 [.int x] M (fun v M' => v = some (.int (nI (isN x 9).toNat)) ∧ M' = M) := by
  refine Ct.ofV (by decide) (Nat.le_of_ble_eq_true rfl) (by simp [Value.category]) (fun κ => ?_)
  refine V.iload_n dX7_isPower_0 rfl ?_
  refine V.if_lt (tgt := 14) dX7_isPower_1 (by decide) (fun h1 => ?_) (fun h1 => ?_)
  · refine V.iconst (v := nI 0) dX7_isPower_14 rfl ?_
    refine V.zret dX7_isPower_15 rfl ?_
    exact ⟨by rw [isN_0 h1]; rfl, rfl⟩
  · refine V.iload_n dX7_isPower_4 rfl ?_
    refine V.bipush (v := nI 8) dX7_isPower_5 (by decide) ?_
    refine V.icmp_gt (tgt := 14) dX7_isPower_7 (by decide) (fun h2 => ?_) (fun h2 => ?_)
    · refine V.iconst (v := nI 0) dX7_isPower_14 rfl ?_
      refine V.zret dX7_isPower_15 rfl ?_
      refine ⟨?_, rfl⟩
      cases hb : isN x 9
      · rfl
      · obtain ⟨j, hj, rfl⟩ := isN_yes (by decide) hb
        exact absurd h2 (nI_nlt (by omega) (by omega))
    · refine V.iconst (v := nI 1) dX7_isPower_10 rfl ?_
      refine V.goto (tgt := 15) dX7_isPower_11 (by decide) ?_
      refine V.zret dX7_isPower_15 rfl ?_
      exact ⟨by rw [isN_gt (by decide) h1 h2]; rfl, rfl⟩
theorem c_X7_isKeptPlace {g : Gl} {M : Mem} {x : Int32} : Ct g yX7_isKeptPlace cX7_isKeptPlace 1 (some .boolean) 0 [.int x] M (fun v M' => v = some (.int (nI (isN x 2).toNat)) ∧ M' = M) := by
  refine Ct.ofV (by decide) (Nat.le_of_ble_eq_true rfl) (by simp [Value.category]) (fun κ => ?_)
  refine V.iload_n dX7_isKeptPlace_0 rfl ?_
  refine V.if_lt (tgt := 13) dX7_isKeptPlace_1 (by decide) (fun h1 => ?_) (fun h1 => ?_)
  · refine V.iconst (v := nI 0) dX7_isKeptPlace_13 rfl ?_
    refine V.zret dX7_isKeptPlace_14 rfl ?_
    exact ⟨by rw [isN_0 h1]; rfl, rfl⟩
  · refine V.iload_n dX7_isKeptPlace_4 rfl ?_
    refine V.iconst (v := nI 2) dX7_isKeptPlace_5 rfl ?_
    refine V.icmp_ge (tgt := 13) dX7_isKeptPlace_6 (by decide) (fun h2 => ?_) (fun h2 => ?_)
    · refine V.iconst (v := nI 0) dX7_isKeptPlace_13 rfl ?_
      refine V.zret dX7_isKeptPlace_14 rfl ?_
      exact ⟨by rw [isN_1 h2]; rfl, rfl⟩
    · refine V.iconst (v := nI 1) dX7_isKeptPlace_9 rfl ?_
      refine V.goto (tgt := 14) dX7_isKeptPlace_10 (by decide) ?_
      refine V.zret dX7_isKeptPlace_14 rfl ?_
      exact ⟨by rw [isN_2 h1 h2]; rfl, rfl⟩
theorem k_write_3 {g : Gl} {M : Mem} {x : Int32} (h : isN x 256 = false) : Ct g yX7_write cX7_write 2 (some .int) 1 [.ref (g.2.2.2.1 0), .int x] M (fun v M' => v = some (.int (-3)) ∧ M' = M) := by
  refine Ct.ofV (by decide) (Nat.le_of_ble_eq_true rfl) (by simp [Value.category]) (fun κ => ?_)
  refine V.iload_n dX7_write_0 rfl ?_
  refine V.if_lt (tgt := 11) dX7_write_1 (by decide) (fun h1 => ?_) (fun h1 => ?_)
  · refine V.bipush (v := -3) dX7_write_11 (by decide) ?_
    refine V.iret dX7_write_13 ?_
    exact ⟨rfl, rfl⟩
  · refine V.iload_n dX7_write_4 rfl ?_
    refine V.sipush (v := nI 256) dX7_write_5 (by decide) ?_
    refine V.icmp_lt (tgt := 14) dX7_write_8 (by decide) (fun h2 => ?_) (fun h2 => ?_)
    · rw [isN_lt h1 h2] at h; cases h
    · refine V.bipush (v := -3) dX7_write_11 (by decide) ?_
      refine V.iret dX7_write_13 ?_
      exact ⟨rfl, rfl⟩
theorem k_write_5 {g : Gl} {M : Mem} {A : Ab} {x : Nat} (hI : ∀ i, i < 142 → i ∈ g.2.2.2.2) (h : Rc A M) (hx : x < 256) (hn : A.1.1 = 120) : Ct g yX7_write cX7_write 2 (some .int) 1 [.ref (g.2.2.2.1 0), .int (nI x)] M (fun v M' => v = some (.int (-5)) ∧ M' = M) := by
  have e1 := h.2.1.2.1
  rw [hn] at e1
  refine Ct.ofV (by decide) (Nat.le_of_ble_eq_true rfl) (by simp [Value.category]) (fun κ => ?_)
  refine V.iload_n dX7_write_0 rfl ?_
  refine V.if_lt (tgt := 11) dX7_write_1 (by decide) (fun h1 => ?_) (fun h1 => ?_)
  · exact absurd h1 (nI_pos (by omega))
  · refine V.iload_n dX7_write_4 rfl ?_
    refine V.sipush (v := nI 256) dX7_write_5 (by decide) ?_
    refine V.ltN (tgt := 14) dX7_write_8 (by decide) (by omega) (by omega) (fun h2 => ?_) (fun h2 => ?_)
    · refine V.aload_n dX7_write_14 rfl ?_
      refine V.getf (ci := 6) (k := 1) (C := RX7) (T := TX7) (N := 10) dX7_write_15 lfX7_19 inX7 rfl (by first | assumption | exact hI _ (by omega)) rfl (by decide) rfl ?_
      refine V.iload_n dX7_write_18 rfl ?_
      refine V.callV (ci := 5) (T := TX6) (N := 8) dX7_write_19 (c_X6_append_0 (fun i h => hI i (by omega)) e1) lkX7_66 im_X6_append se_X6_append cd_X6_append ini_X6 rfl (by first | assumption | exact hI _ (by omega)) rfl hd_X6_append ⟨Nat.le_of_ble_eq_true rfl, Nat.le_of_ble_eq_true rfl⟩ rfl (Nat.le_of_ble_eq_true rfl) (V.kkF ?_)
      refine V.if_eqN (tgt := 35) dX7_write_22 (by decide) (by omega) (fun h3 => ?_) (fun h3 => ?_)
      · refine V.bipush (v := -5) dX7_write_35 (by decide) ?_
        refine V.iret dX7_write_37 ?_
        exact ⟨rfl, rfl⟩
      · omega
    · omega
theorem k_write {g : Gl} {M : Mem} {A : Ab} {x : Nat} (hI : ∀ i, i < 142 → i ∈ g.2.2.2.2) (h : Rc A M) (hx : x < 256) (hn : A.1.1 < 120) : Ct g yX7_write cX7_write 2 (some .int) 1 [.ref (g.2.2.2.1 0), .int (nI x)] M (fun v M' => v = some (.int (nI (A.1.1 + 1))) ∧ Rc ((A.1.1 + 1, upd A.1.2 A.1.1 (nI x)), A.2) M' ∧ keep cP M M') := by
  obtain ⟨c1, ⟨c2a, c2b, c2c⟩, c3, c4, c5⟩ := id h
  refine Ct.ofV (by decide) (Nat.le_of_ble_eq_true rfl) (by simp [Value.category]) (fun κ => ?_)
  refine V.iload_n dX7_write_0 rfl ?_
  refine V.if_lt (tgt := 11) dX7_write_1 (by decide) (fun h1 => ?_) (fun h1 => ?_)
  · exact absurd h1 (nI_pos (by omega))
  · refine V.iload_n dX7_write_4 rfl ?_
    refine V.sipush (v := nI 256) dX7_write_5 (by decide) ?_
    refine V.ltN (tgt := 14) dX7_write_8 (by decide) (by omega) (by omega) (fun h2 => ?_) (fun h2 => ?_)
    · refine V.aload_n dX7_write_14 rfl ?_
      refine V.getf (ci := 6) (k := 1) (C := RX7) (T := TX7) (N := 10) dX7_write_15 lfX7_19 inX7 rfl (by first | assumption | exact hI _ (by omega)) rfl (by decide) rfl ?_
      refine V.iload_n dX7_write_18 rfl ?_
      refine V.callV (ci := 5) (T := TX6) (N := 8) dX7_write_19 (c_X6_append_1 (fun i h => hI i (by omega)) hn c2b) lkX7_66 im_X6_append se_X6_append cd_X6_append ini_X6 rfl (by first | assumption | exact hI _ (by omega)) rfl hd_X6_append ⟨Nat.le_of_ble_eq_true rfl, Nat.le_of_ble_eq_true rfl⟩ rfl (Nat.le_of_ble_eq_true rfl) (V.kkF ?_)
      refine V.if_eqN (tgt := 35) dX7_write_22 (by decide) (by omega) (fun h3 => ?_) (fun h3 => ?_)
      · omega
      · refine V.aload_n dX7_write_25 rfl ?_
        refine V.getf (ci := 6) (k := 1) (C := RX7) (T := TX7) (N := 10) dX7_write_26 lfX7_19 inX7 rfl (by first | assumption | exact hI _ (by omega)) rfl (by decide) rfl ?_
        refine V.getf (ci := 5) (k := 3) (C := RX6) (T := TX6) (N := 8) dX7_write_29 lfX7_70 inX6 rfl (by first | assumption | exact hI _ (by omega)) rfl (by decide) rfl ?_
        rw [mset_at]
        refine V.goto (tgt := 37) dX7_write_32 (by decide) ?_
        refine V.iret dX7_write_37 ?_
        have k : keep (fun j => j = 13 ∨ j = 10) M (mset (mset M 13 A.1.1 (nI x)) 10 3 (nI (A.1.1 + 1))) := ((keep.rf (P := fun j => j = 13 ∨ j = 10)).ms (Or.inl rfl)).ms (Or.inr rfl)
        refine ⟨rfl, ⟨c1.kp (fun j h1 h2 => k j (by omega)), ⟨by show A.1.1 + 1 ≤ 120; omega, by rw [mset_at], ?_⟩, fun r hr => (c3 r hr).kp (fun j hj => k j (by omega)), c4.kp (fun j h1 h2 => k j (by omega)), fun q hq => (c5 q hq).kp hq (fun j h1 h2 => k j (by omega))⟩, k.wk (fun j hj => by unfold cP; omega)⟩
        rw [mset_ne (by decide), mset_self, c2c]
    · omega
theorem k_erase {g : Gl} {M : Mem} {A : Ab} (hI : ∀ i, i < 142 → i ∈ g.2.2.2.2) (h : Rc A M) : Ct g yX7_erase cX7_erase 2 (some .int) 1 [.ref (g.2.2.2.1 0)] M (fun v M' => v = some (.int (nI A.1.1)) ∧ Rc ((0, A.1.2), A.2) M' ∧ keep cP M M') := by
  obtain ⟨c1, ⟨c2a, c2b, c2c⟩, c3, c4, c5⟩ := id h
  refine Ct.ofV (by decide) (Nat.le_of_ble_eq_true rfl) (by simp [Value.category]) (fun κ => ?_)
  refine V.aload_n dX7_erase_0 rfl ?_
  refine V.getf (ci := 6) (k := 1) (C := RX7) (T := TX7) (N := 10) dX7_erase_1 lfX7_19 inX7 rfl (by first | assumption | exact hI _ (by omega)) rfl (by decide) rfl ?_
  refine V.getf (ci := 5) (k := 3) (C := RX6) (T := TX6) (N := 8) dX7_erase_4 lfX7_70 inX6 rfl (by first | assumption | exact hI _ (by omega)) rfl (by decide) rfl ?_
  refine V.istore_n dX7_erase_7 (by decide) ?_
  refine V.aload_n dX7_erase_8 rfl ?_
  refine V.getf (ci := 6) (k := 1) (C := RX7) (T := TX7) (N := 10) dX7_erase_9 lfX7_19 inX7 rfl (by first | assumption | exact hI _ (by omega)) rfl (by decide) rfl ?_
  refine V.callV (ci := 5) (T := TX6) (N := 8) dX7_erase_12 (c_X6_clear (fun i h => hI i (by omega))) lkX7_74 im_X6_clear se_X6_clear cd_X6_clear ini_X6 rfl (by first | assumption | exact hI _ (by omega)) rfl hd_X6_clear ⟨Nat.le_of_ble_eq_true rfl, Nat.le_of_ble_eq_true rfl⟩ rfl (Nat.le_of_ble_eq_true rfl) (V.kkN ?_)
  refine V.iload_n dX7_erase_15 rfl ?_
  refine V.iret dX7_erase_16 ?_
  have k : keep (fun j => j = 10) M (mset M 10 3 (nI 0)) := (keep.rf (P := fun j => j = 10)).ms rfl
  exact ⟨by rw [c2b], ⟨c1.kp (fun j h1 h2 => k j (by omega)), ⟨Nat.zero_le _, by rw [mset_at], (k 13 (by omega)).trans c2c⟩, fun r hr => (c3 r hr).kp (fun j hj => k j (by omega)), c4.kp (fun j h1 h2 => k j (by omega)), fun q hq => (c5 q hq).kp hq (fun j h1 h2 => k j (by omega))⟩, k.wk (fun j hj => by unfold cP; omega)⟩
theorem k_fault {g : Gl} {M : Mem} {A : Ab} (hI : ∀ i, i < 142 → i ∈ g.2.2.2.2) (h : Rc A M) : Ct g yX7_fault cX7_fault 1 (some .int) 31 [.ref (g.2.2.2.1 0)] M (fun v M' => v = some (.int (pFault A.1.2 A.1.1).1) ∧ Rc A M' ∧ keep cP M M') := by
  obtain ⟨c1, ⟨c2a, c2b, c2c⟩, c3, c4, c5⟩ := id h
  refine Ct.ofV (by decide) (Nat.le_of_ble_eq_true rfl) (by simp [Value.category]) (fun κ => ?_)
  refine V.aload_n dX7_fault_0 rfl ?_
  refine V.getf (ci := 6) (k := 1) (C := RX7) (T := TX7) (N := 10) dX7_fault_1 lfX7_19 inX7 rfl (by first | assumption | exact hI _ (by omega)) rfl (by decide) rfl ?_
  refine V.callV (ci := 5) (T := TX6) (N := 8) dX7_fault_4 (c_X6_firstFault (fun i h => hI i (by omega)) c2a c2c c2b) lkX7_77 im_X6_firstFault se_X6_firstFault cd_X6_firstFault ini_X6 rfl (by first | assumption | exact hI _ (by omega)) rfl hd_X6_firstFault ⟨Nat.le_of_ble_eq_true rfl, Nat.le_of_ble_eq_true rfl⟩ rfl (Nat.le_of_ble_eq_true rfl) (V.kkX (fun M1 q1 => ?_))
  refine V.iret dX7_fault_7 ?_
  exact ⟨rfl, h.kp (q1.2.wk (fun j hj => by unfold scr; unfold tx at hj; omega)) (by rw [q1.1.1, c2b]), q1.2.wk (fun j hj => by unfold cP; unfold tx at hj; omega)⟩
theorem k_read_2 {g : Gl} {M : Mem} {x : Int32} (h : isN x 4 = false) : Ct g yX7_read cX7_read 2 (some .int) 31 [.ref (g.2.2.2.1 0), .int x] M (fun v M' => v = some (.int (-2)) ∧ M' = M) := by
  refine Ct.ofV (by decide) (Nat.le_of_ble_eq_true rfl) (by simp [Value.category]) (fun κ => ?_)
  refine V.iload_n dX7_read_0 rfl ?_
  refine V.callS dX7_read_1 (c_X7_isRow) lkX7_81 st_X7_isRow cd_X7_isRow ini_X7 hd_X7_isRow ⟨Nat.le_of_ble_eq_true rfl, Nat.le_of_ble_eq_true rfl⟩ rfl (Nat.le_of_ble_eq_true rfl) (V.kkF ?_)
  refine V.if_neB (tgt := 10) dX7_read_4 (by decide) (fun h1 => ?_) (fun h1 => ?_)
  · rw [h1] at h; cases h
  · refine V.bipush (v := -2) dX7_read_7 (by decide) ?_
    refine V.iret dX7_read_9 ?_
    exact ⟨rfl, rfl⟩
theorem k_read_4 {g : Gl} {M : Mem} {A : Ab} {r : Nat} (hI : ∀ i, i < 142 → i ∈ g.2.2.2.2) (h : Rc A M) (hr : r < 4) (hf : (pFault A.1.2 A.1.1).1 ≠ -1) : Ct g yX7_read cX7_read 2 (some .int) 31 [.ref (g.2.2.2.1 0), .int (nI r)] M (fun v M' => v = some (.int (-4)) ∧ Rc A M' ∧ keep cP M M') := by
  obtain ⟨c1, ⟨c2a, c2b, c2c⟩, c3, c4, c5⟩ := id h
  refine Ct.ofV (by decide) (Nat.le_of_ble_eq_true rfl) (by simp [Value.category]) (fun κ => ?_)
  refine V.iload_n dX7_read_0 rfl ?_
  refine V.callS dX7_read_1 (c_X7_isRow) lkX7_81 st_X7_isRow cd_X7_isRow ini_X7 hd_X7_isRow ⟨Nat.le_of_ble_eq_true rfl, Nat.le_of_ble_eq_true rfl⟩ rfl (Nat.le_of_ble_eq_true rfl) (V.kkF ?_)
  rw [isN_nI (by decide) hr]
  refine V.if_neB (tgt := 10) dX7_read_4 (by decide) (fun h1 => ?_) (fun h1 => ?_)
  · refine V.aload_n dX7_read_10 rfl ?_
    refine V.getf (ci := 6) (k := 1) (C := RX7) (T := TX7) (N := 10) dX7_read_11 lfX7_19 inX7 rfl (by first | assumption | exact hI _ (by omega)) rfl (by decide) rfl ?_
    refine V.callV (ci := 5) (T := TX6) (N := 8) dX7_read_14 (c_X6_firstFault (fun i h => hI i (by omega)) c2a c2c c2b) lkX7_77 im_X6_firstFault se_X6_firstFault cd_X6_firstFault ini_X6 rfl (by first | assumption | exact hI _ (by omega)) rfl hd_X6_firstFault ⟨Nat.le_of_ble_eq_true rfl, Nat.le_of_ble_eq_true rfl⟩ rfl (Nat.le_of_ble_eq_true rfl) (V.kkX (fun M1 q1 => ?_))
    refine V.iconst (v := -1) dX7_read_17 rfl ?_
    refine V.icmp_eq (tgt := 24) dX7_read_18 (by decide) (fun h2 => ?_) (fun h2 => ?_)
    · exact absurd h2 hf
    · refine V.bipush (v := -4) dX7_read_21 (by decide) ?_
      refine V.iret dX7_read_23 ?_
      exact ⟨rfl, h.kp (q1.2.wk (fun j hj => by unfold scr; unfold tx at hj; omega)) (by rw [q1.1.1, c2b]), q1.2.wk (fun j hj => by unfold cP; unfold tx at hj; omega)⟩
  · cases h1
theorem k_read_6 {g : Gl} {M : Mem} {A : Ab} {r : Nat} (hI : ∀ i, i < 142 → i ∈ g.2.2.2.2) (h : Rc A M) (hr : r < 4) (hf : (pFault A.1.2 A.1.1).1 = -1) (hok : ∀ x ∈ (pFault A.1.2 A.1.1).2, okStep x) (hw : gFit (gRun (M 2) (M 3) (M 4) (pFault A.1.2 A.1.1).2 []) = false) : Ct g yX7_read cX7_read 2 (some .int) 31 [.ref (g.2.2.2.1 0), .int (nI r)] M (fun v M' => v = some (.int (-6)) ∧ Rc A M' ∧ keep cP M M') := by
  obtain ⟨c1, ⟨c2a, c2b, c2c⟩, c3, c4, c5⟩ := id h
  refine Ct.ofV (by decide) (Nat.le_of_ble_eq_true rfl) (by simp [Value.category]) (fun κ => ?_)
  refine V.iload_n dX7_read_0 rfl ?_
  refine V.callS dX7_read_1 (c_X7_isRow) lkX7_81 st_X7_isRow cd_X7_isRow ini_X7 hd_X7_isRow ⟨Nat.le_of_ble_eq_true rfl, Nat.le_of_ble_eq_true rfl⟩ rfl (Nat.le_of_ble_eq_true rfl) (V.kkF ?_)
  rw [isN_nI (by decide) hr]
  refine V.if_neB (tgt := 10) dX7_read_4 (by decide) (fun h1 => ?_) (fun h1 => ?_)
  · refine V.aload_n dX7_read_10 rfl ?_
    refine V.getf (ci := 6) (k := 1) (C := RX7) (T := TX7) (N := 10) dX7_read_11 lfX7_19 inX7 rfl (by first | assumption | exact hI _ (by omega)) rfl (by decide) rfl ?_
    refine V.callV (ci := 5) (T := TX6) (N := 8) dX7_read_14 (c_X6_firstFault (fun i h => hI i (by omega)) c2a c2c c2b) lkX7_77 im_X6_firstFault se_X6_firstFault cd_X6_firstFault ini_X6 rfl (by first | assumption | exact hI _ (by omega)) rfl hd_X6_firstFault ⟨Nat.le_of_ble_eq_true rfl, Nat.le_of_ble_eq_true rfl⟩ rfl (Nat.le_of_ble_eq_true rfl) (V.kkX (fun M1 q1 => ?_))
    refine V.iconst (v := -1) dX7_read_17 rfl ?_
    refine V.icmp_eq (tgt := 24) dX7_read_18 (by decide) (fun h2 => ?_) (fun h2 => ?_)
    · refine V.aload_n dX7_read_24 rfl ?_
      refine V.getf (ci := 6) (k := 2) (C := RX7) (T := TX7) (N := 10) dX7_read_25 lfX7_28 inX7 rfl (by first | assumption | exact hI _ (by omega)) rfl (by decide) rfl ?_
      refine V.aload_n dX7_read_28 rfl ?_
      refine V.getf (ci := 6) (k := 1) (C := RX7) (T := TX7) (N := 10) dX7_read_29 lfX7_19 inX7 rfl (by first | assumption | exact hI _ (by omega)) rfl (by decide) rfl ?_
      refine V.callV (ci := 2) (T := TX3) (N := 4) dX7_read_32 (c_X3_reckon (fun i h => hI i (by omega)) q1.1.2.1 q1.1.2.2.1 q1.1.2.2.2 hok) lkX7_84 im_X3_reckon se_X3_reckon cd_X3_reckon ini_X3 rfl (by first | assumption | exact hI _ (by omega)) rfl hd_X3_reckon ⟨Nat.le_of_ble_eq_true rfl, Nat.le_of_ble_eq_true rfl⟩ rfl (Nat.le_of_ble_eq_true rfl) (V.kkX (fun M2 q2 => ?_))
      rw [q1.2 2 (by unfold tx; omega), q1.2 3 (by unfold tx; omega), q1.2 4 (by unfold tx; omega), hw]
      refine V.if_neB (tgt := 41) dX7_read_35 (by decide) (fun h3 => ?_) (fun h3 => ?_)
      · cases h3
      · refine V.bipush (v := -6) dX7_read_38 (by decide) ?_
        refine V.iret dX7_read_40 ?_
        have k : keep (fun j => tx j ∨ rdP j) M M2 := (q1.2.wk (fun j h => Or.inl h)).tr (q2.1.wk (fun j h => Or.inr h))
        exact ⟨rfl, h.kp (k.wk (fun j hj => by unfold scr; unfold tx rdP at hj; omega)) (by rw [q2.1 10 (by unfold rdP; omega), q1.1.1, c2b]), k.wk (fun j hj => by unfold cP; unfold tx rdP at hj; omega)⟩
    · exact absurd hf h2
  · cases h1
theorem k_read {g : Gl} {M : Mem} {A : Ab} {r : Nat} {G F : Ser} (hI : ∀ i, i < 142 → i ∈ g.2.2.2.2) (h : Rc A M) (hr : r < 4) (hf : (pFault A.1.2 A.1.1).1 = -1) (hok : ∀ x ∈ (pFault A.1.2 A.1.1).2, okStep x) (hw : gFit (gRun (M 2) (M 3) (M 4) (pFault A.1.2 A.1.1).2 []) = true) (hg : gRun (M 2) (M 3) (M 4) (pFault A.1.2 A.1.1).2 [] = some [G, F]) : Ct g yX7_read cX7_read 2 (some .int) 31 [.ref (g.2.2.2.1 0), .int (nI r)] M (fun v M' => v = some (.int (F 1)) ∧ Rc ((0, A.1.2), va_up A.2.1 r G, va_up A.2.2.1 r F, A.2.2.2) M' ∧ keep cP M M') := by
  obtain ⟨c1, ⟨c2a, c2b, c2c⟩, c3, c4, c5⟩ := id h
  have hI9 : ∀ i, 1 ≤ i ∧ i ≤ 9 → i ∈ g.2.2.2.2 := fun i h => hI i (by omega)
  have hI2 : ∀ i, (1 ≤ i ∧ i ≤ 9) ∨ (14 ≤ i ∧ i ≤ 32) → i ∈ g.2.2.2.2 := fun i h => hI i (by omega)
  have hw_r := isRw_of hr
  refine Ct.ofV (by decide) (Nat.le_of_ble_eq_true rfl) (by simp [Value.category]) (fun κ => ?_)
  refine V.iload_n dX7_read_0 rfl ?_
  refine V.callS dX7_read_1 (c_X7_isRow) lkX7_81 st_X7_isRow cd_X7_isRow ini_X7 hd_X7_isRow ⟨Nat.le_of_ble_eq_true rfl, Nat.le_of_ble_eq_true rfl⟩ rfl (Nat.le_of_ble_eq_true rfl) (V.kkF ?_)
  rw [isN_nI (by decide) hr]
  refine V.if_neB (tgt := 10) dX7_read_4 (by decide) (fun h1 => ?_) (fun h1 => ?_)
  · refine V.aload_n dX7_read_10 rfl ?_
    refine V.getf (ci := 6) (k := 1) (C := RX7) (T := TX7) (N := 10) dX7_read_11 lfX7_19 inX7 rfl (by first | assumption | exact hI _ (by omega)) rfl (by decide) rfl ?_
    refine V.callV (ci := 5) (T := TX6) (N := 8) dX7_read_14 (c_X6_firstFault (fun i h => hI i (by omega)) c2a c2c c2b) lkX7_77 im_X6_firstFault se_X6_firstFault cd_X6_firstFault ini_X6 rfl (by first | assumption | exact hI _ (by omega)) rfl hd_X6_firstFault ⟨Nat.le_of_ble_eq_true rfl, Nat.le_of_ble_eq_true rfl⟩ rfl (Nat.le_of_ble_eq_true rfl) (V.kkX (fun M1 q1 => ?_))
    refine V.iconst (v := -1) dX7_read_17 rfl ?_
    refine V.icmp_eq (tgt := 24) dX7_read_18 (by decide) (fun h2 => ?_) (fun h2 => ?_)
    · refine V.aload_n dX7_read_24 rfl ?_
      refine V.getf (ci := 6) (k := 2) (C := RX7) (T := TX7) (N := 10) dX7_read_25 lfX7_28 inX7 rfl (by first | assumption | exact hI _ (by omega)) rfl (by decide) rfl ?_
      refine V.aload_n dX7_read_28 rfl ?_
      refine V.getf (ci := 6) (k := 1) (C := RX7) (T := TX7) (N := 10) dX7_read_29 lfX7_19 inX7 rfl (by first | assumption | exact hI _ (by omega)) rfl (by decide) rfl ?_
      refine V.callV (ci := 2) (T := TX3) (N := 4) dX7_read_32 (c_X3_reckon (fun i h => hI i (by omega)) q1.1.2.1 q1.1.2.2.1 q1.1.2.2.2 hok) lkX7_84 im_X3_reckon se_X3_reckon cd_X3_reckon ini_X3 rfl (by first | assumption | exact hI _ (by omega)) rfl hd_X3_reckon ⟨Nat.le_of_ble_eq_true rfl, Nat.le_of_ble_eq_true rfl⟩ rfl (Nat.le_of_ble_eq_true rfl) (V.kkX (fun M2 q2 => ?_))
      have e2 : M1 2 = M 2 := q1.2 2 (by unfold tx; omega)
      have e3 : M1 3 = M 3 := q1.2 3 (by unfold tx; omega)
      have e4 : M1 4 = M 4 := q1.2 4 (by unfold tx; omega)
      rw [e2, e3, e4, hw]
      refine V.if_neB (tgt := 41) dX7_read_35 (by decide) (fun h3 => ?_) (fun h3 => ?_)
      · obtain ⟨k2, q2⟩ := q2
        have hp := q2 [G, F] (by rw [e2, e3, e4]; exact hg)
        have k : keep (fun j => tx j ∨ rdP j) M M2 := (q1.2.wk (fun j h => Or.inl h)).tr (k2.wk (fun j h => Or.inr h))
        have k3 : keep scr M M2 := k.wk (fun j hj => by unfold scr; unfold tx rdP at hj; omega)
        refine V.aload_n dX7_read_41 rfl ?_
        refine V.getf (ci := 6) (k := 1) (C := RX7) (T := TX7) (N := 10) dX7_read_42 lfX7_19 inX7 rfl (by first | assumption | exact hI _ (by omega)) rfl (by decide) rfl ?_
        refine V.callV (ci := 5) (T := TX6) (N := 8) dX7_read_45 (c_X6_clear (fun i h => hI i (by omega))) lkX7_74 im_X6_clear se_X6_clear cd_X6_clear ini_X6 rfl (by first | assumption | exact hI _ (by omega)) rfl hd_X6_clear ⟨Nat.le_of_ble_eq_true rfl, Nat.le_of_ble_eq_true rfl⟩ rfl (Nat.le_of_ble_eq_true rfl) (V.kkN ?_)
        refine V.aload_n dX7_read_48 rfl ?_
        refine V.getf (ci := 6) (k := 3) (C := RX7) (T := TX7) (N := 10) dX7_read_49 lfX7_34 inX7 rfl (by first | assumption | exact hI _ (by omega)) rfl (by decide) rfl ?_
        refine V.iload_n dX7_read_52 rfl ?_
        refine V.aald (n := 4) (t := 3) dX7_read_53 (by first | assumption | exact hI _ (by omega)) rfl rfl rfl (by decide) (by omega) ?_
        refine V.aload_n dX7_read_54 rfl ?_
        refine V.getf (ci := 6) (k := 2) (C := RX7) (T := TX7) (N := 10) dX7_read_55 lfX7_28 inX7 rfl (by first | assumption | exact hI _ (by omega)) rfl (by decide) rfl ?_
        refine V.callV (ci := 2) (T := TX3) (N := 4) dX7_read_58 (c_X3_toldG hI2) lkX7_88 im_X3_toldG se_X3_toldG cd_X3_toldG ini_X3 rfl (by first | assumption | exact hI _ (by omega)) rfl hd_X3_toldG ⟨Nat.le_of_ble_eq_true rfl, Nat.le_of_ble_eq_true rfl⟩ rfl (Nat.le_of_ble_eq_true rfl) (V.kkA ?_)
        refine V.aload_n dX7_read_61 rfl ?_
        refine V.getf (ci := 6) (k := 2) (C := RX7) (T := TX7) (N := 10) dX7_read_62 lfX7_28 inX7 rfl (by first | assumption | exact hI _ (by omega)) rfl (by decide) rfl ?_
        refine V.callV (ci := 2) (T := TX3) (N := 4) dX7_read_65 (c_X3_toldF hI2) lkX7_92 im_X3_toldF se_X3_toldF cd_X3_toldF ini_X3 rfl (by first | assumption | exact hI _ (by omega)) rfl hd_X3_toldF ⟨Nat.le_of_ble_eq_true rfl, Nat.le_of_ble_eq_true rfl⟩ rfl (Nat.le_of_ble_eq_true rfl) (V.kkA ?_)
        refine V.callV (ci := 4) (T := TX5) (N := 8) dX7_read_68 (c_X5_become hw_r hI9 (fun i h => hI i (by omega)) (hI 16 (by omega)) rfl (hI 17 (by omega)) rfl (by omega) (by omega)) lkX7_95 im_X5_become se_X5_become cd_X5_become ini_X5 rfl (by first | assumption | exact hI _ (by omega)) (cont_row hw_r _) hd_X5_become ⟨Nat.le_of_ble_eq_true rfl, Nat.le_of_ble_eq_true rfl⟩ rfl (Nat.le_of_ble_eq_true rfl) (V.kkX (fun M4 q4 => ?_))
        refine V.iret dX7_read_71 ?_
        obtain ⟨k4, r4, g4, f4⟩ := q4
        have hc0 : Rc ((0, A.1.2), A.2) (mset M2 10 3 (nI 0)) := by
          have kz : keep (fun j => scr j) M (mset M2 10 3 (nI 0)) := k3.ms (by unfold scr; omega)
          exact ⟨c1.kp (fun j h1 h2 => kz j (by unfold scr; omega)), ⟨Nat.zero_le _, by rw [mset_at], (kz 13 (by unfold scr; omega)).trans c2c⟩, fun r hr => (c3 r hr).kp (fun j hj => kz j (by rcases hj with rfl | rfl | ⟨h1, h2, h4⟩; unfold scr; omega; unfold scr; omega; exact scr_row hr ⟨h1, h2⟩)), c4.kp (fun j h1 h2 => kz j (by unfold scr; omega)), fun q hq => (c5 q hq).kp hq (fun j h1 h2 => kz j (by unfold scr; omega))⟩
        have eg : eq9 (mset M2 10 3 (nI 0) 16) G := by rw [mset_ne (by decide)]; exact hp.2.2 0 (by simp)
        have ef : eq9 (mset M2 10 3 (nI 0) 17) F := by rw [mset_ne (by decide)]; exact hp.2.2 1 (by simp)
        refine ⟨by rw [ef 1 (by decide)], hc0.row hr keep.rf rfl k4 r4 (g4.tr eg) (f4.tr ef), ?_⟩
        exact ((k3.wk (P' := cP) (fun j hj => hj.1)).ms (by unfold cP; omega)).tr (k4.wk (fun j hj => by unfold cP; omega))
      · cases h3
    · exact absurd hf h2
  · cases h1
theorem k_compose_2 {g : Gl} {M : Mem} {x y z : Int32} (h : isN x 4 = false ∨ isN y 4 = false ∨ isN z 4 = false) : Ct g yX7_compose cX7_compose 6 (some .int) 6 [.ref (g.2.2.2.1 0), .int x, .int y, .int z] M (fun v M' => v = some (.int (-2)) ∧ M' = M) := by
  refine Ct.ofV (by decide) (Nat.le_of_ble_eq_true rfl) (by simp [Value.category]) (fun κ => ?_)
  refine V.iload_n dX7_compose_0 rfl ?_
  refine V.callS dX7_compose_1 (c_X7_isRow) lkX7_81 st_X7_isRow cd_X7_isRow ini_X7 hd_X7_isRow ⟨Nat.le_of_ble_eq_true rfl, Nat.le_of_ble_eq_true rfl⟩ rfl (Nat.le_of_ble_eq_true rfl) (V.kkF ?_)
  refine V.if_eqB (tgt := 21) dX7_compose_4 (by decide) (fun h1 => ?_) (fun h1 => ?_)
  · refine V.bipush (v := -2) dX7_compose_21 (by decide) ?_
    refine V.iret dX7_compose_23 ?_
    exact ⟨rfl, rfl⟩
  · skip
    refine V.iload_n dX7_compose_7 rfl ?_
    refine V.callS dX7_compose_8 (c_X7_isRow) lkX7_81 st_X7_isRow cd_X7_isRow ini_X7 hd_X7_isRow ⟨Nat.le_of_ble_eq_true rfl, Nat.le_of_ble_eq_true rfl⟩ rfl (Nat.le_of_ble_eq_true rfl) (V.kkF ?_)
    refine V.if_eqB (tgt := 21) dX7_compose_11 (by decide) (fun h2 => ?_) (fun h2 => ?_)
    · refine V.bipush (v := -2) dX7_compose_21 (by decide) ?_
      refine V.iret dX7_compose_23 ?_
      exact ⟨rfl, rfl⟩
    · skip
      refine V.iload_n dX7_compose_14 rfl ?_
      refine V.callS dX7_compose_15 (c_X7_isRow) lkX7_81 st_X7_isRow cd_X7_isRow ini_X7 hd_X7_isRow ⟨Nat.le_of_ble_eq_true rfl, Nat.le_of_ble_eq_true rfl⟩ rfl (Nat.le_of_ble_eq_true rfl) (V.kkF ?_)
      refine V.if_neB (tgt := 24) dX7_compose_18 (by decide) (fun h3 => ?_) (fun h3 => ?_)
      · rcases h with h | h | h
        · rw [h1] at h; cases h
        · rw [h2] at h; cases h
        · rw [h3] at h; cases h
      · refine V.bipush (v := -2) dX7_compose_21 (by decide) ?_
        refine V.iret dX7_compose_23 ?_
        exact ⟨rfl, rfl⟩
theorem k_compose {g : Gl} {M : Mem} {A : Ab} {r s o : Nat} (hI : ∀ i, i < 142 → i ∈ g.2.2.2.2) (h : Rc A M) (hr : r < 4) (hs : s < 4) (ho : o < 4) : Ct g yX7_compose cX7_compose 6 (some .int) 6 [.ref (g.2.2.2.1 0), .int (nI r), .int (nI s), .int (nI o)] M (fun v M' => v = some (.int ((fput (A.2.2.1 s) (A.2.2.1 o)) 1)) ∧ Rc (A.1, va_up A.2.1 r (fprod (fput (A.2.1 s) (A.2.2.1 o)) (A.2.1 o)), va_up A.2.2.1 r (fput (A.2.2.1 s) (A.2.2.1 o)), A.2.2.2) M' ∧ keep cP M M') := by
  have hI9 : ∀ i, 1 ≤ i ∧ i ≤ 9 → i ∈ g.2.2.2.2 := fun i h => hI i (by omega)
  have hw_r := isRw_of hr
  have hJ_r : ∀ i, 34 + 17 * r ≤ i ∧ i < 34 + 17 * r + 17 → i ∈ g.2.2.2.2 := fun i h => hI i (by omega)
  have hw_s := isRw_of hs
  have hJ_s : ∀ i, 34 + 17 * s ≤ i ∧ i < 34 + 17 * s + 17 → i ∈ g.2.2.2.2 := fun i h => hI i (by omega)
  have hw_o := isRw_of ho
  have hJ_o : ∀ i, 34 + 17 * o ≤ i ∧ i < 34 + 17 * o + 17 → i ∈ g.2.2.2.2 := fun i h => hI i (by omega)
  refine Ct.ofV (by decide) (Nat.le_of_ble_eq_true rfl) (by simp [Value.category]) (fun κ => ?_)
  refine V.iload_n dX7_compose_0 rfl ?_
  refine V.callS dX7_compose_1 (c_X7_isRow) lkX7_81 st_X7_isRow cd_X7_isRow ini_X7 hd_X7_isRow ⟨Nat.le_of_ble_eq_true rfl, Nat.le_of_ble_eq_true rfl⟩ rfl (Nat.le_of_ble_eq_true rfl) (V.kkF ?_)
  rw [isN_nI (by decide) hr]
  refine V.if_eqB (tgt := 21) dX7_compose_4 (by decide) (fun qr => ?_) (fun qr => ?_)
  · cases qr
  · skip
    refine V.iload_n dX7_compose_7 rfl ?_
    refine V.callS dX7_compose_8 (c_X7_isRow) lkX7_81 st_X7_isRow cd_X7_isRow ini_X7 hd_X7_isRow ⟨Nat.le_of_ble_eq_true rfl, Nat.le_of_ble_eq_true rfl⟩ rfl (Nat.le_of_ble_eq_true rfl) (V.kkF ?_)
    rw [isN_nI (by decide) hs]
    refine V.if_eqB (tgt := 21) dX7_compose_11 (by decide) (fun qs => ?_) (fun qs => ?_)
    · cases qs
    · skip
      refine V.iload_n dX7_compose_14 rfl ?_
      refine V.callS dX7_compose_15 (c_X7_isRow) lkX7_81 st_X7_isRow cd_X7_isRow ini_X7 hd_X7_isRow ⟨Nat.le_of_ble_eq_true rfl, Nat.le_of_ble_eq_true rfl⟩ rfl (Nat.le_of_ble_eq_true rfl) (V.kkF ?_)
      rw [isN_nI (by decide) ho]
      refine V.if_neB (tgt := 24) dX7_compose_18 (by decide) (fun qo => ?_) (fun qo => ?_)
      · skip
        refine V.aload_n dX7_compose_24 rfl ?_
        refine V.getf (ci := 6) (k := 3) (C := RX7) (T := TX7) (N := 10) dX7_compose_25 lfX7_34 inX7 rfl (by first | assumption | exact hI _ (by omega)) rfl (by decide) rfl ?_
        refine V.iload_n dX7_compose_28 rfl ?_
        refine V.aald (n := 4) (t := 3) dX7_compose_29 (by first | assumption | exact hI _ (by omega)) rfl rfl rfl (by decide) (by omega) ?_
        refine V.astore dX7_compose_30 (by decide) ?_
        refine V.aload_n dX7_compose_32 rfl ?_
        refine V.getf (ci := 6) (k := 3) (C := RX7) (T := TX7) (N := 10) dX7_compose_33 lfX7_34 inX7 rfl (by first | assumption | exact hI _ (by omega)) rfl (by decide) rfl ?_
        refine V.iload_n dX7_compose_36 rfl ?_
        refine V.aald (n := 4) (t := 3) dX7_compose_37 (by first | assumption | exact hI _ (by omega)) rfl rfl rfl (by decide) (by omega) ?_
        refine V.astore dX7_compose_38 (by decide) ?_
        refine V.aload_n dX7_compose_40 rfl ?_
        refine V.getf (ci := 6) (k := 0) (C := RX7) (T := TX7) (N := 10) dX7_compose_41 lfX7_12 inX7 rfl (by first | assumption | exact hI _ (by omega)) rfl (by decide) rfl ?_
        refine V.aload_n dX7_compose_44 rfl ?_
        refine V.getf (ci := 6) (k := 6) (C := RX7) (T := TX7) (N := 10) dX7_compose_45 lfX7_53 inX7 rfl (by first | assumption | exact hI _ (by omega)) rfl (by decide) rfl ?_
        refine V.aload dX7_compose_48 rfl ?_
        refine V.getf (ci := 4) (k := 0) (C := RX5) (T := TX5) (N := 8) dX7_compose_50 lfX7_99 inX5 rfl (by first | assumption | exact hI _ (by omega)) (cont_row hw_s _) (by decide) rfl ?_
        refine V.aload dX7_compose_53 rfl ?_
        refine V.getf (ci := 4) (k := 1) (C := RX5) (T := TX5) (N := 8) dX7_compose_55 lfX7_102 inX5 rfl (by first | assumption | exact hI _ (by omega)) (cont_row hw_o _) (by decide) rfl ?_
        refine V.callV (ci := 3) (T := TX4) (N := 8) dX7_compose_58 (c_X4_putInside (i := 138) (a := 34 + 17 * s + 1) (b := 34 + 17 * o + 2) hI9 (hI _ (by omega)) rfl (hI _ (by omega)) (ial_row hw_s (by omega) (by omega) (by omega)) (hI _ (by omega)) (ial_row hw_o (by omega) (by omega) (by omega)) (by omega) (by omega)) lkX7_105 im_X4_putInside se_X4_putInside cd_X4_putInside ini_X4 rfl (by first | assumption | exact hI _ (by omega)) rfl hd_X4_putInside ⟨Nat.le_of_ble_eq_true rfl, Nat.le_of_ble_eq_true rfl⟩ rfl (Nat.le_of_ble_eq_true rfl) (V.kkN ?_)
        refine V.aload_n dX7_compose_61 rfl ?_
        refine V.getf (ci := 6) (k := 0) (C := RX7) (T := TX7) (N := 10) dX7_compose_62 lfX7_12 inX7 rfl (by first | assumption | exact hI _ (by omega)) rfl (by decide) rfl ?_
        refine V.aload_n dX7_compose_65 rfl ?_
        refine V.getf (ci := 6) (k := 6) (C := RX7) (T := TX7) (N := 10) dX7_compose_66 lfX7_53 inX7 rfl (by first | assumption | exact hI _ (by omega)) rfl (by decide) rfl ?_
        refine V.aload_n dX7_compose_69 rfl ?_
        refine V.getf (ci := 6) (k := 6) (C := RX7) (T := TX7) (N := 10) dX7_compose_70 lfX7_53 inX7 rfl (by first | assumption | exact hI _ (by omega)) rfl (by decide) rfl ?_
        refine V.aload dX7_compose_73 rfl ?_
        refine V.getf (ci := 4) (k := 0) (C := RX5) (T := TX5) (N := 8) dX7_compose_75 lfX7_99 inX5 rfl (by first | assumption | exact hI _ (by omega)) (cont_row hw_o _) (by decide) rfl ?_
        refine V.callV (ci := 3) (T := TX4) (N := 8) dX7_compose_78 (c_X4_multiply (i := 138) (a := 138) (b := 34 + 17 * o + 1) (hI _ (by omega)) rfl (hI _ (by omega)) rfl (hI _ (by omega)) (ial_row hw_o (by omega) (by omega) (by omega))) lkX7_109 im_X4_multiply se_X4_multiply cd_X4_multiply ini_X4 rfl (by first | assumption | exact hI _ (by omega)) rfl hd_X4_multiply ⟨Nat.le_of_ble_eq_true rfl, Nat.le_of_ble_eq_true rfl⟩ rfl (Nat.le_of_ble_eq_true rfl) (V.kkN ?_)
        refine V.aload_n dX7_compose_81 rfl ?_
        refine V.getf (ci := 6) (k := 0) (C := RX7) (T := TX7) (N := 10) dX7_compose_82 lfX7_12 inX7 rfl (by first | assumption | exact hI _ (by omega)) rfl (by decide) rfl ?_
        refine V.aload_n dX7_compose_85 rfl ?_
        refine V.getf (ci := 6) (k := 7) (C := RX7) (T := TX7) (N := 10) dX7_compose_86 lfX7_57 inX7 rfl (by first | assumption | exact hI _ (by omega)) rfl (by decide) rfl ?_
        refine V.aload dX7_compose_89 rfl ?_
        refine V.getf (ci := 4) (k := 1) (C := RX5) (T := TX5) (N := 8) dX7_compose_91 lfX7_102 inX5 rfl (by first | assumption | exact hI _ (by omega)) (cont_row hw_s _) (by decide) rfl ?_
        refine V.aload dX7_compose_94 rfl ?_
        refine V.getf (ci := 4) (k := 1) (C := RX5) (T := TX5) (N := 8) dX7_compose_96 lfX7_102 inX5 rfl (by first | assumption | exact hI _ (by omega)) (cont_row hw_o _) (by decide) rfl ?_
        refine V.callV (ci := 3) (T := TX4) (N := 8) dX7_compose_99 (c_X4_putInside (i := 139) (a := 34 + 17 * s + 2) (b := 34 + 17 * o + 2) hI9 (hI _ (by omega)) rfl (hI _ (by omega)) (ial_row hw_s (by omega) (by omega) (by omega)) (hI _ (by omega)) (ial_row hw_o (by omega) (by omega) (by omega)) (by omega) (by omega)) lkX7_105 im_X4_putInside se_X4_putInside cd_X4_putInside ini_X4 rfl (by first | assumption | exact hI _ (by omega)) rfl hd_X4_putInside ⟨Nat.le_of_ble_eq_true rfl, Nat.le_of_ble_eq_true rfl⟩ rfl (Nat.le_of_ble_eq_true rfl) (V.kkN ?_)
        refine V.aload_n dX7_compose_102 rfl ?_
        refine V.getf (ci := 6) (k := 3) (C := RX7) (T := TX7) (N := 10) dX7_compose_103 lfX7_34 inX7 rfl (by first | assumption | exact hI _ (by omega)) rfl (by decide) rfl ?_
        refine V.iload_n dX7_compose_106 rfl ?_
        refine V.aald (n := 4) (t := 3) dX7_compose_107 (by first | assumption | exact hI _ (by omega)) rfl rfl rfl (by decide) (by omega) ?_
        refine V.aload_n dX7_compose_108 rfl ?_
        refine V.getf (ci := 6) (k := 6) (C := RX7) (T := TX7) (N := 10) dX7_compose_109 lfX7_53 inX7 rfl (by first | assumption | exact hI _ (by omega)) rfl (by decide) rfl ?_
        refine V.aload_n dX7_compose_112 rfl ?_
        refine V.getf (ci := 6) (k := 7) (C := RX7) (T := TX7) (N := 10) dX7_compose_113 lfX7_57 inX7 rfl (by first | assumption | exact hI _ (by omega)) rfl (by decide) rfl ?_
        refine V.callV (ci := 4) (T := TX5) (N := 8) dX7_compose_116 (c_X5_become (a := 138) (b := 139) hw_r hI9 hJ_r (hI _ (by omega)) rfl (hI _ (by omega)) rfl (by omega) (by omega)) lkX7_95 im_X5_become se_X5_become cd_X5_become ini_X5 rfl (by first | assumption | exact hI _ (by omega)) (cont_row hw_r _) hd_X5_become ⟨Nat.le_of_ble_eq_true rfl, Nat.le_of_ble_eq_true rfl⟩ rfl (Nat.le_of_ble_eq_true rfl) (V.kkX (fun M9 q9 => ?_))
        refine V.iret dX7_compose_119 ?_
        obtain ⟨k9, r9, g9, f9⟩ := q9
        generalize hM1 : aset (aset (aset (aset (aset M 6 0 9 _) 138 0 9 _) 138 0 9 _) 6 0 9 _) 139 0 9 _ = M1 at k9 g9 f9 ⊢
        have kk : keep (fun j => j = 6 ∨ j = 138 ∨ j = 139) M M1 := by
          rw [← hM1]
          exact (((((keep.rf (P := fun j => j = 6 ∨ j = 138 ∨ j = 139)).as (Or.inl rfl)).as (Or.inr (Or.inl rfl))).as (Or.inr (Or.inl rfl))).as (Or.inl rfl)).as (Or.inr (Or.inr rfl))
        have e1 : eq9 (M1 138) (fprod (fput (A.2.1 s) (A.2.2.1 o)) (A.2.1 o)) := by
          rw [← hM1, aset_ne (by decide), aset_ne (by decide)]
          refine aset_9.tr (fprod_cg (aset_9.tr (fput_cg (h.g hs) (h.f ho))) ?_)
          rw [aset_ne (by omega), aset_ne (by omega)]; exact h.g ho
        have e2 : eq9 (M1 139) (fput (A.2.2.1 s) (A.2.2.1 o)) := by
          rw [← hM1]
          refine aset_9.tr (fput_cg ?_ ?_)
          · rw [aset_ne (by omega), aset_ne (by omega), aset_ne (by omega)]; exact h.f hs
          · rw [aset_ne (by omega), aset_ne (by omega), aset_ne (by omega)]; exact h.f ho
        exact ⟨by rw [e2 1 (by decide)], h.row hr (kk.wk (fun j hj => by unfold scr; omega)) (by rw [kk 10 (by omega)]) k9 r9 (g9.tr e1) (f9.tr e2), (kk.wk (fun j hj => by unfold cP; omega)).tr (k9.wk (fun j hj => by unfold cP; omega))⟩
      · cases qo
theorem k_invert_2 {g : Gl} {M : Mem} {x y : Int32} (h : isN x 4 = false ∨ isN y 4 = false) : Ct g yX7_invert cX7_invert 4 (some .int) 6 [.ref (g.2.2.2.1 0), .int x, .int y] M (fun v M' => v = some (.int (-2)) ∧ M' = M) := by
  refine Ct.ofV (by decide) (Nat.le_of_ble_eq_true rfl) (by simp [Value.category]) (fun κ => ?_)
  refine V.iload_n dX7_invert_0 rfl ?_
  refine V.callS dX7_invert_1 (c_X7_isRow) lkX7_81 st_X7_isRow cd_X7_isRow ini_X7 hd_X7_isRow ⟨Nat.le_of_ble_eq_true rfl, Nat.le_of_ble_eq_true rfl⟩ rfl (Nat.le_of_ble_eq_true rfl) (V.kkF ?_)
  refine V.if_eqB (tgt := 14) dX7_invert_4 (by decide) (fun h1 => ?_) (fun h1 => ?_)
  · refine V.bipush (v := -2) dX7_invert_14 (by decide) ?_
    refine V.iret dX7_invert_16 ?_
    exact ⟨rfl, rfl⟩
  · skip
    refine V.iload_n dX7_invert_7 rfl ?_
    refine V.callS dX7_invert_8 (c_X7_isRow) lkX7_81 st_X7_isRow cd_X7_isRow ini_X7 hd_X7_isRow ⟨Nat.le_of_ble_eq_true rfl, Nat.le_of_ble_eq_true rfl⟩ rfl (Nat.le_of_ble_eq_true rfl) (V.kkF ?_)
    refine V.if_neB (tgt := 17) dX7_invert_11 (by decide) (fun h2 => ?_) (fun h2 => ?_)
    · rcases h with h | h
      · rw [h1] at h; cases h
      · rw [h2] at h; cases h
    · refine V.bipush (v := -2) dX7_invert_14 (by decide) ?_
      refine V.iret dX7_invert_16 ?_
      exact ⟨rfl, rfl⟩
theorem k_invert {g : Gl} {M : Mem} {A : Ab} {r o : Nat} (hI : ∀ i, i < 142 → i ∈ g.2.2.2.2) (h : Rc A M) (hr : r < 4) (ho : o < 4) : Ct g yX7_invert cX7_invert 4 (some .int) 6 [.ref (g.2.2.2.1 0), .int (nI r), .int (nI o)] M (fun v M' => v = some (.int ((fturn (A.2.2.1 o)) 1)) ∧ Rc (A.1, va_up A.2.1 r (fover (fput (A.2.1 o) (fturn (A.2.2.1 o)))), va_up A.2.2.1 r (fturn (A.2.2.1 o)), A.2.2.2) M' ∧ keep cP M M') := by
  have hI9 : ∀ i, 1 ≤ i ∧ i ≤ 9 → i ∈ g.2.2.2.2 := fun i h => hI i (by omega)
  have hw_r := isRw_of hr
  have hJ_r : ∀ i, 34 + 17 * r ≤ i ∧ i < 34 + 17 * r + 17 → i ∈ g.2.2.2.2 := fun i h => hI i (by omega)
  have hw_o := isRw_of ho
  have hJ_o : ∀ i, 34 + 17 * o ≤ i ∧ i < 34 + 17 * o + 17 → i ∈ g.2.2.2.2 := fun i h => hI i (by omega)
  refine Ct.ofV (by decide) (Nat.le_of_ble_eq_true rfl) (by simp [Value.category]) (fun κ => ?_)
  refine V.iload_n dX7_invert_0 rfl ?_
  refine V.callS dX7_invert_1 (c_X7_isRow) lkX7_81 st_X7_isRow cd_X7_isRow ini_X7 hd_X7_isRow ⟨Nat.le_of_ble_eq_true rfl, Nat.le_of_ble_eq_true rfl⟩ rfl (Nat.le_of_ble_eq_true rfl) (V.kkF ?_)
  rw [isN_nI (by decide) hr]
  refine V.if_eqB (tgt := 14) dX7_invert_4 (by decide) (fun qr => ?_) (fun qr => ?_)
  · cases qr
  · skip
    refine V.iload_n dX7_invert_7 rfl ?_
    refine V.callS dX7_invert_8 (c_X7_isRow) lkX7_81 st_X7_isRow cd_X7_isRow ini_X7 hd_X7_isRow ⟨Nat.le_of_ble_eq_true rfl, Nat.le_of_ble_eq_true rfl⟩ rfl (Nat.le_of_ble_eq_true rfl) (V.kkF ?_)
    rw [isN_nI (by decide) ho]
    refine V.if_neB (tgt := 17) dX7_invert_11 (by decide) (fun qo => ?_) (fun qo => ?_)
    · skip
      refine V.aload_n dX7_invert_17 rfl ?_
      refine V.getf (ci := 6) (k := 3) (C := RX7) (T := TX7) (N := 10) dX7_invert_18 lfX7_34 inX7 rfl (by first | assumption | exact hI _ (by omega)) rfl (by decide) rfl ?_
      refine V.iload_n dX7_invert_21 rfl ?_
      refine V.aald (n := 4) (t := 3) dX7_invert_22 (by first | assumption | exact hI _ (by omega)) rfl rfl rfl (by decide) (by omega) ?_
      refine V.astore_n dX7_invert_23 (by decide) ?_
      refine V.aload_n dX7_invert_24 rfl ?_
      refine V.getf (ci := 6) (k := 0) (C := RX7) (T := TX7) (N := 10) dX7_invert_25 lfX7_12 inX7 rfl (by first | assumption | exact hI _ (by omega)) rfl (by decide) rfl ?_
      refine V.aload_n dX7_invert_28 rfl ?_
      refine V.getf (ci := 6) (k := 8) (C := RX7) (T := TX7) (N := 10) dX7_invert_29 lfX7_60 inX7 rfl (by first | assumption | exact hI _ (by omega)) rfl (by decide) rfl ?_
      refine V.aload_n dX7_invert_32 rfl ?_
      refine V.getf (ci := 4) (k := 0) (C := RX5) (T := TX5) (N := 8) dX7_invert_33 lfX7_99 inX5 rfl (by first | assumption | exact hI _ (by omega)) (cont_row hw_o _) (by decide) rfl ?_
      refine V.aload_n dX7_invert_36 rfl ?_
      refine V.getf (ci := 4) (k := 3) (C := RX5) (T := TX5) (N := 8) dX7_invert_37 lfX7_112 inX5 rfl (by first | assumption | exact hI _ (by omega)) (cont_row hw_o _) (by decide) rfl ?_
      refine V.callV (ci := 3) (T := TX4) (N := 8) dX7_invert_40 (c_X4_putInside (i := 140) (a := 34 + 17 * o + 1) (b := 34 + 17 * o + 4) hI9 (hI _ (by omega)) rfl (hI _ (by omega)) (ial_row hw_o (by omega) (by omega) (by omega)) (hI _ (by omega)) (ial_row hw_o (by omega) (by omega) (by omega)) (by omega) (by omega)) lkX7_105 im_X4_putInside se_X4_putInside cd_X4_putInside ini_X4 rfl (by first | assumption | exact hI _ (by omega)) rfl hd_X4_putInside ⟨Nat.le_of_ble_eq_true rfl, Nat.le_of_ble_eq_true rfl⟩ rfl (Nat.le_of_ble_eq_true rfl) (V.kkN ?_)
      refine V.aload_n dX7_invert_43 rfl ?_
      refine V.getf (ci := 6) (k := 0) (C := RX7) (T := TX7) (N := 10) dX7_invert_44 lfX7_12 inX7 rfl (by first | assumption | exact hI _ (by omega)) rfl (by decide) rfl ?_
      refine V.aload_n dX7_invert_47 rfl ?_
      refine V.getf (ci := 6) (k := 6) (C := RX7) (T := TX7) (N := 10) dX7_invert_48 lfX7_53 inX7 rfl (by first | assumption | exact hI _ (by omega)) rfl (by decide) rfl ?_
      refine V.aload_n dX7_invert_51 rfl ?_
      refine V.getf (ci := 6) (k := 8) (C := RX7) (T := TX7) (N := 10) dX7_invert_52 lfX7_60 inX7 rfl (by first | assumption | exact hI _ (by omega)) rfl (by decide) rfl ?_
      refine V.callV (ci := 3) (T := TX4) (N := 8) dX7_invert_55 (c_X4_overSeries (i := 138) (b := 140) (hI _ (by omega)) (hI _ (by omega)) rfl (hI _ (by omega)) rfl (by decide)) lkX7_115 im_X4_overSeries se_X4_overSeries cd_X4_overSeries ini_X4 rfl (by first | assumption | exact hI _ (by omega)) rfl hd_X4_overSeries ⟨Nat.le_of_ble_eq_true rfl, Nat.le_of_ble_eq_true rfl⟩ rfl (Nat.le_of_ble_eq_true rfl) (V.kkN ?_)
      refine V.aload_n dX7_invert_58 rfl ?_
      refine V.getf (ci := 4) (k := 3) (C := RX5) (T := TX5) (N := 8) dX7_invert_59 lfX7_112 inX5 rfl (by first | assumption | exact hI _ (by omega)) (cont_row hw_o _) (by decide) rfl ?_
      refine V.aload_n dX7_invert_62 rfl ?_
      refine V.getf (ci := 6) (k := 7) (C := RX7) (T := TX7) (N := 10) dX7_invert_63 lfX7_57 inX7 rfl (by first | assumption | exact hI _ (by omega)) rfl (by decide) rfl ?_
      refine V.callS dX7_invert_66 (c_X7_copy (i := 34 + 17 * o + 4) (j := 139) (hI _ (by omega)) (hI _ (by omega)) (ial_row hw_o (by omega) (by omega) (by omega)) rfl) lkX7_119 st_X7_copy cd_X7_copy ini_X7 hd_X7_copy ⟨Nat.le_of_ble_eq_true rfl, Nat.le_of_ble_eq_true rfl⟩ rfl (Nat.le_of_ble_eq_true rfl) (V.kkN ?_)
      refine V.aload_n dX7_invert_69 rfl ?_
      refine V.getf (ci := 6) (k := 3) (C := RX7) (T := TX7) (N := 10) dX7_invert_70 lfX7_34 inX7 rfl (by first | assumption | exact hI _ (by omega)) rfl (by decide) rfl ?_
      refine V.iload_n dX7_invert_73 rfl ?_
      refine V.aald (n := 4) (t := 3) dX7_invert_74 (by first | assumption | exact hI _ (by omega)) rfl rfl rfl (by decide) (by omega) ?_
      refine V.aload_n dX7_invert_75 rfl ?_
      refine V.getf (ci := 6) (k := 6) (C := RX7) (T := TX7) (N := 10) dX7_invert_76 lfX7_53 inX7 rfl (by first | assumption | exact hI _ (by omega)) rfl (by decide) rfl ?_
      refine V.aload_n dX7_invert_79 rfl ?_
      refine V.getf (ci := 6) (k := 7) (C := RX7) (T := TX7) (N := 10) dX7_invert_80 lfX7_57 inX7 rfl (by first | assumption | exact hI _ (by omega)) rfl (by decide) rfl ?_
      refine V.callV (ci := 4) (T := TX5) (N := 8) dX7_invert_83 (c_X5_become (a := 138) (b := 139) hw_r hI9 hJ_r (hI _ (by omega)) rfl (hI _ (by omega)) rfl (by omega) (by omega)) lkX7_95 im_X5_become se_X5_become cd_X5_become ini_X5 rfl (by first | assumption | exact hI _ (by omega)) (cont_row hw_r _) hd_X5_become ⟨Nat.le_of_ble_eq_true rfl, Nat.le_of_ble_eq_true rfl⟩ rfl (Nat.le_of_ble_eq_true rfl) (V.kkX (fun M9 q9 => ?_))
      refine V.iret dX7_invert_86 ?_
      obtain ⟨k9, r9, g9, f9⟩ := q9
      generalize hM1 : aset (aset (aset (aset M 6 0 9 _) 140 0 9 _) 138 0 9 _) 139 0 9 _ = M1 at k9 g9 f9 ⊢
      have kk : keep (fun j => j = 6 ∨ j = 138 ∨ j = 139 ∨ j = 140) M M1 := by
        rw [← hM1]
        exact ((((keep.rf (P := fun j => j = 6 ∨ j = 138 ∨ j = 139 ∨ j = 140)).as (by omega)).as (by omega)).as (by omega)).as (by omega)
      have e1 : eq9 (M1 138) (fover (fput (A.2.1 o) (fturn (A.2.2.1 o)))) := by
        rw [← hM1, aset_ne (by decide)]
        exact aset_9.tr (fover_cg (aset_9.tr (fput_cg (h.g ho) (h.tf ho))))
      have e2 : eq9 (M1 139) (fturn (A.2.2.1 o)) := by
        rw [← hM1]
        refine aset_9.tr ?_
        rw [aset_ne (by omega), aset_ne (by omega), aset_ne (by omega)]; exact h.tf ho
      exact ⟨by rw [e2 1 (by decide)], h.row hr (kk.wk (fun j hj => by unfold scr; omega)) (by rw [kk 10 (by omega)]) k9 r9 (g9.tr e1) (f9.tr e2), (kk.wk (fun j hj => by unfold cP; omega)).tr (k9.wk (fun j hj => by unfold cP; omega))⟩
    · cases qo

