theorem c_rem {g : Gl} {M : Mem} {a u : Nat} (hI : ∀ i, 102 ≤ i ∧ i ≤ 112 → i ∈ g.2.2.2.2) (ha : a < 8) (e3 : M 102 3 = nI a) (hu : u ≤ 8) (e1 : M 102 1 = nI u) : Ct g yX0_remember cX0_remember 1 none 2 [.ref (g.2.2.2.1 102)] M (fun v M' => v = none ∧ M' = remM M a u) := c_X0_remember hI ha e3 hu e1
theorem k_take_2 {g : Gl} {M : Mem} {x y : Int32} (h : isN x 4 = false) : Ct g yX7_take cX7_take 3 (some .int) 3 [.ref (g.2.2.2.1 0), .int x, .int y] M (fun v M' => v = some (.int (-2)) ∧ M' = M) := by
  refine Ct.ofV (by decide) (Nat.le_of_ble_eq_true rfl) (by simp [Value.category]) (fun κ => ?_)
  refine V.iload_n dX7_take_0 rfl ?_
  refine V.callS dX7_take_1 (c_X7_isRow) lkX7_81 st_X7_isRow cd_X7_isRow ini_X7 hd_X7_isRow ⟨Nat.le_of_ble_eq_true rfl, Nat.le_of_ble_eq_true rfl⟩ rfl (Nat.le_of_ble_eq_true rfl) (V.kkF ?_)
  refine V.if_neB (tgt := 10) dX7_take_4 (by decide) (fun h1 => ?_) (fun h1 => ?_)
  · rw [h1] at h; cases h
  · refine V.bipush (v := -2) dX7_take_7 (by decide) ?_
    refine V.iret dX7_take_9 ?_
    exact ⟨rfl, rfl⟩
theorem k_take_3 {g : Gl} {M : Mem} {r : Nat} {y : Int32} (hr : r < 4) (hz : isN y 9 = false) : Ct g yX7_take cX7_take 3 (some .int) 3 [.ref (g.2.2.2.1 0), .int (nI r), .int y] M (fun v M' => v = some (.int (-3)) ∧ M' = M) := by
  refine Ct.ofV (by decide) (Nat.le_of_ble_eq_true rfl) (by simp [Value.category]) (fun κ => ?_)
  refine V.iload_n dX7_take_0 rfl ?_
  refine V.callS dX7_take_1 (c_X7_isRow) lkX7_81 st_X7_isRow cd_X7_isRow ini_X7 hd_X7_isRow ⟨Nat.le_of_ble_eq_true rfl, Nat.le_of_ble_eq_true rfl⟩ rfl (Nat.le_of_ble_eq_true rfl) (V.kkF ?_)
  rw [isN_nI (by decide) hr]
  refine V.if_neB (tgt := 10) dX7_take_4 (by decide) (fun qr => ?_) (fun qr => ?_)
  · skip
    refine V.iload_n dX7_take_10 rfl ?_
    refine V.callS dX7_take_11 (c_X7_isPower) lkX7_143 st_X7_isPower cd_X7_isPower ini_X7 hd_X7_isPower ⟨Nat.le_of_ble_eq_true rfl, Nat.le_of_ble_eq_true rfl⟩ rfl (Nat.le_of_ble_eq_true rfl) (V.kkF ?_)
    rw [hz]
    refine V.if_neB (tgt := 20) dX7_take_14 (by decide) (fun h1 => ?_) (fun h1 => ?_)
    · cases h1
    · refine V.bipush (v := -3) dX7_take_17 (by decide) ?_
      refine V.iret dX7_take_19 ?_
      exact ⟨rfl, rfl⟩
  · cases qr
theorem k_take {g : Gl} {M : Mem} {A : Ab} {r y : Nat} (hI : ∀ i, i < 142 → i ∈ g.2.2.2.2) (h : Rc A M) (hr : r < 4) (hy : y < 9) : Ct g yX7_take cX7_take 3 (some .int) 3 [.ref (g.2.2.2.1 0), .int (nI r), .int (nI y)] M (fun v M' => v = some (.int (PR A r y y)) ∧ Rc (A.1, A.2.1, A.2.2.1, PR A r y, rmb A.2.2.2.1 A.2.2.2.2.1, A.2.2.2.2.2) M' ∧ keep cP M M') := by
  have hw_r := isRw_of hr
  have hJ_r : ∀ i, 34 + 17 * r ≤ i ∧ i < 34 + 17 * r + 17 → i ∈ g.2.2.2.2 := fun i h => hI i (by omega)
  have hI9 : ∀ i, 1 ≤ i ∧ i ≤ 9 → i ∈ g.2.2.2.2 := fun i h => hI i (by omega)
  obtain ⟨a3, u3, ha3, hu3, e3, e1, hrc⟩ := h.rem
  have krm := remM_keep (M := M) (u := u3) ha3
  refine Ct.ofV (by decide) (Nat.le_of_ble_eq_true rfl) (by simp [Value.category]) (fun κ => ?_)
  refine V.iload_n dX7_take_0 rfl ?_
  refine V.callS dX7_take_1 (c_X7_isRow) lkX7_81 st_X7_isRow cd_X7_isRow ini_X7 hd_X7_isRow ⟨Nat.le_of_ble_eq_true rfl, Nat.le_of_ble_eq_true rfl⟩ rfl (Nat.le_of_ble_eq_true rfl) (V.kkF ?_)
  rw [isN_nI (by decide) hr]
  refine V.if_neB (tgt := 10) dX7_take_4 (by decide) (fun qr => ?_) (fun qr => ?_)
  · skip
    refine V.iload_n dX7_take_10 rfl ?_
    refine V.callS dX7_take_11 (c_X7_isPower) lkX7_143 st_X7_isPower cd_X7_isPower ini_X7 hd_X7_isPower ⟨Nat.le_of_ble_eq_true rfl, Nat.le_of_ble_eq_true rfl⟩ rfl (Nat.le_of_ble_eq_true rfl) (V.kkF ?_)
    rw [isN_nI (by decide) hy]
    refine V.if_neB (tgt := 20) dX7_take_14 (by decide) (fun h1 => ?_) (fun h1 => ?_)
    · refine V.aload_n dX7_take_20 rfl ?_
      refine V.getf (ci := 6) (k := 4) (C := RX7) (T := TX7) (N := 10) dX7_take_21 lfX7_42 inX7 rfl (by first | assumption | exact hI _ (by omega)) rfl (by decide) rfl ?_
      refine V.callV (ci := 0) (T := TX0) (N := 4) dX7_take_24 (c_rem (fun i h => hI i (by omega)) ha3 e3 hu3 e1) lkX7_165 im_X0_remember se_X0_remember cd_X0_remember ini_X0 rfl (by first | assumption | exact hI _ (by omega)) rfl hd_X0_remember ⟨Nat.le_of_ble_eq_true rfl, Nat.le_of_ble_eq_true rfl⟩ rfl (Nat.le_of_ble_eq_true rfl) (V.kkP (fun M1 qr => ?_))
      rw [← qr] at hrc krm
      refine V.aload_n dX7_take_27 rfl ?_
      refine V.getf (ci := 6) (k := 3) (C := RX7) (T := TX7) (N := 10) dX7_take_28 lfX7_34 inX7 rfl (by first | assumption | exact hI _ (by omega)) rfl (by decide) rfl ?_
      refine V.iload_n dX7_take_31 rfl ?_
      refine V.aald (n := 4) (t := 3) dX7_take_32 (by first | assumption | exact hI _ (by omega)) rfl rfl rfl (by decide) (by omega) ?_
      refine V.getf (ci := 4) (k := 4) (C := RX5) (T := TX5) (N := 8) dX7_take_33 lfX7_150 inX5 rfl (by first | assumption | exact hI _ (by omega)) (cont_row hw_r _) (by decide) rfl ?_
      refine V.iload_n dX7_take_36 rfl ?_
      refine V.aald (n := 9) (t := 2) dX7_take_37 (by first | assumption | exact hI _ (by omega)) (cont_pols hw_r _) rfl rfl (by decide) (by omega) ?_
      refine V.aload_n dX7_take_38 rfl ?_
      refine V.getf (ci := 6) (k := 4) (C := RX7) (T := TX7) (N := 10) dX7_take_39 lfX7_42 inX7 rfl (by first | assumption | exact hI _ (by omega)) rfl (by decide) rfl ?_
      refine V.getf (ci := 0) (k := 0) (C := RX0) (T := TX0) (N := 4) dX7_take_42 lfX7_168 inX0 rfl (by first | assumption | exact hI _ (by omega)) rfl (by decide) rfl ?_
      refine V.callS dX7_take_45 (c_X7_copy (i := 34 + 17 * r + 5 + 1 + y) (j := 103) (hI _ (by omega)) (hI _ (by omega)) (ial_row hw_r (by omega) (by omega) (by omega)) rfl) lkX7_119 st_X7_copy cd_X7_copy ini_X7 hd_X7_copy ⟨Nat.le_of_ble_eq_true rfl, Nat.le_of_ble_eq_true rfl⟩ rfl (Nat.le_of_ble_eq_true rfl) (V.kkN ?_)
      refine V.aload_n dX7_take_48 rfl ?_
      refine V.getf (ci := 6) (k := 4) (C := RX7) (T := TX7) (N := 10) dX7_take_49 lfX7_42 inX7 rfl (by first | assumption | exact hI _ (by omega)) rfl (by decide) rfl ?_
      refine V.getf (ci := 0) (k := 0) (C := RX0) (T := TX0) (N := 4) dX7_take_52 lfX7_168 inX0 rfl (by first | assumption | exact hI _ (by omega)) rfl (by decide) rfl ?_
      refine V.iload_n dX7_take_55 rfl ?_
      refine V.iald (n := 9) dX7_take_56 (by first | assumption | exact hI _ (by omega)) (by first | assumption | decide) (by omega) ?_
      refine V.iret dX7_take_57 ?_
      have ep : eq9 (aset (M1) 103 0 9 (M1 (34 + 17 * r + 5 + 1 + y)) 103) (PR A r y) := aset_9.tr (hrc.pol' hr hy)
      have kk : keep (fun j => scr j ∨ j = 103) (M1) (aset (M1) 103 0 9 (M1 (34 + 17 * r + 5 + 1 + y))) := (keep.rf (P := (fun j => scr j ∨ j = 103))).as (Or.inr rfl)
      have h10 : aset (M1) 103 0 9 (M1 (34 + 17 * r + 5 + 1 + y)) 10 3 = M1 10 3 := by rw [aset_ne (by decide)]
      exact ⟨congrArg (fun q => some (Value.int q)) (ep y hy), hrc.hand kk h10 ep, (krm.wk (fun j hj => by unfold cP; omega)).tr (kk.wk (fun j hj => by unfold cP; unfold scr at hj; omega))⟩
    · cases h1
  · cases qr
theorem k_put_3 {g : Gl} {M : Mem} {x y : Int32} (hz : isN x 9 = false ∨ isN y 9973 = false) : Ct g yX7_put cX7_put 4 (some .int) 3 [.ref (g.2.2.2.1 0), .int x, .int y] M (fun v M' => v = some (.int (-3)) ∧ M' = M) := by
  refine Ct.ofV (by decide) (Nat.le_of_ble_eq_true rfl) (by simp [Value.category]) (fun κ => ?_)
  refine V.iload_n dX7_put_0 rfl ?_
  refine V.callS dX7_put_1 (c_X7_isPower) lkX7_143 st_X7_isPower cd_X7_isPower ini_X7 hd_X7_isPower ⟨Nat.le_of_ble_eq_true rfl, Nat.le_of_ble_eq_true rfl⟩ rfl (Nat.le_of_ble_eq_true rfl) (V.kkF ?_)
  refine V.if_eqB (tgt := 14) dX7_put_4 (by decide) (fun h1 => ?_) (fun h1 => ?_)
  · refine V.bipush (v := -3) dX7_put_14 (by decide) ?_
    refine V.iret dX7_put_16 ?_
    exact ⟨rfl, rfl⟩
  · refine V.iload_n dX7_put_7 rfl ?_
    refine V.callS dX7_put_8 (c_X2_holds) lkX7_126 st_X2_holds cd_X2_holds ini_X2 hd_X2_holds ⟨Nat.le_of_ble_eq_true rfl, Nat.le_of_ble_eq_true rfl⟩ rfl (Nat.le_of_ble_eq_true rfl) (V.kkF ?_)
    rcases hz with hz | hz
    · rw [h1] at hz; cases hz
    · rw [hz]
      refine V.if_neB (tgt := 17) dX7_put_11 (by decide) (fun h2 => ?_) (fun h2 => ?_)
      · cases h2
      · refine V.bipush (v := -3) dX7_put_14 (by decide) ?_
        refine V.iret dX7_put_16 ?_
        exact ⟨rfl, rfl⟩
theorem k_put {g : Gl} {M : Mem} {A : Ab} {x y : Nat} (hI : ∀ i, i < 142 → i ∈ g.2.2.2.2) (h : Rc A M) (hx : x < 9) (hy : y < 9973) : Ct g yX7_put cX7_put 4 (some .int) 3 [.ref (g.2.2.2.1 0), .int (nI x), .int (nI y)] M (fun v M' => v = some (.int (A.2.2.2.1 x)) ∧ Rc (A.1, A.2.1, A.2.2.1, upd A.2.2.2.1 x (nI y), rmb A.2.2.2.1 A.2.2.2.2.1, A.2.2.2.2.2) M' ∧ keep cP M M') := by
  have hI9 : ∀ i, 1 ≤ i ∧ i ≤ 9 → i ∈ g.2.2.2.2 := fun i h => hI i (by omega)
  obtain ⟨a3, u3, ha3, hu3, e3, e1, hrc⟩ := h.rem
  have krm := remM_keep (M := M) (u := u3) ha3
  refine Ct.ofV (by decide) (Nat.le_of_ble_eq_true rfl) (by simp [Value.category]) (fun κ => ?_)
  refine V.iload_n dX7_put_0 rfl ?_
  refine V.callS dX7_put_1 (c_X7_isPower) lkX7_143 st_X7_isPower cd_X7_isPower ini_X7 hd_X7_isPower ⟨Nat.le_of_ble_eq_true rfl, Nat.le_of_ble_eq_true rfl⟩ rfl (Nat.le_of_ble_eq_true rfl) (V.kkF ?_)
  rw [isN_nI (by decide) hx]
  refine V.if_eqB (tgt := 14) dX7_put_4 (by decide) (fun h1 => ?_) (fun h1 => ?_)
  · cases h1
  · refine V.iload_n dX7_put_7 rfl ?_
    refine V.callS dX7_put_8 (c_X2_holds) lkX7_126 st_X2_holds cd_X2_holds ini_X2 hd_X2_holds ⟨Nat.le_of_ble_eq_true rfl, Nat.le_of_ble_eq_true rfl⟩ rfl (Nat.le_of_ble_eq_true rfl) (V.kkF ?_)
    rw [isN_nI (by decide) hy]
    refine V.if_neB (tgt := 17) dX7_put_11 (by decide) (fun h2 => ?_) (fun h2 => ?_)
    · refine V.aload_n dX7_put_17 rfl ?_
      refine V.getf (ci := 6) (k := 4) (C := RX7) (T := TX7) (N := 10) dX7_put_18 lfX7_42 inX7 rfl (by first | assumption | exact hI _ (by omega)) rfl (by decide) rfl ?_
      refine V.callV (ci := 0) (T := TX0) (N := 4) dX7_put_21 (c_rem (fun i h => hI i (by omega)) ha3 e3 hu3 e1) lkX7_165 im_X0_remember se_X0_remember cd_X0_remember ini_X0 rfl (by first | assumption | exact hI _ (by omega)) rfl hd_X0_remember ⟨Nat.le_of_ble_eq_true rfl, Nat.le_of_ble_eq_true rfl⟩ rfl (Nat.le_of_ble_eq_true rfl) (V.kkP (fun M1 qr => ?_))
      rw [← qr] at hrc krm
      refine V.aload_n dX7_put_24 rfl ?_
      refine V.getf (ci := 6) (k := 4) (C := RX7) (T := TX7) (N := 10) dX7_put_25 lfX7_42 inX7 rfl (by first | assumption | exact hI _ (by omega)) rfl (by decide) rfl ?_
      refine V.getf (ci := 0) (k := 0) (C := RX0) (T := TX0) (N := 4) dX7_put_28 lfX7_168 inX0 rfl (by first | assumption | exact hI _ (by omega)) rfl (by decide) rfl ?_
      refine V.iload_n dX7_put_31 rfl ?_
      refine V.iald (n := 9) dX7_put_32 (by first | assumption | exact hI _ (by omega)) (by first | assumption | decide) (by omega) ?_
      refine V.istore_n dX7_put_33 (by decide) ?_
      refine V.aload_n dX7_put_34 rfl ?_
      refine V.getf (ci := 6) (k := 4) (C := RX7) (T := TX7) (N := 10) dX7_put_35 lfX7_42 inX7 rfl (by first | assumption | exact hI _ (by omega)) rfl (by decide) rfl ?_
      refine V.getf (ci := 0) (k := 0) (C := RX0) (T := TX0) (N := 4) dX7_put_38 lfX7_168 inX0 rfl (by first | assumption | exact hI _ (by omega)) rfl (by decide) rfl ?_
      refine V.iload_n dX7_put_41 rfl ?_
      refine V.iload_n dX7_put_42 rfl ?_
      refine V.iast (n := 9) dX7_put_43 (by first | assumption | exact hI _ (by omega)) (by first | assumption | decide) (by omega) ?_
      refine V.iload_n dX7_put_44 rfl ?_
      refine V.iret dX7_put_45 ?_
      have h103 : eq9 (M1 103) A.2.2.2.1 := hrc.2.2.2.1.1
      have ep : eq9 (mset (M1) 103 x (nI y) 103) (upd A.2.2.2.1 x (nI y)) := fun k hk => by
        rw [mset_self]; unfold upd
        by_cases e : k = x
        · rw [if_pos e, if_pos e]
        · rw [if_neg e, if_neg e]; exact h103 k hk
      have kk : keep (fun j => scr j ∨ j = 103) (M1) (mset (M1) 103 x (nI y)) := (keep.rf (P := (fun j => scr j ∨ j = 103))).ms (Or.inr rfl)
      have h10 : mset (M1) 103 x (nI y) 10 3 = M1 10 3 := by rw [mset_ne (by decide)]
      exact ⟨congrArg (fun q => some (Value.int q)) (h103 x hx), hrc.hand kk h10 ep, (krm.wk (fun j hj => by unfold cP; omega)).tr (kk.wk (fun j hj => by unfold cP; unfold scr at hj; omega))⟩
    · cases h2
theorem k_plus_2 {g : Gl} {M : Mem} {x y z : Int32} (h : isN x 4 = false) : Ct g yX7_plus cX7_plus 4 (some .int) 3 [.ref (g.2.2.2.1 0), .int x, .int y, .int z] M (fun v M' => v = some (.int (-2)) ∧ M' = M) := by
  refine Ct.ofV (by decide) (Nat.le_of_ble_eq_true rfl) (by simp [Value.category]) (fun κ => ?_)
  refine V.iload_n dX7_plus_0 rfl ?_
  refine V.callS dX7_plus_1 (c_X7_isRow) lkX7_81 st_X7_isRow cd_X7_isRow ini_X7 hd_X7_isRow ⟨Nat.le_of_ble_eq_true rfl, Nat.le_of_ble_eq_true rfl⟩ rfl (Nat.le_of_ble_eq_true rfl) (V.kkF ?_)
  refine V.if_neB (tgt := 10) dX7_plus_4 (by decide) (fun h1 => ?_) (fun h1 => ?_)
  · rw [h1] at h; cases h
  · refine V.bipush (v := -2) dX7_plus_7 (by decide) ?_
    refine V.iret dX7_plus_9 ?_
    exact ⟨rfl, rfl⟩
theorem k_plus_3 {g : Gl} {M : Mem} {r : Nat} {y z : Int32} (hr : r < 4) (hz : isN y 9 = false ∨ isN z 9973 = false) : Ct g yX7_plus cX7_plus 4 (some .int) 3 [.ref (g.2.2.2.1 0), .int (nI r), .int y, .int z] M (fun v M' => v = some (.int (-3)) ∧ M' = M) := by
  refine Ct.ofV (by decide) (Nat.le_of_ble_eq_true rfl) (by simp [Value.category]) (fun κ => ?_)
  refine V.iload_n dX7_plus_0 rfl ?_
  refine V.callS dX7_plus_1 (c_X7_isRow) lkX7_81 st_X7_isRow cd_X7_isRow ini_X7 hd_X7_isRow ⟨Nat.le_of_ble_eq_true rfl, Nat.le_of_ble_eq_true rfl⟩ rfl (Nat.le_of_ble_eq_true rfl) (V.kkF ?_)
  rw [isN_nI (by decide) hr]
  refine V.if_neB (tgt := 10) dX7_plus_4 (by decide) (fun qr => ?_) (fun qr => ?_)
  · skip
    refine V.iload_n dX7_plus_10 rfl ?_
    refine V.callS dX7_plus_11 (c_X7_isPower) lkX7_143 st_X7_isPower cd_X7_isPower ini_X7 hd_X7_isPower ⟨Nat.le_of_ble_eq_true rfl, Nat.le_of_ble_eq_true rfl⟩ rfl (Nat.le_of_ble_eq_true rfl) (V.kkF ?_)
    refine V.if_eqB (tgt := 24) dX7_plus_14 (by decide) (fun h1 => ?_) (fun h1 => ?_)
    · refine V.bipush (v := -3) dX7_plus_24 (by decide) ?_
      refine V.iret dX7_plus_26 ?_
      exact ⟨rfl, rfl⟩
    · refine V.iload_n dX7_plus_17 rfl ?_
      refine V.callS dX7_plus_18 (c_X2_holds) lkX7_126 st_X2_holds cd_X2_holds ini_X2 hd_X2_holds ⟨Nat.le_of_ble_eq_true rfl, Nat.le_of_ble_eq_true rfl⟩ rfl (Nat.le_of_ble_eq_true rfl) (V.kkF ?_)
      rcases hz with hz | hz
      · rw [h1] at hz; cases hz
      · rw [hz]
        refine V.if_neB (tgt := 27) dX7_plus_21 (by decide) (fun h3 => ?_) (fun h3 => ?_)
        · cases h3
        · refine V.bipush (v := -3) dX7_plus_24 (by decide) ?_
          refine V.iret dX7_plus_26 ?_
          exact ⟨rfl, rfl⟩
  · cases qr
theorem k_plus {g : Gl} {M : Mem} {A : Ab} {r y z : Nat} (hI : ∀ i, i < 142 → i ∈ g.2.2.2.2) (h : Rc A M) (hr : r < 4) (hy : y < 9) (hz : z < 9973) : Ct g yX7_plus cX7_plus 4 (some .int) 3 [.ref (g.2.2.2.1 0), .int (nI r), .int (nI y), .int (nI z)] M (fun v M' => v = some (.int (fax A.2.2.2.1 (PR A r y) (nI z) 0)) ∧ Rc (A.1, A.2.1, A.2.2.1, fax A.2.2.2.1 (PR A r y) (nI z), rmb A.2.2.2.1 A.2.2.2.2.1, A.2.2.2.2.2) M' ∧ keep cP M M') := by
  have hw_r := isRw_of hr
  have hJ_r : ∀ i, 34 + 17 * r ≤ i ∧ i < 34 + 17 * r + 17 → i ∈ g.2.2.2.2 := fun i h => hI i (by omega)
  have hI9 : ∀ i, 1 ≤ i ∧ i ≤ 9 → i ∈ g.2.2.2.2 := fun i h => hI i (by omega)
  obtain ⟨a3, u3, ha3, hu3, e3, e1, hrc⟩ := h.rem
  have krm := remM_keep (M := M) (u := u3) ha3
  refine Ct.ofV (by decide) (Nat.le_of_ble_eq_true rfl) (by simp [Value.category]) (fun κ => ?_)
  refine V.iload_n dX7_plus_0 rfl ?_
  refine V.callS dX7_plus_1 (c_X7_isRow) lkX7_81 st_X7_isRow cd_X7_isRow ini_X7 hd_X7_isRow ⟨Nat.le_of_ble_eq_true rfl, Nat.le_of_ble_eq_true rfl⟩ rfl (Nat.le_of_ble_eq_true rfl) (V.kkF ?_)
  rw [isN_nI (by decide) hr]
  refine V.if_neB (tgt := 10) dX7_plus_4 (by decide) (fun qr => ?_) (fun qr => ?_)
  · skip
    refine V.iload_n dX7_plus_10 rfl ?_
    refine V.callS dX7_plus_11 (c_X7_isPower) lkX7_143 st_X7_isPower cd_X7_isPower ini_X7 hd_X7_isPower ⟨Nat.le_of_ble_eq_true rfl, Nat.le_of_ble_eq_true rfl⟩ rfl (Nat.le_of_ble_eq_true rfl) (V.kkF ?_)
    rw [isN_nI (by decide) hy]
    refine V.if_eqB (tgt := 24) dX7_plus_14 (by decide) (fun h1 => ?_) (fun h1 => ?_)
    · cases h1
    · refine V.iload_n dX7_plus_17 rfl ?_
      refine V.callS dX7_plus_18 (c_X2_holds) lkX7_126 st_X2_holds cd_X2_holds ini_X2 hd_X2_holds ⟨Nat.le_of_ble_eq_true rfl, Nat.le_of_ble_eq_true rfl⟩ rfl (Nat.le_of_ble_eq_true rfl) (V.kkF ?_)
      rw [isN_nI (by decide) hz]
      refine V.if_neB (tgt := 27) dX7_plus_21 (by decide) (fun h3 => ?_) (fun h3 => ?_)
      · skip
        refine V.aload_n dX7_plus_27 rfl ?_
        refine V.getf (ci := 6) (k := 4) (C := RX7) (T := TX7) (N := 10) dX7_plus_28 lfX7_42 inX7 rfl (by first | assumption | exact hI _ (by omega)) rfl (by decide) rfl ?_
        refine V.callV (ci := 0) (T := TX0) (N := 4) dX7_plus_31 (c_rem (fun i h => hI i (by omega)) ha3 e3 hu3 e1) lkX7_165 im_X0_remember se_X0_remember cd_X0_remember ini_X0 rfl (by first | assumption | exact hI _ (by omega)) rfl hd_X0_remember ⟨Nat.le_of_ble_eq_true rfl, Nat.le_of_ble_eq_true rfl⟩ rfl (Nat.le_of_ble_eq_true rfl) (V.kkP (fun M1 qr => ?_))
        rw [← qr] at hrc krm
        refine V.aload_n dX7_plus_34 rfl ?_
        refine V.getf (ci := 6) (k := 4) (C := RX7) (T := TX7) (N := 10) dX7_plus_35 lfX7_42 inX7 rfl (by first | assumption | exact hI _ (by omega)) rfl (by decide) rfl ?_
        refine V.getf (ci := 0) (k := 0) (C := RX0) (T := TX0) (N := 4) dX7_plus_38 lfX7_168 inX0 rfl (by first | assumption | exact hI _ (by omega)) rfl (by decide) rfl ?_
        refine V.aload_n dX7_plus_41 rfl ?_
        refine V.getf (ci := 6) (k := 3) (C := RX7) (T := TX7) (N := 10) dX7_plus_42 lfX7_34 inX7 rfl (by first | assumption | exact hI _ (by omega)) rfl (by decide) rfl ?_
        refine V.iload_n dX7_plus_45 rfl ?_
        refine V.aald (n := 4) (t := 3) dX7_plus_46 (by first | assumption | exact hI _ (by omega)) rfl rfl rfl (by decide) (by omega) ?_
        refine V.getf (ci := 4) (k := 4) (C := RX5) (T := TX5) (N := 8) dX7_plus_47 lfX7_150 inX5 rfl (by first | assumption | exact hI _ (by omega)) (cont_row hw_r _) (by decide) rfl ?_
        refine V.iload_n dX7_plus_50 rfl ?_
        refine V.aald (n := 9) (t := 2) dX7_plus_51 (by first | assumption | exact hI _ (by omega)) (cont_pols hw_r _) rfl rfl (by decide) (by omega) ?_
        refine V.iload_n dX7_plus_52 rfl ?_
        refine V.callS dX7_plus_53 (c_X7_addMultiple (i := 103) (k := 34 + 17 * r + 5 + 1 + y) (hI _ (by omega)) rfl (hI _ (by omega)) (ial_row hw_r (by omega) (by omega) (by omega)) (by omega)) lkX7_171 st_X7_addMultiple cd_X7_addMultiple ini_X7 hd_X7_addMultiple ⟨Nat.le_of_ble_eq_true rfl, Nat.le_of_ble_eq_true rfl⟩ rfl (Nat.le_of_ble_eq_true rfl) (V.kkN ?_)
        refine V.aload_n dX7_plus_56 rfl ?_
        refine V.getf (ci := 6) (k := 4) (C := RX7) (T := TX7) (N := 10) dX7_plus_57 lfX7_42 inX7 rfl (by first | assumption | exact hI _ (by omega)) rfl (by decide) rfl ?_
        refine V.getf (ci := 0) (k := 0) (C := RX0) (T := TX0) (N := 4) dX7_plus_60 lfX7_168 inX0 rfl (by first | assumption | exact hI _ (by omega)) rfl (by decide) rfl ?_
        refine V.iconst (v := nI 0) dX7_plus_63 rfl ?_
        refine V.iald (n := 9) dX7_plus_64 (by first | assumption | exact hI _ (by omega)) (by first | assumption | decide) (by omega) ?_
        refine V.iret dX7_plus_65 ?_
        have ep : eq9 (aset (M1) 103 0 9 (fax (M1 103) (M1 (34 + 17 * r + 5 + 1 + y)) (nI z)) 103) (fax A.2.2.2.1 (PR A r y) (nI z)) := aset_9.tr (fax_cg hrc.2.2.2.1.1 (hrc.pol' hr hy))
        have kk : keep (fun j => scr j ∨ j = 103) (M1) (aset (M1) 103 0 9 (fax (M1 103) (M1 (34 + 17 * r + 5 + 1 + y)) (nI z))) := (keep.rf (P := (fun j => scr j ∨ j = 103))).as (Or.inr rfl)
        have h10 : aset (M1) 103 0 9 (fax (M1 103) (M1 (34 + 17 * r + 5 + 1 + y)) (nI z)) 10 3 = M1 10 3 := by rw [aset_ne (by decide)]
        exact ⟨congrArg (fun q => some (Value.int q)) (ep 0 (by decide)), hrc.hand kk h10 ep, (krm.wk (fun j hj => by unfold cP; omega)).tr (kk.wk (fun j hj => by unfold cP; unfold scr at hj; omega))⟩
      · cases h3
  · cases qr
theorem k_act_2 {g : Gl} {M : Mem} {x y : Int32} (h : isN x 4 = false) : Ct g yX7_act cX7_act 3 (some .int) 3 [.ref (g.2.2.2.1 0), .int x, .int y] M (fun v M' => v = some (.int (-2)) ∧ M' = M) := by
  refine Ct.ofV (by decide) (Nat.le_of_ble_eq_true rfl) (by simp [Value.category]) (fun κ => ?_)
  refine V.iload_n dX7_act_0 rfl ?_
  refine V.callS dX7_act_1 (c_X7_isRow) lkX7_81 st_X7_isRow cd_X7_isRow ini_X7 hd_X7_isRow ⟨Nat.le_of_ble_eq_true rfl, Nat.le_of_ble_eq_true rfl⟩ rfl (Nat.le_of_ble_eq_true rfl) (V.kkF ?_)
  refine V.if_neB (tgt := 10) dX7_act_4 (by decide) (fun h1 => ?_) (fun h1 => ?_)
  · rw [h1] at h; cases h
  · refine V.bipush (v := -2) dX7_act_7 (by decide) ?_
    refine V.iret dX7_act_9 ?_
    exact ⟨rfl, rfl⟩
theorem k_act_3 {g : Gl} {M : Mem} {r : Nat} {y : Int32} (hr : r < 4) (hz : isN y 3 = false) : Ct g yX7_act cX7_act 3 (some .int) 3 [.ref (g.2.2.2.1 0), .int (nI r), .int y] M (fun v M' => v = some (.int (-3)) ∧ M' = M) := by
  refine Ct.ofV (by decide) (Nat.le_of_ble_eq_true rfl) (by simp [Value.category]) (fun κ => ?_)
  refine V.iload_n dX7_act_0 rfl ?_
  refine V.callS dX7_act_1 (c_X7_isRow) lkX7_81 st_X7_isRow cd_X7_isRow ini_X7 hd_X7_isRow ⟨Nat.le_of_ble_eq_true rfl, Nat.le_of_ble_eq_true rfl⟩ rfl (Nat.le_of_ble_eq_true rfl) (V.kkF ?_)
  rw [isN_nI (by decide) hr]
  refine V.if_neB (tgt := 10) dX7_act_4 (by decide) (fun qr => ?_) (fun qr => ?_)
  · skip
    refine V.iload_n dX7_act_10 rfl ?_
    refine V.if_lt (tgt := 19) dX7_act_11 (by decide) (fun h1 => ?_) (fun h1 => ?_)
    · refine V.bipush (v := -3) dX7_act_19 (by decide) ?_
      refine V.iret dX7_act_21 ?_
      exact ⟨rfl, rfl⟩
    · refine V.iload_n dX7_act_14 rfl ?_
      refine V.iconst (v := nI 2) dX7_act_15 rfl ?_
      refine V.icmp_le (tgt := 22) dX7_act_16 (by decide) (fun h2 => ?_) (fun h2 => ?_)
      · rw [isN_gt (n := 2) (by decide) h1 (by rw [Int32.not_lt]; exact h2)] at hz; cases hz
      · refine V.bipush (v := -3) dX7_act_19 (by decide) ?_
        refine V.iret dX7_act_21 ?_
        exact ⟨rfl, rfl⟩
  · cases qr
theorem k_act {g : Gl} {M : Mem} {A : Ab} {r y : Nat} (hI : ∀ i, i < 142 → i ∈ g.2.2.2.2) (h : Rc A M) (hr : r < 4) (hy : y < 3) : Ct g yX7_act cX7_act 3 (some .int) 3 [.ref (g.2.2.2.1 0), .int (nI r), .int (nI y)] M (fun v M' => v = some (.int (ftake faC exC A.2.2.2.1 (chS A r y) 0)) ∧ Rc (A.1, A.2.1, A.2.2.1, ftake faC exC A.2.2.2.1 (chS A r y), rmb A.2.2.2.1 A.2.2.2.2.1, A.2.2.2.2.2) M' ∧ keep cP M M') := by
  have hw_r := isRw_of hr
  have hJ_r : ∀ i, 34 + 17 * r ≤ i ∧ i < 34 + 17 * r + 17 → i ∈ g.2.2.2.2 := fun i h => hI i (by omega)
  have hI9 : ∀ i, 1 ≤ i ∧ i ≤ 9 → i ∈ g.2.2.2.2 := fun i h => hI i (by omega)
  obtain ⟨a3, u3, ha3, hu3, e3, e1, hrc⟩ := h.rem
  have krm := remM_keep (M := M) (u := u3) ha3
  refine Ct.ofV (by decide) (Nat.le_of_ble_eq_true rfl) (by simp [Value.category]) (fun κ => ?_)
  refine V.iload_n dX7_act_0 rfl ?_
  refine V.callS dX7_act_1 (c_X7_isRow) lkX7_81 st_X7_isRow cd_X7_isRow ini_X7 hd_X7_isRow ⟨Nat.le_of_ble_eq_true rfl, Nat.le_of_ble_eq_true rfl⟩ rfl (Nat.le_of_ble_eq_true rfl) (V.kkF ?_)
  rw [isN_nI (by decide) hr]
  refine V.if_neB (tgt := 10) dX7_act_4 (by decide) (fun qr => ?_) (fun qr => ?_)
  · skip
    refine V.iload_n dX7_act_10 rfl ?_
    refine V.if_lt (tgt := 19) dX7_act_11 (by decide) (fun h1 => ?_) (fun h1 => ?_)
    · exact absurd h1 (nI_pos (by omega))
    · refine V.iload_n dX7_act_14 rfl ?_
      refine V.iconst (v := nI 2) dX7_act_15 rfl ?_
      refine V.leN (tgt := 22) dX7_act_16 (by decide) (by omega) (by omega) (fun h2 => ?_) (fun h2 => ?_)
      · refine V.aload_n dX7_act_22 rfl ?_
        refine V.getf (ci := 6) (k := 4) (C := RX7) (T := TX7) (N := 10) dX7_act_23 lfX7_42 inX7 rfl (by first | assumption | exact hI _ (by omega)) rfl (by decide) rfl ?_
        refine V.callV (ci := 0) (T := TX0) (N := 4) dX7_act_26 (c_rem (fun i h => hI i (by omega)) ha3 e3 hu3 e1) lkX7_165 im_X0_remember se_X0_remember cd_X0_remember ini_X0 rfl (by first | assumption | exact hI _ (by omega)) rfl hd_X0_remember ⟨Nat.le_of_ble_eq_true rfl, Nat.le_of_ble_eq_true rfl⟩ rfl (Nat.le_of_ble_eq_true rfl) (V.kkP (fun M1 qr => ?_))
        rw [← qr] at hrc krm
        refine V.aload_n dX7_act_29 rfl ?_
        refine V.getf (ci := 6) (k := 0) (C := RX7) (T := TX7) (N := 10) dX7_act_30 lfX7_12 inX7 rfl (by first | assumption | exact hI _ (by omega)) rfl (by decide) rfl ?_
        refine V.aload_n dX7_act_33 rfl ?_
        refine V.getf (ci := 6) (k := 4) (C := RX7) (T := TX7) (N := 10) dX7_act_34 lfX7_42 inX7 rfl (by first | assumption | exact hI _ (by omega)) rfl (by decide) rfl ?_
        refine V.getf (ci := 0) (k := 0) (C := RX0) (T := TX0) (N := 4) dX7_act_37 lfX7_168 inX0 rfl (by first | assumption | exact hI _ (by omega)) rfl (by decide) rfl ?_
        refine V.aload_n dX7_act_40 rfl ?_
        refine V.getf (ci := 6) (k := 3) (C := RX7) (T := TX7) (N := 10) dX7_act_41 lfX7_34 inX7 rfl (by first | assumption | exact hI _ (by omega)) rfl (by decide) rfl ?_
        refine V.iload_n dX7_act_44 rfl ?_
        refine V.aald (n := 4) (t := 3) dX7_act_45 (by first | assumption | exact hI _ (by omega)) rfl rfl rfl (by decide) (by omega) ?_
        refine V.iload_n dX7_act_46 rfl ?_
        refine V.callV (ci := 4) (T := TX5) (N := 8) dX7_act_47 (c_X5_chosen hw_r hJ_r (by omega)) lkX7_146 im_X5_chosen se_X5_chosen cd_X5_chosen ini_X5 rfl (by first | assumption | exact hI _ (by omega)) (cont_row hw_r _) hd_X5_chosen ⟨Nat.le_of_ble_eq_true rfl, Nat.le_of_ble_eq_true rfl⟩ rfl (Nat.le_of_ble_eq_true rfl) (V.kkA ?_)
        refine V.callV (ci := 3) (T := TX4) (N := 8) dX7_act_50 (c_X4_takeBy (i := 103) (a := 34 + 17 * r + 1 + y) hI9 (hI _ (by omega)) rfl (hI _ (by omega)) (ial_row hw_r (by omega) (by omega) (by omega)) (by omega) (by decide) (by decide)) lkX7_175 im_X4_takeBy se_X4_takeBy cd_X4_takeBy ini_X4 rfl (by first | assumption | exact hI _ (by omega)) rfl hd_X4_takeBy ⟨Nat.le_of_ble_eq_true rfl, Nat.le_of_ble_eq_true rfl⟩ rfl (Nat.le_of_ble_eq_true rfl) (V.kkN ?_)
        refine V.aload_n dX7_act_53 rfl ?_
        refine V.getf (ci := 6) (k := 4) (C := RX7) (T := TX7) (N := 10) dX7_act_54 lfX7_42 inX7 rfl (by first | assumption | exact hI _ (by omega)) rfl (by decide) rfl ?_
        refine V.getf (ci := 0) (k := 0) (C := RX0) (T := TX0) (N := 4) dX7_act_57 lfX7_168 inX0 rfl (by first | assumption | exact hI _ (by omega)) rfl (by decide) rfl ?_
        refine V.iconst (v := nI 0) dX7_act_60 rfl ?_
        refine V.iald (n := 9) dX7_act_61 (by first | assumption | exact hI _ (by omega)) (by first | assumption | decide) (by omega) ?_
        refine V.iret dX7_act_62 ?_
        have ec : eq9 (M1 (34 + 17 * r + 1 + y)) (chS A r y) := hrc.ch hr (by omega)
        have ep := (aset_9 (M := M1) (i := 103)).tr (ftake_cg hrc.1.2.2.2 hrc.1.1 hrc.2.2.2.1.1 ec)
        have kk : keep (fun j => scr j ∨ j = 103) (M1) (aset (M1) 103 0 9 (ftake (M1 5) (M1 2) (M1 103) (M1 (34 + 17 * r + 1 + y)))) := (keep.rf (P := (fun j => scr j ∨ j = 103))).as (Or.inr rfl)
        have h10 : aset (M1) 103 0 9 (ftake (M1 5) (M1 2) (M1 103) (M1 (34 + 17 * r + 1 + y))) 10 3 = M1 10 3 := by rw [aset_ne (by decide)]
        exact ⟨congrArg (fun q => some (Value.int q)) (ep 0 (by decide)), hrc.hand kk h10 ep, (krm.wk (fun j hj => by unfold cP; omega)).tr (kk.wk (fun j hj => by unfold cP; unfold scr at hj; omega))⟩
      · omega
  · cases qr
theorem k_raise_2 {g : Gl} {M : Mem} {x : Int32} (h : isN x 4 = false) : Ct g yX7_raise cX7_raise 2 (some .int) 4 [.ref (g.2.2.2.1 0), .int x] M (fun v M' => v = some (.int (-2)) ∧ M' = M) := by
  refine Ct.ofV (by decide) (Nat.le_of_ble_eq_true rfl) (by simp [Value.category]) (fun κ => ?_)
  refine V.iload_n dX7_raise_0 rfl ?_
  refine V.callS dX7_raise_1 (c_X7_isRow) lkX7_81 st_X7_isRow cd_X7_isRow ini_X7 hd_X7_isRow ⟨Nat.le_of_ble_eq_true rfl, Nat.le_of_ble_eq_true rfl⟩ rfl (Nat.le_of_ble_eq_true rfl) (V.kkF ?_)
  refine V.if_neB (tgt := 10) dX7_raise_4 (by decide) (fun h1 => ?_) (fun h1 => ?_)
  · rw [h1] at h; cases h
  · refine V.bipush (v := -2) dX7_raise_7 (by decide) ?_
    refine V.iret dX7_raise_9 ?_
    exact ⟨rfl, rfl⟩
theorem k_raise_4 {g : Gl} {M : Mem} {A : Ab} {r : Nat} (hI : ∀ i, i < 142 → i ∈ g.2.2.2.2) (h : Rc A M) (hr : r < 4) (hp : A.2.2.2.1 8 ≠ 0) : Ct g yX7_raise cX7_raise 2 (some .int) 4 [.ref (g.2.2.2.1 0), .int (nI r)] M (fun v M' => v = some (.int (-4)) ∧ M' = M) := by
  have hw_r := isRw_of hr
  have hJ_r : ∀ i, 34 + 17 * r ≤ i ∧ i < 34 + 17 * r + 17 → i ∈ g.2.2.2.2 := fun i h => hI i (by omega)
  refine Ct.ofV (by decide) (Nat.le_of_ble_eq_true rfl) (by simp [Value.category]) (fun κ => ?_)
  refine V.iload_n dX7_raise_0 rfl ?_
  refine V.callS dX7_raise_1 (c_X7_isRow) lkX7_81 st_X7_isRow cd_X7_isRow ini_X7 hd_X7_isRow ⟨Nat.le_of_ble_eq_true rfl, Nat.le_of_ble_eq_true rfl⟩ rfl (Nat.le_of_ble_eq_true rfl) (V.kkF ?_)
  rw [isN_nI (by decide) hr]
  refine V.if_neB (tgt := 10) dX7_raise_4 (by decide) (fun qr => ?_) (fun qr => ?_)
  · skip
    refine V.aload_n dX7_raise_10 rfl ?_
    refine V.getf (ci := 6) (k := 4) (C := RX7) (T := TX7) (N := 10) dX7_raise_11 lfX7_42 inX7 rfl (by first | assumption | exact hI _ (by omega)) rfl (by decide) rfl ?_
    refine V.callV (ci := 0) (T := TX0) (N := 4) dX7_raise_14 (c_X0_hasTopPower (fun i h => hI i (by omega))) lkX7_178 im_X0_hasTopPower se_X0_hasTopPower cd_X0_hasTopPower ini_X0 rfl (by first | assumption | exact hI _ (by omega)) rfl hd_X0_hasTopPower ⟨Nat.le_of_ble_eq_true rfl, Nat.le_of_ble_eq_true rfl⟩ rfl (Nat.le_of_ble_eq_true rfl) (V.kkF ?_)
    refine V.if_eqB (tgt := 23) dX7_raise_17 (by decide) (fun h1 => ?_) (fun h1 => ?_)
    · exact absurd (by rw [h.2.2.2.1.1 8 (by decide)] at h1; simpa using h1) hp
    · refine V.bipush (v := -4) dX7_raise_20 (by decide) ?_
      refine V.iret dX7_raise_22 ?_
      exact ⟨rfl, rfl⟩
  · cases qr
theorem k_raise {g : Gl} {M : Mem} {A : Ab} {r : Nat} (hI : ∀ i, i < 142 → i ∈ g.2.2.2.2) (h : Rc A M) (hr : r < 4) (hp : A.2.2.2.1 8 = 0) : Ct g yX7_raise cX7_raise 2 (some .int) 4 [.ref (g.2.2.2.1 0), .int (nI r)] M (fun v M' => v = some (.int (horn (funtake faC exC A.2.2.2.1 (A.2.2.1 r)) (nI 1) 9)) ∧ Rc (A.1, A.2.1, A.2.2.1, funtake faC exC A.2.2.2.1 (A.2.2.1 r), rmb A.2.2.2.1 A.2.2.2.2.1, A.2.2.2.2.2) M' ∧ keep cP M M') := by
  have hw_r := isRw_of hr
  have hJ_r : ∀ i, 34 + 17 * r ≤ i ∧ i < 34 + 17 * r + 17 → i ∈ g.2.2.2.2 := fun i h => hI i (by omega)
  have hI9 : ∀ i, 1 ≤ i ∧ i ≤ 9 → i ∈ g.2.2.2.2 := fun i h => hI i (by omega)
  obtain ⟨a3, u3, ha3, hu3, e3, e1, hrc⟩ := h.rem
  have krm := remM_keep (M := M) (u := u3) ha3
  refine Ct.ofV (by decide) (Nat.le_of_ble_eq_true rfl) (by simp [Value.category]) (fun κ => ?_)
  refine V.iload_n dX7_raise_0 rfl ?_
  refine V.callS dX7_raise_1 (c_X7_isRow) lkX7_81 st_X7_isRow cd_X7_isRow ini_X7 hd_X7_isRow ⟨Nat.le_of_ble_eq_true rfl, Nat.le_of_ble_eq_true rfl⟩ rfl (Nat.le_of_ble_eq_true rfl) (V.kkF ?_)
  rw [isN_nI (by decide) hr]
  refine V.if_neB (tgt := 10) dX7_raise_4 (by decide) (fun qr => ?_) (fun qr => ?_)
  · skip
    refine V.aload_n dX7_raise_10 rfl ?_
    refine V.getf (ci := 6) (k := 4) (C := RX7) (T := TX7) (N := 10) dX7_raise_11 lfX7_42 inX7 rfl (by first | assumption | exact hI _ (by omega)) rfl (by decide) rfl ?_
    refine V.callV (ci := 0) (T := TX0) (N := 4) dX7_raise_14 (c_X0_hasTopPower (fun i h => hI i (by omega))) lkX7_178 im_X0_hasTopPower se_X0_hasTopPower cd_X0_hasTopPower ini_X0 rfl (by first | assumption | exact hI _ (by omega)) rfl hd_X0_hasTopPower ⟨Nat.le_of_ble_eq_true rfl, Nat.le_of_ble_eq_true rfl⟩ rfl (Nat.le_of_ble_eq_true rfl) (V.kkF ?_)
    refine V.if_eqB (tgt := 23) dX7_raise_17 (by decide) (fun h1 => ?_) (fun h1 => ?_)
    · skip
      refine V.aload_n dX7_raise_23 rfl ?_
      refine V.getf (ci := 6) (k := 4) (C := RX7) (T := TX7) (N := 10) dX7_raise_24 lfX7_42 inX7 rfl (by first | assumption | exact hI _ (by omega)) rfl (by decide) rfl ?_
      refine V.callV (ci := 0) (T := TX0) (N := 4) dX7_raise_27 (c_rem (fun i h => hI i (by omega)) ha3 e3 hu3 e1) lkX7_165 im_X0_remember se_X0_remember cd_X0_remember ini_X0 rfl (by first | assumption | exact hI _ (by omega)) rfl hd_X0_remember ⟨Nat.le_of_ble_eq_true rfl, Nat.le_of_ble_eq_true rfl⟩ rfl (Nat.le_of_ble_eq_true rfl) (V.kkP (fun M1 qr => ?_))
      rw [← qr] at hrc krm
      refine V.aload_n dX7_raise_30 rfl ?_
      refine V.getf (ci := 6) (k := 0) (C := RX7) (T := TX7) (N := 10) dX7_raise_31 lfX7_12 inX7 rfl (by first | assumption | exact hI _ (by omega)) rfl (by decide) rfl ?_
      refine V.aload_n dX7_raise_34 rfl ?_
      refine V.getf (ci := 6) (k := 4) (C := RX7) (T := TX7) (N := 10) dX7_raise_35 lfX7_42 inX7 rfl (by first | assumption | exact hI _ (by omega)) rfl (by decide) rfl ?_
      refine V.getf (ci := 0) (k := 0) (C := RX0) (T := TX0) (N := 4) dX7_raise_38 lfX7_168 inX0 rfl (by first | assumption | exact hI _ (by omega)) rfl (by decide) rfl ?_
      refine V.aload_n dX7_raise_41 rfl ?_
      refine V.getf (ci := 6) (k := 3) (C := RX7) (T := TX7) (N := 10) dX7_raise_42 lfX7_34 inX7 rfl (by first | assumption | exact hI _ (by omega)) rfl (by decide) rfl ?_
      refine V.iload_n dX7_raise_45 rfl ?_
      refine V.aald (n := 4) (t := 3) dX7_raise_46 (by first | assumption | exact hI _ (by omega)) rfl rfl rfl (by decide) (by omega) ?_
      refine V.getf (ci := 4) (k := 1) (C := RX5) (T := TX5) (N := 8) dX7_raise_47 lfX7_102 inX5 rfl (by first | assumption | exact hI _ (by omega)) (cont_row hw_r _) (by decide) rfl ?_
      refine V.callV (ci := 3) (T := TX4) (N := 8) dX7_raise_50 (c_X4_untakeBy (i := 103) (a := 34 + 17 * r + 2) hI9 (hI _ (by omega)) rfl (hI _ (by omega)) (ial_row hw_r (by omega) (by omega) (by omega)) (by omega) (by omega) (by omega)) lkX7_182 im_X4_untakeBy se_X4_untakeBy cd_X4_untakeBy ini_X4 rfl (by first | assumption | exact hI _ (by omega)) rfl hd_X4_untakeBy ⟨Nat.le_of_ble_eq_true rfl, Nat.le_of_ble_eq_true rfl⟩ rfl (Nat.le_of_ble_eq_true rfl) (V.kkP (fun M2 q2 => ?_))
      refine V.aload_n dX7_raise_53 rfl ?_
      refine V.getf (ci := 6) (k := 4) (C := RX7) (T := TX7) (N := 10) dX7_raise_54 lfX7_42 inX7 rfl (by first | assumption | exact hI _ (by omega)) rfl (by decide) rfl ?_
      refine V.getf (ci := 0) (k := 0) (C := RX0) (T := TX0) (N := 4) dX7_raise_57 lfX7_168 inX0 rfl (by first | assumption | exact hI _ (by omega)) rfl (by decide) rfl ?_
      refine V.iconst (v := nI 1) dX7_raise_60 rfl ?_
      refine V.callS dX7_raise_61 (c_X7_valueAt (hI 103 (by omega)) rfl) lkX7_154 st_X7_valueAt cd_X7_valueAt ini_X7 hd_X7_valueAt ⟨Nat.le_of_ble_eq_true rfl, Nat.le_of_ble_eq_true rfl⟩ rfl (Nat.le_of_ble_eq_true rfl) (V.kkF ?_)
      refine V.iret dX7_raise_64 ?_
      have ep : eq9 (M2 103) (funtake faC exC A.2.2.2.1 (A.2.2.1 r)) := q2.2.tr (funtake_cg hrc.1.2.2.2 hrc.1.1 hrc.2.2.2.1.1 (hrc.f hr))
      have kk : keep (fun j => scr j ∨ j = 103) (M1) M2 := q2.1.wk (fun j hj => by unfold scr; omega)
      have h10 : M2 10 3 = M1 10 3 := by rw [q2.1 10 (by omega)]
      exact ⟨by rw [horn_cg ep 9 (by decide)], hrc.hand kk h10 ep, (krm.wk (fun j hj => by unfold cP; omega)).tr (kk.wk (fun j hj => by unfold cP; unfold scr at hj; omega))⟩
    · exact absurd hp (by rw [h.2.2.2.1.1 8 (by decide)] at h1; simpa using h1)
  · cases qr
theorem k_shift_3 {g : Gl} {M : Mem} {x : Int32} (hz : isN x 9973 = false) : Ct g yX7_shift cX7_shift 2 (some .int) 3 [.ref (g.2.2.2.1 0), .int x] M (fun v M' => v = some (.int (-3)) ∧ M' = M) := by
  refine Ct.ofV (by decide) (Nat.le_of_ble_eq_true rfl) (by simp [Value.category]) (fun κ => ?_)
  refine V.iload_n dX7_shift_0 rfl ?_
  refine V.callS dX7_shift_1 (c_X2_holds) lkX7_126 st_X2_holds cd_X2_holds ini_X2 hd_X2_holds ⟨Nat.le_of_ble_eq_true rfl, Nat.le_of_ble_eq_true rfl⟩ rfl (Nat.le_of_ble_eq_true rfl) (V.kkF ?_)
  rw [hz]
  refine V.if_neB (tgt := 10) dX7_shift_4 (by decide) (fun h1 => ?_) (fun h1 => ?_)
  · cases h1
  · refine V.bipush (v := -3) dX7_shift_7 (by decide) ?_
    refine V.iret dX7_shift_9 ?_
    exact ⟨rfl, rfl⟩
theorem k_shift {g : Gl} {M : Mem} {A : Ab} {x : Nat} (hI : ∀ i, i < 142 → i ∈ g.2.2.2.2) (h : Rc A M) (hx : x < 9973) : Ct g yX7_shift cX7_shift 2 (some .int) 3 [.ref (g.2.2.2.1 0), .int (nI x)] M (fun v M' => v = some (.int (ftake faC exC A.2.2.2.1 (fexp exC (nI x)) 0)) ∧ Rc (A.1, A.2.1, A.2.2.1, ftake faC exC A.2.2.2.1 (fexp exC (nI x)), rmb A.2.2.2.1 A.2.2.2.2.1, A.2.2.2.2.2) M' ∧ keep cP M M') := by
  have hI9 : ∀ i, 1 ≤ i ∧ i ≤ 9 → i ∈ g.2.2.2.2 := fun i h => hI i (by omega)
  obtain ⟨a3, u3, ha3, hu3, e3, e1, hrc⟩ := h.rem
  have krm := remM_keep (M := M) (u := u3) ha3
  refine Ct.ofV (by decide) (Nat.le_of_ble_eq_true rfl) (by simp [Value.category]) (fun κ => ?_)
  refine V.iload_n dX7_shift_0 rfl ?_
  refine V.callS dX7_shift_1 (c_X2_holds) lkX7_126 st_X2_holds cd_X2_holds ini_X2 hd_X2_holds ⟨Nat.le_of_ble_eq_true rfl, Nat.le_of_ble_eq_true rfl⟩ rfl (Nat.le_of_ble_eq_true rfl) (V.kkF ?_)
  rw [isN_nI (by decide) hx]
  refine V.if_neB (tgt := 10) dX7_shift_4 (by decide) (fun h1 => ?_) (fun h1 => ?_)
  · refine V.aload_n dX7_shift_10 rfl ?_
    refine V.getf (ci := 6) (k := 4) (C := RX7) (T := TX7) (N := 10) dX7_shift_11 lfX7_42 inX7 rfl (by first | assumption | exact hI _ (by omega)) rfl (by decide) rfl ?_
    refine V.callV (ci := 0) (T := TX0) (N := 4) dX7_shift_14 (c_rem (fun i h => hI i (by omega)) ha3 e3 hu3 e1) lkX7_165 im_X0_remember se_X0_remember cd_X0_remember ini_X0 rfl (by first | assumption | exact hI _ (by omega)) rfl hd_X0_remember ⟨Nat.le_of_ble_eq_true rfl, Nat.le_of_ble_eq_true rfl⟩ rfl (Nat.le_of_ble_eq_true rfl) (V.kkP (fun M1 qr => ?_))
    rw [← qr] at hrc krm
    refine V.aload_n dX7_shift_17 rfl ?_
    refine V.getf (ci := 6) (k := 0) (C := RX7) (T := TX7) (N := 10) dX7_shift_18 lfX7_12 inX7 rfl (by first | assumption | exact hI _ (by omega)) rfl (by decide) rfl ?_
    refine V.aload_n dX7_shift_21 rfl ?_
    refine V.getf (ci := 6) (k := 8) (C := RX7) (T := TX7) (N := 10) dX7_shift_22 lfX7_60 inX7 rfl (by first | assumption | exact hI _ (by omega)) rfl (by decide) rfl ?_
    refine V.iload_n dX7_shift_25 rfl ?_
    refine V.callV (ci := 3) (T := TX4) (N := 8) dX7_shift_26 (c_X4_exponentialOf (i := 140) hI9 (hI _ (by omega)) rfl (by decide)) lkX7_135 im_X4_exponentialOf se_X4_exponentialOf cd_X4_exponentialOf ini_X4 rfl (by first | assumption | exact hI _ (by omega)) rfl hd_X4_exponentialOf ⟨Nat.le_of_ble_eq_true rfl, Nat.le_of_ble_eq_true rfl⟩ rfl (Nat.le_of_ble_eq_true rfl) (V.kkN ?_)
    refine V.aload_n dX7_shift_29 rfl ?_
    refine V.getf (ci := 6) (k := 0) (C := RX7) (T := TX7) (N := 10) dX7_shift_30 lfX7_12 inX7 rfl (by first | assumption | exact hI _ (by omega)) rfl (by decide) rfl ?_
    refine V.aload_n dX7_shift_33 rfl ?_
    refine V.getf (ci := 6) (k := 4) (C := RX7) (T := TX7) (N := 10) dX7_shift_34 lfX7_42 inX7 rfl (by first | assumption | exact hI _ (by omega)) rfl (by decide) rfl ?_
    refine V.getf (ci := 0) (k := 0) (C := RX0) (T := TX0) (N := 4) dX7_shift_37 lfX7_168 inX0 rfl (by first | assumption | exact hI _ (by omega)) rfl (by decide) rfl ?_
    refine V.aload_n dX7_shift_40 rfl ?_
    refine V.getf (ci := 6) (k := 8) (C := RX7) (T := TX7) (N := 10) dX7_shift_41 lfX7_60 inX7 rfl (by first | assumption | exact hI _ (by omega)) rfl (by decide) rfl ?_
    refine V.callV (ci := 3) (T := TX4) (N := 8) dX7_shift_44 (c_X4_takeBy (i := 103) (a := 140) hI9 (hI _ (by omega)) rfl (hI _ (by omega)) rfl (by decide) (by decide) (by decide)) lkX7_175 im_X4_takeBy se_X4_takeBy cd_X4_takeBy ini_X4 rfl (by first | assumption | exact hI _ (by omega)) rfl hd_X4_takeBy ⟨Nat.le_of_ble_eq_true rfl, Nat.le_of_ble_eq_true rfl⟩ rfl (Nat.le_of_ble_eq_true rfl) (V.kkN ?_)
    refine V.aload_n dX7_shift_47 rfl ?_
    refine V.getf (ci := 6) (k := 4) (C := RX7) (T := TX7) (N := 10) dX7_shift_48 lfX7_42 inX7 rfl (by first | assumption | exact hI _ (by omega)) rfl (by decide) rfl ?_
    refine V.getf (ci := 0) (k := 0) (C := RX0) (T := TX0) (N := 4) dX7_shift_51 lfX7_168 inX0 rfl (by first | assumption | exact hI _ (by omega)) rfl (by decide) rfl ?_
    refine V.iconst (v := nI 0) dX7_shift_54 rfl ?_
    refine V.iald (n := 9) dX7_shift_55 (by first | assumption | exact hI _ (by omega)) (by first | assumption | decide) (by omega) ?_
    refine V.iret dX7_shift_56 ?_
    generalize hM1 : aset (aset (M1) 140 0 9 _) 103 0 9 _ = M2
    have ep : eq9 (M2 103) (ftake faC exC A.2.2.2.1 (fexp exC (nI x))) := by
      rw [← hM1]
      refine aset_9.tr (ftake_cg ?_ ?_ ?_ (aset_9.tr (fexp_cg hrc.1.1)))
      · rw [aset_ne (by decide)]; exact hrc.1.2.2.2
      · rw [aset_ne (by decide)]; exact hrc.1.1
      · rw [aset_ne (by decide)]; exact hrc.2.2.2.1.1
    have kk : keep (fun j => scr j ∨ j = 103) (M1) M2 := by
      rw [← hM1]
      exact ((keep.rf (P := (fun j => scr j ∨ j = 103))).as (Or.inl (by unfold scr; omega))).as (Or.inr rfl)
    have h10 : M2 10 3 = M1 10 3 := by rw [← hM1, aset_ne (by decide), aset_ne (by decide)]
    exact ⟨congrArg (fun q => some (Value.int q)) (ep 0 (by decide)), hrc.hand kk h10 ep, (krm.wk (fun j hj => by unfold cP; omega)).tr (kk.wk (fun j hj => by unfold cP; unfold scr at hj; omega))⟩
  · cases h1
theorem k_times_4 {g : Gl} {M : Mem} {A : Ab}  (hI : ∀ i, i < 142 → i ∈ g.2.2.2.2) (h : Rc A M)  (hp : A.2.2.2.1 8 ≠ 0) : Ct g yX7_times cX7_times 1 (some .int) 3 [.ref (g.2.2.2.1 0)] M (fun v M' => v = some (.int (-4)) ∧ M' = M) := by
  refine Ct.ofV (by decide) (Nat.le_of_ble_eq_true rfl) (by simp [Value.category]) (fun κ => ?_)
  refine V.aload_n dX7_times_0 rfl ?_
  refine V.getf (ci := 6) (k := 4) (C := RX7) (T := TX7) (N := 10) dX7_times_1 lfX7_42 inX7 rfl (by first | assumption | exact hI _ (by omega)) rfl (by decide) rfl ?_
  refine V.callV (ci := 0) (T := TX0) (N := 4) dX7_times_4 (c_X0_hasTopPower (fun i h => hI i (by omega))) lkX7_178 im_X0_hasTopPower se_X0_hasTopPower cd_X0_hasTopPower ini_X0 rfl (by first | assumption | exact hI _ (by omega)) rfl hd_X0_hasTopPower ⟨Nat.le_of_ble_eq_true rfl, Nat.le_of_ble_eq_true rfl⟩ rfl (Nat.le_of_ble_eq_true rfl) (V.kkF ?_)
  refine V.if_eqB (tgt := 13) dX7_times_7 (by decide) (fun h1 => ?_) (fun h1 => ?_)
  · exact absurd (by rw [h.2.2.2.1.1 8 (by decide)] at h1; simpa using h1) hp
  · refine V.bipush (v := -4) dX7_times_10 (by decide) ?_
    refine V.iret dX7_times_12 ?_
    exact ⟨rfl, rfl⟩
theorem k_times {g : Gl} {M : Mem} {A : Ab}  (hI : ∀ i, i < 142 → i ∈ g.2.2.2.2) (h : Rc A M) (hp : A.2.2.2.1 8 = 0) : Ct g yX7_times cX7_times 1 (some .int) 3 [.ref (g.2.2.2.1 0)] M (fun v M' => v = some (.int (horn (fup A.2.2.2.1) (nI 1) 9)) ∧ Rc (A.1, A.2.1, A.2.2.1, fup A.2.2.2.1, rmb A.2.2.2.1 A.2.2.2.2.1, A.2.2.2.2.2) M' ∧ keep cP M M') := by
  have hI9 : ∀ i, 1 ≤ i ∧ i ≤ 9 → i ∈ g.2.2.2.2 := fun i h => hI i (by omega)
  obtain ⟨a3, u3, ha3, hu3, e3, e1, hrc⟩ := h.rem
  have krm := remM_keep (M := M) (u := u3) ha3
  refine Ct.ofV (by decide) (Nat.le_of_ble_eq_true rfl) (by simp [Value.category]) (fun κ => ?_)
  refine V.aload_n dX7_times_0 rfl ?_
  refine V.getf (ci := 6) (k := 4) (C := RX7) (T := TX7) (N := 10) dX7_times_1 lfX7_42 inX7 rfl (by first | assumption | exact hI _ (by omega)) rfl (by decide) rfl ?_
  refine V.callV (ci := 0) (T := TX0) (N := 4) dX7_times_4 (c_X0_hasTopPower (fun i h => hI i (by omega))) lkX7_178 im_X0_hasTopPower se_X0_hasTopPower cd_X0_hasTopPower ini_X0 rfl (by first | assumption | exact hI _ (by omega)) rfl hd_X0_hasTopPower ⟨Nat.le_of_ble_eq_true rfl, Nat.le_of_ble_eq_true rfl⟩ rfl (Nat.le_of_ble_eq_true rfl) (V.kkF ?_)
  refine V.if_eqB (tgt := 13) dX7_times_7 (by decide) (fun h1 => ?_) (fun h1 => ?_)
  · skip
    refine V.aload_n dX7_times_13 rfl ?_
    refine V.getf (ci := 6) (k := 4) (C := RX7) (T := TX7) (N := 10) dX7_times_14 lfX7_42 inX7 rfl (by first | assumption | exact hI _ (by omega)) rfl (by decide) rfl ?_
    refine V.callV (ci := 0) (T := TX0) (N := 4) dX7_times_17 (c_rem (fun i h => hI i (by omega)) ha3 e3 hu3 e1) lkX7_165 im_X0_remember se_X0_remember cd_X0_remember ini_X0 rfl (by first | assumption | exact hI _ (by omega)) rfl hd_X0_remember ⟨Nat.le_of_ble_eq_true rfl, Nat.le_of_ble_eq_true rfl⟩ rfl (Nat.le_of_ble_eq_true rfl) (V.kkP (fun M1 qr => ?_))
    rw [← qr] at hrc krm
    refine V.aload_n dX7_times_20 rfl ?_
    refine V.getf (ci := 6) (k := 4) (C := RX7) (T := TX7) (N := 10) dX7_times_21 lfX7_42 inX7 rfl (by first | assumption | exact hI _ (by omega)) rfl (by decide) rfl ?_
    refine V.getf (ci := 0) (k := 0) (C := RX0) (T := TX0) (N := 4) dX7_times_24 lfX7_168 inX0 rfl (by first | assumption | exact hI _ (by omega)) rfl (by decide) rfl ?_
    refine V.callS dX7_times_27 (c_X7_moveUp (i := 103) (hI _ (by omega)) rfl) lkX7_185 st_X7_moveUp cd_X7_moveUp ini_X7 hd_X7_moveUp ⟨Nat.le_of_ble_eq_true rfl, Nat.le_of_ble_eq_true rfl⟩ rfl (Nat.le_of_ble_eq_true rfl) (V.kkN ?_)
    refine V.aload_n dX7_times_30 rfl ?_
    refine V.getf (ci := 6) (k := 4) (C := RX7) (T := TX7) (N := 10) dX7_times_31 lfX7_42 inX7 rfl (by first | assumption | exact hI _ (by omega)) rfl (by decide) rfl ?_
    refine V.getf (ci := 0) (k := 0) (C := RX0) (T := TX0) (N := 4) dX7_times_34 lfX7_168 inX0 rfl (by first | assumption | exact hI _ (by omega)) rfl (by decide) rfl ?_
    refine V.iconst (v := nI 1) dX7_times_37 rfl ?_
    refine V.callS dX7_times_38 (c_X7_valueAt (hI 103 (by omega)) rfl) lkX7_154 st_X7_valueAt cd_X7_valueAt ini_X7 hd_X7_valueAt ⟨Nat.le_of_ble_eq_true rfl, Nat.le_of_ble_eq_true rfl⟩ rfl (Nat.le_of_ble_eq_true rfl) (V.kkF ?_)
    refine V.iret dX7_times_41 ?_
    have ep : eq9 (aset (M1) 103 0 9 (fup (M1 103)) 103) (fup A.2.2.2.1) := aset_9.tr (fup_cg hrc.2.2.2.1.1)
    have kk : keep (fun j => scr j ∨ j = 103) (M1) (aset (M1) 103 0 9 (fup (M1 103))) := (keep.rf (P := (fun j => scr j ∨ j = 103))).as (Or.inr rfl)
    have h10 : aset (M1) 103 0 9 (fup (M1 103)) 10 3 = M1 10 3 := by rw [aset_ne (by decide)]
    exact ⟨by rw [horn_cg ep 9 (by decide)], hrc.hand kk h10 ep, (krm.wk (fun j hj => by unfold cP; omega)).tr (kk.wk (fun j hj => by unfold cP; unfold scr at hj; omega))⟩
  · exact absurd hp (by rw [h.2.2.2.1.1 8 (by decide)] at h1; simpa using h1)
theorem k_swap_2 {g : Gl} {M : Mem} {x y : Int32} (h : isN x 4 = false ∨ isN y 4 = false) : Ct g yX7_swap cX7_swap 3 (some .int) 3 [.ref (g.2.2.2.1 0), .int x, .int y] M (fun v M' => v = some (.int (-2)) ∧ M' = M) := by
  refine Ct.ofV (by decide) (Nat.le_of_ble_eq_true rfl) (by simp [Value.category]) (fun κ => ?_)
  refine V.iload_n dX7_swap_0 rfl ?_
  refine V.callS dX7_swap_1 (c_X7_isRow) lkX7_81 st_X7_isRow cd_X7_isRow ini_X7 hd_X7_isRow ⟨Nat.le_of_ble_eq_true rfl, Nat.le_of_ble_eq_true rfl⟩ rfl (Nat.le_of_ble_eq_true rfl) (V.kkF ?_)
  refine V.if_eqB (tgt := 14) dX7_swap_4 (by decide) (fun h1 => ?_) (fun h1 => ?_)
  · refine V.bipush (v := -2) dX7_swap_14 (by decide) ?_
    refine V.iret dX7_swap_16 ?_
    exact ⟨rfl, rfl⟩
  · skip
    refine V.iload_n dX7_swap_7 rfl ?_
    refine V.callS dX7_swap_8 (c_X7_isRow) lkX7_81 st_X7_isRow cd_X7_isRow ini_X7 hd_X7_isRow ⟨Nat.le_of_ble_eq_true rfl, Nat.le_of_ble_eq_true rfl⟩ rfl (Nat.le_of_ble_eq_true rfl) (V.kkF ?_)
    refine V.if_neB (tgt := 17) dX7_swap_11 (by decide) (fun h2 => ?_) (fun h2 => ?_)
    · rcases h with h | h
      · rw [h1] at h; cases h
      · rw [h2] at h; cases h
    · refine V.bipush (v := -2) dX7_swap_14 (by decide) ?_
      refine V.iret dX7_swap_16 ?_
      exact ⟨rfl, rfl⟩
theorem k_swap {g : Gl} {M : Mem} {A : Ab} {s o : Nat} (hI : ∀ i, i < 142 → i ∈ g.2.2.2.2) (h : Rc A M) (hs : s < 4) (ho : o < 4) : Ct g yX7_swap cX7_swap 3 (some .int) 3 [.ref (g.2.2.2.1 0), .int (nI s), .int (nI o)] M (fun v M' => v = some (.int (gsum (PR A o) (ftell (PR A s) A.2.2.2.1) 9 0)) ∧ Rc (A.1, A.2.1, A.2.2.1, gsum (PR A o) (ftell (PR A s) A.2.2.2.1) 9, rmb A.2.2.2.1 A.2.2.2.2.1, A.2.2.2.2.2) M' ∧ keep cP M M') := by
  have hw_o := isRw_of ho
  have hJ_o : ∀ i, 34 + 17 * o ≤ i ∧ i < 34 + 17 * o + 17 → i ∈ g.2.2.2.2 := fun i h => hI i (by omega)
  have hw_s := isRw_of hs
  have hJ_s : ∀ i, 34 + 17 * s ≤ i ∧ i < 34 + 17 * s + 17 → i ∈ g.2.2.2.2 := fun i h => hI i (by omega)
  have hI9 : ∀ i, 1 ≤ i ∧ i ≤ 9 → i ∈ g.2.2.2.2 := fun i h => hI i (by omega)
  obtain ⟨a3, u3, ha3, hu3, e3, e1, hrc⟩ := h.rem
  have krm := remM_keep (M := M) (u := u3) ha3
  refine Ct.ofV (by decide) (Nat.le_of_ble_eq_true rfl) (by simp [Value.category]) (fun κ => ?_)
  refine V.iload_n dX7_swap_0 rfl ?_
  refine V.callS dX7_swap_1 (c_X7_isRow) lkX7_81 st_X7_isRow cd_X7_isRow ini_X7 hd_X7_isRow ⟨Nat.le_of_ble_eq_true rfl, Nat.le_of_ble_eq_true rfl⟩ rfl (Nat.le_of_ble_eq_true rfl) (V.kkF ?_)
  rw [isN_nI (by decide) hs]
  refine V.if_eqB (tgt := 14) dX7_swap_4 (by decide) (fun qs => ?_) (fun qs => ?_)
  · cases qs
  · skip
    refine V.iload_n dX7_swap_7 rfl ?_
    refine V.callS dX7_swap_8 (c_X7_isRow) lkX7_81 st_X7_isRow cd_X7_isRow ini_X7 hd_X7_isRow ⟨Nat.le_of_ble_eq_true rfl, Nat.le_of_ble_eq_true rfl⟩ rfl (Nat.le_of_ble_eq_true rfl) (V.kkF ?_)
    rw [isN_nI (by decide) ho]
    refine V.if_neB (tgt := 17) dX7_swap_11 (by decide) (fun qo => ?_) (fun qo => ?_)
    · skip
      refine V.aload_n dX7_swap_17 rfl ?_
      refine V.getf (ci := 6) (k := 4) (C := RX7) (T := TX7) (N := 10) dX7_swap_18 lfX7_42 inX7 rfl (by first | assumption | exact hI _ (by omega)) rfl (by decide) rfl ?_
      refine V.callV (ci := 0) (T := TX0) (N := 4) dX7_swap_21 (c_rem (fun i h => hI i (by omega)) ha3 e3 hu3 e1) lkX7_165 im_X0_remember se_X0_remember cd_X0_remember ini_X0 rfl (by first | assumption | exact hI _ (by omega)) rfl hd_X0_remember ⟨Nat.le_of_ble_eq_true rfl, Nat.le_of_ble_eq_true rfl⟩ rfl (Nat.le_of_ble_eq_true rfl) (V.kkP (fun M1 qr => ?_))
      rw [← qr] at hrc krm
      refine V.aload_n dX7_swap_24 rfl ?_
      refine V.getf (ci := 6) (k := 3) (C := RX7) (T := TX7) (N := 10) dX7_swap_25 lfX7_34 inX7 rfl (by first | assumption | exact hI _ (by omega)) rfl (by decide) rfl ?_
      refine V.iload_n dX7_swap_28 rfl ?_
      refine V.aald (n := 4) (t := 3) dX7_swap_29 (by first | assumption | exact hI _ (by omega)) rfl rfl rfl (by decide) (by omega) ?_
      refine V.aload_n dX7_swap_30 rfl ?_
      refine V.getf (ci := 6) (k := 9) (C := RX7) (T := TX7) (N := 10) dX7_swap_31 lfX7_63 inX7 rfl (by first | assumption | exact hI _ (by omega)) rfl (by decide) rfl ?_
      refine V.aload_n dX7_swap_34 rfl ?_
      refine V.getf (ci := 6) (k := 4) (C := RX7) (T := TX7) (N := 10) dX7_swap_35 lfX7_42 inX7 rfl (by first | assumption | exact hI _ (by omega)) rfl (by decide) rfl ?_
      refine V.getf (ci := 0) (k := 0) (C := RX0) (T := TX0) (N := 4) dX7_swap_38 lfX7_168 inX0 rfl (by first | assumption | exact hI _ (by omega)) rfl (by decide) rfl ?_
      refine V.callV (ci := 4) (T := TX5) (N := 8) dX7_swap_41 (c_X5_tell (i := 141) (a := 103) hw_s hJ_s (hI _ (by omega)) rfl (hI _ (by omega)) rfl (by omega)) lkX7_158 im_X5_tell se_X5_tell cd_X5_tell ini_X5 rfl (by first | assumption | exact hI _ (by omega)) (cont_row hw_s _) hd_X5_tell ⟨Nat.le_of_ble_eq_true rfl, Nat.le_of_ble_eq_true rfl⟩ rfl (Nat.le_of_ble_eq_true rfl) (V.kkP (fun M2 q2 => ?_))
      refine V.aload_n dX7_swap_44 rfl ?_
      refine V.getf (ci := 6) (k := 3) (C := RX7) (T := TX7) (N := 10) dX7_swap_45 lfX7_34 inX7 rfl (by first | assumption | exact hI _ (by omega)) rfl (by decide) rfl ?_
      refine V.iload_n dX7_swap_48 rfl ?_
      refine V.aald (n := 4) (t := 3) dX7_swap_49 (by first | assumption | exact hI _ (by omega)) rfl rfl rfl (by decide) (by omega) ?_
      refine V.aload_n dX7_swap_50 rfl ?_
      refine V.getf (ci := 6) (k := 4) (C := RX7) (T := TX7) (N := 10) dX7_swap_51 lfX7_42 inX7 rfl (by first | assumption | exact hI _ (by omega)) rfl (by decide) rfl ?_
      refine V.getf (ci := 0) (k := 0) (C := RX0) (T := TX0) (N := 4) dX7_swap_54 lfX7_168 inX0 rfl (by first | assumption | exact hI _ (by omega)) rfl (by decide) rfl ?_
      refine V.aload_n dX7_swap_57 rfl ?_
      refine V.getf (ci := 6) (k := 9) (C := RX7) (T := TX7) (N := 10) dX7_swap_58 lfX7_63 inX7 rfl (by first | assumption | exact hI _ (by omega)) rfl (by decide) rfl ?_
      refine V.callV (ci := 4) (T := TX5) (N := 8) dX7_swap_61 (c_X5_gather (i := 103) (a := 141) hw_o hJ_o (hI _ (by omega)) rfl (hI _ (by omega)) rfl (by omega) (by decide)) lkX7_189 im_X5_gather se_X5_gather cd_X5_gather ini_X5 rfl (by first | assumption | exact hI _ (by omega)) (cont_row hw_o _) hd_X5_gather ⟨Nat.le_of_ble_eq_true rfl, Nat.le_of_ble_eq_true rfl⟩ rfl (Nat.le_of_ble_eq_true rfl) (V.kkN ?_)
      refine V.aload_n dX7_swap_64 rfl ?_
      refine V.getf (ci := 6) (k := 4) (C := RX7) (T := TX7) (N := 10) dX7_swap_65 lfX7_42 inX7 rfl (by first | assumption | exact hI _ (by omega)) rfl (by decide) rfl ?_
      refine V.getf (ci := 0) (k := 0) (C := RX0) (T := TX0) (N := 4) dX7_swap_68 lfX7_168 inX0 rfl (by first | assumption | exact hI _ (by omega)) rfl (by decide) rfl ?_
      refine V.iconst (v := nI 0) dX7_swap_71 rfl ?_
      refine V.iald (n := 9) dX7_swap_72 (by first | assumption | exact hI _ (by omega)) (by first | assumption | decide) (by omega) ?_
      refine V.iret dX7_swap_73 ?_
      have et : eq9 (M2 141) (ftell (PR A s) A.2.2.2.1) := q2.2.tr (ftell_cg (fun n hn => hrc.pol hs hn) hrc.2.2.2.1.1)
      have ep : eq9 (aset M2 103 0 9 (gsum (fun n => M2 (34 + 17 * o + 6 + n)) (M2 141) 9) 103) (gsum (PR A o) (ftell (PR A s) A.2.2.2.1) 9) := aset_9.tr (gsum_cg (fun n hn => by rw [q2.1 _ (by omega)]; exact hrc.pol ho hn) et 9 (Nat.le_refl _))
      have kk : keep (fun j => scr j ∨ j = 103) (M1) (aset M2 103 0 9 (gsum (fun n => M2 (34 + 17 * o + 6 + n)) (M2 141) 9)) := (q2.1.wk (fun j hj => by unfold scr; omega)).as (Or.inr rfl)
      have h10 : aset M2 103 0 9 (gsum (fun n => M2 (34 + 17 * o + 6 + n)) (M2 141) 9) 10 3 = M1 10 3 := by rw [aset_ne (by decide), q2.1 10 (by omega)]
      exact ⟨congrArg (fun q => some (Value.int q)) (ep 0 (by decide)), hrc.hand kk h10 ep, (krm.wk (fun j hj => by unfold cP; omega)).tr (kk.wk (fun j hj => by unfold cP; unfold scr at hj; omega))⟩
    · cases qo
theorem k_climb_2 {g : Gl} {M : Mem} {x : Int32} (h : isN x 4 = false) : Ct g yX7_climb cX7_climb 2 (some .int) 3 [.ref (g.2.2.2.1 0), .int x] M (fun v M' => v = some (.int (-2)) ∧ M' = M) := by
  refine Ct.ofV (by decide) (Nat.le_of_ble_eq_true rfl) (by simp [Value.category]) (fun κ => ?_)
  refine V.iload_n dX7_climb_0 rfl ?_
  refine V.callS dX7_climb_1 (c_X7_isRow) lkX7_81 st_X7_isRow cd_X7_isRow ini_X7 hd_X7_isRow ⟨Nat.le_of_ble_eq_true rfl, Nat.le_of_ble_eq_true rfl⟩ rfl (Nat.le_of_ble_eq_true rfl) (V.kkF ?_)
  refine V.if_neB (tgt := 10) dX7_climb_4 (by decide) (fun h1 => ?_) (fun h1 => ?_)
  · rw [h1] at h; cases h
  · refine V.bipush (v := -2) dX7_climb_7 (by decide) ?_
    refine V.iret dX7_climb_9 ?_
    exact ⟨rfl, rfl⟩
theorem k_climb_4 {g : Gl} {M : Mem} {A : Ab} {r : Nat} (hI : ∀ i, i < 142 → i ∈ g.2.2.2.2) (h : Rc A M) (hr : r < 4) (hp : A.2.2.2.1 8 ≠ 0) : Ct g yX7_climb cX7_climb 2 (some .int) 3 [.ref (g.2.2.2.1 0), .int (nI r)] M (fun v M' => v = some (.int (-4)) ∧ M' = M) := by
  have hw_r := isRw_of hr
  have hJ_r : ∀ i, 34 + 17 * r ≤ i ∧ i < 34 + 17 * r + 17 → i ∈ g.2.2.2.2 := fun i h => hI i (by omega)
  refine Ct.ofV (by decide) (Nat.le_of_ble_eq_true rfl) (by simp [Value.category]) (fun κ => ?_)
  refine V.iload_n dX7_climb_0 rfl ?_
  refine V.callS dX7_climb_1 (c_X7_isRow) lkX7_81 st_X7_isRow cd_X7_isRow ini_X7 hd_X7_isRow ⟨Nat.le_of_ble_eq_true rfl, Nat.le_of_ble_eq_true rfl⟩ rfl (Nat.le_of_ble_eq_true rfl) (V.kkF ?_)
  rw [isN_nI (by decide) hr]
  refine V.if_neB (tgt := 10) dX7_climb_4 (by decide) (fun qr => ?_) (fun qr => ?_)
  · skip
    refine V.aload_n dX7_climb_10 rfl ?_
    refine V.getf (ci := 6) (k := 4) (C := RX7) (T := TX7) (N := 10) dX7_climb_11 lfX7_42 inX7 rfl (by first | assumption | exact hI _ (by omega)) rfl (by decide) rfl ?_
    refine V.callV (ci := 0) (T := TX0) (N := 4) dX7_climb_14 (c_X0_hasTopPower (fun i h => hI i (by omega))) lkX7_178 im_X0_hasTopPower se_X0_hasTopPower cd_X0_hasTopPower ini_X0 rfl (by first | assumption | exact hI _ (by omega)) rfl hd_X0_hasTopPower ⟨Nat.le_of_ble_eq_true rfl, Nat.le_of_ble_eq_true rfl⟩ rfl (Nat.le_of_ble_eq_true rfl) (V.kkF ?_)
    refine V.if_eqB (tgt := 23) dX7_climb_17 (by decide) (fun h1 => ?_) (fun h1 => ?_)
    · exact absurd (by rw [h.2.2.2.1.1 8 (by decide)] at h1; simpa using h1) hp
    · refine V.bipush (v := -4) dX7_climb_20 (by decide) ?_
      refine V.iret dX7_climb_22 ?_
      exact ⟨rfl, rfl⟩
  · cases qr
theorem k_climb {g : Gl} {M : Mem} {A : Ab} {r : Nat} (hI : ∀ i, i < 142 → i ∈ g.2.2.2.2) (h : Rc A M) (hr : r < 4) (hp : A.2.2.2.1 8 = 0) : Ct g yX7_climb cX7_climb 2 (some .int) 3 [.ref (g.2.2.2.1 0), .int (nI r)] M (fun v M' => v = some (.int (gsum (PR A r) (fup (ftell (PR A r) A.2.2.2.1)) 9 0)) ∧ Rc (A.1, A.2.1, A.2.2.1, gsum (PR A r) (fup (ftell (PR A r) A.2.2.2.1)) 9, rmb A.2.2.2.1 A.2.2.2.2.1, A.2.2.2.2.2) M' ∧ keep cP M M') := by
  have hw_r := isRw_of hr
  have hJ_r : ∀ i, 34 + 17 * r ≤ i ∧ i < 34 + 17 * r + 17 → i ∈ g.2.2.2.2 := fun i h => hI i (by omega)
  have hI9 : ∀ i, 1 ≤ i ∧ i ≤ 9 → i ∈ g.2.2.2.2 := fun i h => hI i (by omega)
  obtain ⟨a3, u3, ha3, hu3, e3, e1, hrc⟩ := h.rem
  have krm := remM_keep (M := M) (u := u3) ha3
  refine Ct.ofV (by decide) (Nat.le_of_ble_eq_true rfl) (by simp [Value.category]) (fun κ => ?_)
  refine V.iload_n dX7_climb_0 rfl ?_
  refine V.callS dX7_climb_1 (c_X7_isRow) lkX7_81 st_X7_isRow cd_X7_isRow ini_X7 hd_X7_isRow ⟨Nat.le_of_ble_eq_true rfl, Nat.le_of_ble_eq_true rfl⟩ rfl (Nat.le_of_ble_eq_true rfl) (V.kkF ?_)
  rw [isN_nI (by decide) hr]
  refine V.if_neB (tgt := 10) dX7_climb_4 (by decide) (fun qr => ?_) (fun qr => ?_)
  · skip
    refine V.aload_n dX7_climb_10 rfl ?_
    refine V.getf (ci := 6) (k := 4) (C := RX7) (T := TX7) (N := 10) dX7_climb_11 lfX7_42 inX7 rfl (by first | assumption | exact hI _ (by omega)) rfl (by decide) rfl ?_
    refine V.callV (ci := 0) (T := TX0) (N := 4) dX7_climb_14 (c_X0_hasTopPower (fun i h => hI i (by omega))) lkX7_178 im_X0_hasTopPower se_X0_hasTopPower cd_X0_hasTopPower ini_X0 rfl (by first | assumption | exact hI _ (by omega)) rfl hd_X0_hasTopPower ⟨Nat.le_of_ble_eq_true rfl, Nat.le_of_ble_eq_true rfl⟩ rfl (Nat.le_of_ble_eq_true rfl) (V.kkF ?_)
    refine V.if_eqB (tgt := 23) dX7_climb_17 (by decide) (fun h1 => ?_) (fun h1 => ?_)
    · skip
      refine V.aload_n dX7_climb_23 rfl ?_
      refine V.getf (ci := 6) (k := 4) (C := RX7) (T := TX7) (N := 10) dX7_climb_24 lfX7_42 inX7 rfl (by first | assumption | exact hI _ (by omega)) rfl (by decide) rfl ?_
      refine V.callV (ci := 0) (T := TX0) (N := 4) dX7_climb_27 (c_rem (fun i h => hI i (by omega)) ha3 e3 hu3 e1) lkX7_165 im_X0_remember se_X0_remember cd_X0_remember ini_X0 rfl (by first | assumption | exact hI _ (by omega)) rfl hd_X0_remember ⟨Nat.le_of_ble_eq_true rfl, Nat.le_of_ble_eq_true rfl⟩ rfl (Nat.le_of_ble_eq_true rfl) (V.kkP (fun M1 qr => ?_))
      rw [← qr] at hrc krm
      refine V.aload_n dX7_climb_30 rfl ?_
      refine V.getf (ci := 6) (k := 3) (C := RX7) (T := TX7) (N := 10) dX7_climb_31 lfX7_34 inX7 rfl (by first | assumption | exact hI _ (by omega)) rfl (by decide) rfl ?_
      refine V.iload_n dX7_climb_34 rfl ?_
      refine V.aald (n := 4) (t := 3) dX7_climb_35 (by first | assumption | exact hI _ (by omega)) rfl rfl rfl (by decide) (by omega) ?_
      refine V.aload_n dX7_climb_36 rfl ?_
      refine V.getf (ci := 6) (k := 9) (C := RX7) (T := TX7) (N := 10) dX7_climb_37 lfX7_63 inX7 rfl (by first | assumption | exact hI _ (by omega)) rfl (by decide) rfl ?_
      refine V.aload_n dX7_climb_40 rfl ?_
      refine V.getf (ci := 6) (k := 4) (C := RX7) (T := TX7) (N := 10) dX7_climb_41 lfX7_42 inX7 rfl (by first | assumption | exact hI _ (by omega)) rfl (by decide) rfl ?_
      refine V.getf (ci := 0) (k := 0) (C := RX0) (T := TX0) (N := 4) dX7_climb_44 lfX7_168 inX0 rfl (by first | assumption | exact hI _ (by omega)) rfl (by decide) rfl ?_
      refine V.callV (ci := 4) (T := TX5) (N := 8) dX7_climb_47 (c_X5_tell (i := 141) (a := 103) hw_r hJ_r (hI _ (by omega)) rfl (hI _ (by omega)) rfl (by omega)) lkX7_158 im_X5_tell se_X5_tell cd_X5_tell ini_X5 rfl (by first | assumption | exact hI _ (by omega)) (cont_row hw_r _) hd_X5_tell ⟨Nat.le_of_ble_eq_true rfl, Nat.le_of_ble_eq_true rfl⟩ rfl (Nat.le_of_ble_eq_true rfl) (V.kkP (fun M2 q2 => ?_))
      refine V.aload_n dX7_climb_50 rfl ?_
      refine V.getf (ci := 6) (k := 9) (C := RX7) (T := TX7) (N := 10) dX7_climb_51 lfX7_63 inX7 rfl (by first | assumption | exact hI _ (by omega)) rfl (by decide) rfl ?_
      refine V.callS dX7_climb_54 (c_X7_moveUp (i := 141) (hI _ (by omega)) rfl) lkX7_185 st_X7_moveUp cd_X7_moveUp ini_X7 hd_X7_moveUp ⟨Nat.le_of_ble_eq_true rfl, Nat.le_of_ble_eq_true rfl⟩ rfl (Nat.le_of_ble_eq_true rfl) (V.kkN ?_)
      refine V.aload_n dX7_climb_57 rfl ?_
      refine V.getf (ci := 6) (k := 3) (C := RX7) (T := TX7) (N := 10) dX7_climb_58 lfX7_34 inX7 rfl (by first | assumption | exact hI _ (by omega)) rfl (by decide) rfl ?_
      refine V.iload_n dX7_climb_61 rfl ?_
      refine V.aald (n := 4) (t := 3) dX7_climb_62 (by first | assumption | exact hI _ (by omega)) rfl rfl rfl (by decide) (by omega) ?_
      refine V.aload_n dX7_climb_63 rfl ?_
      refine V.getf (ci := 6) (k := 4) (C := RX7) (T := TX7) (N := 10) dX7_climb_64 lfX7_42 inX7 rfl (by first | assumption | exact hI _ (by omega)) rfl (by decide) rfl ?_
      refine V.getf (ci := 0) (k := 0) (C := RX0) (T := TX0) (N := 4) dX7_climb_67 lfX7_168 inX0 rfl (by first | assumption | exact hI _ (by omega)) rfl (by decide) rfl ?_
      refine V.aload_n dX7_climb_70 rfl ?_
      refine V.getf (ci := 6) (k := 9) (C := RX7) (T := TX7) (N := 10) dX7_climb_71 lfX7_63 inX7 rfl (by first | assumption | exact hI _ (by omega)) rfl (by decide) rfl ?_
      refine V.callV (ci := 4) (T := TX5) (N := 8) dX7_climb_74 (c_X5_gather (i := 103) (a := 141) hw_r hJ_r (hI _ (by omega)) rfl (hI _ (by omega)) rfl (by omega) (by decide)) lkX7_189 im_X5_gather se_X5_gather cd_X5_gather ini_X5 rfl (by first | assumption | exact hI _ (by omega)) (cont_row hw_r _) hd_X5_gather ⟨Nat.le_of_ble_eq_true rfl, Nat.le_of_ble_eq_true rfl⟩ rfl (Nat.le_of_ble_eq_true rfl) (V.kkN ?_)
      refine V.aload_n dX7_climb_77 rfl ?_
      refine V.getf (ci := 6) (k := 4) (C := RX7) (T := TX7) (N := 10) dX7_climb_78 lfX7_42 inX7 rfl (by first | assumption | exact hI _ (by omega)) rfl (by decide) rfl ?_
      refine V.getf (ci := 0) (k := 0) (C := RX0) (T := TX0) (N := 4) dX7_climb_81 lfX7_168 inX0 rfl (by first | assumption | exact hI _ (by omega)) rfl (by decide) rfl ?_
      refine V.iconst (v := nI 0) dX7_climb_84 rfl ?_
      refine V.iald (n := 9) dX7_climb_85 (by first | assumption | exact hI _ (by omega)) (by first | assumption | decide) (by omega) ?_
      refine V.iret dX7_climb_86 ?_
      have et : eq9 (M2 141) (ftell (PR A r) A.2.2.2.1) := q2.2.tr (ftell_cg (fun n hn => hrc.pol hr hn) hrc.2.2.2.1.1)
      generalize hM3 : aset (aset M2 141 0 9 _) 103 0 9 _ = M3
      have ep : eq9 (M3 103) (gsum (PR A r) (fup (ftell (PR A r) A.2.2.2.1)) 9) := by
        rw [← hM3]
        exact aset_9.tr (gsum_cg (fun n hn => by rw [aset_ne (by omega), q2.1 _ (by omega)]; exact hrc.pol hr hn) (aset_9.tr (fup_cg et)) 9 (Nat.le_refl _))
      have kk : keep (fun j => scr j ∨ j = 103) (M1) M3 := by
        rw [← hM3]
        exact ((q2.1.wk (fun j hj => by unfold scr; omega)).as (Or.inl (by unfold scr; omega))).as (Or.inr rfl)
      have h10 : M3 10 3 = M1 10 3 := by rw [← hM3, aset_ne (by decide), aset_ne (by decide), q2.1 10 (by omega)]
      exact ⟨congrArg (fun q => some (Value.int q)) (ep 0 (by decide)), hrc.hand kk h10 ep, (krm.wk (fun j hj => by unfold cP; omega)).tr (kk.wk (fun j hj => by unfold cP; unfold scr at hj; omega))⟩
    · exact absurd hp (by rw [h.2.2.2.1.1 8 (by decide)] at h1; simpa using h1)
  · cases qr
def fwei (a : Ser) : Ser := fun k => fmul (a k) (nI k)
theorem k_weigh_2 {g : Gl} {M : Mem} {x : Int32} (h : isN x 4 = false) : Ct g yX7_weigh cX7_weigh 3 (some .int) 3 [.ref (g.2.2.2.1 0), .int x] M (fun v M' => v = some (.int (-2)) ∧ M' = M) := by
  refine Ct.ofV (by decide) (Nat.le_of_ble_eq_true rfl) (by simp [Value.category]) (fun κ => ?_)
  refine V.iload_n dX7_weigh_0 rfl ?_
  refine V.callS dX7_weigh_1 (c_X7_isRow) lkX7_81 st_X7_isRow cd_X7_isRow ini_X7 hd_X7_isRow ⟨Nat.le_of_ble_eq_true rfl, Nat.le_of_ble_eq_true rfl⟩ rfl (Nat.le_of_ble_eq_true rfl) (V.kkF ?_)
  refine V.if_neB (tgt := 10) dX7_weigh_4 (by decide) (fun h1 => ?_) (fun h1 => ?_)
  · rw [h1] at h; cases h
  · refine V.bipush (v := -2) dX7_weigh_7 (by decide) ?_
    refine V.iret dX7_weigh_9 ?_
    exact ⟨rfl, rfl⟩
abbrev v_X7_weigh (g : Gl) (κ : Ka) (Q : State → Prop) (M : Mem) (pc : Nat) (L : List (Option Value)) (st : List Value) : Prop := V g cX7_weigh 3 yX7_weigh.cls (some .int) (rmd 3) Q κ M pc L st
theorem k_weigh {g : Gl} {M : Mem} {A : Ab} {r : Nat} (hI : ∀ i, i < 142 → i ∈ g.2.2.2.2) (h : Rc A M) (hr : r < 4) : Ct g yX7_weigh cX7_weigh 3 (some .int) 3 [.ref (g.2.2.2.1 0), .int (nI r)] M (fun v M' => v = some (.int (gsum (PR A r) (fwei (ftell (PR A r) A.2.2.2.1)) 9 0)) ∧ Rc (A.1, A.2.1, A.2.2.1, gsum (PR A r) (fwei (ftell (PR A r) A.2.2.2.1)) 9, rmb A.2.2.2.1 A.2.2.2.2.1, A.2.2.2.2.2) M' ∧ keep cP M M') := by
  have hw_r := isRw_of hr
  have hJ_r : ∀ i, 34 + 17 * r ≤ i ∧ i < 34 + 17 * r + 17 → i ∈ g.2.2.2.2 := fun i h => hI i (by omega)
  have hI9 : ∀ i, 1 ≤ i ∧ i ≤ 9 → i ∈ g.2.2.2.2 := fun i h => hI i (by omega)
  obtain ⟨a3, u3, ha3, hu3, e3, e1, hrc⟩ := h.rem
  have krm := remM_keep (M := M) (u := u3) ha3
  refine Ct.ofV (by decide) (Nat.le_of_ble_eq_true rfl) (by simp [Value.category]) (fun κ => ?_)
  refine V.iload_n dX7_weigh_0 rfl ?_
  refine V.callS dX7_weigh_1 (c_X7_isRow) lkX7_81 st_X7_isRow cd_X7_isRow ini_X7 hd_X7_isRow ⟨Nat.le_of_ble_eq_true rfl, Nat.le_of_ble_eq_true rfl⟩ rfl (Nat.le_of_ble_eq_true rfl) (V.kkF ?_)
  rw [isN_nI (by decide) hr]
  refine V.if_neB (tgt := 10) dX7_weigh_4 (by decide) (fun qr => ?_) (fun qr => ?_)
  · skip
    refine V.aload_n dX7_weigh_10 rfl ?_
    refine V.getf (ci := 6) (k := 4) (C := RX7) (T := TX7) (N := 10) dX7_weigh_11 lfX7_42 inX7 rfl (by first | assumption | exact hI _ (by omega)) rfl (by decide) rfl ?_
    refine V.callV (ci := 0) (T := TX0) (N := 4) dX7_weigh_14 (c_rem (fun i h => hI i (by omega)) ha3 e3 hu3 e1) lkX7_165 im_X0_remember se_X0_remember cd_X0_remember ini_X0 rfl (by first | assumption | exact hI _ (by omega)) rfl hd_X0_remember ⟨Nat.le_of_ble_eq_true rfl, Nat.le_of_ble_eq_true rfl⟩ rfl (Nat.le_of_ble_eq_true rfl) (V.kkP (fun M1 qr => ?_))
    rw [← qr] at hrc krm
    refine V.aload_n dX7_weigh_17 rfl ?_
    refine V.getf (ci := 6) (k := 3) (C := RX7) (T := TX7) (N := 10) dX7_weigh_18 lfX7_34 inX7 rfl (by first | assumption | exact hI _ (by omega)) rfl (by decide) rfl ?_
    refine V.iload_n dX7_weigh_21 rfl ?_
    refine V.aald (n := 4) (t := 3) dX7_weigh_22 (by first | assumption | exact hI _ (by omega)) rfl rfl rfl (by decide) (by omega) ?_
    refine V.aload_n dX7_weigh_23 rfl ?_
    refine V.getf (ci := 6) (k := 9) (C := RX7) (T := TX7) (N := 10) dX7_weigh_24 lfX7_63 inX7 rfl (by first | assumption | exact hI _ (by omega)) rfl (by decide) rfl ?_
    refine V.aload_n dX7_weigh_27 rfl ?_
    refine V.getf (ci := 6) (k := 4) (C := RX7) (T := TX7) (N := 10) dX7_weigh_28 lfX7_42 inX7 rfl (by first | assumption | exact hI _ (by omega)) rfl (by decide) rfl ?_
    refine V.getf (ci := 0) (k := 0) (C := RX0) (T := TX0) (N := 4) dX7_weigh_31 lfX7_168 inX0 rfl (by first | assumption | exact hI _ (by omega)) rfl (by decide) rfl ?_
    refine V.callV (ci := 4) (T := TX5) (N := 8) dX7_weigh_34 (c_X5_tell (i := 141) (a := 103) hw_r hJ_r (hI _ (by omega)) rfl (hI _ (by omega)) rfl (by omega)) lkX7_158 im_X5_tell se_X5_tell cd_X5_tell ini_X5 rfl (by first | assumption | exact hI _ (by omega)) (cont_row hw_r _) hd_X5_tell ⟨Nat.le_of_ble_eq_true rfl, Nat.le_of_ble_eq_true rfl⟩ rfl (Nat.le_of_ble_eq_true rfl) (V.kkP (fun M2 q2 => ?_))
    refine V.iconst (v := nI 0) dX7_weigh_37 rfl ?_
    refine V.istore_n dX7_weigh_38 (by decide) ?_
    have et : eq9 (M2 141) (ftell (PR A r) A.2.2.2.1) := q2.2.tr (ftell_cg (fun n hn => hrc.pol hr hn) hrc.2.2.2.1.1)
    have lp := up_loop 9 (fun j => v_X7_weigh g κ (Qm g κ (fun v M' => v = some (.int (gsum (PR A r) (fwei (ftell (PR A r) A.2.2.2.1)) 9 0)) ∧ Rc (A.1, A.2.1, A.2.2.1, gsum (PR A r) (fwei (ftell (PR A r) A.2.2.2.1)) 9, rmb A.2.2.2.1 A.2.2.2.2.1, A.2.2.2.2.2) M' ∧ keep cP M M')) (aset M2 141 0 j (fwei (M2 141))) 39 [some (.ref (g.2.2.2.1 0)), some (.int (nI r)), some (.int (nI j))] []) (fun j hj ih => ?_) 0 (by omega)
    · rw [aset_nil (Nat.le_refl 0)] at lp
      exact lp
    · refine V.iload_n dX7_weigh_39 rfl ?_
      refine V.bipush (v := nI 9) dX7_weigh_40 (by decide) ?_
      refine V.geN (tgt := 67) dX7_weigh_42 (by decide) (by omega) (by omega) (fun h1 => ?_) (fun h1 => ?_)
      · have e : j = 9 := by omega
        subst e
        refine V.aload_n dX7_weigh_67 rfl ?_
        refine V.getf (ci := 6) (k := 3) (C := RX7) (T := TX7) (N := 10) dX7_weigh_68 lfX7_34 inX7 rfl (by first | assumption | exact hI _ (by omega)) rfl (by decide) rfl ?_
        refine V.iload_n dX7_weigh_71 rfl ?_
        refine V.aald (n := 4) (t := 3) dX7_weigh_72 (by first | assumption | exact hI _ (by omega)) rfl rfl rfl (by decide) (by omega) ?_
        refine V.aload_n dX7_weigh_73 rfl ?_
        refine V.getf (ci := 6) (k := 4) (C := RX7) (T := TX7) (N := 10) dX7_weigh_74 lfX7_42 inX7 rfl (by first | assumption | exact hI _ (by omega)) rfl (by decide) rfl ?_
        refine V.getf (ci := 0) (k := 0) (C := RX0) (T := TX0) (N := 4) dX7_weigh_77 lfX7_168 inX0 rfl (by first | assumption | exact hI _ (by omega)) rfl (by decide) rfl ?_
        refine V.aload_n dX7_weigh_80 rfl ?_
        refine V.getf (ci := 6) (k := 9) (C := RX7) (T := TX7) (N := 10) dX7_weigh_81 lfX7_63 inX7 rfl (by first | assumption | exact hI _ (by omega)) rfl (by decide) rfl ?_
        refine V.callV (ci := 4) (T := TX5) (N := 8) dX7_weigh_84 (c_X5_gather (i := 103) (a := 141) hw_r hJ_r (hI _ (by omega)) rfl (hI _ (by omega)) rfl (by omega) (by decide)) lkX7_189 im_X5_gather se_X5_gather cd_X5_gather ini_X5 rfl (by first | assumption | exact hI _ (by omega)) (cont_row hw_r _) hd_X5_gather ⟨Nat.le_of_ble_eq_true rfl, Nat.le_of_ble_eq_true rfl⟩ rfl (Nat.le_of_ble_eq_true rfl) (V.kkN ?_)
        refine V.aload_n dX7_weigh_87 rfl ?_
        refine V.getf (ci := 6) (k := 4) (C := RX7) (T := TX7) (N := 10) dX7_weigh_88 lfX7_42 inX7 rfl (by first | assumption | exact hI _ (by omega)) rfl (by decide) rfl ?_
        refine V.getf (ci := 0) (k := 0) (C := RX0) (T := TX0) (N := 4) dX7_weigh_91 lfX7_168 inX0 rfl (by first | assumption | exact hI _ (by omega)) rfl (by decide) rfl ?_
        refine V.iconst (v := nI 0) dX7_weigh_94 rfl ?_
        refine V.iald (n := 9) dX7_weigh_95 (by first | assumption | exact hI _ (by omega)) (by first | assumption | decide) (by omega) ?_
        refine V.iret dX7_weigh_96 ?_
        generalize hM3 : aset (aset M2 141 0 9 _) 103 0 9 _ = M3
        have ep : eq9 (M3 103) (gsum (PR A r) (fwei (ftell (PR A r) A.2.2.2.1)) 9) := by
          rw [← hM3]
          exact aset_9.tr (gsum_cg (fun n hn => by rw [aset_ne (by omega), q2.1 _ (by omega)]; exact hrc.pol hr hn) (aset_9.tr (fun k hk => by unfold fwei; rw [et k hk])) 9 (Nat.le_refl _))
        have kk : keep (fun j => scr j ∨ j = 103) (M1) M3 := by
          rw [← hM3]
          exact ((q2.1.wk (fun j hj => by unfold scr; omega)).as (Or.inl (by unfold scr; omega))).as (Or.inr rfl)
        have h10 : M3 10 3 = M1 10 3 := by rw [← hM3, aset_ne (by decide), aset_ne (by decide), q2.1 10 (by omega)]
        exact ⟨congrArg (fun q => some (Value.int q)) (ep 0 (by decide)), hrc.hand kk h10 ep, (krm.wk (fun j hj => by unfold cP; omega)).tr (kk.wk (fun j hj => by unfold cP; unfold scr at hj; omega))⟩
      · refine V.aload_n dX7_weigh_45 rfl ?_
        refine V.getf (ci := 6) (k := 9) (C := RX7) (T := TX7) (N := 10) dX7_weigh_46 lfX7_63 inX7 rfl (by first | assumption | exact hI _ (by omega)) rfl (by decide) rfl ?_
        refine V.iload_n dX7_weigh_49 rfl ?_
        refine V.aload_n dX7_weigh_50 rfl ?_
        refine V.getf (ci := 6) (k := 9) (C := RX7) (T := TX7) (N := 10) dX7_weigh_51 lfX7_63 inX7 rfl (by first | assumption | exact hI _ (by omega)) rfl (by decide) rfl ?_
        refine V.iload_n dX7_weigh_54 rfl ?_
        refine V.iald (n := 9) dX7_weigh_55 (by first | assumption | exact hI _ (by omega)) (by first | assumption | decide) (by omega) ?_
        refine V.iload_n dX7_weigh_56 rfl ?_
        refine V.callS dX7_weigh_57 (c_X2_multiply) lkX7_192 st_X2_multiply cd_X2_multiply ini_X2 hd_X2_multiply ⟨Nat.le_of_ble_eq_true rfl, Nat.le_of_ble_eq_true rfl⟩ rfl (Nat.le_of_ble_eq_true rfl) (V.kkF ?_)
        refine V.iast (n := 9) dX7_weigh_60 (by first | assumption | exact hI _ (by omega)) (by first | assumption | decide) (by omega) ?_
        refine V.iincN dX7_weigh_61 (by decide) rfl ?_
        refine V.goto (tgt := 39) dX7_weigh_64 (by decide) ?_
        rw [aset_up (f := fwei (M2 141)) (hi := j) (Nat.zero_le _) (by rw [aset_hi (Nat.le_refl _)]; rfl)]
        exact ih (by omega)
  · cases qr

