theorem fsz_cg {p p' : Ser} (h : eq9 p p') : ∀ n, n ≤ 9 → fsz p n = fsz p' n
  | 0, _ => rfl
  | n + 1, hn => by unfold fsz; rw [fsz_cg h n (by omega), h n (by omega)]
theorem fdeg_cg {p p' : Ser} (h : eq9 p p') : ∀ n, n ≤ 9 → fdeg p n = fdeg p' n
  | 0, _ => rfl
  | n + 1, hn => by unfold fdeg; rw [fdeg_cg h n (by omega), h n (by omega)]
theorem fsec_cg {p p' : Ser} (h : eq9 p p') : ∀ n, n ≤ 9 → fsec p n = fsec p' n
  | 0, _ => rfl
  | n + 1, hn => by unfold fsec; rw [fsec_cg h n (by omega), h (8 - n) (by omega)]
def fsm (p : Ser) : Nat → Int32
  | 0 => nI 0
  | x + 1 => fadd (fsm p x) (horn p (nI x) 9)
theorem fsm_cg {p p' : Ser} (h : eq9 p p') : ∀ n, fsm p n = fsm p' n
  | 0 => rfl
  | n + 1 => by unfold fsm; rw [fsm_cg h n, horn_cg h 9 (by decide)]
theorem cont_kept {y : Nat → ClassId} {ad : Nat → Nat} {k : Nat} (h : k < 2) (M : Mem) : cont y ad M (114 + 12 * k) = o_kept ad M (114 + 12 * k) := by
  match k, h with
  | 0, _ => rfl
  | 1, _ => rfl
theorem cont_kg {y : Nat → ClassId} {ad : Nat → Nat} {k : Nat} (h : k < 2) (M : Mem) : cont y ad M (114 + 12 * k + 1) = rarr (y 2) 4 (fun j => ad (114 + 12 * k + 1 + 1 + j)) := by
  match k, h with
  | 0, _ => rfl
  | 1, _ => rfl
theorem cont_kf {y : Nat → ClassId} {ad : Nat → Nat} {k : Nat} (h : k < 2) (M : Mem) : cont y ad M (114 + 12 * k + 6) = rarr (y 2) 4 (fun j => ad (114 + 12 * k + 6 + 1 + j)) := by
  match k, h with
  | 0, _ => rfl
  | 1, _ => rfl
theorem cont_kset {y : Nat → ClassId} {ad : Nat → Nat} {k : Nat} {x : Int32} (h : k < 2) (M : Mem) : cont y ad (mset M (114 + 12 * k) 3 x) (114 + 12 * k) = .inr (1, [.ref (ad (114 + 12 * k + 1)), .ref (ad (114 + 12 * k + 6)), .ref (ad (114 + 12 * k + 11)), .int x]) := by
  rw [cont_kept h]; unfold o_kept; rw [mset_at]
theorem ial_kept {k i : Nat} (h : k < 2) (h1 : 114 + 12 * k < i) (h2 : i < 114 + 12 * k + 12) (h3 : i ≠ 114 + 12 * k + 1) (h4 : i ≠ 114 + 12 * k + 6) : ial i = 9 := by
  unfold ial
  rw [if_pos (by omega), if_neg (by omega), if_neg (by omega), if_neg (by omega), if_neg (by omega), if_neg (by omega), if_pos (by omega), if_neg (by omega), if_neg (by omega)]
theorem k_undo_4 {g : Gl} {M : Mem} {A : Ab} (hI : ∀ i, i < 142 → i ∈ g.2.2.2.2) (h : Rc A M) (hp : A.2.2.2.2.1 = []) : Ct g yX7_undo cX7_undo 1 (some .int) 3 [.ref (g.2.2.2.1 0)] M (fun v M' => v = some (.int (-4)) ∧ M' = M) := by
  have e1 := h.2.2.2.1.2.2.1
  rw [hp] at e1
  refine Ct.ofV (by decide) (Nat.le_of_ble_eq_true rfl) (by simp [Value.category]) (fun κ => ?_)
  refine V.aload_n dX7_undo_0 rfl ?_
  refine V.getf (ci := 6) (k := 4) (C := RX7) (T := TX7) (N := 10) dX7_undo_1 lfX7_42 inX7 rfl (by first | assumption | exact hI _ (by omega)) rfl (by decide) rfl ?_
  refine V.callV (ci := 0) (T := TX0) (N := 4) dX7_undo_4 (c_X0_restore_0 (fun i h => hI i (by omega)) e1) lkX7_194 im_X0_restore se_X0_restore cd_X0_restore ini_X0 rfl (by first | assumption | exact hI _ (by omega)) rfl hd_X0_restore ⟨Nat.le_of_ble_eq_true rfl, Nat.le_of_ble_eq_true rfl⟩ rfl (Nat.le_of_ble_eq_true rfl) (V.kkF ?_)
  refine V.if_eqN (tgt := 20) dX7_undo_7 (by decide) (by omega) (fun h1 => ?_) (fun h1 => ?_)
  · refine V.bipush (v := -4) dX7_undo_20 (by decide) ?_
    refine V.iret dX7_undo_22 ?_
    exact ⟨rfl, rfl⟩
  · omega
theorem k_undo {g : Gl} {M : Mem} {A : Ab} {p : Ser} {past : List Ser} (hI : ∀ i, i < 142 → i ∈ g.2.2.2.2) (h : Rc A M) (hp : A.2.2.2.2.1 = p :: past) : Ct g yX7_undo cX7_undo 1 (some .int) 3 [.ref (g.2.2.2.1 0)] M (fun v M' => v = some (.int (nI past.length)) ∧ Rc (A.1, A.2.1, A.2.2.1, p, past, A.2.2.2.2.2) M' ∧ keep cP M M') := by
  obtain ⟨c1, c2, c3, ⟨t1, t2, t3, a, ha, t4, t5⟩, c5⟩ := id h
  rw [hp] at t2 t3 t5
  have hl : (p :: past).length = past.length + 1 := rfl
  rw [hl] at t2 t3
  refine Ct.ofV (by decide) (Nat.le_of_ble_eq_true rfl) (by simp [Value.category]) (fun κ => ?_)
  refine V.aload_n dX7_undo_0 rfl ?_
  refine V.getf (ci := 6) (k := 4) (C := RX7) (T := TX7) (N := 10) dX7_undo_1 lfX7_42 inX7 rfl (by first | assumption | exact hI _ (by omega)) rfl (by decide) rfl ?_
  refine V.callV (ci := 0) (T := TX0) (N := 4) dX7_undo_4 (c_X0_restore_1 (fun i h => hI i (by omega)) ha t4 (by omega) t3) lkX7_194 im_X0_restore se_X0_restore cd_X0_restore ini_X0 rfl (by first | assumption | exact hI _ (by omega)) rfl hd_X0_restore ⟨Nat.le_of_ble_eq_true rfl, Nat.le_of_ble_eq_true rfl⟩ rfl (Nat.le_of_ble_eq_true rfl) (V.kkF ?_)
  refine V.if_eqN (tgt := 20) dX7_undo_7 (by decide) (by omega) (fun h1 => ?_) (fun h1 => ?_)
  · omega
  · refine V.aload_n dX7_undo_10 rfl ?_
    refine V.getf (ci := 6) (k := 4) (C := RX7) (T := TX7) (N := 10) dX7_undo_11 lfX7_42 inX7 rfl (by first | assumption | exact hI _ (by omega)) rfl (by decide) rfl ?_
    refine V.getf (ci := 0) (k := 1) (C := RX0) (T := TX0) (N := 4) dX7_undo_14 lfX7_197 inX0 rfl (by first | assumption | exact hI _ (by omega)) rfl (by decide) rfl ?_
    have h7 : (a + 7) % 8 < 8 := Nat.mod_lt _ (by decide)
    have kk : keep (fun j => j = 102 ∨ j = 103) M (aset (mset (mset M 102 3 (nI ((a + 7) % 8))) 102 1 (nI past.length)) 103 0 9 (M (105 + (a + 7) % 8))) := (((keep.rf (P := fun j => j = 102 ∨ j = 103)).ms (Or.inl rfl)).ms (Or.inl rfl)).as (Or.inr rfl)
    rw [aset_ne (a := 102) (by decide), mset_at]
    refine V.goto (tgt := 22) dX7_undo_17 (by decide) ?_
    refine V.iret dX7_undo_22 ?_
    refine ⟨rfl, ⟨c1.kp (fun j h1 h2 => kk j (by omega)), c2.kp (by rw [kk 10 (by omega)]) (kk 13 (by omega)), fun r hr => (c3 r hr).kp (fun j hj => kk j (by omega)), ⟨?_, by show past.length ≤ 8; omega, ?_, (a + 7) % 8, h7, ?_, fun i hi => ?_⟩, fun q hq => (c5 q hq).kp hq (fun j h1 h2 => kk j (by omega))⟩, kk.wk (fun j hj => by unfold cP; omega)⟩
    · have := t5 0 (by simp)
      rw [show (a + 7 - 0) % 8 = (a + 7) % 8 by omega] at this
      exact aset_9.tr this
    · rw [aset_ne (by decide), mset_at]
    · rw [aset_ne (by decide), mset_nat (by decide), mset_at]
    · have hi2 : i < past.length := hi
      rw [kk _ (by omega)]
      have := t5 (i + 1) (by simp; omega)
      rw [show (a + 7 - (i + 1)) % 8 = ((a + 7) % 8 + 7 - i) % 8 by omega] at this
      exact this
theorem k_hand_3 {g : Gl} {M : Mem} {x : Int32} (hz : isN x 9 = false) : Ct g yX7_hand cX7_hand 2 (some .int) 1 [.ref (g.2.2.2.1 0), .int x] M (fun v M' => v = some (.int (-3)) ∧ M' = M) := by
  refine Ct.ofV (by decide) (Nat.le_of_ble_eq_true rfl) (by simp [Value.category]) (fun κ => ?_)
  refine V.iload_n dX7_hand_0 rfl ?_
  refine V.callS dX7_hand_1 (c_X7_isPower) lkX7_143 st_X7_isPower cd_X7_isPower ini_X7 hd_X7_isPower ⟨Nat.le_of_ble_eq_true rfl, Nat.le_of_ble_eq_true rfl⟩ rfl (Nat.le_of_ble_eq_true rfl) (V.kkF ?_)
  rw [hz]
  refine V.if_eqB (tgt := 19) dX7_hand_4 (by decide) (fun h1 => ?_) (fun h1 => ?_)
  · refine V.bipush (v := -3) dX7_hand_19 (by decide) ?_
    refine V.iret dX7_hand_21 ?_
    exact ⟨rfl, rfl⟩
  · cases h1
theorem k_hand {g : Gl} {M : Mem} {A : Ab} {x : Nat} (hI : ∀ i, i < 142 → i ∈ g.2.2.2.2) (h : Rc A M) (hx : x < 9) : Ct g yX7_hand cX7_hand 2 (some .int) 1 [.ref (g.2.2.2.1 0), .int (nI x)] M (fun v M' => v = some (.int (A.2.2.2.1 x)) ∧ M' = M) := by
  refine Ct.ofV (by decide) (Nat.le_of_ble_eq_true rfl) (by simp [Value.category]) (fun κ => ?_)
  refine V.iload_n dX7_hand_0 rfl ?_
  refine V.callS dX7_hand_1 (c_X7_isPower) lkX7_143 st_X7_isPower cd_X7_isPower ini_X7 hd_X7_isPower ⟨Nat.le_of_ble_eq_true rfl, Nat.le_of_ble_eq_true rfl⟩ rfl (Nat.le_of_ble_eq_true rfl) (V.kkF ?_)
  rw [isN_nI (by decide) hx]
  refine V.if_eqB (tgt := 19) dX7_hand_4 (by decide) (fun h1 => ?_) (fun h1 => ?_)
  · cases h1
  · refine V.aload_n dX7_hand_7 rfl ?_
    refine V.getf (ci := 6) (k := 4) (C := RX7) (T := TX7) (N := 10) dX7_hand_8 lfX7_42 inX7 rfl (by first | assumption | exact hI _ (by omega)) rfl (by decide) rfl ?_
    refine V.getf (ci := 0) (k := 0) (C := RX0) (T := TX0) (N := 4) dX7_hand_11 lfX7_168 inX0 rfl (by first | assumption | exact hI _ (by omega)) rfl (by decide) rfl ?_
    refine V.iload_n dX7_hand_14 rfl ?_
    refine V.iald (n := 9) dX7_hand_15 (by first | assumption | exact hI _ (by omega)) (by first | assumption | decide) (by omega) ?_
    refine V.goto (tgt := 21) dX7_hand_16 (by decide) ?_
    refine V.iret dX7_hand_21 ?_
    exact ⟨by rw [h.2.2.2.1.1 x hx], rfl⟩
theorem k_at_3 {g : Gl} {M : Mem} {x : Int32} (hz : isN x 9973 = false) : Ct g yX7_at cX7_at 2 (some .int) 2 [.ref (g.2.2.2.1 0), .int x] M (fun v M' => v = some (.int (-3)) ∧ M' = M) := by
  refine Ct.ofV (by decide) (Nat.le_of_ble_eq_true rfl) (by simp [Value.category]) (fun κ => ?_)
  refine V.iload_n dX7_at_0 rfl ?_
  refine V.callS dX7_at_1 (c_X2_holds) lkX7_126 st_X2_holds cd_X2_holds ini_X2 hd_X2_holds ⟨Nat.le_of_ble_eq_true rfl, Nat.le_of_ble_eq_true rfl⟩ rfl (Nat.le_of_ble_eq_true rfl) (V.kkF ?_)
  rw [hz]
  refine V.if_eqB (tgt := 21) dX7_at_4 (by decide) (fun h1 => ?_) (fun h1 => ?_)
  · refine V.bipush (v := -3) dX7_at_21 (by decide) ?_
    refine V.iret dX7_at_23 ?_
    exact ⟨rfl, rfl⟩
  · cases h1
theorem k_at {g : Gl} {M : Mem} {A : Ab} {x : Nat} (hI : ∀ i, i < 142 → i ∈ g.2.2.2.2) (h : Rc A M) (hx : x < 9973) : Ct g yX7_at cX7_at 2 (some .int) 2 [.ref (g.2.2.2.1 0), .int (nI x)] M (fun v M' => v = some (.int (horn A.2.2.2.1 (nI x) 9)) ∧ M' = M) := by
  refine Ct.ofV (by decide) (Nat.le_of_ble_eq_true rfl) (by simp [Value.category]) (fun κ => ?_)
  refine V.iload_n dX7_at_0 rfl ?_
  refine V.callS dX7_at_1 (c_X2_holds) lkX7_126 st_X2_holds cd_X2_holds ini_X2 hd_X2_holds ⟨Nat.le_of_ble_eq_true rfl, Nat.le_of_ble_eq_true rfl⟩ rfl (Nat.le_of_ble_eq_true rfl) (V.kkF ?_)
  rw [isN_nI (by decide) hx]
  refine V.if_eqB (tgt := 21) dX7_at_4 (by decide) (fun h1 => ?_) (fun h1 => ?_)
  · cases h1
  · refine V.aload_n dX7_at_7 rfl ?_
    refine V.getf (ci := 6) (k := 4) (C := RX7) (T := TX7) (N := 10) dX7_at_8 lfX7_42 inX7 rfl (by first | assumption | exact hI _ (by omega)) rfl (by decide) rfl ?_
    refine V.getf (ci := 0) (k := 0) (C := RX0) (T := TX0) (N := 4) dX7_at_11 lfX7_168 inX0 rfl (by first | assumption | exact hI _ (by omega)) rfl (by decide) rfl ?_
    refine V.iload_n dX7_at_14 rfl ?_
    refine V.callS dX7_at_15 (c_X7_valueAt (hI 103 (by omega)) rfl) lkX7_154 st_X7_valueAt cd_X7_valueAt ini_X7 hd_X7_valueAt ⟨Nat.le_of_ble_eq_true rfl, Nat.le_of_ble_eq_true rfl⟩ rfl (Nat.le_of_ble_eq_true rfl) (V.kkF ?_)
    refine V.goto (tgt := 23) dX7_at_18 (by decide) ?_
    refine V.iret dX7_at_23 ?_
    exact ⟨by rw [horn_cg h.2.2.2.1.1 9 (by decide)], rfl⟩
theorem k_expand_2 {g : Gl} {M : Mem} {x y : Int32} (h : isN x 4 = false) : Ct g yX7_expand cX7_expand 3 (some .int) 3 [.ref (g.2.2.2.1 0), .int x, .int y] M (fun v M' => v = some (.int (-2)) ∧ M' = M) := by
  refine Ct.ofV (by decide) (Nat.le_of_ble_eq_true rfl) (by simp [Value.category]) (fun κ => ?_)
  refine V.iload_n dX7_expand_0 rfl ?_
  refine V.callS dX7_expand_1 (c_X7_isRow) lkX7_81 st_X7_isRow cd_X7_isRow ini_X7 hd_X7_isRow ⟨Nat.le_of_ble_eq_true rfl, Nat.le_of_ble_eq_true rfl⟩ rfl (Nat.le_of_ble_eq_true rfl) (V.kkF ?_)
  refine V.if_neB (tgt := 10) dX7_expand_4 (by decide) (fun h1 => ?_) (fun h1 => ?_)
  · rw [h1] at h; cases h
  · refine V.bipush (v := -2) dX7_expand_7 (by decide) ?_
    refine V.iret dX7_expand_9 ?_
    exact ⟨rfl, rfl⟩
theorem k_expand_3 {g : Gl} {M : Mem} {r : Nat} {y : Int32} (hr : r < 4) (hz : isN y 9 = false) : Ct g yX7_expand cX7_expand 3 (some .int) 3 [.ref (g.2.2.2.1 0), .int (nI r), .int y] M (fun v M' => v = some (.int (-3)) ∧ M' = M) := by
  refine Ct.ofV (by decide) (Nat.le_of_ble_eq_true rfl) (by simp [Value.category]) (fun κ => ?_)
  refine V.iload_n dX7_expand_0 rfl ?_
  refine V.callS dX7_expand_1 (c_X7_isRow) lkX7_81 st_X7_isRow cd_X7_isRow ini_X7 hd_X7_isRow ⟨Nat.le_of_ble_eq_true rfl, Nat.le_of_ble_eq_true rfl⟩ rfl (Nat.le_of_ble_eq_true rfl) (V.kkF ?_)
  rw [isN_nI (by decide) hr]
  refine V.if_neB (tgt := 10) dX7_expand_4 (by decide) (fun qr => ?_) (fun qr => ?_)
  · skip
    refine V.iload_n dX7_expand_10 rfl ?_
    refine V.callS dX7_expand_11 (c_X7_isPower) lkX7_143 st_X7_isPower cd_X7_isPower ini_X7 hd_X7_isPower ⟨Nat.le_of_ble_eq_true rfl, Nat.le_of_ble_eq_true rfl⟩ rfl (Nat.le_of_ble_eq_true rfl) (V.kkF ?_)
    rw [hz]
    refine V.if_neB (tgt := 20) dX7_expand_14 (by decide) (fun h1 => ?_) (fun h1 => ?_)
    · cases h1
    · refine V.bipush (v := -3) dX7_expand_17 (by decide) ?_
      refine V.iret dX7_expand_19 ?_
      exact ⟨rfl, rfl⟩
  · cases qr
theorem k_expand {g : Gl} {M : Mem} {A : Ab} {r y : Nat} (hI : ∀ i, i < 142 → i ∈ g.2.2.2.2) (h : Rc A M) (hr : r < 4) (hy : y < 9) : Ct g yX7_expand cX7_expand 3 (some .int) 3 [.ref (g.2.2.2.1 0), .int (nI r), .int (nI y)] M (fun v M' => v = some (.int (ftell (PR A r) A.2.2.2.1 y)) ∧ Rc A M' ∧ keep cP M M') := by
  have hw_r := isRw_of hr
  have hJ_r : ∀ i, 34 + 17 * r ≤ i ∧ i < 34 + 17 * r + 17 → i ∈ g.2.2.2.2 := fun i h => hI i (by omega)
  refine Ct.ofV (by decide) (Nat.le_of_ble_eq_true rfl) (by simp [Value.category]) (fun κ => ?_)
  refine V.iload_n dX7_expand_0 rfl ?_
  refine V.callS dX7_expand_1 (c_X7_isRow) lkX7_81 st_X7_isRow cd_X7_isRow ini_X7 hd_X7_isRow ⟨Nat.le_of_ble_eq_true rfl, Nat.le_of_ble_eq_true rfl⟩ rfl (Nat.le_of_ble_eq_true rfl) (V.kkF ?_)
  rw [isN_nI (by decide) hr]
  refine V.if_neB (tgt := 10) dX7_expand_4 (by decide) (fun qr => ?_) (fun qr => ?_)
  · skip
    refine V.iload_n dX7_expand_10 rfl ?_
    refine V.callS dX7_expand_11 (c_X7_isPower) lkX7_143 st_X7_isPower cd_X7_isPower ini_X7 hd_X7_isPower ⟨Nat.le_of_ble_eq_true rfl, Nat.le_of_ble_eq_true rfl⟩ rfl (Nat.le_of_ble_eq_true rfl) (V.kkF ?_)
    rw [isN_nI (by decide) hy]
    refine V.if_neB (tgt := 20) dX7_expand_14 (by decide) (fun h1 => ?_) (fun h1 => ?_)
    · refine V.aload_n dX7_expand_20 rfl ?_
      refine V.getf (ci := 6) (k := 3) (C := RX7) (T := TX7) (N := 10) dX7_expand_21 lfX7_34 inX7 rfl (by first | assumption | exact hI _ (by omega)) rfl (by decide) rfl ?_
      refine V.iload_n dX7_expand_24 rfl ?_
      refine V.aald (n := 4) (t := 3) dX7_expand_25 (by first | assumption | exact hI _ (by omega)) rfl rfl rfl (by decide) (by omega) ?_
      refine V.aload_n dX7_expand_26 rfl ?_
      refine V.getf (ci := 6) (k := 9) (C := RX7) (T := TX7) (N := 10) dX7_expand_27 lfX7_63 inX7 rfl (by first | assumption | exact hI _ (by omega)) rfl (by decide) rfl ?_
      refine V.aload_n dX7_expand_30 rfl ?_
      refine V.getf (ci := 6) (k := 4) (C := RX7) (T := TX7) (N := 10) dX7_expand_31 lfX7_42 inX7 rfl (by first | assumption | exact hI _ (by omega)) rfl (by decide) rfl ?_
      refine V.getf (ci := 0) (k := 0) (C := RX0) (T := TX0) (N := 4) dX7_expand_34 lfX7_168 inX0 rfl (by first | assumption | exact hI _ (by omega)) rfl (by decide) rfl ?_
      refine V.callV (ci := 4) (T := TX5) (N := 8) dX7_expand_37 (c_X5_tell (i := 141) (a := 103) hw_r hJ_r (hI _ (by omega)) rfl (hI _ (by omega)) rfl (by omega)) lkX7_158 im_X5_tell se_X5_tell cd_X5_tell ini_X5 rfl (by first | assumption | exact hI _ (by omega)) (cont_row hw_r _) hd_X5_tell ⟨Nat.le_of_ble_eq_true rfl, Nat.le_of_ble_eq_true rfl⟩ rfl (Nat.le_of_ble_eq_true rfl) (V.kkP (fun M1 q1 => ?_))
      refine V.aload_n dX7_expand_40 rfl ?_
      refine V.getf (ci := 6) (k := 9) (C := RX7) (T := TX7) (N := 10) dX7_expand_41 lfX7_63 inX7 rfl (by first | assumption | exact hI _ (by omega)) rfl (by decide) rfl ?_
      refine V.iload_n dX7_expand_44 rfl ?_
      refine V.iald (n := 9) dX7_expand_45 (by first | assumption | exact hI _ (by omega)) (by first | assumption | decide) (by omega) ?_
      refine V.iret dX7_expand_46 ?_
      exact ⟨by rw [q1.2 y hy, ftell_cg (fun n hn => h.pol hr hn) h.2.2.2.1.1 y hy], h.kp (q1.1.wk (fun j hj => by unfold scr; omega)) (by rw [q1.1 10 (by omega)]), q1.1.wk (fun j hj => by unfold cP; omega)⟩
    · cases h1
  · cases qr
abbrev v_X7_sum (g : Gl) (κ : Ka) (Q : State → Prop) (M : Mem) (pc : Nat) (L : List (Option Value)) (st : List Value) : Prop := V g cX7_sum 4 yX7_sum.cls (some .int) (rmd 2) Q κ M pc L st
theorem k_sum_3 {g : Gl} {M : Mem} {x : Int32} (hz : isN x 501 = false) : Ct g yX7_sum cX7_sum 4 (some .int) 2 [.ref (g.2.2.2.1 0), .int x] M (fun v M' => v = some (.int (-3)) ∧ M' = M) := by
  refine Ct.ofV (by decide) (Nat.le_of_ble_eq_true rfl) (by simp [Value.category]) (fun κ => ?_)
  refine V.iload_n dX7_sum_0 rfl ?_
  refine V.if_lt (tgt := 11) dX7_sum_1 (by decide) (fun h1 => ?_) (fun h1 => ?_)
  · refine V.bipush (v := -3) dX7_sum_11 (by decide) ?_
    refine V.iret dX7_sum_13 ?_
    exact ⟨rfl, rfl⟩
  · refine V.iload_n dX7_sum_4 rfl ?_
    refine V.sipush (v := nI 500) dX7_sum_5 (by decide) ?_
    refine V.icmp_le (tgt := 14) dX7_sum_8 (by decide) (fun h2 => ?_) (fun h2 => ?_)
    · rw [isN_gt (n := 500) (by decide) h1 (by rw [Int32.not_lt]; exact h2)] at hz; cases hz
    · refine V.bipush (v := -3) dX7_sum_11 (by decide) ?_
      refine V.iret dX7_sum_13 ?_
      exact ⟨rfl, rfl⟩
theorem k_sum {g : Gl} {M : Mem} {A : Ab} {x : Nat} (hI : ∀ i, i < 142 → i ∈ g.2.2.2.2) (h : Rc A M) (hx : x < 501) : Ct g yX7_sum cX7_sum 4 (some .int) 2 [.ref (g.2.2.2.1 0), .int (nI x)] M (fun v M' => v = some (.int (fsm A.2.2.2.1 x)) ∧ M' = M) := by
  refine Ct.ofV (by decide) (Nat.le_of_ble_eq_true rfl) (by simp [Value.category]) (fun κ => ?_)
  refine V.iload_n dX7_sum_0 rfl ?_
  refine V.if_lt (tgt := 11) dX7_sum_1 (by decide) (fun h1 => ?_) (fun h1 => ?_)
  · exact absurd h1 (nI_pos (by omega))
  · refine V.iload_n dX7_sum_4 rfl ?_
    refine V.sipush (v := nI 500) dX7_sum_5 (by decide) ?_
    refine V.leN (tgt := 14) dX7_sum_8 (by decide) (by omega) (by omega) (fun h2 => ?_) (fun h2 => ?_)
    · refine V.iconst (v := nI 0) dX7_sum_14 rfl ?_
      refine V.istore_n dX7_sum_15 (by decide) ?_
      refine V.iconst (v := nI 0) dX7_sum_16 rfl ?_
      refine V.istore_n dX7_sum_17 (by decide) ?_
      have lp := up_loop x (fun j => v_X7_sum g κ (Qm g κ (fun v M' => v = some (.int (fsm A.2.2.2.1 x)) ∧ M' = M)) M 18 [some (.ref (g.2.2.2.1 0)), some (.int (nI x)), some (.int (fsm A.2.2.2.1 j)), some (.int (nI j))] []) (fun j hj ih => ?_) 0 (by omega)
      · exact lp
      · refine V.iload_n dX7_sum_18 rfl ?_
        refine V.iload_n dX7_sum_19 rfl ?_
        refine V.geN (tgt := 45) dX7_sum_20 (by decide) (by omega) (by omega) (fun h3 => ?_) (fun h3 => ?_)
        · have e : j = x := by omega
          subst e
          refine V.iload_n dX7_sum_45 rfl ?_
          refine V.iret dX7_sum_46 ?_
          exact ⟨rfl, rfl⟩
        · refine V.iload_n dX7_sum_23 rfl ?_
          refine V.aload_n dX7_sum_24 rfl ?_
          refine V.getf (ci := 6) (k := 4) (C := RX7) (T := TX7) (N := 10) dX7_sum_25 lfX7_42 inX7 rfl (by first | assumption | exact hI _ (by omega)) rfl (by decide) rfl ?_
          refine V.getf (ci := 0) (k := 0) (C := RX0) (T := TX0) (N := 4) dX7_sum_28 lfX7_168 inX0 rfl (by first | assumption | exact hI _ (by omega)) rfl (by decide) rfl ?_
          refine V.iload_n dX7_sum_31 rfl ?_
          refine V.callS dX7_sum_32 (c_X7_valueAt (hI 103 (by omega)) rfl) lkX7_154 st_X7_valueAt cd_X7_valueAt ini_X7 hd_X7_valueAt ⟨Nat.le_of_ble_eq_true rfl, Nat.le_of_ble_eq_true rfl⟩ rfl (Nat.le_of_ble_eq_true rfl) (V.kkF ?_)
          refine V.callS dX7_sum_35 (c_X2_add) lkX7_200 st_X2_add cd_X2_add ini_X2 hd_X2_add ⟨Nat.le_of_ble_eq_true rfl, Nat.le_of_ble_eq_true rfl⟩ rfl (Nat.le_of_ble_eq_true rfl) (V.kkF ?_)
          refine V.istore_n dX7_sum_38 (by decide) ?_
          refine V.iincN dX7_sum_39 (by decide) rfl ?_
          refine V.goto (tgt := 18) dX7_sum_42 (by decide) ?_
          rw [horn_cg h.2.2.2.1.1 9 (by decide)]
          exact ih h3
    · omega
theorem k_keep_3 {g : Gl} {M : Mem} {x : Int32} (hz : isN x 2 = false) : Ct g yX7_keep cX7_keep 3 (some .int) 2 [.ref (g.2.2.2.1 0), .int x] M (fun v M' => v = some (.int (-3)) ∧ M' = M) := by
  refine Ct.ofV (by decide) (Nat.le_of_ble_eq_true rfl) (by simp [Value.category]) (fun κ => ?_)
  refine V.iload_n dX7_keep_0 rfl ?_
  refine V.callS dX7_keep_1 (c_X7_isKeptPlace) lkX7_203 st_X7_isKeptPlace cd_X7_isKeptPlace ini_X7 hd_X7_isKeptPlace ⟨Nat.le_of_ble_eq_true rfl, Nat.le_of_ble_eq_true rfl⟩ rfl (Nat.le_of_ble_eq_true rfl) (V.kkF ?_)
  rw [hz]
  refine V.if_neB (tgt := 10) dX7_keep_4 (by decide) (fun h1 => ?_) (fun h1 => ?_)
  · cases h1
  · refine V.bipush (v := -3) dX7_keep_7 (by decide) ?_
    refine V.iret dX7_keep_9 ?_
    exact ⟨rfl, rfl⟩
abbrev v_X7_keep (g : Gl) (κ : Ka) (Q : State → Prop) (M : Mem) (pc : Nat) (L : List (Option Value)) (st : List Value) : Prop := V g cX7_keep 3 yX7_keep.cls (some .int) (rmd 2) Q κ M pc L st
theorem k_keep {g : Gl} {M : Mem} {A : Ab} {x : Nat} (hI : ∀ i, i < 142 → i ∈ g.2.2.2.2) (h : Rc A M) (hx : x < 2) : Ct g yX7_keep cX7_keep 3 (some .int) 2 [.ref (g.2.2.2.1 0), .int (nI x)] M (fun v M' => v = some (.int (nI (fsz A.2.2.2.1 9))) ∧ Rc (A.1, A.2.1, A.2.2.1, A.2.2.2.1, A.2.2.2.2.1, va_up A.2.2.2.2.2 x (some (A.2.1, A.2.2.1, A.2.2.2.1))) M' ∧ keep cP M M') := by
  refine Ct.ofV (by decide) (Nat.le_of_ble_eq_true rfl) (by simp [Value.category]) (fun κ => ?_)
  refine V.iload_n dX7_keep_0 rfl ?_
  refine V.callS dX7_keep_1 (c_X7_isKeptPlace) lkX7_203 st_X7_isKeptPlace cd_X7_isKeptPlace ini_X7 hd_X7_isKeptPlace ⟨Nat.le_of_ble_eq_true rfl, Nat.le_of_ble_eq_true rfl⟩ rfl (Nat.le_of_ble_eq_true rfl) (V.kkF ?_)
  rw [isN_nI (by decide) hx]
  refine V.if_neB (tgt := 10) dX7_keep_4 (by decide) (fun h1 => ?_) (fun h1 => ?_)
  · refine V.iconst (v := nI 0) dX7_keep_10 rfl ?_
    refine V.istore_n dX7_keep_11 (by decide) ?_
    have lp := up_loop 4 (fun i => ∀ M1, keep (fun j => 114 + 12 * x ≤ j ∧ j < 114 + 12 * x + 12) M M1 → (∀ r, r < i → eq9 (M1 (116 + 12 * x + r)) (A.2.1 r) ∧ eq9 (M1 (121 + 12 * x + r)) (A.2.2.1 r)) → v_X7_keep g κ (Qm g κ (fun v M' => v = some (.int (nI (fsz A.2.2.2.1 9))) ∧ Rc (A.1, A.2.1, A.2.2.1, A.2.2.2.1, A.2.2.2.2.1, va_up A.2.2.2.2.2 x (some (A.2.1, A.2.2.1, A.2.2.2.1))) M' ∧ keep cP M M')) M1 12 [some (.ref (g.2.2.2.1 0)), some (.int (nI x)), some (.int (nI i))] []) (fun i hi ih M1 k1 q1 => ?_) 0 (by omega)
    · exact lp M keep.rf (fun r hr => by omega)
    · refine V.iload_n dX7_keep_12 rfl ?_
      refine V.iconst (v := nI 4) dX7_keep_13 rfl ?_
      refine V.geN (tgt := 69) dX7_keep_14 (by decide) (by omega) (by omega) (fun h2 => ?_) (fun h2 => ?_)
      · have e : i = 4 := by omega
        subst e
        refine V.aload_n dX7_keep_69 rfl ?_
        refine V.getf (ci := 6) (k := 4) (C := RX7) (T := TX7) (N := 10) dX7_keep_70 lfX7_42 inX7 rfl (by first | assumption | exact hI _ (by omega)) rfl (by decide) rfl ?_
        refine V.getf (ci := 0) (k := 0) (C := RX0) (T := TX0) (N := 4) dX7_keep_73 lfX7_168 inX0 rfl (by first | assumption | exact hI _ (by omega)) rfl (by decide) rfl ?_
        refine V.aload_n dX7_keep_76 rfl ?_
        refine V.getf (ci := 6) (k := 5) (C := RX7) (T := TX7) (N := 10) dX7_keep_77 lfX7_48 inX7 rfl (by first | assumption | exact hI _ (by omega)) rfl (by decide) rfl ?_
        refine V.iload_n dX7_keep_80 rfl ?_
        refine V.aald (n := 2) (t := 4) dX7_keep_81 (by first | assumption | exact hI _ (by omega)) rfl rfl rfl (by decide) (by omega) ?_
        refine V.getf (ci := 1) (k := 2) (C := RX1) (T := TX1) (N := 4) dX7_keep_82 lfX7_210 inX1 rfl (by first | assumption | exact hI _ (by omega)) (cont_kept hx _) (by decide) rfl ?_
        refine V.callS dX7_keep_85 (c_X7_copy (i := 103) (j := 114 + 12 * x + 11) (hI _ (by omega)) (hI _ (by omega)) rfl (ial_kept hx (by omega) (by omega) (by omega) (by omega))) lkX7_119 st_X7_copy cd_X7_copy ini_X7 hd_X7_copy ⟨Nat.le_of_ble_eq_true rfl, Nat.le_of_ble_eq_true rfl⟩ rfl (Nat.le_of_ble_eq_true rfl) (V.kkN ?_)
        refine V.aload_n dX7_keep_88 rfl ?_
        refine V.getf (ci := 6) (k := 5) (C := RX7) (T := TX7) (N := 10) dX7_keep_89 lfX7_48 inX7 rfl (by first | assumption | exact hI _ (by omega)) rfl (by decide) rfl ?_
        refine V.iload_n dX7_keep_92 rfl ?_
        refine V.aald (n := 2) (t := 4) dX7_keep_93 (by first | assumption | exact hI _ (by omega)) rfl rfl rfl (by decide) (by omega) ?_
        refine V.iconst (v := nI 1) dX7_keep_94 rfl ?_
        refine V.putf (ci := 1) (k := 3) (C := RX1) (T := TX1) (N := 4) (ty := .boolean) tyX1 dX7_keep_95 lfX7_211 inX1 tyX1_ok nmX1 rfl (by first | assumption | exact hI _ (by omega)) (cont_kept hx _) (by decide) rfl rfl rfl rfl (Nat.le_of_ble_eq_true rfl) (cont_kset hx _) ?_
        refine V.aload_n dX7_keep_98 rfl ?_
        refine V.getf (ci := 6) (k := 4) (C := RX7) (T := TX7) (N := 10) dX7_keep_99 lfX7_42 inX7 rfl (by first | assumption | exact hI _ (by omega)) rfl (by decide) rfl ?_
        refine V.callV (ci := 0) (T := TX0) (N := 4) dX7_keep_102 (c_X0_size (fun i h => hI i (by omega))) lkX7_215 im_X0_size se_X0_size cd_X0_size ini_X0 rfl (by first | assumption | exact hI _ (by omega)) rfl hd_X0_size ⟨Nat.le_of_ble_eq_true rfl, Nat.le_of_ble_eq_true rfl⟩ rfl (Nat.le_of_ble_eq_true rfl) (V.kkF ?_)
        refine V.iret dX7_keep_105 ?_
        generalize hM3 : mset (aset M1 (114 + 12 * x + 11) 0 9 _) (114 + 12 * x) 3 _ = M3
        have k3 : keep (fun j => 114 + 12 * x ≤ j ∧ j < 114 + 12 * x + 12) M M3 := by
          rw [← hM3]; exact (k1.as (by omega)).ms (by omega)
        obtain ⟨c1, c2, c3, c4, c5⟩ := id h
        have c4' := c4.kp (M' := M3) (fun j h1 h2 => k3 j (by omega))
        refine ⟨by rw [fsz_cg c4'.1 9 (by decide)], ⟨c1.kp (fun j h1 h2 => k3 j (by omega)), c2.kp (by rw [k3 10 (by omega)]) (k3 13 (by omega)), fun r hr => (c3 r hr).kp (fun j hj => k3 j (by omega)), c4', fun q hq => ?_⟩, k3.wk (fun j hj => by unfold cP; omega)⟩
        by_cases e : q = x
        · subst e
          show RcK q (va_up A.2.2.2.2.2 q _ q) M3
          rw [va_up_self]
          refine ⟨?_, fun r hr => ⟨?_, ?_⟩, ?_⟩
          · rw [← hM3, mset_at]
          · rw [← hM3, mset_ne (by omega), aset_ne (by omega)]; exact (q1 r hr).1
          · rw [← hM3, mset_ne (by omega), aset_ne (by omega)]; exact (q1 r hr).2
          · rw [← hM3, mset_ne (by omega), show 125 + 12 * q = 114 + 12 * q + 11 by omega]
            refine aset_9.tr ?_
            rw [k1 103 (by omega)]; exact c4.1
        · show RcK q (va_up A.2.2.2.2.2 x _ q) M3
          rw [va_up_ne _ _ e]
          have hk := c5 q hq
          cases hK : A.2.2.2.2.2 q with
          | none =>
            rw [hK] at hk
            show M3 _ 3 = _
            rw [k3 _ (by omega)]; exact hk
          | some z =>
            obtain ⟨G, F, p⟩ := z
            rw [hK] at hk
            obtain ⟨h1, h2, h3⟩ := hk
            refine ⟨?_, fun r hr => ⟨?_, ?_⟩, ?_⟩
            · rw [k3 _ (by omega)]; exact h1
            · rw [k3 _ (by omega)]; exact (h2 r hr).1
            · rw [k3 _ (by omega)]; exact (h2 r hr).2
            · rw [k3 _ (by omega)]; exact h3
      · have hw_i := isRw_of h2
        refine V.aload_n dX7_keep_17 rfl ?_
        refine V.getf (ci := 6) (k := 3) (C := RX7) (T := TX7) (N := 10) dX7_keep_18 lfX7_34 inX7 rfl (by first | assumption | exact hI _ (by omega)) rfl (by decide) rfl ?_
        refine V.iload_n dX7_keep_21 rfl ?_
        refine V.aald (n := 4) (t := 3) dX7_keep_22 (by first | assumption | exact hI _ (by omega)) rfl rfl rfl (by decide) (by omega) ?_
        refine V.getf (ci := 4) (k := 0) (C := RX5) (T := TX5) (N := 8) dX7_keep_23 lfX7_99 inX5 rfl (by first | assumption | exact hI _ (by omega)) (cont_row hw_i _) (by decide) rfl ?_
        refine V.aload_n dX7_keep_26 rfl ?_
        refine V.getf (ci := 6) (k := 5) (C := RX7) (T := TX7) (N := 10) dX7_keep_27 lfX7_48 inX7 rfl (by first | assumption | exact hI _ (by omega)) rfl (by decide) rfl ?_
        refine V.iload_n dX7_keep_30 rfl ?_
        refine V.aald (n := 2) (t := 4) dX7_keep_31 (by first | assumption | exact hI _ (by omega)) rfl rfl rfl (by decide) (by omega) ?_
        refine V.getf (ci := 1) (k := 0) (C := RX1) (T := TX1) (N := 4) dX7_keep_32 lfX7_206 inX1 rfl (by first | assumption | exact hI _ (by omega)) (cont_kept hx _) (by decide) rfl ?_
        refine V.iload_n dX7_keep_35 rfl ?_
        refine V.aald (n := 4) (t := 2) dX7_keep_36 (by first | assumption | exact hI _ (by omega)) (cont_kg hx _) rfl rfl (by decide) (by omega) ?_
        refine V.callS dX7_keep_37 (c_X7_copy (i := 34 + 17 * i + 1) (j := 114 + 12 * x + 1 + 1 + i) (hI _ (by omega)) (hI _ (by omega)) (ial_row hw_i (by omega) (by omega) (by omega)) (ial_kept hx (by omega) (by omega) (by omega) (by omega))) lkX7_119 st_X7_copy cd_X7_copy ini_X7 hd_X7_copy ⟨Nat.le_of_ble_eq_true rfl, Nat.le_of_ble_eq_true rfl⟩ rfl (Nat.le_of_ble_eq_true rfl) (V.kkN ?_)
        refine V.aload_n dX7_keep_40 rfl ?_
        refine V.getf (ci := 6) (k := 3) (C := RX7) (T := TX7) (N := 10) dX7_keep_41 lfX7_34 inX7 rfl (by first | assumption | exact hI _ (by omega)) rfl (by decide) rfl ?_
        refine V.iload_n dX7_keep_44 rfl ?_
        refine V.aald (n := 4) (t := 3) dX7_keep_45 (by first | assumption | exact hI _ (by omega)) rfl rfl rfl (by decide) (by omega) ?_
        refine V.getf (ci := 4) (k := 1) (C := RX5) (T := TX5) (N := 8) dX7_keep_46 lfX7_102 inX5 rfl (by first | assumption | exact hI _ (by omega)) (cont_row hw_i _) (by decide) rfl ?_
        refine V.aload_n dX7_keep_49 rfl ?_
        refine V.getf (ci := 6) (k := 5) (C := RX7) (T := TX7) (N := 10) dX7_keep_50 lfX7_48 inX7 rfl (by first | assumption | exact hI _ (by omega)) rfl (by decide) rfl ?_
        refine V.iload_n dX7_keep_53 rfl ?_
        refine V.aald (n := 2) (t := 4) dX7_keep_54 (by first | assumption | exact hI _ (by omega)) rfl rfl rfl (by decide) (by omega) ?_
        refine V.getf (ci := 1) (k := 1) (C := RX1) (T := TX1) (N := 4) dX7_keep_55 lfX7_208 inX1 rfl (by first | assumption | exact hI _ (by omega)) (cont_kept hx _) (by decide) rfl ?_
        refine V.iload_n dX7_keep_58 rfl ?_
        refine V.aald (n := 4) (t := 2) dX7_keep_59 (by first | assumption | exact hI _ (by omega)) (cont_kf hx _) rfl rfl (by decide) (by omega) ?_
        refine V.callS dX7_keep_60 (c_X7_copy (i := 34 + 17 * i + 2) (j := 114 + 12 * x + 6 + 1 + i) (hI _ (by omega)) (hI _ (by omega)) (ial_row hw_i (by omega) (by omega) (by omega)) (ial_kept hx (by omega) (by omega) (by omega) (by omega))) lkX7_119 st_X7_copy cd_X7_copy ini_X7 hd_X7_copy ⟨Nat.le_of_ble_eq_true rfl, Nat.le_of_ble_eq_true rfl⟩ rfl (Nat.le_of_ble_eq_true rfl) (V.kkN ?_)
        refine V.iincN dX7_keep_63 (by decide) rfl ?_
        refine V.goto (tgt := 12) dX7_keep_66 (by decide) ?_
        refine ih h2 _ ((k1.as (by omega)).as (by omega)) (fun r hr => ?_)
        by_cases e : r = i
        · subst e
          refine ⟨?_, ?_⟩
          · rw [aset_ne (by omega), show 116 + 12 * x + r = 114 + 12 * x + 1 + 1 + r by omega]
            refine aset_9.tr ?_
            rw [k1 _ (by omega)]; exact h.g h2
          · rw [show 121 + 12 * x + r = 114 + 12 * x + 6 + 1 + r by omega]
            refine aset_9.tr ?_
            rw [aset_ne (by omega), k1 _ (by omega)]; exact h.f h2
        · rw [aset_ne (by omega), aset_ne (by omega), aset_ne (by omega), aset_ne (by omega)]
          exact q1 r (by omega)
  · cases h1
theorem k_back_3 {g : Gl} {M : Mem} {x : Int32} (hz : isN x 2 = false) : Ct g yX7_back cX7_back 3 (some .int) 6 [.ref (g.2.2.2.1 0), .int x] M (fun v M' => v = some (.int (-3)) ∧ M' = M) := by
  refine Ct.ofV (by decide) (Nat.le_of_ble_eq_true rfl) (by simp [Value.category]) (fun κ => ?_)
  refine V.iload_n dX7_back_0 rfl ?_
  refine V.callS dX7_back_1 (c_X7_isKeptPlace) lkX7_203 st_X7_isKeptPlace cd_X7_isKeptPlace ini_X7 hd_X7_isKeptPlace ⟨Nat.le_of_ble_eq_true rfl, Nat.le_of_ble_eq_true rfl⟩ rfl (Nat.le_of_ble_eq_true rfl) (V.kkF ?_)
  rw [hz]
  refine V.if_neB (tgt := 10) dX7_back_4 (by decide) (fun h1 => ?_) (fun h1 => ?_)
  · cases h1
  · refine V.bipush (v := -3) dX7_back_7 (by decide) ?_
    refine V.iret dX7_back_9 ?_
    exact ⟨rfl, rfl⟩
abbrev v_X7_back (g : Gl) (κ : Ka) (Q : State → Prop) (M : Mem) (pc : Nat) (L : List (Option Value)) (st : List Value) : Prop := V g cX7_back 3 yX7_back.cls (some .int) (rmd 6) Q κ M pc L st
theorem k_back_4 {g : Gl} {M : Mem} {A : Ab} {x : Nat} (hI : ∀ i, i < 142 → i ∈ g.2.2.2.2) (h : Rc A M) (hx : x < 2) (hk : A.2.2.2.2.2 x = none) : Ct g yX7_back cX7_back 3 (some .int) 6 [.ref (g.2.2.2.1 0), .int (nI x)] M (fun v M' => v = some (.int (-4)) ∧ M' = M) := by
  have e := h.2.2.2.2 x hx
  rw [hk] at e
  have e1 : M (114 + 12 * x) 3 = nI 0 := e
  refine Ct.ofV (by decide) (Nat.le_of_ble_eq_true rfl) (by simp [Value.category]) (fun κ => ?_)
  refine V.iload_n dX7_back_0 rfl ?_
  refine V.callS dX7_back_1 (c_X7_isKeptPlace) lkX7_203 st_X7_isKeptPlace cd_X7_isKeptPlace ini_X7 hd_X7_isKeptPlace ⟨Nat.le_of_ble_eq_true rfl, Nat.le_of_ble_eq_true rfl⟩ rfl (Nat.le_of_ble_eq_true rfl) (V.kkF ?_)
  rw [isN_nI (by decide) hx]
  refine V.if_neB (tgt := 10) dX7_back_4 (by decide) (fun h1 => ?_) (fun h1 => ?_)
  · refine V.aload_n dX7_back_10 rfl ?_
    refine V.getf (ci := 6) (k := 5) (C := RX7) (T := TX7) (N := 10) dX7_back_11 lfX7_48 inX7 rfl (by first | assumption | exact hI _ (by omega)) rfl (by decide) rfl ?_
    refine V.iload_n dX7_back_14 rfl ?_
    refine V.aald (n := 2) (t := 4) dX7_back_15 (by first | assumption | exact hI _ (by omega)) rfl rfl rfl (by decide) (by omega) ?_
    refine V.getf (ci := 1) (k := 3) (C := RX1) (T := TX1) (N := 4) dX7_back_16 lfX7_211 inX1 rfl (by first | assumption | exact hI _ (by omega)) (cont_kept hx _) (by decide) rfl ?_
    rw [e1]
    refine V.if_neN (tgt := 25) dX7_back_19 (by decide) (by omega) (fun h2 => ?_) (fun h2 => ?_)
    · omega
    · refine V.bipush (v := -4) dX7_back_22 (by decide) ?_
      refine V.iret dX7_back_24 ?_
      exact ⟨rfl, rfl⟩
  · cases h1
theorem k_back {g : Gl} {M : Mem} {A : Ab} {x : Nat} {G F : Nat → Ser} {p : Ser} (hI : ∀ i, i < 142 → i ∈ g.2.2.2.2) (h : Rc A M) (hx : x < 2) (hk : A.2.2.2.2.2 x = some (G, F, p)) : Ct g yX7_back cX7_back 3 (some .int) 6 [.ref (g.2.2.2.1 0), .int (nI x)] M (fun v M' => v = some (.int (nI (fsz p 9))) ∧ Rc (A.1, (fun r => if r < 4 then G r else A.2.1 r), (fun r => if r < 4 then F r else A.2.2.1 r), p, [], A.2.2.2.2.2) M' ∧ keep cP M M') := by
  have hI9 : ∀ i, 1 ≤ i ∧ i ≤ 9 → i ∈ g.2.2.2.2 := fun i h => hI i (by omega)
  have e := h.2.2.2.2 x hx
  rw [hk] at e
  have e1 : M (114 + 12 * x) 3 = nI 1 := e.1
  refine Ct.ofV (by decide) (Nat.le_of_ble_eq_true rfl) (by simp [Value.category]) (fun κ => ?_)
  refine V.iload_n dX7_back_0 rfl ?_
  refine V.callS dX7_back_1 (c_X7_isKeptPlace) lkX7_203 st_X7_isKeptPlace cd_X7_isKeptPlace ini_X7 hd_X7_isKeptPlace ⟨Nat.le_of_ble_eq_true rfl, Nat.le_of_ble_eq_true rfl⟩ rfl (Nat.le_of_ble_eq_true rfl) (V.kkF ?_)
  rw [isN_nI (by decide) hx]
  refine V.if_neB (tgt := 10) dX7_back_4 (by decide) (fun h1 => ?_) (fun h1 => ?_)
  · refine V.aload_n dX7_back_10 rfl ?_
    refine V.getf (ci := 6) (k := 5) (C := RX7) (T := TX7) (N := 10) dX7_back_11 lfX7_48 inX7 rfl (by first | assumption | exact hI _ (by omega)) rfl (by decide) rfl ?_
    refine V.iload_n dX7_back_14 rfl ?_
    refine V.aald (n := 2) (t := 4) dX7_back_15 (by first | assumption | exact hI _ (by omega)) rfl rfl rfl (by decide) (by omega) ?_
    refine V.getf (ci := 1) (k := 3) (C := RX1) (T := TX1) (N := 4) dX7_back_16 lfX7_211 inX1 rfl (by first | assumption | exact hI _ (by omega)) (cont_kept hx _) (by decide) rfl ?_
    rw [e1]
    refine V.if_neN (tgt := 25) dX7_back_19 (by decide) (by omega) (fun h2 => ?_) (fun h2 => ?_)
    · refine V.iconst (v := nI 0) dX7_back_25 rfl ?_
      refine V.istore_n dX7_back_26 (by decide) ?_
      have lp := up_loop 4 (fun i => ∀ M1, keep cP M M1 → Rc (A.1, (fun r => if r < i then G r else A.2.1 r), (fun r => if r < i then F r else A.2.2.1 r), A.2.2.2) M1 → v_X7_back g κ (Qm g κ (fun v M' => v = some (.int (nI (fsz p 9))) ∧ Rc (A.1, (fun r => if r < 4 then G r else A.2.1 r), (fun r => if r < 4 then F r else A.2.2.1 r), p, [], A.2.2.2.2.2) M' ∧ keep cP M M')) M1 27 [some (.ref (g.2.2.2.1 0)), some (.int (nI x)), some (.int (nI i))] []) (fun i hi ih M1 k1 q1 => ?_) 0 (by omega)
      · refine lp M keep.rf ?_
        have f1 : (fun r => if r < 0 then G r else A.2.1 r) = A.2.1 := funext (fun r => if_neg (by omega))
        have f2 : (fun r => if r < 0 then F r else A.2.2.1 r) = A.2.2.1 := funext (fun r => if_neg (by omega))
        rw [f1, f2]; exact h
      · obtain ⟨c1, c2, c3, c4, c5⟩ := id q1
        have ek := c5 x hx
        dsimp only at ek
        rw [hk] at ek
        obtain ⟨ek1, ek2, ek3⟩ := ek
        refine V.iload_n dX7_back_27 rfl ?_
        refine V.iconst (v := nI 4) dX7_back_28 rfl ?_
        refine V.geN (tgt := 70) dX7_back_29 (by decide) (by omega) (by omega) (fun h3 => ?_) (fun h3 => ?_)
        · have e : i = 4 := by omega
          subst e
          refine V.aload_n dX7_back_70 rfl ?_
          refine V.getf (ci := 6) (k := 5) (C := RX7) (T := TX7) (N := 10) dX7_back_71 lfX7_48 inX7 rfl (by first | assumption | exact hI _ (by omega)) rfl (by decide) rfl ?_
          refine V.iload_n dX7_back_74 rfl ?_
          refine V.aald (n := 2) (t := 4) dX7_back_75 (by first | assumption | exact hI _ (by omega)) rfl rfl rfl (by decide) (by omega) ?_
          refine V.getf (ci := 1) (k := 2) (C := RX1) (T := TX1) (N := 4) dX7_back_76 lfX7_210 inX1 rfl (by first | assumption | exact hI _ (by omega)) (cont_kept hx _) (by decide) rfl ?_
          refine V.aload_n dX7_back_79 rfl ?_
          refine V.getf (ci := 6) (k := 4) (C := RX7) (T := TX7) (N := 10) dX7_back_80 lfX7_42 inX7 rfl (by first | assumption | exact hI _ (by omega)) rfl (by decide) rfl ?_
          refine V.getf (ci := 0) (k := 0) (C := RX0) (T := TX0) (N := 4) dX7_back_83 lfX7_168 inX0 rfl (by first | assumption | exact hI _ (by omega)) rfl (by decide) rfl ?_
          refine V.callS dX7_back_86 (c_X7_copy (i := 114 + 12 * x + 11) (j := 103) (hI _ (by omega)) (hI _ (by omega)) (ial_kept hx (by omega) (by omega) (by omega) (by omega)) rfl) lkX7_119 st_X7_copy cd_X7_copy ini_X7 hd_X7_copy ⟨Nat.le_of_ble_eq_true rfl, Nat.le_of_ble_eq_true rfl⟩ rfl (Nat.le_of_ble_eq_true rfl) (V.kkN ?_)
          refine V.aload_n dX7_back_89 rfl ?_
          refine V.getf (ci := 6) (k := 4) (C := RX7) (T := TX7) (N := 10) dX7_back_90 lfX7_42 inX7 rfl (by first | assumption | exact hI _ (by omega)) rfl (by decide) rfl ?_
          refine V.callV (ci := 0) (T := TX0) (N := 4) dX7_back_93 (c_X0_forget (fun i h => hI i (by omega))) lkX7_218 im_X0_forget se_X0_forget cd_X0_forget ini_X0 rfl (by first | assumption | exact hI _ (by omega)) rfl hd_X0_forget ⟨Nat.le_of_ble_eq_true rfl, Nat.le_of_ble_eq_true rfl⟩ rfl (Nat.le_of_ble_eq_true rfl) (V.kkN ?_)
          refine V.aload_n dX7_back_96 rfl ?_
          refine V.getf (ci := 6) (k := 4) (C := RX7) (T := TX7) (N := 10) dX7_back_97 lfX7_42 inX7 rfl (by first | assumption | exact hI _ (by omega)) rfl (by decide) rfl ?_
          refine V.callV (ci := 0) (T := TX0) (N := 4) dX7_back_100 (c_X0_size (fun i h => hI i (by omega))) lkX7_215 im_X0_size se_X0_size cd_X0_size ini_X0 rfl (by first | assumption | exact hI _ (by omega)) rfl hd_X0_size ⟨Nat.le_of_ble_eq_true rfl, Nat.le_of_ble_eq_true rfl⟩ rfl (Nat.le_of_ble_eq_true rfl) (V.kkF ?_)
          refine V.iret dX7_back_103 ?_
          generalize hM3 : mset (aset M1 103 0 9 _) 102 1 _ = M3
          have k3 : keep (fun j => j = 102 ∨ j = 103) M1 M3 := by
            rw [← hM3]; exact ((keep.rf (P := fun j => j = 102 ∨ j = 103)).as (Or.inr rfl)).ms (Or.inl rfl)
          have ep : eq9 (M3 103) p := by
            rw [← hM3, mset_ne (by decide)]
            refine aset_9.tr ?_
            rw [show 114 + 12 * x + 11 = 125 + 12 * x by omega]; exact ek3
          obtain ⟨d1, d2, d3, a, ha, d4, d5⟩ := id c4
          refine ⟨by rw [fsz_cg ep 9 (by decide)], ⟨c1.kp (fun j h1 h2 => k3 j (by omega)), c2.kp (by rw [k3 10 (by omega)]) (k3 13 (by omega)), fun r hr => (c3 r hr).kp (fun j hj => k3 j (by omega)), ⟨ep, Nat.zero_le _, ?_, a, ha, ?_, fun i hi => absurd hi (Nat.not_lt_zero _)⟩, fun q hq => (c5 q hq).kp hq (fun j h1 h2 => k3 j (by omega))⟩, k1.tr (k3.wk (fun j hj => by unfold cP; omega))⟩
          · rw [← hM3, mset_at]; rfl
          · rw [← hM3, mset_nat (by decide), aset_ne (by decide)]; exact d4
        · have hw_i := isRw_of h3
          refine V.aload_n dX7_back_32 rfl ?_
          refine V.getf (ci := 6) (k := 3) (C := RX7) (T := TX7) (N := 10) dX7_back_33 lfX7_34 inX7 rfl (by first | assumption | exact hI _ (by omega)) rfl (by decide) rfl ?_
          refine V.iload_n dX7_back_36 rfl ?_
          refine V.aald (n := 4) (t := 3) dX7_back_37 (by first | assumption | exact hI _ (by omega)) rfl rfl rfl (by decide) (by omega) ?_
          refine V.aload_n dX7_back_38 rfl ?_
          refine V.getf (ci := 6) (k := 5) (C := RX7) (T := TX7) (N := 10) dX7_back_39 lfX7_48 inX7 rfl (by first | assumption | exact hI _ (by omega)) rfl (by decide) rfl ?_
          refine V.iload_n dX7_back_42 rfl ?_
          refine V.aald (n := 2) (t := 4) dX7_back_43 (by first | assumption | exact hI _ (by omega)) rfl rfl rfl (by decide) (by omega) ?_
          refine V.getf (ci := 1) (k := 0) (C := RX1) (T := TX1) (N := 4) dX7_back_44 lfX7_206 inX1 rfl (by first | assumption | exact hI _ (by omega)) (cont_kept hx _) (by decide) rfl ?_
          refine V.iload_n dX7_back_47 rfl ?_
          refine V.aald (n := 4) (t := 2) dX7_back_48 (by first | assumption | exact hI _ (by omega)) (cont_kg hx _) rfl rfl (by decide) (by omega) ?_
          refine V.aload_n dX7_back_49 rfl ?_
          refine V.getf (ci := 6) (k := 5) (C := RX7) (T := TX7) (N := 10) dX7_back_50 lfX7_48 inX7 rfl (by first | assumption | exact hI _ (by omega)) rfl (by decide) rfl ?_
          refine V.iload_n dX7_back_53 rfl ?_
          refine V.aald (n := 2) (t := 4) dX7_back_54 (by first | assumption | exact hI _ (by omega)) rfl rfl rfl (by decide) (by omega) ?_
          refine V.getf (ci := 1) (k := 1) (C := RX1) (T := TX1) (N := 4) dX7_back_55 lfX7_208 inX1 rfl (by first | assumption | exact hI _ (by omega)) (cont_kept hx _) (by decide) rfl ?_
          refine V.iload_n dX7_back_58 rfl ?_
          refine V.aald (n := 4) (t := 2) dX7_back_59 (by first | assumption | exact hI _ (by omega)) (cont_kf hx _) rfl rfl (by decide) (by omega) ?_
          refine V.callV (ci := 4) (T := TX5) (N := 8) dX7_back_60 (c_X5_become (a := 114 + 12 * x + 1 + 1 + i) (b := 114 + 12 * x + 6 + 1 + i) hw_i hI9 (fun i h => hI i (by omega)) (hI _ (by omega)) (ial_kept hx (by omega) (by omega) (by omega) (by omega)) (hI _ (by omega)) (ial_kept hx (by omega) (by omega) (by omega) (by omega)) (by omega) (by omega)) lkX7_95 im_X5_become se_X5_become cd_X5_become ini_X5 rfl (by first | assumption | exact hI _ (by omega)) (cont_row hw_i _) hd_X5_become ⟨Nat.le_of_ble_eq_true rfl, Nat.le_of_ble_eq_true rfl⟩ rfl (Nat.le_of_ble_eq_true rfl) (V.kkX (fun M2 q2 => ?_))
          refine V.pop dX7_back_63 rfl ?_
          refine V.iincN dX7_back_64 (by decide) rfl ?_
          refine V.goto (tgt := 27) dX7_back_67 (by decide) ?_
          obtain ⟨k2, r2, g2, f2⟩ := q2
          have eg : eq9 (M2 (34 + 17 * i + 1)) (G i) := g2.tr (by rw [show 114 + 12 * x + 1 + 1 + i = 116 + 12 * x + i by omega]; exact (ek2 i h3).1)
          have ef : eq9 (M2 (34 + 17 * i + 2)) (F i) := f2.tr (by rw [show 114 + 12 * x + 6 + 1 + i = 121 + 12 * x + i by omega]; exact (ek2 i h3).2)
          have hn := q1.row h3 keep.rf rfl k2 r2 eg ef
          refine ih h3 M2 (k1.tr (k2.wk (fun j hj => by unfold cP; omega))) ?_
          have f1 : va_up (fun r => if r < i then G r else A.2.1 r) i (G i) = fun r => if r < i + 1 then G r else A.2.1 r := by
            funext r; unfold va_up
            by_cases e : r = i
            · subst e; simp
            · rw [if_neg e]
              dsimp only
              by_cases e2 : r < i
              · rw [if_pos e2, if_pos (by omega)]
              · rw [if_neg e2, if_neg (by omega)]
          have f2 : va_up (fun r => if r < i then F r else A.2.2.1 r) i (F i) = fun r => if r < i + 1 then F r else A.2.2.1 r := by
            funext r; unfold va_up
            by_cases e : r = i
            · subst e; simp
            · rw [if_neg e]
              dsimp only
              by_cases e2 : r < i
              · rw [if_pos e2, if_pos (by omega)]
              · rw [if_neg e2, if_neg (by omega)]
          dsimp only at hn
          rw [f1, f2] at hn
          exact hn
    · omega
  · cases h1
theorem toInt_neg {x : Int32} (h : x < 0) : x.toInt < 0 := by
  have := Int32.lt_iff_toInt_lt.mp h
  simpa using this
theorem toInt_ge {x : Int32} {n : Nat} (hn : n < 2 ^ 31) (h : nI n ≤ x) : (n : Int) ≤ x.toInt := by
  have := Int32.le_iff_toInt_le.mp h
  rw [nI_toInt hn] at this; exact this
theorem sub3 {x : Int32} (h : isN x 7 = false) : isN (x - nI 3) 4 = false := by
  cases hb : isN (x - nI 3) 4 with
  | false => rfl
  | true =>
    obtain ⟨j, hj, e⟩ := isN_yes (by decide) hb
    have : x = nI (j + 3) := by
      rw [← nI_add, ← e, Int32.sub_add_cancel]
    rw [this, isN_nI (by decide) (by omega)] at h
    cases h
theorem k_count_3 {g : Gl} {M : Mem} {x : Int32} (hz : isN x 7 = false) : Ct g yX7_count cX7_count 2 (some .int) 1 [.ref (g.2.2.2.1 0), .int x] M (fun v M' => v = some (.int (-3)) ∧ M' = M) := by
  refine Ct.ofV (by decide) (Nat.le_of_ble_eq_true rfl) (by simp [Value.category]) (fun κ => ?_)
  refine V.iload_n dX7_count_0 rfl ?_
  refine V.tableOut (tgt := 52) dX7_count_1 ?_ (by decide) ?_
  · rcases pk_ix x (n := 7) (by decide) with h1 | h1 | ⟨j, hj, rfl⟩
    · exact Or.inl (toInt_neg h1)
    · have := toInt_ge (by decide) h1
      exact Or.inr (by omega)
    · rw [isN_nI (by decide) hj] at hz; cases hz
  · refine V.iload_n dX7_count_52 rfl ?_
    refine V.iconst (v := nI 3) dX7_count_53 rfl ?_
    refine V.isub dX7_count_54 ?_
    refine V.callS dX7_count_55 (c_X7_isRow) lkX7_81 st_X7_isRow cd_X7_isRow ini_X7 hd_X7_isRow ⟨Nat.le_of_ble_eq_true rfl, Nat.le_of_ble_eq_true rfl⟩ rfl (Nat.le_of_ble_eq_true rfl) (V.kkF ?_)
    rw [sub3 hz]
    refine V.if_eqB (tgt := 75) dX7_count_58 (by decide) (fun h1 => ?_) (fun h1 => ?_)
    · refine V.bipush (v := -3) dX7_count_75 (by decide) ?_
      refine V.iret dX7_count_77 ?_
      exact ⟨rfl, rfl⟩
    · cases h1
theorem k_count0 {g : Gl} {M : Mem} {A : Ab} (hI : ∀ i, i < 142 → i ∈ g.2.2.2.2) (h : Rc A M) : Ct g yX7_count cX7_count 2 (some .int) 1 [.ref (g.2.2.2.1 0), .int (nI 0)] M (fun v M' => v = some (.int (fdeg A.2.2.2.1 9)) ∧ M' = M) := by
  refine Ct.ofV (by decide) (Nat.le_of_ble_eq_true rfl) (by simp [Value.category]) (fun κ => ?_)
  refine V.iload_n dX7_count_0 rfl ?_
  refine V.tableIn (tgt := 28) dX7_count_1 (by decide) (by decide) rfl (by decide) ?_
  refine V.aload_n dX7_count_28 rfl ?_
  refine V.getf (ci := 6) (k := 4) (C := RX7) (T := TX7) (N := 10) dX7_count_29 lfX7_42 inX7 rfl (by first | assumption | exact hI _ (by omega)) rfl (by decide) rfl ?_
  refine V.callV (ci := 0) (T := TX0) (N := 4) dX7_count_32 (c_X0_degree (fun i h => hI i (by omega))) lkX7_221 im_X0_degree se_X0_degree cd_X0_degree ini_X0 rfl (by first | assumption | exact hI _ (by omega)) rfl hd_X0_degree ⟨Nat.le_of_ble_eq_true rfl, Nat.le_of_ble_eq_true rfl⟩ rfl (Nat.le_of_ble_eq_true rfl) (V.kkF ?_)
  refine V.iret dX7_count_35 ?_
  exact ⟨by rw [fdeg_cg h.2.2.2.1.1 9 (by decide)], rfl⟩
theorem k_count1 {g : Gl} {M : Mem} {A : Ab} (hI : ∀ i, i < 142 → i ∈ g.2.2.2.2) (h : Rc A M) : Ct g yX7_count cX7_count 2 (some .int) 1 [.ref (g.2.2.2.1 0), .int (nI 1)] M (fun v M' => v = some (.int (nI A.2.2.2.2.1.length)) ∧ M' = M) := by
  refine Ct.ofV (by decide) (Nat.le_of_ble_eq_true rfl) (by simp [Value.category]) (fun κ => ?_)
  refine V.iload_n dX7_count_0 rfl ?_
  refine V.tableIn (tgt := 36) dX7_count_1 (by decide) (by decide) rfl (by decide) ?_
  refine V.aload_n dX7_count_36 rfl ?_
  refine V.getf (ci := 6) (k := 4) (C := RX7) (T := TX7) (N := 10) dX7_count_37 lfX7_42 inX7 rfl (by first | assumption | exact hI _ (by omega)) rfl (by decide) rfl ?_
  refine V.getf (ci := 0) (k := 1) (C := RX0) (T := TX0) (N := 4) dX7_count_40 lfX7_197 inX0 rfl (by first | assumption | exact hI _ (by omega)) rfl (by decide) rfl ?_
  refine V.iret dX7_count_43 ?_
  exact ⟨by rw [h.2.2.2.1.2.2.1], rfl⟩
theorem k_count2 {g : Gl} {M : Mem} {A : Ab} (hI : ∀ i, i < 142 → i ∈ g.2.2.2.2) (h : Rc A M) : Ct g yX7_count cX7_count 2 (some .int) 1 [.ref (g.2.2.2.1 0), .int (nI 2)] M (fun v M' => v = some (.int (nI A.1.1)) ∧ M' = M) := by
  refine Ct.ofV (by decide) (Nat.le_of_ble_eq_true rfl) (by simp [Value.category]) (fun κ => ?_)
  refine V.iload_n dX7_count_0 rfl ?_
  refine V.tableIn (tgt := 44) dX7_count_1 (by decide) (by decide) rfl (by decide) ?_
  refine V.aload_n dX7_count_44 rfl ?_
  refine V.getf (ci := 6) (k := 1) (C := RX7) (T := TX7) (N := 10) dX7_count_45 lfX7_19 inX7 rfl (by first | assumption | exact hI _ (by omega)) rfl (by decide) rfl ?_
  refine V.getf (ci := 5) (k := 3) (C := RX6) (T := TX6) (N := 8) dX7_count_48 lfX7_70 inX6 rfl (by first | assumption | exact hI _ (by omega)) rfl (by decide) rfl ?_
  refine V.iret dX7_count_51 ?_
  exact ⟨by rw [h.2.1.2.1], rfl⟩
theorem k_count {g : Gl} {M : Mem} {A : Ab} {r : Nat} (hI : ∀ i, i < 142 → i ∈ g.2.2.2.2) (h : Rc A M) (hr : r < 4) : Ct g yX7_count cX7_count 2 (some .int) 1 [.ref (g.2.2.2.1 0), .int (nI (r + 3))] M (fun v M' => v = some (.int (fsec (A.2.2.1 r) 7)) ∧ M' = M) := by
  have hw_r := isRw_of hr
  refine Ct.ofV (by decide) (Nat.le_of_ble_eq_true rfl) (by simp [Value.category]) (fun κ => ?_)
  refine V.iload_n dX7_count_0 rfl ?_
  refine V.tableOut (tgt := 52) dX7_count_1 (by rw [nI_toInt (by omega)]; omega) (by decide) ?_
  refine V.iload_n dX7_count_52 rfl ?_
  refine V.iconst (v := nI 3) dX7_count_53 rfl ?_
  first | refine V.isubN dX7_count_54 (by omega) ?_ | refine V.isub dX7_count_54 ?_
  rw [show r + 3 - 3 = r by omega]
  refine V.callS dX7_count_55 (c_X7_isRow) lkX7_81 st_X7_isRow cd_X7_isRow ini_X7 hd_X7_isRow ⟨Nat.le_of_ble_eq_true rfl, Nat.le_of_ble_eq_true rfl⟩ rfl (Nat.le_of_ble_eq_true rfl) (V.kkF ?_)
  rw [isN_nI (by decide) hr]
  refine V.if_eqB (tgt := 75) dX7_count_58 (by decide) (fun h1 => ?_) (fun h1 => ?_)
  · cases h1
  · refine V.aload_n dX7_count_61 rfl ?_
    refine V.getf (ci := 6) (k := 3) (C := RX7) (T := TX7) (N := 10) dX7_count_62 lfX7_34 inX7 rfl (by first | assumption | exact hI _ (by omega)) rfl (by decide) rfl ?_
    refine V.iload_n dX7_count_65 rfl ?_
    refine V.iconst (v := nI 3) dX7_count_66 rfl ?_
    first | refine V.isubN dX7_count_67 (by omega) ?_ | refine V.isub dX7_count_67 ?_
    rw [show r + 3 - 3 = r by omega]
    refine V.aald (n := 4) (t := 3) dX7_count_68 (by first | assumption | exact hI _ (by omega)) rfl rfl rfl (by decide) (by omega) ?_
    refine V.callV (ci := 4) (T := TX5) (N := 8) dX7_count_69 (c_X5_secondPower hw_r (fun i h => hI i (by omega))) lkX7_224 im_X5_secondPower se_X5_secondPower cd_X5_secondPower ini_X5 rfl (by first | assumption | exact hI _ (by omega)) (cont_row hw_r _) hd_X5_secondPower ⟨Nat.le_of_ble_eq_true rfl, Nat.le_of_ble_eq_true rfl⟩ rfl (Nat.le_of_ble_eq_true rfl) (V.kkF ?_)
    refine V.goto (tgt := 77) dX7_count_72 (by decide) ?_
    refine V.iret dX7_count_77 ?_
    exact ⟨by rw [fsec_cg (h.f hr) 7 (by decide)], rfl⟩

