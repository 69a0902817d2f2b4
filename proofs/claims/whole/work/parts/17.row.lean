theorem c_X5_reckonAll {g : Gl} {M : Mem} {o : Nat} (ho : isRw o) (hI : ∀ i, 1 ≤ i ∧ i ≤ 9 → i ∈ g.2.2.2.2) (hJ : ∀ i, o ≤ i ∧ i < o + 17 → i ∈ g.2.2.2.2) : Ct g yX5_reckonAll cX5_reckonAll 1 none 4 [.ref (g.2.2.2.1 o)] M (fun v M' => v = none ∧ keep (fun j => (6 ≤ j ∧ j ≤ 9) ∨ (o + 3 ≤ j ∧ j < o + 16 ∧ j ≠ o + 5)) M M' ∧ rowOk o M') := by
  have h34 : 34 ≤ o := by obtain ⟨r, hr, e⟩ := ho; omega
  refine Ct.ofV (by decide) (Nat.le_of_ble_eq_true rfl) (by simp [Value.category]) (fun κ => ?_)
  refine V.aload_n dX5_reckonAll_0 rfl ?_
  refine V.getf (ci := 4) (k := 5) (C := RX5) (T := TX5) (N := 8) dX5_reckonAll_1 lfX5_35 inX5 rfl (by first | assumption | exact hI _ (by omega) | exact hJ _ (by omega)) (cont_row ho _) (by decide) rfl ?_
  refine V.aload_n dX5_reckonAll_4 rfl ?_
  refine V.getf (ci := 4) (k := 2) (C := RX5) (T := TX5) (N := 8) dX5_reckonAll_5 lfX5_18 inX5 rfl (by first | assumption | exact hI _ (by omega) | exact hJ _ (by omega)) (cont_row ho _) (by decide) rfl ?_
  refine V.aload_n dX5_reckonAll_8 rfl ?_
  refine V.getf (ci := 4) (k := 0) (C := RX5) (T := TX5) (N := 8) dX5_reckonAll_9 lfX5_9 inX5 rfl (by first | assumption | exact hI _ (by omega) | exact hJ _ (by omega)) (cont_row ho _) (by decide) rfl ?_
  refine V.callV (ci := 3) (T := TX4) (N := 8) dX5_reckonAll_12 (c_X4_overSeries (i := o + 3) (b := o + 1) (hI 1 (by decide)) (hJ _ (by omega)) (ial_row ho (by omega) (by omega) (by omega)) (hJ _ (by omega)) (ial_row ho (by omega) (by omega) (by omega)) (by omega)) lkX5_50 im_X4_overSeries se_X4_overSeries cd_X4_overSeries ini_X4 rfl (by first | assumption | exact hI _ (by omega) | exact hJ _ (by omega)) rfl hd_X4_overSeries ⟨Nat.le_of_ble_eq_true rfl, Nat.le_of_ble_eq_true rfl⟩ rfl (Nat.le_of_ble_eq_true rfl) (V.kkN ?_)
  refine V.aload_n dX5_reckonAll_15 rfl ?_
  refine V.getf (ci := 4) (k := 5) (C := RX5) (T := TX5) (N := 8) dX5_reckonAll_16 lfX5_35 inX5 rfl (by first | assumption | exact hI _ (by omega) | exact hJ _ (by omega)) (cont_row ho _) (by decide) rfl ?_
  refine V.aload_n dX5_reckonAll_19 rfl ?_
  refine V.getf (ci := 4) (k := 3) (C := RX5) (T := TX5) (N := 8) dX5_reckonAll_20 lfX5_21 inX5 rfl (by first | assumption | exact hI _ (by omega) | exact hJ _ (by omega)) (cont_row ho _) (by decide) rfl ?_
  refine V.aload_n dX5_reckonAll_23 rfl ?_
  refine V.getf (ci := 4) (k := 1) (C := RX5) (T := TX5) (N := 8) dX5_reckonAll_24 lfX5_15 inX5 rfl (by first | assumption | exact hI _ (by omega) | exact hJ _ (by omega)) (cont_row ho _) (by decide) rfl ?_
  refine V.callV (ci := 3) (T := TX4) (N := 8) dX5_reckonAll_27 (c_X4_turnInsideOut (i := o + 4) (a := o + 2) hI (hJ _ (by omega)) (ial_row ho (by omega) (by omega) (by omega)) (hJ _ (by omega)) (ial_row ho (by omega) (by omega) (by omega)) (by omega) (by omega)) lkX5_55 im_X4_turnInsideOut se_X4_turnInsideOut cd_X4_turnInsideOut ini_X4 rfl (by first | assumption | exact hI _ (by omega) | exact hJ _ (by omega)) rfl hd_X4_turnInsideOut ⟨Nat.le_of_ble_eq_true rfl, Nat.le_of_ble_eq_true rfl⟩ rfl (Nat.le_of_ble_eq_true rfl) (V.kkP (fun M2 q2 => ?_))
  refine V.aload_n dX5_reckonAll_30 rfl ?_
  refine V.getf (ci := 4) (k := 5) (C := RX5) (T := TX5) (N := 8) dX5_reckonAll_31 lfX5_35 inX5 rfl (by first | assumption | exact hI _ (by omega) | exact hJ _ (by omega)) (cont_row ho _) (by decide) rfl ?_
  refine V.aload_n dX5_reckonAll_34 rfl ?_
  refine V.getf (ci := 4) (k := 6) (C := RX5) (T := TX5) (N := 8) dX5_reckonAll_35 lfX5_29 inX5 rfl (by first | assumption | exact hI _ (by omega) | exact hJ _ (by omega)) (cont_row ho _) (by decide) rfl ?_
  refine V.aload_n dX5_reckonAll_38 rfl ?_
  refine V.getf (ci := 4) (k := 2) (C := RX5) (T := TX5) (N := 8) dX5_reckonAll_39 lfX5_18 inX5 rfl (by first | assumption | exact hI _ (by omega) | exact hJ _ (by omega)) (cont_row ho _) (by decide) rfl ?_
  refine V.aload_n dX5_reckonAll_42 rfl ?_
  refine V.getf (ci := 4) (k := 3) (C := RX5) (T := TX5) (N := 8) dX5_reckonAll_43 lfX5_21 inX5 rfl (by first | assumption | exact hI _ (by omega) | exact hJ _ (by omega)) (cont_row ho _) (by decide) rfl ?_
  refine V.callV (ci := 3) (T := TX4) (N := 8) dX5_reckonAll_46 (c_X4_putInside (i := o + 15) (a := o + 3) (b := o + 4) hI (hJ _ (by omega)) (ial_row ho (by omega) (by omega) (by omega)) (hJ _ (by omega)) (ial_row ho (by omega) (by omega) (by omega)) (hJ _ (by omega)) (ial_row ho (by omega) (by omega) (by omega)) (by omega) (by omega)) lkX5_58 im_X4_putInside se_X4_putInside cd_X4_putInside ini_X4 rfl (by first | assumption | exact hI _ (by omega) | exact hJ _ (by omega)) rfl hd_X4_putInside ⟨Nat.le_of_ble_eq_true rfl, Nat.le_of_ble_eq_true rfl⟩ rfl (Nat.le_of_ble_eq_true rfl) (V.kkN ?_)
  refine V.aload_n dX5_reckonAll_49 rfl ?_
  refine V.getf (ci := 4) (k := 5) (C := RX5) (T := TX5) (N := 8) dX5_reckonAll_50 lfX5_35 inX5 rfl (by first | assumption | exact hI _ (by omega) | exact hJ _ (by omega)) (cont_row ho _) (by decide) rfl ?_
  refine V.aload_n dX5_reckonAll_53 rfl ?_
  refine V.getf (ci := 4) (k := 4) (C := RX5) (T := TX5) (N := 8) dX5_reckonAll_54 lfX5_26 inX5 rfl (by first | assumption | exact hI _ (by omega) | exact hJ _ (by omega)) (cont_row ho _) (by decide) rfl ?_
  refine V.aload_n dX5_reckonAll_57 rfl ?_
  refine V.getf (ci := 4) (k := 6) (C := RX5) (T := TX5) (N := 8) dX5_reckonAll_58 lfX5_29 inX5 rfl (by first | assumption | exact hI _ (by omega) | exact hJ _ (by omega)) (cont_row ho _) (by decide) rfl ?_
  refine V.aload_n dX5_reckonAll_61 rfl ?_
  refine V.getf (ci := 4) (k := 3) (C := RX5) (T := TX5) (N := 8) dX5_reckonAll_62 lfX5_21 inX5 rfl (by first | assumption | exact hI _ (by omega) | exact hJ _ (by omega)) (cont_row ho _) (by decide) rfl ?_
  refine V.callV (ci := 3) (T := TX4) (N := 8) dX5_reckonAll_65 (c_X4_tellPolynomials (q := o + 5) (a := o + 15) (b := o + 4) hI (hJ _ (by omega)) (cont_pols ho) (fun j hj => ⟨hJ _ (by omega), ial_row ho (by omega) (by omega) (by omega)⟩) (hJ _ (by omega)) (ial_row ho (by omega) (by omega) (by omega)) (hJ _ (by omega)) (ial_row ho (by omega) (by omega) (by omega)) (by omega) (by omega) (by omega) (by omega)) lkX5_62 im_X4_tellPolynomials se_X4_tellPolynomials cd_X4_tellPolynomials ini_X4 rfl (by first | assumption | exact hI _ (by omega) | exact hJ _ (by omega)) rfl hd_X4_tellPolynomials ⟨Nat.le_of_ble_eq_true rfl, Nat.le_of_ble_eq_true rfl⟩ rfl (Nat.le_of_ble_eq_true rfl) (V.kkP (fun M4 q4 => ?_))
  refine V.vret dX5_reckonAll_68 ?_
  obtain ⟨k2, e2⟩ := q2
  obtain ⟨k4, e4⟩ := q4
  have r1 : ∀ i, ¬ (o + 3 ≤ i ∧ i < o + 16 ∧ i ≠ o + 5) → ¬ (6 ≤ i ∧ i ≤ 9) → M4 i = M i := fun i h1 h2 => by
    rw [k4 i (by omega), aset_ne (by omega), aset_ne (by omega), k2 i (by omega), aset_ne (by omega)]
  have m3 : M4 (o + 3) = aset M (o + 3) 0 9 (fover (M (o + 1))) (o + 3) := by rw [k4 _ (by omega), aset_ne (by omega), aset_ne (by omega), k2 _ (by omega)]
  have e3 : eq9 (M4 (o + 3)) (fover (M (o + 1))) := by rw [m3]; exact aset_9
  have m23 : M2 (o + 3) = M4 (o + 3) := by rw [m3, k2 _ (by omega)]
  have e24 : eq9 (M2 (o + 4)) (fturn (M (o + 2))) := by rw [aset_ne (by omega)] at e2; exact e2
  have e44 : eq9 (M4 (o + 4)) (fturn (M (o + 2))) := by rw [k4 _ (by omega), aset_ne (by omega), aset_ne (by omega)]; exact e24
  refine ⟨rfl, fun i hi => r1 i (by omega) (by omega), ?_, ?_, fun n k hn hk => ?_⟩
  · rw [r1 (o + 1) (by omega) (by omega)]; exact e3
  · rw [r1 (o + 2) (by omega) (by omega)]; exact e44
  · have := e4 n k hn hk
    rw [show o + 5 + 1 + n = o + 6 + n by omega] at this
    rw [this, r1 5 (by omega) (by omega), r1 2 (by omega) (by omega), r1 (o + 1) (by omega) (by omega), r1 (o + 2) (by omega) (by omega)]
    unfold fpolR
    refine fpol_cg ?_ ?_ ?_ ?_ hn hk
    · rw [aset_ne (by omega), aset_ne (by omega), k2 5 (by omega), aset_ne (by omega)]; exact eq9.rf
    · rw [aset_ne (by omega), aset_ne (by omega), k2 2 (by omega), aset_ne (by omega)]; exact eq9.rf
    · exact aset_9.tr (fput_cg (by rw [m23]; exact e3) e24)
    · rw [aset_ne (by omega), aset_ne (by omega)]; exact e24
theorem c_X5_become {g : Gl} {M : Mem} {o a b : Nat} (ho : isRw o) (hI : ∀ i, 1 ≤ i ∧ i ≤ 9 → i ∈ g.2.2.2.2) (hJ : ∀ i, o ≤ i ∧ i < o + 17 → i ∈ g.2.2.2.2) (ha : a ∈ g.2.2.2.2) (la : ial a = 9) (hb : b ∈ g.2.2.2.2) (lb : ial b = 9) (ha1 : ¬ (o ≤ a ∧ a < o + 17)) (hb1 : ¬ (o ≤ b ∧ b < o + 17)) : Ct g yX5_become cX5_become 3 (some .int) 5 [.ref (g.2.2.2.1 o), .ref (g.2.2.2.1 a), .ref (g.2.2.2.1 b)] M (fun v M' => v = some (.int (M b 1)) ∧ keep (fun j => (6 ≤ j ∧ j ≤ 9) ∨ (o + 1 ≤ j ∧ j < o + 16 ∧ j ≠ o + 5)) M M' ∧ rowOk o M' ∧ eq9 (M' (o + 1)) (M a) ∧ eq9 (M' (o + 2)) (M b)) := by
  have h34 : 34 ≤ o := by obtain ⟨r, hr, e⟩ := ho; omega
  refine Ct.ofV (by decide) (Nat.le_of_ble_eq_true rfl) (by simp [Value.category]) (fun κ => ?_)
  refine V.aload_n dX5_become_0 rfl ?_
  refine V.aload_n dX5_become_1 rfl ?_
  refine V.getf (ci := 4) (k := 0) (C := RX5) (T := TX5) (N := 8) dX5_become_2 lfX5_9 inX5 rfl (by first | assumption | exact hI _ (by omega) | exact hJ _ (by omega)) (cont_row ho _) (by decide) rfl ?_
  refine V.callSN dX5_become_5 (c_X7_copy ha (hJ (o + 1) (by omega)) la (ial_row ho (by omega) (by omega) (by omega))) nlX5_46 st_X7_copy cd_X7_copy ini_X7 hd_X7_copy ⟨Nat.le_of_ble_eq_true rfl, Nat.le_of_ble_eq_true rfl⟩ rfl (Nat.le_of_ble_eq_true rfl) (V.kkN ?_)
  refine V.aload_n dX5_become_8 rfl ?_
  refine V.aload_n dX5_become_9 rfl ?_
  refine V.getf (ci := 4) (k := 1) (C := RX5) (T := TX5) (N := 8) dX5_become_10 lfX5_15 inX5 rfl (by first | assumption | exact hI _ (by omega) | exact hJ _ (by omega)) (cont_row ho _) (by decide) rfl ?_
  refine V.callSN dX5_become_13 (c_X7_copy hb (hJ (o + 2) (by omega)) lb (ial_row ho (by omega) (by omega) (by omega))) nlX5_46 st_X7_copy cd_X7_copy ini_X7 hd_X7_copy ⟨Nat.le_of_ble_eq_true rfl, Nat.le_of_ble_eq_true rfl⟩ rfl (Nat.le_of_ble_eq_true rfl) (V.kkN ?_)
  refine V.aload_n dX5_become_16 rfl ?_
  refine V.callV (ci := 4) (T := TX5) (N := 8) dX5_become_17 (c_X5_reckonAll ho hI hJ) lkX5_43 im_X5_reckonAll se_X5_reckonAll cd_X5_reckonAll ini_X5 rfl (by first | assumption | exact hI _ (by omega) | exact hJ _ (by omega)) (cont_row ho _) hd_X5_reckonAll ⟨Nat.le_of_ble_eq_true rfl, Nat.le_of_ble_eq_true rfl⟩ rfl (Nat.le_of_ble_eq_true rfl) (V.kkP (fun M2 q2 => ?_))
  refine V.aload_n dX5_become_20 rfl ?_
  refine V.getf (ci := 4) (k := 1) (C := RX5) (T := TX5) (N := 8) dX5_become_21 lfX5_15 inX5 rfl (by first | assumption | exact hI _ (by omega) | exact hJ _ (by omega)) (cont_row ho _) (by decide) rfl ?_
  refine V.iconst (v := nI 1) dX5_become_24 rfl ?_
  refine V.iald (n := 9) dX5_become_25 (by first | assumption | exact hI _ (by omega) | exact hJ _ (by omega)) (by first | assumption | decide | exact ial_row ho (by omega) (by omega) (by omega)) (by omega) ?_
  refine V.iret dX5_become_26 ?_
  obtain ⟨k2, r2⟩ := q2
  have e1 : eq9 (M2 (o + 1)) (M a) := by rw [k2 _ (by omega), aset_ne (by omega)]; exact aset_9
  have e2 : eq9 (M2 (o + 2)) (M b) := by rw [k2 _ (by omega)]; exact aset_9.tr (by rw [aset_ne (by omega)]; exact eq9.rf)
  refine ⟨by rw [e2 1 (by omega)], fun i hi => ?_, r2, e1, e2⟩
  rw [k2 i (by omega), aset_ne (by omega), aset_ne (by omega)]
theorem c_X5_chosen {g : Gl} {M : Mem} {o k : Nat} (ho : isRw o) (hJ : ∀ i, o ≤ i ∧ i < o + 17 → i ∈ g.2.2.2.2) (hk : k < 4) : Ct g yX5_chosen cX5_chosen 2 (some (.array .int)) 0 [.ref (g.2.2.2.1 o), .int (nI k)] M (fun v M' => v = some (.ref (g.2.2.2.1 (o + 1 + k))) ∧ M' = M) := by
  refine Ct.ofV (by decide) (Nat.le_of_ble_eq_true rfl) (by simp [Value.category]) (fun κ => ?_)
  refine V.iload_n dX5_chosen_0 rfl ?_
  match k, hk with
  | 0, _ =>
    refine V.tableIn (tgt := 28) dX5_chosen_1 (by decide) (by decide) rfl (by decide) ?_
    refine V.aload_n dX5_chosen_28 rfl ?_
    refine V.getf (ci := 4) (k := 0) (C := RX5) (T := TX5) (N := 8) dX5_chosen_29 lfX5_9 inX5 rfl (by first | assumption | exact hI _ (by omega) | exact hJ _ (by omega)) (cont_row ho _) (by decide) rfl ?_
    refine V.aret dX5_chosen_32 ?_
    exact ⟨rfl, rfl⟩
  | 1, _ =>
    refine V.tableIn (tgt := 33) dX5_chosen_1 (by decide) (by decide) rfl (by decide) ?_
    refine V.aload_n dX5_chosen_33 rfl ?_
    refine V.getf (ci := 4) (k := 1) (C := RX5) (T := TX5) (N := 8) dX5_chosen_34 lfX5_15 inX5 rfl (by first | assumption | exact hI _ (by omega) | exact hJ _ (by omega)) (cont_row ho _) (by decide) rfl ?_
    refine V.aret dX5_chosen_37 ?_
    exact ⟨rfl, rfl⟩
  | 2, _ =>
    refine V.tableIn (tgt := 38) dX5_chosen_1 (by decide) (by decide) rfl (by decide) ?_
    refine V.aload_n dX5_chosen_38 rfl ?_
    refine V.getf (ci := 4) (k := 2) (C := RX5) (T := TX5) (N := 8) dX5_chosen_39 lfX5_18 inX5 rfl (by first | assumption | exact hI _ (by omega) | exact hJ _ (by omega)) (cont_row ho _) (by decide) rfl ?_
    refine V.aret dX5_chosen_42 ?_
    exact ⟨rfl, rfl⟩
  | 3, _ =>
    refine V.tableOut (tgt := 43) dX5_chosen_1 (by decide) (by decide) ?_
    refine V.aload_n dX5_chosen_43 rfl ?_
    refine V.getf (ci := 4) (k := 3) (C := RX5) (T := TX5) (N := 8) dX5_chosen_44 lfX5_21 inX5 rfl (by first | assumption | exact hI _ (by omega) | exact hJ _ (by omega)) (cont_row ho _) (by decide) rfl ?_
    refine V.aret dX5_chosen_47 ?_
    exact ⟨rfl, rfl⟩
abbrev v_X5_tell (g : Gl) (κ : Ka) (Q : State → Prop) (M : Mem) (pc : Nat) (L : List (Option Value)) (st : List Value) : Prop := V g cX5_tell 5 yX5_tell.cls none (rmd 2) Q κ M pc L st
theorem c_X5_tell {g : Gl} {M : Mem} {o i a : Nat} (ho : isRw o) (hJ : ∀ i, o ≤ i ∧ i < o + 17 → i ∈ g.2.2.2.2) (hi : i ∈ g.2.2.2.2) (li : ial i = 9) (ha : a ∈ g.2.2.2.2) (la : ial a = 9) (hi1 : ¬ (o ≤ i ∧ i < o + 17)) : Ct g yX5_tell cX5_tell 5 none 2 [.ref (g.2.2.2.1 o), .ref (g.2.2.2.1 i), .ref (g.2.2.2.1 a)] M (fun v M' => v = none ∧ keep (fun j => j = i ∨ j = o + 16) M M' ∧ eq9 (M' i) (ftell (fun n => M (o + 6 + n)) (M a))) := by
  refine Ct.ofV (by decide) (Nat.le_of_ble_eq_true rfl) (by simp [Value.category]) (fun κ => ?_)
  refine V.aload_n dX5_tell_0 rfl ?_
  refine V.aload_n dX5_tell_1 rfl ?_
  refine V.getf (ci := 4) (k := 7) (C := RX5) (T := TX5) (N := 8) dX5_tell_2 lfX5_32 inX5 rfl (by first | assumption | exact hI _ (by omega) | exact hJ _ (by omega)) (cont_row ho _) (by decide) rfl ?_
  refine V.callSN dX5_tell_5 (c_X7_copy ha (hJ (o + 16) (by omega)) la (ial_row ho (by omega) (by omega) (by omega))) nlX5_46 st_X7_copy cd_X7_copy ini_X7 hd_X7_copy ⟨Nat.le_of_ble_eq_true rfl, Nat.le_of_ble_eq_true rfl⟩ rfl (Nat.le_of_ble_eq_true rfl) (V.kkN ?_)
  refine V.bipush (v := nI 8) dX5_tell_8 (by decide) ?_
  refine V.istore_n dX5_tell_10 (by decide) ?_
  have lp := dn_loop (fun k => k ≤ 9 → ∀ M1 x4, keep (fun j => j = i ∨ j = o + 16) M M1 → eq9 (M1 (o + 16)) (trest (fun n => M (o + 6 + n)) (M a) (9 - k)) → (∀ n, k ≤ n → n < 9 → M1 i n = ftell (fun n => M (o + 6 + n)) (M a) n) → v_X5_tell g κ (Qm g κ (fun v M' => v = none ∧ keep (fun j => j = i ∨ j = o + 16) M M' ∧ eq9 (M' i) (ftell (fun n => M (o + 6 + n)) (M a)))) M1 11 [some (.ref (g.2.2.2.1 o)), some (.ref (g.2.2.2.1 i)), some (.ref (g.2.2.2.1 a)), some (.int (nI k - 1)), x4] []) (fun k ih hk M1 x4 k1 k2 k3 => ?_) 9 (by omega)
  · exact lp _ _ (keep.rf.as (Or.inr rfl)) aset_9 (fun n h1 h2 => by omega)
  · refine V.iload_n dX5_tell_11 rfl ?_
    refine V.if_ltD (tgt := 67) dX5_tell_12 (by decide) (by omega) (fun h1 => ?_) (fun j h1 => ?_)
    · subst h1
      refine V.vret dX5_tell_67 ?_
      exact ⟨rfl, k1, fun n hn => k3 n (Nat.zero_le _) hn⟩
    · subst h1
      rw [nI_pred]
      refine V.aload_n dX5_tell_15 rfl ?_
      refine V.getf (ci := 4) (k := 7) (C := RX5) (T := TX5) (N := 8) dX5_tell_16 lfX5_32 inX5 rfl (by first | assumption | exact hI _ (by omega) | exact hJ _ (by omega)) (cont_row ho _) (by decide) rfl ?_
      refine V.iload_n dX5_tell_19 rfl ?_
      refine V.iald (n := 9) dX5_tell_20 (by first | assumption | exact hI _ (by omega) | exact hJ _ (by omega)) (by first | assumption | decide | exact ial_row ho (by omega) (by omega) (by omega)) (by omega) ?_
      refine V.aload_n dX5_tell_21 rfl ?_
      refine V.getf (ci := 4) (k := 4) (C := RX5) (T := TX5) (N := 8) dX5_tell_22 lfX5_26 inX5 rfl (by first | assumption | exact hI _ (by omega) | exact hJ _ (by omega)) (cont_row ho _) (by decide) rfl ?_
      refine V.iload_n dX5_tell_25 rfl ?_
      refine V.aald (n := 9) (t := 2) dX5_tell_26 (by first | assumption | exact hI _ (by omega) | exact hJ _ (by omega)) (cont_pols ho _) rfl rfl (by decide) (by omega) ?_
      refine V.iload_n dX5_tell_27 rfl ?_
      refine V.iald (n := 9) dX5_tell_28 (by first | assumption | exact hI _ (by omega) | exact hJ _ (by omega)) (by first | assumption | decide | exact ial_row ho (by omega) (by omega) (by omega)) (by omega) ?_
      refine V.callS dX5_tell_29 (c_X2_inverse) lkX5_66 st_X2_inverse cd_X2_inverse ini_X2 hd_X2_inverse ⟨Nat.le_of_ble_eq_true rfl, Nat.le_of_ble_eq_true rfl⟩ rfl (Nat.le_of_ble_eq_true rfl) (V.kkF ?_)
      refine V.callS dX5_tell_32 (c_X2_multiply) lkX5_72 st_X2_multiply cd_X2_multiply ini_X2 hd_X2_multiply ⟨Nat.le_of_ble_eq_true rfl, Nat.le_of_ble_eq_true rfl⟩ rfl (Nat.le_of_ble_eq_true rfl) (V.kkF ?_)
      refine V.istore dX5_tell_35 (by decide) ?_
      refine V.aload_n dX5_tell_37 rfl ?_
      refine V.getf (ci := 4) (k := 7) (C := RX5) (T := TX5) (N := 8) dX5_tell_38 lfX5_32 inX5 rfl (by first | assumption | exact hI _ (by omega) | exact hJ _ (by omega)) (cont_row ho _) (by decide) rfl ?_
      refine V.aload_n dX5_tell_41 rfl ?_
      refine V.getf (ci := 4) (k := 4) (C := RX5) (T := TX5) (N := 8) dX5_tell_42 lfX5_26 inX5 rfl (by first | assumption | exact hI _ (by omega) | exact hJ _ (by omega)) (cont_row ho _) (by decide) rfl ?_
      refine V.iload_n dX5_tell_45 rfl ?_
      refine V.aald (n := 9) (t := 2) dX5_tell_46 (by first | assumption | exact hI _ (by omega) | exact hJ _ (by omega)) (cont_pols ho _) rfl rfl (by decide) (by omega) ?_
      refine V.iconst (v := nI 0) dX5_tell_47 rfl ?_
      refine V.iload dX5_tell_48 rfl ?_
      refine V.callS dX5_tell_50 (c_X2_subtract) lkX5_76 st_X2_subtract cd_X2_subtract ini_X2 hd_X2_subtract ⟨Nat.le_of_ble_eq_true rfl, Nat.le_of_ble_eq_true rfl⟩ rfl (Nat.le_of_ble_eq_true rfl) (V.kkF ?_)
      refine V.callSN dX5_tell_53 (c_X7_addMultiple (hJ (o + 16) (by omega)) (ial_row ho (by omega) (by omega) (by omega)) (hJ _ (by omega)) (ial_row ho (by omega) (by omega) (by omega)) (by omega)) nlX5_79 st_X7_addMultiple cd_X7_addMultiple ini_X7 hd_X7_addMultiple ⟨Nat.le_of_ble_eq_true rfl, Nat.le_of_ble_eq_true rfl⟩ rfl (Nat.le_of_ble_eq_true rfl) (V.kkN ?_)
      refine V.aload_n dX5_tell_56 rfl ?_
      refine V.iload_n dX5_tell_57 rfl ?_
      refine V.iload dX5_tell_58 rfl ?_
      refine V.iast (n := 9) dX5_tell_60 (by first | assumption | exact hI _ (by omega) | exact hJ _ (by omega)) (by first | assumption | decide | exact ial_row ho (by omega) (by omega) (by omega)) (by omega) ?_
      refine V.iincD dX5_tell_61 (by decide) rfl ?_
      refine V.goto (tgt := 11) dX5_tell_64 (by decide) ?_
      have ep : M1 (o + 5 + 1 + j) = M (o + 6 + j) := by rw [k1 _ (by omega), show o + 5 + 1 + j = o + 6 + j by omega]
      have es : fmul (M1 (o + 16) j) (finv (M1 (o + 5 + 1 + j) j)) = ftell (fun n => M (o + 6 + n)) (M a) j := by
        rw [ep, k2 j (by omega), show 9 - (j + 1) = 8 - j by omega]; rfl
      rw [es]
      refine ih j rfl (by omega) _ _ ((k1.as (Or.inr rfl)).ms (Or.inl rfl)) ?_ ?_
      · rw [mset_ne (by omega)]
        refine aset_9.tr ?_
        rw [ep, show 9 - j = (8 - j) + 1 by omega]
        simp only [trest]
        rw [show 8 - (8 - j) = j by omega]
        rw [show 9 - (j + 1) = 8 - j by omega] at k2
        exact fax_cg k2 eq9.rf
      · intro n h1 h2
        by_cases e : n = j
        · subst e; rw [mset_at]
        · rw [mset_nat e, aset_ne (by omega)]; exact k3 n (by omega) h2
abbrev v_X5_gather (g : Gl) (κ : Ka) (Q : State → Prop) (M : Mem) (pc : Nat) (L : List (Option Value)) (st : List Value) : Prop := V g cX5_gather 4 yX5_gather.cls none (rmd 2) Q κ M pc L st
theorem c_X5_gather {g : Gl} {M : Mem} {o i a : Nat} (ho : isRw o) (hJ : ∀ i, o ≤ i ∧ i < o + 17 → i ∈ g.2.2.2.2) (hi : i ∈ g.2.2.2.2) (li : ial i = 9) (ha : a ∈ g.2.2.2.2) (la : ial a = 9) (hi1 : ¬ (o ≤ i ∧ i < o + 17)) (hne : a ≠ i) : Ct g yX5_gather cX5_gather 4 none 2 [.ref (g.2.2.2.1 o), .ref (g.2.2.2.1 i), .ref (g.2.2.2.1 a)] M (fun v M' => v = none ∧ M' = aset M i 0 9 (gsum (fun n => M (o + 6 + n)) (M a) 9)) := by
  refine Ct.ofV (by decide) (Nat.le_of_ble_eq_true rfl) (by simp [Value.category]) (fun κ => ?_)
  refine V.aload_n dX5_gather_0 rfl ?_
  refine V.iconst (v := nI 0) dX5_gather_1 rfl ?_
  refine V.iconst (v := nI 0) dX5_gather_2 rfl ?_
  refine V.callSN dX5_gather_3 (c_X7_setMonomial (k := 0) hi li (by decide)) nlX5_39 st_X7_setMonomial cd_X7_setMonomial ini_X7 hd_X7_setMonomial ⟨Nat.le_of_ble_eq_true rfl, Nat.le_of_ble_eq_true rfl⟩ rfl (Nat.le_of_ble_eq_true rfl) (V.kkN ?_)
  refine V.iconst (v := nI 0) dX5_gather_6 rfl ?_
  refine V.istore_n dX5_gather_7 (by decide) ?_
  have lp := up_loop 9 (fun n => v_X5_gather g κ (Qm g κ (fun v M' => v = none ∧ M' = aset M i 0 9 (gsum (fun n => M (o + 6 + n)) (M a) 9))) (aset M i 0 9 (gsum (fun n => M (o + 6 + n)) (M a) n)) 8 [some (.ref (g.2.2.2.1 o)), some (.ref (g.2.2.2.1 i)), some (.ref (g.2.2.2.1 a)), some (.int (nI n))] []) (fun n hn ih => ?_) 0 (by omega)
  · exact lp
  · refine V.iload_n dX5_gather_8 rfl ?_
    refine V.bipush (v := nI 9) dX5_gather_9 (by decide) ?_
    refine V.geN (tgt := 33) dX5_gather_11 (by decide) (by omega) (by omega) (fun h1 => ?_) (fun h1 => ?_)
    · have e : n = 9 := by omega
      subst e
      refine V.vret dX5_gather_33 ?_
      exact ⟨rfl, rfl⟩
    · refine V.aload_n dX5_gather_14 rfl ?_
      refine V.aload_n dX5_gather_15 rfl ?_
      refine V.getf (ci := 4) (k := 4) (C := RX5) (T := TX5) (N := 8) dX5_gather_16 lfX5_26 inX5 rfl (by first | assumption | exact hI _ (by omega) | exact hJ _ (by omega)) (cont_row ho _) (by decide) rfl ?_
      refine V.iload_n dX5_gather_19 rfl ?_
      refine V.aald (n := 9) (t := 2) dX5_gather_20 (by first | assumption | exact hI _ (by omega) | exact hJ _ (by omega)) (cont_pols ho _) rfl rfl (by decide) (by omega) ?_
      refine V.aload_n dX5_gather_21 rfl ?_
      refine V.iload_n dX5_gather_22 rfl ?_
      refine V.iald (n := 9) dX5_gather_23 (by first | assumption | exact hI _ (by omega) | exact hJ _ (by omega)) (by first | assumption | decide | exact ial_row ho (by omega) (by omega) (by omega)) (by omega) ?_
      refine V.callSN dX5_gather_24 (c_X7_addMultiple hi li (hJ _ (by omega)) (ial_row ho (by omega) (by omega) (by omega)) (by omega)) nlX5_79 st_X7_addMultiple cd_X7_addMultiple ini_X7 hd_X7_addMultiple ⟨Nat.le_of_ble_eq_true rfl, Nat.le_of_ble_eq_true rfl⟩ rfl (Nat.le_of_ble_eq_true rfl) (V.kkN ?_)
      refine V.iincN dX5_gather_27 (by decide) rfl ?_
      refine V.goto (tgt := 8) dX5_gather_30 (by decide) ?_
      have e := ih (by omega)
      simp only [gsum] at e
      rw [aset_aset, aset_ne hne, aset_ne (a := o + 5 + 1 + n) (by omega), aset_cg9 (fax_cg aset_9 eq9.rf), show o + 5 + 1 + n = o + 6 + n by omega]
      exact e
abbrev v_X5_secondPower (g : Gl) (κ : Ka) (Q : State → Prop) (M : Mem) (pc : Nat) (L : List (Option Value)) (st : List Value) : Prop := V g cX5_secondPower 2 yX5_secondPower.cls (some .int) (rmd 0) Q κ M pc L st
theorem c_X5_secondPower {g : Gl} {M : Mem} {o : Nat} (ho : isRw o) (hJ : ∀ i, o ≤ i ∧ i < o + 17 → i ∈ g.2.2.2.2) : Ct g yX5_secondPower cX5_secondPower 2 (some .int) 0 [.ref (g.2.2.2.1 o)] M (fun v M' => v = some (.int (fsec (M (o + 2)) 7)) ∧ M' = M) := by
  refine Ct.ofV (by decide) (Nat.le_of_ble_eq_true rfl) (by simp [Value.category]) (fun κ => ?_)
  refine V.iconst (v := nI 2) dX5_secondPower_0 rfl ?_
  refine V.istore_n dX5_secondPower_1 (by decide) ?_
  have lp := up_loop 9 (fun n => 2 ≤ n → fsec (M (o + 2)) (9 - n) = fsec (M (o + 2)) 7 → v_X5_secondPower g κ (Qm g κ (fun v M' => v = some (.int (fsec (M (o + 2)) 7)) ∧ M' = M)) M 2 [some (.ref (g.2.2.2.1 o)), some (.int (nI n))] []) (fun n hn ih h2 he => ?_) 2 (by omega) (by omega) rfl
  · exact lp
  · refine V.iload_n dX5_secondPower_2 rfl ?_
    refine V.bipush (v := nI 9) dX5_secondPower_3 (by decide) ?_
    refine V.geN (tgt := 25) dX5_secondPower_5 (by decide) (by omega) (by omega) (fun h1 => ?_) (fun h1 => ?_)
    · have e : n = 9 := by omega
      subst e
      refine V.iconst (v := -1) dX5_secondPower_25 rfl ?_
      refine V.iret dX5_secondPower_26 ?_
      exact ⟨by rw [← he]; rfl, rfl⟩
    · rw [show 9 - n = (8 - n) + 1 by omega] at he
      have u : fsec (M (o + 2)) (8 - n + 1) = if M (o + 2) (8 - (8 - n)) = 0 then fsec (M (o + 2)) (8 - n) else nI (8 - (8 - n)) := rfl
      rw [u, show 8 - (8 - n) = n by omega] at he
      refine V.aload_n dX5_secondPower_8 rfl ?_
      refine V.getf (ci := 4) (k := 1) (C := RX5) (T := TX5) (N := 8) dX5_secondPower_9 lfX5_15 inX5 rfl (by first | assumption | exact hI _ (by omega) | exact hJ _ (by omega)) (cont_row ho _) (by decide) rfl ?_
      refine V.iload_n dX5_secondPower_12 rfl ?_
      refine V.iald (n := 9) dX5_secondPower_13 (by first | assumption | exact hI _ (by omega) | exact hJ _ (by omega)) (by first | assumption | decide | exact ial_row ho (by omega) (by omega) (by omega)) (by omega) ?_
      refine V.if_eq (tgt := 19) dX5_secondPower_14 (by decide) (fun h3 => ?_) (fun h3 => ?_)
      · rw [if_pos h3] at he
        refine V.iincN dX5_secondPower_19 (by decide) rfl ?_
        refine V.goto (tgt := 2) dX5_secondPower_22 (by decide) ?_
        exact ih (by omega) (by omega) (by rw [show 9 - (n + 1) = 8 - n by omega]; exact he)
      · rw [if_neg h3] at he
        refine V.iload_n dX5_secondPower_17 rfl ?_
        refine V.iret dX5_secondPower_18 ?_
        exact ⟨by rw [he], rfl⟩

