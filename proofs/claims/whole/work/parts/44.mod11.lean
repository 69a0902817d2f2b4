abbrev v_X8_endsProduct (g : Gl) (κ : Ka) (Q : State → Prop) (M : Mem) (pc : Nat) (L : List (Option Value)) (st : List Value) : Prop := V g cX8_endsProduct 5 yX8_endsProduct.cls none (rmd 4) Q κ M pc L st
theorem c_X8_endsProduct {g : Gl} {M : Mem} {l : Ser} {n p o : Nat} {w : Bool} {ah : Int32} {th : Ser} {fr : Nat → Fr} (hI : ∀ i, 142 ≤ i ∧ i < 174 → i ∈ g.2.2.2.2) (h : MI l n p o w ah M) (hF : MF th fr M) : Ct g yX8_endsProduct cX8_endsProduct 5 none 4 [.ref (g.2.2.2.1 142)] M (fun v M' => v = none ∧ MI l n p o (mEQ o w th fr).1 ah M' ∧ MF th (mEQ o w th fr).2 M' ∧ KM M M') := by
  refine Ct.ofV (by decide) (Nat.le_of_ble_eq_true rfl) (by simp [Value.category]) (fun κ => ?_)
  refine V.aload_n dX8_endsProduct_0 rfl ?_
  refine V.callV (ci := 7) (T := TX8) (N := 37) dX8_endsProduct_1 (c_X8_endsPower hI h hF) lkX8_161 im_X8_endsPower se_X8_endsPower cd_X8_endsPower ini_X8 rfl (by first | assumption | exact hI _ (by omega)) rfl hd_X8_endsPower ⟨Nat.le_of_ble_eq_true rfl, Nat.le_of_ble_eq_true rfl⟩ rfl (Nat.le_of_ble_eq_true rfl) (V.kkP (fun M1 q1 => ?_))
  obtain ⟨h1, hF1, k1⟩ := q1
  obtain ⟨a1, a2, a3, a4, a5, a6, a7, a8, a9⟩ := id h1
  obtain ⟨c1, c2, c3, c4, c5⟩ := hF1.2 o (by omega)
  refine V.bipush (v := nI 9) dX8_endsProduct_4 (by decide) ?_
  refine V.aload_n dX8_endsProduct_6 rfl ?_
  refine V.getf (ci := 7) (k := 16) (C := RX8) (T := TX8) (N := 37) dX8_endsProduct_7 lfX8_151 inX8 rfl (by first | assumption | exact hI _ (by omega)) rfl (by decide) rfl ?_
  rw [a7]
  first | refine V.imulN dX8_endsProduct_10 ?_ | refine V.imul dX8_endsProduct_10 ?_
  refine V.istore_n dX8_endsProduct_11 (by decide) ?_
  refine V.aload_n dX8_endsProduct_12 rfl ?_
  refine V.getf (ci := 7) (k := 22) (C := RX8) (T := TX8) (N := 37) dX8_endsProduct_13 lfX8_62 inX8 rfl (by first | assumption | exact hI _ (by omega)) rfl (by decide) rfl ?_
  refine V.aload_n dX8_endsProduct_16 rfl ?_
  refine V.getf (ci := 7) (k := 16) (C := RX8) (T := TX8) (N := 37) dX8_endsProduct_17 lfX8_151 inX8 rfl (by first | assumption | exact hI _ (by omega)) rfl (by decide) rfl ?_
  rw [a7]
  refine V.iald (n := 7) dX8_endsProduct_20 (by first | assumption | exact hI _ (by omega)) (by first | assumption | decide) (by omega) ?_
  rw [c3]
  refine V.istore_n dX8_endsProduct_21 (by decide) ?_
  refine V.iconst (v := nI 0) dX8_endsProduct_22 rfl ?_
  refine V.istore_n dX8_endsProduct_23 (by decide) ?_
  have lp := up_loop 9 (fun j => ∀ x4, v_X8_endsProduct g κ (Qm g κ (fun v M' => v = none ∧ MI l n p o (mEQ o w th fr).1 ah M' ∧ MF th (mEQ o w th fr).2 M' ∧ KM M M')) (aset M1 157 (9 * o) (9 * o + j) (fun u => sadd ((mEP o w th fr).2 o).2.2.1 (M1 157) (M1 158) u)) 24 [some (.ref (g.2.2.2.1 142)), some (.int (nI (9 * o))), some (.int ((mEP o w th fr).2 o).2.2.1), some (.int (nI j)), x4] []) (fun j hj ih x4 => ?_) 0 (by omega) none
  · rw [aset_nil (by omega)] at lp
    exact lp
  · refine V.iload_n dX8_endsProduct_24 rfl ?_
    refine V.bipush (v := nI 9) dX8_endsProduct_25 (by decide) ?_
    refine V.geN (tgt := 98) dX8_endsProduct_27 (by decide) (by omega) (by omega) (fun h2 => ?_) (fun h2 => ?_)
    · have e : j = 9 := by omega
      subst e
      refine V.vret dX8_endsProduct_98 ?_
      have k2 : keep msp M1 (aset M1 157 (9 * o) (9 * o + 9) (fun u => sadd ((mEP o w th fr).2 o).2.2.1 (M1 157) (M1 158) u)) := (keep.rf (P := msp)).as (by unfold msp; omega)
      exact ⟨rfl, h1.kp k2, hF1.su a3 (fun z hz => by
        unfold sadd
        rw [show M1 157 (9 * o + z) = ((mEP o w th fr).2 o).1 z from c1 z hz, show M1 158 (9 * o + z) = ((mEP o w th fr).2 o).2.1 z from c2 z hz]), k1.tr (KM.of k2)⟩
    · have fin : ∀ x, x = sadd ((mEP o w th fr).2 o).2.2.1 (M1 157) (M1 158) (9 * o + j) → v_X8_endsProduct g κ (Qm g κ (fun v M' => v = none ∧ MI l n p o (mEQ o w th fr).1 ah M' ∧ MF th (mEQ o w th fr).2 M' ∧ KM M M')) (aset M1 157 (9 * o) (9 * o + j) (fun u => sadd ((mEP o w th fr).2 o).2.2.1 (M1 157) (M1 158) u)) 91 [some (.ref (g.2.2.2.1 142)), some (.int (nI (9 * o))), some (.int ((mEP o w th fr).2 o).2.2.1), some (.int (nI j)), some (.int (M1 158 (9 * o + j)))] [.int x, .int (nI (9 * o + j)), .ref (g.2.2.2.1 157)] := by
        intro x hx
        refine V.iast (n := 63) dX8_endsProduct_91 (by first | assumption | exact hI _ (by omega)) (by first | assumption | decide) (by omega) ?_
        refine V.iincN dX8_endsProduct_92 (by decide) rfl ?_
        refine V.goto (tgt := 24) dX8_endsProduct_95 (by decide) ?_
        rw [aset_up (f := fun u => sadd ((mEP o w th fr).2 o).2.2.1 (M1 157) (M1 158) u) (hi := 9 * o + j) (by omega) hx]
        exact ih h2 _
      refine V.aload_n dX8_endsProduct_30 rfl ?_
      refine V.getf (ci := 7) (k := 20) (C := RX8) (T := TX8) (N := 37) dX8_endsProduct_31 lfX8_56 inX8 rfl (by first | assumption | exact hI _ (by omega)) rfl (by decide) rfl ?_
      refine V.iload_n dX8_endsProduct_34 rfl ?_
      refine V.iload_n dX8_endsProduct_35 rfl ?_
      first | refine V.iaddN dX8_endsProduct_36 ?_ | refine V.iadd dX8_endsProduct_36 ?_
      refine V.iald (n := 63) dX8_endsProduct_37 (by first | assumption | exact hI _ (by omega)) (by first | assumption | decide) (by omega) ?_
      rw [aset_ne (a := 158) (by decide)]
      refine V.istore dX8_endsProduct_38 (by decide) ?_
      refine V.aload_n dX8_endsProduct_40 rfl ?_
      refine V.getf (ci := 7) (k := 19) (C := RX8) (T := TX8) (N := 37) dX8_endsProduct_41 lfX8_53 inX8 rfl (by first | assumption | exact hI _ (by omega)) rfl (by decide) rfl ?_
      refine V.iload_n dX8_endsProduct_44 rfl ?_
      refine V.iload_n dX8_endsProduct_45 rfl ?_
      first | refine V.iaddN dX8_endsProduct_46 ?_ | refine V.iadd dX8_endsProduct_46 ?_
      refine V.iload_n dX8_endsProduct_47 rfl ?_
      refine V.if_ne (tgt := 56) dX8_endsProduct_48 (by decide) (fun h3 => ?_) (fun h3 => ?_)
      · have h3n : ¬ ((mEP o w th fr).2 o).2.2.1 = nI 0 := h3
        refine V.iload_n dX8_endsProduct_56 rfl ?_
        refine V.bipush (v := nI 43) dX8_endsProduct_57 (by decide) ?_
        refine V.icmp_ne (tgt := 78) dX8_endsProduct_59 (by decide) (fun h4 => ?_) (fun h4 => ?_)
        · have h4n : ¬ ((mEP o w th fr).2 o).2.2.1 = nI 43 := h4
          refine V.aload_n dX8_endsProduct_78 rfl ?_
          refine V.getf (ci := 7) (k := 19) (C := RX8) (T := TX8) (N := 37) dX8_endsProduct_79 lfX8_53 inX8 rfl (by first | assumption | exact hI _ (by omega)) rfl (by decide) rfl ?_
          refine V.iload_n dX8_endsProduct_82 rfl ?_
          refine V.iload_n dX8_endsProduct_83 rfl ?_
          first | refine V.iaddN dX8_endsProduct_84 ?_ | refine V.iadd dX8_endsProduct_84 ?_
          refine V.iald (n := 63) dX8_endsProduct_85 (by first | assumption | exact hI _ (by omega)) (by first | assumption | decide) (by omega) ?_
          refine V.iload dX8_endsProduct_86 rfl ?_
          refine V.callS dX8_endsProduct_88 (c_X8_less) lkX8_130 st_X8_less cd_X8_less ini_X8 hd_X8_less ⟨Nat.le_of_ble_eq_true rfl, Nat.le_of_ble_eq_true rfl⟩ rfl (Nat.le_of_ble_eq_true rfl) (V.kkF ?_)
          rw [aset_hi (Nat.le_refl _)]
          exact fin _ (by unfold sadd; rw [if_neg h3n, if_neg h4n])
        · have h4n : ((mEP o w th fr).2 o).2.2.1 = nI 43 := by simpa using h4
          refine V.aload_n dX8_endsProduct_62 rfl ?_
          refine V.getf (ci := 7) (k := 19) (C := RX8) (T := TX8) (N := 37) dX8_endsProduct_63 lfX8_53 inX8 rfl (by first | assumption | exact hI _ (by omega)) rfl (by decide) rfl ?_
          refine V.iload_n dX8_endsProduct_66 rfl ?_
          refine V.iload_n dX8_endsProduct_67 rfl ?_
          first | refine V.iaddN dX8_endsProduct_68 ?_ | refine V.iadd dX8_endsProduct_68 ?_
          refine V.iald (n := 63) dX8_endsProduct_69 (by first | assumption | exact hI _ (by omega)) (by first | assumption | decide) (by omega) ?_
          refine V.iload dX8_endsProduct_70 rfl ?_
          refine V.callS dX8_endsProduct_72 (c_X8_together) lkX8_119 st_X8_together cd_X8_together ini_X8 hd_X8_together ⟨Nat.le_of_ble_eq_true rfl, Nat.le_of_ble_eq_true rfl⟩ rfl (Nat.le_of_ble_eq_true rfl) (V.kkF ?_)
          refine V.goto (tgt := 91) dX8_endsProduct_75 (by decide) ?_
          rw [aset_hi (Nat.le_refl _)]
          exact fin _ (by unfold sadd; rw [if_neg h3n, if_pos h4n])
      · have h3n : ((mEP o w th fr).2 o).2.2.1 = nI 0 := show ((mEP o w th fr).2 o).2.2.1 = 0 by simpa using h3
        refine V.iload dX8_endsProduct_51 rfl ?_
        refine V.goto (tgt := 91) dX8_endsProduct_53 (by decide) ?_
        exact fin _ (by unfold sadd; rw [if_pos h3n])
abbrev v_X8_closes (g : Gl) (κ : Ka) (Q : State → Prop) (M : Mem) (pc : Nat) (L : List (Option Value)) (st : List Value) : Prop := V g cX8_closes 2 yX8_closes.cls none (rmd 5) Q κ M pc L st
theorem c_X8_closes {g : Gl} {M : Mem} {l : Ser} {n p o : Nat} {w : Bool} {ah : Int32} {th : Ser} {fr : Nat → Fr} (hI : ∀ i, 142 ≤ i ∧ i < 174 → i ∈ g.2.2.2.2) (h : MI l n p o w ah M) (hF : MF th fr M) (ho : o ≠ 0) : Ct g yX8_closes cX8_closes 2 none 5 [.ref (g.2.2.2.1 142)] M (fun v M' => v = none ∧ MI l n p (o - 1) (mCl o w th fr).1 ah M' ∧ MF (mCl o w th fr).2.1 (mCl o w th fr).2.2 M' ∧ KM M M') := by
  refine Ct.ofV (by decide) (Nat.le_of_ble_eq_true rfl) (by simp [Value.category]) (fun κ => ?_)
  refine V.aload_n dX8_closes_0 rfl ?_
  refine V.callV (ci := 7) (T := TX8) (N := 37) dX8_closes_1 (c_X8_endsProduct hI h hF) lkX8_164 im_X8_endsProduct se_X8_endsProduct cd_X8_endsProduct ini_X8 rfl (by first | assumption | exact hI _ (by omega)) rfl hd_X8_endsProduct ⟨Nat.le_of_ble_eq_true rfl, Nat.le_of_ble_eq_true rfl⟩ rfl (Nat.le_of_ble_eq_true rfl) (V.kkP (fun M1 q1 => ?_))
  obtain ⟨h1, hF1, k1⟩ := q1
  obtain ⟨a1, a2, a3, a4, a5, a6, a7, a8, a9⟩ := id h1
  obtain ⟨c1, c2, c3, c4, c5⟩ := hF1.2 o (by omega)
  refine V.aload_n dX8_closes_4 rfl ?_
  refine V.getf (ci := 7) (k := 19) (C := RX8) (T := TX8) (N := 37) dX8_closes_5 lfX8_53 inX8 rfl (by first | assumption | exact hI _ (by omega)) rfl (by decide) rfl ?_
  refine V.bipush (v := nI 9) dX8_closes_8 (by decide) ?_
  refine V.aload_n dX8_closes_10 rfl ?_
  refine V.getf (ci := 7) (k := 16) (C := RX8) (T := TX8) (N := 37) dX8_closes_11 lfX8_151 inX8 rfl (by first | assumption | exact hI _ (by omega)) rfl (by decide) rfl ?_
  rw [a7]
  first | refine V.imulN dX8_closes_14 ?_ | refine V.imul dX8_closes_14 ?_
  refine V.aload_n dX8_closes_15 rfl ?_
  refine V.getf (ci := 7) (k := 18) (C := RX8) (T := TX8) (N := 37) dX8_closes_16 lfX8_50 inX8 rfl (by first | assumption | exact hI _ (by omega)) rfl (by decide) rfl ?_
  refine V.iconst (v := nI 0) dX8_closes_19 rfl ?_
  refine V.bipush (v := nI 9) dX8_closes_20 (by decide) ?_
  refine V.callS dX8_closes_22 (c_X8_bring (a := 157) (i := 9 * o) (b := 156) (j := 0) (n := 9) (na := 63) (nb := 9) (hI _ (by decide)) (hI _ (by decide)) rfl rfl (by omega) (by decide) (Or.inl (by decide))) lkX8_112 st_X8_bring cd_X8_bring ini_X8 hd_X8_bring ⟨Nat.le_of_ble_eq_true rfl, Nat.le_of_ble_eq_true rfl⟩ rfl (Nat.le_of_ble_eq_true rfl) (V.kkN ?_)
  have kb : keep msp M1 (brg M1 157 (9 * o) 156 0 9) := (keep.rf (P := msp)).br (by unfold msp; omega)
  have h2 := h1.kp kb
  have e2 : eq9 (brg M1 157 (9 * o) 156 0 9 156) ((mEQ o w th fr).2 o).1 := brg_0.tr c1
  have hF2 : MF ((mEQ o w th fr).2 o).1 (mEQ o w th fr).2 (brg M1 157 (9 * o) 156 0 9) := hF1.th' (fun j q1 _ _ => brg_ne (by omega)) e2
  have k2 : KM M (brg M1 157 (9 * o) 156 0 9) := k1.tr (KM.of kb)
  generalize brg M1 157 (9 * o) 156 0 9 = M2 at h2 e2 hF2 k2
  obtain ⟨-, -, -, -, -, -, b7, -, -⟩ := id h2
  obtain ⟨-, -, -, -, d5⟩ := hF2.2 o (by omega)
  refine V.aload_n dX8_closes_25 rfl ?_
  refine V.getf (ci := 7) (k := 24) (C := RX8) (T := TX8) (N := 37) dX8_closes_26 lfX8_68 inX8 rfl (by first | assumption | exact hI _ (by omega)) rfl (by decide) rfl ?_
  refine V.aload_n dX8_closes_29 rfl ?_
  refine V.getf (ci := 7) (k := 16) (C := RX8) (T := TX8) (N := 37) dX8_closes_30 lfX8_151 inX8 rfl (by first | assumption | exact hI _ (by omega)) rfl (by decide) rfl ?_
  rw [b7]
  refine V.iald (n := 7) dX8_closes_33 (by first | assumption | exact hI _ (by omega)) (by first | assumption | decide) (by omega) ?_
  rw [d5]
  refine V.istore_n dX8_closes_34 (by decide) ?_
  refine V.aload_n dX8_closes_35 rfl ?_
  refine V.dup dX8_closes_36 rfl ?_
  refine V.getf (ci := 7) (k := 16) (C := RX8) (T := TX8) (N := 37) dX8_closes_37 lfX8_151 inX8 rfl (by first | assumption | exact hI _ (by omega)) rfl (by decide) rfl ?_
  rw [b7]
  refine V.iconst (v := nI 1) dX8_closes_40 rfl ?_
  first | refine V.isubN dX8_closes_41 (by omega) ?_ | refine V.isub dX8_closes_41 ?_
  refine V.putf (ci := 7) (k := 16) (C := RX8) (T := TX8) (N := 37) (ty := .int) tyX8 dX8_closes_42 lfX8_151 inX8 tyX8_ok nmX8 rfl (by first | assumption | exact hI _ (by omega)) rfl (by decide) rfl rfl rfl rfl (Nat.le_of_ble_eq_true rfl) rfl ?_
  have h3 := h2.o' (show o - 1 ≤ 6 by omega)
  have hF3 := hF2.m142 (k := 16) (x := nI (o - 1))
  have k3 := k2.tr (KM.ms (M := M2) (k := 16) (x := nI (o - 1)) (by omega))
  have fin : ∀ M4, MI l n p (o - 1) (mLt ((mEQ o w th fr).2 o).2.2.2.2 (mEQ o w th fr).1 ((mEQ o w th fr).2 o).1).1 ah M4 → MF (mLt ((mEQ o w th fr).2 o).2.2.2.2 (mEQ o w th fr).1 ((mEQ o w th fr).2 o).1).2 (mEQ o w th fr).2 M4 → KM M M4 → v_X8_closes g κ (Qm g κ (fun v M' => v = none ∧ MI l n p (o - 1) (mCl o w th fr).1 ah M' ∧ MF (mCl o w th fr).2.1 (mCl o w th fr).2.2 M' ∧ KM M M')) M4 118 [some (.ref (g.2.2.2.1 142)), some (.int ((mEQ o w th fr).2 o).2.2.2.2)] [] := by
    intro M4 q1 q2 q3
    refine V.vret dX8_closes_118 ?_
    exact ⟨rfl, q1, q2, q3⟩
  generalize mset M2 142 16 (nI (o - 1)) = M3 at h3 hF3 k3
  refine V.iload_n dX8_closes_45 rfl ?_
  refine V.bipush (v := nI 105) dX8_closes_46 (by decide) ?_
  refine V.icmp_ne (tgt := 86) dX8_closes_48 (by decide) (fun h4 => ?_) (fun h4 => ?_)
  · have h4n : ¬ ((mEQ o w th fr).2 o).2.2.2.2 = nI 105 := h4
    refine V.iload_n dX8_closes_86 rfl ?_
    refine V.if_eq (tgt := 118) dX8_closes_87 (by decide) (fun h5 => ?_) (fun h5 => ?_)
    · have h5n : ((mEQ o w th fr).2 o).2.2.2.2 = nI 0 := show ((mEQ o w th fr).2 o).2.2.2.2 = 0 by simpa using h5
      refine fin _ ?_ ?_ k3
      · unfold mLt; rw [if_neg h4n, if_pos h5n]; exact h3
      · unfold mLt; rw [if_neg h4n, if_pos h5n]; exact hF3
    · have h5n : ¬ ((mEQ o w th fr).2 o).2.2.2.2 = nI 0 := h5
      refine V.aload_n dX8_closes_90 rfl ?_
      refine V.getf (ci := 7) (k := 18) (C := RX8) (T := TX8) (N := 37) dX8_closes_91 lfX8_50 inX8 rfl (by first | assumption | exact hI _ (by omega)) rfl (by decide) rfl ?_
      refine V.iconst (v := nI 0) dX8_closes_94 rfl ?_
      refine V.callS dX8_closes_95 (c_X8_isFlat (a := 156) (i := 0) (na := 9) (hI _ (by decide)) rfl (by decide)) lkX8_175 st_X8_isFlat cd_X8_isFlat ini_X8 hd_X8_isFlat ⟨Nat.le_of_ble_eq_true rfl, Nat.le_of_ble_eq_true rfl⟩ rfl (Nat.le_of_ble_eq_true rfl) (V.kkF ?_)
      rw [hF3.1 0 (by decide)]
      refine V.if_eqB (tgt := 113) dX8_closes_98 (by decide) (fun h6 => ?_) (fun h6 => ?_)
      · have h6n : ¬ ((mEQ o w th fr).2 o).1 0 = 0 := by simpa using h6
        refine V.aload_n dX8_closes_113 rfl ?_
        refine V.iconst (v := nI 1) dX8_closes_114 rfl ?_
        refine V.putf (ci := 7) (k := 17) (C := RX8) (T := TX8) (N := 37) (ty := .boolean) tyX8 dX8_closes_115 lfX8_154 inX8 tyX8_ok nmX8 rfl (by first | assumption | exact hI _ (by omega)) rfl (by decide) rfl rfl rfl rfl (Nat.le_of_ble_eq_true rfl) rfl ?_
        refine fin _ ?_ ?_ (k3.tr (KM.ms (by omega)))
        · unfold mLt; rw [if_neg h4n, if_neg h5n, if_neg h6n]; exact h3.w' rfl
        · unfold mLt; rw [if_neg h4n, if_neg h5n, if_neg h6n]; exact hF3.m142
      · have h6n : ((mEQ o w th fr).2 o).1 0 = 0 := by simpa using h6
        refine V.aload_n dX8_closes_101 rfl ?_
        refine V.iload_n dX8_closes_102 rfl ?_
        refine V.aload_n dX8_closes_103 rfl ?_
        refine V.getf (ci := 7) (k := 18) (C := RX8) (T := TX8) (N := 37) dX8_closes_104 lfX8_50 inX8 rfl (by first | assumption | exact hI _ (by omega)) rfl (by decide) rfl ?_
        refine V.callV (ci := 7) (T := TX8) (N := 37) dX8_closes_107 (c_X8_makes hI) lkX8_178 im_X8_makes se_X8_makes cd_X8_makes ini_X8 rfl (by first | assumption | exact hI _ (by omega)) rfl hd_X8_makes ⟨Nat.le_of_ble_eq_true rfl, Nat.le_of_ble_eq_true rfl⟩ rfl (Nat.le_of_ble_eq_true rfl) (V.kkP (fun M4 q4 => ?_))
        refine V.goto (tgt := 118) dX8_closes_110 (by decide) ?_
        obtain ⟨k4, e4⟩ := q4
        have k4' : keep msp M3 M4 := k4.wk (fun j hj => by unfold msp; omega)
        refine fin _ ?_ ?_ (k3.tr (KM.of k4'))
        · unfold mLt; rw [if_neg h4n, if_neg h5n, if_pos h6n]; exact h3.kp k4'
        · unfold mLt; rw [if_neg h4n, if_neg h5n, if_pos h6n]; exact hF3.th' (fun j q1 q2 q3 => k4 j (by omega)) (e4.tr (mmake_cg hF3.1))
  · have h4n : ((mEQ o w th fr).2 o).2.2.2.2 = nI 105 := by simpa using h4
    refine V.aload_n dX8_closes_51 rfl ?_
    refine V.getf (ci := 7) (k := 18) (C := RX8) (T := TX8) (N := 37) dX8_closes_52 lfX8_50 inX8 rfl (by first | assumption | exact hI _ (by omega)) rfl (by decide) rfl ?_
    refine V.iconst (v := nI 0) dX8_closes_55 rfl ?_
    refine V.callS dX8_closes_56 (c_X8_isDelta (a := 156) (i := 0) (na := 9) (hI _ (by decide)) rfl (by decide)) lkX8_167 st_X8_isDelta cd_X8_isDelta ini_X8 hd_X8_isDelta ⟨Nat.le_of_ble_eq_true rfl, Nat.le_of_ble_eq_true rfl⟩ rfl (Nat.le_of_ble_eq_true rfl) (V.kkF ?_)
    rw [show isDe (sl (M3 156) 0) = isDe ((mEQ o w th fr).2 o).1 by unfold isDe; rw [sl_0, hF3.1 0 (by decide), hF3.1 1 (by decide)]]
    refine V.if_eqB (tgt := 78) dX8_closes_59 (by decide) (fun h5 => ?_) (fun h5 => ?_)
    · refine V.aload_n dX8_closes_78 rfl ?_
      refine V.iconst (v := nI 1) dX8_closes_79 rfl ?_
      refine V.putf (ci := 7) (k := 17) (C := RX8) (T := TX8) (N := 37) (ty := .boolean) tyX8 dX8_closes_80 lfX8_154 inX8 tyX8_ok nmX8 rfl (by first | assumption | exact hI _ (by omega)) rfl (by decide) rfl rfl rfl rfl (Nat.le_of_ble_eq_true rfl) rfl ?_
      refine V.goto (tgt := 118) dX8_closes_83 (by decide) ?_
      refine fin _ ?_ ?_ (k3.tr (KM.ms (by omega)))
      · unfold mLt; rw [if_pos h4n, if_neg (by rw [h5]; decide)]; exact h3.w' rfl
      · unfold mLt; rw [if_pos h4n, if_neg (by rw [h5]; decide)]; exact hF3.m142
    · refine V.aload_n dX8_closes_62 rfl ?_
      refine V.aload_n dX8_closes_63 rfl ?_
      refine V.getf (ci := 7) (k := 18) (C := RX8) (T := TX8) (N := 37) dX8_closes_64 lfX8_50 inX8 rfl (by first | assumption | exact hI _ (by omega)) rfl (by decide) rfl ?_
      refine V.iconst (v := nI 0) dX8_closes_67 rfl ?_
      refine V.aload_n dX8_closes_68 rfl ?_
      refine V.getf (ci := 7) (k := 18) (C := RX8) (T := TX8) (N := 37) dX8_closes_69 lfX8_50 inX8 rfl (by first | assumption | exact hI _ (by omega)) rfl (by decide) rfl ?_
      refine V.callV (ci := 7) (T := TX8) (N := 37) dX8_closes_72 (c_X8_turns (a := 156) (i := 0) (c := 156) (na := 9) hI (hI _ (by decide)) rfl (by decide) (hI _ (by decide)) rfl (by decide) (by decide)) lkX8_171 im_X8_turns se_X8_turns cd_X8_turns ini_X8 rfl (by first | assumption | exact hI _ (by omega)) rfl hd_X8_turns ⟨Nat.le_of_ble_eq_true rfl, Nat.le_of_ble_eq_true rfl⟩ rfl (Nat.le_of_ble_eq_true rfl) (V.kkP (fun M4 q4 => ?_))
      refine V.goto (tgt := 118) dX8_closes_75 (by decide) ?_
      obtain ⟨k4, e4, -⟩ := q4
      have k4' : keep msp M3 M4 := k4.wk (fun j hj => by unfold msp; omega)
      refine fin _ ?_ ?_ (k3.tr (KM.of k4'))
      · unfold mLt; rw [if_pos h4n, if_pos h5]; exact h3.kp k4'
      · unfold mLt; rw [if_pos h4n, if_pos h5]; exact hF3.th' (fun j q1 q2 q3 => k4 j (by omega)) (e4.tr (mturn_cg (by rw [sl_0]; exact hF3.1)))
theorem c_X8_readsBracket {g : Gl} {M : Mem} {l : Ser} {n : Nat} {ρ : Rho} (hI : ∀ i, 142 ≤ i ∧ i < 174 → i ∈ g.2.2.2.2) (h : MS l n ρ M) (hs : sk l n ρ.1 = ρ.1) : Ct g yX8_readsBracket cX8_readsBracket 2 (some .int) 1 [.ref (g.2.2.2.1 142), .int (fs l n ρ.1)] M (fun v M' => v = some (.int (mBr l n (fs l n ρ.1) ρ).1) ∧ MS l n (mBr l n (fs l n ρ.1) ρ).2 M' ∧ KM M M') := by
  obtain ⟨p, o, w, th, fr, ah⟩ := ρ
  obtain ⟨h1, hF⟩ := id h
  dsimp only at h1 hF hs ⊢
  obtain ⟨a1, a2, a3, a4, a5, a6, a7, a8, a9⟩ := id h1
  have bad : ¬ (fs l n p = nI 40 ∧ o ≠ 6) → mBr l n (fs l n p) (p, o, w, th, fr, ah) = (-1, (p, o, w, th, fr, ah)) := fun hb => by
    show (if _ then _ else _) = _
    rw [if_neg hb]
  refine Ct.ofV (by decide) (Nat.le_of_ble_eq_true rfl) (by simp [Value.category]) (fun κ => ?_)
  refine V.iload_n dX8_readsBracket_0 rfl ?_
  refine V.bipush (v := nI 40) dX8_readsBracket_1 (by decide) ?_
  refine V.icmp_ne (tgt := 15) dX8_readsBracket_3 (by decide) (fun h2 => ?_) (fun h2 => ?_)
  · refine V.iconst (v := -1) dX8_readsBracket_15 rfl ?_
    refine V.iret dX8_readsBracket_16 ?_
    rw [bad (fun z => h2 z.1)]
    exact ⟨rfl, h, KM.rf⟩
  · have h2n : fs l n p = nI 40 := by simpa using h2
    refine V.aload_n dX8_readsBracket_6 rfl ?_
    refine V.getf (ci := 7) (k := 16) (C := RX8) (T := TX8) (N := 37) dX8_readsBracket_7 lfX8_151 inX8 rfl (by first | assumption | exact hI _ (by omega)) rfl (by decide) rfl ?_
    refine V.bipush (v := nI 6) dX8_readsBracket_10 (by decide) ?_
    rw [a7]
    refine V.neN (tgt := 17) dX8_readsBracket_12 (by decide) (by omega) (by omega) (fun h3 => ?_) (fun h3 => ?_)
    · obtain ⟨hp, he⟩ := en_c hs h2n (by decide) (by decide)
      have ok : mBr l n (fs l n p) (p, o, w, th, fr, ah) = (nI 0, (en l n p, o + 1, w, th, mBg fr (o + 1) ah, ah)) := by
        show (if _ then _ else _) = _
        rw [if_pos ⟨h2n, h3⟩]
      refine V.aload_n dX8_readsBracket_17 rfl ?_
      refine V.dup dX8_readsBracket_18 rfl ?_
      refine V.getf (ci := 7) (k := 16) (C := RX8) (T := TX8) (N := 37) dX8_readsBracket_19 lfX8_151 inX8 rfl (by first | assumption | exact hI _ (by omega)) rfl (by decide) rfl ?_
      rw [a7]
      refine V.iconst (v := nI 1) dX8_readsBracket_22 rfl ?_
      first | refine V.iaddN dX8_readsBracket_23 ?_ | refine V.iadd dX8_readsBracket_23 ?_
      refine V.putf (ci := 7) (k := 16) (C := RX8) (T := TX8) (N := 37) (ty := .int) tyX8 dX8_readsBracket_24 lfX8_151 inX8 tyX8_ok nmX8 rfl (by first | assumption | exact hI _ (by omega)) rfl (by decide) rfl rfl rfl rfl (Nat.le_of_ble_eq_true rfl) rfl ?_
      refine V.aload_n dX8_readsBracket_27 rfl ?_
      refine V.aload_n dX8_readsBracket_28 rfl ?_
      refine V.getf (ci := 7) (k := 27) (C := RX8) (T := TX8) (N := 37) dX8_readsBracket_29 lfX8_199 inX8 rfl (by first | assumption | exact hI _ (by omega)) rfl (by decide) rfl ?_
      rw [mset_nat (i := 142) (j := 16) (k := 27) (by decide), a9]
      refine V.callV (ci := 7) (T := TX8) (N := 37) dX8_readsBracket_32 (c_X8_begins (o := o + 1) hI (by omega) mset_at) lkX8_205 im_X8_begins se_X8_begins cd_X8_begins ini_X8 rfl (by first | assumption | exact hI _ (by omega)) rfl hd_X8_begins ⟨Nat.le_of_ble_eq_true rfl, Nat.le_of_ble_eq_true rfl⟩ rfl (Nat.le_of_ble_eq_true rfl) (V.kkN ?_)
      refine V.aload_n dX8_readsBracket_35 rfl ?_
      refine V.dup dX8_readsBracket_36 rfl ?_
      refine V.getf (ci := 7) (k := 15) (C := RX8) (T := TX8) (N := 37) dX8_readsBracket_37 lfX8_140 inX8 rfl (by first | assumption | exact hI _ (by omega)) rfl (by decide) rfl ?_
      have z6 : mset (mset (mset (mset M 142 16 (nI (o + 1))) 162 (o + 1) ah) 160 (o + 1) (nI 0)) 161 (o + 1) (nI 0) 142 15 = nI p := by
        rw [mset_ne (by decide), mset_ne (by decide), mset_ne (by decide), mset_nat (by decide)]; exact a6
      rw [z6]
      refine V.iconst (v := nI 1) dX8_readsBracket_40 rfl ?_
      first | refine V.iaddN dX8_readsBracket_41 ?_ | refine V.iadd dX8_readsBracket_41 ?_
      refine V.putf (ci := 7) (k := 15) (C := RX8) (T := TX8) (N := 37) (ty := .int) tyX8 dX8_readsBracket_42 lfX8_140 inX8 tyX8_ok nmX8 rfl (by first | assumption | exact hI _ (by omega)) rfl (by decide) rfl rfl rfl rfl (Nat.le_of_ble_eq_true rfl) rfl ?_
      refine V.iconst (v := nI 0) dX8_readsBracket_45 rfl ?_
      refine V.iret dX8_readsBracket_46 ?_
      rw [ok]
      have h5 := h1.o' (show o + 1 ≤ 6 by omega)
      have hF5 := hF.m142 (k := 16) (x := nI (o + 1))
      have kk : keep msp (mset M 142 16 (nI (o + 1))) (mset (mset (mset (mset M 142 16 (nI (o + 1))) 162 (o + 1) ah) 160 (o + 1) (nI 0)) 161 (o + 1) (nI 0)) := (((keep.rf (P := msp)).ms (by unfold msp; omega)).ms (by unfold msp; omega)).ms (by unfold msp; omega)
      refine ⟨rfl, ⟨?_, ?_⟩, ((KM.ms (by omega)).tr (KM.of kk)).tr (KM.ms (by omega))⟩
      · show MI l n (en l n p) (o + 1) w ah _
        rw [he]; exact (h5.kp kk).p' (by omega)
      · refine MF.m142 (hF5.by3 (fun j q1 q2 => ?_) (fun k => ?_) (fun k => ?_) (fun k => ?_))
        · rw [mset_ne (by omega), mset_ne (by omega), mset_ne (by omega)]
        · rw [mset_ne (by decide), mset_self, mset_ne (by decide)]; rfl
        · rw [mset_self, mset_ne (by decide), mset_ne (by decide)]; rfl
        · rw [mset_ne (by decide), mset_ne (by decide), mset_self]; rfl
    · refine V.iconst (v := -1) dX8_readsBracket_15 rfl ?_
      refine V.iret dX8_readsBracket_16 ?_
      rw [bad (fun z => z.2 h3)]
      exact ⟨rfl, h, KM.rf⟩

