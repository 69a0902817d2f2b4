theorem c_X3_isUnit {g : Gl} {M : Mem} {i : Nat} (hi : i ∈ g.2.2.2.2) (li : ial i = 9) : Ct g yX3_isUnit cX3_isUnit 1 (some .boolean) 0 [.ref (g.2.2.2.1 i)] M (fun v M' => v = some (.int (nI (isUn (M i)).toNat)) ∧ M' = M) := by
  refine Ct.ofV (by decide) (Nat.le_of_ble_eq_true rfl) (by simp [Value.category]) (fun κ => ?_)
  refine V.aload_n dX3_isUnit_0 rfl ?_
  refine V.iconst (v := nI 0) dX3_isUnit_1 rfl ?_
  refine V.iald (n := 9) dX3_isUnit_2 (by first | assumption | exact hI _ (by omega)) (by first | assumption | decide) (by omega) ?_
  refine V.if_eq (tgt := 10) dX3_isUnit_3 (by decide) (fun h1 => ?_) (fun h1 => ?_)
  · refine V.iconst (v := nI 0) dX3_isUnit_10 rfl ?_
    refine V.zret dX3_isUnit_11 rfl ?_
    exact ⟨by simp [isUn, h1], rfl⟩
  · refine V.iconst (v := nI 1) dX3_isUnit_6 rfl ?_
    refine V.goto (tgt := 11) dX3_isUnit_7 (by decide) ?_
    refine V.zret dX3_isUnit_11 rfl ?_
    exact ⟨by simp [isUn, h1], rfl⟩
theorem c_X3_isDelta {g : Gl} {M : Mem} {i : Nat} (hi : i ∈ g.2.2.2.2) (li : ial i = 9) : Ct g yX3_isDelta cX3_isDelta 1 (some .boolean) 0 [.ref (g.2.2.2.1 i)] M (fun v M' => v = some (.int (nI (isDe (M i)).toNat)) ∧ M' = M) := by
  refine Ct.ofV (by decide) (Nat.le_of_ble_eq_true rfl) (by simp [Value.category]) (fun κ => ?_)
  refine V.aload_n dX3_isDelta_0 rfl ?_
  refine V.iconst (v := nI 0) dX3_isDelta_1 rfl ?_
  refine V.iald (n := 9) dX3_isDelta_2 (by first | assumption | exact hI _ (by omega)) (by first | assumption | decide) (by omega) ?_
  refine V.if_ne (tgt := 16) dX3_isDelta_3 (by decide) (fun h1 => ?_) (fun h1 => ?_)
  · refine V.iconst (v := nI 0) dX3_isDelta_16 rfl ?_
    refine V.zret dX3_isDelta_17 rfl ?_
    exact ⟨by simp [isDe, h1], rfl⟩
  · refine V.aload_n dX3_isDelta_6 rfl ?_
    refine V.iconst (v := nI 1) dX3_isDelta_7 rfl ?_
    refine V.iald (n := 9) dX3_isDelta_8 (by first | assumption | exact hI _ (by omega)) (by first | assumption | decide) (by omega) ?_
    refine V.if_eq (tgt := 16) dX3_isDelta_9 (by decide) (fun h2 => ?_) (fun h2 => ?_)
    · refine V.iconst (v := nI 0) dX3_isDelta_16 rfl ?_
      refine V.zret dX3_isDelta_17 rfl ?_
      exact ⟨by simp [isDe, h2], rfl⟩
    · refine V.iconst (v := nI 1) dX3_isDelta_12 rfl ?_
      refine V.goto (tgt := 17) dX3_isDelta_13 (by decide) ?_
      refine V.zret dX3_isDelta_17 rfl ?_
      exact ⟨by simp [isDe, h1, h2], rfl⟩
theorem c_X3_seriesOf {g : Gl} {M : Mem} {s : Int32} (hI : ∀ i, (1 ≤ i ∧ i ≤ 9) ∨ (14 ≤ i ∧ i ≤ 32) → i ∈ g.2.2.2.2) (hs : s = nI 101 ∨ s = nI 113 ∨ s = nI 108) : Ct g yX3_seriesOf cX3_seriesOf 2 (some (.array .int)) 0 [.ref (g.2.2.2.1 14), .int s] M (fun v M' => v = some (.ref (g.2.2.2.1 (if s = nI 101 then 2 else if s = nI 113 then 3 else 4))) ∧ M' = M) := by
  refine Ct.ofV (by decide) (Nat.le_of_ble_eq_true rfl) (by simp [Value.category]) (fun κ => ?_)
  refine V.iload_n dX3_seriesOf_0 rfl ?_
  rcases hs with rfl | rfl | rfl
  · refine V.lookup (tgt := 28) dX3_seriesOf_1 (by decide) rfl (by decide) ?_
    refine V.aload_n dX3_seriesOf_28 rfl ?_
    refine V.getf (ci := 2) (k := 0) (C := RX3) (T := TX3) (N := 4) dX3_seriesOf_29 lfX3_24 inX3 rfl (by first | assumption | exact hI _ (by omega)) rfl (by decide) rfl ?_
    refine V.getf (ci := 3) (k := 0) (C := RX4) (T := TX4) (N := 8) dX3_seriesOf_32 lfX3_103 inX4 rfl (by first | assumption | exact hI _ (by omega)) rfl (by decide) rfl ?_
    refine V.aret dX3_seriesOf_35 ?_
    exact ⟨rfl, rfl⟩
  · refine V.lookup (tgt := 36) dX3_seriesOf_1 (by decide) rfl (by decide) ?_
    refine V.aload_n dX3_seriesOf_36 rfl ?_
    refine V.getf (ci := 2) (k := 0) (C := RX3) (T := TX3) (N := 4) dX3_seriesOf_37 lfX3_24 inX3 rfl (by first | assumption | exact hI _ (by omega)) rfl (by decide) rfl ?_
    refine V.getf (ci := 3) (k := 1) (C := RX4) (T := TX4) (N := 8) dX3_seriesOf_40 lfX3_106 inX4 rfl (by first | assumption | exact hI _ (by omega)) rfl (by decide) rfl ?_
    refine V.aret dX3_seriesOf_43 ?_
    exact ⟨rfl, rfl⟩
  · refine V.lookup (tgt := 44) dX3_seriesOf_1 (by decide) rfl (by decide) ?_
    refine V.aload_n dX3_seriesOf_44 rfl ?_
    refine V.getf (ci := 2) (k := 0) (C := RX3) (T := TX3) (N := 4) dX3_seriesOf_45 lfX3_24 inX3 rfl (by first | assumption | exact hI _ (by omega)) rfl (by decide) rfl ?_
    refine V.getf (ci := 3) (k := 2) (C := RX4) (T := TX4) (N := 8) dX3_seriesOf_48 lfX3_109 inX4 rfl (by first | assumption | exact hI _ (by omega)) rfl (by decide) rfl ?_
    refine V.aret dX3_seriesOf_51 ?_
    exact ⟨rfl, rfl⟩
theorem c_X3_toldG {g : Gl} {M : Mem} (hI : ∀ i, (1 ≤ i ∧ i ≤ 9) ∨ (14 ≤ i ∧ i ≤ 32) → i ∈ g.2.2.2.2) : Ct g yX3_toldG cX3_toldG 1 (some (.array .int)) 0 [.ref (g.2.2.2.1 14)] M (fun v M' => v = some (.ref (g.2.2.2.1 16)) ∧ M' = M) := by
  refine Ct.ofV (by decide) (Nat.le_of_ble_eq_true rfl) (by simp [Value.category]) (fun κ => ?_)
  refine V.aload_n dX3_toldG_0 rfl ?_
  refine V.getf (ci := 2) (k := 1) (C := RX3) (T := TX3) (N := 4) dX3_toldG_1 lfX3_11 inX3 rfl (by first | assumption | exact hI _ (by omega)) rfl (by decide) rfl ?_
  refine V.iconst (v := nI 0) dX3_toldG_4 rfl ?_
  refine V.aald (n := 16) (t := 2) dX3_toldG_5 (by first | assumption | exact hI _ (by omega)) rfl rfl rfl (by decide) (by omega) ?_
  refine V.aret dX3_toldG_6 ?_
  exact ⟨rfl, rfl⟩
theorem c_X3_toldF {g : Gl} {M : Mem} (hI : ∀ i, (1 ≤ i ∧ i ≤ 9) ∨ (14 ≤ i ∧ i ≤ 32) → i ∈ g.2.2.2.2) : Ct g yX3_toldF cX3_toldF 1 (some (.array .int)) 0 [.ref (g.2.2.2.1 14)] M (fun v M' => v = some (.ref (g.2.2.2.1 17)) ∧ M' = M) := by
  refine Ct.ofV (by decide) (Nat.le_of_ble_eq_true rfl) (by simp [Value.category]) (fun κ => ?_)
  refine V.aload_n dX3_toldF_0 rfl ?_
  refine V.getf (ci := 2) (k := 1) (C := RX3) (T := TX3) (N := 4) dX3_toldF_1 lfX3_11 inX3 rfl (by first | assumption | exact hI _ (by omega)) rfl (by decide) rfl ?_
  refine V.iconst (v := nI 1) dX3_toldF_4 rfl ?_
  refine V.aald (n := 16) (t := 2) dX3_toldF_5 (by first | assumption | exact hI _ (by omega)) rfl rfl rfl (by decide) (by omega) ?_
  refine V.aret dX3_toldF_6 ?_
  exact ⟨rfl, rfl⟩
theorem c_X3_pushMonomial {g : Gl} {M : Mem} {k : Nat} {a : Int32} {St : List Ser} (hI : ∀ i, (1 ≤ i ∧ i ≤ 9) ∨ (14 ≤ i ∧ i ≤ 32) → i ∈ g.2.2.2.2) (hk : k < 9) (h : PileIs St M) : Ct g yX3_pushMonomial cX3_pushMonomial 3 (some .boolean) 1 [.ref (g.2.2.2.1 14), .int (nI k), .int a] M (fun v M' => v = some (.int (nI (decide (St.length < 16)).toNat)) ∧ keep rdP M M' ∧ (St.length < 16 → PileIs (St ++ [mono k a]) M')) := by
  obtain ⟨t1, t2, t3⟩ := id h
  refine Ct.ofV (by decide) (Nat.le_of_ble_eq_true rfl) (by simp [Value.category]) (fun κ => ?_)
  refine V.aload_n dX3_pushMonomial_0 rfl ?_
  refine V.getf (ci := 2) (k := 3) (C := RX3) (T := TX3) (N := 4) dX3_pushMonomial_1 lfX3_20 inX3 rfl (by first | assumption | exact hI _ (by omega)) rfl (by decide) rfl ?_
  rw [t1]
  refine V.bipush (v := nI 16) dX3_pushMonomial_4 (by decide) ?_
  refine V.ltN (tgt := 11) dX3_pushMonomial_6 (by decide) (by omega) (by omega) (fun h1 => ?_) (fun h1 => ?_)
  · refine V.aload_n dX3_pushMonomial_11 rfl ?_
    refine V.getf (ci := 2) (k := 1) (C := RX3) (T := TX3) (N := 4) dX3_pushMonomial_12 lfX3_11 inX3 rfl (by first | assumption | exact hI _ (by omega)) rfl (by decide) rfl ?_
    refine V.aload_n dX3_pushMonomial_15 rfl ?_
    refine V.getf (ci := 2) (k := 3) (C := RX3) (T := TX3) (N := 4) dX3_pushMonomial_16 lfX3_20 inX3 rfl (by first | assumption | exact hI _ (by omega)) rfl (by decide) rfl ?_
    rw [t1]
    refine V.aald (n := 16) (t := 2) dX3_pushMonomial_19 (by first | assumption | exact hI _ (by omega)) rfl rfl rfl (by decide) (by omega) ?_
    refine V.iload_n dX3_pushMonomial_20 rfl ?_
    refine V.iload_n dX3_pushMonomial_21 rfl ?_
    refine V.callSN dX3_pushMonomial_22 (c_X7_setMonomial (i := 16 + St.length) (hI _ (by omega)) (ial_pile h1) hk) nlX3_72 st_X7_setMonomial cd_X7_setMonomial ini_X7 hd_X7_setMonomial ⟨Nat.le_of_ble_eq_true rfl, Nat.le_of_ble_eq_true rfl⟩ rfl (Nat.le_of_ble_eq_true rfl) (V.kkN ?_)
    refine V.aload_n dX3_pushMonomial_25 rfl ?_
    refine V.dup dX3_pushMonomial_26 rfl ?_
    refine V.getf (ci := 2) (k := 3) (C := RX3) (T := TX3) (N := 4) dX3_pushMonomial_27 lfX3_20 inX3 rfl (by first | assumption | exact hI _ (by omega)) rfl (by decide) rfl ?_
    rw [aset_ne (a := 14) (by omega), t1]
    refine V.iconst (v := nI 1) dX3_pushMonomial_30 rfl ?_
    first | refine V.iaddN dX3_pushMonomial_31 ?_ | refine V.iadd dX3_pushMonomial_31 ?_
    refine V.putf (ci := 2) (k := 3) (C := RX3) (T := TX3) (N := 4) (ty := .int) tyX3 dX3_pushMonomial_32 lfX3_20 inX3 tyX3_ok nmX3 rfl (by first | assumption | exact hI _ (by omega)) rfl (by decide) rfl rfl rfl rfl (Nat.le_of_ble_eq_true rfl) rfl ?_
    refine V.iconst (v := nI 1) dX3_pushMonomial_35 rfl ?_
    refine V.zret dX3_pushMonomial_36 rfl ?_
    refine ⟨by rw [decide_eq_true h1]; rfl, ((keep.rf (P := rdP)).as (by unfold rdP; omega)).ms (by unfold rdP; omega), fun _ => ?_⟩
    refine PileIs.top (by omega) (by rw [mset_at]) (fun i hi => ?_) ?_
    · rw [mset_ne (by omega), aset_ne (by omega)]; exact t3 i hi
    · rw [mset_ne (by omega)]; exact aset_9
  · refine V.iconst (v := nI 0) dX3_pushMonomial_9 rfl ?_
    refine V.zret dX3_pushMonomial_10 rfl ?_
    exact ⟨by rw [decide_eq_false (by omega)]; rfl, keep.rf, fun q => by omega⟩
abbrev v_X3_toPower (g : Gl) (κ : Ka) (Q : State → Prop) (M : Mem) (pc : Nat) (L : List (Option Value)) (st : List Value) : Prop := V g cX3_toPower 4 yX3_toPower.cls (some .boolean) (rmd 2) Q κ M pc L st
theorem c_X3_toPower {g : Gl} {M : Mem} {i n : Nat} (hI : ∀ i, (1 ≤ i ∧ i ≤ 9) ∨ (14 ≤ i ∧ i ≤ 32) → i ∈ g.2.2.2.2) (hi : 16 ≤ i ∧ i ≤ 31) (li : ial i = 9) (hn : n < 10000) : Ct g yX3_toPower cX3_toPower 4 (some .boolean) 2 [.ref (g.2.2.2.1 14), .ref (g.2.2.2.1 i), .int (nI n)] M (fun v M' => v = some (.int (nI 1)) ∧ keep (fun j => j = i ∨ j = 32) M M' ∧ eq9 (M' i) (fpow (M i) n)) := by
  refine Ct.ofV (by decide) (Nat.le_of_ble_eq_true rfl) (by simp [Value.category]) (fun κ => ?_)
  refine V.aload_n dX3_toPower_0 rfl ?_
  refine V.aload_n dX3_toPower_1 rfl ?_
  refine V.getf (ci := 2) (k := 2) (C := RX3) (T := TX3) (N := 4) dX3_toPower_2 lfX3_16 inX3 rfl (by first | assumption | exact hI _ (by omega)) rfl (by decide) rfl ?_
  refine V.callSN dX3_toPower_5 (c_X7_copy (hI i (by omega)) (hI 32 (by omega)) li rfl) nlX3_89 st_X7_copy cd_X7_copy ini_X7 hd_X7_copy ⟨Nat.le_of_ble_eq_true rfl, Nat.le_of_ble_eq_true rfl⟩ rfl (Nat.le_of_ble_eq_true rfl) (V.kkN ?_)
  refine V.aload_n dX3_toPower_8 rfl ?_
  refine V.iconst (v := nI 0) dX3_toPower_9 rfl ?_
  refine V.iconst (v := nI 1) dX3_toPower_10 rfl ?_
  refine V.callSN dX3_toPower_11 (c_X7_setMonomial (k := 0) (hI i (by omega)) li (by decide)) nlX3_72 st_X7_setMonomial cd_X7_setMonomial ini_X7 hd_X7_setMonomial ⟨Nat.le_of_ble_eq_true rfl, Nat.le_of_ble_eq_true rfl⟩ rfl (Nat.le_of_ble_eq_true rfl) (V.kkN ?_)
  refine V.iconst (v := nI 0) dX3_toPower_14 rfl ?_
  refine V.istore_n dX3_toPower_15 (by decide) ?_
  have lp := up_loop n (fun k => ∀ M1, keep (fun j => j = i ∨ j = 32) M M1 → eq9 (M1 32) (M i) → eq9 (M1 i) (fpow (M i) k) → v_X3_toPower g κ (Qm g κ (fun v M' => v = some (.int (nI 1)) ∧ keep (fun j => j = i ∨ j = 32) M M' ∧ eq9 (M' i) (fpow (M i) n))) M1 16 [some (.ref (g.2.2.2.1 14)), some (.ref (g.2.2.2.1 i)), some (.int (nI n)), some (.int (nI k))] []) (fun k hk ih M1 k1 k2 k3 => ?_) 0 (by omega)
  · refine lp _ ?_ ?_ ?_
    · exact ((keep.rf (P := fun j => j = i ∨ j = 32)).as (Or.inr rfl)).as (Or.inl rfl)
    · rw [aset_ne (by omega)]; exact aset_9
    · exact aset_9
  · refine V.iload_n dX3_toPower_16 rfl ?_
    refine V.iload_n dX3_toPower_17 rfl ?_
    refine V.geN (tgt := 40) dX3_toPower_18 (by decide) (by omega) (by omega) (fun h1 => ?_) (fun h1 => ?_)
    · have e : k = n := by omega
      subst e
      refine V.iconst (v := nI 1) dX3_toPower_40 rfl ?_
      refine V.zret dX3_toPower_41 rfl ?_
      exact ⟨rfl, k1, k3⟩
    · refine V.aload_n dX3_toPower_21 rfl ?_
      refine V.getf (ci := 2) (k := 0) (C := RX3) (T := TX3) (N := 4) dX3_toPower_22 lfX3_24 inX3 rfl (by first | assumption | exact hI _ (by omega)) rfl (by decide) rfl ?_
      refine V.aload_n dX3_toPower_25 rfl ?_
      refine V.aload_n dX3_toPower_26 rfl ?_
      refine V.aload_n dX3_toPower_27 rfl ?_
      refine V.getf (ci := 2) (k := 2) (C := RX3) (T := TX3) (N := 4) dX3_toPower_28 lfX3_16 inX3 rfl (by first | assumption | exact hI _ (by omega)) rfl (by decide) rfl ?_
      refine V.callV (ci := 3) (T := TX4) (N := 8) dX3_toPower_31 (c_X4_multiply (hI i (by omega)) li (hI i (by omega)) li (hI 32 (by omega)) rfl) lkX3_80 im_X4_multiply se_X4_multiply cd_X4_multiply ini_X4 rfl (by first | assumption | exact hI _ (by omega)) rfl hd_X4_multiply ⟨Nat.le_of_ble_eq_true rfl, Nat.le_of_ble_eq_true rfl⟩ rfl (Nat.le_of_ble_eq_true rfl) (V.kkN ?_)
      refine V.iincN dX3_toPower_34 (by decide) rfl ?_
      refine V.goto (tgt := 16) dX3_toPower_37 (by decide) ?_
      exact ih h1 _ (k1.as (Or.inl rfl)) (by rw [aset_ne (by omega)]; exact k2) (aset_9.tr (fprod_cg k3 k2))
theorem c_X3_turn {g : Gl} {M : Mem} {i : Nat} {s : Int32} (hI : ∀ i, (1 ≤ i ∧ i ≤ 9) ∨ (14 ≤ i ∧ i ≤ 32) → i ∈ g.2.2.2.2) (hi : 16 ≤ i ∧ i ≤ 31) (li : ial i = 9) (hs : s = nI 105 ∨ s = nI 101 ∨ s = nI 113 ∨ s = nI 108) : Ct g yX3_turn cX3_turn 3 (some .boolean) 4 [.ref (g.2.2.2.1 14), .int s, .ref (g.2.2.2.1 i)] M (fun v M' => v = some (.int (nI (if s = nI 105 then isDe (M i) else decide (M i 0 = 0)).toNat)) ∧ keep (fun j => j = i ∨ (6 ≤ j ∧ j ≤ 9)) M M' ∧ ((if s = nI 105 then isDe (M i) else decide (M i 0 = 0)) = true → eq9 (M' i) (if s = nI 105 then fturn (M i) else fput (sname (M 2) (M 3) (M 4) s) (M i)))) := by
  have hI1 : ∀ i, 1 ≤ i ∧ i ≤ 9 → i ∈ g.2.2.2.2 := fun i h => hI i (Or.inl h)
  refine Ct.ofV (by decide) (Nat.le_of_ble_eq_true rfl) (by simp [Value.category]) (fun κ => ?_)
  refine V.iload_n dX3_turn_0 rfl ?_
  refine V.bipush (v := nI 105) dX3_turn_1 (by decide) ?_
  refine V.icmp_ne (tgt := 26) dX3_turn_3 (by decide) (fun h1 => ?_) (fun h1 => ?_)
  · simp only [if_neg h1]
    refine V.aload_n dX3_turn_26 rfl ?_
    refine V.iconst (v := nI 0) dX3_turn_27 rfl ?_
    refine V.iald (n := 9) dX3_turn_28 (by first | assumption | exact hI _ (by omega)) (by first | assumption | decide) (by omega) ?_
    refine V.if_eq (tgt := 34) dX3_turn_29 (by decide) (fun h2 => ?_) (fun h2 => ?_)
    · refine V.aload_n dX3_turn_34 rfl ?_
      refine V.getf (ci := 2) (k := 0) (C := RX3) (T := TX3) (N := 4) dX3_turn_35 lfX3_24 inX3 rfl (by first | assumption | exact hI _ (by omega)) rfl (by decide) rfl ?_
      refine V.aload_n dX3_turn_38 rfl ?_
      refine V.aload_n dX3_turn_39 rfl ?_
      refine V.iload_n dX3_turn_40 rfl ?_
      have hs2 : s = nI 101 ∨ s = nI 113 ∨ s = nI 108 := by
        rcases hs with h | h | h | h
        · exact absurd h h1
        · exact Or.inl h
        · exact Or.inr (Or.inl h)
        · exact Or.inr (Or.inr h)
      refine V.callV (ci := 2) (T := TX3) (N := 4) dX3_turn_41 (c_X3_seriesOf hI hs2) lkX3_96 im_X3_seriesOf se_X3_seriesOf cd_X3_seriesOf ini_X3 rfl (by first | assumption | exact hI _ (by omega)) rfl hd_X3_seriesOf ⟨Nat.le_of_ble_eq_true rfl, Nat.le_of_ble_eq_true rfl⟩ rfl (Nat.le_of_ble_eq_true rfl) (V.kkA ?_)
      refine V.aload_n dX3_turn_44 rfl ?_
      have hm : ∃ j, j = (if s = nI 101 then 2 else if s = nI 113 then 3 else 4) ∧ j ∈ g.2.2.2.2 ∧ ial j = 9 ∧ j ≠ 6 ∧ M j = sname (M 2) (M 3) (M 4) s := by
        refine ⟨_, rfl, ?_, ?_, ?_, ?_⟩
        · by_cases a : s = nI 101
          · rw [if_pos a]; exact hI1 2 (by decide)
          · by_cases b : s = nI 113
            · rw [if_neg a, if_pos b]; exact hI1 3 (by decide)
            · rw [if_neg a, if_neg b]; exact hI1 4 (by decide)
        · by_cases a : s = nI 101
          · rw [if_pos a]; rfl
          · by_cases b : s = nI 113
            · rw [if_neg a, if_pos b]; rfl
            · rw [if_neg a, if_neg b]; rfl
        · by_cases a : s = nI 101
          · rw [if_pos a]; decide
          · by_cases b : s = nI 113
            · rw [if_neg a, if_pos b]; decide
            · rw [if_neg a, if_neg b]; decide
        · unfold sname
          by_cases a : s = nI 101
          · rw [if_pos a, if_pos a]
          · by_cases b : s = nI 113
            · rw [if_neg a, if_pos b, if_neg a, if_pos b]
            · rw [if_neg a, if_neg b, if_neg a, if_neg b]
      obtain ⟨j, ej, hj, lj, j6, em⟩ := hm
      rw [← ej]
      refine V.callV (ci := 3) (T := TX4) (N := 8) dX3_turn_45 (c_X4_putInside hI1 (hI i (by omega)) li hj lj (hI i (by omega)) li j6 (by omega)) lkX3_100 im_X4_putInside se_X4_putInside cd_X4_putInside ini_X4 rfl (by first | assumption | exact hI _ (by omega)) rfl hd_X4_putInside ⟨Nat.le_of_ble_eq_true rfl, Nat.le_of_ble_eq_true rfl⟩ rfl (Nat.le_of_ble_eq_true rfl) (V.kkN ?_)
      refine V.iconst (v := nI 1) dX3_turn_48 rfl ?_
      refine V.zret dX3_turn_49 rfl ?_
      refine ⟨by simp [h2], ((keep.rf (P := fun j => j = i ∨ (6 ≤ j ∧ j ≤ 9))).as (by omega)).as (Or.inl rfl), fun _ => ?_⟩
      rw [← em]
      exact aset_9
    · refine V.iconst (v := nI 0) dX3_turn_32 rfl ?_
      refine V.zret dX3_turn_33 rfl ?_
      exact ⟨by simp [h2], keep.rf, fun q => absurd q (by simp [h2])⟩
  · simp only [if_pos h1]
    refine V.aload_n dX3_turn_6 rfl ?_
    refine V.callS dX3_turn_7 (c_X3_isDelta (hI i (by omega)) li) lkX3_54 st_X3_isDelta cd_X3_isDelta ini_X3 hd_X3_isDelta ⟨Nat.le_of_ble_eq_true rfl, Nat.le_of_ble_eq_true rfl⟩ rfl (Nat.le_of_ble_eq_true rfl) (V.kkF ?_)
    refine V.if_neB (tgt := 15) dX3_turn_10 (by decide) (fun h2 => ?_) (fun h2 => ?_)
    · refine V.aload_n dX3_turn_15 rfl ?_
      refine V.getf (ci := 2) (k := 0) (C := RX3) (T := TX3) (N := 4) dX3_turn_16 lfX3_24 inX3 rfl (by first | assumption | exact hI _ (by omega)) rfl (by decide) rfl ?_
      refine V.aload_n dX3_turn_19 rfl ?_
      refine V.aload_n dX3_turn_20 rfl ?_
      refine V.callV (ci := 3) (T := TX4) (N := 8) dX3_turn_21 (c_X4_turnInsideOut hI1 (hI i (by omega)) li (hI i (by omega)) li (by omega) (by omega)) lkX3_93 im_X4_turnInsideOut se_X4_turnInsideOut cd_X4_turnInsideOut ini_X4 rfl (by first | assumption | exact hI _ (by omega)) rfl hd_X4_turnInsideOut ⟨Nat.le_of_ble_eq_true rfl, Nat.le_of_ble_eq_true rfl⟩ rfl (Nat.le_of_ble_eq_true rfl) (V.kkP (fun M1 q1 => ?_))
      refine V.iconst (v := nI 1) dX3_turn_24 rfl ?_
      refine V.zret dX3_turn_25 rfl ?_
      exact ⟨by rw [h2]; rfl, q1.1, fun _ => q1.2⟩
    · refine V.iconst (v := nI 0) dX3_turn_13 rfl ?_
      refine V.zret dX3_turn_14 rfl ?_
      exact ⟨by rw [h2]; rfl, keep.rf, fun q => by rw [h2] at q; cases q⟩
abbrev v_X3_joinTwo (g : Gl) (κ : Ka) (Q : State → Prop) (M : Mem) (pc : Nat) (L : List (Option Value)) (st : List Value) : Prop := V g cX3_joinTwo 4 yX3_joinTwo.cls (some .boolean) (rmd 2) Q κ M pc L st
theorem c_X3_joinTwo {g : Gl} {M : Mem} {s : Int32} {St : List Ser} (hI : ∀ i, (1 ≤ i ∧ i ≤ 9) ∨ (14 ≤ i ∧ i ≤ 32) → i ∈ g.2.2.2.2) (h : PileIs St M) (hs : s = nI 43 ∨ s = nI 45 ∨ s = nI 42 ∨ s = nI 47) : Ct g yX3_joinTwo cX3_joinTwo 4 (some .boolean) 2 [.ref (g.2.2.2.1 14), .int s] M (fun v M' => v = some (.int (nI (if St.length < 2 then false else if s = nI 47 ∧ isUn (St.getD (St.length - 1) zser) = false then false else true).toNat)) ∧ keep rdP M M' ∧ ((if St.length < 2 then false else if s = nI 47 ∧ isUn (St.getD (St.length - 1) zser) = false then false else true) = true → PileIs (St.take (St.length - 2) ++ [sjoin s (St.getD (St.length - 2) zser) (St.getD (St.length - 1) zser)]) M')) := by
  have hI1 : ∀ i, 1 ≤ i ∧ i ≤ 9 → i ∈ g.2.2.2.2 := fun i h => hI i (Or.inl h)
  obtain ⟨t1, t2, t3⟩ := id h
  refine Ct.ofV (by decide) (Nat.le_of_ble_eq_true rfl) (by simp [Value.category]) (fun κ => ?_)
  refine V.aload_n dX3_joinTwo_0 rfl ?_
  refine V.getf (ci := 2) (k := 3) (C := RX3) (T := TX3) (N := 4) dX3_joinTwo_1 lfX3_20 inX3 rfl (by first | assumption | exact hI _ (by omega)) rfl (by decide) rfl ?_
  rw [t1]
  refine V.iconst (v := nI 2) dX3_joinTwo_4 rfl ?_
  refine V.geN (tgt := 10) dX3_joinTwo_5 (by decide) (by omega) (by omega) (fun h1 => ?_) (fun h1 => ?_)
  · rw [if_neg (by omega)]
    obtain ⟨m, hm⟩ : ∃ m, St.length = m + 2 := ⟨St.length - 2, by omega⟩
    refine V.aload_n dX3_joinTwo_10 rfl ?_
    refine V.dup dX3_joinTwo_11 rfl ?_
    refine V.getf (ci := 2) (k := 3) (C := RX3) (T := TX3) (N := 4) dX3_joinTwo_12 lfX3_20 inX3 rfl (by first | assumption | exact hI _ (by omega)) rfl (by decide) rfl ?_
    rw [t1]
    refine V.iconst (v := nI 1) dX3_joinTwo_15 rfl ?_
    first | refine V.isubN dX3_joinTwo_16 (by omega) ?_ | refine V.isub dX3_joinTwo_16 ?_
    refine V.putf (ci := 2) (k := 3) (C := RX3) (T := TX3) (N := 4) (ty := .int) tyX3 dX3_joinTwo_17 lfX3_20 inX3 tyX3_ok nmX3 rfl (by first | assumption | exact hI _ (by omega)) rfl (by decide) rfl rfl rfl rfl (Nat.le_of_ble_eq_true rfl) rfl ?_
    refine V.aload_n dX3_joinTwo_20 rfl ?_
    refine V.getf (ci := 2) (k := 1) (C := RX3) (T := TX3) (N := 4) dX3_joinTwo_21 lfX3_11 inX3 rfl (by first | assumption | exact hI _ (by omega)) rfl (by decide) rfl ?_
    refine V.aload_n dX3_joinTwo_24 rfl ?_
    refine V.getf (ci := 2) (k := 3) (C := RX3) (T := TX3) (N := 4) dX3_joinTwo_25 lfX3_20 inX3 rfl (by first | assumption | exact hI _ (by omega)) rfl (by decide) rfl ?_
    rw [mset_at]
    rw [show St.length - 1 = m + 1 by omega]
    refine V.iconst (v := nI 1) dX3_joinTwo_28 rfl ?_
    first | refine V.isubN dX3_joinTwo_29 (by omega) ?_ | refine V.isub dX3_joinTwo_29 ?_
    refine V.aald (n := 16) (t := 2) dX3_joinTwo_30 (by first | assumption | exact hI _ (by omega)) rfl rfl rfl (by decide) (by omega) ?_
    rw [show m + 1 - 1 = m by omega]
    refine V.astore_n dX3_joinTwo_31 (by decide) ?_
    refine V.aload_n dX3_joinTwo_32 rfl ?_
    refine V.getf (ci := 2) (k := 1) (C := RX3) (T := TX3) (N := 4) dX3_joinTwo_33 lfX3_11 inX3 rfl (by first | assumption | exact hI _ (by omega)) rfl (by decide) rfl ?_
    refine V.aload_n dX3_joinTwo_36 rfl ?_
    refine V.getf (ci := 2) (k := 3) (C := RX3) (T := TX3) (N := 4) dX3_joinTwo_37 lfX3_20 inX3 rfl (by first | assumption | exact hI _ (by omega)) rfl (by decide) rfl ?_
    rw [mset_at]
    refine V.aald (n := 16) (t := 2) dX3_joinTwo_40 (by first | assumption | exact hI _ (by omega)) rfl rfl rfl (by decide) (by omega) ?_
    refine V.astore_n dX3_joinTwo_41 (by decide) ?_
    refine V.iload_n dX3_joinTwo_42 rfl ?_
    refine V.bipush (v := nI 47) dX3_joinTwo_43 (by decide) ?_
    have hx : eq9 (M (16 + m)) (St.getD m zser) := t3 m (by omega)
    have hz : eq9 (M (16 + (m + 1))) (St.getD (m + 1) zser) := t3 (m + 1) (by omega)
    have k0 : keep rdP M (mset M 14 3 (nI (m + 1))) := (keep.rf (P := rdP)).ms (by unfold rdP; omega)
    rw [show St.length - 2 = m by omega]
    have u1 : isUn (mset M 14 3 (nI (m + 1)) (16 + (m + 1))) = isUn (St.getD (m + 1) zser) := by
      rw [mset_ne (by omega)]; unfold isUn; rw [hz 0 (by decide)]
    have fin : ∀ (M' : Mem) (op : Ser → Ser → Ser), (∀ x x' z z', eq9 x x' → eq9 z z' → eq9 (op x z) (op x' z')) → sjoin s (St.getD m zser) (St.getD (m + 1) zser) = op (St.getD m zser) (St.getD (m + 1) zser) → M' = aset (mset M 14 3 (nI (m + 1))) (16 + m) 0 9 (op (mset M 14 3 (nI (m + 1)) (16 + m)) (mset M 14 3 (nI (m + 1)) (16 + (m + 1)))) → ¬ (s = nI 47 ∧ isUn (St.getD (m + 1) zser) = false) → v_X3_joinTwo g κ (Qm g κ (fun v M' => v = some (.int (nI (if s = nI 47 ∧ isUn (St.getD (m + 1) zser) = false then false else true).toNat)) ∧ keep rdP M M' ∧ ((if s = nI 47 ∧ isUn (St.getD (m + 1) zser) = false then false else true) = true → PileIs (St.take m ++ [sjoin s (St.getD m zser) (St.getD (m + 1) zser)]) M'))) M' 131 [some (.ref (g.2.2.2.1 14)), some (.int s), some (.ref (g.2.2.2.1 (16 + m))), some (.ref (g.2.2.2.1 (16 + (m + 1))))] [] := by
      intro M' op hop hj hM' hne
      refine V.iconst (v := nI 1) dX3_joinTwo_131 rfl ?_
      refine V.zret dX3_joinTwo_132 rfl ?_
      rw [if_neg hne]
      refine ⟨rfl, ?_, fun _ => ?_⟩
      · rw [hM']; exact k0.as (by unfold rdP; omega)
      · have hl : (St.take m).length = m := by rw [List.length_take]; omega
        refine PileIs.top (by omega) ?_ (fun i hi => ?_) ?_
        · rw [hM', hl, aset_ne (by omega), mset_at]
        · rw [hM', aset_ne (by omega), mset_ne (by omega), take_getD (by omega)]
          exact t3 i (by omega)
        · rw [hl, hM', hj]
          refine aset_9.tr (hop _ _ _ _ ?_ ?_)
          · rw [mset_ne (by omega)]; exact hx
          · rw [mset_ne (by omega)]; exact hz
    have go : ¬ (s = nI 47 ∧ isUn (St.getD (m + 1) zser) = false) → v_X3_joinTwo g κ (Qm g κ (fun v M' => v = some (.int (nI (if s = nI 47 ∧ isUn (St.getD (m + 1) zser) = false then false else true).toNat)) ∧ keep rdP M M' ∧ ((if s = nI 47 ∧ isUn (St.getD (m + 1) zser) = false then false else true) = true → PileIs (St.take m ++ [sjoin s (St.getD m zser) (St.getD (m + 1) zser)]) M'))) (mset M 14 3 (nI (m + 1))) 57 [some (.ref (g.2.2.2.1 14)), some (.int s), some (.ref (g.2.2.2.1 (16 + m))), some (.ref (g.2.2.2.1 (16 + (m + 1))))] [] := by
      intro hne
      refine V.iload_n dX3_joinTwo_57 rfl ?_
      have m1 : 16 + m ∈ g.2.2.2.2 := hI _ (by omega)
      have m2 : 16 + (m + 1) ∈ g.2.2.2.2 := hI _ (by omega)
      have l1 : ial (16 + m) = 9 := ial_pile (by omega)
      have l2 : ial (16 + (m + 1)) = 9 := ial_pile (by omega)
      rcases hs with rfl | rfl | rfl | rfl
      · refine V.tableIn (tgt := 88) dX3_joinTwo_58 (by decide) (by decide) rfl (by decide) ?_
        refine V.aload_n dX3_joinTwo_88 rfl ?_
        refine V.aload_n dX3_joinTwo_89 rfl ?_
        refine V.iconst (v := nI 1) dX3_joinTwo_90 rfl ?_
        refine V.callSN dX3_joinTwo_91 (c_X7_addMultiple m1 l1 m2 l2 (by omega)) nlX3_76 st_X7_addMultiple cd_X7_addMultiple ini_X7 hd_X7_addMultiple ⟨Nat.le_of_ble_eq_true rfl, Nat.le_of_ble_eq_true rfl⟩ rfl (Nat.le_of_ble_eq_true rfl) (V.kkN ?_)
        refine V.goto (tgt := 131) dX3_joinTwo_94 (by decide) ?_
        exact fin _ (fun x z => fax x z (nI 1)) (fun _ _ _ _ => fax_cg) rfl rfl hne
      · refine V.tableIn (tgt := 97) dX3_joinTwo_58 (by decide) (by decide) rfl (by decide) ?_
        refine V.aload_n dX3_joinTwo_97 rfl ?_
        refine V.aload_n dX3_joinTwo_98 rfl ?_
        refine V.sipush (v := nI 9972) dX3_joinTwo_99 (by decide) ?_
        refine V.callSN dX3_joinTwo_102 (c_X7_addMultiple m1 l1 m2 l2 (by omega)) nlX3_76 st_X7_addMultiple cd_X7_addMultiple ini_X7 hd_X7_addMultiple ⟨Nat.le_of_ble_eq_true rfl, Nat.le_of_ble_eq_true rfl⟩ rfl (Nat.le_of_ble_eq_true rfl) (V.kkN ?_)
        refine V.goto (tgt := 131) dX3_joinTwo_105 (by decide) ?_
        exact fin _ (fun x z => fax x z (nI 9972)) (fun _ _ _ _ => fax_cg) rfl rfl hne
      · refine V.tableIn (tgt := 108) dX3_joinTwo_58 (by decide) (by decide) rfl (by decide) ?_
        refine V.aload_n dX3_joinTwo_108 rfl ?_
        refine V.getf (ci := 2) (k := 0) (C := RX3) (T := TX3) (N := 4) dX3_joinTwo_109 lfX3_24 inX3 rfl (by first | assumption | exact hI _ (by omega)) rfl (by decide) rfl ?_
        refine V.aload_n dX3_joinTwo_112 rfl ?_
        refine V.aload_n dX3_joinTwo_113 rfl ?_
        refine V.aload_n dX3_joinTwo_114 rfl ?_
        refine V.callV (ci := 3) (T := TX4) (N := 8) dX3_joinTwo_115 (c_X4_multiply m1 l1 m1 l1 m2 l2) lkX3_80 im_X4_multiply se_X4_multiply cd_X4_multiply ini_X4 rfl (by first | assumption | exact hI _ (by omega)) rfl hd_X4_multiply ⟨Nat.le_of_ble_eq_true rfl, Nat.le_of_ble_eq_true rfl⟩ rfl (Nat.le_of_ble_eq_true rfl) (V.kkN ?_)
        refine V.goto (tgt := 131) dX3_joinTwo_118 (by decide) ?_
        exact fin _ fprod (fun _ _ _ _ => fprod_cg) rfl rfl hne
      · refine V.tableOut (tgt := 121) dX3_joinTwo_58 (by decide) (by decide) ?_
        refine V.aload_n dX3_joinTwo_121 rfl ?_
        refine V.getf (ci := 2) (k := 0) (C := RX3) (T := TX3) (N := 4) dX3_joinTwo_122 lfX3_24 inX3 rfl (by first | assumption | exact hI _ (by omega)) rfl (by decide) rfl ?_
        refine V.aload_n dX3_joinTwo_125 rfl ?_
        refine V.aload_n dX3_joinTwo_126 rfl ?_
        refine V.aload_n dX3_joinTwo_127 rfl ?_
        refine V.callV (ci := 3) (T := TX4) (N := 8) dX3_joinTwo_128 (c_X4_divide m1 l1 m1 l1 m2 l2 (by omega)) lkX3_86 im_X4_divide se_X4_divide cd_X4_divide ini_X4 rfl (by first | assumption | exact hI _ (by omega)) rfl hd_X4_divide ⟨Nat.le_of_ble_eq_true rfl, Nat.le_of_ble_eq_true rfl⟩ rfl (Nat.le_of_ble_eq_true rfl) (V.kkN ?_)
        exact fin _ fdiv (fun _ _ _ _ => fdiv_cg) rfl rfl hne
    refine V.icmp_ne (tgt := 57) dX3_joinTwo_45 (by decide) (fun h2 => ?_) (fun h2 => ?_)
    · exact go (fun q => h2 q.1)
    · refine V.aload_n dX3_joinTwo_48 rfl ?_
      refine V.callS dX3_joinTwo_49 (c_X3_isUnit (hI _ (by omega)) (ial_pile (by omega))) lkX3_47 st_X3_isUnit cd_X3_isUnit ini_X3 hd_X3_isUnit ⟨Nat.le_of_ble_eq_true rfl, Nat.le_of_ble_eq_true rfl⟩ rfl (Nat.le_of_ble_eq_true rfl) (V.kkF ?_)
      rw [u1]
      refine V.if_neB (tgt := 57) dX3_joinTwo_52 (by decide) (fun h3 => ?_) (fun h3 => ?_)
      · exact go (fun q => by rw [h3] at q; exact absurd q.2 (by decide))
      · refine V.iconst (v := nI 0) dX3_joinTwo_55 rfl ?_
        refine V.zret dX3_joinTwo_56 rfl ?_
        rw [if_pos ⟨h2, h3⟩]
        exact ⟨rfl, k0, fun q => by cases q⟩
  · rw [if_pos (by omega)]
    refine V.iconst (v := nI 0) dX3_joinTwo_8 rfl ?_
    refine V.zret dX3_joinTwo_9 rfl ?_
    exact ⟨rfl, keep.rf, fun q => by cases q⟩

