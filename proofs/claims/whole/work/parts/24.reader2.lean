theorem PileIs.re {St : List Ser} {M M' : Mem} {x : Ser} (h : PileIs St M) (h0 : 0 < St.length) (k : keep (fun j => j = 16 + (St.length - 1) ∨ j = 32 ∨ (6 ≤ j ∧ j ≤ 9)) M M') (hx : eq9 (M' (16 + (St.length - 1))) x) : PileIs (St.take (St.length - 1) ++ [x]) M' := by
  obtain ⟨t1, t2, t3⟩ := h
  have hl : (St.take (St.length - 1)).length = St.length - 1 := by rw [List.length_take]; omega
  refine PileIs.top (by omega) ?_ (fun i hi => ?_) (by rw [hl]; exact hx)
  · rw [hl, k 14 (by omega), t1, show St.length - 1 + 1 = St.length by omega]
  · rw [k _ (by omega), take_getD (by omega)]; exact t3 i (by omega)
abbrev v_X3_goStep (g : Gl) (κ : Ka) (Q : State → Prop) (M : Mem) (pc : Nat) (L : List (Option Value)) (st : List Value) : Prop := V g cX3_goStep 3 yX3_goStep.cls (some .boolean) (rmd 5) Q κ M pc L st
theorem c_X3_goStep {g : Gl} {M : Mem} {s a : Int32} {St : List Ser} (hI : ∀ i, (1 ≤ i ∧ i ≤ 9) ∨ (14 ≤ i ∧ i ≤ 32) → i ∈ g.2.2.2.2) (h : PileIs St M) (hs : okStep (s, a)) : Ct g yX3_goStep cX3_goStep 3 (some .boolean) 5 [.ref (g.2.2.2.1 14), .int s, .int a] M (fun v M' => v = some (.int (nI (gStep (M 2) (M 3) (M 4) s a St).isSome.toNat)) ∧ keep rdP M M' ∧ ∀ St', gStep (M 2) (M 3) (M 4) s a St = some St' → PileIs St' M') := by
  obtain ⟨t1, t2, t3⟩ := id h
  obtain ⟨hs, n, hn, hna⟩ := hs
  dsimp only at hs hna
  subst hna
  refine Ct.ofV (by decide) (Nat.le_of_ble_eq_true rfl) (by simp [Value.category]) (fun κ => ?_)
  refine V.iload_n dX3_goStep_0 rfl ?_
  have join : (s = nI 43 ∨ s = nI 45 ∨ s = nI 42 ∨ s = nI 47) → v_X3_goStep g κ (Qm g κ (fun v M' => v = some (.int (nI (gStep (M 2) (M 3) (M 4) s (nI n) St).isSome.toNat)) ∧ keep rdP M M' ∧ ∀ St', gStep (M 2) (M 3) (M 4) s (nI n) St = some St' → PileIs St' M')) M 82 [some (.ref (g.2.2.2.1 14)), some (.int s), some (.int (nI n))] [] := by
    intro hj
    have n1 : ¬ s = nI 48 := by rintro rfl; revert hj; decide
    have n2 : ¬ s = nI 116 := by rintro rfl; revert hj; decide
    have e : gStep (M 2) (M 3) (M 4) s (nI n) St = if St.length < 2 then none else if s = nI 47 ∧ isUn (St.getD (St.length - 1) zser) = false then none else some (St.take (St.length - 2) ++ [sjoin s (St.getD (St.length - 2) zser) (St.getD (St.length - 1) zser)]) := by
      unfold gStep; rw [if_neg n1, if_neg n2, if_pos hj]
    rw [e]
    refine V.aload_n dX3_goStep_82 rfl ?_
    refine V.iload_n dX3_goStep_83 rfl ?_
    refine V.callV (ci := 2) (T := TX3) (N := 4) dX3_goStep_84 (c_X3_joinTwo hI h hj) lkX3_60 im_X3_joinTwo se_X3_joinTwo cd_X3_joinTwo ini_X3 rfl (by first | assumption | exact hI _ (by omega)) rfl hd_X3_joinTwo ⟨Nat.le_of_ble_eq_true rfl, Nat.le_of_ble_eq_true rfl⟩ rfl (Nat.le_of_ble_eq_true rfl) (V.kkX (fun M1 q1 => ?_))
    obtain ⟨k1, q1⟩ := q1
    by_cases a1 : St.length < 2
    · simp only [if_pos a1]
      refine V.zret dX3_goStep_87 rfl ?_
      exact ⟨rfl, k1, fun St' q => by cases q⟩
    · by_cases a2 : s = nI 47 ∧ isUn (St.getD (St.length - 1) zser) = false
      · simp only [if_neg a1, if_pos a2]
        refine V.zret dX3_goStep_87 rfl ?_
        exact ⟨rfl, k1, fun St' q => by cases q⟩
      · simp only [if_neg a1, if_neg a2] at q1 ⊢
        refine V.zret dX3_goStep_87 rfl ?_
        exact ⟨rfl, k1, fun St' q => by cases q; exact q1 trivial⟩
  have turn : (s = nI 105 ∨ s = nI 101 ∨ s = nI 113 ∨ s = nI 108) → v_X3_goStep g κ (Qm g κ (fun v M' => v = some (.int (nI (gStep (M 2) (M 3) (M 4) s (nI n) St).isSome.toNat)) ∧ keep rdP M M' ∧ ∀ St', gStep (M 2) (M 3) (M 4) s (nI n) St = some St' → PileIs St' M')) M 120 [some (.ref (g.2.2.2.1 14)), some (.int s), some (.int (nI n))] [] := by
    intro hj
    have n1 : ¬ s = nI 48 := by rintro rfl; revert hj; decide
    have n2 : ¬ s = nI 116 := by rintro rfl; revert hj; decide
    have n3 : ¬ (s = nI 43 ∨ s = nI 45 ∨ s = nI 42 ∨ s = nI 47) := by rintro (rfl | rfl | rfl | rfl) <;> revert hj <;> decide
    have n4 : ¬ s = nI 94 := by rintro rfl; revert hj; decide
    have e : gStep (M 2) (M 3) (M 4) s (nI n) St = if 0 < St.length then (if s = nI 105 then (if isDe (St.getD (St.length - 1) zser) = true then some (St.take (St.length - 1) ++ [fturn (St.getD (St.length - 1) zser)]) else none) else if St.getD (St.length - 1) zser 0 = 0 then some (St.take (St.length - 1) ++ [fput (sname (M 2) (M 3) (M 4) s) (St.getD (St.length - 1) zser)]) else none) else none := by
      unfold gStep; rw [if_neg n1, if_neg n2, if_neg n3, if_neg n4]
    refine V.aload_n dX3_goStep_120 rfl ?_
    refine V.getf (ci := 2) (k := 3) (C := RX3) (T := TX3) (N := 4) dX3_goStep_121 lfX3_20 inX3 rfl (by first | assumption | exact hI _ (by omega)) rfl (by decide) rfl ?_
    rw [t1]
    refine V.if_leN (tgt := 150) dX3_goStep_124 (by decide) (by omega) (fun h1 => ?_) (fun h1 => ?_)
    · refine V.iconst (v := nI 0) dX3_goStep_150 rfl ?_
      refine V.zret dX3_goStep_151 rfl ?_
      rw [e, if_neg (by omega)]
      exact ⟨rfl, keep.rf, fun St' q => by cases q⟩
    · rw [if_pos h1] at e
      refine V.aload_n dX3_goStep_127 rfl ?_
      refine V.iload_n dX3_goStep_128 rfl ?_
      refine V.aload_n dX3_goStep_129 rfl ?_
      refine V.getf (ci := 2) (k := 1) (C := RX3) (T := TX3) (N := 4) dX3_goStep_130 lfX3_11 inX3 rfl (by first | assumption | exact hI _ (by omega)) rfl (by decide) rfl ?_
      refine V.aload_n dX3_goStep_133 rfl ?_
      refine V.getf (ci := 2) (k := 3) (C := RX3) (T := TX3) (N := 4) dX3_goStep_134 lfX3_20 inX3 rfl (by first | assumption | exact hI _ (by omega)) rfl (by decide) rfl ?_
      rw [t1]
      refine V.iconst (v := nI 1) dX3_goStep_137 rfl ?_
      first | refine V.isubN dX3_goStep_138 (by omega) ?_ | refine V.isub dX3_goStep_138 ?_
      refine V.aald (n := 16) (t := 2) dX3_goStep_139 (by first | assumption | exact hI _ (by omega)) rfl rfl rfl (by decide) (by omega) ?_
      have hx := t3 (St.length - 1) (by omega)
      refine V.callV (ci := 2) (T := TX3) (N := 4) dX3_goStep_140 (c_X3_turn hI (i := 16 + (St.length - 1)) (by omega) (ial_pile (by omega)) hj) lkX3_68 im_X3_turn se_X3_turn cd_X3_turn ini_X3 rfl (by first | assumption | exact hI _ (by omega)) rfl hd_X3_turn ⟨Nat.le_of_ble_eq_true rfl, Nat.le_of_ble_eq_true rfl⟩ rfl (Nat.le_of_ble_eq_true rfl) (V.kkX (fun M1 q1 => ?_))
      obtain ⟨k1, q1⟩ := q1
      have ed : isDe (M (16 + (St.length - 1))) = isDe (St.getD (St.length - 1) zser) := by unfold isDe; rw [hx 0 (by decide), hx 1 (by decide)]
      have kr : keep rdP M M1 := k1.wk (fun j hj => by unfold rdP; omega)
      by_cases h105 : s = nI 105
      · simp only [if_pos h105] at q1 e ⊢
        rw [ed] at q1 ⊢
        refine V.if_eqB (tgt := 150) dX3_goStep_143 (by decide) (fun h2 => ?_) (fun h2 => ?_)
        · refine V.iconst (v := nI 0) dX3_goStep_150 rfl ?_
          refine V.zret dX3_goStep_151 rfl ?_
          rw [e, if_neg (by rw [h2]; decide)]
          exact ⟨rfl, kr, fun St' q => by cases q⟩
        · refine V.iconst (v := nI 1) dX3_goStep_146 rfl ?_
          refine V.goto (tgt := 151) dX3_goStep_147 (by decide) ?_
          refine V.zret dX3_goStep_151 rfl ?_
          rw [e, if_pos h2]
          exact ⟨rfl, kr, fun St' q => by
            cases q
            exact h.re h1 (k1.wk (fun j hj => by omega)) ((q1 h2).tr (fturn_cg hx))⟩
      · simp only [if_neg h105] at q1 e ⊢
        rw [hx 0 (by decide)] at q1 ⊢
        refine V.if_eqB (tgt := 150) dX3_goStep_143 (by decide) (fun h2 => ?_) (fun h2 => ?_)
        · refine V.iconst (v := nI 0) dX3_goStep_150 rfl ?_
          refine V.zret dX3_goStep_151 rfl ?_
          rw [e, if_neg (by simpa using h2)]
          exact ⟨rfl, kr, fun St' q => by cases q⟩
        · refine V.iconst (v := nI 1) dX3_goStep_146 rfl ?_
          refine V.goto (tgt := 151) dX3_goStep_147 (by decide) ?_
          refine V.zret dX3_goStep_151 rfl ?_
          rw [e, if_pos (by simpa using h2)]
          exact ⟨rfl, kr, fun St' q => by
            cases q
            exact h.re h1 (k1.wk (fun j hj => by omega)) ((q1 h2).tr (fput_cg eq9.rf hx))⟩
  rcases hs with rfl | rfl | rfl | rfl | rfl | rfl | rfl | rfl | rfl | rfl | rfl
  · refine V.lookup (tgt := 68) dX3_goStep_1 (by decide) rfl (by decide) ?_
    have e : gStep (M 2) (M 3) (M 4) (nI 48) (nI n) St = if St.length < 16 then some (St ++ [mono 0 (nI n)]) else none := by unfold gStep; rw [if_pos rfl]
    rw [e]
    refine V.aload_n dX3_goStep_68 rfl ?_
    refine V.iconst (v := nI 0) dX3_goStep_69 rfl ?_
    refine V.iload_n dX3_goStep_70 rfl ?_
    refine V.callV (ci := 2) (T := TX3) (N := 4) dX3_goStep_71 (c_X3_pushMonomial (k := 0) hI (by decide) h) lkX3_57 im_X3_pushMonomial se_X3_pushMonomial cd_X3_pushMonomial ini_X3 rfl (by first | assumption | exact hI _ (by omega)) rfl hd_X3_pushMonomial ⟨Nat.le_of_ble_eq_true rfl, Nat.le_of_ble_eq_true rfl⟩ rfl (Nat.le_of_ble_eq_true rfl) (V.kkX (fun M1 q1 => ?_))
    by_cases a1 : St.length < 16
    · rw [if_pos a1, decide_eq_true a1]
      refine V.zret dX3_goStep_74 rfl ?_
      exact ⟨rfl, q1.1, fun St' q => by cases q; exact q1.2 a1⟩
    · rw [if_neg a1, decide_eq_false a1]
      refine V.zret dX3_goStep_74 rfl ?_
      exact ⟨rfl, q1.1, fun St' q => by cases q⟩
  · refine V.lookup (tgt := 75) dX3_goStep_1 (by decide) rfl (by decide) ?_
    have e : gStep (M 2) (M 3) (M 4) (nI 116) (nI n) St = if St.length < 16 then some (St ++ [mono 1 (nI 1)]) else none := by unfold gStep; rw [if_neg (by decide), if_pos rfl]
    rw [e]
    refine V.aload_n dX3_goStep_75 rfl ?_
    refine V.iconst (v := nI 1) dX3_goStep_76 rfl ?_
    refine V.iconst (v := nI 1) dX3_goStep_77 rfl ?_
    refine V.callV (ci := 2) (T := TX3) (N := 4) dX3_goStep_78 (c_X3_pushMonomial (k := 1) hI (by decide) h) lkX3_57 im_X3_pushMonomial se_X3_pushMonomial cd_X3_pushMonomial ini_X3 rfl (by first | assumption | exact hI _ (by omega)) rfl hd_X3_pushMonomial ⟨Nat.le_of_ble_eq_true rfl, Nat.le_of_ble_eq_true rfl⟩ rfl (Nat.le_of_ble_eq_true rfl) (V.kkX (fun M1 q1 => ?_))
    by_cases a1 : St.length < 16
    · rw [if_pos a1, decide_eq_true a1]
      refine V.zret dX3_goStep_81 rfl ?_
      exact ⟨rfl, q1.1, fun St' q => by cases q; exact q1.2 a1⟩
    · rw [if_neg a1, decide_eq_false a1]
      refine V.zret dX3_goStep_81 rfl ?_
      exact ⟨rfl, q1.1, fun St' q => by cases q⟩
  · exact V.lookup (tgt := 82) dX3_goStep_1 (by decide) rfl (by decide) (join (by decide))
  · exact V.lookup (tgt := 82) dX3_goStep_1 (by decide) rfl (by decide) (join (by decide))
  · exact V.lookup (tgt := 82) dX3_goStep_1 (by decide) rfl (by decide) (join (by decide))
  · exact V.lookup (tgt := 82) dX3_goStep_1 (by decide) rfl (by decide) (join (by decide))
  · refine V.lookup (tgt := 88) dX3_goStep_1 (by decide) rfl (by decide) ?_
    have e : gStep (M 2) (M 3) (M 4) (nI 94) (nI n) St = if 0 < St.length then some (St.take (St.length - 1) ++ [fpow (St.getD (St.length - 1) zser) (nI n).toNatClampNeg]) else none := by
      unfold gStep; rw [if_neg (by decide), if_neg (by decide), if_neg (by decide), if_pos rfl]
    rw [nI_clamp (by omega)] at e
    rw [e]
    refine V.aload_n dX3_goStep_88 rfl ?_
    refine V.getf (ci := 2) (k := 3) (C := RX3) (T := TX3) (N := 4) dX3_goStep_89 lfX3_20 inX3 rfl (by first | assumption | exact hI _ (by omega)) rfl (by decide) rfl ?_
    rw [t1]
    refine V.if_leN (tgt := 118) dX3_goStep_92 (by decide) (by omega) (fun h1 => ?_) (fun h1 => ?_)
    · refine V.iconst (v := nI 0) dX3_goStep_118 rfl ?_
      refine V.zret dX3_goStep_119 rfl ?_
      rw [if_neg (by omega)]
      exact ⟨rfl, keep.rf, fun St' q => by cases q⟩
    · rw [if_pos h1]
      refine V.aload_n dX3_goStep_95 rfl ?_
      refine V.aload_n dX3_goStep_96 rfl ?_
      refine V.getf (ci := 2) (k := 1) (C := RX3) (T := TX3) (N := 4) dX3_goStep_97 lfX3_11 inX3 rfl (by first | assumption | exact hI _ (by omega)) rfl (by decide) rfl ?_
      refine V.aload_n dX3_goStep_100 rfl ?_
      refine V.getf (ci := 2) (k := 3) (C := RX3) (T := TX3) (N := 4) dX3_goStep_101 lfX3_20 inX3 rfl (by first | assumption | exact hI _ (by omega)) rfl (by decide) rfl ?_
      rw [t1]
      refine V.iconst (v := nI 1) dX3_goStep_104 rfl ?_
      first | refine V.isubN dX3_goStep_105 (by omega) ?_ | refine V.isub dX3_goStep_105 ?_
      refine V.aald (n := 16) (t := 2) dX3_goStep_106 (by first | assumption | exact hI _ (by omega)) rfl rfl rfl (by decide) (by omega) ?_
      refine V.iload_n dX3_goStep_107 rfl ?_
      have hx := t3 (St.length - 1) (by omega)
      refine V.callV (ci := 2) (T := TX3) (N := 4) dX3_goStep_108 (c_X3_toPower hI (i := 16 + (St.length - 1)) (by omega) (ial_pile (by omega)) hn) lkX3_64 im_X3_toPower se_X3_toPower cd_X3_toPower ini_X3 rfl (by first | assumption | exact hI _ (by omega)) rfl hd_X3_toPower ⟨Nat.le_of_ble_eq_true rfl, Nat.le_of_ble_eq_true rfl⟩ rfl (Nat.le_of_ble_eq_true rfl) (V.kkX (fun M1 q1 => ?_))
      refine V.if_eqN (tgt := 118) dX3_goStep_111 (by decide) (by omega) (fun h2 => ?_) (fun h2 => ?_)
      · omega
      · refine V.iconst (v := nI 1) dX3_goStep_114 rfl ?_
        refine V.goto (tgt := 119) dX3_goStep_115 (by decide) ?_
        refine V.zret dX3_goStep_119 rfl ?_
        exact ⟨rfl, q1.1.wk (fun j hj => by unfold rdP; omega), fun St' q => by
          cases q
          exact h.re h1 (q1.1.wk (fun j hj => by omega)) (q1.2.tr (fpow_cg hx n))⟩
  · exact V.lookup (tgt := 120) dX3_goStep_1 (by decide) rfl (by decide) (turn (by decide))
  · exact V.lookup (tgt := 120) dX3_goStep_1 (by decide) rfl (by decide) (turn (by decide))
  · exact V.lookup (tgt := 120) dX3_goStep_1 (by decide) rfl (by decide) (turn (by decide))
  · exact V.lookup (tgt := 120) dX3_goStep_1 (by decide) rfl (by decide) (turn (by decide))
/-- whether what is told is fit: a UNIT, a DELTA -/
def gFit (o : Option (List Ser)) : Bool := match o with
  | some St => decide (St.length = 2) && (isUn (St.getD 0 zser) && isDe (St.getD 1 zser))
  | none => false
abbrev v_X3_reckon (g : Gl) (κ : Ka) (Q : State → Prop) (M : Mem) (pc : Nat) (L : List (Option Value)) (st : List Value) : Prop := V g cX3_reckon 3 yX3_reckon.cls (some .boolean) (rmd 6) Q κ M pc L st
theorem c_X3_reckon {g : Gl} {M : Mem} {S : Stp2} (hI : ∀ i, (1 ≤ i ∧ i ≤ 32) → i ∈ g.2.2.2.2) (h2 : M 10 2 = nI S.length) (hl : S.length ≤ 120) (hS : ∀ i, i < S.length → M 11 i = (S.getD i (0, 0)).1 ∧ M 12 i = (S.getD i (0, 0)).2) (hok : ∀ x ∈ S, okStep x) : Ct g yX3_reckon cX3_reckon 3 (some .boolean) 6 [.ref (g.2.2.2.1 14), .ref (g.2.2.2.1 10)] M (fun v M' => v = some (.int (nI (gFit (gRun (M 2) (M 3) (M 4) S [])).toNat)) ∧ keep rdP M M' ∧ ∀ St, gRun (M 2) (M 3) (M 4) S [] = some St → PileIs St M') := by
  have hI1 : ∀ i, (1 ≤ i ∧ i ≤ 9) ∨ (14 ≤ i ∧ i ≤ 32) → i ∈ g.2.2.2.2 := fun i h => hI i (by omega)
  refine Ct.ofV (by decide) (Nat.le_of_ble_eq_true rfl) (by simp [Value.category]) (fun κ => ?_)
  refine V.aload_n dX3_reckon_0 rfl ?_
  refine V.iconst (v := nI 0) dX3_reckon_1 rfl ?_
  refine V.putf (ci := 2) (k := 3) (C := RX3) (T := TX3) (N := 4) (ty := .int) tyX3 dX3_reckon_2 lfX3_20 inX3 tyX3_ok nmX3 rfl (by first | assumption | exact hI _ (by omega)) rfl (by decide) rfl rfl rfl rfl (Nat.le_of_ble_eq_true rfl) rfl ?_
  refine V.iconst (v := nI 0) dX3_reckon_5 rfl ?_
  refine V.istore_n dX3_reckon_6 (by decide) ?_
  have lp := up_loop S.length (fun i => ∀ (M1 : Mem) (St : List Ser), keep rdP M M1 → PileIs St M1 → gRun (M 2) (M 3) (M 4) (S.drop i) St = gRun (M 2) (M 3) (M 4) S [] → v_X3_reckon g κ (Qm g κ (fun v M' => v = some (.int (nI (gFit (gRun (M 2) (M 3) (M 4) S [])).toNat)) ∧ keep rdP M M' ∧ ∀ St, gRun (M 2) (M 3) (M 4) S [] = some St → PileIs St M')) M1 7 [some (.ref (g.2.2.2.1 14)), some (.ref (g.2.2.2.1 10)), some (.int (nI i))] []) (fun i hi ih M1 St k1 p1 he => ?_) 0 (by omega)
  · refine lp _ [] ((keep.rf (P := rdP)).ms (by unfold rdP; omega)) ⟨by rw [mset_at]; rfl, by decide, fun i hi => by simp at hi⟩ rfl
  · have c2 : M1 2 = M 2 := k1 2 (by unfold rdP; omega)
    have c3 : M1 3 = M 3 := k1 3 (by unfold rdP; omega)
    have c4 : M1 4 = M 4 := k1 4 (by unfold rdP; omega)
    refine V.iload_n dX3_reckon_7 rfl ?_
    refine V.aload_n dX3_reckon_8 rfl ?_
    refine V.getf (ci := 5) (k := 2) (C := RX6) (T := TX6) (N := 8) dX3_reckon_9 lfX3_28 inX6 rfl (by first | assumption | exact hI _ (by omega)) rfl (by decide) rfl ?_
    rw [k1 10 (by unfold rdP; omega), h2]
    refine V.geN (tgt := 42) dX3_reckon_12 (by decide) (by omega) (by omega) (fun h3 => ?_) (fun h3 => ?_)
    · have e : i = S.length := by omega
      subst e
      rw [List.drop_length] at he
      have he2 : gRun (M 2) (M 3) (M 4) S [] = some St := he.symm
      rw [he2]
      obtain ⟨t1, t2, t3⟩ := id p1
      refine V.aload_n dX3_reckon_42 rfl ?_
      refine V.getf (ci := 2) (k := 3) (C := RX3) (T := TX3) (N := 4) dX3_reckon_43 lfX3_20 inX3 rfl (by first | assumption | exact hI _ (by omega)) rfl (by decide) rfl ?_
      rw [t1]
      refine V.iconst (v := nI 2) dX3_reckon_46 rfl ?_
      refine V.neN (tgt := 74) dX3_reckon_47 (by decide) (by omega) (by omega) (fun h4 => ?_) (fun h4 => ?_)
      · refine V.iconst (v := nI 0) dX3_reckon_74 rfl ?_
        refine V.zret dX3_reckon_75 rfl ?_
        exact ⟨by simp only [gFit]; rw [decide_eq_false h4]; rfl, k1, fun St' q => by cases q; exact p1⟩
      · have g0 := t3 0 (by omega)
        have g1 := t3 1 (by omega)
        refine V.aload_n dX3_reckon_50 rfl ?_
        refine V.callV (ci := 2) (T := TX3) (N := 4) dX3_reckon_51 (c_X3_toldG hI1) lkX3_43 im_X3_toldG se_X3_toldG cd_X3_toldG ini_X3 rfl (by first | assumption | exact hI _ (by omega)) rfl hd_X3_toldG ⟨Nat.le_of_ble_eq_true rfl, Nat.le_of_ble_eq_true rfl⟩ rfl (Nat.le_of_ble_eq_true rfl) (V.kkA ?_)
        refine V.callS dX3_reckon_54 (c_X3_isUnit (hI 16 (by omega)) rfl) lkX3_47 st_X3_isUnit cd_X3_isUnit ini_X3 hd_X3_isUnit ⟨Nat.le_of_ble_eq_true rfl, Nat.le_of_ble_eq_true rfl⟩ rfl (Nat.le_of_ble_eq_true rfl) (V.kkF ?_)
        rw [show isUn (M1 16) = isUn (St.getD 0 zser) by unfold isUn; rw [g0 0 (by decide)]]
        refine V.if_eqB (tgt := 74) dX3_reckon_57 (by decide) (fun h5 => ?_) (fun h5 => ?_)
        · refine V.iconst (v := nI 0) dX3_reckon_74 rfl ?_
          refine V.zret dX3_reckon_75 rfl ?_
          exact ⟨by simp only [gFit]; rw [decide_eq_true h4, h5]; rfl, k1, fun St' q => by cases q; exact p1⟩
        · refine V.aload_n dX3_reckon_60 rfl ?_
          refine V.callV (ci := 2) (T := TX3) (N := 4) dX3_reckon_61 (c_X3_toldF hI1) lkX3_51 im_X3_toldF se_X3_toldF cd_X3_toldF ini_X3 rfl (by first | assumption | exact hI _ (by omega)) rfl hd_X3_toldF ⟨Nat.le_of_ble_eq_true rfl, Nat.le_of_ble_eq_true rfl⟩ rfl (Nat.le_of_ble_eq_true rfl) (V.kkA ?_)
          refine V.callS dX3_reckon_64 (c_X3_isDelta (hI 17 (by omega)) rfl) lkX3_54 st_X3_isDelta cd_X3_isDelta ini_X3 hd_X3_isDelta ⟨Nat.le_of_ble_eq_true rfl, Nat.le_of_ble_eq_true rfl⟩ rfl (Nat.le_of_ble_eq_true rfl) (V.kkF ?_)
          rw [show isDe (M1 17) = isDe (St.getD 1 zser) by unfold isDe; rw [g1 0 (by decide), g1 1 (by decide)]]
          refine V.if_eqB (tgt := 74) dX3_reckon_67 (by decide) (fun h6 => ?_) (fun h6 => ?_)
          · refine V.iconst (v := nI 0) dX3_reckon_74 rfl ?_
            refine V.zret dX3_reckon_75 rfl ?_
            exact ⟨by simp only [gFit]; rw [decide_eq_true h4, h5, h6]; rfl, k1, fun St' q => by cases q; exact p1⟩
          · refine V.iconst (v := nI 1) dX3_reckon_70 rfl ?_
            refine V.goto (tgt := 75) dX3_reckon_71 (by decide) ?_
            refine V.zret dX3_reckon_75 rfl ?_
            exact ⟨by simp only [gFit]; rw [decide_eq_true h4, h5, h6]; rfl, k1, fun St' q => by cases q; exact p1⟩
    · have hd : S.drop i = S.getD i (0, 0) :: S.drop (i + 1) := by
        rw [List.drop_eq_getElem_cons h3, List.getD_eq_getElem?_getD, List.getElem?_eq_getElem h3]; rfl
      rw [hd] at he
      have hm : S.getD i (0, 0) ∈ S := by
        rw [List.getD_eq_getElem?_getD, List.getElem?_eq_getElem h3]
        exact List.getElem_mem h3
      have hk := hok _ hm
      obtain ⟨s1, s2⟩ := hS i h3
      refine V.aload_n dX3_reckon_15 rfl ?_
      refine V.aload_n dX3_reckon_16 rfl ?_
      refine V.getf (ci := 5) (k := 0) (C := RX6) (T := TX6) (N := 8) dX3_reckon_17 lfX3_33 inX6 rfl (by first | assumption | exact hI _ (by omega)) rfl (by decide) rfl ?_
      refine V.iload_n dX3_reckon_20 rfl ?_
      refine V.iald (n := 120) dX3_reckon_21 (by first | assumption | exact hI _ (by omega)) (by first | assumption | decide) (by omega) ?_
      refine V.aload_n dX3_reckon_22 rfl ?_
      refine V.getf (ci := 5) (k := 1) (C := RX6) (T := TX6) (N := 8) dX3_reckon_23 lfX3_36 inX6 rfl (by first | assumption | exact hI _ (by omega)) rfl (by decide) rfl ?_
      refine V.iload_n dX3_reckon_26 rfl ?_
      refine V.iald (n := 120) dX3_reckon_27 (by first | assumption | exact hI _ (by omega)) (by first | assumption | decide) (by omega) ?_
      rw [k1 11 (by unfold rdP; omega), k1 12 (by unfold rdP; omega), s1, s2]
      generalize S.getD i (0, 0) = x at he hk
      refine V.callV (ci := 2) (T := TX3) (N := 4) dX3_reckon_28 (c_X3_goStep hI1 p1 hk) lkX3_39 im_X3_goStep se_X3_goStep cd_X3_goStep ini_X3 rfl (by first | assumption | exact hI _ (by omega)) rfl hd_X3_goStep ⟨Nat.le_of_ble_eq_true rfl, Nat.le_of_ble_eq_true rfl⟩ rfl (Nat.le_of_ble_eq_true rfl) (V.kkX (fun M2 q2 => ?_))
      obtain ⟨k2, q2⟩ := q2
      rw [c2, c3, c4] at q2 ⊢
      have he2 : (gStep (M 2) (M 3) (M 4) x.1 x.2 St).bind (gRun (M 2) (M 3) (M 4) (S.drop (i + 1))) = gRun (M 2) (M 3) (M 4) S [] := he
      cases hg : gStep (M 2) (M 3) (M 4) x.1 x.2 St with
      | none =>
        rw [hg] at he2
        have e3 : gRun (M 2) (M 3) (M 4) S [] = none := he2.symm
        refine V.if_neB (tgt := 36) dX3_reckon_31 (by decide) (fun h4 => ?_) (fun h4 => ?_)
        · cases h4
        · refine V.iconst (v := nI 0) dX3_reckon_34 rfl ?_
          refine V.zret dX3_reckon_35 rfl ?_
          rw [e3]
          exact ⟨rfl, k1.tr k2, fun St' q => by cases q⟩
      | some St' =>
        rw [hg] at he2
        refine V.if_neB (tgt := 36) dX3_reckon_31 (by decide) (fun h4 => ?_) (fun h4 => ?_)
        · refine V.iincN dX3_reckon_36 (by decide) rfl ?_
          refine V.goto (tgt := 7) dX3_reckon_39 (by decide) ?_
          exact ih h3 M2 St' (k1.tr k2) (q2 St' hg) he2
        · cases h4

