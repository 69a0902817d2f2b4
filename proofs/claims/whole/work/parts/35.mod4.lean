abbrev v_X8_falls (g : Gl) (κ : Ka) (Q : State → Prop) (M : Mem) (pc : Nat) (L : List (Option Value)) (st : List Value) : Prop := V g cX8_falls 4 yX8_falls.cls (some .int) (rmd 1) Q κ M pc L st
theorem c_X8_falls {g : Gl} {M : Mem} {j k : Nat} (hj : j < 1000) (hk : k < 1000) : Ct g yX8_falls cX8_falls 4 (some .int) 1 [.int (nI j), .int (nI k)] M (fun v M' => v = some (.int (mfal j k)) ∧ M' = M) := by
  refine Ct.ofV (by decide) (Nat.le_of_ble_eq_true rfl) (by simp [Value.category]) (fun κ => ?_)
  refine V.iconst (v := nI 1) dX8_falls_0 rfl ?_
  refine V.istore_n dX8_falls_1 (by decide) ?_
  refine V.iconst (v := nI 1) dX8_falls_2 rfl ?_
  refine V.istore_n dX8_falls_3 (by decide) ?_
  have lp := up_loop (k + 1) (fun x => 1 ≤ x → v_X8_falls g κ (Qm g κ (fun v M' => v = some (.int (mfal j k)) ∧ M' = M)) M 4 [some (.int (nI j)), some (.int (nI k)), some (.int (mfal j (x - 1))), some (.int (nI x))] []) (fun x hx ih h1 => ?_) 1 (by omega) (by omega)
  · exact lp
  · refine V.iload_n dX8_falls_4 rfl ?_
    refine V.iload_n dX8_falls_5 rfl ?_
    refine V.gtN (tgt := 23) dX8_falls_6 (by decide) (by omega) (by omega) (fun h2 => ?_) (fun h2 => ?_)
    · have e : x = k + 1 := by omega
      subst e
      refine V.iload_n dX8_falls_23 rfl ?_
      refine V.iret dX8_falls_24 ?_
      exact ⟨rfl, rfl⟩
    · refine V.iload_n dX8_falls_9 rfl ?_
      refine V.iload_n dX8_falls_10 rfl ?_
      refine V.iload_n dX8_falls_11 rfl ?_
      first | refine V.iaddN dX8_falls_12 ?_ | refine V.iadd dX8_falls_12 ?_
      refine V.callS dX8_falls_13 (c_X8_product) lkX8_108 st_X8_product cd_X8_product ini_X8 hd_X8_product ⟨Nat.le_of_ble_eq_true rfl, Nat.le_of_ble_eq_true rfl⟩ rfl (Nat.le_of_ble_eq_true rfl) (V.kkF ?_)
      refine V.istore_n dX8_falls_16 (by decide) ?_
      refine V.iincN dX8_falls_17 (by decide) rfl ?_
      refine V.goto (tgt := 4) dX8_falls_20 (by decide) ?_
      have e := ih (by omega) (by omega)
      rw [show x + 1 - 1 = (x - 1) + 1 by omega] at e
      simp only [mfal] at e
      rw [show x - 1 + 1 = x by omega] at e
      exact e
abbrev v_X8_solves (g : Gl) (κ : Ka) (Q : State → Prop) (M : Mem) (pc : Nat) (L : List (Option Value)) (st : List Value) : Prop := V g cX8_solves 8 yX8_solves.cls none (rmd 2) Q κ M pc L st
theorem c_X8_solves {g : Gl} {M : Mem} {r d : Nat} (hI : ∀ i, 142 ≤ i ∧ i < 174 → i ∈ g.2.2.2.2) (hr : r < 4) (hd : d ∈ g.2.2.2.2) (ld : ial d = 9) (hd1 : d ≠ 171) : Ct g yX8_solves cX8_solves 8 none 2 [.ref (g.2.2.2.1 142), .int (nI r), .ref (g.2.2.2.1 d), .ref (g.2.2.2.1 171)] M (fun v M' => v = none ∧ keep (fun q => q = 171) M M' ∧ (∀ u, 1 ≤ u → u < 9 → M' 171 u = msolve (sl (M 144) (9 * r)) (M d) u) ∧ M' 171 0 = M 171 0) := by
  refine Ct.ofV (by decide) (Nat.le_of_ble_eq_true rfl) (by simp [Value.category]) (fun κ => ?_)
  refine V.bipush (v := nI 9) dX8_solves_0 (by decide) ?_
  refine V.iload_n dX8_solves_2 rfl ?_
  first | refine V.imulN dX8_solves_3 ?_ | refine V.imul dX8_solves_3 ?_
  refine V.istore dX8_solves_4 (by decide) ?_
  refine V.bipush (v := nI 7) dX8_solves_6 (by decide) ?_
  refine V.istore dX8_solves_8 (by decide) ?_
  have lp := dn_loop (fun k => k ≤ 8 → ∀ M1 x6 x7, keep (fun q => q = 171) M M1 → (∀ u, k < u → u < 9 → M1 171 u = msv (sl (M 144) (9 * r)) (M d) (8 - k) u) → M1 171 0 = M 171 0 → v_X8_solves g κ (Qm g κ (fun v M' => v = none ∧ keep (fun q => q = 171) M M' ∧ (∀ u, 1 ≤ u → u < 9 → M' 171 u = msolve (sl (M 144) (9 * r)) (M d) u) ∧ M' 171 0 = M 171 0)) M1 10 [some (.ref (g.2.2.2.1 142)), some (.int (nI r)), some (.ref (g.2.2.2.1 d)), some (.ref (g.2.2.2.1 171)), some (.int (nI (9 * r))), some (.int (nI k - 1)), x6, x7] []) (fun k ih hk M1 x6 x7 k1 k2 k3 => ?_) 8 (by omega)
  · exact lp M _ _ keep.rf (fun u h1 h2 => by omega) rfl
  · refine V.iload dX8_solves_10 rfl ?_
    refine V.if_ltD (tgt := 113) dX8_solves_12 (by decide) (by omega) (fun h1 => ?_) (fun j h1 => ?_)
    · subst h1
      refine V.vret dX8_solves_113 ?_
      exact ⟨rfl, k1, fun u h1 h2 => k2 u (by omega) h2, k3⟩
    · subst h1
      rw [nI_pred]
      refine V.aload_n dX8_solves_15 rfl ?_
      refine V.iload dX8_solves_16 rfl ?_
      refine V.iald (n := 9) dX8_solves_18 (by first | assumption | exact hI _ (by omega)) (by first | assumption | decide) (by omega) ?_
      rw [k1 d hd1]
      refine V.istore dX8_solves_19 (by decide) ?_
      refine V.iconst (v := nI 2) dX8_solves_21 rfl ?_
      refine V.istore dX8_solves_22 (by decide) ?_
      have l2 := up_loop (9 - j) (fun q => 2 ≤ q → v_X8_solves g κ (Qm g κ (fun v M' => v = none ∧ keep (fun q => q = 171) M M' ∧ (∀ u, 1 ≤ u → u < 9 → M' 171 u = msolve (sl (M 144) (9 * r)) (M d) u) ∧ M' 171 0 = M 171 0)) M1 24 [some (.ref (g.2.2.2.1 142)), some (.int (nI r)), some (.ref (g.2.2.2.1 d)), some (.ref (g.2.2.2.1 171)), some (.int (nI (9 * r))), some (.int (nI j)), some (.int (msl (sl (M 144) (9 * r)) (M d) (msv (sl (M 144) (9 * r)) (M d) (7 - j)) j (q - 2))), some (.int (nI q))] []) (fun q hq iq h2 => ?_) 2 (by omega) (by omega)
      · exact l2
      · refine V.iload dX8_solves_24 rfl ?_
        refine V.iload dX8_solves_26 rfl ?_
        first | refine V.iaddN dX8_solves_28 ?_ | refine V.iadd dX8_solves_28 ?_
        refine V.bipush (v := nI 9) dX8_solves_29 (by decide) ?_
        refine V.geN (tgt := 77) dX8_solves_31 (by decide) (by omega) (by omega) (fun h3 => ?_) (fun h3 => ?_)
        · have e : q = 9 - j := by omega
          subst e
          refine V.aload_n dX8_solves_77 rfl ?_
          refine V.iload dX8_solves_78 rfl ?_
          refine V.iconst (v := nI 1) dX8_solves_80 rfl ?_
          first | refine V.iaddN dX8_solves_81 ?_ | refine V.iadd dX8_solves_81 ?_
          refine V.iload dX8_solves_82 rfl ?_
          refine V.aload_n dX8_solves_84 rfl ?_
          refine V.getf (ci := 7) (k := 1) (C := RX8) (T := TX8) (N := 37) dX8_solves_85 lfX8_13 inX8 rfl (by first | assumption | exact hI _ (by omega)) rfl (by decide) rfl ?_
          refine V.iload dX8_solves_88 rfl ?_
          refine V.iconst (v := nI 1) dX8_solves_90 rfl ?_
          first | refine V.iaddN dX8_solves_91 ?_ | refine V.iadd dX8_solves_91 ?_
          refine V.iald (n := 36) dX8_solves_92 (by first | assumption | exact hI _ (by omega)) (by first | assumption | decide) (by omega) ?_
          refine V.iload dX8_solves_93 rfl ?_
          refine V.iconst (v := nI 1) dX8_solves_95 rfl ?_
          first | refine V.iaddN dX8_solves_96 ?_ | refine V.iadd dX8_solves_96 ?_
          refine V.callS dX8_solves_97 (c_X8_product) lkX8_108 st_X8_product cd_X8_product ini_X8 hd_X8_product ⟨Nat.le_of_ble_eq_true rfl, Nat.le_of_ble_eq_true rfl⟩ rfl (Nat.le_of_ble_eq_true rfl) (V.kkF ?_)
          refine V.callS dX8_solves_100 (c_X8_over) lkX8_126 st_X8_over cd_X8_over ini_X8 hd_X8_over ⟨Nat.le_of_ble_eq_true rfl, Nat.le_of_ble_eq_true rfl⟩ rfl (Nat.le_of_ble_eq_true rfl) (V.kkF ?_)
          refine V.callS dX8_solves_103 (c_X8_product) lkX8_108 st_X8_product cd_X8_product ini_X8 hd_X8_product ⟨Nat.le_of_ble_eq_true rfl, Nat.le_of_ble_eq_true rfl⟩ rfl (Nat.le_of_ble_eq_true rfl) (V.kkF ?_)
          refine V.iast (n := 9) dX8_solves_106 (by first | assumption | exact hI _ (by omega)) (by first | assumption | decide) (by omega) ?_
          refine V.iincD dX8_solves_107 (by decide) rfl ?_
          refine V.goto (tgt := 10) dX8_solves_110 (by decide) ?_
          refine ih j rfl (by omega) _ _ _ (k1.ms rfl) (fun u h4 h5 => ?_) (by rw [mset_nat (by omega)]; exact k3)
          rw [show 8 - j = (7 - j) + 1 by omega]
          show _ = if u = 8 - (7 - j) then fmul (msl _ _ (msv _ _ (7 - j)) (7 - (7 - j)) (7 - j)) (finv (fmul (sl (M 144) (9 * r) 1) (nI (7 - (7 - j) + 1)))) else msv _ _ (7 - j) u
          rw [show 8 - (7 - j) = j + 1 by omega, show 7 - (7 - j) = j by omega]
          by_cases e : u = j + 1
          · subst e
            rw [mset_at, if_pos rfl, k1 144 (by decide), show 9 - j - 2 = 7 - j by omega]; rfl
          · rw [mset_nat e, if_neg e]
            have := k2 u (by omega) h5
            rw [show 8 - (j + 1) = 7 - j by omega] at this
            exact this
        · refine V.iload dX8_solves_34 rfl ?_
          refine V.aload_n dX8_solves_36 rfl ?_
          refine V.getf (ci := 7) (k := 1) (C := RX8) (T := TX8) (N := 37) dX8_solves_37 lfX8_13 inX8 rfl (by first | assumption | exact hI _ (by omega)) rfl (by decide) rfl ?_
          refine V.iload dX8_solves_40 rfl ?_
          refine V.iload dX8_solves_42 rfl ?_
          first | refine V.iaddN dX8_solves_44 ?_ | refine V.iadd dX8_solves_44 ?_
          refine V.iald (n := 36) dX8_solves_45 (by first | assumption | exact hI _ (by omega)) (by first | assumption | decide) (by omega) ?_
          refine V.iload dX8_solves_46 rfl ?_
          refine V.iload dX8_solves_48 rfl ?_
          refine V.callS dX8_solves_50 (c_X8_falls (by omega) (by omega)) lkX8_253 st_X8_falls cd_X8_falls ini_X8 hd_X8_falls ⟨Nat.le_of_ble_eq_true rfl, Nat.le_of_ble_eq_true rfl⟩ rfl (Nat.le_of_ble_eq_true rfl) (V.kkF ?_)
          refine V.aload_n dX8_solves_53 rfl ?_
          refine V.iload dX8_solves_54 rfl ?_
          refine V.iload dX8_solves_56 rfl ?_
          first | refine V.iaddN dX8_solves_58 ?_ | refine V.iadd dX8_solves_58 ?_
          refine V.iald (n := 9) dX8_solves_59 (by first | assumption | exact hI _ (by omega)) (by first | assumption | decide) (by omega) ?_
          refine V.callS dX8_solves_60 (c_X8_product) lkX8_108 st_X8_product cd_X8_product ini_X8 hd_X8_product ⟨Nat.le_of_ble_eq_true rfl, Nat.le_of_ble_eq_true rfl⟩ rfl (Nat.le_of_ble_eq_true rfl) (V.kkF ?_)
          refine V.callS dX8_solves_63 (c_X8_product) lkX8_108 st_X8_product cd_X8_product ini_X8 hd_X8_product ⟨Nat.le_of_ble_eq_true rfl, Nat.le_of_ble_eq_true rfl⟩ rfl (Nat.le_of_ble_eq_true rfl) (V.kkF ?_)
          refine V.callS dX8_solves_66 (c_X8_less) lkX8_130 st_X8_less cd_X8_less ini_X8 hd_X8_less ⟨Nat.le_of_ble_eq_true rfl, Nat.le_of_ble_eq_true rfl⟩ rfl (Nat.le_of_ble_eq_true rfl) (V.kkF ?_)
          refine V.istore dX8_solves_69 (by decide) ?_
          refine V.iincN dX8_solves_71 (by decide) rfl ?_
          refine V.goto (tgt := 24) dX8_solves_74 (by decide) ?_
          have e := iq (by omega) (by omega)
          rw [show q + 1 - 2 = (q - 2) + 1 by omega] at e
          simp only [msl] at e
          rw [show q - 2 + 2 = q by omega] at e
          rw [k1 144 (by decide), k2 (j + q) (by omega) (by omega), show 8 - (j + 1) = 7 - j by omega]
          exact e
abbrev v_X8_laysRow (g : Gl) (κ : Ka) (Q : State → Prop) (M : Mem) (pc : Nat) (L : List (Option Value)) (st : List Value) : Prop := V g cX8_laysRow 7 yX8_laysRow.cls none (rmd 3) Q κ M pc L st
theorem c_X8_laysRow {g : Gl} {M : Mem} {r t : Nat} (hI : ∀ i, 142 ≤ i ∧ i < 174 → i ∈ g.2.2.2.2) (hr : r < 4) (ht : t ∈ g.2.2.2.2) (lt : ial t = 81) (ht1 : t ≠ 143 ∧ t ≠ 144 ∧ t ≠ 170 ∧ t ≠ 171) : Ct g yX8_laysRow cX8_laysRow 7 none 3 [.ref (g.2.2.2.1 142), .int (nI r), .ref (g.2.2.2.1 t)] M (fun v M' => v = none ∧ keep (fun q => q = 170 ∨ q = 171 ∨ q = t) M M' ∧ ∀ n k, n < 9 → k < 9 → M' t (9 * n + k) = mpol (sl (M 143) (9 * r)) (sl (M 144) (9 * r)) n k) := by
  refine Ct.ofV (by decide) (Nat.le_of_ble_eq_true rfl) (by simp [Value.category]) (fun κ => ?_)
  refine V.bipush (v := nI 9) dX8_laysRow_0 (by decide) ?_
  refine V.iload_n dX8_laysRow_2 rfl ?_
  first | refine V.imulN dX8_laysRow_3 ?_ | refine V.imul dX8_laysRow_3 ?_
  refine V.istore_n dX8_laysRow_4 (by decide) ?_
  refine V.iconst (v := nI 0) dX8_laysRow_5 rfl ?_
  refine V.istore dX8_laysRow_6 (by decide) ?_
  have lp := up_loop 9 (fun n => ∀ M1 x5 x6, keep (fun q => q = 170 ∨ q = 171 ∨ q = t) M M1 → (∀ n' k, n' < n → k < 9 → M1 t (9 * n' + k) = mpol (sl (M 143) (9 * r)) (sl (M 144) (9 * r)) n' k) → v_X8_laysRow g κ (Qm g κ (fun v M' => v = none ∧ keep (fun q => q = 170 ∨ q = 171 ∨ q = t) M M' ∧ ∀ n k, n < 9 → k < 9 → M' t (9 * n + k) = mpol (sl (M 143) (9 * r)) (sl (M 144) (9 * r)) n k)) M1 8 [some (.ref (g.2.2.2.1 142)), some (.int (nI r)), some (.ref (g.2.2.2.1 t)), some (.int (nI (9 * r))), some (.int (nI n)), x5, x6] []) (fun n hn ih M1 x5 x6 k1 k2 => ?_) 0 (by omega)
  · exact lp M _ _ keep.rf (fun n' k h => by omega)
  · refine V.iload dX8_laysRow_8 rfl ?_
    refine V.bipush (v := nI 9) dX8_laysRow_10 (by decide) ?_
    refine V.geN (tgt := 191) dX8_laysRow_12 (by decide) (by omega) (by omega) (fun h1 => ?_) (fun h1 => ?_)
    · have e : n = 9 := by omega
      subst e
      refine V.vret dX8_laysRow_191 ?_
      exact ⟨rfl, k1, fun n k hn hk => k2 n k hn hk⟩
    · refine V.iconst (v := nI 0) dX8_laysRow_15 rfl ?_
      refine V.istore dX8_laysRow_16 (by decide) ?_
      have l2 := up_loop 9 (fun c => ∀ M2, keep (fun q => q = 170 ∨ q = 171 ∨ q = t) M M2 → M2 t = M1 t → (∀ k, k < c → M2 170 k = mdue (sl (M 143) (9 * r)) (sl (M 144) (9 * r)) n k) → v_X8_laysRow g κ (Qm g κ (fun v M' => v = none ∧ keep (fun q => q = 170 ∨ q = 171 ∨ q = t) M M' ∧ ∀ n k, n < 9 → k < 9 → M' t (9 * n + k) = mpol (sl (M 143) (9 * r)) (sl (M 144) (9 * r)) n k)) M2 18 [some (.ref (g.2.2.2.1 142)), some (.int (nI r)), some (.ref (g.2.2.2.1 t)), some (.int (nI (9 * r))), some (.int (nI n)), some (.int (nI c)), x6] []) (fun c hc ic M2 j1 j2 j3 => ?_) 0 (by omega)
      · exact l2 M1 k1 rfl (fun k hk => by omega)
      · refine V.iload dX8_laysRow_18 rfl ?_
        refine V.bipush (v := nI 9) dX8_laysRow_20 (by decide) ?_
        refine V.geN (tgt := 73) dX8_laysRow_22 (by decide) (by omega) (by omega) (fun h2 => ?_) (fun h2 => ?_)
        · have e : c = 9 := by omega
          subst e
          refine V.aload_n dX8_laysRow_73 rfl ?_
          refine V.iload_n dX8_laysRow_74 rfl ?_
          refine V.aload_n dX8_laysRow_75 rfl ?_
          refine V.getf (ci := 7) (k := 33) (C := RX8) (T := TX8) (N := 37) dX8_laysRow_76 lfX8_92 inX8 rfl (by first | assumption | exact hI _ (by omega)) rfl (by decide) rfl ?_
          refine V.aload_n dX8_laysRow_79 rfl ?_
          refine V.getf (ci := 7) (k := 34) (C := RX8) (T := TX8) (N := 37) dX8_laysRow_80 lfX8_95 inX8 rfl (by first | assumption | exact hI _ (by omega)) rfl (by decide) rfl ?_
          refine V.callV (ci := 7) (T := TX8) (N := 37) dX8_laysRow_83 (c_X8_solves (d := 170) hI hr (hI 170 (by decide)) rfl (by decide)) lkX8_256 im_X8_solves se_X8_solves cd_X8_solves ini_X8 rfl (by first | assumption | exact hI _ (by omega)) rfl hd_X8_solves ⟨Nat.le_of_ble_eq_true rfl, Nat.le_of_ble_eq_true rfl⟩ rfl (Nat.le_of_ble_eq_true rfl) (V.kkP (fun M3 q3 => ?_))
          obtain ⟨u1, u2, u3⟩ := q3
          have hdue : eq9 (M2 170) (mdue (sl (M 143) (9 * r)) (sl (M 144) (9 * r)) n) := fun k hk => j3 k hk
          have hs : ∀ u, 1 ≤ u → u < 9 → M3 171 u = msolve (sl (M 144) (9 * r)) (mdue (sl (M 143) (9 * r)) (sl (M 144) (9 * r)) n) u := fun u h3 h4 => by
            rw [u2 u h3 h4, j1 144 (by omega)]
            unfold msolve; rw [msv_cg eq9.rf hdue 8 (Nat.le_refl _)]
          have k3 : keep (fun q => q = 170 ∨ q = 171 ∨ q = t) M M3 := j1.tr (u1.wk (fun q hq => by omega))
          have t3 : M3 t = M1 t := by rw [u1 t (by omega), j2]
          have fin : ∀ a0 : Int32, a0 = (if n = 0 then nI 1 else nI 0) → v_X8_laysRow g κ (Qm g κ (fun v M' => v = none ∧ keep (fun q => q = 170 ∨ q = 171 ∨ q = t) M M' ∧ ∀ n k, n < 9 → k < 9 → M' t (9 * n + k) = mpol (sl (M 143) (9 * r)) (sl (M 144) (9 * r)) n k)) M3 96 [some (.ref (g.2.2.2.1 142)), some (.int (nI r)), some (.ref (g.2.2.2.1 t)), some (.int (nI (9 * r))), some (.int (nI n)), some (.int (nI 9)), x6] [.int a0] := by
            intro a0 ha0
            refine V.istore dX8_laysRow_96 (by decide) ?_
            refine V.iconst (v := nI 1) dX8_laysRow_98 rfl ?_
            refine V.istore dX8_laysRow_99 (by decide) ?_
            have l3 := up_loop 9 (fun c => 1 ≤ c → v_X8_laysRow g κ (Qm g κ (fun v M' => v = none ∧ keep (fun q => q = 170 ∨ q = 171 ∨ q = t) M M' ∧ ∀ n k, n < 9 → k < 9 → M' t (9 * n + k) = mpol (sl (M 143) (9 * r)) (sl (M 144) (9 * r)) n k)) M3 101 [some (.ref (g.2.2.2.1 142)), some (.int (nI r)), some (.ref (g.2.2.2.1 t)), some (.int (nI (9 * r))), some (.int (nI n)), some (.int (mat0 (sl (M 143) (9 * r)) (msolve (sl (M 144) (9 * r)) (mdue (sl (M 143) (9 * r)) (sl (M 144) (9 * r)) n)) n (c - 1))), some (.int (nI c))] []) (fun c hc ic hc1 => ?_) 1 (by omega) (by omega)
            · rw [ha0]; exact l3
            · refine V.iload dX8_laysRow_101 rfl ?_
              refine V.bipush (v := nI 9) dX8_laysRow_103 (by decide) ?_
              refine V.geN (tgt := 149) dX8_laysRow_105 (by decide) (by omega) (by omega) (fun h3 => ?_) (fun h3 => ?_)
              · have e : c = 9 := by omega
                subst e
                refine V.aload_n dX8_laysRow_149 rfl ?_
                refine V.getf (ci := 7) (k := 34) (C := RX8) (T := TX8) (N := 37) dX8_laysRow_150 lfX8_95 inX8 rfl (by first | assumption | exact hI _ (by omega)) rfl (by decide) rfl ?_
                refine V.iconst (v := nI 0) dX8_laysRow_153 rfl ?_
                refine V.iload dX8_laysRow_154 rfl ?_
                refine V.aload_n dX8_laysRow_156 rfl ?_
                refine V.getf (ci := 7) (k := 0) (C := RX8) (T := TX8) (N := 37) dX8_laysRow_157 lfX8_7 inX8 rfl (by first | assumption | exact hI _ (by omega)) rfl (by decide) rfl ?_
                refine V.iload_n dX8_laysRow_160 rfl ?_
                refine V.iald (n := 36) dX8_laysRow_161 (by first | assumption | exact hI _ (by omega)) (by first | assumption | decide) (by omega) ?_
                refine V.callS dX8_laysRow_162 (c_X8_over) lkX8_126 st_X8_over cd_X8_over ini_X8 hd_X8_over ⟨Nat.le_of_ble_eq_true rfl, Nat.le_of_ble_eq_true rfl⟩ rfl (Nat.le_of_ble_eq_true rfl) (V.kkF ?_)
                refine V.callS dX8_laysRow_165 (c_X8_product) lkX8_108 st_X8_product cd_X8_product ini_X8 hd_X8_product ⟨Nat.le_of_ble_eq_true rfl, Nat.le_of_ble_eq_true rfl⟩ rfl (Nat.le_of_ble_eq_true rfl) (V.kkF ?_)
                refine V.iast (n := 9) dX8_laysRow_168 (by first | assumption | exact hI _ (by omega)) (by first | assumption | decide) (by omega) ?_
                refine V.aload_n dX8_laysRow_169 rfl ?_
                refine V.getf (ci := 7) (k := 34) (C := RX8) (T := TX8) (N := 37) dX8_laysRow_170 lfX8_95 inX8 rfl (by first | assumption | exact hI _ (by omega)) rfl (by decide) rfl ?_
                refine V.iconst (v := nI 0) dX8_laysRow_173 rfl ?_
                refine V.aload_n dX8_laysRow_174 rfl ?_
                refine V.bipush (v := nI 9) dX8_laysRow_175 (by decide) ?_
                refine V.iload dX8_laysRow_177 rfl ?_
                first | refine V.imulN dX8_laysRow_179 ?_ | refine V.imul dX8_laysRow_179 ?_
                refine V.bipush (v := nI 9) dX8_laysRow_180 (by decide) ?_
                refine V.callS dX8_laysRow_182 (c_X8_bring (a := 171) (i := 0) (b := t) (j := 9 * n) (n := 9) (na := 9) (nb := 81) (hI 171 (by decide)) ht rfl lt (by decide) (by omega) (Or.inl (by omega))) lkX8_112 st_X8_bring cd_X8_bring ini_X8 hd_X8_bring ⟨Nat.le_of_ble_eq_true rfl, Nat.le_of_ble_eq_true rfl⟩ rfl (Nat.le_of_ble_eq_true rfl) (V.kkN ?_)
                refine V.iincN dX8_laysRow_185 (by decide) rfl ?_
                refine V.goto (tgt := 8) dX8_laysRow_188 (by decide) ?_
                refine ih h1 _ _ _ ((k3.ms (by omega)).br (by omega)) (fun n' k hn' hk => ?_)
                by_cases e : n' = n
                · subst e
                  rw [brg_in hk, Nat.zero_add, mpol_eq]
                  dsimp only
                  by_cases e0 : k = 0
                  · subst e0
                    rw [mset_at, if_pos rfl, k3 143 (by omega)]; rfl
                  · rw [mset_nat e0, if_neg e0]; exact hs k (by omega) hk
                · rw [brg_out (by omega), mset_ne (by omega), t3]
                  exact k2 n' k (by omega) hk
              · refine V.iload dX8_laysRow_108 rfl ?_
                refine V.aload_n dX8_laysRow_110 rfl ?_
                refine V.getf (ci := 7) (k := 0) (C := RX8) (T := TX8) (N := 37) dX8_laysRow_111 lfX8_7 inX8 rfl (by first | assumption | exact hI _ (by omega)) rfl (by decide) rfl ?_
                refine V.iload_n dX8_laysRow_114 rfl ?_
                refine V.iload dX8_laysRow_115 rfl ?_
                first | refine V.iaddN dX8_laysRow_117 ?_ | refine V.iadd dX8_laysRow_117 ?_
                refine V.iald (n := 36) dX8_laysRow_118 (by first | assumption | exact hI _ (by omega)) (by first | assumption | decide) (by omega) ?_
                refine V.iconst (v := nI 0) dX8_laysRow_119 rfl ?_
                refine V.iload dX8_laysRow_120 rfl ?_
                refine V.callS dX8_laysRow_122 (c_X8_falls (by omega) (by omega)) lkX8_253 st_X8_falls cd_X8_falls ini_X8 hd_X8_falls ⟨Nat.le_of_ble_eq_true rfl, Nat.le_of_ble_eq_true rfl⟩ rfl (Nat.le_of_ble_eq_true rfl) (V.kkF ?_)
                refine V.aload_n dX8_laysRow_125 rfl ?_
                refine V.getf (ci := 7) (k := 34) (C := RX8) (T := TX8) (N := 37) dX8_laysRow_126 lfX8_95 inX8 rfl (by first | assumption | exact hI _ (by omega)) rfl (by decide) rfl ?_
                refine V.iload dX8_laysRow_129 rfl ?_
                refine V.iald (n := 9) dX8_laysRow_131 (by first | assumption | exact hI _ (by omega)) (by first | assumption | decide) (by omega) ?_
                refine V.callS dX8_laysRow_132 (c_X8_product) lkX8_108 st_X8_product cd_X8_product ini_X8 hd_X8_product ⟨Nat.le_of_ble_eq_true rfl, Nat.le_of_ble_eq_true rfl⟩ rfl (Nat.le_of_ble_eq_true rfl) (V.kkF ?_)
                refine V.callS dX8_laysRow_135 (c_X8_product) lkX8_108 st_X8_product cd_X8_product ini_X8 hd_X8_product ⟨Nat.le_of_ble_eq_true rfl, Nat.le_of_ble_eq_true rfl⟩ rfl (Nat.le_of_ble_eq_true rfl) (V.kkF ?_)
                refine V.callS dX8_laysRow_138 (c_X8_less) lkX8_130 st_X8_less cd_X8_less ini_X8 hd_X8_less ⟨Nat.le_of_ble_eq_true rfl, Nat.le_of_ble_eq_true rfl⟩ rfl (Nat.le_of_ble_eq_true rfl) (V.kkF ?_)
                refine V.istore dX8_laysRow_141 (by decide) ?_
                refine V.iincN dX8_laysRow_143 (by decide) rfl ?_
                refine V.goto (tgt := 101) dX8_laysRow_146 (by decide) ?_
                have e := ic (by omega) (by omega)
                rw [show c + 1 - 1 = (c - 1) + 1 by omega] at e
                simp only [mat0] at e
                rw [show c - 1 + 1 = c by omega] at e
                rw [k3 143 (by omega), hs c hc1 h3]
                exact e
          refine V.iload dX8_laysRow_86 rfl ?_
          refine V.if_neN (tgt := 95) dX8_laysRow_88 (by decide) (by omega) (fun h3 => ?_) (fun h3 => ?_)
          · refine V.iconst (v := nI 0) dX8_laysRow_95 rfl ?_
            exact fin _ (by rw [if_neg h3])
          · refine V.iconst (v := nI 1) dX8_laysRow_91 rfl ?_
            refine V.goto (tgt := 96) dX8_laysRow_92 (by decide) ?_
            exact fin _ (by rw [if_pos h3])
        · have step : ∀ x : Int32, x = mdue (sl (M 143) (9 * r)) (sl (M 144) (9 * r)) n c → v_X8_laysRow g κ (Qm g κ (fun v M' => v = none ∧ keep (fun q => q = 170 ∨ q = 171 ∨ q = t) M M' ∧ ∀ n k, n < 9 → k < 9 → M' t (9 * n + k) = mpol (sl (M 143) (9 * r)) (sl (M 144) (9 * r)) n k)) M2 58 [some (.ref (g.2.2.2.1 142)), some (.int (nI r)), some (.ref (g.2.2.2.1 t)), some (.int (nI (9 * r))), some (.int (nI n)), some (.int (nI c)), x6] [.int x, .int (nI c), .ref (g.2.2.2.1 170)] := by
            intro x hx
            refine V.iast (n := 9) dX8_laysRow_58 (by first | assumption | exact hI _ (by omega)) (by first | assumption | decide) (by omega) ?_
            refine V.aload_n dX8_laysRow_59 rfl ?_
            refine V.getf (ci := 7) (k := 34) (C := RX8) (T := TX8) (N := 37) dX8_laysRow_60 lfX8_95 inX8 rfl (by first | assumption | exact hI _ (by omega)) rfl (by decide) rfl ?_
            refine V.iload dX8_laysRow_63 rfl ?_
            refine V.iconst (v := nI 0) dX8_laysRow_65 rfl ?_
            refine V.iast (n := 9) dX8_laysRow_66 (by first | assumption | exact hI _ (by omega)) (by first | assumption | decide) (by omega) ?_
            refine V.iincN dX8_laysRow_67 (by decide) rfl ?_
            refine V.goto (tgt := 18) dX8_laysRow_70 (by decide) ?_
            refine ic h2 _ ((j1.ms (by omega)).ms (by omega)) (by rw [mset_ne (by omega), mset_ne (by omega)]; exact j2) (fun k hk => ?_)
            rw [mset_ne (by decide)]
            by_cases e : k = c
            · subst e; rw [mset_at]; exact hx
            · rw [mset_nat e]; exact j3 k (by omega)
          refine V.aload_n dX8_laysRow_25 rfl ?_
          refine V.getf (ci := 7) (k := 33) (C := RX8) (T := TX8) (N := 37) dX8_laysRow_26 lfX8_92 inX8 rfl (by first | assumption | exact hI _ (by omega)) rfl (by decide) rfl ?_
          refine V.iload dX8_laysRow_29 rfl ?_
          refine V.iload dX8_laysRow_31 rfl ?_
          refine V.if_neN (tgt := 40) dX8_laysRow_33 (by decide) (by omega) (fun h3 => ?_) (fun h3 => ?_)
          · refine V.iload dX8_laysRow_40 rfl ?_
            refine V.aload_n dX8_laysRow_42 rfl ?_
            refine V.bipush (v := nI 9) dX8_laysRow_43 (by decide) ?_
            refine V.iload dX8_laysRow_45 rfl ?_
            first | refine V.imulN dX8_laysRow_47 ?_ | refine V.imul dX8_laysRow_47 ?_
            refine V.bipush (v := nI 9) dX8_laysRow_48 (by decide) ?_
            first | refine V.isubN dX8_laysRow_50 (by omega) ?_ | refine V.isub dX8_laysRow_50 ?_
            refine V.iload dX8_laysRow_51 rfl ?_
            first | refine V.iaddN dX8_laysRow_53 ?_ | refine V.iadd dX8_laysRow_53 ?_
            refine V.iald (n := 81) dX8_laysRow_54 (by first | assumption | exact hI _ (by omega)) (by first | assumption | decide) (by omega) ?_
            refine V.callS dX8_laysRow_55 (c_X8_product) lkX8_108 st_X8_product cd_X8_product ini_X8 hd_X8_product ⟨Nat.le_of_ble_eq_true rfl, Nat.le_of_ble_eq_true rfl⟩ rfl (Nat.le_of_ble_eq_true rfl) (V.kkF ?_)
            refine step _ ?_
            rw [j2, show 9 * n - 9 + c = 9 * (n - 1) + c by omega, k2 (n - 1) c (by omega) h2]
            unfold mdue; rw [if_neg h3]
          · refine V.iconst (v := nI 0) dX8_laysRow_36 rfl ?_
            refine V.goto (tgt := 58) dX8_laysRow_37 (by decide) ?_
            exact step _ (by unfold mdue; rw [if_pos h3])
abbrev v_X8_valueOf (g : Gl) (κ : Ka) (Q : State → Prop) (M : Mem) (pc : Nat) (L : List (Option Value)) (st : List Value) : Prop := V g cX8_valueOf 5 yX8_valueOf.cls (some .int) (rmd 1) Q κ M pc L st
theorem c_X8_valueOf {g : Gl} {M : Mem} {a i na : Nat} {x : Int32} (ha : a ∈ g.2.2.2.2) (la : ial a = na) (h1 : i + 9 ≤ na) : Ct g yX8_valueOf cX8_valueOf 5 (some .int) 1 [.ref (g.2.2.2.1 a), .int (nI i), .int x] M (fun v M' => v = some (.int (horn (sl (M a) i) x 9)) ∧ M' = M) := by
  have sa := ial_small a
  refine Ct.ofV (by decide) (Nat.le_of_ble_eq_true rfl) (by simp [Value.category]) (fun κ => ?_)
  refine V.iconst (v := nI 0) dX8_valueOf_0 rfl ?_
  refine V.istore_n dX8_valueOf_1 (by decide) ?_
  refine V.bipush (v := nI 8) dX8_valueOf_2 (by decide) ?_
  refine V.istore dX8_valueOf_4 (by decide) ?_
  have lp := dn_loop (fun k => k ≤ 9 → v_X8_valueOf g κ (Qm g κ (fun v M' => v = some (.int (horn (sl (M a) i) x 9)) ∧ M' = M)) M 6 [some (.ref (g.2.2.2.1 a)), some (.int (nI i)), some (.int x), some (.int (horn (sl (M a) i) x (9 - k))), some (.int (nI k - 1))] []) (fun k ih hk => ?_) 9 (by omega)
  · exact lp
  · refine V.iload dX8_valueOf_6 rfl ?_
    refine V.if_ltD (tgt := 32) dX8_valueOf_8 (by decide) (by omega) (fun h2 => ?_) (fun j h2 => ?_)
    · subst h2
      refine V.iload_n dX8_valueOf_32 rfl ?_
      refine V.iret dX8_valueOf_33 ?_
      exact ⟨rfl, rfl⟩
    · subst h2
      rw [nI_pred]
      refine V.iload_n dX8_valueOf_11 rfl ?_
      refine V.iload_n dX8_valueOf_12 rfl ?_
      refine V.callS dX8_valueOf_13 (c_X8_product) lkX8_108 st_X8_product cd_X8_product ini_X8 hd_X8_product ⟨Nat.le_of_ble_eq_true rfl, Nat.le_of_ble_eq_true rfl⟩ rfl (Nat.le_of_ble_eq_true rfl) (V.kkF ?_)
      refine V.aload_n dX8_valueOf_16 rfl ?_
      refine V.iload_n dX8_valueOf_17 rfl ?_
      refine V.iload dX8_valueOf_18 rfl ?_
      first | refine V.iaddN dX8_valueOf_20 ?_ | refine V.iadd dX8_valueOf_20 ?_
      refine V.iald (n := na) dX8_valueOf_21 (by first | assumption | exact hI _ (by omega)) (by first | assumption | decide) (by omega) ?_
      refine V.callS dX8_valueOf_22 (c_X8_together) lkX8_119 st_X8_together cd_X8_together ini_X8 hd_X8_together ⟨Nat.le_of_ble_eq_true rfl, Nat.le_of_ble_eq_true rfl⟩ rfl (Nat.le_of_ble_eq_true rfl) (V.kkF ?_)
      refine V.istore_n dX8_valueOf_25 (by decide) ?_
      refine V.iincD dX8_valueOf_26 (by decide) rfl ?_
      refine V.goto (tgt := 6) dX8_valueOf_29 (by decide) ?_
      have e := ih j rfl (by omega)
      rw [show 9 - j = (9 - (j + 1)) + 1 by omega] at e
      simp only [horn] at e
      rw [show 8 - (9 - (j + 1)) = j by omega] at e
      exact e
abbrev v_X8_takesApart (g : Gl) (κ : Ka) (Q : State → Prop) (M : Mem) (pc : Nat) (L : List (Option Value)) (st : List Value) : Prop := V g cX8_takesApart 6 yX8_takesApart.cls none (rmd 2) Q κ M pc L st
theorem c_X8_takesApart {g : Gl} {M : Mem} {a i t na : Nat} {P : Nat → Ser} (hI : ∀ i, 142 ≤ i ∧ i < 174 → i ∈ g.2.2.2.2) (ha : a ∈ g.2.2.2.2) (la : ial a = na) (h1 : i + 9 ≤ na) (ht : t ∈ g.2.2.2.2) (lt : ial t = 81) (ht1 : t ≠ 172 ∧ t ≠ 173) (hP : ∀ n k, n < 9 → k < 9 → M t (9 * n + k) = P n k) : Ct g yX8_takesApart cX8_takesApart 6 none 2 [.ref (g.2.2.2.1 142), .ref (g.2.2.2.1 a), .int (nI i), .ref (g.2.2.2.1 t)] M (fun v M' => v = none ∧ keep (fun q => q = 172 ∨ q = 173) M M' ∧ eq9 (M' 173) (mtell P (sl (M a) i))) := by
  have sa := ial_small a
  refine Ct.ofV (by decide) (Nat.le_of_ble_eq_true rfl) (by simp [Value.category]) (fun κ => ?_)
  refine V.aload_n dX8_takesApart_0 rfl ?_
  refine V.iload_n dX8_takesApart_1 rfl ?_
  refine V.aload_n dX8_takesApart_2 rfl ?_
  refine V.getf (ci := 7) (k := 35) (C := RX8) (T := TX8) (N := 37) dX8_takesApart_3 lfX8_98 inX8 rfl (by first | assumption | exact hI _ (by omega)) rfl (by decide) rfl ?_
  refine V.iconst (v := nI 0) dX8_takesApart_6 rfl ?_
  refine V.bipush (v := nI 9) dX8_takesApart_7 (by decide) ?_
  refine V.callS dX8_takesApart_9 (c_X8_bring (a := a) (i := i) (b := 172) (j := 0) (n := 9) (na := na) (nb := 9) ha (hI 172 (by decide)) la rfl (by omega) (by decide) (Or.inr (Nat.zero_le _))) lkX8_112 st_X8_bring cd_X8_bring ini_X8 hd_X8_bring ⟨Nat.le_of_ble_eq_true rfl, Nat.le_of_ble_eq_true rfl⟩ rfl (Nat.le_of_ble_eq_true rfl) (V.kkN ?_)
  refine V.bipush (v := nI 8) dX8_takesApart_12 (by decide) ?_
  refine V.istore dX8_takesApart_14 (by decide) ?_
  have lp := dn_loop (fun k => k ≤ 9 → ∀ M1 x5, keep (fun q => q = 172 ∨ q = 173) M M1 → eq9 (M1 172) (mrest P (sl (M a) i) (9 - k)) → (∀ n, k ≤ n → n < 9 → M1 173 n = mtell P (sl (M a) i) n) → v_X8_takesApart g κ (Qm g κ (fun v M' => v = none ∧ keep (fun q => q = 172 ∨ q = 173) M M' ∧ eq9 (M' 173) (mtell P (sl (M a) i)))) M1 16 [some (.ref (g.2.2.2.1 142)), some (.ref (g.2.2.2.1 a)), some (.int (nI i)), some (.ref (g.2.2.2.1 t)), some (.int (nI k - 1)), x5] []) (fun k ih hk M1 x5 k1 k2 k3 => ?_) 9 (by omega)
  · exact lp _ _ ((keep.rf (P := fun q => q = 172 ∨ q = 173)).br (Or.inl rfl)) brg_0 (fun n h2 h3 => by omega)
  · refine V.iload dX8_takesApart_16 rfl ?_
    refine V.if_ltD (tgt := 110) dX8_takesApart_18 (by decide) (by omega) (fun h2 => ?_) (fun j h2 => ?_)
    · subst h2
      refine V.vret dX8_takesApart_110 ?_
      exact ⟨rfl, k1, fun n hn => k3 n (Nat.zero_le _) hn⟩
    · subst h2
      rw [nI_pred]
      refine V.aload_n dX8_takesApart_21 rfl ?_
      refine V.getf (ci := 7) (k := 36) (C := RX8) (T := TX8) (N := 37) dX8_takesApart_22 lfX8_101 inX8 rfl (by first | assumption | exact hI _ (by omega)) rfl (by decide) rfl ?_
      refine V.iload dX8_takesApart_25 rfl ?_
      refine V.aload_n dX8_takesApart_27 rfl ?_
      refine V.getf (ci := 7) (k := 35) (C := RX8) (T := TX8) (N := 37) dX8_takesApart_28 lfX8_98 inX8 rfl (by first | assumption | exact hI _ (by omega)) rfl (by decide) rfl ?_
      refine V.iload dX8_takesApart_31 rfl ?_
      refine V.iald (n := 9) dX8_takesApart_33 (by first | assumption | exact hI _ (by omega)) (by first | assumption | decide) (by omega) ?_
      refine V.aload_n dX8_takesApart_34 rfl ?_
      refine V.bipush (v := nI 9) dX8_takesApart_35 (by decide) ?_
      refine V.iload dX8_takesApart_37 rfl ?_
      first | refine V.imulN dX8_takesApart_39 ?_ | refine V.imul dX8_takesApart_39 ?_
      refine V.iload dX8_takesApart_40 rfl ?_
      first | refine V.iaddN dX8_takesApart_42 ?_ | refine V.iadd dX8_takesApart_42 ?_
      refine V.iald (n := 81) dX8_takesApart_43 (by first | assumption | exact hI _ (by omega)) (by first | assumption | decide) (by omega) ?_
      refine V.callS dX8_takesApart_44 (c_X8_over) lkX8_126 st_X8_over cd_X8_over ini_X8 hd_X8_over ⟨Nat.le_of_ble_eq_true rfl, Nat.le_of_ble_eq_true rfl⟩ rfl (Nat.le_of_ble_eq_true rfl) (V.kkF ?_)
      refine V.callS dX8_takesApart_47 (c_X8_product) lkX8_108 st_X8_product cd_X8_product ini_X8 hd_X8_product ⟨Nat.le_of_ble_eq_true rfl, Nat.le_of_ble_eq_true rfl⟩ rfl (Nat.le_of_ble_eq_true rfl) (V.kkF ?_)
      have es : fmul (M1 172 j) (finv (M1 t (9 * j + j))) = mtell P (sl (M a) i) j := by
        rw [k1 t (by omega), hP j j (by omega) (by omega), k2 j (by omega), show 9 - (j + 1) = 8 - j by omega]; rfl
      rw [es]
      refine V.iast (n := 9) dX8_takesApart_50 (by first | assumption | exact hI _ (by omega)) (by first | assumption | decide) (by omega) ?_
      refine V.iconst (v := nI 0) dX8_takesApart_51 rfl ?_
      refine V.istore dX8_takesApart_52 (by decide) ?_
      rw [show 9 - (j + 1) = 8 - j by omega] at k2
      have l2 := up_loop (j + 1) (fun c => ∀ M2, keep (fun q => q = 172 ∨ q = 173) M M2 → (∀ n, j ≤ n → n < 9 → M2 173 n = mtell P (sl (M a) i) n) → (∀ k, k < c → M2 172 k = fsub (mrest P (sl (M a) i) (8 - j) k) (fmul (mtell P (sl (M a) i) j) (P j k))) → (∀ k, c ≤ k → k < 9 → M2 172 k = mrest P (sl (M a) i) (8 - j) k) → v_X8_takesApart g κ (Qm g κ (fun v M' => v = none ∧ keep (fun q => q = 172 ∨ q = 173) M M' ∧ eq9 (M' 173) (mtell P (sl (M a) i)))) M2 54 [some (.ref (g.2.2.2.1 142)), some (.ref (g.2.2.2.1 a)), some (.int (nI i)), some (.ref (g.2.2.2.1 t)), some (.int (nI j)), some (.int (nI c))] []) (fun c hc ic M2 j1 j2 j3 j4 => ?_) 0 (by omega)
      · refine l2 _ (k1.ms (Or.inr rfl)) (fun n h3 h4 => ?_) (fun k hk => by omega) (fun k _ hk => ?_)
        · by_cases e : n = j
          · subst e; rw [mset_at]
          · rw [mset_nat e]; exact k3 n (by omega) h4
        · rw [mset_ne (by decide)]; exact k2 k hk
      · refine V.iload dX8_takesApart_54 rfl ?_
        refine V.iload dX8_takesApart_56 rfl ?_
        refine V.gtN (tgt := 104) dX8_takesApart_58 (by decide) (by omega) (by omega) (fun h3 => ?_) (fun h3 => ?_)
        · have e : c = j + 1 := by omega
          subst e
          refine V.iincD dX8_takesApart_104 (by decide) rfl ?_
          refine V.goto (tgt := 16) dX8_takesApart_107 (by decide) ?_
          refine ih j rfl (by omega) _ _ j1 ?_ j2
          rw [show 9 - j = (8 - j) + 1 by omega]
          intro k hk
          show _ = if k ≤ 8 - (8 - j) then fsub (mrest P _ (8 - j) k) (fmul (fmul (mrest P _ (8 - j) (8 - (8 - j))) (finv (P (8 - (8 - j)) (8 - (8 - j))))) (P (8 - (8 - j)) k)) else mrest P _ (8 - j) k
          rw [show 8 - (8 - j) = j by omega]
          by_cases e : k ≤ j
          · rw [if_pos e]; exact j3 k (by omega)
          · rw [if_neg e]; exact j4 k (by omega) hk
        · refine V.aload_n dX8_takesApart_61 rfl ?_
          refine V.getf (ci := 7) (k := 35) (C := RX8) (T := TX8) (N := 37) dX8_takesApart_62 lfX8_98 inX8 rfl (by first | assumption | exact hI _ (by omega)) rfl (by decide) rfl ?_
          refine V.iload dX8_takesApart_65 rfl ?_
          refine V.aload_n dX8_takesApart_67 rfl ?_
          refine V.getf (ci := 7) (k := 35) (C := RX8) (T := TX8) (N := 37) dX8_takesApart_68 lfX8_98 inX8 rfl (by first | assumption | exact hI _ (by omega)) rfl (by decide) rfl ?_
          refine V.iload dX8_takesApart_71 rfl ?_
          refine V.iald (n := 9) dX8_takesApart_73 (by first | assumption | exact hI _ (by omega)) (by first | assumption | decide) (by omega) ?_
          refine V.aload_n dX8_takesApart_74 rfl ?_
          refine V.getf (ci := 7) (k := 36) (C := RX8) (T := TX8) (N := 37) dX8_takesApart_75 lfX8_101 inX8 rfl (by first | assumption | exact hI _ (by omega)) rfl (by decide) rfl ?_
          refine V.iload dX8_takesApart_78 rfl ?_
          refine V.iald (n := 9) dX8_takesApart_80 (by first | assumption | exact hI _ (by omega)) (by first | assumption | decide) (by omega) ?_
          refine V.aload_n dX8_takesApart_81 rfl ?_
          refine V.bipush (v := nI 9) dX8_takesApart_82 (by decide) ?_
          refine V.iload dX8_takesApart_84 rfl ?_
          first | refine V.imulN dX8_takesApart_86 ?_ | refine V.imul dX8_takesApart_86 ?_
          refine V.iload dX8_takesApart_87 rfl ?_
          first | refine V.iaddN dX8_takesApart_89 ?_ | refine V.iadd dX8_takesApart_89 ?_
          refine V.iald (n := 81) dX8_takesApart_90 (by first | assumption | exact hI _ (by omega)) (by first | assumption | decide) (by omega) ?_
          refine V.callS dX8_takesApart_91 (c_X8_product) lkX8_108 st_X8_product cd_X8_product ini_X8 hd_X8_product ⟨Nat.le_of_ble_eq_true rfl, Nat.le_of_ble_eq_true rfl⟩ rfl (Nat.le_of_ble_eq_true rfl) (V.kkF ?_)
          refine V.callS dX8_takesApart_94 (c_X8_less) lkX8_130 st_X8_less cd_X8_less ini_X8 hd_X8_less ⟨Nat.le_of_ble_eq_true rfl, Nat.le_of_ble_eq_true rfl⟩ rfl (Nat.le_of_ble_eq_true rfl) (V.kkF ?_)
          refine V.iast (n := 9) dX8_takesApart_97 (by first | assumption | exact hI _ (by omega)) (by first | assumption | decide) (by omega) ?_
          refine V.iincN dX8_takesApart_98 (by decide) rfl ?_
          refine V.goto (tgt := 54) dX8_takesApart_101 (by decide) ?_
          refine ic (by omega) _ (j1.ms (Or.inl rfl)) (fun n h4 h5 => by rw [mset_ne (by decide)]; exact j2 n h4 h5) (fun k hk => ?_) (fun k h4 h5 => ?_)
          · by_cases e : k = c
            · subst e
              rw [mset_at, j4 k (Nat.le_refl _) (by omega), j2 j (Nat.le_refl _) (by omega), j1 t (by omega), hP j k (by omega) (by omega)]
            · rw [mset_nat e]; exact j3 k (by omega)
          · rw [mset_nat (by omega)]; exact j4 k (by omega) h5
abbrev v_X8_joins (g : Gl) (κ : Ka) (Q : State → Prop) (M : Mem) (pc : Nat) (L : List (Option Value)) (st : List Value) : Prop := V g cX8_joins 6 yX8_joins.cls none (rmd 1) Q κ M pc L st
theorem c_X8_joins {g : Gl} {M : Mem} {t : Nat} {P : Nat → Ser} (hI : ∀ i, 142 ≤ i ∧ i < 174 → i ∈ g.2.2.2.2) (ht : t ∈ g.2.2.2.2) (lt : ial t = 81) (ht1 : t ≠ 145) (hP : ∀ n k, n < 9 → k < 9 → M t (9 * n + k) = P n k) : Ct g yX8_joins cX8_joins 6 none 1 [.ref (g.2.2.2.1 142), .ref (g.2.2.2.1 t), .ref (g.2.2.2.1 145)] M (fun v M' => v = none ∧ M' = aset M 145 0 9 (mjoin P (M 173))) := by
  refine Ct.ofV (by decide) (Nat.le_of_ble_eq_true rfl) (by simp [Value.category]) (fun κ => ?_)
  refine V.iconst (v := nI 0) dX8_joins_0 rfl ?_
  refine V.istore_n dX8_joins_1 (by decide) ?_
  have lp := up_loop 9 (fun k => ∀ x4 x5, v_X8_joins g κ (Qm g κ (fun v M' => v = none ∧ M' = aset M 145 0 9 (mjoin P (M 173)))) (aset M 145 0 k (mjoin P (M 173))) 2 [some (.ref (g.2.2.2.1 142)), some (.ref (g.2.2.2.1 t)), some (.ref (g.2.2.2.1 145)), some (.int (nI k)), x4, x5] []) (fun k hk ih x4 x5 => ?_) 0 (by omega) none none
  · rw [aset_nil (Nat.le_refl 0)] at lp
    exact lp
  · refine V.iload_n dX8_joins_2 rfl ?_
    refine V.bipush (v := nI 9) dX8_joins_3 (by decide) ?_
    refine V.geN (tgt := 64) dX8_joins_5 (by decide) (by omega) (by omega) (fun h1 => ?_) (fun h1 => ?_)
    · have e : k = 9 := by omega
      subst e
      refine V.vret dX8_joins_64 ?_
      exact ⟨rfl, rfl⟩
    · refine V.iconst (v := nI 0) dX8_joins_8 rfl ?_
      refine V.istore dX8_joins_9 (by decide) ?_
      refine V.iconst (v := nI 0) dX8_joins_11 rfl ?_
      refine V.istore dX8_joins_12 (by decide) ?_
      have l2 := up_loop 9 (fun n => v_X8_joins g κ (Qm g κ (fun v M' => v = none ∧ M' = aset M 145 0 9 (mjoin P (M 173)))) (aset M 145 0 k (mjoin P (M 173))) 14 [some (.ref (g.2.2.2.1 142)), some (.ref (g.2.2.2.1 t)), some (.ref (g.2.2.2.1 145)), some (.int (nI k)), some (.int (mjn P (M 173) k n)), some (.int (nI n))] []) (fun n hn iq => ?_) 0 (by omega)
      · exact l2
      · refine V.iload dX8_joins_14 rfl ?_
        refine V.bipush (v := nI 9) dX8_joins_16 (by decide) ?_
        refine V.geN (tgt := 53) dX8_joins_18 (by decide) (by omega) (by omega) (fun h2 => ?_) (fun h2 => ?_)
        · have e : n = 9 := by omega
          subst e
          refine V.aload_n dX8_joins_53 rfl ?_
          refine V.iload_n dX8_joins_54 rfl ?_
          refine V.iload dX8_joins_55 rfl ?_
          refine V.iast (n := 9) dX8_joins_57 (by first | assumption | exact hI _ (by omega)) (by first | assumption | decide) (by omega) ?_
          refine V.iincN dX8_joins_58 (by decide) rfl ?_
          refine V.goto (tgt := 2) dX8_joins_61 (by decide) ?_
          rw [aset_up (f := mjoin P (M 173)) (hi := k) (Nat.zero_le _) (show mjn P (M 173) k 9 = mjoin P (M 173) k from rfl)]
          exact ih h1 _ _
        · refine V.iload dX8_joins_21 rfl ?_
          refine V.aload_n dX8_joins_23 rfl ?_
          refine V.getf (ci := 7) (k := 36) (C := RX8) (T := TX8) (N := 37) dX8_joins_24 lfX8_101 inX8 rfl (by first | assumption | exact hI _ (by omega)) rfl (by decide) rfl ?_
          refine V.iload dX8_joins_27 rfl ?_
          refine V.iald (n := 9) dX8_joins_29 (by first | assumption | exact hI _ (by omega)) (by first | assumption | decide) (by omega) ?_
          refine V.aload_n dX8_joins_30 rfl ?_
          refine V.bipush (v := nI 9) dX8_joins_31 (by decide) ?_
          refine V.iload dX8_joins_33 rfl ?_
          first | refine V.imulN dX8_joins_35 ?_ | refine V.imul dX8_joins_35 ?_
          refine V.iload_n dX8_joins_36 rfl ?_
          first | refine V.iaddN dX8_joins_37 ?_ | refine V.iadd dX8_joins_37 ?_
          refine V.iald (n := 81) dX8_joins_38 (by first | assumption | exact hI _ (by omega)) (by first | assumption | decide) (by omega) ?_
          refine V.callS dX8_joins_39 (c_X8_product) lkX8_108 st_X8_product cd_X8_product ini_X8 hd_X8_product ⟨Nat.le_of_ble_eq_true rfl, Nat.le_of_ble_eq_true rfl⟩ rfl (Nat.le_of_ble_eq_true rfl) (V.kkF ?_)
          refine V.callS dX8_joins_42 (c_X8_together) lkX8_119 st_X8_together cd_X8_together ini_X8 hd_X8_together ⟨Nat.le_of_ble_eq_true rfl, Nat.le_of_ble_eq_true rfl⟩ rfl (Nat.le_of_ble_eq_true rfl) (V.kkF ?_)
          refine V.istore dX8_joins_45 (by decide) ?_
          refine V.iincN dX8_joins_47 (by decide) rfl ?_
          refine V.goto (tgt := 14) dX8_joins_50 (by decide) ?_
          rw [aset_ne (a := 173) (by decide), aset_ne ht1, hP n k h2 h1]
          exact iq h2

