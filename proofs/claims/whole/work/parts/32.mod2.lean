abbrev v_X8_puts (g : Gl) (κ : Ka) (Q : State → Prop) (M : Mem) (pc : Nat) (L : List (Option Value)) (st : List Value) : Prop := V g cX8_puts 7 yX8_puts.cls none (rmd 3) Q κ M pc L st
theorem c_X8_puts {g : Gl} {M : Mem} {a i b j c na nb : Nat} (hI : ∀ i, 142 ≤ i ∧ i < 174 → i ∈ g.2.2.2.2) (ha : a ∈ g.2.2.2.2) (la : ial a = na) (h1 : i + 9 ≤ na) (hb : b ∈ g.2.2.2.2) (lb : ial b = nb) (h2 : j + 9 ≤ nb) (hc : c ∈ g.2.2.2.2) (lc : ial c = 9) (ha1 : a ≠ 150 ∧ a ≠ 151) (hb1 : b ≠ 150 ∧ b ≠ 151) : Ct g yX8_puts cX8_puts 7 none 3 [.ref (g.2.2.2.1 142), .ref (g.2.2.2.1 a), .int (nI i), .ref (g.2.2.2.1 b), .int (nI j), .ref (g.2.2.2.1 c)] M (fun v M' => v = none ∧ keep (fun q => q = 150 ∨ q = 151 ∨ q = c) M M' ∧ eq9 (M' c) (mput (sl (M a) i) (sl (M b) j)) ∧ ∀ k, 9 ≤ k → c ≠ 150 → c ≠ 151 → M' c k = M c k) := by
  have sa := ial_small a
  have sb := ial_small b
  refine Ct.ofV (by decide) (Nat.le_of_ble_eq_true rfl) (by simp [Value.category]) (fun κ => ?_)
  refine V.iconst (v := nI 0) dX8_puts_0 rfl ?_
  refine V.istore dX8_puts_1 (by decide) ?_
  have lp := up_loop 9 (fun k => v_X8_puts g κ (Qm g κ (fun v M' => v = none ∧ keep (fun q => q = 150 ∨ q = 151 ∨ q = c) M M' ∧ eq9 (M' c) (mput (sl (M a) i) (sl (M b) j)) ∧ ∀ k, 9 ≤ k → c ≠ 150 → c ≠ 151 → M' c k = M c k)) (aset M 151 0 k (fun _ => nI 0)) 3 [some (.ref (g.2.2.2.1 142)), some (.ref (g.2.2.2.1 a)), some (.int (nI i)), some (.ref (g.2.2.2.1 b)), some (.int (nI j)), some (.ref (g.2.2.2.1 c)), some (.int (nI k))] []) (fun k hk ih => ?_) 0 (by omega)
  · rw [aset_nil (Nat.le_refl 0)] at lp
    exact lp
  · refine V.iload dX8_puts_3 rfl ?_
    refine V.bipush (v := nI 9) dX8_puts_5 (by decide) ?_
    refine V.geN (tgt := 24) dX8_puts_7 (by decide) (by omega) (by omega) (fun h3 => ?_) (fun h3 => ?_)
    · have e : k = 9 := by omega
      subst e
      refine V.bipush (v := nI 8) dX8_puts_24 (by decide) ?_
      refine V.istore dX8_puts_26 (by decide) ?_
      have l2 := dn_loop (fun q => q ≤ 9 → ∀ M1, keep (fun q => q = 150 ∨ q = 151) M M1 → eq9 (M1 151) (mpin (sl (M a) i) (sl (M b) j) (9 - q)) → v_X8_puts g κ (Qm g κ (fun v M' => v = none ∧ keep (fun q => q = 150 ∨ q = 151 ∨ q = c) M M' ∧ eq9 (M' c) (mput (sl (M a) i) (sl (M b) j)) ∧ ∀ k, 9 ≤ k → c ≠ 150 → c ≠ 151 → M' c k = M c k)) M1 28 [some (.ref (g.2.2.2.1 142)), some (.ref (g.2.2.2.1 a)), some (.int (nI i)), some (.ref (g.2.2.2.1 b)), some (.int (nI j)), some (.ref (g.2.2.2.1 c)), some (.int (nI q - 1))] []) (fun q iq hq M1 k1 k2 => ?_) 9 (by omega)
      · exact l2 _ ((keep.rf (P := fun q => q = 150 ∨ q = 151)).as (Or.inr rfl)) aset_9
      · refine V.iload dX8_puts_28 rfl ?_
        refine V.if_ltD (tgt := 76) dX8_puts_30 (by decide) (by omega) (fun h4 => ?_) (fun z h4 => ?_)
        · subst h4
          refine V.aload_n dX8_puts_76 rfl ?_
          refine V.getf (ci := 7) (k := 10) (C := RX8) (T := TX8) (N := 37) dX8_puts_77 lfX8_35 inX8 rfl (by first | assumption | exact hI _ (by omega)) rfl (by decide) rfl ?_
          refine V.iconst (v := nI 0) dX8_puts_80 rfl ?_
          refine V.aload dX8_puts_81 rfl ?_
          refine V.iconst (v := nI 0) dX8_puts_83 rfl ?_
          refine V.bipush (v := nI 9) dX8_puts_84 (by decide) ?_
          refine V.callS dX8_puts_86 (c_X8_bring (a := 151) (na := 9) (nb := 9) (hI 151 (by decide)) hc rfl lc (by decide) (by decide) (Or.inr (Nat.le_refl 0))) lkX8_112 st_X8_bring cd_X8_bring ini_X8 hd_X8_bring ⟨Nat.le_of_ble_eq_true rfl, Nat.le_of_ble_eq_true rfl⟩ rfl (Nat.le_of_ble_eq_true rfl) (V.kkN ?_)
          refine V.vret dX8_puts_89 ?_
          refine ⟨rfl, (k1.wk (fun j hj => by omega)).br (by omega), ?_, fun k hk h150 h151 => ?_⟩
          · exact brg_0.tr (by rw [sl_0]; exact k2)
          · rw [brg_out (by omega), k1 c (by omega)]
        · subst h4
          rw [nI_pred]
          refine V.aload_n dX8_puts_33 rfl ?_
          refine V.aload_n dX8_puts_34 rfl ?_
          refine V.getf (ci := 7) (k := 10) (C := RX8) (T := TX8) (N := 37) dX8_puts_35 lfX8_35 inX8 rfl (by first | assumption | exact hI _ (by omega)) rfl (by decide) rfl ?_
          refine V.iconst (v := nI 0) dX8_puts_38 rfl ?_
          refine V.aload_n dX8_puts_39 rfl ?_
          refine V.iload dX8_puts_40 rfl ?_
          refine V.aload_n dX8_puts_42 rfl ?_
          refine V.getf (ci := 7) (k := 10) (C := RX8) (T := TX8) (N := 37) dX8_puts_43 lfX8_35 inX8 rfl (by first | assumption | exact hI _ (by omega)) rfl (by decide) rfl ?_
          refine V.callV (ci := 7) (T := TX8) (N := 37) dX8_puts_46 (c_X8_multiplies (a := 151) (c := 151) (na := 9) hI (hI 151 (by decide)) rfl (by decide) hb lb h2 (hI 151 (by decide)) rfl (by decide) hb1.1) lkX8_133 im_X8_multiplies se_X8_multiplies cd_X8_multiplies ini_X8 rfl (by first | assumption | exact hI _ (by omega)) rfl hd_X8_multiplies ⟨Nat.le_of_ble_eq_true rfl, Nat.le_of_ble_eq_true rfl⟩ rfl (Nat.le_of_ble_eq_true rfl) (V.kkN ?_)
          refine V.aload_n dX8_puts_49 rfl ?_
          refine V.getf (ci := 7) (k := 10) (C := RX8) (T := TX8) (N := 37) dX8_puts_50 lfX8_35 inX8 rfl (by first | assumption | exact hI _ (by omega)) rfl (by decide) rfl ?_
          refine V.iconst (v := nI 0) dX8_puts_53 rfl ?_
          refine V.aload_n dX8_puts_54 rfl ?_
          refine V.getf (ci := 7) (k := 10) (C := RX8) (T := TX8) (N := 37) dX8_puts_55 lfX8_35 inX8 rfl (by first | assumption | exact hI _ (by omega)) rfl (by decide) rfl ?_
          refine V.iconst (v := nI 0) dX8_puts_58 rfl ?_
          refine V.iald (n := 9) dX8_puts_59 (by first | assumption | exact hI _ (by omega)) (by first | assumption | decide) (by omega) ?_
          refine V.aload_n dX8_puts_60 rfl ?_
          refine V.iload_n dX8_puts_61 rfl ?_
          refine V.iload dX8_puts_62 rfl ?_
          first | refine V.iaddN dX8_puts_64 ?_ | refine V.iadd dX8_puts_64 ?_
          refine V.iald (n := na) dX8_puts_65 (by first | assumption | exact hI _ (by omega)) (by first | assumption | decide) (by omega) ?_
          refine V.callS dX8_puts_66 (c_X8_together) lkX8_119 st_X8_together cd_X8_together ini_X8 hd_X8_together ⟨Nat.le_of_ble_eq_true rfl, Nat.le_of_ble_eq_true rfl⟩ rfl (Nat.le_of_ble_eq_true rfl) (V.kkF ?_)
          refine V.iast (n := 9) dX8_puts_69 (by first | assumption | exact hI _ (by omega)) (by first | assumption | decide) (by omega) ?_
          refine V.iincD dX8_puts_70 (by decide) rfl ?_
          refine V.goto (tgt := 28) dX8_puts_73 (by decide) ?_
          refine iq _ rfl (by omega) _ (((k1.as (Or.inl rfl)).as (Or.inr rfl)).ms (Or.inr rfl)) ?_
          rw [sl_0, k1 b (by omega)]
          have ep : eq9 (fprod (M1 151) (sl (M b) j)) (fprod (mpin (sl (M a) i) (sl (M b) j) (9 - (z + 1))) (sl (M b) j)) := fprod_cg k2 eq9.rf
          rw [show 9 - z = (9 - (z + 1)) + 1 by omega]
          intro u hu
          simp only [mpin, fad0]
          rw [show 8 - (9 - (z + 1)) = z by omega]
          by_cases h0 : u = 0
          · subst h0
            rw [mset_at, aset_in (Nat.zero_le _) (by decide), if_pos rfl, ep 0 (by decide), aset_ne ha1.2, aset_ne ha1.1, k1 a (by omega)]
            rfl
          · rw [mset_nat h0, aset_in (Nat.zero_le _) hu, if_neg h0, ep u hu]
    · refine V.aload_n dX8_puts_10 rfl ?_
      refine V.getf (ci := 7) (k := 10) (C := RX8) (T := TX8) (N := 37) dX8_puts_11 lfX8_35 inX8 rfl (by first | assumption | exact hI _ (by omega)) rfl (by decide) rfl ?_
      refine V.iload dX8_puts_14 rfl ?_
      refine V.iconst (v := nI 0) dX8_puts_16 rfl ?_
      refine V.iast (n := 9) dX8_puts_17 (by first | assumption | exact hI _ (by omega)) (by first | assumption | decide) (by omega) ?_
      refine V.iincN dX8_puts_18 (by decide) rfl ?_
      refine V.goto (tgt := 3) dX8_puts_21 (by decide) ?_
      rw [aset_up (f := fun _ => nI 0) (hi := k) (Nat.zero_le _) rfl]
      exact ih h3
abbrev v_X8_turns (g : Gl) (κ : Ka) (Q : State → Prop) (M : Mem) (pc : Nat) (L : List (Option Value)) (st : List Value) : Prop := V g cX8_turns 7 yX8_turns.cls none (rmd 4) Q κ M pc L st
theorem c_X8_turns {g : Gl} {M : Mem} {a i c na : Nat} (hI : ∀ i, 142 ≤ i ∧ i < 174 → i ∈ g.2.2.2.2) (ha : a ∈ g.2.2.2.2) (la : ial a = na) (h1 : i + 9 ≤ na) (hc : c ∈ g.2.2.2.2) (lc : ial c = 9) (ha1 : ¬ (150 ≤ a ∧ a ≤ 153)) (hc1 : ¬ (150 ≤ c ∧ c ≤ 153)) : Ct g yX8_turns cX8_turns 7 none 4 [.ref (g.2.2.2.1 142), .ref (g.2.2.2.1 a), .int (nI i), .ref (g.2.2.2.1 c)] M (fun v M' => v = none ∧ keep (fun q => (150 ≤ q ∧ q ≤ 153) ∨ q = c) M M' ∧ eq9 (M' c) (mturn (sl (M a) i)) ∧ ∀ k, 9 ≤ k → M' c k = M c k) := by
  have sa := ial_small a
  refine Ct.ofV (by decide) (Nat.le_of_ble_eq_true rfl) (by simp [Value.category]) (fun κ => ?_)
  refine V.aload_n dX8_turns_0 rfl ?_
  refine V.iload_n dX8_turns_1 rfl ?_
  refine V.iconst (v := nI 1) dX8_turns_2 rfl ?_
  first | refine V.iaddN dX8_turns_3 ?_ | refine V.iadd dX8_turns_3 ?_
  refine V.iald (n := na) dX8_turns_4 (by first | assumption | exact hI _ (by omega)) (by first | assumption | decide) (by omega) ?_
  refine V.callS dX8_turns_5 (c_X8_over) lkX8_126 st_X8_over cd_X8_over ini_X8 hd_X8_over ⟨Nat.le_of_ble_eq_true rfl, Nat.le_of_ble_eq_true rfl⟩ rfl (Nat.le_of_ble_eq_true rfl) (V.kkF ?_)
  refine V.istore dX8_turns_8 (by decide) ?_
  refine V.iconst (v := nI 0) dX8_turns_10 rfl ?_
  refine V.istore dX8_turns_11 (by decide) ?_
  have lp := up_loop 9 (fun k => v_X8_turns g κ (Qm g κ (fun v M' => v = none ∧ keep (fun q => (150 ≤ q ∧ q ≤ 153) ∨ q = c) M M' ∧ eq9 (M' c) (mturn (sl (M a) i)) ∧ ∀ k, 9 ≤ k → M' c k = M c k)) (aset M 152 0 k (fun _ => nI 0)) 13 [some (.ref (g.2.2.2.1 142)), some (.ref (g.2.2.2.1 a)), some (.int (nI i)), some (.ref (g.2.2.2.1 c)), some (.int (finv (M a (i + 1)))), some (.int (nI k)), none] []) (fun k hk ih => ?_) 0 (by omega)
  · rw [aset_nil (Nat.le_refl 0)] at lp
    exact lp
  · refine V.iload dX8_turns_13 rfl ?_
    refine V.bipush (v := nI 9) dX8_turns_15 (by decide) ?_
    refine V.geN (tgt := 34) dX8_turns_17 (by decide) (by omega) (by omega) (fun h3 => ?_) (fun h3 => ?_)
    · have e : k = 9 := by omega
      subst e
      refine V.iconst (v := nI 1) dX8_turns_34 rfl ?_
      refine V.istore dX8_turns_35 (by decide) ?_
      have l2 := up_loop 9 (fun n => ∀ M1 x6, 1 ≤ n → keep (fun q => 150 ≤ q ∧ q ≤ 153) M M1 → eq9 (M1 152) (mtr (sl (M a) i) n) → v_X8_turns g κ (Qm g κ (fun v M' => v = none ∧ keep (fun q => (150 ≤ q ∧ q ≤ 153) ∨ q = c) M M' ∧ eq9 (M' c) (mturn (sl (M a) i)) ∧ ∀ k, 9 ≤ k → M' c k = M c k)) M1 37 [some (.ref (g.2.2.2.1 142)), some (.ref (g.2.2.2.1 a)), some (.int (nI i)), some (.ref (g.2.2.2.1 c)), some (.int (finv (M a (i + 1)))), some (.int (nI n)), x6] []) (fun n hn iq M1 x6 hn1 k1 k2 => ?_) 1 (by omega)
      · refine l2 _ _ (by decide) ((keep.rf (P := fun q => 150 ≤ q ∧ q ≤ 153)).as (by decide)) ?_
        intro k hk
        rw [aset_9 k hk]
        show nI 0 = if k = 0 then (if 0 = 0 then nI 0 else _) else nI 0
        rw [if_pos rfl]; split <;> rfl
      · refine V.iload dX8_turns_37 rfl ?_
        refine V.bipush (v := nI 9) dX8_turns_39 (by decide) ?_
        refine V.geN (tgt := 102) dX8_turns_41 (by decide) (by omega) (by omega) (fun h4 => ?_) (fun h4 => ?_)
        · have e : n = 9 := by omega
          subst e
          refine V.aload_n dX8_turns_102 rfl ?_
          refine V.getf (ci := 7) (k := 11) (C := RX8) (T := TX8) (N := 37) dX8_turns_103 lfX8_38 inX8 rfl (by first | assumption | exact hI _ (by omega)) rfl (by decide) rfl ?_
          refine V.iconst (v := nI 0) dX8_turns_106 rfl ?_
          refine V.aload_n dX8_turns_107 rfl ?_
          refine V.iconst (v := nI 0) dX8_turns_108 rfl ?_
          refine V.bipush (v := nI 9) dX8_turns_109 (by decide) ?_
          refine V.callS dX8_turns_111 (c_X8_bring (a := 152) (na := 9) (nb := 9) (hI 152 (by decide)) hc rfl lc (by decide) (by decide) (Or.inr (Nat.le_refl 0))) lkX8_112 st_X8_bring cd_X8_bring ini_X8 hd_X8_bring ⟨Nat.le_of_ble_eq_true rfl, Nat.le_of_ble_eq_true rfl⟩ rfl (Nat.le_of_ble_eq_true rfl) (V.kkN ?_)
          refine V.vret dX8_turns_114 ?_
          refine ⟨rfl, (k1.wk (fun j hj => by omega)).br (by omega), ?_, fun k hk => ?_⟩
          · exact brg_0.tr (by rw [sl_0]; exact k2)
          · rw [brg_out (by omega), k1 c (by omega)]
        · refine V.aload_n dX8_turns_44 rfl ?_
          refine V.aload_n dX8_turns_45 rfl ?_
          refine V.iload_n dX8_turns_46 rfl ?_
          refine V.aload_n dX8_turns_47 rfl ?_
          refine V.getf (ci := 7) (k := 11) (C := RX8) (T := TX8) (N := 37) dX8_turns_48 lfX8_38 inX8 rfl (by first | assumption | exact hI _ (by omega)) rfl (by decide) rfl ?_
          refine V.iconst (v := nI 0) dX8_turns_51 rfl ?_
          refine V.aload_n dX8_turns_52 rfl ?_
          refine V.getf (ci := 7) (k := 12) (C := RX8) (T := TX8) (N := 37) dX8_turns_53 lfX8_41 inX8 rfl (by first | assumption | exact hI _ (by omega)) rfl (by decide) rfl ?_
          refine V.callV (ci := 7) (T := TX8) (N := 37) dX8_turns_56 (c_X8_puts (a := a) (i := i) (b := 152) (j := 0) (c := 153) (nb := 9) hI ha la h1 (hI 152 (by decide)) rfl (by decide) (hI 153 (by decide)) rfl (by omega) (by decide)) lkX8_137 im_X8_puts se_X8_puts cd_X8_puts ini_X8 rfl (by first | assumption | exact hI _ (by omega)) rfl hd_X8_puts ⟨Nat.le_of_ble_eq_true rfl, Nat.le_of_ble_eq_true rfl⟩ rfl (Nat.le_of_ble_eq_true rfl) (V.kkP (fun M2 q2 => ?_))
          obtain ⟨k3, e3, -⟩ := q2
          rw [sl_0] at e3
          have eP : eq9 (M2 153) (mput (sl (M a) i) (mtr (sl (M a) i) n)) := e3.tr (mput_cg (by rw [k1 a (by omega)]; exact eq9.rf) k2)
          have k4 : keep (fun q => 150 ≤ q ∧ q ≤ 153) M M2 := k1.tr (k3.wk (fun j hj => by omega))
          have e2 : eq9 (M2 152) (mtr (sl (M a) i) n) := by rw [k3 152 (by omega)]; exact k2
          have fin : ∀ due : Int32, due = (if n = 1 then nI 1 else nI 0) → v_X8_turns g κ (Qm g κ (fun v M' => v = none ∧ keep (fun q => (150 ≤ q ∧ q ≤ 153) ∨ q = c) M M' ∧ eq9 (M' c) (mturn (sl (M a) i)) ∧ ∀ k, 9 ≤ k → M' c k = M c k)) M2 70 [some (.ref (g.2.2.2.1 142)), some (.ref (g.2.2.2.1 a)), some (.int (nI i)), some (.ref (g.2.2.2.1 c)), some (.int (finv (M a (i + 1)))), some (.int (nI n)), x6] [.int due] := by
            intro due hdue
            refine V.istore dX8_turns_70 (by decide) ?_
            refine V.aload_n dX8_turns_72 rfl ?_
            refine V.getf (ci := 7) (k := 11) (C := RX8) (T := TX8) (N := 37) dX8_turns_73 lfX8_38 inX8 rfl (by first | assumption | exact hI _ (by omega)) rfl (by decide) rfl ?_
            refine V.iload dX8_turns_76 rfl ?_
            refine V.iload dX8_turns_78 rfl ?_
            refine V.aload_n dX8_turns_80 rfl ?_
            refine V.getf (ci := 7) (k := 12) (C := RX8) (T := TX8) (N := 37) dX8_turns_81 lfX8_41 inX8 rfl (by first | assumption | exact hI _ (by omega)) rfl (by decide) rfl ?_
            refine V.iload dX8_turns_84 rfl ?_
            refine V.iald (n := 9) dX8_turns_86 (by first | assumption | exact hI _ (by omega)) (by first | assumption | decide) (by omega) ?_
            refine V.callS dX8_turns_87 (c_X8_less) lkX8_130 st_X8_less cd_X8_less ini_X8 hd_X8_less ⟨Nat.le_of_ble_eq_true rfl, Nat.le_of_ble_eq_true rfl⟩ rfl (Nat.le_of_ble_eq_true rfl) (V.kkF ?_)
            refine V.iload dX8_turns_90 rfl ?_
            refine V.callS dX8_turns_92 (c_X8_product) lkX8_108 st_X8_product cd_X8_product ini_X8 hd_X8_product ⟨Nat.le_of_ble_eq_true rfl, Nat.le_of_ble_eq_true rfl⟩ rfl (Nat.le_of_ble_eq_true rfl) (V.kkF ?_)
            refine V.iast (n := 9) dX8_turns_95 (by first | assumption | exact hI _ (by omega)) (by first | assumption | decide) (by omega) ?_
            refine V.iincN dX8_turns_96 (by decide) rfl ?_
            refine V.goto (tgt := 37) dX8_turns_99 (by decide) ?_
            refine iq h4 _ _ (by omega) (k4.ms (by decide)) ?_
            intro u hu
            show _ = if u = n then (if n = 0 then nI 0 else fmul (fsub (if n = 1 then nI 1 else nI 0) (mput (sl (M a) i) (mtr (sl (M a) i) n) n)) (finv (sl (M a) i 1))) else mtr (sl (M a) i) n u
            by_cases e : u = n
            · subst e
              rw [mset_at, if_pos rfl, if_neg (by omega), eP u hu, hdue]; rfl
            · rw [mset_nat e, if_neg e]; exact e2 u hu
          refine V.iload dX8_turns_59 rfl ?_
          refine V.iconst (v := nI 1) dX8_turns_61 rfl ?_
          refine V.neN (tgt := 69) dX8_turns_62 (by decide) (by omega) (by omega) (fun h5 => ?_) (fun h5 => ?_)
          · refine V.iconst (v := nI 0) dX8_turns_69 rfl ?_
            exact fin _ (by rw [if_neg h5])
          · refine V.iconst (v := nI 1) dX8_turns_65 rfl ?_
            refine V.goto (tgt := 70) dX8_turns_66 (by decide) ?_
            exact fin _ (by rw [if_pos h5])
    · refine V.aload_n dX8_turns_20 rfl ?_
      refine V.getf (ci := 7) (k := 11) (C := RX8) (T := TX8) (N := 37) dX8_turns_21 lfX8_38 inX8 rfl (by first | assumption | exact hI _ (by omega)) rfl (by decide) rfl ?_
      refine V.iload dX8_turns_24 rfl ?_
      refine V.iconst (v := nI 0) dX8_turns_26 rfl ?_
      refine V.iast (n := 9) dX8_turns_27 (by first | assumption | exact hI _ (by omega)) (by first | assumption | decide) (by omega) ?_
      refine V.iincN dX8_turns_28 (by decide) rfl ?_
      refine V.goto (tgt := 13) dX8_turns_31 (by decide) ?_
      rw [aset_up (f := fun _ => nI 0) (hi := k) (Nat.zero_le _) rfl]
      exact ih h3
theorem c_X8_isFlat {g : Gl} {M : Mem} {a i na : Nat} (ha : a ∈ g.2.2.2.2) (la : ial a = na) (h1 : i + 9 ≤ na) : Ct g yX8_isFlat cX8_isFlat 2 (some .boolean) 0 [.ref (g.2.2.2.1 a), .int (nI i)] M (fun v M' => v = some (.int (nI (decide (M a i = 0)).toNat)) ∧ M' = M) := by
  have sa := ial_small a
  refine Ct.ofV (by decide) (Nat.le_of_ble_eq_true rfl) (by simp [Value.category]) (fun κ => ?_)
  refine V.aload_n dX8_isFlat_0 rfl ?_
  refine V.iload_n dX8_isFlat_1 rfl ?_
  refine V.iald (n := na) dX8_isFlat_2 (by first | assumption | exact hI _ (by omega)) (by first | assumption | decide) (by omega) ?_
  refine V.if_ne (tgt := 10) dX8_isFlat_3 (by decide) (fun h2 => ?_) (fun h2 => ?_)
  · refine V.iconst (v := nI 0) dX8_isFlat_10 rfl ?_
    refine V.zret dX8_isFlat_11 rfl ?_
    exact ⟨by simp [h2], rfl⟩
  · refine V.iconst (v := nI 1) dX8_isFlat_6 rfl ?_
    refine V.goto (tgt := 11) dX8_isFlat_7 (by decide) ?_
    refine V.zret dX8_isFlat_11 rfl ?_
    exact ⟨by simp [h2], rfl⟩
theorem c_X8_isDelta {g : Gl} {M : Mem} {a i na : Nat} (ha : a ∈ g.2.2.2.2) (la : ial a = na) (h1 : i + 9 ≤ na) : Ct g yX8_isDelta cX8_isDelta 2 (some .boolean) 0 [.ref (g.2.2.2.1 a), .int (nI i)] M (fun v M' => v = some (.int (nI (isDe (sl (M a) i)).toNat)) ∧ M' = M) := by
  have sa := ial_small a
  refine Ct.ofV (by decide) (Nat.le_of_ble_eq_true rfl) (by simp [Value.category]) (fun κ => ?_)
  refine V.aload_n dX8_isDelta_0 rfl ?_
  refine V.iload_n dX8_isDelta_1 rfl ?_
  refine V.iald (n := na) dX8_isDelta_2 (by first | assumption | exact hI _ (by omega)) (by first | assumption | decide) (by omega) ?_
  refine V.if_ne (tgt := 18) dX8_isDelta_3 (by decide) (fun h2 => ?_) (fun h2 => ?_)
  · refine V.iconst (v := nI 0) dX8_isDelta_18 rfl ?_
    refine V.zret dX8_isDelta_19 rfl ?_
    exact ⟨by simp [isDe, sl, h2], rfl⟩
  · refine V.aload_n dX8_isDelta_6 rfl ?_
    refine V.iload_n dX8_isDelta_7 rfl ?_
    refine V.iconst (v := nI 1) dX8_isDelta_8 rfl ?_
    first | refine V.iaddN dX8_isDelta_9 ?_ | refine V.iadd dX8_isDelta_9 ?_
    refine V.iald (n := na) dX8_isDelta_10 (by first | assumption | exact hI _ (by omega)) (by first | assumption | decide) (by omega) ?_
    refine V.if_eq (tgt := 18) dX8_isDelta_11 (by decide) (fun h3 => ?_) (fun h3 => ?_)
    · refine V.iconst (v := nI 0) dX8_isDelta_18 rfl ?_
      refine V.zret dX8_isDelta_19 rfl ?_
      exact ⟨by simp [isDe, sl, h3], rfl⟩
    · refine V.iconst (v := nI 1) dX8_isDelta_14 rfl ?_
      refine V.goto (tgt := 19) dX8_isDelta_15 (by decide) ?_
      refine V.zret dX8_isDelta_19 rfl ?_
      exact ⟨by simp [isDe, sl, h2, h3], rfl⟩
abbrev v_X8_sets (g : Gl) (κ : Ka) (Q : State → Prop) (M : Mem) (pc : Nat) (L : List (Option Value)) (st : List Value) : Prop := V g cX8_sets 4 yX8_sets.cls none (rmd 0) Q κ M pc L st
theorem c_X8_sets {g : Gl} {M : Mem} {x z : Int32} (hI : ∀ i, 142 ≤ i ∧ i < 174 → i ∈ g.2.2.2.2) : Ct g yX8_sets cX8_sets 4 none 0 [.ref (g.2.2.2.1 142), .int x, .int z] M (fun v M' => v = none ∧ M' = mset (mset (aset M 156 0 9 (fun _ => nI 0)) 156 0 x) 156 1 z) := by
  refine Ct.ofV (by decide) (Nat.le_of_ble_eq_true rfl) (by simp [Value.category]) (fun κ => ?_)
  refine V.iconst (v := nI 0) dX8_sets_0 rfl ?_
  refine V.istore_n dX8_sets_1 (by decide) ?_
  have lp := up_loop 9 (fun j => v_X8_sets g κ (Qm g κ (fun v M' => v = none ∧ M' = mset (mset (aset M 156 0 9 (fun _ => nI 0)) 156 0 x) 156 1 z)) (aset M 156 0 j (fun _ => nI 0)) 2 [some (.ref (g.2.2.2.1 142)), some (.int x), some (.int z), some (.int (nI j))] []) (fun j hj ih => ?_) 0 (by omega)
  · rw [aset_nil (Nat.le_refl 0)] at lp
    exact lp
  · refine V.iload_n dX8_sets_2 rfl ?_
    refine V.bipush (v := nI 9) dX8_sets_3 (by decide) ?_
    refine V.geN (tgt := 21) dX8_sets_5 (by decide) (by omega) (by omega) (fun h1 => ?_) (fun h1 => ?_)
    · have e : j = 9 := by omega
      subst e
      refine V.aload_n dX8_sets_21 rfl ?_
      refine V.getf (ci := 7) (k := 18) (C := RX8) (T := TX8) (N := 37) dX8_sets_22 lfX8_50 inX8 rfl (by first | assumption | exact hI _ (by omega)) rfl (by decide) rfl ?_
      refine V.iconst (v := nI 0) dX8_sets_25 rfl ?_
      refine V.iload_n dX8_sets_26 rfl ?_
      refine V.iast (n := 9) dX8_sets_27 (by first | assumption | exact hI _ (by omega)) (by first | assumption | decide) (by omega) ?_
      refine V.aload_n dX8_sets_28 rfl ?_
      refine V.getf (ci := 7) (k := 18) (C := RX8) (T := TX8) (N := 37) dX8_sets_29 lfX8_50 inX8 rfl (by first | assumption | exact hI _ (by omega)) rfl (by decide) rfl ?_
      refine V.iconst (v := nI 1) dX8_sets_32 rfl ?_
      refine V.iload_n dX8_sets_33 rfl ?_
      refine V.iast (n := 9) dX8_sets_34 (by first | assumption | exact hI _ (by omega)) (by first | assumption | decide) (by omega) ?_
      refine V.vret dX8_sets_35 ?_
      exact ⟨rfl, rfl⟩
    · refine V.aload_n dX8_sets_8 rfl ?_
      refine V.getf (ci := 7) (k := 18) (C := RX8) (T := TX8) (N := 37) dX8_sets_9 lfX8_50 inX8 rfl (by first | assumption | exact hI _ (by omega)) rfl (by decide) rfl ?_
      refine V.iload_n dX8_sets_12 rfl ?_
      refine V.iconst (v := nI 0) dX8_sets_13 rfl ?_
      refine V.iast (n := 9) dX8_sets_14 (by first | assumption | exact hI _ (by omega)) (by first | assumption | decide) (by omega) ?_
      refine V.iincN dX8_sets_15 (by decide) rfl ?_
      refine V.goto (tgt := 2) dX8_sets_18 (by decide) ?_
      rw [aset_up (f := fun _ => nI 0) (hi := j) (Nat.zero_le _) rfl]
      exact ih h1
abbrev v_X8_sofarOne (g : Gl) (κ : Ka) (Q : State → Prop) (M : Mem) (pc : Nat) (L : List (Option Value)) (st : List Value) : Prop := V g cX8_sofarOne 2 yX8_sofarOne.cls none (rmd 0) Q κ M pc L st
theorem c_X8_sofarOne {g : Gl} {M : Mem} (hI : ∀ i, 142 ≤ i ∧ i < 174 → i ∈ g.2.2.2.2) : Ct g yX8_sofarOne cX8_sofarOne 2 none 0 [.ref (g.2.2.2.1 142)] M (fun v M' => v = none ∧ M' = aset M 151 0 9 (mono 0 (nI 1))) := by
  refine Ct.ofV (by decide) (Nat.le_of_ble_eq_true rfl) (by simp [Value.category]) (fun κ => ?_)
  refine V.iconst (v := nI 0) dX8_sofarOne_0 rfl ?_
  refine V.istore_n dX8_sofarOne_1 (by decide) ?_
  have lp := up_loop 9 (fun j => v_X8_sofarOne g κ (Qm g κ (fun v M' => v = none ∧ M' = aset M 151 0 9 (mono 0 (nI 1)))) (aset M 151 0 j (mono 0 (nI 1))) 2 [some (.ref (g.2.2.2.1 142)), some (.int (nI j))] []) (fun j hj ih => ?_) 0 (by omega)
  · rw [aset_nil (Nat.le_refl 0)] at lp
    exact lp
  · refine V.iload_n dX8_sofarOne_2 rfl ?_
    refine V.bipush (v := nI 9) dX8_sofarOne_3 (by decide) ?_
    refine V.geN (tgt := 29) dX8_sofarOne_5 (by decide) (by omega) (by omega) (fun h1 => ?_) (fun h1 => ?_)
    · have e : j = 9 := by omega
      subst e
      refine V.vret dX8_sofarOne_29 ?_
      exact ⟨rfl, rfl⟩
    · refine V.aload_n dX8_sofarOne_8 rfl ?_
      refine V.getf (ci := 7) (k := 10) (C := RX8) (T := TX8) (N := 37) dX8_sofarOne_9 lfX8_35 inX8 rfl (by first | assumption | exact hI _ (by omega)) rfl (by decide) rfl ?_
      refine V.iload_n dX8_sofarOne_12 rfl ?_
      refine V.iload_n dX8_sofarOne_13 rfl ?_
      refine V.if_neN (tgt := 21) dX8_sofarOne_14 (by decide) (by omega) (fun h2 => ?_) (fun h2 => ?_)
      · refine V.iconst (v := nI 0) dX8_sofarOne_21 rfl ?_
        refine V.iast (n := 9) dX8_sofarOne_22 (by first | assumption | exact hI _ (by omega)) (by first | assumption | decide) (by omega) ?_
        refine V.iincN dX8_sofarOne_23 (by decide) rfl ?_
        refine V.goto (tgt := 2) dX8_sofarOne_26 (by decide) ?_
        rw [aset_up (f := mono 0 (nI 1)) (hi := j) (Nat.zero_le _) (by simp [mono, h2])]
        exact ih h1
      · refine V.iconst (v := nI 1) dX8_sofarOne_17 rfl ?_
        refine V.goto (tgt := 22) dX8_sofarOne_18 (by decide) ?_
        refine V.iast (n := 9) dX8_sofarOne_22 (by first | assumption | exact hI _ (by omega)) (by first | assumption | decide) (by omega) ?_
        refine V.iincN dX8_sofarOne_23 (by decide) rfl ?_
        refine V.goto (tgt := 2) dX8_sofarOne_26 (by decide) ?_
        rw [aset_up (f := mono 0 (nI 1)) (hi := j) (Nat.zero_le _) (by simp [mono, h2])]
        exact ih h1
abbrev v_X8_laysOne (g : Gl) (κ : Ka) (Q : State → Prop) (M : Mem) (pc : Nat) (L : List (Option Value)) (st : List Value) : Prop := V g cX8_laysOne 2 yX8_laysOne.cls none (rmd 0) Q κ M pc L st
theorem c_X8_laysOne {g : Gl} {M : Mem} (hI : ∀ i, 142 ≤ i ∧ i < 174 → i ∈ g.2.2.2.2) : Ct g yX8_laysOne cX8_laysOne 2 none 0 [.ref (g.2.2.2.1 142)] M (fun v M' => v = none ∧ M' = aset M 167 0 9 (mono 0 (nI 1))) := by
  refine Ct.ofV (by decide) (Nat.le_of_ble_eq_true rfl) (by simp [Value.category]) (fun κ => ?_)
  refine V.iconst (v := nI 0) dX8_laysOne_0 rfl ?_
  refine V.istore_n dX8_laysOne_1 (by decide) ?_
  have lp := up_loop 9 (fun j => v_X8_laysOne g κ (Qm g κ (fun v M' => v = none ∧ M' = aset M 167 0 9 (mono 0 (nI 1)))) (aset M 167 0 j (mono 0 (nI 1))) 2 [some (.ref (g.2.2.2.1 142)), some (.int (nI j))] []) (fun j hj ih => ?_) 0 (by omega)
  · rw [aset_nil (Nat.le_refl 0)] at lp
    exact lp
  · refine V.iload_n dX8_laysOne_2 rfl ?_
    refine V.bipush (v := nI 9) dX8_laysOne_3 (by decide) ?_
    refine V.geN (tgt := 29) dX8_laysOne_5 (by decide) (by omega) (by omega) (fun h1 => ?_) (fun h1 => ?_)
    · have e : j = 9 := by omega
      subst e
      refine V.vret dX8_laysOne_29 ?_
      exact ⟨rfl, rfl⟩
    · refine V.aload_n dX8_laysOne_8 rfl ?_
      refine V.getf (ci := 7) (k := 30) (C := RX8) (T := TX8) (N := 37) dX8_laysOne_9 lfX8_83 inX8 rfl (by first | assumption | exact hI _ (by omega)) rfl (by decide) rfl ?_
      refine V.iload_n dX8_laysOne_12 rfl ?_
      refine V.iload_n dX8_laysOne_13 rfl ?_
      refine V.if_neN (tgt := 21) dX8_laysOne_14 (by decide) (by omega) (fun h2 => ?_) (fun h2 => ?_)
      · refine V.iconst (v := nI 0) dX8_laysOne_21 rfl ?_
        refine V.iast (n := 9) dX8_laysOne_22 (by first | assumption | exact hI _ (by omega)) (by first | assumption | decide) (by omega) ?_
        refine V.iincN dX8_laysOne_23 (by decide) rfl ?_
        refine V.goto (tgt := 2) dX8_laysOne_26 (by decide) ?_
        rw [aset_up (f := mono 0 (nI 1)) (hi := j) (Nat.zero_le _) (by simp [mono, h2])]
        exact ih h1
      · refine V.iconst (v := nI 1) dX8_laysOne_17 rfl ?_
        refine V.goto (tgt := 22) dX8_laysOne_18 (by decide) ?_
        refine V.iast (n := 9) dX8_laysOne_22 (by first | assumption | exact hI _ (by omega)) (by first | assumption | decide) (by omega) ?_
        refine V.iincN dX8_laysOne_23 (by decide) rfl ?_
        refine V.goto (tgt := 2) dX8_laysOne_26 (by decide) ?_
        rw [aset_up (f := mono 0 (nI 1)) (hi := j) (Nat.zero_le _) (by simp [mono, h2])]
        exact ih h1
abbrev v_X8_raisesThing (g : Gl) (κ : Ka) (Q : State → Prop) (M : Mem) (pc : Nat) (L : List (Option Value)) (st : List Value) : Prop := V g cX8_raisesThing 3 yX8_raisesThing.cls none (rmd 3) Q κ M pc L st
theorem c_X8_raisesThing {g : Gl} {M : Mem} {n : Nat} (hI : ∀ i, 142 ≤ i ∧ i < 174 → i ∈ g.2.2.2.2) (hn : n < 10000) : Ct g yX8_raisesThing cX8_raisesThing 3 none 3 [.ref (g.2.2.2.1 142), .int (nI n)] M (fun v M' => v = none ∧ keep (fun q => q = 150 ∨ q = 151 ∨ q = 156) M M' ∧ eq9 (M' 156) (fpow (M 156) n)) := by
  refine Ct.ofV (by decide) (Nat.le_of_ble_eq_true rfl) (by simp [Value.category]) (fun κ => ?_)
  refine V.aload_n dX8_raisesThing_0 rfl ?_
  refine V.callV (ci := 7) (T := TX8) (N := 37) dX8_raisesThing_1 (c_X8_sofarOne hI) lkX8_182 im_X8_sofarOne se_X8_sofarOne cd_X8_sofarOne ini_X8 rfl (by first | assumption | exact hI _ (by omega)) rfl hd_X8_sofarOne ⟨Nat.le_of_ble_eq_true rfl, Nat.le_of_ble_eq_true rfl⟩ rfl (Nat.le_of_ble_eq_true rfl) (V.kkN ?_)
  refine V.iconst (v := nI 0) dX8_raisesThing_4 rfl ?_
  refine V.istore_n dX8_raisesThing_5 (by decide) ?_
  have lp := up_loop n (fun k => ∀ M1, keep (fun q => q = 150 ∨ q = 151) M M1 → eq9 (M1 151) (fpow (M 156) k) → v_X8_raisesThing g κ (Qm g κ (fun v M' => v = none ∧ keep (fun q => q = 150 ∨ q = 151 ∨ q = 156) M M' ∧ eq9 (M' 156) (fpow (M 156) n))) M1 6 [some (.ref (g.2.2.2.1 142)), some (.int (nI n)), some (.int (nI k))] []) (fun k hk ih M1 k1 k2 => ?_) 0 (by omega)
  · exact lp _ ((keep.rf (P := fun q => q = 150 ∨ q = 151)).as (Or.inr rfl)) aset_9
  · refine V.iload_n dX8_raisesThing_6 rfl ?_
    refine V.iload_n dX8_raisesThing_7 rfl ?_
    refine V.geN (tgt := 35) dX8_raisesThing_8 (by decide) (by omega) (by omega) (fun h1 => ?_) (fun h1 => ?_)
    · have e : k = n := by omega
      subst e
      refine V.aload_n dX8_raisesThing_35 rfl ?_
      refine V.getf (ci := 7) (k := 10) (C := RX8) (T := TX8) (N := 37) dX8_raisesThing_36 lfX8_35 inX8 rfl (by first | assumption | exact hI _ (by omega)) rfl (by decide) rfl ?_
      refine V.iconst (v := nI 0) dX8_raisesThing_39 rfl ?_
      refine V.aload_n dX8_raisesThing_40 rfl ?_
      refine V.getf (ci := 7) (k := 18) (C := RX8) (T := TX8) (N := 37) dX8_raisesThing_41 lfX8_50 inX8 rfl (by first | assumption | exact hI _ (by omega)) rfl (by decide) rfl ?_
      refine V.iconst (v := nI 0) dX8_raisesThing_44 rfl ?_
      refine V.bipush (v := nI 9) dX8_raisesThing_45 (by decide) ?_
      refine V.callS dX8_raisesThing_47 (c_X8_bring (a := 151) (b := 156) (na := 9) (nb := 9) (hI 151 (by decide)) (hI 156 (by decide)) rfl rfl (by decide) (by decide) (Or.inr (Nat.le_refl 0))) lkX8_112 st_X8_bring cd_X8_bring ini_X8 hd_X8_bring ⟨Nat.le_of_ble_eq_true rfl, Nat.le_of_ble_eq_true rfl⟩ rfl (Nat.le_of_ble_eq_true rfl) (V.kkN ?_)
      refine V.vret dX8_raisesThing_50 ?_
      exact ⟨rfl, (k1.wk (fun j hj => by omega)).br (Or.inr (Or.inr rfl)), brg_0.tr (by rw [sl_0]; exact k2)⟩
    · refine V.aload_n dX8_raisesThing_11 rfl ?_
      refine V.aload_n dX8_raisesThing_12 rfl ?_
      refine V.getf (ci := 7) (k := 10) (C := RX8) (T := TX8) (N := 37) dX8_raisesThing_13 lfX8_35 inX8 rfl (by first | assumption | exact hI _ (by omega)) rfl (by decide) rfl ?_
      refine V.iconst (v := nI 0) dX8_raisesThing_16 rfl ?_
      refine V.aload_n dX8_raisesThing_17 rfl ?_
      refine V.getf (ci := 7) (k := 18) (C := RX8) (T := TX8) (N := 37) dX8_raisesThing_18 lfX8_50 inX8 rfl (by first | assumption | exact hI _ (by omega)) rfl (by decide) rfl ?_
      refine V.iconst (v := nI 0) dX8_raisesThing_21 rfl ?_
      refine V.aload_n dX8_raisesThing_22 rfl ?_
      refine V.getf (ci := 7) (k := 10) (C := RX8) (T := TX8) (N := 37) dX8_raisesThing_23 lfX8_35 inX8 rfl (by first | assumption | exact hI _ (by omega)) rfl (by decide) rfl ?_
      refine V.callV (ci := 7) (T := TX8) (N := 37) dX8_raisesThing_26 (c_X8_multiplies (a := 151) (b := 156) (c := 151) (na := 9) (nb := 9) hI (hI 151 (by decide)) rfl (by decide) (hI 156 (by decide)) rfl (by decide) (hI 151 (by decide)) rfl (by decide) (by decide)) lkX8_133 im_X8_multiplies se_X8_multiplies cd_X8_multiplies ini_X8 rfl (by first | assumption | exact hI _ (by omega)) rfl hd_X8_multiplies ⟨Nat.le_of_ble_eq_true rfl, Nat.le_of_ble_eq_true rfl⟩ rfl (Nat.le_of_ble_eq_true rfl) (V.kkN ?_)
      refine V.iincN dX8_raisesThing_29 (by decide) rfl ?_
      refine V.goto (tgt := 6) dX8_raisesThing_32 (by decide) ?_
      refine ih h1 _ ((k1.as (Or.inl rfl)).as (Or.inr rfl)) ?_
      rw [sl_0, sl_0]
      exact aset_9.tr (fprod_cg k2 (by rw [k1 156 (by omega)]; exact eq9.rf))

