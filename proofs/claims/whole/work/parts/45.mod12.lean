theorem lk_off {x : Int32} (h1 : x ≠ nI 41) (h2 : x ≠ nI 42) (h3 : x ≠ nI 43) (h4 : x ≠ nI 45) (h5 : x ≠ nI 47) (h6 : x ≠ nI 94) : Op.lookupswitch.offset (#[((41 : Int), (151 : Int)), (42, 89), (43, 115), (45, 115), (47, 89), (94, 59)]).toList 176 x.toInt = 176 := by
  have ne : ∀ k : Nat, k < 2 ^ 31 → x ≠ nI k → x.toInt ≠ (k : Int) := fun k hk h e => h (Int32.toInt_inj.mp (by rw [nI_toInt hk]; exact e))
  have n1 := ne 41 (by decide) h1
  have n2 := ne 42 (by decide) h2
  have n3 := ne 43 (by decide) h3
  have n4 := ne 45 (by decide) h4
  have n5 := ne 47 (by decide) h5
  have n6 := ne 94 (by decide) h6
  simp [Op.lookupswitch.offset]
  omega
theorem mono_sets {M : Mem} {x : Int32} : eq9 (mset (mset (aset M 156 0 9 (fun _ => nI 0)) 156 0 x) 156 1 (nI 0) 156) (mono 0 x) := fun k hk => by
  unfold mono
  by_cases e1 : k = 1
  · subst e1; rw [mset_at]; rfl
  · rw [mset_nat e1]
    by_cases e0 : k = 0
    · subst e0; rw [mset_at, if_pos rfl]
    · rw [mset_nat e0, if_neg e0]; exact aset_9 k hk
theorem mono_sets1 {M : Mem} {x : Int32} : eq9 (mset (mset (aset M 156 0 9 (fun _ => nI 0)) 156 0 (nI 0)) 156 1 x 156) (mono 1 x) := fun k hk => by
  unfold mono
  by_cases e1 : k = 1
  · subst e1; rw [mset_at, if_pos rfl]
  · rw [mset_nat e1, if_neg e1]
    by_cases e0 : k = 0
    · subst e0; rw [mset_at]
    · rw [mset_nat e0]; exact aset_9 k hk
theorem sets_keep {M : Mem} {x z : Int32} : keep (fun j => j = 156) M (mset (mset (aset M 156 0 9 (fun _ => nI 0)) 156 0 x) 156 1 z) := (((keep.rf (P := fun j => j = 156)).as rfl).ms rfl).ms rfl
theorem c_X8_readsThing {g : Gl} {M : Mem} {l : Ser} {n : Nat} {ρ : Rho} (hI : ∀ i, 142 ≤ i ∧ i < 174 → i ∈ g.2.2.2.2) (h : MS l n ρ M) (hs : sk l n ρ.1 = ρ.1) : Ct g yX8_readsThing cX8_readsThing 3 (some .int) 2 [.ref (g.2.2.2.1 142), .int (fs l n ρ.1)] M (fun v M' => v = some (.int (mTh l n (fs l n ρ.1) ρ).1) ∧ MS l n (mTh l n (fs l n ρ.1) ρ).2 M' ∧ KM M M') := by
  obtain ⟨p, o, w, th, fr, ah⟩ := ρ
  obtain ⟨h1, hF⟩ := id h
  dsimp only at h1 hF hs ⊢
  obtain ⟨a1, a2, a3, a4, a5, a6, a7, a8, a9⟩ := id h1
  have u : mTh l n (fs l n p) (p, o, w, th, fr, ah) = if isDg (fs l n p) = true then (if isNum l n p = true then (nI 1, (en l n p, o, w, mono 0 (amt l n p), fr, ah)) else (-1, (p, o, w, th, fr, ah))) else if fs l n p = nI 116 then (nI 1, (en l n p, o, w, mono 1 (nI 1), fr, ah)) else if isNm (fs l n p) = true then (nI 3, (en l n p, o, w, th, fr, fs l n p)) else mBr l n (fs l n p) (p, o, w, th, fr, nI 0) := rfl
  rw [u]
  refine Ct.ofV (by decide) (Nat.le_of_ble_eq_true rfl) (by simp [Value.category]) (fun κ => ?_)
  refine V.iload_n dX8_readsThing_0 rfl ?_
  refine V.callS dX8_readsThing_1 (c_X8_isDigit) lkX8_147 st_X8_isDigit cd_X8_isDigit ini_X8 hd_X8_isDigit ⟨Nat.le_of_ble_eq_true rfl, Nat.le_of_ble_eq_true rfl⟩ rfl (Nat.le_of_ble_eq_true rfl) (V.kkF ?_)
  refine V.if_eqB (tgt := 52) dX8_readsThing_4 (by decide) (fun hd => ?_) (fun hd => ?_)
  · rw [if_neg (show ¬ isDg (fs l n p) = true by rw [hd]; decide)]
    refine V.iload_n dX8_readsThing_52 rfl ?_
    refine V.bipush (v := nI 116) dX8_readsThing_53 (by decide) ?_
    refine V.icmp_ne (tgt := 76) dX8_readsThing_55 (by decide) (fun h2 => ?_) (fun h2 => ?_)
    · rw [if_neg h2]
      refine V.iload_n dX8_readsThing_76 rfl ?_
      refine V.callS dX8_readsThing_77 (c_X8_isLetter) lkX8_196 st_X8_isLetter cd_X8_isLetter ini_X8 hd_X8_isLetter ⟨Nat.le_of_ble_eq_true rfl, Nat.le_of_ble_eq_true rfl⟩ rfl (Nat.le_of_ble_eq_true rfl) (V.kkF ?_)
      refine V.if_eqB (tgt := 100) dX8_readsThing_80 (by decide) (fun h3 => ?_) (fun h3 => ?_)
      · rw [if_neg (show ¬ isNm (fs l n p) = true by rw [h3]; decide)]
        refine V.aload_n dX8_readsThing_100 rfl ?_
        refine V.iconst (v := nI 0) dX8_readsThing_101 rfl ?_
        refine V.putf (ci := 7) (k := 27) (C := RX8) (T := TX8) (N := 37) (ty := .int) tyX8 dX8_readsThing_102 lfX8_199 inX8 tyX8_ok nmX8 rfl (by first | assumption | exact hI _ (by omega)) rfl (by decide) rfl rfl rfl rfl (Nat.le_of_ble_eq_true rfl) rfl ?_
        refine V.aload_n dX8_readsThing_105 rfl ?_
        refine V.iload_n dX8_readsThing_106 rfl ?_
        refine V.callV (ci := 7) (T := TX8) (N := 37) dX8_readsThing_107 (c_X8_readsBracket (ρ := (p, o, w, th, fr, nI 0)) hI ⟨h1.a', hF.m142⟩ hs) lkX8_202 im_X8_readsBracket se_X8_readsBracket cd_X8_readsBracket ini_X8 rfl (by first | assumption | exact hI _ (by omega)) rfl hd_X8_readsBracket ⟨Nat.le_of_ble_eq_true rfl, Nat.le_of_ble_eq_true rfl⟩ rfl (Nat.le_of_ble_eq_true rfl) (V.kkX (fun M1 q1 => ?_))
        refine V.iret dX8_readsThing_110 ?_
        exact ⟨rfl, q1.1, (KM.ms (by omega)).tr q1.2⟩
      · rw [if_pos h3]
        obtain ⟨hp, he⟩ := en_c hs rfl (fun z => by rw [z] at h3; revert h3; decide) hd
        refine V.aload_n dX8_readsThing_83 rfl ?_
        refine V.iload_n dX8_readsThing_84 rfl ?_
        refine V.putf (ci := 7) (k := 27) (C := RX8) (T := TX8) (N := 37) (ty := .int) tyX8 dX8_readsThing_85 lfX8_199 inX8 tyX8_ok nmX8 rfl (by first | assumption | exact hI _ (by omega)) rfl (by decide) rfl rfl rfl rfl (Nat.le_of_ble_eq_true rfl) rfl ?_
        refine V.aload_n dX8_readsThing_88 rfl ?_
        refine V.dup dX8_readsThing_89 rfl ?_
        refine V.getf (ci := 7) (k := 15) (C := RX8) (T := TX8) (N := 37) dX8_readsThing_90 lfX8_140 inX8 rfl (by first | assumption | exact hI _ (by omega)) rfl (by decide) rfl ?_
        rw [mset_nat (i := 142) (j := 27) (k := 15) (by decide), a6]
        refine V.iconst (v := nI 1) dX8_readsThing_93 rfl ?_
        first | refine V.iaddN dX8_readsThing_94 ?_ | refine V.iadd dX8_readsThing_94 ?_
        refine V.putf (ci := 7) (k := 15) (C := RX8) (T := TX8) (N := 37) (ty := .int) tyX8 dX8_readsThing_95 lfX8_140 inX8 tyX8_ok nmX8 rfl (by first | assumption | exact hI _ (by omega)) rfl (by decide) rfl rfl rfl rfl (Nat.le_of_ble_eq_true rfl) rfl ?_
        refine V.iconst (v := nI 3) dX8_readsThing_98 rfl ?_
        refine V.iret dX8_readsThing_99 ?_
        exact ⟨rfl, ⟨by show MI l n (en l n p) o w (fs l n p) _; rw [he]; exact (h1.a').p' (by omega), hF.m142.m142⟩, (KM.ms (by omega)).tr (KM.ms (by omega))⟩
    · have h2n : fs l n p = nI 116 := by simpa using h2
      rw [if_pos h2n]
      obtain ⟨hp, he⟩ := en_c hs h2n (by decide) (by decide)
      refine V.aload_n dX8_readsThing_58 rfl ?_
      refine V.iconst (v := nI 0) dX8_readsThing_59 rfl ?_
      refine V.iconst (v := nI 1) dX8_readsThing_60 rfl ?_
      refine V.callV (ci := 7) (T := TX8) (N := 37) dX8_readsThing_61 (c_X8_sets hI) lkX8_192 im_X8_sets se_X8_sets cd_X8_sets ini_X8 rfl (by first | assumption | exact hI _ (by omega)) rfl hd_X8_sets ⟨Nat.le_of_ble_eq_true rfl, Nat.le_of_ble_eq_true rfl⟩ rfl (Nat.le_of_ble_eq_true rfl) (V.kkN ?_)
      refine V.aload_n dX8_readsThing_64 rfl ?_
      refine V.dup dX8_readsThing_65 rfl ?_
      refine V.getf (ci := 7) (k := 15) (C := RX8) (T := TX8) (N := 37) dX8_readsThing_66 lfX8_140 inX8 rfl (by first | assumption | exact hI _ (by omega)) rfl (by decide) rfl ?_
      have kk := sets_keep (M := M) (x := nI 0) (z := nI 1)
      have ee := mono_sets1 (M := M) (x := nI 1)
      generalize mset (mset (aset M 156 0 9 (fun _ => nI 0)) 156 0 (nI 0)) 156 1 (nI 1) = M1 at kk ee
      have k1 : keep msp M M1 := kk.wk (fun j hj => by unfold msp; omega)
      have h5 := h1.kp k1
      rw [h5.2.2.2.2.2.1]
      refine V.iconst (v := nI 1) dX8_readsThing_69 rfl ?_
      first | refine V.iaddN dX8_readsThing_70 ?_ | refine V.iadd dX8_readsThing_70 ?_
      refine V.putf (ci := 7) (k := 15) (C := RX8) (T := TX8) (N := 37) (ty := .int) tyX8 dX8_readsThing_71 lfX8_140 inX8 tyX8_ok nmX8 rfl (by first | assumption | exact hI _ (by omega)) rfl (by decide) rfl rfl rfl rfl (Nat.le_of_ble_eq_true rfl) rfl ?_
      refine V.iconst (v := nI 1) dX8_readsThing_74 rfl ?_
      refine V.iret dX8_readsThing_75 ?_
      exact ⟨rfl, ⟨by show MI l n (en l n p) o w ah _; rw [he]; exact h5.p' (by omega), (hF.th' (fun j q1 _ _ => kk j (by omega)) ee).m142⟩, (KM.of k1).tr (KM.ms (by omega))⟩
  · rw [if_pos hd]
    obtain ⟨hp, he, hlt⟩ := en_dg hs hd
    have hdn := dg_le (l := l) (n := n) (p := p) a2
    have bad : isNum l n p = false → (if isNum l n p = true then (nI 1, (en l n p, o, w, mono 0 (amt l n p), fr, ah)) else ((-1 : Int32), ((p, o, w, th, fr, ah) : Rho))) = (-1, (p, o, w, th, fr, ah)) := fun z => by rw [if_neg (by rw [z]; decide)]
    have un : isNum l n p = (decide (dg l n p - p ≤ 4) && isN (amtf l p (dg l n p - p)) 9973) := by unfold isNum amt; rw [hs, he]
    have ua : amt l n p = amtf l p (dg l n p - p) := by unfold amt; rw [hs, he]
    refine V.aload_n dX8_readsThing_7 rfl ?_
    refine V.callV (ci := 7) (T := TX8) (N := 37) dX8_readsThing_8 (c_X8_figures hI h1) lkX8_185 im_X8_figures se_X8_figures cd_X8_figures ini_X8 rfl (by first | assumption | exact hI _ (by omega)) rfl hd_X8_figures ⟨Nat.le_of_ble_eq_true rfl, Nat.le_of_ble_eq_true rfl⟩ rfl (Nat.le_of_ble_eq_true rfl) (V.kkF ?_)
    refine V.istore_n dX8_readsThing_11 (by decide) ?_
    refine V.iload_n dX8_readsThing_12 rfl ?_
    refine V.iconst (v := nI 4) dX8_readsThing_13 rfl ?_
    refine V.gtN (tgt := 28) dX8_readsThing_14 (by decide) (by omega) (by omega) (fun h2 => ?_) (fun h2 => ?_)
    · refine V.iconst (v := -1) dX8_readsThing_28 rfl ?_
      refine V.iret dX8_readsThing_29 ?_
      rw [bad (by rw [un, decide_eq_false (by omega)]; rfl)]
      exact ⟨rfl, h, KM.rf⟩
    · obtain ⟨m, hm, em⟩ := amt_nat (l := l) (n := n) (p := p) (k := dg l n p - p) (by omega) (by omega)
      have hm4 : m < 10 ^ 4 := Nat.lt_of_lt_of_le hm (Nat.pow_le_pow_right (by decide) (by omega))
      refine V.aload_n dX8_readsThing_17 rfl ?_
      refine V.iload_n dX8_readsThing_18 rfl ?_
      refine V.callV (ci := 7) (T := TX8) (N := 37) dX8_readsThing_19 (c_X8_numberOf hI h1 (by omega)) lkX8_189 im_X8_numberOf se_X8_numberOf cd_X8_numberOf ini_X8 rfl (by first | assumption | exact hI _ (by omega)) rfl hd_X8_numberOf ⟨Nat.le_of_ble_eq_true rfl, Nat.le_of_ble_eq_true rfl⟩ rfl (Nat.le_of_ble_eq_true rfl) (V.kkF ?_)
      refine V.sipush (v := nI 9973) dX8_readsThing_22 (by decide) ?_
      rw [em]
      refine V.ltN (tgt := 30) dX8_readsThing_25 (by decide) (by omega) (by omega) (fun h3 => ?_) (fun h3 => ?_)
      · have hn : isNum l n p = true := by rw [un, decide_eq_true (by omega), em, isN_nI (by decide) h3]; rfl
        rw [if_pos hn]
        refine V.aload_n dX8_readsThing_30 rfl ?_
        refine V.aload_n dX8_readsThing_31 rfl ?_
        refine V.iload_n dX8_readsThing_32 rfl ?_
        refine V.callV (ci := 7) (T := TX8) (N := 37) dX8_readsThing_33 (c_X8_numberOf hI h1 (by omega)) lkX8_189 im_X8_numberOf se_X8_numberOf cd_X8_numberOf ini_X8 rfl (by first | assumption | exact hI _ (by omega)) rfl hd_X8_numberOf ⟨Nat.le_of_ble_eq_true rfl, Nat.le_of_ble_eq_true rfl⟩ rfl (Nat.le_of_ble_eq_true rfl) (V.kkF ?_)
        refine V.iconst (v := nI 0) dX8_readsThing_36 rfl ?_
        refine V.callV (ci := 7) (T := TX8) (N := 37) dX8_readsThing_37 (c_X8_sets hI) lkX8_192 im_X8_sets se_X8_sets cd_X8_sets ini_X8 rfl (by first | assumption | exact hI _ (by omega)) rfl hd_X8_sets ⟨Nat.le_of_ble_eq_true rfl, Nat.le_of_ble_eq_true rfl⟩ rfl (Nat.le_of_ble_eq_true rfl) (V.kkN ?_)
        refine V.aload_n dX8_readsThing_40 rfl ?_
        refine V.dup dX8_readsThing_41 rfl ?_
        refine V.getf (ci := 7) (k := 15) (C := RX8) (T := TX8) (N := 37) dX8_readsThing_42 lfX8_140 inX8 rfl (by first | assumption | exact hI _ (by omega)) rfl (by decide) rfl ?_
        have kk := sets_keep (M := M) (x := amtf l p (dg l n p - p)) (z := nI 0)
        have ee := mono_sets (M := M) (x := amtf l p (dg l n p - p))
        generalize mset (mset (aset M 156 0 9 (fun _ => nI 0)) 156 0 (amtf l p (dg l n p - p))) 156 1 (nI 0) = M1 at kk ee
        have k1 : keep msp M M1 := kk.wk (fun j hj => by unfold msp; omega)
        have h5 := h1.kp k1
        rw [h5.2.2.2.2.2.1]
        refine V.iload_n dX8_readsThing_45 rfl ?_
        first | refine V.iaddN dX8_readsThing_46 ?_ | refine V.iadd dX8_readsThing_46 ?_
        refine V.putf (ci := 7) (k := 15) (C := RX8) (T := TX8) (N := 37) (ty := .int) tyX8 dX8_readsThing_47 lfX8_140 inX8 tyX8_ok nmX8 rfl (by first | assumption | exact hI _ (by omega)) rfl (by decide) rfl rfl rfl rfl (Nat.le_of_ble_eq_true rfl) rfl ?_
        refine V.iconst (v := nI 1) dX8_readsThing_50 rfl ?_
        refine V.iret dX8_readsThing_51 ?_
        rw [show p + (dg l n p - p) = dg l n p by omega]
        exact ⟨rfl, ⟨by show MI l n (en l n p) o w ah _; rw [he]; exact h5.p' (by omega), (hF.th' (fun j q1 _ _ => kk j (by omega)) (by rw [ua]; exact ee)).m142⟩, (KM.of k1).tr (KM.ms (by omega))⟩
      · have hn : isNum l n p = false := by
          rw [un, em]
          have : isN (nI m) 9973 = false := by
            cases hb : isN (nI m) 9973 with
            | false => rfl
            | true =>
              obtain ⟨j, hj, e⟩ := isN_yes (by decide) hb
              have := congrArg Int32.toInt e
              rw [nI_toInt (by omega), nI_toInt (by omega)] at this
              omega
          rw [this]; simp
        refine V.iconst (v := -1) dX8_readsThing_28 rfl ?_
        refine V.iret dX8_readsThing_29 ?_
        rw [bad hn]
        exact ⟨rfl, h, KM.rf⟩
theorem c_X8_readsTimes {g : Gl} {M : Mem} {l : Ser} {n : Nat} {ρ : Rho} (hI : ∀ i, 142 ≤ i ∧ i < 174 → i ∈ g.2.2.2.2) (h : MS l n ρ M) (hs : sk l n ρ.1 = ρ.1) : Ct g yX8_readsTimes cX8_readsTimes 2 (some .int) 4 [.ref (g.2.2.2.1 142), .int (fs l n ρ.1)] M (fun v M' => v = some (.int (mTi l n (fs l n ρ.1) ρ).1) ∧ MS l n (mTi l n (fs l n ρ.1) ρ).2 M' ∧ KM M M') := by
  obtain ⟨p, o, w, th, fr, ah⟩ := ρ
  obtain ⟨h1, hF⟩ := id h
  dsimp only at h1 hF hs ⊢
  obtain ⟨a1, a2, a3, a4, a5, a6, a7, a8, a9⟩ := id h1
  have u : mTi l n (fs l n p) (p, o, w, th, fr, ah) = if isDg (fs l n p) = true ∧ en l n p - sk l n p = 1 then (nI 2, (en l n p, o, w, fpow th (amt l n p).toNatClampNeg, fr, ah)) else (-1, (p, o, w, th, fr, ah)) := rfl
  rw [u]
  refine Ct.ofV (by decide) (Nat.le_of_ble_eq_true rfl) (by simp [Value.category]) (fun κ => ?_)
  refine V.iload_n dX8_readsTimes_0 rfl ?_
  refine V.callS dX8_readsTimes_1 (c_X8_isDigit) lkX8_147 st_X8_isDigit cd_X8_isDigit ini_X8 hd_X8_isDigit ⟨Nat.le_of_ble_eq_true rfl, Nat.le_of_ble_eq_true rfl⟩ rfl (Nat.le_of_ble_eq_true rfl) (V.kkF ?_)
  refine V.if_eqB (tgt := 15) dX8_readsTimes_4 (by decide) (fun hd => ?_) (fun hd => ?_)
  · rw [if_neg (fun z => by rw [hd] at z; exact absurd z.1 (by decide))]
    refine V.iconst (v := -1) dX8_readsTimes_15 rfl ?_
    refine V.iret dX8_readsTimes_16 ?_
    exact ⟨rfl, h, KM.rf⟩
  · obtain ⟨hp, he, hlt⟩ := en_dg hs hd
    have hdn := dg_le (l := l) (n := n) (p := p) a2
    refine V.aload_n dX8_readsTimes_7 rfl ?_
    refine V.callV (ci := 7) (T := TX8) (N := 37) dX8_readsTimes_8 (c_X8_figures hI h1) lkX8_185 im_X8_figures se_X8_figures cd_X8_figures ini_X8 rfl (by first | assumption | exact hI _ (by omega)) rfl hd_X8_figures ⟨Nat.le_of_ble_eq_true rfl, Nat.le_of_ble_eq_true rfl⟩ rfl (Nat.le_of_ble_eq_true rfl) (V.kkF ?_)
    refine V.iconst (v := nI 1) dX8_readsTimes_11 rfl ?_
    refine V.leN (tgt := 17) dX8_readsTimes_12 (by decide) (by omega) (by omega) (fun h2 => ?_) (fun h2 => ?_)
    · have e1 : en l n p - sk l n p = 1 := by rw [hs]; omega
      rw [if_pos ⟨hd, e1⟩]
      obtain ⟨m, hm, em⟩ := isDg_nat hd
      have ua : amt l n p = nI m := by
        unfold amt
        rw [e1, hs]
        show nI 10 * nI 0 + (l (p + 0) - nI 48) = nI m
        rw [Nat.add_zero, ← fs_at hs hp, em, sub48, show nI 10 * nI 0 = nI 0 from rfl, nI_add, Nat.zero_add]
      refine V.aload_n dX8_readsTimes_17 rfl ?_
      refine V.iload_n dX8_readsTimes_18 rfl ?_
      refine V.bipush (v := nI 48) dX8_readsTimes_19 (by decide) ?_
      refine V.isub dX8_readsTimes_21 ?_
      rw [em, sub48]
      refine V.callV (ci := 7) (T := TX8) (N := 37) dX8_readsTimes_22 (c_X8_raisesThing hI (by omega)) lkX8_209 im_X8_raisesThing se_X8_raisesThing cd_X8_raisesThing ini_X8 rfl (by first | assumption | exact hI _ (by omega)) rfl hd_X8_raisesThing ⟨Nat.le_of_ble_eq_true rfl, Nat.le_of_ble_eq_true rfl⟩ rfl (Nat.le_of_ble_eq_true rfl) (V.kkP (fun M1 q1 => ?_))
      obtain ⟨kk, ee⟩ := q1
      have k1 : keep msp M M1 := kk.wk (fun j hj => by unfold msp; omega)
      have h5 := h1.kp k1
      refine V.aload_n dX8_readsTimes_25 rfl ?_
      refine V.dup dX8_readsTimes_26 rfl ?_
      refine V.getf (ci := 7) (k := 15) (C := RX8) (T := TX8) (N := 37) dX8_readsTimes_27 lfX8_140 inX8 rfl (by first | assumption | exact hI _ (by omega)) rfl (by decide) rfl ?_
      rw [h5.2.2.2.2.2.1]
      refine V.iconst (v := nI 1) dX8_readsTimes_30 rfl ?_
      first | refine V.iaddN dX8_readsTimes_31 ?_ | refine V.iadd dX8_readsTimes_31 ?_
      refine V.putf (ci := 7) (k := 15) (C := RX8) (T := TX8) (N := 37) (ty := .int) tyX8 dX8_readsTimes_32 lfX8_140 inX8 tyX8_ok nmX8 rfl (by first | assumption | exact hI _ (by omega)) rfl (by decide) rfl rfl rfl rfl (Nat.le_of_ble_eq_true rfl) rfl ?_
      refine V.iconst (v := nI 2) dX8_readsTimes_35 rfl ?_
      refine V.iret dX8_readsTimes_36 ?_
      rw [ua, nI_clamp (by omega)]
      exact ⟨rfl, ⟨by show MI l n (en l n p) o w ah _; rw [show en l n p = p + 1 by omega]; exact h5.p' (by omega), (hF.th' (fun j q1 _ _ => kk j (by omega)) (ee.tr (fpow_cg hF.1 m))).m142⟩, (KM.of k1).tr (KM.ms (by omega))⟩
    · rw [if_neg (fun z => by rw [hs] at z; omega)]
      refine V.iconst (v := -1) dX8_readsTimes_15 rfl ?_
      refine V.iret dX8_readsTimes_16 ?_
      exact ⟨rfl, h, KM.rf⟩
abbrev v_X8_readsOn (g : Gl) (κ : Ka) (Q : State → Prop) (M : Mem) (pc : Nat) (L : List (Option Value)) (st : List Value) : Prop := V g cX8_readsOn 3 yX8_readsOn.cls (some .int) (rmd 6) Q κ M pc L st
theorem c_X8_readsOn {g : Gl} {M : Mem} {l : Ser} {n : Nat} {ρ : Rho} {s : Int32} (hI : ∀ i, 142 ≤ i ∧ i < 174 → i ∈ g.2.2.2.2) (h : MS l n ρ M) (hs : sk l n ρ.1 = ρ.1) : Ct g yX8_readsOn cX8_readsOn 3 (some .int) 6 [.ref (g.2.2.2.1 142), .int (fs l n ρ.1), .int s] M (fun v M' => v = some (.int (mOn l n (fs l n ρ.1) s ρ).1) ∧ MS l n (mOn l n (fs l n ρ.1) s ρ).2 M' ∧ KM M M') := by
  obtain ⟨p, o, w, th, fr, ah⟩ := ρ
  obtain ⟨h1, hF⟩ := id h
  dsimp only at h1 hF hs ⊢
  obtain ⟨a1, a2, a3, a4, a5, a6, a7, a8, a9⟩ := id h1
  generalize hc : fs l n p = c
  have u : mOn l n c s (p, o, w, th, fr, ah) = if c = nI 94 then (if s = nI 1 then (nI 4, (en l n p, o, w, th, fr, ah)) else (-1, (p, o, w, th, fr, ah))) else if c = nI 42 ∨ c = nI 47 then (nI 0, (en l n p, o, (mEP o w th fr).1, th, va_up (mEP o w th fr).2 o (((mEP o w th fr).2 o).1, ((mEP o w th fr).2 o).2.1, ((mEP o w th fr).2 o).2.2.1, c, ((mEP o w th fr).2 o).2.2.2.2), ah)) else if c = nI 43 ∨ c = nI 45 then (nI 0, (en l n p, o, (mEQ o w th fr).1, th, va_up (mEQ o w th fr).2 o (((mEQ o w th fr).2 o).1, ((mEQ o w th fr).2 o).2.1, c, nI 0, ((mEQ o w th fr).2 o).2.2.2.2), ah)) else if c = nI 41 ∧ o ≠ 0 then (nI 1, (en l n p, o - 1, (mCl o w th fr).1, (mCl o w th fr).2.1, (mCl o w th fr).2.2, ah)) else (-1, (p, o, w, th, fr, ah)) := rfl
  rw [u]
  refine Ct.ofV (by decide) (Nat.le_of_ble_eq_true rfl) (by simp [Value.category]) (fun κ => ?_)
  refine V.iload_n dX8_readsOn_0 rfl ?_
  by_cases c94 : c = nI 94
  · rw [if_pos c94]
    obtain ⟨hp, he⟩ := en_c hs hc (by rw [c94]; decide) (by rw [c94]; decide)
    subst c94
    refine V.lookup (tgt := 60) dX8_readsOn_1 (by decide) rfl (by decide) ?_
    refine V.aload_n dX8_readsOn_60 rfl ?_
    refine V.dup dX8_readsOn_61 rfl ?_
    refine V.getf (ci := 7) (k := 15) (C := RX8) (T := TX8) (N := 37) dX8_readsOn_62 lfX8_140 inX8 rfl (by first | assumption | exact hI _ (by omega)) rfl (by decide) rfl ?_
    rw [a6]
    refine V.iload_n dX8_readsOn_65 rfl ?_
    refine V.iconst (v := nI 1) dX8_readsOn_66 rfl ?_
    refine V.icmp_ne (tgt := 74) dX8_readsOn_67 (by decide) (fun h2 => ?_) (fun h2 => ?_)
    · have h2n : ¬ s = nI 1 := h2
      rw [if_neg h2n]
      refine V.iconst (v := nI 0) dX8_readsOn_74 rfl ?_
      first | refine V.iaddN dX8_readsOn_75 ?_ | refine V.iadd dX8_readsOn_75 ?_
      refine V.putf (ci := 7) (k := 15) (C := RX8) (T := TX8) (N := 37) (ty := .int) tyX8 dX8_readsOn_76 lfX8_140 inX8 tyX8_ok nmX8 rfl (by first | assumption | exact hI _ (by omega)) rfl (by decide) rfl rfl rfl rfl (Nat.le_of_ble_eq_true rfl) rfl ?_
      have e0 : mset M 142 15 (nI (p + 0)) = M := by
        funext i k
        by_cases e : i = 142
        · subst e
          by_cases e2 : k = 15
          · subst e2; rw [mset_at, a6]; rfl
          · rw [mset_nat e2]
        · rw [mset_ne e]
      rw [e0]
      refine V.iload_n dX8_readsOn_79 rfl ?_
      refine V.iconst (v := nI 1) dX8_readsOn_80 rfl ?_
      refine V.icmp_ne (tgt := 88) dX8_readsOn_81 (by decide) (fun h3 => ?_) (fun h3 => ?_)
      · refine V.iconst (v := -1) dX8_readsOn_88 rfl ?_
        refine V.iret dX8_readsOn_89 ?_
        exact ⟨rfl, h, KM.rf⟩
      · exact absurd (by simpa using h3) h2n
    · have h2n : s = nI 1 := by simpa using h2
      rw [if_pos h2n]
      refine V.iconst (v := nI 1) dX8_readsOn_70 rfl ?_
      refine V.goto (tgt := 75) dX8_readsOn_71 (by decide) ?_
      first | refine V.iaddN dX8_readsOn_75 ?_ | refine V.iadd dX8_readsOn_75 ?_
      refine V.putf (ci := 7) (k := 15) (C := RX8) (T := TX8) (N := 37) (ty := .int) tyX8 dX8_readsOn_76 lfX8_140 inX8 tyX8_ok nmX8 rfl (by first | assumption | exact hI _ (by omega)) rfl (by decide) rfl rfl rfl rfl (Nat.le_of_ble_eq_true rfl) rfl ?_
      refine V.iload_n dX8_readsOn_79 rfl ?_
      refine V.iconst (v := nI 1) dX8_readsOn_80 rfl ?_
      refine V.icmp_ne (tgt := 88) dX8_readsOn_81 (by decide) (fun h3 => ?_) (fun h3 => ?_)
      · exact absurd h2n h3
      · refine V.iconst (v := nI 4) dX8_readsOn_84 rfl ?_
        refine V.goto (tgt := 89) dX8_readsOn_85 (by decide) ?_
        refine V.iret dX8_readsOn_89 ?_
        exact ⟨rfl, ⟨by show MI l n (en l n p) o w ah _; rw [he]; exact h1.p' (by omega), hF.m142⟩, KM.ms (by omega)⟩
  · rw [if_neg c94]
    by_cases c42 : c = nI 42 ∨ c = nI 47
    · rw [if_pos c42]
      obtain ⟨hp, he⟩ := en_c hs hc (by rcases c42 with z | z <;> rw [z] <;> decide) (by rcases c42 with z | z <;> rw [z] <;> decide)
      have go : v_X8_readsOn g κ (Qm g κ (fun v M' => v = some (.int (nI 0)) ∧ MS l n (en l n p, o, (mEP o w th fr).1, th, va_up (mEP o w th fr).2 o (((mEP o w th fr).2 o).1, ((mEP o w th fr).2 o).2.1, ((mEP o w th fr).2 o).2.2.1, c, ((mEP o w th fr).2 o).2.2.2.2), ah) M' ∧ KM M M')) M 90 (entL [.ref (g.2.2.2.1 142), .int c, .int s] 3) [] := by
        refine V.aload_n dX8_readsOn_90 rfl ?_
        refine V.callV (ci := 7) (T := TX8) (N := 37) dX8_readsOn_91 (c_X8_endsPower hI h1 hF) lkX8_161 im_X8_endsPower se_X8_endsPower cd_X8_endsPower ini_X8 rfl (by first | assumption | exact hI _ (by omega)) rfl hd_X8_endsPower ⟨Nat.le_of_ble_eq_true rfl, Nat.le_of_ble_eq_true rfl⟩ rfl (Nat.le_of_ble_eq_true rfl) (V.kkP (fun M1 q1 => ?_))
        obtain ⟨g1, gF, k1⟩ := q1
        refine V.aload_n dX8_readsOn_94 rfl ?_
        refine V.getf (ci := 7) (k := 23) (C := RX8) (T := TX8) (N := 37) dX8_readsOn_95 lfX8_65 inX8 rfl (by first | assumption | exact hI _ (by omega)) rfl (by decide) rfl ?_
        refine V.aload_n dX8_readsOn_98 rfl ?_
        refine V.getf (ci := 7) (k := 16) (C := RX8) (T := TX8) (N := 37) dX8_readsOn_99 lfX8_151 inX8 rfl (by first | assumption | exact hI _ (by omega)) rfl (by decide) rfl ?_
        rw [g1.2.2.2.2.2.2.1]
        refine V.iload_n dX8_readsOn_102 rfl ?_
        refine V.iast (n := 7) dX8_readsOn_103 (by first | assumption | exact hI _ (by omega)) (by first | assumption | decide) (by omega) ?_
        refine V.aload_n dX8_readsOn_104 rfl ?_
        refine V.dup dX8_readsOn_105 rfl ?_
        refine V.getf (ci := 7) (k := 15) (C := RX8) (T := TX8) (N := 37) dX8_readsOn_106 lfX8_140 inX8 rfl (by first | assumption | exact hI _ (by omega)) rfl (by decide) rfl ?_
        rw [mset_ne (a := 142) (by decide), g1.2.2.2.2.2.1]
        refine V.iconst (v := nI 1) dX8_readsOn_109 rfl ?_
        first | refine V.iaddN dX8_readsOn_110 ?_ | refine V.iadd dX8_readsOn_110 ?_
        refine V.putf (ci := 7) (k := 15) (C := RX8) (T := TX8) (N := 37) (ty := .int) tyX8 dX8_readsOn_111 lfX8_140 inX8 tyX8_ok nmX8 rfl (by first | assumption | exact hI _ (by omega)) rfl (by decide) rfl rfl rfl rfl (Nat.le_of_ble_eq_true rfl) rfl ?_
        refine V.iconst (v := nI 0) dX8_readsOn_114 rfl ?_
        refine V.iret dX8_readsOn_115 ?_
        have k2 : keep msp M1 (mset M1 161 o c) := (keep.rf (P := msp)).ms (by unfold msp; omega)
        refine ⟨rfl, ⟨by show MI l n (en l n p) o _ ah _; rw [he]; exact (g1.kp k2).p' (by omega), MF.m142 (gF.by3 (fun j q1 q2 => mset_ne (by omega)) (fun k => ?_) (fun k => by rw [mset_self]; rfl) (fun k => ?_))⟩, (k1.tr (KM.of k2)).tr (KM.ms (by omega))⟩
        · rw [mset_ne (by decide)]
          by_cases e : k = o
          · rw [if_pos e, e]; exact (gF.2 o (by omega)).2.2.1
          · rw [if_neg e]
        · rw [mset_ne (by decide)]
          by_cases e : k = o
          · rw [if_pos e, e]; exact (gF.2 o (by omega)).2.2.2.2
          · rw [if_neg e]
      rcases c42 with z | z
      · subst z; exact V.lookup (tgt := 90) dX8_readsOn_1 (by decide) rfl (by decide) go
      · subst z; exact V.lookup (tgt := 90) dX8_readsOn_1 (by decide) rfl (by decide) go
    · rw [if_neg c42]
      by_cases c43 : c = nI 43 ∨ c = nI 45
      · rw [if_pos c43]
        obtain ⟨hp, he⟩ := en_c hs hc (by rcases c43 with z | z <;> rw [z] <;> decide) (by rcases c43 with z | z <;> rw [z] <;> decide)
        have go : v_X8_readsOn g κ (Qm g κ (fun v M' => v = some (.int (nI 0)) ∧ MS l n (en l n p, o, (mEQ o w th fr).1, th, va_up (mEQ o w th fr).2 o (((mEQ o w th fr).2 o).1, ((mEQ o w th fr).2 o).2.1, c, nI 0, ((mEQ o w th fr).2 o).2.2.2.2), ah) M' ∧ KM M M')) M 116 (entL [.ref (g.2.2.2.1 142), .int c, .int s] 3) [] := by
          refine V.aload_n dX8_readsOn_116 rfl ?_
          refine V.callV (ci := 7) (T := TX8) (N := 37) dX8_readsOn_117 (c_X8_endsProduct hI h1 hF) lkX8_164 im_X8_endsProduct se_X8_endsProduct cd_X8_endsProduct ini_X8 rfl (by first | assumption | exact hI _ (by omega)) rfl hd_X8_endsProduct ⟨Nat.le_of_ble_eq_true rfl, Nat.le_of_ble_eq_true rfl⟩ rfl (Nat.le_of_ble_eq_true rfl) (V.kkP (fun M1 q1 => ?_))
          obtain ⟨g1, gF, k1⟩ := q1
          refine V.aload_n dX8_readsOn_120 rfl ?_
          refine V.getf (ci := 7) (k := 22) (C := RX8) (T := TX8) (N := 37) dX8_readsOn_121 lfX8_62 inX8 rfl (by first | assumption | exact hI _ (by omega)) rfl (by decide) rfl ?_
          refine V.aload_n dX8_readsOn_124 rfl ?_
          refine V.getf (ci := 7) (k := 16) (C := RX8) (T := TX8) (N := 37) dX8_readsOn_125 lfX8_151 inX8 rfl (by first | assumption | exact hI _ (by omega)) rfl (by decide) rfl ?_
          rw [g1.2.2.2.2.2.2.1]
          refine V.iload_n dX8_readsOn_128 rfl ?_
          refine V.iast (n := 7) dX8_readsOn_129 (by first | assumption | exact hI _ (by omega)) (by first | assumption | decide) (by omega) ?_
          refine V.aload_n dX8_readsOn_130 rfl ?_
          refine V.getf (ci := 7) (k := 23) (C := RX8) (T := TX8) (N := 37) dX8_readsOn_131 lfX8_65 inX8 rfl (by first | assumption | exact hI _ (by omega)) rfl (by decide) rfl ?_
          refine V.aload_n dX8_readsOn_134 rfl ?_
          refine V.getf (ci := 7) (k := 16) (C := RX8) (T := TX8) (N := 37) dX8_readsOn_135 lfX8_151 inX8 rfl (by first | assumption | exact hI _ (by omega)) rfl (by decide) rfl ?_
          rw [mset_ne (a := 142) (by decide), g1.2.2.2.2.2.2.1]
          refine V.iconst (v := nI 0) dX8_readsOn_138 rfl ?_
          refine V.iast (n := 7) dX8_readsOn_139 (by first | assumption | exact hI _ (by omega)) (by first | assumption | decide) (by omega) ?_
          refine V.aload_n dX8_readsOn_140 rfl ?_
          refine V.dup dX8_readsOn_141 rfl ?_
          refine V.getf (ci := 7) (k := 15) (C := RX8) (T := TX8) (N := 37) dX8_readsOn_142 lfX8_140 inX8 rfl (by first | assumption | exact hI _ (by omega)) rfl (by decide) rfl ?_
          rw [mset_ne (a := 142) (by decide), mset_ne (a := 142) (by decide), g1.2.2.2.2.2.1]
          refine V.iconst (v := nI 1) dX8_readsOn_145 rfl ?_
          first | refine V.iaddN dX8_readsOn_146 ?_ | refine V.iadd dX8_readsOn_146 ?_
          refine V.putf (ci := 7) (k := 15) (C := RX8) (T := TX8) (N := 37) (ty := .int) tyX8 dX8_readsOn_147 lfX8_140 inX8 tyX8_ok nmX8 rfl (by first | assumption | exact hI _ (by omega)) rfl (by decide) rfl rfl rfl rfl (Nat.le_of_ble_eq_true rfl) rfl ?_
          refine V.iconst (v := nI 0) dX8_readsOn_150 rfl ?_
          refine V.iret dX8_readsOn_151 ?_
          have k2 : keep msp M1 (mset (mset M1 160 o c) 161 o (nI 0)) := ((keep.rf (P := msp)).ms (by unfold msp; omega)).ms (by unfold msp; omega)
          refine ⟨rfl, ⟨by show MI l n (en l n p) o _ ah _; rw [he]; exact (g1.kp k2).p' (by omega), MF.m142 (gF.by3 (fun j q1 q2 => by rw [mset_ne (by omega), mset_ne (by omega)]) (fun k => by rw [mset_ne (by decide), mset_self]; rfl) (fun k => by rw [mset_self, mset_ne (by decide)]; rfl) (fun k => ?_))⟩, (k1.tr (KM.of k2)).tr (KM.ms (by omega))⟩
          rw [mset_ne (by decide), mset_ne (by decide)]
          by_cases e : k = o
          · rw [if_pos e, e]; exact (gF.2 o (by omega)).2.2.2.2
          · rw [if_neg e]
        rcases c43 with z | z
        · subst z; exact V.lookup (tgt := 116) dX8_readsOn_1 (by decide) rfl (by decide) go
        · subst z; exact V.lookup (tgt := 116) dX8_readsOn_1 (by decide) rfl (by decide) go
      · rw [if_neg c43]
        by_cases c41 : c = nI 41
        · obtain ⟨hp, he⟩ := en_c hs hc (by rw [c41]; decide) (by rw [c41]; decide)
          subst c41
          refine V.lookup (tgt := 152) dX8_readsOn_1 (by decide) rfl (by decide) ?_
          refine V.aload_n dX8_readsOn_152 rfl ?_
          refine V.getf (ci := 7) (k := 16) (C := RX8) (T := TX8) (N := 37) dX8_readsOn_153 lfX8_151 inX8 rfl (by first | assumption | exact hI _ (by omega)) rfl (by decide) rfl ?_
          rw [a7]
          refine V.if_neN (tgt := 161) dX8_readsOn_156 (by decide) (by omega) (fun h2 => ?_) (fun h2 => ?_)
          · rw [if_pos ⟨rfl, h2⟩]
            refine V.aload_n dX8_readsOn_161 rfl ?_
            refine V.callV (ci := 7) (T := TX8) (N := 37) dX8_readsOn_162 (c_X8_closes hI h1 hF h2) lkX8_212 im_X8_closes se_X8_closes cd_X8_closes ini_X8 rfl (by first | assumption | exact hI _ (by omega)) rfl hd_X8_closes ⟨Nat.le_of_ble_eq_true rfl, Nat.le_of_ble_eq_true rfl⟩ rfl (Nat.le_of_ble_eq_true rfl) (V.kkP (fun M1 q1 => ?_))
            obtain ⟨g1, gF, k1⟩ := q1
            refine V.aload_n dX8_readsOn_165 rfl ?_
            refine V.dup dX8_readsOn_166 rfl ?_
            refine V.getf (ci := 7) (k := 15) (C := RX8) (T := TX8) (N := 37) dX8_readsOn_167 lfX8_140 inX8 rfl (by first | assumption | exact hI _ (by omega)) rfl (by decide) rfl ?_
            rw [g1.2.2.2.2.2.1]
            refine V.iconst (v := nI 1) dX8_readsOn_170 rfl ?_
            first | refine V.iaddN dX8_readsOn_171 ?_ | refine V.iadd dX8_readsOn_171 ?_
            refine V.putf (ci := 7) (k := 15) (C := RX8) (T := TX8) (N := 37) (ty := .int) tyX8 dX8_readsOn_172 lfX8_140 inX8 tyX8_ok nmX8 rfl (by first | assumption | exact hI _ (by omega)) rfl (by decide) rfl rfl rfl rfl (Nat.le_of_ble_eq_true rfl) rfl ?_
            refine V.iconst (v := nI 1) dX8_readsOn_175 rfl ?_
            refine V.iret dX8_readsOn_176 ?_
            exact ⟨rfl, ⟨by show MI l n (en l n p) (o - 1) _ ah _; rw [he]; exact g1.p' (by omega), gF.m142⟩, k1.tr (KM.ms (by omega))⟩
          · rw [if_neg (fun z => z.2 h2)]
            refine V.iconst (v := -1) dX8_readsOn_159 rfl ?_
            refine V.iret dX8_readsOn_160 ?_
            exact ⟨rfl, h, KM.rf⟩
        · rw [if_neg (fun z => c41 z.1)]
          refine V.lookup (tgt := 177) dX8_readsOn_1 (by decide) (lk_off c41 (fun z => c42 (Or.inl z)) (fun z => c43 (Or.inl z)) (fun z => c43 (Or.inr z)) (fun z => c42 (Or.inr z)) c94) (by decide) ?_
          refine V.iconst (v := -1) dX8_readsOn_177 rfl ?_
          refine V.iret dX8_readsOn_178 ?_
          exact ⟨rfl, h, KM.rf⟩

