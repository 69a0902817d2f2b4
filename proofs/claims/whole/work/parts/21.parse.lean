def PC (yn : MethodName) (cc : ByteArray) (nL d k : Nat) (f : Prs) (l : Nat → Int32) (n : Nat) : Prop := ∀ (g : Gl) (M : Mem) (q : Nat) (S : Stp2), (∀ i, 10 ≤ i ∧ i ≤ 13 → i ∈ g.2.2.2.2) → TS l n q S M → Ct g yn cc nL (some .boolean) d [.ref (g.2.2.2.1 10), .int (nI (6 - k))] M (fun v M' => v = some (.int (nI (f q S).1.toNat)) ∧ TS l n (f q S).2.1 (f q S).2.2 M' ∧ keep tx M M')
theorem keep10 {M M' : Mem} (h : keep (fun j => j = 10) M M') : keep tx M M' := h.wk (fun _ e => Or.inl e)
theorem sk_en {l : Nat → Int32} {n q : Nat} (h : isDg (fs l n q) = true) : sk l n q ≤ en l n q := by
  unfold en
  unfold fs at h
  by_cases h1 : sk l n q < n
  · rw [if_pos h1] at h
    rw [if_pos h1, if_pos h]
    have := dg_ge (l := l) (n := n) (p := sk l n q + 1) (by omega)
    omega
  · rw [if_neg h1] at h; exact absurd h (by decide)
abbrev v_X6_standsThing (k : Nat) (g : Gl) (κ : Ka) (Q : State → Prop) (M : Mem) (pc : Nat) (L : List (Option Value)) (st : List Value) : Prop := V g cX6_standsThing 3 yX6_standsThing.cls (some .boolean) (rmd (2 + 4 * k)) Q κ M pc L st
theorem p_thing {l : Nat → Int32} {n k : Nat} (hk : k ≤ 6) (hs : ∀ j, k = j + 1 → PC yX6_standsSum cX6_standsSum 4 (5 + 4 * j) j (pSum l n j) l n) : PC yX6_standsThing cX6_standsThing 3 (2 + 4 * k) k (pThing l n (pSub l n k)) l n := by
  intro g M q S hI h
  obtain ⟨⟨t1, t2, t3, t4, t5, t6, t7, t8⟩, t9, t10, t11⟩ := id h
  refine Ct.ofV (by decide) (Nat.le_of_ble_eq_true rfl) (by simp [Value.category]) (fun κ => ?_)
  refine V.aload_n dX6_standsThing_0 rfl ?_
  refine V.getf (ci := 5) (k := 7) (C := RX6) (T := TX6) (N := 8) dX6_standsThing_1 lfX6_34 inX6 rfl (by first | assumption | exact hI _ (by omega)) rfl (by decide) rfl ?_
  rw [t11]
  refine V.bipush (v := nI 116) dX6_standsThing_4 (by decide) ?_
  refine V.icmp_ne (tgt := 22) dX6_standsThing_6 (by decide) (fun h1 => ?_) (fun h1 => ?_)
  · refine V.aload_n dX6_standsThing_22 rfl ?_
    refine V.getf (ci := 5) (k := 7) (C := RX6) (T := TX6) (N := 8) dX6_standsThing_23 lfX6_34 inX6 rfl (by first | assumption | exact hI _ (by omega)) rfl (by decide) rfl ?_
    rw [t11]
    refine V.callS dX6_standsThing_26 (c_X6_isDigit) lkX6_57 st_X6_isDigit cd_X6_isDigit ini_X6 hd_X6_isDigit ⟨by simp only [rmd]; omega, by simp only [rmd]; omega⟩ rfl (Nat.le_of_ble_eq_true rfl) (V.kkF ?_)
    refine V.if_eqB (tgt := 57) dX6_standsThing_29 (by decide) (fun h2 => ?_) (fun h2 => ?_)
    · refine V.aload_n dX6_standsThing_57 rfl ?_
      refine V.getf (ci := 5) (k := 7) (C := RX6) (T := TX6) (N := 8) dX6_standsThing_58 lfX6_34 inX6 rfl (by first | assumption | exact hI _ (by omega)) rfl (by decide) rfl ?_
      rw [t11]
      refine V.istore_n dX6_standsThing_61 (by decide) ?_
      refine V.iload_n dX6_standsThing_62 rfl ?_
      refine V.callS dX6_standsThing_63 (c_X6_isName) lkX6_68 st_X6_isName cd_X6_isName ini_X6 hd_X6_isName ⟨by simp only [rmd]; omega, by simp only [rmd]; omega⟩ rfl (Nat.le_of_ble_eq_true rfl) (V.kkF ?_)
      have rest : ∀ (M1 : Mem) (q1 : Nat), q1 = (if isNm (fs l n q) = true then en l n q else q) → TS l n q1 S M1 → keep tx M M1 → v_X6_standsThing k g κ (Qm g κ (fun v M' => v = some (.int (nI (pThing l n (pSub l n k) q S).1.toNat)) ∧ TS l n (pThing l n (pSub l n k) q S).2.1 (pThing l n (pSub l n k) q S).2.2 M' ∧ keep tx M M')) M1 73 [some (.ref (g.2.2.2.1 10)), some (.int (nI (6 - k))), some (.int (fs l n q))] [] := by
        intro M1 q1 hq1 h3 k3
        obtain ⟨⟨u1, u2, u3, u4, u5, u6, u7, u8⟩, u9, u10, u11⟩ := id h3
        refine V.aload_n dX6_standsThing_73 rfl ?_
        refine V.getf (ci := 5) (k := 7) (C := RX6) (T := TX6) (N := 8) dX6_standsThing_74 lfX6_34 inX6 rfl (by first | assumption | exact hI _ (by omega)) rfl (by decide) rfl ?_
        rw [u11]
        refine V.bipush (v := nI 40) dX6_standsThing_77 (by decide) ?_
        have bad : pThing l n (pSub l n k) q S = (false, q1, S) → v_X6_standsThing k g κ (Qm g κ (fun v M' => v = some (.int (nI (pThing l n (pSub l n k) q S).1.toNat)) ∧ TS l n (pThing l n (pSub l n k) q S).2.1 (pThing l n (pSub l n k) q S).2.2 M' ∧ keep tx M M')) M1 88 [some (.ref (g.2.2.2.1 10)), some (.int (nI (6 - k))), some (.int (fs l n q))] [] := by
          intro e
          refine V.iconst (v := nI 0) dX6_standsThing_88 rfl ?_
          refine V.zret dX6_standsThing_89 rfl ?_
          rw [e]
          exact ⟨rfl, h3, k3⟩
        have pe : ∀ sum, pSub l n k = some sum → pThing l n (pSub l n k) q S = if fs l n q1 = nI 40 then (if (sum (en l n q1) S).1 = true ∧ fs l n (sum (en l n q1) S).2.1 = nI 41 then (true, en l n (sum (en l n q1) S).2.1, if isNm (fs l n q) = true then addS (sum (en l n q1) S).2.2 (fs l n q, nI 0) else (sum (en l n q1) S).2.2) else (false, (sum (en l n q1) S).2.1, (sum (en l n q1) S).2.2)) else (false, q1, S) := by
          intro sum e
          rw [e, hq1]
          simp only [pThing, thingF]
          rw [if_neg h1, h2, if_neg (by decide)]
        have pn : pSub l n k = none → pThing l n (pSub l n k) q S = (false, q1, S) := by
          intro e
          rw [e, hq1]
          simp only [pThing, thingF]
          rw [if_neg h1, h2, if_neg (by decide)]
        refine V.icmp_ne (tgt := 88) dX6_standsThing_79 (by decide) (fun h4 => ?_) (fun h4 => ?_)
        · refine bad ?_
          cases hsub : pSub l n k with
          | none => rw [← hsub]; exact pn hsub
          | some sum => rw [← hsub, pe sum hsub, if_neg h4]
        · refine V.iload_n dX6_standsThing_82 rfl ?_
          refine V.bipush (v := nI 6) dX6_standsThing_83 (by decide) ?_
          refine V.ltN (tgt := 90) dX6_standsThing_85 (by decide) (by omega) (by omega) (fun h5 => ?_) (fun h5 => ?_)
          · obtain ⟨j, rfl⟩ : ∃ j, k = j + 1 := ⟨k - 1, by omega⟩
            refine V.aload_n dX6_standsThing_90 rfl ?_
            refine V.callV (ci := 5) (T := TX6) (N := 8) dX6_standsThing_91 (c_X6_toNextToken hI h3.1) lkX6_37 im_X6_toNextToken se_X6_toNextToken cd_X6_toNextToken ini_X6 rfl (by first | assumption | exact hI _ (by omega)) rfl hd_X6_toNextToken ⟨by simp only [rmd]; omega, by simp only [rmd]; omega⟩ rfl (Nat.le_of_ble_eq_true rfl) (V.kkP (fun M2 q2 => ?_))
            refine V.aload_n dX6_standsThing_94 rfl ?_
            refine V.iload_n dX6_standsThing_95 rfl ?_
            refine V.iconst (v := nI 1) dX6_standsThing_96 rfl ?_
            first | refine V.iaddN dX6_standsThing_97 ?_ | refine V.iadd dX6_standsThing_97 ?_
            rw [show 6 - (j + 1) + 1 = 6 - j by omega]
            refine V.callV (ci := 5) (T := TX6) (N := 8) dX6_standsThing_98 (hs j rfl g M2 _ S hI q2.1) lkX6_40 im_X6_standsSum se_X6_standsSum cd_X6_standsSum ini_X6 rfl (by first | assumption | exact hI _ (by omega)) rfl hd_X6_standsSum ⟨by simp only [rmd]; omega, by simp only [rmd]; omega⟩ rfl (Nat.le_of_ble_eq_true rfl) (V.kkX (fun M3 q3 => ?_))
            have e := pe _ rfl
            rw [if_pos h4] at e
            obtain ⟨⟨⟨w1, w2, w3, w4, w5, w6, w7, w8⟩, w9, w10, w11⟩, k4⟩ := id q3
            have kk : keep tx M M3 := (k3.tr (keep10 q2.2)).tr k4
            refine V.if_eqB (tgt := 113) dX6_standsThing_101 (by decide) (fun h6 => ?_) (fun h6 => ?_)
            · refine V.iconst (v := nI 0) dX6_standsThing_113 rfl ?_
              refine V.zret dX6_standsThing_114 rfl ?_
              rw [e, if_neg (by rw [h6]; simp)]
              exact ⟨rfl, q3.1, kk⟩
            · refine V.aload_n dX6_standsThing_104 rfl ?_
              refine V.getf (ci := 5) (k := 7) (C := RX6) (T := TX6) (N := 8) dX6_standsThing_105 lfX6_34 inX6 rfl (by first | assumption | exact hI _ (by omega)) rfl (by decide) rfl ?_
              rw [w11]
              refine V.bipush (v := nI 41) dX6_standsThing_108 (by decide) ?_
              refine V.icmp_eq (tgt := 115) dX6_standsThing_110 (by decide) (fun h7 => ?_) (fun h7 => ?_)
              · rw [if_pos ⟨h6, h7⟩] at e
                rw [e]
                refine V.aload_n dX6_standsThing_115 rfl ?_
                refine V.callV (ci := 5) (T := TX6) (N := 8) dX6_standsThing_116 (c_X6_toNextToken hI q3.1.1) lkX6_37 im_X6_toNextToken se_X6_toNextToken cd_X6_toNextToken ini_X6 rfl (by first | assumption | exact hI _ (by omega)) rfl hd_X6_toNextToken ⟨by simp only [rmd]; omega, by simp only [rmd]; omega⟩ rfl (Nat.le_of_ble_eq_true rfl) (V.kkP (fun M4 q4 => ?_))
                refine V.iload_n dX6_standsThing_119 rfl ?_
                refine V.callS dX6_standsThing_120 (c_X6_isName) lkX6_68 st_X6_isName cd_X6_isName ini_X6 hd_X6_isName ⟨by simp only [rmd]; omega, by simp only [rmd]; omega⟩ rfl (Nat.le_of_ble_eq_true rfl) (V.kkF ?_)
                refine V.if_eqB (tgt := 132) dX6_standsThing_123 (by decide) (fun h8 => ?_) (fun h8 => ?_)
                · refine V.iconst (v := nI 1) dX6_standsThing_132 rfl ?_
                  refine V.zret dX6_standsThing_133 rfl ?_
                  rw [if_neg (by rw [h8]; simp)]
                  exact ⟨rfl, q4.1, kk.tr (keep10 q4.2)⟩
                · refine V.aload_n dX6_standsThing_126 rfl ?_
                  refine V.iload_n dX6_standsThing_127 rfl ?_
                  refine V.iconst (v := nI 0) dX6_standsThing_128 rfl ?_
                  refine V.callV (ci := 5) (T := TX6) (N := 8) dX6_standsThing_129 (c_X6_addStep hI q4.1) lkX6_47 im_X6_addStep se_X6_addStep cd_X6_addStep ini_X6 rfl (by first | assumption | exact hI _ (by omega)) rfl hd_X6_addStep ⟨by simp only [rmd]; omega, by simp only [rmd]; omega⟩ rfl (Nat.le_of_ble_eq_true rfl) (V.kkP (fun M5 q5 => ?_))
                  refine V.iconst (v := nI 1) dX6_standsThing_132 rfl ?_
                  refine V.zret dX6_standsThing_133 rfl ?_
                  rw [if_pos h8]
                  exact ⟨rfl, q5.1, (kk.tr (keep10 q4.2)).tr q5.2⟩
              · refine V.iconst (v := nI 0) dX6_standsThing_113 rfl ?_
                refine V.zret dX6_standsThing_114 rfl ?_
                rw [e, if_neg (fun q => h7 q.2)]
                exact ⟨rfl, q3.1, kk⟩
          · refine bad ?_
            have hk0 : k = 0 := by omega
            subst hk0
            exact pn rfl
      refine V.if_eqB (tgt := 73) dX6_standsThing_66 (by decide) (fun h3 => ?_) (fun h3 => ?_)
      · exact rest M q (by rw [if_neg (by rw [h3]; simp)]) h keep.rf
      · refine V.aload_n dX6_standsThing_69 rfl ?_
        refine V.callV (ci := 5) (T := TX6) (N := 8) dX6_standsThing_70 (c_X6_toNextToken hI h.1) lkX6_37 im_X6_toNextToken se_X6_toNextToken cd_X6_toNextToken ini_X6 rfl (by first | assumption | exact hI _ (by omega)) rfl hd_X6_toNextToken ⟨by simp only [rmd]; omega, by simp only [rmd]; omega⟩ rfl (Nat.le_of_ble_eq_true rfl) (V.kkP (fun M2 q2 => ?_))
        exact rest M2 _ (by rw [if_pos h3]) q2.1 (keep10 q2.2)
    · refine V.aload_n dX6_standsThing_32 rfl ?_
      refine V.callV (ci := 5) (T := TX6) (N := 8) dX6_standsThing_33 (c_X6_isNumber hI h (sk_en h2)) lkX6_64 im_X6_isNumber se_X6_isNumber cd_X6_isNumber ini_X6 rfl (by first | assumption | exact hI _ (by omega)) rfl hd_X6_isNumber ⟨by simp only [rmd]; omega, by simp only [rmd]; omega⟩ rfl (Nat.le_of_ble_eq_true rfl) (V.kkF ?_)
      have e : pThing l n (pSub l n k) q S = if isNum l n q = true then (true, en l n q, addS S (nI 48, amt l n q)) else (false, q, S) := by
        simp only [pThing, thingF]
        rw [if_neg h1, if_pos h2]
      refine V.if_neB (tgt := 41) dX6_standsThing_36 (by decide) (fun h3 => ?_) (fun h3 => ?_)
      · rw [if_pos h3] at e
        rw [e]
        refine V.aload_n dX6_standsThing_41 rfl ?_
        refine V.bipush (v := nI 48) dX6_standsThing_42 (by decide) ?_
        refine V.aload_n dX6_standsThing_44 rfl ?_
        refine V.callV (ci := 5) (T := TX6) (N := 8) dX6_standsThing_45 (c_X6_amount hI h) lkX6_60 im_X6_amount se_X6_amount cd_X6_amount ini_X6 rfl (by first | assumption | exact hI _ (by omega)) rfl hd_X6_amount ⟨by simp only [rmd]; omega, by simp only [rmd]; omega⟩ rfl (Nat.le_of_ble_eq_true rfl) (V.kkF ?_)
        refine V.callV (ci := 5) (T := TX6) (N := 8) dX6_standsThing_48 (c_X6_addStep hI h) lkX6_47 im_X6_addStep se_X6_addStep cd_X6_addStep ini_X6 rfl (by first | assumption | exact hI _ (by omega)) rfl hd_X6_addStep ⟨by simp only [rmd]; omega, by simp only [rmd]; omega⟩ rfl (Nat.le_of_ble_eq_true rfl) (V.kkP (fun M2 q2 => ?_))
        refine V.aload_n dX6_standsThing_51 rfl ?_
        refine V.callV (ci := 5) (T := TX6) (N := 8) dX6_standsThing_52 (c_X6_toNextToken hI q2.1.1) lkX6_37 im_X6_toNextToken se_X6_toNextToken cd_X6_toNextToken ini_X6 rfl (by first | assumption | exact hI _ (by omega)) rfl hd_X6_toNextToken ⟨by simp only [rmd]; omega, by simp only [rmd]; omega⟩ rfl (Nat.le_of_ble_eq_true rfl) (V.kkP (fun M3 q3 => ?_))
        refine V.iconst (v := nI 1) dX6_standsThing_55 rfl ?_
        refine V.zret dX6_standsThing_56 rfl ?_
        exact ⟨rfl, q3.1, q2.2.tr (keep10 q3.2)⟩
      · rw [h3, if_neg (by decide)] at e
        refine V.iconst (v := nI 0) dX6_standsThing_39 rfl ?_
        refine V.zret dX6_standsThing_40 rfl ?_
        rw [e]
        exact ⟨rfl, h, keep.rf⟩
  · have e : pThing l n (pSub l n k) q S = (true, en l n q, addS S (nI 116, nI 0)) := by
      simp only [pThing, thingF]
      rw [if_pos h1]
    rw [e]
    refine V.aload_n dX6_standsThing_9 rfl ?_
    refine V.bipush (v := nI 116) dX6_standsThing_10 (by decide) ?_
    refine V.iconst (v := nI 0) dX6_standsThing_12 rfl ?_
    refine V.callV (ci := 5) (T := TX6) (N := 8) dX6_standsThing_13 (c_X6_addStep hI h) lkX6_47 im_X6_addStep se_X6_addStep cd_X6_addStep ini_X6 rfl (by first | assumption | exact hI _ (by omega)) rfl hd_X6_addStep ⟨by simp only [rmd]; omega, by simp only [rmd]; omega⟩ rfl (Nat.le_of_ble_eq_true rfl) (V.kkP (fun M2 q2 => ?_))
    refine V.aload_n dX6_standsThing_16 rfl ?_
    refine V.callV (ci := 5) (T := TX6) (N := 8) dX6_standsThing_17 (c_X6_toNextToken hI q2.1.1) lkX6_37 im_X6_toNextToken se_X6_toNextToken cd_X6_toNextToken ini_X6 rfl (by first | assumption | exact hI _ (by omega)) rfl hd_X6_toNextToken ⟨by simp only [rmd]; omega, by simp only [rmd]; omega⟩ rfl (Nat.le_of_ble_eq_true rfl) (V.kkP (fun M3 q3 => ?_))
    refine V.iconst (v := nI 1) dX6_standsThing_20 rfl ?_
    refine V.zret dX6_standsThing_21 rfl ?_
    exact ⟨rfl, q3.1, q2.2.tr (keep10 q3.2)⟩
theorem p_power {l : Nat → Int32} {n k : Nat} (hs : PC yX6_standsThing cX6_standsThing 3 (2 + 4 * k) k (pThing l n (pSub l n k)) l n) : PC yX6_standsPower cX6_standsPower 2 (3 + 4 * k) k (pPower l n (pSub l n k)) l n := by
  intro g M q S hI h
  refine Ct.ofV (by decide) (Nat.le_of_ble_eq_true rfl) (by simp [Value.category]) (fun κ => ?_)
  refine V.aload_n dX6_standsPower_0 rfl ?_
  refine V.iload_n dX6_standsPower_1 rfl ?_
  refine V.callV (ci := 5) (T := TX6) (N := 8) dX6_standsPower_2 (hs g M q S hI h) lkX6_54 im_X6_standsThing se_X6_standsThing cd_X6_standsThing ini_X6 rfl (by first | assumption | exact hI _ (by omega)) rfl hd_X6_standsThing ⟨by simp only [rmd]; omega, by simp only [rmd]; omega⟩ rfl (Nat.le_of_ble_eq_true rfl) (V.kkX (fun M1 q1 => ?_))
  obtain ⟨q1, k1⟩ := q1
  obtain ⟨⟨u1, u2, u3, u4, u5, u6, u7, u8⟩, u9, u10, u11⟩ := id q1
  generalize hr : pThing l n (pSub l n k) q S = r at q1 u2 u3 u6 u7 u8 u9 u10 u11
  have pe : pPower l n (pSub l n k) q S = if r.1 = true then (if fs l n r.2.1 = nI 94 then (if isDg (fs l n (en l n r.2.1)) = true ∧ en l n (en l n r.2.1) - sk l n (en l n r.2.1) = 1 then (true, en l n (en l n r.2.1), addS r.2.2 (nI 94, amt l n (en l n r.2.1))) else (false, en l n r.2.1, r.2.2)) else (true, r.2.1, r.2.2)) else (false, r.2.1, r.2.2) := by
    simp only [pPower, powerF]
    rw [hr]
  rw [pe]
  refine V.if_neB (tgt := 10) dX6_standsPower_5 (by decide) (fun h1 => ?_) (fun h1 => ?_)
  · refine V.aload_n dX6_standsPower_10 rfl ?_
    refine V.getf (ci := 5) (k := 7) (C := RX6) (T := TX6) (N := 8) dX6_standsPower_11 lfX6_34 inX6 rfl (by first | assumption | exact hI _ (by omega)) rfl (by decide) rfl ?_
    rw [u11]
    refine V.bipush (v := nI 94) dX6_standsPower_14 (by decide) ?_
    refine V.icmp_eq (tgt := 21) dX6_standsPower_16 (by decide) (fun h2 => ?_) (fun h2 => ?_)
    · rw [if_pos h1, if_pos h2]
      refine V.aload_n dX6_standsPower_21 rfl ?_
      refine V.callV (ci := 5) (T := TX6) (N := 8) dX6_standsPower_22 (c_X6_toNextToken hI q1.1) lkX6_37 im_X6_toNextToken se_X6_toNextToken cd_X6_toNextToken ini_X6 rfl (by first | assumption | exact hI _ (by omega)) rfl hd_X6_toNextToken ⟨by simp only [rmd]; omega, by simp only [rmd]; omega⟩ rfl (Nat.le_of_ble_eq_true rfl) (V.kkP (fun M2 q2 => ?_))
      obtain ⟨q2, k2⟩ := q2
      obtain ⟨⟨w1, w2, w3, w4, w5, w6, w7, w8⟩, w9, w10, w11⟩ := id q2
      refine V.aload_n dX6_standsPower_25 rfl ?_
      refine V.getf (ci := 5) (k := 7) (C := RX6) (T := TX6) (N := 8) dX6_standsPower_26 lfX6_34 inX6 rfl (by first | assumption | exact hI _ (by omega)) rfl (by decide) rfl ?_
      rw [w11]
      refine V.callS dX6_standsPower_29 (c_X6_isDigit) lkX6_57 st_X6_isDigit cd_X6_isDigit ini_X6 hd_X6_isDigit ⟨by simp only [rmd]; omega, by simp only [rmd]; omega⟩ rfl (Nat.le_of_ble_eq_true rfl) (V.kkF ?_)
      refine V.if_eqB (tgt := 48) dX6_standsPower_32 (by decide) (fun h3 => ?_) (fun h3 => ?_)
      · refine V.iconst (v := nI 0) dX6_standsPower_48 rfl ?_
        refine V.zret dX6_standsPower_49 rfl ?_
        rw [if_neg (by rw [h3]; simp)]
        exact ⟨rfl, q2, k1.tr (keep10 k2)⟩
      · have hse := sk_en h3
        refine V.aload_n dX6_standsPower_35 rfl ?_
        refine V.getf (ci := 5) (k := 6) (C := RX6) (T := TX6) (N := 8) dX6_standsPower_36 lfX6_31 inX6 rfl (by first | assumption | exact hI _ (by omega)) rfl (by decide) rfl ?_
        rw [w6]
        refine V.aload_n dX6_standsPower_39 rfl ?_
        refine V.getf (ci := 5) (k := 5) (C := RX6) (T := TX6) (N := 8) dX6_standsPower_40 lfX6_28 inX6 rfl (by first | assumption | exact hI _ (by omega)) rfl (by decide) rfl ?_
        rw [w10]
        first | refine V.isubN dX6_standsPower_43 (by omega) ?_ | refine V.isub dX6_standsPower_43 ?_
        refine V.iconst (v := nI 1) dX6_standsPower_44 rfl ?_
        refine V.eqN (tgt := 50) dX6_standsPower_45 (by decide) (by omega) (by omega) (fun h4 => ?_) (fun h4 => ?_)
        · rw [if_pos ⟨h3, h4⟩]
          refine V.aload_n dX6_standsPower_50 rfl ?_
          refine V.bipush (v := nI 94) dX6_standsPower_51 (by decide) ?_
          refine V.aload_n dX6_standsPower_53 rfl ?_
          refine V.callV (ci := 5) (T := TX6) (N := 8) dX6_standsPower_54 (c_X6_amount hI q2) lkX6_60 im_X6_amount se_X6_amount cd_X6_amount ini_X6 rfl (by first | assumption | exact hI _ (by omega)) rfl hd_X6_amount ⟨by simp only [rmd]; omega, by simp only [rmd]; omega⟩ rfl (Nat.le_of_ble_eq_true rfl) (V.kkF ?_)
          refine V.callV (ci := 5) (T := TX6) (N := 8) dX6_standsPower_57 (c_X6_addStep hI q2) lkX6_47 im_X6_addStep se_X6_addStep cd_X6_addStep ini_X6 rfl (by first | assumption | exact hI _ (by omega)) rfl hd_X6_addStep ⟨by simp only [rmd]; omega, by simp only [rmd]; omega⟩ rfl (Nat.le_of_ble_eq_true rfl) (V.kkP (fun M3 q3 => ?_))
          refine V.aload_n dX6_standsPower_60 rfl ?_
          refine V.callV (ci := 5) (T := TX6) (N := 8) dX6_standsPower_61 (c_X6_toNextToken hI q3.1.1) lkX6_37 im_X6_toNextToken se_X6_toNextToken cd_X6_toNextToken ini_X6 rfl (by first | assumption | exact hI _ (by omega)) rfl hd_X6_toNextToken ⟨by simp only [rmd]; omega, by simp only [rmd]; omega⟩ rfl (Nat.le_of_ble_eq_true rfl) (V.kkP (fun M4 q4 => ?_))
          refine V.iconst (v := nI 1) dX6_standsPower_64 rfl ?_
          refine V.zret dX6_standsPower_65 rfl ?_
          exact ⟨rfl, q4.1, ((k1.tr (keep10 k2)).tr q3.2).tr (keep10 q4.2)⟩
        · refine V.iconst (v := nI 0) dX6_standsPower_48 rfl ?_
          refine V.zret dX6_standsPower_49 rfl ?_
          rw [if_neg (fun q => h4 q.2)]
          exact ⟨rfl, q2, k1.tr (keep10 k2)⟩
    · rw [if_pos h1, if_neg h2]
      refine V.iconst (v := nI 1) dX6_standsPower_19 rfl ?_
      refine V.zret dX6_standsPower_20 rfl ?_
      exact ⟨rfl, q1, k1⟩
  · rw [h1, if_neg (by decide)]
    refine V.iconst (v := nI 0) dX6_standsPower_8 rfl ?_
    refine V.zret dX6_standsPower_9 rfl ?_
    exact ⟨rfl, q1, k1⟩
abbrev v_X6_standsProduct (k : Nat) (g : Gl) (κ : Ka) (Q : State → Prop) (M : Mem) (pc : Nat) (L : List (Option Value)) (st : List Value) : Prop := V g cX6_standsProduct 4 yX6_standsProduct.cls (some .boolean) (rmd (4 + 4 * k)) Q κ M pc L st
theorem p_Product {l : Nat → Int32} {n k : Nat} (hs : PC yX6_standsPower cX6_standsPower 2 (3 + 4 * k) k (pPower l n (pSub l n k)) l n) : PC yX6_standsProduct cX6_standsProduct 4 (4 + 4 * k) k (pProd l n (pSub l n k)) l n := by
  intro g M q S hI h
  refine Ct.ofV (by decide) (Nat.le_of_ble_eq_true rfl) (by simp [Value.category]) (fun κ => ?_)
  refine V.aload_n dX6_standsProduct_0 rfl ?_
  refine V.iload_n dX6_standsProduct_1 rfl ?_
  refine V.callV (ci := 5) (T := TX6) (N := 8) dX6_standsProduct_2 (hs g M q S hI h) lkX6_51 im_X6_standsPower se_X6_standsPower cd_X6_standsPower ini_X6 rfl (by first | assumption | exact hI _ (by omega)) rfl hd_X6_standsPower ⟨by simp only [rmd]; omega, by simp only [rmd]; omega⟩ rfl (Nat.le_of_ble_eq_true rfl) (V.kkX (fun M1 q1 => ?_))
  obtain ⟨q1, k1⟩ := q1
  generalize hr : pPower l n (pSub l n k) q S = r at q1
  have pe : pProd l n (pSub l n k) q S = if r.1 = true then loopF l n (nI 42) (nI 47) (pPower l n (pSub l n k)) 120 r.2.1 r.2.2 else (false, r.2.1, r.2.2) := by
    simp only [pProd, listF]
    rw [hr]
  refine V.if_neB (tgt := 10) dX6_standsProduct_5 (by decide) (fun h1 => ?_) (fun h1 => ?_)
  · refine V.iconst (v := nI 0) dX6_standsProduct_10 rfl ?_
    refine V.istore_n dX6_standsProduct_11 (by decide) ?_
    rw [if_pos h1] at pe
    rw [pe]
    have lp := up_loop 120 (fun i => ∀ (M2 : Mem) (q2 : Nat) (S2 : Stp2) x3, TS l n q2 S2 M2 → keep tx M M2 → loopF l n (nI 42) (nI 47) (pPower l n (pSub l n k)) (120 - i) q2 S2 = loopF l n (nI 42) (nI 47) (pPower l n (pSub l n k)) 120 r.2.1 r.2.2 → v_X6_standsProduct k g κ (Qm g κ (fun v M' => v = some (.int (nI (loopF l n (nI 42) (nI 47) (pPower l n (pSub l n k)) 120 r.2.1 r.2.2).1.toNat)) ∧ TS l n (loopF l n (nI 42) (nI 47) (pPower l n (pSub l n k)) 120 r.2.1 r.2.2).2.1 (loopF l n (nI 42) (nI 47) (pPower l n (pSub l n k)) 120 r.2.1 r.2.2).2.2 M' ∧ keep tx M M')) M2 12 [some (.ref (g.2.2.2.1 10)), some (.int (nI (6 - k))), some (.int (nI i)), x3] []) (fun i hi ih M2 q2 S2 x3 h2 k2 he => ?_) 0 (by omega)
    · exact lp M1 _ _ _ q1 k1 rfl
    · obtain ⟨⟨u1, u2, u3, u4, u5, u6, u7, u8⟩, u9, u10, u11⟩ := id h2
      have out : (true, q2, S2) = loopF l n (nI 42) (nI 47) (pPower l n (pSub l n k)) 120 r.2.1 r.2.2 → v_X6_standsProduct k g κ (Qm g κ (fun v M' => v = some (.int (nI (loopF l n (nI 42) (nI 47) (pPower l n (pSub l n k)) 120 r.2.1 r.2.2).1.toNat)) ∧ TS l n (loopF l n (nI 42) (nI 47) (pPower l n (pSub l n k)) 120 r.2.1 r.2.2).2.1 (loopF l n (nI 42) (nI 47) (pPower l n (pSub l n k)) 120 r.2.1 r.2.2).2.2 M' ∧ keep tx M M')) M2 67 [some (.ref (g.2.2.2.1 10)), some (.int (nI (6 - k))), some (.int (nI i)), x3] [] := by
        intro e
        refine V.iconst (v := nI 1) dX6_standsProduct_67 rfl ?_
        refine V.zret dX6_standsProduct_68 rfl ?_
        rw [← e]
        exact ⟨rfl, h2, k2⟩
      refine V.iload_n dX6_standsProduct_12 rfl ?_
      refine V.bipush (v := nI 120) dX6_standsProduct_13 (by decide) ?_
      refine V.geN (tgt := 67) dX6_standsProduct_15 (by decide) (by omega) (by omega) (fun h3 => ?_) (fun h3 => ?_)
      · rw [show 120 - i = 0 by omega] at he
        exact out he
      · rw [show 120 - i = (119 - i) + 1 by omega] at he
        have go : (fs l n q2 = nI 42 ∨ fs l n q2 = nI 47) → v_X6_standsProduct k g κ (Qm g κ (fun v M' => v = some (.int (nI (loopF l n (nI 42) (nI 47) (pPower l n (pSub l n k)) 120 r.2.1 r.2.2).1.toNat)) ∧ TS l n (loopF l n (nI 42) (nI 47) (pPower l n (pSub l n k)) 120 r.2.1 r.2.2).2.1 (loopF l n (nI 42) (nI 47) (pPower l n (pSub l n k)) 120 r.2.1 r.2.2).2.2 M' ∧ keep tx M M')) M2 36 [some (.ref (g.2.2.2.1 10)), some (.int (nI (6 - k))), some (.int (nI i)), x3] [] := by
          intro hs2
          have u : loopF l n (nI 42) (nI 47) (pPower l n (pSub l n k)) (119 - i + 1) q2 S2 = if fs l n q2 = nI 42 ∨ fs l n q2 = nI 47 then (if (pPower l n (pSub l n k) (en l n q2) S2).1 = true then loopF l n (nI 42) (nI 47) (pPower l n (pSub l n k)) (119 - i) (pPower l n (pSub l n k) (en l n q2) S2).2.1 (addS (pPower l n (pSub l n k) (en l n q2) S2).2.2 (fs l n q2, nI 0)) else (false, (pPower l n (pSub l n k) (en l n q2) S2).2.1, (pPower l n (pSub l n k) (en l n q2) S2).2.2)) else (true, q2, S2) := rfl
          rw [u, if_pos hs2] at he
          refine V.aload_n dX6_standsProduct_36 rfl ?_
          refine V.getf (ci := 5) (k := 7) (C := RX6) (T := TX6) (N := 8) dX6_standsProduct_37 lfX6_34 inX6 rfl (by first | assumption | exact hI _ (by omega)) rfl (by decide) rfl ?_
          rw [u11]
          refine V.istore_n dX6_standsProduct_40 (by decide) ?_
          refine V.aload_n dX6_standsProduct_41 rfl ?_
          refine V.callV (ci := 5) (T := TX6) (N := 8) dX6_standsProduct_42 (c_X6_toNextToken hI h2.1) lkX6_37 im_X6_toNextToken se_X6_toNextToken cd_X6_toNextToken ini_X6 rfl (by first | assumption | exact hI _ (by omega)) rfl hd_X6_toNextToken ⟨by simp only [rmd]; omega, by simp only [rmd]; omega⟩ rfl (Nat.le_of_ble_eq_true rfl) (V.kkP (fun M3 q3 => ?_))
          refine V.aload_n dX6_standsProduct_45 rfl ?_
          refine V.iload_n dX6_standsProduct_46 rfl ?_
          refine V.callV (ci := 5) (T := TX6) (N := 8) dX6_standsProduct_47 (hs g M3 _ S2 hI q3.1) lkX6_51 im_X6_standsPower se_X6_standsPower cd_X6_standsPower ini_X6 rfl (by first | assumption | exact hI _ (by omega)) rfl hd_X6_standsPower ⟨by simp only [rmd]; omega, by simp only [rmd]; omega⟩ rfl (Nat.le_of_ble_eq_true rfl) (V.kkX (fun M4 q4 => ?_))
          obtain ⟨q4, k4⟩ := q4
          have kk : keep tx M M4 := (k2.tr (keep10 q3.2)).tr k4
          refine V.if_neB (tgt := 55) dX6_standsProduct_50 (by decide) (fun h4 => ?_) (fun h4 => ?_)
          · rw [if_pos h4] at he
            refine V.aload_n dX6_standsProduct_55 rfl ?_
            refine V.iload_n dX6_standsProduct_56 rfl ?_
            refine V.iconst (v := nI 0) dX6_standsProduct_57 rfl ?_
            refine V.callV (ci := 5) (T := TX6) (N := 8) dX6_standsProduct_58 (c_X6_addStep hI q4) lkX6_47 im_X6_addStep se_X6_addStep cd_X6_addStep ini_X6 rfl (by first | assumption | exact hI _ (by omega)) rfl hd_X6_addStep ⟨by simp only [rmd]; omega, by simp only [rmd]; omega⟩ rfl (Nat.le_of_ble_eq_true rfl) (V.kkP (fun M5 q5 => ?_))
            refine V.iincN dX6_standsProduct_61 (by decide) rfl ?_
            refine V.goto (tgt := 12) dX6_standsProduct_64 (by decide) ?_
            exact ih (by omega) M5 _ _ _ q5.1 (kk.tr q5.2) (by rw [show 120 - (i + 1) = 119 - i by omega]; exact he)
          · rw [h4, if_neg (by decide)] at he
            refine V.iconst (v := nI 0) dX6_standsProduct_53 rfl ?_
            refine V.zret dX6_standsProduct_54 rfl ?_
            rw [← he]
            exact ⟨rfl, q4, kk⟩
        refine V.aload_n dX6_standsProduct_18 rfl ?_
        refine V.getf (ci := 5) (k := 7) (C := RX6) (T := TX6) (N := 8) dX6_standsProduct_19 lfX6_34 inX6 rfl (by first | assumption | exact hI _ (by omega)) rfl (by decide) rfl ?_
        rw [u11]
        refine V.bipush (v := nI 42) dX6_standsProduct_22 (by decide) ?_
        refine V.icmp_eq (tgt := 36) dX6_standsProduct_24 (by decide) (fun h4 => ?_) (fun h4 => ?_)
        · exact go (Or.inl h4)
        · refine V.aload_n dX6_standsProduct_27 rfl ?_
          refine V.getf (ci := 5) (k := 7) (C := RX6) (T := TX6) (N := 8) dX6_standsProduct_28 lfX6_34 inX6 rfl (by first | assumption | exact hI _ (by omega)) rfl (by decide) rfl ?_
          rw [u11]
          refine V.bipush (v := nI 47) dX6_standsProduct_31 (by decide) ?_
          refine V.icmp_ne (tgt := 67) dX6_standsProduct_33 (by decide) (fun h5 => ?_) (fun h5 => ?_)
          · refine out ?_
            have u : loopF l n (nI 42) (nI 47) (pPower l n (pSub l n k)) (119 - i + 1) q2 S2 = if fs l n q2 = nI 42 ∨ fs l n q2 = nI 47 then (if (pPower l n (pSub l n k) (en l n q2) S2).1 = true then loopF l n (nI 42) (nI 47) (pPower l n (pSub l n k)) (119 - i) (pPower l n (pSub l n k) (en l n q2) S2).2.1 (addS (pPower l n (pSub l n k) (en l n q2) S2).2.2 (fs l n q2, nI 0)) else (false, (pPower l n (pSub l n k) (en l n q2) S2).2.1, (pPower l n (pSub l n k) (en l n q2) S2).2.2)) else (true, q2, S2) := rfl
            rw [← he, u, if_neg (fun q => q.elim h4 h5)]
          · exact go (Or.inr h5)
  · rw [h1, if_neg (by decide)] at pe
    rw [pe]
    refine V.iconst (v := nI 0) dX6_standsProduct_8 rfl ?_
    refine V.zret dX6_standsProduct_9 rfl ?_
    exact ⟨rfl, q1, k1⟩
abbrev v_X6_standsSum (k : Nat) (g : Gl) (κ : Ka) (Q : State → Prop) (M : Mem) (pc : Nat) (L : List (Option Value)) (st : List Value) : Prop := V g cX6_standsSum 4 yX6_standsSum.cls (some .boolean) (rmd (5 + 4 * k)) Q κ M pc L st
theorem p_Sum {l : Nat → Int32} {n k : Nat} (hs : PC yX6_standsProduct cX6_standsProduct 4 (4 + 4 * k) k (pProd l n (pSub l n k)) l n) : PC yX6_standsSum cX6_standsSum 4 (5 + 4 * k) k (pSumO l n (pSub l n k)) l n := by
  intro g M q S hI h
  refine Ct.ofV (by decide) (Nat.le_of_ble_eq_true rfl) (by simp [Value.category]) (fun κ => ?_)
  refine V.aload_n dX6_standsSum_0 rfl ?_
  refine V.iload_n dX6_standsSum_1 rfl ?_
  refine V.callV (ci := 5) (T := TX6) (N := 8) dX6_standsSum_2 (hs g M q S hI h) lkX6_44 im_X6_standsProduct se_X6_standsProduct cd_X6_standsProduct ini_X6 rfl (by first | assumption | exact hI _ (by omega)) rfl hd_X6_standsProduct ⟨by simp only [rmd]; omega, by simp only [rmd]; omega⟩ rfl (Nat.le_of_ble_eq_true rfl) (V.kkX (fun M1 q1 => ?_))
  obtain ⟨q1, k1⟩ := q1
  generalize hr : pProd l n (pSub l n k) q S = r at q1
  have pe : pSumO l n (pSub l n k) q S = if r.1 = true then loopF l n (nI 43) (nI 45) (pProd l n (pSub l n k)) 120 r.2.1 r.2.2 else (false, r.2.1, r.2.2) := by
    simp only [pSumO, listF]
    rw [hr]
  refine V.if_neB (tgt := 10) dX6_standsSum_5 (by decide) (fun h1 => ?_) (fun h1 => ?_)
  · refine V.iconst (v := nI 0) dX6_standsSum_10 rfl ?_
    refine V.istore_n dX6_standsSum_11 (by decide) ?_
    rw [if_pos h1] at pe
    rw [pe]
    have lp := up_loop 120 (fun i => ∀ (M2 : Mem) (q2 : Nat) (S2 : Stp2) x3, TS l n q2 S2 M2 → keep tx M M2 → loopF l n (nI 43) (nI 45) (pProd l n (pSub l n k)) (120 - i) q2 S2 = loopF l n (nI 43) (nI 45) (pProd l n (pSub l n k)) 120 r.2.1 r.2.2 → v_X6_standsSum k g κ (Qm g κ (fun v M' => v = some (.int (nI (loopF l n (nI 43) (nI 45) (pProd l n (pSub l n k)) 120 r.2.1 r.2.2).1.toNat)) ∧ TS l n (loopF l n (nI 43) (nI 45) (pProd l n (pSub l n k)) 120 r.2.1 r.2.2).2.1 (loopF l n (nI 43) (nI 45) (pProd l n (pSub l n k)) 120 r.2.1 r.2.2).2.2 M' ∧ keep tx M M')) M2 12 [some (.ref (g.2.2.2.1 10)), some (.int (nI (6 - k))), some (.int (nI i)), x3] []) (fun i hi ih M2 q2 S2 x3 h2 k2 he => ?_) 0 (by omega)
    · exact lp M1 _ _ _ q1 k1 rfl
    · obtain ⟨⟨u1, u2, u3, u4, u5, u6, u7, u8⟩, u9, u10, u11⟩ := id h2
      have out : (true, q2, S2) = loopF l n (nI 43) (nI 45) (pProd l n (pSub l n k)) 120 r.2.1 r.2.2 → v_X6_standsSum k g κ (Qm g κ (fun v M' => v = some (.int (nI (loopF l n (nI 43) (nI 45) (pProd l n (pSub l n k)) 120 r.2.1 r.2.2).1.toNat)) ∧ TS l n (loopF l n (nI 43) (nI 45) (pProd l n (pSub l n k)) 120 r.2.1 r.2.2).2.1 (loopF l n (nI 43) (nI 45) (pProd l n (pSub l n k)) 120 r.2.1 r.2.2).2.2 M' ∧ keep tx M M')) M2 67 [some (.ref (g.2.2.2.1 10)), some (.int (nI (6 - k))), some (.int (nI i)), x3] [] := by
        intro e
        refine V.iconst (v := nI 1) dX6_standsSum_67 rfl ?_
        refine V.zret dX6_standsSum_68 rfl ?_
        rw [← e]
        exact ⟨rfl, h2, k2⟩
      refine V.iload_n dX6_standsSum_12 rfl ?_
      refine V.bipush (v := nI 120) dX6_standsSum_13 (by decide) ?_
      refine V.geN (tgt := 67) dX6_standsSum_15 (by decide) (by omega) (by omega) (fun h3 => ?_) (fun h3 => ?_)
      · rw [show 120 - i = 0 by omega] at he
        exact out he
      · rw [show 120 - i = (119 - i) + 1 by omega] at he
        have go : (fs l n q2 = nI 43 ∨ fs l n q2 = nI 45) → v_X6_standsSum k g κ (Qm g κ (fun v M' => v = some (.int (nI (loopF l n (nI 43) (nI 45) (pProd l n (pSub l n k)) 120 r.2.1 r.2.2).1.toNat)) ∧ TS l n (loopF l n (nI 43) (nI 45) (pProd l n (pSub l n k)) 120 r.2.1 r.2.2).2.1 (loopF l n (nI 43) (nI 45) (pProd l n (pSub l n k)) 120 r.2.1 r.2.2).2.2 M' ∧ keep tx M M')) M2 36 [some (.ref (g.2.2.2.1 10)), some (.int (nI (6 - k))), some (.int (nI i)), x3] [] := by
          intro hs2
          have u : loopF l n (nI 43) (nI 45) (pProd l n (pSub l n k)) (119 - i + 1) q2 S2 = if fs l n q2 = nI 43 ∨ fs l n q2 = nI 45 then (if (pProd l n (pSub l n k) (en l n q2) S2).1 = true then loopF l n (nI 43) (nI 45) (pProd l n (pSub l n k)) (119 - i) (pProd l n (pSub l n k) (en l n q2) S2).2.1 (addS (pProd l n (pSub l n k) (en l n q2) S2).2.2 (fs l n q2, nI 0)) else (false, (pProd l n (pSub l n k) (en l n q2) S2).2.1, (pProd l n (pSub l n k) (en l n q2) S2).2.2)) else (true, q2, S2) := rfl
          rw [u, if_pos hs2] at he
          refine V.aload_n dX6_standsSum_36 rfl ?_
          refine V.getf (ci := 5) (k := 7) (C := RX6) (T := TX6) (N := 8) dX6_standsSum_37 lfX6_34 inX6 rfl (by first | assumption | exact hI _ (by omega)) rfl (by decide) rfl ?_
          rw [u11]
          refine V.istore_n dX6_standsSum_40 (by decide) ?_
          refine V.aload_n dX6_standsSum_41 rfl ?_
          refine V.callV (ci := 5) (T := TX6) (N := 8) dX6_standsSum_42 (c_X6_toNextToken hI h2.1) lkX6_37 im_X6_toNextToken se_X6_toNextToken cd_X6_toNextToken ini_X6 rfl (by first | assumption | exact hI _ (by omega)) rfl hd_X6_toNextToken ⟨by simp only [rmd]; omega, by simp only [rmd]; omega⟩ rfl (Nat.le_of_ble_eq_true rfl) (V.kkP (fun M3 q3 => ?_))
          refine V.aload_n dX6_standsSum_45 rfl ?_
          refine V.iload_n dX6_standsSum_46 rfl ?_
          refine V.callV (ci := 5) (T := TX6) (N := 8) dX6_standsSum_47 (hs g M3 _ S2 hI q3.1) lkX6_44 im_X6_standsProduct se_X6_standsProduct cd_X6_standsProduct ini_X6 rfl (by first | assumption | exact hI _ (by omega)) rfl hd_X6_standsProduct ⟨by simp only [rmd]; omega, by simp only [rmd]; omega⟩ rfl (Nat.le_of_ble_eq_true rfl) (V.kkX (fun M4 q4 => ?_))
          obtain ⟨q4, k4⟩ := q4
          have kk : keep tx M M4 := (k2.tr (keep10 q3.2)).tr k4
          refine V.if_neB (tgt := 55) dX6_standsSum_50 (by decide) (fun h4 => ?_) (fun h4 => ?_)
          · rw [if_pos h4] at he
            refine V.aload_n dX6_standsSum_55 rfl ?_
            refine V.iload_n dX6_standsSum_56 rfl ?_
            refine V.iconst (v := nI 0) dX6_standsSum_57 rfl ?_
            refine V.callV (ci := 5) (T := TX6) (N := 8) dX6_standsSum_58 (c_X6_addStep hI q4) lkX6_47 im_X6_addStep se_X6_addStep cd_X6_addStep ini_X6 rfl (by first | assumption | exact hI _ (by omega)) rfl hd_X6_addStep ⟨by simp only [rmd]; omega, by simp only [rmd]; omega⟩ rfl (Nat.le_of_ble_eq_true rfl) (V.kkP (fun M5 q5 => ?_))
            refine V.iincN dX6_standsSum_61 (by decide) rfl ?_
            refine V.goto (tgt := 12) dX6_standsSum_64 (by decide) ?_
            exact ih (by omega) M5 _ _ _ q5.1 (kk.tr q5.2) (by rw [show 120 - (i + 1) = 119 - i by omega]; exact he)
          · rw [h4, if_neg (by decide)] at he
            refine V.iconst (v := nI 0) dX6_standsSum_53 rfl ?_
            refine V.zret dX6_standsSum_54 rfl ?_
            rw [← he]
            exact ⟨rfl, q4, kk⟩
        refine V.aload_n dX6_standsSum_18 rfl ?_
        refine V.getf (ci := 5) (k := 7) (C := RX6) (T := TX6) (N := 8) dX6_standsSum_19 lfX6_34 inX6 rfl (by first | assumption | exact hI _ (by omega)) rfl (by decide) rfl ?_
        rw [u11]
        refine V.bipush (v := nI 43) dX6_standsSum_22 (by decide) ?_
        refine V.icmp_eq (tgt := 36) dX6_standsSum_24 (by decide) (fun h4 => ?_) (fun h4 => ?_)
        · exact go (Or.inl h4)
        · refine V.aload_n dX6_standsSum_27 rfl ?_
          refine V.getf (ci := 5) (k := 7) (C := RX6) (T := TX6) (N := 8) dX6_standsSum_28 lfX6_34 inX6 rfl (by first | assumption | exact hI _ (by omega)) rfl (by decide) rfl ?_
          rw [u11]
          refine V.bipush (v := nI 45) dX6_standsSum_31 (by decide) ?_
          refine V.icmp_ne (tgt := 67) dX6_standsSum_33 (by decide) (fun h5 => ?_) (fun h5 => ?_)
          · refine out ?_
            have u : loopF l n (nI 43) (nI 45) (pProd l n (pSub l n k)) (119 - i + 1) q2 S2 = if fs l n q2 = nI 43 ∨ fs l n q2 = nI 45 then (if (pProd l n (pSub l n k) (en l n q2) S2).1 = true then loopF l n (nI 43) (nI 45) (pProd l n (pSub l n k)) (119 - i) (pProd l n (pSub l n k) (en l n q2) S2).2.1 (addS (pProd l n (pSub l n k) (en l n q2) S2).2.2 (fs l n q2, nI 0)) else (false, (pProd l n (pSub l n k) (en l n q2) S2).2.1, (pProd l n (pSub l n k) (en l n q2) S2).2.2)) else (true, q2, S2) := rfl
            rw [← he, u, if_neg (fun q => q.elim h4 h5)]
          · exact go (Or.inr h5)
  · rw [h1, if_neg (by decide)] at pe
    rw [pe]
    refine V.iconst (v := nI 0) dX6_standsSum_8 rfl ?_
    refine V.zret dX6_standsSum_9 rfl ?_
    exact ⟨rfl, q1, k1⟩
theorem p_sum_step {l : Nat → Int32} {n k : Nat} (hk : k ≤ 6) (hs : ∀ j, k = j + 1 → PC yX6_standsSum cX6_standsSum 4 (5 + 4 * j) j (pSum l n j) l n) : PC yX6_standsSum cX6_standsSum 4 (5 + 4 * k) k (pSum l n k) l n := by
  rw [pSum_eq]
  exact p_Sum (p_Product (p_power (p_thing hk hs)))
theorem p_sum (l : Nat → Int32) (n : Nat) : ∀ k, k ≤ 6 → PC yX6_standsSum cX6_standsSum 4 (5 + 4 * k) k (pSum l n k) l n
  | 0, hk => p_sum_step hk (fun j e => by omega)
  | k + 1, hk => p_sum_step hk (fun j e => by
      have e2 : j = k := by omega
      rw [e2]; exact p_sum l n k (by omega))
theorem c_X6_firstFault {g : Gl} {M : Mem} {l : Nat → Int32} {n : Nat} (hI : ∀ i, 10 ≤ i ∧ i ≤ 13 → i ∈ g.2.2.2.2) (hn : n ≤ 120) (h13 : M 13 = l) (h3 : M 10 3 = nI n) : Ct g yX6_firstFault cX6_firstFault 1 (some .int) 30 [.ref (g.2.2.2.1 10)] M (fun v M' => v = some (.int (pFault l n).1) ∧ (M' 10 3 = nI n ∧ M' 10 2 = nI (pFault l n).2.length ∧ (pFault l n).2.length ≤ 120 ∧ (∀ i, i < (pFault l n).2.length → M' 11 i = ((pFault l n).2.getD i (0, 0)).1 ∧ M' 12 i = ((pFault l n).2.getD i (0, 0)).2)) ∧ keep tx M M') := by
  refine Ct.ofV (by decide) (Nat.le_of_ble_eq_true rfl) (by simp [Value.category]) (fun κ => ?_)
  refine V.aload_n dX6_firstFault_0 rfl ?_
  refine V.iconst (v := nI 0) dX6_firstFault_1 rfl ?_
  refine V.putf (ci := 5) (k := 2) (C := RX6) (T := TX6) (N := 8) (ty := .int) tyX6 dX6_firstFault_2 lfX6_18 inX6 tyX6_ok nmX6 rfl (by first | assumption | exact hI _ (by omega)) rfl (by decide) rfl rfl rfl rfl (Nat.le_of_ble_eq_true rfl) rfl ?_
  refine V.aload_n dX6_firstFault_5 rfl ?_
  refine V.iconst (v := nI 0) dX6_firstFault_6 rfl ?_
  refine V.putf (ci := 5) (k := 6) (C := RX6) (T := TX6) (N := 8) (ty := .int) tyX6 dX6_firstFault_7 lfX6_31 inX6 tyX6_ok nmX6 rfl (by first | assumption | exact hI _ (by omega)) rfl (by decide) rfl rfl rfl rfl (Nat.le_of_ble_eq_true rfl) rfl ?_
  refine V.aload_n dX6_firstFault_10 rfl ?_
  have h0 : TS0 l n 0 [] (mset (mset M 10 2 (nI 0)) 10 6 (nI 0)) := by
    refine ⟨hn, Nat.zero_le _, Nat.zero_le _, ?_, ?_, ?_, ?_, fun i hi => by simp at hi⟩
    · rw [mset_ne (by decide), mset_ne (by decide)]; exact h13
    · rw [mset_nat (by decide), mset_nat (by decide)]; exact h3
    · rw [mset_at]
    · rw [mset_nat (by decide), mset_at]; rfl
  have k0 : keep tx M (mset (mset M 10 2 (nI 0)) 10 6 (nI 0)) := ((keep.rf (P := tx)).ms (Or.inl rfl)).ms (Or.inl rfl)
  refine V.callV (ci := 5) (T := TX6) (N := 8) dX6_firstFault_11 (c_X6_toNextToken hI h0) lkX6_37 im_X6_toNextToken se_X6_toNextToken cd_X6_toNextToken ini_X6 rfl (by first | assumption | exact hI _ (by omega)) rfl hd_X6_toNextToken ⟨Nat.le_of_ble_eq_true rfl, Nat.le_of_ble_eq_true rfl⟩ rfl (Nat.le_of_ble_eq_true rfl) (V.kkP (fun M1 q1 => ?_))
  refine V.aload_n dX6_firstFault_14 rfl ?_
  refine V.iconst (v := nI 0) dX6_firstFault_15 rfl ?_
  refine V.callV (ci := 5) (T := TX6) (N := 8) dX6_firstFault_16 (p_sum l n 6 (by decide) g M1 0 [] hI q1.1) lkX6_40 im_X6_standsSum se_X6_standsSum cd_X6_standsSum ini_X6 rfl (by first | assumption | exact hI _ (by omega)) rfl hd_X6_standsSum ⟨Nat.le_of_ble_eq_true rfl, Nat.le_of_ble_eq_true rfl⟩ rfl (Nat.le_of_ble_eq_true rfl) (V.kkX (fun M2 q2 => ?_))
  obtain ⟨q2, k2⟩ := q2
  have kk : keep tx M M2 := (k0.tr (keep10 q1.2)).tr k2
  obtain ⟨⟨u1, u2, u3, u4, u5, u6, u7, u8⟩, u9, u10, u11⟩ := id q2
  generalize hr : pSum l n 6 0 [] = r at q2 u2 u3 u6 u7 u8 u9 u10 u11
  have pe : pFault l n = if r.1 = true ∧ fs l n r.2.1 = nI 59 then (if (pSum l n 6 (en l n r.2.1) r.2.2).1 = true ∧ sk l n (pSum l n 6 (en l n r.2.1) r.2.2).2.1 = n then (-1, (pSum l n 6 (en l n r.2.1) r.2.2).2.2) else (nI (sk l n (pSum l n 6 (en l n r.2.1) r.2.2).2.1), (pSum l n 6 (en l n r.2.1) r.2.2).2.2)) else (nI (sk l n r.2.1), r.2.2) := by
    simp only [pFault]
    rw [hr]
  rw [pe]
  refine V.if_eqB (tgt := 31) dX6_firstFault_19 (by decide) (fun h4 => ?_) (fun h4 => ?_)
  · refine V.aload_n dX6_firstFault_31 rfl ?_
    refine V.getf (ci := 5) (k := 5) (C := RX6) (T := TX6) (N := 8) dX6_firstFault_32 lfX6_28 inX6 rfl (by first | assumption | exact hI _ (by omega)) rfl (by decide) rfl ?_
    rw [u10]
    refine V.iret dX6_firstFault_35 ?_
    rw [if_neg (by rw [h4]; simp)]
    exact ⟨rfl, ⟨u5, u7, u3, u8⟩, kk⟩
  · refine V.aload_n dX6_firstFault_22 rfl ?_
    refine V.getf (ci := 5) (k := 7) (C := RX6) (T := TX6) (N := 8) dX6_firstFault_23 lfX6_34 inX6 rfl (by first | assumption | exact hI _ (by omega)) rfl (by decide) rfl ?_
    rw [u11]
    refine V.bipush (v := nI 59) dX6_firstFault_26 (by decide) ?_
    refine V.icmp_eq (tgt := 36) dX6_firstFault_28 (by decide) (fun h5 => ?_) (fun h5 => ?_)
    · rw [if_pos ⟨h4, h5⟩]
      refine V.aload_n dX6_firstFault_36 rfl ?_
      refine V.callV (ci := 5) (T := TX6) (N := 8) dX6_firstFault_37 (c_X6_toNextToken hI q2.1) lkX6_37 im_X6_toNextToken se_X6_toNextToken cd_X6_toNextToken ini_X6 rfl (by first | assumption | exact hI _ (by omega)) rfl hd_X6_toNextToken ⟨Nat.le_of_ble_eq_true rfl, Nat.le_of_ble_eq_true rfl⟩ rfl (Nat.le_of_ble_eq_true rfl) (V.kkP (fun M3 q3 => ?_))
      refine V.aload_n dX6_firstFault_40 rfl ?_
      refine V.iconst (v := nI 0) dX6_firstFault_41 rfl ?_
      refine V.callV (ci := 5) (T := TX6) (N := 8) dX6_firstFault_42 (p_sum l n 6 (by decide) g M3 _ _ hI q3.1) lkX6_40 im_X6_standsSum se_X6_standsSum cd_X6_standsSum ini_X6 rfl (by first | assumption | exact hI _ (by omega)) rfl hd_X6_standsSum ⟨Nat.le_of_ble_eq_true rfl, Nat.le_of_ble_eq_true rfl⟩ rfl (Nat.le_of_ble_eq_true rfl) (V.kkX (fun M4 q4 => ?_))
      obtain ⟨q4, k4⟩ := q4
      have k5 : keep tx M M4 := (kk.tr (keep10 q3.2)).tr k4
      obtain ⟨⟨w1, w2, w3, w4, w5, w6, w7, w8⟩, w9, w10, w11⟩ := id q4
      generalize hr2 : pSum l n 6 (en l n r.2.1) r.2.2 = r2 at q4 w2 w3 w6 w7 w8 w9 w10 w11
      have s1 := sk_le (l := l) w9
      refine V.if_eqB (tgt := 63) dX6_firstFault_45 (by decide) (fun h6 => ?_) (fun h6 => ?_)
      · refine V.aload_n dX6_firstFault_63 rfl ?_
        refine V.getf (ci := 5) (k := 5) (C := RX6) (T := TX6) (N := 8) dX6_firstFault_64 lfX6_28 inX6 rfl (by first | assumption | exact hI _ (by omega)) rfl (by decide) rfl ?_
        rw [w10]
        refine V.iret dX6_firstFault_67 ?_
        rw [if_neg (by rw [h6]; simp)]
        exact ⟨rfl, ⟨w5, w7, w3, w8⟩, k5⟩
      · refine V.aload_n dX6_firstFault_48 rfl ?_
        refine V.getf (ci := 5) (k := 5) (C := RX6) (T := TX6) (N := 8) dX6_firstFault_49 lfX6_28 inX6 rfl (by first | assumption | exact hI _ (by omega)) rfl (by decide) rfl ?_
        rw [w10]
        refine V.aload_n dX6_firstFault_52 rfl ?_
        refine V.getf (ci := 5) (k := 3) (C := RX6) (T := TX6) (N := 8) dX6_firstFault_53 lfX6_22 inX6 rfl (by first | assumption | exact hI _ (by omega)) rfl (by decide) rfl ?_
        rw [w5]
        refine V.neN (tgt := 63) dX6_firstFault_56 (by decide) (by omega) (by omega) (fun h7 => ?_) (fun h7 => ?_)
        · refine V.aload_n dX6_firstFault_63 rfl ?_
          refine V.getf (ci := 5) (k := 5) (C := RX6) (T := TX6) (N := 8) dX6_firstFault_64 lfX6_28 inX6 rfl (by first | assumption | exact hI _ (by omega)) rfl (by decide) rfl ?_
          rw [w10]
          refine V.iret dX6_firstFault_67 ?_
          rw [if_neg (fun q => h7 q.2)]
          exact ⟨rfl, ⟨w5, w7, w3, w8⟩, k5⟩
        · refine V.iconst (v := -1) dX6_firstFault_59 rfl ?_
          refine V.goto (tgt := 67) dX6_firstFault_60 (by decide) ?_
          refine V.iret dX6_firstFault_67 ?_
          rw [if_pos ⟨h6, h7⟩]
          exact ⟨rfl, ⟨w5, w7, w3, w8⟩, k5⟩
    · refine V.aload_n dX6_firstFault_31 rfl ?_
      refine V.getf (ci := 5) (k := 5) (C := RX6) (T := TX6) (N := 8) dX6_firstFault_32 lfX6_28 inX6 rfl (by first | assumption | exact hI _ (by omega)) rfl (by decide) rfl ?_
      rw [u10]
      refine V.iret dX6_firstFault_35 ?_
      rw [if_neg (fun q => h5 q.2)]
      exact ⟨rfl, ⟨u5, u7, u3, u8⟩, kk⟩

