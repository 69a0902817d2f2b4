theorem m_act_2 {g : Gl} {M : Mem} {x y : Int32} (h : isN x 4 = false) : Ct g yX8_act cX8_act 6 (some .int) 3 [.ref (g.2.2.2.1 142), .int x, .int y] M (fun v M' => v = some (.int (-2)) ∧ M' = M) := by
  refine Ct.ofV (by decide) (Nat.le_of_ble_eq_true rfl) (by simp [Value.category]) (fun κ => ?_)
  refine V.iload_n dX8_act_0 rfl ?_
  refine V.callS dX8_act_1 (c_X8_isRow) lkX8_234 st_X8_isRow cd_X8_isRow ini_X8 hd_X8_isRow ⟨Nat.le_of_ble_eq_true rfl, Nat.le_of_ble_eq_true rfl⟩ rfl (Nat.le_of_ble_eq_true rfl) (V.kkF ?_)
  refine V.if_neB (tgt := 10) dX8_act_4 (by decide) (fun h1 => ?_) (fun h1 => ?_)
  · rw [h1] at h; cases h
  · refine V.bipush (v := -2) dX8_act_7 (by decide) ?_
    refine V.iret dX8_act_9 ?_
    exact ⟨rfl, rfl⟩
theorem m_act_3 {g : Gl} {M : Mem} {r : Nat} {y : Int32} (hr : r < 4) (hz : isN y 3 = false) : Ct g yX8_act cX8_act 6 (some .int) 3 [.ref (g.2.2.2.1 142), .int (nI r), .int y] M (fun v M' => v = some (.int (-3)) ∧ M' = M) := by
  refine Ct.ofV (by decide) (Nat.le_of_ble_eq_true rfl) (by simp [Value.category]) (fun κ => ?_)
  refine V.iload_n dX8_act_0 rfl ?_
  refine V.callS dX8_act_1 (c_X8_isRow) lkX8_234 st_X8_isRow cd_X8_isRow ini_X8 hd_X8_isRow ⟨Nat.le_of_ble_eq_true rfl, Nat.le_of_ble_eq_true rfl⟩ rfl (Nat.le_of_ble_eq_true rfl) (V.kkF ?_)
  rw [isN_nI (by decide) hr]
  refine V.if_neB (tgt := 10) dX8_act_4 (by decide) (fun qr => ?_) (fun qr => ?_)
  · skip
    refine V.iload_n dX8_act_10 rfl ?_
    refine V.iconst (v := nI 0) dX8_act_11 rfl ?_
    refine V.iconst (v := nI 2) dX8_act_12 rfl ?_
    refine V.callS dX8_act_13 (c_X8_in) lkX8_104 st_X8_in cd_X8_in ini_X8 hd_X8_in ⟨Nat.le_of_ble_eq_true rfl, Nat.le_of_ble_eq_true rfl⟩ rfl (Nat.le_of_ble_eq_true rfl) (V.kkF ?_)
    rw [in_isN (by decide)]
    refine V.if_neB (tgt := 22) dX8_act_16 (by decide) (fun h1 => ?_) (fun h1 => ?_)
    · rw [show isN y 3 = isN y (2 + 1) from rfl, h1] at hz; cases hz
    · refine V.bipush (v := -3) dX8_act_19 (by decide) ?_
      refine V.iret dX8_act_21 ?_
      exact ⟨rfl, rfl⟩
  · cases qr
abbrev v_X8_act (g : Gl) (κ : Ka) (Q : State → Prop) (M : Mem) (pc : Nat) (L : List (Option Value)) (st : List Value) : Prop := V g cX8_act 6 yX8_act.cls (some .int) (rmd 3) Q κ M pc L st
theorem m_act {g : Gl} {M : Mem} {A : Ab} {r y : Nat} (hI : ∀ i, 142 ≤ i ∧ i < 174 → i ∈ g.2.2.2.2) (h : Rm A M) (hr : r < 4) (hy : y < 3) : Ct g yX8_act cX8_act 6 (some .int) 3 [.ref (g.2.2.2.1 142), .int (nI r), .int (nI y)] M (fun v M' => v = some (.int (mact (mchS A r y) A.2.2.2.1 0)) ∧ Rm (A.1, A.2.1, A.2.2.1, mact (mchS A r y) A.2.2.2.1, rmb A.2.2.2.1 A.2.2.2.2.1, A.2.2.2.2.2) M' ∧ keep mP M M') := by
  refine Ct.ofV (by decide) (Nat.le_of_ble_eq_true rfl) (by simp [Value.category]) (fun κ => ?_)
  refine V.iload_n dX8_act_0 rfl ?_
  refine V.callS dX8_act_1 (c_X8_isRow) lkX8_234 st_X8_isRow cd_X8_isRow ini_X8 hd_X8_isRow ⟨Nat.le_of_ble_eq_true rfl, Nat.le_of_ble_eq_true rfl⟩ rfl (Nat.le_of_ble_eq_true rfl) (V.kkF ?_)
  rw [isN_nI (by decide) hr]
  refine V.if_neB (tgt := 10) dX8_act_4 (by decide) (fun qr => ?_) (fun qr => ?_)
  · skip
    refine V.iload_n dX8_act_10 rfl ?_
    refine V.iconst (v := nI 0) dX8_act_11 rfl ?_
    refine V.iconst (v := nI 2) dX8_act_12 rfl ?_
    refine V.callS dX8_act_13 (c_X8_in) lkX8_104 st_X8_in cd_X8_in ini_X8 hd_X8_in ⟨Nat.le_of_ble_eq_true rfl, Nat.le_of_ble_eq_true rfl⟩ rfl (Nat.le_of_ble_eq_true rfl) (V.kkF ?_)
    rw [in_isN (by decide), isN_nI (by decide) (show y < 2 + 1 by omega)]
    refine V.if_neB (tgt := 22) dX8_act_16 (by decide) (fun h1 => ?_) (fun h1 => ?_)
    · refine V.aload_n dX8_act_22 rfl ?_
      refine V.callV (ci := 7) (T := TX8) (N := 37) dX8_act_23 (c_X8_laysOne hI) lkX8_241 im_X8_laysOne se_X8_laysOne cd_X8_laysOne ini_X8 rfl (by first | assumption | exact hI _ (by omega)) rfl hd_X8_laysOne ⟨Nat.le_of_ble_eq_true rfl, Nat.le_of_ble_eq_true rfl⟩ rfl (Nat.le_of_ble_eq_true rfl) (V.kkN ?_)
      have main : ∀ M1, keep msr M M1 → eq9 (M1 165) (mchS A r y) → v_X8_act g κ (Qm g κ (fun v M' => v = some (.int (mact (mchS A r y) A.2.2.2.1 0)) ∧ Rm (A.1, A.2.1, A.2.2.1, mact (mchS A r y) A.2.2.2.1, rmb A.2.2.2.1 A.2.2.2.2.1, A.2.2.2.2.2) M' ∧ keep mP M M')) M1 79 [some (.ref (g.2.2.2.1 142)), some (.int (nI r)), some (.int (nI y)), none, none, none] [] := fun M1 k1 e1 => by
        have hr1 := h.ks k1
        refine V.aload_n dX8_act_79 rfl ?_
        refine V.callV (ci := 7) (T := TX8) (N := 37) dX8_act_80 (c_X8_notes hI hr1.2.2.1) lkX8_273 im_X8_notes se_X8_notes cd_X8_notes ini_X8 rfl (by first | assumption | exact hI _ (by omega)) rfl hd_X8_notes ⟨Nat.le_of_ble_eq_true rfl, Nat.le_of_ble_eq_true rfl⟩ rfl (Nat.le_of_ble_eq_true rfl) (V.kkP (fun M2 qn => ?_))
        obtain ⟨kn, sn, hn⟩ := qn
        have hrn : Rm (A.1, A.2.1, A.2.2.1, A.2.2.2.1, rmb A.2.2.2.1 A.2.2.2.2.1, A.2.2.2.2.2) M2 := ⟨⟨hr1.1.1, by rw [sn 8 (by decide)]; exact hr1.1.2.1, by rw [kn 149 (by omega)]; exact hr1.1.2.2⟩, fun r hr => by rw [kn 143 (by omega), kn 144 (by omega)]; exact hr1.2.1 r hr, hn, fun q hq => (hr1.2.2.2 q hq).kp (kn 147 (by omega)) (kn 148 (by omega))⟩
        refine V.iconst (v := nI 0) dX8_act_83 rfl ?_
        refine V.istore_n dX8_act_84 (by decide) ?_
        have eh : eq9 (M2 165) (mchS A r y) := by rw [kn 165 (by omega)]; exact e1
        have lp := up_loop 9 (fun j => ∀ x4 x5, v_X8_act g κ (Qm g κ (fun v M' => v = some (.int (mact (mchS A r y) A.2.2.2.1 0)) ∧ Rm (A.1, A.2.1, A.2.2.1, mact (mchS A r y) A.2.2.2.1, rmb A.2.2.2.1 A.2.2.2.2.1, A.2.2.2.2.2) M' ∧ keep mP M M')) (aset M2 145 0 j (mact (M2 165) (M2 145))) 85 [some (.ref (g.2.2.2.1 142)), some (.int (nI r)), some (.int (nI y)), some (.int (nI j)), x4, x5] []) (fun j hj ih x4 x5 => ?_) 0 (by omega) none none
        · rw [aset_nil (Nat.le_refl 0)] at lp
          exact lp
        · refine V.iload_n dX8_act_85 rfl ?_
          refine V.bipush (v := nI 9) dX8_act_86 (by decide) ?_
          refine V.geN (tgt := 161) dX8_act_88 (by decide) (by omega) (by omega) (fun h2 => ?_) (fun h2 => ?_)
          · have e : j = 9 := by omega
            subst e
            refine V.aload_n dX8_act_161 rfl ?_
            refine V.getf (ci := 7) (k := 2) (C := RX8) (T := TX8) (N := 37) dX8_act_162 lfX8_16 inX8 rfl (by first | assumption | exact hI _ (by omega)) rfl (by decide) rfl ?_
            refine V.iconst (v := nI 0) dX8_act_165 rfl ?_
            refine V.iald (n := 9) dX8_act_166 (by first | assumption | exact hI _ (by omega)) (by first | assumption | decide) (by omega) ?_
            refine V.iret dX8_act_167 ?_
            have ep : eq9 (aset M2 145 0 9 (mact (M2 165) (M2 145)) 145) (mact (mchS A r y) A.2.2.2.1) := aset_9.tr (mact_cg eh hn.1)
            have kk : keep (fun j => msr j ∨ j = 145) M2 (aset M2 145 0 9 (mact (M2 165) (M2 145))) := (keep.rf (P := (fun j => msr j ∨ j = 145))).as (Or.inr rfl)
            exact ⟨congrArg (fun q => some (Value.int q)) (ep 0 (by decide)), hrn.hand kk ep, ((k1.wk (P' := mP) (fun j hj => by unfold mP; unfold msr at hj; omega)).tr (kn.wk (fun j hj => by unfold mP; omega))).tr (kk.wk (fun j hj => by unfold mP; unfold msr at hj; omega))⟩
          · refine V.iconst (v := nI 0) dX8_act_91 rfl ?_
            refine V.istore dX8_act_92 (by decide) ?_
            refine V.iconst (v := nI 0) dX8_act_94 rfl ?_
            refine V.istore dX8_act_95 (by decide) ?_
            have lq := up_loop (9 - j) (fun k => v_X8_act g κ (Qm g κ (fun v M' => v = some (.int (mact (mchS A r y) A.2.2.2.1 0)) ∧ Rm (A.1, A.2.1, A.2.2.1, mact (mchS A r y) A.2.2.2.1, rmb A.2.2.2.1 A.2.2.2.2.1, A.2.2.2.2.2) M' ∧ keep mP M M')) (aset M2 145 0 j (mact (M2 165) (M2 145))) 97 [some (.ref (g.2.2.2.1 142)), some (.int (nI r)), some (.int (nI y)), some (.int (nI j)), some (.int (mac (M2 165) (M2 145) j k)), some (.int (nI k))] []) (fun k hk ik => ?_) 0 (by omega)
            · exact lq
            · refine V.iload_n dX8_act_97 rfl ?_
              refine V.iload dX8_act_98 rfl ?_
              first | refine V.iaddN dX8_act_100 ?_ | refine V.iadd dX8_act_100 ?_
              refine V.bipush (v := nI 9) dX8_act_101 (by decide) ?_
              refine V.geN (tgt := 147) dX8_act_103 (by decide) (by omega) (by omega) (fun h3 => ?_) (fun h3 => ?_)
              · have e : k = 9 - j := by omega
                subst e
                refine V.aload_n dX8_act_147 rfl ?_
                refine V.getf (ci := 7) (k := 2) (C := RX8) (T := TX8) (N := 37) dX8_act_148 lfX8_16 inX8 rfl (by first | assumption | exact hI _ (by omega)) rfl (by decide) rfl ?_
                refine V.iload_n dX8_act_151 rfl ?_
                refine V.iload dX8_act_152 rfl ?_
                refine V.iast (n := 9) dX8_act_154 (by first | assumption | exact hI _ (by omega)) (by first | assumption | decide) (by omega) ?_
                refine V.iincN dX8_act_155 (by decide) rfl ?_
                refine V.goto (tgt := 85) dX8_act_158 (by decide) ?_
                rw [aset_up (f := mact (M2 165) (M2 145)) (hi := j) (x := mac (M2 165) (M2 145) j (9 - j)) (Nat.zero_le _) rfl]
                exact ih h2 _ _
              · refine V.iload dX8_act_106 rfl ?_
                refine V.aload_n dX8_act_108 rfl ?_
                refine V.getf (ci := 7) (k := 28) (C := RX8) (T := TX8) (N := 37) dX8_act_109 lfX8_77 inX8 rfl (by first | assumption | exact hI _ (by omega)) rfl (by decide) rfl ?_
                refine V.iload dX8_act_112 rfl ?_
                refine V.iald (n := 9) dX8_act_114 (by first | assumption | exact hI _ (by omega)) (by first | assumption | decide) (by omega) ?_
                refine V.iload_n dX8_act_115 rfl ?_
                refine V.iload dX8_act_116 rfl ?_
                refine V.callS dX8_act_118 (c_X8_falls (by omega) (by omega)) lkX8_253 st_X8_falls cd_X8_falls ini_X8 hd_X8_falls ⟨Nat.le_of_ble_eq_true rfl, Nat.le_of_ble_eq_true rfl⟩ rfl (Nat.le_of_ble_eq_true rfl) (V.kkF ?_)
                refine V.aload_n dX8_act_121 rfl ?_
                refine V.getf (ci := 7) (k := 2) (C := RX8) (T := TX8) (N := 37) dX8_act_122 lfX8_16 inX8 rfl (by first | assumption | exact hI _ (by omega)) rfl (by decide) rfl ?_
                refine V.iload_n dX8_act_125 rfl ?_
                refine V.iload dX8_act_126 rfl ?_
                first | refine V.iaddN dX8_act_128 ?_ | refine V.iadd dX8_act_128 ?_
                refine V.iald (n := 9) dX8_act_129 (by first | assumption | exact hI _ (by omega)) (by first | assumption | decide) (by omega) ?_
                refine V.callS dX8_act_130 (c_X8_product) lkX8_108 st_X8_product cd_X8_product ini_X8 hd_X8_product ⟨Nat.le_of_ble_eq_true rfl, Nat.le_of_ble_eq_true rfl⟩ rfl (Nat.le_of_ble_eq_true rfl) (V.kkF ?_)
                refine V.callS dX8_act_133 (c_X8_product) lkX8_108 st_X8_product cd_X8_product ini_X8 hd_X8_product ⟨Nat.le_of_ble_eq_true rfl, Nat.le_of_ble_eq_true rfl⟩ rfl (Nat.le_of_ble_eq_true rfl) (V.kkF ?_)
                refine V.callS dX8_act_136 (c_X8_together) lkX8_119 st_X8_together cd_X8_together ini_X8 hd_X8_together ⟨Nat.le_of_ble_eq_true rfl, Nat.le_of_ble_eq_true rfl⟩ rfl (Nat.le_of_ble_eq_true rfl) (V.kkF ?_)
                refine V.istore dX8_act_139 (by decide) ?_
                refine V.iincN dX8_act_141 (by decide) rfl ?_
                refine V.goto (tgt := 97) dX8_act_144 (by decide) ?_
                have e := ik (by omega)
                simp only [mac] at e
                rw [aset_ne (by decide), aset_hi (Nat.le_add_right _ _)]
                exact e
      have hone : aset M 167 0 9 (mono 0 (nI 1)) = aset M 167 0 9 (mono 0 (nI 1)) := rfl
      refine V.iload_n dX8_act_26 rfl ?_
      refine V.iconst (v := nI 1) dX8_act_27 rfl ?_
      refine V.neN (tgt := 38) dX8_act_28 (by decide) (by omega) (by omega) (fun h2 => ?_) (fun h2 => ?_)
      · refine V.aload_n dX8_act_38 rfl ?_
        refine V.getf (ci := 7) (k := 0) (C := RX8) (T := TX8) (N := 37) dX8_act_39 lfX8_7 inX8 rfl (by first | assumption | exact hI _ (by omega)) rfl (by decide) rfl ?_
        refine V.bipush (v := nI 9) dX8_act_42 (by decide) ?_
        refine V.iload_n dX8_act_44 rfl ?_
        first | refine V.imulN dX8_act_45 ?_ | refine V.imul dX8_act_45 ?_
        refine V.aload_n dX8_act_46 rfl ?_
        refine V.getf (ci := 7) (k := 28) (C := RX8) (T := TX8) (N := 37) dX8_act_47 lfX8_77 inX8 rfl (by first | assumption | exact hI _ (by omega)) rfl (by decide) rfl ?_
        refine V.iconst (v := nI 0) dX8_act_50 rfl ?_
        refine V.bipush (v := nI 9) dX8_act_51 (by decide) ?_
        refine V.callS dX8_act_53 (c_X8_bring (a := 143) (i := 9 * r) (b := 165) (na := 36) (nb := 9) (hI _ (by decide)) (hI _ (by decide)) rfl rfl (by omega) (by decide) (Or.inl (by decide))) lkX8_112 st_X8_bring cd_X8_bring ini_X8 hd_X8_bring ⟨Nat.le_of_ble_eq_true rfl, Nat.le_of_ble_eq_true rfl⟩ rfl (Nat.le_of_ble_eq_true rfl) (V.kkN ?_)
        refine V.iload_n dX8_act_56 rfl ?_
        refine V.iconst (v := nI 2) dX8_act_57 rfl ?_
        have k1 : keep msr M (brg (aset M 167 0 9 (mono 0 (nI 1))) 143 (9 * r) 165 0 9) := ((keep.rf (P := msr)).as (by unfold msr; omega)).br (by unfold msr; omega)
        have e1 : eq9 (brg (aset M 167 0 9 (mono 0 (nI 1))) 143 (9 * r) 165 0 9 165) (A.2.1 r) := brg_0.tr (by rw [aset_ne (by decide)]; exact h.g hr)
        refine V.neN (tgt := 79) dX8_act_58 (by decide) (by omega) (by omega) (fun h3 => ?_) (fun h3 => ?_)
        · have e : y = 0 := by omega
          subst e
          exact main _ k1 e1
        · subst h3
          refine V.aload_n dX8_act_61 rfl ?_
          refine V.aload_n dX8_act_62 rfl ?_
          refine V.getf (ci := 7) (k := 30) (C := RX8) (T := TX8) (N := 37) dX8_act_63 lfX8_83 inX8 rfl (by first | assumption | exact hI _ (by omega)) rfl (by decide) rfl ?_
          refine V.iconst (v := nI 0) dX8_act_66 rfl ?_
          refine V.aload_n dX8_act_67 rfl ?_
          refine V.getf (ci := 7) (k := 28) (C := RX8) (T := TX8) (N := 37) dX8_act_68 lfX8_77 inX8 rfl (by first | assumption | exact hI _ (by omega)) rfl (by decide) rfl ?_
          refine V.iconst (v := nI 0) dX8_act_71 rfl ?_
          refine V.aload_n dX8_act_72 rfl ?_
          refine V.getf (ci := 7) (k := 28) (C := RX8) (T := TX8) (N := 37) dX8_act_73 lfX8_77 inX8 rfl (by first | assumption | exact hI _ (by omega)) rfl (by decide) rfl ?_
          refine V.callV (ci := 7) (T := TX8) (N := 37) dX8_act_76 (c_X8_divides (a := 167) (i := 0) (b := 165) (j := 0) (c := 165) (na := 9) (nb := 9) hI (hI _ (by decide)) rfl (by decide) (hI _ (by decide)) rfl (by decide) (hI _ (by decide)) rfl (by decide) (by decide)) lkX8_158 im_X8_divides se_X8_divides cd_X8_divides ini_X8 rfl (by first | assumption | exact hI _ (by omega)) rfl hd_X8_divides ⟨Nat.le_of_ble_eq_true rfl, Nat.le_of_ble_eq_true rfl⟩ rfl (Nat.le_of_ble_eq_true rfl) (V.kkN ?_)
          refine main _ ((k1.as (by unfold msr; omega)).as (by unfold msr; omega)) (aset_9.tr (mdiv_cg ?_ ?_))
          · rw [sl_0, brg_ne (by decide)]; exact aset_9
          · rw [sl_0]; exact e1
      · subst h2
        refine V.aload_n dX8_act_31 rfl ?_
        refine V.getf (ci := 7) (k := 1) (C := RX8) (T := TX8) (N := 37) dX8_act_32 lfX8_13 inX8 rfl (by first | assumption | exact hI _ (by omega)) rfl (by decide) rfl ?_
        refine V.goto (tgt := 42) dX8_act_35 (by decide) ?_
        refine V.bipush (v := nI 9) dX8_act_42 (by decide) ?_
        refine V.iload_n dX8_act_44 rfl ?_
        first | refine V.imulN dX8_act_45 ?_ | refine V.imul dX8_act_45 ?_
        refine V.aload_n dX8_act_46 rfl ?_
        refine V.getf (ci := 7) (k := 28) (C := RX8) (T := TX8) (N := 37) dX8_act_47 lfX8_77 inX8 rfl (by first | assumption | exact hI _ (by omega)) rfl (by decide) rfl ?_
        refine V.iconst (v := nI 0) dX8_act_50 rfl ?_
        refine V.bipush (v := nI 9) dX8_act_51 (by decide) ?_
        refine V.callS dX8_act_53 (c_X8_bring (a := 144) (i := 9 * r) (b := 165) (na := 36) (nb := 9) (hI _ (by decide)) (hI _ (by decide)) rfl rfl (by omega) (by decide) (Or.inl (by decide))) lkX8_112 st_X8_bring cd_X8_bring ini_X8 hd_X8_bring ⟨Nat.le_of_ble_eq_true rfl, Nat.le_of_ble_eq_true rfl⟩ rfl (Nat.le_of_ble_eq_true rfl) (V.kkN ?_)
        refine V.iload_n dX8_act_56 rfl ?_
        refine V.iconst (v := nI 2) dX8_act_57 rfl ?_
        refine V.neN (tgt := 79) dX8_act_58 (by decide) (by omega) (by omega) (fun h3 => ?_) (fun h3 => ?_)
        · exact main _ (((keep.rf (P := msr)).as (by unfold msr; omega)).br (by unfold msr; omega)) (brg_0.tr (by rw [aset_ne (by decide)]; exact h.f hr))
        · omega
    · cases h1
  · cases qr
theorem m_raise_2 {g : Gl} {M : Mem} {x : Int32} (h : isN x 4 = false) : Ct g yX8_raise cX8_raise 2 (some .int) 3 [.ref (g.2.2.2.1 142), .int x] M (fun v M' => v = some (.int (-2)) ∧ M' = M) := by
  refine Ct.ofV (by decide) (Nat.le_of_ble_eq_true rfl) (by simp [Value.category]) (fun κ => ?_)
  refine V.iload_n dX8_raise_0 rfl ?_
  refine V.callS dX8_raise_1 (c_X8_isRow) lkX8_234 st_X8_isRow cd_X8_isRow ini_X8 hd_X8_isRow ⟨Nat.le_of_ble_eq_true rfl, Nat.le_of_ble_eq_true rfl⟩ rfl (Nat.le_of_ble_eq_true rfl) (V.kkF ?_)
  refine V.if_neB (tgt := 10) dX8_raise_4 (by decide) (fun h1 => ?_) (fun h1 => ?_)
  · rw [h1] at h; cases h
  · refine V.bipush (v := -2) dX8_raise_7 (by decide) ?_
    refine V.iret dX8_raise_9 ?_
    exact ⟨rfl, rfl⟩
theorem m_raise_4 {g : Gl} {M : Mem} {A : Ab} {r : Nat} (hI : ∀ i, 142 ≤ i ∧ i < 174 → i ∈ g.2.2.2.2) (h : Rm A M) (hr : r < 4) (hp : A.2.2.2.1 8 ≠ 0) : Ct g yX8_raise cX8_raise 2 (some .int) 3 [.ref (g.2.2.2.1 142), .int (nI r)] M (fun v M' => v = some (.int (-4)) ∧ Rm A M' ∧ keep mP M M') := by
  refine Ct.ofV (by decide) (Nat.le_of_ble_eq_true rfl) (by simp [Value.category]) (fun κ => ?_)
  refine V.iload_n dX8_raise_0 rfl ?_
  refine V.callS dX8_raise_1 (c_X8_isRow) lkX8_234 st_X8_isRow cd_X8_isRow ini_X8 hd_X8_isRow ⟨Nat.le_of_ble_eq_true rfl, Nat.le_of_ble_eq_true rfl⟩ rfl (Nat.le_of_ble_eq_true rfl) (V.kkF ?_)
  rw [isN_nI (by decide) hr]
  refine V.if_neB (tgt := 10) dX8_raise_4 (by decide) (fun qr => ?_) (fun qr => ?_)
  · skip
    refine V.aload_n dX8_raise_10 rfl ?_
    refine V.getf (ci := 7) (k := 2) (C := RX8) (T := TX8) (N := 37) dX8_raise_11 lfX8_16 inX8 rfl (by first | assumption | exact hI _ (by omega)) rfl (by decide) rfl ?_
    refine V.bipush (v := nI 8) dX8_raise_14 (by decide) ?_
    refine V.iald (n := 9) dX8_raise_16 (by first | assumption | exact hI _ (by omega)) (by first | assumption | decide) (by omega) ?_
    refine V.if_eq (tgt := 23) dX8_raise_17 (by decide) (fun h1 => ?_) (fun h1 => ?_)
    · exact absurd (by rw [← h.2.2.1.1 8 (by decide)]; exact h1) hp
    · refine V.bipush (v := -4) dX8_raise_20 (by decide) ?_
      refine V.iret dX8_raise_22 ?_
      exact ⟨rfl, h, keep.rf⟩
  · cases qr
theorem m_raise {g : Gl} {M : Mem} {A : Ab} {r : Nat} (hI : ∀ i, 142 ≤ i ∧ i < 174 → i ∈ g.2.2.2.2) (h : Rm A M) (hr : r < 4) (hp : A.2.2.2.1 8 = 0) : Ct g yX8_raise cX8_raise 2 (some .int) 3 [.ref (g.2.2.2.1 142), .int (nI r)] M (fun v M' => v = some (.int (horn (mraise (A.2.2.1 r) A.2.2.2.1) (nI 1) 9)) ∧ Rm (A.1, A.2.1, A.2.2.1, mraise (A.2.2.1 r) A.2.2.2.1, rmb A.2.2.2.1 A.2.2.2.2.1, A.2.2.2.2.2) M' ∧ keep mP M M') := by
  refine Ct.ofV (by decide) (Nat.le_of_ble_eq_true rfl) (by simp [Value.category]) (fun κ => ?_)
  refine V.iload_n dX8_raise_0 rfl ?_
  refine V.callS dX8_raise_1 (c_X8_isRow) lkX8_234 st_X8_isRow cd_X8_isRow ini_X8 hd_X8_isRow ⟨Nat.le_of_ble_eq_true rfl, Nat.le_of_ble_eq_true rfl⟩ rfl (Nat.le_of_ble_eq_true rfl) (V.kkF ?_)
  rw [isN_nI (by decide) hr]
  refine V.if_neB (tgt := 10) dX8_raise_4 (by decide) (fun qr => ?_) (fun qr => ?_)
  · skip
    refine V.aload_n dX8_raise_10 rfl ?_
    refine V.getf (ci := 7) (k := 2) (C := RX8) (T := TX8) (N := 37) dX8_raise_11 lfX8_16 inX8 rfl (by first | assumption | exact hI _ (by omega)) rfl (by decide) rfl ?_
    refine V.bipush (v := nI 8) dX8_raise_14 (by decide) ?_
    refine V.iald (n := 9) dX8_raise_16 (by first | assumption | exact hI _ (by omega)) (by first | assumption | decide) (by omega) ?_
    refine V.if_eq (tgt := 23) dX8_raise_17 (by decide) (fun h1 => ?_) (fun h1 => ?_)
    · skip
      refine V.aload_n dX8_raise_23 rfl ?_
      refine V.callV (ci := 7) (T := TX8) (N := 37) dX8_raise_24 (c_X8_notes hI h.2.2.1) lkX8_273 im_X8_notes se_X8_notes cd_X8_notes ini_X8 rfl (by first | assumption | exact hI _ (by omega)) rfl hd_X8_notes ⟨Nat.le_of_ble_eq_true rfl, Nat.le_of_ble_eq_true rfl⟩ rfl (Nat.le_of_ble_eq_true rfl) (V.kkP (fun M2 qn => ?_))
      obtain ⟨kn, sn, hn⟩ := qn
      have hrn : Rm (A.1, A.2.1, A.2.2.1, A.2.2.2.1, rmb A.2.2.2.1 A.2.2.2.2.1, A.2.2.2.2.2) M2 := ⟨⟨h.1.1, by rw [sn 8 (by decide)]; exact h.1.2.1, by rw [kn 149 (by omega)]; exact h.1.2.2⟩, fun r hr => by rw [kn 143 (by omega), kn 144 (by omega)]; exact h.2.1 r hr, hn, fun q hq => (h.2.2.2 q hq).kp (kn 147 (by omega)) (kn 148 (by omega))⟩
      refine V.aload_n dX8_raise_27 rfl ?_
      refine V.iload_n dX8_raise_28 rfl ?_
      refine V.aload_n dX8_raise_29 rfl ?_
      refine V.getf (ci := 7) (k := 2) (C := RX8) (T := TX8) (N := 37) dX8_raise_30 lfX8_16 inX8 rfl (by first | assumption | exact hI _ (by omega)) rfl (by decide) rfl ?_
      refine V.aload_n dX8_raise_33 rfl ?_
      refine V.getf (ci := 7) (k := 34) (C := RX8) (T := TX8) (N := 37) dX8_raise_34 lfX8_95 inX8 rfl (by first | assumption | exact hI _ (by omega)) rfl (by decide) rfl ?_
      refine V.callV (ci := 7) (T := TX8) (N := 37) dX8_raise_37 (c_X8_solves (d := 145) hI hr (hI _ (by decide)) rfl (by decide)) lkX8_256 im_X8_solves se_X8_solves cd_X8_solves ini_X8 rfl (by first | assumption | exact hI _ (by omega)) rfl hd_X8_solves ⟨Nat.le_of_ble_eq_true rfl, Nat.le_of_ble_eq_true rfl⟩ rfl (Nat.le_of_ble_eq_true rfl) (V.kkP (fun M3 q3 => ?_))
      obtain ⟨k3, f3, -⟩ := q3
      refine V.aload_n dX8_raise_40 rfl ?_
      refine V.getf (ci := 7) (k := 34) (C := RX8) (T := TX8) (N := 37) dX8_raise_41 lfX8_95 inX8 rfl (by first | assumption | exact hI _ (by omega)) rfl (by decide) rfl ?_
      refine V.iconst (v := nI 1) dX8_raise_44 rfl ?_
      refine V.aload_n dX8_raise_45 rfl ?_
      refine V.getf (ci := 7) (k := 2) (C := RX8) (T := TX8) (N := 37) dX8_raise_46 lfX8_16 inX8 rfl (by first | assumption | exact hI _ (by omega)) rfl (by decide) rfl ?_
      refine V.iconst (v := nI 1) dX8_raise_49 rfl ?_
      refine V.bipush (v := nI 8) dX8_raise_50 (by decide) ?_
      refine V.callS dX8_raise_52 (c_X8_bring (a := 171) (i := 1) (b := 145) (j := 1) (n := 8) (na := 9) (nb := 9) (hI _ (by decide)) (hI _ (by decide)) rfl rfl (by decide) (by decide) (Or.inl (by decide))) lkX8_112 st_X8_bring cd_X8_bring ini_X8 hd_X8_bring ⟨Nat.le_of_ble_eq_true rfl, Nat.le_of_ble_eq_true rfl⟩ rfl (Nat.le_of_ble_eq_true rfl) (V.kkN ?_)
      refine V.aload_n dX8_raise_55 rfl ?_
      refine V.getf (ci := 7) (k := 2) (C := RX8) (T := TX8) (N := 37) dX8_raise_56 lfX8_16 inX8 rfl (by first | assumption | exact hI _ (by omega)) rfl (by decide) rfl ?_
      refine V.iconst (v := nI 0) dX8_raise_59 rfl ?_
      refine V.iconst (v := nI 0) dX8_raise_60 rfl ?_
      refine V.iast (n := 9) dX8_raise_61 (by first | assumption | exact hI _ (by omega)) (by first | assumption | decide) (by omega) ?_
      refine V.aload_n dX8_raise_62 rfl ?_
      refine V.getf (ci := 7) (k := 2) (C := RX8) (T := TX8) (N := 37) dX8_raise_63 lfX8_16 inX8 rfl (by first | assumption | exact hI _ (by omega)) rfl (by decide) rfl ?_
      refine V.iconst (v := nI 0) dX8_raise_66 rfl ?_
      refine V.iconst (v := nI 1) dX8_raise_67 rfl ?_
      refine V.callS dX8_raise_68 (c_X8_valueOf (a := 145) (i := 0) (na := 9) (hI _ (by decide)) rfl (by decide)) lkX8_263 st_X8_valueOf cd_X8_valueOf ini_X8 hd_X8_valueOf ⟨Nat.le_of_ble_eq_true rfl, Nat.le_of_ble_eq_true rfl⟩ rfl (Nat.le_of_ble_eq_true rfl) (V.kkF ?_)
      refine V.iret dX8_raise_71 ?_
      have ep : eq9 (mset (brg M3 171 1 145 1 8) 145 0 (nI 0) 145) (mraise (A.2.2.1 r) A.2.2.2.1) := fun k hk => by
        rw [mset_self]; unfold upd mraise
        by_cases e : k = 0
        · rw [if_pos e, if_pos e]
        · rw [if_neg e, if_neg e]
          obtain ⟨j, rfl⟩ : ∃ j, k = 1 + j := ⟨k - 1, by omega⟩
          rw [brg_in (by omega), f3 (1 + j) (by omega) hk]
          unfold msolve
          rw [msv_cg (f := sl (M2 144) (9 * r)) (f' := A.2.2.1 r) (by rw [kn 144 (by omega)]; exact h.f hr) hn.1 8 (Nat.le_refl _)]
      have kk : keep (fun j => msr j ∨ j = 145) M2 (mset (brg M3 171 1 145 1 8) 145 0 (nI 0)) := ((k3.wk (fun j hj => by unfold msr; omega)).br (Or.inr rfl)).ms (Or.inr rfl)
      exact ⟨by rw [sl_0, horn_cg ep 9 (by decide)], hrn.hand kk ep, ((keep.rf (P := mP)).tr (kn.wk (fun j hj => by unfold mP; omega))).tr (kk.wk (fun j hj => by unfold mP; unfold msr at hj; omega))⟩
    · exact absurd (by rw [h.2.2.1.1 8 (by decide)]; exact hp) h1
  · cases qr
theorem m_shift_3 {g : Gl} {M : Mem} {x : Int32} (hz : isN x 9973 = false) : Ct g yX8_shift cX8_shift 4 (some .int) 2 [.ref (g.2.2.2.1 142), .int x] M (fun v M' => v = some (.int (-3)) ∧ M' = M) := by
  refine Ct.ofV (by decide) (Nat.le_of_ble_eq_true rfl) (by simp [Value.category]) (fun κ => ?_)
  refine V.iload_n dX8_shift_0 rfl ?_
  refine V.callS dX8_shift_1 (c_X8_isNumber) lkX8_247 st_X8_isNumber cd_X8_isNumber ini_X8 hd_X8_isNumber ⟨Nat.le_of_ble_eq_true rfl, Nat.le_of_ble_eq_true rfl⟩ rfl (Nat.le_of_ble_eq_true rfl) (V.kkF ?_)
  rw [hz]
  refine V.if_neB (tgt := 10) dX8_shift_4 (by decide) (fun h1 => ?_) (fun h1 => ?_)
  · cases h1
  · refine V.bipush (v := -3) dX8_shift_7 (by decide) ?_
    refine V.iret dX8_shift_9 ?_
    exact ⟨rfl, rfl⟩
abbrev v_X8_shift (g : Gl) (κ : Ka) (Q : State → Prop) (M : Mem) (pc : Nat) (L : List (Option Value)) (st : List Value) : Prop := V g cX8_shift 4 yX8_shift.cls (some .int) (rmd 2) Q κ M pc L st
theorem m_shift {g : Gl} {M : Mem} {A : Ab} {x : Nat} (hI : ∀ i, 142 ≤ i ∧ i < 174 → i ∈ g.2.2.2.2) (h : Rm A M) (hx : x < 9973) : Ct g yX8_shift cX8_shift 4 (some .int) 2 [.ref (g.2.2.2.1 142), .int (nI x)] M (fun v M' => v = some (.int (mshift (nI x) A.2.2.2.1 0)) ∧ Rm (A.1, A.2.1, A.2.2.1, mshift (nI x) A.2.2.2.1, rmb A.2.2.2.1 A.2.2.2.2.1, A.2.2.2.2.2) M' ∧ keep mP M M') := by
  refine Ct.ofV (by decide) (Nat.le_of_ble_eq_true rfl) (by simp [Value.category]) (fun κ => ?_)
  refine V.iload_n dX8_shift_0 rfl ?_
  refine V.callS dX8_shift_1 (c_X8_isNumber) lkX8_247 st_X8_isNumber cd_X8_isNumber ini_X8 hd_X8_isNumber ⟨Nat.le_of_ble_eq_true rfl, Nat.le_of_ble_eq_true rfl⟩ rfl (Nat.le_of_ble_eq_true rfl) (V.kkF ?_)
  rw [isN_nI (by decide) hx]
  refine V.if_neB (tgt := 10) dX8_shift_4 (by decide) (fun h1 => ?_) (fun h1 => ?_)
  · refine V.aload_n dX8_shift_10 rfl ?_
    refine V.callV (ci := 7) (T := TX8) (N := 37) dX8_shift_11 (c_X8_notes hI h.2.2.1) lkX8_273 im_X8_notes se_X8_notes cd_X8_notes ini_X8 rfl (by first | assumption | exact hI _ (by omega)) rfl hd_X8_notes ⟨Nat.le_of_ble_eq_true rfl, Nat.le_of_ble_eq_true rfl⟩ rfl (Nat.le_of_ble_eq_true rfl) (V.kkP (fun M2 qn => ?_))
    obtain ⟨kn, sn, hn⟩ := qn
    have hrn : Rm (A.1, A.2.1, A.2.2.1, A.2.2.2.1, rmb A.2.2.2.1 A.2.2.2.2.1, A.2.2.2.2.2) M2 := ⟨⟨h.1.1, by rw [sn 8 (by decide)]; exact h.1.2.1, by rw [kn 149 (by omega)]; exact h.1.2.2⟩, fun r hr => by rw [kn 143 (by omega), kn 144 (by omega)]; exact h.2.1 r hr, hn, fun q hq => (h.2.2.2 q hq).kp (kn 147 (by omega)) (kn 148 (by omega))⟩
    refine V.iconst (v := nI 0) dX8_shift_14 rfl ?_
    refine V.istore_n dX8_shift_15 (by decide) ?_
    have lp := up_loop 9 (fun k => ∀ x3 M3, keep (fun j => j = 145) M2 M3 → eq9 (M3 145) (mshf (nI x) A.2.2.2.1 k) → v_X8_shift g κ (Qm g κ (fun v M' => v = some (.int (mshift (nI x) A.2.2.2.1 0)) ∧ Rm (A.1, A.2.1, A.2.2.1, mshift (nI x) A.2.2.2.1, rmb A.2.2.2.1 A.2.2.2.2.1, A.2.2.2.2.2) M' ∧ keep mP M M')) M3 16 [some (.ref (g.2.2.2.1 142)), some (.int (nI x)), some (.int (nI k)), x3] []) (fun k hk ih x3 M3 k3 e3 => ?_) 0 (by omega) none M2 keep.rf hn.1
    · exact lp
    · refine V.iload_n dX8_shift_16 rfl ?_
      refine V.bipush (v := nI 9) dX8_shift_17 (by decide) ?_
      refine V.geN (tgt := 69) dX8_shift_19 (by decide) (by omega) (by omega) (fun h2 => ?_) (fun h2 => ?_)
      · have e : k = 9 := by omega
        subst e
        refine V.aload_n dX8_shift_69 rfl ?_
        refine V.getf (ci := 7) (k := 2) (C := RX8) (T := TX8) (N := 37) dX8_shift_70 lfX8_16 inX8 rfl (by first | assumption | exact hI _ (by omega)) rfl (by decide) rfl ?_
        refine V.iconst (v := nI 0) dX8_shift_73 rfl ?_
        refine V.iald (n := 9) dX8_shift_74 (by first | assumption | exact hI _ (by omega)) (by first | assumption | decide) (by omega) ?_
        refine V.iret dX8_shift_75 ?_
        have ep : eq9 (M3 145) (mshift (nI x) A.2.2.2.1) := e3
        have kk : keep (fun j => msr j ∨ j = 145) M2 M3 := k3.wk (fun j hj => Or.inr hj)
        exact ⟨congrArg (fun q => some (Value.int q)) (ep 0 (by decide)), hrn.hand kk ep, ((keep.rf (P := mP)).tr (kn.wk (fun j hj => by unfold mP; omega))).tr (kk.wk (fun j hj => by unfold mP; unfold msr at hj; omega))⟩
      · refine V.bipush (v := nI 7) dX8_shift_22 (by decide) ?_
        refine V.istore_n dX8_shift_24 (by decide) ?_
        have out : ∀ x3, v_X8_shift g κ (Qm g κ (fun v M' => v = some (.int (mshift (nI x) A.2.2.2.1 0)) ∧ Rm (A.1, A.2.1, A.2.2.1, mshift (nI x) A.2.2.2.1, rmb A.2.2.2.1 A.2.2.2.2.1, A.2.2.2.2.2) M' ∧ keep mP M M')) (aset M3 145 k 8 (fun u => mpv (nI x) (M3 145) (8 - u))) 63 [some (.ref (g.2.2.2.1 142)), some (.int (nI x)), some (.int (nI k)), x3] [] := fun x3 => by
          refine V.iincN dX8_shift_63 (by decide) rfl ?_
          refine V.goto (tgt := 16) dX8_shift_66 (by decide) ?_
          refine ih h2 _ _ (k3.as rfl) (fun u hu => ?_)
          simp only [mshf]
          by_cases e : u < k
          · rw [if_pos e, aset_lo e]; exact e3 u hu
          · rw [if_neg e, ← mpv_cg e3]
            by_cases e8 : u < 8
            · rw [aset_in (by omega) e8]
            · have : u = 8 := by omega
              subst this
              rw [aset_out (Or.inr (Nat.le_refl _))]; rfl
        have lq := dn_loop (fun t => t ≤ 8 → k ≤ t → v_X8_shift g κ (Qm g κ (fun v M' => v = some (.int (mshift (nI x) A.2.2.2.1 0)) ∧ Rm (A.1, A.2.1, A.2.2.1, mshift (nI x) A.2.2.2.1, rmb A.2.2.2.1 A.2.2.2.2.1, A.2.2.2.2.2) M' ∧ keep mP M M')) (aset M3 145 t 8 (fun u => mpv (nI x) (M3 145) (8 - u))) 25 [some (.ref (g.2.2.2.1 142)), some (.int (nI x)), some (.int (nI k)), some (.int (nI t - 1))] []) (fun t it ht hkt => ?_) 8 (by omega) (by omega)
        · rw [aset_nil (Nat.le_refl 8)] at lq
          exact lq
        · cases t with
          | zero =>
            have e : k = 0 := by omega
            subst e
            refine V.iload_n dX8_shift_25 rfl ?_
            refine V.iload_n dX8_shift_26 rfl ?_
            refine V.icmp_lt (tgt := 63) dX8_shift_27 (by decide) (fun h4 => ?_) (fun h4 => ?_)
            · exact out _
            · exact absurd (by decide) h4
          | succ s =>
            rw [nI_pred]
            refine V.iload_n dX8_shift_25 rfl ?_
            refine V.iload_n dX8_shift_26 rfl ?_
            refine V.ltN (tgt := 63) dX8_shift_27 (by decide) (by omega) (by omega) (fun h4 => ?_) (fun h4 => ?_)
            · have e : k = s + 1 := by omega
              subst e
              exact out _
            · refine V.aload_n dX8_shift_30 rfl ?_
              refine V.getf (ci := 7) (k := 2) (C := RX8) (T := TX8) (N := 37) dX8_shift_31 lfX8_16 inX8 rfl (by first | assumption | exact hI _ (by omega)) rfl (by decide) rfl ?_
              refine V.iload_n dX8_shift_34 rfl ?_
              refine V.aload_n dX8_shift_35 rfl ?_
              refine V.getf (ci := 7) (k := 2) (C := RX8) (T := TX8) (N := 37) dX8_shift_36 lfX8_16 inX8 rfl (by first | assumption | exact hI _ (by omega)) rfl (by decide) rfl ?_
              refine V.iload_n dX8_shift_39 rfl ?_
              refine V.iald (n := 9) dX8_shift_40 (by first | assumption | exact hI _ (by omega)) (by first | assumption | decide) (by omega) ?_
              refine V.iload_n dX8_shift_41 rfl ?_
              refine V.aload_n dX8_shift_42 rfl ?_
              refine V.getf (ci := 7) (k := 2) (C := RX8) (T := TX8) (N := 37) dX8_shift_43 lfX8_16 inX8 rfl (by first | assumption | exact hI _ (by omega)) rfl (by decide) rfl ?_
              refine V.iload_n dX8_shift_46 rfl ?_
              refine V.iconst (v := nI 1) dX8_shift_47 rfl ?_
              first | refine V.iaddN dX8_shift_48 ?_ | refine V.iadd dX8_shift_48 ?_
              refine V.iald (n := 9) dX8_shift_49 (by first | assumption | exact hI _ (by omega)) (by first | assumption | decide) (by omega) ?_
              refine V.callS dX8_shift_50 (c_X8_product) lkX8_108 st_X8_product cd_X8_product ini_X8 hd_X8_product ⟨Nat.le_of_ble_eq_true rfl, Nat.le_of_ble_eq_true rfl⟩ rfl (Nat.le_of_ble_eq_true rfl) (V.kkF ?_)
              refine V.callS dX8_shift_53 (c_X8_together) lkX8_119 st_X8_together cd_X8_together ini_X8 hd_X8_together ⟨Nat.le_of_ble_eq_true rfl, Nat.le_of_ble_eq_true rfl⟩ rfl (Nat.le_of_ble_eq_true rfl) (V.kkF ?_)
              refine V.iast (n := 9) dX8_shift_56 (by first | assumption | exact hI _ (by omega)) (by first | assumption | decide) (by omega) ?_
              refine V.iincD dX8_shift_57 (by decide) rfl ?_
              refine V.goto (tgt := 25) dX8_shift_60 (by decide) ?_
              have e1 : aset M3 145 (s + 1) 8 (fun u => mpv (nI x) (M3 145) (8 - u)) 145 (s + 1) = mpv (nI x) (M3 145) (7 - s) := by
                by_cases e8 : s + 1 < 8
                · rw [aset_in (Nat.le_refl _) e8, show 8 - (s + 1) = 7 - s by omega]
                · have : s = 7 := by omega
                  subst this
                  rw [aset_nil (Nat.le_refl _)]; rfl
              rw [e1, aset_lo (Nat.lt_succ_self s), aset_dn (f := fun u => mpv (nI x) (M3 145) (8 - u)) (by omega) (by
                rw [show 8 - s = (7 - s) + 1 by omega]
                simp only [mpv]
                rw [show 7 - (7 - s) = s by omega])]
              exact it s rfl (by omega) (by omega)
  · cases h1
theorem m_times_4 {g : Gl} {M : Mem} {A : Ab}  (hI : ∀ i, 142 ≤ i ∧ i < 174 → i ∈ g.2.2.2.2) (h : Rm A M)  (hp : A.2.2.2.1 8 ≠ 0) : Ct g yX8_times cX8_times 2 (some .int) 2 [.ref (g.2.2.2.1 142)] M (fun v M' => v = some (.int (-4)) ∧ Rm A M' ∧ keep mP M M') := by
  refine Ct.ofV (by decide) (Nat.le_of_ble_eq_true rfl) (by simp [Value.category]) (fun κ => ?_)
  refine V.aload_n dX8_times_0 rfl ?_
  refine V.getf (ci := 7) (k := 2) (C := RX8) (T := TX8) (N := 37) dX8_times_1 lfX8_16 inX8 rfl (by first | assumption | exact hI _ (by omega)) rfl (by decide) rfl ?_
  refine V.bipush (v := nI 8) dX8_times_4 (by decide) ?_
  refine V.iald (n := 9) dX8_times_6 (by first | assumption | exact hI _ (by omega)) (by first | assumption | decide) (by omega) ?_
  refine V.if_eq (tgt := 13) dX8_times_7 (by decide) (fun h1 => ?_) (fun h1 => ?_)
  · exact absurd (by rw [← h.2.2.1.1 8 (by decide)]; exact h1) hp
  · refine V.bipush (v := -4) dX8_times_10 (by decide) ?_
    refine V.iret dX8_times_12 ?_
    exact ⟨rfl, h, keep.rf⟩
abbrev v_X8_times (g : Gl) (κ : Ka) (Q : State → Prop) (M : Mem) (pc : Nat) (L : List (Option Value)) (st : List Value) : Prop := V g cX8_times 2 yX8_times.cls (some .int) (rmd 2) Q κ M pc L st
theorem m_times {g : Gl} {M : Mem} {A : Ab}  (hI : ∀ i, 142 ≤ i ∧ i < 174 → i ∈ g.2.2.2.2) (h : Rm A M) (hp : A.2.2.2.1 8 = 0) : Ct g yX8_times cX8_times 2 (some .int) 2 [.ref (g.2.2.2.1 142)] M (fun v M' => v = some (.int (horn (fup A.2.2.2.1) (nI 1) 9)) ∧ Rm (A.1, A.2.1, A.2.2.1, fup A.2.2.2.1, rmb A.2.2.2.1 A.2.2.2.2.1, A.2.2.2.2.2) M' ∧ keep mP M M') := by
  refine Ct.ofV (by decide) (Nat.le_of_ble_eq_true rfl) (by simp [Value.category]) (fun κ => ?_)
  refine V.aload_n dX8_times_0 rfl ?_
  refine V.getf (ci := 7) (k := 2) (C := RX8) (T := TX8) (N := 37) dX8_times_1 lfX8_16 inX8 rfl (by first | assumption | exact hI _ (by omega)) rfl (by decide) rfl ?_
  refine V.bipush (v := nI 8) dX8_times_4 (by decide) ?_
  refine V.iald (n := 9) dX8_times_6 (by first | assumption | exact hI _ (by omega)) (by first | assumption | decide) (by omega) ?_
  refine V.if_eq (tgt := 13) dX8_times_7 (by decide) (fun h1 => ?_) (fun h1 => ?_)
  · skip
    refine V.aload_n dX8_times_13 rfl ?_
    refine V.callV (ci := 7) (T := TX8) (N := 37) dX8_times_14 (c_X8_notes hI h.2.2.1) lkX8_273 im_X8_notes se_X8_notes cd_X8_notes ini_X8 rfl (by first | assumption | exact hI _ (by omega)) rfl hd_X8_notes ⟨Nat.le_of_ble_eq_true rfl, Nat.le_of_ble_eq_true rfl⟩ rfl (Nat.le_of_ble_eq_true rfl) (V.kkP (fun M2 qn => ?_))
    obtain ⟨kn, sn, hn⟩ := qn
    have hrn : Rm (A.1, A.2.1, A.2.2.1, A.2.2.2.1, rmb A.2.2.2.1 A.2.2.2.2.1, A.2.2.2.2.2) M2 := ⟨⟨h.1.1, by rw [sn 8 (by decide)]; exact h.1.2.1, by rw [kn 149 (by omega)]; exact h.1.2.2⟩, fun r hr => by rw [kn 143 (by omega), kn 144 (by omega)]; exact h.2.1 r hr, hn, fun q hq => (h.2.2.2 q hq).kp (kn 147 (by omega)) (kn 148 (by omega))⟩
    refine V.bipush (v := nI 8) dX8_times_17 (by decide) ?_
    refine V.istore_n dX8_times_19 (by decide) ?_
    have lp := dn_loop (fun k => k ≤ 8 → v_X8_times g κ (Qm g κ (fun v M' => v = some (.int (horn (fup A.2.2.2.1) (nI 1) 9)) ∧ Rm (A.1, A.2.1, A.2.2.1, fup A.2.2.2.1, rmb A.2.2.2.1 A.2.2.2.2.1, A.2.2.2.2.2) M' ∧ keep mP M M')) (aset M2 145 (k + 1) 9 (fup (M2 145))) 20 [some (.ref (g.2.2.2.1 142)), some (.int (nI k))] []) (fun k ih hk => ?_) 8 (by omega)
    · rw [aset_nil (Nat.le_refl 9)] at lp
      exact lp
    · refine V.iload_n dX8_times_20 rfl ?_
      refine V.if_leD (tgt := 44) dX8_times_21 (by decide) (by omega) (fun h2 => ?_) (fun j h2 => ?_)
      · subst h2
        refine V.aload_n dX8_times_44 rfl ?_
        refine V.getf (ci := 7) (k := 2) (C := RX8) (T := TX8) (N := 37) dX8_times_45 lfX8_16 inX8 rfl (by first | assumption | exact hI _ (by omega)) rfl (by decide) rfl ?_
        refine V.iconst (v := nI 0) dX8_times_48 rfl ?_
        refine V.iconst (v := nI 0) dX8_times_49 rfl ?_
        refine V.iast (n := 9) dX8_times_50 (by first | assumption | exact hI _ (by omega)) (by first | assumption | decide) (by omega) ?_
        refine V.aload_n dX8_times_51 rfl ?_
        refine V.getf (ci := 7) (k := 2) (C := RX8) (T := TX8) (N := 37) dX8_times_52 lfX8_16 inX8 rfl (by first | assumption | exact hI _ (by omega)) rfl (by decide) rfl ?_
        refine V.iconst (v := nI 0) dX8_times_55 rfl ?_
        refine V.iconst (v := nI 1) dX8_times_56 rfl ?_
        rw [aset_dn (M := M2) (i := 145) (lo := 0) (hi := 9) (f := fup (M2 145)) (x := nI 0) (by decide) rfl]
        refine V.callS dX8_times_57 (c_X8_valueOf (a := 145) (i := 0) (na := 9) (hI _ (by decide)) rfl (by decide)) lkX8_263 st_X8_valueOf cd_X8_valueOf ini_X8 hd_X8_valueOf ⟨Nat.le_of_ble_eq_true rfl, Nat.le_of_ble_eq_true rfl⟩ rfl (Nat.le_of_ble_eq_true rfl) (V.kkF ?_)
        refine V.iret dX8_times_60 ?_
        have ep : eq9 (aset M2 145 0 9 (fup (M2 145)) 145) (fup A.2.2.2.1) := aset_9.tr (fup_cg hn.1)
        have kk : keep (fun j => msr j ∨ j = 145) M2 (aset M2 145 0 9 (fup (M2 145))) := (keep.rf (P := (fun j => msr j ∨ j = 145))).as (Or.inr rfl)
        exact ⟨by rw [sl_0, horn_cg ep 9 (by decide)], hrn.hand kk ep, ((keep.rf (P := mP)).tr (kn.wk (fun j hj => by unfold mP; omega))).tr (kk.wk (fun j hj => by unfold mP; unfold msr at hj; omega))⟩
      · subst h2
        refine V.aload_n dX8_times_24 rfl ?_
        refine V.getf (ci := 7) (k := 2) (C := RX8) (T := TX8) (N := 37) dX8_times_25 lfX8_16 inX8 rfl (by first | assumption | exact hI _ (by omega)) rfl (by decide) rfl ?_
        refine V.iload_n dX8_times_28 rfl ?_
        refine V.aload_n dX8_times_29 rfl ?_
        refine V.getf (ci := 7) (k := 2) (C := RX8) (T := TX8) (N := 37) dX8_times_30 lfX8_16 inX8 rfl (by first | assumption | exact hI _ (by omega)) rfl (by decide) rfl ?_
        refine V.iload_n dX8_times_33 rfl ?_
        refine V.iconst (v := nI 1) dX8_times_34 rfl ?_
        first | refine V.isubN dX8_times_35 (by omega) ?_ | refine V.isub dX8_times_35 ?_
        refine V.iald (n := 9) dX8_times_36 (by first | assumption | exact hI _ (by omega)) (by first | assumption | decide) (by omega) ?_
        refine V.iast (n := 9) dX8_times_37 (by first | assumption | exact hI _ (by omega)) (by first | assumption | decide) (by omega) ?_
        refine V.iincD dX8_times_38 (by decide) rfl ?_
        refine V.goto (tgt := 20) dX8_times_41 (by decide) ?_
        rw [nI_pred, aset_dn (by omega) (by rw [aset_out (Or.inl (by omega))]; simp [fup])]
        exact ih j rfl (by omega)
  · exact absurd (by rw [h.2.2.1.1 8 (by decide)]; exact hp) h1
theorem m_swap_2 {g : Gl} {M : Mem} {x y : Int32} (h : isN x 4 = false ∨ isN y 4 = false) : Ct g yX8_swap cX8_swap 3 (some .int) 4 [.ref (g.2.2.2.1 142), .int x, .int y] M (fun v M' => v = some (.int (-2)) ∧ M' = M) := by
  refine Ct.ofV (by decide) (Nat.le_of_ble_eq_true rfl) (by simp [Value.category]) (fun κ => ?_)
  refine V.iload_n dX8_swap_0 rfl ?_
  refine V.callS dX8_swap_1 (c_X8_isRow) lkX8_234 st_X8_isRow cd_X8_isRow ini_X8 hd_X8_isRow ⟨Nat.le_of_ble_eq_true rfl, Nat.le_of_ble_eq_true rfl⟩ rfl (Nat.le_of_ble_eq_true rfl) (V.kkF ?_)
  refine V.if_eqB (tgt := 14) dX8_swap_4 (by decide) (fun h1 => ?_) (fun h1 => ?_)
  · refine V.bipush (v := -2) dX8_swap_14 (by decide) ?_
    refine V.iret dX8_swap_16 ?_
    exact ⟨rfl, rfl⟩
  · skip
    refine V.iload_n dX8_swap_7 rfl ?_
    refine V.callS dX8_swap_8 (c_X8_isRow) lkX8_234 st_X8_isRow cd_X8_isRow ini_X8 hd_X8_isRow ⟨Nat.le_of_ble_eq_true rfl, Nat.le_of_ble_eq_true rfl⟩ rfl (Nat.le_of_ble_eq_true rfl) (V.kkF ?_)
    refine V.if_neB (tgt := 17) dX8_swap_11 (by decide) (fun h2 => ?_) (fun h2 => ?_)
    · rcases h with h | h
      · rw [h1] at h; cases h
      · rw [h2] at h; cases h
    · refine V.bipush (v := -2) dX8_swap_14 (by decide) ?_
      refine V.iret dX8_swap_16 ?_
      exact ⟨rfl, rfl⟩
theorem m_swap {g : Gl} {M : Mem} {A : Ab} {s o : Nat} (hI : ∀ i, 142 ≤ i ∧ i < 174 → i ∈ g.2.2.2.2) (h : Rm A M) (hs : s < 4) (ho : o < 4) : Ct g yX8_swap cX8_swap 3 (some .int) 4 [.ref (g.2.2.2.1 142), .int (nI s), .int (nI o)] M (fun v M' => v = some (.int (mjoin (MR A o) (mtell (MR A s) A.2.2.2.1) 0)) ∧ Rm (A.1, A.2.1, A.2.2.1, mjoin (MR A o) (mtell (MR A s) A.2.2.2.1), rmb A.2.2.2.1 A.2.2.2.2.1, A.2.2.2.2.2) M' ∧ keep mP M M') := by
  refine Ct.ofV (by decide) (Nat.le_of_ble_eq_true rfl) (by simp [Value.category]) (fun κ => ?_)
  refine V.iload_n dX8_swap_0 rfl ?_
  refine V.callS dX8_swap_1 (c_X8_isRow) lkX8_234 st_X8_isRow cd_X8_isRow ini_X8 hd_X8_isRow ⟨Nat.le_of_ble_eq_true rfl, Nat.le_of_ble_eq_true rfl⟩ rfl (Nat.le_of_ble_eq_true rfl) (V.kkF ?_)
  rw [isN_nI (by decide) hs]
  refine V.if_eqB (tgt := 14) dX8_swap_4 (by decide) (fun qs => ?_) (fun qs => ?_)
  · cases qs
  · skip
    refine V.iload_n dX8_swap_7 rfl ?_
    refine V.callS dX8_swap_8 (c_X8_isRow) lkX8_234 st_X8_isRow cd_X8_isRow ini_X8 hd_X8_isRow ⟨Nat.le_of_ble_eq_true rfl, Nat.le_of_ble_eq_true rfl⟩ rfl (Nat.le_of_ble_eq_true rfl) (V.kkF ?_)
    rw [isN_nI (by decide) ho]
    refine V.if_neB (tgt := 17) dX8_swap_11 (by decide) (fun qo => ?_) (fun qo => ?_)
    · skip
      refine V.aload_n dX8_swap_17 rfl ?_
      refine V.iload_n dX8_swap_18 rfl ?_
      refine V.aload_n dX8_swap_19 rfl ?_
      refine V.getf (ci := 7) (k := 31) (C := RX8) (T := TX8) (N := 37) dX8_swap_20 lfX8_86 inX8 rfl (by first | assumption | exact hI _ (by omega)) rfl (by decide) rfl ?_
      refine V.callV (ci := 7) (T := TX8) (N := 37) dX8_swap_23 (c_X8_laysRow (t := 168) hI hs (hI _ (by decide)) rfl (by decide)) lkX8_260 im_X8_laysRow se_X8_laysRow cd_X8_laysRow ini_X8 rfl (by first | assumption | exact hI _ (by omega)) rfl hd_X8_laysRow ⟨Nat.le_of_ble_eq_true rfl, Nat.le_of_ble_eq_true rfl⟩ rfl (Nat.le_of_ble_eq_true rfl) (V.kkP (fun M1 q1 => ?_))
      refine V.aload_n dX8_swap_26 rfl ?_
      refine V.iload_n dX8_swap_27 rfl ?_
      refine V.aload_n dX8_swap_28 rfl ?_
      refine V.getf (ci := 7) (k := 32) (C := RX8) (T := TX8) (N := 37) dX8_swap_29 lfX8_89 inX8 rfl (by first | assumption | exact hI _ (by omega)) rfl (by decide) rfl ?_
      refine V.callV (ci := 7) (T := TX8) (N := 37) dX8_swap_32 (c_X8_laysRow (t := 169) hI ho (hI _ (by decide)) rfl (by decide)) lkX8_260 im_X8_laysRow se_X8_laysRow cd_X8_laysRow ini_X8 rfl (by first | assumption | exact hI _ (by omega)) rfl hd_X8_laysRow ⟨Nat.le_of_ble_eq_true rfl, Nat.le_of_ble_eq_true rfl⟩ rfl (Nat.le_of_ble_eq_true rfl) (V.kkP (fun M2 q2 => ?_))
      obtain ⟨k1, q1⟩ := q1
      obtain ⟨k2, q2⟩ := q2
      have hp1 : ∀ n k, n < 9 → k < 9 → M2 168 (9 * n + k) = MR A s n k := fun n k hn hk => by rw [k2 168 (by omega), q1 n k hn hk, mpol_cg (h.g hs) (h.f hs) n k hk]; rfl
      have hp2 : ∀ n k, n < 9 → k < 9 → M2 169 (9 * n + k) = MR A o n k := fun n k hn hk => by rw [q2 n k hn hk, k1 143 (by omega), k1 144 (by omega), mpol_cg (h.g ho) (h.f ho) n k hk]; rfl
      have k12 : keep msr M M2 := (k1.wk (fun j hj => by unfold msr; omega)).tr (k2.wk (fun j hj => by unfold msr; omega))
      have hr1 := h.ks k12
      refine V.aload_n dX8_swap_35 rfl ?_
      refine V.callV (ci := 7) (T := TX8) (N := 37) dX8_swap_36 (c_X8_notes hI hr1.2.2.1) lkX8_273 im_X8_notes se_X8_notes cd_X8_notes ini_X8 rfl (by first | assumption | exact hI _ (by omega)) rfl hd_X8_notes ⟨Nat.le_of_ble_eq_true rfl, Nat.le_of_ble_eq_true rfl⟩ rfl (Nat.le_of_ble_eq_true rfl) (V.kkP (fun M3 qn => ?_))
      obtain ⟨kn, sn, hn⟩ := qn
      have hrn : Rm (A.1, A.2.1, A.2.2.1, A.2.2.2.1, rmb A.2.2.2.1 A.2.2.2.2.1, A.2.2.2.2.2) M3 := ⟨⟨hr1.1.1, by rw [sn 8 (by decide)]; exact hr1.1.2.1, by rw [kn 149 (by omega)]; exact hr1.1.2.2⟩, fun r hr => by rw [kn 143 (by omega), kn 144 (by omega)]; exact hr1.2.1 r hr, hn, fun q hq => (hr1.2.2.2 q hq).kp (kn 147 (by omega)) (kn 148 (by omega))⟩
      refine V.aload_n dX8_swap_39 rfl ?_
      refine V.aload_n dX8_swap_40 rfl ?_
      refine V.getf (ci := 7) (k := 2) (C := RX8) (T := TX8) (N := 37) dX8_swap_41 lfX8_16 inX8 rfl (by first | assumption | exact hI _ (by omega)) rfl (by decide) rfl ?_
      refine V.iconst (v := nI 0) dX8_swap_44 rfl ?_
      refine V.aload_n dX8_swap_45 rfl ?_
      refine V.getf (ci := 7) (k := 31) (C := RX8) (T := TX8) (N := 37) dX8_swap_46 lfX8_86 inX8 rfl (by first | assumption | exact hI _ (by omega)) rfl (by decide) rfl ?_
      refine V.callV (ci := 7) (T := TX8) (N := 37) dX8_swap_49 (c_X8_takesApart (a := 145) (i := 0) (t := 168) (na := 9) (P := MR A s) hI (hI _ (by decide)) rfl (by decide) (hI _ (by decide)) rfl (by decide) (fun n k hn hk => by rw [kn 168 (by omega)]; exact hp1 n k hn hk)) lkX8_267 im_X8_takesApart se_X8_takesApart cd_X8_takesApart ini_X8 rfl (by first | assumption | exact hI _ (by omega)) rfl hd_X8_takesApart ⟨Nat.le_of_ble_eq_true rfl, Nat.le_of_ble_eq_true rfl⟩ rfl (Nat.le_of_ble_eq_true rfl) (V.kkP (fun M4 q4 => ?_))
      obtain ⟨k4, e4⟩ := q4
      refine V.aload_n dX8_swap_52 rfl ?_
      refine V.aload_n dX8_swap_53 rfl ?_
      refine V.getf (ci := 7) (k := 32) (C := RX8) (T := TX8) (N := 37) dX8_swap_54 lfX8_89 inX8 rfl (by first | assumption | exact hI _ (by omega)) rfl (by decide) rfl ?_
      refine V.aload_n dX8_swap_57 rfl ?_
      refine V.getf (ci := 7) (k := 2) (C := RX8) (T := TX8) (N := 37) dX8_swap_58 lfX8_16 inX8 rfl (by first | assumption | exact hI _ (by omega)) rfl (by decide) rfl ?_
      refine V.callV (ci := 7) (T := TX8) (N := 37) dX8_swap_61 (c_X8_joins (t := 169) (P := MR A o) hI (hI _ (by decide)) rfl (by decide) (fun n k hn hk => by rw [k4 169 (by omega), kn 169 (by omega)]; exact hp2 n k hn hk)) lkX8_276 im_X8_joins se_X8_joins cd_X8_joins ini_X8 rfl (by first | assumption | exact hI _ (by omega)) rfl hd_X8_joins ⟨Nat.le_of_ble_eq_true rfl, Nat.le_of_ble_eq_true rfl⟩ rfl (Nat.le_of_ble_eq_true rfl) (V.kkN ?_)
      refine V.aload_n dX8_swap_64 rfl ?_
      refine V.getf (ci := 7) (k := 2) (C := RX8) (T := TX8) (N := 37) dX8_swap_65 lfX8_16 inX8 rfl (by first | assumption | exact hI _ (by omega)) rfl (by decide) rfl ?_
      refine V.iconst (v := nI 0) dX8_swap_68 rfl ?_
      refine V.iald (n := 9) dX8_swap_69 (by first | assumption | exact hI _ (by omega)) (by first | assumption | decide) (by omega) ?_
      refine V.iret dX8_swap_70 ?_
      have ep : eq9 (aset M4 145 0 9 (mjoin (MR A o) (M4 173)) 145) (mjoin (MR A o) (mtell (MR A s) A.2.2.2.1)) := aset_9.tr (mjoin_cg (fun _ _ => eq9.rf) (e4.tr (mtell_cg (fun _ _ => eq9.rf) (by rw [sl_0]; exact hn.1))))
      have kk : keep (fun j => msr j ∨ j = 145) M3 (aset M4 145 0 9 (mjoin (MR A o) (M4 173))) := (k4.wk (fun j hj => by unfold msr; omega)).as (Or.inr rfl)
      exact ⟨congrArg (fun q => some (Value.int q)) (ep 0 (by decide)), hrn.hand kk ep, ((k12.wk (P' := mP) (fun j hj => by unfold mP; unfold msr at hj; omega)).tr (kn.wk (fun j hj => by unfold mP; omega))).tr (kk.wk (fun j hj => by unfold mP; unfold msr at hj; omega))⟩
    · cases qo
theorem m_climb_2 {g : Gl} {M : Mem} {x : Int32} (h : isN x 4 = false) : Ct g yX8_climb cX8_climb 3 (some .int) 4 [.ref (g.2.2.2.1 142), .int x] M (fun v M' => v = some (.int (-2)) ∧ M' = M) := by
  refine Ct.ofV (by decide) (Nat.le_of_ble_eq_true rfl) (by simp [Value.category]) (fun κ => ?_)
  refine V.iload_n dX8_climb_0 rfl ?_
  refine V.callS dX8_climb_1 (c_X8_isRow) lkX8_234 st_X8_isRow cd_X8_isRow ini_X8 hd_X8_isRow ⟨Nat.le_of_ble_eq_true rfl, Nat.le_of_ble_eq_true rfl⟩ rfl (Nat.le_of_ble_eq_true rfl) (V.kkF ?_)
  refine V.if_neB (tgt := 10) dX8_climb_4 (by decide) (fun h1 => ?_) (fun h1 => ?_)
  · rw [h1] at h; cases h
  · refine V.bipush (v := -2) dX8_climb_7 (by decide) ?_
    refine V.iret dX8_climb_9 ?_
    exact ⟨rfl, rfl⟩
theorem m_climb_4 {g : Gl} {M : Mem} {A : Ab} {r : Nat} (hI : ∀ i, 142 ≤ i ∧ i < 174 → i ∈ g.2.2.2.2) (h : Rm A M) (hr : r < 4) (hp : A.2.2.2.1 8 ≠ 0) : Ct g yX8_climb cX8_climb 3 (some .int) 4 [.ref (g.2.2.2.1 142), .int (nI r)] M (fun v M' => v = some (.int (-4)) ∧ Rm A M' ∧ keep mP M M') := by
  refine Ct.ofV (by decide) (Nat.le_of_ble_eq_true rfl) (by simp [Value.category]) (fun κ => ?_)
  refine V.iload_n dX8_climb_0 rfl ?_
  refine V.callS dX8_climb_1 (c_X8_isRow) lkX8_234 st_X8_isRow cd_X8_isRow ini_X8 hd_X8_isRow ⟨Nat.le_of_ble_eq_true rfl, Nat.le_of_ble_eq_true rfl⟩ rfl (Nat.le_of_ble_eq_true rfl) (V.kkF ?_)
  rw [isN_nI (by decide) hr]
  refine V.if_neB (tgt := 10) dX8_climb_4 (by decide) (fun qr => ?_) (fun qr => ?_)
  · skip
    refine V.aload_n dX8_climb_10 rfl ?_
    refine V.getf (ci := 7) (k := 2) (C := RX8) (T := TX8) (N := 37) dX8_climb_11 lfX8_16 inX8 rfl (by first | assumption | exact hI _ (by omega)) rfl (by decide) rfl ?_
    refine V.bipush (v := nI 8) dX8_climb_14 (by decide) ?_
    refine V.iald (n := 9) dX8_climb_16 (by first | assumption | exact hI _ (by omega)) (by first | assumption | decide) (by omega) ?_
    refine V.if_eq (tgt := 23) dX8_climb_17 (by decide) (fun h1 => ?_) (fun h1 => ?_)
    · exact absurd (by rw [← h.2.2.1.1 8 (by decide)]; exact h1) hp
    · refine V.bipush (v := -4) dX8_climb_20 (by decide) ?_
      refine V.iret dX8_climb_22 ?_
      exact ⟨rfl, h, keep.rf⟩
  · cases qr
abbrev v_X8_climb (g : Gl) (κ : Ka) (Q : State → Prop) (M : Mem) (pc : Nat) (L : List (Option Value)) (st : List Value) : Prop := V g cX8_climb 3 yX8_climb.cls (some .int) (rmd 4) Q κ M pc L st
theorem m_climb {g : Gl} {M : Mem} {A : Ab} {r : Nat} (hI : ∀ i, 142 ≤ i ∧ i < 174 → i ∈ g.2.2.2.2) (h : Rm A M) (hr : r < 4) (hp : A.2.2.2.1 8 = 0) : Ct g yX8_climb cX8_climb 3 (some .int) 4 [.ref (g.2.2.2.1 142), .int (nI r)] M (fun v M' => v = some (.int (mjoin (MR A r) (fup (mtell (MR A r) A.2.2.2.1)) 0)) ∧ Rm (A.1, A.2.1, A.2.2.1, mjoin (MR A r) (fup (mtell (MR A r) A.2.2.2.1)), rmb A.2.2.2.1 A.2.2.2.2.1, A.2.2.2.2.2) M' ∧ keep mP M M') := by
  refine Ct.ofV (by decide) (Nat.le_of_ble_eq_true rfl) (by simp [Value.category]) (fun κ => ?_)
  refine V.iload_n dX8_climb_0 rfl ?_
  refine V.callS dX8_climb_1 (c_X8_isRow) lkX8_234 st_X8_isRow cd_X8_isRow ini_X8 hd_X8_isRow ⟨Nat.le_of_ble_eq_true rfl, Nat.le_of_ble_eq_true rfl⟩ rfl (Nat.le_of_ble_eq_true rfl) (V.kkF ?_)
  rw [isN_nI (by decide) hr]
  refine V.if_neB (tgt := 10) dX8_climb_4 (by decide) (fun qr => ?_) (fun qr => ?_)
  · skip
    refine V.aload_n dX8_climb_10 rfl ?_
    refine V.getf (ci := 7) (k := 2) (C := RX8) (T := TX8) (N := 37) dX8_climb_11 lfX8_16 inX8 rfl (by first | assumption | exact hI _ (by omega)) rfl (by decide) rfl ?_
    refine V.bipush (v := nI 8) dX8_climb_14 (by decide) ?_
    refine V.iald (n := 9) dX8_climb_16 (by first | assumption | exact hI _ (by omega)) (by first | assumption | decide) (by omega) ?_
    refine V.if_eq (tgt := 23) dX8_climb_17 (by decide) (fun h1 => ?_) (fun h1 => ?_)
    · skip
      refine V.aload_n dX8_climb_23 rfl ?_
      refine V.iload_n dX8_climb_24 rfl ?_
      refine V.aload_n dX8_climb_25 rfl ?_
      refine V.getf (ci := 7) (k := 31) (C := RX8) (T := TX8) (N := 37) dX8_climb_26 lfX8_86 inX8 rfl (by first | assumption | exact hI _ (by omega)) rfl (by decide) rfl ?_
      refine V.callV (ci := 7) (T := TX8) (N := 37) dX8_climb_29 (c_X8_laysRow (t := 168) hI hr (hI _ (by decide)) rfl (by decide)) lkX8_260 im_X8_laysRow se_X8_laysRow cd_X8_laysRow ini_X8 rfl (by first | assumption | exact hI _ (by omega)) rfl hd_X8_laysRow ⟨Nat.le_of_ble_eq_true rfl, Nat.le_of_ble_eq_true rfl⟩ rfl (Nat.le_of_ble_eq_true rfl) (V.kkP (fun M1 q1 => ?_))
      have hp1 : ∀ n k, n < 9 → k < 9 → M1 168 (9 * n + k) = MR A r n k := fun n k hn hk => by rw [q1.2 n k hn hk, mpol_cg (h.g hr) (h.f hr) n k hk]; rfl
      have k1 : keep msr M M1 := q1.1.wk (fun j hj => by unfold msr; omega)
      have hr1 := h.ks k1
      refine V.aload_n dX8_climb_32 rfl ?_
      refine V.callV (ci := 7) (T := TX8) (N := 37) dX8_climb_33 (c_X8_notes hI hr1.2.2.1) lkX8_273 im_X8_notes se_X8_notes cd_X8_notes ini_X8 rfl (by first | assumption | exact hI _ (by omega)) rfl hd_X8_notes ⟨Nat.le_of_ble_eq_true rfl, Nat.le_of_ble_eq_true rfl⟩ rfl (Nat.le_of_ble_eq_true rfl) (V.kkP (fun M2 qn => ?_))
      obtain ⟨kn, sn, hn⟩ := qn
      have hrn : Rm (A.1, A.2.1, A.2.2.1, A.2.2.2.1, rmb A.2.2.2.1 A.2.2.2.2.1, A.2.2.2.2.2) M2 := ⟨⟨hr1.1.1, by rw [sn 8 (by decide)]; exact hr1.1.2.1, by rw [kn 149 (by omega)]; exact hr1.1.2.2⟩, fun r hr => by rw [kn 143 (by omega), kn 144 (by omega)]; exact hr1.2.1 r hr, hn, fun q hq => (hr1.2.2.2 q hq).kp (kn 147 (by omega)) (kn 148 (by omega))⟩
      refine V.aload_n dX8_climb_36 rfl ?_
      refine V.aload_n dX8_climb_37 rfl ?_
      refine V.getf (ci := 7) (k := 2) (C := RX8) (T := TX8) (N := 37) dX8_climb_38 lfX8_16 inX8 rfl (by first | assumption | exact hI _ (by omega)) rfl (by decide) rfl ?_
      refine V.iconst (v := nI 0) dX8_climb_41 rfl ?_
      refine V.aload_n dX8_climb_42 rfl ?_
      refine V.getf (ci := 7) (k := 31) (C := RX8) (T := TX8) (N := 37) dX8_climb_43 lfX8_86 inX8 rfl (by first | assumption | exact hI _ (by omega)) rfl (by decide) rfl ?_
      refine V.callV (ci := 7) (T := TX8) (N := 37) dX8_climb_46 (c_X8_takesApart (a := 145) (i := 0) (t := 168) (na := 9) (P := MR A r) hI (hI _ (by decide)) rfl (by decide) (hI _ (by decide)) rfl (by decide) (fun n k hn hk => by rw [kn 168 (by omega)]; exact hp1 n k hn hk)) lkX8_267 im_X8_takesApart se_X8_takesApart cd_X8_takesApart ini_X8 rfl (by first | assumption | exact hI _ (by omega)) rfl hd_X8_takesApart ⟨Nat.le_of_ble_eq_true rfl, Nat.le_of_ble_eq_true rfl⟩ rfl (Nat.le_of_ble_eq_true rfl) (V.kkP (fun M4 q4 => ?_))
      obtain ⟨k4, e4⟩ := q4
      refine V.bipush (v := nI 8) dX8_climb_49 (by decide) ?_
      refine V.istore_n dX8_climb_51 (by decide) ?_
      have lp := dn_loop (fun k => k ≤ 8 → v_X8_climb g κ (Qm g κ (fun v M' => v = some (.int (mjoin (MR A r) (fup (mtell (MR A r) A.2.2.2.1)) 0)) ∧ Rm (A.1, A.2.1, A.2.2.1, mjoin (MR A r) (fup (mtell (MR A r) A.2.2.2.1)), rmb A.2.2.2.1 A.2.2.2.2.1, A.2.2.2.2.2) M' ∧ keep mP M M')) (aset M4 173 (k + 1) 9 (fup (M4 173))) 52 [some (.ref (g.2.2.2.1 142)), some (.int (nI r)), some (.int (nI k))] []) (fun k ih hk => ?_) 8 (by omega)
      · rw [aset_nil (Nat.le_refl 9)] at lp
        exact lp
      · refine V.iload_n dX8_climb_52 rfl ?_
        refine V.if_leD (tgt := 76) dX8_climb_53 (by decide) (by omega) (fun h2 => ?_) (fun j h2 => ?_)
        · subst h2
          refine V.aload_n dX8_climb_76 rfl ?_
          refine V.getf (ci := 7) (k := 36) (C := RX8) (T := TX8) (N := 37) dX8_climb_77 lfX8_101 inX8 rfl (by first | assumption | exact hI _ (by omega)) rfl (by decide) rfl ?_
          refine V.iconst (v := nI 0) dX8_climb_80 rfl ?_
          refine V.iconst (v := nI 0) dX8_climb_81 rfl ?_
          refine V.iast (n := 9) dX8_climb_82 (by first | assumption | exact hI _ (by omega)) (by first | assumption | decide) (by omega) ?_
          refine V.aload_n dX8_climb_83 rfl ?_
          refine V.aload_n dX8_climb_84 rfl ?_
          refine V.getf (ci := 7) (k := 31) (C := RX8) (T := TX8) (N := 37) dX8_climb_85 lfX8_86 inX8 rfl (by first | assumption | exact hI _ (by omega)) rfl (by decide) rfl ?_
          refine V.aload_n dX8_climb_88 rfl ?_
          refine V.getf (ci := 7) (k := 2) (C := RX8) (T := TX8) (N := 37) dX8_climb_89 lfX8_16 inX8 rfl (by first | assumption | exact hI _ (by omega)) rfl (by decide) rfl ?_
          rw [aset_dn (M := M4) (i := 173) (lo := 0) (hi := 9) (f := fup (M4 173)) (x := nI 0) (by decide) rfl]
          refine V.callV (ci := 7) (T := TX8) (N := 37) dX8_climb_92 (c_X8_joins (t := 168) (P := MR A r) hI (hI _ (by decide)) rfl (by decide) (fun n k hn hk => by rw [aset_ne (by decide), k4 168 (by omega), kn 168 (by omega)]; exact hp1 n k hn hk)) lkX8_276 im_X8_joins se_X8_joins cd_X8_joins ini_X8 rfl (by first | assumption | exact hI _ (by omega)) rfl hd_X8_joins ⟨Nat.le_of_ble_eq_true rfl, Nat.le_of_ble_eq_true rfl⟩ rfl (Nat.le_of_ble_eq_true rfl) (V.kkN ?_)
          refine V.aload_n dX8_climb_95 rfl ?_
          refine V.getf (ci := 7) (k := 2) (C := RX8) (T := TX8) (N := 37) dX8_climb_96 lfX8_16 inX8 rfl (by first | assumption | exact hI _ (by omega)) rfl (by decide) rfl ?_
          refine V.iconst (v := nI 0) dX8_climb_99 rfl ?_
          refine V.iald (n := 9) dX8_climb_100 (by first | assumption | exact hI _ (by omega)) (by first | assumption | decide) (by omega) ?_
          refine V.iret dX8_climb_101 ?_
          generalize hM5 : aset (aset M4 173 0 9 _) 145 0 9 _ = M5
          have ep : eq9 (M5 145) (mjoin (MR A r) (fup (mtell (MR A r) A.2.2.2.1))) := by
            rw [← hM5]
            exact aset_9.tr (mjoin_cg (fun _ _ => eq9.rf) (aset_9.tr (fup_cg (e4.tr (mtell_cg (fun _ _ => eq9.rf) (by rw [sl_0]; exact hn.1))))))
          have kk : keep (fun j => msr j ∨ j = 145) M2 M5 := by
            rw [← hM5]; exact ((k4.wk (fun j hj => by unfold msr; omega)).as (Or.inl (by unfold msr; omega))).as (Or.inr rfl)
          exact ⟨congrArg (fun q => some (Value.int q)) (ep 0 (by decide)), hrn.hand kk ep, ((k1.wk (P' := mP) (fun j hj => by unfold mP; unfold msr at hj; omega)).tr (kn.wk (fun j hj => by unfold mP; omega))).tr (kk.wk (fun j hj => by unfold mP; unfold msr at hj; omega))⟩
        · subst h2
          refine V.aload_n dX8_climb_56 rfl ?_
          refine V.getf (ci := 7) (k := 36) (C := RX8) (T := TX8) (N := 37) dX8_climb_57 lfX8_101 inX8 rfl (by first | assumption | exact hI _ (by omega)) rfl (by decide) rfl ?_
          refine V.iload_n dX8_climb_60 rfl ?_
          refine V.aload_n dX8_climb_61 rfl ?_
          refine V.getf (ci := 7) (k := 36) (C := RX8) (T := TX8) (N := 37) dX8_climb_62 lfX8_101 inX8 rfl (by first | assumption | exact hI _ (by omega)) rfl (by decide) rfl ?_
          refine V.iload_n dX8_climb_65 rfl ?_
          refine V.iconst (v := nI 1) dX8_climb_66 rfl ?_
          first | refine V.isubN dX8_climb_67 (by omega) ?_ | refine V.isub dX8_climb_67 ?_
          refine V.iald (n := 9) dX8_climb_68 (by first | assumption | exact hI _ (by omega)) (by first | assumption | decide) (by omega) ?_
          refine V.iast (n := 9) dX8_climb_69 (by first | assumption | exact hI _ (by omega)) (by first | assumption | decide) (by omega) ?_
          refine V.iincD dX8_climb_70 (by decide) rfl ?_
          refine V.goto (tgt := 52) dX8_climb_73 (by decide) ?_
          rw [nI_pred, aset_dn (by omega) (by rw [aset_out (Or.inl (by omega))]; simp [fup])]
          exact ih j rfl (by omega)
    · exact absurd (by rw [h.2.2.1.1 8 (by decide)]; exact hp) h1
  · cases qr
theorem m_weigh_2 {g : Gl} {M : Mem} {x : Int32} (h : isN x 4 = false) : Ct g yX8_weigh cX8_weigh 3 (some .int) 4 [.ref (g.2.2.2.1 142), .int x] M (fun v M' => v = some (.int (-2)) ∧ M' = M) := by
  refine Ct.ofV (by decide) (Nat.le_of_ble_eq_true rfl) (by simp [Value.category]) (fun κ => ?_)
  refine V.iload_n dX8_weigh_0 rfl ?_
  refine V.callS dX8_weigh_1 (c_X8_isRow) lkX8_234 st_X8_isRow cd_X8_isRow ini_X8 hd_X8_isRow ⟨Nat.le_of_ble_eq_true rfl, Nat.le_of_ble_eq_true rfl⟩ rfl (Nat.le_of_ble_eq_true rfl) (V.kkF ?_)
  refine V.if_neB (tgt := 10) dX8_weigh_4 (by decide) (fun h1 => ?_) (fun h1 => ?_)
  · rw [h1] at h; cases h
  · refine V.bipush (v := -2) dX8_weigh_7 (by decide) ?_
    refine V.iret dX8_weigh_9 ?_
    exact ⟨rfl, rfl⟩
abbrev v_X8_weigh (g : Gl) (κ : Ka) (Q : State → Prop) (M : Mem) (pc : Nat) (L : List (Option Value)) (st : List Value) : Prop := V g cX8_weigh 3 yX8_weigh.cls (some .int) (rmd 4) Q κ M pc L st
theorem m_weigh {g : Gl} {M : Mem} {A : Ab} {r : Nat} (hI : ∀ i, 142 ≤ i ∧ i < 174 → i ∈ g.2.2.2.2) (h : Rm A M) (hr : r < 4) : Ct g yX8_weigh cX8_weigh 3 (some .int) 4 [.ref (g.2.2.2.1 142), .int (nI r)] M (fun v M' => v = some (.int (mjoin (MR A r) (fwei (mtell (MR A r) A.2.2.2.1)) 0)) ∧ Rm (A.1, A.2.1, A.2.2.1, mjoin (MR A r) (fwei (mtell (MR A r) A.2.2.2.1)), rmb A.2.2.2.1 A.2.2.2.2.1, A.2.2.2.2.2) M' ∧ keep mP M M') := by
  refine Ct.ofV (by decide) (Nat.le_of_ble_eq_true rfl) (by simp [Value.category]) (fun κ => ?_)
  refine V.iload_n dX8_weigh_0 rfl ?_
  refine V.callS dX8_weigh_1 (c_X8_isRow) lkX8_234 st_X8_isRow cd_X8_isRow ini_X8 hd_X8_isRow ⟨Nat.le_of_ble_eq_true rfl, Nat.le_of_ble_eq_true rfl⟩ rfl (Nat.le_of_ble_eq_true rfl) (V.kkF ?_)
  rw [isN_nI (by decide) hr]
  refine V.if_neB (tgt := 10) dX8_weigh_4 (by decide) (fun qr => ?_) (fun qr => ?_)
  · skip
    refine V.aload_n dX8_weigh_10 rfl ?_
    refine V.iload_n dX8_weigh_11 rfl ?_
    refine V.aload_n dX8_weigh_12 rfl ?_
    refine V.getf (ci := 7) (k := 31) (C := RX8) (T := TX8) (N := 37) dX8_weigh_13 lfX8_86 inX8 rfl (by first | assumption | exact hI _ (by omega)) rfl (by decide) rfl ?_
    refine V.callV (ci := 7) (T := TX8) (N := 37) dX8_weigh_16 (c_X8_laysRow (t := 168) hI hr (hI _ (by decide)) rfl (by decide)) lkX8_260 im_X8_laysRow se_X8_laysRow cd_X8_laysRow ini_X8 rfl (by first | assumption | exact hI _ (by omega)) rfl hd_X8_laysRow ⟨Nat.le_of_ble_eq_true rfl, Nat.le_of_ble_eq_true rfl⟩ rfl (Nat.le_of_ble_eq_true rfl) (V.kkP (fun M1 q1 => ?_))
    have hp1 : ∀ n k, n < 9 → k < 9 → M1 168 (9 * n + k) = MR A r n k := fun n k hn hk => by rw [q1.2 n k hn hk, mpol_cg (h.g hr) (h.f hr) n k hk]; rfl
    have k1 : keep msr M M1 := q1.1.wk (fun j hj => by unfold msr; omega)
    have hr1 := h.ks k1
    refine V.aload_n dX8_weigh_19 rfl ?_
    refine V.callV (ci := 7) (T := TX8) (N := 37) dX8_weigh_20 (c_X8_notes hI hr1.2.2.1) lkX8_273 im_X8_notes se_X8_notes cd_X8_notes ini_X8 rfl (by first | assumption | exact hI _ (by omega)) rfl hd_X8_notes ⟨Nat.le_of_ble_eq_true rfl, Nat.le_of_ble_eq_true rfl⟩ rfl (Nat.le_of_ble_eq_true rfl) (V.kkP (fun M2 qn => ?_))
    obtain ⟨kn, sn, hn⟩ := qn
    have hrn : Rm (A.1, A.2.1, A.2.2.1, A.2.2.2.1, rmb A.2.2.2.1 A.2.2.2.2.1, A.2.2.2.2.2) M2 := ⟨⟨hr1.1.1, by rw [sn 8 (by decide)]; exact hr1.1.2.1, by rw [kn 149 (by omega)]; exact hr1.1.2.2⟩, fun r hr => by rw [kn 143 (by omega), kn 144 (by omega)]; exact hr1.2.1 r hr, hn, fun q hq => (hr1.2.2.2 q hq).kp (kn 147 (by omega)) (kn 148 (by omega))⟩
    refine V.aload_n dX8_weigh_23 rfl ?_
    refine V.aload_n dX8_weigh_24 rfl ?_
    refine V.getf (ci := 7) (k := 2) (C := RX8) (T := TX8) (N := 37) dX8_weigh_25 lfX8_16 inX8 rfl (by first | assumption | exact hI _ (by omega)) rfl (by decide) rfl ?_
    refine V.iconst (v := nI 0) dX8_weigh_28 rfl ?_
    refine V.aload_n dX8_weigh_29 rfl ?_
    refine V.getf (ci := 7) (k := 31) (C := RX8) (T := TX8) (N := 37) dX8_weigh_30 lfX8_86 inX8 rfl (by first | assumption | exact hI _ (by omega)) rfl (by decide) rfl ?_
    refine V.callV (ci := 7) (T := TX8) (N := 37) dX8_weigh_33 (c_X8_takesApart (a := 145) (i := 0) (t := 168) (na := 9) (P := MR A r) hI (hI _ (by decide)) rfl (by decide) (hI _ (by decide)) rfl (by decide) (fun n k hn hk => by rw [kn 168 (by omega)]; exact hp1 n k hn hk)) lkX8_267 im_X8_takesApart se_X8_takesApart cd_X8_takesApart ini_X8 rfl (by first | assumption | exact hI _ (by omega)) rfl hd_X8_takesApart ⟨Nat.le_of_ble_eq_true rfl, Nat.le_of_ble_eq_true rfl⟩ rfl (Nat.le_of_ble_eq_true rfl) (V.kkP (fun M4 q4 => ?_))
    obtain ⟨k4, e4⟩ := q4
    refine V.iconst (v := nI 0) dX8_weigh_36 rfl ?_
    refine V.istore_n dX8_weigh_37 (by decide) ?_
    have lp := up_loop 9 (fun j => v_X8_weigh g κ (Qm g κ (fun v M' => v = some (.int (mjoin (MR A r) (fwei (mtell (MR A r) A.2.2.2.1)) 0)) ∧ Rm (A.1, A.2.1, A.2.2.1, mjoin (MR A r) (fwei (mtell (MR A r) A.2.2.2.1)), rmb A.2.2.2.1 A.2.2.2.2.1, A.2.2.2.2.2) M' ∧ keep mP M M')) (aset M4 173 0 j (fwei (M4 173))) 38 [some (.ref (g.2.2.2.1 142)), some (.int (nI r)), some (.int (nI j))] []) (fun j hj ih => ?_) 0 (by omega)
    · rw [aset_nil (Nat.le_refl 0)] at lp
      exact lp
    · refine V.iload_n dX8_weigh_38 rfl ?_
      refine V.bipush (v := nI 9) dX8_weigh_39 (by decide) ?_
      refine V.geN (tgt := 66) dX8_weigh_41 (by decide) (by omega) (by omega) (fun h2 => ?_) (fun h2 => ?_)
      · have e : j = 9 := by omega
        subst e
        refine V.aload_n dX8_weigh_66 rfl ?_
        refine V.aload_n dX8_weigh_67 rfl ?_
        refine V.getf (ci := 7) (k := 31) (C := RX8) (T := TX8) (N := 37) dX8_weigh_68 lfX8_86 inX8 rfl (by first | assumption | exact hI _ (by omega)) rfl (by decide) rfl ?_
        refine V.aload_n dX8_weigh_71 rfl ?_
        refine V.getf (ci := 7) (k := 2) (C := RX8) (T := TX8) (N := 37) dX8_weigh_72 lfX8_16 inX8 rfl (by first | assumption | exact hI _ (by omega)) rfl (by decide) rfl ?_
        refine V.callV (ci := 7) (T := TX8) (N := 37) dX8_weigh_75 (c_X8_joins (t := 168) (P := MR A r) hI (hI _ (by decide)) rfl (by decide) (fun n k hn hk => by rw [aset_ne (by decide), k4 168 (by omega), kn 168 (by omega)]; exact hp1 n k hn hk)) lkX8_276 im_X8_joins se_X8_joins cd_X8_joins ini_X8 rfl (by first | assumption | exact hI _ (by omega)) rfl hd_X8_joins ⟨Nat.le_of_ble_eq_true rfl, Nat.le_of_ble_eq_true rfl⟩ rfl (Nat.le_of_ble_eq_true rfl) (V.kkN ?_)
        refine V.aload_n dX8_weigh_78 rfl ?_
        refine V.getf (ci := 7) (k := 2) (C := RX8) (T := TX8) (N := 37) dX8_weigh_79 lfX8_16 inX8 rfl (by first | assumption | exact hI _ (by omega)) rfl (by decide) rfl ?_
        refine V.iconst (v := nI 0) dX8_weigh_82 rfl ?_
        refine V.iald (n := 9) dX8_weigh_83 (by first | assumption | exact hI _ (by omega)) (by first | assumption | decide) (by omega) ?_
        refine V.iret dX8_weigh_84 ?_
        generalize hM5 : aset (aset M4 173 0 9 _) 145 0 9 _ = M5
        have ep : eq9 (M5 145) (mjoin (MR A r) (fwei (mtell (MR A r) A.2.2.2.1))) := by
          rw [← hM5]
          exact aset_9.tr (mjoin_cg (fun _ _ => eq9.rf) (aset_9.tr (fun k hk => by unfold fwei; rw [e4 k hk, mtell_cg (fun _ _ => eq9.rf) (by rw [sl_0]; exact hn.1) k hk])))
        have kk : keep (fun j => msr j ∨ j = 145) M2 M5 := by
          rw [← hM5]; exact ((k4.wk (fun j hj => by unfold msr; omega)).as (Or.inl (by unfold msr; omega))).as (Or.inr rfl)
        exact ⟨congrArg (fun q => some (Value.int q)) (ep 0 (by decide)), hrn.hand kk ep, ((k1.wk (P' := mP) (fun j hj => by unfold mP; unfold msr at hj; omega)).tr (kn.wk (fun j hj => by unfold mP; omega))).tr (kk.wk (fun j hj => by unfold mP; unfold msr at hj; omega))⟩
      · refine V.aload_n dX8_weigh_44 rfl ?_
        refine V.getf (ci := 7) (k := 36) (C := RX8) (T := TX8) (N := 37) dX8_weigh_45 lfX8_101 inX8 rfl (by first | assumption | exact hI _ (by omega)) rfl (by decide) rfl ?_
        refine V.iload_n dX8_weigh_48 rfl ?_
        refine V.iload_n dX8_weigh_49 rfl ?_
        refine V.aload_n dX8_weigh_50 rfl ?_
        refine V.getf (ci := 7) (k := 36) (C := RX8) (T := TX8) (N := 37) dX8_weigh_51 lfX8_101 inX8 rfl (by first | assumption | exact hI _ (by omega)) rfl (by decide) rfl ?_
        refine V.iload_n dX8_weigh_54 rfl ?_
        refine V.iald (n := 9) dX8_weigh_55 (by first | assumption | exact hI _ (by omega)) (by first | assumption | decide) (by omega) ?_
        refine V.callS dX8_weigh_56 (c_X8_product) lkX8_108 st_X8_product cd_X8_product ini_X8 hd_X8_product ⟨Nat.le_of_ble_eq_true rfl, Nat.le_of_ble_eq_true rfl⟩ rfl (Nat.le_of_ble_eq_true rfl) (V.kkF ?_)
        refine V.iast (n := 9) dX8_weigh_59 (by first | assumption | exact hI _ (by omega)) (by first | assumption | decide) (by omega) ?_
        refine V.iincN dX8_weigh_60 (by decide) rfl ?_
        refine V.goto (tgt := 38) dX8_weigh_63 (by decide) ?_
        rw [aset_up (f := fwei (M4 173)) (hi := j) (Nat.zero_le _) (by rw [aset_hi (Nat.le_refl _), fmul_comm]; rfl)]
        exact ih h2
  · cases qr

