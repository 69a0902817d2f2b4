abbrev v_X8_makes (g : Gl) (κ : Ka) (Q : State → Prop) (M : Mem) (pc : Nat) (L : List (Option Value)) (st : List Value) : Prop := V g cX8_makes 7 yX8_makes.cls none (rmd 3) Q κ M pc L st
theorem c_X8_makes {g : Gl} {M : Mem} {s : Int32} (hI : ∀ i, 142 ≤ i ∧ i < 174 → i ∈ g.2.2.2.2) : Ct g yX8_makes cX8_makes 7 none 3 [.ref (g.2.2.2.1 142), .int s, .ref (g.2.2.2.1 156)] M (fun v M' => v = none ∧ keep (fun q => q = 150 ∨ q = 154 ∨ q = 155 ∨ q = 156) M M' ∧ eq9 (M' 156) (mmake s (M 156))) := by
  refine Ct.ofV (by decide) (Nat.le_of_ble_eq_true rfl) (by simp [Value.category]) (fun κ => ?_)
  refine V.iconst (v := nI 1) dX8_makes_0 rfl ?_
  refine V.istore_n dX8_makes_1 (by decide) ?_
  refine V.iconst (v := nI 0) dX8_makes_2 rfl ?_
  refine V.istore dX8_makes_3 (by decide) ?_
  have lp := up_loop 9 (fun k => ∀ M1, keep (fun q => q = 154 ∨ q = 155) M M1 → (∀ z, z < k → M1 154 z = mono 0 (nI 1) z ∧ M1 155 z = nI 0) → v_X8_makes g κ (Qm g κ (fun v M' => v = none ∧ keep (fun q => q = 150 ∨ q = 154 ∨ q = 155 ∨ q = 156) M M' ∧ eq9 (M' 156) (mmake s (M 156)))) M1 5 [some (.ref (g.2.2.2.1 142)), some (.int s), some (.ref (g.2.2.2.1 156)), some (.int (nI 1)), some (.int (nI k)), none, none] []) (fun k hk ih M1 k1 k2 => ?_) 0 (by omega)
  · exact lp M keep.rf (fun z hz => by omega)
  · refine V.iload dX8_makes_5 rfl ?_
    refine V.bipush (v := nI 9) dX8_makes_7 (by decide) ?_
    refine V.geN (tgt := 43) dX8_makes_9 (by decide) (by omega) (by omega) (fun h1 => ?_) (fun h1 => ?_)
    · have e : k = 9 := by omega
      subst e
      refine V.iconst (v := nI 0) dX8_makes_43 rfl ?_
      refine V.istore dX8_makes_44 (by decide) ?_
      have l2 := up_loop 9 (fun n => ∀ M2 x3 x5 x6, (1 ≤ n → x3 = mfac (n - 1)) → keep (fun q => q = 150 ∨ q = 154 ∨ q = 155) M M2 → eq9 (M2 154) (fpow (M 156) n) → eq9 (M2 155) (msum s (M 156) n) → v_X8_makes g κ (Qm g κ (fun v M' => v = none ∧ keep (fun q => q = 150 ∨ q = 154 ∨ q = 155 ∨ q = 156) M M' ∧ eq9 (M' 156) (mmake s (M 156)))) M2 46 [some (.ref (g.2.2.2.1 142)), some (.int s), some (.ref (g.2.2.2.1 156)), some (.int x3), some (.int (nI n)), x5, x6] []) (fun n hn iq M2 x3 x5 x6 hx3 k3 k4 k5 => ?_) 0 (by omega)
      · exact l2 M1 _ _ _ (fun h => by omega) (k1.wk (fun j hj => by omega)) (fun z hz => (k2 z hz).1) (fun z hz => (k2 z hz).2)
      · refine V.iload dX8_makes_46 rfl ?_
        refine V.bipush (v := nI 9) dX8_makes_48 (by decide) ?_
        refine V.geN (tgt := 204) dX8_makes_50 (by decide) (by omega) (by omega) (fun h2 => ?_) (fun h2 => ?_)
        · have e : n = 9 := by omega
          subst e
          refine V.aload_n dX8_makes_204 rfl ?_
          refine V.getf (ci := 7) (k := 14) (C := RX8) (T := TX8) (N := 37) dX8_makes_205 lfX8_47 inX8 rfl (by first | assumption | exact hI _ (by omega)) rfl (by decide) rfl ?_
          refine V.iconst (v := nI 0) dX8_makes_208 rfl ?_
          refine V.aload_n dX8_makes_209 rfl ?_
          refine V.iconst (v := nI 0) dX8_makes_210 rfl ?_
          refine V.bipush (v := nI 9) dX8_makes_211 (by decide) ?_
          refine V.callS dX8_makes_213 (c_X8_bring (a := 155) (b := 156) (na := 9) (nb := 9) (hI 155 (by decide)) (hI 156 (by decide)) rfl rfl (by decide) (by decide) (Or.inr (Nat.le_refl 0))) lkX8_112 st_X8_bring cd_X8_bring ini_X8 hd_X8_bring ⟨Nat.le_of_ble_eq_true rfl, Nat.le_of_ble_eq_true rfl⟩ rfl (Nat.le_of_ble_eq_true rfl) (V.kkN ?_)
          refine V.vret dX8_makes_216 ?_
          exact ⟨rfl, (k3.wk (fun j hj => by omega)).br (by omega), brg_0.tr (by rw [sl_0]; exact k5)⟩
        · have tail : ∀ by0 : Int32, by0 = mby s n → v_X8_makes g κ (Qm g κ (fun v M' => v = none ∧ keep (fun q => q = 150 ∨ q = 154 ∨ q = 155 ∨ q = 156) M M' ∧ eq9 (M' 156) (mmake s (M 156)))) M2 136 [some (.ref (g.2.2.2.1 142)), some (.int s), some (.ref (g.2.2.2.1 156)), some (.int (mfac n)), some (.int (nI n)), x5, x6] [.int by0] := by
            intro by0 hby
            refine V.istore dX8_makes_136 (by decide) ?_
            refine V.iconst (v := nI 0) dX8_makes_138 rfl ?_
            refine V.istore dX8_makes_139 (by decide) ?_
            have l3 := up_loop 9 (fun x => ∀ M3, keep (fun q => q = 150 ∨ q = 154 ∨ q = 155) M M3 → M3 154 = M2 154 → (∀ z, z < x → M3 155 z = msum s (M 156) (n + 1) z) → (∀ z, x ≤ z → z < 9 → M3 155 z = msum s (M 156) n z) → v_X8_makes g κ (Qm g κ (fun v M' => v = none ∧ keep (fun q => q = 150 ∨ q = 154 ∨ q = 155 ∨ q = 156) M M' ∧ eq9 (M' 156) (mmake s (M 156)))) M3 141 [some (.ref (g.2.2.2.1 142)), some (.int s), some (.ref (g.2.2.2.1 156)), some (.int (mfac n)), some (.int (nI n)), some (.int by0), some (.int (nI x))] []) (fun x hx ix M3 j1 j2 j3 j4 => ?_) 0 (by omega)
            · exact l3 M2 k3 rfl (fun z hz => by omega) (fun z _ hz => k5 z hz)
            · refine V.iload dX8_makes_141 rfl ?_
              refine V.bipush (v := nI 9) dX8_makes_143 (by decide) ?_
              refine V.geN (tgt := 183) dX8_makes_145 (by decide) (by omega) (by omega) (fun h3 => ?_) (fun h3 => ?_)
              · have e : x = 9 := by omega
                subst e
                refine V.aload_n dX8_makes_183 rfl ?_
                refine V.aload_n dX8_makes_184 rfl ?_
                refine V.getf (ci := 7) (k := 13) (C := RX8) (T := TX8) (N := 37) dX8_makes_185 lfX8_44 inX8 rfl (by first | assumption | exact hI _ (by omega)) rfl (by decide) rfl ?_
                refine V.iconst (v := nI 0) dX8_makes_188 rfl ?_
                refine V.aload_n dX8_makes_189 rfl ?_
                refine V.iconst (v := nI 0) dX8_makes_190 rfl ?_
                refine V.aload_n dX8_makes_191 rfl ?_
                refine V.getf (ci := 7) (k := 13) (C := RX8) (T := TX8) (N := 37) dX8_makes_192 lfX8_44 inX8 rfl (by first | assumption | exact hI _ (by omega)) rfl (by decide) rfl ?_
                refine V.callV (ci := 7) (T := TX8) (N := 37) dX8_makes_195 (c_X8_multiplies (a := 154) (b := 156) (c := 154) (na := 9) (nb := 9) hI (hI 154 (by decide)) rfl (by decide) (hI 156 (by decide)) rfl (by decide) (hI 154 (by decide)) rfl (by decide) (by decide)) lkX8_133 im_X8_multiplies se_X8_multiplies cd_X8_multiplies ini_X8 rfl (by first | assumption | exact hI _ (by omega)) rfl hd_X8_multiplies ⟨Nat.le_of_ble_eq_true rfl, Nat.le_of_ble_eq_true rfl⟩ rfl (Nat.le_of_ble_eq_true rfl) (V.kkN ?_)
                refine V.iincN dX8_makes_198 (by decide) rfl ?_
                refine V.goto (tgt := 46) dX8_makes_201 (by decide) ?_
                refine iq h2 _ _ _ _ (fun _ => rfl) ((j1.as (by omega)).as (by omega)) ?_ ?_
                · rw [sl_0, sl_0]
                  exact aset_9.tr (fprod_cg (by rw [j2]; exact k4) (by rw [j1 156 (by omega)]; exact eq9.rf))
                · rw [aset_ne (by decide), aset_ne (by decide)]
                  exact fun z hz => j3 z hz
              · refine V.aload_n dX8_makes_148 rfl ?_
                refine V.getf (ci := 7) (k := 14) (C := RX8) (T := TX8) (N := 37) dX8_makes_149 lfX8_47 inX8 rfl (by first | assumption | exact hI _ (by omega)) rfl (by decide) rfl ?_
                refine V.iload dX8_makes_152 rfl ?_
                refine V.aload_n dX8_makes_154 rfl ?_
                refine V.getf (ci := 7) (k := 14) (C := RX8) (T := TX8) (N := 37) dX8_makes_155 lfX8_47 inX8 rfl (by first | assumption | exact hI _ (by omega)) rfl (by decide) rfl ?_
                refine V.iload dX8_makes_158 rfl ?_
                refine V.iald (n := 9) dX8_makes_160 (by first | assumption | exact hI _ (by omega)) (by first | assumption | decide) (by omega) ?_
                refine V.iload dX8_makes_161 rfl ?_
                refine V.aload_n dX8_makes_163 rfl ?_
                refine V.getf (ci := 7) (k := 13) (C := RX8) (T := TX8) (N := 37) dX8_makes_164 lfX8_44 inX8 rfl (by first | assumption | exact hI _ (by omega)) rfl (by decide) rfl ?_
                refine V.iload dX8_makes_167 rfl ?_
                refine V.iald (n := 9) dX8_makes_169 (by first | assumption | exact hI _ (by omega)) (by first | assumption | decide) (by omega) ?_
                refine V.callS dX8_makes_170 (c_X8_product) lkX8_108 st_X8_product cd_X8_product ini_X8 hd_X8_product ⟨Nat.le_of_ble_eq_true rfl, Nat.le_of_ble_eq_true rfl⟩ rfl (Nat.le_of_ble_eq_true rfl) (V.kkF ?_)
                refine V.callS dX8_makes_173 (c_X8_together) lkX8_119 st_X8_together cd_X8_together ini_X8 hd_X8_together ⟨Nat.le_of_ble_eq_true rfl, Nat.le_of_ble_eq_true rfl⟩ rfl (Nat.le_of_ble_eq_true rfl) (V.kkF ?_)
                refine V.iast (n := 9) dX8_makes_176 (by first | assumption | exact hI _ (by omega)) (by first | assumption | decide) (by omega) ?_
                refine V.iincN dX8_makes_177 (by decide) rfl ?_
                refine V.goto (tgt := 141) dX8_makes_180 (by decide) ?_
                refine ix h3 _ (j1.ms (by omega)) (by rw [mset_ne (by decide)]; exact j2) (fun z hz => ?_) (fun z h4 h5 => ?_)
                · by_cases e : z = x
                  · subst e
                    rw [mset_at, j4 z (Nat.le_refl _) h3, j2, k4 z h3, hby]; rfl
                  · rw [mset_nat e]; exact j3 z (by omega)
                · rw [mset_nat (by omega)]; exact j4 z (by omega) h5
          have mid : v_X8_makes g κ (Qm g κ (fun v M' => v = none ∧ keep (fun q => q = 150 ∨ q = 154 ∨ q = 155 ∨ q = 156) M M' ∧ eq9 (M' 156) (mmake s (M 156)))) M2 69 [some (.ref (g.2.2.2.1 142)), some (.int s), some (.ref (g.2.2.2.1 156)), some (.int (mfac n)), some (.int (nI n)), x5, x6] [] := by
            refine V.iload_n dX8_makes_69 rfl ?_
            refine V.bipush (v := nI 101) dX8_makes_70 (by decide) ?_
            refine V.icmp_ne (tgt := 82) dX8_makes_72 (by decide) (fun h4 => ?_) (fun h4 => ?_)
            · refine V.iload_n dX8_makes_82 rfl ?_
              refine V.bipush (v := nI 113) dX8_makes_83 (by decide) ?_
              refine V.icmp_ne (tgt := 102) dX8_makes_85 (by decide) (fun h5 => ?_) (fun h5 => ?_)
              · refine V.iload dX8_makes_102 rfl ?_
                refine V.if_neN (tgt := 111) dX8_makes_104 (by decide) (by omega) (fun h6 => ?_) (fun h6 => ?_)
                · refine V.iload dX8_makes_111 rfl ?_
                  refine V.iconst (v := nI 2) dX8_makes_113 rfl ?_
                  first | refine V.iremN dX8_makes_114 (by omega) (by omega) (by omega) ?_ | refine V.irem dX8_makes_114 (by decide) ?_
                  refine V.iconst (v := nI 1) dX8_makes_115 rfl ?_
                  refine V.neN (tgt := 127) dX8_makes_116 (by decide) (by omega) (by omega) (fun h7 => ?_) (fun h7 => ?_)
                  · refine V.sipush (v := nI 9973) dX8_makes_127 (by decide) ?_
                    refine V.iload dX8_makes_130 rfl ?_
                    refine V.callS dX8_makes_132 (c_X8_over) lkX8_126 st_X8_over cd_X8_over ini_X8 hd_X8_over ⟨Nat.le_of_ble_eq_true rfl, Nat.le_of_ble_eq_true rfl⟩ rfl (Nat.le_of_ble_eq_true rfl) (V.kkF ?_)
                    refine V.isub dX8_makes_135 ?_
                    exact tail _ (by unfold mby; rw [if_neg h4, if_neg h5, if_neg h6, if_neg h7])
                  · refine V.iload dX8_makes_119 rfl ?_
                    refine V.callS dX8_makes_121 (c_X8_over) lkX8_126 st_X8_over cd_X8_over ini_X8 hd_X8_over ⟨Nat.le_of_ble_eq_true rfl, Nat.le_of_ble_eq_true rfl⟩ rfl (Nat.le_of_ble_eq_true rfl) (V.kkF ?_)
                    refine V.goto (tgt := 136) dX8_makes_124 (by decide) ?_
                    exact tail _ (by unfold mby; rw [if_neg h4, if_neg h5, if_neg h6, if_pos h7])
                · refine V.iconst (v := nI 0) dX8_makes_107 rfl ?_
                  refine V.goto (tgt := 136) dX8_makes_108 (by decide) ?_
                  exact tail _ (by unfold mby; rw [if_neg h4, if_neg h5, if_pos h6])
              · refine V.iload_n dX8_makes_88 rfl ?_
                refine V.iload dX8_makes_89 rfl ?_
                refine V.iconst (v := nI 1) dX8_makes_91 rfl ?_
                first | refine V.iaddN dX8_makes_92 ?_ | refine V.iadd dX8_makes_92 ?_
                refine V.callS dX8_makes_93 (c_X8_product) lkX8_108 st_X8_product cd_X8_product ini_X8 hd_X8_product ⟨Nat.le_of_ble_eq_true rfl, Nat.le_of_ble_eq_true rfl⟩ rfl (Nat.le_of_ble_eq_true rfl) (V.kkF ?_)
                refine V.callS dX8_makes_96 (c_X8_over) lkX8_126 st_X8_over cd_X8_over ini_X8 hd_X8_over ⟨Nat.le_of_ble_eq_true rfl, Nat.le_of_ble_eq_true rfl⟩ rfl (Nat.le_of_ble_eq_true rfl) (V.kkF ?_)
                refine V.goto (tgt := 136) dX8_makes_99 (by decide) ?_
                exact tail _ (by unfold mby; rw [if_neg h4, if_pos h5])
            · refine V.iload_n dX8_makes_75 rfl ?_
              refine V.callS dX8_makes_76 (c_X8_over) lkX8_126 st_X8_over cd_X8_over ini_X8 hd_X8_over ⟨Nat.le_of_ble_eq_true rfl, Nat.le_of_ble_eq_true rfl⟩ rfl (Nat.le_of_ble_eq_true rfl) (V.kkF ?_)
              refine V.goto (tgt := 136) dX8_makes_79 (by decide) ?_
              exact tail _ (by unfold mby; rw [if_pos h4])
          refine V.iload dX8_makes_53 rfl ?_
          refine V.if_neN (tgt := 62) dX8_makes_55 (by decide) (by omega) (fun h3 => ?_) (fun h3 => ?_)
          · refine V.iload_n dX8_makes_62 rfl ?_
            refine V.iload dX8_makes_63 rfl ?_
            refine V.callS dX8_makes_65 (c_X8_product) lkX8_108 st_X8_product cd_X8_product ini_X8 hd_X8_product ⟨Nat.le_of_ble_eq_true rfl, Nat.le_of_ble_eq_true rfl⟩ rfl (Nat.le_of_ble_eq_true rfl) (V.kkF ?_)
            refine V.istore_n dX8_makes_68 (by decide) ?_
            have e : fmul x3 (nI n) = mfac n := by
              rw [hx3 (by omega)]
              obtain ⟨m, rfl⟩ : ∃ m, n = m + 1 := ⟨n - 1, by omega⟩
              rfl
            rw [e]
            exact mid
          · refine V.iconst (v := nI 1) dX8_makes_58 rfl ?_
            refine V.goto (tgt := 68) dX8_makes_59 (by decide) ?_
            refine V.istore_n dX8_makes_68 (by decide) ?_
            subst h3
            exact mid
    · refine V.aload_n dX8_makes_12 rfl ?_
      refine V.getf (ci := 7) (k := 13) (C := RX8) (T := TX8) (N := 37) dX8_makes_13 lfX8_44 inX8 rfl (by first | assumption | exact hI _ (by omega)) rfl (by decide) rfl ?_
      refine V.iload dX8_makes_16 rfl ?_
      refine V.iload dX8_makes_18 rfl ?_
      refine V.if_neN (tgt := 27) dX8_makes_20 (by decide) (by omega) (fun h2 => ?_) (fun h2 => ?_)
      · refine V.iconst (v := nI 0) dX8_makes_27 rfl ?_
        refine V.iast (n := 9) dX8_makes_28 (by first | assumption | exact hI _ (by omega)) (by first | assumption | decide) (by omega) ?_
        refine V.aload_n dX8_makes_29 rfl ?_
        refine V.getf (ci := 7) (k := 14) (C := RX8) (T := TX8) (N := 37) dX8_makes_30 lfX8_47 inX8 rfl (by first | assumption | exact hI _ (by omega)) rfl (by decide) rfl ?_
        refine V.iload dX8_makes_33 rfl ?_
        refine V.iconst (v := nI 0) dX8_makes_35 rfl ?_
        refine V.iast (n := 9) dX8_makes_36 (by first | assumption | exact hI _ (by omega)) (by first | assumption | decide) (by omega) ?_
        refine V.iincN dX8_makes_37 (by decide) rfl ?_
        refine V.goto (tgt := 5) dX8_makes_40 (by decide) ?_
        refine ih h1 _ ((k1.ms (by omega)).ms (by omega)) (fun z hz => ?_)
        by_cases e : z = k
        · subst e
          rw [mset_ne (a := 154) (by decide), mset_at, mset_at]
          exact ⟨by simp [mono, h2], rfl⟩
        · rw [mset_ne (a := 154) (by decide), mset_nat e, mset_nat e, mset_ne (a := 155) (by decide)]
          exact k2 z (by omega)
      · refine V.iconst (v := nI 1) dX8_makes_23 rfl ?_
        refine V.goto (tgt := 28) dX8_makes_24 (by decide) ?_
        refine V.iast (n := 9) dX8_makes_28 (by first | assumption | exact hI _ (by omega)) (by first | assumption | decide) (by omega) ?_
        refine V.aload_n dX8_makes_29 rfl ?_
        refine V.getf (ci := 7) (k := 14) (C := RX8) (T := TX8) (N := 37) dX8_makes_30 lfX8_47 inX8 rfl (by first | assumption | exact hI _ (by omega)) rfl (by decide) rfl ?_
        refine V.iload dX8_makes_33 rfl ?_
        refine V.iconst (v := nI 0) dX8_makes_35 rfl ?_
        refine V.iast (n := 9) dX8_makes_36 (by first | assumption | exact hI _ (by omega)) (by first | assumption | decide) (by omega) ?_
        refine V.iincN dX8_makes_37 (by decide) rfl ?_
        refine V.goto (tgt := 5) dX8_makes_40 (by decide) ?_
        refine ih h1 _ ((k1.ms (by omega)).ms (by omega)) (fun z hz => ?_)
        by_cases e : z = k
        · subst e
          rw [mset_ne (a := 154) (by decide), mset_at, mset_at]
          exact ⟨by simp [mono, h2], rfl⟩
        · rw [mset_ne (a := 154) (by decide), mset_nat e, mset_nat e, mset_ne (a := 155) (by decide)]
          exact k2 z (by omega)

