def l4 : List Nat := [2, 3, 4, 5, 6, 7, 8, 9]
def pr4 (k : Nat) : Int32 := if k < 9 then faC k else fmul (faC 8) (nI 9)
theorem pr4_s {k : Nat} (h : k < 9) : fmul (faC k) (nI (k + 1)) = pr4 (k + 1) := by
  have : k = 0 ∨ k = 1 ∨ k = 2 ∨ k = 3 ∨ k = 4 ∨ k = 5 ∨ k = 6 ∨ k = 7 ∨ k = 8 := by omega
  rcases this with rfl | rfl | rfl | rfl | rfl | rfl | rfl | rfl | rfl <;> decide +kernel
/-- the reckoner's tables, the first k of each -/
def m4 (k : Nat) : Mem := fun i j => if j < k ∧ j < 9 then (if i = 2 then exC j else if i = 3 then quC j else if i = 4 then loC j else if i = 5 then faC j else 0) else 0
theorem m4_s {k : Nat} (hk : k < 9) : mset (mset (mset (mset (m4 k) 5 k (faC k)) 2 k (finv (faC k))) 3 k (finv (fmul (faC k) (nI (k + 1))))) 4 k (if k % 2 = 1 then finv (nI k) else fsub (nI 0) (finv (nI k))) = m4 (k + 1) := by
  funext i j
  by_cases e : j = k
  · subst e
    have h1 : j < j + 1 ∧ j < 9 := ⟨by omega, hk⟩
    have h2 : ¬ (j < j ∧ j < 9) := by omega
    by_cases i2 : i = 2
    · subst i2; simp [mset, m4, h1.2, exC]
    by_cases i3 : i = 3
    · subst i3; simp [mset, m4, h1.2, quC]
    by_cases i4 : i = 4
    · subst i4; simp [mset, m4, h1.2, loC]
    by_cases i5 : i = 5
    · subst i5; simp [mset, m4, h1.2]
    simp [mset, m4, i2, i3, i4, i5]
  · have h3 : (j < k + 1 ∧ j < 9) ↔ (j < k ∧ j < 9) := by omega
    simp only [mset, e, if_false, ite_self]
    unfold m4
    simp only [h3]
section X4I
variable {l : Launch} {D : va_G} {y : Nat → ClassId} {ad : Nat → Nat} {A : Nat → Prop} {Q : State → Prop} {κ : Ka}
theorem x4_loop (kend : ∀ x3, U (l, D, y, ad, IN 1 2 10) A cX4_init 4 RX4 none (rmi 1 8 72) Q κ (cont y ad (m4 9)) (8, 72) 146 [some (.ref (ad 1)), some (.int (pr4 9)), some (.int (nI 9)), x3] []) : ∀ (d k : Nat) (x3 : Option Value), k + d = 9 → U (l, D, y, ad, IN 1 2 10) A cX4_init 4 RX4 none (rmi 1 8 72) Q κ (cont y ad (m4 k)) (8, 72) 72 [some (.ref (ad 1)), some (.int (pr4 k)), some (.int (nI k)), x3] [] := by
  intro d
  induction d with
  | zero =>
    intro k x3 h
    have : k = 9 := by omega
    subst this
    refine U.iload_n dX4_init_72 rfl ?_
    refine U.bipush (v := nI 9) dX4_init_73 (by decide) ?_
    exact U.geN (tgt := 146) dX4_init_75 (by decide) (by omega) (by omega) (fun _ => kend x3) (fun h => absurd h (by omega))
  | succ d ih =>
    intro k x3 h
    have hk : k < 9 := by omega
    have nx := ih (k + 1) (some (.int (finv (nI k)))) (by omega)
    rw [← pr4_s hk] at nx
    have e1 : pr4 k = faC k := if_pos hk
    rw [e1]
    refine U.iload_n dX4_init_72 rfl ?_
    refine U.bipush (v := nI 9) dX4_init_73 (by decide) ?_
    refine U.geN (tgt := 146) dX4_init_75 (by decide) (by omega) (by omega) (fun h => absurd h (by omega)) (fun _ => ?_)
    refine U.aload_n dX4_init_78 rfl ?_
    refine U.getfA (o := 1) (ci := 3) (k := 3) (C := RX4) (T := TX4) (N := 8) dX4_init_79 lfX4_21 inX4 rfl (by decide) (yesmem rfl) rfl (show cont y ad _ 1 = o_reck ad from rfl) rfl ?_
    refine U.iload_n dX4_init_82 rfl ?_
    refine U.iload_n dX4_init_83 rfl ?_
    refine U.iastM (i := 5) (n := 9) dX4_init_84 (yesmem rfl) rfl (by decide) hk ?_
    refine U.aload_n dX4_init_85 rfl ?_
    refine U.getfA (o := 1) (ci := 3) (k := 0) (C := RX4) (T := TX4) (N := 8) dX4_init_86 lfX4_9 inX4 rfl (by decide) (yesmem rfl) rfl (show cont y ad _ 1 = o_reck ad from rfl) rfl ?_
    refine U.iload_n dX4_init_89 rfl ?_
    refine U.iload_n dX4_init_90 rfl ?_
    refine U.callS0 dX4_init_91 (fun g M => c_X2_inverse) lkX4_36 st_X2_inverse cd_X2_inverse ini_X2 hd_X2_inverse ⟨Nat.le_of_ble_eq_true rfl, Nat.le_of_ble_eq_true rfl⟩ rfl (Nat.le_of_ble_eq_true rfl) (Nat.le_of_ble_eq_true rfl) (Nat.le_of_ble_eq_true rfl) ?_
    refine U.iastM (i := 2) (n := 9) dX4_init_94 (yesmem rfl) rfl (by decide) hk ?_
    refine U.iload_n dX4_init_95 rfl ?_
    refine U.iload_n dX4_init_96 rfl ?_
    refine U.iconst (v := nI 1) dX4_init_97 rfl ?_
    first | refine U.iaddN dX4_init_98 ?_ | refine U.iadd dX4_init_98 ?_
    refine U.callS0 dX4_init_99 (fun g M => c_X2_multiply) lkX4_42 st_X2_multiply cd_X2_multiply ini_X2 hd_X2_multiply ⟨Nat.le_of_ble_eq_true rfl, Nat.le_of_ble_eq_true rfl⟩ rfl (Nat.le_of_ble_eq_true rfl) (Nat.le_of_ble_eq_true rfl) (Nat.le_of_ble_eq_true rfl) ?_
    refine U.istore_n dX4_init_102 (by decide) ?_
    refine U.aload_n dX4_init_103 rfl ?_
    refine U.getfA (o := 1) (ci := 3) (k := 1) (C := RX4) (T := TX4) (N := 8) dX4_init_104 lfX4_15 inX4 rfl (by decide) (yesmem rfl) rfl (show cont y ad _ 1 = o_reck ad from rfl) rfl ?_
    refine U.iload_n dX4_init_107 rfl ?_
    refine U.iload_n dX4_init_108 rfl ?_
    refine U.callS0 dX4_init_109 (fun g M => c_X2_inverse) lkX4_36 st_X2_inverse cd_X2_inverse ini_X2 hd_X2_inverse ⟨Nat.le_of_ble_eq_true rfl, Nat.le_of_ble_eq_true rfl⟩ rfl (Nat.le_of_ble_eq_true rfl) (Nat.le_of_ble_eq_true rfl) (Nat.le_of_ble_eq_true rfl) ?_
    refine U.iastM (i := 3) (n := 9) dX4_init_112 (yesmem rfl) rfl (by decide) hk ?_
    refine U.iload_n dX4_init_113 rfl ?_
    refine U.callS0 dX4_init_114 (fun g M => c_X2_inverse) lkX4_36 st_X2_inverse cd_X2_inverse ini_X2 hd_X2_inverse ⟨Nat.le_of_ble_eq_true rfl, Nat.le_of_ble_eq_true rfl⟩ rfl (Nat.le_of_ble_eq_true rfl) (Nat.le_of_ble_eq_true rfl) (Nat.le_of_ble_eq_true rfl) ?_
    refine U.istore_n dX4_init_117 (by decide) ?_
    refine U.aload_n dX4_init_118 rfl ?_
    refine U.getfA (o := 1) (ci := 3) (k := 2) (C := RX4) (T := TX4) (N := 8) dX4_init_119 lfX4_18 inX4 rfl (by decide) (yesmem rfl) rfl (show cont y ad _ 1 = o_reck ad from rfl) rfl ?_
    refine U.iload_n dX4_init_122 rfl ?_
    refine U.iload_n dX4_init_123 rfl ?_
    refine U.iconst (v := nI 2) dX4_init_124 rfl ?_
    first | refine U.iremN dX4_init_125 (by omega) (by omega) (by omega) ?_ | refine U.irem dX4_init_125 (by decide) ?_
    refine U.iconst (v := nI 1) dX4_init_126 rfl ?_
    refine U.neN (tgt := 134) dX4_init_127 (by decide) (by omega) (by omega) (fun h2 => ?_) (fun h2 => ?_)
    · refine U.iconst (v := nI 0) dX4_init_134 rfl ?_
      refine U.iload_n dX4_init_135 rfl ?_
      refine U.callS0 dX4_init_136 (fun g M => c_X2_subtract) lkX4_46 st_X2_subtract cd_X2_subtract ini_X2 hd_X2_subtract ⟨Nat.le_of_ble_eq_true rfl, Nat.le_of_ble_eq_true rfl⟩ rfl (Nat.le_of_ble_eq_true rfl) (Nat.le_of_ble_eq_true rfl) (Nat.le_of_ble_eq_true rfl) ?_
      refine U.iastM (i := 4) (n := 9) dX4_init_139 (yesmem rfl) rfl (by decide) hk ?_
      rw [show mset (mset (mset (mset (m4 k) 5 k (faC k)) 2 k (finv (faC k))) 3 k (finv (fmul (faC k) (nI (k + 1))))) 4 k (fsub (nI 0) (finv (nI k))) = m4 (k + 1) from (by have := m4_s hk; rw [if_neg h2] at this; exact this)]
      refine U.iincN dX4_init_140 (by decide) rfl ?_
      refine U.goto (tgt := 72) dX4_init_143 (by decide) ?_
      exact nx
    · refine U.iload_n dX4_init_130 rfl ?_
      refine U.goto (tgt := 139) dX4_init_131 (by decide) ?_
      refine U.iastM (i := 4) (n := 9) dX4_init_139 (yesmem rfl) rfl (by decide) hk ?_
      rw [show mset (mset (mset (mset (m4 k) 5 k (faC k)) 2 k (finv (faC k))) 3 k (finv (fmul (faC k) (nI (k + 1))))) 4 k (finv (nI k)) = m4 (k + 1) from (by have := m4_s hk; rw [if_pos h2] at this; exact this)]
      refine U.iincN dX4_init_140 (by decide) rfl ?_
      refine U.goto (tgt := 72) dX4_init_143 (by decide) ?_
      exact nx
end X4I
theorem i_X4 {l : Launch} {D : va_G} {y : Nat → ClassId} {ad : Nat → Nat} {ce0 : Nat → va_E} (h0 : ce0 1 = .inr (3, [.null, .null, .null, .null, .null, .null, .null, .null])) : Ci (l, D, y, ad, [1]) yX4_init cX4_init 4 1 8 72 [.ref (ad 1)] ce0 [2, 3, 4, 5, 6, 7, 8, 9] (fun ad1 ce1 => ∀ i, 1 ≤ i → i < 10 → ce1 i = cont y ad1 (m4 9) i) := by
  refine Ci.ofU (by decide) rfl (Nat.le_of_ble_eq_true rfl) (by simp [Value.category]) (fun κ hin hao => ?_)
  have hA : ∀ q, κ.2.2.1.heap.size ≤ q → Awi (l, D, y, ad, [1]) κ.2.2.1.heap.size q := fun q h => Or.inr h
  have hls : ∀ i, i ∈ l4 → i = 0 ∨ 2 ≤ i := by decide
  have s2 : SN l4 1 3 2 y (ad 1) 2 ad ce0 := ⟨rfl, h0, fun i g1 g2 => by omega⟩
  show U (l, D, y, ad, IN 1 2 2) _ _ _ _ _ _ _ _ _ _ _ _ _
  generalize hKK : Qmi (l, D, y, ad, [1]) κ [2, 3, 4, 5, 6, 7, 8, 9] 8 72 (fun ad1 ce1 => ∀ i, 1 ≤ i → i < 10 → ce1 i = cont y ad1 (m4 9) i) = QQ
  generalize hAA : Awi (l, D, y, ad, [1]) κ.2.2.1.heap.size = AA at hA ⊢
  refine U.aload_n dX4_init_0 rfl ?_
  refine U.oini dX4_init_1 lkX4_3 (by decide) (by decide) rfl ?_
  refine U.aload_n dX4_init_4 rfl ?_
  refine U.bipush (v := nI 9) dX4_init_5 (by decide) ?_
  refine U.nap (o := 1) (ci := 3) (k := 0) (C := RX4) (T := TX4) (N := 8) (i := 2) tyX4 dX4_init_7 dX4_init_9 hA hin lfX4_9 inX4 tyX4_ok nmX4 rfl (by decide) rfl rfl rfl (by decide) (Nat.le_of_ble_eq_true rfl) (Nat.le_of_ble_eq_true rfl) (nomem rfl) (yesmem rfl) s2.1 s2.2.1 (Nat.le_of_ble_eq_true rfl) (fun ad3 ce3 h1 h2 h3 h4 => ?_)
  have s3 : SN l4 1 3 2 y (ad 1) 3 ad3 ce3 := SN_next (m := 2) hls (by decide) (by decide) s2 h1 h2 h3 h4 rfl (fun _ => rfl)
  clear h1 h2 h3 h4 s2
  rw [IN_succ (by decide)]
  refine U.aload_n dX4_init_12 rfl ?_
  refine U.bipush (v := nI 9) dX4_init_13 (by decide) ?_
  refine U.nap (o := 1) (ci := 3) (k := 1) (C := RX4) (T := TX4) (N := 8) (i := 3) tyX4 dX4_init_15 dX4_init_17 hA hin lfX4_15 inX4 tyX4_ok nmX4 rfl (by decide) rfl rfl rfl (by decide) (Nat.le_of_ble_eq_true rfl) (Nat.le_of_ble_eq_true rfl) (nomem rfl) (yesmem rfl) s3.1 s3.2.1 (Nat.le_of_ble_eq_true rfl) (fun ad4 ce4 h1 h2 h3 h4 => ?_)
  have s4 : SN l4 1 3 2 y (ad 1) 4 ad4 ce4 := SN_next (m := 3) hls (by decide) (by decide) s3 h1 h2 h3 h4 rfl (fun _ => rfl)
  clear h1 h2 h3 h4 s3
  rw [IN_succ (by decide)]
  refine U.aload_n dX4_init_20 rfl ?_
  refine U.bipush (v := nI 9) dX4_init_21 (by decide) ?_
  refine U.nap (o := 1) (ci := 3) (k := 2) (C := RX4) (T := TX4) (N := 8) (i := 4) tyX4 dX4_init_23 dX4_init_25 hA hin lfX4_18 inX4 tyX4_ok nmX4 rfl (by decide) rfl rfl rfl (by decide) (Nat.le_of_ble_eq_true rfl) (Nat.le_of_ble_eq_true rfl) (nomem rfl) (yesmem rfl) s4.1 s4.2.1 (Nat.le_of_ble_eq_true rfl) (fun ad5 ce5 h1 h2 h3 h4 => ?_)
  have s5 : SN l4 1 3 2 y (ad 1) 5 ad5 ce5 := SN_next (m := 4) hls (by decide) (by decide) s4 h1 h2 h3 h4 rfl (fun _ => rfl)
  clear h1 h2 h3 h4 s4
  rw [IN_succ (by decide)]
  refine U.aload_n dX4_init_28 rfl ?_
  refine U.bipush (v := nI 9) dX4_init_29 (by decide) ?_
  refine U.nap (o := 1) (ci := 3) (k := 3) (C := RX4) (T := TX4) (N := 8) (i := 5) tyX4 dX4_init_31 dX4_init_33 hA hin lfX4_21 inX4 tyX4_ok nmX4 rfl (by decide) rfl rfl rfl (by decide) (Nat.le_of_ble_eq_true rfl) (Nat.le_of_ble_eq_true rfl) (nomem rfl) (yesmem rfl) s5.1 s5.2.1 (Nat.le_of_ble_eq_true rfl) (fun ad6 ce6 h1 h2 h3 h4 => ?_)
  have s6 : SN l4 1 3 2 y (ad 1) 6 ad6 ce6 := SN_next (m := 5) hls (by decide) (by decide) s5 h1 h2 h3 h4 rfl (fun _ => rfl)
  clear h1 h2 h3 h4 s5
  rw [IN_succ (by decide)]
  refine U.aload_n dX4_init_36 rfl ?_
  refine U.bipush (v := nI 9) dX4_init_37 (by decide) ?_
  refine U.nap (o := 1) (ci := 3) (k := 4) (C := RX4) (T := TX4) (N := 8) (i := 6) tyX4 dX4_init_39 dX4_init_41 hA hin lfX4_24 inX4 tyX4_ok nmX4 rfl (by decide) rfl rfl rfl (by decide) (Nat.le_of_ble_eq_true rfl) (Nat.le_of_ble_eq_true rfl) (nomem rfl) (yesmem rfl) s6.1 s6.2.1 (Nat.le_of_ble_eq_true rfl) (fun ad7 ce7 h1 h2 h3 h4 => ?_)
  have s7 : SN l4 1 3 2 y (ad 1) 7 ad7 ce7 := SN_next (m := 6) hls (by decide) (by decide) s6 h1 h2 h3 h4 rfl (fun _ => rfl)
  clear h1 h2 h3 h4 s6
  rw [IN_succ (by decide)]
  refine U.aload_n dX4_init_44 rfl ?_
  refine U.bipush (v := nI 9) dX4_init_45 (by decide) ?_
  refine U.nap (o := 1) (ci := 3) (k := 5) (C := RX4) (T := TX4) (N := 8) (i := 7) tyX4 dX4_init_47 dX4_init_49 hA hin lfX4_27 inX4 tyX4_ok nmX4 rfl (by decide) rfl rfl rfl (by decide) (Nat.le_of_ble_eq_true rfl) (Nat.le_of_ble_eq_true rfl) (nomem rfl) (yesmem rfl) s7.1 s7.2.1 (Nat.le_of_ble_eq_true rfl) (fun ad8 ce8 h1 h2 h3 h4 => ?_)
  have s8 : SN l4 1 3 2 y (ad 1) 8 ad8 ce8 := SN_next (m := 7) hls (by decide) (by decide) s7 h1 h2 h3 h4 rfl (fun _ => rfl)
  clear h1 h2 h3 h4 s7
  rw [IN_succ (by decide)]
  refine U.aload_n dX4_init_52 rfl ?_
  refine U.bipush (v := nI 9) dX4_init_53 (by decide) ?_
  refine U.nap (o := 1) (ci := 3) (k := 6) (C := RX4) (T := TX4) (N := 8) (i := 8) tyX4 dX4_init_55 dX4_init_57 hA hin lfX4_30 inX4 tyX4_ok nmX4 rfl (by decide) rfl rfl rfl (by decide) (Nat.le_of_ble_eq_true rfl) (Nat.le_of_ble_eq_true rfl) (nomem rfl) (yesmem rfl) s8.1 s8.2.1 (Nat.le_of_ble_eq_true rfl) (fun ad9 ce9 h1 h2 h3 h4 => ?_)
  have s9 : SN l4 1 3 2 y (ad 1) 9 ad9 ce9 := SN_next (m := 8) hls (by decide) (by decide) s8 h1 h2 h3 h4 rfl (fun _ => rfl)
  clear h1 h2 h3 h4 s8
  rw [IN_succ (by decide)]
  refine U.aload_n dX4_init_60 rfl ?_
  refine U.bipush (v := nI 9) dX4_init_61 (by decide) ?_
  refine U.nap (o := 1) (ci := 3) (k := 7) (C := RX4) (T := TX4) (N := 8) (i := 9) tyX4 dX4_init_63 dX4_init_65 hA hin lfX4_33 inX4 tyX4_ok nmX4 rfl (by decide) rfl rfl rfl (by decide) (Nat.le_of_ble_eq_true rfl) (Nat.le_of_ble_eq_true rfl) (nomem rfl) (yesmem rfl) s9.1 s9.2.1 (Nat.le_of_ble_eq_true rfl) (fun ad10 ce10 h1 h2 h3 h4 => ?_)
  have s10 : SN l4 1 3 2 y (ad 1) 10 ad10 ce10 := SN_next (m := 9) hls (by decide) (by decide) s9 h1 h2 h3 h4 rfl (fun _ => rfl)
  clear h1 h2 h3 h4 s9
  rw [IN_succ (by decide)]
  refine U.wcg (ad' := ad10) (ce' := cont y ad10 (m4 0)) (fun i hi => ⟨rfl, ?_⟩) ?_
  · rcases (IN_mem (by decide)).mp hi with rfl | ⟨g1, g2⟩
    · rw [s10.2.1]; rfl
    · rw [s10.2.2 i g1 g2]
      have h0 : ial i ≠ 0 := by
        have : i = 2 ∨ i = 3 ∨ i = 4 ∨ i = 5 ∨ i = 6 ∨ i = 7 ∨ i = 8 ∨ i = 9 := by omega
        rcases this with rfl | rfl | rfl | rfl | rfl | rfl | rfl | rfl <;> decide
      rw [cont_arr h0, cont_arr h0]
      congr 4
  refine U.iconst (v := nI 1) dX4_init_68 rfl ?_
  refine U.istore_n dX4_init_69 (by decide) ?_
  refine U.iconst (v := nI 0) dX4_init_70 rfl ?_
  refine U.istore_n dX4_init_71 (by decide) ?_
  rw [s10.1]
  refine x4_loop (fun x3 => ?_) 9 0 none rfl
  subst hKK
  subst hAA
  refine U.vret dX4_init_146 rfl rfl (fun i hi => ?_) (fun i _ _ => rfl)
  rw [List.mem_singleton.mp hi]; exact s10.1.symm

