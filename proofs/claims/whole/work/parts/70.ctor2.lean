theorem rarr_cg {c : ClassId} {n : Nat} {r r' : Nat → Nat} (h : ∀ t, t < n → r t = r' t) : rarr c n r = rarr c n r' := by
  have : refs n r = refs n r' := funext (fun t => by
    unfold refs
    by_cases e : t < n
    · rw [if_pos e, if_pos e, h t e]
    · rw [if_neg e, if_neg e])
  unfold rarr; rw [this]
theorem i_X3 {l : Launch} {D : va_G} {y : Nat → ClassId} {ad : Nat → Nat} {ce0 : Nat → va_E} {a1 : Nat} (h0 : ce0 14 = .inr (2, [.null, .null, .null, .int 0])) : Ci (l, D, y, ad, [14]) yX3_init cX3_init 2 1 18 169 [.ref (ad 14), .ref a1] ce0 [15, 16, 17, 18, 19, 20, 21, 22, 23, 24, 25, 26, 27, 28, 29, 30, 31, 32] (fun ad1 ce1 => ce1 14 = .inr (2, [.ref a1, .ref (ad1 15), .ref (ad1 32), .int 0]) ∧ ce1 15 = rarr (y 2) 16 (fun t => ad1 (16 + t)) ∧ ∀ i, i ∈ [16, 17, 18, 19, 20, 21, 22, 23, 24, 25, 26, 27, 28, 29, 30, 31, 32] → ce1 i = .inl (y 0, 9, .inl (fun _ => 0))) := by
  refine Ci.ofU (by decide) rfl (Nat.le_of_ble_eq_true rfl) (by simp [Value.category]) (fun κ hin hao => ?_)
  have hA : ∀ q, κ.2.2.1.heap.size ≤ q → Awi (l, D, y, ad, [14]) κ.2.2.1.heap.size q := fun q h => Or.inr h
  obtain ⟨ce, rfl⟩ : ∃ ce, ce0 = va_up ce 14 (.inr (2, [.null, .null, .null, .int 0])) := ⟨ce0, by rw [← h0, va_up_id]⟩
  refine U.aload_n dX3_init_0 rfl ?_
  refine U.oini dX3_init_1 lkX3_3 (by decide) (by decide) rfl ?_
  refine U.aload_n dX3_init_4 rfl ?_
  refine U.bipush (v := nI 16) dX3_init_5 (by decide) ?_
  refine U.bipush (v := nI 9) dX3_init_7 (by decide) ?_
  refine U.mna (i := 15) (n := 16) (k := 9) dX3_init_9 hA (nomemR rfl) lcX3_9 hao.2.2 ac_int (by decide) (by decide) (Nat.le_of_ble_eq_true rfl) (Nat.le_of_ble_eq_true rfl) (fun q15 r15 => ?_)
  refine U.putF (o := 14) (ci := 2) (k := 1) (C := RX3) (T := TX3) (N := 4) (ty := .array (.array .int)) tyX3 dX3_init_13 hin lfX3_11 inX3 tyX3_ok nmX3 rfl (yesmem rfl) rfl (by decide) rfl rfl rfl rfl rfl (Nat.le_of_ble_eq_true rfl) ?_
  refine U.aload_n dX3_init_16 rfl ?_
  refine U.bipush (v := nI 9) dX3_init_17 (by decide) ?_
  refine U.newa (i := 32) dX3_init_19 hA (nomem rfl) ac_int (by decide) (Nat.le_of_ble_eq_true rfl) (Nat.le_of_ble_eq_true rfl) (fun q32 => ?_)
  refine U.putF (o := 14) (ci := 2) (k := 2) (C := RX3) (T := TX3) (N := 4) (ty := .array .int) tyX3 dX3_init_21 hin lfX3_16 inX3 tyX3_ok nmX3 rfl (yesmem rfl) rfl (by decide) rfl rfl rfl rfl rfl (Nat.le_of_ble_eq_true rfl) ?_
  refine U.aload_n dX3_init_24 rfl ?_
  refine U.iconst (v := nI 0) dX3_init_25 rfl ?_
  refine U.putf (o := 14) (ci := 2) (k := 3) (C := RX3) (T := TX3) (N := 4) (ty := .int) tyX3 dX3_init_26 lfX3_20 inX3 tyX3_ok nmX3 rfl (yesmem rfl) rfl (by decide) rfl rfl rfl rfl (Nat.le_of_ble_eq_true rfl) ?_
  refine U.aload_n dX3_init_29 rfl ?_
  refine U.aload_n dX3_init_30 rfl ?_
  refine U.putF (o := 14) (ci := 2) (k := 0) (C := RX3) (T := TX3) (N := 4) (ty := .object RX4) tyX3 dX3_init_31 hin lfX3_24 inX3 tyX3_ok nmX3 rfl (yesmem rfl) rfl (by decide) rfl rfl rfl rfl rfl (Nat.le_of_ble_eq_true rfl) ?_
  refine U.vret dX3_init_34 rfl rfl (fun i hi => ?_) ⟨rfl, ?_, fun i hi => ?_⟩
  · rw [List.mem_singleton.mp hi]; rfl
  · refine rarr_cg (fun t ht => ?_)
    have h4 : t = 0 ∨ t = 1 ∨ t = 2 ∨ t = 3 ∨ t = 4 ∨ t = 5 ∨ t = 6 ∨ t = 7 ∨ t = 8 ∨ t = 9 ∨ t = 10 ∨ t = 11 ∨ t = 12 ∨ t = 13 ∨ t = 14 ∨ t = 15 := by omega
    rcases h4 with rfl | rfl | rfl | rfl | rfl | rfl | rfl | rfl | rfl | rfl | rfl | rfl | rfl | rfl | rfl | rfl <;> rfl
  · simp only [List.mem_cons, List.not_mem_nil, or_false] at hi
    rcases hi with rfl | rfl | rfl | rfl | rfl | rfl | rfl | rfl | rfl | rfl | rfl | rfl | rfl | rfl | rfl | rfl | rfl <;> rfl
theorem i_X0 {l : Launch} {D : va_G} {y : Nat → ClassId} {ad : Nat → Nat} {ce0 : Nat → va_E} (h0 : ce0 102 = .inr (0, [.null, .int 0, .null, .int 0])) : Ci (l, D, y, ad, [102]) yX0_init cX0_init 1 1 10 89 [.ref (ad 102)] ce0 [103, 104, 105, 106, 107, 108, 109, 110, 111, 112] (fun ad1 ce1 => ce1 102 = .inr (0, [.ref (ad1 103), .int 0, .ref (ad1 104), .int 0]) ∧ ce1 104 = rarr (y 2) 8 (fun t => ad1 (105 + t)) ∧ ∀ i, i ∈ [103, 105, 106, 107, 108, 109, 110, 111, 112] → ce1 i = .inl (y 0, 9, .inl (fun _ => 0))) := by
  refine Ci.ofU (by decide) rfl (Nat.le_of_ble_eq_true rfl) (by simp [Value.category]) (fun κ hin hao => ?_)
  have hA : ∀ q, κ.2.2.1.heap.size ≤ q → Awi (l, D, y, ad, [102]) κ.2.2.1.heap.size q := fun q h => Or.inr h
  obtain ⟨ce, rfl⟩ : ∃ ce, ce0 = va_up ce 102 (.inr (0, [.null, .int 0, .null, .int 0])) := ⟨ce0, by rw [← h0, va_up_id]⟩
  refine U.aload_n dX0_init_0 rfl ?_
  refine U.oini dX0_init_1 lkX0_3 (by decide) (by decide) rfl ?_
  refine U.aload_n dX0_init_4 rfl ?_
  refine U.bipush (v := nI 9) dX0_init_5 (by decide) ?_
  refine U.newa (i := 103) dX0_init_7 hA (nomem rfl) ac_int (by decide) (Nat.le_of_ble_eq_true rfl) (Nat.le_of_ble_eq_true rfl) (fun q103 => ?_)
  refine U.putF (o := 102) (ci := 0) (k := 0) (C := RX0) (T := TX0) (N := 4) (ty := .array .int) tyX0 dX0_init_9 hin lfX0_9 inX0 tyX0_ok nmX0 rfl (yesmem rfl) rfl (by decide) rfl rfl rfl rfl rfl (Nat.le_of_ble_eq_true rfl) ?_
  refine U.aload_n dX0_init_12 rfl ?_
  refine U.iconst (v := nI 0) dX0_init_13 rfl ?_
  refine U.putf (o := 102) (ci := 0) (k := 1) (C := RX0) (T := TX0) (N := 4) (ty := .int) tyX0 dX0_init_14 lfX0_15 inX0 tyX0_ok nmX0 rfl (yesmem rfl) rfl (by decide) rfl rfl rfl rfl (Nat.le_of_ble_eq_true rfl) ?_
  refine U.aload_n dX0_init_17 rfl ?_
  refine U.bipush (v := nI 8) dX0_init_18 (by decide) ?_
  refine U.bipush (v := nI 9) dX0_init_20 (by decide) ?_
  refine U.mna (i := 104) (n := 8) (k := 9) dX0_init_22 hA (nomemR rfl) lcX0_19 hao.2.2 ac_int (by decide) (by decide) (Nat.le_of_ble_eq_true rfl) (Nat.le_of_ble_eq_true rfl) (fun q104 r104 => ?_)
  refine U.putF (o := 102) (ci := 0) (k := 2) (C := RX0) (T := TX0) (N := 4) (ty := .array (.array .int)) tyX0 dX0_init_26 hin lfX0_21 inX0 tyX0_ok nmX0 rfl (yesmem rfl) rfl (by decide) rfl rfl rfl rfl rfl (Nat.le_of_ble_eq_true rfl) ?_
  refine U.aload_n dX0_init_29 rfl ?_
  refine U.iconst (v := nI 0) dX0_init_30 rfl ?_
  refine U.putf (o := 102) (ci := 0) (k := 3) (C := RX0) (T := TX0) (N := 4) (ty := .int) tyX0 dX0_init_31 lfX0_24 inX0 tyX0_ok nmX0 rfl (yesmem rfl) rfl (by decide) rfl rfl rfl rfl (Nat.le_of_ble_eq_true rfl) ?_
  refine U.vret dX0_init_34 rfl rfl (fun i hi => ?_) ⟨rfl, ?_, fun i hi => ?_⟩
  · rw [List.mem_singleton.mp hi]; rfl
  · refine rarr_cg (fun t ht => ?_)
    have h4 : t = 0 ∨ t = 1 ∨ t = 2 ∨ t = 3 ∨ t = 4 ∨ t = 5 ∨ t = 6 ∨ t = 7 := by omega
    rcases h4 with rfl | rfl | rfl | rfl | rfl | rfl | rfl | rfl <;> rfl
  · simp only [List.mem_cons, List.not_mem_nil, or_false] at hi
    rcases hi with rfl | rfl | rfl | rfl | rfl | rfl | rfl | rfl | rfl <;> rfl
theorem i_X1a {l : Launch} {D : va_G} {y : Nat → ClassId} {ad : Nat → Nat} {ce0 : Nat → va_E} (h0 : ce0 114 = .inr (1, [.null, .null, .null, .int 0])) : Ci (l, D, y, ad, [114]) yX1_init cX1_init 1 1 11 89 [.ref (ad 114)] ce0 [115, 116, 117, 118, 119, 120, 121, 122, 123, 124, 125] (fun ad1 ce1 => ce1 114 = .inr (1, [.ref (ad1 115), .ref (ad1 120), .ref (ad1 125), .int 0]) ∧ ce1 115 = rarr (y 2) 4 (fun t => ad1 (116 + t)) ∧ ce1 120 = rarr (y 2) 4 (fun t => ad1 (121 + t)) ∧ ∀ i, i ∈ [116, 117, 118, 119, 121, 122, 123, 124, 125] → ce1 i = .inl (y 0, 9, .inl (fun _ => 0))) := by
  refine Ci.ofU (by decide) rfl (Nat.le_of_ble_eq_true rfl) (by simp [Value.category]) (fun κ hin hao => ?_)
  have hA : ∀ q, κ.2.2.1.heap.size ≤ q → Awi (l, D, y, ad, [114]) κ.2.2.1.heap.size q := fun q h => Or.inr h
  obtain ⟨ce, rfl⟩ : ∃ ce, ce0 = va_up ce 114 (.inr (1, [.null, .null, .null, .int 0])) := ⟨ce0, by rw [← h0, va_up_id]⟩
  refine U.aload_n dX1_init_0 rfl ?_
  refine U.oini dX1_init_1 lkX1_3 (by decide) (by decide) rfl ?_
  refine U.aload_n dX1_init_4 rfl ?_
  refine U.iconst (v := nI 4) dX1_init_5 rfl ?_
  refine U.bipush (v := nI 9) dX1_init_6 (by decide) ?_
  refine U.mna (i := 115) (n := 4) (k := 9) dX1_init_8 hA (nomemR rfl) lcX1_9 hao.2.2 ac_int (by decide) (by decide) (Nat.le_of_ble_eq_true rfl) (Nat.le_of_ble_eq_true rfl) (fun q115 r115 => ?_)
  refine U.putF (o := 114) (ci := 1) (k := 0) (C := RX1) (T := TX1) (N := 4) (ty := .array (.array .int)) tyX1 dX1_init_12 hin lfX1_11 inX1 tyX1_ok nmX1 rfl (yesmem rfl) rfl (by decide) rfl rfl rfl rfl rfl (Nat.le_of_ble_eq_true rfl) ?_
  refine U.aload_n dX1_init_15 rfl ?_
  refine U.iconst (v := nI 4) dX1_init_16 rfl ?_
  refine U.bipush (v := nI 9) dX1_init_17 (by decide) ?_
  refine U.mna (i := 120) (n := 4) (k := 9) dX1_init_19 hA (nomemR rfl) lcX1_9 hao.2.2 ac_int (by decide) (by decide) (Nat.le_of_ble_eq_true rfl) (Nat.le_of_ble_eq_true rfl) (fun q120 r120 => ?_)
  refine U.putF (o := 114) (ci := 1) (k := 1) (C := RX1) (T := TX1) (N := 4) (ty := .array (.array .int)) tyX1 dX1_init_23 hin lfX1_16 inX1 tyX1_ok nmX1 rfl (yesmem rfl) rfl (by decide) rfl rfl rfl rfl rfl (Nat.le_of_ble_eq_true rfl) ?_
  refine U.aload_n dX1_init_26 rfl ?_
  refine U.bipush (v := nI 9) dX1_init_27 (by decide) ?_
  refine U.newa (i := 125) dX1_init_29 hA (nomem rfl) ac_int (by decide) (Nat.le_of_ble_eq_true rfl) (Nat.le_of_ble_eq_true rfl) (fun q125 => ?_)
  refine U.putF (o := 114) (ci := 1) (k := 2) (C := RX1) (T := TX1) (N := 4) (ty := .array .int) tyX1 dX1_init_31 hin lfX1_19 inX1 tyX1_ok nmX1 rfl (yesmem rfl) rfl (by decide) rfl rfl rfl rfl rfl (Nat.le_of_ble_eq_true rfl) ?_
  refine U.aload_n dX1_init_34 rfl ?_
  refine U.iconst (v := nI 0) dX1_init_35 rfl ?_
  refine U.putf (o := 114) (ci := 1) (k := 3) (C := RX1) (T := TX1) (N := 4) (ty := .boolean) tyX1 dX1_init_36 lfX1_23 inX1 tyX1_ok nmX1 rfl (yesmem rfl) rfl (by decide) rfl rfl rfl rfl (Nat.le_of_ble_eq_true rfl) ?_
  refine U.vret dX1_init_39 rfl rfl (fun i hi => ?_) ⟨rfl, ?_, ?_, fun i hi => ?_⟩
  · rw [List.mem_singleton.mp hi]; rfl
  · refine rarr_cg (fun t ht => ?_)
    have h4 : t = 0 ∨ t = 1 ∨ t = 2 ∨ t = 3 := by omega
    rcases h4 with rfl | rfl | rfl | rfl <;> rfl
  · refine rarr_cg (fun t ht => ?_)
    have h4 : t = 0 ∨ t = 1 ∨ t = 2 ∨ t = 3 := by omega
    rcases h4 with rfl | rfl | rfl | rfl <;> rfl
  · simp only [List.mem_cons, List.not_mem_nil, or_false] at hi
    rcases hi with rfl | rfl | rfl | rfl | rfl | rfl | rfl | rfl | rfl <;> rfl
theorem i_X1b {l : Launch} {D : va_G} {y : Nat → ClassId} {ad : Nat → Nat} {ce0 : Nat → va_E} (h0 : ce0 126 = .inr (1, [.null, .null, .null, .int 0])) : Ci (l, D, y, ad, [126]) yX1_init cX1_init 1 1 11 89 [.ref (ad 126)] ce0 [127, 128, 129, 130, 131, 132, 133, 134, 135, 136, 137] (fun ad1 ce1 => ce1 126 = .inr (1, [.ref (ad1 127), .ref (ad1 132), .ref (ad1 137), .int 0]) ∧ ce1 127 = rarr (y 2) 4 (fun t => ad1 (128 + t)) ∧ ce1 132 = rarr (y 2) 4 (fun t => ad1 (133 + t)) ∧ ∀ i, i ∈ [128, 129, 130, 131, 133, 134, 135, 136, 137] → ce1 i = .inl (y 0, 9, .inl (fun _ => 0))) := by
  refine Ci.ofU (by decide) rfl (Nat.le_of_ble_eq_true rfl) (by simp [Value.category]) (fun κ hin hao => ?_)
  have hA : ∀ q, κ.2.2.1.heap.size ≤ q → Awi (l, D, y, ad, [126]) κ.2.2.1.heap.size q := fun q h => Or.inr h
  obtain ⟨ce, rfl⟩ : ∃ ce, ce0 = va_up ce 126 (.inr (1, [.null, .null, .null, .int 0])) := ⟨ce0, by rw [← h0, va_up_id]⟩
  refine U.aload_n dX1_init_0 rfl ?_
  refine U.oini dX1_init_1 lkX1_3 (by decide) (by decide) rfl ?_
  refine U.aload_n dX1_init_4 rfl ?_
  refine U.iconst (v := nI 4) dX1_init_5 rfl ?_
  refine U.bipush (v := nI 9) dX1_init_6 (by decide) ?_
  refine U.mna (i := 127) (n := 4) (k := 9) dX1_init_8 hA (nomemR rfl) lcX1_9 hao.2.2 ac_int (by decide) (by decide) (Nat.le_of_ble_eq_true rfl) (Nat.le_of_ble_eq_true rfl) (fun q127 r127 => ?_)
  refine U.putF (o := 126) (ci := 1) (k := 0) (C := RX1) (T := TX1) (N := 4) (ty := .array (.array .int)) tyX1 dX1_init_12 hin lfX1_11 inX1 tyX1_ok nmX1 rfl (yesmem rfl) rfl (by decide) rfl rfl rfl rfl rfl (Nat.le_of_ble_eq_true rfl) ?_
  refine U.aload_n dX1_init_15 rfl ?_
  refine U.iconst (v := nI 4) dX1_init_16 rfl ?_
  refine U.bipush (v := nI 9) dX1_init_17 (by decide) ?_
  refine U.mna (i := 132) (n := 4) (k := 9) dX1_init_19 hA (nomemR rfl) lcX1_9 hao.2.2 ac_int (by decide) (by decide) (Nat.le_of_ble_eq_true rfl) (Nat.le_of_ble_eq_true rfl) (fun q132 r132 => ?_)
  refine U.putF (o := 126) (ci := 1) (k := 1) (C := RX1) (T := TX1) (N := 4) (ty := .array (.array .int)) tyX1 dX1_init_23 hin lfX1_16 inX1 tyX1_ok nmX1 rfl (yesmem rfl) rfl (by decide) rfl rfl rfl rfl rfl (Nat.le_of_ble_eq_true rfl) ?_
  refine U.aload_n dX1_init_26 rfl ?_
  refine U.bipush (v := nI 9) dX1_init_27 (by decide) ?_
  refine U.newa (i := 137) dX1_init_29 hA (nomem rfl) ac_int (by decide) (Nat.le_of_ble_eq_true rfl) (Nat.le_of_ble_eq_true rfl) (fun q137 => ?_)
  refine U.putF (o := 126) (ci := 1) (k := 2) (C := RX1) (T := TX1) (N := 4) (ty := .array .int) tyX1 dX1_init_31 hin lfX1_19 inX1 tyX1_ok nmX1 rfl (yesmem rfl) rfl (by decide) rfl rfl rfl rfl rfl (Nat.le_of_ble_eq_true rfl) ?_
  refine U.aload_n dX1_init_34 rfl ?_
  refine U.iconst (v := nI 0) dX1_init_35 rfl ?_
  refine U.putf (o := 126) (ci := 1) (k := 3) (C := RX1) (T := TX1) (N := 4) (ty := .boolean) tyX1 dX1_init_36 lfX1_23 inX1 tyX1_ok nmX1 rfl (yesmem rfl) rfl (by decide) rfl rfl rfl rfl (Nat.le_of_ble_eq_true rfl) ?_
  refine U.vret dX1_init_39 rfl rfl (fun i hi => ?_) ⟨rfl, ?_, ?_, fun i hi => ?_⟩
  · rw [List.mem_singleton.mp hi]; rfl
  · refine rarr_cg (fun t ht => ?_)
    have h4 : t = 0 ∨ t = 1 ∨ t = 2 ∨ t = 3 := by omega
    rcases h4 with rfl | rfl | rfl | rfl <;> rfl
  · refine rarr_cg (fun t ht => ?_)
    have h4 : t = 0 ∨ t = 1 ∨ t = 2 ∨ t = 3 := by omega
    rcases h4 with rfl | rfl | rfl | rfl <;> rfl
  · simp only [List.mem_cons, List.not_mem_nil, or_false] at hi
    rcases hi with rfl | rfl | rfl | rfl | rfl | rfl | rfl | rfl | rfl <;> rfl

