theorem nomem {i : Nat} {I : List Nat} (h : List.elem i I = false) : i ∉ I := fun z => by rw [List.elem_eq_true_of_mem z] at h; cases h
theorem yesmem {i : Nat} {I : List Nat} (h : List.elem i I = true) : i ∈ I := List.mem_of_elem_eq_true h
theorem nomemR {i n : Nat} {I : List Nat} (h : I.all (fun x => decide (x < i) || decide (i + n < x)) = true) : ∀ j, i ≤ j → j ≤ i + n → j ∉ I := fun j h1 h2 hj => by
  have := List.all_eq_true.mp h j hj
  simp at this
  omega
def dfX6 : va_E := .inr (5, [.null, .null, .int 0, .int 0, .null, .int 0, .int 0, .int 0])
theorem i_X6 {l : Launch} {D : va_G} {y : Nat → ClassId} {ad : Nat → Nat} {ce0 : Nat → va_E} (h0 : ce0 10 = dfX6) : Ci (l, D, y, ad, [10]) yX6_init cX6_init 1 1 3 360 [.ref (ad 10)] ce0 [11, 12, 13] (fun ad1 ce1 => ce1 10 = .inr (5, [.ref (ad1 11), .ref (ad1 12), .int 0, .int 0, .ref (ad1 13), .int 0, .int 0, .int (-1)]) ∧ ∀ i, i = 11 ∨ i = 12 ∨ i = 13 → ce1 i = .inl (y 0, 120, .inl (fun _ => 0))) := by
  refine Ci.ofU (by decide) rfl (Nat.le_of_ble_eq_true rfl) (by simp [Value.category]) (fun κ hin hao => ?_)
  have hA : ∀ q, κ.2.2.1.heap.size ≤ q → Awi (l, D, y, ad, [10]) κ.2.2.1.heap.size q := fun q h => Or.inr h
  obtain ⟨ce, rfl⟩ : ∃ ce, ce0 = va_up ce 10 dfX6 := ⟨ce0, by rw [← h0, va_up_id]⟩
  refine U.aload_n dX6_init_0 rfl ?_
  refine U.oini dX6_init_1 lkX6_3 (by decide) (by decide) rfl ?_
  refine U.aload_n dX6_init_4 rfl ?_
  refine U.bipush (v := nI 120) dX6_init_5 (by decide) ?_
  refine U.newa (i := 11) dX6_init_7 hA (nomem rfl) ac_int (by decide) (Nat.le_of_ble_eq_true rfl) (Nat.le_of_ble_eq_true rfl) (fun q11 => ?_)
  refine U.putF (o := 10) (ci := 5) (k := 0) (C := RX6) (T := TX6) (N := 8) (ty := .array .int) tyX6 dX6_init_9 hin lfX6_9 inX6 tyX6_ok nmX6 rfl (yesmem rfl) rfl (by decide) rfl rfl rfl rfl rfl (Nat.le_of_ble_eq_true rfl) ?_
  refine U.aload_n dX6_init_12 rfl ?_
  refine U.bipush (v := nI 120) dX6_init_13 (by decide) ?_
  refine U.newa (i := 12) dX6_init_15 hA (nomem rfl) ac_int (by decide) (Nat.le_of_ble_eq_true rfl) (Nat.le_of_ble_eq_true rfl) (fun q12 => ?_)
  refine U.putF (o := 10) (ci := 5) (k := 1) (C := RX6) (T := TX6) (N := 8) (ty := .array .int) tyX6 dX6_init_17 hin lfX6_15 inX6 tyX6_ok nmX6 rfl (yesmem rfl) rfl (by decide) rfl rfl rfl rfl rfl (Nat.le_of_ble_eq_true rfl) ?_
  refine U.aload_n dX6_init_20 rfl ?_
  refine U.iconst (v := nI 0) dX6_init_21 rfl ?_
  refine U.putf (o := 10) (ci := 5) (k := 2) (C := RX6) (T := TX6) (N := 8) (ty := .int) tyX6 dX6_init_22 lfX6_18 inX6 tyX6_ok nmX6 rfl (yesmem rfl) rfl (by decide) rfl rfl rfl rfl (Nat.le_of_ble_eq_true rfl) ?_
  refine U.aload_n dX6_init_25 rfl ?_
  refine U.iconst (v := nI 0) dX6_init_26 rfl ?_
  refine U.putf (o := 10) (ci := 5) (k := 3) (C := RX6) (T := TX6) (N := 8) (ty := .int) tyX6 dX6_init_27 lfX6_22 inX6 tyX6_ok nmX6 rfl (yesmem rfl) rfl (by decide) rfl rfl rfl rfl (Nat.le_of_ble_eq_true rfl) ?_
  refine U.aload_n dX6_init_30 rfl ?_
  refine U.bipush (v := nI 120) dX6_init_31 (by decide) ?_
  refine U.newa (i := 13) dX6_init_33 hA (nomem rfl) ac_int (by decide) (Nat.le_of_ble_eq_true rfl) (Nat.le_of_ble_eq_true rfl) (fun q13 => ?_)
  refine U.putF (o := 10) (ci := 5) (k := 4) (C := RX6) (T := TX6) (N := 8) (ty := .array .int) tyX6 dX6_init_35 hin lfX6_25 inX6 tyX6_ok nmX6 rfl (yesmem rfl) rfl (by decide) rfl rfl rfl rfl rfl (Nat.le_of_ble_eq_true rfl) ?_
  refine U.aload_n dX6_init_38 rfl ?_
  refine U.iconst (v := nI 0) dX6_init_39 rfl ?_
  refine U.putf (o := 10) (ci := 5) (k := 5) (C := RX6) (T := TX6) (N := 8) (ty := .int) tyX6 dX6_init_40 lfX6_28 inX6 tyX6_ok nmX6 rfl (yesmem rfl) rfl (by decide) rfl rfl rfl rfl (Nat.le_of_ble_eq_true rfl) ?_
  refine U.aload_n dX6_init_43 rfl ?_
  refine U.iconst (v := nI 0) dX6_init_44 rfl ?_
  refine U.putf (o := 10) (ci := 5) (k := 6) (C := RX6) (T := TX6) (N := 8) (ty := .int) tyX6 dX6_init_45 lfX6_31 inX6 tyX6_ok nmX6 rfl (yesmem rfl) rfl (by decide) rfl rfl rfl rfl (Nat.le_of_ble_eq_true rfl) ?_
  refine U.aload_n dX6_init_48 rfl ?_
  refine U.iconst (v := -1) dX6_init_49 rfl ?_
  refine U.putf (o := 10) (ci := 5) (k := 7) (C := RX6) (T := TX6) (N := 8) (ty := .int) tyX6 dX6_init_50 lfX6_34 inX6 tyX6_ok nmX6 rfl (yesmem rfl) rfl (by decide) rfl rfl rfl rfl (Nat.le_of_ble_eq_true rfl) ?_
  refine U.vret dX6_init_53 rfl rfl (fun i hi => ?_) ⟨rfl, fun i hi => ?_⟩
  · rw [List.mem_singleton.mp hi]; rfl
  · rcases hi with rfl | rfl | rfl <;> rfl

