section UT3
variable {l : Launch} {D : va_G} {y : Nat → ClassId} {ad : Nat → Nat} {I : List Nat} {c s : Nat} {A : Nat → Prop} {cc : ByteArray} {nL : Nat} {own : String} {ret : Option FieldType} {R : Room} {Q : State → Prop} {κ : Ka} {ce : Nat → va_E} {pc : Nat} {L : List (Option Value)} {st : List Value} {M : Mem}
theorem U.putFA {o ci k N index a : Nat} {C : String} {T : u_T} {fs : List Value} {v : Value} {ty : FieldType} (ty0 : Nat → FieldType) (d2 : decode cc pc = .ok (.putfield index, 3)) (hm : κ.2.2.2.2.2.2.1.name = "<init>") (hlink : Cond.fieldLink own index (T k).1 (T k).2.1 (T k).2.2.1 ∈ gw) (hin : ∀ w ∈ u_ws C T N, w ∈ gw) (hty : ∀ k, k < N → parseFieldDescriptor (T k).2.2.1 = some (ty0 k)) (hnm : ∀ a, a < N → ∀ b, b < N → a ≠ b → (T a).2.1 ≠ (T b).2.1) (hcl : cls[ci]? = some (C, T, N)) (hk : k < N) (hfin : (T k).2.2.2 = true) (hdecl : (T k).1 = own) (he : ty0 k = ty) (hn : narrow ty v = v) (hfit : fits ty v = true) (ho : o ∈ I) (ha : a = ad o) (hc : ce o = .inr (ci, fs)) (hl0 : k < fs.length)
    (kk : ∀ ce', (∀ j, j ∈ I → j ≠ o → ce' j = ce j) → ce' o = .inr (ci, fs.set k v) → U (l, D, y, ad, I) A cc nL own ret R Q κ ce' (c, s) (pc + 3) L st) : U (l, D, y, ad, I) A cc nL own ret R Q κ ce (c, s) pc L (v :: .ref a :: st) := by
  subst ha
  refine U.putF (g := (l, D, y, ad, I)) (o := o) (fs := fs) ty0 d2 hm hlink hin hty hnm hcl ho hc hk hfin hdecl he hn hfit hl0 ?_
  exact kk _ (fun j _ h => va_up_ne _ _ h) (va_up_self _ _ _)
theorem U.mnap {o ci k N index ix i n w a : Nat} {C : String} {T : u_T} {fs : List Value} (ty0 : Nat → FieldType) (d1 : decode cc pc = .ok (.multianewarray ix 2, 4)) (d2 : decode cc (pc + 4) = .ok (.putfield index, 3)) (hA : ∀ q, κ.2.2.1.heap.size ≤ q → A q) (hlc : Cond.classLink own ix "[[I" ∈ gw) (hao : va_AOA .int κ.2.2.1) (hm : κ.2.2.2.2.2.2.1.name = "<init>") (hlink : Cond.fieldLink own index (T k).1 (T k).2.1 (T k).2.2.1 ∈ gw) (hin : ∀ w ∈ u_ws C T N, w ∈ gw) (hty : ∀ k, k < N → parseFieldDescriptor (T k).2.2.1 = some (ty0 k)) (hnm : ∀ a, a < N → ∀ b, b < N → a ≠ b → (T a).2.1 ≠ (T b).2.1) (hcl : cls[ci]? = some (C, T, N)) (hk : k < N) (hfin : (T k).2.2.2 = true) (hdecl : (T k).1 = own) (he : ty0 k = .array (.array .int)) (hn : n ≤ 162) (hw : w ≤ 162) (h1 : c + (1 + n) ≤ R.cells) (h2 : s + (n + n * w) ≤ R.slots) (hi : ∀ j, i ≤ j → j ≤ i + n → j ∉ I) (ho : o ∈ I) (ha : a = ad o) (hc : ce o = .inr (ci, fs)) (hl0 : k < fs.length)
    (kk : ∀ ad' ce', (∀ j, j ∈ I → ad' j = ad j) → (∀ j, j ∈ I → j ≠ o → ce' j = ce j) → ce' i = rarr (y 2) n (fun t => ad' (i + 1 + t)) → (∀ j, i < j → j ≤ i + n → ce' j = .inl (y 0, w, .inl (fun _ => 0))) → ce' o = .inr (ci, fs.set k (.ref (ad' i))) → U (l, D, y, ad', I ++ mnI i n) A cc nL own ret R Q κ ce' (c + 1 + n, s + n + n * w) (pc + 4 + 3) L st) : U (l, D, y, ad, I) A cc nL own ret R Q κ ce (c, s) pc L (.int (nI w) :: .int (nI n) :: .ref a :: st) := by
  subst ha
  have hoi : ¬ (i ≤ o ∧ o ≤ i + n) := fun z => hi o z.1 z.2 ho
  have hne : ∀ j, j ∈ I → ¬ (i ≤ j ∧ j ≤ i + n) := fun j hj z => hi j z.1 z.2 hj
  refine U.mna (g := (l, D, y, ad, I)) (kc := (c, s)) (i := i) (n := n) (k := w) d1 hA hi hlc hao ac_int hn hw h1 h2 (fun q r => ?_)
  have eA : ∀ j, j ∈ I → mnA ad i n q r j = ad j := fun j hj => by
    have := hne j hj
    unfold mnA; rw [if_neg (by omega), if_neg (by omega)]
  have eC : ∀ j, j ∈ I → mnC y (mnA ad i n q r) ce i n w j = ce j := fun j hj => by
    have := hne j hj
    unfold mnC; rw [if_neg (by omega), if_neg (by omega)]
  have e0 : mnA ad i n q r i = q := if_pos rfl
  show U (l, D, y, mnA ad i n q r, I ++ mnI i n) A cc nL own ret R Q κ (mnC y (mnA ad i n q r) ce i n w) (c + 1 + n, s + n + n * w) (pc + 4) L (.ref q :: .ref (ad o) :: st)
  refine U.putFA (o := o) (fs := fs) ty0 d2 hm hlink hin hty hnm hcl hk hfin hdecl he rfl rfl (List.mem_append.mpr (Or.inl ho)) (eA o ho).symm ((eC o ho).trans hc) hl0 (fun ce' g1 g2 => ?_)
  refine kk _ ce' eA (fun j hj h => (g1 j (List.mem_append.mpr (Or.inl hj)) h).trans (eC j hj)) ?_ (fun j z1 z2 => ?_) ?_
  · rw [g1 i (List.mem_append.mpr (Or.inr List.mem_cons_self)) (by omega)]
    unfold mnC; rw [if_pos rfl]
  · rw [g1 j (List.mem_append.mpr (Or.inr (List.mem_cons_of_mem _ (List.mem_map.mpr ⟨j - i - 1, List.mem_range.mpr (by omega), by omega⟩)))) (by omega)]
    unfold mnC; rw [if_neg (by omega), if_pos ⟨z1, z2⟩]
  · rw [g2, e0]
/-- calls, where one memory tells what all cells are -/
theorem U.callSNM {yn : MethodName} {c2 : ByteArray} {n2 d2 index : Nat} {r2 : Option FieldType} {av st0 : List Value} {Qr : Option Value → Mem → Prop} {host : String} (d : decode cc pc = .ok (.invokestatic index, 3)) (hn : I.Nodup) (hM : Ct (l, D, y, ad, I) yn c2 n2 r2 d2 av M Qr) (hl : Cond.methodLinkNest own index yn host ∈ nws) (hst : Cond.static yn ∈ gw) (hc : Cond.code yn c2 n2 r2 ∈ gw) (hi : Cond.initialized yn.cls ∈ gw)
    (hd : yn.cls ≠ "java/lang/invoke/MethodHandle" ∧ yn.cls ≠ "java/lang/invoke/VarHandle" ∧ (parseMethodDescriptor yn.desc).map (fun d => d.parameters.length) = some av.length) (hR : d2 + 1 ≤ R.frames ∧ 8 + (n2 + 11) + 40 * d2 ≤ R.locals) (h0 : st0 = av.reverse ++ st) (hw : (st.map fun v => v.category).sum ≤ 8) (hk1 : c ≤ R.cells) (hk2 : s ≤ R.slots)
    (kk : ∀ (v : Option Value) (M' : Mem), Qr v M' → U (l, D, y, ad, I) A cc nL own ret R Q κ (cont y ad M') (c, s) (pc + 3) L (v.toList ++ st)) : U (l, D, y, ad, I) A cc nL own ret R Q κ (cont y ad M) (c, s) pc L st0 := by
  refine U.callSN (g := (l, D, y, ad, I)) (kc := (c, s)) (I2 := I) (M := M) d (fun i hi => ⟨hi, rfl⟩) hn hM hl hst hc hi hd hR h0 hw hk1 hk2 (fun v M' hq => ?_)
  exact U.wcg (fun i hi => ⟨rfl, if_pos hi⟩) (kk v M' hq)
theorem U.callVM {yn : MethodName} {c2 : ByteArray} {n2 d2 index o ci N : Nat} {T : u_T} {fs : List Value} {r2 : Option FieldType} {av st0 : List Value} {Qr : Option Value → Mem → Prop} {a : Nat} (d : decode cc pc = .ok (.invokevirtual index, 3)) (hn : I.Nodup) (ha : a = ad o) (hM : Ct (l, D, y, ad, I) yn c2 n2 r2 d2 (.ref (ad o) :: av) M Qr) (hl : Cond.methodLink own index yn ∈ gw) (him : Cond.instanceMethod yn ∈ gw) (hse : Cond.selects yn.cls yn yn ∈ gw) (hc : Cond.code yn c2 n2 r2 ∈ gw) (hi : Cond.initialized yn.cls ∈ gw)
    (hcl : cls[ci]? = some (yn.cls, T, N)) (ho : o ∈ I) (hco : cont y ad M o = .inr (ci, fs))
    (hd : yn.cls ≠ "java/lang/invoke/MethodHandle" ∧ yn.cls ≠ "java/lang/invoke/VarHandle" ∧ (parseMethodDescriptor yn.desc).map (fun d => d.parameters.length) = some av.length) (hR : d2 + 1 ≤ R.frames ∧ 8 + (n2 + 11) + 40 * d2 ≤ R.locals) (h0 : st0 = av.reverse ++ .ref a :: st) (hw : (st.map fun v => v.category).sum ≤ 8) (hk1 : c ≤ R.cells) (hk2 : s ≤ R.slots)
    (kk : ∀ (v : Option Value) (M' : Mem), Qr v M' → U (l, D, y, ad, I) A cc nL own ret R Q κ (cont y ad M') (c, s) (pc + 3) L (v.toList ++ st)) : U (l, D, y, ad, I) A cc nL own ret R Q κ (cont y ad M) (c, s) pc L st0 := by
  subst ha
  refine U.callV (g := (l, D, y, ad, I)) (kc := (c, s)) (I2 := I) (M := M) (o := o) d (fun i hi => ⟨hi, rfl⟩) hn hM hl him hse hc hi hcl ho hco hd hR h0 hw hk1 hk2 (fun v M' hq => ?_)
  exact U.wcg (fun i hi => ⟨rfl, if_pos hi⟩) (kk v M' hq)
end UT3
def I5 (o m : Nat) : List Nat := o :: (List.range' 1 9 ++ List.range' (o + 1) m)
theorem I5_mem {o m i : Nat} : i ∈ I5 o m ↔ i = o ∨ (1 ≤ i ∧ i < 10) ∨ (o + 1 ≤ i ∧ i < o + 1 + m) := by
  unfold I5
  rw [List.mem_cons, List.mem_append, List.mem_range'_1, List.mem_range'_1]
theorem I5_succ {o m : Nat} : I5 o m ++ [o + 1 + m] = I5 o (m + 1) := by
  unfold I5
  rw [List.range'_concat (s := o + 1), List.cons_append, List.append_assoc, Nat.one_mul]
theorem I5_mna {o : Nat} : I5 o 4 ++ mnI (o + 5) 9 = I5 o 14 := rfl
theorem I5_nd {o m : Nat} (h : 34 ≤ o) : (I5 o m).Nodup := by
  unfold I5
  refine List.nodup_cons.mpr ⟨fun z => ?_, List.nodup_append.mpr ⟨List.nodup_range', List.nodup_range', fun a ha b hb e => ?_⟩⟩
  · rw [List.mem_append, List.mem_range'_1, List.mem_range'_1] at z; omega
  · rw [List.mem_range'_1] at ha hb; omega
def r5 (o : Nat) (ad : Nat → Nat) (m k : Nat) : Value := if k < m then .ref (ad (o + 1 + k)) else .null
def f5 (o : Nat) (ad : Nat → Nat) (m : Nat) : List Value := [r5 o ad m 0, r5 o ad m 1, r5 o ad m 2, r5 o ad m 3, r5 o ad m 4, .null, r5 o ad m 14, r5 o ad m 15]
theorem f5_cg {o m : Nat} {ad ad' : Nat → Nat} (h : ∀ j, j < m → ad' (o + 1 + j) = ad (o + 1 + j)) : f5 o ad m = f5 o ad' m := by
  have e : ∀ k, r5 o ad m k = r5 o ad' m k := fun k => by
    unfold r5
    by_cases z : k < m
    · rw [if_pos z, if_pos z, h k z]
    · rw [if_neg z, if_neg z]
  unfold f5
  rw [e 0, e 1, e 2, e 3, e 4, e 14, e 15]
def S5 (y : Nat → ClassId) (o a m : Nat) (ad0 ad : Nat → Nat) (ce0 ce : Nat → va_E) : Prop := a = ad o ∧ ce o = .inr (4, f5 o ad m) ∧ (∀ i, 1 ≤ i → i < 10 → ad i = ad0 i ∧ ce i = ce0 i) ∧ (∀ i, o + 1 ≤ i → i < o + 1 + m → i ≠ o + 5 → ce i = .inl (y 0, 9, .inl (fun _ => 0))) ∧ (4 < m → ce (o + 5) = rarr (y 2) 9 (fun t => ad (o + 5 + 1 + t)))
theorem S5_next {y : Nat → ClassId} {o a m k : Nat} {ad0 ad ad' : Nat → Nat} {ce0 ce ce' : Nat → va_E} (h34 : 34 ≤ o) (hm : m < 4 ∨ 14 ≤ m) (h : S5 y o a m ad0 ad ce0 ce) (h1 : ∀ j, j ∈ I5 o m → ad' j = ad j) (h2 : ∀ j, j ∈ I5 o m → j ≠ o → ce' j = ce j) (h3 : ce' (o + 1 + m) = .inl (y 0, 9, .inl (fun _ => 0))) (h4 : ce' o = .inr (4, (f5 o ad m).set k (.ref (ad' (o + 1 + m))))) (hs : ∀ ad, (f5 o ad m).set k (.ref (ad (o + 1 + m))) = f5 o ad (m + 1)) : S5 y o a (m + 1) ad0 ad' ce0 ce' := by
  obtain ⟨a1, a2, a3, a4, a5⟩ := h
  have q1 : ∀ j, j < m → ad' (o + 1 + j) = ad (o + 1 + j) := fun j hj => h1 _ (I5_mem.mpr (Or.inr (Or.inr ⟨by omega, by omega⟩)))
  refine ⟨?_, ?_, fun i g1 g2 => ?_, fun i g1 g2 g3 => ?_, fun h14 => ?_⟩
  · rw [h1 o (I5_mem.mpr (Or.inl rfl))]; exact a1
  · rw [h4, f5_cg q1, hs]
  · have := a3 i g1 g2
    rw [h1 i (I5_mem.mpr (Or.inr (Or.inl ⟨g1, g2⟩))), h2 i (I5_mem.mpr (Or.inr (Or.inl ⟨g1, g2⟩))) (by omega)]; exact this
  · by_cases e : i = o + 1 + m
    · subst e; exact h3
    · rw [h2 i (I5_mem.mpr (Or.inr (Or.inr ⟨g1, by omega⟩))) (by omega)]; exact a4 i g1 (by omega) g3
  · have : 14 ≤ m := by omega
    rw [h2 (o + 5) (I5_mem.mpr (Or.inr (Or.inr ⟨by omega, by omega⟩))) (by omega), a5 (by omega)]
    refine rarr_cg (fun t ht => ?_)
    rw [h1 (o + 5 + 1 + t) (I5_mem.mpr (Or.inr (Or.inr ⟨by omega, by omega⟩)))]
theorem S5_mna {y : Nat → ClassId} {o a : Nat} {ad0 ad ad' : Nat → Nat} {ce0 ce ce' : Nat → va_E} (h34 : 34 ≤ o) (h : S5 y o a 4 ad0 ad ce0 ce) (h1 : ∀ j, j ∈ I5 o 4 → ad' j = ad j) (h2 : ∀ j, j ∈ I5 o 4 → j ≠ o → ce' j = ce j) (h3 : ce' (o + 5) = rarr (y 2) 9 (fun t => ad' (o + 5 + 1 + t))) (h5 : ∀ j, o + 5 < j → j ≤ o + 5 + 9 → ce' j = .inl (y 0, 9, .inl (fun _ => 0))) (h4 : ce' o = .inr (4, (f5 o ad 4).set 4 (.ref (ad' (o + 5))))) : S5 y o a 14 ad0 ad' ce0 ce' := by
  obtain ⟨a1, a2, a3, a4, a5⟩ := h
  have q1 : ∀ j, j < 4 → ad' (o + 1 + j) = ad (o + 1 + j) := fun j hj => h1 _ (I5_mem.mpr (Or.inr (Or.inr ⟨by omega, by omega⟩)))
  refine ⟨?_, ?_, fun i g1 g2 => ?_, fun i g1 g2 g3 => ?_, fun h14 => h3⟩
  · rw [h1 o (I5_mem.mpr (Or.inl rfl))]; exact a1
  · rw [h4, f5_cg q1]; rfl
  · have := a3 i g1 g2
    rw [h1 i (I5_mem.mpr (Or.inr (Or.inl ⟨g1, g2⟩))), h2 i (I5_mem.mpr (Or.inr (Or.inl ⟨g1, g2⟩))) (by omega)]; exact this
  · by_cases e : i < o + 5
    · rw [h2 i (I5_mem.mpr (Or.inr (Or.inr ⟨g1, by omega⟩))) (by omega)]; exact a4 i g1 (by omega) g3
    · exact h5 i (by omega) (by omega)
set_option maxHeartbeats 1000000 in
theorem i_X5 {l : Launch} {D : va_G} {y : Nat → ClassId} {ad : Nat → Nat} {ce0 : Nat → va_E} {o : Nat} {M0 : Mem} (hr : isRw o) (h0 : ce0 o = .inr (4, [.null, .null, .null, .null, .null, .null, .null, .null])) (hc0 : ∀ i, 1 ≤ i → i < 10 → ce0 i = cont y ad M0 i) : Ci (l, D, y, ad, I5 o 0) yX5_init cX5_init 2 5 16 144 [.ref (ad o), .ref (ad 1)] ce0 (List.range' (o + 1) 16) (fun ad1 ce1 => ∃ M, (∀ i, i ∈ I5 o 16 → ce1 i = cont y ad1 M i) ∧ rowOk o M ∧ eq9 (M (o + 1)) (mono 0 1) ∧ eq9 (M (o + 2)) (mono 1 1) ∧ ∀ j, j < 6 → M j = M0 j) := by
  have h34 : 34 ≤ o := by obtain ⟨r, hr, e⟩ := hr; omega
  refine Ci.ofU (by decide) rfl (Nat.le_of_ble_eq_true rfl) (by simp [Value.category]) (fun κ hin hao => ?_)
  have hA : ∀ q, κ.2.2.1.heap.size ≤ q → Awi (l, D, y, ad, I5 o 0) κ.2.2.1.heap.size q := fun q h => Or.inr h
  have s0 : S5 y o (ad o) 0 ad ad ce0 ce0 := ⟨rfl, h0, fun i g1 g2 => ⟨rfl, rfl⟩, fun i g1 g2 => by omega, fun h => by omega⟩
  generalize hKK : Qmi (l, D, y, ad, I5 o 0) κ (List.range' (o + 1) 16) 16 144 (fun ad1 ce1 => ∃ M, (∀ i, i ∈ I5 o 16 → ce1 i = cont y ad1 M i) ∧ rowOk o M ∧ eq9 (M (o + 1)) (mono 0 1) ∧ eq9 (M (o + 2)) (mono 1 1) ∧ ∀ j, j < 6 → M j = M0 j) = QQ
  generalize hAA : Awi (l, D, y, ad, I5 o 0) κ.2.2.1.heap.size = AA at hA ⊢
  refine U.aload_n dX5_init_0 rfl ?_
  refine U.oini dX5_init_1 lkX5_3 (by decide) (by decide) rfl ?_
  refine U.aload_n dX5_init_4 rfl ?_
  refine U.bipush (v := nI 9) dX5_init_5 (by decide) ?_
  refine U.nap (o := o) (ci := 4) (k := 0) (C := RX5) (T := TX5) (N := 8) (i := o + 1 + 0) (n := 9) tyX5 dX5_init_7 dX5_init_9 hA hin lfX5_9 inX5 tyX5_ok nmX5 rfl (by decide) rfl rfl rfl (by decide) (Nat.le_of_ble_eq_true rfl) (Nat.le_of_ble_eq_true rfl) (fun z => by rw [I5_mem] at z; omega) (I5_mem.mpr (Or.inl rfl)) s0.1 s0.2.1 (Nat.le_of_ble_eq_true rfl) (fun ad1 ce1 h1 h2 h3 h4 => ?_)
  have s1 : S5 y o (ad o) 1 ad ad1 ce0 ce1 := S5_next (m := 0) h34 (by decide) s0 h1 h2 h3 h4 (fun _ => rfl)
  clear h1 h2 h3 h4 s0
  rw [I5_succ]
  refine U.aload_n dX5_init_12 rfl ?_
  refine U.bipush (v := nI 9) dX5_init_13 (by decide) ?_
  refine U.nap (o := o) (ci := 4) (k := 1) (C := RX5) (T := TX5) (N := 8) (i := o + 1 + 1) (n := 9) tyX5 dX5_init_15 dX5_init_17 hA hin lfX5_15 inX5 tyX5_ok nmX5 rfl (by decide) rfl rfl rfl (by decide) (Nat.le_of_ble_eq_true rfl) (Nat.le_of_ble_eq_true rfl) (fun z => by rw [I5_mem] at z; omega) (I5_mem.mpr (Or.inl rfl)) s1.1 s1.2.1 (Nat.le_of_ble_eq_true rfl) (fun ad2 ce2 h1 h2 h3 h4 => ?_)
  have s2 : S5 y o (ad o) 2 ad ad2 ce0 ce2 := S5_next (m := 1) h34 (by decide) s1 h1 h2 h3 h4 (fun _ => rfl)
  clear h1 h2 h3 h4 s1
  rw [I5_succ]
  refine U.aload_n dX5_init_20 rfl ?_
  refine U.bipush (v := nI 9) dX5_init_21 (by decide) ?_
  refine U.nap (o := o) (ci := 4) (k := 2) (C := RX5) (T := TX5) (N := 8) (i := o + 1 + 2) (n := 9) tyX5 dX5_init_23 dX5_init_25 hA hin lfX5_18 inX5 tyX5_ok nmX5 rfl (by decide) rfl rfl rfl (by decide) (Nat.le_of_ble_eq_true rfl) (Nat.le_of_ble_eq_true rfl) (fun z => by rw [I5_mem] at z; omega) (I5_mem.mpr (Or.inl rfl)) s2.1 s2.2.1 (Nat.le_of_ble_eq_true rfl) (fun ad3 ce3 h1 h2 h3 h4 => ?_)
  have s3 : S5 y o (ad o) 3 ad ad3 ce0 ce3 := S5_next (m := 2) h34 (by decide) s2 h1 h2 h3 h4 (fun _ => rfl)
  clear h1 h2 h3 h4 s2
  rw [I5_succ]
  refine U.aload_n dX5_init_28 rfl ?_
  refine U.bipush (v := nI 9) dX5_init_29 (by decide) ?_
  refine U.nap (o := o) (ci := 4) (k := 3) (C := RX5) (T := TX5) (N := 8) (i := o + 1 + 3) (n := 9) tyX5 dX5_init_31 dX5_init_33 hA hin lfX5_21 inX5 tyX5_ok nmX5 rfl (by decide) rfl rfl rfl (by decide) (Nat.le_of_ble_eq_true rfl) (Nat.le_of_ble_eq_true rfl) (fun z => by rw [I5_mem] at z; omega) (I5_mem.mpr (Or.inl rfl)) s3.1 s3.2.1 (Nat.le_of_ble_eq_true rfl) (fun ad4 ce4 h1 h2 h3 h4 => ?_)
  have s4 : S5 y o (ad o) 4 ad ad4 ce0 ce4 := S5_next (m := 3) h34 (by decide) s3 h1 h2 h3 h4 (fun _ => rfl)
  clear h1 h2 h3 h4 s3
  rw [I5_succ]
  refine U.aload_n dX5_init_36 rfl ?_
  refine U.bipush (v := nI 9) dX5_init_37 (by decide) ?_
  refine U.bipush (v := nI 9) dX5_init_39 (by decide) ?_
  refine U.mnap (o := o) (ci := 4) (k := 4) (C := RX5) (T := TX5) (N := 8) (i := o + 5) (n := 9) (w := 9) tyX5 dX5_init_41 dX5_init_45 hA lcX5_24 hao.2.2 hin lfX5_26 inX5 tyX5_ok nmX5 rfl (by decide) rfl rfl rfl (by decide) (by decide) (Nat.le_of_ble_eq_true rfl) (Nat.le_of_ble_eq_true rfl) (fun j z1 z2 z => by rw [I5_mem] at z; omega) (I5_mem.mpr (Or.inl rfl)) s4.1 s4.2.1 (Nat.le_of_ble_eq_true rfl) (fun ad14 ce14 h1 h2 h3 h5 h4 => ?_)
  have s14 : S5 y o (ad o) 14 ad ad14 ce0 ce14 := S5_mna h34 s4 h1 h2 h3 h5 h4
  clear h1 h2 h3 h4 h5 s4
  rw [I5_mna]
  refine U.aload_n dX5_init_48 rfl ?_
  refine U.bipush (v := nI 9) dX5_init_49 (by decide) ?_
  refine U.nap (o := o) (ci := 4) (k := 6) (C := RX5) (T := TX5) (N := 8) (i := o + 1 + 14) (n := 9) tyX5 dX5_init_51 dX5_init_53 hA hin lfX5_29 inX5 tyX5_ok nmX5 rfl (by decide) rfl rfl rfl (by decide) (Nat.le_of_ble_eq_true rfl) (Nat.le_of_ble_eq_true rfl) (fun z => by rw [I5_mem] at z; omega) (I5_mem.mpr (Or.inl rfl)) s14.1 s14.2.1 (Nat.le_of_ble_eq_true rfl) (fun ad15 ce15 h1 h2 h3 h4 => ?_)
  have s15 : S5 y o (ad o) 15 ad ad15 ce0 ce15 := S5_next (m := 14) h34 (by decide) s14 h1 h2 h3 h4 (fun _ => rfl)
  clear h1 h2 h3 h4 s14
  rw [I5_succ]
  refine U.aload_n dX5_init_56 rfl ?_
  refine U.bipush (v := nI 9) dX5_init_57 (by decide) ?_
  refine U.nap (o := o) (ci := 4) (k := 7) (C := RX5) (T := TX5) (N := 8) (i := o + 1 + 15) (n := 9) tyX5 dX5_init_59 dX5_init_61 hA hin lfX5_32 inX5 tyX5_ok nmX5 rfl (by decide) rfl rfl rfl (by decide) (Nat.le_of_ble_eq_true rfl) (Nat.le_of_ble_eq_true rfl) (fun z => by rw [I5_mem] at z; omega) (I5_mem.mpr (Or.inl rfl)) s15.1 s15.2.1 (Nat.le_of_ble_eq_true rfl) (fun ad16 ce16 h1 h2 h3 h4 => ?_)
  have s16 : S5 y o (ad o) 16 ad ad16 ce0 ce16 := S5_next (m := 15) h34 (by decide) s15 h1 h2 h3 h4 (fun _ => rfl)
  clear h1 h2 h3 h4 s15
  rw [I5_succ]
  refine U.aload_n dX5_init_64 rfl ?_
  refine U.aload_n dX5_init_65 rfl ?_
  refine U.putFA (o := o) (ci := 4) (k := 5) (C := RX5) (T := TX5) (N := 8) (ty := .object RX4) tyX5 dX5_init_66 hin lfX5_35 inX5 tyX5_ok nmX5 rfl (by decide) rfl rfl rfl rfl rfl (I5_mem.mpr (Or.inl rfl)) s16.1 s16.2.1 (Nat.le_of_ble_eq_true rfl) (fun ce17 h2 h4 => ?_)
  have nd : (I5 o 16).Nodup := I5_nd h34
  refine U.wcg (ad' := ad16) (ce' := cont y ad16 (fun i => if i < 10 then M0 i else fun _ => 0)) (fun i hi => ⟨rfl, ?_⟩) ?_
  · rcases I5_mem.mp hi with rfl | ⟨g1, g2⟩ | ⟨g1, g2⟩
    · rw [h4, cont_row hr]
      rw [← (s16.2.2.1 1 (by decide) (by decide)).1]; rfl
    · rw [h2 i hi (by omega), (s16.2.2.1 i g1 g2).2, hc0 i g1 g2]
      have ea : cont y ad M0 i = cont y ad16 M0 i := by
        by_cases e1 : i = 1
        · subst e1
          show o_reck ad = o_reck ad16
          unfold o_reck
          rw [(s16.2.2.1 2 (by decide) (by decide)).1, (s16.2.2.1 3 (by decide) (by decide)).1, (s16.2.2.1 4 (by decide) (by decide)).1, (s16.2.2.1 5 (by decide) (by decide)).1, (s16.2.2.1 6 (by decide) (by decide)).1, (s16.2.2.1 7 (by decide) (by decide)).1, (s16.2.2.1 8 (by decide) (by decide)).1, (s16.2.2.1 9 (by decide) (by decide)).1]
        · have : ial i = 9 := by unfold ial; rw [if_pos (by omega), if_pos (by omega), if_pos (by omega)]
          rw [cont_int this (by decide), cont_int this (by decide)]
      rw [ea]
      exact cont_congr (show M0 i = (fun i => if i < 10 then M0 i else fun _ => 0) i from (if_pos g2).symm)
    · rw [h2 i hi (by omega)]
      by_cases e : i = o + 5
      · subst e
        rw [s16.2.2.2.2 (by decide), cont_pols hr]
      · rw [s16.2.2.2.1 i g1 g2 e, cont_int (ial_row hr (by omega) (by omega) e) (by decide)]
        congr 4
        show _ = (if i < 10 then M0 i else fun _ => 0)
        rw [if_neg (by omega)]
  refine U.aload_n dX5_init_69 rfl ?_
  refine U.getfA (o := o) (ci := 4) (k := 0) (C := RX5) (T := TX5) (N := 8) dX5_init_70 lfX5_9 inX5 rfl (by decide) (I5_mem.mpr (Or.inl rfl)) s16.1 (cont_row hr _) rfl ?_
  refine U.iconst (v := nI 0) dX5_init_73 rfl ?_
  refine U.iconst (v := nI 1) dX5_init_74 rfl ?_
  refine U.callSNM dX5_init_75 nd (c_X7_setMonomial (g := (l, D, y, ad16, I5 o 16)) (i := o + 1) (k := 0) (a := 1) (I5_mem.mpr (by omega)) (ial_row hr (by omega) (by omega) (by omega)) (by decide)) nlX5_39 st_X7_setMonomial cd_X7_setMonomial ini_X7 hd_X7_setMonomial ⟨Nat.le_of_ble_eq_true rfl, Nat.le_of_ble_eq_true rfl⟩ rfl (Nat.le_of_ble_eq_true rfl) (Nat.le_of_ble_eq_true rfl) (Nat.le_of_ble_eq_true rfl) ?_
  rintro _ _ ⟨rfl, rfl⟩
  refine U.aload_n dX5_init_78 rfl ?_
  refine U.getfA (o := o) (ci := 4) (k := 1) (C := RX5) (T := TX5) (N := 8) dX5_init_79 lfX5_15 inX5 rfl (by decide) (I5_mem.mpr (Or.inl rfl)) s16.1 (cont_row hr _) rfl ?_
  refine U.iconst (v := nI 1) dX5_init_82 rfl ?_
  refine U.iconst (v := nI 1) dX5_init_83 rfl ?_
  refine U.callSNM dX5_init_84 nd (c_X7_setMonomial (g := (l, D, y, ad16, I5 o 16)) (i := o + 2) (k := 1) (a := 1) (I5_mem.mpr (by omega)) (ial_row hr (by omega) (by omega) (by omega)) (by decide)) nlX5_39 st_X7_setMonomial cd_X7_setMonomial ini_X7 hd_X7_setMonomial ⟨Nat.le_of_ble_eq_true rfl, Nat.le_of_ble_eq_true rfl⟩ rfl (Nat.le_of_ble_eq_true rfl) (Nat.le_of_ble_eq_true rfl) (Nat.le_of_ble_eq_true rfl) ?_
  rintro _ _ ⟨rfl, rfl⟩
  refine U.aload_n dX5_init_87 rfl ?_
  refine U.callVM (o := o) (ci := 4) (T := TX5) (N := 8) dX5_init_88 nd s16.1 (c_X5_reckonAll (g := (l, D, y, ad16, I5 o 16)) hr (fun i hi => I5_mem.mpr (by omega)) (fun i hi => I5_mem.mpr (by omega))) lkX5_43 im_X5_reckonAll se_X5_reckonAll cd_X5_reckonAll ini_X5 rfl (I5_mem.mpr (Or.inl rfl)) (cont_row hr _) hd_X5_reckonAll ⟨Nat.le_of_ble_eq_true rfl, Nat.le_of_ble_eq_true rfl⟩ rfl (Nat.le_of_ble_eq_true rfl) (Nat.le_of_ble_eq_true rfl) (Nat.le_of_ble_eq_true rfl) ?_
  rintro _ M1 ⟨rfl, hkp, hok⟩
  subst hKK
  subst hAA
  refine U.vret dX5_init_91 rfl rfl (fun i hi => ?_) ⟨M1, fun i _ => rfl, hok, ?_, ?_, fun j hj => ?_⟩
  · rcases I5_mem.mp hi with rfl | ⟨g1, g2⟩ | ⟨g1, g2⟩
    · exact s16.1.symm
    · exact (s16.2.2.1 i g1 g2).1
    · omega
  · intro k hk
    rw [hkp (o + 1) (by omega)]
    unfold aset
    simp [hk]
  · intro k hk
    rw [hkp (o + 2) (by omega)]
    unfold aset
    simp [hk]
  · rw [hkp j (by omega)]
    funext k
    unfold aset
    rw [if_neg (by omega), if_neg (by omega)]
    exact congrFun (if_pos (by omega)) k

