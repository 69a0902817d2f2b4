section UT
variable {l : Launch} {D : va_G} {y : Nat → ClassId} {ad : Nat → Nat} {I : List Nat} {c s : Nat} {A : Nat → Prop} {cc : ByteArray} {nL : Nat} {own : String} {ret : Option FieldType} {R : Room} {Q : State → Prop} {κ : Ka} {ce : Nat → va_E} {pc : Nat} {L : List (Option Value)} {st : List Value}
/-- new int[n], put into a final field: the world behind it is known by its facts alone -/
theorem U.nap {o ci k N index i n a : Nat} {C : String} {T : u_T} {fs : List Value} (ty0 : Nat → FieldType) (d1 : decode cc pc = .ok (.newarray .int, 2)) (d2 : decode cc (pc + 2) = .ok (.putfield index, 3)) (hA : ∀ q, κ.2.2.1.heap.size ≤ q → A q) (hm : κ.2.2.2.2.2.2.1.name = "<init>") (hlink : Cond.fieldLink own index (T k).1 (T k).2.1 (T k).2.2.1 ∈ gw) (hin : ∀ w ∈ u_ws C T N, w ∈ gw) (hty : ∀ k, k < N → parseFieldDescriptor (T k).2.2.1 = some (ty0 k)) (hnm : ∀ a, a < N → ∀ b, b < N → a ≠ b → (T a).2.1 ≠ (T b).2.1) (hcl : cls[ci]? = some (C, T, N)) (hk : k < N) (hfin : (T k).2.2.2 = true) (hdecl : (T k).1 = own) (he : ty0 k = .array .int) (hn : n ≤ 162) (h1 : c + 1 ≤ R.cells) (h2 : s + n ≤ R.slots) (hi : i ∉ I) (ho : o ∈ I) (ha : a = ad o) (hc : ce o = .inr (ci, fs)) (hl0 : k < fs.length)
    (kk : ∀ ad' ce', (∀ j, j ∈ I → ad' j = ad j) → (∀ j, j ∈ I → j ≠ o → ce' j = ce j) → ce' i = .inl (y 0, n, .inl (fun _ => 0)) → ce' o = .inr (ci, fs.set k (.ref (ad' i))) → U (l, D, y, ad', I ++ [i]) A cc nL own ret R Q κ ce' (c + 1, s + n) (pc + 2 + 3) L st) : U (l, D, y, ad, I) A cc nL own ret R Q κ ce (c, s) pc L (.int (nI n) :: .ref a :: st) := by
  subst ha
  have hoi : o ≠ i := fun z => hi (z ▸ ho)
  refine U.newa (g := (l, D, y, ad, I)) (kc := (c, s)) (i := i) d1 hA hi ac_int hn h1 h2 (fun q => ?_)
  have e0 : (va_up ad i q) o = ad o := va_up_ne _ _ hoi
  rw [← e0]
  refine U.putF (g := (l, D, y, va_up ad i q, I ++ [i])) (o := o) (fs := fs) ty0 d2 hm hlink hin hty hnm hcl (List.mem_append.mpr (Or.inl ho)) ((va_up_ne _ _ hoi).trans hc) hk hfin hdecl he rfl rfl hl0 ?_
  refine kk _ _ (fun j hj => va_up_ne _ _ (fun z => hi (z ▸ hj))) (fun j hj h => (va_up_ne _ _ h).trans (va_up_ne _ _ (fun z => hi (z ▸ hj)))) ((va_up_ne _ _ hoi.symm).trans (va_up_self _ _ _)) ?_
  rw [va_up_self, va_up_self]
/-- new boolean[n], put into a final field: the world behind it is known by its facts alone -/
theorem U.nbp {o ci k N index i n a : Nat} {C : String} {T : u_T} {fs : List Value} (ty0 : Nat → FieldType) (d1 : decode cc pc = .ok (.newarray .boolean, 2)) (d2 : decode cc (pc + 2) = .ok (.putfield index, 3)) (hA : ∀ q, κ.2.2.1.heap.size ≤ q → A q) (hm : κ.2.2.2.2.2.2.1.name = "<init>") (hlink : Cond.fieldLink own index (T k).1 (T k).2.1 (T k).2.2.1 ∈ gw) (hin : ∀ w ∈ u_ws C T N, w ∈ gw) (hty : ∀ k, k < N → parseFieldDescriptor (T k).2.2.1 = some (ty0 k)) (hnm : ∀ a, a < N → ∀ b, b < N → a ≠ b → (T a).2.1 ≠ (T b).2.1) (hcl : cls[ci]? = some (C, T, N)) (hk : k < N) (hfin : (T k).2.2.2 = true) (hdecl : (T k).1 = own) (he : ty0 k = .array .boolean) (hn : n ≤ 162) (h1 : c + 1 ≤ R.cells) (h2 : s + n ≤ R.slots) (hi : i ∉ I) (ho : o ∈ I) (ha : a = ad o) (hc : ce o = .inr (ci, fs)) (hl0 : k < fs.length)
    (kk : ∀ ad' ce', (∀ j, j ∈ I → ad' j = ad j) → (∀ j, j ∈ I → j ≠ o → ce' j = ce j) → ce' i = .inl (y 1, n, .inl (fun _ => 0)) → ce' o = .inr (ci, fs.set k (.ref (ad' i))) → U (l, D, y, ad', I ++ [i]) A cc nL own ret R Q κ ce' (c + 1, s + n) (pc + 2 + 3) L st) : U (l, D, y, ad, I) A cc nL own ret R Q κ ce (c, s) pc L (.int (nI n) :: .ref a :: st) := by
  subst ha
  have hoi : o ≠ i := fun z => hi (z ▸ ho)
  refine U.newb (g := (l, D, y, ad, I)) (kc := (c, s)) (i := i) d1 hA hi ac_boolean hn h1 h2 (fun q => ?_)
  have e0 : (va_up ad i q) o = ad o := va_up_ne _ _ hoi
  rw [← e0]
  refine U.putF (g := (l, D, y, va_up ad i q, I ++ [i])) (o := o) (fs := fs) ty0 d2 hm hlink hin hty hnm hcl (List.mem_append.mpr (Or.inl ho)) ((va_up_ne _ _ hoi).trans hc) hk hfin hdecl he rfl rfl hl0 ?_
  refine kk _ _ (fun j hj => va_up_ne _ _ (fun z => hi (z ▸ hj))) (fun j hj h => (va_up_ne _ _ h).trans (va_up_ne _ _ (fun z => hi (z ▸ hj)))) ((va_up_ne _ _ hoi.symm).trans (va_up_self _ _ _)) ?_
  rw [va_up_self, va_up_self]
theorem U.getfA {o ci k N index a : Nat} {C : String} {T : u_T} {fs : List Value} {v : Value} (d : decode cc pc = .ok (.getfield index, 3)) (hlink : Cond.fieldLink own index (T k).1 (T k).2.1 (T k).2.2.1 ∈ gw) (hin : ∀ w ∈ u_ws C T N, w ∈ gw) (hcl : cls[ci]? = some (C, T, N)) (hk : k < N) (ho : o ∈ I) (ha : a = ad o) (hc : ce o = .inr (ci, fs)) (hv : fs[k]? = some v) (kk : U (l, D, y, ad, I) A cc nL own ret R Q κ ce (c, s) (pc + 3) L (v :: st)) : U (l, D, y, ad, I) A cc nL own ret R Q κ ce (c, s) pc L (.ref a :: st) := by
  subst ha
  exact U.getf (g := (l, D, y, ad, I)) (o := o) d hlink hin hcl ho hc hk hv kk
theorem U.iastA {i n j a : Nat} {f : Nat → Int32} {x : Int32} (d : decode cc pc = .ok (.iastore, 1)) (hi : i ∈ I) (ha : a = ad i) (hc : ce i = .inl (y 0, n, .inl f)) (hn : n ≤ 162) (hj : j < n) (kk : ∀ ce', (∀ k, k ∈ I → k ≠ i → ce' k = ce k) → ce' i = .inl (y 0, n, .inl (upd f j x)) → U (l, D, y, ad, I) A cc nL own ret R Q κ ce' (c, s) (pc + 1) L st) : U (l, D, y, ad, I) A cc nL own ret R Q κ ce (c, s) pc L (.int x :: .int (nI j) :: .ref a :: st) := by
  subst ha
  refine U.iast (g := (l, D, y, ad, I)) (i := i) (n := n) (f := f) d hi hc hn hj ?_
  exact kk _ (fun k _ h => va_up_ne _ _ h) (va_up_self _ _ _)
theorem U.wcg {ad' : Nat → Nat} {ce' : Nat → va_E} (h : ∀ i, i ∈ I → ad i = ad' i ∧ ce i = ce' i) (kk : U (l, D, y, ad', I) A cc nL own ret R Q κ ce' (c, s) pc L st) : U (l, D, y, ad, I) A cc nL own ret R Q κ ce (c, s) pc L st := fun E H locs ls w hl => by
  have e : wl I ad ce = wl I ad' ce' := wl_cg h
  have w1 := w.1
  have w2 := w.2.1
  refine kk E H locs ls ⟨?_, ?_, w.2.2⟩ hl
  · show va_P D cls (wl I ad' ce') H
    rw [← e]; exact w1
  · show va_D A (wl I ad' ce')
    rw [← e]; exact w2
end UT
theorem cont_arr {y : Nat → ClassId} {ad : Nat → Nat} {M : Mem} {i : Nat} (h : ial i ≠ 0) : cont y ad M i = .inl (y 0, ial i, .inl (M i)) := if_neg h
section UT2
variable {l : Launch} {D : va_G} {y : Nat → ClassId} {ad : Nat → Nat} {I : List Nat} {c s : Nat} {A : Nat → Prop} {cc : ByteArray} {nL : Nat} {own : String} {ret : Option FieldType} {R : Room} {Q : State → Prop} {κ : Ka} {ce : Nat → va_E} {pc : Nat} {L : List (Option Value)} {st : List Value} {M : Mem}
/-- what all cells are is told by one memory: a store -/
theorem U.iastM {i j n : Nat} {x : Int32} (d : decode cc pc = .ok (.iastore, 1)) (hi : i ∈ I) (li : ial i = n) (hn : n ≤ 162) (hj : j < n) (kk : U (l, D, y, ad, I) A cc nL own ret R Q κ (cont y ad (mset M i j x)) (c, s) (pc + 1) L st) : U (l, D, y, ad, I) A cc nL own ret R Q κ (cont y ad M) (c, s) pc L (.int x :: .int (nI j) :: .ref (ad i) :: st) := by
  have h0 : ial i ≠ 0 := by omega
  subst li
  refine U.iastA (i := i) (n := ial i) (f := M i) d hi rfl (cont_arr h0) hn hj (fun ce' h1 h2 => ?_)
  refine U.wcg (fun k hk => ⟨rfl, ?_⟩) kk
  by_cases e : k = i
  · subst e
    rw [h2, cont_arr h0]
    congr 4
    funext b
    unfold upd mset
    simp
  · rw [h1 k hk e]
    refine cont_congr ?_
    funext b
    unfold mset
    rw [if_neg e]
/-- a static method of numbers alone -/
theorem U.callS0 {yn : MethodName} {c2 : ByteArray} {n2 d2 index : Nat} {r2 : Option FieldType} {av st0 : List Value} {r : Int32} (d : decode cc pc = .ok (.invokestatic index, 3)) (hM : ∀ (g : Gl) (M : Mem), Ct g yn c2 n2 r2 d2 av M (fun v M' => v = some (.int r) ∧ M' = M)) (hl : Cond.methodLink own index yn ∈ gw) (hst : Cond.static yn ∈ gw) (hc : Cond.code yn c2 n2 r2 ∈ gw) (hi : Cond.initialized yn.cls ∈ gw)
    (hd : yn.cls ≠ "java/lang/invoke/MethodHandle" ∧ yn.cls ≠ "java/lang/invoke/VarHandle" ∧ (parseMethodDescriptor yn.desc).map (fun d => d.parameters.length) = some av.length) (hR : d2 + 1 ≤ R.frames ∧ 8 + (n2 + 11) + 40 * d2 ≤ R.locals) (h0 : st0 = av.reverse ++ st) (hw : (st.map fun v => v.category).sum ≤ 8) (hk1 : c ≤ R.cells) (hk2 : s ≤ R.slots)
    (kk : U (l, D, y, ad, I) A cc nL own ret R Q κ ce (c, s) (pc + 3) L (.int r :: st)) : U (l, D, y, ad, I) A cc nL own ret R Q κ ce (c, s) pc L st0 := by
  refine U.callS (g := (l, D, y, ad, I)) (kc := (c, s)) (I2 := []) (M := fun _ _ => 0) d (fun i hi => absurd hi List.not_mem_nil) List.nodup_nil (hM _ _) hl hst hc hi hd hR h0 hw hk1 hk2 ?_
  rintro v M' ⟨rfl, rfl⟩
  exact U.wcg (fun i hi => ⟨rfl, if_neg List.not_mem_nil⟩) kk
end UT2
def l8 : List Nat := [143, 144, 145, 146, 0, 147, 148, 149, 0, 150, 151, 152, 153, 154, 155, 0, 0, 0, 156, 157, 158, 159, 160, 161, 162, 163, 164, 0, 165, 166, 167, 168, 169, 170, 171, 172, 173]
/-- an object's fields while its arrays (cells lo, lo + 1, ..) are made: those below m stand -/
def fN (ls : List Nat) (ad : Nat → Nat) (m : Nat) : List Value := ls.map (fun i => if i = 0 then .int 0 else if i < m then .ref (ad i) else .null)
def mem0 : Mem := fun _ _ => 0
def mem8 : Mem := mset (mset (mset (mset (mset (mset (mset (mset mem0 143 0 1) 144 1 1) 143 9 1) 144 10 1) 143 18 1) 144 19 1) 143 27 1) 144 28 1
theorem fN_cg {ls : List Nat} {lo : Nat} (hls : ∀ i, i ∈ ls → i = 0 ∨ lo ≤ i) {ad ad' : Nat → Nat} {m : Nat} (h : ∀ j, lo ≤ j → j < m → ad' j = ad j) : fN ls ad m = fN ls ad' m := by
  unfold fN
  apply List.map_congr_left
  intro i hi
  by_cases h0 : i = 0
  · rw [if_pos h0, if_pos h0]
  rw [if_neg h0, if_neg h0]
  by_cases hm : i < m
  · rw [if_pos hm, if_pos hm, h i ?_ hm]
    rcases hls i hi with z | z
    · exact absurd z h0
    · exact z
  · rw [if_neg hm, if_neg hm]
def SN (ls : List Nat) (o ci lo : Nat) (y : Nat → ClassId) (a m : Nat) (ad : Nat → Nat) (ce : Nat → va_E) : Prop := a = ad o ∧ ce o = .inr (ci, fN ls ad m) ∧ ∀ i, lo ≤ i → i < m → ce i = cont y (fun _ => 0) mem0 i
def IN (o lo m : Nat) : List Nat := o :: List.range' lo (m - lo)
theorem IN_mem {o lo m i : Nat} (h : lo ≤ m) : i ∈ IN o lo m ↔ i = o ∨ (lo ≤ i ∧ i < m) := by
  unfold IN
  rw [List.mem_cons, List.mem_range']
  constructor
  · rintro (h | ⟨k, h1, h2⟩)
    · exact Or.inl h
    · right; omega
  · rintro (h | h)
    · exact Or.inl h
    · exact Or.inr ⟨i - lo, by omega, by omega⟩
theorem IN_succ {o lo m : Nat} (h : lo ≤ m) : IN o lo m ++ [m] = IN o lo (m + 1) := by
  unfold IN
  have e : m + 1 - lo = (m - lo) + 1 := by omega
  have e2 : lo + 1 * (m - lo) = m := by omega
  rw [e, List.range'_concat, List.cons_append, e2]
theorem SN_next {ls : List Nat} {o ci lo : Nat} {y : Nat → ClassId} {a m k : Nat} {ad ad' : Nat → Nat} {ce ce' : Nat → va_E} {e : va_E} (hls : ∀ i, i ∈ ls → i = 0 ∨ lo ≤ i) (ho : o < lo) (hm : lo ≤ m) (h : SN ls o ci lo y a m ad ce) (h1 : ∀ j, j ∈ IN o lo m → ad' j = ad j) (h2 : ∀ j, j ∈ IN o lo m → j ≠ o → ce' j = ce j) (h3 : ce' m = e) (h4 : ce' o = .inr (ci, (fN ls ad m).set k (.ref (ad' m)))) (hn : e = cont y (fun _ => 0) mem0 m) (hs : ∀ ad, (fN ls ad m).set k (.ref (ad m)) = fN ls ad (m + 1)) : SN ls o ci lo y a (m + 1) ad' ce' := by
  refine ⟨?_, ?_, fun i g1 g2 => ?_⟩
  · rw [h1 o ((IN_mem hm).mpr (Or.inl rfl))]; exact h.1
  · rw [h4, fN_cg (ad' := ad') hls (fun j g1 g2 => h1 j ((IN_mem hm).mpr (Or.inr ⟨g1, g2⟩))), hs]
  · by_cases e : i = m
    · subst e; rw [h3, hn]
    · rw [h2 i ((IN_mem hm).mpr (Or.inr ⟨g1, by omega⟩)) (by omega)]; exact h.2.2 i g1 (by omega)
set_option maxHeartbeats 1000000 in
theorem i_X8 {l : Launch} {D : va_G} {y : Nat → ClassId} {ad : Nat → Nat} {ce0 : Nat → va_E} (h0 : ce0 142 = .inr (7, fN l8 ad 143)) : Ci (l, D, y, ad, [142]) yX8_init cX8_init 2 1 31 899 [.ref (ad 142)] ce0 (List.range' 143 31) (fun ad1 ce1 => ∀ i, 142 ≤ i → i < 174 → ce1 i = cont y ad1 mem8 i) := by
  refine Ci.ofU (by decide) rfl (Nat.le_of_ble_eq_true rfl) (by simp [Value.category]) (fun κ hin hao => ?_)
  have hA : ∀ q, κ.2.2.1.heap.size ≤ q → Awi (l, D, y, ad, [142]) κ.2.2.1.heap.size q := fun q h => Or.inr h
  have hls : ∀ i, i ∈ l8 → i = 0 ∨ 143 ≤ i := by decide
  have s143 : SN l8 142 7 143 y (ad 142) 143 ad ce0 := ⟨rfl, h0, fun i g1 g2 => by omega⟩
  show U (l, D, y, ad, IN 142 143 143) _ _ _ _ _ _ _ _ _ _ _ _ _
  generalize hKK : Qmi (l, D, y, ad, [142]) κ (List.range' 143 31) 31 899 (fun ad1 ce1 => ∀ i, 142 ≤ i → i < 174 → ce1 i = cont y ad1 mem8 i) = QQ
  generalize hAA : Awi (l, D, y, ad, [142]) κ.2.2.1.heap.size = AA at hA ⊢
  refine U.aload_n dX8_init_0 rfl ?_
  refine U.oini dX8_init_1 lkX8_1 (by decide) (by decide) rfl ?_
  refine U.aload_n dX8_init_4 rfl ?_
  refine U.bipush (v := nI 36) dX8_init_5 (by decide) ?_
  refine U.nap (o := 142) (ci := 7) (k := 0) (C := RX8) (T := TX8) (N := 37) (i := 143) tyX8 dX8_init_7 dX8_init_9 hA hin lfX8_7 inX8 tyX8_ok nmX8 rfl (by decide) rfl rfl rfl (by decide) (Nat.le_of_ble_eq_true rfl) (Nat.le_of_ble_eq_true rfl) (nomem rfl) (yesmem rfl) s143.1 s143.2.1 (Nat.le_of_ble_eq_true rfl) (fun ad144 ce144 h1 h2 h3 h4 => ?_)
  have s144 : SN l8 142 7 143 y (ad 142) 144 ad144 ce144 := SN_next (m := 143) hls (by decide) (by decide) s143 h1 h2 h3 h4 rfl (fun _ => rfl)
  clear h1 h2 h3 h4 s143
  rw [IN_succ (by decide)]
  refine U.aload_n dX8_init_12 rfl ?_
  refine U.bipush (v := nI 36) dX8_init_13 (by decide) ?_
  refine U.nap (o := 142) (ci := 7) (k := 1) (C := RX8) (T := TX8) (N := 37) (i := 144) tyX8 dX8_init_15 dX8_init_17 hA hin lfX8_13 inX8 tyX8_ok nmX8 rfl (by decide) rfl rfl rfl (by decide) (Nat.le_of_ble_eq_true rfl) (Nat.le_of_ble_eq_true rfl) (nomem rfl) (yesmem rfl) s144.1 s144.2.1 (Nat.le_of_ble_eq_true rfl) (fun ad145 ce145 h1 h2 h3 h4 => ?_)
  have s145 : SN l8 142 7 143 y (ad 142) 145 ad145 ce145 := SN_next (m := 144) hls (by decide) (by decide) s144 h1 h2 h3 h4 rfl (fun _ => rfl)
  clear h1 h2 h3 h4 s144
  rw [IN_succ (by decide)]
  refine U.aload_n dX8_init_20 rfl ?_
  refine U.bipush (v := nI 9) dX8_init_21 (by decide) ?_
  refine U.nap (o := 142) (ci := 7) (k := 2) (C := RX8) (T := TX8) (N := 37) (i := 145) tyX8 dX8_init_23 dX8_init_25 hA hin lfX8_16 inX8 tyX8_ok nmX8 rfl (by decide) rfl rfl rfl (by decide) (Nat.le_of_ble_eq_true rfl) (Nat.le_of_ble_eq_true rfl) (nomem rfl) (yesmem rfl) s145.1 s145.2.1 (Nat.le_of_ble_eq_true rfl) (fun ad146 ce146 h1 h2 h3 h4 => ?_)
  have s146 : SN l8 142 7 143 y (ad 142) 146 ad146 ce146 := SN_next (m := 145) hls (by decide) (by decide) s145 h1 h2 h3 h4 rfl (fun _ => rfl)
  clear h1 h2 h3 h4 s145
  rw [IN_succ (by decide)]
  refine U.aload_n dX8_init_28 rfl ?_
  refine U.bipush (v := nI 72) dX8_init_29 (by decide) ?_
  refine U.nap (o := 142) (ci := 7) (k := 3) (C := RX8) (T := TX8) (N := 37) (i := 146) tyX8 dX8_init_31 dX8_init_33 hA hin lfX8_19 inX8 tyX8_ok nmX8 rfl (by decide) rfl rfl rfl (by decide) (Nat.le_of_ble_eq_true rfl) (Nat.le_of_ble_eq_true rfl) (nomem rfl) (yesmem rfl) s146.1 s146.2.1 (Nat.le_of_ble_eq_true rfl) (fun ad147 ce147 h1 h2 h3 h4 => ?_)
  have s147 : SN l8 142 7 143 y (ad 142) 147 ad147 ce147 := SN_next (m := 146) hls (by decide) (by decide) s146 h1 h2 h3 h4 rfl (fun _ => rfl)
  clear h1 h2 h3 h4 s146
  rw [IN_succ (by decide)]
  refine U.aload_n dX8_init_36 rfl ?_
  refine U.sipush (v := nI 162) dX8_init_37 (by decide) ?_
  refine U.nap (o := 142) (ci := 7) (k := 5) (C := RX8) (T := TX8) (N := 37) (i := 147) tyX8 dX8_init_40 dX8_init_42 hA hin lfX8_22 inX8 tyX8_ok nmX8 rfl (by decide) rfl rfl rfl (by decide) (Nat.le_of_ble_eq_true rfl) (Nat.le_of_ble_eq_true rfl) (nomem rfl) (yesmem rfl) s147.1 s147.2.1 (Nat.le_of_ble_eq_true rfl) (fun ad148 ce148 h1 h2 h3 h4 => ?_)
  have s148 : SN l8 142 7 143 y (ad 142) 148 ad148 ce148 := SN_next (m := 147) hls (by decide) (by decide) s147 h1 h2 h3 h4 rfl (fun _ => rfl)
  clear h1 h2 h3 h4 s147
  rw [IN_succ (by decide)]
  refine U.aload_n dX8_init_45 rfl ?_
  refine U.iconst (v := nI 2) dX8_init_46 rfl ?_
  refine U.nbp (o := 142) (ci := 7) (k := 6) (C := RX8) (T := TX8) (N := 37) (i := 148) tyX8 dX8_init_47 dX8_init_49 hA hin lfX8_25 inX8 tyX8_ok nmX8 rfl (by decide) rfl rfl rfl (by decide) (Nat.le_of_ble_eq_true rfl) (Nat.le_of_ble_eq_true rfl) (nomem rfl) (yesmem rfl) s148.1 s148.2.1 (Nat.le_of_ble_eq_true rfl) (fun ad149 ce149 h1 h2 h3 h4 => ?_)
  have s149 : SN l8 142 7 143 y (ad 142) 149 ad149 ce149 := SN_next (m := 148) hls (by decide) (by decide) s148 h1 h2 h3 h4 rfl (fun _ => rfl)
  clear h1 h2 h3 h4 s148
  rw [IN_succ (by decide)]
  refine U.aload_n dX8_init_52 rfl ?_
  refine U.bipush (v := nI 120) dX8_init_53 (by decide) ?_
  refine U.nap (o := 142) (ci := 7) (k := 7) (C := RX8) (T := TX8) (N := 37) (i := 149) tyX8 dX8_init_55 dX8_init_57 hA hin lfX8_29 inX8 tyX8_ok nmX8 rfl (by decide) rfl rfl rfl (by decide) (Nat.le_of_ble_eq_true rfl) (Nat.le_of_ble_eq_true rfl) (nomem rfl) (yesmem rfl) s149.1 s149.2.1 (Nat.le_of_ble_eq_true rfl) (fun ad150 ce150 h1 h2 h3 h4 => ?_)
  have s150 : SN l8 142 7 143 y (ad 142) 150 ad150 ce150 := SN_next (m := 149) hls (by decide) (by decide) s149 h1 h2 h3 h4 rfl (fun _ => rfl)
  clear h1 h2 h3 h4 s149
  rw [IN_succ (by decide)]
  refine U.aload_n dX8_init_60 rfl ?_
  refine U.bipush (v := nI 9) dX8_init_61 (by decide) ?_
  refine U.nap (o := 142) (ci := 7) (k := 9) (C := RX8) (T := TX8) (N := 37) (i := 150) tyX8 dX8_init_63 dX8_init_65 hA hin lfX8_32 inX8 tyX8_ok nmX8 rfl (by decide) rfl rfl rfl (by decide) (Nat.le_of_ble_eq_true rfl) (Nat.le_of_ble_eq_true rfl) (nomem rfl) (yesmem rfl) s150.1 s150.2.1 (Nat.le_of_ble_eq_true rfl) (fun ad151 ce151 h1 h2 h3 h4 => ?_)
  have s151 : SN l8 142 7 143 y (ad 142) 151 ad151 ce151 := SN_next (m := 150) hls (by decide) (by decide) s150 h1 h2 h3 h4 rfl (fun _ => rfl)
  clear h1 h2 h3 h4 s150
  rw [IN_succ (by decide)]
  refine U.aload_n dX8_init_68 rfl ?_
  refine U.bipush (v := nI 9) dX8_init_69 (by decide) ?_
  refine U.nap (o := 142) (ci := 7) (k := 10) (C := RX8) (T := TX8) (N := 37) (i := 151) tyX8 dX8_init_71 dX8_init_73 hA hin lfX8_35 inX8 tyX8_ok nmX8 rfl (by decide) rfl rfl rfl (by decide) (Nat.le_of_ble_eq_true rfl) (Nat.le_of_ble_eq_true rfl) (nomem rfl) (yesmem rfl) s151.1 s151.2.1 (Nat.le_of_ble_eq_true rfl) (fun ad152 ce152 h1 h2 h3 h4 => ?_)
  have s152 : SN l8 142 7 143 y (ad 142) 152 ad152 ce152 := SN_next (m := 151) hls (by decide) (by decide) s151 h1 h2 h3 h4 rfl (fun _ => rfl)
  clear h1 h2 h3 h4 s151
  rw [IN_succ (by decide)]
  refine U.aload_n dX8_init_76 rfl ?_
  refine U.bipush (v := nI 9) dX8_init_77 (by decide) ?_
  refine U.nap (o := 142) (ci := 7) (k := 11) (C := RX8) (T := TX8) (N := 37) (i := 152) tyX8 dX8_init_79 dX8_init_81 hA hin lfX8_38 inX8 tyX8_ok nmX8 rfl (by decide) rfl rfl rfl (by decide) (Nat.le_of_ble_eq_true rfl) (Nat.le_of_ble_eq_true rfl) (nomem rfl) (yesmem rfl) s152.1 s152.2.1 (Nat.le_of_ble_eq_true rfl) (fun ad153 ce153 h1 h2 h3 h4 => ?_)
  have s153 : SN l8 142 7 143 y (ad 142) 153 ad153 ce153 := SN_next (m := 152) hls (by decide) (by decide) s152 h1 h2 h3 h4 rfl (fun _ => rfl)
  clear h1 h2 h3 h4 s152
  rw [IN_succ (by decide)]
  refine U.aload_n dX8_init_84 rfl ?_
  refine U.bipush (v := nI 9) dX8_init_85 (by decide) ?_
  refine U.nap (o := 142) (ci := 7) (k := 12) (C := RX8) (T := TX8) (N := 37) (i := 153) tyX8 dX8_init_87 dX8_init_89 hA hin lfX8_41 inX8 tyX8_ok nmX8 rfl (by decide) rfl rfl rfl (by decide) (Nat.le_of_ble_eq_true rfl) (Nat.le_of_ble_eq_true rfl) (nomem rfl) (yesmem rfl) s153.1 s153.2.1 (Nat.le_of_ble_eq_true rfl) (fun ad154 ce154 h1 h2 h3 h4 => ?_)
  have s154 : SN l8 142 7 143 y (ad 142) 154 ad154 ce154 := SN_next (m := 153) hls (by decide) (by decide) s153 h1 h2 h3 h4 rfl (fun _ => rfl)
  clear h1 h2 h3 h4 s153
  rw [IN_succ (by decide)]
  refine U.aload_n dX8_init_92 rfl ?_
  refine U.bipush (v := nI 9) dX8_init_93 (by decide) ?_
  refine U.nap (o := 142) (ci := 7) (k := 13) (C := RX8) (T := TX8) (N := 37) (i := 154) tyX8 dX8_init_95 dX8_init_97 hA hin lfX8_44 inX8 tyX8_ok nmX8 rfl (by decide) rfl rfl rfl (by decide) (Nat.le_of_ble_eq_true rfl) (Nat.le_of_ble_eq_true rfl) (nomem rfl) (yesmem rfl) s154.1 s154.2.1 (Nat.le_of_ble_eq_true rfl) (fun ad155 ce155 h1 h2 h3 h4 => ?_)
  have s155 : SN l8 142 7 143 y (ad 142) 155 ad155 ce155 := SN_next (m := 154) hls (by decide) (by decide) s154 h1 h2 h3 h4 rfl (fun _ => rfl)
  clear h1 h2 h3 h4 s154
  rw [IN_succ (by decide)]
  refine U.aload_n dX8_init_100 rfl ?_
  refine U.bipush (v := nI 9) dX8_init_101 (by decide) ?_
  refine U.nap (o := 142) (ci := 7) (k := 14) (C := RX8) (T := TX8) (N := 37) (i := 155) tyX8 dX8_init_103 dX8_init_105 hA hin lfX8_47 inX8 tyX8_ok nmX8 rfl (by decide) rfl rfl rfl (by decide) (Nat.le_of_ble_eq_true rfl) (Nat.le_of_ble_eq_true rfl) (nomem rfl) (yesmem rfl) s155.1 s155.2.1 (Nat.le_of_ble_eq_true rfl) (fun ad156 ce156 h1 h2 h3 h4 => ?_)
  have s156 : SN l8 142 7 143 y (ad 142) 156 ad156 ce156 := SN_next (m := 155) hls (by decide) (by decide) s155 h1 h2 h3 h4 rfl (fun _ => rfl)
  clear h1 h2 h3 h4 s155
  rw [IN_succ (by decide)]
  refine U.aload_n dX8_init_108 rfl ?_
  refine U.bipush (v := nI 9) dX8_init_109 (by decide) ?_
  refine U.nap (o := 142) (ci := 7) (k := 18) (C := RX8) (T := TX8) (N := 37) (i := 156) tyX8 dX8_init_111 dX8_init_113 hA hin lfX8_50 inX8 tyX8_ok nmX8 rfl (by decide) rfl rfl rfl (by decide) (Nat.le_of_ble_eq_true rfl) (Nat.le_of_ble_eq_true rfl) (nomem rfl) (yesmem rfl) s156.1 s156.2.1 (Nat.le_of_ble_eq_true rfl) (fun ad157 ce157 h1 h2 h3 h4 => ?_)
  have s157 : SN l8 142 7 143 y (ad 142) 157 ad157 ce157 := SN_next (m := 156) hls (by decide) (by decide) s156 h1 h2 h3 h4 rfl (fun _ => rfl)
  clear h1 h2 h3 h4 s156
  rw [IN_succ (by decide)]
  refine U.aload_n dX8_init_116 rfl ?_
  refine U.bipush (v := nI 63) dX8_init_117 (by decide) ?_
  refine U.nap (o := 142) (ci := 7) (k := 19) (C := RX8) (T := TX8) (N := 37) (i := 157) tyX8 dX8_init_119 dX8_init_121 hA hin lfX8_53 inX8 tyX8_ok nmX8 rfl (by decide) rfl rfl rfl (by decide) (Nat.le_of_ble_eq_true rfl) (Nat.le_of_ble_eq_true rfl) (nomem rfl) (yesmem rfl) s157.1 s157.2.1 (Nat.le_of_ble_eq_true rfl) (fun ad158 ce158 h1 h2 h3 h4 => ?_)
  have s158 : SN l8 142 7 143 y (ad 142) 158 ad158 ce158 := SN_next (m := 157) hls (by decide) (by decide) s157 h1 h2 h3 h4 rfl (fun _ => rfl)
  clear h1 h2 h3 h4 s157
  rw [IN_succ (by decide)]
  refine U.aload_n dX8_init_124 rfl ?_
  refine U.bipush (v := nI 63) dX8_init_125 (by decide) ?_
  refine U.nap (o := 142) (ci := 7) (k := 20) (C := RX8) (T := TX8) (N := 37) (i := 158) tyX8 dX8_init_127 dX8_init_129 hA hin lfX8_56 inX8 tyX8_ok nmX8 rfl (by decide) rfl rfl rfl (by decide) (Nat.le_of_ble_eq_true rfl) (Nat.le_of_ble_eq_true rfl) (nomem rfl) (yesmem rfl) s158.1 s158.2.1 (Nat.le_of_ble_eq_true rfl) (fun ad159 ce159 h1 h2 h3 h4 => ?_)
  have s159 : SN l8 142 7 143 y (ad 142) 159 ad159 ce159 := SN_next (m := 158) hls (by decide) (by decide) s158 h1 h2 h3 h4 rfl (fun _ => rfl)
  clear h1 h2 h3 h4 s158
  rw [IN_succ (by decide)]
  refine U.aload_n dX8_init_132 rfl ?_
  refine U.bipush (v := nI 9) dX8_init_133 (by decide) ?_
  refine U.nap (o := 142) (ci := 7) (k := 21) (C := RX8) (T := TX8) (N := 37) (i := 159) tyX8 dX8_init_135 dX8_init_137 hA hin lfX8_59 inX8 tyX8_ok nmX8 rfl (by decide) rfl rfl rfl (by decide) (Nat.le_of_ble_eq_true rfl) (Nat.le_of_ble_eq_true rfl) (nomem rfl) (yesmem rfl) s159.1 s159.2.1 (Nat.le_of_ble_eq_true rfl) (fun ad160 ce160 h1 h2 h3 h4 => ?_)
  have s160 : SN l8 142 7 143 y (ad 142) 160 ad160 ce160 := SN_next (m := 159) hls (by decide) (by decide) s159 h1 h2 h3 h4 rfl (fun _ => rfl)
  clear h1 h2 h3 h4 s159
  rw [IN_succ (by decide)]
  refine U.aload_n dX8_init_140 rfl ?_
  refine U.bipush (v := nI 7) dX8_init_141 (by decide) ?_
  refine U.nap (o := 142) (ci := 7) (k := 22) (C := RX8) (T := TX8) (N := 37) (i := 160) tyX8 dX8_init_143 dX8_init_145 hA hin lfX8_62 inX8 tyX8_ok nmX8 rfl (by decide) rfl rfl rfl (by decide) (Nat.le_of_ble_eq_true rfl) (Nat.le_of_ble_eq_true rfl) (nomem rfl) (yesmem rfl) s160.1 s160.2.1 (Nat.le_of_ble_eq_true rfl) (fun ad161 ce161 h1 h2 h3 h4 => ?_)
  have s161 : SN l8 142 7 143 y (ad 142) 161 ad161 ce161 := SN_next (m := 160) hls (by decide) (by decide) s160 h1 h2 h3 h4 rfl (fun _ => rfl)
  clear h1 h2 h3 h4 s160
  rw [IN_succ (by decide)]
  refine U.aload_n dX8_init_148 rfl ?_
  refine U.bipush (v := nI 7) dX8_init_149 (by decide) ?_
  refine U.nap (o := 142) (ci := 7) (k := 23) (C := RX8) (T := TX8) (N := 37) (i := 161) tyX8 dX8_init_151 dX8_init_153 hA hin lfX8_65 inX8 tyX8_ok nmX8 rfl (by decide) rfl rfl rfl (by decide) (Nat.le_of_ble_eq_true rfl) (Nat.le_of_ble_eq_true rfl) (nomem rfl) (yesmem rfl) s161.1 s161.2.1 (Nat.le_of_ble_eq_true rfl) (fun ad162 ce162 h1 h2 h3 h4 => ?_)
  have s162 : SN l8 142 7 143 y (ad 142) 162 ad162 ce162 := SN_next (m := 161) hls (by decide) (by decide) s161 h1 h2 h3 h4 rfl (fun _ => rfl)
  clear h1 h2 h3 h4 s161
  rw [IN_succ (by decide)]
  refine U.aload_n dX8_init_156 rfl ?_
  refine U.bipush (v := nI 7) dX8_init_157 (by decide) ?_
  refine U.nap (o := 142) (ci := 7) (k := 24) (C := RX8) (T := TX8) (N := 37) (i := 162) tyX8 dX8_init_159 dX8_init_161 hA hin lfX8_68 inX8 tyX8_ok nmX8 rfl (by decide) rfl rfl rfl (by decide) (Nat.le_of_ble_eq_true rfl) (Nat.le_of_ble_eq_true rfl) (nomem rfl) (yesmem rfl) s162.1 s162.2.1 (Nat.le_of_ble_eq_true rfl) (fun ad163 ce163 h1 h2 h3 h4 => ?_)
  have s163 : SN l8 142 7 143 y (ad 142) 163 ad163 ce163 := SN_next (m := 162) hls (by decide) (by decide) s162 h1 h2 h3 h4 rfl (fun _ => rfl)
  clear h1 h2 h3 h4 s162
  rw [IN_succ (by decide)]
  refine U.aload_n dX8_init_164 rfl ?_
  refine U.bipush (v := nI 9) dX8_init_165 (by decide) ?_
  refine U.nap (o := 142) (ci := 7) (k := 25) (C := RX8) (T := TX8) (N := 37) (i := 163) tyX8 dX8_init_167 dX8_init_169 hA hin lfX8_71 inX8 tyX8_ok nmX8 rfl (by decide) rfl rfl rfl (by decide) (Nat.le_of_ble_eq_true rfl) (Nat.le_of_ble_eq_true rfl) (nomem rfl) (yesmem rfl) s163.1 s163.2.1 (Nat.le_of_ble_eq_true rfl) (fun ad164 ce164 h1 h2 h3 h4 => ?_)
  have s164 : SN l8 142 7 143 y (ad 142) 164 ad164 ce164 := SN_next (m := 163) hls (by decide) (by decide) s163 h1 h2 h3 h4 rfl (fun _ => rfl)
  clear h1 h2 h3 h4 s163
  rw [IN_succ (by decide)]
  refine U.aload_n dX8_init_172 rfl ?_
  refine U.bipush (v := nI 9) dX8_init_173 (by decide) ?_
  refine U.nap (o := 142) (ci := 7) (k := 26) (C := RX8) (T := TX8) (N := 37) (i := 164) tyX8 dX8_init_175 dX8_init_177 hA hin lfX8_74 inX8 tyX8_ok nmX8 rfl (by decide) rfl rfl rfl (by decide) (Nat.le_of_ble_eq_true rfl) (Nat.le_of_ble_eq_true rfl) (nomem rfl) (yesmem rfl) s164.1 s164.2.1 (Nat.le_of_ble_eq_true rfl) (fun ad165 ce165 h1 h2 h3 h4 => ?_)
  have s165 : SN l8 142 7 143 y (ad 142) 165 ad165 ce165 := SN_next (m := 164) hls (by decide) (by decide) s164 h1 h2 h3 h4 rfl (fun _ => rfl)
  clear h1 h2 h3 h4 s164
  rw [IN_succ (by decide)]
  refine U.aload_n dX8_init_180 rfl ?_
  refine U.bipush (v := nI 9) dX8_init_181 (by decide) ?_
  refine U.nap (o := 142) (ci := 7) (k := 28) (C := RX8) (T := TX8) (N := 37) (i := 165) tyX8 dX8_init_183 dX8_init_185 hA hin lfX8_77 inX8 tyX8_ok nmX8 rfl (by decide) rfl rfl rfl (by decide) (Nat.le_of_ble_eq_true rfl) (Nat.le_of_ble_eq_true rfl) (nomem rfl) (yesmem rfl) s165.1 s165.2.1 (Nat.le_of_ble_eq_true rfl) (fun ad166 ce166 h1 h2 h3 h4 => ?_)
  have s166 : SN l8 142 7 143 y (ad 142) 166 ad166 ce166 := SN_next (m := 165) hls (by decide) (by decide) s165 h1 h2 h3 h4 rfl (fun _ => rfl)
  clear h1 h2 h3 h4 s165
  rw [IN_succ (by decide)]
  refine U.aload_n dX8_init_188 rfl ?_
  refine U.bipush (v := nI 9) dX8_init_189 (by decide) ?_
  refine U.nap (o := 142) (ci := 7) (k := 29) (C := RX8) (T := TX8) (N := 37) (i := 166) tyX8 dX8_init_191 dX8_init_193 hA hin lfX8_80 inX8 tyX8_ok nmX8 rfl (by decide) rfl rfl rfl (by decide) (Nat.le_of_ble_eq_true rfl) (Nat.le_of_ble_eq_true rfl) (nomem rfl) (yesmem rfl) s166.1 s166.2.1 (Nat.le_of_ble_eq_true rfl) (fun ad167 ce167 h1 h2 h3 h4 => ?_)
  have s167 : SN l8 142 7 143 y (ad 142) 167 ad167 ce167 := SN_next (m := 166) hls (by decide) (by decide) s166 h1 h2 h3 h4 rfl (fun _ => rfl)
  clear h1 h2 h3 h4 s166
  rw [IN_succ (by decide)]
  refine U.aload_n dX8_init_196 rfl ?_
  refine U.bipush (v := nI 9) dX8_init_197 (by decide) ?_
  refine U.nap (o := 142) (ci := 7) (k := 30) (C := RX8) (T := TX8) (N := 37) (i := 167) tyX8 dX8_init_199 dX8_init_201 hA hin lfX8_83 inX8 tyX8_ok nmX8 rfl (by decide) rfl rfl rfl (by decide) (Nat.le_of_ble_eq_true rfl) (Nat.le_of_ble_eq_true rfl) (nomem rfl) (yesmem rfl) s167.1 s167.2.1 (Nat.le_of_ble_eq_true rfl) (fun ad168 ce168 h1 h2 h3 h4 => ?_)
  have s168 : SN l8 142 7 143 y (ad 142) 168 ad168 ce168 := SN_next (m := 167) hls (by decide) (by decide) s167 h1 h2 h3 h4 rfl (fun _ => rfl)
  clear h1 h2 h3 h4 s167
  rw [IN_succ (by decide)]
  refine U.aload_n dX8_init_204 rfl ?_
  refine U.bipush (v := nI 81) dX8_init_205 (by decide) ?_
  refine U.nap (o := 142) (ci := 7) (k := 31) (C := RX8) (T := TX8) (N := 37) (i := 168) tyX8 dX8_init_207 dX8_init_209 hA hin lfX8_86 inX8 tyX8_ok nmX8 rfl (by decide) rfl rfl rfl (by decide) (Nat.le_of_ble_eq_true rfl) (Nat.le_of_ble_eq_true rfl) (nomem rfl) (yesmem rfl) s168.1 s168.2.1 (Nat.le_of_ble_eq_true rfl) (fun ad169 ce169 h1 h2 h3 h4 => ?_)
  have s169 : SN l8 142 7 143 y (ad 142) 169 ad169 ce169 := SN_next (m := 168) hls (by decide) (by decide) s168 h1 h2 h3 h4 rfl (fun _ => rfl)
  clear h1 h2 h3 h4 s168
  rw [IN_succ (by decide)]
  refine U.aload_n dX8_init_212 rfl ?_
  refine U.bipush (v := nI 81) dX8_init_213 (by decide) ?_
  refine U.nap (o := 142) (ci := 7) (k := 32) (C := RX8) (T := TX8) (N := 37) (i := 169) tyX8 dX8_init_215 dX8_init_217 hA hin lfX8_89 inX8 tyX8_ok nmX8 rfl (by decide) rfl rfl rfl (by decide) (Nat.le_of_ble_eq_true rfl) (Nat.le_of_ble_eq_true rfl) (nomem rfl) (yesmem rfl) s169.1 s169.2.1 (Nat.le_of_ble_eq_true rfl) (fun ad170 ce170 h1 h2 h3 h4 => ?_)
  have s170 : SN l8 142 7 143 y (ad 142) 170 ad170 ce170 := SN_next (m := 169) hls (by decide) (by decide) s169 h1 h2 h3 h4 rfl (fun _ => rfl)
  clear h1 h2 h3 h4 s169
  rw [IN_succ (by decide)]
  refine U.aload_n dX8_init_220 rfl ?_
  refine U.bipush (v := nI 9) dX8_init_221 (by decide) ?_
  refine U.nap (o := 142) (ci := 7) (k := 33) (C := RX8) (T := TX8) (N := 37) (i := 170) tyX8 dX8_init_223 dX8_init_225 hA hin lfX8_92 inX8 tyX8_ok nmX8 rfl (by decide) rfl rfl rfl (by decide) (Nat.le_of_ble_eq_true rfl) (Nat.le_of_ble_eq_true rfl) (nomem rfl) (yesmem rfl) s170.1 s170.2.1 (Nat.le_of_ble_eq_true rfl) (fun ad171 ce171 h1 h2 h3 h4 => ?_)
  have s171 : SN l8 142 7 143 y (ad 142) 171 ad171 ce171 := SN_next (m := 170) hls (by decide) (by decide) s170 h1 h2 h3 h4 rfl (fun _ => rfl)
  clear h1 h2 h3 h4 s170
  rw [IN_succ (by decide)]
  refine U.aload_n dX8_init_228 rfl ?_
  refine U.bipush (v := nI 9) dX8_init_229 (by decide) ?_
  refine U.nap (o := 142) (ci := 7) (k := 34) (C := RX8) (T := TX8) (N := 37) (i := 171) tyX8 dX8_init_231 dX8_init_233 hA hin lfX8_95 inX8 tyX8_ok nmX8 rfl (by decide) rfl rfl rfl (by decide) (Nat.le_of_ble_eq_true rfl) (Nat.le_of_ble_eq_true rfl) (nomem rfl) (yesmem rfl) s171.1 s171.2.1 (Nat.le_of_ble_eq_true rfl) (fun ad172 ce172 h1 h2 h3 h4 => ?_)
  have s172 : SN l8 142 7 143 y (ad 142) 172 ad172 ce172 := SN_next (m := 171) hls (by decide) (by decide) s171 h1 h2 h3 h4 rfl (fun _ => rfl)
  clear h1 h2 h3 h4 s171
  rw [IN_succ (by decide)]
  refine U.aload_n dX8_init_236 rfl ?_
  refine U.bipush (v := nI 9) dX8_init_237 (by decide) ?_
  refine U.nap (o := 142) (ci := 7) (k := 35) (C := RX8) (T := TX8) (N := 37) (i := 172) tyX8 dX8_init_239 dX8_init_241 hA hin lfX8_98 inX8 tyX8_ok nmX8 rfl (by decide) rfl rfl rfl (by decide) (Nat.le_of_ble_eq_true rfl) (Nat.le_of_ble_eq_true rfl) (nomem rfl) (yesmem rfl) s172.1 s172.2.1 (Nat.le_of_ble_eq_true rfl) (fun ad173 ce173 h1 h2 h3 h4 => ?_)
  have s173 : SN l8 142 7 143 y (ad 142) 173 ad173 ce173 := SN_next (m := 172) hls (by decide) (by decide) s172 h1 h2 h3 h4 rfl (fun _ => rfl)
  clear h1 h2 h3 h4 s172
  rw [IN_succ (by decide)]
  refine U.aload_n dX8_init_244 rfl ?_
  refine U.bipush (v := nI 9) dX8_init_245 (by decide) ?_
  refine U.nap (o := 142) (ci := 7) (k := 36) (C := RX8) (T := TX8) (N := 37) (i := 173) tyX8 dX8_init_247 dX8_init_249 hA hin lfX8_101 inX8 tyX8_ok nmX8 rfl (by decide) rfl rfl rfl (by decide) (Nat.le_of_ble_eq_true rfl) (Nat.le_of_ble_eq_true rfl) (nomem rfl) (yesmem rfl) s173.1 s173.2.1 (Nat.le_of_ble_eq_true rfl) (fun ad174 ce174 h1 h2 h3 h4 => ?_)
  have s174 : SN l8 142 7 143 y (ad 142) 174 ad174 ce174 := SN_next (m := 173) hls (by decide) (by decide) s173 h1 h2 h3 h4 rfl (fun _ => rfl)
  clear h1 h2 h3 h4 s173
  rw [IN_succ (by decide)]
  refine U.wcg (ad' := ad174) (ce' := cont y ad174 mem0) (fun i hi => ⟨rfl, ?_⟩) ?_
  · rcases (IN_mem (by decide)).mp hi with rfl | ⟨g1, g2⟩
    · rw [s174.2.1]; rfl
    · rw [s174.2.2 i g1 g2]
      by_cases e : i = 148
      · subst e; rfl
      · have h0 : ial i ≠ 0 := by unfold ial; repeat' split
                                  all_goals omega
        rw [cont_arr h0, cont_arr h0]
  refine U.iconst (v := nI 0) dX8_init_252 rfl ?_
  refine U.istore_n dX8_init_253 (by decide) ?_
  refine U.iload_n dX8_init_254 rfl ?_
  refine U.iconst (v := nI 4) dX8_init_255 rfl ?_
  refine U.geN (tgt := 287) dX8_init_256 (by decide) (by omega) (by omega) (fun h => absurd h (by omega)) (fun _ => ?_)
  refine U.aload_n dX8_init_259 rfl ?_
  refine U.getfA (o := 142) (ci := 7) (k := 0) (C := RX8) (T := TX8) (N := 37) dX8_init_260 lfX8_7 inX8 rfl (by decide) (yesmem rfl) s174.1 (show cont y ad174 _ 142 = o_model ad174 _ from rfl) rfl ?_
  refine U.bipush (v := nI 9) dX8_init_263 (by decide) ?_
  refine U.iload_n dX8_init_265 rfl ?_
  first | refine U.imulN dX8_init_266 ?_ | refine U.imul dX8_init_266 ?_
  refine U.iconst (v := nI 1) dX8_init_267 rfl ?_
  refine U.iastM (i := 143) (n := 36) dX8_init_268 (yesmem rfl) rfl (by decide) (by decide) ?_
  refine U.aload_n dX8_init_269 rfl ?_
  refine U.getfA (o := 142) (ci := 7) (k := 1) (C := RX8) (T := TX8) (N := 37) dX8_init_270 lfX8_13 inX8 rfl (by decide) (yesmem rfl) s174.1 (show cont y ad174 _ 142 = o_model ad174 _ from rfl) rfl ?_
  refine U.bipush (v := nI 9) dX8_init_273 (by decide) ?_
  refine U.iload_n dX8_init_275 rfl ?_
  first | refine U.imulN dX8_init_276 ?_ | refine U.imul dX8_init_276 ?_
  refine U.iconst (v := nI 1) dX8_init_277 rfl ?_
  first | refine U.iaddN dX8_init_278 ?_ | refine U.iadd dX8_init_278 ?_
  refine U.iconst (v := nI 1) dX8_init_279 rfl ?_
  refine U.iastM (i := 144) (n := 36) dX8_init_280 (yesmem rfl) rfl (by decide) (by decide) ?_
  refine U.iincN dX8_init_281 (by decide) rfl ?_
  refine U.goto (tgt := 254) dX8_init_284 (by decide) ?_
  refine U.iload_n dX8_init_254 rfl ?_
  refine U.iconst (v := nI 4) dX8_init_255 rfl ?_
  refine U.geN (tgt := 287) dX8_init_256 (by decide) (by omega) (by omega) (fun h => absurd h (by omega)) (fun _ => ?_)
  refine U.aload_n dX8_init_259 rfl ?_
  refine U.getfA (o := 142) (ci := 7) (k := 0) (C := RX8) (T := TX8) (N := 37) dX8_init_260 lfX8_7 inX8 rfl (by decide) (yesmem rfl) s174.1 (show cont y ad174 _ 142 = o_model ad174 _ from rfl) rfl ?_
  refine U.bipush (v := nI 9) dX8_init_263 (by decide) ?_
  refine U.iload_n dX8_init_265 rfl ?_
  first | refine U.imulN dX8_init_266 ?_ | refine U.imul dX8_init_266 ?_
  refine U.iconst (v := nI 1) dX8_init_267 rfl ?_
  refine U.iastM (i := 143) (n := 36) dX8_init_268 (yesmem rfl) rfl (by decide) (by decide) ?_
  refine U.aload_n dX8_init_269 rfl ?_
  refine U.getfA (o := 142) (ci := 7) (k := 1) (C := RX8) (T := TX8) (N := 37) dX8_init_270 lfX8_13 inX8 rfl (by decide) (yesmem rfl) s174.1 (show cont y ad174 _ 142 = o_model ad174 _ from rfl) rfl ?_
  refine U.bipush (v := nI 9) dX8_init_273 (by decide) ?_
  refine U.iload_n dX8_init_275 rfl ?_
  first | refine U.imulN dX8_init_276 ?_ | refine U.imul dX8_init_276 ?_
  refine U.iconst (v := nI 1) dX8_init_277 rfl ?_
  first | refine U.iaddN dX8_init_278 ?_ | refine U.iadd dX8_init_278 ?_
  refine U.iconst (v := nI 1) dX8_init_279 rfl ?_
  refine U.iastM (i := 144) (n := 36) dX8_init_280 (yesmem rfl) rfl (by decide) (by decide) ?_
  refine U.iincN dX8_init_281 (by decide) rfl ?_
  refine U.goto (tgt := 254) dX8_init_284 (by decide) ?_
  refine U.iload_n dX8_init_254 rfl ?_
  refine U.iconst (v := nI 4) dX8_init_255 rfl ?_
  refine U.geN (tgt := 287) dX8_init_256 (by decide) (by omega) (by omega) (fun h => absurd h (by omega)) (fun _ => ?_)
  refine U.aload_n dX8_init_259 rfl ?_
  refine U.getfA (o := 142) (ci := 7) (k := 0) (C := RX8) (T := TX8) (N := 37) dX8_init_260 lfX8_7 inX8 rfl (by decide) (yesmem rfl) s174.1 (show cont y ad174 _ 142 = o_model ad174 _ from rfl) rfl ?_
  refine U.bipush (v := nI 9) dX8_init_263 (by decide) ?_
  refine U.iload_n dX8_init_265 rfl ?_
  first | refine U.imulN dX8_init_266 ?_ | refine U.imul dX8_init_266 ?_
  refine U.iconst (v := nI 1) dX8_init_267 rfl ?_
  refine U.iastM (i := 143) (n := 36) dX8_init_268 (yesmem rfl) rfl (by decide) (by decide) ?_
  refine U.aload_n dX8_init_269 rfl ?_
  refine U.getfA (o := 142) (ci := 7) (k := 1) (C := RX8) (T := TX8) (N := 37) dX8_init_270 lfX8_13 inX8 rfl (by decide) (yesmem rfl) s174.1 (show cont y ad174 _ 142 = o_model ad174 _ from rfl) rfl ?_
  refine U.bipush (v := nI 9) dX8_init_273 (by decide) ?_
  refine U.iload_n dX8_init_275 rfl ?_
  first | refine U.imulN dX8_init_276 ?_ | refine U.imul dX8_init_276 ?_
  refine U.iconst (v := nI 1) dX8_init_277 rfl ?_
  first | refine U.iaddN dX8_init_278 ?_ | refine U.iadd dX8_init_278 ?_
  refine U.iconst (v := nI 1) dX8_init_279 rfl ?_
  refine U.iastM (i := 144) (n := 36) dX8_init_280 (yesmem rfl) rfl (by decide) (by decide) ?_
  refine U.iincN dX8_init_281 (by decide) rfl ?_
  refine U.goto (tgt := 254) dX8_init_284 (by decide) ?_
  refine U.iload_n dX8_init_254 rfl ?_
  refine U.iconst (v := nI 4) dX8_init_255 rfl ?_
  refine U.geN (tgt := 287) dX8_init_256 (by decide) (by omega) (by omega) (fun h => absurd h (by omega)) (fun _ => ?_)
  refine U.aload_n dX8_init_259 rfl ?_
  refine U.getfA (o := 142) (ci := 7) (k := 0) (C := RX8) (T := TX8) (N := 37) dX8_init_260 lfX8_7 inX8 rfl (by decide) (yesmem rfl) s174.1 (show cont y ad174 _ 142 = o_model ad174 _ from rfl) rfl ?_
  refine U.bipush (v := nI 9) dX8_init_263 (by decide) ?_
  refine U.iload_n dX8_init_265 rfl ?_
  first | refine U.imulN dX8_init_266 ?_ | refine U.imul dX8_init_266 ?_
  refine U.iconst (v := nI 1) dX8_init_267 rfl ?_
  refine U.iastM (i := 143) (n := 36) dX8_init_268 (yesmem rfl) rfl (by decide) (by decide) ?_
  refine U.aload_n dX8_init_269 rfl ?_
  refine U.getfA (o := 142) (ci := 7) (k := 1) (C := RX8) (T := TX8) (N := 37) dX8_init_270 lfX8_13 inX8 rfl (by decide) (yesmem rfl) s174.1 (show cont y ad174 _ 142 = o_model ad174 _ from rfl) rfl ?_
  refine U.bipush (v := nI 9) dX8_init_273 (by decide) ?_
  refine U.iload_n dX8_init_275 rfl ?_
  first | refine U.imulN dX8_init_276 ?_ | refine U.imul dX8_init_276 ?_
  refine U.iconst (v := nI 1) dX8_init_277 rfl ?_
  first | refine U.iaddN dX8_init_278 ?_ | refine U.iadd dX8_init_278 ?_
  refine U.iconst (v := nI 1) dX8_init_279 rfl ?_
  refine U.iastM (i := 144) (n := 36) dX8_init_280 (yesmem rfl) rfl (by decide) (by decide) ?_
  refine U.iincN dX8_init_281 (by decide) rfl ?_
  refine U.goto (tgt := 254) dX8_init_284 (by decide) ?_
  refine U.iload_n dX8_init_254 rfl ?_
  refine U.iconst (v := nI 4) dX8_init_255 rfl ?_
  refine U.geN (tgt := 287) dX8_init_256 (by decide) (by omega) (by omega) (fun _ => ?_) (fun h => absurd h (by omega))
  subst hKK
  subst hAA
  refine U.vret dX8_init_287 rfl rfl (fun i hi => ?_) (fun i _ _ => rfl)
  rw [List.mem_singleton.mp hi]; exact s174.1.symm

