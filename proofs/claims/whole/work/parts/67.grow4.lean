theorem aoa_spec {s : State} (h : va_AOA .int s) : ∃ comp c k, s.vm.findClass (FieldType.array .int).toString = some comp ∧ (s.vm.classes.findIdx? fun (x : Class) => match x.kind with | .array component _ => component == comp | _ => false) = some c ∧ s.vm.classes[c]? = some k ∧ k.kind = .array comp (.array .int) ∧ s.vm.findClass ("[" ++ (FieldType.array .int).toString) = some c := by
  unfold va_AOA Cond.before at h
  simp only [Cond.holds, Cond.value, beq_iff_eq] at h
  cases hc : s.vm.findClass (FieldType.array .int).toString with
  | none => simp [hc] at h
  | some comp =>
    simp only [hc, Option.bind_some, Option.bind_eq_some_iff, Option.map_eq_some_iff] at h
    obtain ⟨c, hi, k, hk, hb⟩ := h
    obtain ⟨hlt, hp, -⟩ := Array.findIdx?_eq_some_iff_getElem.mp hi
    have hkk : s.vm.classes[c] = k := (Array.getElem?_eq_some_iff.mp hk).2
    rw [hkk] at hp
    cases hkind : k.kind with
    | array component ty =>
      rw [hkind] at hb hp
      simp at hb hp
      exact ⟨comp, c, k, rfl, hi, hk, by rw [hkind, hp, hb.1], hb.2⟩
    | _ => rw [hkind] at hp; simp at hp
theorem va_AOA.moved {u U : State} (hvm : u.vm.Alike U.vm) (h : va_AOA .int u) : va_AOA .int U := by
  obtain ⟨comp, c, k, h1, h2, h3, h4, h5⟩ := aoa_spec h
  obtain ⟨k', hk', he⟩ := hvm.2.2 _ _ h3
  have hi : (U.vm.classes.findIdx? fun (x : Class) => match x.kind with | .array component _ => component == comp | _ => false) = some c := by
    have b1 := va_idx_bare U.vm comp
    have b2 := va_idx_bare u.vm comp
    have e0 : U.vm.bare = u.vm.bare := by first | exact hvm.bare_eq | exact hvm.bare_eq.symm
    rw [e0] at b1
    exact b1.symm.trans (b2.trans h2)
  have hkind : k'.kind = .array comp (.array .int) := by rw [he]; exact h4
  have f1 : U.vm.findClass (FieldType.array .int).toString = some comp := by rw [hvm.findClass]; exact h1
  have f2 : U.vm.findClass ("[" ++ (FieldType.array .int).toString) = some c := by rw [hvm.findClass]; exact h5
  unfold va_AOA Cond.before Cond.holds
  simp only [Cond.value]
  rw [f1, Option.bind_some]
  refine (congrArg (fun o : Option Nat => (o.bind (fun c => (U.vm.classes[c]?).map fun (k : Class) => match k.kind with | .array _ ty => decide (ty = FieldType.array .int) && decide (U.vm.findClass ("[" ++ (FieldType.array .int).toString) = some c) | _ => false) == some true)) hi).trans ?_
  simp [hk', hkind, f2]
/-- what the making of arrays asks of the tables -/
def AOk (U : State) : Prop := va_AO RX5 U ∧ va_AO RX1 U ∧ va_AOA .int U
theorem AOk.moved {u U : State} (hvm : u.vm.Alike U.vm) (h : AOk u) : AOk U := ⟨h.1.moved hvm, h.2.1.moved hvm, h.2.2.moved hvm⟩
def rmi (d mc ms : Nat) : Room := { frames := d, cells := mc, slots := ms, locals := 40 * d }
/-- a constructor's contract: ce0 what it finds, I1 the cells that it makes, sz the heap's size at its start -/
def Pci (g : Gl) (av : List Value) (ce0 : Nat → va_E) (sz : Nat) : Array Value → State → Prop := fun v U => v = av.toArray ∧ U.heap.size = sz ∧ va_P g.2.1 cls (wl g.2.2.2.2 g.2.2.2.1 ce0) U.heap ∧ va_K g.2.1 cls (tysy g.2.2.1) U ∧ va_D (fun _ => True) (wl g.2.2.2.2 g.2.2.2.1 ce0) ∧ (∀ w ∈ nws, va_Nw w U) ∧ AOk U
def Awi (g : Gl) (sz : Nat) : Nat → Prop := fun q => (∃ i, i ∈ g.2.2.2.2 ∧ q = g.2.2.2.1 i) ∨ sz ≤ q
def Qci (g : Gl) (I1 : List Nat) (sz : Nat) (Post : (Nat → Nat) → (Nat → va_E) → Prop) : Array Value → State → Outcome → State → Prop := fun _ st oc t => (∃ ad1 ce1, oc = .returned none ∧ (∀ i, i ∈ g.2.2.2.2 → ad1 i = g.2.2.2.1 i) ∧ Post ad1 ce1 ∧ va_P g.2.1 cls (wl (g.2.2.2.2 ++ I1) ad1 ce1) t.heap ∧ va_D (Awi g sz) (wl (g.2.2.2.2 ++ I1) ad1 ce1)) ∧ va_F (Awi g sz) st t
def Ci (g : Gl) (yn : MethodName) (cc : ByteArray) (nL d mc ms : Nat) (av : List Value) (ce0 : Nat → va_E) (I1 : List Nat) (Post : (Nat → Nat) → (Nat → va_E) → Prop) : Prop := ∀ sz, Met g.1 yn (.code yn cc nL none :: gw) (rmi d mc ms) (Pci g av ce0 sz) (Qci g I1 sz Post) mc ms (Awi g sz)
def Qmi (g : Gl) (κ : Ka) (I1 : List Nat) (mc ms : Nat) (Post : (Nat → Nat) → (Nat → va_E) → Prop) : State → Prop := MQ κ.2.2.2.2.2.1 (Qci g I1 κ.2.2.1.heap.size Post) κ.2.2.2.2.1 κ.2.2.1 mc ms (Awi g κ.2.2.1.heap.size)
theorem Ci.ofU {g : Gl} {yn : MethodName} {cc : ByteArray} {nL d mc ms : Nat} {av : List Value} {ce0 : Nat → va_E} {I1 : List Nat} {Post : (Nat → Nat) → (Nat → va_E) → Prop} (hy : plainName yn.cls = true) (hyn : yn.name = "<init>") (hn : av.length ≤ nL) (hcat : ∀ v ∈ av, v.category = 1)
    (h : ∀ κ : Ka, κ.2.2.2.2.2.2.1.name = "<init>" → AOk κ.2.2.1 → U g (Awi g κ.2.2.1.heap.size) cc nL yn.cls none (rmi d mc ms) (Qmi g κ I1 mc ms Post) κ ce0 (0, 0) 0 (entL av nL) []) : Ci g yn cc nL d mc ms av ce0 I1 Post := by
  intro sz
  refine Met.ofW (cc := cc) (maxL := nL) (ret := none) hy rfl ?_
  intro p e s m args below meth c s₁ B hml hv
  obtain ⟨rfl, hsz, hP, hK, hD0, hN, hao⟩ := hv
  subst hsz
  have hts := atoms_spec (ws := .code yn cc nL none :: gw) B.pre
  have hown : s.vm.findClass yn.cls = some m.cls := findClass_of_methodNamed B.named
  have hin : meth.name = yn.name := (name_of_methodNamed B.named B.method).1
  have hl := lv_entry av (n := nL) (by rw [cat1_sl av hcat, List.length_map]; exact hn)
  rw [lg_entry_eq]
  refine h (p, e, s, m, av.toArray, below, meth, c) (hin.trans hyn) hao ⟨B.exec, B.bytes, hml, hown, fun w hw => hts w (List.mem_cons_of_mem _ hw), hK, hN, B.notSynchronized, B.returns⟩ s.heap [] _ ⟨hP, wl_D hD0 (fun i hi => Or.inl ⟨i, hi, rfl⟩), va_S.rf⟩ ⟨hl.1, hl.2.1, fun i v hiv => ?_⟩
  unfold entL at hiv
  by_cases hi : i < av.length
  · rw [List.getElem?_append_left (by rw [List.length_map]; exact hi), List.getElem?_map] at hiv
    cases ha : av[i]? with
    | none => rw [ha] at hiv; cases hiv
    | some w =>
      rw [ha] at hiv
      cases hiv
      refine ⟨hcat _ (List.mem_of_getElem? ha), ?_⟩
      have := cat1_args av 0 hcat i v ha
      rw [Nat.zero_add] at this
      exact hl.2.2 _ this
  · rw [List.getElem?_append_right (by rw [List.length_map]; omega)] at hiv
    rw [List.getElem?_replicate] at hiv
    split at hiv <;> cases hiv
section UI
variable {g : Gl} {A : Nat → Prop} {cc : ByteArray} {nL : Nat} {own : String} {ret : Option FieldType} {R : Room} {Q : State → Prop} {κ : Ka} {ce : Nat → va_E} {kc : Nat × Nat} {pc : Nat} {L : List (Option Value)} {st : List Value}
/-- a constructor's end -/
theorem U.vret {g0 : Gl} {I1 : List Nat} {mc ms : Nat} {Post : (Nat → Nat) → (Nat → va_E) → Prop} (d : decode cc pc = .ok (.return_, 1)) (h1 : g.2.1 = g0.2.1) (hI : g.2.2.2.2 = g0.2.2.2.2 ++ I1) (ha : ∀ i, i ∈ g0.2.2.2.2 → g.2.2.2.1 i = g0.2.2.2.1 i) (h : Post g.2.2.2.1 ce) : U g (Awi g0 κ.2.2.1.heap.size) cc nL own none R (Qmi g0 κ I1 mc ms Post) κ ce (mc, ms) pc L [] := fun E H locs ls w hls =>
  W.vret E.1 E.2.1 E.2.2.2.2.2.2.2.2 (fun t ht _ => ⟨⟨g.2.2.2.1, ce, rfl, ha, h, by rw [ht, ← h1, ← hI]; exact w.1, by rw [← hI]; exact w.2.1⟩, w.2.2.F ht⟩) (fun q hq => w.2.2.2.2 q hq) d E.2.2.2.2.2.2.2.1
/-- Object's constructor -/
theorem U.oini {a index : Nat} (d : decode cc pc = .ok (.invokespecial index, 3)) (hl : Cond.methodLink own index objectInit ∈ gw) (h1 : 1 ≤ R.frames) (h2 : 40 ≤ R.locals) (hst : st = []) (kk : U g A cc nL own ret R Q κ ce kc (pc + 3) L st) : U g A cc nL own ret R Q κ ce kc pc L (.ref a :: st) := fun E H locs ls w hls => by
  subst hst
  refine W.objInit E.1 E.2.1 E.2.2.2.1 (E.2.2.2.2.1 _ hl) (E.2.2.2.2.1 _ im_objectInit) (E.2.2.2.2.1 _ cd_objectInit) rfl (by rw [E.2.2.1]; exact hls.1) rfl d h1 (by simp [Value.category]; omega) ?_
  exact W.eq (g2 := F0 κ.2.2.2.1 (pc + 3) ls []) rfl (kk E H locs ls w hls)
end UI
