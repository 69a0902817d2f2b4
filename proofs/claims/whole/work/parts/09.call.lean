/-! ===== contracts, calls, ends ===== -/
def rmd (d : Nat) : Room := { frames := d, cells := 0, slots := 0, locals := 40 * d }
def isNest : Cond → Bool
  | .methodLinkNest _ _ _ _ => true
  | _ => false
theorem nws_nest : ∀ w ∈ nws, isNest w = true := by decide +kernel
theorem nw_warm {s U : State} (hW : s.WarmedH U.vm) (h : ∀ w ∈ nws, va_Nw w s) : ∀ w ∈ nws, va_Nw w U := by
  intro w hw
  have h1 := nws_nest w hw
  have h2 := h w hw
  cases w <;> first | exact va_Nw.warmM hW h2 | (exact absurd h1 (by simp [isNest]))
theorem nw_same {s U : State} (hW : s.vm = U.vm) (h : ∀ w ∈ nws, va_Nw w s) : ∀ w ∈ nws, va_Nw w U := by
  intro w hw
  have h1 := nws_nest w hw
  have h2 := h w hw
  cases w <;> first | exact va_Nw.same rfl hW h2 | (exact absurd h1 (by simp [isNest]))
def Pcw (g : Gl) (av : List Value) (M : Mem) : Array Value → State → Prop := fun v U => v = av.toArray ∧ va_P g.2.1 cls (wd g M) U.heap ∧ va_K g.2.1 cls (tysy g.2.2.1) U ∧ va_D (fun _ => True) (wd g M) ∧ ∀ w ∈ nws, va_Nw w U
def Qcw (g : Gl) (Qr : Option Value → Mem → Prop) : Array Value → State → Outcome → State → Prop := fun _ st oc t => (∃ (v : Option Value) (M' : Mem), oc = .returned v ∧ Qr v M' ∧ va_P g.2.1 cls (wd g M') t.heap) ∧ va_F (inW g) st t
/-- the contract of a method in the world: av its arguments, M what it finds, Qr what it answers and leaves; d: how deep it calls -/
def Ct (g : Gl) (yn : MethodName) (cc : ByteArray) (nL : Nat) (ret : Option FieldType) (d : Nat) (av : List Value) (M : Mem) (Qr : Option Value → Mem → Prop) : Prop :=
  Met g.1 yn (.code yn cc nL ret :: gw) (rmd d) (Pcw g av M) (Qcw g Qr) 0 0 (inW g)
def Qm (g : Gl) (κ : Ka) (Qr : Option Value → Mem → Prop) : State → Prop := MQ κ.2.2.2.2.2.1 (Qcw g Qr) κ.2.2.2.2.1 κ.2.2.1 0 0 (inW g)
def entL (av : List Value) (nL : Nat) : List (Option Value) := av.map some ++ List.replicate (nL - av.length) none
theorem Ct.mono {g : Gl} {yn : MethodName} {cc : ByteArray} {nL : Nat} {ret : Option FieldType} {d : Nat} {av : List Value} {M : Mem} {Qr Qr' : Option Value → Mem → Prop} (h : Ct g yn cc nL ret d av M Qr) (hq : ∀ v M', Qr v M' → Qr' v M') : Ct g yn cc nL ret d av M Qr' := by
  intro p e ha hc hk s m args below hf hpre hP hK
  obtain ⟨k, o, h1, h2, h3, ⟨⟨v, M', q1, q2, q3⟩, q4⟩, h5⟩ := h p e ha hc hk s m args below hf hpre hP hK
  exact ⟨k, o, h1, h2, h3, ⟨⟨v, M', q1, hq v M' q2, q3⟩, q4⟩, h5⟩
theorem cat1_sl : ∀ av : List Value, (∀ v ∈ av, v.category = 1) → lg_sl av = av.map Slot.val
  | [], _ => rfl
  | v :: t, h => by
    have h1 : v.category = 1 := h v List.mem_cons_self
    show (if v.category = 2 then [Slot.val v, Slot.second] else [Slot.val v]) ++ lg_sl t = _
    rw [if_neg (by rw [h1]; decide), cat1_sl t (fun w hw => h w (List.mem_cons_of_mem _ hw))]
    rfl
theorem cat1_args : ∀ (av : List Value) (i : Nat), (∀ v ∈ av, v.category = 1) → ∀ (k : Nat) (v : Value), av[k]? = some v → (i + k, v) ∈ lv_args i av
  | [], _, _, k, v, h => by simp at h
  | a :: t, i, h, k, v, hv => by
    have h1 : a.category = 1 := h a List.mem_cons_self
    show (i + k, v) ∈ (i, a) :: lv_args (if a.category = 2 then i + 2 else i + 1) t
    rw [if_neg (by rw [h1]; decide)]
    cases k with
    | zero => rw [List.getElem?_cons_zero] at hv; cases hv; exact List.mem_cons_self
    | succ k =>
      rw [List.getElem?_cons_succ] at hv
      refine List.mem_cons_of_mem _ ?_
      have := cat1_args t (i + 1) (fun w hw => h w (List.mem_cons_of_mem _ hw)) k v hv
      rw [show i + (k + 1) = i + 1 + k by omega]
      exact this
theorem Ct.ofV {g : Gl} {yn : MethodName} {cc : ByteArray} {nL : Nat} {ret : Option FieldType} {d : Nat} {av : List Value} {M : Mem} {Qr : Option Value → Mem → Prop} (hy : plainName yn.cls = true) (hn : av.length ≤ nL) (hcat : ∀ v ∈ av, v.category = 1)
    (h : ∀ κ : Ka, V g cc nL yn.cls ret (rmd d) (Qm g κ Qr) κ M 0 (entL av nL) []) : Ct g yn cc nL ret d av M Qr := by
  refine Met.ofW (cc := cc) (maxL := nL) (ret := ret) hy rfl ?_
  intro p e s m args below meth c s₁ B hml hv
  obtain ⟨rfl, hP, hK, hD0, hN⟩ := hv
  have hts := atoms_spec (ws := .code yn cc nL ret :: gw) B.pre
  have hown : s.vm.findClass yn.cls = some m.cls := findClass_of_methodNamed B.named
  have hl := lv_entry av (n := nL) (by rw [cat1_sl av hcat, List.length_map]; exact hn)
  rw [lg_entry_eq]
  refine h (p, e, s, m, av.toArray, below, meth, c) ⟨B.exec, B.bytes, hml, hown, fun w hw => hts w (List.mem_cons_of_mem _ hw), hK, hN, B.notSynchronized, B.returns⟩ s.heap [] _ ⟨hP, wd_D hD0 (fun i hi => ⟨i, hi, rfl⟩), va_S.rf⟩ ⟨hl.1, hl.2.1, fun i v hiv => ?_⟩
  unfold entL at hiv
  by_cases hi : i < av.length
  · rw [List.getElem?_append_left (by rw [List.length_map]; exact hi), List.getElem?_map] at hiv
    cases ha : av[i]? with
    | none => rw [ha] at hiv; cases hiv
    | some w =>
      rw [ha] at hiv
      cases hiv
      refine ⟨hcat _ (List.mem_of_getElem? ha), ?_⟩
      have := cat1_args av 0 hcat i v ha
      rw [Nat.zero_add] at this
      exact hl.2.2 _ this
  · rw [List.getElem?_append_right (by rw [List.length_map]; omega)] at hiv
    rw [List.getElem?_replicate] at hiv
    split at hiv <;> cases hiv
theorem Pcw_blind {g : Gl} {av : List Value} {M : Mem} : FrameBlind (Pcw g av M) := fun a U gf mk q => by
  obtain ⟨q0, q1, q2, q3, q4⟩ := q
  exact ⟨q0, q1, va_K.moved (u := U) (U := U.calling gf mk a) (Vm.Alike.refl U.vm) q2, q3, nw_same (s := U) (U := U.calling gf mk a) rfl q4⟩
theorem gw_code {yn : MethodName} {cc : ByteArray} {nL : Nat} {ret : Option FieldType} (h : Cond.code yn cc nL ret ∈ gw) : GoodIn gw (.code yn cc nL ret :: gw) := fun w hw => by
  rcases List.mem_cons.mp hw with rfl | hw
  · exact gw_good _ h
  · exact gw_good _ hw
section VC
variable {g : Gl} {cc : ByteArray} {nL : Nat} {own : String} {ret : Option FieldType} {R : Room} {Q : State → Prop} {κ : Ka} {M : Mem} {pc : Nat} {L : List (Option Value)} {st : List Value}
theorem Wo.pre {s U : State} {H0 H : Heap} {locs : List Loc} {av : List Value} (w : Wo g M H0 H locs) (hK : va_K g.2.1 cls (tysy g.2.2.1) s) (hN : ∀ w ∈ nws, va_Nw w s) (hU : U.heap = H) (hW : s.WarmedH U.vm) : Pcw g av M av.toArray U := ⟨rfl, by rw [hU]; exact w.1, va_K.moved hW.alike hK, wd_D w.2.1 (fun _ _ => trivial), nw_warm hW hN⟩
theorem V.after {y2 : MethodName} {av2 : Array Value} {Qr : Option Value → Mem → Prop} {H : Heap} {locs : List Loc} {ls : Array Slot} {st0 : List Value} (E : Kx g cc nL own ret κ) (w : Wo g M κ.2.2.1.heap H locs) (hl : hasL ls nL L)
    (run : va_Run κ.1 g.1 κ.2.1 R κ.2.2.1 κ.2.2.2.1 κ.2.2.2.2.1 κ.2.2.2.2.2.1 κ.2.2.2.2.2.2.1 κ.2.2.2.2.2.2.2 H locs 0 0 0 0 (F0 κ.2.2.2.1 pc ls st0) st (Qcw g Qr av2) (inW g))
    (kk : ∀ (v : Option Value) (M' : Mem), Qr v M' → V g cc nL own ret R Q κ M' (pc + 3) L (v.toList ++ st)) : Wk g R Q κ H locs (F0 κ.2.2.2.1 pc ls st0) := by
  intro T hT X
  obtain ⟨v, st₀, t, T', L', h0, X', hL', e1, e2, ⟨⟨v', M', hv, hq, hP'⟩, hz, hk⟩, stp⟩ := run T hT X
  cases hv
  rw [h0] at hz hk
  obtain ⟨t2, a1, b1⟩ := kk v M' hq E T'.heap (locs ++ L') ls ⟨by rw [e1]; exact hP', wd_D w.2.1 (fun i hi => ⟨i, hi, rfl⟩), ⟨Nat.le_trans w.2.2.1 (by rw [e1]; exact hz), fun q h1 h2 => by rw [e1, hk q (Nat.lt_of_lt_of_le h1 w.2.2.1) h2]; exact w.2.2.2.1 q h1 h2, fun q hq => by
      rcases List.mem_append.mp hq with h | h
      · exact w.2.2.2.2 q h
      · exact hL' q h⟩⟩ hl T' rfl X'
  exact ⟨t2, stp t2 a1, b1⟩
/-- a static method called -/
theorem V.callS {yn : MethodName} {c2 : ByteArray} {n2 d2 index : Nat} {r2 : Option FieldType} {av st0 : List Value} {Qr : Option Value → Mem → Prop} (d : decode cc pc = .ok (.invokestatic index, 3)) (hM : Ct g yn c2 n2 r2 d2 av M Qr) (hl : Cond.methodLink own index yn ∈ gw) (hs : Cond.static yn ∈ gw) (hc : Cond.code yn c2 n2 r2 ∈ gw) (hi : Cond.initialized yn.cls ∈ gw)
    (hd : yn.cls ≠ "java/lang/invoke/MethodHandle" ∧ yn.cls ≠ "java/lang/invoke/VarHandle" ∧ (parseMethodDescriptor yn.desc).map (fun d => d.parameters.length) = some av.length) (hR : d2 + 1 ≤ R.frames ∧ 8 + (n2 + 11) + 40 * d2 ≤ R.locals) (h0 : st0 = av.reverse ++ st) (hw : (st.map fun v => v.category).sum ≤ 8)
    (kk : ∀ (v : Option Value) (M' : Mem), Qr v M' → V g cc nL own ret R Q κ M' (pc + 3) L (v.toList ++ st)) : V g cc nL own ret R Q κ M pc L st0 := fun E H locs ls w hls =>
  V.after (y2 := yn) (av2 := av.toArray) E w hls (va_runS (Ts := gw) (own := own) ⟨E.1, E.2.1, E.2.2.1, E.2.2.2.1, E.2.2.2.2.1⟩ hM ⟨callB_of av.length E.2.2.2.2.1 (gw_code hc) rfl rfl rfl (E.2.2.2.2.1 _ hi) (E.2.2.2.2.1 _ hl) hd hR, E.2.2.2.2.1 _ hs⟩ ⟨Pcw_blind, fun U hU hW => w.pre E.2.2.2.2.2.1 E.2.2.2.2.2.2.1 hU hW⟩ rfl rfl hls.1 h0 (lv_room hw) d ⟨Nat.zero_le _, Nat.zero_le _⟩) kk
/-- a private static method of a nest mate called -/
theorem V.callSN {yn : MethodName} {c2 : ByteArray} {n2 d2 index : Nat} {r2 : Option FieldType} {av st0 : List Value} {Qr : Option Value → Mem → Prop} {host : String} (d : decode cc pc = .ok (.invokestatic index, 3)) (hM : Ct g yn c2 n2 r2 d2 av M Qr) (hl : Cond.methodLinkNest own index yn host ∈ nws) (hs : Cond.static yn ∈ gw) (hc : Cond.code yn c2 n2 r2 ∈ gw) (hi : Cond.initialized yn.cls ∈ gw)
    (hd : yn.cls ≠ "java/lang/invoke/MethodHandle" ∧ yn.cls ≠ "java/lang/invoke/VarHandle" ∧ (parseMethodDescriptor yn.desc).map (fun d => d.parameters.length) = some av.length) (hR : d2 + 1 ≤ R.frames ∧ 8 + (n2 + 11) + 40 * d2 ≤ R.locals) (h0 : st0 = av.reverse ++ st) (hw : (st.map fun v => v.category).sum ≤ 8)
    (kk : ∀ (v : Option Value) (M' : Mem), Qr v M' → V g cc nL own ret R Q κ M' (pc + 3) L (v.toList ++ st)) : V g cc nL own ret R Q κ M pc L st0 := fun E H locs ls w hls =>
  V.after (y2 := yn) (av2 := av.toArray) E w hls (va_runSN (Ts := gw) (own := own) ⟨E.1, E.2.1, E.2.2.1, E.2.2.2.1, E.2.2.2.2.1⟩ hM ⟨va_cnB av.length E.2.2.2.2.1 (gw_code hc) rfl rfl rfl (E.2.2.2.2.2.2.1 _ hl) (E.2.2.2.2.1 _ hi) hd hR, E.2.2.2.2.1 _ hs, trivial⟩ ⟨Pcw_blind, fun U hU hW => w.pre E.2.2.2.2.2.1 E.2.2.2.2.2.2.1 hU hW⟩ rfl rfl hls.1 h0 (lv_room hw) d ⟨Nat.zero_le _, Nat.zero_le _⟩) kk
/-- an object's method called -/
theorem V.callV {yn : MethodName} {c2 : ByteArray} {n2 d2 index o ci N : Nat} {T : u_T} {fs : List Value} {r2 : Option FieldType} {av st0 : List Value} {Qr : Option Value → Mem → Prop} (d : decode cc pc = .ok (.invokevirtual index, 3)) (hM : Ct g yn c2 n2 r2 d2 (.ref (g.2.2.2.1 o) :: av) M Qr) (hl : Cond.methodLink own index yn ∈ gw) (hs : Cond.instanceMethod yn ∈ gw) (hse : Cond.selects yn.cls yn yn ∈ gw) (hc : Cond.code yn c2 n2 r2 ∈ gw) (hi : Cond.initialized yn.cls ∈ gw)
    (hcl : cls[ci]? = some (yn.cls, T, N)) (ho : o ∈ g.2.2.2.2) (hco : cont g.2.2.1 g.2.2.2.1 M o = .inr (ci, fs))
    (hd : yn.cls ≠ "java/lang/invoke/MethodHandle" ∧ yn.cls ≠ "java/lang/invoke/VarHandle" ∧ (parseMethodDescriptor yn.desc).map (fun d => d.parameters.length) = some av.length) (hR : d2 + 1 ≤ R.frames ∧ 8 + (n2 + 11) + 40 * d2 ≤ R.locals) (h0 : st0 = av.reverse ++ .ref (g.2.2.2.1 o) :: st) (hw : (st.map fun v => v.category).sum ≤ 8)
    (kk : ∀ (v : Option Value) (M' : Mem), Qr v M' → V g cc nL own ret R Q κ M' (pc + 3) L (v.toList ++ st)) : V g cc nL own ret R Q κ M pc L st0 := fun E H locs ls w hls => by
  obtain ⟨q, -, hq⟩ := wd_at (M := M) ho
  rw [hco] at hq
  exact V.after (y2 := yn) (av2 := (.ref (g.2.2.2.1 o) :: av : List Value).toArray) E w hls (va_runV (Ts := gw) (own := own) (C := yn.cls) (b := g.2.2.2.1 o) (As := av) ⟨E.1, E.2.1, E.2.2.1, E.2.2.2.1, E.2.2.2.2.1⟩ hM ⟨callB_of av.length E.2.2.2.2.1 (gw_code hc) rfl rfl rfl (E.2.2.2.2.1 _ hi) (E.2.2.2.2.1 _ hl) hd hR, E.2.2.2.2.1 _ hs, E.2.2.2.2.1 _ hse⟩ ⟨Pcw_blind, va_recv E.2.2.2.2.2.1 w.1 hcl hq, fun U hU hW => w.pre E.2.2.2.2.2.1 E.2.2.2.2.2.2.1 hU hW⟩ rfl rfl hls.1 h0 (lv_room hw) d ⟨Nat.zero_le _, Nat.zero_le _⟩) kk
end VC
section VR
variable {g : Gl} {cc : ByteArray} {nL : Nat} {own : String} {ret : Option FieldType} {R : Room} {κ : Ka} {M : Mem} {pc : Nat} {L : List (Option Value)} {st : List Value} {Qr : Option Value → Mem → Prop}
theorem V.iret {x : Int32} (d : decode cc pc = .ok (.ireturn, 1)) (h : Qr (some (.int x)) M) : V g cc nL own (some .int) R (Qm g κ Qr) κ M pc L [.int x] := fun E H locs ls w hls =>
  W.iret E.1 E.2.1 E.2.2.2.2.2.2.2.2 (fun t ht _ => ⟨⟨some (.int x), M, rfl, h, by rw [ht]; exact w.1⟩, w.2.2.F ht⟩) (fun q hq => w.2.2.2.2 q hq) d E.2.2.2.2.2.2.2.1
theorem V.zret {x : Int32} (d : decode cc pc = .ok (.ireturn, 1)) (hn : narrow .boolean (.int x) = .int x) (h : Qr (some (.int x)) M) : V g cc nL own (some .boolean) R (Qm g κ Qr) κ M pc L [.int x] := fun E H locs ls w hls =>
  W.zret E.1 E.2.1 E.2.2.2.2.2.2.2.2 hn (fun t ht _ => ⟨⟨some (.int x), M, rfl, h, by rw [ht]; exact w.1⟩, w.2.2.F ht⟩) (fun q hq => w.2.2.2.2 q hq) d E.2.2.2.2.2.2.2.1
theorem V.vret (d : decode cc pc = .ok (.return_, 1)) (h : Qr none M) : V g cc nL own none R (Qm g κ Qr) κ M pc L [] := fun E H locs ls w hls =>
  W.vret E.1 E.2.1 E.2.2.2.2.2.2.2.2 (fun t ht _ => ⟨⟨none, M, rfl, h, by rw [ht]; exact w.1⟩, w.2.2.F ht⟩) (fun q hq => w.2.2.2.2 q hq) d E.2.2.2.2.2.2.2.1
theorem V.aret {a : Nat} {ty : FieldType} (d : decode cc pc = .ok (.areturn, 1)) (h : Qr (some (.ref a)) M) : V g cc nL own (some (.array ty)) R (Qm g κ Qr) κ M pc L [.ref a] := fun E H locs ls w hls =>
  W.aret E.1 E.2.1 E.2.2.2.2.2.2.2.2 (Or.inr ⟨ty, rfl⟩) (Or.inr ⟨a, rfl⟩) (fun t ht _ => ⟨⟨some (.ref a), M, rfl, h, by rw [ht]; exact w.1⟩, w.2.2.F ht⟩) (fun q hq => w.2.2.2.2 q hq) d E.2.2.2.2.2.2.2.1
end VR
