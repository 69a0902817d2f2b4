/-! ===== a call out of a world that grows: the callee's world is a part of it ===== -/
theorem wl_get {I : List Nat} {ad : Nat → Nat} {ce : Nat → va_E} {k : Nat} {q : Nat × va_E} (h : (wl I ad ce)[k]? = some q) : ∃ i, I[k]? = some i ∧ q = (ad i, ce i) := by
  unfold wl at h
  rw [List.getElem?_map] at h
  cases hk : I[k]? with
  | none => rw [hk] at h; cases h
  | some i => rw [hk] at h; cases h; exact ⟨i, rfl, rfl⟩
theorem wl_of {I : List Nat} {ad : Nat → Nat} {ce : Nat → va_E} {k i : Nat} (h : I[k]? = some i) : (wl I ad ce)[k]? = some (ad i, ce i) := by
  unfold wl; rw [List.getElem?_map, h]; rfl
theorem wl_inj {I : List Nat} {ad : Nat → Nat} {ce : Nat → va_E} {A : Nat → Prop} {i j : Nat} (hD : va_D A (wl I ad ce)) (hi : i ∈ I) (hj : j ∈ I) (h : ad i = ad j) : i = j := by
  obtain ⟨a, ha⟩ := List.getElem?_of_mem hi
  obtain ⟨b, hb⟩ := List.getElem?_of_mem hj
  have e := hD.1 a b _ _ (wl_of ha) (wl_of hb) h
  subst e
  exact Option.some.inj (ha.symm.trans hb)
theorem wl_D {I : List Nat} {ad : Nat → Nat} {ce ce' : Nat → va_E} {A B : Nat → Prop} (h : va_D A (wl I ad ce)) (hB : ∀ i, i ∈ I → B (ad i)) : va_D B (wl I ad ce') := by
  refine ⟨fun i j p q hp hq hpq => ?_, fun k q hq => ?_⟩
  · obtain ⟨a, ha, rfl⟩ := wl_get hp
    obtain ⟨b, hb, rfl⟩ := wl_get hq
    exact h.1 i j _ _ (wl_of ha) (wl_of hb) hpq
  · obtain ⟨a, ha, rfl⟩ := wl_get hq
    exact hB a (List.mem_of_getElem? ha)
theorem wl_sD {I I2 : List Nat} {ad : Nat → Nat} {ce ce2 : Nat → va_E} {A : Nat → Prop} (h : va_D A (wl I ad ce)) (hs : ∀ i, i ∈ I2 → i ∈ I) (hn : I2.Nodup) : va_D (fun _ => True) (wl I2 ad ce2) := by
  refine ⟨fun i j p q hp hq hpq => ?_, fun _ _ _ => trivial⟩
  obtain ⟨a, ha, rfl⟩ := wl_get hp
  obtain ⟨b, hb, rfl⟩ := wl_get hq
  have e := wl_inj h (hs a (List.mem_of_getElem? ha)) (hs b (List.mem_of_getElem? hb)) hpq
  subst e
  exact (List.getElem?_inj (List.getElem?_eq_some_iff.mp ha).1 hn).mp (ha.trans hb.symm)
theorem wl_sP {D : va_G} {I I2 : List Nat} {ad : Nat → Nat} {ce ce2 : Nat → va_E} {H : Heap} (h : va_P D cls (wl I ad ce) H) (hs : ∀ i, i ∈ I2 → i ∈ I ∧ ce i = ce2 i) : va_P D cls (wl I2 ad ce2) H := fun k q hq => by
  obtain ⟨a, ha, rfl⟩ := wl_get hq
  obtain ⟨h1, h2⟩ := hs a (List.mem_of_getElem? ha)
  obtain ⟨b, hb⟩ := List.getElem?_of_mem h1
  have := h b _ (wl_of hb)
  rw [h2] at this
  exact this
def subC (I2 : List Nat) (c2 ce : Nat → va_E) : Nat → va_E := fun i => if i ∈ I2 then c2 i else ce i
section UC
variable {g : Gl} {A : Nat → Prop} {cc : ByteArray} {nL : Nat} {own : String} {ret : Option FieldType} {R : Room} {Q : State → Prop} {κ : Ka} {ce : Nat → va_E} {kc : Nat × Nat} {pc : Nat} {L : List (Option Value)} {st : List Value}
theorem U.after {I2 : List Nat} {M : Mem} {av2 : Array Value} {Qr : Option Value → Mem → Prop} {H : Heap} {locs : List Loc} {ls : Array Slot} {st0 : List Value} (hs : ∀ i, i ∈ I2 → i ∈ g.2.2.2.2 ∧ ce i = cont g.2.2.1 g.2.2.2.1 M i) (E : Kx g cc nL own ret κ) (w : Wb g A ce κ.2.2.1.heap H locs) (hl : hasL ls nL L)
    (run : va_Run κ.1 g.1 κ.2.1 R κ.2.2.1 κ.2.2.2.1 κ.2.2.2.2.1 κ.2.2.2.2.2.1 κ.2.2.2.2.2.2.1 κ.2.2.2.2.2.2.2 H locs kc.1 kc.2 0 0 (F0 κ.2.2.2.1 pc ls st0) st (Qcw (g.1, g.2.1, g.2.2.1, g.2.2.2.1, I2) Qr av2) (inW (g.1, g.2.1, g.2.2.1, g.2.2.2.1, I2)))
    (kk : ∀ (v : Option Value) (M' : Mem), Qr v M' → U g A cc nL own ret R Q κ (subC I2 (cont g.2.2.1 g.2.2.2.1 M') ce) kc (pc + 3) L (v.toList ++ st)) : W κ.1 g.1 κ.2.1 R κ.2.2.1 κ.2.2.2.1 κ.2.2.2.2.1 κ.2.2.2.2.2.1 κ.2.2.2.2.2.2.1 κ.2.2.2.2.2.2.2 H locs kc.1 kc.2 Q (F0 κ.2.2.2.1 pc ls st0) := by
  have hAw : ∀ i, i ∈ g.2.2.2.2 → A (g.2.2.2.1 i) := fun i hi => by
    obtain ⟨k, hk⟩ := List.getElem?_of_mem hi
    exact w.2.1.2 k _ (wl_of hk)
  intro T hT X
  obtain ⟨v, st₀, t, T', L', h0, X', hL', e1, e2, ⟨⟨v', M', hv, hq, hP'⟩, hz, hk⟩, stp⟩ := run T hT X
  cases hv
  rw [h0] at hz hk
  have hP2 : va_P g.2.1 cls (wl g.2.2.2.2 g.2.2.2.1 (subC I2 (cont g.2.2.1 g.2.2.2.1 M') ce)) t.heap := fun k q hq => by
    obtain ⟨a, ha, rfl⟩ := wl_get hq
    have haI := List.mem_of_getElem? ha
    by_cases h2 : a ∈ I2
    · obtain ⟨b, hb⟩ := List.getElem?_of_mem h2
      have := hP' b _ (wl_of (I := I2) (ad := g.2.2.2.1) (ce := cont g.2.2.1 g.2.2.2.1 M') hb)
      unfold subC
      rw [if_pos h2]; exact this
    · unfold subC
      rw [if_neg h2]
      have h3 := w.1 k _ (wl_of ha)
      refine h3.kept (hk _ h3.lt (fun z => ?_))
      obtain ⟨j, hj, e⟩ := z
      have := wl_inj w.2.1 haI (hs j hj).1 e
      subst this
      exact h2 hj
  obtain ⟨t2, a1, b1⟩ := kk v M' hq E T'.heap (locs ++ L') ls ⟨by rw [e1]; exact hP2, wl_D w.2.1 hAw, ⟨Nat.le_trans w.2.2.1 (by rw [e1]; exact hz), fun q h1 h2 => by
      rw [e1, hk q (Nat.lt_of_lt_of_le h1 w.2.2.1) (fun z => h2 (by obtain ⟨j, hj, e⟩ := z; rw [e]; exact hAw j (hs j hj).1))]; exact w.2.2.2.1 q h1 h2, fun q hq => by
      rcases List.mem_append.mp hq with h | h
      · exact w.2.2.2.2 q h
      · obtain ⟨j, hj, e⟩ := hL' q h
        rw [e]; exact hAw j (hs j hj).1⟩⟩ hl T' rfl X'
  exact ⟨t2, stp t2 a1, b1⟩
theorem Wb.pre {I2 : List Nat} {M : Mem} {s U0 : State} {H0 H : Heap} {locs : List Loc} {av : List Value} (hs : ∀ i, i ∈ I2 → i ∈ g.2.2.2.2 ∧ ce i = cont g.2.2.1 g.2.2.2.1 M i) (hn : I2.Nodup) (w : Wb g A ce H0 H locs) (hK : va_K g.2.1 cls (tysy g.2.2.1) s) (hN : ∀ w ∈ nws, va_Nw w s) (hU : U0.heap = H) (hW : s.WarmedH U0.vm) : Pcw (g.1, g.2.1, g.2.2.1, g.2.2.2.1, I2) av M av.toArray U0 := ⟨rfl, by rw [hU]; exact wl_sP w.1 hs, va_K.moved hW.alike hK, wl_sD w.2.1 (fun i hi => (hs i hi).1) hn, nw_warm hW hN⟩
theorem U.callS {I2 : List Nat} {M : Mem} {yn : MethodName} {c2 : ByteArray} {n2 d2 index : Nat} {r2 : Option FieldType} {av st0 : List Value} {Qr : Option Value → Mem → Prop} (d : decode cc pc = .ok (.invokestatic index, 3)) (hs : ∀ i, i ∈ I2 → i ∈ g.2.2.2.2 ∧ ce i = cont g.2.2.1 g.2.2.2.1 M i) (hn : I2.Nodup) (hM : Ct (g.1, g.2.1, g.2.2.1, g.2.2.2.1, I2) yn c2 n2 r2 d2 av M Qr) (hl : Cond.methodLink own index yn ∈ gw) (hst : Cond.static yn ∈ gw) (hc : Cond.code yn c2 n2 r2 ∈ gw) (hi : Cond.initialized yn.cls ∈ gw)
    (hd : yn.cls ≠ "java/lang/invoke/MethodHandle" ∧ yn.cls ≠ "java/lang/invoke/VarHandle" ∧ (parseMethodDescriptor yn.desc).map (fun d => d.parameters.length) = some av.length) (hR : d2 + 1 ≤ R.frames ∧ 8 + (n2 + 11) + 40 * d2 ≤ R.locals) (h0 : st0 = av.reverse ++ st) (hw : (st.map fun v => v.category).sum ≤ 8) (hk1 : kc.1 ≤ R.cells) (hk2 : kc.2 ≤ R.slots)
    (kk : ∀ (v : Option Value) (M' : Mem), Qr v M' → U g A cc nL own ret R Q κ (subC I2 (cont g.2.2.1 g.2.2.2.1 M') ce) kc (pc + 3) L (v.toList ++ st)) : U g A cc nL own ret R Q κ ce kc pc L st0 := fun E H locs ls w hls =>
  U.after (I2 := I2) (M := M) (av2 := av.toArray) hs E w hls (va_runS (Ts := gw) (own := own) ⟨E.1, E.2.1, E.2.2.1, E.2.2.2.1, E.2.2.2.2.1⟩ hM ⟨callB_of av.length E.2.2.2.2.1 (gw_code hc) rfl rfl rfl (E.2.2.2.2.1 _ hi) (E.2.2.2.2.1 _ hl) hd hR, E.2.2.2.2.1 _ hst⟩ ⟨Pcw_blind, fun U0 hU hW => w.pre hs hn E.2.2.2.2.2.1 E.2.2.2.2.2.2.1 hU hW⟩ rfl rfl hls.1 h0 (lv_room hw) d ⟨hk1, hk2⟩) kk
theorem U.callSN {I2 : List Nat} {M : Mem} {yn : MethodName} {c2 : ByteArray} {n2 d2 index : Nat} {r2 : Option FieldType} {av st0 : List Value} {Qr : Option Value → Mem → Prop} {host : String} (d : decode cc pc = .ok (.invokestatic index, 3)) (hs : ∀ i, i ∈ I2 → i ∈ g.2.2.2.2 ∧ ce i = cont g.2.2.1 g.2.2.2.1 M i) (hn : I2.Nodup) (hM : Ct (g.1, g.2.1, g.2.2.1, g.2.2.2.1, I2) yn c2 n2 r2 d2 av M Qr) (hl : Cond.methodLinkNest own index yn host ∈ nws) (hst : Cond.static yn ∈ gw) (hc : Cond.code yn c2 n2 r2 ∈ gw) (hi : Cond.initialized yn.cls ∈ gw)
    (hd : yn.cls ≠ "java/lang/invoke/MethodHandle" ∧ yn.cls ≠ "java/lang/invoke/VarHandle" ∧ (parseMethodDescriptor yn.desc).map (fun d => d.parameters.length) = some av.length) (hR : d2 + 1 ≤ R.frames ∧ 8 + (n2 + 11) + 40 * d2 ≤ R.locals) (h0 : st0 = av.reverse ++ st) (hw : (st.map fun v => v.category).sum ≤ 8) (hk1 : kc.1 ≤ R.cells) (hk2 : kc.2 ≤ R.slots)
    (kk : ∀ (v : Option Value) (M' : Mem), Qr v M' → U g A cc nL own ret R Q κ (subC I2 (cont g.2.2.1 g.2.2.2.1 M') ce) kc (pc + 3) L (v.toList ++ st)) : U g A cc nL own ret R Q κ ce kc pc L st0 := fun E H locs ls w hls =>
  U.after (I2 := I2) (M := M) (av2 := av.toArray) hs E w hls (va_runSN (Ts := gw) (own := own) ⟨E.1, E.2.1, E.2.2.1, E.2.2.2.1, E.2.2.2.2.1⟩ hM ⟨va_cnB av.length E.2.2.2.2.1 (gw_code hc) rfl rfl rfl (E.2.2.2.2.2.2.1 _ hl) (E.2.2.2.2.1 _ hi) hd hR, E.2.2.2.2.1 _ hst, trivial⟩ ⟨Pcw_blind, fun U0 hU hW => w.pre hs hn E.2.2.2.2.2.1 E.2.2.2.2.2.2.1 hU hW⟩ rfl rfl hls.1 h0 (lv_room hw) d ⟨hk1, hk2⟩) kk
theorem U.callV {I2 : List Nat} {M : Mem} {yn : MethodName} {c2 : ByteArray} {n2 d2 index o ci N : Nat} {T : u_T} {fs : List Value} {r2 : Option FieldType} {av st0 : List Value} {Qr : Option Value → Mem → Prop} (d : decode cc pc = .ok (.invokevirtual index, 3)) (hs : ∀ i, i ∈ I2 → i ∈ g.2.2.2.2 ∧ ce i = cont g.2.2.1 g.2.2.2.1 M i) (hn : I2.Nodup) (hM : Ct (g.1, g.2.1, g.2.2.1, g.2.2.2.1, I2) yn c2 n2 r2 d2 (.ref (g.2.2.2.1 o) :: av) M Qr) (hl : Cond.methodLink own index yn ∈ gw) (him : Cond.instanceMethod yn ∈ gw) (hse : Cond.selects yn.cls yn yn ∈ gw) (hc : Cond.code yn c2 n2 r2 ∈ gw) (hi : Cond.initialized yn.cls ∈ gw)
    (hcl : cls[ci]? = some (yn.cls, T, N)) (ho : o ∈ g.2.2.2.2) (hco : ce o = .inr (ci, fs))
    (hd : yn.cls ≠ "java/lang/invoke/MethodHandle" ∧ yn.cls ≠ "java/lang/invoke/VarHandle" ∧ (parseMethodDescriptor yn.desc).map (fun d => d.parameters.length) = some av.length) (hR : d2 + 1 ≤ R.frames ∧ 8 + (n2 + 11) + 40 * d2 ≤ R.locals) (h0 : st0 = av.reverse ++ .ref (g.2.2.2.1 o) :: st) (hw : (st.map fun v => v.category).sum ≤ 8) (hk1 : kc.1 ≤ R.cells) (hk2 : kc.2 ≤ R.slots)
    (kk : ∀ (v : Option Value) (M' : Mem), Qr v M' → U g A cc nL own ret R Q κ (subC I2 (cont g.2.2.1 g.2.2.2.1 M') ce) kc (pc + 3) L (v.toList ++ st)) : U g A cc nL own ret R Q κ ce kc pc L st0 := fun E H locs ls w hls => by
  obtain ⟨q, -, hq⟩ := wl_at (ad := g.2.2.2.1) (ce := ce) ho
  rw [hco] at hq
  exact U.after (I2 := I2) (M := M) (av2 := (.ref (g.2.2.2.1 o) :: av : List Value).toArray) hs E w hls (va_runV (Ts := gw) (own := own) (C := yn.cls) (b := g.2.2.2.1 o) (As := av) ⟨E.1, E.2.1, E.2.2.1, E.2.2.2.1, E.2.2.2.2.1⟩ hM ⟨callB_of av.length E.2.2.2.2.1 (gw_code hc) rfl rfl rfl (E.2.2.2.2.1 _ hi) (E.2.2.2.2.1 _ hl) hd hR, E.2.2.2.2.1 _ him, E.2.2.2.2.1 _ hse⟩ ⟨Pcw_blind, va_recv E.2.2.2.2.2.1 w.1 hcl hq, fun U0 hU hW => w.pre hs hn E.2.2.2.2.2.1 E.2.2.2.2.2.2.1 hU hW⟩ rfl rfl hls.1 h0 (lv_room hw) d ⟨hk1, hk2⟩) kk
end UC
