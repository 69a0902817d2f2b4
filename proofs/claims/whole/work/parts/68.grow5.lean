theorem wl_nd {I : List Nat} {ad : Nat → Nat} {ce : Nat → va_E} {A : Nat → Prop} (h : va_D A (wl I ad ce)) : I.Nodup := by
  show List.Pairwise _ I
  rw [List.pairwise_iff_getElem]
  intro i j hi hj hij e
  have h1 : I[i]? = some I[i] := List.getElem?_eq_getElem hi
  have h2 : I[j]? = some I[i] := (List.getElem?_eq_getElem hj).trans (by rw [e])
  have := h.1 i j _ _ (wl_of h1) (wl_of h2) rfl
  omega
theorem wl_mk {I : List Nat} {ad : Nat → Nat} {ce : Nat → va_E} {A : Nat → Prop} (hn : I.Nodup) (hinj : ∀ i j, i ∈ I → j ∈ I → ad i = ad j → i = j) (hA : ∀ i, i ∈ I → A (ad i)) : va_D A (wl I ad ce) := by
  refine ⟨fun i j p q hp hq hpq => ?_, fun k q hq => ?_⟩
  · obtain ⟨a, ha, rfl⟩ := wl_get hp
    obtain ⟨b, hb, rfl⟩ := wl_get hq
    have e := hinj a b (List.mem_of_getElem? ha) (List.mem_of_getElem? hb) hpq
    subst e
    exact (List.getElem?_inj (List.getElem?_eq_some_iff.mp ha).1 hn).mp (ha.trans hb.symm)
  · obtain ⟨a, ha, rfl⟩ := wl_get hq
    exact hA a (List.mem_of_getElem? ha)
theorem wl_in {D : va_G} {I : List Nat} {ad : Nat → Nat} {ce : Nat → va_E} {H : Heap} (h : va_P D cls (wl I ad ce) H) {i : Nat} (hi : i ∈ I) : va_at D cls (ad i, ce i) H := by
  obtain ⟨b, hb⟩ := List.getElem?_of_mem hi
  exact h b _ (wl_of hb)
theorem Pci_blind {g : Gl} {av : List Value} {ce0 : Nat → va_E} {sz : Nat} : FrameBlind (Pci g av ce0 sz) := fun a U gf mk q => by
  obtain ⟨q0, q1, q2, q3, q4, q5, q6⟩ := q
  exact ⟨q0, q1, q2, va_K.moved (u := U) (U := U.calling gf mk a) (Vm.Alike.refl U.vm) q3, q4, nw_same (s := U) (U := U.calling gf mk a) rfl q5, AOk.moved (u := U) (U := U.calling gf mk a) (Vm.Alike.refl U.vm) q6⟩
section UJ
variable {g : Gl} {A : Nat → Prop} {cc : ByteArray} {nL : Nat} {own : String} {ret : Option FieldType} {R : Room} {Q : State → Prop} {κ : Ka} {ce : Nat → va_E} {kc : Nat × Nat} {pc : Nat} {L : List (Option Value)} {st : List Value}
theorem U.afterI {I2 I1 : List Nat} {ce0 : Nat → va_E} {Post : (Nat → Nat) → (Nat → va_E) → Prop} {mc ms : Nat} {av2 : Array Value} {H : Heap} {locs : List Loc} {ls : Array Slot} {st0 : List Value} (hA : ∀ q, κ.2.2.1.heap.size ≤ q → A q) (hs : ∀ i, i ∈ I2 → i ∈ g.2.2.2.2) (h1 : ∀ i, i ∈ I1 → i ∉ g.2.2.2.2) (E : Kx g cc nL own ret κ) (w : Wb g A ce κ.2.2.1.heap H locs) (hl : hasL ls nL L)
    (run : va_Run κ.1 g.1 κ.2.1 R κ.2.2.1 κ.2.2.2.1 κ.2.2.2.2.1 κ.2.2.2.2.2.1 κ.2.2.2.2.2.2.1 κ.2.2.2.2.2.2.2 H locs kc.1 kc.2 mc ms (F0 κ.2.2.2.1 pc ls st0) st (Qci (g.1, g.2.1, g.2.2.1, g.2.2.2.1, I2) I1 H.size Post av2) (Awi (g.1, g.2.1, g.2.2.1, g.2.2.2.1, I2) H.size))
    (kk : ∀ ad' ce' ad1 ce1, Post ad1 ce1 → (∀ i, i ∈ I2 ++ I1 → ad' i = ad1 i ∧ ce' i = ce1 i) → (∀ i, i ∈ g.2.2.2.2 → ad' i = g.2.2.2.1 i) → (∀ i, i ∈ g.2.2.2.2 → i ∉ I2 → ce' i = ce i) → U (g.1, g.2.1, g.2.2.1, ad', g.2.2.2.2 ++ I1) A cc nL own ret R Q κ ce' (kc.1 + mc, kc.2 + ms) (pc + 3) L st) : W κ.1 g.1 κ.2.1 R κ.2.2.1 κ.2.2.2.1 κ.2.2.2.2.1 κ.2.2.2.2.2.1 κ.2.2.2.2.2.2.1 κ.2.2.2.2.2.2.2 H locs kc.1 kc.2 Q (F0 κ.2.2.2.1 pc ls st0) := by
  have hAw : ∀ i, i ∈ g.2.2.2.2 → A (g.2.2.2.1 i) := fun i hi => by
    obtain ⟨k, hk⟩ := List.getElem?_of_mem hi
    exact w.2.1.2 k _ (wl_of hk)
  have hAi : ∀ q, Awi (g.1, g.2.1, g.2.2.1, g.2.2.2.1, I2) H.size q → A q := fun q h => by
    rcases h with ⟨i, hi, e⟩ | h
    · rw [e]; exact hAw i (hs i hi)
    · exact hA q (Nat.le_trans w.2.2.1 h)
  intro T hT X
  obtain ⟨v, st₀, t, T', L', h0, X', hL', e1, e2, ⟨⟨ad1, ce1, hv, ha1, hpost, hP1, hD1⟩, hz, hk⟩, stp⟩ := run T hT X
  cases hv
  rw [h0] at hz hk
  have hfar : ∀ i, i ∈ g.2.2.2.2 → i ∉ I2 → ¬ Awi (g.1, g.2.1, g.2.2.1, g.2.2.2.1, I2) H.size (g.2.2.2.1 i) := fun i hi h2 z => by
    rcases z with ⟨j, hj, e⟩ | z
    · have := wl_inj w.2.1 hi (hs j hj) e
      subst this; exact h2 hj
    · have := (wl_in w.1 hi).lt
      have z2 : H.size ≤ g.2.2.2.1 i := z
      have t2 : g.2.2.2.1 i < H.size := this
      omega
  let ad' : Nat → Nat := fun i => if i ∈ I1 then ad1 i else g.2.2.2.1 i
  let ce' : Nat → va_E := fun i => if i ∈ I2 ++ I1 then ce1 i else ce i
  have a_I : ∀ i, i ∈ g.2.2.2.2 → ad' i = g.2.2.2.1 i := fun i hi => if_neg (fun z => h1 i z hi)
  have a_1 : ∀ i, i ∈ I1 → ad' i = ad1 i := fun i hi => if_pos hi
  have a_21 : ∀ i, i ∈ I2 ++ I1 → ad' i = ad1 i ∧ ce' i = ce1 i := fun i hi => ⟨by
    rcases List.mem_append.mp hi with h | h
    · rw [a_I i (hs i h), ha1 i h]
    · exact a_1 i h, if_pos hi⟩
  have c_I : ∀ i, i ∈ g.2.2.2.2 → i ∉ I2 → ce' i = ce i := fun i hi h2 => if_neg (fun z => by
    rcases List.mem_append.mp z with h | h
    · exact h2 h
    · exact h1 i h hi)
  have hP2 : va_P g.2.1 cls (wl (g.2.2.2.2 ++ I1) ad' ce') t.heap := fun k q hq => by
    obtain ⟨a, ha, rfl⟩ := wl_get hq
    by_cases h2 : a ∈ I2 ++ I1
    · rw [(a_21 a h2).1, (a_21 a h2).2]; exact wl_in hP1 h2
    · have haI : a ∈ g.2.2.2.2 := by
        rcases List.mem_append.mp (List.mem_of_getElem? ha) with h | h
        · exact h
        · exact absurd (List.mem_append.mpr (Or.inr h)) h2
      have h3 : a ∉ I2 := fun z => h2 (List.mem_append.mpr (Or.inl z))
      rw [a_I a haI, c_I a haI h3]
      have h4 := wl_in w.1 haI
      exact h4.kept (hk _ h4.lt (hfar a haI h3))
  have nd21 := wl_nd hD1
  have hAw1 : ∀ i, i ∈ I2 ++ I1 → Awi (g.1, g.2.1, g.2.2.1, g.2.2.2.1, I2) H.size (ad1 i) := fun i hi => by
    obtain ⟨k, hk⟩ := List.getElem?_of_mem hi
    exact hD1.2 k _ (wl_of hk)
  have mix : ∀ i j, i ∈ g.2.2.2.2 → j ∈ I1 → ad' i = ad' j → i = j := fun i j hi hj e => by
    rw [a_I i hi, a_1 j hj] at e
    by_cases h2 : i ∈ I2
    · have e2 : ad1 i = ad1 j := (ha1 i h2).trans e
      exact wl_inj hD1 (List.mem_append.mpr (Or.inl h2)) (List.mem_append.mpr (Or.inr hj)) e2
    · refine absurd ?_ (hfar i hi h2)
      rw [e]; exact hAw1 j (List.mem_append.mpr (Or.inr hj))
  have hD2 : va_D A (wl (g.2.2.2.2 ++ I1) ad' ce') := by
    refine wl_mk (List.nodup_append.mpr ⟨wl_nd w.2.1, (List.nodup_append.mp nd21).2.1, fun a ha b hb e => h1 b hb (e ▸ ha)⟩) (fun i j hi hj e => ?_) (fun i hi => ?_)
    · rcases List.mem_append.mp hi with hi | hi <;> rcases List.mem_append.mp hj with hj | hj
      · rw [a_I i hi, a_I j hj] at e; exact wl_inj w.2.1 hi hj e
      · exact mix i j hi hj e
      · exact (mix j i hj hi e.symm).symm
      · rw [a_1 i hi, a_1 j hj] at e
        exact wl_inj hD1 (List.mem_append.mpr (Or.inr hi)) (List.mem_append.mpr (Or.inr hj)) e
    · rcases List.mem_append.mp hi with hi | hi
      · rw [a_I i hi]; exact hAw i hi
      · rw [a_1 i hi]; exact hAi _ (hAw1 i (List.mem_append.mpr (Or.inr hi)))
  obtain ⟨t2, a1, b1⟩ := kk ad' ce' ad1 ce1 hpost a_21 a_I c_I E T'.heap (locs ++ L') ls ⟨by rw [e1]; exact hP2, hD2, ⟨Nat.le_trans w.2.2.1 (by rw [e1]; exact hz), fun q h3 h4 => by
      rw [e1, hk q (Nat.lt_of_lt_of_le h3 w.2.2.1) (fun z => h4 (hAi q z))]; exact w.2.2.2.1 q h3 h4, fun q hq => by
      rcases List.mem_append.mp hq with h | h
      · exact w.2.2.2.2 q h
      · exact hAi _ (hL' q h)⟩⟩ hl T' rfl X'
  exact ⟨t2, stp t2 a1, b1⟩
theorem Wb.preI {I2 : List Nat} {ce0 : Nat → va_E} {s U0 : State} {H0 H : Heap} {locs : List Loc} {av : List Value} (hs : ∀ i, i ∈ I2 → i ∈ g.2.2.2.2 ∧ ce i = ce0 i) (hn : I2.Nodup) (w : Wb g A ce H0 H locs) (hK : va_K g.2.1 cls (tysy g.2.2.1) s) (hN : ∀ w ∈ nws, va_Nw w s) (hao : AOk s) (hU : U0.heap = H) (hW : s.WarmedH U0.vm) : Pci (g.1, g.2.1, g.2.2.1, g.2.2.2.1, I2) av ce0 H.size av.toArray U0 := ⟨rfl, by rw [hU], by rw [hU]; exact wl_sP w.1 hs, va_K.moved hW.alike hK, wl_sD w.2.1 (fun i hi => (hs i hi).1) hn, nw_warm hW hN, hao.moved hW.alike⟩
theorem U.callI {I2 I1 : List Nat} {ce0 : Nat → va_E} {Post : (Nat → Nat) → (Nat → va_E) → Prop} {yn : MethodName} {c2 : ByteArray} {n2 d2 index o mc ms : Nat} {av st0 : List Value} (d : decode cc pc = .ok (.invokespecial index, 3)) (hA : ∀ q, κ.2.2.1.heap.size ≤ q → A q) (hao : AOk κ.2.2.1) (hs : ∀ i, i ∈ I2 → i ∈ g.2.2.2.2 ∧ ce i = ce0 i) (hn : I2.Nodup) (h1 : ∀ i, i ∈ I1 → i ∉ g.2.2.2.2) (hM : Ci (g.1, g.2.1, g.2.2.1, g.2.2.2.1, I2) yn c2 n2 d2 mc ms (.ref (g.2.2.2.1 o) :: av) ce0 I1 Post) (hyn : yn.name = "<init>") (hl : Cond.methodLink own index yn ∈ gw) (him : Cond.instanceMethod yn ∈ gw) (hc : Cond.code yn c2 n2 none ∈ gw) (hi : Cond.initialized yn.cls ∈ gw)
    (hd : yn.cls ≠ "java/lang/invoke/MethodHandle" ∧ yn.cls ≠ "java/lang/invoke/VarHandle" ∧ (parseMethodDescriptor yn.desc).map (fun d => d.parameters.length) = some av.length) (hR : d2 + 1 ≤ R.frames ∧ 8 + (n2 + 11) + 40 * d2 ≤ R.locals) (h0 : st0 = av.reverse ++ .ref (g.2.2.2.1 o) :: st) (hw : (st.map fun v => v.category).sum ≤ 8) (hk1 : kc.1 + mc ≤ R.cells) (hk2 : kc.2 + ms ≤ R.slots)
    (kk : ∀ ad' ce' ad1 ce1, Post ad1 ce1 → (∀ i, i ∈ I2 ++ I1 → ad' i = ad1 i ∧ ce' i = ce1 i) → (∀ i, i ∈ g.2.2.2.2 → ad' i = g.2.2.2.1 i) → (∀ i, i ∈ g.2.2.2.2 → i ∉ I2 → ce' i = ce i) → U (g.1, g.2.1, g.2.2.1, ad', g.2.2.2.2 ++ I1) A cc nL own ret R Q κ ce' (kc.1 + mc, kc.2 + ms) (pc + 3) L st) : U g A cc nL own ret R Q κ ce kc pc L st0 := fun E H locs ls w hls =>
  U.afterI (I2 := I2) (I1 := I1) (ce0 := ce0) (Post := Post) (av2 := (.ref (g.2.2.2.1 o) :: av : List Value).toArray) hA (fun i hi => (hs i hi).1) h1 E w hls (va_runI (Ts := gw) (own := own) (b := g.2.2.2.1 o) (As := av) ⟨E.1, E.2.1, E.2.2.1, E.2.2.2.1, E.2.2.2.2.1⟩ (hM H.size) ⟨callB_of av.length E.2.2.2.2.1 (gw_code hc) rfl rfl rfl (E.2.2.2.2.1 _ hi) (E.2.2.2.2.1 _ hl) hd hR, hyn, E.2.2.2.2.1 _ him⟩ ⟨Pci_blind, fun U0 hU hW => w.preI hs hn E.2.2.2.2.2.1 E.2.2.2.2.2.2.1 hao hU hW⟩ rfl rfl hls.1 h0 (lv_room hw) d ⟨hk1, hk2⟩) kk
theorem U.callIN {I2 I1 : List Nat} {ce0 : Nat → va_E} {Post : (Nat → Nat) → (Nat → va_E) → Prop} {yn : MethodName} {c2 : ByteArray} {n2 d2 index o mc ms : Nat} {av st0 : List Value} {host : String} (d : decode cc pc = .ok (.invokespecial index, 3)) (hA : ∀ q, κ.2.2.1.heap.size ≤ q → A q) (hao : AOk κ.2.2.1) (hs : ∀ i, i ∈ I2 → i ∈ g.2.2.2.2 ∧ ce i = ce0 i) (hn : I2.Nodup) (h1 : ∀ i, i ∈ I1 → i ∉ g.2.2.2.2) (hM : Ci (g.1, g.2.1, g.2.2.1, g.2.2.2.1, I2) yn c2 n2 d2 mc ms (.ref (g.2.2.2.1 o) :: av) ce0 I1 Post) (hyn : yn.name = "<init>") (hl : Cond.methodLinkNest own index yn host ∈ nws) (him : Cond.instanceMethod yn ∈ gw) (hc : Cond.code yn c2 n2 none ∈ gw) (hi : Cond.initialized yn.cls ∈ gw)
    (hd : yn.cls ≠ "java/lang/invoke/MethodHandle" ∧ yn.cls ≠ "java/lang/invoke/VarHandle" ∧ (parseMethodDescriptor yn.desc).map (fun d => d.parameters.length) = some av.length) (hR : d2 + 1 ≤ R.frames ∧ 8 + (n2 + 11) + 40 * d2 ≤ R.locals) (h0 : st0 = av.reverse ++ .ref (g.2.2.2.1 o) :: st) (hw : (st.map fun v => v.category).sum ≤ 8) (hk1 : kc.1 + mc ≤ R.cells) (hk2 : kc.2 + ms ≤ R.slots)
    (kk : ∀ ad' ce' ad1 ce1, Post ad1 ce1 → (∀ i, i ∈ I2 ++ I1 → ad' i = ad1 i ∧ ce' i = ce1 i) → (∀ i, i ∈ g.2.2.2.2 → ad' i = g.2.2.2.1 i) → (∀ i, i ∈ g.2.2.2.2 → i ∉ I2 → ce' i = ce i) → U (g.1, g.2.1, g.2.2.1, ad', g.2.2.2.2 ++ I1) A cc nL own ret R Q κ ce' (kc.1 + mc, kc.2 + ms) (pc + 3) L st) : U g A cc nL own ret R Q κ ce kc pc L st0 := fun E H locs ls w hls =>
  U.afterI (I2 := I2) (I1 := I1) (ce0 := ce0) (Post := Post) (av2 := (.ref (g.2.2.2.1 o) :: av : List Value).toArray) hA (fun i hi => (hs i hi).1) h1 E w hls (va_runIN (Ts := gw) (own := own) (b := g.2.2.2.1 o) (As := av) ⟨E.1, E.2.1, E.2.2.1, E.2.2.2.1, E.2.2.2.2.1⟩ (hM H.size) ⟨va_cnB av.length E.2.2.2.2.1 (gw_code hc) rfl rfl rfl (E.2.2.2.2.2.2.1 _ hl) (E.2.2.2.2.1 _ hi) hd hR, hyn, E.2.2.2.2.1 _ him⟩ ⟨Pci_blind, fun U0 hU hW => w.preI hs hn E.2.2.2.2.2.1 E.2.2.2.2.2.2.1 hao hU hW⟩ rfl rfl hls.1 h0 (lv_room hw) d ⟨hk1, hk2⟩) kk
end UJ
