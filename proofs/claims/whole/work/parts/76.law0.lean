/-- the classes' numbers, out of the tables' words -/
theorem lw_cls {s : State} {args : Array Value} (hts : ∀ w ∈ lw_tbl, w.before args s = true) : ∃ (D : va_G) (y : Nat → ClassId), va_K D cls (tysy y) s := by
  have hg : ∀ w ∈ gw, w.before args s = true := fun w hw => hts w (List.mem_filter.mp hw).1
  obtain ⟨c0, i0, k0⟩ := u_known hg inX0 (hg _ ib_X0)
  obtain ⟨c1, i1, k1⟩ := u_known hg inX1 (hg _ ib_X1)
  obtain ⟨c3, i3, k3⟩ := u_known hg inX3 (hg _ ib_X3)
  obtain ⟨c4, i4, k4⟩ := u_known hg inX4 (hg _ ib_X4)
  obtain ⟨c5, i5, k5⟩ := u_known hg inX5 (hg _ ib_X5)
  obtain ⟨c6, i6, k6⟩ := u_known hg inX6 (hg _ ib_X6)
  obtain ⟨c7, i7, k7⟩ := u_known hg inX7 (hg _ ib_X7)
  obtain ⟨c8, i8, k8⟩ := u_known hg inX8 (hg _ ib_X8)
  obtain ⟨a0, kA0, m0, e0, f0, g0⟩ := Cond.arrayClass_spec (hg _ ac_int)
  obtain ⟨a1, kA1, m1, e1, f1, g1⟩ := Cond.arrayClass_spec (hg _ ac_boolean)
  obtain ⟨m2, a2, kA2, d2, -, f2, g2, e2⟩ := aoa_spec (show va_AOA .int s from hts _ ao_ints)
  obtain ⟨m3, a3, kA3, d3, -, f3, g3, e3⟩ := Cond.arrayOver_spec (hts _ ao_X5)
  obtain ⟨m4, a4, kA4, d4, -, f4, g4, e4⟩ := Cond.arrayOver_spec (hts _ ao_X1)
  refine ⟨((fun c => match c with | 0 => c0 | 1 => c1 | 2 => c3 | 3 => c4 | 4 => c5 | 5 => c6 | 6 => c7 | _ => c8), (fun c => match c with | 0 => i0 | 1 => i1 | 2 => i3 | 3 => i4 | 4 => i5 | 5 => i6 | 6 => i7 | _ => i8)), (fun k => match k with | 0 => a0 | 1 => a1 | 2 => a2 | 3 => a3 | _ => a4), ⟨fun c q hq => ?_, fun k q hk => ?_⟩⟩
  · match c, hq with
    | 0, hq => cases hq; exact k0
    | 1, hq => cases hq; exact k1
    | 2, hq => cases hq; exact k3
    | 3, hq => cases hq; exact k4
    | 4, hq => cases hq; exact k5
    | 5, hq => cases hq; exact k6
    | 6, hq => cases hq; exact k7
    | 7, hq => cases hq; exact k8
    | n + 8, hq => simp [cls] at hq
  · match k, hk with
    | 0, hk => cases hk; exact ⟨fun n z => ⟨fun k h => (by cases h), kA0, f0, m0, g0⟩, e0⟩
    | 1, hk => cases hk; exact ⟨fun n z => ⟨fun k h => (by cases h), kA1, f1, m1, g1⟩, e1⟩
    | 2, hk => cases hk; exact ⟨fun n z => ⟨fun k h => (by cases h), kA2, f2, m2, g2⟩, e2⟩
    | 3, hk => cases hk; exact ⟨fun n z => ⟨fun k h => (by cases h), kA3, f3, m3, g3⟩, ⟨kA3, m3, f3, g3, d3, e3⟩⟩
    | 4, hk => cases hk; exact ⟨fun n z => ⟨fun k h => (by cases h), kA4, f4, m4, g4⟩, ⟨kA4, m4, f4, g4, d4, e4⟩⟩
    | n + 5, hk => simp [tysy] at hk
theorem lw_aok {s : State} {args : Array Value} (hts : ∀ w ∈ lw_tbl, w.before args s = true) : AOk s := ⟨va_AO.of (hts _ ao_X5), va_AO.of (hts _ ao_X1), hts _ ao_ints⟩
theorem nws_tabs : ∀ w ∈ nws, w.onTables = true := by decide +kernel
theorem lw_nws {s : State} {args : Array Value} (hts : ∀ w ∈ lw_tbl, w.before args s = true) : ∀ w ∈ nws, va_Nw w s := fun w hw => va_tabs (nws_tabs w hw) rfl (hts w (nws_in w hw))
section UL0
variable {g : Gl} {A : Nat → Prop} {cc : ByteArray} {nL : Nat} {own : String} {ret : Option FieldType} {R : Room} {Q : State → Prop} {κ : Ka} {ce : Nat → va_E} {kc : Nat × Nat} {pc : Nat} {L : List (Option Value)} {st : List Value}
/-- the script: an int of it, its length -/
theorem U.sld {b Ls j : Nat} {xs : Nat → Int32} (d : decode cc pc = .ok (.iaload, 1)) (hX : va_X b Ls xs κ.2.2.1 κ.2.2.1.heap) (hbl : b < κ.2.2.1.heap.size) (hbA : ¬ A b) (hL : Ls ≤ 2560) (hj : j < Ls) (kk : U g A cc nL own ret R Q κ ce kc (pc + 1) L (.int (xs j) :: st)) : U g A cc nL own ret R Q κ ce kc pc L (.int (nI j) :: .ref b :: st) := fun E H locs ls w hl => by
  have hcl : (nI j).toNatClampNeg = j := nI_clamp (by omega)
  refine va_sld E.1 E.2.1 hX hbl hbA w.2.2 (nI_in (by omega) (by omega)) d ?_
  rw [hcl]
  exact kk E H locs ls w hl
theorem U.slen {b Ls : Nat} {xs : Nat → Int32} (d : decode cc pc = .ok (.arraylength, 1)) (hX : va_X b Ls xs κ.2.2.1 κ.2.2.1.heap) (hbl : b < κ.2.2.1.heap.size) (hbA : ¬ A b) (kk : U g A cc nL own ret R Q κ ce kc (pc + 1) L (.int (nI Ls) :: st)) : U g A cc nL own ret R Q κ ce kc pc L (.ref b :: st) := fun E H locs ls w hl =>
  va_slen E.1 E.2.1 hX hbl hbA w.2.2 d (kk E H locs ls w hl)
theorem U.tsw {dflt lo hi off : Int} {offs : Array Int} {len tgt : Nat} {x : Int32} (d : decode cc pc = .ok (.tableswitch dflt lo hi offs, len)) (h1 : ¬ x.toInt < lo) (h2 : ¬ hi < x.toInt) (ho : offs[(x.toInt - lo).toNat]? = some off) (ht : (pc : Int) + off = (tgt : Int)) (kk : U g A cc nL own ret R Q κ ce kc tgt L st) : U g A cc nL own ret R Q κ ce kc pc L (.int x :: st) := fun E H locs ls w hl =>
  lv_tableIn E.1 E.2.1 d h1 h2 ho ht (kk E H locs ls w hl)
end UL0
theorem and31 (x : Int32) : ∃ k, k < 32 ∧ x &&& 31 = nI k := by
  refine ⟨(x &&& 31).toBitVec.toNat, ?_, ?_⟩
  · have e : (x &&& 31).toBitVec = x.toBitVec &&& 31#32 := rfl
    rw [e, BitVec.toNat_and]
    exact Nat.lt_of_le_of_lt Nat.and_le_right (by decide)
  · apply Int32.toBitVec_inj.mp
    show (x &&& 31).toBitVec = BitVec.ofNat 32 _
    rw [BitVec.ofNat_toNat, BitVec.setWidth_eq]
theorem gt5 {n Ls : Nat} (h1 : Ls ≤ 2560) (h2 : n ≤ 2565) : nI Ls - nI 5 < nI n ↔ Ls < n + 5 := by
  rw [Int32.lt_iff_toInt_lt, Int32.toInt_sub, nI_toInt (by omega), nI_toInt (by omega), nI_toInt (by omega)]
  unfold Int.bmod
  simp only []
  split <;> omega
theorem Rc.far {a : Ab} {M M' : Mem} (h : Rc a M) (k : ∀ j, j < 142 → M' j = M j) : Rc a M' := by
  obtain ⟨c1, c2, c3, c4, c5⟩ := h
  exact ⟨c1.kp (fun j _ hj => k j (by omega)), c2.kp (by rw [k 10 (by omega)]) (k 13 (by omega)), fun r hr => (c3 r hr).kp (fun j hj => k j (by omega)), c4.kp (fun j _ hj => k j (by omega)), fun q hq => (c5 q hq).kp hq (fun j _ hj => k j (by omega))⟩
theorem Rm.far {a : Ab} {M M' : Mem} (h : Rm a M) (k : ∀ j, 142 ≤ j → M' j = M j) : Rm a M' := h.kp (fun j hj _ => k j (by omega)) (by rw [k 142 (by omega)]) (by rw [k 142 (by omega)])
/-- a new desk: no letters, four rows of powers, 0 in hand, nothing kept -/
def eF (i : Nat) : Fs := fun k => if k = i then 1 else 0
def a0 : AbF := ((0, fun _ => 0), (fun _ => eF 0), (fun _ => eF 1), (fun _ => 0), [], fun _ => none)
theorem a0_good : Good a0 := ⟨fun r _ => ⟨(by decide : eF 0 0 ≠ 0), (by decide : eF 1 0 = 0), (by decide : eF 1 1 ≠ 0)⟩, fun k x h => (by cases h), fun i h => absurd h (Nat.not_lt_zero i)⟩
theorem mono_eF (i : Nat) : eq9 (mono i 1) (iS (eF i)) := fun k _ => by
  unfold mono iS eF iT
  by_cases e : k = i
  · rw [if_pos e, if_pos e]; rfl
  · rw [if_neg e, if_neg e]; rfl
theorem a0_Rc {M : Mem} (h : G7 142 4 M) : Rc (iA a0) M := by
  obtain ⟨h1, h2, h3⟩ := h
  have z : ∀ i j, 10 ≤ i → i < 142 → ¬ (34 ≤ i ∧ i < 102) → ¬ (i = 10 ∧ j = 7) → M i j = 0 := fun i j g1 g2 g3 g4 => by
    rw [h2 i g1 g2 g3]; exact if_neg g4
  have t : ∀ k, k < 9 → (k < 9 ∧ k < 9) := fun k hk => ⟨hk, hk⟩
  refine ⟨⟨?_, ?_, ?_, ?_⟩, ⟨by decide, z 10 3 (by decide) (by decide) (by decide) (by decide), ?_⟩, fun r hr => ⟨(h3 r hr).1, (h3 r hr).2.1.tr (mono_eF 0), (h3 r hr).2.2.tr (mono_eF 1)⟩, ⟨fun k _ => z 103 k (by decide) (by decide) (by decide) (by omega), by decide, z 102 1 (by decide) (by decide) (by decide) (by decide), 0, by decide, z 102 3 (by decide) (by decide) (by decide) (by decide), fun i hi => absurd hi (Nat.not_lt_zero i)⟩, fun k hk => z (114 + 12 * k) 3 (by omega) (by omega) (by omega) (by omega)⟩
  · rw [h1 2 (by decide)]; exact fun k hk => if_pos (t k hk)
  · rw [h1 3 (by decide)]; exact fun k hk => if_pos (t k hk)
  · rw [h1 4 (by decide)]; exact fun k hk => if_pos (t k hk)
  · rw [h1 5 (by decide)]; exact fun k hk => if_pos (t k hk)
  · rw [h2 13 (by decide) (by decide) (by decide)]; exact memB_z (by decide)
theorem mem8_x {i j : Nat} (h1 : i ≠ 143) (h2 : i ≠ 144) : mem8 i j = 0 := by
  simp [mem8, mset, mem0, h1, h2]
theorem a0_Rm : Rm (iA a0) mem8 := by
  refine ⟨⟨by decide, mem8_x (by decide) (by decide), funext fun j => mem8_x (by decide) (by decide)⟩, fun r hr => ⟨fun k hk => ?_, fun k hk => ?_⟩, ⟨fun k _ => mem8_x (by decide) (by decide), by decide, mem8_x (by decide) (by decide), fun i hi => absurd hi (Nat.not_lt_zero i)⟩, fun k hk => mem8_x (by decide) (by decide)⟩
  · have : ∀ r, r < 4 → ∀ k, k < 9 → sl (mem8 143) (9 * r) k = iS (eF 0) k := by decide +kernel
    exact this r hr k hk
  · have : ∀ r, r < 4 → ∀ k, k < 9 → sl (mem8 144) (9 * r) k = iS (eF 1) k := by decide +kernel
    exact this r hr k hk
theorem IN_app {m k : Nat} (h : 1 ≤ m) : IN 0 1 m ++ List.range' m k = IN 0 1 (m + k) := by
  unfold IN
  rw [List.cons_append]
  have e : List.range' 1 (m + k - 1) = List.range' 1 (m - 1) ++ List.range' (1 + 1 * (m - 1)) k := by
    rw [List.range'_append]; congr 1; omega
  rw [e]
  congr 3
  omega
theorem IN_nd {m : Nat} : (IN 0 1 m).Nodup := List.nodup_cons.mpr ⟨fun z => by rw [List.mem_range'_1] at z; omega, List.nodup_range'⟩
theorem cont_adA {y : Nat → ClassId} {ad ad' : Nat → Nat} {M : Mem} {i : Nat} (hi : i < 142) (h : ∀ j, j < 142 → ad' j = ad j) : cont y ad' M i = cont y ad M i := by
  by_cases e0 : i = 0
  · subst e0
    show o_desk ad' = o_desk ad
    unfold o_desk
    rw [h 1 (by decide), h 10 (by decide), h 14 (by decide), h 33 (by decide), h 102 (by decide), h 113 (by decide), h 138 (by decide), h 139 (by decide), h 140 (by decide), h 141 (by decide)]
  by_cases e1 : i = 33
  · subst e1
    show rarr (y 3) 4 (fun j => ad' (34 + 17 * j)) = rarr (y 3) 4 (fun j => ad (34 + 17 * j))
    exact rarr_cg (fun t ht => h _ (by omega))
  by_cases e2 : i = 113
  · subst e2
    show rarr (y 4) 2 (fun j => ad' (114 + 12 * j)) = rarr (y 4) 2 (fun j => ad (114 + 12 * j))
    exact rarr_cg (fun t ht => h _ (by omega))
  refine cont_ad (by omega) hi e1 e2 (fun j hj => h j ?_)
  have : ∀ i, i < 142 → bfi i ≤ 142 := by decide +kernel
  have := this i hi
  omega
theorem ob8 : ∀ i, i < 174 → 142 ≤ i → ial i = 0 → i = 142 ∨ i = 148 := by decide +kernel
theorem cont_adM {y : Nat → ClassId} {ad ad' : Nat → Nat} {M : Mem} {i : Nat} (h1 : 142 ≤ i) (h2 : i < 174) (h : ∀ j, 142 ≤ j → j < 174 → ad' j = ad j) : cont y ad' M i = cont y ad M i := by
  by_cases h0 : ial i = 0
  · rcases ob8 i h2 h1 h0 with rfl | rfl
    · show o_model ad' M = o_model ad M
      unfold o_model
      rw [h 143 (by decide) (by decide), h 144 (by decide) (by decide), h 145 (by decide) (by decide), h 146 (by decide) (by decide), h 147 (by decide) (by decide), h 148 (by decide) (by decide), h 149 (by decide) (by decide), h 150 (by decide) (by decide), h 151 (by decide) (by decide), h 152 (by decide) (by decide), h 153 (by decide) (by decide), h 154 (by decide) (by decide), h 155 (by decide) (by decide), h 156 (by decide) (by decide), h 157 (by decide) (by decide), h 158 (by decide) (by decide), h 159 (by decide) (by decide), h 160 (by decide) (by decide), h 161 (by decide) (by decide), h 162 (by decide) (by decide), h 163 (by decide) (by decide), h 164 (by decide) (by decide), h 165 (by decide) (by decide), h 166 (by decide) (by decide), h 167 (by decide) (by decide), h 168 (by decide) (by decide), h 169 (by decide) (by decide), h 170 (by decide) (by decide), h 171 (by decide) (by decide), h 172 (by decide) (by decide), h 173 (by decide) (by decide)]
    · rfl
  · rw [cont_arr h0, cont_arr h0]

