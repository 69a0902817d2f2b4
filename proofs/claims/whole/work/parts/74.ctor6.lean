section UT4
variable {l : Launch} {D : va_G} {y : Nat → ClassId} {ad : Nat → Nat} {I : List Nat} {c s : Nat} {A : Nat → Prop} {cc : ByteArray} {nL : Nat} {own : String} {ret : Option FieldType} {R : Room} {Q : State → Prop} {κ : Ka} {ce : Nat → va_E} {pc : Nat} {L : List (Option Value)} {st : List Value} {M : Mem}
theorem U.newF {i ci N index : Nat} {C : String} {T : u_T} {fs : List Value} (ty0 : Nat → FieldType) (d : decode cc pc = .ok (.new index, 3)) (hA : ∀ q, κ.2.2.1.heap.size ≤ q → A q) (hin : ∀ w ∈ u_ws C T N, w ∈ gw) (hty : ∀ k, k < N → parseFieldDescriptor (T k).2.2.1 = some (ty0 k)) (hl0 : Cond.classLink own index C ∈ gw) (hinst : Cond.instantiable C N ∈ gw) (hini : Cond.initialized C ∈ gw) (hcl : cls[ci]? = some (C, T, N)) (hfs : ∀ j, j < N → defaultValue (ty0 j) = vp_V fs j) (h1 : c + 1 ≤ R.cells) (h2 : s + N ≤ R.slots) (hi : i ∉ I)
    (kk : ∀ ad' ce', (∀ j, j ∈ I → ad' j = ad j) → (∀ j, j ∈ I → ce' j = ce j) → ce' i = .inr (ci, fs) → U (l, D, y, ad', I ++ [i]) A cc nL own ret R Q κ ce' (c + 1, s + N) (pc + 3) L (.ref (ad' i) :: st)) : U (l, D, y, ad, I) A cc nL own ret R Q κ ce (c, s) pc L st := by
  refine U.new (g := (l, D, y, ad, I)) (kc := (c, s)) (i := i) ty0 d hA hi hin hty hl0 hinst hini hcl hfs h1 h2 (fun q => ?_)
  have := kk (va_up ad i q) (va_up ce i (.inr (ci, fs))) (fun j hj => va_up_ne _ _ (fun z => hi (z ▸ hj))) (fun j hj => va_up_ne _ _ (fun z => hi (z ▸ hj))) (va_up_self _ _ _)
  rw [va_up_self] at this
  exact this
theorem U.nqp {o ci k N index ix i n a t : Nat} {C C0 : String} {T : u_T} {fs : List Value} {cA0 : ClassId} (ty0 : Nat → FieldType) (d1 : decode cc pc = .ok (.anewarray ix, 3)) (d2 : decode cc (pc + 3) = .ok (.putfield index, 3)) (hA : ∀ q, κ.2.2.1.heap.size ≤ q → A q) (hlc : Cond.classLink own ix C0 ∈ gw) (hao : va_AO C0 κ.2.2.1) (ht : (tysy y)[t]? = some (cA0, .object C0)) (hm : κ.2.2.2.2.2.2.1.name = "<init>") (hlink : Cond.fieldLink own index (T k).1 (T k).2.1 (T k).2.2.1 ∈ gw) (hin : ∀ w ∈ u_ws C T N, w ∈ gw) (hty : ∀ k, k < N → parseFieldDescriptor (T k).2.2.1 = some (ty0 k)) (hnm : ∀ a, a < N → ∀ b, b < N → a ≠ b → (T a).2.1 ≠ (T b).2.1) (hcl : cls[ci]? = some (C, T, N)) (hk : k < N) (hfin : (T k).2.2.2 = true) (hdecl : (T k).1 = own) (he : ty0 k = .array (.object C0)) (hn : n ≤ 162) (h1 : c + 1 ≤ R.cells) (h2 : s + n ≤ R.slots) (hi : i ∉ I) (ho : o ∈ I) (ha : a = ad o) (hc : ce o = .inr (ci, fs)) (hl0 : k < fs.length)
    (kk : ∀ ad' ce', (∀ j, j ∈ I → ad' j = ad j) → (∀ j, j ∈ I → j ≠ o → ce' j = ce j) → ce' i = .inl (cA0, n, .inr (.inr (.inr (.inr (fun _ => none))))) → ce' o = .inr (ci, fs.set k (.ref (ad' i))) → U (l, D, y, ad', I ++ [i]) A cc nL own ret R Q κ ce' (c + 1, s + n) (pc + 3 + 3) L st) : U (l, D, y, ad, I) A cc nL own ret R Q κ ce (c, s) pc L (.int (nI n) :: .ref a :: st) := by
  subst ha
  have hoi : o ≠ i := fun z => hi (z ▸ ho)
  refine U.newq (g := (l, D, y, ad, I)) (kc := (c, s)) (i := i) d1 hA hi hlc hao ht hn h1 h2 (fun q => ?_)
  show U (l, D, y, va_up ad i q, I ++ [i]) A cc nL own ret R Q κ (va_up ce i (.inl (cA0, n, .inr (.inr (.inr (.inr (fun _ => none))))))) (c + 1, s + n) (pc + 3) L (.ref q :: .ref (ad o) :: st)
  refine U.putFA (o := o) (fs := fs) ty0 d2 hm hlink hin hty hnm hcl hk hfin hdecl he rfl rfl (List.mem_append.mpr (Or.inl ho)) (va_up_ne _ _ hoi).symm ((va_up_ne _ _ hoi).trans hc) hl0 (fun ce' g1 g2 => ?_)
  refine kk _ ce' (fun j hj => va_up_ne _ _ (fun z => hi (z ▸ hj))) (fun j hj h => (g1 j (List.mem_append.mpr (Or.inl hj)) h).trans (va_up_ne _ _ (fun z => hi (z ▸ hj)))) ?_ ?_
  · rw [g1 i (List.mem_append.mpr (Or.inr List.mem_cons_self)) hoi.symm, va_up_self]
  · rw [g2, va_up_self]
theorem U.astqA {i o n j t ci a b : Nat} {r : vw_C} {cA : ClassId} {vs : List Value} {f : Nat → Option Nat} (d : decode cc pc = .ok (.aastore, 1)) (ht : (tysy y)[t]? = some (cA, .object r.1)) (hcl : cls[ci]? = some r) (hn : n ≤ 162) (hj : j < n) (hi : i ∈ I) (ha : a = ad i) (hc : ce i = .inl (cA, n, .inr (.inr (.inr (.inr f))))) (ho : o ∈ I) (hb : b = ad o) (hco : ce o = .inr (ci, vs))
    (kk : ∀ ce', (∀ j, j ∈ I → j ≠ i → ce' j = ce j) → ce' i = .inl (cA, n, .inr (.inr (.inr (.inr (va_up f j (some b)))))) → U (l, D, y, ad, I) A cc nL own ret R Q κ ce' (c, s) (pc + 1) L st) : U (l, D, y, ad, I) A cc nL own ret R Q κ ce (c, s) pc L (.ref b :: .int (nI j) :: .ref a :: st) := by
  subst ha
  subst hb
  refine U.astq (g := (l, D, y, ad, I)) (i := i) (o := o) (f := f) d hi hc ht ho hco hcl hn hj ?_
  exact kk _ (fun j _ h => va_up_ne _ _ h) (va_up_self _ _ _)
end UT4
theorem refs_up {k : Nat} {r : Nat → Nat} : va_up (refs k r) k (some (r k)) = refs (k + 1) r := by
  funext j
  by_cases e : j = k
  · subst e
    rw [va_up_self]
    unfold refs
    rw [if_pos (by omega)]
  · rw [va_up_ne _ _ e]
    unfold refs
    by_cases z : j < k
    · rw [if_pos z, if_pos (by omega)]
    · rw [if_neg z, if_neg (by omega)]
theorem refs_cg {k : Nat} {r r' : Nat → Nat} (h : ∀ j, j < k → r j = r' j) : refs k r = refs k r' := by
  funext j
  unfold refs
  by_cases z : j < k
  · rw [if_pos z, if_pos z, h j z]
  · rw [if_neg z, if_neg z]
/-- the cells that cell i refers to lie between bst i and bfi i (but for the reckoner's) -/
def bst (i : Nat) : Nat := if i < 10 then 1 else if i < 14 then 10 else if i < 33 then 14 else if i < 102 then 34 + 17 * ((i - 34) / 17) else if i < 113 then 102 else if i < 138 then 114 + 12 * ((i - 114) / 12) else i
def bfi (i : Nat) : Nat := if i < 10 then 10 else if i < 14 then 14 else if i < 33 then 33 else if i < 102 then 34 + 17 * ((i - 34) / 17) + 17 else if i < 113 then 113 else if i < 138 then 114 + 12 * ((i - 114) / 12) + 12 else i + 1
theorem ob_cells : ∀ i, i < 142 → ial i = 0 → i = 0 ∨ i = 33 ∨ i = 113 ∨ i ∈ [1, 10, 14, 15, 34, 39, 51, 56, 68, 73, 85, 90, 102, 104, 114, 115, 120, 126, 127, 132] := by decide +kernel
theorem cont_ad {y : Nat → ClassId} {ad ad' : Nat → Nat} {M : Mem} {i : Nat} (hi : 1 ≤ i) (hi2 : i < 142) (h33 : i ≠ 33) (h113 : i ≠ 113) (h : ∀ j, ((1 ≤ j ∧ j < 10) ∨ (bst i ≤ j ∧ j < bfi i)) → ad' j = ad j) : cont y ad' M i = cont y ad M i := by
  by_cases h0 : ial i = 0
  · rcases ob_cells i hi2 h0 with z | z | z | z
    · omega
    · omega
    · omega
    simp only [List.mem_cons, List.not_mem_nil, or_false] at z
    rcases z with rfl | rfl | rfl | rfl | rfl | rfl | rfl | rfl | rfl | rfl | rfl | rfl | rfl | rfl | rfl | rfl | rfl | rfl | rfl | rfl
    · have h : ∀ j, ((1 ≤ j ∧ j < 10) ∨ (1 ≤ j ∧ j < 10)) → ad' j = ad j := h
      show o_reck ad' = o_reck ad
      unfold o_reck
      rw [h 2 (by decide), h 3 (by decide), h 4 (by decide), h 5 (by decide), h 6 (by decide), h 7 (by decide), h 8 (by decide), h 9 (by decide)]
    · have h : ∀ j, ((1 ≤ j ∧ j < 10) ∨ (10 ≤ j ∧ j < 14)) → ad' j = ad j := h
      show o_text ad' M = o_text ad M
      unfold o_text
      rw [h 11 (by decide), h 12 (by decide), h 13 (by decide)]
    · have h : ∀ j, ((1 ≤ j ∧ j < 10) ∨ (14 ≤ j ∧ j < 33)) → ad' j = ad j := h
      show o_reader ad' M = o_reader ad M
      unfold o_reader
      rw [h 1 (by decide), h 15 (by decide), h 32 (by decide)]
    · have h : ∀ j, ((1 ≤ j ∧ j < 10) ∨ (14 ≤ j ∧ j < 33)) → ad' j = ad j := h
      show rarr (y 2) 16 (fun j => ad' (16 + j)) = rarr (y 2) 16 (fun j => ad (16 + j))
      exact rarr_cg (fun t ht => h _ (by omega))
    · have h : ∀ j, ((1 ≤ j ∧ j < 10) ∨ (34 ≤ j ∧ j < 51)) → ad' j = ad j := h
      show o_row ad' 34 = o_row ad 34
      unfold o_row
      rw [h (34 + 1) (by decide), h (34 + 2) (by decide), h (34 + 3) (by decide), h (34 + 4) (by decide), h (34 + 5) (by decide), h 1 (by decide), h (34 + 15) (by decide), h (34 + 16) (by decide)]
    · have h : ∀ j, ((1 ≤ j ∧ j < 10) ∨ (34 ≤ j ∧ j < 51)) → ad' j = ad j := h
      show rarr (y 2) 9 (fun j => ad' (39 + 1 + j)) = rarr (y 2) 9 (fun j => ad (39 + 1 + j))
      exact rarr_cg (fun t ht => h _ (by omega))
    · have h : ∀ j, ((1 ≤ j ∧ j < 10) ∨ (51 ≤ j ∧ j < 68)) → ad' j = ad j := h
      show o_row ad' 51 = o_row ad 51
      unfold o_row
      rw [h (51 + 1) (by decide), h (51 + 2) (by decide), h (51 + 3) (by decide), h (51 + 4) (by decide), h (51 + 5) (by decide), h 1 (by decide), h (51 + 15) (by decide), h (51 + 16) (by decide)]
    · have h : ∀ j, ((1 ≤ j ∧ j < 10) ∨ (51 ≤ j ∧ j < 68)) → ad' j = ad j := h
      show rarr (y 2) 9 (fun j => ad' (56 + 1 + j)) = rarr (y 2) 9 (fun j => ad (56 + 1 + j))
      exact rarr_cg (fun t ht => h _ (by omega))
    · have h : ∀ j, ((1 ≤ j ∧ j < 10) ∨ (68 ≤ j ∧ j < 85)) → ad' j = ad j := h
      show o_row ad' 68 = o_row ad 68
      unfold o_row
      rw [h (68 + 1) (by decide), h (68 + 2) (by decide), h (68 + 3) (by decide), h (68 + 4) (by decide), h (68 + 5) (by decide), h 1 (by decide), h (68 + 15) (by decide), h (68 + 16) (by decide)]
    · have h : ∀ j, ((1 ≤ j ∧ j < 10) ∨ (68 ≤ j ∧ j < 85)) → ad' j = ad j := h
      show rarr (y 2) 9 (fun j => ad' (73 + 1 + j)) = rarr (y 2) 9 (fun j => ad (73 + 1 + j))
      exact rarr_cg (fun t ht => h _ (by omega))
    · have h : ∀ j, ((1 ≤ j ∧ j < 10) ∨ (85 ≤ j ∧ j < 102)) → ad' j = ad j := h
      show o_row ad' 85 = o_row ad 85
      unfold o_row
      rw [h (85 + 1) (by decide), h (85 + 2) (by decide), h (85 + 3) (by decide), h (85 + 4) (by decide), h (85 + 5) (by decide), h 1 (by decide), h (85 + 15) (by decide), h (85 + 16) (by decide)]
    · have h : ∀ j, ((1 ≤ j ∧ j < 10) ∨ (85 ≤ j ∧ j < 102)) → ad' j = ad j := h
      show rarr (y 2) 9 (fun j => ad' (90 + 1 + j)) = rarr (y 2) 9 (fun j => ad (90 + 1 + j))
      exact rarr_cg (fun t ht => h _ (by omega))
    · have h : ∀ j, ((1 ≤ j ∧ j < 10) ∨ (102 ≤ j ∧ j < 113)) → ad' j = ad j := h
      show o_hand ad' M = o_hand ad M
      unfold o_hand
      rw [h 103 (by decide), h 104 (by decide)]
    · have h : ∀ j, ((1 ≤ j ∧ j < 10) ∨ (102 ≤ j ∧ j < 113)) → ad' j = ad j := h
      show rarr (y 2) 8 (fun j => ad' (105 + j)) = rarr (y 2) 8 (fun j => ad (105 + j))
      exact rarr_cg (fun t ht => h _ (by omega))
    · have h : ∀ j, ((1 ≤ j ∧ j < 10) ∨ (114 ≤ j ∧ j < 126)) → ad' j = ad j := h
      show o_kept ad' M 114 = o_kept ad M 114
      unfold o_kept
      rw [h (114 + 1) (by decide), h (114 + 6) (by decide), h (114 + 11) (by decide)]
    · have h : ∀ j, ((1 ≤ j ∧ j < 10) ∨ (114 ≤ j ∧ j < 126)) → ad' j = ad j := h
      show rarr (y 2) 4 (fun j => ad' (115 + 1 + j)) = rarr (y 2) 4 (fun j => ad (115 + 1 + j))
      exact rarr_cg (fun t ht => h _ (by omega))
    · have h : ∀ j, ((1 ≤ j ∧ j < 10) ∨ (114 ≤ j ∧ j < 126)) → ad' j = ad j := h
      show rarr (y 2) 4 (fun j => ad' (120 + 1 + j)) = rarr (y 2) 4 (fun j => ad (120 + 1 + j))
      exact rarr_cg (fun t ht => h _ (by omega))
    · have h : ∀ j, ((1 ≤ j ∧ j < 10) ∨ (126 ≤ j ∧ j < 138)) → ad' j = ad j := h
      show o_kept ad' M 126 = o_kept ad M 126
      unfold o_kept
      rw [h (126 + 1) (by decide), h (126 + 6) (by decide), h (126 + 11) (by decide)]
    · have h : ∀ j, ((1 ≤ j ∧ j < 10) ∨ (126 ≤ j ∧ j < 138)) → ad' j = ad j := h
      show rarr (y 2) 4 (fun j => ad' (127 + 1 + j)) = rarr (y 2) 4 (fun j => ad (127 + 1 + j))
      exact rarr_cg (fun t ht => h _ (by omega))
    · have h : ∀ j, ((1 ≤ j ∧ j < 10) ∨ (126 ≤ j ∧ j < 138)) → ad' j = ad j := h
      show rarr (y 2) 4 (fun j => ad' (132 + 1 + j)) = rarr (y 2) 4 (fun j => ad (132 + 1 + j))
      exact rarr_cg (fun t ht => h _ (by omega))
  · rw [cont_arr h0, cont_arr h0]
def l7 : List Nat := [1, 10, 14, 33, 102, 113, 138, 139, 140, 141]
/-- the desk while it is made: cells below m stand, its own fields below p -/
def T7 (y : Nat → ClassId) (a m p : Nat) (ad : Nat → Nat) (ce : Nat → va_E) (M : Mem) : Prop := a = ad 0 ∧ ce 0 = .inr (6, fN l7 ad p) ∧ ∀ i, 1 ≤ i → i < m → i ≠ 33 → i ≠ 113 → ce i = cont y ad M i
def bnd (m : Nat) : Prop := m ≤ 142 ∧ ∀ i, i < m → i = 0 ∨ i = 33 ∨ i = 113 ∨ bfi i ≤ m
theorem l7_ok : ∀ i, i ∈ l7 → i = 0 ∨ 1 ≤ i := by decide
theorem T7.tr {y : Nat → ClassId} {a m p : Nat} {ad ad' : Nat → Nat} {ce ce' : Nat → va_E} {M : Mem} (hb : bnd m) (hp : p ≤ m) (h10 : 10 ≤ m ∨ m = 1) (h : T7 y a m p ad ce M) (h1 : ∀ j, j < m → ad' j = ad j) (h2 : ∀ j, j < m → ce' j = ce j) (h0 : 0 < m) : T7 y a m p ad' ce' M := by
  refine ⟨?_, ?_, fun i g1 g2 g3 g4 => ?_⟩
  · rw [h1 0 h0]; exact h.1
  · rw [h2 0 h0, h.2.1, fN_cg (ad' := ad') (lo := 1) l7_ok (fun j _ hj => h1 j (by omega))]
  · rw [h2 i g2, h.2.2 i g1 g2 g3 g4]
    refine (cont_ad g1 (by have := hb.1; omega) g3 g4 (fun j hj => h1 j ?_)).symm
    rcases hb.2 i g2 with z | z | z | z <;> omega
/-- the same, cells of the list X aside -/
theorem T7.trX {y : Nat → ClassId} {a m p lo hi : Nat} {ad ad' : Nat → Nat} {ce ce' : Nat → va_E} {M M' : Mem} (hb : bnd m) (hp : p ≤ m) (h10 : 10 ≤ m) (h : T7 y a m p ad ce M) (h1 : ∀ j, j < m → ad' j = ad j) (h2 : ∀ j, j < m → ¬ (1 ≤ j ∧ j < 10) → ce' j = ce j) (h3 : ∀ j, 1 ≤ j → j < 10 → ce' j = cont y ad' M' j) (h4 : ∀ j, 10 ≤ j → j < m → M' j = M j) : T7 y a m p ad' ce' M' := by
  refine ⟨?_, ?_, fun i g1 g2 g3 g4 => ?_⟩
  · rw [h1 0 (by omega)]; exact h.1
  · rw [h2 0 (by omega) (by omega), h.2.1, fN_cg (ad' := ad') (lo := 1) l7_ok (fun j _ hj => h1 j (by omega))]
  · by_cases e : i < 10
    · exact h3 i g1 e
    · rw [h2 i g2 (by omega), h.2.2 i g1 g2 g3 g4, cont_congr (h4 i (by omega) g2)]
      refine (cont_ad g1 (by have := hb.1; omega) g3 g4 (fun j hj => h1 j ?_)).symm
      rcases hb.2 i g2 with z | z | z | z <;> omega
def mix (m : Nat) (M Mb : Mem) : Mem := fun i => if i < m then M i else Mb i
theorem T7.blk {y : Nat → ClassId} {a m m' p : Nat} {ad : Nat → Nat} {ce : Nat → va_E} {M Mb : Mem} (h : T7 y a m p ad ce M) (h1 : ∀ i, m ≤ i → i < m' → i ≠ 33 → i ≠ 113 → ce i = cont y ad Mb i) : T7 y a m' p ad ce (mix m M Mb) := by
  refine ⟨h.1, h.2.1, fun i g1 g2 g3 g4 => ?_⟩
  by_cases e : i < m
  · rw [h.2.2 i g1 e g3 g4]; exact cont_congr (show M i = mix m M Mb i from (if_pos e).symm)
  · rw [h1 i (by omega) g2 g3 g4]; exact cont_congr (show Mb i = mix m M Mb i from (if_neg e).symm)
theorem T7.put {y : Nat → ClassId} {a m p p' k i : Nat} {ad : Nat → Nat} {ce ce' : Nat → va_E} {M : Mem} (h : T7 y a m p ad ce M) (h1 : ∀ j, j < m → j ≠ 0 → ce' j = ce j) (h2 : ce' 0 = .inr (6, (fN l7 ad p).set k (.ref (ad i)))) (hs : ∀ ad, (fN l7 ad p).set k (.ref (ad i)) = fN l7 ad p') : T7 y a m p' ad ce' M := ⟨h.1, by rw [h2, hs], fun i g1 g2 g3 g4 => by rw [h1 i g2 (by omega)]; exact h.2.2 i g1 g2 g3 g4⟩
def memB : Mem := fun i j => if i = 10 ∧ j = 7 then -1 else 0
/-- what the memory is by then: the tables, nothing elsewhere, k rows -/
def G7 (m k : Nat) (M : Mem) : Prop := (∀ j, j < 6 → M j = m4 9 j) ∧ (∀ i, 10 ≤ i → i < m → ¬ (34 ≤ i ∧ i < 102) → M i = memB i) ∧ ∀ r, r < k → RcR r (mono 0 1) (mono 1 1) M
theorem G7.blk {m m' k : Nat} {M : Mem} (h10 : 10 ≤ m) (hk : k = 0 ∨ 34 + 17 * k ≤ m) (h : G7 m k M) : G7 m' k (mix m M memB) := by
  refine ⟨fun j hj => ?_, fun i g1 g2 g3 => ?_, fun r hr => (h.2.2 r hr).kp (fun j hj => if_pos (by omega))⟩
  · unfold mix; rw [if_pos (by omega)]; exact h.1 j hj
  · unfold mix
    by_cases e : i < m
    · rw [if_pos e]; exact h.2.1 i g1 e g3
    · rw [if_neg e]
def mixR (o : Nat) (M Mn : Mem) : Mem := fun i => if i < 10 ∨ o ≤ i then Mn i else M i
theorem G7.row {o k : Nat} {M Mn : Mem} (ho : o = 34 + 17 * k) (hk4 : k < 4) (h : G7 o k M) (h1 : rowOk o Mn) (h2 : eq9 (Mn (o + 1)) (mono 0 1)) (h3 : eq9 (Mn (o + 2)) (mono 1 1)) (h4 : ∀ j, j < 6 → Mn j = M j) : G7 (o + 17) (k + 1) (mixR o M Mn) := by
  have e1 : ∀ j, j < 10 → mixR o M Mn j = Mn j := fun j hj => if_pos (Or.inl hj)
  have e2 : ∀ j, o ≤ j → mixR o M Mn j = Mn j := fun j hj => if_pos (Or.inr hj)
  have e3 : ∀ j, 10 ≤ j → j < o → mixR o M Mn j = M j := fun j g1 g2 => if_neg (by omega)
  refine ⟨fun j hj => ?_, fun i g1 g2 g3 => ?_, fun r hr => ?_⟩
  · rw [e1 j (by omega), h4 j hj]; exact h.1 j hj
  · by_cases e : i < o
    · rw [e3 i g1 e]; exact h.2.1 i g1 e g3
    · omega
  · by_cases e : r = k
    · subst e
      subst ho
      refine ⟨h1.kp (fun j hj => ?_), ?_, ?_⟩
      · by_cases z : j < 10
        · exact e1 j z
        · exact e2 j (by omega)
      · rw [e2 _ (by omega)]; exact h2
      · rw [e2 _ (by omega)]; exact h3
    · refine (h.2.2 r (by omega)).kp (fun j hj => ?_)
      rcases hj with z | z | z
      · rw [e1 j (by omega), h4 j (by omega)]
      · rw [e1 j (by omega), h4 j (by omega)]
      · exact e3 j (by omega) (by omega)
theorem G7.fin {m m' k : Nat} {M : Mem} (h : G7 m k M) (hm : m' ≤ m) : G7 m' k M := ⟨h.1, fun i g1 g2 g3 => h.2.1 i g1 (by omega) g3, h.2.2⟩


