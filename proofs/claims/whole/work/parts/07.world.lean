/-! ===== the one world: cells by number. M : what every int of it is (array i place j; object i slot j); all else (which cell refers to which) stands ===== -/
abbrev Mem : Type := Nat → Nat → Int32
def mset (M : Mem) (i j : Nat) (x : Int32) : Mem := fun a b => if a = i then (if b = j then x else M a b) else M a b
def cls : List vw_C := [(RX0, TX0, 4), (RX1, TX1, 4), (RX3, TX3, 4), (RX4, TX4, 8), (RX5, TX5, 8), (RX6, TX6, 8), (RX7, TX7, 10), (RX8, TX8, 37)]
def tysy (y : Nat → ClassId) : List (ClassId × FieldType) := [(y 0, .int), (y 1, .boolean), (y 2, .array .int), (y 3, .object RX5), (y 4, .object RX1)]
/-- launch, class numbers, array classes, addresses, the cells that are there -/
abbrev Gl : Type := Launch × va_G × (Nat → ClassId) × (Nat → Nat) × List Nat
/-- the machine's own: program, environment, start, method, arguments, below, method, code -/
abbrev Ka : Type := Program × Env × State × MethodId × Array Value × List Frame × Method × Code
/-- the length of int array i (0: no int array) -/
def ial (i : Nat) : Nat :=
  if i < 142 then
    (if i < 11 then (if 2 ≤ i ∧ i ≤ 9 then 9 else 0)
     else if i < 14 then 120
     else if i < 33 then (if 16 ≤ i then 9 else 0)
     else if i < 102 then (if i = 33 then 0 else if (i - 34) % 17 = 0 ∨ (i - 34) % 17 = 5 then 0 else 9)
     else if i < 113 then (if i = 102 ∨ i = 104 then 0 else 9)
     else if i < 138 then (if i = 113 then 0 else if (i - 114) % 12 = 0 ∨ (i - 114) % 12 = 1 ∨ (i - 114) % 12 = 6 then 0 else 9)
     else 9)
  else if i = 142 then 0
  else if i = 143 ∨ i = 144 then 36
  else if i = 146 then 72
  else if i = 147 then 162
  else if i = 148 then 0
  else if i = 149 then 120
  else if i = 157 ∨ i = 158 then 63
  else if i = 160 ∨ i = 161 ∨ i = 162 then 7
  else if i = 168 ∨ i = 169 then 81
  else if i < 174 then 9
  else 0
def refs (n : Nat) (r : Nat → Nat) : Nat → Option Nat := fun j => if j < n then some (r j) else none
def rarr (c : ClassId) (n : Nat) (r : Nat → Nat) : va_E := .inl (c, n, .inr (.inr (.inr (.inr (refs n r)))))
def o_desk (ad : Nat → Nat) : va_E := .inr (6, [.ref (ad 1), .ref (ad 10), .ref (ad 14), .ref (ad 33), .ref (ad 102), .ref (ad 113), .ref (ad 138), .ref (ad 139), .ref (ad 140), .ref (ad 141)])
def o_reck (ad : Nat → Nat) : va_E := .inr (3, [.ref (ad 2), .ref (ad 3), .ref (ad 4), .ref (ad 5), .ref (ad 6), .ref (ad 7), .ref (ad 8), .ref (ad 9)])
def o_text (ad : Nat → Nat) (M : Mem) : va_E := .inr (5, [.ref (ad 11), .ref (ad 12), .int (M 10 2), .int (M 10 3), .ref (ad 13), .int (M 10 5), .int (M 10 6), .int (M 10 7)])
def o_reader (ad : Nat → Nat) (M : Mem) : va_E := .inr (2, [.ref (ad 1), .ref (ad 15), .ref (ad 32), .int (M 14 3)])
def o_row (ad : Nat → Nat) (o : Nat) : va_E := .inr (4, [.ref (ad (o + 1)), .ref (ad (o + 2)), .ref (ad (o + 3)), .ref (ad (o + 4)), .ref (ad (o + 5)), .ref (ad 1), .ref (ad (o + 15)), .ref (ad (o + 16))])
def o_hand (ad : Nat → Nat) (M : Mem) : va_E := .inr (0, [.ref (ad 103), .int (M 102 1), .ref (ad 104), .int (M 102 3)])
def o_kept (ad : Nat → Nat) (M : Mem) (o : Nat) : va_E := .inr (1, [.ref (ad (o + 1)), .ref (ad (o + 6)), .ref (ad (o + 11)), .int (M o 3)])
def o_model (ad : Nat → Nat) (M : Mem) : va_E := .inr (7, [.ref (ad 143), .ref (ad 144), .ref (ad 145), .ref (ad 146), .int (M 142 4), .ref (ad 147), .ref (ad 148), .ref (ad 149), .int (M 142 8), .ref (ad 150), .ref (ad 151), .ref (ad 152), .ref (ad 153), .ref (ad 154), .ref (ad 155), .int (M 142 15), .int (M 142 16), .int (M 142 17), .ref (ad 156), .ref (ad 157), .ref (ad 158), .ref (ad 159), .ref (ad 160), .ref (ad 161), .ref (ad 162), .ref (ad 163), .ref (ad 164), .int (M 142 27), .ref (ad 165), .ref (ad 166), .ref (ad 167), .ref (ad 168), .ref (ad 169), .ref (ad 170), .ref (ad 171), .ref (ad 172), .ref (ad 173)])
/-- the cells that are no int array -/
def ocell (y : Nat → ClassId) (ad : Nat → Nat) (M : Mem) (i : Nat) : va_E :=
  if i = 142 then o_model ad M
  else if i = 148 then .inl (y 1, 2, .inl (M 148))
  else if i = 0 then o_desk ad
  else if i = 1 then o_reck ad
  else if i = 10 then o_text ad M
  else if i = 14 then o_reader ad M
  else if i = 15 then rarr (y 2) 16 (fun j => ad (16 + j))
  else if i = 33 then rarr (y 3) 4 (fun j => ad (34 + 17 * j))
  else if i = 102 then o_hand ad M
  else if i = 104 then rarr (y 2) 8 (fun j => ad (105 + j))
  else if i = 113 then rarr (y 4) 2 (fun j => ad (114 + 12 * j))
  else if i < 102 then (if (i - 34) % 17 = 0 then o_row ad i else rarr (y 2) 9 (fun j => ad (i + 1 + j)))
  else if i < 138 then (if (i - 114) % 12 = 0 then o_kept ad M i else rarr (y 2) 4 (fun j => ad (i + 1 + j)))
  else .inr (0, [])
def cont (y : Nat → ClassId) (ad : Nat → Nat) (M : Mem) (i : Nat) : va_E :=
  if ial i = 0 then ocell y ad M i else .inl (y 0, ial i, .inl (M i))
theorem cont_congr {y : Nat → ClassId} {ad : Nat → Nat} {M M' : Mem} {i : Nat} (h : M i = M' i) : cont y ad M i = cont y ad M' i := by
  unfold cont ocell
  by_cases h0 : ial i = 0
  · simp only [h0, if_true]
    by_cases h1 : i = 142
    · subst h1; simp [o_model, h]
    by_cases h2 : i = 148
    · subst h2; simp [h]
    by_cases h3 : i = 10
    · subst h3; simp [o_text, h]
    by_cases h4 : i = 14
    · subst h4; simp [o_reader, h]
    by_cases h5 : i = 102
    · subst h5; simp [o_hand, h]
    simp only [h1, h2, h3, h4, h5, if_false, o_kept, h]
  · simp only [h0, if_false, h]
def wd (g : Gl) (M : Mem) : va_W := g.2.2.2.2.map (fun i => (g.2.2.2.1 i, cont g.2.2.1 g.2.2.2.1 M i))
def inW (g : Gl) : Nat → Prop := fun q => ∃ i, i ∈ g.2.2.2.2 ∧ q = g.2.2.2.1 i
def Wo (g : Gl) (M : Mem) (H0 H : Heap) (locs : List Loc) : Prop := va_P g.2.1 cls (wd g M) H ∧ va_D (inW g) (wd g M) ∧ va_S (inW g) H0 H locs
theorem wd_at {g : Gl} {M : Mem} {i : Nat} (h : i ∈ g.2.2.2.2) : ∃ k : Nat, g.2.2.2.2[k]? = some i ∧ (wd g M)[k]? = some (g.2.2.2.1 i, cont g.2.2.1 g.2.2.2.1 M i) := by
  obtain ⟨k, hk⟩ := List.getElem?_of_mem h
  exact ⟨k, hk, by unfold wd; rw [List.getElem?_map, hk]; rfl⟩
theorem wd_D {g : Gl} {A B : Nat → Prop} {M M' : Mem} (h : va_D A (wd g M)) (hB : ∀ i, i ∈ g.2.2.2.2 → B (g.2.2.2.1 i)) : va_D B (wd g M') := by
  have key : ∀ (k : Nat) (q : Nat × va_E), (wd g M')[k]? = some q → ∃ i, g.2.2.2.2[k]? = some i ∧ q.1 = g.2.2.2.1 i := by
    intro k q hq
    unfold wd at hq
    rw [List.getElem?_map] at hq
    cases hk : g.2.2.2.2[k]? with
    | none => rw [hk] at hq; cases hq
    | some i => rw [hk] at hq; cases hq; exact ⟨i, rfl, rfl⟩
  refine ⟨fun i j p q hp hq hpq => ?_, fun k q hq => ?_⟩
  · obtain ⟨a, ha, ea⟩ := key i p hp
    obtain ⟨b, hb, eb⟩ := key j q hq
    refine h.1 i j (g.2.2.2.1 a, cont g.2.2.1 g.2.2.2.1 M a) (g.2.2.2.1 b, cont g.2.2.1 g.2.2.2.1 M b) ?_ ?_ ?_
    · unfold wd; rw [List.getElem?_map, ha]; rfl
    · unfold wd; rw [List.getElem?_map, hb]; rfl
    · show g.2.2.2.1 a = g.2.2.2.1 b
      rw [← ea, ← eb]; exact hpq
  · obtain ⟨a, ha, ea⟩ := key k q hq
    rw [ea]; exact hB a (List.mem_of_getElem? ha)
theorem wd_set {g : Gl} {A : Nat → Prop} {M M' : Mem} {i k : Nat} {e : va_E} (hD : va_D A (wd g M)) (hk : g.2.2.2.2[k]? = some i) (he : cont g.2.2.1 g.2.2.2.1 M' i = e) (ho : ∀ a, a ≠ i → M' a = M a) : (wd g M).set k (g.2.2.2.1 i, e) = wd g M' := by
  have hl : k < (wd g M).length := by unfold wd; rw [List.length_map]; exact (List.getElem?_eq_some_iff.mp hk).1
  apply List.ext_getElem?
  intro j
  by_cases hj : j = k
  · subst hj
    rw [List.getElem?_set_self hl]
    unfold wd; rw [List.getElem?_map, hk]
    simp only [Option.map_some, he]
  · rw [List.getElem?_set_ne (Ne.symm hj)]
    unfold wd
    rw [List.getElem?_map, List.getElem?_map]
    cases hb : g.2.2.2.2[j]? with
    | none => simp only [Option.map_none]
    | some b =>
      have hbi : b ≠ i := by
        intro e0
        subst e0
        refine hj (hD.1 j k (g.2.2.2.1 b, cont g.2.2.1 g.2.2.2.1 M b) (g.2.2.2.1 b, cont g.2.2.1 g.2.2.2.1 M b) ?_ ?_ rfl)
        · unfold wd; rw [List.getElem?_map, hb]; rfl
        · unfold wd; rw [List.getElem?_map, hk]; rfl
      simp only [Option.map_some]
      rw [cont_congr (ho b hbi)]
theorem mset_ne {M : Mem} {i j : Nat} {x : Int32} {a : Nat} (h : a ≠ i) : mset M i j x a = M a := by funext b; simp [mset, h]
theorem mset_self {M : Mem} {i j : Nat} {x : Int32} : mset M i j x i = upd (M i) j x := by funext b; simp [mset, upd]
theorem mset_at {M : Mem} {i j : Nat} {x : Int32} : mset M i j x i j = x := by simp [mset]
theorem mset_nat {M : Mem} {i j : Nat} {x : Int32} {k : Nat} (h : k ≠ j) : mset M i j x i k = M i k := by simp [mset, h]
theorem cont_int {y : Nat → ClassId} {ad : Nat → Nat} {M : Mem} {i n : Nat} (h : ial i = n) (hn : 0 < n) : cont y ad M i = .inl (y 0, n, .inl (M i)) := by
  unfold cont; rw [h, if_neg (by omega)]
theorem ial_small (i : Nat) : ial i ≤ 162 := by unfold ial; (repeat' split) <;> omega
