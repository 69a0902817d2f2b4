/-! ===== the steps, gone through on a pile of series ===== -/
abbrev Ser : Type := Nat → Int32
def isUn (h : Ser) : Bool := decide (¬ h 0 = 0)
def isDe (h : Ser) : Bool := decide (h 0 = 0) && decide (¬ h 1 = 0)
def sjoin (s : Int32) (x z : Ser) : Ser := if s = nI 43 then fax x z (nI 1) else if s = nI 45 then fax x z (nI 9972) else if s = nI 42 then fprod x z else fdiv x z
def sname (ex qu lo : Ser) (s : Int32) : Ser := if s = nI 101 then ex else if s = nI 113 then qu else lo
def zser : Ser := fun _ => 0
/-- one step on the pile (its top is the last of the list) -/
def gStep (ex qu lo : Ser) (s a : Int32) (St : List Ser) : Option (List Ser) :=
  if s = nI 48 then (if St.length < 16 then some (St ++ [mono 0 a]) else none)
  else if s = nI 116 then (if St.length < 16 then some (St ++ [mono 1 (nI 1)]) else none)
  else if s = nI 43 ∨ s = nI 45 ∨ s = nI 42 ∨ s = nI 47 then
    (if St.length < 2 then none
     else if s = nI 47 ∧ isUn (St.getD (St.length - 1) zser) = false then none
     else some (St.take (St.length - 2) ++ [sjoin s (St.getD (St.length - 2) zser) (St.getD (St.length - 1) zser)]))
  else if s = nI 94 then (if 0 < St.length then some (St.take (St.length - 1) ++ [fpow (St.getD (St.length - 1) zser) a.toNatClampNeg]) else none)
  else if 0 < St.length then
    (if s = nI 105 then (if isDe (St.getD (St.length - 1) zser) = true then some (St.take (St.length - 1) ++ [fturn (St.getD (St.length - 1) zser)]) else none)
     else if St.getD (St.length - 1) zser 0 = 0 then some (St.take (St.length - 1) ++ [fput (sname ex qu lo s) (St.getD (St.length - 1) zser)]) else none)
  else none
def gRun (ex qu lo : Ser) : Stp2 → List Ser → Option (List Ser)
  | [], St => some St
  | x :: S, St => (gStep ex qu lo x.1 x.2 St).bind (gRun ex qu lo S)
def PileIs (St : List Ser) (M : Mem) : Prop := M 14 3 = nI St.length ∧ St.length ≤ 16 ∧ ∀ i, i < St.length → eq9 (M (16 + i)) (St.getD i zser)
def rdP (j : Nat) : Prop := (6 ≤ j ∧ j ≤ 9) ∨ (14 ≤ j ∧ j ≤ 32)
def okStep (x : Int32 × Int32) : Prop := (x.1 = nI 48 ∨ x.1 = nI 116 ∨ x.1 = nI 43 ∨ x.1 = nI 45 ∨ x.1 = nI 42 ∨ x.1 = nI 47 ∨ x.1 = nI 94 ∨ x.1 = nI 101 ∨ x.1 = nI 113 ∨ x.1 = nI 108 ∨ x.1 = nI 105) ∧ ∃ k : Nat, k < 10000 ∧ x.2 = nI k
theorem ial_pile {i : Nat} (h : i < 16) : ial (16 + i) = 9 := by unfold ial; rw [if_pos (by omega), if_neg (by omega), if_neg (by omega), if_pos (by omega), if_pos (by omega)]
theorem PileIs.top {St : List Ser} {M : Mem} {x : Ser} (hn : St.length ≤ 15) (h3 : M 14 3 = nI (St.length + 1)) (hs : ∀ i, i < St.length → eq9 (M (16 + i)) (St.getD i zser)) (hx : eq9 (M (16 + St.length)) x) : PileIs (St ++ [x]) M := by
  have hl : (St ++ [x]).length = St.length + 1 := by simp
  refine ⟨by rw [hl]; exact h3, by omega, fun i hi => ?_⟩
  by_cases e : i = St.length
  · subst e
    have : (St ++ [x]).getD St.length zser = x := by simp
    rw [this]; exact hx
  · have hi2 : i < St.length := by omega
    rw [List.getD_eq_getElem?_getD, List.getElem?_append_left hi2, ← List.getD_eq_getElem?_getD]
    exact hs i hi2
theorem take_getD {St : List Ser} {k i : Nat} (h : i < k) : (St.take k).getD i zser = St.getD i zser := by
  rw [List.getD_eq_getElem?_getD, List.getElem?_take, if_pos h, ← List.getD_eq_getElem?_getD]
