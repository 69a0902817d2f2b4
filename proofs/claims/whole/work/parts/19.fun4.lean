section VBO
variable {g : Gl} {cc : ByteArray} {nL : Nat} {own : String} {ret : Option FieldType} {R : Room} {Q : State → Prop} {κ : Ka} {M : Mem} {pc : Nat} {L : List (Option Value)} {st : List Value}
theorem V.if_eqB {b : Bool} {off : Int} {tgt : Nat} (d : decode cc pc = .ok (.ifCond .eq off, 3)) (ht : (pc : Int) + off = (tgt : Int)) (kt : b = false → V g cc nL own ret R Q κ M tgt L st) (kf : b = true → V g cc nL own ret R Q κ M (pc + 3) L st) : V g cc nL own ret R Q κ M pc L (.int (nI b.toNat) :: st) := by
  cases b
  · exact V.if_eqN d ht (by decide) (fun _ => kt rfl) (fun h => absurd rfl h)
  · exact V.if_eqN d ht (by decide) (fun h => absurd h (by decide)) (fun _ => kf rfl)
theorem V.if_neB {b : Bool} {off : Int} {tgt : Nat} (d : decode cc pc = .ok (.ifCond .ne off, 3)) (ht : (pc : Int) + off = (tgt : Int)) (kt : b = true → V g cc nL own ret R Q κ M tgt L st) (kf : b = false → V g cc nL own ret R Q κ M (pc + 3) L st) : V g cc nL own ret R Q κ M pc L (.int (nI b.toNat) :: st) := by
  cases b
  · exact V.if_neN d ht (by decide) (fun h => absurd rfl h) (fun _ => kf rfl)
  · exact V.if_neN d ht (by decide) (fun _ => kt rfl) (fun h => absurd h (by decide))
theorem V.kkX {r : Int32} {P : Mem → Prop} (h : ∀ M', P M' → V g cc nL own ret R Q κ M' pc L (.int r :: st)) : ∀ (v : Option Value) (M' : Mem), (v = some (.int r) ∧ P M') → V g cc nL own ret R Q κ M' pc L (v.toList ++ st) := by
  rintro _ M' ⟨rfl, hp⟩; exact h M' hp
end VBO
/-! ===== the text as the class looks through it ===== -/
def isDg (x : Int32) : Bool := decide (¬ x < nI 48) && decide (¬ nI 57 < x)
def isNm (x : Int32) : Bool := decide (x = nI 101) || decide (x = nI 113) || decide (x = nI 108) || decide (x = nI 105)
/-- the first place from p on that bears no blank -/
def skf (l : Nat → Int32) (n : Nat) : Nat → Nat → Nat
  | 0, p => p
  | f + 1, p => if p < n ∧ l p = nI 32 then skf l n f (p + 1) else p
def sk (l : Nat → Int32) (n p : Nat) : Nat := skf l n (n - p) p
theorem sk_yes {l : Nat → Int32} {n p : Nat} (h : p < n) (h2 : l p = nI 32) : sk l n p = sk l n (p + 1) := by
  unfold sk
  rw [show n - p = (n - (p + 1)) + 1 by omega]
  show (if p < n ∧ l p = nI 32 then _ else _) = _
  rw [if_pos ⟨h, h2⟩]
theorem sk_no {l : Nat → Int32} {n p : Nat} (h : ¬ (p < n ∧ l p = nI 32)) : sk l n p = p := by
  unfold sk
  cases hf : n - p with
  | zero => rfl
  | succ f => show (if p < n ∧ l p = nI 32 then _ else _) = _; rw [if_neg h]
theorem skf_le (l : Nat → Int32) (n : Nat) : ∀ f p, p ≤ n → p ≤ skf l n f p ∧ skf l n f p ≤ n
  | 0, p, h => ⟨Nat.le_refl _, h⟩
  | f + 1, p, h => by
    unfold skf
    split
    · rename_i h1
      have := skf_le l n f (p + 1) h1.1
      omega
    · exact ⟨Nat.le_refl _, h⟩
theorem sk_ge {l : Nat → Int32} {n p : Nat} (h : p ≤ n) : p ≤ sk l n p := (skf_le l n _ p h).1
theorem sk_le {l : Nat → Int32} {n p : Nat} (h : p ≤ n) : sk l n p ≤ n := (skf_le l n _ p h).2
/-- the first place from p on that bears no digit -/
def dgf (l : Nat → Int32) (n : Nat) : Nat → Nat → Nat
  | 0, p => p
  | f + 1, p => if p < n ∧ isDg (l p) = true then dgf l n f (p + 1) else p
def dg (l : Nat → Int32) (n p : Nat) : Nat := dgf l n (n - p) p
theorem dg_yes {l : Nat → Int32} {n p : Nat} (h : p < n) (h2 : isDg (l p) = true) : dg l n p = dg l n (p + 1) := by
  unfold dg
  rw [show n - p = (n - (p + 1)) + 1 by omega]
  show (if p < n ∧ isDg (l p) = true then _ else _) = _
  rw [if_pos ⟨h, h2⟩]
theorem dg_no {l : Nat → Int32} {n p : Nat} (h : ¬ (p < n ∧ isDg (l p) = true)) : dg l n p = p := by
  unfold dg
  cases hf : n - p with
  | zero => rfl
  | succ f => show (if p < n ∧ isDg (l p) = true then _ else _) = _; rw [if_neg h]
theorem dgf_le (l : Nat → Int32) (n : Nat) : ∀ f p, p ≤ n → p ≤ dgf l n f p ∧ dgf l n f p ≤ n
  | 0, p, h => ⟨Nat.le_refl _, h⟩
  | f + 1, p, h => by
    unfold dgf
    split
    · rename_i h1
      have := dgf_le l n f (p + 1) h1.1
      omega
    · exact ⟨Nat.le_refl _, h⟩
theorem dg_ge {l : Nat → Int32} {n p : Nat} (h : p ≤ n) : p ≤ dg l n p := (dgf_le l n _ p h).1
theorem dg_le {l : Nat → Int32} {n p : Nat} (h : p ≤ n) : dg l n p ≤ n := (dgf_le l n _ p h).2
/-- the TOKEN behind place q: its end, its first letter -/
def en (l : Nat → Int32) (n q : Nat) : Nat := if sk l n q < n then (if isDg (l (sk l n q)) = true then dg l n (sk l n q + 1) else sk l n q + 1) else q
def fs (l : Nat → Int32) (n q : Nat) : Int32 := if sk l n q < n then l (sk l n q) else -1
theorem en_ge {l : Nat → Int32} {n q : Nat} (h : q ≤ n) : q ≤ en l n q := by
  have h1 := sk_ge (l := l) h
  unfold en
  split
  · split
    · rename_i a b; have := dg_ge (l := l) (n := n) (p := sk l n q + 1) (by omega); omega
    · omega
  · exact Nat.le_refl _
theorem en_le {l : Nat → Int32} {n q : Nat} (h : q ≤ n) : en l n q ≤ n := by
  unfold en
  split
  · split
    · rename_i a b; exact dg_le (by omega)
    · omega
  · exact h
def amtf (l : Nat → Int32) (p : Nat) : Nat → Int32
  | 0 => nI 0
  | k + 1 => nI 10 * amtf l p k + (l (p + k) - nI 48)
/-- what the row of digits behind q tells -/
def amt (l : Nat → Int32) (n q : Nat) : Int32 := amtf l (sk l n q) (en l n q - sk l n q)
def isNum (l : Nat → Int32) (n q : Nat) : Bool := decide (en l n q - sk l n q ≤ 4) && isN (amt l n q) 9973
abbrev Stp2 : Type := List (Int32 × Int32)
def addS (S : Stp2) (x : Int32 × Int32) : Stp2 := if S.length < 120 then S ++ [x] else S
abbrev Prs : Type := Nat → Stp2 → Bool × Nat × Stp2
def thingF (l : Nat → Int32) (n : Nat) (sub : Option Prs) : Prs := fun q S =>
  if fs l n q = nI 116 then (true, en l n q, addS S (nI 116, nI 0))
  else if isDg (fs l n q) = true then (if isNum l n q = true then (true, en l n q, addS S (nI 48, amt l n q)) else (false, q, S))
  else
    let q1 := if isNm (fs l n q) = true then en l n q else q
    match sub with
    | none => (false, q1, S)
    | some sum =>
      if fs l n q1 = nI 40 then
        let r := sum (en l n q1) S
        if r.1 = true ∧ fs l n r.2.1 = nI 41 then (true, en l n r.2.1, if isNm (fs l n q) = true then addS r.2.2 (fs l n q, nI 0) else r.2.2) else (false, r.2.1, r.2.2)
      else (false, q1, S)
def powerF (l : Nat → Int32) (n : Nat) (thing : Prs) : Prs := fun q S =>
  let r := thing q S
  if r.1 = true then
    (if fs l n r.2.1 = nI 94 then
      let q1 := en l n r.2.1
      if isDg (fs l n q1) = true ∧ en l n q1 - sk l n q1 = 1 then (true, en l n q1, addS r.2.2 (nI 94, amt l n q1)) else (false, q1, r.2.2)
     else (true, r.2.1, r.2.2))
  else (false, r.2.1, r.2.2)
def loopF (l : Nat → Int32) (n : Nat) (a b : Int32) (item : Prs) : Nat → Prs
  | 0 => fun q S => (true, q, S)
  | f + 1 => fun q S => if fs l n q = a ∨ fs l n q = b then
      let r := item (en l n q) S
      if r.1 = true then loopF l n a b item f r.2.1 (addS r.2.2 (fs l n q, nI 0)) else (false, r.2.1, r.2.2)
    else (true, q, S)
def listF (l : Nat → Int32) (n : Nat) (a b : Int32) (item : Prs) : Prs := fun q S =>
  let r := item q S
  if r.1 = true then loopF l n a b item 120 r.2.1 r.2.2 else (false, r.2.1, r.2.2)
def pThing (l : Nat → Int32) (n : Nat) (sub : Option Prs) : Prs := thingF l n sub
def pPower (l : Nat → Int32) (n : Nat) (sub : Option Prs) : Prs := powerF l n (pThing l n sub)
def pProd (l : Nat → Int32) (n : Nat) (sub : Option Prs) : Prs := listF l n (nI 42) (nI 47) (pPower l n sub)
def pSumO (l : Nat → Int32) (n : Nat) (sub : Option Prs) : Prs := listF l n (nI 43) (nI 45) (pProd l n sub)
/-- a SUM where k brackets may still be opened -/
def pSum (l : Nat → Int32) (n : Nat) : Nat → Prs
  | 0 => pSumO l n none
  | k + 1 => pSumO l n (some (pSum l n k))
def pSub (l : Nat → Int32) (n : Nat) : Nat → Option Prs
  | 0 => none
  | k + 1 => some (pSum l n k)
theorem pSum_eq (l : Nat → Int32) (n k : Nat) : pSum l n k = pSumO l n (pSub l n k) := by cases k <;> rfl
/-- the place of the fault, and the steps -/
def pFault (l : Nat → Int32) (n : Nat) : Int32 × Stp2 :=
  let r := pSum l n 6 0 []
  if r.1 = true ∧ fs l n r.2.1 = nI 59 then
    let r2 := pSum l n 6 (en l n r.2.1) r.2.2
    if r2.1 = true ∧ sk l n r2.2.1 = n then (-1, r2.2.2) else (nI (sk l n r2.2.1), r2.2.2)
  else (nI (sk l n r.2.1), r.2.2)
/-- Text's cells: letters l, n of them, the steps S, the end of the TOKEN e -/
def TS0 (l : Nat → Int32) (n e : Nat) (S : Stp2) (M : Mem) : Prop :=
  n ≤ 120 ∧ e ≤ n ∧ S.length ≤ 120 ∧ M 13 = l ∧ M 10 3 = nI n ∧ M 10 6 = nI e ∧ M 10 2 = nI S.length ∧ ∀ i, i < S.length → M 11 i = (S.getD i (0, 0)).1 ∧ M 12 i = (S.getD i (0, 0)).2
/-- .. and it stands at the TOKEN behind q -/
def TS (l : Nat → Int32) (n q : Nat) (S : Stp2) (M : Mem) : Prop :=
  TS0 l n (en l n q) S M ∧ q ≤ n ∧ M 10 5 = nI (sk l n q) ∧ M 10 7 = fs l n q
def tx (j : Nat) : Prop := j = 10 ∨ j = 11 ∨ j = 12
