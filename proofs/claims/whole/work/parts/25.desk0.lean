/-! ===== what the desk holds ===== -/
abbrev Kp : Type := Option ((Nat → Ser) × (Nat → Ser) × Ser)
/-- letters' number and letters; g and f of the rows; the polynomial in hand; what it was (the latest first); what is kept -/
abbrev Ab : Type := (Nat × Ser) × (Nat → Ser) × (Nat → Ser) × Ser × List Ser × (Nat → Kp)
def faC : Ser := fun k => nI (match k with | 0 => 1 | 1 => 1 | 2 => 2 | 3 => 6 | 4 => 24 | 5 => 120 | 6 => 720 | 7 => 5040 | _ => 428)
def exC : Ser := fun k => finv (faC k)
def quC : Ser := fun k => finv (fmul (faC k) (nI (k + 1)))
def loC : Ser := fun k => if k % 2 = 1 then finv (nI k) else fsub (nI 0) (finv (nI k))
def RcC (M : Mem) : Prop := eq9 (M 2) exC ∧ eq9 (M 3) quC ∧ eq9 (M 4) loC ∧ eq9 (M 5) faC
def RcT (n : Nat) (l : Ser) (M : Mem) : Prop := n ≤ 120 ∧ M 10 3 = nI n ∧ M 13 = l
def RcR (r : Nat) (G F : Ser) (M : Mem) : Prop := rowOk (34 + 17 * r) M ∧ eq9 (M (34 + 17 * r + 1)) G ∧ eq9 (M (34 + 17 * r + 2)) F
def RcH (p : Ser) (past : List Ser) (M : Mem) : Prop := eq9 (M 103) p ∧ past.length ≤ 8 ∧ M 102 1 = nI past.length ∧ ∃ a, a < 8 ∧ M 102 3 = nI a ∧ ∀ i, i < past.length → eq9 (M (105 + (a + 7 - i) % 8)) (past.getD i zser)
def RcK (k : Nat) (K : Kp) (M : Mem) : Prop := match K with
  | none => M (114 + 12 * k) 3 = nI 0
  | some (G, F, p) => M (114 + 12 * k) 3 = nI 1 ∧ (∀ r, r < 4 → eq9 (M (116 + 12 * k + r)) (G r) ∧ eq9 (M (121 + 12 * k + r)) (F r)) ∧ eq9 (M (125 + 12 * k)) p
def Rc (A : Ab) (M : Mem) : Prop := RcC M ∧ RcT A.1.1 A.1.2 M ∧ (∀ r, r < 4 → RcR r (A.2.1 r) (A.2.2.1 r) M) ∧ RcH A.2.2.2.1 A.2.2.2.2.1 M ∧ ∀ k, k < 2 → RcK k (A.2.2.2.2.2 k) M
theorem RcC.kp {M M' : Mem} (h : RcC M) (k : ∀ j, 2 ≤ j → j ≤ 5 → M' j = M j) : RcC M' := by
  unfold RcC; rw [k 2 (by omega) (by omega), k 3 (by omega) (by omega), k 4 (by omega) (by omega), k 5 (by omega) (by omega)]; exact h
theorem RcT.kp {n : Nat} {l : Ser} {M M' : Mem} (h : RcT n l M) (k : M' 10 3 = M 10 3) (k2 : M' 13 = M 13) : RcT n l M' := ⟨h.1, k.trans h.2.1, k2.trans h.2.2⟩
theorem rowOk.kp {o : Nat} {M M' : Mem} (h : rowOk o M) (k : ∀ j, (j = 2 ∨ j = 5 ∨ (o < j ∧ j < o + 15 ∧ j ≠ o + 5)) → M' j = M j) : rowOk o M' := by
  refine ⟨?_, ?_, fun n q hn hq => ?_⟩
  · rw [k (o + 3) (by omega), k (o + 1) (by omega)]; exact h.1
  · rw [k (o + 4) (by omega), k (o + 2) (by omega)]; exact h.2.1
  · rw [k (o + 6 + n) (by omega), k 5 (by omega), k 2 (by omega), k (o + 1) (by omega), k (o + 2) (by omega)]; exact h.2.2 n q hn hq
theorem RcR.kp {r : Nat} {G F : Ser} {M M' : Mem} (h : RcR r G F M) (k : ∀ j, (j = 2 ∨ j = 5 ∨ (34 + 17 * r < j ∧ j < 34 + 17 * r + 15 ∧ j ≠ 34 + 17 * r + 5)) → M' j = M j) : RcR r G F M' := by
  refine ⟨h.1.kp k, ?_, ?_⟩
  · rw [k _ (by omega)]; exact h.2.1
  · rw [k _ (by omega)]; exact h.2.2
theorem RcH.kp {p : Ser} {past : List Ser} {M M' : Mem} (h : RcH p past M) (k : ∀ j, 102 ≤ j → j ≤ 112 → M' j = M j) : RcH p past M' := by
  obtain ⟨h1, h2, h3, a, ha, h4, h5⟩ := h
  refine ⟨?_, h2, ?_, a, ha, ?_, fun i hi => ?_⟩
  · rw [k 103 (by omega) (by omega)]; exact h1
  · rw [k 102 (by omega) (by omega)]; exact h3
  · rw [k 102 (by omega) (by omega)]; exact h4
  · have : (a + 7 - i) % 8 < 8 := Nat.mod_lt _ (by decide)
    rw [k _ (by omega) (by omega)]; exact h5 i hi
theorem RcK.kp {q : Nat} {K : Kp} {M M' : Mem} (hq : q < 2) (h : RcK q K M) (k : ∀ j, 114 ≤ j → j < 138 → M' j = M j) : RcK q K M' := by
  cases K with
  | none => show M' _ 3 = _; rw [k _ (by omega) (by omega)]; exact h
  | some x =>
    obtain ⟨G, F, p⟩ := x
    obtain ⟨h1, h2, h3⟩ := h
    refine ⟨?_, fun r hr => ⟨?_, ?_⟩, ?_⟩
    · rw [k _ (by omega) (by omega)]; exact h1
    · rw [k _ (by omega) (by omega)]; exact (h2 r hr).1
    · rw [k _ (by omega) (by omega)]; exact (h2 r hr).2
    · rw [k _ (by omega) (by omega)]; exact h3
/-- a cell that bears nothing of what the desk holds -/
def scr (j : Nat) : Prop := j < 142 ∧ (j < 2 ∨ (6 ≤ j ∧ j ≤ 12) ∨ (14 ≤ j ∧ j ≤ 33) ∨ (34 ≤ j ∧ j < 102 ∧ (j - 34) % 17 = 15) ∨ (34 ≤ j ∧ j < 102 ∧ (j - 34) % 17 = 16) ∨ 138 ≤ j)
theorem scr_row {r j : Nat} (hr : r < 4) (h : 34 + 17 * r < j ∧ j < 34 + 17 * r + 15) : ¬ scr j := by
  unfold scr; omega
theorem Rc.kp {A : Ab} {M M' : Mem} (h : Rc A M) (k : keep scr M M') (h3 : M' 10 3 = M 10 3) : Rc A M' := by
  obtain ⟨c1, c2, c3, c4, c5⟩ := h
  refine ⟨c1.kp (fun j h1 h2 => k j (by unfold scr; omega)), c2.kp h3 (k 13 (by unfold scr; omega)), fun r hr => (c3 r hr).kp (fun j hj => k j ?_), c4.kp (fun j h1 h2 => k j (by unfold scr; omega)), fun q hq => (c5 q hq).kp hq (fun j h1 h2 => k j (by unfold scr; omega))⟩
  rcases hj with rfl | rfl | ⟨h1, h2, h4⟩
  · unfold scr; omega
  · unfold scr; omega
  · exact scr_row hr ⟨h1, h2⟩
/-- a row has become another: the rest stands -/
theorem Rc.row {A : Ab} {M M1 M' : Mem} {r : Nat} {G F : Ser} (h : Rc A M) (hr : r < 4) (k : keep scr M M1) (h3 : M1 10 3 = M 10 3) (k2 : keep (fun j => (6 ≤ j ∧ j ≤ 9) ∨ (34 + 17 * r + 1 ≤ j ∧ j < 34 + 17 * r + 16 ∧ j ≠ 34 + 17 * r + 5)) M1 M') (hok : rowOk (34 + 17 * r) M') (hg : eq9 (M' (34 + 17 * r + 1)) G) (hf : eq9 (M' (34 + 17 * r + 2)) F) :
    Rc (A.1, va_up A.2.1 r G, va_up A.2.2.1 r F, A.2.2.2) M' := by
  obtain ⟨c1, c2, c3, c4, c5⟩ := h.kp k h3
  refine ⟨c1.kp (fun j h1 h2 => k2 j (by omega)), c2.kp (by rw [k2 10 (by omega)]) (k2 13 (by omega)), fun q hq => ?_, c4.kp (fun j h1 h2 => k2 j (by omega)), fun q hq => (c5 q hq).kp hq (fun j h1 h2 => k2 j (by omega))⟩
  by_cases e : q = r
  · subst e
    refine ⟨hok, ?_, ?_⟩
    · show eq9 _ (va_up A.2.1 q G q); rw [va_up_self]; exact hg
    · show eq9 _ (va_up A.2.2.1 q F q); rw [va_up_self]; exact hf
  · have := (c3 q hq).kp (M' := M') (fun j hj => k2 j (by omega))
    show RcR q (va_up A.2.1 r G q) (va_up A.2.2.1 r F q) M'
    rw [va_up_ne _ _ e, va_up_ne _ _ e]; exact this
/-- the polynomial in hand has become another, and what it was is remembered -/
def rmb (p : Ser) (past : List Ser) : List Ser := (p :: past).take 8
theorem RcH.rem {p : Ser} {past : List Ser} {M : Mem} {a : Nat} (h1 : eq9 (M 103) p) (h2 : past.length ≤ 8) (ha : a < 8) (h5 : ∀ i, i < past.length → eq9 (M (105 + (a + 7 - i) % 8)) (past.getD i zser)) :
    RcH p (rmb p past) (mset (mset (aset M (105 + a) 0 9 (M 103)) 102 3 (nI ((a + 1) % 8))) 102 1 (nI (Nat.min (past.length + 1) 8))) := by
  have hl : (rmb p past).length = Nat.min (past.length + 1) 8 := by
    unfold rmb; rw [List.length_take, List.length_cons]; exact Nat.min_comm _ _
  have hm : Nat.min (past.length + 1) 8 ≤ 8 := Nat.min_le_right _ _
  refine ⟨?_, by omega, ?_, (a + 1) % 8, Nat.mod_lt _ (by decide), ?_, fun i hi => ?_⟩
  · rw [mset_ne (by decide), mset_ne (by decide), aset_ne (by omega)]; exact h1
  · rw [mset_at, hl]
  · rw [mset_nat (by decide), mset_at]
  · have hi8 : i < 8 := by omega
    have hz : 105 + ((a + 1) % 8 + 7 - i) % 8 ≠ 102 := by omega
    rw [mset_ne hz, mset_ne hz]
    cases i with
    | zero =>
      rw [show 105 + ((a + 1) % 8 + 7 - 0) % 8 = 105 + a by omega]
      refine aset_9.tr ?_
      show eq9 (M 103) ((rmb p past).getD 0 zser)
      have : (rmb p past).getD 0 zser = p := by unfold rmb; rw [List.getD_eq_getElem?_getD, List.getElem?_take, if_pos (by decide)]; rfl
      rw [this]; exact h1
    | succ i =>
      have hp : i < past.length := by
        have hle : Nat.min (past.length + 1) 8 ≤ past.length + 1 := Nat.min_le_left _ _
        omega
      rw [aset_ne (by omega), show 105 + ((a + 1) % 8 + 7 - (i + 1)) % 8 = 105 + (a + 7 - i) % 8 by omega]
      have : (rmb p past).getD (i + 1) zser = past.getD i zser := by unfold rmb; rw [List.getD_eq_getElem?_getD, List.getElem?_take, if_pos (by omega), List.getElem?_cons_succ, ← List.getD_eq_getElem?_getD]
      rw [this]; exact h5 i hp
theorem isRw_of {r : Nat} (h : r < 4) : isRw (34 + 17 * r) := ⟨r, h, rfl⟩
theorem isN_gt {x : Int32} {n : Nat} (hn : n + 1 < 2 ^ 31) (h : ¬ x < 0) (h2 : ¬ nI n < x) : isN x (n + 1) = true := by
  rcases pk_ix x hn with h3 | h3 | ⟨j, hj, rfl⟩
  · exact absurd h3 h
  · have e1 : nI n < nI (n + 1) := nI_lt (by omega) hn
    exact absurd (Int32.lt_of_lt_of_le e1 h3) h2
  · exact isN_nI hn hj
theorem isN_lt {x : Int32} {n : Nat} (h : ¬ x < 0) (h2 : x < nI n) : isN x n = true := by simp [isN, h, h2]
def cP (j : Nat) : Prop := j < 142
def remM (M : Mem) (a u : Nat) : Mem := mset (mset (aset M (105 + a) 0 9 (M 103)) 102 3 (nI ((a + 1) % 8))) 102 1 (nI (min (u + 1) 8))
theorem RcH.p {p p' : Ser} {past : List Ser} {M M' : Mem} (h : RcH p past M) (k : ∀ j, 102 ≤ j → j ≤ 112 → j ≠ 103 → M' j = M j) (hp : eq9 (M' 103) p') : RcH p' past M' := by
  obtain ⟨h1, h2, h3, a, ha, h4, h5⟩ := h
  refine ⟨hp, h2, ?_, a, ha, ?_, fun i hi => ?_⟩
  · rw [k 102 (by omega) (by omega) (by omega)]; exact h3
  · rw [k 102 (by omega) (by omega) (by omega)]; exact h4
  · have : (a + 7 - i) % 8 < 8 := Nat.mod_lt _ (by decide)
    rw [k _ (by omega) (by omega) (by omega)]; exact h5 i hi
theorem remM_keep {M : Mem} {a u : Nat} (ha : a < 8) : keep (fun j => j = 102 ∨ (105 ≤ j ∧ j ≤ 112)) M (remM M a u) := (((keep.rf (P := fun j => j = 102 ∨ (105 ≤ j ∧ j ≤ 112))).as (by omega)).ms (Or.inl rfl)).ms (Or.inl rfl)
/-- what remember() leaves: the same, with p remembered -/
theorem Rc.rem {A : Ab} {M : Mem} (h : Rc A M) : ∃ a u, a < 8 ∧ u ≤ 8 ∧ M 102 3 = nI a ∧ M 102 1 = nI u ∧ Rc (A.1, A.2.1, A.2.2.1, A.2.2.2.1, rmb A.2.2.2.1 A.2.2.2.2.1, A.2.2.2.2.2) (remM M a u) := by
  obtain ⟨c1, c2, c3, ⟨h1, h2, h3, a, ha, h4, h5⟩, c5⟩ := h
  have k := remM_keep (M := M) (u := A.2.2.2.2.1.length) ha
  refine ⟨a, _, ha, h2, h4, h3, c1.kp (fun j h1 h2 => k j (by omega)), c2.kp (by rw [k 10 (by omega)]) (k 13 (by omega)), fun r hr => (c3 r hr).kp (fun j hj => k j (by omega)), RcH.rem h1 h2 ha h5, fun q hq => (c5 q hq).kp hq (fun j h1 h2 => k j (by omega))⟩
/-- then p becomes another -/
theorem Rc.hand {A : Ab} {M M' : Mem} {p : Ser} (h : Rc A M) (k : keep (fun j => scr j ∨ j = 103) M M') (h3 : M' 10 3 = M 10 3) (hp : eq9 (M' 103) p) : Rc (A.1, A.2.1, A.2.2.1, p, A.2.2.2.2) M' := by
  obtain ⟨c1, c2, c3, c4, c5⟩ := h
  refine ⟨c1.kp (fun j h1 h2 => k j (by unfold scr; omega)), c2.kp h3 (k 13 (by unfold scr; omega)), fun r hr => (c3 r hr).kp (fun j hj => k j ?_), c4.p (fun j h1 h2 h4 => k j (by unfold scr; omega)) hp, fun q hq => (c5 q hq).kp hq (fun j h1 h2 => k j (by unfold scr; omega))⟩
  rcases hj with rfl | rfl | ⟨h1, h2, h4⟩
  · unfold scr; omega
  · unfold scr; omega
  · exact fun q => q.elim (scr_row hr ⟨h1, h2⟩) (by omega)
/-- polynomial n of row r -/
def PR (A : Ab) (r n : Nat) : Ser := fun k => fpolR faC exC (A.2.1 r) (A.2.2.1 r) n k
theorem Rc.pol {A : Ab} {M : Mem} (h : Rc A M) {r n : Nat} (hr : r < 4) (hn : n < 9) : eq9 (M (34 + 17 * r + 6 + n)) (PR A r n) := fun k hk => by
  obtain ⟨c1, -, c3, -⟩ := h
  obtain ⟨⟨-, -, o3⟩, e1, e2⟩ := c3 r hr
  rw [o3 n k hn hk]
  exact fpolR_cg c1.2.2.2 c1.1 e1 e2 hn hk
theorem Rc.pol' {A : Ab} {M : Mem} (h : Rc A M) {r n : Nat} (hr : r < 4) (hn : n < 9) : eq9 (M (34 + 17 * r + 5 + 1 + n)) (PR A r n) := by
  rw [show 34 + 17 * r + 5 + 1 + n = 34 + 17 * r + 6 + n by omega]; exact h.pol hr hn
theorem Rc.g {A : Ab} {M : Mem} (h : Rc A M) {r : Nat} (hr : r < 4) : eq9 (M (34 + 17 * r + 1)) (A.2.1 r) := (h.2.2.1 r hr).2.1
theorem Rc.f {A : Ab} {M : Mem} (h : Rc A M) {r : Nat} (hr : r < 4) : eq9 (M (34 + 17 * r + 2)) (A.2.2.1 r) := (h.2.2.1 r hr).2.2
theorem Rc.og {A : Ab} {M : Mem} (h : Rc A M) {r : Nat} (hr : r < 4) : eq9 (M (34 + 17 * r + 3)) (fover (A.2.1 r)) := (h.2.2.1 r hr).1.1.tr (fover_cg (h.g hr))
theorem Rc.tf {A : Ab} {M : Mem} (h : Rc A M) {r : Nat} (hr : r < 4) : eq9 (M (34 + 17 * r + 4)) (fturn (A.2.2.1 r)) := (h.2.2.1 r hr).1.2.1.tr (fturn_cg (h.f hr))
theorem horn_cg {p p' : Ser} {x : Int32} (h : eq9 p p') : ∀ n, n ≤ 9 → horn p x n = horn p' x n
  | 0, _ => rfl
  | n + 1, hn => by simp only [horn]; rw [horn_cg h n (by omega), h (8 - n) (by omega)]
theorem fexp_cg {e e' : Ser} {a : Int32} (h : eq9 e e') : eq9 (fexp e a) (fexp e' a) := fun k hk => by unfold fexp; rw [h k hk]
/-- the least number by which two rows' polynomials are unlike -/
def fdiff (P Q : Nat → Ser) : Nat → Int32
  | 0 => -1
  | n + 1 => if ∀ k, k < 9 → P (8 - n) k = Q (8 - n) k then fdiff P Q n else nI (8 - n)
/-- g, f, 1 by g, f turned inside out, of row r -/
def chS (A : Ab) (r y : Nat) : Ser := match y with
  | 0 => A.2.1 r
  | 1 => A.2.2.1 r
  | 2 => fover (A.2.1 r)
  | _ => fturn (A.2.2.1 r)
theorem Rc.ch {A : Ab} {M : Mem} (h : Rc A M) {r y : Nat} (hr : r < 4) (hy : y < 4) : eq9 (M (34 + 17 * r + 1 + y)) (chS A r y) := by
  match y, hy with
  | 0, _ => exact h.g hr
  | 1, _ => exact h.f hr
  | 2, _ => exact h.og hr
  | 3, _ => exact h.tf hr
