/-! ===== what the two classes' own arithmetic does to ints, as it stands ===== -/
def rem9 (x : Int32) : Int32 := x - x / nI 9973 * nI 9973
def fadd (a b : Int32) : Int32 := rem9 (a + b)
def fsub (a b : Int32) : Int32 := rem9 (a - b + nI 9973)
def fmul (a b : Int32) : Int32 := rem9 (a * b)
def pwl : Nat → Nat → Int32 → Int32 → Int32
  | 0, _, r, _ => r
  | f + 1, e, r, s => if e = 0 then r else pwl f (e / 2) (if e % 2 = 1 then fmul r s else r) (fmul s s)
def finv (b : Int32) : Int32 := pwl 14 9971 (nI 1) b
/-- x is a whole number less than n -/
def isN (x : Int32) (n : Nat) : Bool := decide (¬ x < 0) && decide (x < nI n)
theorem isN_yes {x : Int32} {n : Nat} (hn : n < 2 ^ 31) (h : isN x n = true) : ∃ j, j < n ∧ x = nI j := by
  simp only [isN, Bool.and_eq_true, decide_eq_true_eq] at h
  rcases pk_ix x hn with h1 | h1 | h1
  · exact absurd h1 h.1
  · exact absurd h.2 (by rw [Int32.not_lt]; exact h1)
  · exact h1
theorem isN_nI {j n : Nat} (hn : n < 2 ^ 31) (h : j < n) : isN (nI j) n = true := by
  simp only [isN, Bool.and_eq_true, decide_eq_true_eq]
  exact ⟨nI_pos (by omega), nI_lt h hn⟩
theorem isN_no {x : Int32} {n : Nat} (hn : n < 2 ^ 31) (h : isN x n = false) : ∀ j, j < n → x ≠ nI j := by
  intro j hj e
  rw [e, isN_nI hn hj] at h
  cases h
theorem isN_0 {x : Int32} {n : Nat} (h : x < 0) : isN x n = false := by simp [isN, h]
theorem isN_1 {x : Int32} {n : Nat} (h : nI n ≤ x) : isN x n = false := by
  have : ¬ x < nI n := by rw [Int32.not_lt]; exact h
  simp [isN, this]
theorem isN_2 {x : Int32} {n : Nat} (h : ¬ x < 0) (h2 : ¬ nI n ≤ x) : isN x n = true := by
  have : x < nI n := by rw [← Int32.not_le]; exact h2
  simp [isN, h, this]
/-- one power alone -/
def mono (k : Nat) (a : Int32) : Nat → Int32 := fun j => if j = k then a else nI 0
/-- p at x, the highest power first: the powers from k on have been taken in -/
def horn (p : Nat → Int32) (x : Int32) : Nat → Int32
  | 0 => nI 0
  | n + 1 => fadd (fmul (horn p x n) x) (p (8 - n))
/-- the first j of the products that make place n -/
def cvl (a b : Nat → Int32) (n : Nat) : Nat → Int32
  | 0 => nI 0
  | j + 1 => fadd (cvl a b n j) (fmul (a j) (b (n - j)))
/-- a product of two series -/
def fprod (a b : Nat → Int32) : Nat → Int32 := fun n => cvl a b n (n + 1)
/-- numbers added, each times c -/
def fax (p a : Nat → Int32) (c : Int32) : Nat → Int32 := fun k => fadd (p k) (fmul (a k) c)
def fup (a : Nat → Int32) : Nat → Int32 := fun k => if k = 0 then nI 0 else a (k - 1)
