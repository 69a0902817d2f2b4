/-! ===== what the reference's own arithmetic does ===== -/
theorem less_eq (a b : Int32) : rem9 (a + nI 9973 - b) = fsub a b := by
  have e : a + nI 9973 - b = a - b + nI 9973 := by
    rw [Int32.sub_eq_add_neg, Int32.sub_eq_add_neg, Int32.add_assoc, Int32.add_comm (nI 9973), ← Int32.add_assoc]
  rw [e]; rfl
/-- an array from place i on -/
def sl (f : Ser) (i : Nat) : Ser := fun k => f (i + k)
theorem sl_0 (f : Ser) : sl f 0 = f := by funext k; simp [sl]
theorem sl_cg {f h : Ser} {i : Nat} (e : ∀ k, k < 9 → f (i + k) = h (i + k)) : eq9 (sl f i) (sl h i) := fun k hk => e k hk
/-- place n out of those before it, the first one first -/
def mdl (r h m : Ser) (n : Nat) : Nat → Int32
  | 0 => h n
  | x + 1 => fsub (mdl r h m n x) (fmul (r x) (m (n - x)))
def mdvs (h m : Ser) (c : Int32) : Nat → Ser
  | 0 => fun _ => nI 0
  | n + 1 => fun k => if k = n then fmul (mdl (mdvs h m c n) h m n n) c else mdvs h m c n k
def mdiv (h m : Ser) : Ser := fun k => mdvs h m (finv (m 0)) (k + 1) k
theorem mdvs_st (h m : Ser) (c : Int32) (k : Nat) : ∀ n, k < n → mdvs h m c n k = mdvs h m c (k + 1) k
  | 0, hk => by omega
  | n + 1, hk => by
    by_cases e : k = n
    · subst e; rfl
    · show (if k = n then _ else mdvs h m c n k) = _
      rw [if_neg e]; exact mdvs_st h m c k n (by omega)
theorem mdl_cg {r r' h h' m m' : Ser} {n : Nat} (hr : ∀ k, k < n → r k = r' k) (hh : h n = h' n) (hm : ∀ k, k ≤ n → m k = m' k) : ∀ j, j ≤ n → mdl r h m n j = mdl r' h' m' n j
  | 0, _ => hh
  | j + 1, hj => by simp only [mdl]; rw [mdl_cg hr hh hm j (by omega), hm (n - j) (by omega), hr j (by omega)]
theorem mdiv_eq (h m : Ser) (n : Nat) : mdiv h m n = fmul (mdl (mdiv h m) h m n n) (finv (m 0)) := by
  show (if n = n then fmul (mdl (mdvs h m (finv (m 0)) n) h m n n) (finv (m 0)) else _) = _
  rw [if_pos rfl, mdl_cg (r' := mdiv h m) (fun k hk => mdvs_st h m _ k n hk) rfl (fun _ _ => rfl) n (Nat.le_refl _)]
theorem mdiv_cgn {h h' m m' : Ser} (hh : eq9 h h') (hm : eq9 m m') : ∀ N n, n < N → n < 9 → mdiv h m n = mdiv h' m' n
  | 0, n, h1, _ => by omega
  | N + 1, n, h1, h2 => by
    rw [mdiv_eq, mdiv_eq h' m', hm 0 (by omega), mdl_cg (fun k hk => mdiv_cgn hh hm N k (by omega) (by omega)) (hh n h2) (fun k hk => hm k (by omega)) n (Nat.le_refl _)]
theorem mdiv_cg {h h' m m' : Ser} (hh : eq9 h h') (hm : eq9 m m') : eq9 (mdiv h m) (mdiv h' m') := fun n hn => mdiv_cgn hh hm (n + 1) n (by omega) hn
def mpin (h m : Ser) : Nat → Ser
  | 0 => fun _ => nI 0
  | j + 1 => fad0 (fprod (mpin h m j) m) (h (8 - j))
def mput (h m : Ser) : Ser := mpin h m 9
theorem mpin_cg {h h' m m' : Ser} (hh : eq9 h h') (hm : eq9 m m') : ∀ j, eq9 (mpin h m j) (mpin h' m' j)
  | 0 => eq9.rf
  | j + 1 => by
    show eq9 (fad0 (fprod (mpin h m j) m) (h (8 - j))) (fad0 (fprod (mpin h' m' j) m') (h' (8 - j)))
    rw [hh (8 - j) (by omega)]
    exact fad0_cg _ (fprod_cg (mpin_cg hh hm j) hm)
theorem mput_cg {h h' m m' : Ser} (hh : eq9 h h') (hm : eq9 m m') : eq9 (mput h m) (mput h' m') := mpin_cg hh hm 9
/-- turned inside out, number by number: the first k numbers -/
def mtr (a : Ser) : Nat → Ser
  | 0 => fun _ => nI 0
  | k + 1 => fun q => if q = k then (if k = 0 then nI 0 else fmul (fsub (if k = 1 then nI 1 else nI 0) (mput a (mtr a k) k)) (finv (a 1))) else mtr a k q
def mturn (a : Ser) : Ser := mtr a 9
theorem mtr_cg {a a' : Ser} (h : eq9 a a') : ∀ k, k ≤ 9 → eq9 (mtr a k) (mtr a' k)
  | 0, _ => eq9.rf
  | k + 1, hk => fun q hq => by
    simp only [mtr]
    rw [mput_cg h (mtr_cg h k (by omega)) k (by omega), h 1 (by omega), mtr_cg h k (by omega) q hq]
theorem mturn_cg {a a' : Ser} (h : eq9 a a') : eq9 (mturn a) (mturn a') := mtr_cg h 9 (Nat.le_refl _)
theorem mtr_z (a : Ser) : ∀ k q, k ≤ q → mtr a k q = nI 0
  | 0, _, _ => rfl
  | k + 1, q, h => by
    show (if q = k then _ else mtr a k q) = _
    rw [if_neg (by omega)]; exact mtr_z a k q (by omega)
def mfac : Nat → Int32
  | 0 => nI 1
  | k + 1 => fmul (mfac k) (nI (k + 1))
/-- by what number the k-th power goes into what letter s makes -/
def mby (s : Int32) (k : Nat) : Int32 := if s = nI 101 then finv (mfac k) else if s = nI 113 then finv (fmul (mfac k) (nI (k + 1))) else if k = 0 then nI 0 else if k % 2 = 1 then finv (nI k) else nI 9973 - finv (nI k)
def msum (s : Int32) (a : Ser) : Nat → Ser
  | 0 => fun _ => nI 0
  | k + 1 => fun x => fadd (msum s a k x) (fmul (mby s k) (fpow a k x))
def mmake (s : Int32) (a : Ser) : Ser := msum s a 9
theorem msum_cg {s : Int32} {a a' : Ser} (h : eq9 a a') : ∀ k, eq9 (msum s a k) (msum s a' k)
  | 0 => eq9.rf
  | k + 1 => fun x hx => by simp only [msum]; rw [msum_cg h k x hx, fpow_cg h k x hx]
theorem mmake_cg {s : Int32} {a a' : Ser} (h : eq9 a a') : eq9 (mmake s a) (mmake s a') := msum_cg h 9
/-- what bring() leaves -/
def brg (M : Mem) (a i b j n : Nat) : Mem := aset M b j (j + n) (fun q => M a (i + (q - j)))
theorem brg_ne {M : Mem} {a i b j n c : Nat} (h : c ≠ b) : brg M a i b j n c = M c := aset_ne h
theorem brg_in {M : Mem} {a i b j n k : Nat} (h : k < n) : brg M a i b j n b (j + k) = M a (i + k) := by
  unfold brg; rw [aset_in (by omega) (by omega)]; congr 1; omega
theorem brg_out {M : Mem} {a i b j n k : Nat} (h : k < j ∨ j + n ≤ k) : brg M a i b j n b k = M b k := by
  unfold brg; rw [aset_out h]
theorem brg_0 {M : Mem} {a i b : Nat} : eq9 (brg M a i b 0 9 b) (sl (M a) i) := fun k hk => by
  have := brg_in (M := M) (a := a) (i := i) (b := b) (j := 0) (n := 9) hk
  rw [Nat.zero_add] at this; exact this
theorem brg_as {M : Mem} {a i b : Nat} : brg M a i b 0 9 = aset M b 0 9 (sl (M a) i) := by
  unfold brg; rw [Nat.zero_add]; exact aset_congr (fun q _ _ => by simp [sl])
theorem keep.br {P : Nat → Prop} {M M1 : Mem} {a i b j n : Nat} (k : keep P M M1) (h : P b) : keep P M (brg M1 a i b j n) := k.as h
