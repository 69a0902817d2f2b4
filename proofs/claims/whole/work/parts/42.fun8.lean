/-! ===== how the reference reads a text ===== -/
/-- of an open bracket: the sum, the product, by what they go on, the letter ahead of it -/
abbrev Fr : Type := Ser × Ser × Int32 × Int32 × Int32
/-- where it stands, brackets open, whether a value fails, the thing, what is open, the letter ahead -/
abbrev Rho : Type := Nat × Nat × Bool × Ser × (Nat → Fr) × Int32
def mEP (o : Nat) (w : Bool) (th : Ser) (fr : Nat → Fr) : Bool × (Nat → Fr) :=
  if (fr o).2.2.2.1 = nI 0 then (w, va_up fr o ((fr o).1, th, (fr o).2.2))
  else if (fr o).2.2.2.1 = nI 42 then (w, va_up fr o ((fr o).1, fprod (fr o).2.1 th, (fr o).2.2))
  else if th 0 = 0 then (true, fr)
  else (w, va_up fr o ((fr o).1, mdiv (fr o).2.1 th, (fr o).2.2))
def sadd (s : Int32) (x z : Ser) : Ser := fun k => if s = nI 0 then z k else if s = nI 43 then fadd (x k) (z k) else fsub (x k) (z k)
def mEQ (o : Nat) (w : Bool) (th : Ser) (fr : Nat → Fr) : Bool × (Nat → Fr) :=
  ((mEP o w th fr).1, va_up (mEP o w th fr).2 o (sadd ((mEP o w th fr).2 o).2.2.1 ((mEP o w th fr).2 o).1 ((mEP o w th fr).2 o).2.1, ((mEP o w th fr).2 o).2))
/-- what a letter makes of a sum -/
def mLt (L : Int32) (w : Bool) (t : Ser) : Bool × Ser :=
  if L = nI 105 then (if isDe t = true then (w, mturn t) else (true, t))
  else if L = nI 0 then (w, t)
  else if t 0 = 0 then (w, mmake L t) else (true, t)
def mCl (o : Nat) (w : Bool) (th : Ser) (fr : Nat → Fr) : Bool × Ser × (Nat → Fr) :=
  ((mLt ((mEQ o w th fr).2 o).2.2.2.2 (mEQ o w th fr).1 ((mEQ o w th fr).2 o).1).1, (mLt ((mEQ o w th fr).2 o).2.2.2.2 (mEQ o w th fr).1 ((mEQ o w th fr).2 o).1).2, (mEQ o w th fr).2)
def mBg (fr : Nat → Fr) (o : Nat) (c : Int32) : Nat → Fr := va_up fr o ((fr o).1, (fr o).2.1, nI 0, nI 0, c)
def mBr (l : Ser) (n : Nat) (c : Int32) (ρ : Rho) : Int32 × Rho := match ρ with
  | (p, o, w, th, fr, ah) => if c = nI 40 ∧ o ≠ 6 then (nI 0, (en l n p, o + 1, w, th, mBg fr (o + 1) ah, ah)) else (-1, (p, o, w, th, fr, ah))
def mTh (l : Ser) (n : Nat) (c : Int32) (ρ : Rho) : Int32 × Rho := match ρ with
  | (p, o, w, th, fr, ah) =>
    if isDg c = true then (if isNum l n p = true then (nI 1, (en l n p, o, w, mono 0 (amt l n p), fr, ah)) else (-1, (p, o, w, th, fr, ah)))
    else if c = nI 116 then (nI 1, (en l n p, o, w, mono 1 (nI 1), fr, ah))
    else if isNm c = true then (nI 3, (en l n p, o, w, th, fr, c))
    else mBr l n c (p, o, w, th, fr, nI 0)
def mTi (l : Ser) (n : Nat) (c : Int32) (ρ : Rho) : Int32 × Rho := match ρ with
  | (p, o, w, th, fr, ah) => if isDg c = true ∧ en l n p - sk l n p = 1 then (nI 2, (en l n p, o, w, fpow th (amt l n p).toNatClampNeg, fr, ah)) else (-1, (p, o, w, th, fr, ah))
def mOn (l : Ser) (n : Nat) (c s : Int32) (ρ : Rho) : Int32 × Rho := match ρ with
  | (p, o, w, th, fr, ah) =>
    if c = nI 94 then (if s = nI 1 then (nI 4, (en l n p, o, w, th, fr, ah)) else (-1, (p, o, w, th, fr, ah)))
    else if c = nI 42 ∨ c = nI 47 then (nI 0, (en l n p, o, (mEP o w th fr).1, th, va_up (mEP o w th fr).2 o (((mEP o w th fr).2 o).1, ((mEP o w th fr).2 o).2.1, ((mEP o w th fr).2 o).2.2.1, c, ((mEP o w th fr).2 o).2.2.2.2), ah))
    else if c = nI 43 ∨ c = nI 45 then (nI 0, (en l n p, o, (mEQ o w th fr).1, th, va_up (mEQ o w th fr).2 o (((mEQ o w th fr).2 o).1, ((mEQ o w th fr).2 o).2.1, c, nI 0, ((mEQ o w th fr).2 o).2.2.2.2), ah))
    else if c = nI 41 ∧ o ≠ 0 then (nI 1, (en l n p, o - 1, (mCl o w th fr).1, (mCl o w th fr).2.1, (mCl o w th fr).2.2, ah))
    else (-1, (p, o, w, th, fr, ah))
def mSt (l : Ser) (n : Nat) (c s : Int32) (ρ : Rho) : Int32 × Rho :=
  if s = nI 0 then mTh l n c ρ else if s = nI 3 then mBr l n c ρ else if s = nI 4 then mTi l n c ρ else mOn l n c s ρ
def mrun (l : Ser) (n : Nat) : Nat → Int32 → Rho → Int32 × Rho
  | 0, _, ρ => (-1, ρ)
  | f + 1, s, (q, o, w, th, fr, ah) =>
    if s = -1 then (-1, (q, o, w, th, fr, ah))
    else if (s = nI 1 ∨ s = nI 2) ∧ o = 0 ∧ (fs l n q = nI 59 ∨ fs l n q = -1) then (s, (sk l n q, o, (mEQ o w th fr).1, th, (mEQ o w th fr).2, ah))
    else mrun l n f (mSt l n (fs l n q) s (sk l n q, o, w, th, fr, ah)).1 (mSt l n (fs l n q) s (sk l n q, o, w, th, fr, ah)).2
def mSum (l : Ser) (n : Nat) (ρ : Rho) : Int32 × Rho := mrun l n 122 (nI 0) (ρ.1, 0, ρ.2.2.1, ρ.2.2.2.1, mBg ρ.2.2.2.2.1 0 (nI 0), ρ.2.2.2.2.2)
theorem sk_sk {l : Ser} {n q : Nat} (h : q ≤ n) : sk l n (sk l n q) = sk l n q := by
  unfold sk
  have key : ∀ f p, n - p = f → p ≤ n → skf l n (n - skf l n f p) (skf l n f p) = skf l n f p := by
    intro f
    induction f with
    | zero =>
      intro p hp hn
      show skf l n (n - p) p = p
      rw [hp]; rfl
    | succ f ih =>
      intro p hp hn
      by_cases e : p < n ∧ l p = nI 32
      · have u : skf l n (f + 1) p = skf l n f (p + 1) := by show (if p < n ∧ l p = nI 32 then _ else _) = _; rw [if_pos e]
        rw [u]; exact ih (p + 1) (by omega) e.1
      · have u : skf l n (f + 1) p = p := by show (if p < n ∧ l p = nI 32 then _ else _) = _; rw [if_neg e]
        rw [u, hp]; exact u
  exact key _ q rfl h
theorem fs_sk {l : Ser} {n q : Nat} (h : q ≤ n) : fs l n (sk l n q) = fs l n q := by unfold fs; rw [sk_sk h]
theorem en_sk {l : Ser} {n q : Nat} (h : q ≤ n) (h2 : sk l n q < n) : en l n (sk l n q) = en l n q := by
  unfold en; rw [sk_sk h, if_pos h2, if_pos h2]
theorem nm1 : (-1 : Int32) ≠ nI 0 := by decide
/-- at a place that bears no blank -/
theorem fs_at {l : Ser} {n p : Nat} (hs : sk l n p = p) (h : p < n) : fs l n p = l p := by unfold fs; rw [hs, if_pos h]
theorem fs_end {l : Ser} {n p : Nat} (hs : sk l n p = p) (h : ¬ p < n) : fs l n p = -1 := by unfold fs; rw [hs, if_neg h]
theorem isDg_m1 : isDg (-1) = false := by decide
theorem en_one {l : Ser} {n p : Nat} (hs : sk l n p = p) (h : p < n) (hd : isDg (fs l n p) = false) : en l n p = p + 1 := by
  unfold en
  rw [hs, if_pos h, ← fs_at hs h, hd]; rfl
theorem en_dg {l : Ser} {n p : Nat} (hs : sk l n p = p) (hd : isDg (fs l n p) = true) : p < n ∧ en l n p = dg l n p ∧ p < en l n p := by
  have h : p < n := by
    apply Classical.byContradiction; intro h
    rw [fs_end hs h, isDg_m1] at hd; cases hd
  have e : en l n p = dg l n (p + 1) := by unfold en; rw [hs, if_pos h, ← fs_at hs h, hd]; rfl
  have hd2 := hd
  rw [fs_at hs h] at hd2
  exact ⟨h, by rw [e, dg_yes h hd2], by rw [e]; have := dg_ge (l := l) (n := n) (p := p + 1) (by omega); omega⟩
theorem isDg_nat {x : Int32} (h : isDg x = true) : ∃ m, m < 10 ∧ x = nI (48 + m) := by
  simp [isDg] at h
  have h1 := Int32.le_iff_toInt_le.mp h.1
  have h2 := Int32.le_iff_toInt_le.mp h.2
  rw [nI_toInt (by decide)] at h1 h2
  refine ⟨x.toInt.toNat - 48, by omega, ?_⟩
  apply Int32.toInt_inj.mp
  rw [nI_toInt (by omega)]
  omega
theorem sub48 (m : Nat) : nI (48 + m) - nI 48 = nI m := by rw [Nat.add_comm, ← nI_add, Int32.add_sub_cancel]
theorem amtf_nat {l : Ser} {p : Nat} : ∀ k, (∀ j, j < k → isDg (l (p + j)) = true) → k ≤ 4 → ∃ m, m < 10 ^ k ∧ amtf l p k = nI m
  | 0, _, _ => ⟨0, by decide, rfl⟩
  | k + 1, h, h2 => by
    obtain ⟨m, hm, e⟩ := amtf_nat k (fun j hj => h j (by omega)) (by omega)
    obtain ⟨d, hd, e2⟩ := isDg_nat (h k (by omega))
    refine ⟨10 * m + d, by rw [Nat.pow_succ]; omega, ?_⟩
    simp only [amtf]
    rw [e, e2, sub48, show nI 10 * nI m = nI (10 * m) from (Int32.ofNat_mul 10 m).symm, nI_add]
theorem dgf_dg {l : Ser} {n : Nat} : ∀ f p j, p + j < dgf l n f p → isDg (l (p + j)) = true
  | 0, p, j, h => by unfold dgf at h; omega
  | f + 1, p, j, h => by
    unfold dgf at h
    split at h
    · rename_i e
      cases j with
      | zero => exact e.2
      | succ j =>
        have := dgf_dg (l := l) (n := n) f (p + 1) j (by omega)
        rw [show p + (j + 1) = p + 1 + j by omega]; exact this
    · omega
theorem amt_nat {l : Ser} {n p k : Nat} (h : p + k ≤ dg l n p) (hk : k ≤ 4) : ∃ m, m < 10 ^ k ∧ amtf l p k = nI m := amtf_nat k (fun j hj => dgf_dg (n - p) p j (by show p + j < dg l n p; omega)) hk
/-! what the reference's cells say while it reads -/
def MI (l : Ser) (n p o : Nat) (w : Bool) (ah : Int32) (M : Mem) : Prop :=
  n ≤ 120 ∧ p ≤ n ∧ o ≤ 6 ∧ M 149 = l ∧ M 142 8 = nI n ∧ M 142 15 = nI p ∧ M 142 16 = nI o ∧ M 142 17 = nI w.toNat ∧ M 142 27 = ah
def MF (th : Ser) (fr : Nat → Fr) (M : Mem) : Prop := eq9 (M 156) th ∧ ∀ k, k < 7 → eq9 (sl (M 157) (9 * k)) (fr k).1 ∧ eq9 (sl (M 158) (9 * k)) (fr k).2.1 ∧ M 160 k = (fr k).2.2.1 ∧ M 161 k = (fr k).2.2.2.1 ∧ M 162 k = (fr k).2.2.2.2
def MS (l : Ser) (n : Nat) (ρ : Rho) (M : Mem) : Prop := MI l n ρ.1 ρ.2.1 ρ.2.2.1 ρ.2.2.2.2.2 M ∧ MF ρ.2.2.2.1 ρ.2.2.2.2.1 M
def msp (j : Nat) : Prop := 150 ≤ j ∧ j ≤ 162
def KM (M M' : Mem) : Prop := keep (fun j => j = 142 ∨ msp j) M M' ∧ ∀ k, k ≠ 15 → k ≠ 16 → k ≠ 17 → k ≠ 27 → M' 142 k = M 142 k
theorem KM.rf {M : Mem} : KM M M := ⟨keep.rf, fun _ _ _ _ _ => rfl⟩
theorem KM.tr {M M1 M2 : Mem} (a : KM M M1) (b : KM M1 M2) : KM M M2 := ⟨a.1.tr b.1, fun k h1 h2 h3 h4 => (b.2 k h1 h2 h3 h4).trans (a.2 k h1 h2 h3 h4)⟩
theorem KM.of {M M' : Mem} (k : keep msp M M') : KM M M' := ⟨k.wk (fun j hj => Or.inr hj), fun _ _ _ _ _ => by rw [k 142 (by unfold msp; omega)]⟩
theorem KM.ms {M : Mem} {k : Nat} {x : Int32} (h : k = 15 ∨ k = 16 ∨ k = 17 ∨ k = 27) : KM M (mset M 142 k x) := ⟨(keep.rf (P := fun j => j = 142 ∨ msp j)).ms (Or.inl rfl), fun j h1 h2 h3 h4 => by rw [mset_nat (by omega)]⟩
theorem MI.kp {l : Ser} {n p o : Nat} {w : Bool} {ah : Int32} {M M' : Mem} (h : MI l n p o w ah M) (k : keep msp M M') : MI l n p o w ah M' := by
  have e1 : M' 142 = M 142 := k 142 (by unfold msp; omega)
  have e2 : M' 149 = M 149 := k 149 (by unfold msp; omega)
  unfold MI; rw [e1, e2]; exact h
theorem MF.kp {th : Ser} {fr : Nat → Fr} {M M' : Mem} (h : MF th fr M) (k : ∀ j, 156 ≤ j → j ≤ 162 → j ≠ 159 → M' j = M j) : MF th fr M' := by
  unfold MF; rw [k 156 (by omega) (by omega) (by omega), k 157 (by omega) (by omega) (by omega), k 158 (by omega) (by omega) (by omega), k 160 (by omega) (by omega) (by omega), k 161 (by omega) (by omega) (by omega), k 162 (by omega) (by omega) (by omega)]; exact h
theorem MF.m142 {th : Ser} {fr : Nat → Fr} {M : Mem} {k : Nat} {x : Int32} (h : MF th fr M) : MF th fr (mset M 142 k x) := h.kp (fun j h1 h2 _ => mset_ne (by omega))
theorem MI.p' {l : Ser} {n p p' o : Nat} {w : Bool} {ah : Int32} {M : Mem} (h : MI l n p o w ah M) (hp : p' ≤ n) : MI l n p' o w ah (mset M 142 15 (nI p')) := by
  obtain ⟨a1, a2, a3, a4, a5, a6, a7, a8, a9⟩ := h
  exact ⟨a1, hp, a3, by rw [mset_ne (by decide)]; exact a4, by rw [mset_nat (by decide)]; exact a5, by rw [mset_at], by rw [mset_nat (by decide)]; exact a7, by rw [mset_nat (by decide)]; exact a8, by rw [mset_nat (by decide)]; exact a9⟩
theorem MI.o' {l : Ser} {n p o o' : Nat} {w : Bool} {ah : Int32} {M : Mem} (h : MI l n p o w ah M) (hp : o' ≤ 6) : MI l n p o' w ah (mset M 142 16 (nI o')) := by
  obtain ⟨a1, a2, a3, a4, a5, a6, a7, a8, a9⟩ := h
  exact ⟨a1, a2, hp, by rw [mset_ne (by decide)]; exact a4, by rw [mset_nat (by decide)]; exact a5, by rw [mset_nat (by decide)]; exact a6, by rw [mset_at], by rw [mset_nat (by decide)]; exact a8, by rw [mset_nat (by decide)]; exact a9⟩
theorem MI.w' {l : Ser} {n p o : Nat} {w w' : Bool} {ah x : Int32} {M : Mem} (h : MI l n p o w ah M) (hx : x = nI w'.toNat) : MI l n p o w' ah (mset M 142 17 x) := by
  obtain ⟨a1, a2, a3, a4, a5, a6, a7, a8, a9⟩ := h
  exact ⟨a1, a2, a3, by rw [mset_ne (by decide)]; exact a4, by rw [mset_nat (by decide)]; exact a5, by rw [mset_nat (by decide)]; exact a6, by rw [mset_nat (by decide)]; exact a7, by rw [mset_at]; exact hx, by rw [mset_nat (by decide)]; exact a9⟩
theorem MI.a' {l : Ser} {n p o : Nat} {w : Bool} {ah ah' : Int32} {M : Mem} (h : MI l n p o w ah M) : MI l n p o w ah' (mset M 142 27 ah') := by
  obtain ⟨a1, a2, a3, a4, a5, a6, a7, a8, a9⟩ := h
  exact ⟨a1, a2, a3, by rw [mset_ne (by decide)]; exact a4, by rw [mset_nat (by decide)]; exact a5, by rw [mset_nat (by decide)]; exact a6, by rw [mset_nat (by decide)]; exact a7, by rw [mset_nat (by decide)]; exact a8, by rw [mset_at]⟩
theorem en_c {l : Ser} {n p : Nat} {c : Int32} (hs : sk l n p = p) (hc : fs l n p = c) (h1 : c ≠ -1) (hd : isDg c = false) : p < n ∧ en l n p = p + 1 := by
  have h : p < n := by
    apply Classical.byContradiction; intro h
    rw [fs_end hs h] at hc; exact h1 hc.symm
  exact ⟨h, en_one hs h (by rw [hc]; exact hd)⟩
theorem va_up_id {α : Type} (fr : Nat → α) (o : Nat) : va_up fr o (fr o) = fr := by
  funext k
  by_cases e : k = o
  · subst e; rw [va_up_self]
  · rw [va_up_ne _ _ e]
/-- the product of what is open has become another -/
theorem MF.pr {th P : Ser} {fr : Nat → Fr} {M : Mem} {o : Nat} (ho : o ≤ 6) (h : MF th fr M) (hP : eq9 (M 159) P) : MF th (va_up fr o ((fr o).1, P, (fr o).2.2)) (brg M 159 0 158 (9 * o) 9) := by
  obtain ⟨h1, h2⟩ := h
  refine ⟨by rw [brg_ne (by decide)]; exact h1, fun k hk => ?_⟩
  rw [brg_ne (c := 157) (by decide), brg_ne (c := 160) (by decide), brg_ne (c := 161) (by decide), brg_ne (c := 162) (by decide)]
  by_cases e : k = o
  · subst e
    rw [va_up_self]
    refine ⟨(h2 k hk).1, fun z hz => ?_, (h2 k hk).2.2⟩
    show brg M 159 0 158 (9 * k) 9 158 (9 * k + z) = _
    rw [brg_in hz, Nat.zero_add]; exact hP z hz
  · rw [va_up_ne _ _ e]
    refine ⟨(h2 k hk).1, fun z hz => ?_, (h2 k hk).2.2⟩
    show brg M 159 0 158 (9 * o) 9 158 (9 * k + z) = _
    rw [brg_out (by omega)]; exact (h2 k hk).2.1 z hz
theorem MF.su {th S : Ser} {fr : Nat → Fr} {M : Mem} {o : Nat} {f : Ser} (ho : o ≤ 6) (h : MF th fr M) (hS : ∀ z, z < 9 → f (9 * o + z) = S z) : MF th (va_up fr o (S, (fr o).2)) (aset M 157 (9 * o) (9 * o + 9) f) := by
  obtain ⟨h1, h2⟩ := h
  refine ⟨by rw [aset_ne (by decide)]; exact h1, fun k hk => ?_⟩
  rw [aset_ne (a := 158) (by decide), aset_ne (a := 160) (by decide), aset_ne (a := 161) (by decide), aset_ne (a := 162) (by decide)]
  by_cases e : k = o
  · subst e
    rw [va_up_self]
    refine ⟨fun z hz => ?_, (h2 k hk).2⟩
    show aset M 157 (9 * k) (9 * k + 9) f 157 (9 * k + z) = _
    rw [aset_in (by omega) (by omega)]; exact hS z hz
  · rw [va_up_ne _ _ e]
    refine ⟨fun z hz => ?_, (h2 k hk).2⟩
    show aset M 157 (9 * o) (9 * o + 9) f 157 (9 * k + z) = _
    rw [aset_out (by omega)]; exact (h2 k hk).1 z hz
theorem MF.th' {th th' : Ser} {fr : Nat → Fr} {M M' : Mem} (h : MF th fr M) (k : ∀ j, 157 ≤ j → j ≤ 162 → j ≠ 159 → M' j = M j) (ht : eq9 (M' 156) th') : MF th' fr M' := by
  refine ⟨ht, ?_⟩
  rw [k 157 (by omega) (by omega) (by omega), k 158 (by omega) (by omega) (by omega), k 160 (by omega) (by omega) (by omega), k 161 (by omega) (by omega) (by omega), k 162 (by omega) (by omega) (by omega)]; exact h.2
/-- by what the sum and the product go on, and the letter, at place o -/
theorem MF.by3 {th : Ser} {fr : Nat → Fr} {M M' : Mem} {o : Nat} {a b c : Int32} (h : MF th fr M) (k : ∀ j, 156 ≤ j → j ≤ 158 → M' j = M j) (h1 : ∀ k, M' 160 k = if k = o then a else M 160 k) (h2 : ∀ k, M' 161 k = if k = o then b else M 161 k) (h3 : ∀ k, M' 162 k = if k = o then c else M 162 k) : MF th (va_up fr o ((fr o).1, (fr o).2.1, a, b, c)) M' := by
  obtain ⟨e1, e2⟩ := h
  refine ⟨by rw [k 156 (by omega) (by omega)]; exact e1, fun q hq => ?_⟩
  rw [k 157 (by omega) (by omega), k 158 (by omega) (by omega), h1 q, h2 q, h3 q]
  by_cases e : q = o
  · subst e
    rw [va_up_self, if_pos rfl, if_pos rfl, if_pos rfl]
    exact ⟨(e2 q hq).1, (e2 q hq).2.1, rfl, rfl, rfl⟩
  · rw [va_up_ne _ _ e, if_neg e, if_neg e, if_neg e]; exact e2 q hq
def KR (M M' : Mem) : Prop := keep (fun j => j = 142 ∨ msr j) M M' ∧ ∀ k, k ≠ 15 → k ≠ 16 → k ≠ 17 → k ≠ 27 → M' 142 k = M 142 k
theorem KM.wd {M M' : Mem} (h : KM M M') : KR M M' := ⟨h.1.wk (fun j hj => hj.elim Or.inl (fun z => Or.inr z.1)), h.2⟩
theorem KR.tr {M M1 M2 : Mem} (a : KR M M1) (b : KR M1 M2) : KR M M2 := ⟨a.1.tr b.1, fun k h1 h2 h3 h4 => (b.2 k h1 h2 h3 h4).trans (a.2 k h1 h2 h3 h4)⟩
theorem KR.of {M M' : Mem} (k : keep msr M M') : KR M M' := ⟨k.wk (fun j hj => Or.inr hj), fun _ _ _ _ _ => by rw [k 142 (by unfold msr; omega)]⟩
theorem MI.kr {l : Ser} {n p o : Nat} {w : Bool} {ah : Int32} {M M' : Mem} (h : MI l n p o w ah M) (k : keep msr M M') : MI l n p o w ah M' := by
  have e1 : M' 142 = M 142 := k 142 (by unfold msr; omega)
  have e2 : M' 149 = M 149 := k 149 (by unfold msr; omega)
  unfold MI; rw [e1, e2]; exact h
