/-! ===== what the reference has in hand behind each piece ===== -/
def Fail (l : Ser) (n q : Nat) (r : Int32 × Rho) : Prop := r.1 = -1 ∧ r.2.1 = sk l n q
def AP (l : Ser) (n q : Nat) (s : Int32) : Prop := (s = nI 1 ∧ fs l n q ≠ nI 94) ∨ s = nI 2
theorem AP.or {l : Ser} {n q : Nat} {s : Int32} (h : AP l n q s) : s = nI 1 ∨ s = nI 2 := h.elim (fun z => Or.inl z.1) Or.inr
/-- a value, or that one has failed -/
def Vl (X : Option Fs) (w w' : Bool) (t : Ser) : Prop := match X with
  | none => w' = true
  | some x => w' = w ∧ eq9 t (iS x)
theorem Vl.up {X : Option Fs} {w' : Bool} {t : Ser} (h : Vl X true w' t) : w' = true := by
  cases X with
  | none => exact h
  | some x => exact h.1
theorem mEP_ne {o i : Nat} {w : Bool} {th : Ser} {fr : Nat → Fr} (h : i ≠ o) : (mEP o w th fr).2 i = fr i := by
  unfold mEP
  split
  · exact va_up_ne _ _ h
  · split
    · exact va_up_ne _ _ h
    · split
      · rfl
      · exact va_up_ne _ _ h
theorem mEP_o {o : Nat} {w : Bool} {th : Ser} {fr : Nat → Fr} : ((mEP o w th fr).2 o).1 = (fr o).1 ∧ ((mEP o w th fr).2 o).2.2 = (fr o).2.2 := by
  unfold mEP
  split
  · show (va_up fr o _ o).1 = _ ∧ (va_up fr o _ o).2.2 = _
    rw [va_up_self]; exact ⟨rfl, rfl⟩
  · split
    · show (va_up fr o _ o).1 = _ ∧ (va_up fr o _ o).2.2 = _
      rw [va_up_self]; exact ⟨rfl, rfl⟩
    · split
      · exact ⟨rfl, rfl⟩
      · show (va_up fr o _ o).1 = _ ∧ (va_up fr o _ o).2.2 = _
        rw [va_up_self]; exact ⟨rfl, rfl⟩
theorem mEP_w {o : Nat} {th : Ser} {fr : Nat → Fr} : (mEP o true th fr).1 = true := by
  unfold mEP
  split
  · rfl
  · split
    · rfl
    · split <;> rfl
theorem mEQ_ne {o i : Nat} {w : Bool} {th : Ser} {fr : Nat → Fr} (h : i ≠ o) : (mEQ o w th fr).2 i = fr i := by
  show va_up (mEP o w th fr).2 o _ i = _
  rw [va_up_ne _ _ h, mEP_ne h]
theorem mEQ_o {o : Nat} {w : Bool} {th : Ser} {fr : Nat → Fr} : ((mEQ o w th fr).2 o).1 = sadd (fr o).2.2.1 (fr o).1 ((mEP o w th fr).2 o).2.1 ∧ ((mEQ o w th fr).2 o).2.2 = (fr o).2.2 := by
  have h := mEP_o (o := o) (w := w) (th := th) (fr := fr)
  have e : (mEQ o w th fr).2 o = (sadd ((mEP o w th fr).2 o).2.2.1 ((mEP o w th fr).2 o).1 ((mEP o w th fr).2 o).2.1, ((mEP o w th fr).2 o).2) := by
    show va_up (mEP o w th fr).2 o _ o = _
    rw [va_up_self]
  rw [e]
  refine ⟨?_, h.2⟩
  show sadd ((mEP o w th fr).2 o).2.2.1 ((mEP o w th fr).2 o).1 ((mEP o w th fr).2 o).2.1 = _
  rw [h.1, h.2]
theorem sadd_cg {s : Int32} {x x' z z' : Ser} (h : eq9 x x') (h2 : eq9 z z') : eq9 (sadd s x z) (sadd s x' z') := fun k hk => by unfold sadd; rw [h k hk, h2 k hk]
/-- behind a THING -/
def RTh (l : Ser) (n o : Nat) (e : Ev) : Prop := ∀ q w th fr ah, q ≤ n →
  ((e q).1 = false → Fail l n (e q).2.1 (RR l n (nI 0) (q, o, w, th, fr, ah))) ∧
  ((e q).1 = true → ∃ w' th' fr' ah', RR l n (nI 0) (q, o, w, th, fr, ah) = RR l n (nI 1) ((e q).2.1, o, w', th', fr', ah') ∧ (∀ i, i ≤ o → fr' i = fr i) ∧ Vl (e q).2.2 w w' th')
/-- behind a POWER -/
def RPo (l : Ser) (n o : Nat) (e : Ev) : Prop := ∀ q w th fr ah, q ≤ n →
  ((e q).1 = false → Fail l n (e q).2.1 (RR l n (nI 0) (q, o, w, th, fr, ah))) ∧
  ((e q).1 = true → ∃ s' w' th' fr' ah', RR l n (nI 0) (q, o, w, th, fr, ah) = RR l n s' ((e q).2.1, o, w', th', fr', ah') ∧ AP l n (e q).2.1 s' ∧ (∀ i, i ≤ o → fr' i = fr i) ∧ Vl (e q).2.2 w w' th')
/-- behind a PRODUCT -/
def VP (X : Option Fs) (w0 : Bool) (o : Nat) (w : Bool) (th : Ser) (fr : Nat → Fr) : Prop := Vl X w0 (mEP o w th fr).1 ((mEP o w th fr).2 o).2.1
def RPr (l : Ser) (n o : Nat) (e : Ev) : Prop := ∀ q w th fr ah, q ≤ n → (fr o).2.2.2.1 = nI 0 →
  ((e q).1 = false → Fail l n (e q).2.1 (RR l n (nI 0) (q, o, w, th, fr, ah))) ∧
  ((e q).1 = true → ∃ s' w' th' fr' ah', RR l n (nI 0) (q, o, w, th, fr, ah) = RR l n s' ((e q).2.1, o, w', th', fr', ah') ∧ AP l n (e q).2.1 s' ∧ (∀ i, i < o → fr' i = fr i) ∧ ((fr' o).1 = (fr o).1 ∧ (fr' o).2.2.1 = (fr o).2.2.1 ∧ (fr' o).2.2.2.2 = (fr o).2.2.2.2) ∧ VP (e q).2.2 w o w' th' fr' ∧ fs l n (e q).2.1 ≠ nI 42 ∧ fs l n (e q).2.1 ≠ nI 47)
/-- behind a SUM -/
def VS (X : Option Fs) (w0 : Bool) (o : Nat) (w : Bool) (th : Ser) (fr : Nat → Fr) : Prop := Vl X w0 (mEQ o w th fr).1 ((mEQ o w th fr).2 o).1
def RSu (l : Ser) (n o : Nat) (e : Ev) : Prop := ∀ q w th fr ah, q ≤ n → (fr o).2.2.2.1 = nI 0 → (fr o).2.2.1 = nI 0 →
  ((e q).1 = false → Fail l n (e q).2.1 (RR l n (nI 0) (q, o, w, th, fr, ah))) ∧
  ((e q).1 = true → ∃ s' w' th' fr' ah', RR l n (nI 0) (q, o, w, th, fr, ah) = RR l n s' ((e q).2.1, o, w', th', fr', ah') ∧ AP l n (e q).2.1 s' ∧ (∀ i, i < o → fr' i = fr i) ∧ (fr' o).2.2.2.2 = (fr o).2.2.2.2 ∧ VS (e q).2.2 w o w' th' fr' ∧ fs l n (e q).2.1 ≠ nI 42 ∧ fs l n (e q).2.1 ≠ nI 47 ∧ fs l n (e q).2.1 ≠ nI 43 ∧ fs l n (e q).2.1 ≠ nI 45)
theorem nf0 {l : Ser} {n q o : Nat} : ¬ ((nI 0 = nI 1 ∨ nI 0 = nI 2) ∧ o = 0 ∧ (fs l n q = nI 59 ∨ fs l n q = -1)) := fun z => by rcases z.1 with y | y <;> revert y <;> decide
theorem RR_fail {l : Ser} {n q o : Nat} {s : Int32} {w : Bool} {th : Ser} {fr : Nat → Fr} {ah : Int32} {ρ : Rho} (hn : n ≤ 120) (hq : q ≤ n) (hs : s ≠ -1) (hf : ¬ ((s = nI 1 ∨ s = nI 2) ∧ o = 0 ∧ (fs l n q = nI 59 ∨ fs l n q = -1))) (he : mSt l n (fs l n q) s (sk l n q, o, w, th, fr, ah) = (-1, ρ)) (hp : ρ.1 = sk l n q) : Fail l n q (RR l n s (q, o, w, th, fr, ah)) := by
  rw [RR_step hn hq hs hf, he]
  show Fail l n q (RR l n (-1) ρ)
  rw [RR_dead]; exact ⟨rfl, hp⟩
theorem isNum_sk {l : Ser} {n q : Nat} (hq : q ≤ n) (h : sk l n q < n) : isNum l n (sk l n q) = isNum l n q ∧ amt l n (sk l n q) = amt l n q := by
  unfold isNum amt
  rw [sk_sk hq, en_sk hq h]; exact ⟨rfl, rfl⟩
theorem sk_of {l : Ser} {n q : Nat} (h : fs l n q ≠ -1) : sk l n q < n := by
  apply Classical.byContradiction; intro h2
  exact h (by unfold fs; rw [if_neg h2])
/-- a number that stands in the text -/
theorem num_i {l : Ser} {n q : Nat} (h : isNum l n q = true) : amt l n q = iT (amF l n q) := by
  unfold isNum at h
  rw [Bool.and_eq_true] at h
  obtain ⟨j, hj, e⟩ := isN_yes (by decide) h.2
  unfold amF
  rw [e, nI_clamp (by omega), b_n hj]
theorem mBr_no {l : Ser} {n p o : Nat} {c : Int32} {w : Bool} {th : Ser} {fr : Nat → Fr} {ah : Int32} (h : ¬ (c = nI 40 ∧ o ≠ 6)) : mBr l n c (p, o, w, th, fr, ah) = (-1, (p, o, w, th, fr, ah)) := by
  show (if c = nI 40 ∧ o ≠ 6 then _ else _) = _
  rw [if_neg h]
theorem mBr_ok {l : Ser} {n p o : Nat} {c : Int32} {w : Bool} {th : Ser} {fr : Nat → Fr} {ah : Int32} (h : c = nI 40) (ho : o ≠ 6) : mBr l n c (p, o, w, th, fr, ah) = (nI 0, (en l n p, o + 1, w, th, mBg fr (o + 1) ah, ah)) := by
  show (if c = nI 40 ∧ o ≠ 6 then _ else _) = _
  rw [if_pos ⟨h, ho⟩]
theorem isDe_i {t : Ser} {x : Fs} (h : eq9 t (iS x)) : isDe t = true ↔ (x 0 = 0 ∧ x 1 ≠ 0) := by
  unfold isDe
  rw [h 0 (by decide), h 1 (by decide)]
  show (decide (iT (x 0) = 0) && decide (¬ iT (x 1) = 0)) = true ↔ _
  rw [Bool.and_eq_true, decide_eq_true_eq, decide_eq_true_eq, b_z, b_z]
theorem z_i {t : Ser} {x : Fs} (h : eq9 t (iS x)) : t 0 = 0 ↔ x 0 = 0 := by
  rw [h 0 (by decide)]; exact b_z
theorem mby_i {L : Int32} (h : L = nI 101 ∨ L = nI 113 ∨ L = nI 108) : ∀ k, k < 9 → mby L k = iT (letC L k) := by
  unfold letC
  rcases h with rfl | rfl | rfl
  · rw [if_pos rfl]; exact mbyE
  · rw [if_neg (by decide), if_pos rfl]; exact mbyQ
  · rw [if_neg (by decide), if_neg (by decide)]; exact mbyL
theorem isNm_or {c : Int32} (h : isNm c = true) : c = nI 101 ∨ c = nI 113 ∨ c = nI 108 ∨ c = nI 105 := by
  unfold isNm at h
  simp at h
  rcases h with ((h | h) | h) | h
  · exact Or.inl h
  · exact Or.inr (Or.inl h)
  · exact Or.inr (Or.inr (Or.inl h))
  · exact Or.inr (Or.inr (Or.inr h))
/-- what a letter makes: the reference's way -/
theorem mLt_i {L : Int32} {X : Option Fs} {w0 w : Bool} {t : Ser} (hL : L = nI 0 ∨ isNm L = true) (h : Vl X w0 w t) : Vl (if isNm L = true then letO L X else X) w0 (mLt L w t).1 (mLt L w t).2 := by
  rcases hL with rfl | hL
  · rw [if_neg (by decide)]
    unfold mLt; rw [if_neg (by decide), if_pos rfl]; exact h
  · rw [if_pos hL]
    have up : w = true → (mLt L w t).1 = true := fun e => by
      subst e
      unfold mLt
      split
      · split <;> rfl
      · split
        · rfl
        · split <;> rfl
    cases X with
    | none => exact up h
    | some x =>
      obtain ⟨hw, ht⟩ := h
      show Vl (letv L x) w0 _ _
      unfold letv mLt
      by_cases a : L = nI 105
      · rw [if_pos a, if_pos a]
        by_cases b : isDe t = true
        · rw [if_pos b, if_pos ((isDe_i ht).mp b)]
          exact ⟨hw, (mturn_cg ht).tr (by rw [mturn_i]; exact eq9.rf)⟩
        · rw [if_neg b, if_neg (fun z => b ((isDe_i ht).mpr z))]; rfl
      · rw [if_neg a, if_neg a, if_neg (show ¬ L = nI 0 from fun z => by rw [z] at hL; revert hL; decide)]
        have h3 : L = nI 101 ∨ L = nI 113 ∨ L = nI 108 := by
          rcases isNm_or hL with z | z | z | z
          · exact Or.inl z
          · exact Or.inr (Or.inl z)
          · exact Or.inr (Or.inr z)
          · exact absurd z a
        by_cases b : t 0 = 0
        · rw [if_pos b, if_pos ((z_i ht).mp b)]
          exact ⟨hw, (mmake_cg ht).tr (by rw [mmake_i (mby_i h3)]; exact eq9.rf)⟩
        · rw [if_neg b, if_neg (fun z => b ((z_i ht).mpr z))]; rfl
