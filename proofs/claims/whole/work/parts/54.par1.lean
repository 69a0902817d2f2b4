/-! ===== the reference's way through a text, step by step ===== -/
abbrev Ev : Type := Nat → Bool × Nat × Option Fs
def opv (c : Int32) (x y : Fs) : Option Fs := if c = nI 43 then some (sad x y) else if c = nI 45 then some (fun k => x k - y k) else if c = nI 42 then some (cv x y) else if y 0 = 0 then none else some (sDv x y)
def jo (c : Int32) (X Y : Option Fs) : Option Fs := match X, Y with
  | some x, some y => opv c x y
  | _, _ => none
def letC (L : Int32) : Fs := if L = nI 101 then exF else if L = nI 113 then quF else loF
def letv (L : Int32) (x : Fs) : Option Fs := if L = nI 105 then (if x 0 = 0 ∧ x 1 ≠ 0 then some (sTu x) else none) else if x 0 = 0 then some (cm (letC L) x) else none
def letO (L : Int32) (X : Option Fs) : Option Fs := match X with
  | some x => letv L x
  | none => none
def amF (l : Ser) (n q : Nat) : Fp := nF (amt l n q).toNatClampNeg
def thq (l : Ser) (n q : Nat) : Nat := if isNm (fs l n q) = true then en l n q else q
def thingE (l : Ser) (n : Nat) (sub : Option Ev) : Ev := fun q =>
  if fs l n q = nI 116 then (true, en l n q, some sX)
  else if isDg (fs l n q) = true then (if isNum l n q = true then (true, en l n q, some (smn 0 (amF l n q))) else (false, q, none))
  else match sub with
    | none => (false, thq l n q, none)
    | some sum => if fs l n (thq l n q) = nI 40 then (if (sum (en l n (thq l n q))).1 = true ∧ fs l n (sum (en l n (thq l n q))).2.1 = nI 41 then (true, en l n (sum (en l n (thq l n q))).2.1, if isNm (fs l n q) = true then letO (fs l n q) (sum (en l n (thq l n q))).2.2 else (sum (en l n (thq l n q))).2.2) else (false, (sum (en l n (thq l n q))).2.1, none)) else (false, thq l n q, none)
def powerE (l : Ser) (n : Nat) (thing : Ev) : Ev := fun q =>
  if (thing q).1 = true then
    (if fs l n (thing q).2.1 = nI 94 then
      (if isDg (fs l n (en l n (thing q).2.1)) = true ∧ en l n (en l n (thing q).2.1) - sk l n (en l n (thing q).2.1) = 1 then (true, en l n (en l n (thing q).2.1), (thing q).2.2.map (fun x => pw x (amt l n (en l n (thing q).2.1)).toNatClampNeg)) else (false, en l n (thing q).2.1, none))
     else (true, (thing q).2.1, (thing q).2.2))
  else (false, (thing q).2.1, none)
def loopE (l : Ser) (n : Nat) (a b : Int32) (item : Ev) : Nat → Nat → Option Fs → Bool × Nat × Option Fs
  | 0, q, X => (true, q, X)
  | f + 1, q, X => if fs l n q = a ∨ fs l n q = b then
      (if (item (en l n q)).1 = true then loopE l n a b item f (item (en l n q)).2.1 (jo (fs l n q) X (item (en l n q)).2.2) else (false, (item (en l n q)).2.1, none))
    else (true, q, X)
def listE (l : Ser) (n : Nat) (a b : Int32) (item : Ev) : Ev := fun q => if (item q).1 = true then loopE l n a b item 120 (item q).2.1 (item q).2.2 else (false, (item q).2.1, none)
def ePower (l : Ser) (n : Nat) (sub : Option Ev) : Ev := powerE l n (thingE l n sub)
def eProd (l : Ser) (n : Nat) (sub : Option Ev) : Ev := listE l n (nI 42) (nI 47) (ePower l n sub)
def eSumO (l : Ser) (n : Nat) (sub : Option Ev) : Ev := listE l n (nI 43) (nI 45) (eProd l n sub)
def eSum (l : Ser) (n : Nat) : Nat → Ev
  | 0 => eSumO l n none
  | k + 1 => eSumO l n (some (eSum l n k))
def eSub (l : Ser) (n : Nat) : Nat → Option Ev
  | 0 => none
  | k + 1 => some (eSum l n k)
theorem eSum_eq (l : Ser) (n k : Nat) : eSum l n k = eSumO l n (eSub l n k) := by cases k <;> rfl
/-! where it goes -/
def Pos (n : Nat) (e : Ev) : Prop := ∀ q, q ≤ n → q ≤ (e q).2.1 ∧ (e q).2.1 ≤ n ∧ ((e q).1 = true → q < (e q).2.1)
theorem en_gt' {l : Ser} {n q : Nat} (h : q ≤ n) (hf : fs l n q ≠ -1) : q < en l n q := by
  have h1 : sk l n q < n := by
    apply Classical.byContradiction; intro h2
    exact hf (by unfold fs; rw [if_neg h2])
  have h2 := en_gt (sk_sk (l := l) h) h1
  rw [en_sk h h1] at h2
  have := sk_ge (l := l) h
  omega
theorem thq_pos {l : Ser} {n q : Nat} (h : q ≤ n) : q ≤ thq l n q ∧ thq l n q ≤ n := by
  unfold thq
  by_cases e : isNm (fs l n q) = true
  · rw [if_pos e]; exact ⟨en_ge h, en_le h⟩
  · rw [if_neg e]; exact ⟨Nat.le_refl _, h⟩
theorem thing_pos {l : Ser} {n : Nat} {sub : Option Ev} (hs : ∀ e, sub = some e → Pos n e) : Pos n (thingE l n sub) := fun q hq => by
  unfold thingE
  have t := thq_pos (l := l) hq
  by_cases a : fs l n q = nI 116
  · rw [if_pos a]; exact ⟨en_ge hq, en_le hq, fun _ => en_gt' hq (by rw [a]; decide)⟩
  · rw [if_neg a]
    by_cases b : isDg (fs l n q) = true
    · rw [if_pos b]
      by_cases c : isNum l n q = true
      · rw [if_pos c]; exact ⟨en_ge hq, en_le hq, fun _ => en_gt' hq (isDg_ne b)⟩
      · rw [if_neg c]; exact ⟨Nat.le_refl _, hq, fun z => by cases z⟩
    · rw [if_neg b]
      cases sub with
      | none => exact ⟨t.1, t.2, fun z => by cases z⟩
      | some sum =>
        dsimp only
        by_cases c : fs l n (thq l n q) = nI 40
        · rw [if_pos c]
          have u1 := en_gt' t.2 (by rw [c]; decide)
          have u2 := en_le (l := l) t.2
          have u3 := hs sum rfl (en l n (thq l n q)) u2
          by_cases d : (sum (en l n (thq l n q))).1 = true ∧ fs l n (sum (en l n (thq l n q))).2.1 = nI 41
          · rw [if_pos d]
            have u4 := en_gt' u3.2.1 (by rw [d.2]; decide)
            have u5 := en_le (l := l) u3.2.1
            exact ⟨by show q ≤ en l n _; omega, u5, fun _ => by show q < en l n _; omega⟩
          · rw [if_neg d]; exact ⟨by show q ≤ (sum _).2.1; omega, u3.2.1, fun z => by cases z⟩
        · rw [if_neg c]; exact ⟨t.1, t.2, fun z => by cases z⟩
theorem power_pos {l : Ser} {n : Nat} {e : Ev} (he : Pos n e) : Pos n (powerE l n e) := fun q hq => by
  unfold powerE
  have u := he q hq
  by_cases a : (e q).1 = true
  · rw [if_pos a]
    have u1 := u.2.2 a
    by_cases b : fs l n (e q).2.1 = nI 94
    · rw [if_pos b]
      have u2 := en_gt' u.2.1 (by rw [b]; decide)
      have u3 := en_le (l := l) u.2.1
      by_cases c : isDg (fs l n (en l n (e q).2.1)) = true ∧ en l n (en l n (e q).2.1) - sk l n (en l n (e q).2.1) = 1
      · rw [if_pos c]
        have u4 := en_gt' u3 (isDg_ne c.1)
        have u5 := en_le (l := l) u3
        exact ⟨by show q ≤ en l n (en l n _); omega, u5, fun _ => by show q < en l n (en l n _); omega⟩
      · rw [if_neg c]; exact ⟨by show q ≤ en l n _; omega, u3, fun z => by cases z⟩
    · rw [if_neg b]; exact ⟨u.1, u.2.1, fun _ => u1⟩
  · rw [if_neg a]; exact ⟨u.1, u.2.1, fun z => by cases z⟩
theorem loop_pos {l : Ser} {n : Nat} {a b : Int32} {e : Ev} (ha : a ≠ -1) (hb : b ≠ -1) (he : Pos n e) : ∀ f q X, q ≤ n → q ≤ (loopE l n a b e f q X).2.1 ∧ (loopE l n a b e f q X).2.1 ≤ n
  | 0, q, X, hq => ⟨Nat.le_refl _, hq⟩
  | f + 1, q, X, hq => by
    unfold loopE
    by_cases c : fs l n q = a ∨ fs l n q = b
    · rw [if_pos c]
      have u1 := en_gt' hq (by rcases c with c | c <;> rw [c] <;> assumption)
      have u2 := en_le (l := l) hq
      have u3 := he (en l n q) u2
      by_cases d : (e (en l n q)).1 = true
      · rw [if_pos d]
        have := loop_pos (l := l) ha hb he f (e (en l n q)).2.1 (jo (fs l n q) X (e (en l n q)).2.2) u3.2.1
        omega
      · rw [if_neg d]; exact ⟨by show q ≤ (e _).2.1; omega, u3.2.1⟩
    · rw [if_neg c]; exact ⟨Nat.le_refl _, hq⟩
theorem list_pos {l : Ser} {n : Nat} {a b : Int32} {e : Ev} (ha : a ≠ -1) (hb : b ≠ -1) (he : Pos n e) : Pos n (listE l n a b e) := fun q hq => by
  unfold listE
  have u := he q hq
  by_cases d : (e q).1 = true
  · rw [if_pos d]
    have := loop_pos (l := l) ha hb he 120 (e q).2.1 (e q).2.2 u.2.1
    have := u.2.2 d
    exact ⟨by omega, by omega, fun _ => by omega⟩
  · rw [if_neg d]; exact ⟨u.1, u.2.1, fun z => by cases z⟩
theorem sumO_pos {l : Ser} {n : Nat} {sub : Option Ev} (hs : ∀ e, sub = some e → Pos n e) : Pos n (eSumO l n sub) := list_pos (by decide) (by decide) (list_pos (by decide) (by decide) (power_pos (thing_pos hs)))
theorem sum_pos {l : Ser} {n : Nat} : ∀ k, Pos n (eSum l n k)
  | 0 => sumO_pos (fun e h => by cases h)
  | k + 1 => sumO_pos (fun e h => by cases h; exact sum_pos k)
theorem sub_pos {l : Ser} {n : Nat} (k : Nat) : ∀ e, eSub l n k = some e → Pos n e := fun e h => by
  cases k with
  | zero => cases h
  | succ k => cases h; exact sum_pos k
/-! the run, with steps enough -/
theorem mrun_eq (l : Ser) (n f : Nat) (s : Int32) (q o : Nat) (w : Bool) (th : Ser) (fr : Nat → Fr) (ah : Int32) : mrun l n (f + 1) s (q, o, w, th, fr, ah) = if s = -1 then (-1, (q, o, w, th, fr, ah)) else if (s = nI 1 ∨ s = nI 2) ∧ o = 0 ∧ (fs l n q = nI 59 ∨ fs l n q = -1) then (s, (sk l n q, o, (mEQ o w th fr).1, th, (mEQ o w th fr).2, ah)) else mrun l n f (mSt l n (fs l n q) s (sk l n q, o, w, th, fr, ah)).1 (mSt l n (fs l n q) s (sk l n q, o, w, th, fr, ah)).2 := rfl
theorem mrun_dead (l : Ser) (n f : Nat) (ρ : Rho) : mrun l n f (-1) ρ = (-1, ρ) := by
  cases f with
  | zero => rfl
  | succ f =>
    obtain ⟨q, o, w, th, fr, ah⟩ := ρ
    rw [mrun_eq, if_pos rfl]
theorem mrun_fuel {l : Ser} {n : Nat} : ∀ f f' s (ρ : Rho), ρ.1 ≤ n → n + 2 ≤ f + ρ.1 → n + 2 ≤ f' + ρ.1 → mrun l n f s ρ = mrun l n f' s ρ
  | 0, f', s, ρ, h1, h2, h3 => by omega
  | f + 1, 0, s, ρ, h1, h2, h3 => by omega
  | f + 1, f' + 1, s, (q, o, w, th, fr, ah), h1, h2, h3 => by
    dsimp only at h1 h2 h3
    rw [mrun_eq, mrun_eq]
    by_cases a : s = -1
    · rw [if_pos a, if_pos a]
    · rw [if_neg a, if_neg a]
      by_cases b : (s = nI 1 ∨ s = nI 2) ∧ o = 0 ∧ (fs l n q = nI 59 ∨ fs l n q = -1)
      · rw [if_pos b, if_pos b]
      · rw [if_neg b, if_neg b]
        rcases mSt_adv (l := l) (n := n) (p := sk l n q) (o := o) (c := fs l n q) (s := s) (w := w) (th := th) (fr := fr) (ah := ah) with z | ⟨z1, z2⟩
        · rw [z, mrun_dead, mrun_dead]
        · have u1 := en_gt (sk_sk (l := l) h1) (fs_lt (sk_sk h1) (by rw [fs_sk h1]; exact z2))
          have u2 := sk_ge (l := l) h1
          have u3 := en_le (l := l) (sk_le (l := l) h1)
          exact mrun_fuel f f' _ _ (by rw [z1]; exact u3) (by rw [z1]; omega) (by rw [z1]; omega)
def RR (l : Ser) (n : Nat) (s : Int32) (ρ : Rho) : Int32 × Rho := mrun l n 122 s ρ
theorem RR_dead (l : Ser) (n : Nat) (ρ : Rho) : RR l n (-1) ρ = (-1, ρ) := mrun_dead l n 122 ρ
theorem RR_fin {l : Ser} {n q : Nat} {s : Int32} {w : Bool} {th : Ser} {fr : Nat → Fr} {ah : Int32} (hs : s = nI 1 ∨ s = nI 2) (hc : fs l n q = nI 59 ∨ fs l n q = -1) : RR l n s (q, 0, w, th, fr, ah) = (s, (sk l n q, 0, (mEQ 0 w th fr).1, th, (mEQ 0 w th fr).2, ah)) := by
  unfold RR
  rw [mrun_eq, if_neg (by rcases hs with h | h <;> rw [h] <;> decide), if_pos ⟨hs, rfl, hc⟩]
theorem RR_step {l : Ser} {n q o : Nat} {s : Int32} {w : Bool} {th : Ser} {fr : Nat → Fr} {ah : Int32} (hn : n ≤ 120) (hq : q ≤ n) (hs : s ≠ -1) (hf : ¬ ((s = nI 1 ∨ s = nI 2) ∧ o = 0 ∧ (fs l n q = nI 59 ∨ fs l n q = -1))) : RR l n s (q, o, w, th, fr, ah) = RR l n (mSt l n (fs l n q) s (sk l n q, o, w, th, fr, ah)).1 (mSt l n (fs l n q) s (sk l n q, o, w, th, fr, ah)).2 := by
  unfold RR
  rw [mrun_eq, if_neg hs, if_neg hf]
  rcases mSt_adv (l := l) (n := n) (p := sk l n q) (o := o) (c := fs l n q) (s := s) (w := w) (th := th) (fr := fr) (ah := ah) with z | ⟨z1, z2⟩
  · rw [z, mrun_dead, mrun_dead]
  · have u1 := en_gt (sk_sk (l := l) hq) (fs_lt (sk_sk hq) (by rw [fs_sk hq]; exact z2))
    have u3 := en_le (l := l) (sk_le (l := l) hq)
    exact mrun_fuel 121 122 _ _ (by rw [z1]; exact u3) (by rw [z1]; omega) (by rw [z1]; omega)
