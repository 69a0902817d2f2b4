def mfal (j : Nat) : Nat → Int32
  | 0 => nI 1
  | k + 1 => fmul (mfal j k) (nI (j + (k + 1)))
/-- what is left of place j when c of the higher ones are taken away -/
def msl (f due q : Ser) (j : Nat) : Nat → Int32
  | 0 => due j
  | c + 1 => fsub (msl f due q j c) (fmul (f (c + 2)) (fmul (mfal j (c + 2)) (q (j + (c + 2)))))
/-- the polynomial's places from 8 down, t of them -/
def msv (f due : Ser) : Nat → Ser
  | 0 => fun _ => nI 0
  | t + 1 => fun u => if u = 8 - t then fmul (msl f due (msv f due t) (7 - t) t) (finv (fmul (f 1) (nI (7 - t + 1)))) else msv f due t u
def msolve (f due : Ser) : Ser := msv f due 8
theorem msl_cg {f f' due due' q q' : Ser} {j : Nat} (hf : eq9 f f') (hd : due j = due' j) (hq : ∀ u, j + 2 ≤ u → u < 9 → q u = q' u) : ∀ c, j + c + 1 < 9 → msl f due q j c = msl f' due' q' j c
  | 0, _ => hd
  | c + 1, h => by simp only [msl]; rw [msl_cg hf hd hq c (by omega), hf (c + 2) (by omega), hq (j + (c + 2)) (by omega) (by omega)]
theorem msv_cg {f f' due due' : Ser} (hf : eq9 f f') (hd : eq9 due due') : ∀ t, t ≤ 8 → msv f due t = msv f' due' t
  | 0, _ => rfl
  | t + 1, h => by
    funext u
    simp only [msv]
    rw [msv_cg hf hd t (by omega), hf 1 (by omega), msl_cg hf (hd (7 - t) (by omega)) (fun _ _ _ => rfl) t (by omega)]
def mat0 (G q : Ser) (n : Nat) : Nat → Int32
  | 0 => if n = 0 then nI 1 else nI 0
  | c + 1 => fsub (mat0 G q n c) (fmul (G (c + 1)) (fmul (mfal 0 (c + 1)) (q (c + 1))))
theorem mat0_cg {G G' q q' : Ser} {n : Nat} (hG : eq9 G G') (hq : ∀ u, 1 ≤ u → u < 9 → q u = q' u) : ∀ c, c ≤ 8 → mat0 G q n c = mat0 G' q' n c
  | 0, _ => rfl
  | c + 1, h => by simp only [mat0]; rw [mat0_cg hG hq c (by omega), hG (c + 1) (by omega), hq (c + 1) (by omega) (by omega)]
/-- polynomial n of a row, out of the one ahead of it -/
def mpol (G F : Ser) : Nat → Ser
  | 0 => fun k => if k = 0 then fmul (mat0 G (msolve F (fun _ => nI 0)) 0 8) (finv (G 0)) else msolve F (fun _ => nI 0) k
  | n + 1 => fun k => if k = 0 then fmul (mat0 G (msolve F (fun k => fmul (nI (n + 1)) (mpol G F n k))) (n + 1) 8) (finv (G 0)) else msolve F (fun k => fmul (nI (n + 1)) (mpol G F n k)) k
def mdue (G F : Ser) (n : Nat) : Ser := fun k => if n = 0 then nI 0 else fmul (nI n) (mpol G F (n - 1) k)
theorem mpol_eq (G F : Ser) (n : Nat) : mpol G F n = fun k => if k = 0 then fmul (mat0 G (msolve F (mdue G F n)) n 8) (finv (G 0)) else msolve F (mdue G F n) k := by
  cases n with
  | zero => rfl
  | succ n => rfl
theorem mpol_cg {G G' F F' : Ser} (hG : eq9 G G') (hF : eq9 F F') : ∀ n, eq9 (mpol G F n) (mpol G' F' n) := by
  intro n
  induction n with
  | zero =>
    intro k hk
    simp only [mpol, msolve]
    rw [msv_cg hF eq9.rf 8 (Nat.le_refl _), mat0_cg hG (fun _ _ _ => rfl) 8 (Nat.le_refl _), hG 0 (by omega)]
  | succ n ih =>
    intro k hk
    have e : eq9 (fun k => fmul (nI (n + 1)) (mpol G F n k)) (fun k => fmul (nI (n + 1)) (mpol G' F' n k)) := fun k hk => by dsimp only; rw [ih k hk]
    simp only [mpol, msolve]
    rw [msv_cg hF e 8 (Nat.le_refl _), mat0_cg hG (fun _ _ _ => rfl) 8 (Nat.le_refl _), hG 0 (by omega)]
def mrest (P : Nat → Ser) (p : Ser) : Nat → Ser
  | 0 => p
  | t + 1 => fun k => if k ≤ 8 - t then fsub (mrest P p t k) (fmul (fmul (mrest P p t (8 - t)) (finv (P (8 - t) (8 - t)))) (P (8 - t) k)) else mrest P p t k
def mtell (P : Nat → Ser) (p : Ser) : Ser := fun n => fmul (mrest P p (8 - n) n) (finv (P n n))
theorem mrest_cg {P P' : Nat → Ser} {p p' : Ser} (hP : ∀ n, n < 9 → eq9 (P n) (P' n)) (hp : eq9 p p') : ∀ t, eq9 (mrest P p t) (mrest P' p' t)
  | 0 => hp
  | t + 1 => fun k hk => by
    simp only [mrest]
    rw [mrest_cg hP hp t k hk, mrest_cg hP hp t (8 - t) (by omega), hP (8 - t) (by omega) (8 - t) (by omega), hP (8 - t) (by omega) k hk]
theorem mtell_cg {P P' : Nat → Ser} {p p' : Ser} (hP : ∀ n, n < 9 → eq9 (P n) (P' n)) (hp : eq9 p p') : eq9 (mtell P p) (mtell P' p') := fun n hn => by
  unfold mtell; rw [mrest_cg hP hp (8 - n) n hn, hP n hn n hn]
def mjn (P : Nat → Ser) (s : Ser) (k : Nat) : Nat → Int32
  | 0 => nI 0
  | n + 1 => fadd (mjn P s k n) (fmul (s n) (P n k))
def mjoin (P : Nat → Ser) (s : Ser) : Ser := fun k => mjn P s k 9
theorem mjn_cg {P P' : Nat → Ser} {s s' : Ser} {k : Nat} (hk : k < 9) (hP : ∀ n, n < 9 → eq9 (P n) (P' n)) (hs : eq9 s s') : ∀ n, n ≤ 9 → mjn P s k n = mjn P' s' k n
  | 0, _ => rfl
  | n + 1, h => by simp only [mjn]; rw [mjn_cg hk hP hs n (by omega), hs n (by omega), hP n (by omega) k hk]
theorem mjoin_cg {P P' : Nat → Ser} {s s' : Ser} (hP : ∀ n, n < 9 → eq9 (P n) (P' n)) (hs : eq9 s s') : eq9 (mjoin P s) (mjoin P' s') := fun k hk => mjn_cg hk hP hs 9 (Nat.le_refl _)
