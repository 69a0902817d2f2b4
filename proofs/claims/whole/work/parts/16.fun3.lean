/-! ===== rows ===== -/
def isRw (o : Nat) : Prop := ∃ r, r < 4 ∧ o = 34 + 17 * r
theorem cont_row {y : Nat → ClassId} {ad : Nat → Nat} {o : Nat} (h : isRw o) (M : Mem) : cont y ad M o = o_row ad o := by
  obtain ⟨r, hr, rfl⟩ := h
  match r, hr with
  | 0, _ => rfl
  | 1, _ => rfl
  | 2, _ => rfl
  | 3, _ => rfl
theorem cont_pols {y : Nat → ClassId} {ad : Nat → Nat} {o : Nat} (h : isRw o) (M : Mem) : cont y ad M (o + 5) = rarr (y 2) 9 (fun j => ad (o + 5 + 1 + j)) := by
  obtain ⟨r, hr, rfl⟩ := h
  match r, hr with
  | 0, _ => rfl
  | 1, _ => rfl
  | 2, _ => rfl
  | 3, _ => rfl
theorem ial_row {o : Nat} (h : isRw o) {i : Nat} (h1 : o < i) (h2 : i < o + 17) (h3 : i ≠ o + 5) : ial i = 9 := by
  obtain ⟨r, hr, rfl⟩ := h
  unfold ial
  rw [if_pos (by omega), if_neg (by omega), if_neg (by omega), if_neg (by omega), if_pos (by omega), if_neg (by omega), if_neg (by omega)]
theorem fpol_cg {a a' b b' c c' d d' : Nat → Int32} (ha : eq9 a a') (hb : eq9 b b') (hc : eq9 c c') (hd : eq9 d d') {n k : Nat} (hn : n < 9) (hk : k < 9) : fpol a b c d n k = fpol a' b' c' d' n k := by
  unfold fpol; rw [ha n hn, hb k hk, tpow_cg hc hd k n hn]
/-- place k of polynomial n of the row of two series -/
def fpolR (fa ex u f : Nat → Int32) (n k : Nat) : Int32 := fpol fa ex (fput (fover u) (fturn f)) (fturn f) n k
theorem fpolR_cg {a a' b b' u u' f f' : Nat → Int32} (ha : eq9 a a') (hb : eq9 b b') (hu : eq9 u u') (hf : eq9 f f') {n k : Nat} (hn : n < 9) (hk : k < 9) : fpolR a b u f n k = fpolR a' b' u' f' n k :=
  fpol_cg ha hb (fput_cg (fover_cg hu) (fturn_cg hf)) (fturn_cg hf) hn hk
/-- what follows from g and f of the row at o is reckoned -/
def rowOk (o : Nat) (M : Mem) : Prop := eq9 (M (o + 3)) (fover (M (o + 1))) ∧ eq9 (M (o + 4)) (fturn (M (o + 2))) ∧ ∀ n k, n < 9 → k < 9 → M (o + 6 + n) k = fpolR (M 5) (M 2) (M (o + 1)) (M (o + 2)) n k
/-- a polynomial told: what is left when the j highest are taken away -/
def trest (P : Nat → Nat → Int32) (p : Nat → Int32) : Nat → Nat → Int32
  | 0 => p
  | j + 1 => fax (trest P p j) (P (8 - j)) (fsub (nI 0) (fmul (trest P p j (8 - j)) (finv (P (8 - j) (8 - j)))))
def ftell (P : Nat → Nat → Int32) (p : Nat → Int32) : Nat → Int32 := fun n => fmul (trest P p (8 - n) n) (finv (P n n))
def gsum (P : Nat → Nat → Int32) (s : Nat → Int32) : Nat → Nat → Int32
  | 0 => mono 0 (nI 0)
  | n + 1 => fax (gsum P s n) (P n) (s n)
theorem fax_cg {p p' a a' : Nat → Int32} {c : Int32} (hp : eq9 p p') (ha : eq9 a a') : eq9 (fax p a c) (fax p' a' c) := fun k hk => by unfold fax; rw [hp k hk, ha k hk]
theorem trest_cg {P P' : Nat → Nat → Int32} {p p' : Nat → Int32} (hP : ∀ n, n < 9 → eq9 (P n) (P' n)) (hp : eq9 p p') : ∀ j, eq9 (trest P p j) (trest P' p' j)
  | 0 => hp
  | j + 1 => by
    simp only [trest]
    rw [trest_cg hP hp j (8 - j) (by omega), hP (8 - j) (by omega) (8 - j) (by omega)]
    exact fax_cg (trest_cg hP hp j) (hP (8 - j) (by omega))
theorem ftell_cg {P P' : Nat → Nat → Int32} {p p' : Nat → Int32} (hP : ∀ n, n < 9 → eq9 (P n) (P' n)) (hp : eq9 p p') : eq9 (ftell P p) (ftell P' p') := fun n hn => by
  unfold ftell; rw [trest_cg hP hp (8 - n) n hn, hP n hn n hn]
theorem gsum_cg {P P' : Nat → Nat → Int32} {s s' : Nat → Int32} (hP : ∀ n, n < 9 → eq9 (P n) (P' n)) (hs : eq9 s s') : ∀ n, n ≤ 9 → eq9 (gsum P s n) (gsum P' s' n)
  | 0, _ => eq9.rf
  | n + 1, h => by
    simp only [gsum]
    rw [hs n (by omega)]
    exact fax_cg (gsum_cg hP hs n (by omega)) (hP n (by omega))
def fsec (f : Nat → Int32) : Nat → Int32
  | 0 => -1
  | n + 1 => if f (8 - n) = 0 then fsec f n else nI (8 - n)
def fdeg (p : Nat → Int32) : Nat → Int32
  | 0 => -1
  | n + 1 => if p n = 0 then fdeg p n else nI n
def fsz (p : Nat → Int32) : Nat → Nat
  | 0 => 0
  | n + 1 => if p n = 0 then fsz p n else fsz p n + 1
theorem fsz_le (p : Nat → Int32) : ∀ n, fsz p n ≤ n
  | 0 => Nat.le_refl _
  | n + 1 => by
    have := fsz_le p n
    unfold fsz; split <;> omega
