theorem aset_lo {M : Mem} {i lo hi a b : Nat} {f : Nat → Int32} (h : b < lo) : aset M i lo hi f a b = M a b := by
  unfold aset; rw [if_neg (by omega)]
theorem aset_hi {M : Mem} {i lo hi a b : Nat} {f : Nat → Int32} (h : hi ≤ b) : aset M i lo hi f a b = M a b := by
  unfold aset; rw [if_neg (by omega)]
/-- alike in the first nine places -/
def eq9 (f h : Nat → Int32) : Prop := ∀ k, k < 9 → f k = h k
theorem eq9.rf {f : Nat → Int32} : eq9 f f := fun _ _ => rfl
theorem eq9.tr {f h j : Nat → Int32} (a : eq9 f h) (b : eq9 h j) : eq9 f j := fun k hk => (a k hk).trans (b k hk)
theorem eq9.sy {f h : Nat → Int32} (a : eq9 f h) : eq9 h f := fun k hk => (a k hk).symm
theorem aset_9 {M : Mem} {i : Nat} {f : Nat → Int32} : eq9 (aset M i 0 9 f i) f := fun _ hk => aset_in (Nat.zero_le _) hk
theorem aset_cg9 {M : Mem} {i : Nat} {f h : Nat → Int32} (e : eq9 f h) : aset M i 0 9 f = aset M i 0 9 h := aset_congr (fun b _ hb => e b hb)
theorem cvl_cg {a a' b b' : Nat → Int32} {n : Nat} (ha : ∀ k, k ≤ n → a k = a' k) (hb : ∀ k, k ≤ n → b k = b' k) : ∀ j, j ≤ n + 1 → cvl a b n j = cvl a' b' n j
  | 0, _ => rfl
  | j + 1, h => by simp only [cvl]; rw [cvl_cg ha hb j (by omega), ha j (by omega), hb (n - j) (by omega)]
theorem fprod_cg {a a' b b' : Nat → Int32} (ha : eq9 a a') (hb : eq9 b b') : eq9 (fprod a b) (fprod a' b') := fun n hn => cvl_cg (fun k hk => ha k (by omega)) (fun k hk => hb k (by omega)) (n + 1) (Nat.le_refl _)
/-- a quotient: place n out of those before it -/
def dl (r h m : Nat → Int32) (n : Nat) : Nat → Int32
  | 0 => h n
  | j + 1 => fsub (dl r h m n j) (fmul (m (j + 1)) (r (n - (j + 1))))
def dvs (h m : Nat → Int32) (c : Int32) : Nat → Nat → Int32
  | 0 => fun _ => nI 0
  | n + 1 => fun k => if k = n then fmul (dl (dvs h m c n) h m n n) c else dvs h m c n k
def fdiv (h m : Nat → Int32) : Nat → Int32 := fun k => dvs h m (finv (m 0)) (k + 1) k
theorem dvs_st (h m : Nat → Int32) (c : Int32) (k : Nat) : ∀ n, k < n → dvs h m c n k = dvs h m c (k + 1) k
  | 0, hk => by omega
  | n + 1, hk => by
    by_cases e : k = n
    · subst e; rfl
    · show (if k = n then _ else dvs h m c n k) = _
      rw [if_neg e]; exact dvs_st h m c k n (by omega)
theorem dl_cg {r r' h h' m m' : Nat → Int32} {n : Nat} (hr : ∀ k, k < n → r k = r' k) (hh : h n = h' n) (hm : ∀ k, k ≤ n → m k = m' k) : ∀ j, j ≤ n → dl r h m n j = dl r' h' m' n j
  | 0, _ => hh
  | j + 1, hj => by simp only [dl]; rw [dl_cg hr hh hm j (by omega), hm (j + 1) hj, hr (n - (j + 1)) (by omega)]
theorem fdiv_eq (h m : Nat → Int32) (n : Nat) : fdiv h m n = fmul (dl (fdiv h m) h m n n) (finv (m 0)) := by
  show (if n = n then fmul (dl (dvs h m (finv (m 0)) n) h m n n) (finv (m 0)) else _) = _
  rw [if_pos rfl, dl_cg (r' := fdiv h m) (fun k hk => dvs_st h m _ k n hk) rfl (fun _ _ => rfl) n (Nat.le_refl _)]
theorem fdiv_cgn {h h' m m' : Nat → Int32} (hh : eq9 h h') (hm : eq9 m m') : ∀ N n, n < N → n < 9 → fdiv h m n = fdiv h' m' n
  | 0, n, h1, _ => by omega
  | N + 1, n, h1, h2 => by
    rw [fdiv_eq, fdiv_eq h' m', hm 0 (by omega), dl_cg (fun k hk => fdiv_cgn hh hm N k (by omega) (by omega)) (hh n h2) (fun k hk => hm k (by omega)) n (Nat.le_refl _)]
theorem fdiv_cg {h h' m m' : Nat → Int32} (hh : eq9 h h') (hm : eq9 m m') : eq9 (fdiv h m) (fdiv h' m') := fun n hn => fdiv_cgn hh hm (n + 1) n (by omega) hn
/-- 1 by a series -/
def fover (m : Nat → Int32) : Nat → Int32 := fdiv (mono 0 (nI 1)) m
theorem fover_cg {m m' : Nat → Int32} (hm : eq9 m m') : eq9 (fover m) (fover m') := fdiv_cg eq9.rf hm
def fad0 (f : Nat → Int32) (x : Int32) : Nat → Int32 := fun k => if k = 0 then fadd (f 0) x else f k
theorem fad0_cg {f f' : Nat → Int32} (x : Int32) (h : eq9 f f') : eq9 (fad0 f x) (fad0 f' x) := fun k hk => by
  unfold fad0; by_cases e : k = 0
  · rw [if_pos e, if_pos e, h 0 (by omega)]
  · rw [if_neg e, if_neg e, h k hk]
/-- one series in another, Horner's way -/
def pin (h m : Nat → Int32) : Nat → Nat → Int32
  | 0 => mono 0 (h 8)
  | j + 1 => fad0 (fprod (pin h m j) m) (h (7 - j))
def fput (h m : Nat → Int32) : Nat → Int32 := pin h m 8
theorem pin_cg {h h' m m' : Nat → Int32} (hh : eq9 h h') (hm : eq9 m m') : ∀ j, eq9 (pin h m j) (pin h' m' j)
  | 0 => by show eq9 (mono 0 (h 8)) (mono 0 (h' 8)); rw [hh 8 (by omega)]; exact eq9.rf
  | j + 1 => by
    show eq9 (fad0 (fprod (pin h m j) m) (h (7 - j))) (fad0 (fprod (pin h' m' j) m') (h' (7 - j)))
    rw [hh (7 - j) (by omega)]
    exact fad0_cg _ (fprod_cg (pin_cg hh hm j) hm)
theorem fput_cg {h h' m m' : Nat → Int32} (hh : eq9 h h') (hm : eq9 m m') : eq9 (fput h m) (fput h' m') := pin_cg hh hm 8
def flow (f : Nat → Int32) : Nat → Int32 := fun k => if k = 8 then nI 0 else f (k + 1)
theorem flow_cg {f f' : Nat → Int32} (h : eq9 f f') : eq9 (flow f) (flow f') := fun k hk => by
  unfold flow; by_cases e : k = 8
  · rw [if_pos e, if_pos e]
  · rw [if_neg e, if_neg e, h (k + 1) (by omega)]
def fpow (a : Nat → Int32) : Nat → Nat → Int32
  | 0 => mono 0 (nI 1)
  | n + 1 => fprod (fpow a n) a
theorem fpow_cg {a a' : Nat → Int32} (h : eq9 a a') : ∀ n, eq9 (fpow a n) (fpow a' n)
  | 0 => eq9.rf
  | n + 1 => fprod_cg (fpow_cg h n) h
/-- a series turned inside out -/
def fturn (f : Nat → Int32) : Nat → Int32 := fun n => if n = 0 then nI 0 else fmul (fpow (fover (flow f)) n (n - 1)) (finv (nI n))
theorem fturn_cg {f f' : Nat → Int32} (h : eq9 f f') : eq9 (fturn f) (fturn f') := fun n hn => by
  unfold fturn; by_cases e : n = 0
  · rw [if_pos e, if_pos e]
  · rw [if_neg e, if_neg e, fpow_cg (fover_cg (flow_cg h)) n (n - 1) (by omega)]
def fpows (a : Int32) : Nat → Int32
  | 0 => nI 1
  | k + 1 => fmul (fpows a k) a
/-- e(a t), by the numbers ex of e(t) -/
def fexp (ex : Nat → Int32) (a : Int32) : Nat → Int32 := fun k => fmul (fpows a k) (ex k)
/-- place k of p taken by h: the first j parts -/
def tkl (fa p h : Nat → Int32) (k : Nat) : Nat → Int32
  | 0 => nI 0
  | j + 1 => fadd (tkl fa p h k j) (fmul (fmul (p (k + j)) (fa (k + j))) (h j))
def ftake (fa ex p h : Nat → Int32) : Nat → Int32 := fun k => fmul (tkl fa p h k (9 - k)) (ex k)
theorem tkl_cg {fa fa' p p' h h' : Nat → Int32} {k : Nat} (hf : eq9 fa fa') (hp : eq9 p p') (hh : eq9 h h') : ∀ j, k + j ≤ 9 → tkl fa p h k j = tkl fa' p' h' k j
  | 0, _ => rfl
  | j + 1, hj => by simp only [tkl]; rw [tkl_cg hf hp hh j (by omega), hf (k + j) (by omega), hp (k + j) (by omega), hh j (by omega)]
theorem ftake_cg {fa fa' ex ex' p p' h h' : Nat → Int32} (hf : eq9 fa fa') (he : eq9 ex ex') (hp : eq9 p p') (hh : eq9 h h') : eq9 (ftake fa ex p h) (ftake fa' ex' p' h') := fun k hk => by
  unfold ftake; rw [tkl_cg hf hp hh (9 - k) (by omega), he k hk]
/-- what is integrated: each place by its number -/
def fint (p : Nat → Int32) : Nat → Int32 := fun k => if k = 0 then p 0 else fmul (p k) (finv (nI k))
theorem fup_cg {a a' : Nat → Int32} (h : eq9 a a') : eq9 (fup a) (fup a') := fun k hk => by
  unfold fup; by_cases e : k = 0
  · rw [if_pos e, if_pos e]
  · rw [if_neg e, if_neg e, h (k - 1) (by omega)]
theorem fint_cg {a a' : Nat → Int32} (h : eq9 a a') : eq9 (fint a) (fint a') := fun k hk => by
  unfold fint; by_cases e : k = 0
  · rw [if_pos e, if_pos e, h 0 (by omega)]
  · rw [if_neg e, if_neg e, h k hk]
def funtake (fa ex p f : Nat → Int32) : Nat → Int32 := fint (fup (ftake fa ex p (fover (flow f))))
theorem funtake_cg {fa fa' ex ex' p p' f f' : Nat → Int32} (hf : eq9 fa fa') (he : eq9 ex ex') (hp : eq9 p p') (hh : eq9 f f') : eq9 (funtake fa ex p f) (funtake fa' ex' p' f') := fint_cg (fup_cg (ftake_cg hf he hp (fover_cg (flow_cg hh))))
/-- place k of polynomial n -/
def fpol (fa ex first turned : Nat → Int32) (n k : Nat) : Int32 := fmul (fmul (fa n) (ex k)) (tpow first turned k n)
where tpow (first turned : Nat → Int32) : Nat → Nat → Int32
  | 0 => first
  | k + 1 => fprod (tpow first turned k) turned
theorem tpow_cg {a a' b b' : Nat → Int32} (h : eq9 a a') (h2 : eq9 b b') : ∀ n, eq9 (fpol.tpow a b n) (fpol.tpow a' b' n)
  | 0 => h
  | n + 1 => fprod_cg (tpow_cg h h2 n) h2
/-- M1 is M but for the cells that P names -/
def keep (P : Nat → Prop) (M M1 : Mem) : Prop := ∀ i, ¬ P i → M1 i = M i
theorem keep.rf {P : Nat → Prop} {M : Mem} : keep P M M := fun _ _ => rfl
theorem keep.tr {P : Nat → Prop} {M M1 M2 : Mem} (a : keep P M M1) (b : keep P M1 M2) : keep P M M2 := fun i hi => (b i hi).trans (a i hi)
theorem keep.wk {P P' : Nat → Prop} {M M1 : Mem} (a : keep P M M1) (h : ∀ i, P i → P' i) : keep P' M M1 := fun i hi => a i (fun q => hi (h i q))
theorem keep.as {P : Nat → Prop} {M M1 : Mem} {i lo hi : Nat} {f : Nat → Int32} (a : keep P M M1) (h : P i) : keep P M (aset M1 i lo hi f) := fun j hj => by
  have hne : j ≠ i := fun e => hj (by rw [e]; exact h)
  rw [aset_ne hne]; exact a j hj
theorem keep.ms {P : Nat → Prop} {M M1 : Mem} {i j : Nat} {x : Int32} (a : keep P M M1) (h : P i) : keep P M (mset M1 i j x) := fun k hk => by
  have hne : k ≠ i := fun e => hk (by rw [e]; exact h)
  rw [mset_ne hne]; exact a k hk
