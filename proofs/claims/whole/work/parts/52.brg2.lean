/-! ===== the fixed numbers ===== -/
def exF : Fs := fun k => iF (fac k)
def quF : Fs := fun k => iF (fac k * nF (k + 1))
def loF : Fs := fun k => if k % 2 = 1 then iF (nF k) else 0 - iF (nF k)
theorem faC_i : ∀ k, k < 9 → faC k = iT (fac k) := by decide +kernel
theorem exC_i : ∀ k, k < 9 → exC k = iT (exF k) := by decide +kernel
theorem quC_i : ∀ k, k < 9 → quC k = iT (quF k) := by decide +kernel
theorem loC_i : ∀ k, k < 9 → loC k = iT (loF k) := by decide +kernel
theorem mbyE : ∀ k, k < 9 → mby (nI 101) k = iT (exF k) := by decide +kernel
theorem mbyQ : ∀ k, k < 9 → mby (nI 113) k = iT (quF k) := by decide +kernel
theorem mbyL : ∀ k, k < 9 → mby (nI 108) k = iT (loF k) := by decide +kernel
theorem msum_i {s : Int32} {c : Fs} (hc : ∀ k, k < 9 → mby s k = iT (c k)) (a : Fs) : ∀ k, k ≤ 9 → msum s (iS a) k = iS (fun x => sm (fun i => c i * pw a i x) k)
  | 0, _ => rfl
  | k + 1, hk => funext (fun x => by
    show fadd (msum s (iS a) k x) (fmul (mby s k) (fpow (iS a) k x)) = _
    rw [msum_i hc a k (by omega), hc k (by omega), fpow_i]
    show fadd (iT _) (fmul _ (iT _)) = _
    rw [b_mul, b_add]; rfl)
theorem mmake_i {s : Int32} {c : Fs} (hc : ∀ k, k < 9 → mby s k = iT (c k)) (a : Fs) : mmake s (iS a) = iS (cm c a) := msum_i hc a 9 (Nat.le_refl _)
theorem fpows_i (a : Fp) : ∀ k, fpows (iT a) k = iT (a ^ k)
  | 0 => by show nI 1 = _; rw [b_1]; congr 1
  | k + 1 => by show fmul (fpows (iT a) k) (iT a) = _; rw [fpows_i a k, b_mul]; congr 1
def exA (a : Fp) : Fs := fun k => a ^ k * exF k
theorem fexp_i (a : Fp) : eq9 (fexp exC (iT a)) (iS (exA a)) := fun k hk => by
  show fmul (fpows (iT a) k) (exC k) = _
  rw [fpows_i, exC_i k hk, b_mul]; rfl
theorem mexp_i (a : Fp) : eq9 (mmake (nI 101) (mono 1 (iT a))) (iS (exA a)) := fun k hk => by
  rw [mono_i, mmake_i mbyE]
  show iT (cm exF (smn 1 a) k) = iT (a ^ k * exF k)
  rw [cm_mn hk]; congr 1; grind
def stF (f : Fs) (c : Fp) : Fs := fun k => f k * iF c ^ k
theorem fstr_i (f : Fs) (c : Fp) : fstr (iS f) (iT c) = iS (stF f c) := funext (fun k => by
  show fmul (iT (f k)) (fpows (finv (iT c)) k) = _
  rw [b_inv, fpows_i, b_mul]; rfl)
theorem fputs_i (f : Fs) (c : Fp) : eq9 (fput (iS f) (mono 1 (finv (iT c)))) (iS (stF f c)) := fun k hk => by
  rw [b_inv, mono_i, fput_i]
  show iT (cm f (smn 1 (iF c)) k) = _
  rw [cm_mn hk]; rfl
/-! ===== what a series does to a polynomial ===== -/
theorem mfal_i (j : Nat) : ∀ k, j + k < 9973 → mfal j k = iT (fal j k)
  | 0, _ => rfl
  | k + 1, h => by
    show fmul (mfal j k) (nI (j + (k + 1))) = _
    rw [mfal_i j k (by omega), b_n h, b_mul]; rfl
theorem mac_i (h p : Fs) {j : Nat} : ∀ k, j + k ≤ 9 → mac (iS h) (iS p) j k = iT (sm (fun i => h i * (fal j i * p (j + i))) k)
  | 0, _ => rfl
  | k + 1, hk => by
    show fadd (mac (iS h) (iS p) j k) (fmul (iT (h k)) (fmul (mfal j k) (iT (p (j + k))))) = _
    rw [mac_i h p k (by omega), mfal_i j k (by omega), b_mul, b_mul, b_add]; rfl
theorem mact_i (h p : Fs) : eq9 (mact (iS h) (iS p)) (iS (tk h p)) := fun j hj => mac_i h p (9 - j) (by omega)
theorem tkl_i (p h : Fs) {k : Nat} : ∀ j, k + j ≤ 9 → tkl faC (iS p) (iS h) k j = iT (sm (fun i => p (k + i) * fac (k + i) * h i) j)
  | 0, _ => rfl
  | j + 1, hj => by
    show fadd (tkl faC (iS p) (iS h) k j) (fmul (fmul (iT (p (k + j))) (faC (k + j))) (iT (h j))) = _
    rw [tkl_i p h j (by omega), faC_i (k + j) (by omega), b_mul, b_mul, b_add]; rfl
theorem ftake_i (p h : Fs) : eq9 (ftake faC exC (iS p) (iS h)) (iS (tk h p)) := fun k hk => by
  show fmul (tkl faC (iS p) (iS h) k (9 - k)) (exC k) = iT (sm (fun j => h j * (fal k j * p (k + j))) (9 - k))
  rw [tkl_i p h (9 - k) (by omega), exC_i k hk, b_mul]
  congr 1
  rw [← sm_mulr]
  refine sm_cg _ (fun i hi => ?_)
  show p (k + i) * fac (k + i) * h i * iF (fac k) = _
  have a1 := fac_fal k i
  have a2 := iF_ok (fac_ne k (by omega))
  grind
theorem msl_i (f d q : Fs) {j : Nat} : ∀ c, j + c ≤ 9 → msl (iS f) (iS d) (iS q) j c = iT (slF f d q j c)
  | 0, _ => rfl
  | c + 1, hc => by
    show fsub (msl (iS f) (iS d) (iS q) j c) (fmul (iT (f (c + 2))) (fmul (mfal j (c + 2)) (iT (q (j + (c + 2)))))) = _
    rw [msl_i f d q c (by omega), mfal_i j (c + 2) (by omega), b_mul, b_mul, b_sub]; rfl
theorem msv_i (f d : Fs) : ∀ t, t ≤ 8 → msv (iS f) (iS d) t = iS (svF f d t)
  | 0, _ => rfl
  | t + 1, ht => funext (fun u => by
    show (if u = 8 - t then fmul (msl (iS f) (iS d) (msv (iS f) (iS d) t) (7 - t) t) (finv (fmul (iT (f 1)) (nI (7 - t + 1)))) else msv (iS f) (iS d) t u) = iT (if u = 8 - t then slF f d (svF f d t) (7 - t) t * iF (f 1 * nF (7 - t + 1)) else svF f d t u)
    rw [msv_i f d t (by omega), msl_i f d _ t (by omega), b_n (show 7 - t + 1 < 9973 by omega), b_mul, b_inv, b_mul]
    by_cases e : u = 8 - t
    · rw [if_pos e, if_pos e]
    · rw [if_neg e, if_neg e]; rfl)
theorem msolve_i {f d q : Fs} (h1 : f 1 ≠ 0) (h : sol f d q) {u : Nat} (hu : 1 ≤ u) (hu8 : u < 9) : msolve (iS f) (iS d) u = iT (q u) := by
  unfold msolve
  rw [msv_i f d 8 (Nat.le_refl _)]
  exact congrArg iT (svF_eq h1 h 8 (Nat.le_refl _) u (by omega) (by omega))
theorem mat0_i (g q : Fs) (n : Nat) : ∀ c, c ≤ 8 → mat0 (iS g) (iS q) n c = iT ((if n = 0 then 1 else 0) - sm (fun i => g (i + 1) * (fac (i + 1) * q (i + 1))) c)
  | 0, _ => by
    show (if n = 0 then nI 1 else nI 0) = _
    by_cases e : n = 0
    · rw [if_pos e, if_pos e]; show iT 1 = _; congr 1
    · rw [if_neg e, if_neg e]; show iT 0 = _; congr 1
  | c + 1, hc => by
    show fsub (mat0 (iS g) (iS q) n c) (fmul (iT (g (c + 1))) (fmul (mfal 0 (c + 1)) (iT (q (c + 1))))) = _
    rw [mat0_i g q n c (by omega), mfal_i 0 (c + 1) (by omega), fal_0, b_mul, b_mul, b_sub]
    congr 1; simp only [sm]; grind
/-- what makes the polynomials of the row of g and f -/
def rowU (g f : Fs) : Fs := cm (sDv sone g) (sTu f)
def rowP (g f : Fs) (n : Nat) : Fs := plF (rowU g f) (sTu f) n
theorem rowU_ok {g f : Fs} (hg : g 0 ≠ 0) : e9 (cv (rowU g f) (cm g (sTu f))) sone := by
  have := (cm_mul (a := sDv sone g) (c := g) (sTu_0 f)).sy
  rw [sDv_ok hg, cm_one] at this
  exact this
theorem mpol_i {g f : Fs} (hg : g 0 ≠ 0) (h0 : f 0 = 0) (h1 : f 1 ≠ 0) : ∀ n, n < 9 → eq9 (mpol (iS g) (iS f) n) (iS (rowP g f n)) := by
  intro n
  have i1 := iF_ok hg
  have main : ∀ n, n < 9 → eq9 (mdue (iS g) (iS f) n) (iS (fun j => if n = 0 then 0 else nF n * rowP g f (n - 1) j)) → eq9 (mpol (iS g) (iS f) n) (iS (rowP g f n)) := by
    intro n hn hd k hk
    rw [mpol_eq]
    have hs := plF_sol (U := rowU g f) h0 (sTu_0 f) (sTu_ok h0 h1) hn
    have hq : ∀ u, 1 ≤ u → u < 9 → msolve (iS f) (mdue (iS g) (iS f) n) u = iS (rowP g f n) u := fun u a b => by
      have : msolve (iS f) (mdue (iS g) (iS f) n) = msolve (iS f) (iS (fun j => if n = 0 then 0 else nF n * rowP g f (n - 1) j)) := by
        unfold msolve; rw [msv_cg eq9.rf hd 8 (Nat.le_refl _)]
      rw [this]; exact msolve_i h1 hs a b
    show (if k = 0 then fmul (mat0 (iS g) (msolve (iS f) (mdue (iS g) (iS f) n)) n 8) (finv (iT (g 0))) else msolve (iS f) (mdue (iS g) (iS f) n) k) = iT (rowP g f n k)
    by_cases e : k = 0
    · subst e
      rw [if_pos rfl, mat0_cg eq9.rf hq 8 (Nat.le_refl _), mat0_i g _ n 8 (Nat.le_refl _), b_inv, b_mul]
      congr 1
      have z := plF_0 (H := sTu f) (rowU_ok (f := f) hg) hn
      have z2 : sm (fun c => g c * (fac c * rowP g f n c)) (8 + 1) = if n = 0 then 1 else 0 := z
      rw [sm_hd] at z2
      have f0 : fac 0 = 1 := rfl
      rw [f0] at z2
      generalize (if n = 0 then (1 : Fp) else 0) = δ at z2 ⊢
      generalize sm (fun i => g (i + 1) * (fac (i + 1) * rowP g f n (i + 1))) 8 = y at z2 ⊢
      grind
    · rw [if_neg e]; exact hq k (by omega) hk
  induction n with
  | zero =>
    intro hn
    exact main 0 hn (fun k _ => by show (if 0 = 0 then nI 0 else _) = iT (if 0 = 0 then 0 else _); rw [if_pos rfl, if_pos rfl]; rfl)
  | succ n ih =>
    intro hn
    refine main (n + 1) hn (fun k hk => ?_)
    show (if n + 1 = 0 then nI 0 else fmul (nI (n + 1)) (mpol (iS g) (iS f) (n + 1 - 1) k)) = iT (if n + 1 = 0 then 0 else nF (n + 1) * rowP g f (n + 1 - 1) k)
    rw [if_neg (by omega), if_neg (by omega), show n + 1 - 1 = n by omega, ih (by omega) k hk, b_n (show n + 1 < 9973 by omega)]
    show fmul _ (iT _) = _
    rw [b_mul]
theorem tpow_i (U H : Fs) : ∀ k, fpol.tpow (iS U) (iS H) k = iS (cv U (pw H k))
  | 0 => by show iS U = iS (cv U sone); rw [cv_oner]
  | k + 1 => by show fprod (fpol.tpow (iS U) (iS H) k) (iS H) = iS (cv U (cv (pw H k) H)); rw [tpow_i U H k, fprod_i, cv_assoc]
theorem fpolR_i {g f : Fs} (h0 : f 0 = 0) (h1 : f 1 ≠ 0) {n k : Nat} (hn : n < 9) (hk : k < 9) : fpolR faC exC (iS g) (iS f) n k = iT (rowP g f n k) := by
  have ht := fturn_i h0 h1
  have hu : eq9 (fput (fover (iS g)) (fturn (iS f))) (iS (rowU g f)) := by
    refine (fput_cg eq9.rf ht).tr ?_
    rw [fover_i, fput_i]; exact eq9.rf
  show fmul (fmul (faC n) (exC k)) (fpol.tpow (fput (fover (iS g)) (fturn (iS f))) (fturn (iS f)) k n) = _
  rw [tpow_cg hu ht k n hn, tpow_i, faC_i n hn, exC_i k hk, b_mul]
  show fmul _ (iT _) = _
  rw [b_mul]; rfl
/-! ===== a polynomial told by those of a row ===== -/
def rtF (P : Nat → Fs) (p : Fs) : Nat → Fs
  | 0 => p
  | t + 1 => fun k => rtF P p t k - rtF P p t (8 - t) * iF (P (8 - t) (8 - t)) * P (8 - t) k
def tlF (P : Nat → Fs) (p : Fs) : Fs := fun n => rtF P p (8 - n) n * iF (P n n)
theorem trest_i (P : Nat → Fs) (p : Fs) : ∀ t, trest (fun n => iS (P n)) (iS p) t = iS (rtF P p t)
  | 0 => rfl
  | t + 1 => funext (fun k => by
    show fadd (trest (fun n => iS (P n)) (iS p) t k) (fmul (iT (P (8 - t) k)) (fsub (iT 0) (fmul (trest (fun n => iS (P n)) (iS p) t (8 - t)) (finv (iT (P (8 - t) (8 - t))))))) = _
    rw [trest_i P p t]
    show fadd (iT _) (fmul _ (fsub _ (fmul (iT _) _))) = iT _
    rw [b_inv, b_mul, b_sub, b_mul, b_add]
    congr 1
    show _ = rtF P p t k - rtF P p t (8 - t) * iF (P (8 - t) (8 - t)) * P (8 - t) k
    grind)
theorem ftell_i (P : Nat → Fs) (p : Fs) : ftell (fun n => iS (P n)) (iS p) = iS (tlF P p) := funext (fun n => by
  show fmul (trest (fun n => iS (P n)) (iS p) (8 - n) n) (finv (iT (P n n))) = _
  rw [trest_i, b_inv]
  show fmul (iT _) _ = _
  rw [b_mul]; rfl)
theorem mrest_i {P : Nat → Fs} (hP : ∀ n k, n < k → P n k = 0) (p : Fs) : ∀ t, mrest (fun n => iS (P n)) (iS p) t = iS (rtF P p t)
  | 0 => rfl
  | t + 1 => funext (fun k => by
    show (if k ≤ 8 - t then fsub (mrest (fun n => iS (P n)) (iS p) t k) (fmul (fmul (mrest (fun n => iS (P n)) (iS p) t (8 - t)) (finv (iT (P (8 - t) (8 - t))))) (iT (P (8 - t) k))) else mrest (fun n => iS (P n)) (iS p) t k) = iT (rtF P p t k - rtF P p t (8 - t) * iF (P (8 - t) (8 - t)) * P (8 - t) k)
    rw [mrest_i hP p t]
    show (if k ≤ 8 - t then fsub (iT _) (fmul (fmul (iT _) _) _) else iT _) = iT _
    rw [b_inv, b_mul, b_mul, b_sub]
    by_cases e : k ≤ 8 - t
    · rw [if_pos e]
    · rw [if_neg e, hP (8 - t) k (by omega)]; congr 1; grind)
theorem mtell_i {P : Nat → Fs} (hP : ∀ n k, n < k → P n k = 0) (p : Fs) : mtell (fun n => iS (P n)) (iS p) = iS (tlF P p) := funext (fun n => by
  show fmul (mrest (fun n => iS (P n)) (iS p) (8 - n) n) (finv (iT (P n n))) = _
  rw [mrest_i hP, b_inv]
  show fmul (iT _) _ = _
  rw [b_mul]; rfl)
def jnF (P : Nat → Fs) (s : Fs) : Fs := fun k => sm (fun n => s n * P n k) 9
theorem gsum_i (P : Nat → Fs) (s : Fs) : ∀ n, gsum (fun n => iS (P n)) (iS s) n = iS (fun k => sm (fun i => s i * P i k) n)
  | 0 => funext (fun k => by show (if k = 0 then nI 0 else nI 0) = nI 0; by_cases e : k = 0 <;> simp [e])
  | n + 1 => funext (fun k => by
    show fadd (gsum (fun n => iS (P n)) (iS s) n k) (fmul (iT (P n k)) (iT (s n))) = _
    rw [gsum_i P s n]
    show fadd (iT _) _ = iT (sm (fun i => s i * P i k) n + s n * P n k)
    rw [b_mul, b_add]; congr 1; grind)
theorem mjn_i (P : Nat → Fs) (s : Fs) (k : Nat) : ∀ n, mjn (fun n => iS (P n)) (iS s) k n = iT (sm (fun i => s i * P i k) n)
  | 0 => rfl
  | n + 1 => by
    show fadd (mjn (fun n => iS (P n)) (iS s) k n) (fmul (iT (s n)) (iT (P n k))) = _
    rw [mjn_i P s k n, b_mul, b_add]; rfl
theorem mjoin_i (P : Nat → Fs) (s : Fs) : mjoin (fun n => iS (P n)) (iS s) = iS (jnF P s) := funext (fun k => mjn_i P s k 9)
def upF (a : Fs) : Fs := fun k => if k = 0 then 0 else a (k - 1)
theorem fup_i (a : Fs) : fup (iS a) = iS (upF a) := funext (fun k => by
  show (if k = 0 then nI 0 else iT (a (k - 1))) = iT (if k = 0 then 0 else a (k - 1))
  by_cases h : k = 0
  · rw [if_pos h, if_pos h]; rfl
  · rw [if_neg h, if_neg h])
def weF (a : Fs) : Fs := fun k => a k * nF k
theorem fwei_i (a : Fs) : eq9 (fwei (iS a)) (iS (weF a)) := fun k hk => by
  show fmul (iT (a k)) (nI k) = _
  rw [b_n (show k < 9973 by omega), b_mul]; rfl
/-! ===== f undone ===== -/
theorem funtake_i {f : Fs} (h1 : f 1 ≠ 0) (p : Fs) : eq9 (funtake faC exC (iS p) (iS f)) (iS (rsF (sDv sone (flF f)) p)) := by
  have e : eq9 (ftake faC exC (iS p) (fover (flow (iS f)))) (iS (tk (sDv sone (flF f)) p)) := by
    rw [flow_i, fover_i]; exact ftake_i p _
  intro k hk
  show (if k = 0 then fup (ftake faC exC (iS p) (fover (flow (iS f)))) 0 else fmul (fup (ftake faC exC (iS p) (fover (flow (iS f)))) k) (finv (nI k))) = iT (if k = 0 then 0 else tk (sDv sone (flF f)) p (k - 1) * iF (nF k))
  by_cases z : k = 0
  · rw [if_pos z, if_pos z]; rfl
  · rw [if_neg z, if_neg z]
    show fmul (if k = 0 then nI 0 else ftake faC exC (iS p) (fover (flow (iS f))) (k - 1)) (finv (nI k)) = _
    rw [if_neg z, e (k - 1) (by omega), b_n (show k < 9973 by omega), b_inv]
    show fmul (iT _) _ = _
    rw [b_mul]
theorem mraise_i {f p : Fs} (h1 : f 1 ≠ 0) (hp : p 8 = 0) : eq9 (mraise (iS f) (iS p)) (iS (rsF (sDv sone (flF f)) p)) := by
  have hφ : flF f 0 ≠ 0 := by show (if (0 : Nat) = 8 then 0 else f 1) ≠ 0; rw [if_neg (by decide)]; exact h1
  have hi : cv (flF f) (sDv sone (flF f)) = sone := by rw [cv_comm]; exact sDv_ok hφ
  have hs : sol f p (rsF (sDv sone (flF f)) p) := rsF_sol (φ := flF f) (fun k hk => by unfold flF; rw [if_neg (by omega)]) hi hp
  intro k hk
  show (if k = 0 then nI 0 else msolve (iS f) (iS p) k) = _
  by_cases z : k = 0
  · subst z; rfl
  · rw [if_neg z, msolve_i h1 hs (by omega) hk]; rfl
