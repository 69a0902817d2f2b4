/-! ===== turning inside out, number by number ===== -/
theorem pw_lo {h h' : Fs} {k : Nat} (e : ∀ j, j < k → h j = h' j) : ∀ i j, j < k → pw h i j = pw h' i j
  | 0, _, _ => rfl
  | i + 1, j, hj => sm_cg _ (fun q hq => by
      show pw h i q * h (j - q) = pw h' i q * h' (j - q)
      rw [pw_lo e i q (by omega), e (j - q) (by omega)])
theorem cm_lo {f h h' : Fs} {k : Nat} (e : ∀ j, j < k → h j = h' j) {j : Nat} (hj : j < k) : cm f h j = cm f h' j := sm_cg _ (fun i _ => by
  (try dsimp only)
  rw [pw_lo e i j hj])
theorem pw_hi {h h' : Fs} {k i : Nat} (h0 : h 0 = 0) (h0' : h' 0 = 0) (e : ∀ j, j < k → h j = h' j) : pw h (i + 2) k = pw h' (i + 2) k := sm_cg _ (fun q hq => by
  show pw h (i + 1) q * h (k - q) = pw h' (i + 1) q * h' (k - q)
  by_cases z : q = 0
  · subst z
    rw [pw_ord h0 (i + 1) 0 (by omega), pw_ord h0' (i + 1) 0 (by omega)]; grind
  · by_cases y : q = k
    · subst y; rw [Nat.sub_self, h0, h0']; grind
    · rw [pw_lo e (i + 1) q (by omega), e (k - q) (by omega)])
/-- place k of f with h put into it: how much h's own place k makes of it -/
theorem cm_hi {f h h' : Fs} {k : Nat} (h0 : h 0 = 0) (h0' : h' 0 = 0) (e : ∀ j, j < k → h j = h' j) : cm f h k - f 1 * h k = cm f h' k - f 1 * h' k := by
  have u : ∀ g : Fs, cm f g k = f 0 * sone k + (f 1 * g k + sm (fun i => f (i + 2) * pw g (i + 2) k) 7) := fun g => by
    show sm (fun i => f i * pw g i k) (7 + 1 + 1) = _
    rw [sm_hd, sm_hd]
    show f 0 * sone k + (f 1 * cv sone g k + sm (fun i => f (i + 1 + 1) * pw g (i + 1 + 1) k) 7) = _
    rw [cv_one]
  rw [u h, u h', sm_cg (f := fun i => f (i + 2) * pw h (i + 2) k) (h := fun i => f (i + 2) * pw h' (i + 2) k) 7 (fun i _ => by (try dsimp only); rw [pw_hi h0 h0' e])]
  grind
def mtF (a : Fs) : Nat → Fs
  | 0 => fun _ => 0
  | k + 1 => fun q => if q = k then (if k = 0 then 0 else ((if k = 1 then 1 else 0) - cm a (mtF a k) k) * iF (a 1)) else mtF a k q
theorem mtF_z (a : Fs) : ∀ k q, k ≤ q → mtF a k q = 0
  | 0, _, _ => rfl
  | k + 1, q, h => by
    show (if q = k then _ else mtF a k q) = _
    rw [if_neg (by omega)]; exact mtF_z a k q (by omega)
theorem mtF_0 (a : Fs) : ∀ k, mtF a k 0 = 0
  | 0 => rfl
  | k + 1 => by
    show (if 0 = k then _ else mtF a k 0) = _
    by_cases e : 0 = k
    · rw [if_pos e, if_pos e.symm]
    · rw [if_neg e]; exact mtF_0 a k
theorem mtF_st (a : Fs) {q : Nat} : ∀ k, q < k → mtF a k q = mtF a (q + 1) q
  | 0, h => by omega
  | k + 1, h => by
    by_cases e : q = k
    · subst e; rfl
    · show (if q = k then _ else mtF a k q) = _
      rw [if_neg e]; exact mtF_st a k (by omega)
def sTu (f : Fs) : Fs := mtF f 9
theorem sTu_0 (f : Fs) : sTu f 0 = 0 := mtF_0 f 9
theorem sTu_ok {f : Fs} (h0 : f 0 = 0) (h1 : f 1 ≠ 0) : e9 (cm f (sTu f)) sX := fun k hk => by
  have i1 := iF_ok h1
  have e1 : cm f (sTu f) k = cm f (mtF f (k + 1)) k := cm_lo (k := k + 1) (fun j hj => by
    unfold sTu
    rw [mtF_st f 9 (by omega), mtF_st f (k + 1) hj]) (by omega)
  rw [e1]
  cases k with
  | zero =>
    show sm (fun i => f i * pw (mtF f 1) i 0) 9 = 0
    exact sm_z _ (fun i _ => by
      cases i with
      | zero => rw [h0]; grind
      | succ i => rw [pw_ord (mtF_0 f 1) (i + 1) 0 (by omega)]; grind)
  | succ k =>
    have e2 := cm_hi (f := f) (h := mtF f (k + 2)) (h' := mtF f (k + 1)) (k := k + 1) (mtF_0 f _) (mtF_0 f _) (fun j hj => by
      show (if j = k + 1 then _ else mtF f (k + 1) j) = _
      rw [if_neg (by omega)])
    have e3 : mtF f (k + 2) (k + 1) = ((if k + 1 = 1 then 1 else 0) - cm f (mtF f (k + 1)) (k + 1)) * iF (f 1) := by
      show (if k + 1 = k + 1 then (if k + 1 = 0 then _ else _) else _) = _
      rw [if_pos rfl, if_neg (by omega)]
    rw [mtF_z f (k + 1) (k + 1) (Nat.le_refl _), e3] at e2
    show cm f (mtF f (k + 2)) (k + 1) = if k + 1 = 1 then 1 else 0
    generalize (if k + 1 = 1 then (1 : Fp) else 0) = d at e2 ⊢
    grind
/-! ===== by what a series is to be taken to make 1; a series by another ===== -/
theorem cv_can {q q' m : Fs} (h0 : m 0 ≠ 0) (h : cv q m = cv q' m) : q = q' := by
  funext n
  induction n using Nat.strongRecOn with
  | ind n ih =>
    have e := congrFun h n
    have t : sm (fun i => q i * m (n - i)) n + q n * m (n - n) = sm (fun i => q' i * m (n - i)) n + q' n * m (n - n) := e
    rw [Nat.sub_self, sm_cg (f := fun i => q i * m (n - i)) (h := fun i => q' i * m (n - i)) n (fun i hi => by (try dsimp only); rw [ih i hi])] at t
    exact Fp_can h0 (by grind)
/-! ===== a polynomial, and what a series does to it ===== -/
def fal (j : Nat) : Nat → Fp
  | 0 => 1
  | k + 1 => fal j k * nF (j + (k + 1))
def fac : Nat → Fp
  | 0 => 1
  | k + 1 => fac k * nF (k + 1)
theorem fac_fal (j : Nat) : ∀ k, fac (j + k) = fac j * fal j k
  | 0 => by simp only [fal, Nat.add_zero]; grind
  | k + 1 => by
    show fac (j + k) * nF (j + k + 1) = fac j * (fal j k * nF (j + (k + 1)))
    rw [fac_fal j k, ← Nat.add_assoc]; grind
theorem fac_ne : ∀ n, n < 9973 → fac n ≠ 0
  | 0, _ => one_ne
  | n + 1, h => Fp_ne (fac_ne n (by omega)) (nF_ne (by omega) h)
theorem fal_0 (k : Nat) : fal 0 k = fac k := by
  have := fac_fal 0 k
  rw [Nat.zero_add] at this
  have e : fac 0 = 1 := rfl
  rw [this, e]; grind
/-- h taken on p -/
def tk (h p : Fs) : Fs := fun k => sm (fun j => h j * (fal k j * p (k + j))) (9 - k)
/-- what solves it stands alone -/
def sol (f due q : Fs) : Prop := ∀ j, j < 8 → sm (fun k => f (k + 1) * (fal j (k + 1) * q (j + (k + 1)))) (8 - j) = due j
def slF (f due q : Fs) (j : Nat) : Nat → Fp
  | 0 => due j
  | c + 1 => slF f due q j c - f (c + 2) * (fal j (c + 2) * q (j + (c + 2)))
def svF (f due : Fs) : Nat → Fs
  | 0 => fun _ => 0
  | t + 1 => fun u => if u = 8 - t then slF f due (svF f due t) (7 - t) t * iF (f 1 * nF (7 - t + 1)) else svF f due t u
theorem slF_eq (f due q : Fs) (j : Nat) : ∀ c, slF f due q j c = due j - sm (fun k => f (k + 2) * (fal j (k + 2) * q (j + (k + 2)))) c
  | 0 => by simp only [slF, sm]; grind
  | c + 1 => by simp only [slF, sm]; rw [slF_eq f due q j c]; grind
theorem svF_eq {f due q : Fs} (h1 : f 1 ≠ 0) (h : sol f due q) : ∀ t, t ≤ 8 → ∀ u, 8 < t + u → u ≤ 8 → svF f due t u = q u
  | 0, _, u, h2, h3 => by omega
  | t + 1, ht, u, h2, h3 => by
    show (if u = 8 - t then slF f due (svF f due t) (7 - t) t * iF (f 1 * nF (7 - t + 1)) else svF f due t u) = q u
    by_cases e : u = 8 - t
    · rw [if_pos e, slF_eq]
      have hs := h (7 - t) (by omega)
      rw [show 8 - (7 - t) = t + 1 by omega, sm_hd] at hs
      have hc : sm (fun k => f (k + 2) * (fal (7 - t) (k + 2) * svF f due t (7 - t + (k + 2)))) t = sm (fun k => f (k + 1 + 1) * (fal (7 - t) (k + 1 + 1) * q (7 - t + (k + 1 + 1)))) t := sm_cg _ (fun k hk => by
        (try dsimp only)
        rw [svF_eq h1 h t (by omega) (7 - t + (k + 2)) (by omega) (by omega)])
      rw [hc]
      have hq : q (7 - t + (0 + 1)) = q u := by rw [e]; congr 1; omega
      have hf : fal (7 - t) (0 + 1) = nF (7 - t + 1) := by simp only [fal, Nat.zero_add]; grind
      have hi := iF_ok (Fp_ne h1 (nF_ne (n := 7 - t + 1) (by omega) (by omega)))
      rw [hq, hf] at hs
      have h01 : f (0 + 1) = f 1 := rfl
      rw [h01] at hs
      grind
    · rw [if_neg e]; exact svF_eq h1 h t (by omega) u (by omega) h3
/-! ===== the polynomials of a row ===== -/
def plF (U H : Fs) (n : Nat) : Fs := fun k => fac n * iF (fac k) * cv U (pw H k) n
theorem cm_cut {f H : Fs} (h0 : f 0 = 0) {W : Fs} {n m : Nat} (hm : m ≤ 8) (hz : ∀ k, m < k → k < 9 → cv W (pw H k) n = 0) : cv W (cm f H) n = sm (fun k => f (k + 1) * cv W (pw H (k + 1)) n) m := by
  show sm (fun i => W i * sm (fun k => f k * pw H k (n - i)) 9) (n + 1) = _
  have e1 : sm (fun i => W i * sm (fun k => f k * pw H k (n - i)) 9) (n + 1) = sm (fun i => sm (fun k => f k * (W i * pw H k (n - i))) 9) (n + 1) := sm_cg _ (fun i _ => by
    (try dsimp only)
    rw [← sm_mul]
    exact sm_cg _ (fun k _ => by (try dsimp only); grind))
  rw [e1, sm_swap (fun i k => f k * (W i * pw H k (n - i)))]
  have e2 : sm (fun j => sm (fun i => f j * (W i * pw H j (n - i))) (n + 1)) 9 = sm (fun k => f k * cv W (pw H k) n) 9 := sm_cg _ (fun k _ => by (try dsimp only); rw [sm_mul]; rfl)
  rw [e2]
  show sm (fun k => f k * cv W (pw H k) n) (8 + 1) = _
  rw [sm_hd, h0]
  have e3 := sm_app (fun i => f (i + 1) * cv W (pw H (i + 1)) n) m (8 - m)
  rw [show m + (8 - m) = 8 by omega] at e3
  rw [e3, sm_z (8 - m) (fun k hk => by (try dsimp only); rw [hz (m + k + 1) (by omega) (by omega)]; grind)]
  grind
theorem cv_ord {W H : Fs} (hH : H 0 = 0) {k n : Nat} (h : n < k) : cv W (pw H k) n = 0 := sm_z _ (fun i hi => by
  show W i * pw H k (n - i) = 0
  rw [pw_ord hH k (n - i) (by omega)]; grind)
theorem plF_sol {f U H : Fs} (h0 : f 0 = 0) (hH : H 0 = 0) (hf : e9 (cm f H) sX) {n : Nat} (hn : n < 9) : sol f (fun j => if n = 0 then 0 else nF n * plF U H (n - 1) j) (plF U H n) := fun j hj => by
  have e1 : sm (fun k => f (k + 1) * (fal j (k + 1) * plF U H n (j + (k + 1)))) (8 - j) = fac n * iF (fac j) * sm (fun k => f (k + 1) * cv (cv U (pw H j)) (pw H (k + 1)) n) (8 - j) := by
    rw [← sm_mul]
    refine sm_cg _ (fun k hk => ?_)
    show f (k + 1) * (fal j (k + 1) * (fac n * iF (fac (j + (k + 1))) * cv U (pw H (j + (k + 1))) n)) = fac n * iF (fac j) * (f (k + 1) * cv (cv U (pw H j)) (pw H (k + 1)) n)
    rw [pw_add, ← cv_assoc]
    have a1 := fac_fal j (k + 1)
    have a2 := iF_ok (fac_ne (j + (k + 1)) (by omega))
    have a3 := iF_ok (fac_ne j (by omega))
    generalize cv (cv U (pw H j)) (pw H (k + 1)) n = z
    generalize fac (j + (k + 1)) = x at a1 a2 ⊢
    generalize iF x = xi at a2 ⊢
    generalize iF (fac j) = yi at a3 ⊢
    have a4 : fal j (k + 1) * xi = yi := by grind
    grind
  have e2 := cm_cut (f := f) (H := H) h0 (W := cv U (pw H j)) (n := n) (m := 8 - j) (by omega) (fun k h1 h2 => by
    rw [cv_assoc, ← pw_add]; exact cv_ord hH (by omega))
  have e3 : cv (cv U (pw H j)) (cm f H) n = cv (cv U (pw H j)) sX n := cv_cg e9.rf hf n hn
  rw [e1, ← e2, e3]
  show fac n * iF (fac j) * cv (cv U (pw H j)) sX n = if n = 0 then 0 else nF n * plF U H (n - 1) j
  cases n with
  | zero =>
    rw [if_pos rfl, cv_comm, cv_X0]; grind
  | succ n =>
    rw [if_neg (by omega), cv_comm, cv_Xs]
    show fac n * nF (n + 1) * iF (fac j) * cv U (pw H j) n = nF (n + 1) * (fac n * iF (fac j) * cv U (pw H j) n)
    grind
theorem plF_0 {g U H : Fs} (hg : e9 (cv U (cm g H)) sone) {n : Nat} (hn : n < 9) : sm (fun c => g c * (fac c * plF U H n c)) 9 = if n = 0 then 1 else 0 := by
  have e1 : sm (fun c => g c * (fac c * plF U H n c)) 9 = fac n * sm (fun c => g c * cv U (pw H c) n) 9 := by
    rw [← sm_mul]
    refine sm_cg _ (fun c hc => ?_)
    show g c * (fac c * (fac n * iF (fac c) * cv U (pw H c) n)) = _
    have := iF_ok (fac_ne c (by omega))
    grind
  have e2 : cv U (cm g H) n = sm (fun c => g c * cv U (pw H c) n) 9 := by
    show sm (fun i => U i * sm (fun k => g k * pw H k (n - i)) 9) (n + 1) = _
    have e1 : sm (fun i => U i * sm (fun k => g k * pw H k (n - i)) 9) (n + 1) = sm (fun i => sm (fun k => g k * (U i * pw H k (n - i))) 9) (n + 1) := sm_cg _ (fun i _ => by
      (try dsimp only)
      rw [← sm_mul]
      exact sm_cg _ (fun k _ => by (try dsimp only); grind))
    rw [e1, sm_swap (fun i k => g k * (U i * pw H k (n - i)))]
    exact sm_cg _ (fun k _ => by (try dsimp only); rw [sm_mul]; rfl)
  rw [e1, ← e2, hg n hn]
  unfold sone
  by_cases e : n = 0
  · subst e
    have e : fac 0 = 1 := rfl
    rw [e, if_pos rfl]; grind
  · rw [if_neg e]; grind
theorem plF_hi {U H : Fs} (hH : H 0 = 0) {n k : Nat} (h : n < k) : plF U H n k = 0 := by
  unfold plF; rw [cv_ord hH h]; grind
/-! ===== what undoes f ===== -/
def rsF (ψ p : Fs) : Fs := fun k => if k = 0 then 0 else tk ψ p (k - 1) * iF (nF k)
theorem rsF_sol {f φ ψ p : Fs} (hφ : ∀ k, k < 8 → f (k + 1) = φ k) (hi : cv φ ψ = sone) (hp : p 8 = 0) : sol f p (rsF ψ p) := fun j hj => by
  have e1 : sm (fun k => f (k + 1) * (fal j (k + 1) * rsF ψ p (j + (k + 1)))) (8 - j) = sm (fun k => sm (fun l => φ k * ψ l * (fal j (k + l) * p (j + (k + l)))) (9 - j - k)) (8 - j) := sm_cg _ (fun k hk => by
    (try dsimp only)
    rw [hφ k (by omega)]
    unfold rsF tk
    rw [if_neg (by omega), show j + (k + 1) - 1 = j + k by omega, ← sm_mulr, ← sm_mul, ← sm_mul, show 9 - (j + k) = 9 - j - k by omega]
    refine sm_cg _ (fun l hl => ?_)
    show φ k * (fal j (k + 1) * (ψ l * (fal (j + k) l * p (j + k + l)) * iF (nF (j + (k + 1))))) = φ k * ψ l * (fal j (k + l) * p (j + (k + l)))
    have a1 := iF_ok (nF_ne (n := j + (k + 1)) (by omega) (by omega))
    have a2 : fal j (k + 1) = fal j k * nF (j + (k + 1)) := rfl
    have a3 : fal j (k + l) = fal j k * fal (j + k) l := by
      have b1 := fac_fal j (k + l)
      have b2 := fac_fal j k
      have b3 := fac_fal (j + k) l
      rw [Nat.add_assoc] at b3
      exact Fp_can (fac_ne j (by omega)) (by grind)
    rw [a2, a3, Nat.add_assoc]
    grind)
  have e2 : sm (fun k => sm (fun l => φ k * ψ l * (fal j (k + l) * p (j + (k + l)))) (9 - j - k)) (8 - j) = sm (fun k => sm (fun l => φ k * ψ l * (fal j (k + l) * p (j + (k + l)))) (8 - j - k)) (8 - j) := sm_cg _ (fun k hk => by
    (try dsimp only)
    rw [show 9 - j - k = (8 - j - k) + 1 by omega]
    simp only [sm]
    rw [show j + (k + (8 - j - k)) = 8 by omega, hp]; grind)
  have e3 := sm_tri (fun m k => φ k * ψ (m - k) * (fal j m * p (j + m))) (8 - j)
  have e4 : sm (fun k => sm (fun l => φ k * ψ l * (fal j (k + l) * p (j + (k + l)))) (8 - j - k)) (8 - j) = sm (fun k => sm (fun l => φ k * ψ (k + l - k) * (fal j (k + l) * p (j + (k + l)))) (8 - j - k)) (8 - j) := sm_cg _ (fun k hk => sm_cg _ (fun l hl => by (try dsimp only); rw [show k + l - k = l by omega]))
  rw [e1, e2, e4, ← e3]
  rw [sm_one (k := 0) (8 - j) (by omega) (fun m hm hne => by
    (try dsimp only)
    rw [sm_mulr]
    have := congrFun hi m
    have t : sm (fun i => φ i * ψ (m - i)) (m + 1) = sone m := this
    rw [t]; unfold sone; rw [if_neg hne]; grind)]
  (try dsimp only)
  rw [sm_mulr]
  have := congrFun hi 0
  have t : sm (fun i => φ i * ψ (0 - i)) (0 + 1) = sone 0 := this
  rw [t]; unfold sone; rw [if_pos rfl, Nat.add_zero]
  simp only [fal]; grind
