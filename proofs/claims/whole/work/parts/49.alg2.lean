/-! ===== whole numbers in it, and what undoes a number ===== -/
def nF (n : Nat) : Fp := Fin.ofNat 9973 n
theorem nF_0 : nF 0 = 0 := rfl
theorem nF_1 : nF 1 = 1 := rfl
theorem nF_s (n : Nat) : nF (n + 1) = nF n + 1 := by
  apply Fin.ext
  show (n + 1) % 9973 = (n % 9973 + 1 % 9973) % 9973
  omega
theorem nF_add (m : Nat) : ∀ n, nF (m + n) = nF m + nF n
  | 0 => by rw [Nat.add_zero, nF_0]; grind
  | n + 1 => by rw [← Nat.add_assoc, nF_s, nF_s, nF_add m n]; grind
def iF (a : Fp) : Fp := Fin.ofNat 9973 (pwN 14 9971 1 a.val)
theorem iF_ok {a : Fp} (h : a ≠ 0) : a * iF a = 1 := by
  apply Fin.ext
  have h0 : a.val ≠ 0 := fun e => h (Fin.ext e)
  have := pwN_inv h0 a.isLt
  show a.val * (pwN 14 9971 1 a.val % 9973) % 9973 = 1
  rw [Nat.mul_mod, Nat.mod_mod, ← Nat.mul_mod]; exact this
theorem one_ne : (1 : Fp) ≠ 0 := by decide
theorem Fp_mul0 {a b : Fp} (h : a * b = 0) (ha : a ≠ 0) : b = 0 := by
  have := iF_ok ha
  grind
theorem Fp_ne {a b : Fp} (ha : a ≠ 0) (hb : b ≠ 0) : a * b ≠ 0 := fun h => hb (Fp_mul0 h ha)
theorem Fp_pw {a : Fp} (ha : a ≠ 0) : ∀ n : Nat, a ^ n ≠ 0
  | 0 => by have := one_ne; grind
  | n + 1 => by
    have := Fp_ne (Fp_pw ha n) ha
    grind
theorem iF_ne {a : Fp} (h : a ≠ 0) : iF a ≠ 0 := fun e => by
  have := iF_ok h
  have := one_ne
  grind
theorem Fp_can {a b c : Fp} (ha : a ≠ 0) (h : a * b = a * c) : b = c := by
  have := iF_ok ha
  grind
theorem nF_ne {n : Nat} (h : n ≠ 0) (h2 : n < 9973) : nF n ≠ 0 := fun e => by
  have := congrArg Fin.val e
  have : n % 9973 = 0 := this
  omega
/-- each number times how many it is -/
def dv (a : Fs) : Fs := fun n => nF (n + 1) * a (n + 1)
theorem dv_cv (a b : Fs) : dv (cv a b) = sad (cv (dv a) b) (cv a (dv b)) := by
  funext n
  show nF (n + 1) * sm (fun i => a i * b (n + 1 - i)) (n + 1 + 1) = sm (fun i => nF (i + 1) * a (i + 1) * b (n - i)) (n + 1) + sm (fun i => a i * (nF (n - i + 1) * b (n - i + 1))) (n + 1)
  have e1 : nF (n + 1) * sm (fun i => a i * b (n + 1 - i)) (n + 1 + 1) = sm (fun i => nF i * a i * b (n + 1 - i)) (n + 1 + 1) + sm (fun i => a i * (nF (n + 1 - i) * b (n + 1 - i))) (n + 1 + 1) := by
    rw [← sm_mul, ← sm_add]
    exact sm_cg _ (fun i hi => by
      have := nF_add i (n + 1 - i)
      rw [show i + (n + 1 - i) = n + 1 by omega] at this
      grind)
  rw [e1, sm_hd (fun i => nF i * a i * b (n + 1 - i)) (n + 1)]
  have e2 : sm (fun i => a i * (nF (n + 1 - i) * b (n + 1 - i))) (n + 1 + 1) = sm (fun i => a i * (nF (n - i + 1) * b (n - i + 1))) (n + 1) := by
    show sm (fun i => a i * (nF (n + 1 - i) * b (n + 1 - i))) (n + 1) + a (n + 1) * (nF (n + 1 - (n + 1)) * b (n + 1 - (n + 1))) = _
    rw [Nat.sub_self, nF_0, sm_cg (f := fun i => a i * (nF (n + 1 - i) * b (n + 1 - i))) (h := fun i => a i * (nF (n - i + 1) * b (n - i + 1))) (n + 1) (fun i hi => by rw [show n + 1 - i = n - i + 1 by omega])]
    grind
  have e3 : sm (fun i => nF (i + 1) * a (i + 1) * b (n + 1 - (i + 1))) (n + 1) = sm (fun i => nF (i + 1) * a (i + 1) * b (n - i)) (n + 1) := sm_cg _ (fun i _ => by rw [show n + 1 - (i + 1) = n - i by omega])
  rw [e2, e3, nF_0]
  grind
def smul (c : Fp) (a : Fs) : Fs := fun k => c * a k
theorem cv_smul (c : Fp) (a b : Fs) : cv (smul c a) b = smul c (cv a b) := by
  funext n
  show sm (fun i => c * a i * b (n - i)) (n + 1) = c * sm (fun i => a i * b (n - i)) (n + 1)
  rw [← sm_mul]; exact sm_cg _ (fun i _ => by (try dsimp only); grind)
theorem dv_one : dv sone = fun _ => 0 := by
  funext n
  show nF (n + 1) * sone (n + 1) = 0
  unfold sone; rw [if_neg (by omega)]; grind
theorem dv_pw (a : Fs) : ∀ n, dv (pw a (n + 1)) = smul (nF (n + 1)) (cv (pw a n) (dv a))
  | 0 => by
    show dv (cv sone a) = smul (nF 1) (cv sone (dv a))
    rw [cv_one, cv_one, nF_1]; funext k; show dv a k = 1 * dv a k; grind
  | n + 1 => by
    show dv (cv (pw a (n + 1)) a) = _
    rw [dv_cv, dv_pw a n, cv_smul]
    have e : cv (cv (pw a n) (dv a)) a = cv (pw a (n + 1)) (dv a) := by
      rw [cv_assoc, cv_comm (dv a) a, ← cv_assoc]; rfl
    rw [e]
    funext k
    show nF (n + 1) * cv (pw a (n + 1)) (dv a) k + cv (pw a (n + 1)) (dv a) k = nF (n + 1 + 1) * cv (pw a (n + 1)) (dv a) k
    rw [nF_s (n + 1)]; grind
/-- X goes up one place -/
theorem cv_X0 (a : Fs) : cv sX a 0 = 0 := by
  show sm (fun i => sX i * a (0 - i)) 1 = 0
  exact sm_z _ (fun i hi => by unfold sX; rw [if_neg (by omega)]; grind)
theorem cv_Xs (a : Fs) (n : Nat) : cv sX a (n + 1) = a n := by
  show sm (fun i => sX i * a (n + 1 - i)) (n + 1 + 1) = a n
  rw [sm_one (k := 1) _ (by omega) (fun i _ h => by unfold sX; rw [if_neg h]; grind)]
  show sX 1 * a (n + 1 - 1) = a n
  rw [show n + 1 - 1 = n by omega]; unfold sX; rw [if_pos rfl]; grind
theorem cv_pX (a : Fs) : ∀ k n, cv (pw sX k) a (k + n) = a n
  | 0, n => by show cv sone a (0 + n) = a n; rw [cv_one, Nat.zero_add]
  | k + 1, n => by
    show cv (cv (pw sX k) sX) a (k + 1 + n) = a n
    rw [cv_assoc, show k + 1 + n = k + (n + 1) by omega, cv_pX _ k (n + 1), cv_Xs]
theorem pw_cv (a b : Fs) : ∀ n, pw (cv a b) n = cv (pw a n) (pw b n)
  | 0 => by show sone = cv sone sone; rw [cv_one]
  | n + 1 => by
    show cv (pw (cv a b) n) (cv a b) = cv (cv (pw a n) a) (cv (pw b n) b)
    rw [pw_cv a b n, cv_assoc, cv_assoc]
    congr 1
    rw [← cv_assoc, ← cv_assoc, cv_comm (pw b n) a]
theorem pw_0 {a : Fs} : ∀ n, pw a n 0 = a 0 ^ n
  | 0 => by show (if (0 : Nat) = 0 then (1 : Fp) else 0) = _; rw [if_pos rfl]; grind
  | n + 1 => by
    show sm (fun i => pw a n i * a (0 - i)) 1 = _
    simp only [sm]
    rw [pw_0 n]; grind
/-- taken by the n-th power of t through f -/
def lam (ψ : Fs) (n : Nat) (a : Fs) : Fp := cv a (pw ψ n) (n - 1)
theorem lam_1 {φ ψ F : Fs} (h : cv φ ψ = sone) (hF : F = cv sX φ) {n k : Nat} (hn : 1 ≤ n) (hn8 : n ≤ 8) (hk : 1 ≤ k) : lam ψ n (cv (pw F (k - 1)) (dv F)) = if k = n then 1 else 0 := by
  have hF0 : F 0 = 0 := by rw [hF]; exact cv_X0 φ
  have hX : cv F ψ = sX := by rw [hF, cv_assoc, h, cv_oner]
  have hd : sad (cv (dv F) ψ) (cv F (dv ψ)) = sone := by
    rw [← dv_cv, hX]
    funext j
    show nF (j + 1) * sX (j + 1) = sone j
    unfold sX sone
    by_cases e : j = 0
    · subst e; rw [if_pos rfl, if_pos rfl, nF_1]; grind
    · rw [if_neg (by omega), if_neg e]; grind
  by_cases q : n < k
  · rw [if_neg (by omega)]
    unfold lam
    rw [cv_assoc]
    exact sm_z _ (fun i hi => by
      show pw F (k - 1) i * _ = 0
      rw [pw_ord hF0 (k - 1) i (by omega)]; grind)
  · -- n = k + m
    obtain ⟨m, rfl⟩ : ∃ m, n = k + m := ⟨n - k, by omega⟩
    obtain ⟨k, rfl⟩ : ∃ j, k = j + 1 := ⟨k - 1, by omega⟩
    unfold lam
    rw [show k + 1 - 1 = k by omega, show k + 1 + m - 1 = k + m by omega]
    have e1 : cv (cv (pw F k) (dv F)) (pw ψ (k + 1 + m)) = cv (pw sX k) (cv (cv (dv F) ψ) (pw ψ m)) := by
      rw [show k + 1 + m = k + (1 + m) by omega, pw_add, pw_add ψ 1 m, ← hX, pw_cv]
      have e : pw ψ 1 = ψ := by show cv sone ψ = ψ; rw [cv_one]
      rw [e]
      rw [cv_assoc, cv_assoc, cv_assoc]
      congr 1
      rw [← cv_assoc, cv_comm (dv F) (pw ψ k), cv_assoc]
    rw [e1, cv_pX]
    have e2 : cv (dv F) ψ = fun j => sone j - cv F (dv ψ) j := by
      funext j
      have := congrFun hd j
      have t : cv (dv F) ψ j + cv F (dv ψ) j = sone j := this
      grind
    have e3 : cv (cv (dv F) ψ) (pw ψ m) m = pw ψ m m - cv (cv F (dv ψ)) (pw ψ m) m := by
      rw [e2]
      show sm (fun i => (sone i - cv F (dv ψ) i) * pw ψ m (m - i)) (m + 1) = pw ψ m m - sm (fun i => cv F (dv ψ) i * pw ψ m (m - i)) (m + 1)
      have t := congrFun (cv_one (pw ψ m)) m
      have t2 : sm (fun i => sone i * pw ψ m (m - i)) (m + 1) = pw ψ m m := t
      have t3 := sm_add (fun i => (sone i - cv F (dv ψ) i) * pw ψ m (m - i)) (fun i => cv F (dv ψ) i * pw ψ m (m - i)) (m + 1)
      rw [sm_cg (f := fun i => (sone i - cv F (dv ψ) i) * pw ψ m (m - i) + cv F (dv ψ) i * pw ψ m (m - i)) (h := fun i => sone i * pw ψ m (m - i)) (m + 1) (fun i _ => by grind), t2] at t3
      grind
    rw [e3]
    cases m with
    | zero =>
      rw [if_pos (by omega)]
      have z : cv (cv F (dv ψ)) (pw ψ 0) 0 = 0 := by
        show cv (cv F (dv ψ)) sone 0 = 0
        rw [cv_oner]
        show sm (fun i => F i * dv ψ (0 - i)) 1 = 0
        simp only [sm]; rw [hF0]; grind
      rw [z]
      show (if (0 : Nat) = 0 then (1 : Fp) else 0) - 0 = 1
      rw [if_pos rfl]; grind
    | succ m =>
      rw [if_neg (by omega)]
      have e4 : cv (cv F (dv ψ)) (pw ψ (m + 1)) = cv sX (cv (pw ψ m) (dv ψ)) := by
        show cv (cv F (dv ψ)) (cv (pw ψ m) ψ) = _
        rw [← hX, cv_comm (pw ψ m) ψ, cv_assoc, cv_assoc]
        congr 1
        rw [cv_comm (dv ψ) (cv ψ (pw ψ m)), cv_assoc]
      rw [e4, cv_Xs]
      have e5 := congrFun (dv_pw ψ m) m
      have e6 : nF (m + 1) * pw ψ (m + 1) (m + 1) = nF (m + 1) * cv (pw ψ m) (dv ψ) m := e5
      have e7 := Fp_can (nF_ne (by omega) (by omega)) e6
      rw [e7]; grind
theorem lam_z {ψ a : Fs} (h0 : ψ 0 ≠ 0) {N : Nat} (h : ∀ n, 1 ≤ n → n ≤ N → lam ψ n a = 0) : ∀ j, j < N → a j = 0 := by
  intro j
  induction j using Nat.strongRecOn with
  | ind j ih =>
    intro hj
    have := h (j + 1) (by omega) (by omega)
    unfold lam at this
    rw [show j + 1 - 1 = j by omega] at this
    have t : sm (fun i => a i * pw ψ (j + 1) (j - i)) (j + 1) = 0 := this
    rw [sm_one (k := j) _ (by omega) (fun i hi hne => by rw [ih i (by omega) (by omega)]; grind), Nat.sub_self, pw_0] at t
    have p := Fp_pw h0 (j + 1)
    exact Fp_mul0 (by rw [← t]; grind) p
/-- Lagrange: by the powers of t through f, f is turned inside out -/
theorem lagr {φ ψ F h : Fs} (hi : cv φ ψ = sone) (hF : F = cv sX φ) (h0 : h 0 = 0) (hn : ∀ n, 1 ≤ n → n ≤ 8 → nF n * h n = pw ψ n (n - 1)) : e9 (cm h F) sX := by
  have hF0 : F 0 = 0 := by rw [hF]; exact cv_X0 φ
  have u0 : φ 0 * ψ 0 = 1 := by
    have := congrFun hi 0
    have t : sm (fun i => φ i * ψ (0 - i)) 1 = 1 := this
    simp only [sm] at t
    have t2 : (0 : Fp) + φ 0 * ψ 0 = 1 := t
    grind
  have hψ : ψ 0 ≠ 0 := fun e => one_ne (by rw [← u0, e]; grind)
  -- what each number of the derivative is
  have hD : ∀ j, dv (cm h F) j = sm (fun k => h (k + 1) * (nF (k + 1) * cv (pw F k) (dv F) j)) 8 := fun j => by
    show nF (j + 1) * sm (fun i => h i * pw F i (j + 1)) (8 + 1) = _
    have e0 : nF (j + 1) * sm (fun i => h i * pw F i (j + 1)) (8 + 1) = sm (fun i => nF (j + 1) * (h (i + 1) * pw F (i + 1) (j + 1))) 8 := by
      rw [sm_hd, h0, sm_mul]; grind
    rw [e0]
    exact sm_cg _ (fun k _ => by
      have := congrFun (dv_pw F k) j
      have t : nF (j + 1) * pw F (k + 1) (j + 1) = nF (k + 1) * cv (pw F k) (dv F) j := this
      (try dsimp only)
      grind)
  have hL : ∀ n, 1 ≤ n → n ≤ 8 → lam ψ n (fun j => dv (cm h F) j - sone j) = 0 := fun n h1 h8 => by
    have e1 : lam ψ n (dv (cm h F)) = sm (fun k => h (k + 1) * (nF (k + 1) * lam ψ n (cv (pw F k) (dv F)))) 8 := by
      show sm (fun i => dv (cm h F) i * pw ψ n (n - 1 - i)) (n - 1 + 1) = _
      have t : sm (fun i => dv (cm h F) i * pw ψ n (n - 1 - i)) (n - 1 + 1) = sm (fun i => sm (fun k => h (k + 1) * (nF (k + 1) * (cv (pw F k) (dv F) i * pw ψ n (n - 1 - i)))) 8) (n - 1 + 1) := sm_cg _ (fun i _ => by
        (try dsimp only)
        rw [hD i, ← sm_mulr]
        exact sm_cg _ (fun k _ => by (try dsimp only); grind))
      rw [t, sm_swap (fun i k => h (k + 1) * (nF (k + 1) * (cv (pw F k) (dv F) i * pw ψ n (n - 1 - i))))]
      exact sm_cg _ (fun k _ => by (try dsimp only); rw [sm_mul, sm_mul]; rfl)
    have e2 : lam ψ n (dv (cm h F)) = nF n * h n := by
      rw [e1, sm_one (k := n - 1) 8 (by omega) (fun k hk hne => by
        have := lam_1 hi hF (n := n) (k := k + 1) h1 h8 (by omega)
        rw [show k + 1 - 1 = k by omega, if_neg (by omega)] at this
        rw [this]; grind)]
      have := lam_1 hi hF (n := n) (k := n) h1 h8 h1
      rw [if_pos rfl] at this
      rw [this, show n - 1 + 1 = n by omega]; grind
    have e3 : lam ψ n (fun j => dv (cm h F) j - sone j) = lam ψ n (dv (cm h F)) - lam ψ n sone := by
      show sm (fun i => (dv (cm h F) i - sone i) * pw ψ n (n - 1 - i)) (n - 1 + 1) = sm (fun i => dv (cm h F) i * pw ψ n (n - 1 - i)) (n - 1 + 1) - sm (fun i => sone i * pw ψ n (n - 1 - i)) (n - 1 + 1)
      have t3 := sm_add (fun i => (dv (cm h F) i - sone i) * pw ψ n (n - 1 - i)) (fun i => sone i * pw ψ n (n - 1 - i)) (n - 1 + 1)
      rw [sm_cg (f := fun i => (dv (cm h F) i - sone i) * pw ψ n (n - 1 - i) + sone i * pw ψ n (n - 1 - i)) (h := fun i => dv (cm h F) i * pw ψ n (n - 1 - i)) _ (fun i _ => by grind)] at t3
      grind
    have e4 : lam ψ n sone = pw ψ n (n - 1) := by unfold lam; rw [cv_one]
    rw [e3, e2, e4, hn n h1 h8]; grind
  have hz := lam_z hψ hL
  intro k hk
  cases k with
  | zero =>
    show sm (fun i => h i * pw F i 0) 9 = 0
    exact sm_z _ (fun i _ => by
      cases i with
      | zero => rw [h0]; grind
      | succ i => rw [pw_ord hF0 (i + 1) 0 (by omega)]; grind)
  | succ k =>
    have t := hz k (by omega)
    have t2 : nF (k + 1) * cm h F (k + 1) = sone k := by
      have : dv (cm h F) k - sone k = 0 := t
      have u : nF (k + 1) * cm h F (k + 1) - sone k = 0 := this
      grind
    refine Fp_can (nF_ne (n := k + 1) (by omega) (by omega)) ?_
    rw [t2]
    unfold sone sX
    by_cases e : k = 0
    · subst e; rw [if_pos rfl, if_pos rfl, nF_1]; grind
    · rw [if_neg e, if_neg (by omega)]; grind
