/-! ===== a polynomial moved ===== -/
def mpF (a : Fp) (p : Fs) : Nat → Fp
  | 0 => p 8
  | t + 1 => p (7 - t) + a * mpF a p t
def msF (a : Fp) (p : Fs) : Nat → Fs
  | 0 => p
  | k + 1 => fun j => if j < k then msF a p k j else mpF a (msF a p k) (8 - j)
theorem mpv_i (a : Fp) (p : Fs) : ∀ t, mpv (iT a) (iS p) t = iT (mpF a p t)
  | 0 => rfl
  | t + 1 => by
    show fadd (iT (p (7 - t))) (fmul (iT a) (mpv (iT a) (iS p) t)) = _
    rw [mpv_i a p t, b_mul, b_add]; rfl
theorem mshf_i (a : Fp) (p : Fs) : ∀ k, mshf (iT a) (iS p) k = iS (msF a p k)
  | 0 => rfl
  | k + 1 => funext (fun j => by
    show (if j < k then mshf (iT a) (iS p) k j else mpv (iT a) (mshf (iT a) (iS p) k) (8 - j)) = iT (if j < k then msF a p k j else mpF a (msF a p k) (8 - j))
    rw [mshf_i a p k, mpv_i]
    by_cases e : j < k
    · rw [if_pos e, if_pos e]; rfl
    · rw [if_neg e, if_neg e])
def cF : Nat → Nat → Fp
  | 0, m => if m = 0 then 1 else 0
  | k + 1, m => sm (fun i => cF k (m - i)) (m + 1)
theorem mpF_eq (a : Fp) (p : Fs) : ∀ t, t ≤ 8 → mpF a p t = sm (fun i => a ^ i * p (8 - t + i)) (t + 1)
  | 0, _ => by simp only [sm, mpF]; grind
  | t + 1, h => by
    rw [sm_hd]
    show p (7 - t) + a * mpF a p t = _
    rw [mpF_eq a p t (by omega), ← sm_mul, show 8 - (t + 1) + 0 = 7 - t by omega, sm_cg (f := fun i => a * (a ^ i * p (8 - t + i))) (h := fun i => a ^ (i + 1) * p (8 - (t + 1) + (i + 1))) (t + 1) (fun i _ => by
      (try dsimp only)
      rw [show 8 - (t + 1) + (i + 1) = 8 - t + i by omega]; grind)]
    grind
theorem msF_eq (a : Fp) (p : Fs) : ∀ k j, k ≤ j + 1 → j ≤ 8 → msF a p k j = sm (fun i => cF k i * (a ^ i * p (j + i))) (9 - j)
  | 0, j, _, hj => by
    rw [sm_one (k := 0) (9 - j) (by omega) (fun i _ h => by show (if i = 0 then (1 : Fp) else 0) * _ = 0; rw [if_neg h]; grind)]
    show p j = (if (0 : Nat) = 0 then (1 : Fp) else 0) * (a ^ 0 * p (j + 0))
    rw [if_pos rfl, Nat.add_zero]; grind
  | k + 1, j, hk, hj => by
    show (if j < k then msF a p k j else mpF a (msF a p k) (8 - j)) = _
    rw [if_neg (by omega), mpF_eq a _ (8 - j) (by omega), show 8 - j + 1 = 9 - j by omega]
    have e1 : sm (fun i => a ^ i * msF a p k (8 - (8 - j) + i)) (9 - j) = sm (fun i => sm (fun l => cF k (i + l - i) * (a ^ (i + l) * p (j + (i + l)))) (9 - j - i)) (9 - j) := sm_cg _ (fun i hi => by
      (try dsimp only)
      rw [show 8 - (8 - j) + i = j + i by omega, msF_eq a p k (j + i) (by omega) (by omega), ← sm_mul, show 9 - (j + i) = 9 - j - i by omega]
      refine sm_cg _ (fun l _ => ?_)
      show a ^ i * (cF k l * (a ^ l * p (j + i + l))) = cF k (i + l - i) * (a ^ (i + l) * p (j + (i + l)))
      rw [show i + l - i = l by omega, Nat.add_assoc]
      have : a ^ (i + l) = a ^ i * a ^ l := by grind
      rw [this]; grind)
    rw [e1, ← sm_tri (fun m i => cF k (m - i) * (a ^ m * p (j + m))) (9 - j)]
    refine sm_cg _ (fun m _ => ?_)
    (try dsimp only)
    rw [sm_mulr]; rfl
theorem msF_st (a : Fp) (p : Fs) (j : Nat) : ∀ k, j < k → msF a p k j = msF a p (j + 1) j
  | 0, h => by omega
  | k + 1, h => by
    by_cases e : j = k
    · subst e; rfl
    · show (if j < k then msF a p k j else _) = _
      rw [if_pos (by omega)]; exact msF_st a p j k (by omega)
theorem cF_i : ∀ j, j < 9 → ∀ i, i < 9 → j + i < 9 → cF (j + 1) i = exF i * fal j i := by decide +kernel
theorem mshift_i (a : Fp) (p : Fs) : eq9 (mshift (iT a) (iS p)) (iS (tk (exA a) p)) := fun j hj => by
  unfold mshift
  rw [mshf_i]
  show iT (msF a p 9 j) = iT (sm (fun i => a ^ i * exF i * (fal j i * p (j + i))) (9 - j))
  rw [msF_st a p j 9 (by omega), msF_eq a p (j + 1) j (by omega) (by omega)]
  congr 1
  refine sm_cg _ (fun i hi => ?_)
  (try dsimp only)
  rw [cF_i j hj i (by omega) (by omega)]; grind
