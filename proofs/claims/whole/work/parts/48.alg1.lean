/-! ===== sums and series over the numbers modulo 9973 ===== -/
abbrev Fp : Type := Fin 9973
abbrev Fs : Type := Nat → Fp
def sm (f : Nat → Fp) : Nat → Fp
  | 0 => 0
  | n + 1 => sm f n + f n
theorem sm_cg {f h : Nat → Fp} : ∀ n, (∀ i, i < n → f i = h i) → sm f n = sm h n
  | 0, _ => rfl
  | n + 1, e => by simp only [sm]; rw [sm_cg n (fun i hi => e i (by omega)), e n (by omega)]
theorem sm_add (f h : Nat → Fp) : ∀ n, sm (fun i => f i + h i) n = sm f n + sm h n
  | 0 => by simp only [sm]; grind
  | n + 1 => by simp only [sm]; rw [sm_add f h n]; grind
theorem sm_mul (c : Fp) (f : Nat → Fp) : ∀ n, sm (fun i => c * f i) n = c * sm f n
  | 0 => by simp only [sm]; grind
  | n + 1 => by simp only [sm]; rw [sm_mul c f n]; grind
theorem sm_mulr (c : Fp) (f : Nat → Fp) (n : Nat) : sm (fun i => f i * c) n = sm f n * c := by
  rw [show (fun i => f i * c) = fun i => c * f i from funext (fun i => by grind), sm_mul]; grind
theorem sm_z {f : Nat → Fp} : ∀ n, (∀ i, i < n → f i = 0) → sm f n = 0
  | 0, _ => rfl
  | n + 1, e => by simp only [sm]; rw [sm_z n (fun i hi => e i (by omega)), e n (by omega)]; grind
theorem sm_hd (f : Nat → Fp) : ∀ n, sm f (n + 1) = f 0 + sm (fun i => f (i + 1)) n
  | 0 => by simp only [sm]; grind
  | n + 1 => by rw [sm, sm_hd f n]; simp only [sm]; grind
theorem sm_app (f : Nat → Fp) (m : Nat) : ∀ n, sm f (m + n) = sm f m + sm (fun i => f (m + i)) n
  | 0 => by simp only [sm, Nat.add_zero]; grind
  | n + 1 => by rw [← Nat.add_assoc]; simp only [sm]; rw [sm_app f m n]; grind
theorem sm_rev : ∀ n (f : Nat → Fp), sm f n = sm (fun i => f (n - 1 - i)) n
  | 0, _ => rfl
  | n + 1, f => by
    rw [sm_hd, sm_rev n (fun i => f (i + 1))]
    simp only [sm]
    rw [show n + 1 - 1 - n = 0 by omega, sm_cg (f := fun i => f (n - 1 - i + 1)) (h := fun i => f (n + 1 - 1 - i)) n (fun i hi => by rw [show n - 1 - i + 1 = n + 1 - 1 - i by omega])]
    grind
theorem sm_swap (G : Nat → Nat → Fp) (m : Nat) : ∀ n, sm (fun i => sm (fun j => G i j) m) n = sm (fun j => sm (fun i => G i j) n) m
  | 0 => by simp only [sm]; exact (sm_z m (fun _ _ => rfl)).symm
  | n + 1 => by simp only [sm]; rw [sm_swap G m n, ← sm_add]
/-- a triangle, by its other side -/
theorem sm_tri (G : Nat → Nat → Fp) : ∀ n, sm (fun i => sm (fun j => G i j) (i + 1)) n = sm (fun j => sm (fun k => G (j + k) j) (n - j)) n
  | 0 => rfl
  | n + 1 => by
    show sm (fun i => sm (fun j => G i j) (i + 1)) n + sm (fun j => G n j) (n + 1) = sm (fun j => sm (fun k => G (j + k) j) (n + 1 - j)) n + sm (fun k => G (n + k) n) (n + 1 - n)
    rw [sm_tri G n, show n + 1 - n = 1 by omega]
    simp only [sm, Nat.add_zero]
    have e : sm (fun j => sm (fun k => G (j + k) j) (n + 1 - j)) n = sm (fun j => sm (fun k => G (j + k) j) (n - j) + G n j) n := sm_cg n (fun j hj => by
      show sm (fun k => G (j + k) j) (n + 1 - j) = _
      rw [show n + 1 - j = (n - j) + 1 by omega]
      simp only [sm]
      rw [show j + (n - j) = n by omega])
    rw [e, sm_add]
    have z : sm (fun j => G n j) n = sm (fun i => G n i) n := rfl
    grind
theorem sm_one {f : Nat → Fp} {k : Nat} : ∀ n, k < n → (∀ i, i < n → i ≠ k → f i = 0) → sm f n = f k
  | 0, h, _ => by omega
  | n + 1, h, e => by
    simp only [sm]
    by_cases q : k = n
    · subst q
      rw [sm_z k (fun i hi => e i (by omega) (by omega))]; grind
    · rw [sm_one n (by omega) (fun i hi hk => e i (by omega) hk), e n (by omega) (by omega)]; grind
def cv (a b : Fs) : Fs := fun n => sm (fun i => a i * b (n - i)) (n + 1)
def sone : Fs := fun k => if k = 0 then 1 else 0
def sX : Fs := fun k => if k = 1 then 1 else 0
def sad (a b : Fs) : Fs := fun k => a k + b k
def smn (k : Nat) (c : Fp) : Fs := fun j => if j = k then c else 0
theorem cv_comm (a b : Fs) : cv a b = cv b a := by
  funext n
  unfold cv
  rw [sm_rev]
  exact sm_cg _ (fun i hi => by
    show a (n + 1 - 1 - i) * b (n - (n + 1 - 1 - i)) = b i * a (n - i)
    rw [show n - (n + 1 - 1 - i) = i by omega, show n + 1 - 1 - i = n - i by omega]; grind)
theorem cv_assoc (a b c : Fs) : cv (cv a b) c = cv a (cv b c) := by
  funext n
  show sm (fun i => sm (fun j => a j * b (i - j)) (i + 1) * c (n - i)) (n + 1) = sm (fun j => a j * sm (fun k => b k * c (n - j - k)) (n - j + 1)) (n + 1)
  have e1 : sm (fun i => sm (fun j => a j * b (i - j)) (i + 1) * c (n - i)) (n + 1) = sm (fun i => sm (fun j => a j * b (i - j) * c (n - i)) (i + 1)) (n + 1) := sm_cg _ (fun i _ => by (try dsimp only); rw [sm_mulr])
  rw [e1, sm_tri (fun i j => a j * b (i - j) * c (n - i)) (n + 1)]
  exact sm_cg _ (fun j hj => by
    show sm (fun k => a j * b (j + k - j) * c (n - (j + k))) (n + 1 - j) = a j * sm (fun k => b k * c (n - j - k)) (n - j + 1)
    rw [← sm_mul, show n + 1 - j = n - j + 1 by omega]
    exact sm_cg _ (fun k _ => by
      show a j * b (j + k - j) * c (n - (j + k)) = a j * (b k * c (n - j - k))
      rw [show j + k - j = k by omega, show n - (j + k) = n - j - k by omega]; grind))
theorem cv_add (a b c : Fs) : cv (sad a b) c = sad (cv a c) (cv b c) := by
  funext n
  show sm (fun i => (a i + b i) * c (n - i)) (n + 1) = sm (fun i => a i * c (n - i)) (n + 1) + sm (fun i => b i * c (n - i)) (n + 1)
  rw [← sm_add]
  exact sm_cg _ (fun i _ => by (try dsimp only); grind)
theorem cv_one (a : Fs) : cv sone a = a := by
  funext n
  unfold cv
  rw [sm_one (k := 0) (n + 1) (by omega) (fun i _ h => by unfold sone; rw [if_neg h]; grind)]
  unfold sone
  rw [if_pos rfl, Nat.sub_zero]; grind
theorem cv_oner (a : Fs) : cv a sone = a := by rw [cv_comm, cv_one]
def pw (a : Fs) : Nat → Fs
  | 0 => sone
  | n + 1 => cv (pw a n) a
theorem pw_add (a : Fs) (m : Nat) : ∀ n, pw a (m + n) = cv (pw a m) (pw a n)
  | 0 => by show pw a m = cv (pw a m) sone; rw [cv_oner]
  | n + 1 => by show cv (pw a (m + n)) a = cv (pw a m) (cv (pw a n) a); rw [pw_add a m n, cv_assoc]
theorem pw_ord {a : Fs} (h : a 0 = 0) : ∀ n k, k < n → pw a n k = 0
  | 0, k, hk => by omega
  | n + 1, k, hk => sm_z _ (fun i hi => by
      by_cases e : i < n
      · show pw a n i * a (k - i) = 0
        rw [pw_ord h n i e]; grind
      · show pw a n i * a (k - i) = 0
        rw [show k - i = 0 by omega, h]; grind)
def e9 (a b : Fs) : Prop := ∀ k, k < 9 → a k = b k
theorem e9.rf {a : Fs} : e9 a a := fun _ _ => rfl
theorem e9.sy {a b : Fs} (h : e9 a b) : e9 b a := fun k hk => (h k hk).symm
theorem e9.tr {a b c : Fs} (h : e9 a b) (h2 : e9 b c) : e9 a c := fun k hk => (h k hk).trans (h2 k hk)
theorem cv_cg {a a' b b' : Fs} (h : e9 a a') (h2 : e9 b b') : e9 (cv a b) (cv a' b') := fun n hn => sm_cg _ (fun i hi => by
  show a i * b (n - i) = a' i * b' (n - i)
  rw [h i (by omega), h2 (n - i) (by omega)])
theorem pw_cg {a a' : Fs} (h : e9 a a') : ∀ n, e9 (pw a n) (pw a' n)
  | 0 => e9.rf
  | n + 1 => cv_cg (pw_cg h n) h
/-- a with b put into it -/
def cm (a b : Fs) : Fs := fun n => sm (fun i => a i * pw b i n) 9
theorem cm_cg {a a' b b' : Fs} (h : e9 a a') (h2 : e9 b b') : e9 (cm a b) (cm a' b') := fun n hn => sm_cg _ (fun i hi => by
  show a i * pw b i n = a' i * pw b' i n
  rw [h i hi, pw_cg h2 i n hn])
theorem cm_mul {a c b : Fs} (hb : b 0 = 0) : e9 (cm (cv a c) b) (cv (cm a b) (cm c b)) := fun n hn => by
  -- right
  have r : cv (cm a b) (cm c b) n = sm (fun j => sm (fun k => a j * c k * pw b (j + k) n) 9) 9 := by
    show sm (fun i => sm (fun j => a j * pw b j i) 9 * sm (fun k => c k * pw b k (n - i)) 9) (n + 1) = _
    have e1 : sm (fun i => sm (fun j => a j * pw b j i) 9 * sm (fun k => c k * pw b k (n - i)) 9) (n + 1) = sm (fun i => sm (fun j => sm (fun k => a j * c k * (pw b j i * pw b k (n - i))) 9) 9) (n + 1) := sm_cg _ (fun i _ => by
      (try dsimp only)
      rw [← sm_mulr]
      exact sm_cg _ (fun j _ => by
        (try dsimp only)
        rw [← sm_mul]
        exact sm_cg _ (fun k _ => by (try dsimp only); grind)))
    rw [e1, sm_swap (fun i j => sm (fun k => a j * c k * (pw b j i * pw b k (n - i))) 9)]
    refine sm_cg _ (fun j _ => ?_)
    (try dsimp only)
    rw [sm_swap (fun i k => a j * c k * (pw b j i * pw b k (n - i)))]
    refine sm_cg _ (fun k _ => ?_)
    (try dsimp only)
    rw [sm_mul, pw_add]; rfl
  rw [r]
  show sm (fun i => sm (fun j => a j * c (i - j)) (i + 1) * pw b i n) 9 = _
  have e2 : sm (fun i => sm (fun j => a j * c (i - j)) (i + 1) * pw b i n) 9 = sm (fun i => sm (fun j => a j * c (i - j) * pw b i n) (i + 1)) 9 := sm_cg _ (fun i _ => by (try dsimp only); rw [sm_mulr])
  rw [e2, sm_tri (fun i j => a j * c (i - j) * pw b i n) 9]
  refine sm_cg _ (fun j hj => ?_)
  (try dsimp only)
  have e3 : sm (fun k => a j * c k * pw b (j + k) n) 9 = sm (fun k => a j * c k * pw b (j + k) n) (9 - j) + sm (fun k => a j * c (9 - j + k) * pw b (j + (9 - j + k)) n) j := by
    have := sm_app (fun k => a j * c k * pw b (j + k) n) (9 - j) j
    rw [show 9 - j + j = 9 by omega] at this
    exact this
  rw [e3, sm_z j (fun k hk => by (try dsimp only); rw [pw_ord hb _ n (by omega)]; grind)]
  have e4 : sm (fun k => a j * c (j + k - j) * pw b (j + k) n) (9 - j) = sm (fun k => a j * c k * pw b (j + k) n) (9 - j) := sm_cg _ (fun k _ => by (try dsimp only); rw [show j + k - j = k by omega])
  rw [e4]; grind
theorem cm_one (b : Fs) : cm sone b = sone := by
  funext n
  show sm (fun i => sone i * pw b i n) 9 = _
  rw [sm_one (k := 0) 9 (by decide) (fun i _ h => by unfold sone; rw [if_neg h]; grind)]
  show sone 0 * sone n = _
  unfold sone; rw [if_pos rfl]; grind
theorem cm_X (b : Fs) : cm sX b = b := by
  funext n
  show sm (fun i => sX i * pw b i n) 9 = _
  rw [sm_one (k := 1) 9 (by decide) (fun i _ h => by unfold sX; rw [if_neg h]; grind)]
  show sX 1 * cv sone b n = _
  rw [cv_one]; unfold sX; rw [if_pos rfl]; grind
theorem cm_pw {a b : Fs} (hb : b 0 = 0) : ∀ n, e9 (cm (pw a n) b) (pw (cm a b) n)
  | 0 => by show e9 (cm sone b) sone; rw [cm_one]; exact e9.rf
  | n + 1 => (cm_mul hb).tr (cv_cg (cm_pw hb n) e9.rf)
theorem cm_assoc {a b c : Fs} (hc : c 0 = 0) : e9 (cm (cm a b) c) (cm a (cm b c)) := fun n hn => by
  show sm (fun m => sm (fun i => a i * pw b i m) 9 * pw c m n) 9 = sm (fun i => a i * pw (cm b c) i n) 9
  have e1 : sm (fun m => sm (fun i => a i * pw b i m) 9 * pw c m n) 9 = sm (fun m => sm (fun i => a i * (pw b i m * pw c m n)) 9) 9 := sm_cg _ (fun m _ => by
    (try dsimp only)
    rw [← sm_mulr]
    exact sm_cg _ (fun i _ => by (try dsimp only); grind))
  rw [e1, sm_swap (fun m i => a i * (pw b i m * pw c m n))]
  refine sm_cg _ (fun i _ => ?_)
  (try dsimp only)
  rw [sm_mul, ← cm_pw hc i n hn]; rfl
/-- powers of one power alone -/
theorem pw_mn (c : Fp) : ∀ i n, pw (smn 1 c) i n = if n = i then c ^ i else 0
  | 0, n => by
    show sone n = _
    unfold sone
    by_cases h : n = 0
    · rw [if_pos h, if_pos h]; grind
    · rw [if_neg h, if_neg h]
  | i + 1, n => by
    show sm (fun j => pw (smn 1 c) i j * smn 1 c (n - j)) (n + 1) = _
    by_cases h : n = i + 1
    · subst h
      rw [sm_one (k := i) _ (by omega) (fun j _ hj => by rw [pw_mn c i j, if_neg hj]; grind), pw_mn c i i, if_pos rfl, if_pos rfl]
      unfold smn
      rw [if_pos (by omega)]; grind
    · rw [if_neg h, sm_z _ (fun j hj => by
        rw [pw_mn c i j]
        unfold smn
        by_cases q : j = i
        · rw [if_pos q, if_neg (show ¬ n - j = 1 by omega)]; grind
        · rw [if_neg q]; grind)]
theorem sX_mn : sX = smn 1 1 := rfl
theorem cm_mn {a : Fs} {c : Fp} {n : Nat} (hn : n < 9) : cm a (smn 1 c) n = a n * c ^ n := by
  show sm (fun i => a i * pw (smn 1 c) i n) 9 = _
  rw [sm_one (k := n) 9 hn (fun i _ h => by rw [pw_mn, if_neg (fun q => h q.symm)]; grind), pw_mn, if_pos rfl]
theorem one_pw : ∀ n : Nat, (1 : Fp) ^ n = 1
  | 0 => by grind
  | n + 1 => by have := one_pw n; grind
theorem cm_Xr (a : Fs) : e9 (cm a sX) a := fun n hn => by
  rw [sX_mn, cm_mn hn, one_pw]; grind
/-- what is left inverse and what is right inverse are one -/
theorem cm_inv {f h1 h2 : Fs} (h0 : h1 0 = 0) (r : e9 (cm f h1) sX) (l : e9 (cm h2 f) sX) : e9 h2 h1 :=
  ((((cm_Xr h2).sy.tr (cm_cg e9.rf r.sy)).tr (cm_assoc h0).sy).tr (cm_cg l e9.rf)).tr (by rw [cm_X]; exact e9.rf)
/-! ===== by what a number is to be taken to make 1 ===== -/
def mm (a b : Nat) : Nat := Nat.mod (Nat.mul a b) 9973
def pwN : Nat → Nat → Nat → Nat → Nat
  | 0, _, r, _ => r
  | f + 1, e, r, s => if e = 0 then r else pwN f (e / 2) (if e % 2 = 1 then mm r s else r) (mm s s)
def ivOk (a : Nat) : Bool := Nat.beq (mm a (pwN 14 9971 1 a)) 1
def ivAll : Nat → Nat → Bool
  | 0, a => or (Nat.beq a 0) (or (Nat.ble 9973 a) (ivOk a))
  | d + 1, a => and (ivAll d (Nat.mul 2 a)) (ivAll d (Nat.succ (Nat.mul 2 a)))
theorem ivAll_ok : ∀ d a, ivAll d a = true → ∀ x, x < 2 ^ d → ivAll 0 (2 ^ d * a + x) = true
  | 0, a, h, x, hx => by
    have : x = 0 := by simpa using hx
    subst this; simpa using h
  | d + 1, a, h, x, hx => by
    have h2 : (ivAll d (Nat.mul 2 a) && ivAll d (Nat.succ (Nat.mul 2 a))) = true := h
    rw [Bool.and_eq_true] at h2
    rw [Nat.pow_succ] at hx ⊢
    by_cases q : x < 2 ^ d
    · have := ivAll_ok d _ h2.1 x q
      rw [show 2 ^ d * 2 * a + x = 2 ^ d * (Nat.mul 2 a) + x by show _ = 2 ^ d * (2 * a) + x; rw [Nat.mul_assoc]]
      exact this
    · have := ivAll_ok d _ h2.2 (x - 2 ^ d) (by omega)
      rw [show 2 ^ d * 2 * a + x = 2 ^ d * (Nat.succ (Nat.mul 2 a)) + (x - 2 ^ d) by show _ = 2 ^ d * (2 * a + 1) + (x - 2 ^ d); rw [Nat.mul_add, Nat.mul_assoc]; omega]
      exact this
theorem ivAll_14 : ivAll 14 0 = true := by decide +kernel
theorem pwN_inv {a : Nat} (h0 : a ≠ 0) (h : a < 9973) : a * pwN 14 9971 1 a % 9973 = 1 := by
  have := ivAll_ok 14 0 ivAll_14 a (by omega)
  rw [Nat.mul_zero, Nat.zero_add] at this
  have e : (or (Nat.beq a 0) (or (Nat.ble 9973 a) (ivOk a))) = true := this
  rw [Bool.or_eq_true, Bool.or_eq_true] at e
  rcases e with e | e | e
  · exact absurd (Nat.eq_of_beq_eq_true e) h0
  · have := Nat.le_of_ble_eq_true e; omega
  · exact Nat.eq_of_beq_eq_true e
