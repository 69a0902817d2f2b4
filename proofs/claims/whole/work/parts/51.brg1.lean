/-! ===== the ints that stand for the numbers ===== -/
def iT (a : Fp) : Int32 := nI a.val
def iS (a : Fs) : Ser := fun k => iT (a k)
theorem nI_mulN (a b : Nat) : nI a * nI b = nI (a * b) := (Int32.ofNat_mul a b).symm
theorem nI_subN {a b : Nat} (h : b ≤ a) : nI a - nI b = nI (a - b) := by
  have : nI a = nI (a - b) + nI b := by rw [nI_add, Nat.sub_add_cancel h]
  rw [this, Int32.add_sub_cancel]
theorem rem9_nI {k : Nat} (h : k < 2 ^ 31) : rem9 (nI k) = nI (k % 9973) := by
  unfold rem9
  rw [pk_div h (by decide) (by decide), nI_mulN, nI_subN (Nat.div_mul_le_self k 9973)]
  congr 1
  omega
theorem b_add (a b : Fp) : fadd (iT a) (iT b) = iT (a + b) := by
  unfold fadd iT
  rw [nI_add, rem9_nI (by omega)]; rfl
theorem b_sub (a b : Fp) : fsub (iT a) (iT b) = iT (a - b) := by
  unfold fsub iT
  have e : nI a.val - nI b.val + nI 9973 = nI (9973 - b.val + a.val) := by
    have : nI a.val + nI 9973 - nI b.val = nI (a.val + 9973 - b.val) := by rw [nI_add, nI_subN (by omega)]
    rw [show 9973 - b.val + a.val = a.val + 9973 - b.val by omega, ← this, Int32.sub_eq_add_neg, Int32.sub_eq_add_neg, Int32.add_assoc, Int32.add_assoc, Int32.add_comm (nI 9973)]
  rw [e, rem9_nI (by omega)]; rfl
theorem b_mulN {a b : Nat} (ha : a < 9973) (hb : b < 9973) : fmul (nI a) (nI b) = nI (mm a b) := by
  unfold fmul
  have : a * b < 9973 * 9973 := Nat.mul_lt_mul'' ha hb
  rw [nI_mulN, rem9_nI (by omega)]; rfl
theorem b_mul (a b : Fp) : fmul (iT a) (iT b) = iT (a * b) := b_mulN a.isLt b.isLt
theorem mm_lt (a b : Nat) : mm a b < 9973 := Nat.mod_lt _ (by decide)
theorem pwl_i : ∀ f e r s, r < 9973 → s < 9973 → pwl f e (nI r) (nI s) = nI (pwN f e r s) ∧ pwN f e r s < 9973
  | 0, e, r, s, hr, hs => ⟨rfl, hr⟩
  | f + 1, e, r, s, hr, hs => by
    unfold pwl pwN
    by_cases h : e = 0
    · rw [if_pos h, if_pos h]; exact ⟨rfl, hr⟩
    · rw [if_neg h, if_neg h, b_mulN hr hs, b_mulN hs hs]
      by_cases h2 : e % 2 = 1
      · rw [if_pos h2, if_pos h2]; exact pwl_i f _ _ _ (mm_lt _ _) (mm_lt _ _)
      · rw [if_neg h2, if_neg h2]; exact pwl_i f _ _ _ hr (mm_lt _ _)
theorem b_inv (a : Fp) : finv (iT a) = iT (iF a) := by
  have := pwl_i 14 9971 1 a.val (by decide) a.isLt
  show pwl 14 9971 (nI 1) (nI a.val) = nI (pwN 14 9971 1 a.val % 9973)
  rw [this.1, Nat.mod_eq_of_lt this.2]
theorem b_n {k : Nat} (h : k < 9973) : nI k = iT (nF k) := by
  show nI k = nI (k % 9973)
  rw [Nat.mod_eq_of_lt h]
theorem b_0 : nI 0 = iT 0 := rfl
theorem b_1 : nI 1 = iT 1 := rfl
theorem b_inj {a b : Fp} (h : iT a = iT b) : a = b := Fin.ext ((nI_eq (by omega) (by omega)).mp h)
theorem b_z {a : Fp} : iT a = 0 ↔ a = 0 := ⟨fun h => b_inj h, fun h => by rw [h]; rfl⟩
/-! ===== series of them ===== -/
theorem cvl_i (a b : Fs) (n : Nat) : ∀ j, cvl (iS a) (iS b) n j = iT (sm (fun i => a i * b (n - i)) j)
  | 0 => rfl
  | j + 1 => by simp only [cvl, sm]; rw [cvl_i a b n j]; show fadd _ (fmul (iT (a j)) (iT (b (n - j)))) = _; rw [b_mul, b_add]
theorem fprod_i (a b : Fs) : fprod (iS a) (iS b) = iS (cv a b) := funext (fun n => cvl_i a b n (n + 1))
theorem mono_i (k : Nat) (c : Fp) : mono k (iT c) = iS (smn k c) := funext (fun j => by
  show (if j = k then iT c else nI 0) = iT (if j = k then c else 0)
  by_cases h : j = k
  · rw [if_pos h, if_pos h]
  · rw [if_neg h, if_neg h]; rfl)
theorem mono1_i : mono 0 (nI 1) = iS sone := mono_i 0 1
theorem monoX_i : mono 1 (nI 1) = iS sX := mono_i 1 1
theorem fpow_i (a : Fs) : ∀ n, fpow (iS a) n = iS (pw a n)
  | 0 => mono1_i
  | n + 1 => by show fprod (fpow (iS a) n) (iS a) = _; rw [fpow_i a n, fprod_i]; rfl
def ad0 (a : Fs) (x : Fp) : Fs := fun k => if k = 0 then a 0 + x else a k
theorem fad0_i (a : Fs) (x : Fp) : fad0 (iS a) (iT x) = iS (ad0 a x) := funext (fun k => by
  show (if k = 0 then fadd (iT (a 0)) (iT x) else iT (a k)) = iT (if k = 0 then a 0 + x else a k)
  by_cases h : k = 0
  · rw [if_pos h, if_pos h, b_add]
  · rw [if_neg h, if_neg h])
/-- the highest j of a's numbers, with b put in -/
def hnF (a b : Fs) (j : Nat) : Fs := fun n => sm (fun i => a (9 - j + i) * pw b i n) j
theorem hnF_s (a b : Fs) {j : Nat} (hj : j < 9) : hnF a b (j + 1) = ad0 (cv (hnF a b j) b) (a (8 - j)) := by
  funext n
  have e1 : cv (hnF a b j) b n = sm (fun i => a (9 - j + i) * pw b (i + 1) n) j := by
    show sm (fun q => sm (fun i => a (9 - j + i) * pw b i q) j * b (n - q)) (n + 1) = _
    have e : sm (fun q => sm (fun i => a (9 - j + i) * pw b i q) j * b (n - q)) (n + 1) = sm (fun q => sm (fun i => a (9 - j + i) * (pw b i q * b (n - q))) j) (n + 1) := sm_cg _ (fun q _ => by
      (try dsimp only)
      rw [← sm_mulr]
      exact sm_cg _ (fun i _ => by (try dsimp only); grind))
    rw [e, sm_swap (fun q i => a (9 - j + i) * (pw b i q * b (n - q)))]
    exact sm_cg _ (fun i _ => by (try dsimp only); rw [sm_mul]; rfl)
  have e2 : hnF a b (j + 1) n = a (8 - j) * sone n + sm (fun i => a (9 - j + i) * pw b (i + 1) n) j := by
    show sm (fun i => a (9 - (j + 1) + i) * pw b i n) (j + 1) = _
    rw [sm_hd]
    show a (9 - (j + 1) + 0) * sone n + sm (fun i => a (9 - (j + 1) + (i + 1)) * pw b (i + 1) n) j = _
    rw [show 9 - (j + 1) + 0 = 8 - j by omega, sm_cg (f := fun i => a (9 - (j + 1) + (i + 1)) * pw b (i + 1) n) (h := fun i => a (9 - j + i) * pw b (i + 1) n) j (fun i _ => by rw [show 9 - (j + 1) + (i + 1) = 9 - j + i by omega])]
  rw [e2]
  unfold ad0 sone
  by_cases h : n = 0
  · subst h; rw [if_pos rfl, if_pos rfl, e1]; grind
  · rw [if_neg h, if_neg h, e1]; grind
theorem hnF_9 (a b : Fs) : hnF a b 9 = cm a b := funext (fun n => sm_cg _ (fun i _ => by (try dsimp only); rw [show 9 - 9 + i = i by omega]))
theorem pin_i (h m : Fs) : ∀ j, j ≤ 8 → pin (iS h) (iS m) j = iS (hnF h m (j + 1))
  | 0, _ => by
    show mono 0 (iT (h 8)) = _
    rw [mono_i]
    congr 1
    funext n
    show (if n = 0 then h 8 else 0) = 0 + h 8 * (if n = 0 then (1 : Fp) else 0)
    by_cases e : n = 0
    · rw [if_pos e, if_pos e]; grind
    · rw [if_neg e, if_neg e]; grind
  | j + 1, hj => by
    show fad0 (fprod (pin (iS h) (iS m) j) (iS m)) (iT (h (7 - j))) = _
    rw [pin_i h m j (by omega), fprod_i, fad0_i, hnF_s h m (show j + 1 < 9 by omega), show 8 - (j + 1) = 7 - j by omega]
theorem fput_i (h m : Fs) : fput (iS h) (iS m) = iS (cm h m) := by
  unfold fput; rw [pin_i h m 8 (Nat.le_refl _), hnF_9]
theorem mpin_i (h m : Fs) : ∀ j, j ≤ 9 → mpin (iS h) (iS m) j = iS (hnF h m j)
  | 0, _ => rfl
  | j + 1, hj => by
    show fad0 (fprod (mpin (iS h) (iS m) j) (iS m)) (iT (h (8 - j))) = _
    rw [mpin_i h m j (by omega), fprod_i, fad0_i, hnF_s h m (by omega)]
theorem mput_i (h m : Fs) : mput (iS h) (iS m) = iS (cm h m) := by
  unfold mput; rw [mpin_i h m 9 (Nat.le_refl _), hnF_9]
/-! one series by another -/
theorem dl_i (r h m : Fs) (n : Nat) : ∀ j, dl (iS r) (iS h) (iS m) n j = iT (h n - sm (fun i => m (i + 1) * r (n - (i + 1))) j)
  | 0 => by show iT (h n) = _; congr 1; simp only [sm]; grind
  | j + 1 => by
    simp only [dl, sm]; rw [dl_i r h m n j]
    show fsub _ (fmul (iT (m (j + 1))) (iT (r (n - (j + 1))))) = _
    rw [b_mul, b_sub]; congr 1; grind
def dsF (h m : Fs) (c : Fp) : Nat → Fs
  | 0 => fun _ => 0
  | n + 1 => fun k => if k = n then (h n - sm (fun i => m (i + 1) * dsF h m c n (n - (i + 1))) n) * c else dsF h m c n k
def sDv (h m : Fs) : Fs := fun k => dsF h m (iF (m 0)) (k + 1) k
theorem dsF_st (h m : Fs) (c : Fp) (k : Nat) : ∀ n, k < n → dsF h m c n k = dsF h m c (k + 1) k
  | 0, hk => by omega
  | n + 1, hk => by
    by_cases e : k = n
    · subst e; rfl
    · show (if k = n then _ else dsF h m c n k) = _
      rw [if_neg e]; exact dsF_st h m c k n (by omega)
theorem sDv_eq (h m : Fs) (n : Nat) : sDv h m n = (h n - sm (fun i => m (i + 1) * sDv h m (n - (i + 1))) n) * iF (m 0) := by
  show (if n = n then (h n - sm (fun i => m (i + 1) * dsF h m (iF (m 0)) n (n - (i + 1))) n) * iF (m 0) else _) = _
  rw [if_pos rfl, sm_cg (f := fun i => m (i + 1) * dsF h m (iF (m 0)) n (n - (i + 1))) (h := fun i => m (i + 1) * sDv h m (n - (i + 1))) n (fun i hi => by
    (try dsimp only)
    rw [dsF_st h m _ (n - (i + 1)) n (by omega)]; rfl)]
theorem sDv_ok {h m : Fs} (h0 : m 0 ≠ 0) : cv (sDv h m) m = h := by
  rw [cv_comm]
  funext n
  show sm (fun i => m i * sDv h m (n - i)) (n + 1) = h n
  rw [sm_hd, Nat.sub_zero]
  have e := sDv_eq h m n
  have i1 := iF_ok h0
  generalize sm (fun i => m (i + 1) * sDv h m (n - (i + 1))) n = z at e ⊢
  grind
theorem dvs_i (h m : Fs) (c : Fp) : ∀ n, dvs (iS h) (iS m) (iT c) n = iS (dsF h m c n)
  | 0 => rfl
  | n + 1 => funext (fun k => by
    show (if k = n then fmul (dl (dvs (iS h) (iS m) (iT c) n) (iS h) (iS m) n n) (iT c) else dvs (iS h) (iS m) (iT c) n k) = iT (if k = n then _ else dsF h m c n k)
    rw [dvs_i h m c n, dl_i, b_mul]
    by_cases e : k = n
    · rw [if_pos e, if_pos e]
    · rw [if_neg e, if_neg e]; rfl)
theorem fdiv_i (h m : Fs) : fdiv (iS h) (iS m) = iS (sDv h m) := funext (fun k => by
  show dvs (iS h) (iS m) (finv (iT (m 0))) (k + 1) k = _
  rw [b_inv, dvs_i]; rfl)
theorem fover_i (m : Fs) : fover (iS m) = iS (sDv sone m) := by unfold fover; rw [mono1_i, fdiv_i]
theorem mdl_i (r h m : Fs) (n : Nat) : ∀ j, mdl (iS r) (iS h) (iS m) n j = iT (h n - sm (fun i => r i * m (n - i)) j)
  | 0 => by show iT (h n) = _; congr 1; simp only [sm]; grind
  | j + 1 => by
    simp only [mdl, sm]; rw [mdl_i r h m n j]
    show fsub _ (fmul (iT (r j)) (iT (m (n - j)))) = _
    rw [b_mul, b_sub]; congr 1; grind
theorem mdiv_i {h m : Fs} (h0 : m 0 ≠ 0) : mdiv (iS h) (iS m) = iS (sDv h m) := by
  have i1 := iF_ok h0
  have key : ∀ N n, n < N → mdiv (iS h) (iS m) n = iT (sDv h m n) := by
    intro N
    induction N with
    | zero => intro n hn; omega
    | succ N ih =>
      intro n hn
      rw [mdiv_eq, mdl_cg (r' := iS (sDv h m)) (h' := iS h) (m' := iS m) (fun k hk => ih k (by omega)) rfl (fun _ _ => rfl) n (Nat.le_refl _), mdl_i]
      show fmul _ (finv (iT (m 0))) = _
      rw [b_inv, b_mul]
      congr 1
      have e := congrFun (sDv_ok (h := h) h0) n
      have t : sm (fun i => sDv h m i * m (n - i)) n + sDv h m n * m (n - n) = h n := e
      rw [Nat.sub_self] at t
      grind
  exact funext (fun n => key (n + 1) n (by omega))
/-! inside out -/
theorem mtr_i (a : Fs) : ∀ k, mtr (iS a) k = iS (mtF a k)
  | 0 => rfl
  | k + 1 => funext (fun q => by
    show (if q = k then (if k = 0 then nI 0 else fmul (fsub (if k = 1 then nI 1 else nI 0) (mput (iS a) (mtr (iS a) k) k)) (finv (iT (a 1)))) else mtr (iS a) k q) = iT (if q = k then (if k = 0 then 0 else ((if k = 1 then 1 else 0) - cm a (mtF a k) k) * iF (a 1)) else mtF a k q)
    rw [mtr_i a k, mput_i, b_inv]
    have e : (if k = 1 then nI 1 else nI 0) = iT (if k = 1 then 1 else 0) := by
      by_cases h : k = 1
      · rw [if_pos h, if_pos h]; rfl
      · rw [if_neg h, if_neg h]; rfl
    rw [e]
    show (if q = k then (if k = 0 then nI 0 else fmul (fsub (iT (if k = 1 then 1 else 0)) (iT (cm a (mtF a k) k))) (iT (iF (a 1)))) else iT (mtF a k q)) = _
    rw [b_sub, b_mul]
    by_cases h : q = k
    · rw [if_pos h, if_pos h]
      by_cases h2 : k = 0
      · rw [if_pos h2, if_pos h2]; rfl
      · rw [if_neg h2, if_neg h2]
    · rw [if_neg h, if_neg h])
theorem mturn_i (f : Fs) : mturn (iS f) = iS (sTu f) := mtr_i f 9
def flF (f : Fs) : Fs := fun k => if k = 8 then 0 else f (k + 1)
theorem flow_i (f : Fs) : flow (iS f) = iS (flF f) := funext (fun k => by
  show (if k = 8 then nI 0 else iT (f (k + 1))) = iT (if k = 8 then 0 else f (k + 1))
  by_cases h : k = 8
  · rw [if_pos h, if_pos h]; rfl
  · rw [if_neg h, if_neg h])
theorem fturn_i {f : Fs} (h0 : f 0 = 0) (h1 : f 1 ≠ 0) : eq9 (fturn (iS f)) (iS (sTu f)) := by
  have hφ : flF f 0 ≠ 0 := by show (if (0 : Nat) = 8 then 0 else f 1) ≠ 0; rw [if_neg (by decide)]; exact h1
  have hi : cv (flF f) (sDv sone (flF f)) = sone := by rw [cv_comm]; exact sDv_ok hφ
  let h : Fs := fun n => if n = 0 then 0 else pw (sDv sone (flF f)) n (n - 1) * iF (nF n)
  have hF : e9 f (cv sX (flF f)) := fun k hk => by
    cases k with
    | zero => rw [cv_X0, h0]
    | succ k => rw [cv_Xs]; unfold flF; rw [if_neg (by omega)]
  have hl : e9 (cm h f) sX := (cm_cg e9.rf hF).tr (lagr hi rfl rfl (fun n h1 h8 => by
    show nF n * (if n = 0 then 0 else pw (sDv sone (flF f)) n (n - 1) * iF (nF n)) = _
    rw [if_neg (by omega)]
    have := iF_ok (nF_ne (n := n) (by omega) (by omega))
    grind))
  have hh : e9 h (sTu f) := cm_inv (sTu_0 f) (sTu_ok h0 h1) hl
  intro n hn
  show (if n = 0 then nI 0 else fmul (fpow (fover (flow (iS f))) n (n - 1)) (finv (nI n))) = iT (sTu f n)
  rw [← hh n hn]
  show _ = iT (if n = 0 then 0 else pw (sDv sone (flF f)) n (n - 1) * iF (nF n))
  by_cases e : n = 0
  · rw [if_pos e, if_pos e]; rfl
  · rw [if_neg e, if_neg e, flow_i, fover_i, fpow_i, b_n (show n < 9973 by omega), b_inv]
    show fmul (iT _) _ = _
    rw [b_mul]
