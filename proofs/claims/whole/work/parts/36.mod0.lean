/-! ===== what the reference holds ===== -/
def RmT (n : Nat) (l : Ser) (M : Mem) : Prop := n ≤ 120 ∧ M 142 8 = nI n ∧ M 149 = l
def RmR (G F : Nat → Ser) (M : Mem) : Prop := ∀ r, r < 4 → eq9 (sl (M 143) (9 * r)) (G r) ∧ eq9 (sl (M 144) (9 * r)) (F r)
def RmH (p : Ser) (past : List Ser) (M : Mem) : Prop := eq9 (M 145) p ∧ past.length ≤ 8 ∧ M 142 4 = nI past.length ∧ ∀ i, i < past.length → eq9 (sl (M 146) (9 * (past.length - 1 - i))) (past.getD i zser)
def RmK (k : Nat) (K : Kp) (M : Mem) : Prop := match K with
  | none => M 148 k = nI 0
  | some (G, F, p) => M 148 k = nI 1 ∧ (∀ r, r < 4 → eq9 (sl (M 147) (81 * k + 9 * r)) (G r) ∧ eq9 (sl (M 147) (81 * k + 36 + 9 * r)) (F r)) ∧ eq9 (sl (M 147) (81 * k + 72)) p
def Rm (A : Ab) (M : Mem) : Prop := RmT A.1.1 A.1.2 M ∧ RmR A.2.1 A.2.2.1 M ∧ RmH A.2.2.2.1 A.2.2.2.2.1 M ∧ ∀ k, k < 2 → RmK k (A.2.2.2.2.2 k) M
def mP (j : Nat) : Prop := 142 ≤ j
def msr (j : Nat) : Prop := 150 ≤ j
theorem RmK.kp {q : Nat} {K : Kp} {M M' : Mem} (h : RmK q K M) (k1 : M' 147 = M 147) (k2 : M' 148 = M 148) : RmK q K M' := by
  cases K with
  | none => show M' 148 q = _; rw [k2]; exact h
  | some x =>
    obtain ⟨G, F, p⟩ := x
    obtain ⟨h1, h2, h3⟩ := h
    exact ⟨by rw [k2]; exact h1, fun r hr => by rw [k1]; exact h2 r hr, by rw [k1]; exact h3⟩
theorem Rm.kp {A : Ab} {M M' : Mem} (h : Rm A M) (k : ∀ j, 143 ≤ j → j < 150 → M' j = M j) (h8 : M' 142 8 = M 142 8) (h4 : M' 142 4 = M 142 4) : Rm A M' := by
  obtain ⟨⟨a1, a2, a3⟩, b, ⟨c1, c2, c3, c4⟩, d⟩ := h
  refine ⟨⟨a1, by rw [h8]; exact a2, by rw [k 149 (by omega) (by omega)]; exact a3⟩, fun r hr => ?_, ⟨?_, c2, by rw [h4]; exact c3, fun i hi => ?_⟩, fun q hq => (d q hq).kp (k 147 (by omega) (by omega)) (k 148 (by omega) (by omega))⟩
  · rw [k 143 (by omega) (by omega), k 144 (by omega) (by omega)]; exact b r hr
  · rw [k 145 (by omega) (by omega)]; exact c1
  · rw [k 146 (by omega) (by omega)]; exact c4 i hi
theorem Rm.ks {A : Ab} {M M' : Mem} (h : Rm A M) (k : keep msr M M') : Rm A M' := h.kp (fun j _ h2 => k j (by unfold msr; omega)) (by rw [k 142 (by unfold msr; omega)]) (by rw [k 142 (by unfold msr; omega)])
/-- a row has become another -/
def rowM (M : Mem) (a b r : Nat) : Mem := brg (brg M a 0 143 (9 * r) 9) b 0 144 (9 * r) 9
theorem rowM_keep {M : Mem} {a b r : Nat} : keep (fun j => j = 143 ∨ j = 144) M (rowM M a b r) := ((keep.rf (P := fun j => j = 143 ∨ j = 144)).br (Or.inl rfl)).br (Or.inr rfl)
theorem Rm.row {A : Ab} {M : Mem} {a b r : Nat} {G F : Ser} (h : Rm A M) (hr : r < 4) (hb : b ≠ 143) (hg : eq9 (M a) G) (hf : eq9 (M b) F) : Rm (A.1, va_up A.2.1 r G, va_up A.2.2.1 r F, A.2.2.2) (rowM M a b r) := by
  obtain ⟨⟨a1, a2, a3⟩, b1, ⟨c1, c2, c3, c4⟩, d⟩ := h
  have k := rowM_keep (M := M) (a := a) (b := b) (r := r)
  refine ⟨⟨a1, by rw [k 142 (by omega)]; exact a2, by rw [k 149 (by omega)]; exact a3⟩, fun q hq => ⟨fun z hz => ?_, fun z hz => ?_⟩, ⟨by rw [k 145 (by omega)]; exact c1, c2, by rw [k 142 (by omega)]; exact c3, fun i hi => by rw [k 146 (by omega)]; exact c4 i hi⟩, fun q hq => (d q hq).kp (k 147 (by omega)) (k 148 (by omega))⟩
  · show rowM M a b r 143 (9 * q + z) = va_up A.2.1 r G q z
    unfold rowM
    rw [brg_ne (by decide)]
    by_cases e : q = r
    · subst e
      rw [brg_in hz, va_up_self, Nat.zero_add]; exact hg z hz
    · rw [brg_out (by omega), va_up_ne _ _ e]; exact (b1 q hq).1 z hz
  · show rowM M a b r 144 (9 * q + z) = va_up A.2.2.1 r F q z
    unfold rowM
    by_cases e : q = r
    · subst e
      rw [brg_in hz, va_up_self, Nat.zero_add, brg_ne hb]; exact hf z hz
    · rw [brg_out (by omega), va_up_ne _ _ e, brg_ne (by decide)]; exact (b1 q hq).2 z hz
theorem RmH.p {p p' : Ser} {past : List Ser} {M M' : Mem} (h : RmH p past M) (h4 : M' 142 4 = M 142 4) (k : M' 146 = M 146) (hp : eq9 (M' 145) p') : RmH p' past M' := ⟨hp, h.2.1, by rw [h4]; exact h.2.2.1, fun i hi => by rw [k]; exact h.2.2.2 i hi⟩
/-- p has become another -/
theorem Rm.hand {A : Ab} {M M' : Mem} {p : Ser} (h : Rm A M) (k : keep (fun j => msr j ∨ j = 145) M M') (hp : eq9 (M' 145) p) : Rm (A.1, A.2.1, A.2.2.1, p, A.2.2.2.2) M' := by
  obtain ⟨⟨a1, a2, a3⟩, b, c, d⟩ := h
  have h142 : M' 142 = M 142 := k 142 (by unfold msr; omega)
  refine ⟨⟨a1, by rw [h142]; exact a2, by rw [k 149 (by unfold msr; omega)]; exact a3⟩, fun r hr => ?_, c.p (by rw [h142]) (k 146 (by unfold msr; omega)) hp, fun q hq => (d q hq).kp (k 147 (by unfold msr; omega)) (k 148 (by unfold msr; omega))⟩
  rw [k 143 (by unfold msr; omega), k 144 (by unfold msr; omega)]; exact b r hr
def MR (A : Ab) (r n : Nat) : Ser := mpol (A.2.1 r) (A.2.2.1 r) n
theorem Rm.g {A : Ab} {M : Mem} (h : Rm A M) {r : Nat} (hr : r < 4) : eq9 (sl (M 143) (9 * r)) (A.2.1 r) := (h.2.1 r hr).1
theorem Rm.f {A : Ab} {M : Mem} (h : Rm A M) {r : Nat} (hr : r < 4) : eq9 (sl (M 144) (9 * r)) (A.2.2.1 r) := (h.2.1 r hr).2
def mchS (A : Ab) (r y : Nat) : Ser := match y with
  | 0 => A.2.1 r
  | 1 => A.2.2.1 r
  | 2 => mdiv (mono 0 (nI 1)) (A.2.1 r)
  | _ => mturn (A.2.2.1 r)
def fstr (f : Ser) (c : Int32) : Ser := fun k => fmul (f k) (fpows (finv c) k)
def mac (h p : Ser) (j : Nat) : Nat → Int32
  | 0 => nI 0
  | k + 1 => fadd (mac h p j k) (fmul (h k) (fmul (mfal j k) (p (j + k))))
def mact (h p : Ser) : Ser := fun j => mac h p j (9 - j)
theorem mac_cg {h h' p p' : Ser} {j : Nat} (hh : eq9 h h') (hp : eq9 p p') : ∀ k, j + k ≤ 9 → mac h p j k = mac h' p' j k
  | 0, _ => rfl
  | k + 1, e => by simp only [mac]; rw [mac_cg hh hp k (by omega), hh k (by omega), hp (j + k) (by omega)]
theorem mact_cg {h h' p p' : Ser} (hh : eq9 h h') (hp : eq9 p p') : eq9 (mact h p) (mact h' p') := fun j hj => mac_cg hh hp (9 - j) (by omega)
def mraise (F p : Ser) : Ser := fun k => if k = 0 then nI 0 else msolve F p k
theorem mraise_cg {F F' p p' : Ser} (hF : eq9 F F') (hp : eq9 p p') : eq9 (mraise F p) (mraise F' p') := fun k hk => by
  unfold mraise msolve; rw [msv_cg hF hp 8 (Nat.le_refl _)]
/-- one pass from the top down: place 8 - t -/
def mpv (a : Int32) (p : Ser) : Nat → Int32
  | 0 => p 8
  | t + 1 => fadd (p (7 - t)) (fmul a (mpv a p t))
def mshf (a : Int32) (p : Ser) : Nat → Ser
  | 0 => p
  | k + 1 => fun j => if j < k then mshf a p k j else mpv a (mshf a p k) (8 - j)
def mshift (a : Int32) (p : Ser) : Ser := mshf a p 9
theorem mpv_cg {a : Int32} {p p' : Ser} (h : eq9 p p') : ∀ t, mpv a p t = mpv a p' t
  | 0 => h 8 (by decide)
  | t + 1 => by simp only [mpv]; rw [h (7 - t) (by omega), mpv_cg h t]
theorem mshf_cg {a : Int32} {p p' : Ser} (h : eq9 p p') : ∀ k, eq9 (mshf a p k) (mshf a p' k)
  | 0 => h
  | k + 1 => fun j hj => by simp only [mshf]; rw [mshf_cg h k j hj, mpv_cg (mshf_cg h k)]
theorem fmul_comm (a b : Int32) : fmul a b = fmul b a := by
  have e : a * b = b * a := Int32.mul_comm a b
  show rem9 (a * b) = rem9 (b * a)
  rw [e]
theorem fdiff_at {P Q : Nat → Ser} {n : Nat} (hn : n < 9) (h1 : ∀ m, m < n → ∀ k, k < 9 → P m k = Q m k) (h2 : ¬ ∀ k, k < 9 → P n k = Q n k) : ∀ t, n + t = 8 → ∀ s, s ≤ n → fdiff P Q (t + 1 + s) = nI n := by
  intro t ht s
  induction s with
  | zero =>
    intro _
    show (if ∀ k, k < 9 → P (8 - t) k = Q (8 - t) k then fdiff P Q t else nI (8 - t)) = _
    rw [show 8 - t = n by omega, if_neg h2]
  | succ s ih =>
    intro hs
    show (if ∀ k, k < 9 → P (8 - (t + 1 + s)) k = Q (8 - (t + 1 + s)) k then fdiff P Q (t + 1 + s) else _) = _
    rw [if_pos (h1 (8 - (t + 1 + s)) (by omega))]
    exact ih (by omega)
theorem fdiff_no {P Q : Nat → Ser} (h1 : ∀ m, m < 9 → ∀ k, k < 9 → P m k = Q m k) : ∀ s, fdiff P Q s = -1
  | 0 => rfl
  | s + 1 => by
    have u : fdiff P Q (s + 1) = if (∀ k, k < 9 → P (8 - s) k = Q (8 - s) k) then fdiff P Q s else nI (8 - s) := rfl
    rw [u, if_pos (h1 (8 - s) (by omega))]
    exact fdiff_no h1 s
