/-! ===== what both hold, over the numbers modulo 9973 ===== -/
abbrev KpF : Type := Option ((Nat → Fs) × (Nat → Fs) × Fs)
abbrev AbF : Type := (Nat × Ser) × (Nat → Fs) × (Nat → Fs) × Fs × List Fs × (Nat → KpF)
def iK (x : (Nat → Fs) × (Nat → Fs) × Fs) : (Nat → Ser) × (Nat → Ser) × Ser := ((fun r => iS (x.1 r)), (fun r => iS (x.2.1 r)), iS x.2.2)
def iA (a : AbF) : Ab := (a.1, (fun r => iS (a.2.1 r)), (fun r => iS (a.2.2.1 r)), iS a.2.2.2.1, a.2.2.2.2.1.map iS, fun k => (a.2.2.2.2.2 k).map iK)
def gd (g f : Nat → Fs) : Prop := ∀ r, r < 4 → g r 0 ≠ 0 ∧ f r 0 = 0 ∧ f r 1 ≠ 0
def Good (a : AbF) : Prop := gd a.2.1 a.2.2.1 ∧ (∀ k x, a.2.2.2.2.2 k = some x → gd x.1 x.2.1) ∧ ∀ i, i < a.1.1 → a.1.2 i ≠ -1
theorem Rc.cg {A A' : Ab} {M : Mem} (h : Rc A M) (h1 : A.1 = A'.1) (hG : ∀ r, r < 4 → eq9 (A.2.1 r) (A'.2.1 r)) (hF : ∀ r, r < 4 → eq9 (A.2.2.1 r) (A'.2.2.1 r)) (hp : eq9 A.2.2.2.1 A'.2.2.2.1) (hl : A.2.2.2.2.1 = A'.2.2.2.2.1) (hk : A.2.2.2.2.2 = A'.2.2.2.2.2) : Rc A' M := by
  obtain ⟨c1, c2, c3, ⟨d1, d2⟩, c5⟩ := h
  refine ⟨c1, by rw [← h1]; exact c2, fun r hr => ⟨(c3 r hr).1, (c3 r hr).2.1.tr (hG r hr), (c3 r hr).2.2.tr (hF r hr)⟩, ⟨d1.tr hp, by rw [← hl]; exact d2⟩, by rw [← hk]; exact c5⟩
theorem Rm.cg {A A' : Ab} {M : Mem} (h : Rm A M) (h1 : A.1 = A'.1) (hG : ∀ r, r < 4 → eq9 (A.2.1 r) (A'.2.1 r)) (hF : ∀ r, r < 4 → eq9 (A.2.2.1 r) (A'.2.2.1 r)) (hp : eq9 A.2.2.2.1 A'.2.2.2.1) (hl : A.2.2.2.2.1 = A'.2.2.2.2.1) (hk : A.2.2.2.2.2 = A'.2.2.2.2.2) : Rm A' M := by
  obtain ⟨c1, c2, ⟨d1, d2⟩, c4⟩ := h
  refine ⟨by rw [← h1]; exact c1, fun r hr => ⟨(c2 r hr).1.tr (hG r hr), (c2 r hr).2.tr (hF r hr)⟩, ⟨d1.tr hp, by rw [← hl]; exact d2⟩, by rw [← hk]; exact c4⟩
theorem up_i {a : Nat → Fs} {r : Nat} {G : Ser} {g : Fs} (e : eq9 G (iS g)) : ∀ q, q < 4 → eq9 (va_up (fun r => iS (a r)) r G q) (iS (va_up a r g q)) := fun q _ => by
  by_cases h : q = r
  · subst h; rw [va_up_self, va_up_self]; exact e
  · rw [va_up_ne _ _ h, va_up_ne _ _ h]; exact eq9.rf
def rowA (a : AbF) (r : Nat) (g f : Fs) : AbF := (a.1, va_up a.2.1 r g, va_up a.2.2.1 r f, a.2.2.2)
def hanA (a : AbF) (p : Fs) : AbF := (a.1, a.2.1, a.2.2.1, p, (a.2.2.2.1 :: a.2.2.2.2.1).take 8, a.2.2.2.2.2)
theorem Rc.rowA {a : AbF} {M : Mem} {r : Nat} {G F : Ser} {g f : Fs} (h : Rc ((iA a).1, va_up (iA a).2.1 r G, va_up (iA a).2.2.1 r F, (iA a).2.2.2) M) (eG : eq9 G (iS g)) (eF : eq9 F (iS f)) : Rc (iA (rowA a r g f)) M := h.cg rfl (up_i eG) (up_i eF) eq9.rf rfl rfl
theorem Rm.rowA {a : AbF} {M : Mem} {r : Nat} {G F : Ser} {g f : Fs} (h : Rm ((iA a).1, va_up (iA a).2.1 r G, va_up (iA a).2.2.1 r F, (iA a).2.2.2) M) (eG : eq9 G (iS g)) (eF : eq9 F (iS f)) : Rm (iA (rowA a r g f)) M := h.cg rfl (up_i eG) (up_i eF) eq9.rf rfl rfl
theorem rmb_i (p : Fs) (L : List Fs) : rmb (iS p) (L.map iS) = ((p :: L).take 8).map iS := by
  unfold rmb; rw [List.map_take]; rfl
theorem Rc.hanA {a : AbF} {M : Mem} {P : Ser} {p : Fs} (h : Rc ((iA a).1, (iA a).2.1, (iA a).2.2.1, P, rmb (iA a).2.2.2.1 (iA a).2.2.2.2.1, (iA a).2.2.2.2.2) M) (e : eq9 P (iS p)) : Rc (iA (hanA a p)) M := h.cg rfl (fun _ _ => eq9.rf) (fun _ _ => eq9.rf) e (rmb_i _ _) rfl
theorem Rm.hanA {a : AbF} {M : Mem} {P : Ser} {p : Fs} (h : Rm ((iA a).1, (iA a).2.1, (iA a).2.2.1, P, rmb (iA a).2.2.2.1 (iA a).2.2.2.2.1, (iA a).2.2.2.2.2) M) (e : eq9 P (iS p)) : Rm (iA (hanA a p)) M := h.cg rfl (fun _ _ => eq9.rf) (fun _ _ => eq9.rf) e (rmb_i _ _) rfl
theorem Good.row {a : AbF} {r : Nat} {g f : Fs} (h : Good a) (hg : g 0 ≠ 0) (h0 : f 0 = 0) (h1 : f 1 ≠ 0) : Good (rowA a r g f) := ⟨fun q hq => by
    show va_up a.2.1 r g q 0 ≠ 0 ∧ va_up a.2.2.1 r f q 0 = 0 ∧ va_up a.2.2.1 r f q 1 ≠ 0
    by_cases e : q = r
    · subst e; rw [va_up_self, va_up_self]; exact ⟨hg, h0, h1⟩
    · rw [va_up_ne _ _ e, va_up_ne _ _ e]; exact h.1 q hq, h.2⟩
theorem Good.han {a : AbF} {p : Fs} (h : Good a) : Good (hanA a p) := h
/-- both answer the same, and hold the same -/
def Jn (g : Gl) (a : AbF) (y7 : MethodName) (c7 : ByteArray) (n7 d7 : Nat) (y8 : MethodName) (c8 : ByteArray) (n8 d8 : Nat) (av : List Value) : Prop := ∃ (v : Int32) (a' : AbF), Good a' ∧ (∀ M, Rc (iA a) M → Ct g y7 c7 n7 (some .int) d7 (.ref (g.2.2.2.1 0) :: av) M (fun r M' => r = some (.int v) ∧ Rc (iA a') M' ∧ keep cP M M')) ∧ (∀ M, Rm (iA a) M → Ct g y8 c8 n8 (some .int) d8 (.ref (g.2.2.2.1 142) :: av) M (fun r M' => r = some (.int v) ∧ Rm (iA a') M' ∧ keep mP M M'))
section CTH
variable {g : Gl} {y : MethodName} {c : ByteArray} {n d : Nat} {rt : Option FieldType} {av : List Value} {M : Mem} {v v' : Int32} {A A' A'' : Ab}
theorem c7s (h : Rc A M) (k : Ct g y c n rt d av M (fun r M' => r = some (.int v) ∧ M' = M)) (e : v = v') : Ct g y c n rt d av M (fun r M' => r = some (.int v') ∧ Rc A M' ∧ keep cP M M') := k.mono (by rintro _ _ ⟨rfl, rfl⟩; exact ⟨by rw [e], h, keep.rf⟩)
theorem c8s (h : Rm A M) (k : Ct g y c n rt d av M (fun r M' => r = some (.int v) ∧ M' = M)) (e : v = v') : Ct g y c n rt d av M (fun r M' => r = some (.int v') ∧ Rm A M' ∧ keep mP M M') := k.mono (by rintro _ _ ⟨rfl, rfl⟩; exact ⟨by rw [e], h, keep.rf⟩)
theorem c7c (k : Ct g y c n rt d av M (fun r M' => r = some (.int v) ∧ Rc A M' ∧ keep cP M M')) (e : v = v') (hr : ∀ M', Rc A M' → Rc A' M') : Ct g y c n rt d av M (fun r M' => r = some (.int v') ∧ Rc A' M' ∧ keep cP M M') := k.mono (by rintro _ _ ⟨rfl, h1, h2⟩; exact ⟨by rw [e], hr _ h1, h2⟩)
theorem c8c (k : Ct g y c n rt d av M (fun r M' => r = some (.int v) ∧ Rm A M' ∧ keep mP M M')) (e : v = v') (hr : ∀ M', Rm A M' → Rm A' M') : Ct g y c n rt d av M (fun r M' => r = some (.int v') ∧ Rm A' M' ∧ keep mP M M') := k.mono (by rintro _ _ ⟨rfl, h1, h2⟩; exact ⟨by rw [e], hr _ h1, h2⟩)
end CTH
theorem Jn.no {g : Gl} {a : AbF} {y7 : MethodName} {c7 : ByteArray} {n7 d7 : Nat} {y8 : MethodName} {c8 : ByteArray} {n8 d8 : Nat} {av : List Value} {v : Int32} (hg : Good a) (h7 : ∀ M, Ct g y7 c7 n7 (some .int) d7 (.ref (g.2.2.2.1 0) :: av) M (fun r M' => r = some (.int v) ∧ M' = M)) (h8 : ∀ M, Ct g y8 c8 n8 (some .int) d8 (.ref (g.2.2.2.1 142) :: av) M (fun r M' => r = some (.int v) ∧ M' = M)) : Jn g a y7 c7 n7 d7 y8 c8 n8 d8 av := ⟨v, a, hg, fun M h => c7s h (h7 M) rfl, fun M h => c8s h (h8 M) rfl⟩
/-! the polynomials of the rows -/
def PF (a : AbF) (r : Nat) : Nat → Fs := fun n => rowP (a.2.1 r) (a.2.2.1 r) n
theorem PR_i {a : AbF} (hg : Good a) {r : Nat} (hr : r < 4) {n : Nat} (hn : n < 9) : eq9 (PR (iA a) r n) (iS (PF a r n)) := fun k hk => fpolR_i (hg.1 r hr).2.1 (hg.1 r hr).2.2 hn hk
theorem MR_i {a : AbF} (hg : Good a) {r : Nat} (hr : r < 4) {n : Nat} (hn : n < 9) : eq9 (MR (iA a) r n) (iS (PF a r n)) := mpol_i (hg.1 r hr).1 (hg.1 r hr).2.1 (hg.1 r hr).2.2 n hn
theorem PF_hi (a : AbF) (r n k : Nat) (h : n < k) : PF a r n k = 0 := plF_hi (sTu_0 _) h
theorem ft_i {a : AbF} (hg : Good a) {r : Nat} (hr : r < 4) {p : Ser} {q : Fs} (hp : eq9 p (iS q)) : eq9 (ftell (PR (iA a) r) p) (iS (tlF (PF a r) q)) := by
  refine (ftell_cg (P' := fun n => iS (PF a r n)) (fun n hn => PR_i hg hr hn) hp).tr ?_
  rw [ftell_i]; exact eq9.rf
theorem mt_i {a : AbF} (hg : Good a) {r : Nat} (hr : r < 4) {p : Ser} {q : Fs} (hp : eq9 p (iS q)) : eq9 (mtell (MR (iA a) r) p) (iS (tlF (PF a r) q)) := by
  refine (mtell_cg (P' := fun n => iS (PF a r n)) (fun n hn => MR_i hg hr hn) hp).tr ?_
  rw [mtell_i (PF_hi a r)]; exact eq9.rf
theorem gs_i {a : AbF} (hg : Good a) {r : Nat} (hr : r < 4) {p : Ser} {q : Fs} (hp : eq9 p (iS q)) : eq9 (gsum (PR (iA a) r) p 9) (iS (jnF (PF a r) q)) := by
  refine (gsum_cg (P' := fun n => iS (PF a r n)) (fun n hn => PR_i hg hr hn) hp 9 (Nat.le_refl _)).tr ?_
  rw [gsum_i]; exact eq9.rf
theorem mj_i {a : AbF} (hg : Good a) {r : Nat} (hr : r < 4) {p : Ser} {q : Fs} (hp : eq9 p (iS q)) : eq9 (mjoin (MR (iA a) r) p) (iS (jnF (PF a r) q)) := by
  refine (mjoin_cg (P' := fun n => iS (PF a r n)) (fun n hn => MR_i hg hr hn) hp).tr ?_
  rw [mjoin_i]; exact eq9.rf
theorem fwei_cg {a a' : Ser} (h : eq9 a a') : eq9 (fwei a) (fwei a') := fun k hk => by unfold fwei; rw [h k hk]
theorem fdiff_cg {P P' Q Q' : Nat → Ser} (hP : ∀ n, n < 9 → eq9 (P n) (P' n)) (hQ : ∀ n, n < 9 → eq9 (Q n) (Q' n)) : ∀ m, m ≤ 9 → fdiff P Q m = fdiff P' Q' m
  | 0, _ => rfl
  | m + 1, h => by
    show (if ∀ k, k < 9 → P (8 - m) k = Q (8 - m) k then fdiff P Q m else nI (8 - m)) = (if ∀ k, k < 9 → P' (8 - m) k = Q' (8 - m) k then fdiff P' Q' m else nI (8 - m))
    rw [fdiff_cg hP hQ m (by omega)]
    by_cases e : ∀ k, k < 9 → P (8 - m) k = Q (8 - m) k
    · rw [if_pos e, if_pos (fun k hk => by rw [← hP (8 - m) (by omega) k hk, ← hQ (8 - m) (by omega) k hk]; exact e k hk)]
    · rw [if_neg e, if_neg (fun z => e (fun k hk => by rw [hP (8 - m) (by omega) k hk, hQ (8 - m) (by omega) k hk]; exact z k hk))]
/-! first numbers -/
theorem cm_0 {a b : Fs} (h : b 0 = 0) : cm a b 0 = a 0 := by
  show sm (fun i => a i * pw b i 0) 9 = a 0
  rw [sm_one (k := 0) 9 (by decide) (fun i _ hi => by
    obtain ⟨j, rfl⟩ : ∃ j, i = j + 1 := ⟨i - 1, by omega⟩
    rw [pw_ord h (j + 1) 0 (by omega)]; grind)]
  show a 0 * sone 0 = a 0
  unfold sone; rw [if_pos rfl]; grind
theorem cm_1 {a b : Fs} (h : b 0 = 0) : cm a b 1 = a 1 * b 1 := by
  show sm (fun i => a i * pw b i 1) 9 = _
  rw [sm_one (k := 1) 9 (by decide) (fun i _ hi => by
    cases i with
    | zero => show a 0 * sone 1 = 0; unfold sone; rw [if_neg (by decide)]; grind
    | succ i => rw [pw_ord h (i + 1) 1 (by omega)]; grind)]
  show a 1 * cv sone b 1 = _
  rw [cv_one]
theorem cv_00 (a b : Fs) : cv a b 0 = a 0 * b 0 := by
  show sm (fun i => a i * b (0 - i)) 1 = _
  simp only [sm]; grind
theorem sDv_0 {m : Fs} (h : m 0 ≠ 0) : sDv sone m 0 ≠ 0 := fun e => by
  have t := congrFun (sDv_ok (h := sone) h) 0
  rw [cv_00, e] at t
  have : sone 0 = 1 := rfl
  rw [this] at t
  exact one_ne (by rw [← t]; grind)
theorem sTu_1 {f : Fs} (h0 : f 0 = 0) (h1 : f 1 ≠ 0) : sTu f 1 ≠ 0 := fun e => by
  have t := sTu_ok h0 h1 1 (by decide)
  rw [cm_1 (sTu_0 f), e] at t
  have : sX 1 = 1 := rfl
  rw [this] at t
  exact one_ne (by rw [← t]; grind)
theorem nI_F {k : Nat} (h : k < 9973) : ∃ c : Fp, nI k = iT c ∧ (k ≠ 0 → c ≠ 0) := ⟨nF k, b_n h, fun z => nF_ne z h⟩
