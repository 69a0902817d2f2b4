/-! ===== rows over whole numbers; loops; arrays ===== -/
theorem nI_i (k : Nat) : Int32.ofInt (k : Int) = nI k := by rw [nI, Int32.ofInt_eq_ofNat]
theorem nI_dec (k : Nat) : nI (k + 1) + Int32.ofInt (-1) = nI (k + 1) - 1 := by
  rw [show Int32.ofInt (-1) = (-1 : Int32) from rfl, pk_m1, nI_pred]
theorem nI_dec' (k : Nat) : nI k + Int32.ofInt (-1) = nI k - 1 := by
  rw [show Int32.ofInt (-1) = -(1 : Int32) from rfl, ← Int32.sub_eq_add_neg]
theorem nI_inc (k : Nat) : nI k + Int32.ofInt 1 = nI (k + 1) := nI_1 k
theorem nI_m1neg : nI 0 - 1 < 0 := by decide
section VN
variable {g : Gl} {cc : ByteArray} {nL : Nat} {own : String} {ret : Option FieldType} {R : Room} {Q : State → Prop} {κ : Ka} {M : Mem} {pc : Nat} {L : List (Option Value)} {st : List Value}
theorem V.iaddN {a b : Nat} (d : decode cc pc = .ok (.iadd, 1)) (kk : V g cc nL own ret R Q κ M (pc + 1) L (.int (nI (a + b)) :: st)) : V g cc nL own ret R Q κ M pc L (.int (nI b) :: .int (nI a) :: st) := V.iadd d (by rw [nI_add]; exact kk)
theorem V.isubN {a b : Nat} (d : decode cc pc = .ok (.isub, 1)) (h : b ≤ a) (kk : V g cc nL own ret R Q κ M (pc + 1) L (.int (nI (a - b)) :: st)) : V g cc nL own ret R Q κ M pc L (.int (nI b) :: .int (nI a) :: st) := V.isub d (by rw [pk_sub h]; exact kk)
theorem V.imulN {a b : Nat} (d : decode cc pc = .ok (.imul, 1)) (kk : V g cc nL own ret R Q κ M (pc + 1) L (.int (nI (a * b)) :: st)) : V g cc nL own ret R Q κ M pc L (.int (nI b) :: .int (nI a) :: st) := V.imul d (by rw [pk_mul]; exact kk)
theorem V.iremN {a b : Nat} (d : decode cc pc = .ok (.irem, 1)) (ha : a < 2 ^ 31) (h0 : 0 < b) (hb : b < 2 ^ 31) (kk : V g cc nL own ret R Q κ M (pc + 1) L (.int (nI (a % b)) :: st)) : V g cc nL own ret R Q κ M pc L (.int (nI b) :: .int (nI a) :: st) := V.irem d (nI_ne0 h0 hb) (by rw [pk_rem ha h0 hb]; exact kk)
theorem V.idivN {a b : Nat} (d : decode cc pc = .ok (.idiv, 1)) (ha : a < 2 ^ 31) (h0 : 0 < b) (hb : b < 2 ^ 31) (kk : V g cc nL own ret R Q κ M (pc + 1) L (.int (nI (a / b)) :: st)) : V g cc nL own ret R Q κ M pc L (.int (nI b) :: .int (nI a) :: st) := V.idiv d (nI_ne0 h0 hb) (by rw [pk_div ha h0 hb]; exact kk)
theorem V.iincN {i j : Nat} (d : decode cc pc = .ok (.iinc i 1, 3)) (hn : i < nL) (h : L[i]? = some (some (.int (nI j)))) (kk : V g cc nL own ret R Q κ M (pc + 3) (L.set i (some (.int (nI (j + 1))))) st) : V g cc nL own ret R Q κ M pc L st := V.iinc d hn h (nI_inc j) kk
theorem V.iincD {i j : Nat} (d : decode cc pc = .ok (.iinc i (-1), 3)) (hn : i < nL) (h : L[i]? = some (some (.int (nI j)))) (kk : V g cc nL own ret R Q κ M (pc + 3) (L.set i (some (.int (nI j - 1)))) st) : V g cc nL own ret R Q κ M pc L st := V.iinc d hn h (nI_dec' j) kk
theorem V.geN {a b : Nat} {off : Int} {tgt : Nat} (d : decode cc pc = .ok (.if_icmp .ge off, 3)) (ht : (pc : Int) + off = (tgt : Int)) (ha : a < 2 ^ 31) (hb : b < 2 ^ 31) (kt : b ≤ a → V g cc nL own ret R Q κ M tgt L st) (kf : a < b → V g cc nL own ret R Q κ M (pc + 3) L st) : V g cc nL own ret R Q κ M pc L (.int (nI b) :: .int (nI a) :: st) := V.icmp_ge d ht (fun h => kt ((nI_leI hb ha).mp h)) (fun h => kf (by have := mt (nI_leI hb ha).mpr h; omega))
theorem V.gtN {a b : Nat} {off : Int} {tgt : Nat} (d : decode cc pc = .ok (.if_icmp .gt off, 3)) (ht : (pc : Int) + off = (tgt : Int)) (ha : a < 2 ^ 31) (hb : b < 2 ^ 31) (kt : b < a → V g cc nL own ret R Q κ M tgt L st) (kf : a ≤ b → V g cc nL own ret R Q κ M (pc + 3) L st) : V g cc nL own ret R Q κ M pc L (.int (nI b) :: .int (nI a) :: st) := V.icmp_gt d ht (fun h => kt ((nI_ltI hb ha).mp h)) (fun h => kf (by have := mt (nI_ltI hb ha).mpr h; omega))
theorem V.leN {a b : Nat} {off : Int} {tgt : Nat} (d : decode cc pc = .ok (.if_icmp .le off, 3)) (ht : (pc : Int) + off = (tgt : Int)) (ha : a < 2 ^ 31) (hb : b < 2 ^ 31) (kt : a ≤ b → V g cc nL own ret R Q κ M tgt L st) (kf : b < a → V g cc nL own ret R Q κ M (pc + 3) L st) : V g cc nL own ret R Q κ M pc L (.int (nI b) :: .int (nI a) :: st) := V.icmp_le d ht (fun h => kt ((nI_leI ha hb).mp h)) (fun h => kf (by have := mt (nI_leI ha hb).mpr h; omega))
theorem V.ltN {a b : Nat} {off : Int} {tgt : Nat} (d : decode cc pc = .ok (.if_icmp .lt off, 3)) (ht : (pc : Int) + off = (tgt : Int)) (ha : a < 2 ^ 31) (hb : b < 2 ^ 31) (kt : a < b → V g cc nL own ret R Q κ M tgt L st) (kf : b ≤ a → V g cc nL own ret R Q κ M (pc + 3) L st) : V g cc nL own ret R Q κ M pc L (.int (nI b) :: .int (nI a) :: st) := V.icmp_lt d ht (fun h => kt ((nI_ltI ha hb).mp h)) (fun h => kf (by have := mt (nI_ltI ha hb).mpr h; omega))
theorem V.eqN {a b : Nat} {off : Int} {tgt : Nat} (d : decode cc pc = .ok (.if_icmp .eq off, 3)) (ht : (pc : Int) + off = (tgt : Int)) (ha : a < 2 ^ 31) (hb : b < 2 ^ 31) (kt : a = b → V g cc nL own ret R Q κ M tgt L st) (kf : a ≠ b → V g cc nL own ret R Q κ M (pc + 3) L st) : V g cc nL own ret R Q κ M pc L (.int (nI b) :: .int (nI a) :: st) := V.icmp_eq d ht (fun h => kt ((nI_eq ha hb).mp h)) (fun h => kf (mt (nI_eq ha hb).mpr h))
theorem V.neN {a b : Nat} {off : Int} {tgt : Nat} (d : decode cc pc = .ok (.if_icmp .ne off, 3)) (ht : (pc : Int) + off = (tgt : Int)) (ha : a < 2 ^ 31) (hb : b < 2 ^ 31) (kt : a ≠ b → V g cc nL own ret R Q κ M tgt L st) (kf : a = b → V g cc nL own ret R Q κ M (pc + 3) L st) : V g cc nL own ret R Q κ M pc L (.int (nI b) :: .int (nI a) :: st) := V.icmp_ne d ht (fun h => kt (mt (nI_eq ha hb).mpr h)) (fun h => kf ((nI_eq ha hb).mp h))
theorem V.if_eqN {a : Nat} {off : Int} {tgt : Nat} (d : decode cc pc = .ok (.ifCond .eq off, 3)) (ht : (pc : Int) + off = (tgt : Int)) (ha : a < 2 ^ 31) (kt : a = 0 → V g cc nL own ret R Q κ M tgt L st) (kf : a ≠ 0 → V g cc nL own ret R Q κ M (pc + 3) L st) : V g cc nL own ret R Q κ M pc L (.int (nI a) :: st) := V.if_eq d ht (fun h => kt ((nI_eq ha (by decide)).mp (h.trans nI_0.symm))) (fun h => kf (fun e => h (by rw [e]; rfl)))
theorem V.if_neN {a : Nat} {off : Int} {tgt : Nat} (d : decode cc pc = .ok (.ifCond .ne off, 3)) (ht : (pc : Int) + off = (tgt : Int)) (ha : a < 2 ^ 31) (kt : a ≠ 0 → V g cc nL own ret R Q κ M tgt L st) (kf : a = 0 → V g cc nL own ret R Q κ M (pc + 3) L st) : V g cc nL own ret R Q κ M pc L (.int (nI a) :: st) := V.if_ne d ht (fun h => kt (fun e => h (by rw [e]; rfl))) (fun h => kf ((nI_eq ha (by decide)).mp (h.trans nI_0.symm)))
theorem V.if_leN {a : Nat} {off : Int} {tgt : Nat} (d : decode cc pc = .ok (.ifCond .le off, 3)) (ht : (pc : Int) + off = (tgt : Int)) (ha : a < 2 ^ 31) (kt : a = 0 → V g cc nL own ret R Q κ M tgt L st) (kf : 0 < a → V g cc nL own ret R Q κ M (pc + 3) L st) : V g cc nL own ret R Q κ M pc L (.int (nI a) :: st) := V.if_le d ht (fun h => kt (by have := (nI_leI ha (by decide : (0 : Nat) < 2 ^ 31)).mp h; omega)) (fun h => kf (by rcases Nat.eq_zero_or_pos a with e | e; exact absurd (by rw [e]; decide) h; exact e))
/-- the end of a loop that goes down: its number is one less than k -/
theorem V.if_ltD {k : Nat} {off : Int} {tgt : Nat} (d : decode cc pc = .ok (.ifCond .lt off, 3)) (ht : (pc : Int) + off = (tgt : Int)) (hk : k < 2 ^ 31) (kt : k = 0 → V g cc nL own ret R Q κ M tgt L st) (kf : ∀ j, k = j + 1 → V g cc nL own ret R Q κ M (pc + 3) L st) : V g cc nL own ret R Q κ M pc L (.int (nI k - 1) :: st) := V.if_lt d ht (fun h => kt (by
    cases k with
    | zero => rfl
    | succ j => rw [nI_pred] at h; exact absurd h (nI_pos (by omega)))) (fun h => by
    cases k with
    | zero => exact absurd nI_m1neg h
    | succ j => exact kf j rfl)
theorem V.if_leD {a : Nat} {off : Int} {tgt : Nat} (d : decode cc pc = .ok (.ifCond .le off, 3)) (ht : (pc : Int) + off = (tgt : Int)) (ha : a < 2 ^ 31) (kt : a = 0 → V g cc nL own ret R Q κ M tgt L st) (kf : ∀ j, a = j + 1 → V g cc nL own ret R Q κ M (pc + 3) L st) : V g cc nL own ret R Q κ M pc L (.int (nI a) :: st) := V.if_leN d ht ha kt (fun h => kf (a - 1) (by omega))
theorem V.kkF {M2 : Mem} {r : Int32} (h : V g cc nL own ret R Q κ M2 pc L (.int r :: st)) : ∀ (v : Option Value) (M' : Mem), (v = some (.int r) ∧ M' = M2) → V g cc nL own ret R Q κ M' pc L (v.toList ++ st) := by
  rintro _ _ ⟨rfl, rfl⟩; exact h
theorem V.kkA {M2 : Mem} {a : Nat} (h : V g cc nL own ret R Q κ M2 pc L (.ref a :: st)) : ∀ (v : Option Value) (M' : Mem), (v = some (.ref a) ∧ M' = M2) → V g cc nL own ret R Q κ M' pc L (v.toList ++ st) := by
  rintro _ _ ⟨rfl, rfl⟩; exact h
theorem V.kkN {M2 : Mem} (h : V g cc nL own ret R Q κ M2 pc L st) : ∀ (v : Option Value) (M' : Mem), (v = none ∧ M' = M2) → V g cc nL own ret R Q κ M' pc L (v.toList ++ st) := by
  rintro _ _ ⟨rfl, rfl⟩; exact h
theorem V.kkP {P : Mem → Prop} (h : ∀ M', P M' → V g cc nL own ret R Q κ M' pc L st) : ∀ (v : Option Value) (M' : Mem), (v = none ∧ P M') → V g cc nL own ret R Q κ M' pc L (v.toList ++ st) := by
  rintro _ M' ⟨rfl, hp⟩; exact h M' hp
theorem V.kkI {P : Int32 → Mem → Prop} (h : ∀ r M', P r M' → V g cc nL own ret R Q κ M' pc L (.int r :: st)) : ∀ (v : Option Value) (M' : Mem), (∃ r, v = some (.int r) ∧ P r M') → V g cc nL own ret R Q κ M' pc L (v.toList ++ st) := by
  rintro _ M' ⟨r, rfl, hp⟩; exact h r M' hp
theorem V.kkB {P : Bool → Mem → Prop} (h : ∀ b M', P b M' → V g cc nL own ret R Q κ M' pc L (.int (if b then 1 else 0) :: st)) : ∀ (v : Option Value) (M' : Mem), (∃ b : Bool, v = some (.int (if b then 1 else 0)) ∧ P b M') → V g cc nL own ret R Q κ M' pc L (v.toList ++ st) := by
  rintro _ M' ⟨r, rfl, hp⟩; exact h r M' hp
end VN
theorem up_loop (N : Nat) (P : Nat → Prop) (h : ∀ j, j ≤ N → (j < N → P (j + 1)) → P j) : ∀ j, j ≤ N → P j := by
  have key : ∀ n j, j + n = N → P j := by
    intro n
    induction n with
    | zero => intro j hj; exact h j (by omega) (fun q => by omega)
    | succ n ih => intro j hj; exact h j (by omega) (fun _ => ih (j + 1) (by omega))
  intro j hj
  exact key (N - j) j (by omega)
theorem dn_loop (P : Nat → Prop) (h : ∀ k, (∀ j, k = j + 1 → P j) → P k) : ∀ k, P k := by
  intro k
  induction k with
  | zero => exact h 0 (fun j e => by omega)
  | succ k ih => exact h (k + 1) (fun j e => by have : j = k := by omega
                                                rw [this]; exact ih)
/-- the places from lo on, before hi, of array i are what f says -/
def aset (M : Mem) (i lo hi : Nat) (f : Nat → Int32) : Mem := fun a b => if a = i ∧ lo ≤ b ∧ b < hi then f b else M a b
theorem aset_nil {M : Mem} {i lo hi : Nat} {f : Nat → Int32} (h : hi ≤ lo) : aset M i lo hi f = M := by
  funext a b; unfold aset; rw [if_neg (by omega)]
theorem aset_up {M : Mem} {i lo hi : Nat} {f : Nat → Int32} {x : Int32} (h : lo ≤ hi) (hx : x = f hi) : mset (aset M i lo hi f) i hi x = aset M i lo (hi + 1) f := by
  funext a b; unfold aset mset
  by_cases ha : a = i
  · subst ha
    by_cases hb : b = hi
    · subst hb; simp [hx, h]
    · simp only [if_true, hb, if_false, true_and]
      by_cases h2 : lo ≤ b ∧ b < hi
      · rw [if_pos h2, if_pos (by omega)]
      · rw [if_neg h2, if_neg (by omega)]
  · simp [ha]
theorem aset_dn {M : Mem} {i lo hi : Nat} {f : Nat → Int32} {x : Int32} (h : lo < hi) (hx : x = f lo) : mset (aset M i (lo + 1) hi f) i lo x = aset M i lo hi f := by
  funext a b; unfold aset mset
  by_cases ha : a = i
  · subst ha
    by_cases hb : b = lo
    · subst hb; simp [hx, h]
    · simp only [if_true, hb, if_false, true_and]
      by_cases h2 : lo + 1 ≤ b ∧ b < hi
      · rw [if_pos h2, if_pos (by omega)]
      · rw [if_neg h2, if_neg (by omega)]
  · simp [ha]
theorem aset_ne {M : Mem} {i lo hi : Nat} {f : Nat → Int32} {a : Nat} (h : a ≠ i) : aset M i lo hi f a = M a := by
  funext b; unfold aset; rw [if_neg (by omega)]
theorem aset_in {M : Mem} {i lo hi : Nat} {f : Nat → Int32} {b : Nat} (h1 : lo ≤ b) (h2 : b < hi) : aset M i lo hi f i b = f b := by
  unfold aset; rw [if_pos ⟨rfl, h1, h2⟩]
theorem aset_out {M : Mem} {i lo hi : Nat} {f : Nat → Int32} {b : Nat} (h : b < lo ∨ hi ≤ b) : aset M i lo hi f i b = M i b := by
  unfold aset; rw [if_neg (by omega)]
theorem aset_congr {M : Mem} {i lo hi : Nat} {f f' : Nat → Int32} (h : ∀ b, lo ≤ b → b < hi → f b = f' b) : aset M i lo hi f = aset M i lo hi f' := by
  funext a b; unfold aset
  by_cases h2 : a = i ∧ lo ≤ b ∧ b < hi
  · rw [if_pos h2, if_pos h2, h b h2.2.1 h2.2.2]
  · rw [if_neg h2, if_neg h2]
theorem aset_aset {M : Mem} {i lo hi : Nat} {f f' : Nat → Int32} : aset (aset M i lo hi f) i lo hi f' = aset M i lo hi f' := by
  funext a b; unfold aset
  by_cases h2 : a = i ∧ lo ≤ b ∧ b < hi
  · rw [if_pos h2, if_pos h2]
  · rw [if_neg h2, if_neg h2, if_neg h2]
section VA
variable {g : Gl} {cc : ByteArray} {nL : Nat} {own : String} {ret : Option FieldType} {R : Room} {Q : State → Prop} {κ : Ka} {M : Mem} {pc : Nat} {L : List (Option Value)} {st : List Value}
theorem V.zast {j : Nat} {x : Int32} (d : decode cc pc = .ok (.bastore, 1)) (hi : 148 ∈ g.2.2.2.2) (hj : j < 2) (hx : vp_nar .boolean x = x) (kk : V g cc nL own ret R Q κ (mset M 148 j x) (pc + 1) L st) : V g cc nL own ret R Q κ M pc L (.int x :: .int (nI j) :: .ref (g.2.2.2.1 148) :: st) := fun E H locs ls w hl => by
  obtain ⟨k, hk0, hk⟩ := wd_at (M := M) hi
  have hc : (nI j).toNatClampNeg = j := nI_clamp (by omega)
  refine va_zast E.1 E.2.1 E.2.2.2.2.2.1 w.1 w.2.1 w.2.2 k 1 (n := 2) (f := M 148) (by rw [hk]; rfl) rfl (nI_in (by omega) (by omega)) d (fun H1 locs1 hP hD hS => ?_)
  have e := wd_set (M' := mset M 148 j x) (e := .inl (g.2.2.1 1, 2, .inl (upd (M 148) (nI j).toNatClampNeg (vp_nar .boolean x)))) w.2.1 hk0 (by show Sum.inl (g.2.2.1 1, 2, Sum.inl (mset M 148 j x 148)) = _; rw [mset_self, hc, hx]) (fun a ha => mset_ne ha)
  rw [e] at hP hD
  exact kk E H1 locs1 ls ⟨hP, hD, hS⟩ hl
/-- System.arraycopy of the first n places -/
theorem V.copy {i j n n0 n1 : Nat} (d : decode cc pc = .ok (.invokestatic 227, 3)) (ho : own = RX7) (hi : i ∈ g.2.2.2.2) (hj : j ∈ g.2.2.2.2) (li : ial i = n0) (lj : ial j = n1) (h0 : 0 < n) (h1 : n ≤ n0) (h2 : n ≤ n1) (hR : 1 ≤ R.frames ∧ 40 ≤ R.locals) (kk : V g cc nL own ret R Q κ (aset M j 0 n (M i)) (pc + 3) L []) : V g cc nL own ret R Q κ M pc L [.int (nI n), .int (nI 0), .ref (g.2.2.2.1 j), .int (nI 0), .ref (g.2.2.2.1 i)] := fun E H locs ls w hl => by
  obtain ⟨k, hk0, hk⟩ := wd_at (M := M) hi
  obtain ⟨k', hk0', hk'⟩ := wd_at (M := M) hj
  have hs := ial_small i
  have hs' := ial_small j
  have hc : (nI n).toNatClampNeg = n := nI_clamp (by omega)
  have hz : (nI 0).toNatClampNeg = 0 := rfl
  subst ho
  refine va_copyi E.1 E.2.1 (by rw [hl.1]; exact E.2.2.1) E.2.2.2.1 (E.2.2.2.2.1 _ lkX7_227) (E.2.2.2.2.1 _ na_arraycopy) (E.2.2.2.2.1 _ st_arraycopyName) (E.2.2.2.2.1 _ ini_J10) E.2.2.2.2.2.1 w.1 w.2.1 w.2.2 k k' 0 0 (n0 := n0) (n1 := n1) (f := M i) (g := M j) (ty := .int) (by rw [hk, cont_int li (by omega)]) (by rw [hk', cont_int lj (by omega)]) rfl rfl rfl (nI_pos (by omega)) (nI_pos (by omega)) (nI_pos (by omega)) (by rw [hc, hz]; omega) (by rw [hc, hz]; omega) (fun _ _ => rfl) hR.1 (Nat.le_trans (by decide) hR.2) d (fun H1 locs1 hP hD hS => ?_)
  have e := wd_set (M' := aset M j 0 n (M i)) (e := .inl (g.2.2.1 0, n1, .inl (va_cpy (M i) (M j) (nI 0).toNatClampNeg (nI 0).toNatClampNeg (nI n).toNatClampNeg))) w.2.1 hk0' (by
    rw [cont_int lj (by omega), hc, hz]
    congr 4
    funext b
    unfold aset va_cpy
    by_cases hb : b < n
    · rw [if_pos ⟨rfl, Nat.zero_le _, hb⟩, if_pos (by omega)]; congr 1; omega
    · rw [if_neg (by omega), if_neg (by omega)]) (fun a ha => aset_ne ha)
  rw [e] at hP hD
  exact kk E H1 locs1 ls ⟨hP, hD, hS⟩ hl
end VA
