theorem IN0 {m j : Nat} (h : j < m) : j ∈ IN 0 1 m := (IN_mem (by omega)).mpr (by omega)
theorem IN0n {m j : Nat} (h1 : 1 ≤ m) (h : m ≤ j) : j ∉ IN 0 1 m := fun z => by rw [IN_mem h1] at z; omega
theorem memB_z {i : Nat} (h : i ≠ 10) : memB i = fun _ => 0 := by funext j; unfold memB; rw [if_neg (by omega)]
theorem T7.ext {y : Nat → ClassId} {a m m' p : Nat} {ad : Nat → Nat} {ce : Nat → va_E} {M : Mem} (h : T7 y a m p ad ce M) (h1 : ∀ i, m ≤ i → i < m' → i ≠ 33 → i ≠ 113 → ce i = cont y ad M i) : T7 y a m' p ad ce M := ⟨h.1, h.2.1, fun i g1 g2 g3 g4 => by
  by_cases e : i < m
  · exact h.2.2 i g1 e g3 g4
  · exact h1 i (by omega) g2 g3 g4⟩
theorem T7.off {y : Nat → ClassId} {a m p x : Nat} {ad : Nat → Nat} {ce ce' : Nat → va_E} {M : Mem} (h : T7 y a m p ad ce M) (hx : x = 33 ∨ x = 113) (h0 : 0 < m) (h1 : ∀ j, j < m → j ≠ x → ce' j = ce j) : T7 y a m p ad ce' M := ⟨h.1, by rw [h1 0 h0 (by omega)]; exact h.2.1, fun i g1 g2 g3 g4 => by rw [h1 i g2 (by omega)]; exact h.2.2 i g1 g2 g3 g4⟩
theorem T7.trP {y : Nat → ClassId} {a m p p' k i : Nat} {ad ad' : Nat → Nat} {ce ce' : Nat → va_E} {M : Mem} (hb : bnd m) (hp : p ≤ m) (h10 : 10 ≤ m) (h : T7 y a m p ad ce M) (h1 : ∀ j, j < m → ad' j = ad j) (h2 : ∀ j, j < m → j ≠ 0 → ce' j = ce j) (h4 : ce' 0 = .inr (6, (fN l7 ad p).set k (.ref (ad' i)))) (hs : ∀ ad, (fN l7 ad p).set k (.ref (ad i)) = fN l7 ad p') : T7 y a m p' ad' ce' M := by
  refine ⟨?_, ?_, fun i g1 g2 g3 g4 => ?_⟩
  · rw [h1 0 (by omega)]; exact h.1
  · rw [h4, fN_cg (ad' := ad') (lo := 1) l7_ok (fun j _ hj => h1 j (by omega)), hs]
  · rw [h2 i g2 (by omega), h.2.2 i g1 g2 g3 g4]
    refine (cont_ad g1 (by have := hb.1; omega) g3 g4 (fun j hj => h1 j ?_)).symm
    rcases hb.2 i g2 with z | z | z | z <;> omega
/-- an array of objects, k of them laid -/
def QA (yc : ClassId) (i n b w k : Nat) (ad : Nat → Nat) (ce : Nat → va_E) : Prop := ce i = .inl (yc, n, .inr (.inr (.inr (.inr (refs k (fun j => ad (b + w * j)))))))
theorem QA.tr {yc : ClassId} {i n b w k m : Nat} {ad ad' : Nat → Nat} {ce ce' : Nat → va_E} (h : QA yc i n b w k ad ce) (hk : ∀ j, j < k → b + w * j < m) (hi : i < m) (h1 : ∀ j, j < m → ad' j = ad j) (h2 : ce' i = ce i) : QA yc i n b w k ad' ce' := by
  unfold QA at h ⊢
  rw [h2, h, refs_cg (fun j hj => (h1 _ (hk j hj)).symm)]
theorem QA.put {yc : ClassId} {i n b w k q : Nat} {ad : Nat → Nat} {ce' : Nat → va_E} (hq : q = ad (b + w * k)) (h : ce' i = .inl (yc, n, .inr (.inr (.inr (.inr (va_up (refs k (fun j => ad (b + w * j))) k (some q))))))) : QA yc i n b w (k + 1) ad ce' := by
  subst hq
  unfold QA
  rw [h]
  have e := refs_up (k := k) (r := fun j => ad (b + w * j))
  rw [← e]
theorem row_b {o i : Nat} (h : isRw o) (h1 : o ≤ i) (h2 : i < o + 17) : bst i = o ∧ bfi i = o + 17 := by
  obtain ⟨r, hr, rfl⟩ := h
  unfold bst bfi
  rw [if_neg (by omega), if_neg (by omega), if_neg (by omega), if_pos (by omega), if_neg (by omega), if_neg (by omega), if_neg (by omega), if_pos (by omega)]
  omega
theorem T7.row {y : Nat → ClassId} {a o : Nat} {adA adB ad1 : Nat → Nat} {ceA ceB ce1 : Nat → va_E} {M Mn : Mem} (hr : isRw o) (hb : bnd o) (t : T7 y a o 34 adA ceA M) (h1 : ∀ j, j < o → adB j = adA j) (h2 : ∀ j, j < o → ¬ (1 ≤ j ∧ j < 10) → ceB j = ceA j) (hE : ∀ i, i ∈ I5 o 0 ++ List.range' (o + 1) 16 → adB i = ad1 i ∧ ceB i = ce1 i) (p1 : ∀ i, i ∈ I5 o 16 → ce1 i = cont y ad1 Mn i) : T7 y a (o + 17) 34 adB ceB (mixR o M Mn) := by
  have h34 : 34 ≤ o := by obtain ⟨r, hr, e⟩ := hr; omega
  have h85 : o ≤ 85 := by obtain ⟨r, hr, e⟩ := hr; omega
  have hE1 : ∀ i, ((1 ≤ i ∧ i < 10) ∨ (o ≤ i ∧ i < o + 17)) → adB i = ad1 i ∧ ceB i = ce1 i := fun i hi => hE i (by
    rw [List.mem_append, I5_mem, List.mem_range'_1]; omega)
  have hE2 : ∀ i, ((1 ≤ i ∧ i < 10) ∨ (o ≤ i ∧ i < o + 17)) → ceB i = cont y adB (mixR o M Mn) i := fun i hi => by
    rw [(hE1 i hi).2, p1 i (by rw [I5_mem]; omega)]
    have e : Mn i = mixR o M Mn i := (if_pos (by omega)).symm
    rw [cont_congr e]
    refine (cont_ad (by omega) (by omega) (by obtain ⟨r, hr, e⟩ := hr; omega) (by omega) (fun j hj => (hE1 j ?_).1)).symm
    rcases hi with z | z
    · have : bst i = 1 ∧ bfi i = 10 := by unfold bst bfi; rw [if_pos z.2, if_pos z.2]; exact ⟨rfl, rfl⟩
      omega
    · have := row_b hr z.1 z.2
      omega
  refine T7.ext (m := o) (T7.trX (lo := 0) (hi := 0) hb (by omega) (by omega) t h1 h2 (fun j g1 g2 => hE2 j (Or.inl ⟨g1, g2⟩)) (fun j g1 g2 => if_neg (by omega))) (fun i g1 g2 _ _ => hE2 i (Or.inr ⟨g1, g2⟩))
theorem ial_120 : ∀ i, i < 142 → 11 ≤ i → i < 14 → ial i = 120 := by decide +kernel
theorem ial_9s : ∀ i, i < 142 → ial i = 9 ∨ i < 2 ∨ (10 ≤ i ∧ i < 16) ∨ i = 33 ∨ (34 ≤ i ∧ i < 102) ∨ i = 102 ∨ i = 104 ∨ i = 113 ∨ i = 114 ∨ i = 115 ∨ i = 120 ∨ i = 126 ∨ i = 127 ∨ i = 132 := by decide +kernel
theorem bnd_1 : bnd 1 := ⟨by decide, by decide +kernel⟩
theorem bnd_10 : bnd 10 := ⟨by decide, by decide +kernel⟩
theorem bnd_14 : bnd 14 := ⟨by decide, by decide +kernel⟩
theorem bnd_33 : bnd 33 := ⟨by decide, by decide +kernel⟩
theorem bnd_34 : bnd 34 := ⟨by decide, by decide +kernel⟩
theorem bnd_51 : bnd 51 := ⟨by decide, by decide +kernel⟩
theorem bnd_68 : bnd 68 := ⟨by decide, by decide +kernel⟩
theorem bnd_85 : bnd 85 := ⟨by decide, by decide +kernel⟩
theorem bnd_102 : bnd 102 := ⟨by decide, by decide +kernel⟩
theorem bnd_113 : bnd 113 := ⟨by decide, by decide +kernel⟩
theorem bnd_114 : bnd 114 := ⟨by decide, by decide +kernel⟩
theorem bnd_126 : bnd 126 := ⟨by decide, by decide +kernel⟩
theorem bnd_138 : bnd 138 := ⟨by decide, by decide +kernel⟩
theorem bnd_139 : bnd 139 := ⟨by decide, by decide +kernel⟩
theorem bnd_140 : bnd 140 := ⟨by decide, by decide +kernel⟩
theorem bnd_141 : bnd 141 := ⟨by decide, by decide +kernel⟩
set_option maxHeartbeats 8000000 in
theorem i_X7 {l : Launch} {D : va_G} {y : Nat → ClassId} {ad : Nat → Nat} {ce0 : Nat → va_E} (h0 : ce0 0 = .inr (6, fN l7 ad 0)) : Ci (l, D, y, ad, [0]) yX7_init cX7_init 2 6 141 1550 [.ref (ad 0)] ce0 (List.range' 1 141) (fun ad1 ce1 => ∃ M, (∀ i, i < 142 → ce1 i = cont y ad1 M i) ∧ G7 142 4 M) := by
  refine Ci.ofU (by decide) rfl (Nat.le_of_ble_eq_true rfl) (by simp [Value.category]) (fun κ hin hao => ?_)
  have hA : ∀ q, κ.2.2.1.heap.size ≤ q → Awi (l, D, y, ad, [0]) κ.2.2.1.heap.size q := fun q h => Or.inr h
  have t0 : T7 y (ad 0) 1 0 ad ce0 mem0 := ⟨rfl, h0, fun i g1 g2 => by omega⟩
  show U (l, D, y, ad, IN 0 1 1) _ _ _ _ _ _ _ _ _ _ _ _ _
  generalize hKK : Qmi (l, D, y, ad, [0]) κ (List.range' 1 141) 141 1550 (fun ad1 ce1 => ∃ M, (∀ i, i < 142 → ce1 i = cont y ad1 M i) ∧ G7 142 4 M) = QQ
  generalize hAA : Awi (l, D, y, ad, [0]) κ.2.2.1.heap.size = AA at hA ⊢
  refine U.aload_n dX7_init_0 rfl ?_
  refine U.oini dX7_init_1 lkX7_3 (by decide) (by decide) rfl ?_
  refine U.aload_n dX7_init_4 rfl ?_
  refine U.newF (i := 1) (ci := 3) (C := RX4) (T := TX4) (N := 8) (fs := [.null, .null, .null, .null, .null, .null, .null, .null]) tyX4 dX7_init_5 hA inX4 tyX4_ok lcX7_9 ib_X4 ini_X4 rfl (by decide) (Nat.le_of_ble_eq_true rfl) (Nat.le_of_ble_eq_true rfl) (IN0n (by decide) (by decide)) (fun ad1 ce1 h1 h2 h3 => ?_)
  have g1 : ∀ j, j < 1 → ad1 j = ad j := fun j hj => h1 j (IN0 hj)
  have g2 : ∀ j, j < 1 → ce1 j = ce0 j := fun j hj => h2 j (IN0 hj)
  have t1 : T7 y (ad 0) 1 0 ad1 ce1 (mem0) := t0.tr bnd_1 (by decide) (by decide) g1 g2 (by decide)
  rw [IN_succ (by decide)]
  clear h1 h2 g2 t0
  have w33 : ∀ j, j < 1 → ad1 j = ad j := g1
  clear g1
  refine U.dup dX7_init_8 rfl ?_
  refine U.callI (g := (l, D, y, ad1, IN 0 1 2)) (kc := (1, 8)) (I2 := [1]) (I1 := [2, 3, 4, 5, 6, 7, 8, 9]) (o := 1) (ce0 := ce1) (av := []) (d2 := 1) (mc := 8) (ms := 72) dX7_init_9 hA hao (fun i hi => ⟨IN0 (by rw [List.mem_singleton] at hi; omega), rfl⟩) (by decide) (fun i hi => IN0n (by decide) ((by simp at hi; omega))) (i_X4 h3) rfl lkX7_11 im_X4_init cd_X4_init ini_X4 hd_X4_init ⟨(Nat.le_of_ble_eq_true rfl), (Nat.le_of_ble_eq_true rfl)⟩ rfl (Nat.le_of_ble_eq_true rfl) (Nat.le_of_ble_eq_true rfl) (Nat.le_of_ble_eq_true rfl) (fun ad2 ce2 adP ceP hP hE hF hG => ?_)
  replace hF : ∀ j, j < 2 → ad2 j = ad1 j := fun j hj => hF j (IN0 hj)
  show U (l, D, y, ad2, IN 0 1 10) _ _ _ _ _ _ _ _ _ (9, 80) _ _ _
  have tB : T7 y (ad 0) 1 0 ad2 ce2 mem0 := t1.tr bnd_1 (by decide) (by decide) (fun j hj => hF j (by omega)) (fun j hj => hG j (IN0 (by omega)) (by simp; omega)) (by decide)
  have t2 : T7 y (ad 0) 10 0 ad2 ce2 (m4 9) := ⟨tB.1, tB.2.1, fun i g1 g2 g3 g4 => by
    have hE1 : ∀ i, 1 ≤ i → i < 10 → ad2 i = adP i ∧ ce2 i = ceP i := fun i a b => hE i (by simp; omega)
    rw [(hE1 i g1 g2).2, hP i g1 g2]
    refine (cont_ad g1 (by omega) g3 g4 (fun j hj => (hE1 j ?_ ?_).1)).symm <;> (have : bst i = 1 ∧ bfi i = 10 := (by unfold bst bfi; rw [if_pos g2, if_pos g2]; exact ⟨rfl, rfl⟩)) <;> omega⟩
  have gA : G7 10 0 (m4 9) := ⟨fun _ _ => rfl, fun i g1 g2 => by omega, fun r hr => by omega⟩
  clear tB hE hP hG w33 h3 t1
  refine U.putFA (o := 0) (ci := 6) (k := 0) (C := RX7) (T := TX7) (N := 10) (ty := .object RX4) tyX7 dX7_init_12 hin lfX7_12 inX7 tyX7_ok nmX7 rfl (by decide) rfl rfl rfl rfl rfl (IN0 (by decide)) t2.1 t2.2.1 (Nat.le_of_ble_eq_true rfl) (fun ce3 h2 h4 => ?_)
  rw [← hF 1 (by decide)] at h4
  have t3 : T7 y (ad 0) 10 2 ad2 ce3 (m4 9) := t2.put (k := 0) (i := 1) (fun j hj h => h2 j (IN0 hj) h) h4 (fun _ => rfl)
  clear h2 h4 hF t2
  refine U.aload_n dX7_init_15 rfl ?_
  refine U.newF (i := 10) (ci := 5) (C := RX6) (T := TX6) (N := 8) (fs := [.null, .null, .int 0, .int 0, .null, .int 0, .int 0, .int 0]) tyX6 dX7_init_16 hA inX6 tyX6_ok lcX7_16 ib_X6 ini_X6 rfl (by decide) (Nat.le_of_ble_eq_true rfl) (Nat.le_of_ble_eq_true rfl) (IN0n (by decide) (by decide)) (fun ad4 ce4 h1 h2 h3 => ?_)
  have g1 : ∀ j, j < 10 → ad4 j = ad2 j := fun j hj => h1 j (IN0 hj)
  have g2 : ∀ j, j < 10 → ce4 j = ce3 j := fun j hj => h2 j (IN0 hj)
  have t4 : T7 y (ad 0) 10 2 ad4 ce4 (m4 9) := t3.tr bnd_10 (by decide) (by decide) g1 g2 (by decide)
  rw [IN_succ (by decide)]
  clear h1 h2 g2 t3
  have w33 : ∀ j, j < 10 → ad4 j = ad2 j := g1
  clear g1
  refine U.dup dX7_init_19 rfl ?_
  refine U.callIN (g := (l, D, y, ad4, IN 0 1 11)) (kc := (10, 88)) (I2 := [10]) (I1 := [11, 12, 13]) (o := 10) (ce0 := ce4) (av := []) (d2 := 1) (mc := 3) (ms := 360) dX7_init_20 hA hao (fun i hi => ⟨IN0 (by rw [List.mem_singleton] at hi; omega), rfl⟩) (by decide) (fun i hi => IN0n (by decide) ((by simp at hi; omega))) (i_X6 h3) rfl nlX7_18 im_X6_init cd_X6_init ini_X6 hd_X6_init ⟨(Nat.le_of_ble_eq_true rfl), (Nat.le_of_ble_eq_true rfl)⟩ rfl (Nat.le_of_ble_eq_true rfl) (Nat.le_of_ble_eq_true rfl) (Nat.le_of_ble_eq_true rfl) (fun ad5 ce5 adP ceP hP hE hF hG => ?_)
  replace hF : ∀ j, j < 11 → ad5 j = ad4 j := fun j hj => hF j (IN0 hj)
  show U (l, D, y, ad5, IN 0 1 14) _ _ _ _ _ _ _ _ _ (13, 448) _ _ _
  have g2 : ∀ j, j < 10 → ce5 j = ce4 j := fun j hj => hG j (IN0 (by omega)) (by simp; omega)
  have tB : T7 y (ad 0) 10 2 ad5 ce5 (m4 9) := t4.tr bnd_10 (by decide) (by decide) (fun j hj => hF j (by omega)) g2 (by decide)
  have hE1 : ∀ i, 10 ≤ i → i < 14 → ad5 i = adP i ∧ ce5 i = ceP i := fun i a b => hE i (by simp; omega)
  have t5 : T7 y (ad 0) 14 2 ad5 ce5 (mix 10 (m4 9) memB) := tB.blk (fun i g1 g3 g4 g5 => by
    rw [(hE1 i g1 g3).2]
    by_cases e : i = 10
    · subst e; rw [hP.1, ← (hE1 11 (by decide) (by decide)).1, ← (hE1 12 (by decide) (by decide)).1, ← (hE1 13 (by decide) (by decide)).1]; rfl
    · rw [hP.2 i (by omega)]
      have hl : ial i = 120 := ial_120 i (by omega) (by omega) (by omega)
      rw [cont_int hl (by decide), memB_z (by omega)])
  have gA : G7 14 0 (mix 10 (m4 9) memB) := gA.blk (by decide) (by decide)
  clear tB hE hE1 hP hG g2 w33 h3 t4
  refine U.putFA (o := 0) (ci := 6) (k := 1) (C := RX7) (T := TX7) (N := 10) (ty := .object RX6) tyX7 dX7_init_23 hin lfX7_19 inX7 tyX7_ok nmX7 rfl (by decide) rfl rfl rfl rfl rfl (IN0 (by decide)) t5.1 t5.2.1 (Nat.le_of_ble_eq_true rfl) (fun ce6 h2 h4 => ?_)
  rw [← hF 10 (by decide)] at h4
  have t6 : T7 y (ad 0) 14 11 ad5 ce6 (mix 10 (m4 9) memB) := t5.put (k := 1) (i := 10) (fun j hj h => h2 j (IN0 hj) h) h4 (fun _ => rfl)
  clear h2 h4 hF t5
  refine U.aload_n dX7_init_26 rfl ?_
  refine U.newF (i := 14) (ci := 2) (C := RX3) (T := TX3) (N := 4) (fs := [.null, .null, .null, .int 0]) tyX3 dX7_init_27 hA inX3 tyX3_ok lcX7_23 ib_X3 ini_X3 rfl (by decide) (Nat.le_of_ble_eq_true rfl) (Nat.le_of_ble_eq_true rfl) (IN0n (by decide) (by decide)) (fun ad7 ce7 h1 h2 h3 => ?_)
  have g1 : ∀ j, j < 14 → ad7 j = ad5 j := fun j hj => h1 j (IN0 hj)
  have g2 : ∀ j, j < 14 → ce7 j = ce6 j := fun j hj => h2 j (IN0 hj)
  have t7 : T7 y (ad 0) 14 11 ad7 ce7 (mix 10 (m4 9) memB) := t6.tr bnd_14 (by decide) (by decide) g1 g2 (by decide)
  rw [IN_succ (by decide)]
  clear h1 h2 g2 t6
  have w33 : ∀ j, j < 14 → ad7 j = ad5 j := g1
  clear g1
  refine U.dup dX7_init_30 rfl ?_
  refine U.aload_n dX7_init_31 rfl ?_
  refine U.getfA (o := 0) (ci := 6) (k := 0) (C := RX7) (T := TX7) (N := 10) dX7_init_32 lfX7_12 inX7 rfl (by decide) (IN0 (by decide)) t7.1 t7.2.1 rfl ?_
  refine U.callI (g := (l, D, y, ad7, IN 0 1 15)) (kc := (14, 452)) (I2 := [14]) (I1 := [15, 16, 17, 18, 19, 20, 21, 22, 23, 24, 25, 26, 27, 28, 29, 30, 31, 32]) (o := 14) (ce0 := ce7) (av := [.ref (ad7 1)]) (d2 := 1) (mc := 18) (ms := 169) dX7_init_35 hA hao (fun i hi => ⟨IN0 (by rw [List.mem_singleton] at hi; omega), rfl⟩) (by decide) (fun i hi => IN0n (by decide) ((by simp at hi; omega))) (i_X3 h3) rfl lkX7_25 im_X3_init cd_X3_init ini_X3 hd_X3_init ⟨(Nat.le_of_ble_eq_true rfl), (Nat.le_of_ble_eq_true rfl)⟩ rfl (Nat.le_of_ble_eq_true rfl) (Nat.le_of_ble_eq_true rfl) (Nat.le_of_ble_eq_true rfl) (fun ad8 ce8 adP ceP hP hE hF hG => ?_)
  replace hF : ∀ j, j < 15 → ad8 j = ad7 j := fun j hj => hF j (IN0 hj)
  show U (l, D, y, ad8, IN 0 1 33) _ _ _ _ _ _ _ _ _ (32, 621) _ _ _
  have g2 : ∀ j, j < 14 → ce8 j = ce7 j := fun j hj => hG j (IN0 (by omega)) (by simp; omega)
  have tB : T7 y (ad 0) 14 11 ad8 ce8 (mix 10 (m4 9) memB) := t7.tr bnd_14 (by decide) (by decide) (fun j hj => hF j (by omega)) g2 (by decide)
  have hE1 : ∀ i, 14 ≤ i → i < 33 → ad8 i = adP i ∧ ce8 i = ceP i := fun i a b => hE i (by simp; omega)
  have t8 : T7 y (ad 0) 33 11 ad8 ce8 (mix 14 (mix 10 (m4 9) memB) memB) := tB.blk (fun i g1 g3 g4 g5 => by
    rw [(hE1 i g1 g3).2]
    by_cases e : i = 14
    · subst e; rw [hP.1, ← (hE1 15 (by decide) (by decide)).1, ← (hE1 32 (by decide) (by decide)).1, ← hF 1 (by decide)]; rfl
    by_cases e2 : i = 15
    · subst e2; rw [hP.2.1]
      exact rarr_cg (fun t ht => ((hE1 (16 + t) (by omega) (by omega)).1).symm)
    rw [hP.2.2 i (by simp; omega)]
    have hl : ial i = 9 := by have := ial_9s i (by omega); omega
    rw [cont_int hl (by decide), memB_z (by omega)])
  have gA : G7 33 0 (mix 14 (mix 10 (m4 9) memB) memB) := gA.blk (by decide) (by decide)
  clear tB hE hE1 hP hG g2 w33 h3 t7
  refine U.putFA (o := 0) (ci := 6) (k := 2) (C := RX7) (T := TX7) (N := 10) (ty := .object RX3) tyX7 dX7_init_38 hin lfX7_28 inX7 tyX7_ok nmX7 rfl (by decide) rfl rfl rfl rfl rfl (IN0 (by decide)) t8.1 t8.2.1 (Nat.le_of_ble_eq_true rfl) (fun ce9 h2 h4 => ?_)
  rw [← hF 14 (by decide)] at h4
  have t9 : T7 y (ad 0) 33 15 ad8 ce9 (mix 14 (mix 10 (m4 9) memB) memB) := t8.put (k := 2) (i := 14) (fun j hj h => h2 j (IN0 hj) h) h4 (fun _ => rfl)
  clear h2 h4 hF t8
  generalize mix 14 (mix 10 (m4 9) memB) memB = MA at *
  refine U.aload_n dX7_init_41 rfl ?_
  refine U.iconst (v := nI 4) dX7_init_42 rfl ?_
  refine U.nqp (o := 0) (ci := 6) (k := 3) (C := RX7) (T := TX7) (N := 10) (i := 33) (n := 4) (t := 3) (C0 := RX5) (cA0 := y 3) tyX7 dX7_init_43 dX7_init_46 hA lcX7_32 hao.1 rfl hin lfX7_34 inX7 tyX7_ok nmX7 rfl (by decide) rfl rfl rfl (by decide) (Nat.le_of_ble_eq_true rfl) (Nat.le_of_ble_eq_true rfl) (IN0n (by decide) (by decide)) (IN0 (by decide)) t9.1 t9.2.1 (Nat.le_of_ble_eq_true rfl) (fun ad10 ce10 h1 h2 h3 h4 => ?_)
  have t10 : T7 y (ad 0) 34 34 ad10 ce10 (MA) := (T7.trP (k := 3) (i := 33) bnd_33 (by decide) (by decide) t9 (fun j hj => h1 j (IN0 hj)) (fun j hj h => h2 j (IN0 hj) h) h4 (fun _ => rfl)).ext (fun j a b c d => by omega)
  have q11 : QA (y 3) 33 4 34 17 0 ad10 ce10 := by unfold QA; rw [h3]; rfl
  rw [IN_succ (by decide)]
  clear h1 h2 h3 h4 t9
  have gA : G7 34 0 (mix 33 MA memB) := gA.blk (by decide) (by decide)
  replace t10 : T7 y (ad 0) 34 34 ad10 ce10 (mix 33 MA memB) := ⟨t10.1, t10.2.1, fun i a b c d => (t10.2.2 i a b c d).trans (cont_congr (show MA i = mix 33 MA memB i from (if_pos (by omega)).symm))⟩
  generalize mix 33 MA memB = MB at *
  refine U.iconst (v := nI 0) dX7_init_49 rfl ?_
  refine U.istore_n dX7_init_50 (by decide) ?_
  refine U.iload_n dX7_init_51 rfl ?_
  refine U.iconst (v := nI 4) dX7_init_52 rfl ?_
  refine U.geN (tgt := 79) dX7_init_53 (by decide) (by omega) (by omega) (fun h => absurd h (by omega)) (fun _ => ?_)
  refine U.aload_n dX7_init_56 rfl ?_
  refine U.getfA (o := 0) (ci := 6) (k := 3) (C := RX7) (T := TX7) (N := 10) dX7_init_57 lfX7_34 inX7 rfl (by decide) (IN0 (by decide)) t10.1 t10.2.1 rfl ?_
  refine U.iload_n dX7_init_60 rfl ?_
  refine U.newF (i := 34) (ci := 4) (C := RX5) (T := TX5) (N := 8) (fs := [.null, .null, .null, .null, .null, .null, .null, .null]) tyX5 dX7_init_61 hA inX5 tyX5_ok lcX7_32 ib_X5 ini_X5 rfl (by decide) (Nat.le_of_ble_eq_true rfl) (Nat.le_of_ble_eq_true rfl) (IN0n (by decide) (by decide)) (fun ad12 ce12 h1 h2 h3 => ?_)
  have g1 : ∀ j, j < 34 → ad12 j = ad10 j := fun j hj => h1 j (IN0 hj)
  have g2 : ∀ j, j < 34 → ce12 j = ce10 j := fun j hj => h2 j (IN0 hj)
  have t12 : T7 y (ad 0) 34 34 ad12 ce12 (MB) := t10.tr bnd_34 (by decide) (by decide) g1 g2 (by decide)
  have q13 : QA (y 3) 33 4 34 17 0 ad12 ce12 := q11.tr (m := 34) (fun j hj => by omega) (by decide) g1 (g2 33 (by decide))
  rw [IN_succ (by decide)]
  clear h1 h2 g2 t10
  have w33 : ∀ j, j < 34 → ad12 j = ad10 j := g1
  clear g1
  refine U.dup dX7_init_64 rfl ?_
  refine U.aload_n dX7_init_65 rfl ?_
  refine U.getfA (o := 0) (ci := 6) (k := 0) (C := RX7) (T := TX7) (N := 10) dX7_init_66 lfX7_12 inX7 rfl (by decide) (IN0 (by decide)) t12.1 t12.2.1 rfl ?_
  have hr : isRw 34 := ⟨0, by decide, rfl⟩
  refine U.callI (g := (l, D, y, ad12, IN 0 1 35)) (kc := (34, 633)) (I2 := I5 34 0) (I1 := List.range' 35 16) (o := 34) (ce0 := ce12) (av := [.ref (ad12 1)]) (d2 := 5) (mc := 16) (ms := 144) dX7_init_69 hA hao (fun i hi => ⟨IN0 (by rw [I5_mem] at hi; omega), rfl⟩) (I5_nd (by decide)) (fun i hi => IN0n (by decide) (by rw [List.mem_range'_1] at hi; omega)) (i_X5 (M0 := MB) hr h3 (fun i a b => t12.2.2 i a (by omega) (by omega) (by omega))) rfl lkX7_38 im_X5_init cd_X5_init ini_X5 hd_X5_init ⟨(Nat.le_of_ble_eq_true rfl), (Nat.le_of_ble_eq_true rfl)⟩ rfl (Nat.le_of_ble_eq_true rfl) (Nat.le_of_ble_eq_true rfl) (Nat.le_of_ble_eq_true rfl) (fun ad14 ce14 adP ceP hP hE hF hG => ?_)
  replace hF : ∀ j, j < 35 → ad14 j = ad12 j := fun j hj => hF j (IN0 hj)
  show U (l, D, y, ad14, IN 0 1 51) _ _ _ _ _ _ _ _ _ (50, 777) _ _ _
  obtain ⟨Mn, p1, p2, p3, p4, p5⟩ := hP
  have g2 : ∀ j, j < 34 → ¬ (1 ≤ j ∧ j < 10) → ce14 j = ce12 j := fun j hj h => hG j (IN0 (by omega)) (fun z => by rw [I5_mem] at z; omega)
  have t14 : T7 y (ad 0) 51 34 ad14 ce14 (mixR 34 MB Mn) := T7.row hr bnd_34 t12 (fun j hj => hF j (by omega)) g2 hE p1
  have q15 : QA (y 3) 33 4 34 17 0 ad14 ce14 := q13.tr (m := 34) (fun j hj => by omega) (by decide) (fun j hj => hF j (by omega)) (g2 33 (by decide) (by decide))
  have gA : G7 51 1 (mixR 34 MB Mn) := G7.row (k := 0) rfl (by decide) gA p2 p3 p4 p5
  have hb33 : ad10 33 = ad14 33 := ((hF 33 (by decide)).trans (w33 33 (by decide))).symm
  have hbo : ad12 34 = ad14 34 := (hF 34 (by decide)).symm
  clear p1 p2 p3 p4 p5 hE hG g2 w33 h3 t12
  generalize mixR 34 MB Mn = MC at *
  refine U.astqA (i := 33) (o := 34) (n := 4) (j := 0) (t := 3) (ci := 4) (cA := y 3) (r := (RX5, TX5, 8)) dX7_init_72 rfl rfl (by decide) (by decide) (IN0 (by decide)) hb33 q15 (IN0 (by decide)) hbo ((t14.2.2 34 (by decide) (by decide) (by decide) (by decide)).trans (cont_row hr _)) (fun ce16 h2 h4 => ?_)
  have t16 : T7 y (ad 0) 51 34 ad14 ce16 MC := t14.off (x := 33) (Or.inl rfl) (by decide) (fun j hj h => h2 j (IN0 hj) h)
  have q17 : QA (y 3) 33 4 34 17 1 ad14 ce16 := QA.put (k := 0) hbo h4
  clear h2 h4 hb33 hbo hF hr t14 q15
  refine U.iincN dX7_init_73 (by decide) rfl ?_
  refine U.goto (tgt := 51) dX7_init_76 (by decide) ?_
  refine U.iload_n dX7_init_51 rfl ?_
  refine U.iconst (v := nI 4) dX7_init_52 rfl ?_
  refine U.geN (tgt := 79) dX7_init_53 (by decide) (by omega) (by omega) (fun h => absurd h (by omega)) (fun _ => ?_)
  refine U.aload_n dX7_init_56 rfl ?_
  refine U.getfA (o := 0) (ci := 6) (k := 3) (C := RX7) (T := TX7) (N := 10) dX7_init_57 lfX7_34 inX7 rfl (by decide) (IN0 (by decide)) t16.1 t16.2.1 rfl ?_
  refine U.iload_n dX7_init_60 rfl ?_
  refine U.newF (i := 51) (ci := 4) (C := RX5) (T := TX5) (N := 8) (fs := [.null, .null, .null, .null, .null, .null, .null, .null]) tyX5 dX7_init_61 hA inX5 tyX5_ok lcX7_32 ib_X5 ini_X5 rfl (by decide) (Nat.le_of_ble_eq_true rfl) (Nat.le_of_ble_eq_true rfl) (IN0n (by decide) (by decide)) (fun ad18 ce18 h1 h2 h3 => ?_)
  have g1 : ∀ j, j < 51 → ad18 j = ad14 j := fun j hj => h1 j (IN0 hj)
  have g2 : ∀ j, j < 51 → ce18 j = ce16 j := fun j hj => h2 j (IN0 hj)
  have t18 : T7 y (ad 0) 51 34 ad18 ce18 (MC) := t16.tr bnd_51 (by decide) (by decide) g1 g2 (by decide)
  have q19 : QA (y 3) 33 4 34 17 1 ad18 ce18 := q17.tr (m := 51) (fun j hj => by omega) (by decide) g1 (g2 33 (by decide))
  rw [IN_succ (by decide)]
  clear h1 h2 g2 t16
  have w33 : ∀ j, j < 51 → ad18 j = ad14 j := g1
  clear g1
  refine U.dup dX7_init_64 rfl ?_
  refine U.aload_n dX7_init_65 rfl ?_
  refine U.getfA (o := 0) (ci := 6) (k := 0) (C := RX7) (T := TX7) (N := 10) dX7_init_66 lfX7_12 inX7 rfl (by decide) (IN0 (by decide)) t18.1 t18.2.1 rfl ?_
  have hr : isRw 51 := ⟨1, by decide, rfl⟩
  refine U.callI (g := (l, D, y, ad18, IN 0 1 52)) (kc := (51, 785)) (I2 := I5 51 0) (I1 := List.range' 52 16) (o := 51) (ce0 := ce18) (av := [.ref (ad18 1)]) (d2 := 5) (mc := 16) (ms := 144) dX7_init_69 hA hao (fun i hi => ⟨IN0 (by rw [I5_mem] at hi; omega), rfl⟩) (I5_nd (by decide)) (fun i hi => IN0n (by decide) (by rw [List.mem_range'_1] at hi; omega)) (i_X5 (M0 := MC) hr h3 (fun i a b => t18.2.2 i a (by omega) (by omega) (by omega))) rfl lkX7_38 im_X5_init cd_X5_init ini_X5 hd_X5_init ⟨(Nat.le_of_ble_eq_true rfl), (Nat.le_of_ble_eq_true rfl)⟩ rfl (Nat.le_of_ble_eq_true rfl) (Nat.le_of_ble_eq_true rfl) (Nat.le_of_ble_eq_true rfl) (fun ad20 ce20 adP ceP hP hE hF hG => ?_)
  replace hF : ∀ j, j < 52 → ad20 j = ad18 j := fun j hj => hF j (IN0 hj)
  show U (l, D, y, ad20, IN 0 1 68) _ _ _ _ _ _ _ _ _ (67, 929) _ _ _
  obtain ⟨Mn, p1, p2, p3, p4, p5⟩ := hP
  have g2 : ∀ j, j < 51 → ¬ (1 ≤ j ∧ j < 10) → ce20 j = ce18 j := fun j hj h => hG j (IN0 (by omega)) (fun z => by rw [I5_mem] at z; omega)
  have t20 : T7 y (ad 0) 68 34 ad20 ce20 (mixR 51 MC Mn) := T7.row hr bnd_51 t18 (fun j hj => hF j (by omega)) g2 hE p1
  have q21 : QA (y 3) 33 4 34 17 1 ad20 ce20 := q19.tr (m := 51) (fun j hj => by omega) (by decide) (fun j hj => hF j (by omega)) (g2 33 (by decide) (by decide))
  have gA : G7 68 2 (mixR 51 MC Mn) := G7.row (k := 1) rfl (by decide) gA p2 p3 p4 p5
  have hb33 : ad14 33 = ad20 33 := ((hF 33 (by decide)).trans (w33 33 (by decide))).symm
  have hbo : ad18 51 = ad20 51 := (hF 51 (by decide)).symm
  clear p1 p2 p3 p4 p5 hE hG g2 w33 h3 t18
  generalize mixR 51 MC Mn = MD at *
  refine U.astqA (i := 33) (o := 51) (n := 4) (j := 1) (t := 3) (ci := 4) (cA := y 3) (r := (RX5, TX5, 8)) dX7_init_72 rfl rfl (by decide) (by decide) (IN0 (by decide)) hb33 q21 (IN0 (by decide)) hbo ((t20.2.2 51 (by decide) (by decide) (by decide) (by decide)).trans (cont_row hr _)) (fun ce22 h2 h4 => ?_)
  have t22 : T7 y (ad 0) 68 34 ad20 ce22 MD := t20.off (x := 33) (Or.inl rfl) (by decide) (fun j hj h => h2 j (IN0 hj) h)
  have q23 : QA (y 3) 33 4 34 17 2 ad20 ce22 := QA.put (k := 1) hbo h4
  clear h2 h4 hb33 hbo hF hr t20 q21
  refine U.iincN dX7_init_73 (by decide) rfl ?_
  refine U.goto (tgt := 51) dX7_init_76 (by decide) ?_
  refine U.iload_n dX7_init_51 rfl ?_
  refine U.iconst (v := nI 4) dX7_init_52 rfl ?_
  refine U.geN (tgt := 79) dX7_init_53 (by decide) (by omega) (by omega) (fun h => absurd h (by omega)) (fun _ => ?_)
  refine U.aload_n dX7_init_56 rfl ?_
  refine U.getfA (o := 0) (ci := 6) (k := 3) (C := RX7) (T := TX7) (N := 10) dX7_init_57 lfX7_34 inX7 rfl (by decide) (IN0 (by decide)) t22.1 t22.2.1 rfl ?_
  refine U.iload_n dX7_init_60 rfl ?_
  refine U.newF (i := 68) (ci := 4) (C := RX5) (T := TX5) (N := 8) (fs := [.null, .null, .null, .null, .null, .null, .null, .null]) tyX5 dX7_init_61 hA inX5 tyX5_ok lcX7_32 ib_X5 ini_X5 rfl (by decide) (Nat.le_of_ble_eq_true rfl) (Nat.le_of_ble_eq_true rfl) (IN0n (by decide) (by decide)) (fun ad24 ce24 h1 h2 h3 => ?_)
  have g1 : ∀ j, j < 68 → ad24 j = ad20 j := fun j hj => h1 j (IN0 hj)
  have g2 : ∀ j, j < 68 → ce24 j = ce22 j := fun j hj => h2 j (IN0 hj)
  have t24 : T7 y (ad 0) 68 34 ad24 ce24 (MD) := t22.tr bnd_68 (by decide) (by decide) g1 g2 (by decide)
  have q25 : QA (y 3) 33 4 34 17 2 ad24 ce24 := q23.tr (m := 68) (fun j hj => by omega) (by decide) g1 (g2 33 (by decide))
  rw [IN_succ (by decide)]
  clear h1 h2 g2 t22
  have w33 : ∀ j, j < 68 → ad24 j = ad20 j := g1
  clear g1
  refine U.dup dX7_init_64 rfl ?_
  refine U.aload_n dX7_init_65 rfl ?_
  refine U.getfA (o := 0) (ci := 6) (k := 0) (C := RX7) (T := TX7) (N := 10) dX7_init_66 lfX7_12 inX7 rfl (by decide) (IN0 (by decide)) t24.1 t24.2.1 rfl ?_
  have hr : isRw 68 := ⟨2, by decide, rfl⟩
  refine U.callI (g := (l, D, y, ad24, IN 0 1 69)) (kc := (68, 937)) (I2 := I5 68 0) (I1 := List.range' 69 16) (o := 68) (ce0 := ce24) (av := [.ref (ad24 1)]) (d2 := 5) (mc := 16) (ms := 144) dX7_init_69 hA hao (fun i hi => ⟨IN0 (by rw [I5_mem] at hi; omega), rfl⟩) (I5_nd (by decide)) (fun i hi => IN0n (by decide) (by rw [List.mem_range'_1] at hi; omega)) (i_X5 (M0 := MD) hr h3 (fun i a b => t24.2.2 i a (by omega) (by omega) (by omega))) rfl lkX7_38 im_X5_init cd_X5_init ini_X5 hd_X5_init ⟨(Nat.le_of_ble_eq_true rfl), (Nat.le_of_ble_eq_true rfl)⟩ rfl (Nat.le_of_ble_eq_true rfl) (Nat.le_of_ble_eq_true rfl) (Nat.le_of_ble_eq_true rfl) (fun ad26 ce26 adP ceP hP hE hF hG => ?_)
  replace hF : ∀ j, j < 69 → ad26 j = ad24 j := fun j hj => hF j (IN0 hj)
  show U (l, D, y, ad26, IN 0 1 85) _ _ _ _ _ _ _ _ _ (84, 1081) _ _ _
  obtain ⟨Mn, p1, p2, p3, p4, p5⟩ := hP
  have g2 : ∀ j, j < 68 → ¬ (1 ≤ j ∧ j < 10) → ce26 j = ce24 j := fun j hj h => hG j (IN0 (by omega)) (fun z => by rw [I5_mem] at z; omega)
  have t26 : T7 y (ad 0) 85 34 ad26 ce26 (mixR 68 MD Mn) := T7.row hr bnd_68 t24 (fun j hj => hF j (by omega)) g2 hE p1
  have q27 : QA (y 3) 33 4 34 17 2 ad26 ce26 := q25.tr (m := 68) (fun j hj => by omega) (by decide) (fun j hj => hF j (by omega)) (g2 33 (by decide) (by decide))
  have gA : G7 85 3 (mixR 68 MD Mn) := G7.row (k := 2) rfl (by decide) gA p2 p3 p4 p5
  have hb33 : ad20 33 = ad26 33 := ((hF 33 (by decide)).trans (w33 33 (by decide))).symm
  have hbo : ad24 68 = ad26 68 := (hF 68 (by decide)).symm
  clear p1 p2 p3 p4 p5 hE hG g2 w33 h3 t24
  generalize mixR 68 MD Mn = ME at *
  refine U.astqA (i := 33) (o := 68) (n := 4) (j := 2) (t := 3) (ci := 4) (cA := y 3) (r := (RX5, TX5, 8)) dX7_init_72 rfl rfl (by decide) (by decide) (IN0 (by decide)) hb33 q27 (IN0 (by decide)) hbo ((t26.2.2 68 (by decide) (by decide) (by decide) (by decide)).trans (cont_row hr _)) (fun ce28 h2 h4 => ?_)
  have t28 : T7 y (ad 0) 85 34 ad26 ce28 ME := t26.off (x := 33) (Or.inl rfl) (by decide) (fun j hj h => h2 j (IN0 hj) h)
  have q29 : QA (y 3) 33 4 34 17 3 ad26 ce28 := QA.put (k := 2) hbo h4
  clear h2 h4 hb33 hbo hF hr t26 q27
  refine U.iincN dX7_init_73 (by decide) rfl ?_
  refine U.goto (tgt := 51) dX7_init_76 (by decide) ?_
  refine U.iload_n dX7_init_51 rfl ?_
  refine U.iconst (v := nI 4) dX7_init_52 rfl ?_
  refine U.geN (tgt := 79) dX7_init_53 (by decide) (by omega) (by omega) (fun h => absurd h (by omega)) (fun _ => ?_)
  refine U.aload_n dX7_init_56 rfl ?_
  refine U.getfA (o := 0) (ci := 6) (k := 3) (C := RX7) (T := TX7) (N := 10) dX7_init_57 lfX7_34 inX7 rfl (by decide) (IN0 (by decide)) t28.1 t28.2.1 rfl ?_
  refine U.iload_n dX7_init_60 rfl ?_
  refine U.newF (i := 85) (ci := 4) (C := RX5) (T := TX5) (N := 8) (fs := [.null, .null, .null, .null, .null, .null, .null, .null]) tyX5 dX7_init_61 hA inX5 tyX5_ok lcX7_32 ib_X5 ini_X5 rfl (by decide) (Nat.le_of_ble_eq_true rfl) (Nat.le_of_ble_eq_true rfl) (IN0n (by decide) (by decide)) (fun ad30 ce30 h1 h2 h3 => ?_)
  have g1 : ∀ j, j < 85 → ad30 j = ad26 j := fun j hj => h1 j (IN0 hj)
  have g2 : ∀ j, j < 85 → ce30 j = ce28 j := fun j hj => h2 j (IN0 hj)
  have t30 : T7 y (ad 0) 85 34 ad30 ce30 (ME) := t28.tr bnd_85 (by decide) (by decide) g1 g2 (by decide)
  have q31 : QA (y 3) 33 4 34 17 3 ad30 ce30 := q29.tr (m := 85) (fun j hj => by omega) (by decide) g1 (g2 33 (by decide))
  rw [IN_succ (by decide)]
  clear h1 h2 g2 t28
  have w33 : ∀ j, j < 85 → ad30 j = ad26 j := g1
  clear g1
  refine U.dup dX7_init_64 rfl ?_
  refine U.aload_n dX7_init_65 rfl ?_
  refine U.getfA (o := 0) (ci := 6) (k := 0) (C := RX7) (T := TX7) (N := 10) dX7_init_66 lfX7_12 inX7 rfl (by decide) (IN0 (by decide)) t30.1 t30.2.1 rfl ?_
  have hr : isRw 85 := ⟨3, by decide, rfl⟩
  refine U.callI (g := (l, D, y, ad30, IN 0 1 86)) (kc := (85, 1089)) (I2 := I5 85 0) (I1 := List.range' 86 16) (o := 85) (ce0 := ce30) (av := [.ref (ad30 1)]) (d2 := 5) (mc := 16) (ms := 144) dX7_init_69 hA hao (fun i hi => ⟨IN0 (by rw [I5_mem] at hi; omega), rfl⟩) (I5_nd (by decide)) (fun i hi => IN0n (by decide) (by rw [List.mem_range'_1] at hi; omega)) (i_X5 (M0 := ME) hr h3 (fun i a b => t30.2.2 i a (by omega) (by omega) (by omega))) rfl lkX7_38 im_X5_init cd_X5_init ini_X5 hd_X5_init ⟨(Nat.le_of_ble_eq_true rfl), (Nat.le_of_ble_eq_true rfl)⟩ rfl (Nat.le_of_ble_eq_true rfl) (Nat.le_of_ble_eq_true rfl) (Nat.le_of_ble_eq_true rfl) (fun ad32 ce32 adP ceP hP hE hF hG => ?_)
  replace hF : ∀ j, j < 86 → ad32 j = ad30 j := fun j hj => hF j (IN0 hj)
  show U (l, D, y, ad32, IN 0 1 102) _ _ _ _ _ _ _ _ _ (101, 1233) _ _ _
  obtain ⟨Mn, p1, p2, p3, p4, p5⟩ := hP
  have g2 : ∀ j, j < 85 → ¬ (1 ≤ j ∧ j < 10) → ce32 j = ce30 j := fun j hj h => hG j (IN0 (by omega)) (fun z => by rw [I5_mem] at z; omega)
  have t32 : T7 y (ad 0) 102 34 ad32 ce32 (mixR 85 ME Mn) := T7.row hr bnd_85 t30 (fun j hj => hF j (by omega)) g2 hE p1
  have q33 : QA (y 3) 33 4 34 17 3 ad32 ce32 := q31.tr (m := 85) (fun j hj => by omega) (by decide) (fun j hj => hF j (by omega)) (g2 33 (by decide) (by decide))
  have gA : G7 102 4 (mixR 85 ME Mn) := G7.row (k := 3) rfl (by decide) gA p2 p3 p4 p5
  have hb33 : ad26 33 = ad32 33 := ((hF 33 (by decide)).trans (w33 33 (by decide))).symm
  have hbo : ad30 85 = ad32 85 := (hF 85 (by decide)).symm
  clear p1 p2 p3 p4 p5 hE hG g2 w33 h3 t30
  generalize mixR 85 ME Mn = MF at *
  refine U.astqA (i := 33) (o := 85) (n := 4) (j := 3) (t := 3) (ci := 4) (cA := y 3) (r := (RX5, TX5, 8)) dX7_init_72 rfl rfl (by decide) (by decide) (IN0 (by decide)) hb33 q33 (IN0 (by decide)) hbo ((t32.2.2 85 (by decide) (by decide) (by decide) (by decide)).trans (cont_row hr _)) (fun ce34 h2 h4 => ?_)
  have t34 : T7 y (ad 0) 102 34 ad32 ce34 MF := t32.off (x := 33) (Or.inl rfl) (by decide) (fun j hj h => h2 j (IN0 hj) h)
  have q35 : QA (y 3) 33 4 34 17 4 ad32 ce34 := QA.put (k := 3) hbo h4
  clear h2 h4 hb33 hbo hF hr t32 q33
  refine U.iincN dX7_init_73 (by decide) rfl ?_
  refine U.goto (tgt := 51) dX7_init_76 (by decide) ?_
  refine U.iload_n dX7_init_51 rfl ?_
  refine U.iconst (v := nI 4) dX7_init_52 rfl ?_
  refine U.geN (tgt := 79) dX7_init_53 (by decide) (by omega) (by omega) (fun _ => ?_) (fun h => absurd h (by omega))
  refine U.aload_n dX7_init_79 rfl ?_
  refine U.newF (i := 102) (ci := 0) (C := RX0) (T := TX0) (N := 4) (fs := [.null, .int 0, .null, .int 0]) tyX0 dX7_init_80 hA inX0 tyX0_ok lcX7_39 ib_X0 ini_X0 rfl (by decide) (Nat.le_of_ble_eq_true rfl) (Nat.le_of_ble_eq_true rfl) (IN0n (by decide) (by decide)) (fun ad36 ce36 h1 h2 h3 => ?_)
  have g1 : ∀ j, j < 102 → ad36 j = ad32 j := fun j hj => h1 j (IN0 hj)
  have g2 : ∀ j, j < 102 → ce36 j = ce34 j := fun j hj => h2 j (IN0 hj)
  have t36 : T7 y (ad 0) 102 34 ad36 ce36 (MF) := t34.tr bnd_102 (by decide) (by decide) g1 g2 (by decide)
  have q37 : QA (y 3) 33 4 34 17 4 ad36 ce36 := q35.tr (m := 102) (fun j hj => by omega) (by decide) g1 (g2 33 (by decide))
  rw [IN_succ (by decide)]
  clear h1 h2 g2 t34
  have w33 : ∀ j, j < 102 → ad36 j = ad32 j := g1
  clear g1
  refine U.dup dX7_init_83 rfl ?_
  refine U.callIN (g := (l, D, y, ad36, IN 0 1 103)) (kc := (102, 1237)) (I2 := [102]) (I1 := [103, 104, 105, 106, 107, 108, 109, 110, 111, 112]) (o := 102) (ce0 := ce36) (av := []) (d2 := 1) (mc := 10) (ms := 89) dX7_init_84 hA hao (fun i hi => ⟨IN0 (by rw [List.mem_singleton] at hi; omega), rfl⟩) (by decide) (fun i hi => IN0n (by decide) ((by simp at hi; omega))) (i_X0 h3) rfl nlX7_41 im_X0_init cd_X0_init ini_X0 hd_X0_init ⟨(Nat.le_of_ble_eq_true rfl), (Nat.le_of_ble_eq_true rfl)⟩ rfl (Nat.le_of_ble_eq_true rfl) (Nat.le_of_ble_eq_true rfl) (Nat.le_of_ble_eq_true rfl) (fun ad38 ce38 adP ceP hP hE hF hG => ?_)
  replace hF : ∀ j, j < 103 → ad38 j = ad36 j := fun j hj => hF j (IN0 hj)
  show U (l, D, y, ad38, IN 0 1 113) _ _ _ _ _ _ _ _ _ (112, 1326) _ _ _
  have g2 : ∀ j, j < 102 → ce38 j = ce36 j := fun j hj => hG j (IN0 (by omega)) (by simp; omega)
  have tB : T7 y (ad 0) 102 34 ad38 ce38 (MF) := t36.tr bnd_102 (by decide) (by decide) (fun j hj => hF j (by omega)) g2 (by decide)
  have q39 : QA (y 3) 33 4 34 17 4 ad38 ce38 := q37.tr (m := 102) (fun j hj => by omega) (by decide) (fun j hj => hF j (by omega)) (g2 33 (by decide))
  have hE1 : ∀ i, 102 ≤ i → i < 113 → ad38 i = adP i ∧ ce38 i = ceP i := fun i a b => hE i (by simp; omega)
  have t38 : T7 y (ad 0) 113 34 ad38 ce38 (mix 102 (MF) memB) := tB.blk (fun i g1 g3 g4 g5 => by
    rw [(hE1 i g1 g3).2]
    by_cases e : i = 102
    · subst e; rw [hP.1, ← (hE1 103 (by decide) (by decide)).1, ← (hE1 104 (by decide) (by decide)).1]; rfl
    by_cases e2 : i = 104
    · subst e2; rw [hP.2.1]
      exact rarr_cg (fun t ht => ((hE1 (105 + t) (by omega) (by omega)).1).symm)
    rw [hP.2.2 i (by simp; omega)]
    have hl : ial i = 9 := by have := ial_9s i (by omega); omega
    rw [cont_int hl (by decide), memB_z (by omega)])
  have gA : G7 113 4 (mix 102 (MF) memB) := gA.blk (by decide) (by decide)
  clear tB hE hE1 hP hG g2 w33 h3 t36
  refine U.putFA (o := 0) (ci := 6) (k := 4) (C := RX7) (T := TX7) (N := 10) (ty := .object RX0) tyX7 dX7_init_87 hin lfX7_42 inX7 tyX7_ok nmX7 rfl (by decide) rfl rfl rfl rfl rfl (IN0 (by decide)) t38.1 t38.2.1 (Nat.le_of_ble_eq_true rfl) (fun ce40 h2 h4 => ?_)
  rw [← hF 102 (by decide)] at h4
  have t40 : T7 y (ad 0) 113 103 ad38 ce40 (mix 102 (MF) memB) := t38.put (k := 4) (i := 102) (fun j hj h => h2 j (IN0 hj) h) h4 (fun _ => rfl)
  have q41 : QA (y 3) 33 4 34 17 4 ad38 ce40 := q39.tr (m := 113) (fun j hj => by omega) (by decide) (fun j _ => rfl) (h2 33 (IN0 (by decide)) (by decide))
  clear h2 h4 hF t38
  generalize mix 102 (MF) memB = MG at *
  refine U.aload_n dX7_init_90 rfl ?_
  refine U.iconst (v := nI 2) dX7_init_91 rfl ?_
  refine U.nqp (o := 0) (ci := 6) (k := 5) (C := RX7) (T := TX7) (N := 10) (i := 113) (n := 2) (t := 4) (C0 := RX1) (cA0 := y 4) tyX7 dX7_init_92 dX7_init_95 hA lcX7_46 hao.2.1 rfl hin lfX7_48 inX7 tyX7_ok nmX7 rfl (by decide) rfl rfl rfl (by decide) (Nat.le_of_ble_eq_true rfl) (Nat.le_of_ble_eq_true rfl) (IN0n (by decide) (by decide)) (IN0 (by decide)) t40.1 t40.2.1 (Nat.le_of_ble_eq_true rfl) (fun ad42 ce42 h1 h2 h3 h4 => ?_)
  have t42 : T7 y (ad 0) 114 114 ad42 ce42 (MG) := (T7.trP (k := 5) (i := 113) bnd_113 (by decide) (by decide) t40 (fun j hj => h1 j (IN0 hj)) (fun j hj h => h2 j (IN0 hj) h) h4 (fun _ => rfl)).ext (fun j a b c d => by omega)
  have q43 : QA (y 3) 33 4 34 17 4 ad42 ce42 := q41.tr (m := 113) (fun j hj => by omega) (by decide) (fun j hj => h1 j (IN0 hj)) (h2 33 (IN0 (by decide)) (by decide))
  have q44 : QA (y 4) 113 2 114 12 0 ad42 ce42 := by unfold QA; rw [h3]; rfl
  rw [IN_succ (by decide)]
  clear h1 h2 h3 h4 t40
  have gA : G7 114 4 (mix 113 MG memB) := gA.blk (by decide) (by decide)
  replace t42 : T7 y (ad 0) 114 114 ad42 ce42 (mix 113 MG memB) := ⟨t42.1, t42.2.1, fun i a b c d => (t42.2.2 i a b c d).trans (cont_congr (show MG i = mix 113 MG memB i from (if_pos (by omega)).symm))⟩
  generalize mix 113 MG memB = MH at *
  refine U.iconst (v := nI 0) dX7_init_98 rfl ?_
  refine U.istore_n dX7_init_99 (by decide) ?_
  refine U.iload_n dX7_init_100 rfl ?_
  refine U.iconst (v := nI 2) dX7_init_101 rfl ?_
  refine U.geN (tgt := 124) dX7_init_102 (by decide) (by omega) (by omega) (fun h => absurd h (by omega)) (fun _ => ?_)
  refine U.aload_n dX7_init_105 rfl ?_
  refine U.getfA (o := 0) (ci := 6) (k := 5) (C := RX7) (T := TX7) (N := 10) dX7_init_106 lfX7_48 inX7 rfl (by decide) (IN0 (by decide)) t42.1 t42.2.1 rfl ?_
  refine U.iload_n dX7_init_109 rfl ?_
  refine U.newF (i := 114) (ci := 1) (C := RX1) (T := TX1) (N := 4) (fs := [.null, .null, .null, .int 0]) tyX1 dX7_init_110 hA inX1 tyX1_ok lcX7_46 ib_X1 ini_X1 rfl (by decide) (Nat.le_of_ble_eq_true rfl) (Nat.le_of_ble_eq_true rfl) (IN0n (by decide) (by decide)) (fun ad45 ce45 h1 h2 h3 => ?_)
  have g1 : ∀ j, j < 114 → ad45 j = ad42 j := fun j hj => h1 j (IN0 hj)
  have g2 : ∀ j, j < 114 → ce45 j = ce42 j := fun j hj => h2 j (IN0 hj)
  have t45 : T7 y (ad 0) 114 114 ad45 ce45 (MH) := t42.tr bnd_114 (by decide) (by decide) g1 g2 (by decide)
  have q46 : QA (y 3) 33 4 34 17 4 ad45 ce45 := q43.tr (m := 114) (fun j hj => by omega) (by decide) g1 (g2 33 (by decide))
  have q47 : QA (y 4) 113 2 114 12 0 ad45 ce45 := q44.tr (m := 114) (fun j hj => by omega) (by decide) g1 (g2 113 (by decide))
  rw [IN_succ (by decide)]
  clear h1 h2 g2 t42
  have w33 : ∀ j, j < 114 → ad45 j = ad42 j := g1
  clear g1
  refine U.dup dX7_init_113 rfl ?_
  refine U.callIN (g := (l, D, y, ad45, IN 0 1 115)) (kc := (114, 1332)) (I2 := [114]) (I1 := [115, 116, 117, 118, 119, 120, 121, 122, 123, 124, 125]) (o := 114) (ce0 := ce45) (av := []) (d2 := 1) (mc := 11) (ms := 89) dX7_init_114 hA hao (fun i hi => ⟨IN0 (by rw [List.mem_singleton] at hi; omega), rfl⟩) (by decide) (fun i hi => IN0n (by decide) ((by simp at hi; omega))) (i_X1a h3) rfl nlX7_52 im_X1_init cd_X1_init ini_X1 hd_X1_init ⟨(Nat.le_of_ble_eq_true rfl), (Nat.le_of_ble_eq_true rfl)⟩ rfl (Nat.le_of_ble_eq_true rfl) (Nat.le_of_ble_eq_true rfl) (Nat.le_of_ble_eq_true rfl) (fun ad48 ce48 adP ceP hP hE hF hG => ?_)
  replace hF : ∀ j, j < 115 → ad48 j = ad45 j := fun j hj => hF j (IN0 hj)
  show U (l, D, y, ad48, IN 0 1 126) _ _ _ _ _ _ _ _ _ (125, 1421) _ _ _
  have g2 : ∀ j, j < 114 → ce48 j = ce45 j := fun j hj => hG j (IN0 (by omega)) (by simp; omega)
  have tB : T7 y (ad 0) 114 114 ad48 ce48 (MH) := t45.tr bnd_114 (by decide) (by decide) (fun j hj => hF j (by omega)) g2 (by decide)
  have q49 : QA (y 3) 33 4 34 17 4 ad48 ce48 := q46.tr (m := 114) (fun j hj => by omega) (by decide) (fun j hj => hF j (by omega)) (g2 33 (by decide))
  have q50 : QA (y 4) 113 2 114 12 0 ad48 ce48 := q47.tr (m := 114) (fun j hj => by omega) (by decide) (fun j hj => hF j (by omega)) (g2 113 (by decide))
  have hE1 : ∀ i, 114 ≤ i → i < 126 → ad48 i = adP i ∧ ce48 i = ceP i := fun i a b => hE i (by simp; omega)
  have t48 : T7 y (ad 0) 126 114 ad48 ce48 (mix 114 (MH) memB) := tB.blk (fun i g1 g3 g4 g5 => by
    rw [(hE1 i g1 g3).2]
    by_cases e : i = 114
    · subst e; rw [hP.1, ← (hE1 115 (by decide) (by decide)).1, ← (hE1 120 (by decide) (by decide)).1, ← (hE1 125 (by decide) (by decide)).1]; rfl
    by_cases e2 : i = 115
    · subst e2; rw [hP.2.1]
      exact rarr_cg (fun t ht => ((hE1 (116 + t) (by omega) (by omega)).1).symm)
    by_cases e3 : i = 120
    · subst e3; rw [hP.2.2.1]
      exact rarr_cg (fun t ht => ((hE1 (121 + t) (by omega) (by omega)).1).symm)
    rw [hP.2.2.2 i (by simp; omega)]
    have hl : ial i = 9 := by have := ial_9s i (by omega); omega
    rw [cont_int hl (by decide), memB_z (by omega)])
  have gA : G7 126 4 (mix 114 (MH) memB) := gA.blk (by decide) (by decide)
  have hb113 : ad42 113 = ad48 113 := ((hF 113 (by decide)).trans (w33 113 (by decide))).symm
  have hbo : ad45 114 = ad48 114 := (hF 114 (by decide)).symm
  have hco : ce48 114 = .inr (1, [.ref (adP 115), .ref (adP 120), .ref (adP 125), .int 0]) := (hE1 114 (by decide) (by decide)).2.trans hP.1
  clear tB hE hE1 hP hG g2 w33 h3 t45
  generalize mix 114 (MH) memB = MI at *
  refine U.astqA (i := 113) (o := 114) (n := 2) (j := 0) (t := 4) (ci := 1) (cA := y 4) (r := (RX1, TX1, 4)) dX7_init_117 rfl rfl (by decide) (by decide) (IN0 (by decide)) hb113 q50 (IN0 (by decide)) hbo hco (fun ce51 h2 h4 => ?_)
  have t51 : T7 y (ad 0) 126 114 ad48 ce51 MI := t48.off (x := 113) (Or.inr rfl) (by decide) (fun j hj h => h2 j (IN0 hj) h)
  have q52 : QA (y 4) 113 2 114 12 1 ad48 ce51 := QA.put (k := 0) hbo h4
  have q53 : QA (y 3) 33 4 34 17 4 ad48 ce51 := q49.tr (m := 102) (fun j hj => by omega) (by decide) (fun j _ => rfl) (h2 33 (IN0 (by decide)) (by decide))
  clear h2 h4 hb113 hbo hco hF t48 q50 q49
  refine U.iincN dX7_init_118 (by decide) rfl ?_
  refine U.goto (tgt := 100) dX7_init_121 (by decide) ?_
  refine U.iload_n dX7_init_100 rfl ?_
  refine U.iconst (v := nI 2) dX7_init_101 rfl ?_
  refine U.geN (tgt := 124) dX7_init_102 (by decide) (by omega) (by omega) (fun h => absurd h (by omega)) (fun _ => ?_)
  refine U.aload_n dX7_init_105 rfl ?_
  refine U.getfA (o := 0) (ci := 6) (k := 5) (C := RX7) (T := TX7) (N := 10) dX7_init_106 lfX7_48 inX7 rfl (by decide) (IN0 (by decide)) t51.1 t51.2.1 rfl ?_
  refine U.iload_n dX7_init_109 rfl ?_
  refine U.newF (i := 126) (ci := 1) (C := RX1) (T := TX1) (N := 4) (fs := [.null, .null, .null, .int 0]) tyX1 dX7_init_110 hA inX1 tyX1_ok lcX7_46 ib_X1 ini_X1 rfl (by decide) (Nat.le_of_ble_eq_true rfl) (Nat.le_of_ble_eq_true rfl) (IN0n (by decide) (by decide)) (fun ad54 ce54 h1 h2 h3 => ?_)
  have g1 : ∀ j, j < 126 → ad54 j = ad48 j := fun j hj => h1 j (IN0 hj)
  have g2 : ∀ j, j < 126 → ce54 j = ce51 j := fun j hj => h2 j (IN0 hj)
  have t54 : T7 y (ad 0) 126 114 ad54 ce54 (MI) := t51.tr bnd_126 (by decide) (by decide) g1 g2 (by decide)
  have q55 : QA (y 3) 33 4 34 17 4 ad54 ce54 := q53.tr (m := 126) (fun j hj => by omega) (by decide) g1 (g2 33 (by decide))
  have q56 : QA (y 4) 113 2 114 12 1 ad54 ce54 := q52.tr (m := 126) (fun j hj => by omega) (by decide) g1 (g2 113 (by decide))
  rw [IN_succ (by decide)]
  clear h1 h2 g2 t51
  have w33 : ∀ j, j < 126 → ad54 j = ad48 j := g1
  clear g1
  refine U.dup dX7_init_113 rfl ?_
  refine U.callIN (g := (l, D, y, ad54, IN 0 1 127)) (kc := (126, 1425)) (I2 := [126]) (I1 := [127, 128, 129, 130, 131, 132, 133, 134, 135, 136, 137]) (o := 126) (ce0 := ce54) (av := []) (d2 := 1) (mc := 11) (ms := 89) dX7_init_114 hA hao (fun i hi => ⟨IN0 (by rw [List.mem_singleton] at hi; omega), rfl⟩) (by decide) (fun i hi => IN0n (by decide) ((by simp at hi; omega))) (i_X1b h3) rfl nlX7_52 im_X1_init cd_X1_init ini_X1 hd_X1_init ⟨(Nat.le_of_ble_eq_true rfl), (Nat.le_of_ble_eq_true rfl)⟩ rfl (Nat.le_of_ble_eq_true rfl) (Nat.le_of_ble_eq_true rfl) (Nat.le_of_ble_eq_true rfl) (fun ad57 ce57 adP ceP hP hE hF hG => ?_)
  replace hF : ∀ j, j < 127 → ad57 j = ad54 j := fun j hj => hF j (IN0 hj)
  show U (l, D, y, ad57, IN 0 1 138) _ _ _ _ _ _ _ _ _ (137, 1514) _ _ _
  have g2 : ∀ j, j < 126 → ce57 j = ce54 j := fun j hj => hG j (IN0 (by omega)) (by simp; omega)
  have tB : T7 y (ad 0) 126 114 ad57 ce57 (MI) := t54.tr bnd_126 (by decide) (by decide) (fun j hj => hF j (by omega)) g2 (by decide)
  have q58 : QA (y 3) 33 4 34 17 4 ad57 ce57 := q55.tr (m := 126) (fun j hj => by omega) (by decide) (fun j hj => hF j (by omega)) (g2 33 (by decide))
  have q59 : QA (y 4) 113 2 114 12 1 ad57 ce57 := q56.tr (m := 126) (fun j hj => by omega) (by decide) (fun j hj => hF j (by omega)) (g2 113 (by decide))
  have hE1 : ∀ i, 126 ≤ i → i < 138 → ad57 i = adP i ∧ ce57 i = ceP i := fun i a b => hE i (by simp; omega)
  have t57 : T7 y (ad 0) 138 114 ad57 ce57 (mix 126 (MI) memB) := tB.blk (fun i g1 g3 g4 g5 => by
    rw [(hE1 i g1 g3).2]
    by_cases e : i = 126
    · subst e; rw [hP.1, ← (hE1 127 (by decide) (by decide)).1, ← (hE1 132 (by decide) (by decide)).1, ← (hE1 137 (by decide) (by decide)).1]; rfl
    by_cases e2 : i = 127
    · subst e2; rw [hP.2.1]
      exact rarr_cg (fun t ht => ((hE1 (128 + t) (by omega) (by omega)).1).symm)
    by_cases e3 : i = 132
    · subst e3; rw [hP.2.2.1]
      exact rarr_cg (fun t ht => ((hE1 (133 + t) (by omega) (by omega)).1).symm)
    rw [hP.2.2.2 i (by simp; omega)]
    have hl : ial i = 9 := by have := ial_9s i (by omega); omega
    rw [cont_int hl (by decide), memB_z (by omega)])
  have gA : G7 138 4 (mix 126 (MI) memB) := gA.blk (by decide) (by decide)
  have hb113 : ad48 113 = ad57 113 := ((hF 113 (by decide)).trans (w33 113 (by decide))).symm
  have hbo : ad54 126 = ad57 126 := (hF 126 (by decide)).symm
  have hco : ce57 126 = .inr (1, [.ref (adP 127), .ref (adP 132), .ref (adP 137), .int 0]) := (hE1 126 (by decide) (by decide)).2.trans hP.1
  clear tB hE hE1 hP hG g2 w33 h3 t54
  generalize mix 126 (MI) memB = MJ at *
  refine U.astqA (i := 113) (o := 126) (n := 2) (j := 1) (t := 4) (ci := 1) (cA := y 4) (r := (RX1, TX1, 4)) dX7_init_117 rfl rfl (by decide) (by decide) (IN0 (by decide)) hb113 q59 (IN0 (by decide)) hbo hco (fun ce60 h2 h4 => ?_)
  have t60 : T7 y (ad 0) 138 114 ad57 ce60 MJ := t57.off (x := 113) (Or.inr rfl) (by decide) (fun j hj h => h2 j (IN0 hj) h)
  have q61 : QA (y 4) 113 2 114 12 2 ad57 ce60 := QA.put (k := 1) hbo h4
  have q62 : QA (y 3) 33 4 34 17 4 ad57 ce60 := q58.tr (m := 102) (fun j hj => by omega) (by decide) (fun j _ => rfl) (h2 33 (IN0 (by decide)) (by decide))
  clear h2 h4 hb113 hbo hco hF t57 q59 q58
  refine U.iincN dX7_init_118 (by decide) rfl ?_
  refine U.goto (tgt := 100) dX7_init_121 (by decide) ?_
  refine U.iload_n dX7_init_100 rfl ?_
  refine U.iconst (v := nI 2) dX7_init_101 rfl ?_
  refine U.geN (tgt := 124) dX7_init_102 (by decide) (by omega) (by omega) (fun _ => ?_) (fun h => absurd h (by omega))
  refine U.aload_n dX7_init_124 rfl ?_
  refine U.bipush (v := nI 9) dX7_init_125 (by decide) ?_
  refine U.nap (o := 0) (ci := 6) (k := 6) (C := RX7) (T := TX7) (N := 10) (i := 138) (n := 9) tyX7 dX7_init_127 dX7_init_129 hA hin lfX7_53 inX7 tyX7_ok nmX7 rfl (by decide) rfl rfl rfl (by decide) (Nat.le_of_ble_eq_true rfl) (Nat.le_of_ble_eq_true rfl) (IN0n (by decide) (by decide)) (IN0 (by decide)) t60.1 t60.2.1 (Nat.le_of_ble_eq_true rfl) (fun ad63 ce63 h1 h2 h3 h4 => ?_)
  have t63 : T7 y (ad 0) 139 139 ad63 ce63 (mix 138 (MJ) memB) := (T7.trP (k := 6) (i := 138) bnd_138 (by decide) (by decide) t60 (fun j hj => h1 j (IN0 hj)) (fun j hj h => h2 j (IN0 hj) h) h4 (fun _ => rfl)).blk (fun j a b c d => by
    have e : j = 138 := by omega
    subst e
    rw [h3, cont_int (n := 9) rfl (by decide), memB_z (by decide)])
  have q64 : QA (y 3) 33 4 34 17 4 ad63 ce63 := q62.tr (m := 138) (fun j hj => by omega) (by decide) (fun j hj => h1 j (IN0 hj)) (h2 33 (IN0 (by decide)) (by decide))
  have q65 : QA (y 4) 113 2 114 12 2 ad63 ce63 := q61.tr (m := 138) (fun j hj => by omega) (by decide) (fun j hj => h1 j (IN0 hj)) (h2 113 (IN0 (by decide)) (by decide))
  have gA : G7 139 4 (mix 138 (MJ) memB) := gA.blk (by decide) (by decide)
  rw [IN_succ (by decide)]
  clear h1 h2 h3 h4 t60
  generalize mix 138 (MJ) memB = N138 at *
  refine U.aload_n dX7_init_132 rfl ?_
  refine U.bipush (v := nI 9) dX7_init_133 (by decide) ?_
  refine U.nap (o := 0) (ci := 6) (k := 7) (C := RX7) (T := TX7) (N := 10) (i := 139) (n := 9) tyX7 dX7_init_135 dX7_init_137 hA hin lfX7_57 inX7 tyX7_ok nmX7 rfl (by decide) rfl rfl rfl (by decide) (Nat.le_of_ble_eq_true rfl) (Nat.le_of_ble_eq_true rfl) (IN0n (by decide) (by decide)) (IN0 (by decide)) t63.1 t63.2.1 (Nat.le_of_ble_eq_true rfl) (fun ad66 ce66 h1 h2 h3 h4 => ?_)
  have t66 : T7 y (ad 0) 140 140 ad66 ce66 (mix 139 (N138) memB) := (T7.trP (k := 7) (i := 139) bnd_139 (by decide) (by decide) t63 (fun j hj => h1 j (IN0 hj)) (fun j hj h => h2 j (IN0 hj) h) h4 (fun _ => rfl)).blk (fun j a b c d => by
    have e : j = 139 := by omega
    subst e
    rw [h3, cont_int (n := 9) rfl (by decide), memB_z (by decide)])
  have q67 : QA (y 3) 33 4 34 17 4 ad66 ce66 := q64.tr (m := 139) (fun j hj => by omega) (by decide) (fun j hj => h1 j (IN0 hj)) (h2 33 (IN0 (by decide)) (by decide))
  have q68 : QA (y 4) 113 2 114 12 2 ad66 ce66 := q65.tr (m := 139) (fun j hj => by omega) (by decide) (fun j hj => h1 j (IN0 hj)) (h2 113 (IN0 (by decide)) (by decide))
  have gA : G7 140 4 (mix 139 (N138) memB) := gA.blk (by decide) (by decide)
  rw [IN_succ (by decide)]
  clear h1 h2 h3 h4 t63
  generalize mix 139 (N138) memB = N139 at *
  refine U.aload_n dX7_init_140 rfl ?_
  refine U.bipush (v := nI 9) dX7_init_141 (by decide) ?_
  refine U.nap (o := 0) (ci := 6) (k := 8) (C := RX7) (T := TX7) (N := 10) (i := 140) (n := 9) tyX7 dX7_init_143 dX7_init_145 hA hin lfX7_60 inX7 tyX7_ok nmX7 rfl (by decide) rfl rfl rfl (by decide) (Nat.le_of_ble_eq_true rfl) (Nat.le_of_ble_eq_true rfl) (IN0n (by decide) (by decide)) (IN0 (by decide)) t66.1 t66.2.1 (Nat.le_of_ble_eq_true rfl) (fun ad69 ce69 h1 h2 h3 h4 => ?_)
  have t69 : T7 y (ad 0) 141 141 ad69 ce69 (mix 140 (N139) memB) := (T7.trP (k := 8) (i := 140) bnd_140 (by decide) (by decide) t66 (fun j hj => h1 j (IN0 hj)) (fun j hj h => h2 j (IN0 hj) h) h4 (fun _ => rfl)).blk (fun j a b c d => by
    have e : j = 140 := by omega
    subst e
    rw [h3, cont_int (n := 9) rfl (by decide), memB_z (by decide)])
  have q70 : QA (y 3) 33 4 34 17 4 ad69 ce69 := q67.tr (m := 140) (fun j hj => by omega) (by decide) (fun j hj => h1 j (IN0 hj)) (h2 33 (IN0 (by decide)) (by decide))
  have q71 : QA (y 4) 113 2 114 12 2 ad69 ce69 := q68.tr (m := 140) (fun j hj => by omega) (by decide) (fun j hj => h1 j (IN0 hj)) (h2 113 (IN0 (by decide)) (by decide))
  have gA : G7 141 4 (mix 140 (N139) memB) := gA.blk (by decide) (by decide)
  rw [IN_succ (by decide)]
  clear h1 h2 h3 h4 t66
  generalize mix 140 (N139) memB = N140 at *
  refine U.aload_n dX7_init_148 rfl ?_
  refine U.bipush (v := nI 9) dX7_init_149 (by decide) ?_
  refine U.nap (o := 0) (ci := 6) (k := 9) (C := RX7) (T := TX7) (N := 10) (i := 141) (n := 9) tyX7 dX7_init_151 dX7_init_153 hA hin lfX7_63 inX7 tyX7_ok nmX7 rfl (by decide) rfl rfl rfl (by decide) (Nat.le_of_ble_eq_true rfl) (Nat.le_of_ble_eq_true rfl) (IN0n (by decide) (by decide)) (IN0 (by decide)) t69.1 t69.2.1 (Nat.le_of_ble_eq_true rfl) (fun ad72 ce72 h1 h2 h3 h4 => ?_)
  have t72 : T7 y (ad 0) 142 142 ad72 ce72 (mix 141 (N140) memB) := (T7.trP (k := 9) (i := 141) bnd_141 (by decide) (by decide) t69 (fun j hj => h1 j (IN0 hj)) (fun j hj h => h2 j (IN0 hj) h) h4 (fun _ => rfl)).blk (fun j a b c d => by
    have e : j = 141 := by omega
    subst e
    rw [h3, cont_int (n := 9) rfl (by decide), memB_z (by decide)])
  have q73 : QA (y 3) 33 4 34 17 4 ad72 ce72 := q70.tr (m := 141) (fun j hj => by omega) (by decide) (fun j hj => h1 j (IN0 hj)) (h2 33 (IN0 (by decide)) (by decide))
  have q74 : QA (y 4) 113 2 114 12 2 ad72 ce72 := q71.tr (m := 141) (fun j hj => by omega) (by decide) (fun j hj => h1 j (IN0 hj)) (h2 113 (IN0 (by decide)) (by decide))
  have gA : G7 142 4 (mix 141 (N140) memB) := gA.blk (by decide) (by decide)
  rw [IN_succ (by decide)]
  clear h1 h2 h3 h4 t69
  generalize mix 141 (N140) memB = N141 at *
  subst hKK
  subst hAA
  refine U.vret dX7_init_156 rfl rfl (fun i hi => ?_) ⟨N141, fun i hi => ?_, gA⟩
  · rw [List.mem_singleton.mp hi]; exact t72.1.symm
  by_cases e0 : i = 0
  · subst e0; exact t72.2.1
  by_cases e1 : i = 33
  · subst e1; exact q73
  by_cases e2 : i = 113
  · subst e2; exact q74
  exact t72.2.2 i (by omega) hi e1 e2

