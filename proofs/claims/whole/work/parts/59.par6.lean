theorem powerF_eq (l : Ser) (n : Nat) (p : Prs) (q : Nat) (S : Stp2) : powerF l n p q S = if (p q S).1 = true then (if fs l n (p q S).2.1 = nI 94 then (if isDg (fs l n (en l n (p q S).2.1)) = true ∧ en l n (en l n (p q S).2.1) - sk l n (en l n (p q S).2.1) = 1 then (true, en l n (en l n (p q S).2.1), addS (p q S).2.2 (nI 94, amt l n (en l n (p q S).2.1))) else (false, en l n (p q S).2.1, (p q S).2.2)) else (true, (p q S).2.1, (p q S).2.2)) else (false, (p q S).2.1, (p q S).2.2) := rfl
theorem amt_1 {l : Ser} {n q : Nat} (hd : isDg (fs l n q) = true) (h : en l n q - sk l n q = 1) : ∃ m, m < 10 ∧ amt l n q = nI m := by
  have hk := sk_of (isDg_ne hd)
  have hd2 := hd
  unfold fs at hd2
  rw [if_pos hk] at hd2
  obtain ⟨m, hm, e⟩ := isDg_nat hd2
  refine ⟨m, hm, ?_⟩
  unfold amt
  rw [h]
  show nI 10 * nI 0 + (l (sk l n q + 0) - nI 48) = nI m
  rw [Nat.add_zero, e, sub48, show nI 10 * nI 0 = nI 0 from rfl, nI_add, Nat.zero_add]
theorem po_C {ex qu lo : Ser} {l : Ser} {n K : Nat} {p : Prs} {e : Ev} (hn : n ≤ 120) (hP : Pos n e) (hC : CR ex qu lo n K p e) : CR ex qu lo n K (powerF l n p) (powerE l n e) := by
  intro q S hq hS
  obtain ⟨r1, r2, r3⟩ := hC q S hq hS
  have hp := hP q hq
  rw [powerF_eq, r1, r2]
  unfold powerE
  by_cases a : (e q).1 = true
  · rw [if_pos a, if_pos a]
    obtain ⟨T, t1, t2, t3, t4⟩ := r3 a
    rw [t1]
    by_cases b : fs l n (e q).2.1 = nI 94
    · rw [if_pos b, if_pos b]
      have g1 := en_gt' hp.2.1 (by rw [b]; decide)
      have g2 := en_le (l := l) hp.2.1
      by_cases c : isDg (fs l n (en l n (e q).2.1)) = true ∧ en l n (en l n (e q).2.1) - sk l n (en l n (e q).2.1) = 1
      · rw [if_pos c, if_pos c]
        obtain ⟨m, hm, em⟩ := amt_1 c.1 c.2
        have g3 := en_gt' g2 (isDg_ne c.1)
        have hlen : (S ++ T).length < 120 := by rw [List.length_append]; omega
        refine ⟨rfl, rfl, fun _ => ⟨T ++ [(nI 94, amt l n (en l n (e q).2.1))], by rw [addS_in hlen, List.append_assoc], by rw [List.length_append]; show T.length + 1 + q ≤ en l n _; omega, ?_, fun St hSt => ?_⟩⟩
        · intro y hy
          rcases List.mem_append.mp hy with hy | hy
          · exact t3 y hy
          · rw [List.mem_singleton.mp hy, em]; exact ok_l (by decide) (by omega)
        · have hv := t4 St hSt
          cases hX : (e q).2.2 with
          | none =>
            rw [hX] at hv
            show gRun ex qu lo (T ++ _) St = none
            rw [gRun_app, show gRun ex qu lo T St = none from hv]; rfl
          | some v =>
            rw [hX] at hv
            obtain ⟨V, v1, v2⟩ := hv
            refine ⟨fpow V (amt l n (en l n (e q).2.1)).toNatClampNeg, (fpow_cg v1 _).tr (by rw [fpow_i]; exact eq9.rf), ?_⟩
            rw [gRun_app, v2]
            show gRun ex qu lo [(nI 94, amt l n (en l n (e q).2.1))] (St ++ [V]) = _
            rw [gRun_one]
            show gStep ex qu lo (nI 94) (amt l n (en l n (e q).2.1)) (St ++ [V]) = _
            unfold gStep
            rw [if_neg (by decide), if_neg (by decide), if_neg (by decide), if_pos rfl, if_pos (by simp), top1, tk1]
      · rw [if_neg c, if_neg c]; exact ⟨rfl, rfl, fun z => (by cases z)⟩
    · rw [if_neg b, if_neg b]; exact ⟨rfl, rfl, fun _ => ⟨T, rfl, t2, t3, t4⟩⟩
  · rw [if_neg a, if_neg a]; exact ⟨rfl, rfl, fun z => (by cases z)⟩
theorem loopF_eq (l : Ser) (n : Nat) (a b : Int32) (p : Prs) (f q : Nat) (S : Stp2) : loopF l n a b p (f + 1) q S = if fs l n q = a ∨ fs l n q = b then (if (p (en l n q) S).1 = true then loopF l n a b p f (p (en l n q) S).2.1 (addS (p (en l n q) S).2.2 (fs l n q, nI 0)) else (false, (p (en l n q) S).2.1, (p (en l n q) S).2.2)) else (true, q, S) := rfl
theorem gv_op {ex qu lo : Ser} {T T2 : Stp2} {St : List Ser} {X Y : Option Fs} {c : Int32} {K : Nat} (hc : c = nI 43 ∨ c = nI 45 ∨ c = nI 42 ∨ c = nI 47) (hS : St.length ≤ K) (hX : GV ex qu lo T St X) (hY : ∀ St : List Ser, St.length ≤ K + 1 → GV ex qu lo T2 St Y) : GV ex qu lo (T ++ T2 ++ [(c, nI 0)]) St (jo c X Y) := by
  cases X with
  | none =>
    show gRun ex qu lo _ St = none
    rw [gRun_app, gRun_app, show gRun ex qu lo T St = none from hX]; rfl
  | some x =>
    obtain ⟨V, v1, v2⟩ := hX
    have y := hY (St ++ [V]) (by rw [List.length_append]; show St.length + 1 ≤ K + 1; omega)
    cases Y with
    | none =>
      show gRun ex qu lo _ St = none
      rw [gRun_app, gRun_app, v2]
      show (gRun ex qu lo T2 (St ++ [V])).bind _ = none
      rw [show gRun ex qu lo T2 (St ++ [V]) = none from y]; rfl
    | some z =>
      obtain ⟨W, w1, w2⟩ := y
      have e2 : gRun ex qu lo (T ++ T2 ++ [(c, nI 0)]) St = gStep ex qu lo c (nI 0) (St ++ [V] ++ [W]) := by
        rw [gRun_app, gRun_app, v2]
        show (gRun ex qu lo T2 (St ++ [V])).bind _ = _
        rw [w2]
        show gRun ex qu lo [(c, nI 0)] (St ++ [V] ++ [W]) = _
        rw [gRun_one]
      have hg := gs_op (ex := ex) (qu := qu) (lo := lo) (a := nI 0) (St := St) hc v1 w1
      show GV ex qu lo _ St (opv c x z)
      cases hz : opv c x z with
      | none => rw [hz] at hg; exact e2.trans hg
      | some u =>
        rw [hz] at hg
        obtain ⟨Z, z1, z2⟩ := hg
        exact ⟨Z, z1, e2.trans z2⟩
theorem lp_C {ex qu lo : Ser} {l : Ser} {n K q0 : Nat} {a b : Int32} {p : Prs} {e : Ev} (hab : ∀ c, c = a ∨ c = b → c = nI 43 ∨ c = nI 45 ∨ c = nI 42 ∨ c = nI 47) (hn : n ≤ 120) (hP : Pos n e) (hC : CR ex qu lo n (K + 1) p e) {S0 : Stp2} (hS0 : S0.length ≤ q0) : ∀ f q T X, q ≤ n → T.length + q0 ≤ q → (∀ x ∈ T, okStep x) → (∀ St : List Ser, St.length ≤ K → GV ex qu lo T St X) →
    (loopF l n a b p f q (S0 ++ T)).1 = (loopE l n a b e f q X).1 ∧ (loopF l n a b p f q (S0 ++ T)).2.1 = (loopE l n a b e f q X).2.1 ∧
    ((loopE l n a b e f q X).1 = true → ∃ T', (loopF l n a b p f q (S0 ++ T)).2.2 = S0 ++ T' ∧ T'.length + q0 ≤ (loopE l n a b e f q X).2.1 ∧ (∀ x ∈ T', okStep x) ∧ ∀ St : List Ser, St.length ≤ K → GV ex qu lo T' St (loopE l n a b e f q X).2.2)
  | 0, q, T, X, hq, hT, ho, hg => ⟨rfl, rfl, fun _ => ⟨T, rfl, hT, ho, hg⟩⟩
  | f + 1, q, T, X, hq, hT, ho, hg => by
    rw [loopF_eq]
    unfold loopE
    by_cases c : fs l n q = a ∨ fs l n q = b
    · rw [if_pos c, if_pos c]
      have c4 := hab _ c
      have c1 : fs l n q ≠ -1 := by rcases c4 with z | z | z | z <;> rw [z] <;> decide
      have g1 := en_gt' hq c1
      have g2 := en_le (l := l) hq
      have hlen : (S0 ++ T).length ≤ en l n q := by rw [List.length_append]; omega
      obtain ⟨r1, r2, r3⟩ := hC (en l n q) (S0 ++ T) g2 hlen
      have hp := hP (en l n q) g2
      rw [r1, r2]
      by_cases d : (e (en l n q)).1 = true
      · rw [if_pos d, if_pos d]
        obtain ⟨T2, t1, t2, t3, t4⟩ := r3 d
        have hl2 : ((S0 ++ T) ++ T2).length < 120 := by rw [List.length_append, List.length_append]; omega
        rw [t1, addS_in hl2, show S0 ++ T ++ T2 ++ [(fs l n q, nI 0)] = S0 ++ (T ++ T2 ++ [(fs l n q, nI 0)]) by simp only [List.append_assoc]]
        refine lp_C hab hn hP hC hS0 f _ _ _ hp.2.1 (by rw [List.length_append, List.length_append]; show T.length + T2.length + 1 + q0 ≤ _; omega) ?_ (fun St hSt => gv_op c4 hSt (hg St hSt) t4)
        intro y hy
        rcases List.mem_append.mp hy with hy | hy
        · rcases List.mem_append.mp hy with hy | hy
          · exact ho y hy
          · exact t3 y hy
        · rw [List.mem_singleton.mp hy]
          refine ok_l ?_ (by decide)
          rcases c4 with z | z | z | z <;> rw [z] <;> decide
      · rw [if_neg d, if_neg d]; exact ⟨rfl, rfl, fun z => (by cases z)⟩
    · rw [if_neg c, if_neg c]; exact ⟨rfl, rfl, fun _ => ⟨T, rfl, hT, ho, hg⟩⟩
theorem listF_eq (l : Ser) (n : Nat) (a b : Int32) (p : Prs) (q : Nat) (S : Stp2) : listF l n a b p q S = if (p q S).1 = true then loopF l n a b p 120 (p q S).2.1 (p q S).2.2 else (false, (p q S).2.1, (p q S).2.2) := rfl
theorem li_C {ex qu lo : Ser} {l : Ser} {n K : Nat} {a b : Int32} {p : Prs} {e : Ev} (hab : ∀ c, c = a ∨ c = b → c = nI 43 ∨ c = nI 45 ∨ c = nI 42 ∨ c = nI 47) (hn : n ≤ 120) (hP : Pos n e) (hC : CR ex qu lo n (K + 1) p e) : CR ex qu lo n K (listF l n a b p) (listE l n a b e) := by
  intro q S hq hS
  obtain ⟨r1, r2, r3⟩ := hC q S hq hS
  have hp := hP q hq
  rw [listF_eq, r1, r2]
  unfold listE
  by_cases d : (e q).1 = true
  · rw [if_pos d, if_pos d]
    obtain ⟨T, t1, t2, t3, t4⟩ := r3 d
    rw [t1]
    exact lp_C hab hn hP hC hS 120 _ T _ hp.2.1 t2 t3 (fun St hSt => t4 St (by omega))
  · rw [if_neg d, if_neg d]; exact ⟨rfl, rfl, fun z => (by cases z)⟩
theorem sumO_C {ex qu lo : Ser} {l : Ser} {n K : Nat} {sub : Option Prs} {sub' : Option Ev} (hx : eq9 ex exC) (hq : eq9 qu quC) (hl : eq9 lo loC) (hn : n ≤ 120) (hK : K + 1 + 1 ≤ 15) (h0 : sub = none ↔ sub' = none) (h1 : ∀ p e, sub = some p → sub' = some e → CR ex qu lo n (K + 1 + 1) p e ∧ Pos n e) (hp : ∀ e, sub' = some e → Pos n e) : CR ex qu lo n K (pSumO l n sub) (eSumO l n sub') :=
  li_C (fun c h => by rcases h with h | h <;> rw [h] <;> decide) hn (list_pos (by decide) (by decide) (power_pos (thing_pos hp))) (li_C (fun c h => by rcases h with h | h <;> rw [h] <;> decide) hn (power_pos (thing_pos hp)) (po_C hn (thing_pos hp) (th_C hx hq hl hn hK h0 h1)))
theorem sum_C {ex qu lo : Ser} {l : Ser} {n : Nat} (hx : eq9 ex exC) (hq : eq9 qu quC) (hl : eq9 lo loC) (hn : n ≤ 120) : ∀ k, k ≤ 6 → CR ex qu lo n (13 - 2 * k) (pSum l n k) (eSum l n k)
  | 0, _ => sumO_C hx hq hl hn (by decide) ⟨fun _ => rfl, fun _ => rfl⟩ (fun p e h => by cases h) (fun e h => by cases h)
  | k + 1, hk => sumO_C hx hq hl hn (by omega) ⟨fun h => (by cases h), fun h => (by cases h)⟩ (fun p e h h2 => by
      cases h; cases h2
      refine ⟨?_, sum_pos k⟩
      rw [show 13 - 2 * (k + 1) + 1 + 1 = 13 - 2 * k by omega]; exact sum_C hx hq hl hn k (by omega)) (fun e h => by cases h; exact sum_pos k)
/-! ===== the two ways together ===== -/
def eRd (l : Ser) (n : Nat) : Bool × Nat × Option Fs × Option Fs :=
  if (eSum l n 6 0).1 = true ∧ fs l n (eSum l n 6 0).2.1 = nI 59 then
    (if (eSum l n 6 (en l n (eSum l n 6 0).2.1)).1 = true ∧ sk l n (eSum l n 6 (en l n (eSum l n 6 0).2.1)).2.1 = n then (true, 0, (eSum l n 6 0).2.2, (eSum l n 6 (en l n (eSum l n 6 0).2.1)).2.2)
     else (false, sk l n (eSum l n 6 (en l n (eSum l n 6 0).2.1)).2.1, none, none))
  else (false, sk l n (eSum l n 6 0).2.1, none, none)
theorem pFault_eq (l : Ser) (n : Nat) : pFault l n = if (pSum l n 6 0 []).1 = true ∧ fs l n (pSum l n 6 0 []).2.1 = nI 59 then (if (pSum l n 6 (en l n (pSum l n 6 0 []).2.1) (pSum l n 6 0 []).2.2).1 = true ∧ sk l n (pSum l n 6 (en l n (pSum l n 6 0 []).2.1) (pSum l n 6 0 []).2.2).2.1 = n then (-1, (pSum l n 6 (en l n (pSum l n 6 0 []).2.1) (pSum l n 6 0 []).2.2).2.2) else (nI (sk l n (pSum l n 6 (en l n (pSum l n 6 0 []).2.1) (pSum l n 6 0 []).2.2).2.1), (pSum l n 6 (en l n (pSum l n 6 0 []).2.1) (pSum l n 6 0 []).2.2).2.2)) else (nI (sk l n (pSum l n 6 0 []).2.1), (pSum l n 6 0 []).2.2) := rfl
/-- the desk's way -/
theorem cRd {ex qu lo : Ser} {l : Ser} {n : Nat} (hx : eq9 ex exC) (hq : eq9 qu quC) (hl : eq9 lo loC) (hn : n ≤ 120) :
    ((eRd l n).1 = false → (pFault l n).1 = nI (eRd l n).2.1 ∧ (eRd l n).2.1 ≤ 120) ∧
    ((eRd l n).1 = true → (pFault l n).1 = -1 ∧ (∀ x ∈ (pFault l n).2, okStep x) ∧ match (eRd l n).2.2.1, (eRd l n).2.2.2 with
      | some g, some f => ∃ G F, eq9 G (iS g) ∧ eq9 F (iS f) ∧ gRun ex qu lo (pFault l n).2 [] = some [G, F]
      | _, _ => gRun ex qu lo (pFault l n).2 [] = none) := by
  have hC := sum_C (l := l) hx hq hl hn 6 (Nat.le_refl _)
  have hP := sum_pos (l := l) (n := n) 6
  obtain ⟨a1, a2, a3⟩ := hC 0 [] (by omega) (by simp)
  have p1 := hP 0 (by omega)
  rw [pFault_eq, a1, a2]
  unfold eRd
  by_cases b : (eSum l n 6 0).1 = true ∧ fs l n (eSum l n 6 0).2.1 = nI 59
  · rw [if_pos b, if_pos b]
    obtain ⟨T, t1, t2, t3, t4⟩ := a3 b.1
    rw [List.nil_append] at t1
    have c1 : fs l n (eSum l n 6 0).2.1 ≠ -1 := by rw [b.2]; decide
    have g1 := en_gt' p1.2.1 c1
    have g2 := en_le (l := l) p1.2.1
    rw [t1]
    obtain ⟨d1, d2, d3⟩ := hC (en l n (eSum l n 6 0).2.1) T g2 (by omega)
    have p2 := hP _ g2
    rw [d1, d2]
    by_cases c : (eSum l n 6 (en l n (eSum l n 6 0).2.1)).1 = true ∧ sk l n (eSum l n 6 (en l n (eSum l n 6 0).2.1)).2.1 = n
    · rw [if_pos c, if_pos c]
      refine ⟨fun z => (by cases z), fun _ => ⟨rfl, ?_⟩⟩
      obtain ⟨T2, u1, u2, u3, u4⟩ := d3 c.1
      show (∀ x ∈ (pSum l n 6 (en l n (eSum l n 6 0).2.1) T).2.2, okStep x) ∧ _
      rw [u1]
      refine ⟨fun y hy => by
        rcases List.mem_append.mp hy with hy | hy
        · exact t3 y hy
        · exact u3 y hy, ?_⟩
      have h1 := t4 [] (by simp)
      dsimp only
      cases hX : (eSum l n 6 0).2.2 with
      | none =>
        rw [hX] at h1
        show gRun ex qu lo (T ++ T2) [] = none
        rw [gRun_app, show gRun ex qu lo T [] = none from h1]; rfl
      | some g =>
        rw [hX] at h1
        obtain ⟨G, v1, v2⟩ := h1
        have h2 := u4 [G] (by simp)
        cases hY : (eSum l n 6 (en l n (eSum l n 6 0).2.1)).2.2 with
        | none =>
          rw [hY] at h2
          show gRun ex qu lo (T ++ T2) [] = none
          rw [gRun_app, v2]
          exact h2
        | some f =>
          rw [hY] at h2
          obtain ⟨F, w1, w2⟩ := h2
          refine ⟨G, F, v1, w1, ?_⟩
          rw [gRun_app, v2]
          exact w2
    · rw [if_neg c, if_neg c]
      have := sk_le (l := l) p2.2.1
      exact ⟨fun _ => ⟨rfl, by show sk l n _ ≤ 120; omega⟩, fun z => (by cases z)⟩
  · rw [if_neg b, if_neg b]
    have := sk_le (l := l) p1.2.1
    exact ⟨fun _ => ⟨rfl, by show sk l n _ ≤ 120; omega⟩, fun z => (by cases z)⟩
