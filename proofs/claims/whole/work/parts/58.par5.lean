/-! ===== the steps of the desk's own way, gone through ===== -/
def GV (ex qu lo : Ser) (T : Stp2) (St : List Ser) (X : Option Fs) : Prop := match X with
  | none => gRun ex qu lo T St = none
  | some v => ∃ V, eq9 V (iS v) ∧ gRun ex qu lo T St = some (St ++ [V])
theorem gRun_app (ex qu lo : Ser) : ∀ (T1 T2 : Stp2) (St : List Ser), gRun ex qu lo (T1 ++ T2) St = (gRun ex qu lo T1 St).bind (gRun ex qu lo T2)
  | [], T2, St => rfl
  | x :: T1, T2, St => by
    show (gStep ex qu lo x.1 x.2 St).bind (gRun ex qu lo (T1 ++ T2)) = ((gStep ex qu lo x.1 x.2 St).bind (gRun ex qu lo T1)).bind (gRun ex qu lo T2)
    cases gStep ex qu lo x.1 x.2 St with
    | none => rfl
    | some St' => exact gRun_app ex qu lo T1 T2 St'
theorem gRun_one (ex qu lo : Ser) (x : Int32 × Int32) (St : List Ser) : gRun ex qu lo [x] St = gStep ex qu lo x.1 x.2 St := by
  show (gStep ex qu lo x.1 x.2 St).bind (gRun ex qu lo []) = _
  cases gStep ex qu lo x.1 x.2 St <;> rfl
def CR (ex qu lo : Ser) (n K : Nat) (p : Prs) (e : Ev) : Prop := ∀ q S, q ≤ n → S.length ≤ q →
  (p q S).1 = (e q).1 ∧ (p q S).2.1 = (e q).2.1 ∧
  ((e q).1 = true → ∃ T, (p q S).2.2 = S ++ T ∧ T.length + q ≤ (e q).2.1 ∧ (∀ x ∈ T, okStep x) ∧ ∀ St : List Ser, St.length ≤ K → GV ex qu lo T St (e q).2.2)
theorem addS_in {S : Stp2} {x : Int32 × Int32} (h : S.length < 120) : addS S x = S ++ [x] := by unfold addS; rw [if_pos h]
theorem top1 (St : List Ser) (V : Ser) : (St ++ [V]).getD ((St ++ [V]).length - 1) zser = V := by simp
theorem tk1 (St : List Ser) (V : Ser) : (St ++ [V]).take ((St ++ [V]).length - 1) = St := by simp
theorem top2 (St : List Ser) (V W : Ser) : (St ++ [V] ++ [W]).getD ((St ++ [V] ++ [W]).length - 2) zser = V := by simp
theorem tk2 (St : List Ser) (V W : Ser) : (St ++ [V] ++ [W]).take ((St ++ [V] ++ [W]).length - 2) = St := by
  have : (St ++ [V] ++ [W]).length - 2 = St.length := by simp
  rw [this, List.append_assoc]; simp
/-- a step by a letter -/
theorem gs_let {ex qu lo : Ser} (hx : eq9 ex exC) (hq : eq9 qu quC) (hl : eq9 lo loC) {L a : Int32} {St : List Ser} {V : Ser} {v : Fs} (hL : isNm L = true) (hV : eq9 V (iS v)) : match letv L v with
    | none => gStep ex qu lo L a (St ++ [V]) = none
    | some x => ∃ W, eq9 W (iS x) ∧ gStep ex qu lo L a (St ++ [V]) = some (St ++ [W]) := by
  have h0 : 0 < (St ++ [V]).length := by simp
  have g0 : gStep ex qu lo L a (St ++ [V]) = (if L = nI 105 then (if isDe V = true then some (St ++ [fturn V]) else none) else if V 0 = 0 then some (St ++ [fput (sname ex qu lo L) V]) else none) := by
    unfold gStep
    rw [top1, tk1]
    rcases isNm_or hL with rfl | rfl | rfl | rfl
    · rw [if_neg (by decide), if_neg (by decide), if_neg (by decide), if_neg (by decide), if_pos h0]
    · rw [if_neg (by decide), if_neg (by decide), if_neg (by decide), if_neg (by decide), if_pos h0]
    · rw [if_neg (by decide), if_neg (by decide), if_neg (by decide), if_neg (by decide), if_pos h0]
    · rw [if_neg (by decide), if_neg (by decide), if_neg (by decide), if_neg (by decide), if_pos h0]
  rw [g0]
  unfold letv
  by_cases a1 : L = nI 105
  · rw [if_pos a1, if_pos a1]
    by_cases b : isDe V = true
    · have hd := (isDe_i hV).mp b
      rw [if_pos b, if_pos hd]
      exact ⟨_, (fturn_cg hV).tr (fturn_i hd.1 hd.2), rfl⟩
    · rw [if_neg b, if_neg (fun z => b ((isDe_i hV).mpr z))]
  · rw [if_neg a1, if_neg a1]
    by_cases b : V 0 = 0
    · rw [if_pos b, if_pos ((z_i hV).mp b)]
      refine ⟨_, ?_, rfl⟩
      have hs : eq9 (sname ex qu lo L) (iS (letC L)) := by
        unfold sname letC
        by_cases c : L = nI 101
        · rw [if_pos c, if_pos c]; exact hx.tr (fun k hk => exC_i k hk)
        · rw [if_neg c, if_neg c]
          by_cases d : L = nI 113
          · rw [if_pos d, if_pos d]; exact hq.tr (fun k hk => quC_i k hk)
          · rw [if_neg d, if_neg d]; exact hl.tr (fun k hk => loC_i k hk)
      exact (fput_cg hs hV).tr (by rw [fput_i]; exact eq9.rf)
    · rw [if_neg b, if_neg (fun z => b ((z_i hV).mpr z))]
theorem m1F : nF 9972 = 0 - 1 := by decide +kernel
/-- a step by a sign -/
theorem gs_op {ex qu lo : Ser} {c a : Int32} {St : List Ser} {V W : Ser} {v u : Fs} (hc : c = nI 43 ∨ c = nI 45 ∨ c = nI 42 ∨ c = nI 47) (hV : eq9 V (iS v)) (hW : eq9 W (iS u)) : match opv c v u with
    | none => gStep ex qu lo c a (St ++ [V] ++ [W]) = none
    | some x => ∃ Z, eq9 Z (iS x) ∧ gStep ex qu lo c a (St ++ [V] ++ [W]) = some (St ++ [Z]) := by
  have h2 : ¬ (St ++ [V] ++ [W]).length < 2 := by simp
  have g0 : gStep ex qu lo c a (St ++ [V] ++ [W]) = (if c = nI 47 ∧ isUn W = false then none else some (St ++ [sjoin c V W])) := by
    unfold gStep
    rw [top1, top2, tk2]
    rcases hc with rfl | rfl | rfl | rfl
    · rw [if_neg (by decide), if_neg (by decide), if_pos (by decide), if_neg h2]
    · rw [if_neg (by decide), if_neg (by decide), if_pos (by decide), if_neg h2]
    · rw [if_neg (by decide), if_neg (by decide), if_pos (by decide), if_neg h2]
    · rw [if_neg (by decide), if_neg (by decide), if_pos (by decide), if_neg h2]
  rw [g0]
  unfold opv sjoin
  have fx : ∀ c : Fp, eq9 (fax V W (iT c)) (iS (fun k => v k + u k * c)) := fun c k hk => by
    show fadd (V k) (fmul (W k) (iT c)) = _
    rw [hV k hk, hW k hk]
    show fadd (iT _) (fmul (iT _) _) = _
    rw [b_mul, b_add]; rfl
  rcases hc with rfl | rfl | rfl | rfl
  · rw [if_pos rfl, if_neg (fun z => absurd z.1 (by decide)), if_pos rfl]
    refine ⟨_, ?_, rfl⟩
    refine (fx 1).tr (fun k _ => ?_)
    show iT (v k + u k * 1) = iT (v k + u k)
    congr 1; grind
  · rw [if_neg (by decide), if_pos rfl, if_neg (fun z => absurd z.1 (by decide)), if_neg (by decide), if_pos rfl]
    refine ⟨_, ?_, rfl⟩
    rw [b_n (show 9972 < 9973 by decide), m1F]
    refine (fx (0 - 1)).tr (fun k _ => ?_)
    show iT (v k + u k * (0 - 1)) = iT (v k - u k)
    congr 1; grind
  · rw [if_neg (by decide), if_neg (by decide), if_pos rfl, if_neg (fun z => absurd z.1 (by decide)), if_neg (by decide), if_neg (by decide), if_pos rfl]
    exact ⟨_, (fprod_cg hV hW).tr (by rw [fprod_i]; exact eq9.rf), rfl⟩
  · rw [if_neg (show ¬ nI 47 = nI 43 by decide), if_neg (show ¬ nI 47 = nI 45 by decide), if_neg (show ¬ nI 47 = nI 42 by decide)]
    by_cases z : u 0 = 0
    · rw [if_pos z, if_pos ⟨rfl, by unfold isUn; simpa using (z_i hW).mpr z⟩]
    · have hu : ¬ (nI 47 = nI 47 ∧ isUn W = false) := fun q => z ((z_i hW).mp (by have := q.2; unfold isUn at this; simpa using this))
      rw [if_neg z, if_neg hu]
      refine ⟨_, ?_, rfl⟩
      rw [if_neg (show ¬ nI 47 = nI 43 by decide), if_neg (show ¬ nI 47 = nI 45 by decide), if_neg (show ¬ nI 47 = nI 42 by decide)]
      exact (fdiv_cg hV hW).tr (by rw [fdiv_i]; exact eq9.rf)
theorem ok_l {c : Int32} (h : c = nI 48 ∨ c = nI 116 ∨ c = nI 43 ∨ c = nI 45 ∨ c = nI 42 ∨ c = nI 47 ∨ c = nI 94 ∨ c = nI 101 ∨ c = nI 113 ∨ c = nI 108 ∨ c = nI 105) {k : Nat} (hk : k < 10000) : okStep (c, nI k) := ⟨h, k, hk, rfl⟩
theorem thingF_eq (l : Ser) (n : Nat) (sub : Option Prs) (q : Nat) (S : Stp2) : thingF l n sub q S = if fs l n q = nI 116 then (true, en l n q, addS S (nI 116, nI 0)) else if isDg (fs l n q) = true then (if isNum l n q = true then (true, en l n q, addS S (nI 48, amt l n q)) else (false, q, S)) else match sub with
    | none => (false, thq l n q, S)
    | some sum => if fs l n (thq l n q) = nI 40 then (if (sum (en l n (thq l n q)) S).1 = true ∧ fs l n (sum (en l n (thq l n q)) S).2.1 = nI 41 then (true, en l n (sum (en l n (thq l n q)) S).2.1, if isNm (fs l n q) = true then addS (sum (en l n (thq l n q)) S).2.2 (fs l n q, nI 0) else (sum (en l n (thq l n q)) S).2.2) else (false, (sum (en l n (thq l n q)) S).2.1, (sum (en l n (thq l n q)) S).2.2)) else (false, thq l n q, S) := rfl
theorem th_C {ex qu lo : Ser} {l : Ser} {n K : Nat} {sub : Option Prs} {sub' : Option Ev} (hx : eq9 ex exC) (hq : eq9 qu quC) (hl : eq9 lo loC) (hn : n ≤ 120) (hK : K ≤ 15) (h0 : sub = none ↔ sub' = none) (h1 : ∀ p e, sub = some p → sub' = some e → CR ex qu lo n K p e ∧ Pos n e) : CR ex qu lo n K (thingF l n sub) (thingE l n sub') := by
  intro q S hq1 hS
  have t := thq_pos (l := l) hq1
  rw [thingF_eq]
  unfold thingE
  by_cases a : fs l n q = nI 116
  · rw [if_pos a, if_pos a]
    have c1 : fs l n q ≠ -1 := by rw [a]; decide
    have g1 := en_gt' hq1 c1
    have g2 := sk_of c1
    have g3 := sk_ge (l := l) hq1
    refine ⟨rfl, rfl, fun _ => ⟨[(nI 116, nI 0)], addS_in (by omega), by show 1 + q ≤ en l n q; omega, ?_, fun St hSt => ⟨mono 1 (nI 1), by rw [monoX_i]; exact eq9.rf, ?_⟩⟩⟩
    · intro x hx; rw [List.mem_singleton.mp hx]; exact ok_l (by decide) (by decide)
    · rw [gRun_one]
      unfold gStep
      rw [if_neg (by decide), if_pos rfl, if_pos (by omega)]
  · rw [if_neg a, if_neg a]
    by_cases b : isDg (fs l n q) = true
    · rw [if_pos b, if_pos b]
      have c1 := isDg_ne b
      have g1 := en_gt' hq1 c1
      have g2 := sk_of c1
      have g3 := sk_ge (l := l) hq1
      by_cases c : isNum l n q = true
      · rw [if_pos c, if_pos c]
        have hm := num_i c
        refine ⟨rfl, rfl, fun _ => ⟨[(nI 48, amt l n q)], addS_in (by omega), by show 1 + q ≤ en l n q; omega, ?_, fun St hSt => ⟨mono 0 (amt l n q), by rw [hm, mono_i]; exact eq9.rf, ?_⟩⟩⟩
        · intro x hx; rw [List.mem_singleton.mp hx, hm]; exact ok_l (by decide) (by have := (amF l n q).isLt; omega)
        · rw [gRun_one]
          unfold gStep
          rw [if_pos rfl, if_pos (by omega)]
      · rw [if_neg c, if_neg c]; exact ⟨rfl, rfl, fun z => (by cases z)⟩
    · rw [if_neg b, if_neg b]
      cases sub with
      | none =>
        have := h0.mp rfl
        subst this
        exact ⟨rfl, rfl, fun z => (by cases z)⟩
      | some p =>
        cases sub' with
        | none => exact absurd (h0.mpr rfl) (by simp)
        | some e =>
          obtain ⟨hC, hP⟩ := h1 p e rfl rfl
          dsimp only
          by_cases c : fs l n (thq l n q) = nI 40
          · rw [if_pos c, if_pos c]
            have g1 := en_gt' t.2 (by rw [c]; decide)
            have g2 := en_le (l := l) t.2
            obtain ⟨r1, r2, r3⟩ := hC (en l n (thq l n q)) S g2 (by omega)
            have hp := hP (en l n (thq l n q)) g2
            rw [r1, r2]
            by_cases d : (e (en l n (thq l n q))).1 = true ∧ fs l n (e (en l n (thq l n q))).2.1 = nI 41
            · rw [if_pos d, if_pos d]
              obtain ⟨T, t1, t2, t3, t4⟩ := r3 d.1
              have c1 : fs l n (e (en l n (thq l n q))).2.1 ≠ -1 := by rw [d.2]; decide
              have g4 := en_gt' hp.2.1 c1
              have g5 := sk_of c1
              have g6 := sk_ge (l := l) hp.2.1
              refine ⟨rfl, rfl, fun _ => ?_⟩
              rw [t1]
              by_cases x : isNm (fs l n q) = true
              · rw [if_pos x, if_pos x]
                have hlen : (S ++ T).length < 120 := by rw [List.length_append]; omega
                refine ⟨T ++ [(fs l n q, nI 0)], by rw [addS_in hlen, List.append_assoc], by rw [List.length_append]; show T.length + 1 + q ≤ en l n _; omega, ?_, fun St hSt => ?_⟩
                · intro y hy
                  rcases List.mem_append.mp hy with hy | hy
                  · exact t3 y hy
                  · rw [List.mem_singleton.mp hy]
                    exact ok_l (by rcases isNm_or x with z | z | z | z <;> rw [z] <;> decide) (by decide)
                · have hv := t4 St hSt
                  cases hX : (e (en l n (thq l n q))).2.2 with
                  | none =>
                    rw [hX] at hv
                    show gRun ex qu lo (T ++ _) St = none
                    rw [gRun_app, show gRun ex qu lo T St = none from hv]; rfl
                  | some v =>
                    rw [hX] at hv
                    obtain ⟨V, v1, v2⟩ := hv
                    have hg := gs_let hx hq hl (a := nI 0) (St := St) x v1
                    show GV ex qu lo _ St (letv (fs l n q) v)
                    have e2 : gRun ex qu lo (T ++ [(fs l n q, nI 0)]) St = gStep ex qu lo (fs l n q) (nI 0) (St ++ [V]) := by
                      rw [gRun_app, v2]
                      show gRun ex qu lo [(fs l n q, nI 0)] (St ++ [V]) = _
                      rw [gRun_one]
                    cases hz : letv (fs l n q) v with
                    | none => rw [hz] at hg; exact e2.trans hg
                    | some z =>
                      rw [hz] at hg
                      obtain ⟨W, w1, w2⟩ := hg
                      exact ⟨W, w1, e2.trans w2⟩
              · rw [if_neg x, if_neg x]
                exact ⟨T, rfl, by show T.length + q ≤ en l n _; omega, t3, t4⟩
            · rw [if_neg d, if_neg d]; exact ⟨rfl, rfl, fun z => (by cases z)⟩
          · rw [if_neg c, if_neg c]; exact ⟨rfl, rfl, fun z => (by cases z)⟩
