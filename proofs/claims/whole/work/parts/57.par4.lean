theorem on_mul {l : Ser} {n p o : Nat} {c s : Int32} {w : Bool} {th : Ser} {fr : Nat → Fr} {ah : Int32} (hs : s = nI 1 ∨ s = nI 2) (hc : c = nI 42 ∨ c = nI 47) : mSt l n c s (p, o, w, th, fr, ah) = (nI 0, (en l n p, o, (mEP o w th fr).1, th, va_up (mEP o w th fr).2 o (((mEP o w th fr).2 o).1, ((mEP o w th fr).2 o).2.1, ((mEP o w th fr).2 o).2.2.1, c, ((mEP o w th fr).2 o).2.2.2.2), ah)) := by
  rw [mSt_12 hs, mOn_eq, if_neg (by rcases hc with h | h <;> rw [h] <;> decide), if_pos hc]
theorem on_add {l : Ser} {n p o : Nat} {c s : Int32} {w : Bool} {th : Ser} {fr : Nat → Fr} {ah : Int32} (hs : s = nI 1 ∨ s = nI 2) (hc : c = nI 43 ∨ c = nI 45) : mSt l n c s (p, o, w, th, fr, ah) = (nI 0, (en l n p, o, (mEQ o w th fr).1, th, va_up (mEQ o w th fr).2 o (((mEQ o w th fr).2 o).1, ((mEQ o w th fr).2 o).2.1, c, nI 0, ((mEQ o w th fr).2 o).2.2.2.2), ah)) := by
  rw [mSt_12 hs, mOn_eq, if_neg (by rcases hc with h | h <;> rw [h] <;> decide), if_neg (by rcases hc with h | h <;> rw [h] <;> decide), if_pos hc]
/-- by * or / -/
theorem vp_mul {X Y : Option Fs} {w0 w2 : Bool} {o : Nat} {c : Int32} {w : Bool} {th th2 : Ser} {fr fr2 : Nat → Fr} (hc : c = nI 42 ∨ c = nI 47) (hX : VP X w0 o w th fr) (hY : Vl Y (mEP o w th fr).1 w2 th2) (h2 : fr2 o = (((mEP o w th fr).2 o).1, ((mEP o w th fr).2 o).2.1, ((mEP o w th fr).2 o).2.2.1, c, ((mEP o w th fr).2 o).2.2.2.2)) : VP (jo c X Y) w0 o w2 th2 fr2 := by
  have pb : (fr2 o).2.2.2.1 = c := by rw [h2]
  have pr : (fr2 o).2.1 = ((mEP o w th fr).2 o).2.1 := by rw [h2]
  have c0 : ¬ c = nI 0 := by rcases hc with h | h <;> rw [h] <;> decide
  have up : w2 = true → (mEP o w2 th2 fr2).1 = true := fun e => by rw [e]; exact mEP_w
  unfold VP
  cases X with
  | none =>
    have hx : (mEP o w th fr).1 = true := hX
    rw [hx] at hY
    exact up hY.up
  | some x =>
    cases Y with
    | none => exact up hY
    | some y =>
      obtain ⟨x1, x2⟩ := hX
      obtain ⟨y1, y2⟩ := hY
      show Vl (opv c x y) w0 (mEP o w2 th2 fr2).1 ((mEP o w2 th2 fr2).2 o).2.1
      unfold opv mEP
      rw [pb, pr, if_neg c0]
      rcases hc with rfl | rfl
      · rw [if_neg (by decide), if_neg (by decide), if_pos rfl, if_pos rfl]
        show Vl _ w0 w2 (va_up fr2 o _ o).2.1
        rw [va_up_self]
        exact ⟨y1.trans x1, (fprod_cg x2 y2).tr (by rw [fprod_i]; exact eq9.rf)⟩
      · rw [if_neg (show ¬ nI 47 = nI 43 by decide), if_neg (show ¬ nI 47 = nI 45 by decide), if_neg (show ¬ nI 47 = nI 42 by decide), if_neg (show ¬ nI 47 = nI 42 by decide)]
        by_cases z : th2 0 = 0
        · rw [if_pos z, if_pos ((z_i y2).mp z)]; rfl
        · have z2 := fun q => z ((z_i y2).mpr q)
          rw [if_neg z, if_neg z2]
          show Vl _ w0 w2 (va_up fr2 o _ o).2.1
          rw [va_up_self]
          exact ⟨y1.trans x1, (mdiv_cg x2 y2).tr (by rw [mdiv_i z2]; exact eq9.rf)⟩
theorem pr_loop {l : Ser} {n o : Nat} {e : Ev} (hn : n ≤ 120) (hl : ∀ i, i < n → l i ≠ -1) (hP : Pos n e) (hR : RPo l n o e) {w0 : Bool} : ∀ f q X s w th fr ah, n ≤ f + q → q ≤ n → AP l n q s → VP X w0 o w th fr →
    ((loopE l n (nI 42) (nI 47) e f q X).1 = false → Fail l n (loopE l n (nI 42) (nI 47) e f q X).2.1 (RR l n s (q, o, w, th, fr, ah))) ∧
    ((loopE l n (nI 42) (nI 47) e f q X).1 = true → ∃ s' w' th' fr' ah', RR l n s (q, o, w, th, fr, ah) = RR l n s' ((loopE l n (nI 42) (nI 47) e f q X).2.1, o, w', th', fr', ah') ∧ AP l n (loopE l n (nI 42) (nI 47) e f q X).2.1 s' ∧ (∀ i, i < o → fr' i = fr i) ∧ ((fr' o).1 = (fr o).1 ∧ (fr' o).2.2.1 = (fr o).2.2.1 ∧ (fr' o).2.2.2.2 = (fr o).2.2.2.2) ∧ VP (loopE l n (nI 42) (nI 47) e f q X).2.2 w0 o w' th' fr' ∧ fs l n (loopE l n (nI 42) (nI 47) e f q X).2.1 ≠ nI 42 ∧ fs l n (loopE l n (nI 42) (nI 47) e f q X).2.1 ≠ nI 47)
  | 0, q, X, s, w, th, fr, ah, hf, hq, hs, hX => by
    have e1 : fs l n q = -1 := by
      have := sk_ge (l := l) hq
      unfold fs; rw [if_neg (by omega)]
    exact ⟨fun z => (by cases z), fun _ => ⟨s, w, th, fr, ah, rfl, hs, fun _ _ => rfl, ⟨rfl, rfl, rfl⟩, hX, by show fs l n q ≠ _; rw [e1]; decide, by show fs l n q ≠ _; rw [e1]; decide⟩⟩
  | f + 1, q, X, s, w, th, fr, ah, hf, hq, hs, hX => by
    unfold loopE
    by_cases c : fs l n q = nI 42 ∨ fs l n q = nI 47
    · rw [if_pos c]
      have c1 : fs l n q ≠ -1 := by rcases c with c | c <;> rw [c] <;> decide
      have hk := sk_of c1
      have hgt := en_gt' hq c1
      have hle := en_le (l := l) hq
      have st := RR_step (l := l) (n := n) (q := q) (o := o) (s := s) (w := w) (th := th) (fr := fr) (ah := ah) hn hq (s12_ne hs.or) (fun z => by
        rcases z.2.2 with y | y
        · rw [y] at c; revert c; decide
        · exact c1 y)
      rw [on_mul hs.or c, en_sk hq hk] at st
      dsimp only at st
      obtain ⟨p1, p2⟩ := hR (en l n q) (mEP o w th fr).1 th (va_up (mEP o w th fr).2 o (((mEP o w th fr).2 o).1, ((mEP o w th fr).2 o).2.1, ((mEP o w th fr).2 o).2.2.1, fs l n q, ((mEP o w th fr).2 o).2.2.2.2)) ah hle
      have hp := hP (en l n q) hle
      rw [st]
      by_cases d : (e (en l n q)).1 = true
      · rw [if_pos d]
        obtain ⟨s2, w2, th2, fr2, ah2, e2, ap2, f2, v2⟩ := p2 d
        have fo := f2 o (Nat.le_refl _)
        rw [va_up_self] at fo
        have nx := vp_mul c hX v2 fo
        obtain ⟨i1, i2⟩ := pr_loop hn hl hP hR (w0 := w0) f (e (en l n q)).2.1 (jo (fs l n q) X (e (en l n q)).2.2) s2 w2 th2 fr2 ah2 (by omega) hp.2.1 ap2 nx
        rw [e2]
        refine ⟨i1, fun ok => ?_⟩
        obtain ⟨s3, w3, th3, fr3, ah3, e3, ap3, g3, ⟨g4, g5, g6⟩, v3, n1, n2⟩ := i2 ok
        have mo := mEP_o (o := o) (w := w) (th := th) (fr := fr)
        refine ⟨s3, w3, th3, fr3, ah3, e3, ap3, fun i hi => ?_, ⟨?_, ?_, ?_⟩, v3, n1, n2⟩
        · rw [g3 i hi, f2 i (by omega), va_up_ne _ _ (by omega), mEP_ne (by omega)]
        · rw [g4, fo]; exact mo.1
        · rw [g5, fo]; exact congrArg (fun z => z.1) mo.2
        · rw [g6, fo]; exact congrArg (fun z => z.2.2) mo.2
      · rw [if_neg d]
        exact ⟨fun _ => p1 (by simpa using d), fun z => (by cases z)⟩
    · rw [if_neg c]
      exact ⟨fun z => (by cases z), fun _ => ⟨s, w, th, fr, ah, rfl, hs, fun _ _ => rfl, ⟨rfl, rfl, rfl⟩, hX, fun z => c (Or.inl z), fun z => c (Or.inr z)⟩⟩
theorem pr_R {l : Ser} {n o : Nat} {e : Ev} (hn : n ≤ 120) (hl : ∀ i, i < n → l i ≠ -1) (hP : Pos n e) (hR : RPo l n o e) : RPr l n o (listE l n (nI 42) (nI 47) e) := by
  intro q w th fr ah hq pb
  obtain ⟨p1, p2⟩ := hR q w th fr ah hq
  have hp := hP q hq
  unfold listE
  by_cases a : (e q).1 = true
  · rw [if_pos a]
    obtain ⟨s1, w1, th1, fr1, ah1, e1, ap1, f1, v1⟩ := p2 a
    have fo := f1 o (Nat.le_refl _)
    have v2 : VP (e q).2.2 w o w1 th1 fr1 := by
      unfold VP mEP
      rw [fo, if_pos pb]
      show Vl _ w w1 (va_up fr1 o _ o).2.1
      rw [va_up_self]; exact v1
    obtain ⟨i1, i2⟩ := pr_loop hn hl hP hR (w0 := w) 120 (e q).2.1 (e q).2.2 s1 w1 th1 fr1 ah1 (by omega) hp.2.1 ap1 v2
    rw [e1]
    refine ⟨i1, fun ok => ?_⟩
    obtain ⟨s3, w3, th3, fr3, ah3, e3, ap3, g3, g4, v3, n1, n2⟩ := i2 ok
    exact ⟨s3, w3, th3, fr3, ah3, e3, ap3, fun i hi => by rw [g3 i hi, f1 i (by omega)], by rw [fo] at g4; exact g4, v3, n1, n2⟩
  · rw [if_neg a]
    exact ⟨fun _ => p1 (by simpa using a), fun z => (by cases z)⟩
theorem sadd_i {s : Int32} {x z : Fs} : sadd s (iS x) (iS z) = iS (fun k => if s = nI 0 then z k else if s = nI 43 then x k + z k else x k - z k) := funext (fun k => by
  show (if s = nI 0 then iT (z k) else if s = nI 43 then fadd (iT (x k)) (iT (z k)) else fsub (iT (x k)) (iT (z k))) = iT (if s = nI 0 then z k else if s = nI 43 then x k + z k else x k - z k)
  rw [b_add, b_sub]
  by_cases a : s = nI 0
  · rw [if_pos a, if_pos a]
  · rw [if_neg a, if_neg a]
    by_cases b : s = nI 43
    · rw [if_pos b, if_pos b]
    · rw [if_neg b, if_neg b])
/-- by + or - -/
theorem vs_add {X Y : Option Fs} {w0 w2 : Bool} {o : Nat} {c : Int32} {w : Bool} {th th2 : Ser} {fr fr2 : Nat → Fr} (hc : c = nI 43 ∨ c = nI 45) (hX : VS X w0 o w th fr) (hY : VP Y (mEQ o w th fr).1 o w2 th2 fr2) (h1 : (fr2 o).1 = ((mEQ o w th fr).2 o).1) (h2 : (fr2 o).2.2.1 = c) : VS (jo c X Y) w0 o w2 th2 fr2 := by
  have qo := mEQ_o (o := o) (w := w2) (th := th2) (fr := fr2)
  have up : (mEP o w2 th2 fr2).1 = true → (mEQ o w2 th2 fr2).1 = true := fun e => e
  unfold VS
  rw [qo.1, h1, h2]
  cases X with
  | none =>
    have hx : (mEQ o w th fr).1 = true := hX
    rw [hx] at hY
    exact up (Vl.up hY)
  | some x =>
    cases Y with
    | none => exact up hY
    | some y =>
      obtain ⟨x1, x2⟩ := hX
      obtain ⟨y1, y2⟩ := hY
      have hw : (mEQ o w2 th2 fr2).1 = w0 := y1.trans x1
      have hs := (sadd_cg (s := c) x2 y2).tr (by rw [sadd_i]; exact eq9.rf)
      show Vl (opv c x y) w0 _ _
      unfold opv
      rcases hc with rfl | rfl
      · rw [if_pos rfl]
        exact ⟨hw, hs⟩
      · rw [if_neg (by decide), if_pos rfl]
        exact ⟨hw, hs⟩
theorem su_loop {l : Ser} {n o : Nat} {e : Ev} (hn : n ≤ 120) (hP : Pos n e) (hR : RPr l n o e) {w0 : Bool} : ∀ f q X s w th fr ah, n ≤ f + q → q ≤ n → AP l n q s → VS X w0 o w th fr → fs l n q ≠ nI 42 → fs l n q ≠ nI 47 →
    ((loopE l n (nI 43) (nI 45) e f q X).1 = false → Fail l n (loopE l n (nI 43) (nI 45) e f q X).2.1 (RR l n s (q, o, w, th, fr, ah))) ∧
    ((loopE l n (nI 43) (nI 45) e f q X).1 = true → ∃ s' w' th' fr' ah', RR l n s (q, o, w, th, fr, ah) = RR l n s' ((loopE l n (nI 43) (nI 45) e f q X).2.1, o, w', th', fr', ah') ∧ AP l n (loopE l n (nI 43) (nI 45) e f q X).2.1 s' ∧ (∀ i, i < o → fr' i = fr i) ∧ (fr' o).2.2.2.2 = (fr o).2.2.2.2 ∧ VS (loopE l n (nI 43) (nI 45) e f q X).2.2 w0 o w' th' fr' ∧ fs l n (loopE l n (nI 43) (nI 45) e f q X).2.1 ≠ nI 42 ∧ fs l n (loopE l n (nI 43) (nI 45) e f q X).2.1 ≠ nI 47 ∧ fs l n (loopE l n (nI 43) (nI 45) e f q X).2.1 ≠ nI 43 ∧ fs l n (loopE l n (nI 43) (nI 45) e f q X).2.1 ≠ nI 45)
  | 0, q, X, s, w, th, fr, ah, hf, hq, hs, hX, n1, n2 => by
    have e1 : fs l n q = -1 := by
      have := sk_ge (l := l) hq
      unfold fs; rw [if_neg (by omega)]
    exact ⟨fun z => (by cases z), fun _ => ⟨s, w, th, fr, ah, rfl, hs, fun _ _ => rfl, rfl, hX, n1, n2, by show fs l n q ≠ _; rw [e1]; decide, by show fs l n q ≠ _; rw [e1]; decide⟩⟩
  | f + 1, q, X, s, w, th, fr, ah, hf, hq, hs, hX, n1, n2 => by
    unfold loopE
    by_cases c : fs l n q = nI 43 ∨ fs l n q = nI 45
    · rw [if_pos c]
      have c1 : fs l n q ≠ -1 := by rcases c with c | c <;> rw [c] <;> decide
      have hk := sk_of c1
      have hgt := en_gt' hq c1
      have hle := en_le (l := l) hq
      have st := RR_step (l := l) (n := n) (q := q) (o := o) (s := s) (w := w) (th := th) (fr := fr) (ah := ah) hn hq (s12_ne hs.or) (fun z => by
        rcases z.2.2 with y | y
        · rw [y] at c; revert c; decide
        · exact c1 y)
      rw [on_add hs.or c, en_sk hq hk] at st
      dsimp only at st
      obtain ⟨p1, p2⟩ := hR (en l n q) (mEQ o w th fr).1 th (va_up (mEQ o w th fr).2 o (((mEQ o w th fr).2 o).1, ((mEQ o w th fr).2 o).2.1, fs l n q, nI 0, ((mEQ o w th fr).2 o).2.2.2.2)) ah hle (by rw [va_up_self])
      have hp := hP (en l n q) hle
      rw [st]
      by_cases d : (e (en l n q)).1 = true
      · rw [if_pos d]
        obtain ⟨s2, w2, th2, fr2, ah2, e2, ap2, f2, ⟨g1, g2, g3⟩, v2, m1, m2⟩ := p2 d
        rw [va_up_self] at g1 g2 g3
        have nx := vs_add c hX v2 g1 g2
        obtain ⟨i1, i2⟩ := su_loop hn hP hR (w0 := w0) f (e (en l n q)).2.1 (jo (fs l n q) X (e (en l n q)).2.2) s2 w2 th2 fr2 ah2 (by omega) hp.2.1 ap2 nx m1 m2
        rw [e2]
        refine ⟨i1, fun ok => ?_⟩
        obtain ⟨s3, w3, th3, fr3, ah3, e3, ap3, k3, k4, v3, r1, r2, r3, r4⟩ := i2 ok
        have mo := mEQ_o (o := o) (w := w) (th := th) (fr := fr)
        refine ⟨s3, w3, th3, fr3, ah3, e3, ap3, fun i hi => ?_, ?_, v3, r1, r2, r3, r4⟩
        · rw [k3 i hi, f2 i hi, va_up_ne _ _ (by omega), mEQ_ne (by omega)]
        · rw [k4, g3]; exact congrArg (fun z => z.2.2) mo.2
      · rw [if_neg d]
        exact ⟨fun _ => p1 (by simpa using d), fun z => (by cases z)⟩
    · rw [if_neg c]
      exact ⟨fun z => (by cases z), fun _ => ⟨s, w, th, fr, ah, rfl, hs, fun _ _ => rfl, rfl, hX, n1, n2, fun z => c (Or.inl z), fun z => c (Or.inr z)⟩⟩
theorem su_R {l : Ser} {n o : Nat} {e : Ev} (hn : n ≤ 120) (hP : Pos n e) (hR : RPr l n o e) : RSu l n o (listE l n (nI 43) (nI 45) e) := by
  intro q w th fr ah hq pb sb
  obtain ⟨p1, p2⟩ := hR q w th fr ah hq pb
  have hp := hP q hq
  unfold listE
  by_cases a : (e q).1 = true
  · rw [if_pos a]
    obtain ⟨s1, w1, th1, fr1, ah1, e1, ap1, f1, ⟨g1, g2, g3⟩, v1, m1, m2⟩ := p2 a
    have v2 : VS (e q).2.2 w o w1 th1 fr1 := by
      have qo := mEQ_o (o := o) (w := w1) (th := th1) (fr := fr1)
      unfold VS
      rw [qo.1, g2, sb]
      have : sadd (nI 0) (fr1 o).1 ((mEP o w1 th1 fr1).2 o).2.1 = ((mEP o w1 th1 fr1).2 o).2.1 := funext (fun k => by unfold sadd; rw [if_pos rfl])
      rw [this]; exact v1
    obtain ⟨i1, i2⟩ := su_loop hn hP hR (w0 := w) 120 (e q).2.1 (e q).2.2 s1 w1 th1 fr1 ah1 (by omega) hp.2.1 ap1 v2 m1 m2
    rw [e1]
    refine ⟨i1, fun ok => ?_⟩
    obtain ⟨s3, w3, th3, fr3, ah3, e3, ap3, k3, k4, v3, r⟩ := i2 ok
    exact ⟨s3, w3, th3, fr3, ah3, e3, ap3, fun i hi => by rw [k3 i hi, f1 i hi], by rw [k4, g3], v3, r⟩
  · rw [if_neg a]
    exact ⟨fun _ => p1 (by simpa using a), fun z => (by cases z)⟩
theorem sumO_R {l : Ser} {n o : Nat} {sub : Option Ev} (hn : n ≤ 120) (hl : ∀ i, i < n → l i ≠ -1) (hp : ∀ e, sub = some e → Pos n e) (h6 : sub = none → o = 6) (hS : ∀ e, sub = some e → o < 6 ∧ RSu l n (o + 1) e ∧ Pos n e) : RSu l n o (eSumO l n sub) :=
  su_R hn (list_pos (by decide) (by decide) (power_pos (thing_pos hp))) (pr_R hn hl (power_pos (thing_pos hp)) (po_R hn (thing_pos hp) (th_R hn h6 hS)))
theorem sum_R {l : Ser} {n : Nat} (hn : n ≤ 120) (hl : ∀ i, i < n → l i ≠ -1) : ∀ k, k ≤ 6 → RSu l n (6 - k) (eSum l n k)
  | 0, _ => sumO_R hn hl (fun e h => by cases h) (fun _ => rfl) (fun e h => by cases h)
  | k + 1, hk => sumO_R hn hl (fun e h => by cases h; exact sum_pos k) (fun h => by cases h) (fun e h => by
      cases h
      refine ⟨by omega, ?_, sum_pos k⟩
      rw [show 6 - (k + 1) + 1 = 6 - k by omega]; exact sum_R hn hl k (by omega))
