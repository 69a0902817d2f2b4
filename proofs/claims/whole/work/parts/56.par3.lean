theorem mSt_0 {l : Ser} {n : Nat} {c : Int32} {ρ : Rho} : mSt l n c (nI 0) ρ = mTh l n c ρ := by unfold mSt; rw [if_pos rfl]
theorem mSt_3 {l : Ser} {n : Nat} {c : Int32} {ρ : Rho} : mSt l n c (nI 3) ρ = mBr l n c ρ := by unfold mSt; rw [if_neg (by decide), if_pos rfl]
theorem mSt_4 {l : Ser} {n : Nat} {c : Int32} {ρ : Rho} : mSt l n c (nI 4) ρ = mTi l n c ρ := by unfold mSt; rw [if_neg (by decide), if_neg (by decide), if_pos rfl]
theorem mSt_12 {l : Ser} {n : Nat} {c s : Int32} {ρ : Rho} (h : s = nI 1 ∨ s = nI 2) : mSt l n c s ρ = mOn l n c s ρ := by
  unfold mSt
  rcases h with rfl | rfl
  · rw [if_neg (by decide), if_neg (by decide), if_neg (by decide)]
  · rw [if_neg (by decide), if_neg (by decide), if_neg (by decide)]
theorem s12_ne {s : Int32} (h : s = nI 1 ∨ s = nI 2) : s ≠ -1 := by rcases h with rfl | rfl <;> decide
theorem mOn_eq (l : Ser) (n : Nat) (c s : Int32) (p o : Nat) (w : Bool) (th : Ser) (fr : Nat → Fr) (ah : Int32) : mOn l n c s (p, o, w, th, fr, ah) = if c = nI 94 then (if s = nI 1 then (nI 4, (en l n p, o, w, th, fr, ah)) else (-1, (p, o, w, th, fr, ah))) else if c = nI 42 ∨ c = nI 47 then (nI 0, (en l n p, o, (mEP o w th fr).1, th, va_up (mEP o w th fr).2 o (((mEP o w th fr).2 o).1, ((mEP o w th fr).2 o).2.1, ((mEP o w th fr).2 o).2.2.1, c, ((mEP o w th fr).2 o).2.2.2.2), ah)) else if c = nI 43 ∨ c = nI 45 then (nI 0, (en l n p, o, (mEQ o w th fr).1, th, va_up (mEQ o w th fr).2 o (((mEQ o w th fr).2 o).1, ((mEQ o w th fr).2 o).2.1, c, nI 0, ((mEQ o w th fr).2 o).2.2.2.2), ah)) else if c = nI 41 ∧ o ≠ 0 then (nI 1, (en l n p, o - 1, (mCl o w th fr).1, (mCl o w th fr).2.1, (mCl o w th fr).2.2, ah)) else (-1, (p, o, w, th, fr, ah)) := rfl
/-- nothing goes on behind a SUM but a bracket's end -/
theorem on_no {l : Ser} {n q p o : Nat} {s : Int32} {w : Bool} {th : Ser} {fr : Nat → Fr} {ah : Int32} (hs : AP l n q s) (h1 : fs l n q ≠ nI 42) (h2 : fs l n q ≠ nI 47) (h3 : fs l n q ≠ nI 43) (h4 : fs l n q ≠ nI 45) (h5 : ¬ (fs l n q = nI 41 ∧ o ≠ 0)) : mSt l n (fs l n q) s (p, o, w, th, fr, ah) = (-1, (p, o, w, th, fr, ah)) := by
  rw [mSt_12 hs.or, mOn_eq]
  by_cases a : fs l n q = nI 94
  · rw [if_pos a]
    rcases hs with h | h
    · exact absurd a h.2
    · rw [if_neg (by rw [h]; decide)]
  · rw [if_neg a, if_neg (by rintro (z | z); exact h1 z; exact h2 z), if_neg (by rintro (z | z); exact h3 z; exact h4 z), if_neg h5]
theorem on_41 {l : Ser} {n p o : Nat} {c s : Int32} {w : Bool} {th : Ser} {fr : Nat → Fr} {ah : Int32} (hs : s = nI 1 ∨ s = nI 2) (hc : c = nI 41) (ho : o ≠ 0) : mSt l n c s (p, o, w, th, fr, ah) = (nI 1, (en l n p, o - 1, (mCl o w th fr).1, (mCl o w th fr).2.1, (mCl o w th fr).2.2, ah)) := by
  rw [mSt_12 hs, mOn_eq, if_neg (by rw [hc]; decide), if_neg (by rw [hc]; decide), if_neg (by rw [hc]; decide), if_pos ⟨hc, ho⟩]
/-- what stands in a bracket -/
theorem br_R {l : Ser} {n o q : Nat} {e : Ev} {w : Bool} {th : Ser} {fr : Nat → Fr} {L : Int32} (hn : n ≤ 120) (hq : q ≤ n) (hP : Pos n e) (hS : RSu l n (o + 1) e) (hL : L = nI 0 ∨ isNm L = true) :
    (¬ ((e q).1 = true ∧ fs l n (e q).2.1 = nI 41) → Fail l n (e q).2.1 (RR l n (nI 0) (q, o + 1, w, th, mBg fr (o + 1) L, L))) ∧
    (((e q).1 = true ∧ fs l n (e q).2.1 = nI 41) → ∃ w' th' fr' ah', RR l n (nI 0) (q, o + 1, w, th, mBg fr (o + 1) L, L) = RR l n (nI 1) (en l n (e q).2.1, o, w', th', fr', ah') ∧ (∀ i, i ≤ o → fr' i = fr i) ∧ Vl (if isNm L = true then letO L (e q).2.2 else (e q).2.2) w w' th') := by
  have fo : mBg fr (o + 1) L (o + 1) = ((fr (o + 1)).1, (fr (o + 1)).2.1, nI 0, nI 0, L) := by unfold mBg; rw [va_up_self]
  have pb : (mBg fr (o + 1) L (o + 1)).2.2.2.1 = nI 0 := by rw [fo]
  have sb : (mBg fr (o + 1) L (o + 1)).2.2.1 = nI 0 := by rw [fo]
  have hl : (mBg fr (o + 1) L (o + 1)).2.2.2.2 = L := by rw [fo]
  obtain ⟨r1, r2⟩ := hS q w th (mBg fr (o + 1) L) L hq pb sb
  have hq3 := (hP q hq).2.1
  constructor
  · intro hb
    by_cases ok : (e q).1 = true
    · obtain ⟨s', w', th', fr', ah', e1, ap, -, -, -, c1, c2, c3, c4⟩ := r2 ok
      rw [e1]
      exact RR_fail hn hq3 (s12_ne ap.or) (fun z => by omega) (on_no ap c1 c2 c3 c4 (fun z => hb ⟨ok, z.1⟩)) rfl
    · exact r1 (by simpa using ok)
  · rintro ⟨ok, h41⟩
    obtain ⟨s', w', th', fr', ah', e1, ap, f1, fl, hv, -⟩ := r2 ok
    have h1 : fs l n (e q).2.1 ≠ -1 := by rw [h41]; decide
    refine ⟨(mCl (o + 1) w' th' fr').1, (mCl (o + 1) w' th' fr').2.1, (mCl (o + 1) w' th' fr').2.2, ah', ?_, ?_, ?_⟩
    · rw [e1, RR_step hn hq3 (s12_ne ap.or) (fun z => by omega), on_41 ap.or h41 (by omega), en_sk hq3 (sk_of h1)]
      rfl
    · intro i hi
      show (mEQ (o + 1) w' th' fr').2 i = fr i
      rw [mEQ_ne (by omega), f1 i (by omega)]
      unfold mBg
      rw [va_up_ne _ _ (by omega)]
    · have hLL : ((mEQ (o + 1) w' th' fr').2 (o + 1)).2.2.2.2 = L := by
        rw [show ((mEQ (o + 1) w' th' fr').2 (o + 1)).2.2.2.2 = (((mEQ (o + 1) w' th' fr').2 (o + 1)).2.2).2.2 from rfl, mEQ_o.2]
        exact fl.trans hl
      have := mLt_i hL hv
      rw [← hLL] at this
      rw [← hLL]
      exact this
theorem th_R {l : Ser} {n o : Nat} {sub : Option Ev} (hn : n ≤ 120) (h6 : sub = none → o = 6) (hS : ∀ e, sub = some e → o < 6 ∧ RSu l n (o + 1) e ∧ Pos n e) : RTh l n o (thingE l n sub) := by
  intro q w th fr ah hq
  have st := RR_step (l := l) (n := n) (q := q) (o := o) (s := nI 0) (w := w) (th := th) (fr := fr) (ah := ah) hn hq (by decide) nf0
  rw [mSt_0] at st
  have u : mTh l n (fs l n q) (sk l n q, o, w, th, fr, ah) = if isDg (fs l n q) = true then (if isNum l n (sk l n q) = true then (nI 1, (en l n (sk l n q), o, w, mono 0 (amt l n (sk l n q)), fr, ah)) else (-1, (sk l n q, o, w, th, fr, ah))) else if fs l n q = nI 116 then (nI 1, (en l n (sk l n q), o, w, mono 1 (nI 1), fr, ah)) else if isNm (fs l n q) = true then (nI 3, (en l n (sk l n q), o, w, th, fr, fs l n q)) else mBr l n (fs l n q) (sk l n q, o, w, th, fr, nI 0) := rfl
  rw [u] at st
  unfold thingE
  by_cases a : fs l n q = nI 116
  · have hk := sk_of (l := l) (n := n) (q := q) (by rw [a]; decide)
    rw [if_pos a]
    rw [if_neg (by rw [a]; decide), if_pos a, en_sk hq hk] at st
    refine ⟨fun z => (by cases z), fun _ => ⟨_, _, _, _, st, fun _ _ => rfl, rfl, ?_⟩⟩
    rw [monoX_i]; exact eq9.rf
  · rw [if_neg a]
    by_cases b : isDg (fs l n q) = true
    · have hk := sk_of (l := l) (n := n) (q := q) (isDg_ne b)
      obtain ⟨i1, i2⟩ := isNum_sk hq hk
      rw [if_pos b]
      rw [if_pos b, i1, i2, en_sk hq hk] at st
      by_cases c : isNum l n q = true
      · rw [if_pos c]
        rw [if_pos c] at st
        refine ⟨fun z => (by cases z), fun _ => ⟨_, _, _, _, st, fun _ _ => rfl, rfl, ?_⟩⟩
        rw [num_i c, mono_i]; exact eq9.rf
      · rw [if_neg c]
        rw [if_neg c] at st
        refine ⟨fun _ => ?_, fun z => by cases z⟩
        rw [st]
        show Fail l n q (RR l n (-1) _)
        rw [RR_dead]; exact ⟨rfl, rfl⟩
    · rw [if_neg b]
      rw [if_neg b, if_neg a] at st
      have ht := thq_pos (l := l) hq
      by_cases c : isNm (fs l n q) = true
      · have hk := sk_of (l := l) (n := n) (q := q) (fun z => by rw [z] at c; revert c; decide)
        rw [if_pos c, en_sk hq hk] at st
        have hq1 : thq l n q = en l n q := by unfold thq; rw [if_pos c]
        rw [hq1] at ht ⊢
        have nf : ¬ ((nI 3 = nI 1 ∨ nI 3 = nI 2) ∧ o = 0 ∧ (fs l n (en l n q) = nI 59 ∨ fs l n (en l n q) = -1)) := fun z => by rcases z.1 with y | y <;> revert y <;> decide
        cases sub with
        | none =>
          refine ⟨fun _ => ?_, fun z => by cases z⟩
          show Fail l n (en l n q) _
          rw [st]
          exact RR_fail (s := nI 3) hn ht.2 (show nI 3 ≠ -1 by decide) nf (by rw [mSt_3, mBr_no (fun z => z.2 (h6 rfl))]) rfl
        | some sum =>
          obtain ⟨ho, hR, hP⟩ := hS sum rfl
          dsimp only
          by_cases d : fs l n (en l n q) = nI 40
          · rw [if_pos d]
            have hk2 := sk_of (l := l) (n := n) (q := en l n q) (by rw [d]; decide)
            have st2 := RR_step (l := l) (n := n) (q := en l n q) (o := o) (s := nI 3) (w := w) (th := th) (fr := fr) (ah := fs l n q) hn ht.2 (by decide) nf
            rw [mSt_3, mBr_ok d (by omega), en_sk ht.2 hk2] at st2
            have rr : RR l n (nI 0) (q, o, w, th, fr, ah) = RR l n (nI 0) (en l n (en l n q), o + 1, w, th, mBg fr (o + 1) (fs l n q), fs l n q) := st.trans st2
            rw [rr]
            obtain ⟨b1, b2⟩ := br_R (w := w) (th := th) (fr := fr) (L := fs l n q) hn (en_le ht.2) hP hR (Or.inr c)
            by_cases x : (sum (en l n (en l n q))).1 = true ∧ fs l n (sum (en l n (en l n q))).2.1 = nI 41
            · rw [if_pos x]; exact ⟨fun z => (by cases z), fun _ => b2 x⟩
            · rw [if_neg x]; exact ⟨fun _ => b1 x, fun z => (by cases z)⟩
          · rw [if_neg d]
            refine ⟨fun _ => ?_, fun z => by cases z⟩
            show Fail l n (en l n q) _
            rw [st]
            exact RR_fail (s := nI 3) hn ht.2 (show nI 3 ≠ -1 by decide) nf (by rw [mSt_3, mBr_no (fun z => d z.1)]) rfl
      · rw [if_neg c] at st
        have hq1 : thq l n q = q := by unfold thq; rw [if_neg c]
        rw [hq1]
        have bad : ¬ (fs l n q = nI 40 ∧ o ≠ 6) → Fail l n q (RR l n (nI 0) (q, o, w, th, fr, ah)) := fun z => by
          rw [st, mBr_no z]
          show Fail l n q (RR l n (-1) _)
          rw [RR_dead]; exact ⟨rfl, rfl⟩
        cases sub with
        | none => exact ⟨fun _ => bad (fun z => z.2 (h6 rfl)), fun z => (by cases z)⟩
        | some sum =>
          obtain ⟨ho, hR, hP⟩ := hS sum rfl
          dsimp only
          by_cases d : fs l n q = nI 40
          · have hk := sk_of (l := l) (n := n) (q := q) (by rw [d]; decide)
            rw [mBr_ok d (by omega), en_sk hq hk] at st
            rw [if_pos d, st, if_neg c]
            obtain ⟨b1, b2⟩ := br_R (w := w) (th := th) (fr := fr) (L := nI 0) hn (en_le hq) hP hR (Or.inl rfl)
            rw [if_neg (by decide)] at b2
            by_cases x : (sum (en l n q)).1 = true ∧ fs l n (sum (en l n q)).2.1 = nI 41
            · rw [if_pos x]; exact ⟨fun z => (by cases z), fun _ => b2 x⟩
            · rw [if_neg x]; exact ⟨fun _ => b1 x, fun z => (by cases z)⟩
          · rw [if_neg d]; exact ⟨fun _ => bad (fun z => d z.1), fun z => (by cases z)⟩
theorem po_R {l : Ser} {n o : Nat} {e : Ev} (hn : n ≤ 120) (hP : Pos n e) (hT : RTh l n o e) : RPo l n o (powerE l n e) := by
  intro q w th fr ah hq
  obtain ⟨t1, t2⟩ := hT q w th fr ah hq
  have hq1 := (hP q hq).2.1
  unfold powerE
  by_cases a : (e q).1 = true
  · rw [if_pos a]
    obtain ⟨w', th', fr', ah', e1, f1, hv⟩ := t2 a
    by_cases b : fs l n (e q).2.1 = nI 94
    · rw [if_pos b]
      have hk := sk_of (l := l) (n := n) (q := (e q).2.1) (by rw [b]; decide)
      have hq2 := en_le (l := l) hq1
      have st := RR_step (l := l) (n := n) (q := (e q).2.1) (o := o) (s := nI 1) (w := w') (th := th') (fr := fr') (ah := ah') hn hq1 (by decide) (fun z => by rw [b] at z; rcases z.2.2 with y | y <;> revert y <;> decide)
      rw [mSt_12 (Or.inl rfl), mOn_eq, if_pos b, if_pos rfl, en_sk hq1 hk] at st
      have rr := e1.trans st
      have nf : ¬ ((nI 4 = nI 1 ∨ nI 4 = nI 2) ∧ o = 0 ∧ (fs l n (en l n (e q).2.1) = nI 59 ∨ fs l n (en l n (e q).2.1) = -1)) := fun z => by rcases z.1 with y | y <;> revert y <;> decide
      have ti : mTi l n (fs l n (en l n (e q).2.1)) (sk l n (en l n (e q).2.1), o, w', th', fr', ah') = if isDg (fs l n (en l n (e q).2.1)) = true ∧ en l n (sk l n (en l n (e q).2.1)) - sk l n (sk l n (en l n (e q).2.1)) = 1 then (nI 2, (en l n (sk l n (en l n (e q).2.1)), o, w', fpow th' (amt l n (sk l n (en l n (e q).2.1))).toNatClampNeg, fr', ah')) else (-1, (sk l n (en l n (e q).2.1), o, w', th', fr', ah')) := rfl
      by_cases c : isDg (fs l n (en l n (e q).2.1)) = true ∧ en l n (en l n (e q).2.1) - sk l n (en l n (e q).2.1) = 1
      · rw [if_pos c]
        have hk2 := sk_of (l := l) (n := n) (q := en l n (e q).2.1) (isDg_ne c.1)
        have st2 := RR_step (l := l) (n := n) (q := en l n (e q).2.1) (o := o) (s := nI 4) (w := w') (th := th') (fr := fr') (ah := ah') hn hq2 (by decide) nf
        rw [mSt_4, ti, en_sk hq2 hk2, sk_sk hq2, (isNum_sk hq2 hk2).2, if_pos c] at st2
        refine ⟨fun z => (by cases z), fun _ => ⟨nI 2, w', _, fr', ah', rr.trans st2, Or.inr rfl, f1, ?_⟩⟩
        show Vl ((e q).2.2.map _) w w' _
        cases hx : (e q).2.2 with
        | none => rw [hx] at hv; exact hv
        | some x =>
          rw [hx] at hv
          exact ⟨hv.1, (fpow_cg hv.2 _).tr (by rw [fpow_i]; exact eq9.rf)⟩
      · rw [if_neg c]
        refine ⟨fun _ => ?_, fun z => (by cases z)⟩
        show Fail l n (en l n (e q).2.1) _
        rw [rr]
        refine RR_fail (s := nI 4) (ρ := (sk l n (en l n (e q).2.1), o, w', th', fr', ah')) hn hq2 (show nI 4 ≠ -1 by decide) nf ?_ rfl
        rw [mSt_4, ti, if_neg]
        intro z
        have hk2 := sk_of (l := l) (n := n) (q := en l n (e q).2.1) (isDg_ne z.1)
        rw [en_sk hq2 hk2, sk_sk hq2] at z
        exact c z
    · rw [if_neg b]
      exact ⟨fun z => (by cases z), fun _ => ⟨nI 1, w', th', fr', ah', e1, Or.inl ⟨rfl, b⟩, f1, hv⟩⟩
  · rw [if_neg a]
    exact ⟨fun _ => t1 (by simpa using a), fun z => (by cases z)⟩
