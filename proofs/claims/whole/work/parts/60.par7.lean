theorem sk_n {l : Ser} {n q : Nat} (hl : ∀ i, i < n → l i ≠ -1) (hq : q ≤ n) : fs l n q = -1 ↔ sk l n q = n := by
  have := sk_le (l := l) hq
  unfold fs
  by_cases h : sk l n q < n
  · rw [if_pos h]
    exact ⟨fun z => absurd z (hl _ h), fun z => by omega⟩
  · rw [if_neg h]
    exact ⟨fun _ => by omega, fun _ => rfl⟩
/-- a SUM alone, the reference's way -/
theorem mSum_R {l : Ser} {n q o : Nat} {w : Bool} {th : Ser} {fr : Nat → Fr} {ah : Int32} (hn : n ≤ 120) (hl : ∀ i, i < n → l i ≠ -1) (hq : q ≤ n) :
    (¬ ((eSum l n 6 q).1 = true ∧ (fs l n (eSum l n 6 q).2.1 = nI 59 ∨ fs l n (eSum l n 6 q).2.1 = -1)) → Fail l n (eSum l n 6 q).2.1 (mSum l n (q, o, w, th, fr, ah))) ∧
    (((eSum l n 6 q).1 = true ∧ (fs l n (eSum l n 6 q).2.1 = nI 59 ∨ fs l n (eSum l n 6 q).2.1 = -1)) → (mSum l n (q, o, w, th, fr, ah)).1 ≠ -1 ∧ (mSum l n (q, o, w, th, fr, ah)).2.1 = sk l n (eSum l n 6 q).2.1 ∧ Vl (eSum l n 6 q).2.2 w (mSum l n (q, o, w, th, fr, ah)).2.2.2.1 ((mSum l n (q, o, w, th, fr, ah)).2.2.2.2.2.1 0).1) := by
  have hP := (sum_pos (l := l) (n := n) 6 q hq).2.1
  have fo : mBg fr 0 (nI 0) 0 = ((fr 0).1, (fr 0).2.1, nI 0, nI 0, nI 0) := by unfold mBg; rw [va_up_self]
  obtain ⟨r1, r2⟩ := sum_R hn hl 6 (Nat.le_refl _) q w th (mBg fr 0 (nI 0)) ah hq (by show (mBg fr 0 (nI 0) 0).2.2.2.1 = _; rw [fo]) (by show (mBg fr 0 (nI 0) 0).2.2.1 = _; rw [fo])
  have e0 : mSum l n (q, o, w, th, fr, ah) = RR l n (nI 0) (q, 6 - 6, w, th, mBg fr 0 (nI 0), ah) := rfl
  rw [e0]
  constructor
  · intro hb
    by_cases ok : (eSum l n 6 q).1 = true
    · obtain ⟨s', w', th', fr', ah', e1, ap, -, -, -, c1, c2, c3, c4⟩ := r2 ok
      rw [e1]
      exact RR_fail hn hP (s12_ne ap.or) (fun z => hb ⟨ok, z.2.2⟩) (on_no ap c1 c2 c3 c4 (fun z => z.2 rfl)) rfl
    · exact r1 (by simpa using ok)
  · rintro ⟨ok, hc⟩
    obtain ⟨s', w', th', fr', ah', e1, ap, -, -, hv, -⟩ := r2 ok
    rw [e1]
    show (RR l n s' ((eSum l n 6 q).2.1, 0, w', th', fr', ah')).1 ≠ -1 ∧ (RR l n s' ((eSum l n 6 q).2.1, 0, w', th', fr', ah')).2.1 = _ ∧ Vl _ w (RR l n s' ((eSum l n 6 q).2.1, 0, w', th', fr', ah')).2.2.2.1 ((RR l n s' ((eSum l n 6 q).2.1, 0, w', th', fr', ah')).2.2.2.2.2.1 0).1
    rw [RR_fin ap.or hc]
    exact ⟨s12_ne ap.or, rfl, hv⟩
/-- the reference's way -/
theorem mRd_R {l : Ser} {n : Nat} {th : Ser} {fr : Nat → Fr} {ah : Int32} (hn : n ≤ 120) (hl : ∀ i, i < n → l i ≠ -1) :
    (mRd l n th fr ah).1 = (eRd l n).1 ∧ ((eRd l n).1 = false → (mRd l n th fr ah).2.1 = (eRd l n).2.1) ∧
    ((eRd l n).1 = true → match (eRd l n).2.2.1, (eRd l n).2.2.2 with
      | some g, some f => (mRd l n th fr ah).2.2.1 = (decide (g 0 = 0) || !(decide (f 0 = 0) && decide (f 1 ≠ 0))) ∧ eq9 (mRd l n th fr ah).2.2.2.1 (iS g) ∧ eq9 (mRd l n th fr ah).2.2.2.2 (iS f)
      | _, _ => (mRd l n th fr ah).2.2.1 = true) := by
  obtain ⟨a1, a2⟩ := mSum_R (l := l) (n := n) (q := 0) (o := 0) (w := false) (th := th) (fr := fr) (ah := ah) hn hl (by omega)
  have hP1 := (sum_pos (l := l) (n := n) 6 0 (by omega)).2.1
  have hsk := sk_sk (l := l) hP1
  unfold mRd eRd
  generalize hr : mSum l n (0, 0, false, th, fr, ah) = r at a1 a2 ⊢
  obtain ⟨s, q, o, w, th1, fr1, ah1⟩ := r
  dsimp only at a1 a2 ⊢
  by_cases b : (eSum l n 6 0).1 = true ∧ (fs l n (eSum l n 6 0).2.1 = nI 59 ∨ fs l n (eSum l n 6 0).2.1 = -1)
  · obtain ⟨b1, b2, b3⟩ := a2 b
    rw [if_neg b1, b2, hsk, fs_sk hP1]
    by_cases c : fs l n (eSum l n 6 0).2.1 = nI 59
    · rw [if_pos c, if_pos (show (eSum l n 6 0).1 = true ∧ fs l n (eSum l n 6 0).2.1 = nI 59 from ⟨b.1, c⟩)]
      have c1 : fs l n (eSum l n 6 0).2.1 ≠ -1 := by rw [c]; decide
      have hk := sk_of c1
      have hen : en l n (eSum l n 6 0).2.1 = sk l n (eSum l n 6 0).2.1 + 1 := by
        have := (en_c (sk_sk hP1) (show fs l n (sk l n (eSum l n 6 0).2.1) = nI 59 by rw [fs_sk hP1]; exact c) (by decide) (by decide)).2
        rw [en_sk hP1 hk] at this; exact this
      rw [← hen]
      have hq2 := en_le (l := l) hP1
      obtain ⟨d1, d2⟩ := mSum_R (l := l) (n := n) (q := en l n (eSum l n 6 0).2.1) (o := o) (w := w) (th := th1) (fr := fr1) (ah := ah1) hn hl hq2
      have hP2 := (sum_pos (l := l) (n := n) 6 _ hq2).2.1
      have hsk2 := sk_sk (l := l) hP2
      generalize hr2 : mSum l n (en l n (eSum l n 6 0).2.1, o, w, th1, fr1, ah1) = r2 at d1 d2 ⊢
      obtain ⟨s2, q2, o2, w2, th2, fr2, ah2⟩ := r2
      dsimp only at d1 d2 ⊢
      by_cases e : (eSum l n 6 (en l n (eSum l n 6 0).2.1)).1 = true ∧ (fs l n (eSum l n 6 (en l n (eSum l n 6 0).2.1)).2.1 = nI 59 ∨ fs l n (eSum l n 6 (en l n (eSum l n 6 0).2.1)).2.1 = -1)
      · obtain ⟨e1, e2, e3⟩ := d2 e
        rw [if_neg e1, e2, hsk2, fs_sk hP2]
        by_cases f : fs l n (eSum l n 6 (en l n (eSum l n 6 0).2.1)).2.1 = -1
        · rw [if_pos f, if_pos (show (eSum l n 6 (en l n (eSum l n 6 0).2.1)).1 = true ∧ sk l n (eSum l n 6 (en l n (eSum l n 6 0).2.1)).2.1 = n from ⟨e.1, (sk_n hl hP2).mp f⟩)]
          refine ⟨rfl, fun z => (by cases z), fun _ => ?_⟩
          dsimp only
          cases hX : (eSum l n 6 0).2.2 with
          | none =>
            rw [hX] at b3
            have hw : w = true := b3
            rw [hw] at e3
            show (w2 || _ || _) = true
            rw [e3.up]; simp
          | some g =>
            rw [hX] at b3
            cases hY : (eSum l n 6 (en l n (eSum l n 6 0).2.1)).2.2 with
            | none =>
              rw [hY] at e3
              show (w2 || _ || _) = true
              rw [show w2 = true from e3]; simp
            | some f =>
              rw [hY] at e3
              obtain ⟨x1, x2⟩ := b3
              obtain ⟨y1, y2⟩ := e3
              refine ⟨?_, x2, y2⟩
              have hd : isDe (fr2 0).1 = (decide (f 0 = 0) && decide (f 1 ≠ 0)) := by
                cases h : isDe (fr2 0).1 with
                | true =>
                  have := (isDe_i y2).mp h
                  rw [decide_eq_true this.1, decide_eq_true this.2]; rfl
                | false =>
                  cases h2 : (decide (f 0 = 0) && decide (f 1 ≠ 0)) with
                  | false => rfl
                  | true =>
                    rw [Bool.and_eq_true, decide_eq_true_eq, decide_eq_true_eq] at h2
                    rw [(isDe_i y2).mpr h2] at h; cases h
              have hz : decide ((fr1 0).1 0 = 0) = decide (g 0 = 0) := by
                by_cases h : (fr1 0).1 0 = 0
                · rw [decide_eq_true h, decide_eq_true ((z_i x2).mp h)]
                · rw [decide_eq_false h, decide_eq_false (fun z => h ((z_i x2).mpr z))]
              rw [y1, x1, hd, hz]; rfl
        · rw [if_neg f, if_neg (show ¬ ((eSum l n 6 (en l n (eSum l n 6 0).2.1)).1 = true ∧ sk l n (eSum l n 6 (en l n (eSum l n 6 0).2.1)).2.1 = n) from fun z => f ((sk_n hl hP2).mpr z.2))]
          exact ⟨rfl, fun _ => rfl, fun z => (by cases z)⟩
      · obtain ⟨e1, e2⟩ := d1 e
        rw [if_pos e1, if_neg (show ¬ ((eSum l n 6 (en l n (eSum l n 6 0).2.1)).1 = true ∧ sk l n (eSum l n 6 (en l n (eSum l n 6 0).2.1)).2.1 = n) from fun z => e ⟨z.1, Or.inr ((sk_n hl hP2).mpr z.2)⟩)]
        exact ⟨rfl, fun _ => e2, fun z => (by cases z)⟩
    · rw [if_neg c, if_neg (show ¬ ((eSum l n 6 0).1 = true ∧ fs l n (eSum l n 6 0).2.1 = nI 59) from fun z => c z.2)]
      exact ⟨rfl, fun _ => rfl, fun z => (by cases z)⟩
  · obtain ⟨b1, b2⟩ := a1 b
    rw [if_pos b1, if_neg (show ¬ ((eSum l n 6 0).1 = true ∧ fs l n (eSum l n 6 0).2.1 = nI 59) from fun z => b ⟨z.1, Or.inl z.2⟩)]
    exact ⟨rfl, fun _ => b2, fun z => (by cases z)⟩
