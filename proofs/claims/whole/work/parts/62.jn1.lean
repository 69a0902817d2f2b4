theorem isN_dec {x : Int32} {n : Nat} (hn : n < 2 ^ 31) : isN x n = false ∨ ∃ j, j < n ∧ x = nI j := by
  cases h : isN x n with
  | false => exact Or.inl rfl
  | true => exact Or.inr (isN_yes hn h)
theorem nI_m1 {k : Nat} (h : k < 2 ^ 31) : nI k ≠ -1 := fun e => by
  have := congrArg Int32.toInt e
  rw [nI_toInt h] at this
  have z : (-1 : Int32).toInt = -1 := by decide
  rw [z] at this
  omega
theorem j_write {g : Gl} {a : AbF} (hI : ∀ i, i < 174 → i ∈ g.2.2.2.2) (hg : Good a) {x : Int32} : Jn g a yX7_write cX7_write 2 1 yX8_write cX8_write 2 1 [.int x] := by
  have I7 : ∀ i, i < 142 → i ∈ g.2.2.2.2 := fun i h => hI i (by omega)
  have I8 : ∀ i, 142 ≤ i ∧ i < 174 → i ∈ g.2.2.2.2 := fun i h => hI i (by omega)
  rcases isN_dec (x := x) (n := 256) (by decide) with hx | ⟨b, hb, rfl⟩
  · exact Jn.no hg (fun M => k_write_3 hx) (fun M => m_write_3 hx)
  by_cases hn : a.1.1 = 120
  · exact ⟨-5, a, hg, fun M h => c7s h (k_write_5 I7 h hb hn) rfl, fun M h => c8s h (m_write_5 I8 h hb hn) rfl⟩
  · refine ⟨nI (a.1.1 + 1), ((a.1.1 + 1, upd a.1.2 a.1.1 (nI b)), a.2), ⟨hg.1, hg.2.1, fun i hi => ?_⟩, fun M h => ?_, fun M h => ?_⟩
    · have hi2 : i < a.1.1 + 1 := hi
      show upd a.1.2 a.1.1 (nI b) i ≠ -1
      unfold upd
      by_cases e : i = a.1.1
      · rw [if_pos e]; exact nI_m1 (by omega)
      · rw [if_neg e]; exact hg.2.2 i (by omega)
    · have h1 : a.1.1 ≤ 120 := h.2.1.1
      exact k_write I7 h hb (show a.1.1 < 120 by omega)
    · have h1 : a.1.1 ≤ 120 := h.1.1
      exact m_write I8 h hb (show a.1.1 < 120 by omega)
theorem j_erase {g : Gl} {a : AbF} (hI : ∀ i, i < 174 → i ∈ g.2.2.2.2) (hg : Good a) : Jn g a yX7_erase cX7_erase 2 1 yX8_erase cX8_erase 2 0 [] := by
  have I7 : ∀ i, i < 142 → i ∈ g.2.2.2.2 := fun i h => hI i (by omega)
  have I8 : ∀ i, 142 ≤ i ∧ i < 174 → i ∈ g.2.2.2.2 := fun i h => hI i (by omega)
  exact ⟨nI a.1.1, ((0, a.1.2), a.2), ⟨hg.1, hg.2.1, fun i hi => absurd hi (Nat.not_lt_zero _)⟩, fun M h => k_erase I7 h, fun M h => m_erase I8 h⟩
theorem j_fault {g : Gl} {a : AbF} (hI : ∀ i, i < 174 → i ∈ g.2.2.2.2) (hg : Good a) : Jn g a yX7_fault cX7_fault 1 31 yX8_fault cX8_fault 1 9 [] := by
  have I7 : ∀ i, i < 142 → i ∈ g.2.2.2.2 := fun i h => hI i (by omega)
  have I8 : ∀ i, 142 ≤ i ∧ i < 174 → i ∈ g.2.2.2.2 := fun i h => hI i (by omega)
  refine ⟨if (eRd a.1.2 a.1.1).1 = true then -1 else nI (eRd a.1.2 a.1.1).2.1, a, hg, fun M h => c7c (k_fault I7 h) ?_ (fun _ z => z), fun M h => c8c (m_fault I8 h) ?_ (fun _ z => z)⟩
  · obtain ⟨c1, c2⟩ := cRd (l := a.1.2) (n := a.1.1) (eq9.rf (f := exC)) (eq9.rf (f := quC)) (eq9.rf (f := loC)) h.2.1.1
    show (pFault a.1.2 a.1.1).1 = _
    by_cases e : (eRd a.1.2 a.1.1).1 = true
    · rw [if_pos e]; exact (c2 e).1
    · rw [if_neg e]; exact (c1 (by simpa using e)).1
  · obtain ⟨m1, m2, -⟩ := mRd_R (l := a.1.2) (n := a.1.1) (th := M 156) (fr := jF M) (ah := M 142 27) h.1.1 hg.2.2
    show (if (mRd a.1.2 a.1.1 (M 156) (jF M) (M 142 27)).1 = true then -1 else nI (mRd a.1.2 a.1.1 (M 156) (jF M) (M 142 27)).2.1) = _
    rw [m1]
    by_cases e : (eRd a.1.2 a.1.1).1 = true
    · rw [if_pos e, if_pos e]
    · rw [if_neg e, if_neg e, m2 (by simpa using e)]
theorem j_read {g : Gl} {a : AbF} (hI : ∀ i, i < 174 → i ∈ g.2.2.2.2) (hg : Good a) {x : Int32} : Jn g a yX7_read cX7_read 2 31 yX8_read cX8_read 2 9 [.int x] := by
  have I7 : ∀ i, i < 142 → i ∈ g.2.2.2.2 := fun i h => hI i (by omega)
  have I8 : ∀ i, 142 ≤ i ∧ i < 174 → i ∈ g.2.2.2.2 := fun i h => hI i (by omega)
  rcases isN_dec (x := x) (n := 4) (by decide) with hx | ⟨r, hr, rfl⟩
  · exact Jn.no hg (fun M => k_read_2 hx) (fun M => m_read_2 hx)
  have cm := fun (M : Mem) (hn : a.1.1 ≤ 120) => mRd_R (l := a.1.2) (n := a.1.1) (th := M 156) (fr := jF M) (ah := M 142 27) hn hg.2.2
  by_cases e : (eRd a.1.2 a.1.1).1 = true
  · have six : (∀ M, Rc (iA a) M → gFit (gRun (M 2) (M 3) (M 4) (pFault a.1.2 a.1.1).2 []) = false) → (∀ M, Rm (iA a) M → (mRd a.1.2 a.1.1 (M 156) (jF M) (M 142 27)).2.2.1 = true) → Jn g a yX7_read cX7_read 2 31 yX8_read cX8_read 2 9 [.int (nI r)] := fun h7 h8 => ⟨-6, a, hg, fun M h => by
        obtain ⟨-, c2⟩ := cRd (l := a.1.2) (n := a.1.1) h.1.1 h.1.2.1 h.1.2.2.1 h.2.1.1
        exact k_read_6 I7 h hr (c2 e).1 (c2 e).2.1 (h7 M h), fun M h => m_read_6 I8 h hr ((cm M h.1.1).1.trans e) (h8 M h)⟩
    cases hX : (eRd a.1.2 a.1.1).2.2.1 with
    | none =>
      refine six (fun M h => ?_) (fun M h => ?_)
      · obtain ⟨-, c2⟩ := cRd (l := a.1.2) (n := a.1.1) h.1.1 h.1.2.1 h.1.2.2.1 h.2.1.1
        have c3 := (c2 e).2.2
        rw [hX] at c3
        have c4 : gRun (M 2) (M 3) (M 4) (pFault a.1.2 a.1.1).2 [] = none := c3
        rw [c4]; rfl
      · have m3 := (cm M h.1.1).2.2 e
        rw [hX] at m3
        exact m3
    | some G =>
      cases hY : (eRd a.1.2 a.1.1).2.2.2 with
      | none =>
        refine six (fun M h => ?_) (fun M h => ?_)
        · obtain ⟨-, c2⟩ := cRd (l := a.1.2) (n := a.1.1) h.1.1 h.1.2.1 h.1.2.2.1 h.2.1.1
          have c3 := (c2 e).2.2
          rw [hX, hY] at c3
          have c4 : gRun (M 2) (M 3) (M 4) (pFault a.1.2 a.1.1).2 [] = none := c3
          rw [c4]; rfl
        · have m3 := (cm M h.1.1).2.2 e
          rw [hX, hY] at m3
          exact m3
      | some F =>
        have c5 : ∀ M, Rc (iA a) M → ∃ G' F', eq9 G' (iS G) ∧ eq9 F' (iS F) ∧ gRun (M 2) (M 3) (M 4) (pFault a.1.2 a.1.1).2 [] = some [G', F'] := fun M h => by
          obtain ⟨-, c2⟩ := cRd (l := a.1.2) (n := a.1.1) h.1.1 h.1.2.1 h.1.2.2.1 h.2.1.1
          have c3 := (c2 e).2.2
          rw [hX, hY] at c3
          exact c3
        have m5 : ∀ M, Rm (iA a) M → (mRd a.1.2 a.1.1 (M 156) (jF M) (M 142 27)).2.2.1 = (decide (G 0 = 0) || !(decide (F 0 = 0) && decide (F 1 ≠ 0))) ∧ eq9 (mRd a.1.2 a.1.1 (M 156) (jF M) (M 142 27)).2.2.2.1 (iS G) ∧ eq9 (mRd a.1.2 a.1.1 (M 156) (jF M) (M 142 27)).2.2.2.2 (iS F) := fun M h => by
          have m3 := (cm M h.1.1).2.2 e
          rw [hX, hY] at m3
          exact m3
        have fit : ∀ G' F', eq9 G' (iS G) → eq9 F' (iS F) → gFit (some [G', F']) = !(decide (G 0 = 0) || !(decide (F 0 = 0) && decide (F 1 ≠ 0))) := fun G' F' g1 f1 => by
          show (true && (isUn G' && isDe F')) = _
          have u1 : isUn G' = !decide (G 0 = 0) := by
            unfold isUn
            by_cases z : G 0 = 0
            · rw [decide_eq_true z, decide_eq_false (fun q => q ((z_i g1).mpr z))]; rfl
            · rw [decide_eq_false z, decide_eq_true (show ¬ G' 0 = 0 from fun q => z ((z_i g1).mp q))]; rfl
          have u2 : isDe F' = (decide (F 0 = 0) && decide (F 1 ≠ 0)) := by
            cases h : isDe F' with
            | true =>
              have := (isDe_i f1).mp h
              rw [decide_eq_true this.1, decide_eq_true this.2]; rfl
            | false =>
              cases h2 : (decide (F 0 = 0) && decide (F 1 ≠ 0)) with
              | false => rfl
              | true =>
                rw [Bool.and_eq_true, decide_eq_true_eq, decide_eq_true_eq] at h2
                rw [(isDe_i f1).mpr h2] at h; cases h
          rw [u1, u2, Bool.true_and, Bool.not_or, Bool.not_not]
        cases hw : (decide (G 0 = 0) || !(decide (F 0 = 0) && decide (F 1 ≠ 0))) with
        | true =>
          refine six (fun M h => ?_) (fun M h => ?_)
          · obtain ⟨G', F', g1, f1, g2⟩ := c5 M h
            rw [g2, fit G' F' g1 f1, hw]; rfl
          · rw [(m5 M h).1, hw]
        | false =>
          have hz := hw
          rw [Bool.or_eq_false_iff, Bool.not_eq_false', Bool.and_eq_true, decide_eq_false_iff_not, decide_eq_true_eq, decide_eq_true_eq] at hz
          refine ⟨iT (F 1), rowA ((0, a.1.2), a.2) r G F, Good.row ⟨hg.1, hg.2.1, fun i hi => absurd hi (Nat.not_lt_zero _)⟩ hz.1 hz.2.1 hz.2.2, fun M h => ?_, fun M h => ?_⟩
          · obtain ⟨-, c2⟩ := cRd (l := a.1.2) (n := a.1.1) h.1.1 h.1.2.1 h.1.2.2.1 h.2.1.1
            obtain ⟨G', F', g1, f1, g2⟩ := c5 M h
            exact c7c (k_read I7 h hr (c2 e).1 (c2 e).2.1 (by show gFit (gRun (M 2) (M 3) (M 4) (pFault a.1.2 a.1.1).2 []) = true; rw [g2, fit G' F' g1 f1, hw]; rfl) g2) (f1 1 (by decide)) (fun M' h' => Rc.rowA (a := ((0, a.1.2), a.2)) h' g1 f1)
          · obtain ⟨w1, g1, f1⟩ := m5 M h
            exact c8c (m_read I8 h hr ((cm M h.1.1).1.trans e) (w1.trans hw)) (f1 1 (by decide)) (fun M' h' => Rm.rowA (a := ((0, a.1.2), a.2)) h' g1 f1)
  · have e0 : (eRd a.1.2 a.1.1).1 = false := by simpa using e
    refine ⟨-4, a, hg, fun M h => ?_, fun M h => m_read_4 I8 h hr ((cm M h.1.1).1.trans e0)⟩
    obtain ⟨c1, -⟩ := cRd (l := a.1.2) (n := a.1.1) (eq9.rf (f := exC)) (eq9.rf (f := quC)) (eq9.rf (f := loC)) h.2.1.1
    obtain ⟨c2, c3⟩ := c1 e0
    exact k_read_4 I7 h hr (by show (pFault a.1.2 a.1.1).1 ≠ -1; rw [c2]; exact nI_m1 (by omega))

