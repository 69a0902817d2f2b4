theorem en_gt {l : Ser} {n p : Nat} (hs : sk l n p = p) (h : p < n) : p < en l n p := by
  unfold en; rw [hs, if_pos h]
  split
  · have := dg_ge (l := l) (n := n) (p := p + 1) (by omega); omega
  · omega
theorem fs_lt {l : Ser} {n p : Nat} (hs : sk l n p = p) (h : fs l n p ≠ -1) : p < n := by
  apply Classical.byContradiction; intro h2; exact h (fs_end hs h2)
theorem mBr_adv {l : Ser} {n p o : Nat} {c : Int32} {w : Bool} {th : Ser} {fr : Nat → Fr} {ah : Int32} : (mBr l n c (p, o, w, th, fr, ah)).1 = -1 ∨ ((mBr l n c (p, o, w, th, fr, ah)).2.1 = en l n p ∧ c ≠ -1) := by
  have u : mBr l n c (p, o, w, th, fr, ah) = if c = nI 40 ∧ o ≠ 6 then (nI 0, (en l n p, o + 1, w, th, mBg fr (o + 1) ah, ah)) else (-1, (p, o, w, th, fr, ah)) := rfl
  rw [u]
  split
  · rename_i h; exact Or.inr ⟨rfl, by rw [h.1]; decide⟩
  · exact Or.inl rfl
theorem isDg_ne {c : Int32} (h : isDg c = true) : c ≠ -1 := fun e => by rw [e, isDg_m1] at h; cases h
theorem mSt_adv {l : Ser} {n p o : Nat} {c s : Int32} {w : Bool} {th : Ser} {fr : Nat → Fr} {ah : Int32} : (mSt l n c s (p, o, w, th, fr, ah)).1 = -1 ∨ ((mSt l n c s (p, o, w, th, fr, ah)).2.1 = en l n p ∧ c ≠ -1) := by
  unfold mSt
  split
  · show (if isDg c = true then (if isNum l n p = true then (nI 1, (en l n p, o, w, mono 0 (amt l n p), fr, ah)) else (-1, (p, o, w, th, fr, ah))) else if c = nI 116 then (nI 1, (en l n p, o, w, mono 1 (nI 1), fr, ah)) else if isNm c = true then (nI 3, (en l n p, o, w, th, fr, c)) else mBr l n c (p, o, w, th, fr, nI 0)).1 = -1 ∨ ((if isDg c = true then (if isNum l n p = true then (nI 1, (en l n p, o, w, mono 0 (amt l n p), fr, ah)) else (-1, (p, o, w, th, fr, ah))) else if c = nI 116 then (nI 1, (en l n p, o, w, mono 1 (nI 1), fr, ah)) else if isNm c = true then (nI 3, (en l n p, o, w, th, fr, c)) else mBr l n c (p, o, w, th, fr, nI 0)).2.1 = en l n p ∧ c ≠ -1)
    split
    · rename_i hd
      split
      · exact Or.inr ⟨rfl, isDg_ne hd⟩
      · exact Or.inl rfl
    · split
      · rename_i h; exact Or.inr ⟨rfl, by rw [h]; decide⟩
      · split
        · rename_i h; exact Or.inr ⟨rfl, fun e => by rw [e] at h; revert h; decide⟩
        · exact mBr_adv
  · split
    · exact mBr_adv
    · split
      · show (if isDg c = true ∧ en l n p - sk l n p = 1 then (nI 2, (en l n p, o, w, fpow th (amt l n p).toNatClampNeg, fr, ah)) else (-1, (p, o, w, th, fr, ah))).1 = -1 ∨ ((if isDg c = true ∧ en l n p - sk l n p = 1 then (nI 2, (en l n p, o, w, fpow th (amt l n p).toNatClampNeg, fr, ah)) else (-1, (p, o, w, th, fr, ah))).2.1 = en l n p ∧ c ≠ -1)
        split
        · rename_i h; exact Or.inr ⟨rfl, isDg_ne h.1⟩
        · exact Or.inl rfl
      · unfold mOn
        dsimp only
        split
        · rename_i h
          split
          · exact Or.inr ⟨rfl, by rw [h]; decide⟩
          · exact Or.inl rfl
        · split
          · rename_i h; exact Or.inr ⟨rfl, by rcases h with h | h <;> rw [h] <;> decide⟩
          · split
            · rename_i h; exact Or.inr ⟨rfl, by rcases h with h | h <;> rw [h] <;> decide⟩
            · split
              · rename_i h; exact Or.inr ⟨rfl, by rw [h.1]; decide⟩
              · exact Or.inl rfl
abbrev v_X8_readsSum (g : Gl) (κ : Ka) (Q : State → Prop) (M : Mem) (pc : Nat) (L : List (Option Value)) (st : List Value) : Prop := V g cX8_readsSum 4 yX8_readsSum.cls (some .int) (rmd 7) Q κ M pc L st
theorem c_X8_readsSum {g : Gl} {M : Mem} {l : Ser} {n p : Nat} {w : Bool} {th : Ser} {fr : Nat → Fr} {ah : Int32} (hI : ∀ i, 142 ≤ i ∧ i < 174 → i ∈ g.2.2.2.2) (h : MI l n p 0 w ah (mset M 142 16 (nI 0))) (hF : MF th fr M) : Ct g yX8_readsSum cX8_readsSum 4 (some .int) 7 [.ref (g.2.2.2.1 142)] M (fun v M' => v = some (.int (mSum l n (p, 0, w, th, fr, ah)).1) ∧ MS l n (mSum l n (p, 0, w, th, fr, ah)).2 M' ∧ KM M M') := by
  refine Ct.ofV (by decide) (Nat.le_of_ble_eq_true rfl) (by simp [Value.category]) (fun κ => ?_)
  have lp : ∀ f s (ρ : Rho) M1 x2 x3, (s = -1 ∧ 1 ≤ f) ∨ n + 2 ≤ f + ρ.1 → MS l n ρ M1 → KM M M1 → mrun l n f s ρ = mSum l n (p, 0, w, th, fr, ah) → v_X8_readsSum g κ (Qm g κ (fun v M' => v = some (.int (mSum l n (p, 0, w, th, fr, ah)).1) ∧ MS l n (mSum l n (p, 0, w, th, fr, ah)).2 M' ∧ KM M M')) M1 12 [some (.ref (g.2.2.2.1 142)), some (.int s), x2, x3] [] := by
    intro f
    induction f with
    | zero =>
      intro s ρ M1 x2 x3 hf hM
      have := hM.1.2.1
      omega
    | succ f ih =>
      intro s ρ M1 x2 x3 hf hM hK hr
      obtain ⟨q, o, w1, th1, fr1, ah1⟩ := ρ
      obtain ⟨h1, hF1⟩ := id hM
      dsimp only at h1 hF1 hf
      have hq := h1.2.1
      have u : mrun l n (f + 1) s (q, o, w1, th1, fr1, ah1) = if s = -1 then (-1, (q, o, w1, th1, fr1, ah1)) else if (s = nI 1 ∨ s = nI 2) ∧ o = 0 ∧ (fs l n q = nI 59 ∨ fs l n q = -1) then (s, (sk l n q, o, (mEQ o w1 th1 fr1).1, th1, (mEQ o w1 th1 fr1).2, ah1)) else mrun l n f (mSt l n (fs l n q) s (sk l n q, o, w1, th1, fr1, ah1)).1 (mSt l n (fs l n q) s (sk l n q, o, w1, th1, fr1, ah1)).2 := rfl
      rw [u] at hr
      refine V.iload_n dX8_readsSum_12 rfl ?_
      refine V.iconst (v := -1) dX8_readsSum_13 rfl ?_
      refine V.icmp_eq (tgt := 114) dX8_readsSum_14 (by decide) (fun h2 => ?_) (fun h2 => ?_)
      · rw [if_pos h2] at hr
        refine V.iconst (v := -1) dX8_readsSum_114 rfl ?_
        refine V.iret dX8_readsSum_115 ?_
        rw [← hr]
        exact ⟨rfl, hM, hK⟩
      · rw [if_neg h2] at hr
        refine V.aload_n dX8_readsSum_17 rfl ?_
        refine V.callV (ci := 7) (T := TX8) (N := 37) dX8_readsSum_18 (c_X8_sign hI h1) lkX8_215 im_X8_sign se_X8_sign cd_X8_sign ini_X8 rfl (by first | assumption | exact hI _ (by omega)) rfl hd_X8_sign ⟨Nat.le_of_ble_eq_true rfl, Nat.le_of_ble_eq_true rfl⟩ rfl (Nat.le_of_ble_eq_true rfl) (V.kkX (fun M2 q2 => ?_))
        obtain ⟨g2, k2, K2⟩ := q2
        have gF2 : MF th1 fr1 M2 := hF1.kp (fun j q1 _ _ => k2 j (by omega))
        have K3 := hK.tr K2
        have hM2 : MS l n (sk l n q, o, w1, th1, fr1, ah1) M2 := ⟨g2, gF2⟩
        have back : ∀ M3 x3, ¬ ((s = nI 1 ∨ s = nI 2) ∧ o = 0 ∧ (fs l n q = nI 59 ∨ fs l n q = -1)) → MS l n (mSt l n (fs l n q) s (sk l n q, o, w1, th1, fr1, ah1)).2 M3 → KM M M3 → v_X8_readsSum g κ (Qm g κ (fun v M' => v = some (.int (mSum l n (p, 0, w, th, fr, ah)).1) ∧ MS l n (mSum l n (p, 0, w, th, fr, ah)).2 M' ∧ KM M M')) M3 110 [some (.ref (g.2.2.2.1 142)), some (.int s), some (.int (fs l n q)), x3] [.int (mSt l n (fs l n q) s (sk l n q, o, w1, th1, fr1, ah1)).1] := by
          intro M3 x3 hn hM3 hK3
          rw [if_neg hn] at hr
          refine V.istore_n dX8_readsSum_110 (by decide) ?_
          refine V.goto (tgt := 12) dX8_readsSum_111 (by decide) ?_
          refine ih _ _ M3 _ _ ?_ hM3 hK3 hr
          rcases mSt_adv (l := l) (n := n) (p := sk l n q) (o := o) (c := fs l n q) (s := s) (w := w1) (th := th1) (fr := fr1) (ah := ah1) with z | ⟨z1, z2⟩
          · refine Or.inl ⟨z, ?_⟩
            rcases hf with y | y
            · exact absurd y.1 h2
            · omega
          · refine Or.inr ?_
            rw [z1]
            have hlt := fs_lt (sk_sk hq) (by rw [fs_sk hq]; exact z2)
            have := en_gt (sk_sk hq) hlt
            have h3 := sk_ge (l := l) hq
            rcases hf with y | y
            · exact absurd y.1 h2
            · omega
        have go : ∀ x3, ¬ ((s = nI 1 ∨ s = nI 2) ∧ o = 0 ∧ (fs l n q = nI 59 ∨ fs l n q = -1)) → v_X8_readsSum g κ (Qm g κ (fun v M' => v = some (.int (mSum l n (p, 0, w, th, fr, ah)).1) ∧ MS l n (mSum l n (p, 0, w, th, fr, ah)).2 M' ∧ KM M M')) M2 66 [some (.ref (g.2.2.2.1 142)), some (.int s), some (.int (fs l n q)), x3] [] := by
          intro x3 hn
          have hb := fun M3 => back M3 x3 hn
          unfold mSt at hb
          refine V.iload_n dX8_readsSum_66 rfl ?_
          refine V.if_ne (tgt := 78) dX8_readsSum_67 (by decide) (fun h3 => ?_) (fun h3 => ?_)
          · have h3n : ¬ s = nI 0 := h3
            rw [if_neg h3n] at hb
            refine V.iload_n dX8_readsSum_78 rfl ?_
            refine V.iconst (v := nI 3) dX8_readsSum_79 rfl ?_
            refine V.icmp_ne (tgt := 91) dX8_readsSum_80 (by decide) (fun h4 => ?_) (fun h4 => ?_)
            · have h4n : ¬ s = nI 3 := h4
              rw [if_neg h4n] at hb
              refine V.iload_n dX8_readsSum_91 rfl ?_
              refine V.iconst (v := nI 4) dX8_readsSum_92 rfl ?_
              refine V.icmp_ne (tgt := 104) dX8_readsSum_93 (by decide) (fun h5 => ?_) (fun h5 => ?_)
              · have h5n : ¬ s = nI 4 := h5
                rw [if_neg h5n] at hb
                have cT := c_X8_readsOn (s := s) hI hM2 (sk_sk hq)
                dsimp only at cT
                rw [fs_sk hq] at cT
                refine V.aload_n dX8_readsSum_104 rfl ?_
                refine V.iload_n dX8_readsSum_105 rfl ?_
                refine V.iload_n dX8_readsSum_106 rfl ?_
                refine V.callV (ci := 7) (T := TX8) (N := 37) dX8_readsSum_107 (cT) lkX8_224 im_X8_readsOn se_X8_readsOn cd_X8_readsOn ini_X8 rfl (by first | assumption | exact hI _ (by omega)) rfl hd_X8_readsOn ⟨Nat.le_of_ble_eq_true rfl, Nat.le_of_ble_eq_true rfl⟩ rfl (Nat.le_of_ble_eq_true rfl) (V.kkX (fun M3 q3 => ?_))
                exact hb M3 q3.1 (K3.tr q3.2)
              · have h5n : s = nI 4 := by simpa using h5
                rw [if_pos h5n] at hb
                have cT := c_X8_readsTimes hI hM2 (sk_sk hq)
                dsimp only at cT
                rw [fs_sk hq] at cT
                refine V.aload_n dX8_readsSum_96 rfl ?_
                refine V.iload_n dX8_readsSum_97 rfl ?_
                refine V.callV (ci := 7) (T := TX8) (N := 37) dX8_readsSum_98 (cT) lkX8_221 im_X8_readsTimes se_X8_readsTimes cd_X8_readsTimes ini_X8 rfl (by first | assumption | exact hI _ (by omega)) rfl hd_X8_readsTimes ⟨Nat.le_of_ble_eq_true rfl, Nat.le_of_ble_eq_true rfl⟩ rfl (Nat.le_of_ble_eq_true rfl) (V.kkX (fun M3 q3 => ?_))
                refine V.goto (tgt := 110) dX8_readsSum_101 (by decide) ?_
                exact hb M3 q3.1 (K3.tr q3.2)
            · have h4n : s = nI 3 := by simpa using h4
              rw [if_pos h4n] at hb
              have cT := c_X8_readsBracket hI hM2 (sk_sk hq)
              dsimp only at cT
              rw [fs_sk hq] at cT
              refine V.aload_n dX8_readsSum_83 rfl ?_
              refine V.iload_n dX8_readsSum_84 rfl ?_
              refine V.callV (ci := 7) (T := TX8) (N := 37) dX8_readsSum_85 (cT) lkX8_202 im_X8_readsBracket se_X8_readsBracket cd_X8_readsBracket ini_X8 rfl (by first | assumption | exact hI _ (by omega)) rfl hd_X8_readsBracket ⟨Nat.le_of_ble_eq_true rfl, Nat.le_of_ble_eq_true rfl⟩ rfl (Nat.le_of_ble_eq_true rfl) (V.kkX (fun M3 q3 => ?_))
              refine V.goto (tgt := 110) dX8_readsSum_88 (by decide) ?_
              exact hb M3 q3.1 (K3.tr q3.2)
          · have h3n : s = nI 0 := show s = 0 by simpa using h3
            rw [if_pos h3n] at hb
            have cT := c_X8_readsThing hI hM2 (sk_sk hq)
            dsimp only at cT
            rw [fs_sk hq] at cT
            refine V.aload_n dX8_readsSum_70 rfl ?_
            refine V.iload_n dX8_readsSum_71 rfl ?_
            refine V.callV (ci := 7) (T := TX8) (N := 37) dX8_readsSum_72 (cT) lkX8_218 im_X8_readsThing se_X8_readsThing cd_X8_readsThing ini_X8 rfl (by first | assumption | exact hI _ (by omega)) rfl hd_X8_readsThing ⟨Nat.le_of_ble_eq_true rfl, Nat.le_of_ble_eq_true rfl⟩ rfl (Nat.le_of_ble_eq_true rfl) (V.kkX (fun M3 q3 => ?_))
            refine V.goto (tgt := 110) dX8_readsSum_75 (by decide) ?_
            exact hb M3 q3.1 (K3.tr q3.2)
        have tail : (s = nI 1 ∨ s = nI 2) → v_X8_readsSum g κ (Qm g κ (fun v M' => v = some (.int (mSum l n (p, 0, w, th, fr, ah)).1) ∧ MS l n (mSum l n (p, 0, w, th, fr, ah)).2 M' ∧ KM M M')) M2 37 [some (.ref (g.2.2.2.1 142)), some (.int s), some (.int (fs l n q)), x3] [.int (nI 1)] := by
          intro hs
          have fin : o = 0 → (fs l n q = nI 59 ∨ fs l n q = -1) → ∀ x3, v_X8_readsSum g κ (Qm g κ (fun v M' => v = some (.int (mSum l n (p, 0, w, th, fr, ah)).1) ∧ MS l n (mSum l n (p, 0, w, th, fr, ah)).2 M' ∧ KM M M')) M2 60 [some (.ref (g.2.2.2.1 142)), some (.int s), some (.int (fs l n q)), x3] [] := by
            intro ho hc x3
            rw [if_pos ⟨hs, ho, hc⟩] at hr
            refine V.aload_n dX8_readsSum_60 rfl ?_
            refine V.callV (ci := 7) (T := TX8) (N := 37) dX8_readsSum_61 (c_X8_endsProduct hI g2 gF2) lkX8_164 im_X8_endsProduct se_X8_endsProduct cd_X8_endsProduct ini_X8 rfl (by first | assumption | exact hI _ (by omega)) rfl hd_X8_endsProduct ⟨Nat.le_of_ble_eq_true rfl, Nat.le_of_ble_eq_true rfl⟩ rfl (Nat.le_of_ble_eq_true rfl) (V.kkP (fun M3 q3 => ?_))
            refine V.iload_n dX8_readsSum_64 rfl ?_
            refine V.iret dX8_readsSum_65 ?_
            rw [← hr]
            exact ⟨rfl, ⟨q3.1, q3.2.1⟩, K3.tr q3.2.2⟩
          refine V.istore_n dX8_readsSum_37 (by decide) ?_
          refine V.iload_n dX8_readsSum_38 rfl ?_
          refine V.if_eqN (tgt := 66) dX8_readsSum_39 (by decide) (by omega) (fun h3 => ?_) (fun h3 => ?_)
          · omega
          · refine V.aload_n dX8_readsSum_42 rfl ?_
            refine V.getf (ci := 7) (k := 16) (C := RX8) (T := TX8) (N := 37) dX8_readsSum_43 lfX8_151 inX8 rfl (by first | assumption | exact hI _ (by omega)) rfl (by decide) rfl ?_
            rw [g2.2.2.2.2.2.2.1]
            have ho6 := g2.2.2.1
            refine V.if_neN (tgt := 66) dX8_readsSum_46 (by decide) (by omega) (fun h4 => ?_) (fun h4 => ?_)
            · exact go _ (fun z => h4 z.2.1)
            · refine V.iload_n dX8_readsSum_49 rfl ?_
              refine V.bipush (v := nI 59) dX8_readsSum_50 (by decide) ?_
              refine V.icmp_eq (tgt := 60) dX8_readsSum_52 (by decide) (fun h5 => ?_) (fun h5 => ?_)
              · exact fin h4 (Or.inl h5) _
              · refine V.iload_n dX8_readsSum_55 rfl ?_
                refine V.iconst (v := -1) dX8_readsSum_56 rfl ?_
                refine V.icmp_ne (tgt := 66) dX8_readsSum_57 (by decide) (fun h6 => ?_) (fun h6 => ?_)
                · exact go _ (fun z => z.2.2.elim h5 h6)
                · exact fin h4 (Or.inr (by simpa using h6)) _
        refine V.istore_n dX8_readsSum_21 (by decide) ?_
        refine V.iload_n dX8_readsSum_22 rfl ?_
        refine V.iconst (v := nI 1) dX8_readsSum_23 rfl ?_
        refine V.icmp_eq (tgt := 32) dX8_readsSum_24 (by decide) (fun h3 => ?_) (fun h3 => ?_)
        · refine V.iconst (v := nI 1) dX8_readsSum_32 rfl ?_
          refine V.goto (tgt := 37) dX8_readsSum_33 (by decide) ?_
          exact tail (Or.inl h3)
        · refine V.iload_n dX8_readsSum_27 rfl ?_
          refine V.iconst (v := nI 2) dX8_readsSum_28 rfl ?_
          refine V.icmp_ne (tgt := 36) dX8_readsSum_29 (by decide) (fun h4 => ?_) (fun h4 => ?_)
          · refine V.iconst (v := nI 0) dX8_readsSum_36 rfl ?_
            refine V.istore_n dX8_readsSum_37 (by decide) ?_
            refine V.iload_n dX8_readsSum_38 rfl ?_
            refine V.if_eqN (tgt := 66) dX8_readsSum_39 (by decide) (by omega) (fun h5 => ?_) (fun h5 => ?_)
            · exact go _ (fun z => z.1.elim h3 h4)
            · omega
          · refine V.iconst (v := nI 1) dX8_readsSum_32 rfl ?_
            refine V.goto (tgt := 37) dX8_readsSum_33 (by decide) ?_
            exact tail (Or.inr (by simpa using h4))
  refine V.iconst (v := nI 0) dX8_readsSum_0 rfl ?_
  refine V.istore_n dX8_readsSum_1 (by decide) ?_
  refine V.aload_n dX8_readsSum_2 rfl ?_
  refine V.iconst (v := nI 0) dX8_readsSum_3 rfl ?_
  refine V.putf (ci := 7) (k := 16) (C := RX8) (T := TX8) (N := 37) (ty := .int) tyX8 dX8_readsSum_4 lfX8_151 inX8 tyX8_ok nmX8 rfl (by first | assumption | exact hI _ (by omega)) rfl (by decide) rfl rfl rfl rfl (Nat.le_of_ble_eq_true rfl) rfl ?_
  refine V.aload_n dX8_readsSum_7 rfl ?_
  refine V.iconst (v := nI 0) dX8_readsSum_8 rfl ?_
  refine V.callV (ci := 7) (T := TX8) (N := 37) dX8_readsSum_9 (c_X8_begins (o := 0) hI (by omega) mset_at) lkX8_205 im_X8_begins se_X8_begins cd_X8_begins ini_X8 rfl (by first | assumption | exact hI _ (by omega)) rfl hd_X8_begins ⟨Nat.le_of_ble_eq_true rfl, Nat.le_of_ble_eq_true rfl⟩ rfl (Nat.le_of_ble_eq_true rfl) (V.kkN ?_)
  have k2 : keep msp (mset M 142 16 (nI 0)) (mset (mset (mset (mset M 142 16 (nI 0)) 162 0 (nI 0)) 160 0 (nI 0)) 161 0 (nI 0)) := (((keep.rf (P := msp)).ms (by unfold msp; omega)).ms (by unfold msp; omega)).ms (by unfold msp; omega)
  refine lp 122 (nI 0) (p, 0, w, th, mBg fr 0 (nI 0), ah) _ _ _ (Or.inr ?_) ⟨h.kp k2, ?_⟩ ((KM.ms (by omega)).tr (KM.of k2)) rfl
  · have := h.1
    show n + 2 ≤ 122 + p
    omega
  · refine MF.by3 (hF.m142 (k := 16) (x := nI 0)) (fun j q1 q2 => ?_) (fun k => ?_) (fun k => ?_) (fun k => ?_)
    · rw [mset_ne (by omega), mset_ne (by omega), mset_ne (by omega)]
    · rw [mset_ne (by decide), mset_self, mset_ne (by decide)]; rfl
    · rw [mset_self, mset_ne (by decide), mset_ne (by decide)]; rfl
    · rw [mset_ne (by decide), mset_ne (by decide), mset_self]; rfl

