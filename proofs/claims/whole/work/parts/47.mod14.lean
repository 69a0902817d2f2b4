/-- the two sums with a sign between: stands it, where it fails, fails a value, the series -/
def mRd (l : Ser) (n : Nat) (th : Ser) (fr : Nat → Fr) (ah : Int32) : Bool × Nat × Bool × Ser × Ser :=
  if (mSum l n (0, 0, false, th, fr, ah)).1 = -1 then (false, (mSum l n (0, 0, false, th, fr, ah)).2.1, false, zser, zser)
  else if fs l n (mSum l n (0, 0, false, th, fr, ah)).2.1 = nI 59 then
    (if (mSum l n (sk l n (mSum l n (0, 0, false, th, fr, ah)).2.1 + 1, (mSum l n (0, 0, false, th, fr, ah)).2.2)).1 = -1 then (false, (mSum l n (sk l n (mSum l n (0, 0, false, th, fr, ah)).2.1 + 1, (mSum l n (0, 0, false, th, fr, ah)).2.2)).2.1, false, zser, zser)
     else if fs l n (mSum l n (sk l n (mSum l n (0, 0, false, th, fr, ah)).2.1 + 1, (mSum l n (0, 0, false, th, fr, ah)).2.2)).2.1 = -1 then
      (true, 0, (mSum l n (sk l n (mSum l n (0, 0, false, th, fr, ah)).2.1 + 1, (mSum l n (0, 0, false, th, fr, ah)).2.2)).2.2.2.1 || decide (((mSum l n (0, 0, false, th, fr, ah)).2.2.2.2.2.1 0).1 0 = 0) || !isDe ((mSum l n (sk l n (mSum l n (0, 0, false, th, fr, ah)).2.1 + 1, (mSum l n (0, 0, false, th, fr, ah)).2.2)).2.2.2.2.2.1 0).1, ((mSum l n (0, 0, false, th, fr, ah)).2.2.2.2.2.1 0).1, ((mSum l n (sk l n (mSum l n (0, 0, false, th, fr, ah)).2.1 + 1, (mSum l n (0, 0, false, th, fr, ah)).2.2)).2.2.2.2.2.1 0).1)
     else (false, sk l n (mSum l n (sk l n (mSum l n (0, 0, false, th, fr, ah)).2.1 + 1, (mSum l n (0, 0, false, th, fr, ah)).2.2)).2.1, false, zser, zser))
  else (false, sk l n (mSum l n (0, 0, false, th, fr, ah)).2.1, false, zser, zser)
def jF (M : Mem) : Nat → Fr := fun k => (sl (M 157) (9 * k), sl (M 158) (9 * k), M 160 k, M 161 k, M 162 k)
theorem jF_ok (M : Mem) : MF (M 156) (jF M) M := ⟨eq9.rf, fun _ _ => ⟨eq9.rf, eq9.rf, rfl, rfl, rfl⟩⟩
def rdPost (R : Bool × Nat × Bool × Ser × Ser) (M M' : Mem) : Prop := KR M M' ∧ (R.1 = false → M' 142 15 = nI R.2.1) ∧ (R.1 = true → M' 142 17 = nI R.2.2.1.toNat ∧ eq9 (M' 163) R.2.2.2.1 ∧ eq9 (M' 164) R.2.2.2.2)
theorem mSum_o (l : Ser) (n p o : Nat) (w : Bool) (th : Ser) (fr : Nat → Fr) (ah : Int32) : mSum l n (p, o, w, th, fr, ah) = mSum l n (p, 0, w, th, fr, ah) := rfl
abbrev v_X8_reads (g : Gl) (κ : Ka) (Q : State → Prop) (M : Mem) (pc : Nat) (L : List (Option Value)) (st : List Value) : Prop := V g cX8_reads 1 yX8_reads.cls (some .boolean) (rmd 8) Q κ M pc L st
theorem c_X8_reads {g : Gl} {M : Mem} {l : Ser} {n : Nat} (hI : ∀ i, 142 ≤ i ∧ i < 174 → i ∈ g.2.2.2.2) (hn : n ≤ 120) (e1 : M 142 8 = nI n) (e2 : M 149 = l) : Ct g yX8_reads cX8_reads 1 (some .boolean) 8 [.ref (g.2.2.2.1 142)] M (fun v M' => v = some (.int (nI (mRd l n (M 156) (jF M) (M 142 27)).1.toNat)) ∧ rdPost (mRd l n (M 156) (jF M) (M 142 27)) M M') := by
  have K0 : KR M (mset (mset M 142 15 (nI 0)) 142 17 (nI 0)) := ((KM.ms (by omega)).tr (KM.ms (by omega))).wd
  have h0 : MI l n 0 0 false (M 142 27) (mset (mset (mset M 142 15 (nI 0)) 142 17 (nI 0)) 142 16 (nI 0)) := by
    refine ⟨hn, Nat.zero_le _, Nat.zero_le _, ?_, ?_, ?_, ?_, ?_, ?_⟩
    · rw [mset_ne (by decide), mset_ne (by decide), mset_ne (by decide)]; exact e2
    · rw [mset_nat (by decide), mset_nat (by decide), mset_nat (by decide)]; exact e1
    · rw [mset_nat (by decide), mset_nat (by decide), mset_at]
    · rw [mset_at]
    · rw [mset_nat (by decide), mset_at]; rfl
    · rw [mset_nat (by decide), mset_nat (by decide), mset_nat (by decide)]
  have hF0 := ((jF_ok M).m142 (k := 15) (x := nI 0)).m142 (k := 17) (x := nI 0)
  unfold mRd
  generalize hr : mSum l n (0, 0, false, M 156, jF M, M 142 27) = r
  obtain ⟨s, q, o, w, th, fr, ah⟩ := r
  dsimp only
  rw [mSum_o l n (sk l n q + 1) o]
  generalize hr2 : mSum l n (sk l n q + 1, 0, w, th, fr, ah) = r2
  obtain ⟨s2, q2, o2, w2, th2, fr2, ah2⟩ := r2
  dsimp only
  have bad : ∀ (b : Nat) (M1 : Mem), KR M M1 → M1 142 15 = nI b → rdPost (false, b, false, zser, zser) M M1 := fun b M1 k1 k2 => ⟨k1, fun _ => k2, fun z => by cases z⟩
  refine Ct.ofV (by decide) (Nat.le_of_ble_eq_true rfl) (by simp [Value.category]) (fun κ => ?_)
  refine V.aload_n dX8_reads_0 rfl ?_
  refine V.iconst (v := nI 0) dX8_reads_1 rfl ?_
  refine V.putf (ci := 7) (k := 15) (C := RX8) (T := TX8) (N := 37) (ty := .int) tyX8 dX8_reads_2 lfX8_140 inX8 tyX8_ok nmX8 rfl (by first | assumption | exact hI _ (by omega)) rfl (by decide) rfl rfl rfl rfl (Nat.le_of_ble_eq_true rfl) rfl ?_
  refine V.aload_n dX8_reads_5 rfl ?_
  refine V.iconst (v := nI 0) dX8_reads_6 rfl ?_
  refine V.putf (ci := 7) (k := 17) (C := RX8) (T := TX8) (N := 37) (ty := .boolean) tyX8 dX8_reads_7 lfX8_154 inX8 tyX8_ok nmX8 rfl (by first | assumption | exact hI _ (by omega)) rfl (by decide) rfl rfl rfl rfl (Nat.le_of_ble_eq_true rfl) rfl ?_
  refine V.aload_n dX8_reads_10 rfl ?_
  refine V.callV (ci := 7) (T := TX8) (N := 37) dX8_reads_11 (c_X8_readsSum hI h0 hF0) lkX8_227 im_X8_readsSum se_X8_readsSum cd_X8_readsSum ini_X8 rfl (by first | assumption | exact hI _ (by omega)) rfl hd_X8_readsSum ⟨Nat.le_of_ble_eq_true rfl, Nat.le_of_ble_eq_true rfl⟩ rfl (Nat.le_of_ble_eq_true rfl) (V.kkX (fun M1 q1 => ?_))
  rw [hr] at q1
  obtain ⟨⟨h1, hF1⟩, k1⟩ := q1
  have K1 := K0.tr k1.wd
  dsimp only at h1 hF1
  rw [hr]
  refine V.iconst (v := -1) dX8_reads_14 rfl ?_
  refine V.icmp_eq (tgt := 27) dX8_reads_15 (by decide) (fun b1 => ?_) (fun b1 => ?_)
  · rw [if_pos b1]
    refine V.iconst (v := nI 0) dX8_reads_27 rfl ?_
    refine V.zret dX8_reads_28 rfl ?_
    exact ⟨rfl, bad _ _ K1 h1.2.2.2.2.2.1⟩
  · have b1n : ¬ s = -1 := b1
    rw [if_neg b1n]
    refine V.aload_n dX8_reads_18 rfl ?_
    refine V.callV (ci := 7) (T := TX8) (N := 37) dX8_reads_19 (c_X8_sign hI h1) lkX8_215 im_X8_sign se_X8_sign cd_X8_sign ini_X8 rfl (by first | assumption | exact hI _ (by omega)) rfl hd_X8_sign ⟨Nat.le_of_ble_eq_true rfl, Nat.le_of_ble_eq_true rfl⟩ rfl (Nat.le_of_ble_eq_true rfl) (V.kkX (fun M2 q2' => ?_))
    obtain ⟨h2, kk2, k2⟩ := q2'
    have K2 := K1.tr k2.wd
    have hF2 : MF th fr M2 := hF1.kp (fun j q1 _ _ => kk2 j (by omega))
    refine V.bipush (v := nI 59) dX8_reads_22 (by decide) ?_
    refine V.icmp_eq (tgt := 29) dX8_reads_24 (by decide) (fun b2 => ?_) (fun b2 => ?_)
    · have b2n : fs l n q = nI 59 := b2
      rw [if_pos b2n]
      obtain ⟨hlt, -⟩ := en_c (sk_sk h1.2.1) (show fs l n (sk l n q) = nI 59 by rw [fs_sk h1.2.1]; exact b2n) (by decide) (by decide)
      refine V.aload_n dX8_reads_29 rfl ?_
      refine V.getf (ci := 7) (k := 19) (C := RX8) (T := TX8) (N := 37) dX8_reads_30 lfX8_53 inX8 rfl (by first | assumption | exact hI _ (by omega)) rfl (by decide) rfl ?_
      refine V.iconst (v := nI 0) dX8_reads_33 rfl ?_
      refine V.aload_n dX8_reads_34 rfl ?_
      refine V.getf (ci := 7) (k := 25) (C := RX8) (T := TX8) (N := 37) dX8_reads_35 lfX8_71 inX8 rfl (by first | assumption | exact hI _ (by omega)) rfl (by decide) rfl ?_
      refine V.iconst (v := nI 0) dX8_reads_38 rfl ?_
      refine V.bipush (v := nI 9) dX8_reads_39 (by decide) ?_
      refine V.callS dX8_reads_41 (c_X8_bring (a := 157) (i := 0) (b := 163) (j := 0) (n := 9) (na := 63) (nb := 9) (hI _ (by decide)) (hI _ (by decide)) rfl rfl (by decide) (by decide) (Or.inl (by decide))) lkX8_112 st_X8_bring cd_X8_bring ini_X8 hd_X8_bring ⟨Nat.le_of_ble_eq_true rfl, Nat.le_of_ble_eq_true rfl⟩ rfl (Nat.le_of_ble_eq_true rfl) (V.kkN ?_)
      have kb : keep msr M2 (brg M2 157 0 163 0 9) := (keep.rf (P := msr)).br (by unfold msr; omega)
      have h3 := h2.kr kb
      have hF3 : MF th fr (brg M2 157 0 163 0 9) := hF2.kp (fun j _ q2 _ => brg_ne (by omega))
      have eG : eq9 (brg M2 157 0 163 0 9 163) (fr 0).1 := brg_0.tr (hF2.2 0 (by decide)).1
      have K3 := K2.tr (KR.of kb)
      generalize brg M2 157 0 163 0 9 = M3 at h3 hF3 eG K3
      refine V.aload_n dX8_reads_44 rfl ?_
      refine V.dup dX8_reads_45 rfl ?_
      refine V.getf (ci := 7) (k := 15) (C := RX8) (T := TX8) (N := 37) dX8_reads_46 lfX8_140 inX8 rfl (by first | assumption | exact hI _ (by omega)) rfl (by decide) rfl ?_
      rw [h3.2.2.2.2.2.1]
      refine V.iconst (v := nI 1) dX8_reads_49 rfl ?_
      first | refine V.iaddN dX8_reads_50 ?_ | refine V.iadd dX8_reads_50 ?_
      refine V.putf (ci := 7) (k := 15) (C := RX8) (T := TX8) (N := 37) (ty := .int) tyX8 dX8_reads_51 lfX8_140 inX8 tyX8_ok nmX8 rfl (by first | assumption | exact hI _ (by omega)) rfl (by decide) rfl rfl rfl rfl (Nat.le_of_ble_eq_true rfl) rfl ?_
      refine V.aload_n dX8_reads_54 rfl ?_
      have h4 := (h3.p' (p' := sk l n q + 1) (by omega)).o' (o' := 0) (by omega)
      have hF4 := hF3.m142 (k := 15) (x := nI (sk l n q + 1))
      have K4 := K3.tr (KM.ms (M := M3) (k := 15) (x := nI (sk l n q + 1)) (by omega)).wd
      have eG4 : eq9 (mset M3 142 15 (nI (sk l n q + 1)) 163) (fr 0).1 := by rw [mset_ne (by decide)]; exact eG
      generalize mset M3 142 15 (nI (sk l n q + 1)) = M4 at h4 hF4 K4 eG4
      refine V.callV (ci := 7) (T := TX8) (N := 37) dX8_reads_55 (c_X8_readsSum hI h4 hF4) lkX8_227 im_X8_readsSum se_X8_readsSum cd_X8_readsSum ini_X8 rfl (by first | assumption | exact hI _ (by omega)) rfl hd_X8_readsSum ⟨Nat.le_of_ble_eq_true rfl, Nat.le_of_ble_eq_true rfl⟩ rfl (Nat.le_of_ble_eq_true rfl) (V.kkX (fun M5 q5 => ?_))
      rw [hr2] at q5
      obtain ⟨⟨h5, hF5⟩, k5⟩ := q5
      dsimp only at h5 hF5
      rw [hr2]
      have K5 := K4.tr k5.wd
      have eG5 : eq9 (M5 163) (fr 0).1 := by rw [k5.1 163 (by unfold msp; omega)]; exact eG4
      refine V.iconst (v := -1) dX8_reads_58 rfl ?_
      refine V.icmp_eq (tgt := 70) dX8_reads_59 (by decide) (fun b3 => ?_) (fun b3 => ?_)
      · rw [if_pos b3]
        refine V.iconst (v := nI 0) dX8_reads_70 rfl ?_
        refine V.zret dX8_reads_71 rfl ?_
        exact ⟨rfl, bad _ _ K5 h5.2.2.2.2.2.1⟩
      · have b3n : ¬ s2 = -1 := b3
        rw [if_neg b3n]
        refine V.aload_n dX8_reads_62 rfl ?_
        refine V.callV (ci := 7) (T := TX8) (N := 37) dX8_reads_63 (c_X8_sign hI h5) lkX8_215 im_X8_sign se_X8_sign cd_X8_sign ini_X8 rfl (by first | assumption | exact hI _ (by omega)) rfl hd_X8_sign ⟨Nat.le_of_ble_eq_true rfl, Nat.le_of_ble_eq_true rfl⟩ rfl (Nat.le_of_ble_eq_true rfl) (V.kkX (fun M6 q6 => ?_))
        obtain ⟨h6, kk6, k6⟩ := q6
        have K6 := K5.tr k6.wd
        have hF6 : MF th2 fr2 M6 := hF5.kp (fun j q1 _ _ => kk6 j (by omega))
        have eG6 : eq9 (M6 163) (fr 0).1 := by rw [kk6 163 (by omega)]; exact eG5
        refine V.iconst (v := -1) dX8_reads_66 rfl ?_
        refine V.icmp_eq (tgt := 72) dX8_reads_67 (by decide) (fun b4 => ?_) (fun b4 => ?_)
        · have b4n : fs l n q2 = -1 := b4
          rw [if_pos b4n]
          refine V.aload_n dX8_reads_72 rfl ?_
          refine V.getf (ci := 7) (k := 19) (C := RX8) (T := TX8) (N := 37) dX8_reads_73 lfX8_53 inX8 rfl (by first | assumption | exact hI _ (by omega)) rfl (by decide) rfl ?_
          refine V.iconst (v := nI 0) dX8_reads_76 rfl ?_
          refine V.aload_n dX8_reads_77 rfl ?_
          refine V.getf (ci := 7) (k := 26) (C := RX8) (T := TX8) (N := 37) dX8_reads_78 lfX8_74 inX8 rfl (by first | assumption | exact hI _ (by omega)) rfl (by decide) rfl ?_
          refine V.iconst (v := nI 0) dX8_reads_81 rfl ?_
          refine V.bipush (v := nI 9) dX8_reads_82 (by decide) ?_
          refine V.callS dX8_reads_84 (c_X8_bring (a := 157) (i := 0) (b := 164) (j := 0) (n := 9) (na := 63) (nb := 9) (hI _ (by decide)) (hI _ (by decide)) rfl rfl (by decide) (by decide) (Or.inl (by decide))) lkX8_112 st_X8_bring cd_X8_bring ini_X8 hd_X8_bring ⟨Nat.le_of_ble_eq_true rfl, Nat.le_of_ble_eq_true rfl⟩ rfl (Nat.le_of_ble_eq_true rfl) (V.kkN ?_)
          have kc : keep msr M6 (brg M6 157 0 164 0 9) := (keep.rf (P := msr)).br (by unfold msr; omega)
          have h7 := h6.kr kc
          have eF : eq9 (brg M6 157 0 164 0 9 164) (fr2 0).1 := brg_0.tr (hF6.2 0 (by decide)).1
          have eG7 : eq9 (brg M6 157 0 164 0 9 163) (fr 0).1 := by rw [brg_ne (by decide)]; exact eG6
          have K7 := K6.tr (KR.of kc)
          generalize brg M6 157 0 164 0 9 = M7 at h7 eF eG7 K7
          have fin : ∀ b : Bool, b = (w2 || decide ((fr 0).1 0 = 0) || !isDe (fr2 0).1) → v_X8_reads g κ (Qm g κ (fun v M' => v = some (.int (nI 1)) ∧ rdPost (true, 0, w2 || decide ((fr 0).1 0 = 0) || !isDe (fr2 0).1, (fr 0).1, (fr2 0).1) M M')) M7 120 [some (.ref (g.2.2.2.1 142))] [.int (nI b.toNat), .ref (g.2.2.2.1 142)] := by
            intro b hb
            rw [← hb]
            cases b
            · refine V.putf (ci := 7) (k := 17) (C := RX8) (T := TX8) (N := 37) (ty := .boolean) tyX8 dX8_reads_120 lfX8_154 inX8 tyX8_ok nmX8 rfl (by first | assumption | exact hI _ (by omega)) rfl (by decide) rfl rfl rfl rfl (Nat.le_of_ble_eq_true rfl) rfl ?_
              refine V.iconst (v := nI 1) dX8_reads_123 rfl ?_
              refine V.zret dX8_reads_124 rfl ?_
              exact ⟨rfl, K7.tr (KM.ms (by omega)).wd, (fun z => by cases z), fun _ => ⟨by rw [mset_at], by rw [mset_ne (by decide)]; exact eG7, by rw [mset_ne (by decide)]; exact eF⟩⟩
            · refine V.putf (ci := 7) (k := 17) (C := RX8) (T := TX8) (N := 37) (ty := .boolean) tyX8 dX8_reads_120 lfX8_154 inX8 tyX8_ok nmX8 rfl (by first | assumption | exact hI _ (by omega)) rfl (by decide) rfl rfl rfl rfl (Nat.le_of_ble_eq_true rfl) rfl ?_
              refine V.iconst (v := nI 1) dX8_reads_123 rfl ?_
              refine V.zret dX8_reads_124 rfl ?_
              exact ⟨rfl, K7.tr (KM.ms (by omega)).wd, (fun z => by cases z), fun _ => ⟨by rw [mset_at], by rw [mset_ne (by decide)]; exact eG7, by rw [mset_ne (by decide)]; exact eF⟩⟩
          refine V.aload_n dX8_reads_87 rfl ?_
          refine V.aload_n dX8_reads_88 rfl ?_
          refine V.getf (ci := 7) (k := 17) (C := RX8) (T := TX8) (N := 37) dX8_reads_89 lfX8_154 inX8 rfl (by first | assumption | exact hI _ (by omega)) rfl (by decide) rfl ?_
          rw [h7.2.2.2.2.2.2.2.1]
          refine V.if_neB (tgt := 115) dX8_reads_92 (by decide) (fun b5 => ?_) (fun b5 => ?_)
          · refine V.iconst (v := nI 1) dX8_reads_115 rfl ?_
            refine V.goto (tgt := 120) dX8_reads_116 (by decide) ?_
            exact fin true (by rw [b5]; simp)
          · refine V.aload_n dX8_reads_95 rfl ?_
            refine V.getf (ci := 7) (k := 25) (C := RX8) (T := TX8) (N := 37) dX8_reads_96 lfX8_71 inX8 rfl (by first | assumption | exact hI _ (by omega)) rfl (by decide) rfl ?_
            refine V.iconst (v := nI 0) dX8_reads_99 rfl ?_
            refine V.iald (n := 9) dX8_reads_100 (by first | assumption | exact hI _ (by omega)) (by first | assumption | decide) (by omega) ?_
            rw [eG7 0 (by decide)]
            refine V.if_eq (tgt := 115) dX8_reads_101 (by decide) (fun b6 => ?_) (fun b6 => ?_)
            · refine V.iconst (v := nI 1) dX8_reads_115 rfl ?_
              refine V.goto (tgt := 120) dX8_reads_116 (by decide) ?_
              exact fin true (by rw [decide_eq_true b6]; simp)
            · have b6n : ¬ (fr 0).1 0 = 0 := b6
              refine V.aload_n dX8_reads_104 rfl ?_
              refine V.getf (ci := 7) (k := 26) (C := RX8) (T := TX8) (N := 37) dX8_reads_105 lfX8_74 inX8 rfl (by first | assumption | exact hI _ (by omega)) rfl (by decide) rfl ?_
              refine V.iconst (v := nI 0) dX8_reads_108 rfl ?_
              refine V.callS dX8_reads_109 (c_X8_isDelta (a := 164) (i := 0) (na := 9) (hI _ (by decide)) rfl (by decide)) lkX8_167 st_X8_isDelta cd_X8_isDelta ini_X8 hd_X8_isDelta ⟨Nat.le_of_ble_eq_true rfl, Nat.le_of_ble_eq_true rfl⟩ rfl (Nat.le_of_ble_eq_true rfl) (V.kkF ?_)
              rw [show isDe (sl (M7 164) 0) = isDe (fr2 0).1 by unfold isDe; rw [sl_0, eF 0 (by decide), eF 1 (by decide)]]
              refine V.if_neB (tgt := 119) dX8_reads_112 (by decide) (fun b7 => ?_) (fun b7 => ?_)
              · refine V.iconst (v := nI 0) dX8_reads_119 rfl ?_
                exact fin false (by rw [b5, b7, decide_eq_false b6n]; rfl)
              · refine V.iconst (v := nI 1) dX8_reads_115 rfl ?_
                refine V.goto (tgt := 120) dX8_reads_116 (by decide) ?_
                exact fin true (by rw [b7]; simp)
        · rw [if_neg b4]
          refine V.iconst (v := nI 0) dX8_reads_70 rfl ?_
          refine V.zret dX8_reads_71 rfl ?_
          exact ⟨rfl, bad _ _ K6 h6.2.2.2.2.2.1⟩
    · rw [if_neg b2]
      refine V.iconst (v := nI 0) dX8_reads_27 rfl ?_
      refine V.zret dX8_reads_28 rfl ?_
      exact ⟨rfl, bad _ _ K2 h2.2.2.2.2.2.1⟩
theorem Rm.kr {A : Ab} {M M' : Mem} (h : Rm A M) (k : KR M M') : Rm A M' := h.kp (fun j h1 h2 => k.1 j (by unfold msr; omega)) (k.2 8 (by decide) (by decide) (by decide) (by decide)) (k.2 4 (by decide) (by decide) (by decide) (by decide))
theorem KR.mp {M M' : Mem} (k : KR M M') : keep mP M M' := k.1.wk (fun j hj => by unfold mP; unfold msr at hj; omega)
/-- how the reference reads what is written, with what its cells hold -/
def mRdA (A : Ab) (M : Mem) : Bool × Nat × Bool × Ser × Ser := mRd A.1.2 A.1.1 (M 156) (jF M) (M 142 27)
abbrev v_X8_fault (g : Gl) (κ : Ka) (Q : State → Prop) (M : Mem) (pc : Nat) (L : List (Option Value)) (st : List Value) : Prop := V g cX8_fault 1 yX8_fault.cls (some .int) (rmd 9) Q κ M pc L st
theorem m_fault {g : Gl} {M : Mem} {A : Ab} (hI : ∀ i, 142 ≤ i ∧ i < 174 → i ∈ g.2.2.2.2) (h : Rm A M) : Ct g yX8_fault cX8_fault 1 (some .int) 9 [.ref (g.2.2.2.1 142)] M (fun v M' => v = some (.int (if (mRdA A M).1 = true then -1 else nI (mRdA A M).2.1)) ∧ Rm A M' ∧ keep mP M M') := by
  refine Ct.ofV (by decide) (Nat.le_of_ble_eq_true rfl) (by simp [Value.category]) (fun κ => ?_)
  refine V.aload_n dX8_fault_0 rfl ?_
  refine V.callV (ci := 7) (T := TX8) (N := 37) dX8_fault_1 (c_X8_reads hI h.1.1 h.1.2.1 h.1.2.2) lkX8_230 im_X8_reads se_X8_reads cd_X8_reads ini_X8 rfl (by first | assumption | exact hI _ (by omega)) rfl hd_X8_reads ⟨Nat.le_of_ble_eq_true rfl, Nat.le_of_ble_eq_true rfl⟩ rfl (Nat.le_of_ble_eq_true rfl) (V.kkX (fun M1 q1 => ?_))
  change rdPost (mRdA A M) M M1 at q1
  change v_X8_fault g κ _ M1 4 _ [.int (nI (mRdA A M).1.toNat)]
  refine V.if_eqB (tgt := 11) dX8_fault_4 (by decide) (fun h1 => ?_) (fun h1 => ?_)
  · refine V.aload_n dX8_fault_11 rfl ?_
    refine V.getf (ci := 7) (k := 15) (C := RX8) (T := TX8) (N := 37) dX8_fault_12 lfX8_140 inX8 rfl (by first | assumption | exact hI _ (by omega)) rfl (by decide) rfl ?_
    rw [q1.2.1 h1]
    refine V.iret dX8_fault_15 ?_
    exact ⟨by rw [if_neg (by rw [h1]; decide)], h.kr q1.1, q1.1.mp⟩
  · refine V.iconst (v := -1) dX8_fault_7 rfl ?_
    refine V.goto (tgt := 15) dX8_fault_8 (by decide) ?_
    refine V.iret dX8_fault_15 ?_
    exact ⟨by rw [if_pos h1], h.kr q1.1, q1.1.mp⟩
abbrev v_X8_read (g : Gl) (κ : Ka) (Q : State → Prop) (M : Mem) (pc : Nat) (L : List (Option Value)) (st : List Value) : Prop := V g cX8_read 2 yX8_read.cls (some .int) (rmd 9) Q κ M pc L st
theorem m_read_2 {g : Gl} {M : Mem} {x : Int32} (h : isN x 4 = false) : Ct g yX8_read cX8_read 2 (some .int) 9 [.ref (g.2.2.2.1 142), .int x] M (fun v M' => v = some (.int (-2)) ∧ M' = M) := by
  refine Ct.ofV (by decide) (Nat.le_of_ble_eq_true rfl) (by simp [Value.category]) (fun κ => ?_)
  refine V.iload_n dX8_read_0 rfl ?_
  refine V.callS dX8_read_1 (c_X8_isRow) lkX8_234 st_X8_isRow cd_X8_isRow ini_X8 hd_X8_isRow ⟨Nat.le_of_ble_eq_true rfl, Nat.le_of_ble_eq_true rfl⟩ rfl (Nat.le_of_ble_eq_true rfl) (V.kkF ?_)
  rw [h]
  refine V.if_neB (tgt := 10) dX8_read_4 (by decide) (fun h1 => ?_) (fun h1 => ?_)
  · cases h1
  · refine V.bipush (v := -2) dX8_read_7 (by decide) ?_
    refine V.iret dX8_read_9 ?_
    exact ⟨rfl, rfl⟩
theorem m_read_4 {g : Gl} {M : Mem} {A : Ab} {r : Nat} (hI : ∀ i, 142 ≤ i ∧ i < 174 → i ∈ g.2.2.2.2) (h : Rm A M) (hr : r < 4) (hf : (mRdA A M).1 = false) : Ct g yX8_read cX8_read 2 (some .int) 9 [.ref (g.2.2.2.1 142), .int (nI r)] M (fun v M' => v = some (.int (-4)) ∧ Rm A M' ∧ keep mP M M') := by
  refine Ct.ofV (by decide) (Nat.le_of_ble_eq_true rfl) (by simp [Value.category]) (fun κ => ?_)
  refine V.iload_n dX8_read_0 rfl ?_
  refine V.callS dX8_read_1 (c_X8_isRow) lkX8_234 st_X8_isRow cd_X8_isRow ini_X8 hd_X8_isRow ⟨Nat.le_of_ble_eq_true rfl, Nat.le_of_ble_eq_true rfl⟩ rfl (Nat.le_of_ble_eq_true rfl) (V.kkF ?_)
  rw [isN_nI (by decide) hr]
  refine V.if_neB (tgt := 10) dX8_read_4 (by decide) (fun h1 => ?_) (fun h1 => ?_)
  · refine V.aload_n dX8_read_10 rfl ?_
    refine V.callV (ci := 7) (T := TX8) (N := 37) dX8_read_11 (c_X8_reads hI h.1.1 h.1.2.1 h.1.2.2) lkX8_230 im_X8_reads se_X8_reads cd_X8_reads ini_X8 rfl (by first | assumption | exact hI _ (by omega)) rfl hd_X8_reads ⟨Nat.le_of_ble_eq_true rfl, Nat.le_of_ble_eq_true rfl⟩ rfl (Nat.le_of_ble_eq_true rfl) (V.kkX (fun M1 q1 => ?_))
    change rdPost (mRdA A M) M M1 at q1
    change v_X8_read g κ _ M1 14 _ [.int (nI (mRdA A M).1.toNat)]
    refine V.if_neB (tgt := 20) dX8_read_14 (by decide) (fun h2 => ?_) (fun h2 => ?_)
    · rw [hf] at h2; cases h2
    · refine V.bipush (v := -4) dX8_read_17 (by decide) ?_
      refine V.iret dX8_read_19 ?_
      exact ⟨rfl, h.kr q1.1, q1.1.mp⟩
  · cases h1
theorem m_read_6 {g : Gl} {M : Mem} {A : Ab} {r : Nat} (hI : ∀ i, 142 ≤ i ∧ i < 174 → i ∈ g.2.2.2.2) (h : Rm A M) (hr : r < 4) (hf : (mRdA A M).1 = true) (hw : (mRdA A M).2.2.1 = true) : Ct g yX8_read cX8_read 2 (some .int) 9 [.ref (g.2.2.2.1 142), .int (nI r)] M (fun v M' => v = some (.int (-6)) ∧ Rm A M' ∧ keep mP M M') := by
  refine Ct.ofV (by decide) (Nat.le_of_ble_eq_true rfl) (by simp [Value.category]) (fun κ => ?_)
  refine V.iload_n dX8_read_0 rfl ?_
  refine V.callS dX8_read_1 (c_X8_isRow) lkX8_234 st_X8_isRow cd_X8_isRow ini_X8 hd_X8_isRow ⟨Nat.le_of_ble_eq_true rfl, Nat.le_of_ble_eq_true rfl⟩ rfl (Nat.le_of_ble_eq_true rfl) (V.kkF ?_)
  rw [isN_nI (by decide) hr]
  refine V.if_neB (tgt := 10) dX8_read_4 (by decide) (fun h1 => ?_) (fun h1 => ?_)
  · refine V.aload_n dX8_read_10 rfl ?_
    refine V.callV (ci := 7) (T := TX8) (N := 37) dX8_read_11 (c_X8_reads hI h.1.1 h.1.2.1 h.1.2.2) lkX8_230 im_X8_reads se_X8_reads cd_X8_reads ini_X8 rfl (by first | assumption | exact hI _ (by omega)) rfl hd_X8_reads ⟨Nat.le_of_ble_eq_true rfl, Nat.le_of_ble_eq_true rfl⟩ rfl (Nat.le_of_ble_eq_true rfl) (V.kkX (fun M1 q1 => ?_))
    change rdPost (mRdA A M) M M1 at q1
    change v_X8_read g κ _ M1 14 _ [.int (nI (mRdA A M).1.toNat)]
    refine V.if_neB (tgt := 20) dX8_read_14 (by decide) (fun h2 => ?_) (fun h2 => ?_)
    · refine V.aload_n dX8_read_20 rfl ?_
      refine V.getf (ci := 7) (k := 17) (C := RX8) (T := TX8) (N := 37) dX8_read_21 lfX8_154 inX8 rfl (by first | assumption | exact hI _ (by omega)) rfl (by decide) rfl ?_
      rw [(q1.2.2 hf).1]
      refine V.if_eqB (tgt := 30) dX8_read_24 (by decide) (fun h3 => ?_) (fun h3 => ?_)
      · rw [hw] at h3; cases h3
      · refine V.bipush (v := -6) dX8_read_27 (by decide) ?_
        refine V.iret dX8_read_29 ?_
        exact ⟨rfl, h.kr q1.1, q1.1.mp⟩
    · rw [hf] at h2; cases h2
  · cases h1
theorem m_read {g : Gl} {M : Mem} {A : Ab} {r : Nat} (hI : ∀ i, 142 ≤ i ∧ i < 174 → i ∈ g.2.2.2.2) (h : Rm A M) (hr : r < 4) (hf : (mRdA A M).1 = true) (hw : (mRdA A M).2.2.1 = false) : Ct g yX8_read cX8_read 2 (some .int) 9 [.ref (g.2.2.2.1 142), .int (nI r)] M (fun v M' => v = some (.int ((mRdA A M).2.2.2.2 1)) ∧ Rm ((0, A.1.2), va_up A.2.1 r (mRdA A M).2.2.2.1, va_up A.2.2.1 r (mRdA A M).2.2.2.2, A.2.2.2) M' ∧ keep mP M M') := by
  refine Ct.ofV (by decide) (Nat.le_of_ble_eq_true rfl) (by simp [Value.category]) (fun κ => ?_)
  refine V.iload_n dX8_read_0 rfl ?_
  refine V.callS dX8_read_1 (c_X8_isRow) lkX8_234 st_X8_isRow cd_X8_isRow ini_X8 hd_X8_isRow ⟨Nat.le_of_ble_eq_true rfl, Nat.le_of_ble_eq_true rfl⟩ rfl (Nat.le_of_ble_eq_true rfl) (V.kkF ?_)
  rw [isN_nI (by decide) hr]
  refine V.if_neB (tgt := 10) dX8_read_4 (by decide) (fun h1 => ?_) (fun h1 => ?_)
  · refine V.aload_n dX8_read_10 rfl ?_
    refine V.callV (ci := 7) (T := TX8) (N := 37) dX8_read_11 (c_X8_reads hI h.1.1 h.1.2.1 h.1.2.2) lkX8_230 im_X8_reads se_X8_reads cd_X8_reads ini_X8 rfl (by first | assumption | exact hI _ (by omega)) rfl hd_X8_reads ⟨Nat.le_of_ble_eq_true rfl, Nat.le_of_ble_eq_true rfl⟩ rfl (Nat.le_of_ble_eq_true rfl) (V.kkX (fun M1 q1 => ?_))
    change rdPost (mRdA A M) M M1 at q1
    change v_X8_read g κ _ M1 14 _ [.int (nI (mRdA A M).1.toNat)]
    refine V.if_neB (tgt := 20) dX8_read_14 (by decide) (fun h2 => ?_) (fun h2 => ?_)
    · obtain ⟨w1, eG, eF⟩ := q1.2.2 hf
      refine V.aload_n dX8_read_20 rfl ?_
      refine V.getf (ci := 7) (k := 17) (C := RX8) (T := TX8) (N := 37) dX8_read_21 lfX8_154 inX8 rfl (by first | assumption | exact hI _ (by omega)) rfl (by decide) rfl ?_
      rw [w1]
      refine V.if_eqB (tgt := 30) dX8_read_24 (by decide) (fun h3 => ?_) (fun h3 => ?_)
      · refine V.aload_n dX8_read_30 rfl ?_
        refine V.iconst (v := nI 0) dX8_read_31 rfl ?_
        refine V.putf (ci := 7) (k := 8) (C := RX8) (T := TX8) (N := 37) (ty := .int) tyX8 dX8_read_32 lfX8_144 inX8 tyX8_ok nmX8 rfl (by first | assumption | exact hI _ (by omega)) rfl (by decide) rfl rfl rfl rfl (Nat.le_of_ble_eq_true rfl) rfl ?_
        refine V.aload_n dX8_read_35 rfl ?_
        refine V.iload_n dX8_read_36 rfl ?_
        refine V.aload_n dX8_read_37 rfl ?_
        refine V.getf (ci := 7) (k := 25) (C := RX8) (T := TX8) (N := 37) dX8_read_38 lfX8_71 inX8 rfl (by first | assumption | exact hI _ (by omega)) rfl (by decide) rfl ?_
        refine V.aload_n dX8_read_41 rfl ?_
        refine V.getf (ci := 7) (k := 26) (C := RX8) (T := TX8) (N := 37) dX8_read_42 lfX8_74 inX8 rfl (by first | assumption | exact hI _ (by omega)) rfl (by decide) rfl ?_
        refine V.callV (ci := 7) (T := TX8) (N := 37) dX8_read_45 (c_X8_becomes (a := 163) (b := 164) hI hr (hI _ (by decide)) rfl (hI _ (by decide)) rfl (by decide) (by decide)) lkX8_237 im_X8_becomes se_X8_becomes cd_X8_becomes ini_X8 rfl (by first | assumption | exact hI _ (by omega)) rfl hd_X8_becomes ⟨Nat.le_of_ble_eq_true rfl, Nat.le_of_ble_eq_true rfl⟩ rfl (Nat.le_of_ble_eq_true rfl) (V.kkF ?_)
        refine V.iret dX8_read_48 ?_
        have hm := h.kr q1.1
        have h0 : Rm ((0, A.1.2), A.2) (mset M1 142 8 (nI 0)) := by
          obtain ⟨⟨a1, a2, a3⟩, b, ⟨c1, c2, c3, c4⟩, d⟩ := hm
          refine ⟨⟨Nat.zero_le _, by rw [mset_at], by rw [mset_ne (by decide)]; exact a3⟩, fun r hr => by rw [mset_ne (by decide), mset_ne (by decide)]; exact b r hr, ⟨by rw [mset_ne (by decide)]; exact c1, c2, by rw [mset_nat (by decide)]; exact c3, fun i hi => by rw [mset_ne (by decide)]; exact c4 i hi⟩, fun q hq => (d q hq).kp (mset_ne (by decide)) (mset_ne (by decide))⟩
        have eF' : eq9 (mset M1 142 8 (nI 0) 164) (mRdA A M).2.2.2.2 := by rw [mset_ne (by decide)]; exact eF
        refine ⟨congrArg (fun q => some (Value.int q)) (eF' 1 (by decide)), h0.row hr (by decide) (by rw [mset_ne (by decide)]; exact eG) eF', ((q1.1.mp.ms (by unfold mP; omega))).tr (rowM_keep.wk (fun j hj => by unfold mP; omega))⟩
      · rw [hw] at h3; cases h3
    · rw [hf] at h2; cases h2
  · cases h1

