theorem j_compose {g : Gl} {a : AbF} (hI : ∀ i, i < 174 → i ∈ g.2.2.2.2) (hg : Good a) {x y z : Int32} : Jn g a yX7_compose cX7_compose 6 6 yX8_compose cX8_compose 4 4 [.int x, .int y, .int z] := by
  have I7 : ∀ i, i < 142 → i ∈ g.2.2.2.2 := fun i h => hI i (by omega)
  have I8 : ∀ i, 142 ≤ i ∧ i < 174 → i ∈ g.2.2.2.2 := fun i h => hI i (by omega)
  rcases isN_dec (x := x) (n := 4) (by decide) with hx | ⟨r, hr, rfl⟩
  · exact Jn.no hg (fun M => k_compose_2 (Or.inl hx)) (fun M => m_compose_2 (Or.inl hx))
  rcases isN_dec (x := y) (n := 4) (by decide) with hy | ⟨s, hs, rfl⟩
  · exact Jn.no hg (fun M => k_compose_2 (Or.inr (Or.inl hy))) (fun M => m_compose_2 (Or.inr (Or.inl hy)))
  rcases isN_dec (x := z) (n := 4) (by decide) with hz | ⟨o, ho, rfl⟩
  · exact Jn.no hg (fun M => k_compose_2 (Or.inr (Or.inr hz))) (fun M => m_compose_2 (Or.inr (Or.inr hz)))
  obtain ⟨s1, s2, s3⟩ := hg.1 s hs
  obtain ⟨o1, o2, o3⟩ := hg.1 o ho
  have e1 : eq9 (fprod (fput (iS (a.2.1 s)) (iS (a.2.2.1 o))) (iS (a.2.1 o))) (iS (cv (cm (a.2.1 s) (a.2.2.1 o)) (a.2.1 o))) := by rw [fput_i, fprod_i]; exact eq9.rf
  have e2 : eq9 (fput (iS (a.2.2.1 s)) (iS (a.2.2.1 o))) (iS (cm (a.2.2.1 s) (a.2.2.1 o))) := by rw [fput_i]; exact eq9.rf
  have m1 : eq9 (fprod (mput (iS (a.2.1 s)) (iS (a.2.2.1 o))) (iS (a.2.1 o))) (iS (cv (cm (a.2.1 s) (a.2.2.1 o)) (a.2.1 o))) := by rw [mput_i, fprod_i]; exact eq9.rf
  have m2 : eq9 (mput (iS (a.2.2.1 s)) (iS (a.2.2.1 o))) (iS (cm (a.2.2.1 s) (a.2.2.1 o))) := by rw [mput_i]; exact eq9.rf
  exact ⟨iT (cm (a.2.2.1 s) (a.2.2.1 o) 1), rowA a r (cv (cm (a.2.1 s) (a.2.2.1 o)) (a.2.1 o)) (cm (a.2.2.1 s) (a.2.2.1 o)), hg.row (by rw [cv_00, cm_0 o2]; exact Fp_ne s1 o1) (by rw [cm_0 o2]; exact s2) (by rw [cm_1 o2]; exact Fp_ne s3 o3), fun M h => c7c (k_compose I7 h hr hs ho) (e2 1 (by decide)) (fun M' h' => h'.rowA e1 e2), fun M h => c8c (m_compose I8 h hr hs ho) (m2 1 (by decide)) (fun M' h' => h'.rowA m1 m2)⟩
theorem j_invert {g : Gl} {a : AbF} (hI : ∀ i, i < 174 → i ∈ g.2.2.2.2) (hg : Good a) {x y : Int32} : Jn g a yX7_invert cX7_invert 4 6 yX8_invert cX8_invert 3 5 [.int x, .int y] := by
  have I7 : ∀ i, i < 142 → i ∈ g.2.2.2.2 := fun i h => hI i (by omega)
  have I8 : ∀ i, 142 ≤ i ∧ i < 174 → i ∈ g.2.2.2.2 := fun i h => hI i (by omega)
  rcases isN_dec (x := x) (n := 4) (by decide) with hx | ⟨r, hr, rfl⟩
  · exact Jn.no hg (fun M => k_invert_2 (Or.inl hx)) (fun M => m_invert_2 (Or.inl hx))
  rcases isN_dec (x := y) (n := 4) (by decide) with hy | ⟨o, ho, rfl⟩
  · exact Jn.no hg (fun M => k_invert_2 (Or.inr hy)) (fun M => m_invert_2 (Or.inr hy))
  obtain ⟨o1, o2, o3⟩ := hg.1 o ho
  have c0 : cm (a.2.1 o) (sTu (a.2.2.1 o)) 0 ≠ 0 := by rw [cm_0 (sTu_0 _)]; exact o1
  have e2 : eq9 (fturn (iS (a.2.2.1 o))) (iS (sTu (a.2.2.1 o))) := fturn_i o2 o3
  have e1 : eq9 (fover (fput (iS (a.2.1 o)) (fturn (iS (a.2.2.1 o))))) (iS (sDv sone (cm (a.2.1 o) (sTu (a.2.2.1 o))))) := by
    refine (fover_cg (fput_cg eq9.rf e2)).tr ?_
    rw [fput_i, fover_i]; exact eq9.rf
  have m2 : eq9 (mturn (iS (a.2.2.1 o))) (iS (sTu (a.2.2.1 o))) := by rw [mturn_i]; exact eq9.rf
  have m1 : eq9 (mdiv (mono 0 (nI 1)) (mput (iS (a.2.1 o)) (mturn (iS (a.2.2.1 o))))) (iS (sDv sone (cm (a.2.1 o) (sTu (a.2.2.1 o))))) := by rw [mturn_i, mput_i, mono1_i, mdiv_i c0]; exact eq9.rf
  exact ⟨iT (sTu (a.2.2.1 o) 1), rowA a r (sDv sone (cm (a.2.1 o) (sTu (a.2.2.1 o)))) (sTu (a.2.2.1 o)), hg.row (sDv_0 c0) (sTu_0 _) (sTu_1 o2 o3), fun M h => c7c (k_invert I7 h hr ho) (e2 1 (by decide)) (fun M' h' => h'.rowA e1 e2), fun M h => c8c (m_invert I8 h hr ho) (m2 1 (by decide)) (fun M' h' => h'.rowA m1 m2)⟩
theorem j_part {g : Gl} {a : AbF} (hI : ∀ i, i < 174 → i ∈ g.2.2.2.2) (hg : Good a) {x y z : Int32} : Jn g a yX7_part cX7_part 4 6 yX8_part cX8_part 5 2 [.int x, .int y, .int z] := by
  have I7 : ∀ i, i < 142 → i ∈ g.2.2.2.2 := fun i h => hI i (by omega)
  have I8 : ∀ i, 142 ≤ i ∧ i < 174 → i ∈ g.2.2.2.2 := fun i h => hI i (by omega)
  rcases isN_dec (x := x) (n := 4) (by decide) with hx | ⟨r, hr, rfl⟩
  · exact Jn.no hg (fun M => k_part_2 (Or.inl hx)) (fun M => m_part_2 (Or.inl hx))
  rcases isN_dec (x := y) (n := 4) (by decide) with hy | ⟨o, ho, rfl⟩
  · exact Jn.no hg (fun M => k_part_2 (Or.inr hy)) (fun M => m_part_2 (Or.inr hy))
  rcases isN_dec (x := z) (n := 2) (by decide) with hz | ⟨b, hb, rfl⟩
  · exact Jn.no hg (fun M => k_part_3 hr ho hz) (fun M => m_part_3 hr ho hz)
  obtain ⟨o1, o2, o3⟩ := hg.1 o ho
  have x1 : eq9 (mono 0 (nI 1)) (iS sone) := by rw [mono1_i]; exact eq9.rf
  have x2 : eq9 (mono 1 (nI 1)) (iS sX) := by rw [monoX_i]; exact eq9.rf
  have hb2 : b = 0 ∨ b = 1 := by omega
  rcases hb2 with rfl | rfl
  · exact ⟨iT (a.2.2.1 o 1), rowA a r sone (a.2.2.1 o), hg.row one_ne o2 o3, fun M h => c7c (k_part0 I7 h hr ho) rfl (fun M' h' => h'.rowA x1 eq9.rf), fun M h => c8c (m_part0 I8 h hr ho) rfl (fun M' h' => h'.rowA x1 eq9.rf)⟩
  · exact ⟨mono 1 (nI 1) 1, rowA a r (a.2.1 o) sX, hg.row o1 rfl one_ne, fun M h => c7c (k_part1 I7 h hr ho) rfl (fun M' h' => h'.rowA eq9.rf x2), fun M h => c8c (m_part1 I8 h hr ho) rfl (fun M' h' => h'.rowA eq9.rf x2)⟩
theorem exA_0 (c : Fp) : exA c 0 = 1 := by
  show c ^ 0 * exF 0 = 1
  have : exF 0 = 1 := by decide +kernel
  rw [this]; grind
theorem j_move {g : Gl} {a : AbF} (hI : ∀ i, i < 174 → i ∈ g.2.2.2.2) (hg : Good a) {x y z : Int32} : Jn g a yX7_move cX7_move 4 6 yX8_move cX8_move 4 4 [.int x, .int y, .int z] := by
  have I7 : ∀ i, i < 142 → i ∈ g.2.2.2.2 := fun i h => hI i (by omega)
  have I8 : ∀ i, 142 ≤ i ∧ i < 174 → i ∈ g.2.2.2.2 := fun i h => hI i (by omega)
  rcases isN_dec (x := x) (n := 4) (by decide) with hx | ⟨r, hr, rfl⟩
  · exact Jn.no hg (fun M => k_move_2 (Or.inl hx)) (fun M => m_move_2 (Or.inl hx))
  rcases isN_dec (x := y) (n := 4) (by decide) with hy | ⟨o, ho, rfl⟩
  · exact Jn.no hg (fun M => k_move_2 (Or.inr hy)) (fun M => m_move_2 (Or.inr hy))
  rcases isN_dec (x := z) (n := 9973) (by decide) with hz | ⟨b, hb, rfl⟩
  · exact Jn.no hg (fun M => k_move_3 hr ho hz) (fun M => m_move_3 hr ho hz)
  obtain ⟨o1, o2, o3⟩ := hg.1 o ho
  have ec : fsub (nI 0) (nI b) = iT (0 - nF b) := by rw [b_n hb, b_0, b_sub]
  have e1 : eq9 (fprod (iS (a.2.1 o)) (fexp exC (fsub (nI 0) (nI b)))) (iS (cv (a.2.1 o) (exA (0 - nF b)))) := by
    rw [ec]; refine (fprod_cg eq9.rf (fexp_i _)).tr ?_
    rw [fprod_i]; exact eq9.rf
  have m1 : eq9 (fprod (iS (a.2.1 o)) (mmake (nI 101) (mono 1 (fsub (nI 0) (nI b))))) (iS (cv (a.2.1 o) (exA (0 - nF b)))) := by
    rw [ec]; refine (fprod_cg eq9.rf (mexp_i _)).tr ?_
    rw [fprod_i]; exact eq9.rf
  exact ⟨iT (a.2.2.1 o 1), rowA a r (cv (a.2.1 o) (exA (0 - nF b))) (a.2.2.1 o), hg.row (by rw [cv_00, exA_0]; exact Fp_ne o1 one_ne) o2 o3, fun M h => c7c (k_move I7 h hr ho hb) rfl (fun M' h' => h'.rowA e1 eq9.rf), fun M h => c8c (m_move I8 h hr ho hb) rfl (fun M' h' => h'.rowA m1 eq9.rf)⟩
theorem j_stretch {g : Gl} {a : AbF} (hI : ∀ i, i < 174 → i ∈ g.2.2.2.2) (hg : Good a) {x y z : Int32} : Jn g a yX7_stretch cX7_stretch 4 6 yX8_stretch cX8_stretch 6 2 [.int x, .int y, .int z] := by
  have I7 : ∀ i, i < 142 → i ∈ g.2.2.2.2 := fun i h => hI i (by omega)
  have I8 : ∀ i, 142 ≤ i ∧ i < 174 → i ∈ g.2.2.2.2 := fun i h => hI i (by omega)
  rcases isN_dec (x := x) (n := 4) (by decide) with hx | ⟨r, hr, rfl⟩
  · exact Jn.no hg (fun M => k_stretch_2 (Or.inl hx)) (fun M => m_stretch_2 (Or.inl hx))
  rcases isN_dec (x := y) (n := 4) (by decide) with hy | ⟨o, ho, rfl⟩
  · exact Jn.no hg (fun M => k_stretch_2 (Or.inr hy)) (fun M => m_stretch_2 (Or.inr hy))
  rcases isN_dec (x := z) (n := 9973) (by decide) with hz | ⟨b, hb, rfl⟩
  · exact Jn.no hg (fun M => k_stretch_3 hr ho (Or.inr hz)) (fun M => m_stretch_3 hr ho (Or.inr hz))
  by_cases h0 : b = 0
  · subst h0
    exact Jn.no hg (fun M => k_stretch_3 hr ho (Or.inl rfl)) (fun M => m_stretch_3 hr ho (Or.inl rfl))
  obtain ⟨o1, o2, o3⟩ := hg.1 o ho
  have hb0 := nF_ne h0 hb
  have ec : nI b = iT (nF b) := b_n hb
  have e1 : ∀ f : Fs, eq9 (fput (iS f) (mono 1 (finv (nI b)))) (iS (stF f (nF b))) := fun f => by rw [ec]; exact fputs_i f _
  have m1 : ∀ f : Fs, eq9 (fstr (iS f) (nI b)) (iS (stF f (nF b))) := fun f => by rw [ec, fstr_i]; exact eq9.rf
  have z0 : ∀ f : Fs, stF f (nF b) 0 = f 0 := fun f => by show f 0 * iF (nF b) ^ 0 = f 0; grind
  have z1 : ∀ f : Fs, stF f (nF b) 1 = f 1 * iF (nF b) := fun f => by show f 1 * iF (nF b) ^ 1 = _; grind
  exact ⟨iT (stF (a.2.2.1 o) (nF b) 1), rowA a r (stF (a.2.1 o) (nF b)) (stF (a.2.2.1 o) (nF b)), hg.row (by rw [z0]; exact o1) (by rw [z0]; exact o2) (by rw [z1]; exact Fp_ne o3 (iF_ne hb0)), fun M h => c7c (k_stretch I7 h hr ho hb h0) (e1 _ 1 (by decide)) (fun M' h' => h'.rowA (e1 _) (e1 _)), fun M h => c8c (m_stretch I8 h hr ho hb h0) (m1 _ 1 (by decide)) (fun M' h' => h'.rowA (m1 _) (m1 _))⟩
def chF (a : AbF) (r y : Nat) : Fs := match y with
  | 0 => a.2.1 r
  | 1 => a.2.2.1 r
  | 2 => sDv sone (a.2.1 r)
  | _ => sTu (a.2.2.1 r)
theorem chS_i {a : AbF} (hg : Good a) {r y : Nat} (hr : r < 4) (hy : y < 4) : eq9 (chS (iA a) r y) (iS (chF a r y)) := by
  match y, hy with
  | 0, _ => exact eq9.rf
  | 1, _ => exact eq9.rf
  | 2, _ => show eq9 (fover (iS (a.2.1 r))) _; rw [fover_i]; exact eq9.rf
  | 3, _ => exact fturn_i (hg.1 r hr).2.1 (hg.1 r hr).2.2
theorem mchS_i {a : AbF} (hg : Good a) {r y : Nat} (hr : r < 4) (hy : y < 4) : eq9 (mchS (iA a) r y) (iS (chF a r y)) := by
  match y, hy with
  | 0, _ => exact eq9.rf
  | 1, _ => exact eq9.rf
  | 2, _ => show eq9 (mdiv (mono 0 (nI 1)) (iS (a.2.1 r))) _; rw [mono1_i, mdiv_i (hg.1 r hr).1]; exact eq9.rf
  | 3, _ => show eq9 (mturn (iS (a.2.2.1 r))) _; rw [mturn_i]; exact eq9.rf
theorem j_series {g : Gl} {a : AbF} (hI : ∀ i, i < 174 → i ∈ g.2.2.2.2) (hg : Good a) {x y z : Int32} : Jn g a yX7_series cX7_series 4 1 yX8_series cX8_series 4 5 [.int x, .int y, .int z] := by
  have I7 : ∀ i, i < 142 → i ∈ g.2.2.2.2 := fun i h => hI i (by omega)
  have I8 : ∀ i, 142 ≤ i ∧ i < 174 → i ∈ g.2.2.2.2 := fun i h => hI i (by omega)
  rcases isN_dec (x := x) (n := 4) (by decide) with hx | ⟨r, hr, rfl⟩
  · exact Jn.no hg (fun M => k_series_2 hx) (fun M => m_series_2 hx)
  rcases isN_dec (x := y) (n := 4) (by decide) with hy | ⟨b, hb, rfl⟩
  · exact Jn.no hg (fun M => k_series_3 hr (Or.inl hy)) (fun M => m_series_3 hr (Or.inl hy))
  rcases isN_dec (x := z) (n := 9) (by decide) with hz | ⟨d, hd, rfl⟩
  · exact Jn.no hg (fun M => k_series_3 hr (Or.inr hz)) (fun M => m_series_3 hr (Or.inr hz))
  exact ⟨iT (chF a r b d), a, hg, fun M h => c7s h (k_series I7 h hr hb hd) (chS_i hg hr hb d hd), fun M h => c8c (m_series I8 h hr hb hd) (mchS_i hg hr hb d hd) (fun _ z => z)⟩
theorem j_polynomial {g : Gl} {a : AbF} (hI : ∀ i, i < 174 → i ∈ g.2.2.2.2) (hg : Good a) {x y z : Int32} : Jn g a yX7_polynomial cX7_polynomial 4 1 yX8_polynomial cX8_polynomial 4 4 [.int x, .int y, .int z] := by
  have I7 : ∀ i, i < 142 → i ∈ g.2.2.2.2 := fun i h => hI i (by omega)
  have I8 : ∀ i, 142 ≤ i ∧ i < 174 → i ∈ g.2.2.2.2 := fun i h => hI i (by omega)
  rcases isN_dec (x := x) (n := 4) (by decide) with hx | ⟨r, hr, rfl⟩
  · exact Jn.no hg (fun M => k_polynomial_2 hx) (fun M => m_polynomial_2 hx)
  rcases isN_dec (x := y) (n := 9) (by decide) with hy | ⟨b, hb, rfl⟩
  · exact Jn.no hg (fun M => k_polynomial_3 hr (Or.inl hy)) (fun M => m_polynomial_3 hr (Or.inl hy))
  rcases isN_dec (x := z) (n := 9) (by decide) with hz | ⟨d, hd, rfl⟩
  · exact Jn.no hg (fun M => k_polynomial_3 hr (Or.inr hz)) (fun M => m_polynomial_3 hr (Or.inr hz))
  exact ⟨iT (PF a r b d), a, hg, fun M h => c7s h (k_polynomial I7 h hr hb hd) (PR_i hg hr hb d hd), fun M h => c8c (m_polynomial I8 h hr hb hd) (MR_i hg hr hb d hd) (fun _ z => z)⟩
theorem j_value {g : Gl} {a : AbF} (hI : ∀ i, i < 174 → i ∈ g.2.2.2.2) (hg : Good a) {x y z : Int32} : Jn g a yX7_value cX7_value 4 2 yX8_value cX8_value 4 4 [.int x, .int y, .int z] := by
  have I7 : ∀ i, i < 142 → i ∈ g.2.2.2.2 := fun i h => hI i (by omega)
  have I8 : ∀ i, 142 ≤ i ∧ i < 174 → i ∈ g.2.2.2.2 := fun i h => hI i (by omega)
  rcases isN_dec (x := x) (n := 4) (by decide) with hx | ⟨r, hr, rfl⟩
  · exact Jn.no hg (fun M => k_value_2 hx) (fun M => m_value_2 hx)
  rcases isN_dec (x := y) (n := 9) (by decide) with hy | ⟨b, hb, rfl⟩
  · exact Jn.no hg (fun M => k_value_3 hr (Or.inl hy)) (fun M => m_value_3 hr (Or.inl hy))
  rcases isN_dec (x := z) (n := 9973) (by decide) with hz | ⟨d, hd, rfl⟩
  · exact Jn.no hg (fun M => k_value_3 hr (Or.inr hz)) (fun M => m_value_3 hr (Or.inr hz))
  exact ⟨horn (iS (PF a r b)) (nI d) 9, a, hg, fun M h => c7s h (k_value I7 h hr hb hd) (horn_cg (PR_i hg hr hb) 9 (by decide)), fun M h => c8c (m_value I8 h hr hb hd) (horn_cg (MR_i hg hr hb) 9 (by decide)) (fun _ z => z)⟩
theorem j_connect {g : Gl} {a : AbF} (hI : ∀ i, i < 174 → i ∈ g.2.2.2.2) (hg : Good a) {x y z t : Int32} : Jn g a yX7_connect cX7_connect 5 3 yX8_connect cX8_connect 5 4 [.int x, .int y, .int z, .int t] := by
  have I7 : ∀ i, i < 142 → i ∈ g.2.2.2.2 := fun i h => hI i (by omega)
  have I8 : ∀ i, 142 ≤ i ∧ i < 174 → i ∈ g.2.2.2.2 := fun i h => hI i (by omega)
  rcases isN_dec (x := x) (n := 4) (by decide) with hx | ⟨s, hs, rfl⟩
  · exact Jn.no hg (fun M => k_connect_2 (Or.inl hx)) (fun M => m_connect_2 (Or.inl hx))
  rcases isN_dec (x := y) (n := 4) (by decide) with hy | ⟨o, ho, rfl⟩
  · exact Jn.no hg (fun M => k_connect_2 (Or.inr hy)) (fun M => m_connect_2 (Or.inr hy))
  rcases isN_dec (x := z) (n := 9) (by decide) with hz | ⟨b, hb, rfl⟩
  · exact Jn.no hg (fun M => k_connect_3 hs ho (Or.inl hz)) (fun M => m_connect_3 hs ho (Or.inl hz))
  rcases isN_dec (x := t) (n := 9) (by decide) with ht | ⟨d, hd, rfl⟩
  · exact Jn.no hg (fun M => k_connect_3 hs ho (Or.inr ht)) (fun M => m_connect_3 hs ho (Or.inr ht))
  exact ⟨iT (tlF (PF a o) (PF a s b) d), a, hg, fun M h => c7c (k_connect I7 h hs ho hb hd) (ft_i hg ho (PR_i hg hs hb) d hd) (fun _ z => z), fun M h => c8c (m_connect I8 h hs ho hb hd) (mt_i hg ho (MR_i hg hs hb) d hd) (fun _ z => z)⟩
theorem j_differ {g : Gl} {a : AbF} (hI : ∀ i, i < 174 → i ∈ g.2.2.2.2) (hg : Good a) {x y : Int32} : Jn g a yX7_differ cX7_differ 4 1 yX8_differ cX8_differ 4 4 [.int x, .int y] := by
  have I7 : ∀ i, i < 142 → i ∈ g.2.2.2.2 := fun i h => hI i (by omega)
  have I8 : ∀ i, 142 ≤ i ∧ i < 174 → i ∈ g.2.2.2.2 := fun i h => hI i (by omega)
  rcases isN_dec (x := x) (n := 4) (by decide) with hx | ⟨s, hs, rfl⟩
  · exact Jn.no hg (fun M => k_differ_2 (Or.inl hx)) (fun M => m_differ_2 (Or.inl hx))
  rcases isN_dec (x := y) (n := 4) (by decide) with hy | ⟨o, ho, rfl⟩
  · exact Jn.no hg (fun M => k_differ_2 (Or.inr hy)) (fun M => m_differ_2 (Or.inr hy))
  exact ⟨fdiff (fun n => iS (PF a s n)) (fun n => iS (PF a o n)) 9, a, hg, fun M h => c7s h (k_differ I7 h hs ho) (fdiff_cg (fun n hn => PR_i hg hs hn) (fun n hn => PR_i hg ho hn) 9 (Nat.le_refl _)), fun M h => c8c (m_differ I8 h hs ho) (fdiff_cg (fun n hn => MR_i hg hs hn) (fun n hn => MR_i hg ho hn) 9 (Nat.le_refl _)) (fun _ z => z)⟩
theorem j_take {g : Gl} {a : AbF} (hI : ∀ i, i < 174 → i ∈ g.2.2.2.2) (hg : Good a) {x y : Int32} : Jn g a yX7_take cX7_take 3 3 yX8_take cX8_take 3 4 [.int x, .int y] := by
  have I7 : ∀ i, i < 142 → i ∈ g.2.2.2.2 := fun i h => hI i (by omega)
  have I8 : ∀ i, 142 ≤ i ∧ i < 174 → i ∈ g.2.2.2.2 := fun i h => hI i (by omega)
  rcases isN_dec (x := x) (n := 4) (by decide) with hx | ⟨r, hr, rfl⟩
  · exact Jn.no hg (fun M => k_take_2 hx) (fun M => m_take_2 hx)
  rcases isN_dec (x := y) (n := 9) (by decide) with hy | ⟨b, hb, rfl⟩
  · exact Jn.no hg (fun M => k_take_3 hr hy) (fun M => m_take_3 hr hy)
  exact ⟨iT (PF a r b b), hanA a (PF a r b), hg.han, fun M h => c7c (k_take I7 h hr hb) (PR_i hg hr hb b hb) (fun M' h' => h'.hanA (PR_i hg hr hb)), fun M h => c8c (m_take I8 h hr hb) (MR_i hg hr hb b hb) (fun M' h' => h'.hanA (MR_i hg hr hb))⟩
theorem j_put {g : Gl} {a : AbF} (hI : ∀ i, i < 174 → i ∈ g.2.2.2.2) (hg : Good a) {x y : Int32} : Jn g a yX7_put cX7_put 4 3 yX8_put cX8_put 4 2 [.int x, .int y] := by
  have I7 : ∀ i, i < 142 → i ∈ g.2.2.2.2 := fun i h => hI i (by omega)
  have I8 : ∀ i, 142 ≤ i ∧ i < 174 → i ∈ g.2.2.2.2 := fun i h => hI i (by omega)
  rcases isN_dec (x := x) (n := 9) (by decide) with hx | ⟨b, hb, rfl⟩
  · exact Jn.no hg (fun M => k_put_3 (Or.inl hx)) (fun M => m_put_3 (Or.inl hx))
  rcases isN_dec (x := y) (n := 9973) (by decide) with hy | ⟨d, hd, rfl⟩
  · exact Jn.no hg (fun M => k_put_3 (Or.inr hy)) (fun M => m_put_3 (Or.inr hy))
  have e : eq9 (upd (iS a.2.2.2.1) b (nI d)) (iS (fun k => if k = b then nF d else a.2.2.2.1 k)) := fun k _ => by
    show (if k = b then nI d else iT (a.2.2.2.1 k)) = iT (if k = b then nF d else a.2.2.2.1 k)
    by_cases h : k = b
    · rw [if_pos h, if_pos h, b_n hd]
    · rw [if_neg h, if_neg h]
  exact ⟨iT (a.2.2.2.1 b), hanA a (fun k => if k = b then nF d else a.2.2.2.1 k), hg.han, fun M h => c7c (k_put I7 h hb hd) rfl (fun M' h' => h'.hanA e), fun M h => c8c (m_put I8 h hb hd) rfl (fun M' h' => h'.hanA e)⟩
theorem fax_i {P Q : Ser} {p q : Fs} {c : Fp} (hp : eq9 P (iS p)) (hq : eq9 Q (iS q)) : eq9 (fax P Q (iT c)) (iS (fun k => p k + q k * c)) := fun k hk => by
  show fadd (P k) (fmul (Q k) (iT c)) = _
  rw [hp k hk, hq k hk]
  show fadd (iT _) (fmul (iT _) _) = _
  rw [b_mul, b_add]; rfl
theorem j_plus {g : Gl} {a : AbF} (hI : ∀ i, i < 174 → i ∈ g.2.2.2.2) (hg : Good a) {x y z : Int32} : Jn g a yX7_plus cX7_plus 4 3 yX8_plus cX8_plus 5 4 [.int x, .int y, .int z] := by
  have I7 : ∀ i, i < 142 → i ∈ g.2.2.2.2 := fun i h => hI i (by omega)
  have I8 : ∀ i, 142 ≤ i ∧ i < 174 → i ∈ g.2.2.2.2 := fun i h => hI i (by omega)
  rcases isN_dec (x := x) (n := 4) (by decide) with hx | ⟨r, hr, rfl⟩
  · exact Jn.no hg (fun M => k_plus_2 hx) (fun M => m_plus_2 hx)
  rcases isN_dec (x := y) (n := 9) (by decide) with hy | ⟨b, hb, rfl⟩
  · exact Jn.no hg (fun M => k_plus_3 hr (Or.inl hy)) (fun M => m_plus_3 hr (Or.inl hy))
  rcases isN_dec (x := z) (n := 9973) (by decide) with hz | ⟨d, hd, rfl⟩
  · exact Jn.no hg (fun M => k_plus_3 hr (Or.inr hz)) (fun M => m_plus_3 hr (Or.inr hz))
  have e1 : eq9 (fax (iS a.2.2.2.1) (PR (iA a) r b) (nI d)) (iS (fun k => a.2.2.2.1 k + PF a r b k * nF d)) := by rw [b_n hd]; exact fax_i eq9.rf (PR_i hg hr hb)
  have m1 : eq9 (fax (iS a.2.2.2.1) (MR (iA a) r b) (nI d)) (iS (fun k => a.2.2.2.1 k + PF a r b k * nF d)) := by rw [b_n hd]; exact fax_i eq9.rf (MR_i hg hr hb)
  exact ⟨iT (a.2.2.2.1 0 + PF a r b 0 * nF d), hanA a (fun k => a.2.2.2.1 k + PF a r b k * nF d), hg.han, fun M h => c7c (k_plus I7 h hr hb hd) (e1 0 (by decide)) (fun M' h' => h'.hanA e1), fun M h => c8c (m_plus I8 h hr hb hd) (m1 0 (by decide)) (fun M' h' => h'.hanA m1)⟩
theorem j_act {g : Gl} {a : AbF} (hI : ∀ i, i < 174 → i ∈ g.2.2.2.2) (hg : Good a) {x y : Int32} : Jn g a yX7_act cX7_act 3 3 yX8_act cX8_act 6 3 [.int x, .int y] := by
  have I7 : ∀ i, i < 142 → i ∈ g.2.2.2.2 := fun i h => hI i (by omega)
  have I8 : ∀ i, 142 ≤ i ∧ i < 174 → i ∈ g.2.2.2.2 := fun i h => hI i (by omega)
  rcases isN_dec (x := x) (n := 4) (by decide) with hx | ⟨r, hr, rfl⟩
  · exact Jn.no hg (fun M => k_act_2 hx) (fun M => m_act_2 hx)
  rcases isN_dec (x := y) (n := 3) (by decide) with hy | ⟨b, hb, rfl⟩
  · exact Jn.no hg (fun M => k_act_3 hr hy) (fun M => m_act_3 hr hy)
  have e1 : eq9 (ftake faC exC (iS a.2.2.2.1) (chS (iA a) r b)) (iS (tk (chF a r b) a.2.2.2.1)) := (ftake_cg eq9.rf eq9.rf eq9.rf (chS_i hg hr (by omega))).tr (ftake_i _ _)
  have m1 : eq9 (mact (mchS (iA a) r b) (iS a.2.2.2.1)) (iS (tk (chF a r b) a.2.2.2.1)) := (mact_cg (mchS_i hg hr (by omega)) eq9.rf).tr (mact_i _ _)
  exact ⟨iT (tk (chF a r b) a.2.2.2.1 0), hanA a (tk (chF a r b) a.2.2.2.1), hg.han, fun M h => c7c (k_act I7 h hr hb) (e1 0 (by decide)) (fun M' h' => h'.hanA e1), fun M h => c8c (m_act I8 h hr hb) (m1 0 (by decide)) (fun M' h' => h'.hanA m1)⟩
theorem j_raise {g : Gl} {a : AbF} (hI : ∀ i, i < 174 → i ∈ g.2.2.2.2) (hg : Good a) {x : Int32} : Jn g a yX7_raise cX7_raise 2 4 yX8_raise cX8_raise 2 3 [.int x] := by
  have I7 : ∀ i, i < 142 → i ∈ g.2.2.2.2 := fun i h => hI i (by omega)
  have I8 : ∀ i, 142 ≤ i ∧ i < 174 → i ∈ g.2.2.2.2 := fun i h => hI i (by omega)
  rcases isN_dec (x := x) (n := 4) (by decide) with hx | ⟨r, hr, rfl⟩
  · exact Jn.no hg (fun M => k_raise_2 hx) (fun M => m_raise_2 hx)
  by_cases hp : a.2.2.2.1 8 = 0
  · have hp7 : (iA a).2.2.2.1 8 = 0 := b_z.mpr hp
    have h1 := (hg.1 r hr).2.2
    have e1 : eq9 (funtake faC exC (iS a.2.2.2.1) (iS (a.2.2.1 r))) (iS (rsF (sDv sone (flF (a.2.2.1 r))) a.2.2.2.1)) := funtake_i h1 _
    have m1 : eq9 (mraise (iS (a.2.2.1 r)) (iS a.2.2.2.1)) (iS (rsF (sDv sone (flF (a.2.2.1 r))) a.2.2.2.1)) := mraise_i h1 hp
    exact ⟨horn (iS (rsF (sDv sone (flF (a.2.2.1 r))) a.2.2.2.1)) (nI 1) 9, hanA a (rsF (sDv sone (flF (a.2.2.1 r))) a.2.2.2.1), hg.han, fun M h => c7c (k_raise I7 h hr hp7) (horn_cg e1 9 (by decide)) (fun M' h' => h'.hanA e1), fun M h => c8c (m_raise I8 h hr hp7) (horn_cg m1 9 (by decide)) (fun M' h' => h'.hanA m1)⟩
  · have hp7 : (iA a).2.2.2.1 8 ≠ 0 := fun z => hp (b_z.mp z)
    exact ⟨-4, a, hg, fun M h => c7s h (k_raise_4 I7 h hr hp7) rfl, fun M h => c8c (m_raise_4 I8 h hr hp7) rfl (fun _ z => z)⟩
theorem j_shift {g : Gl} {a : AbF} (hI : ∀ i, i < 174 → i ∈ g.2.2.2.2) (hg : Good a) {x : Int32} : Jn g a yX7_shift cX7_shift 2 3 yX8_shift cX8_shift 4 2 [.int x] := by
  have I7 : ∀ i, i < 142 → i ∈ g.2.2.2.2 := fun i h => hI i (by omega)
  have I8 : ∀ i, 142 ≤ i ∧ i < 174 → i ∈ g.2.2.2.2 := fun i h => hI i (by omega)
  rcases isN_dec (x := x) (n := 9973) (by decide) with hx | ⟨b, hb, rfl⟩
  · exact Jn.no hg (fun M => k_shift_3 hx) (fun M => m_shift_3 hx)
  have e1 : eq9 (ftake faC exC (iS a.2.2.2.1) (fexp exC (nI b))) (iS (tk (exA (nF b)) a.2.2.2.1)) := by rw [b_n hb]; exact (ftake_cg eq9.rf eq9.rf eq9.rf (fexp_i _)).tr (ftake_i _ _)
  have m1 : eq9 (mshift (nI b) (iS a.2.2.2.1)) (iS (tk (exA (nF b)) a.2.2.2.1)) := by rw [b_n hb]; exact mshift_i _ _
  exact ⟨iT (tk (exA (nF b)) a.2.2.2.1 0), hanA a (tk (exA (nF b)) a.2.2.2.1), hg.han, fun M h => c7c (k_shift I7 h hb) (e1 0 (by decide)) (fun M' h' => h'.hanA e1), fun M h => c8c (m_shift I8 h hb) (m1 0 (by decide)) (fun M' h' => h'.hanA m1)⟩
theorem j_times {g : Gl} {a : AbF} (hI : ∀ i, i < 174 → i ∈ g.2.2.2.2) (hg : Good a) : Jn g a yX7_times cX7_times 1 3 yX8_times cX8_times 2 2 [] := by
  have I7 : ∀ i, i < 142 → i ∈ g.2.2.2.2 := fun i h => hI i (by omega)
  have I8 : ∀ i, 142 ≤ i ∧ i < 174 → i ∈ g.2.2.2.2 := fun i h => hI i (by omega)
  by_cases hp : a.2.2.2.1 8 = 0
  · have hp7 : (iA a).2.2.2.1 8 = 0 := b_z.mpr hp
    have e1 : eq9 (fup (iS a.2.2.2.1)) (iS (upF a.2.2.2.1)) := by rw [fup_i]; exact eq9.rf
    exact ⟨horn (fup (iS a.2.2.2.1)) (nI 1) 9, hanA a (upF a.2.2.2.1), hg.han, fun M h => c7c (k_times I7 h hp7) rfl (fun M' h' => h'.hanA e1), fun M h => c8c (m_times I8 h hp7) rfl (fun M' h' => h'.hanA e1)⟩
  · have hp7 : (iA a).2.2.2.1 8 ≠ 0 := fun z => hp (b_z.mp z)
    exact ⟨-4, a, hg, fun M h => c7s h (k_times_4 I7 h hp7) rfl, fun M h => c8c (m_times_4 I8 h hp7) rfl (fun _ z => z)⟩
theorem j_swap {g : Gl} {a : AbF} (hI : ∀ i, i < 174 → i ∈ g.2.2.2.2) (hg : Good a) {x y : Int32} : Jn g a yX7_swap cX7_swap 3 3 yX8_swap cX8_swap 3 4 [.int x, .int y] := by
  have I7 : ∀ i, i < 142 → i ∈ g.2.2.2.2 := fun i h => hI i (by omega)
  have I8 : ∀ i, 142 ≤ i ∧ i < 174 → i ∈ g.2.2.2.2 := fun i h => hI i (by omega)
  rcases isN_dec (x := x) (n := 4) (by decide) with hx | ⟨s, hs, rfl⟩
  · exact Jn.no hg (fun M => k_swap_2 (Or.inl hx)) (fun M => m_swap_2 (Or.inl hx))
  rcases isN_dec (x := y) (n := 4) (by decide) with hy | ⟨o, ho, rfl⟩
  · exact Jn.no hg (fun M => k_swap_2 (Or.inr hy)) (fun M => m_swap_2 (Or.inr hy))
  have e1 : eq9 (gsum (PR (iA a) o) (ftell (PR (iA a) s) (iS a.2.2.2.1)) 9) (iS (jnF (PF a o) (tlF (PF a s) a.2.2.2.1))) := gs_i hg ho (ft_i hg hs eq9.rf)
  have m1 : eq9 (mjoin (MR (iA a) o) (mtell (MR (iA a) s) (iS a.2.2.2.1))) (iS (jnF (PF a o) (tlF (PF a s) a.2.2.2.1))) := mj_i hg ho (mt_i hg hs eq9.rf)
  exact ⟨iT (jnF (PF a o) (tlF (PF a s) a.2.2.2.1) 0), hanA a (jnF (PF a o) (tlF (PF a s) a.2.2.2.1)), hg.han, fun M h => c7c (k_swap I7 h hs ho) (e1 0 (by decide)) (fun M' h' => h'.hanA e1), fun M h => c8c (m_swap I8 h hs ho) (m1 0 (by decide)) (fun M' h' => h'.hanA m1)⟩
theorem j_climb {g : Gl} {a : AbF} (hI : ∀ i, i < 174 → i ∈ g.2.2.2.2) (hg : Good a) {x : Int32} : Jn g a yX7_climb cX7_climb 2 3 yX8_climb cX8_climb 3 4 [.int x] := by
  have I7 : ∀ i, i < 142 → i ∈ g.2.2.2.2 := fun i h => hI i (by omega)
  have I8 : ∀ i, 142 ≤ i ∧ i < 174 → i ∈ g.2.2.2.2 := fun i h => hI i (by omega)
  rcases isN_dec (x := x) (n := 4) (by decide) with hx | ⟨r, hr, rfl⟩
  · exact Jn.no hg (fun M => k_climb_2 hx) (fun M => m_climb_2 hx)
  by_cases hp : a.2.2.2.1 8 = 0
  · have hp7 : (iA a).2.2.2.1 8 = 0 := b_z.mpr hp
    have e1 : eq9 (gsum (PR (iA a) r) (fup (ftell (PR (iA a) r) (iS a.2.2.2.1))) 9) (iS (jnF (PF a r) (upF (tlF (PF a r) a.2.2.2.1)))) := gs_i hg hr ((fup_cg (ft_i hg hr eq9.rf)).tr (by rw [fup_i]; exact eq9.rf))
    have m1 : eq9 (mjoin (MR (iA a) r) (fup (mtell (MR (iA a) r) (iS a.2.2.2.1)))) (iS (jnF (PF a r) (upF (tlF (PF a r) a.2.2.2.1)))) := mj_i hg hr ((fup_cg (mt_i hg hr eq9.rf)).tr (by rw [fup_i]; exact eq9.rf))
    exact ⟨iT (jnF (PF a r) (upF (tlF (PF a r) a.2.2.2.1)) 0), hanA a (jnF (PF a r) (upF (tlF (PF a r) a.2.2.2.1))), hg.han, fun M h => c7c (k_climb I7 h hr hp7) (e1 0 (by decide)) (fun M' h' => h'.hanA e1), fun M h => c8c (m_climb I8 h hr hp7) (m1 0 (by decide)) (fun M' h' => h'.hanA m1)⟩
  · have hp7 : (iA a).2.2.2.1 8 ≠ 0 := fun z => hp (b_z.mp z)
    exact ⟨-4, a, hg, fun M h => c7s h (k_climb_4 I7 h hr hp7) rfl, fun M h => c8c (m_climb_4 I8 h hr hp7) rfl (fun _ z => z)⟩
theorem j_weigh {g : Gl} {a : AbF} (hI : ∀ i, i < 174 → i ∈ g.2.2.2.2) (hg : Good a) {x : Int32} : Jn g a yX7_weigh cX7_weigh 3 3 yX8_weigh cX8_weigh 3 4 [.int x] := by
  have I7 : ∀ i, i < 142 → i ∈ g.2.2.2.2 := fun i h => hI i (by omega)
  have I8 : ∀ i, 142 ≤ i ∧ i < 174 → i ∈ g.2.2.2.2 := fun i h => hI i (by omega)
  rcases isN_dec (x := x) (n := 4) (by decide) with hx | ⟨r, hr, rfl⟩
  · exact Jn.no hg (fun M => k_weigh_2 hx) (fun M => m_weigh_2 hx)
  have e1 : eq9 (gsum (PR (iA a) r) (fwei (ftell (PR (iA a) r) (iS a.2.2.2.1))) 9) (iS (jnF (PF a r) (weF (tlF (PF a r) a.2.2.2.1)))) := gs_i hg hr ((fwei_cg (ft_i hg hr eq9.rf)).tr (fwei_i _))
  have m1 : eq9 (mjoin (MR (iA a) r) (fwei (mtell (MR (iA a) r) (iS a.2.2.2.1)))) (iS (jnF (PF a r) (weF (tlF (PF a r) a.2.2.2.1)))) := mj_i hg hr ((fwei_cg (mt_i hg hr eq9.rf)).tr (fwei_i _))
  exact ⟨iT (jnF (PF a r) (weF (tlF (PF a r) a.2.2.2.1)) 0), hanA a (jnF (PF a r) (weF (tlF (PF a r) a.2.2.2.1))), hg.han, fun M h => c7c (k_weigh I7 h hr) (e1 0 (by decide)) (fun M' h' => h'.hanA e1), fun M h => c8c (m_weigh I8 h hr) (m1 0 (by decide)) (fun M' h' => h'.hanA m1)⟩
theorem j_undo {g : Gl} {a : AbF} (hI : ∀ i, i < 174 → i ∈ g.2.2.2.2) (hg : Good a) : Jn g a yX7_undo cX7_undo 1 3 yX8_undo cX8_undo 1 1 [] := by
  have I7 : ∀ i, i < 142 → i ∈ g.2.2.2.2 := fun i h => hI i (by omega)
  have I8 : ∀ i, 142 ≤ i ∧ i < 174 → i ∈ g.2.2.2.2 := fun i h => hI i (by omega)
  cases hl : a.2.2.2.2.1 with
  | nil =>
    have hp : (iA a).2.2.2.2.1 = [] := by show a.2.2.2.2.1.map iS = []; rw [hl]; rfl
    exact ⟨-4, a, hg, fun M h => c7s h (k_undo_4 I7 h hp) rfl, fun M h => c8s h (m_undo_4 I8 h hp) rfl⟩
  | cons p past =>
    have hp : (iA a).2.2.2.2.1 = iS p :: past.map iS := by show a.2.2.2.2.1.map iS = _; rw [hl]; rfl
    exact ⟨nI past.length, (a.1, a.2.1, a.2.2.1, p, past, a.2.2.2.2.2), hg, fun M h => c7c (k_undo I7 h hp) (by rw [List.length_map]) (fun _ z => z), fun M h => c8c (m_undo I8 h hp) (by rw [List.length_map]) (fun _ z => z)⟩
theorem j_hand {g : Gl} {a : AbF} (hI : ∀ i, i < 174 → i ∈ g.2.2.2.2) (hg : Good a) {x : Int32} : Jn g a yX7_hand cX7_hand 2 1 yX8_hand cX8_hand 2 2 [.int x] := by
  have I7 : ∀ i, i < 142 → i ∈ g.2.2.2.2 := fun i h => hI i (by omega)
  have I8 : ∀ i, 142 ≤ i ∧ i < 174 → i ∈ g.2.2.2.2 := fun i h => hI i (by omega)
  rcases isN_dec (x := x) (n := 9) (by decide) with hx | ⟨b, hb, rfl⟩
  · exact Jn.no hg (fun M => k_hand_3 hx) (fun M => m_hand_3 hx)
  exact ⟨iT (a.2.2.2.1 b), a, hg, fun M h => c7s h (k_hand I7 h hb) rfl, fun M h => c8s h (m_hand I8 h hb) rfl⟩
theorem j_at {g : Gl} {a : AbF} (hI : ∀ i, i < 174 → i ∈ g.2.2.2.2) (hg : Good a) {x : Int32} : Jn g a yX7_at cX7_at 2 2 yX8_at cX8_at 2 2 [.int x] := by
  have I7 : ∀ i, i < 142 → i ∈ g.2.2.2.2 := fun i h => hI i (by omega)
  have I8 : ∀ i, 142 ≤ i ∧ i < 174 → i ∈ g.2.2.2.2 := fun i h => hI i (by omega)
  rcases isN_dec (x := x) (n := 9973) (by decide) with hx | ⟨b, hb, rfl⟩
  · exact Jn.no hg (fun M => k_at_3 hx) (fun M => m_at_3 hx)
  exact ⟨horn (iS a.2.2.2.1) (nI b) 9, a, hg, fun M h => c7s h (k_at I7 h hb) rfl, fun M h => c8s h (m_at I8 h hb) rfl⟩
theorem j_expand {g : Gl} {a : AbF} (hI : ∀ i, i < 174 → i ∈ g.2.2.2.2) (hg : Good a) {x y : Int32} : Jn g a yX7_expand cX7_expand 3 3 yX8_expand cX8_expand 3 4 [.int x, .int y] := by
  have I7 : ∀ i, i < 142 → i ∈ g.2.2.2.2 := fun i h => hI i (by omega)
  have I8 : ∀ i, 142 ≤ i ∧ i < 174 → i ∈ g.2.2.2.2 := fun i h => hI i (by omega)
  rcases isN_dec (x := x) (n := 4) (by decide) with hx | ⟨r, hr, rfl⟩
  · exact Jn.no hg (fun M => k_expand_2 hx) (fun M => m_expand_2 hx)
  rcases isN_dec (x := y) (n := 9) (by decide) with hy | ⟨b, hb, rfl⟩
  · exact Jn.no hg (fun M => k_expand_3 hr hy) (fun M => m_expand_3 hr hy)
  exact ⟨iT (tlF (PF a r) a.2.2.2.1 b), a, hg, fun M h => c7c (k_expand I7 h hr hb) (ft_i hg hr eq9.rf b hb) (fun _ z => z), fun M h => c8c (m_expand I8 h hr hb) (mt_i hg hr eq9.rf b hb) (fun _ z => z)⟩
theorem j_sum {g : Gl} {a : AbF} (hI : ∀ i, i < 174 → i ∈ g.2.2.2.2) (hg : Good a) {x : Int32} : Jn g a yX7_sum cX7_sum 4 2 yX8_sum cX8_sum 4 2 [.int x] := by
  have I7 : ∀ i, i < 142 → i ∈ g.2.2.2.2 := fun i h => hI i (by omega)
  have I8 : ∀ i, 142 ≤ i ∧ i < 174 → i ∈ g.2.2.2.2 := fun i h => hI i (by omega)
  rcases isN_dec (x := x) (n := 501) (by decide) with hx | ⟨b, hb, rfl⟩
  · exact Jn.no hg (fun M => k_sum_3 hx) (fun M => m_sum_3 hx)
  exact ⟨fsm (iS a.2.2.2.1) b, a, hg, fun M h => c7s h (k_sum I7 h hb) rfl, fun M h => c8s h (m_sum I8 h hb) rfl⟩
theorem j_keep {g : Gl} {a : AbF} (hI : ∀ i, i < 174 → i ∈ g.2.2.2.2) (hg : Good a) {x : Int32} : Jn g a yX7_keep cX7_keep 3 2 yX8_keep cX8_keep 2 1 [.int x] := by
  have I7 : ∀ i, i < 142 → i ∈ g.2.2.2.2 := fun i h => hI i (by omega)
  have I8 : ∀ i, 142 ≤ i ∧ i < 174 → i ∈ g.2.2.2.2 := fun i h => hI i (by omega)
  rcases isN_dec (x := x) (n := 2) (by decide) with hx | ⟨b, hb, rfl⟩
  · exact Jn.no hg (fun M => k_keep_3 hx) (fun M => m_keep_3 hx)
  have e : va_up (iA a).2.2.2.2.2 b (some ((iA a).2.1, (iA a).2.2.1, (iA a).2.2.2.1)) = fun k => (va_up a.2.2.2.2.2 b (some (a.2.1, a.2.2.1, a.2.2.2.1)) k).map iK := funext (fun k => by
    by_cases h : k = b
    · subst h; rw [va_up_self, va_up_self]; rfl
    · rw [va_up_ne _ _ h, va_up_ne _ _ h]; rfl)
  refine ⟨nI (fsz (iS a.2.2.2.1) 9), (a.1, a.2.1, a.2.2.1, a.2.2.2.1, a.2.2.2.2.1, va_up a.2.2.2.2.2 b (some (a.2.1, a.2.2.1, a.2.2.2.1))), ⟨hg.1, fun k x hx => ?_, hg.2.2⟩, fun M h => c7c (k_keep I7 h hb) rfl (fun M' h' => h'.cg rfl (fun _ _ => eq9.rf) (fun _ _ => eq9.rf) eq9.rf rfl e), fun M h => c8c (m_keep I8 h hb) rfl (fun M' h' => h'.cg rfl (fun _ _ => eq9.rf) (fun _ _ => eq9.rf) eq9.rf rfl e)⟩
  have hx' : va_up a.2.2.2.2.2 b (some (a.2.1, a.2.2.1, a.2.2.2.1)) k = some x := hx
  by_cases h : k = b
  · subst h; rw [va_up_self] at hx'; cases hx'; exact hg.1
  · rw [va_up_ne _ _ h] at hx'; exact hg.2.1 k x hx'
theorem j_back {g : Gl} {a : AbF} (hI : ∀ i, i < 174 → i ∈ g.2.2.2.2) (hg : Good a) {x : Int32} : Jn g a yX7_back cX7_back 3 6 yX8_back cX8_back 2 1 [.int x] := by
  have I7 : ∀ i, i < 142 → i ∈ g.2.2.2.2 := fun i h => hI i (by omega)
  have I8 : ∀ i, 142 ≤ i ∧ i < 174 → i ∈ g.2.2.2.2 := fun i h => hI i (by omega)
  rcases isN_dec (x := x) (n := 2) (by decide) with hx | ⟨b, hb, rfl⟩
  · exact Jn.no hg (fun M => k_back_3 hx) (fun M => m_back_3 hx)
  cases hk : a.2.2.2.2.2 b with
  | none =>
    have hp : (iA a).2.2.2.2.2 b = none := by show (a.2.2.2.2.2 b).map iK = none; rw [hk]; rfl
    exact ⟨-4, a, hg, fun M h => c7s h (k_back_4 I7 h hb hp) rfl, fun M h => c8s h (m_back_4 I8 h hb hp) rfl⟩
  | some x =>
    obtain ⟨G, F, p⟩ := x
    have hp : (iA a).2.2.2.2.2 b = some ((fun r => iS (G r)), (fun r => iS (F r)), iS p) := by show (a.2.2.2.2.2 b).map iK = _; rw [hk]; rfl
    have hG := hg.2.1 b _ hk
    have eG : ∀ (X Y : Nat → Fs) r, r < 4 → eq9 (if r < 4 then iS (X r) else iS (Y r)) (iS (if r < 4 then X r else Y r)) := fun X Y r hr => by rw [if_pos hr, if_pos hr]; exact eq9.rf
    refine ⟨nI (fsz (iS p) 9), (a.1, (fun r => if r < 4 then G r else a.2.1 r), (fun r => if r < 4 then F r else a.2.2.1 r), p, [], a.2.2.2.2.2), ⟨fun r hr => ?_, hg.2⟩, fun M h => c7c (k_back I7 h hb hp) rfl (fun M' h' => h'.cg rfl (eG G a.2.1) (eG F a.2.2.1) eq9.rf rfl rfl), fun M h => c8c (m_back I8 h hb hp) rfl (fun M' h' => h'.cg rfl (eG G a.2.1) (eG F a.2.2.1) eq9.rf rfl rfl)⟩
    show (if r < 4 then G r else a.2.1 r) 0 ≠ 0 ∧ (if r < 4 then F r else a.2.2.1 r) 0 = 0 ∧ (if r < 4 then F r else a.2.2.1 r) 1 ≠ 0
    rw [if_pos hr, if_pos hr]; exact hG r hr
theorem j_count {g : Gl} {a : AbF} (hI : ∀ i, i < 174 → i ∈ g.2.2.2.2) (hg : Good a) {x : Int32} : Jn g a yX7_count cX7_count 2 1 yX8_count cX8_count 2 1 [.int x] := by
  have I7 : ∀ i, i < 142 → i ∈ g.2.2.2.2 := fun i h => hI i (by omega)
  have I8 : ∀ i, 142 ≤ i ∧ i < 174 → i ∈ g.2.2.2.2 := fun i h => hI i (by omega)
  rcases isN_dec (x := x) (n := 7) (by decide) with hx | ⟨b, hb, rfl⟩
  · exact Jn.no hg (fun M => k_count_3 hx) (fun M => m_count_3 hx)
  have hb4 : b = 0 ∨ b = 1 ∨ b = 2 ∨ ∃ r, r < 4 ∧ b = r + 3 := by
    by_cases h : b < 3
    · omega
    · exact Or.inr (Or.inr (Or.inr ⟨b - 3, by omega, by omega⟩))
  rcases hb4 with rfl | rfl | rfl | ⟨r, hr, rfl⟩
  · exact ⟨fdeg (iS a.2.2.2.1) 9, a, hg, fun M h => c7s h (k_count0 I7 h) rfl, fun M h => c8s h (m_count0 I8 h) rfl⟩
  · exact ⟨nI (a.2.2.2.2.1.map iS).length, a, hg, fun M h => c7s h (k_count1 I7 h) rfl, fun M h => c8s h (m_count1 I8 h) rfl⟩
  · exact ⟨nI a.1.1, a, hg, fun M h => c7s h (k_count2 I7 h) rfl, fun M h => c8s h (m_count2 I8 h) rfl⟩
  · exact ⟨fsec (iS (a.2.2.1 r)) 7, a, hg, fun M h => c7s h (k_count I7 h hr) rfl, fun M h => c8s h (m_count I8 h hr) rfl⟩

