/-! THE CLAIM OUT OF ONE WALK OF THE LAW'S BODY. Your part is whole_start (and what it stands on); all else here is the same for every law, but numbers. -/
def R_law : String := "ShadowRowDeskLaw"
def lw_P (b : Addr) (xs : List Int32) (args : Array Value) (s : State) : Prop := args = #[.ref b] ∧ s.IntsAt b xs ∧ xs.length ≤ 2560 ∧ (Jvm.Cond.and given_1 narrow_1).before args s = true
def lw_Q (_ : Array Value) (s : State) (o : Outcome) (t : State) : Prop := o = .returned (some (.int 1)) ∧ Framed s o t [] 600000 7302249
def lw_Z (below : List Frame) (a : Array Value) (s : State) : State → Prop := fun t => ∃ o, t.status = .running ∧ Ended t below o ∧ lw_Q a s o t
/-- the law's own end, with 1 on the stack, nothing written that was there before, its room as the claim has it -/
theorem lw_ret {p : Program} {l : Launch} {e : Env} {s : State} {m : MethodId} {below : List Frame} {meth : Method} {c : Code} {b : Nat} (hx : p.tables.exec = Jvm.exec) (hb : c.code = code) (hr : meth.sig.returnType = ret) (hlocks : meth.locks = false) {pc : Nat} {H : Heap} {ls : Array Slot} (hdg : decode code pc = .ok (.ireturn, 1)) : W p l e room_1 s m #[Value.ref b] below meth c H [] 600000 7302249 (lw_Z below #[Value.ref b] s) (F0 m pc ls [.int 1]) := by
  intro T hT X
  obtain ⟨fs, hret, hrun, hended, hW, hframe⟩ := X.leave (v := some (.int 1)) (hlocks := hlocks) (fun h => by rw [hr] at h; cases h)
  have hmeth' : T.vm.method? m = some meth := X.method'
  refine ⟨T.setFrames fs, ?_, .returned (some (.int 1)), hrun, hended, rfl, ⟨_, rfl⟩, hW, hframe⟩
  jvm_step X.here [X.here.top, hx, hb, hdg, hmeth', hr, ret, narrow_b1]
  (try refine ⟨rfl, ?_⟩); (try refine ⟨rfl, ?_⟩)
  first | (intro acts; rw [hret _ acts rfl rfl rfl]) | rw [hret _ _ rfl rfl rfl]
  exact Steps.refl _
/-- what holds at the law's entry: the machine, the code, the tables' words (any of lw_tbl by 'hts w (by decide +kernel)'), the script of L ints xs at the cell b, what the Statement gives of the start (any of its parts by flat_of_before) -/
def lw_At (p : Program) (s : State) (m : MethodId) (meth : Method) (c : Code) (b L : Nat) (xs : Nat → Int32) : Prop :=
  p.tables.exec = Jvm.exec ∧ c.code = code ∧ meth.sig.returnType = ret ∧ c.maxLocals = 4 ∧ s.vm.findClass R_law = some m.cls ∧ (∀ w ∈ lw_tbl, w.before #[Value.ref b] s = true) ∧ va_X b L xs s s.heap ∧ b < s.heap.size ∧ meth.locks = false ∧ (Jvm.Cond.and given_1 narrow_1).before #[Value.ref b] s = true
section LW2
variable {l : Launch} {D : va_G} {y : Nat → ClassId} {ad : Nat → Nat} {A : Nat → Prop} {Q : State → Prop} {κ : Ka} {b Ls : Nat} {xs : Nat → Int32}
theorem lw_case {n k : Nat} (hX : LwH κ A b Ls xs) (hn : n + 5 ≤ Ls) (nx : Nx l D y ad A Q κ b n) {a : AbF} {M : Mem} (hg : Good a) (h7 : Rc (iA a) M) (h8 : Rm (iA a) M) (hk : k < 32) : UL l D y ad A Q κ b M 32 n [.int (nI k)] := by
  match k, hk with
  | 0, _ => exact U.tsw (off := 144) (tgt := 176) dL_law_32 (by decide) (by decide) (by decide) (by decide) (w_write hX hn nx hg h7 h8)
  | 1, _ => exact U.tsw (off := 167) (tgt := 199) dL_law_32 (by decide) (by decide) (by decide) (by decide) (w_erase hX hn nx hg h7 h8)
  | 2, _ => exact U.tsw (off := 180) (tgt := 212) dL_law_32 (by decide) (by decide) (by decide) (by decide) (w_fault hX hn nx hg h7 h8)
  | 3, _ => exact U.tsw (off := 193) (tgt := 225) dL_law_32 (by decide) (by decide) (by decide) (by decide) (w_read hX hn nx hg h7 h8)
  | 4, _ => exact U.tsw (off := 216) (tgt := 248) dL_law_32 (by decide) (by decide) (by decide) (by decide) (w_compose hX hn nx hg h7 h8)
  | 5, _ => exact U.tsw (off := 259) (tgt := 291) dL_law_32 (by decide) (by decide) (by decide) (by decide) (w_invert hX hn nx hg h7 h8)
  | 6, _ => exact U.tsw (off := 292) (tgt := 324) dL_law_32 (by decide) (by decide) (by decide) (by decide) (w_part hX hn nx hg h7 h8)
  | 7, _ => exact U.tsw (off := 335) (tgt := 367) dL_law_32 (by decide) (by decide) (by decide) (by decide) (w_move hX hn nx hg h7 h8)
  | 8, _ => exact U.tsw (off := 378) (tgt := 410) dL_law_32 (by decide) (by decide) (by decide) (by decide) (w_stretch hX hn nx hg h7 h8)
  | 9, _ => exact U.tsw (off := 421) (tgt := 453) dL_law_32 (by decide) (by decide) (by decide) (by decide) (w_series hX hn nx hg h7 h8)
  | 10, _ => exact U.tsw (off := 464) (tgt := 496) dL_law_32 (by decide) (by decide) (by decide) (by decide) (w_polynomial hX hn nx hg h7 h8)
  | 11, _ => exact U.tsw (off := 507) (tgt := 539) dL_law_32 (by decide) (by decide) (by decide) (by decide) (w_value hX hn nx hg h7 h8)
  | 12, _ => exact U.tsw (off := 550) (tgt := 582) dL_law_32 (by decide) (by decide) (by decide) (by decide) (w_connect hX hn nx hg h7 h8)
  | 13, _ => exact U.tsw (off := 603) (tgt := 635) dL_law_32 (by decide) (by decide) (by decide) (by decide) (w_differ hX hn nx hg h7 h8)
  | 14, _ => exact U.tsw (off := 636) (tgt := 668) dL_law_32 (by decide) (by decide) (by decide) (by decide) (w_take hX hn nx hg h7 h8)
  | 15, _ => exact U.tsw (off := 669) (tgt := 701) dL_law_32 (by decide) (by decide) (by decide) (by decide) (w_put hX hn nx hg h7 h8)
  | 16, _ => exact U.tsw (off := 702) (tgt := 734) dL_law_32 (by decide) (by decide) (by decide) (by decide) (w_plus hX hn nx hg h7 h8)
  | 17, _ => exact U.tsw (off := 745) (tgt := 777) dL_law_32 (by decide) (by decide) (by decide) (by decide) (w_act hX hn nx hg h7 h8)
  | 18, _ => exact U.tsw (off := 778) (tgt := 810) dL_law_32 (by decide) (by decide) (by decide) (by decide) (w_raise hX hn nx hg h7 h8)
  | 19, _ => exact U.tsw (off := 801) (tgt := 833) dL_law_32 (by decide) (by decide) (by decide) (by decide) (w_shift hX hn nx hg h7 h8)
  | 20, _ => exact U.tsw (off := 824) (tgt := 856) dL_law_32 (by decide) (by decide) (by decide) (by decide) (w_times hX hn nx hg h7 h8)
  | 21, _ => exact U.tsw (off := 837) (tgt := 869) dL_law_32 (by decide) (by decide) (by decide) (by decide) (w_swap hX hn nx hg h7 h8)
  | 22, _ => exact U.tsw (off := 870) (tgt := 902) dL_law_32 (by decide) (by decide) (by decide) (by decide) (w_climb hX hn nx hg h7 h8)
  | 23, _ => exact U.tsw (off := 893) (tgt := 925) dL_law_32 (by decide) (by decide) (by decide) (by decide) (w_weigh hX hn nx hg h7 h8)
  | 24, _ => exact U.tsw (off := 916) (tgt := 948) dL_law_32 (by decide) (by decide) (by decide) (by decide) (w_undo hX hn nx hg h7 h8)
  | 25, _ => exact U.tsw (off := 929) (tgt := 961) dL_law_32 (by decide) (by decide) (by decide) (by decide) (w_hand hX hn nx hg h7 h8)
  | 26, _ => exact U.tsw (off := 952) (tgt := 984) dL_law_32 (by decide) (by decide) (by decide) (by decide) (w_at hX hn nx hg h7 h8)
  | 27, _ => exact U.tsw (off := 975) (tgt := 1007) dL_law_32 (by decide) (by decide) (by decide) (by decide) (w_expand hX hn nx hg h7 h8)
  | 28, _ => exact U.tsw (off := 1008) (tgt := 1040) dL_law_32 (by decide) (by decide) (by decide) (by decide) (w_sum hX hn nx hg h7 h8)
  | 29, _ => exact U.tsw (off := 1031) (tgt := 1063) dL_law_32 (by decide) (by decide) (by decide) (by decide) (w_keep hX hn nx hg h7 h8)
  | 30, _ => exact U.tsw (off := 1054) (tgt := 1086) dL_law_32 (by decide) (by decide) (by decide) (by decide) (w_back hX hn nx hg h7 h8)
  | 31, _ => exact U.tsw (off := 1077) (tgt := 1109) dL_law_32 (by decide) (by decide) (by decide) (by decide) (w_count hX hn nx hg h7 h8)
  | k + 32, h => exact absurd h (by omega)
theorem lw_loop (hX : LwH κ A b Ls xs) (kend : ∀ n M, UL l D y ad A Q κ b M 1138 n []) : ∀ (d n : Nat) (a : AbF) (M : Mem), n ≤ Ls → Ls < n + d → Good a → Rc (iA a) M → Rm (iA a) M → UL l D y ad A Q κ b M 18 n [] := by
  have hL := hX.2.2.2
  intro d
  induction d with
  | zero => intro n a M h1 h2; omega
  | succ d ih =>
    intro n a M h1 h2 hg h7 h8
    have nx : n + 5 ≤ Ls → Nx l D y ad A Q κ b n := fun hn a M hg h7 h8 => by
      refine U.iinc (v := nI (n + 5)) dL_law_1132 (by decide) rfl (by rw [show Int32.ofInt 5 = nI 5 from rfl, nI_add]) ?_
      refine U.goto (tgt := 18) dL_law_1135 (by decide) ?_
      exact ih (n + 5) a M hn (by omega) hg h7 h8
    refine U.iload_n dL_law_18 rfl ?_
    refine U.aload_n dL_law_19 rfl ?_
    refine U.slen dL_law_20 hX.1 hX.2.1 hX.2.2.1 ?_
    refine U.iconst (v := nI 5) dL_law_21 rfl ?_
    refine U.isub dL_law_22 ?_
    refine U.icmp_gt (tgt := 1138) dL_law_23 (by decide) (fun _ => kend n M) (fun h => ?_)
    have hn : n + 5 ≤ Ls := Nat.not_lt.mp (fun z => h ((gt5 hL (by omega)).mpr z))
    refine U.aload_n dL_law_26 rfl ?_
    refine U.iload_n dL_law_27 rfl ?_
    refine U.sld dL_law_28 hX.1 hX.2.1 hX.2.2.1 hX.2.2.2 (by omega) ?_
    refine U.bipush (v := 31) dL_law_29 (by decide) ?_
    refine U.iand dL_law_31 ?_
    obtain ⟨k, hk, e⟩ := and31 (xs n)
    rw [e]
    exact lw_case hX hn (nx hn) hg h7 h8 hk
end LW2
/-- from the entry to the end -/
theorem whole_start {p : Program} {e : Env} {s : State} {m : MethodId} {below : List Frame} {meth : Method} {c : Code} (l : Launch) (hflags : l.flags = flags0) {b L : Nat} {xs : Nat → Int32} (hL : L ≤ 2560) (C0 : lw_At p s m meth c b L xs) : W p l e room_1 s m #[Value.ref b] below meth c s.heap [] 0 0 (lw_Z below #[Value.ref b] s) (entryFrame m ([Value.ref b] : List Value).toArray 4) := by
  obtain ⟨hexec, hcode, hret, hml, hown, hts, hXs, hbl, hlk, hgv⟩ := C0
  obtain ⟨D, y, hK⟩ := lw_cls hts
  have hao : AOk s := lw_aok hts
  have hN := lw_nws hts
  have E : Kx (l, D, y, (fun _ => 0), []) cL_law 4 RL (some .boolean) (p, e, s, m, #[Value.ref b], below, meth, c) := ⟨hexec, hcode, hml, hown, fun w hw => hts w (List.mem_filter.mp hw).1, hK, hN, hlk, hret⟩
  have hX : LwH (p, e, s, m, #[Value.ref b], below, meth, c) (fun q => s.heap.size ≤ q) b L xs := ⟨hXs, hbl, Nat.not_le.mpr hbl, hL⟩
  have kend : ∀ (ad : Nat → Nat) (n : Nat) (M : Mem), UL l D y ad (fun q => s.heap.size ≤ q) (lw_Z below #[Value.ref b] s) (p, e, s, m, #[Value.ref b], below, meth, c) b M 1138 n [] := fun ad n M => by
    refine U.iconst (v := 1) dL_law_1138 rfl ?_
    exact fun E H locs ls w hls => va_forget (fun q hq => w.2.2.2.2 q hq) (W.widen (by decide) (by decide) (lw_ret E.1 E.2.1 E.2.2.2.2.2.2.2.2 E.2.2.2.2.2.2.2.1 dL_law_1139))
  have key : U (l, D, y, (fun _ => 0), []) (fun q => s.heap.size ≤ q) cL_law 4 RL (some .boolean) room_1 (lw_Z below #[Value.ref b] s) (p, e, s, m, #[Value.ref b], below, meth, c) (fun _ => .inr (0, [])) (0, 0) 0 (entL [.ref b] 4) [] := by
    generalize hκ : ((p, e, s, m, #[Value.ref b], below, meth, c) : Ka) = κ at *
    have hA : ∀ q, κ.2.2.1.heap.size ≤ q → (fun q => s.heap.size ≤ q) q := fun q h => by rw [← hκ] at h; exact h
    have hao : AOk κ.2.2.1 := by rw [← hκ]; exact hao
    refine U.newF (i := 0) (ci := 6) (C := RX7) (T := TX7) (N := 10) (fs := [.null, .null, .null, .null, .null, .null, .null, .null, .null, .null]) tyX7 dL_law_0 hA inX7 tyX7_ok lcL_7 ib_X7 ini_X7 rfl (by decide) (Nat.le_of_ble_eq_true rfl) (Nat.le_of_ble_eq_true rfl) List.not_mem_nil (fun ad1 ce1 h1 h2 h3 => ?_)
    clear h1 h2
    refine U.dup dL_law_3 rfl ?_
    refine U.callI (g := (l, D, y, ad1, [] ++ [0])) (kc := (1, 10)) (I2 := [0]) (I1 := List.range' 1 141) (o := 0) (ce0 := ce1) (av := []) (d2 := 6) (mc := 141) (ms := 1550) dL_law_4 hA hao (fun i hi => ⟨hi, rfl⟩) (by decide) (fun i hi z => by rw [List.mem_range'_1] at hi; rw [List.mem_singleton.mp z] at hi; omega) (i_X7 h3) rfl lkL_9 im_X7_init cd_X7_init ini_X7 hd_X7_init ⟨(Nat.le_of_ble_eq_true rfl), (Nat.le_of_ble_eq_true rfl)⟩ rfl (Nat.le_of_ble_eq_true rfl) (Nat.le_of_ble_eq_true rfl) (Nat.le_of_ble_eq_true rfl) (fun ad2 ce2 adP ceP hP hE hF hG => ?_)
    show U (l, D, y, ad2, IN 0 1 142) _ _ _ _ _ _ _ _ _ (142, 1560) _ _ _
    obtain ⟨M, hM, hG7⟩ := hP
    have e2 : ad2 0 = ad1 0 := hF 0 (List.mem_singleton.mpr rfl)
    have hE1 : ∀ j, j < 142 → ad2 j = adP j ∧ ce2 j = ceP j := fun j hj => hE j (by rw [List.mem_append, List.mem_singleton, List.mem_range'_1]; omega)
    have c2 : ∀ i, i < 142 → ce2 i = cont y ad2 M i := fun i hi => by
      rw [(hE1 i hi).2, hM i hi]; exact (cont_adA hi (fun j hj => (hE1 j hj).1)).symm
    clear hM hE hF hG hE1 h3
    refine U.astore_n dL_law_7 (by decide) ?_
    refine U.newF (i := 142) (ci := 7) (C := RX8) (T := TX8) (N := 37) (fs := [.null, .null, .null, .null, .int 0, .null, .null, .null, .int 0, .null, .null, .null, .null, .null, .null, .int 0, .int 0, .int 0, .null, .null, .null, .null, .null, .null, .null, .null, .null, .int 0, .null, .null, .null, .null, .null, .null, .null, .null, .null]) tyX8 dL_law_8 hA inX8 tyX8_ok lcL_10 ib_X8 ini_X8 rfl (by decide) (Nat.le_of_ble_eq_true rfl) (Nat.le_of_ble_eq_true rfl) (IN0n (by decide) (by decide)) (fun ad3 ce3 h1 h2 h3 => ?_)
    rw [IN_succ (by decide)]
    refine U.dup dL_law_11 rfl ?_
    refine U.callI (g := (l, D, y, ad3, IN 0 1 143)) (kc := (143, 1597)) (I2 := [142]) (I1 := List.range' 143 31) (o := 142) (ce0 := ce3) (av := []) (d2 := 1) (mc := 31) (ms := 899) dL_law_12 hA hao (fun i hi => ⟨IN0 (by rw [List.mem_singleton] at hi; omega), rfl⟩) (by decide) (fun i hi => IN0n (by decide) (by rw [List.mem_range'_1] at hi; omega)) (i_X8 h3) rfl lkL_12 im_X8_init cd_X8_init ini_X8 hd_X8_init ⟨(Nat.le_of_ble_eq_true rfl), (Nat.le_of_ble_eq_true rfl)⟩ rfl (Nat.le_of_ble_eq_true rfl) (Nat.le_of_ble_eq_true rfl) (Nat.le_of_ble_eq_true rfl) (fun ad4 ce4 adP ceP hP hE hF hG => ?_)
    show U (l, D, y, ad4, IN 0 1 174) _ _ _ _ _ _ _ _ _ (174, 2496) _ _ _
    have hF1 : ∀ j, j < 143 → ad4 j = ad3 j := fun j hj => hF j (IN0 hj)
    have hF2 : ∀ j, j < 142 → ad4 j = ad2 j := fun j hj => (hF1 j (by omega)).trans (h1 j (IN0 hj))
    have hE1 : ∀ j, 142 ≤ j → j < 174 → ad4 j = adP j ∧ ce4 j = ceP j := fun j g1 g2 => hE j (by rw [List.mem_append, List.mem_singleton, List.mem_range'_1]; omega)
    refine U.wcg (ad' := ad4) (ce' := cont y ad4 (mix 142 M mem8)) (fun i hi => ⟨rfl, ?_⟩) ?_
    · rcases (IN_mem (by decide)).mp hi with z | z
      · subst z
        rw [hG 0 (IN0 (by decide)) (by simp), h2 0 (IN0 (by decide)), c2 0 (by decide), cont_adA (ad := ad2) (ad' := ad4) (by decide) hF2]
        exact cont_congr (show M 0 = mix 142 M mem8 0 from (if_pos (by decide)).symm)
      · by_cases e : i < 142
        · rw [hG i (IN0 (by omega)) (by simp; omega), h2 i (IN0 e), c2 i e, ← cont_adA (ad := ad2) (ad' := ad4) e hF2]
          exact cont_congr (show M i = mix 142 M mem8 i from (if_pos e).symm)
        · rw [(hE1 i (by omega) z.2).2, hP i (by omega) z.2, ← cont_adM (ad := adP) (ad' := ad4) (by omega) z.2 (fun j g1 g2 => (hE1 j g1 g2).1)]
          exact cont_congr (show mem8 i = mix 142 M mem8 i from (if_neg e).symm)
    refine U.astore_n dL_law_15 (by decide) ?_
    refine U.iconst (v := nI 0) dL_law_16 rfl ?_
    refine U.istore_n dL_law_17 (by decide) ?_
    have ea : ad1 0 = ad4 0 := e2.symm.trans (hF2 0 (by decide)).symm
    have eb : ad3 142 = ad4 142 := (hF1 142 (by decide)).symm
    rw [ea, eb]
    exact lw_loop hX (kend ad4) (L + 1) 0 a0 _ (Nat.zero_le _) (by omega) a0_good ((a0_Rc hG7).far (fun j hj => if_pos hj)) (a0_Rm.far (fun j hj => if_neg (Nat.not_lt.mpr hj)))
  have hcat : ∀ v ∈ [Value.ref b], v.category = 1 := by simp [Value.category]
  have hl := lv_entry ([Value.ref b]) (n := 4) (by rw [cat1_sl _ hcat, List.length_map]; exact Nat.le_of_ble_eq_true rfl)
  rw [lg_entry_eq]
  refine key E s.heap [] _ ⟨fun k q hq => by simp [wl] at hq, ⟨fun i j p q hp => by simp [wl] at hp, fun k q hq => by simp [wl] at hq⟩, va_S.rf⟩ ⟨hl.1, hl.2.1, fun i v hiv => ?_⟩
  match i, hiv with
  | 0, hiv => cases hiv; exact ⟨rfl, hl.2.2 _ (cat1_args [Value.ref b] 0 hcat 0 _ rfl)⟩
  | 1, hiv => cases hiv
  | 2, hiv => cases hiv
  | 3, hiv => cases hiv
  | n + 4, hiv => simp [entL] at hiv
set_option maxHeartbeats 4000000 in
theorem lw_walk (l : Launch) (hflags : l.flags = flags0) (b : Addr) (xs : List Int32) : MetFree l x (headSpec (Jvm.Cond.code x code maxLocals ret :: tables_1) room_1) (lw_P b xs) (fun _ _ _ _ _ => True) lw_Q := by
  refine MetFree.of_bodyS (code := code) (maxLocals := maxLocals) (ret := ret) (by decide) ?_ ?_
  · intro args s m h hn
    obtain ⟨meth, c, h1, h2, h3, h4, h5, h6, -, -⟩ := Cond.code_spec hn (atoms_spec (ws := Jvm.Cond.code x code maxLocals ret :: tables_1) h _ List.mem_cons_self)
    exact ⟨meth, c, h1, h2, h3, h4, h5, h6⟩
  · intro p e s m args below meth c s₁ B hml0 hP _
    obtain ⟨rfl, hx, hbd, hgv⟩ := hP
    obtain ⟨scr, harrAt, hlist, hof, hsmall⟩ := hx
    obtain ⟨hcb, hkn, -, -⟩ := State.arrayAt?_spec harrAt
    have hown : s.vm.findClass R_law = some m.cls := findClass_of_methodNamed B.named
    have hts0 : ∀ c ∈ (Jvm.Cond.code x code maxLocals ret :: tables_1), c.before #[Value.ref b] s = true := atoms_spec (ws := Jvm.Cond.code x code maxLocals ret :: tables_1) B.pre
    have hts : ∀ w ∈ lw_tbl, w.before #[Value.ref b] s = true := k2_hts_sels lw_privs (fun w hw => hts0 w (List.mem_cons_of_mem _ hw)) lw_privs_ok
    have hml : c.maxLocals = 4 := B.maxLocals_eq (hts0 _ List.mem_cons_self)
    have X₀ : Stand p l e room_1 s m #[Value.ref b] below meth c s₁ [] 0 0 := Stand.of_body B
    have hh0 : s₁.heap = s.heap := by rw [B.state]; rfl
    have hsz : scr.slots.size = xs.length := by rw [← Array.length_toList, hlist, List.length_map]
    have hval : ∀ j : Nat, j < xs.length → scr.slots[j]? = some (.int (xs.getD j 0)) := fun j hj => by
      rw [← Array.getElem?_toList, hlist]
      simp [hj]
    have hbl : b < s.heap.size := (Array.getElem?_eq_some_iff.mp hcb).1
    have hX : va_X b xs.length (fun j => xs.getD j 0) s s.heap := ⟨scr, hcb, hof, hkn, hsz, hval⟩
    have K : W p l e room_1 s m #[Value.ref b] below meth c s₁.heap [] 0 0 (lw_Z below #[Value.ref b] s) (entryFrame m ([Value.ref b] : List Value).toArray 4) := by
      rw [hh0]
      exact whole_start l hflags hbd ⟨B.exec, B.bytes, B.returns, hml, hown, hts, hX, hbl, B.notSynchronized, hgv⟩
    obtain ⟨t, a1, o, b1, b2, b3⟩ := K s₁ rfl X₀
    exact ⟨t, o, a1, b1, b2, b3⟩
theorem lw_pre_spec {args : Array Value} {s : State} (h : (Jvm.Cond.and given_1 narrow_1).before args s = true) (hr : rest_1_c.before args s = true) : ∃ (b : Addr) (xs : List Int32), lw_P b xs args s := by
  have hs := flat_of_before _ h
  have hq := flat_of_before _ hr
  have hc : (Cond.count 1).before args s = true := hs _ (by decide +kernel)
  have harr : (Cond.arrayOf (.arg 0) .int).before args s = true := hs _ (by decide +kernel)
  have hle : (Cond.le (.length (.arg 0)) (.int 2560)).before args s = true := hs _ (by decide +kernel)
  have hlen : (Cond.isInt (.length (.arg 0))).before args s = true := hq _ (by decide +kernel)
  have hall : (Cond.all (.arg 0) (.isInt (.elem (.arg 0) (.index 0)))).before args s = true := hq _ (by decide +kernel)
  obtain ⟨b, xs, hb, hx⟩ := State.ints_of_pre rfl harr hlen hall
  have hsm : xs.length < 2 ^ 31 := hx.choose_spec.2.2.2
  have hev : (Term.length (.arg 0)).eval args s none [] s = some (.int xs.length.toInt32) := hx.length_eval hb
  have hv := Cond.le_ints hev (show (Term.int 2560).eval args s none [] s = some (.int 2560) from rfl)
  have hd : xs.length.toInt32 ≤ 2560 := by
    simpa [Cond.before, Cond.holds, hv] using hle
  have hN : xs.length ≤ 2560 := (Int32.ofNat_le_ofNat hsm (by decide)).mp (show Int32.ofNat xs.length ≤ Int32.ofNat 2560 from hd)
  exact ⟨b, xs, Cond.one_arg hc (show args[0]? = some (.ref b) from hb), hx, hN, h⟩
theorem lw_comes (l : Launch) (hflags : l.flags = flags0) : Comes l x (Jvm.Cond.code x code maxLocals ret :: tables_1) room_1 (fun tb e args s => Calls_1 tb e args s ∧ rest_1 tb e args s ∧ Pre_1 tb e args s)
    (fun _ _ args s o t => lw_Q args s o t) := by
  intro p e ha hc hk s m args below hf hfit hheap happ hpre
  obtain ⟨b, xs, hP⟩ := lw_pre_spec hpre.2.2 hpre.2.1
  obtain ⟨k, o, h1, h2, h3, hQ⟩ := lw_walk l hflags b xs p e ha hc hk s m args below hf ((Spec.applies_iff_loose hf).mp happ).1 hP trivial
  exact ⟨k, o, h1, h2, h3, hQ⟩
theorem lw_frame {s t : State} {o : Outcome} {args : Array Value} (h : Framed s o t [] 600000 7302249) :
    Framed s o t (fieldLocs frame_1_writes args s ++ arrayLocs frame_1_arrays args s ++ staticLocs frame_1_statics s) 600000 7302249 := h
theorem lw_limb (L : Cond) (hL : ∀ (args : Array Value) (s t : State), L.after args s (.returned (some (.int 1))) t = true) :
    ArmFor flags0 classFile x code maxLocals ret World_1 tables_1 room_1 Calls_1 rest_1 Pre_1
      (fun tb e a s o t => postC L tb e a s o t ∧ Framed s o t (fieldLocs frame_1_writes a s ++ arrayLocs frame_1_arrays a s ++ staticLocs frame_1_statics s) 600000 7302249) := by
  intro l hflags _ _ p e ha hc hk s m args below hf hfit hheap happ hpre
  obtain ⟨k, o, h1, h2, h3, rfl, hF⟩ := lw_comes l hflags p e ha hc hk s m args below hf hfit hheap happ hpre
  exact ⟨k, _, h1, h2, h3, hL args s _, lw_frame hF⟩
theorem i_vc : Claimed_1_1 ∧ Claimed_1_2 := ⟨lw_limb limb_1_1 (fun args s t => by simp [limb_1_1, Cond.after, Cond.holds, Cond.value]), lw_limb limb_1_2 (fun args s t => Cond.after_iff.mpr (by
  first | (rw [show limb_1_2 = Cond.eq .result (.int 1) from rfl, Cond.eq_ints (x := 1) (y := 1) rfl rfl]; simp; done) | (simp [limb_1_2, Cond.value, Term.eval]; done)))⟩

