/-! ===== the walk: V, and a row an instruction ===== -/
def hasL (ls : Array Slot) (nL : Nat) (L : List (Option Value)) : Prop := ls.size = nL ∧ lv_wf ls ∧ ∀ (i : Nat) (v : Value), L[i]? = some (some v) → v.category = 1 ∧ ls[i]? = some (.val v)
def prs (L : List (Option Value)) : List (Nat × Value) := (List.range L.length).filterMap (fun i => ((L[i]?).join).map (fun v => (i, v)))
theorem prs_mem {L : List (Option Value)} {i : Nat} {v : Value} : (i, v) ∈ prs L ↔ L[i]? = some (some v) := by
  unfold prs
  rw [List.mem_filterMap]
  constructor
  · rintro ⟨a, -, h⟩
    cases hc : L[a]? with
    | none => rw [hc] at h; cases h
    | some o =>
      cases o with
      | none => rw [hc] at h; cases h
      | some w =>
        rw [hc] at h
        have h2 : (a, w) = (i, v) := Option.some.inj h
        cases h2
        exact hc
  · intro h
    refine ⟨i, List.mem_range.mpr (List.getElem?_eq_some_iff.mp h).1, ?_⟩
    rw [h]; rfl
theorem hasL.lv {ls : Array Slot} {nL : Nat} {L : List (Option Value)} (h : hasL ls nL L) : lv_has ls nL (prs L) := ⟨h.1, h.2.1, fun q hq => (h.2.2 q.1 q.2 (prs_mem.mp (show (q.1, q.2) ∈ prs L from hq))).2⟩
theorem hasL.st {ls ls' : Array Slot} {nL i : Nat} {L : List (Option Value)} {x : Value} (hx : x.category = 1) (h : hasL ls nL L) (h' : lv_has ls' nL ((i, x) :: (prs L).filter (fun q => !(q.1 == i) && !(q.1 + 1 == i && q.2.category == 2)))) : hasL ls' nL (L.set i (some x)) := by
  refine ⟨h'.1, h'.2.1, fun j v hv => ?_⟩
  by_cases hj : j = i
  · subst hj
    have hlt : j < (L.set j (some x)).length := (List.getElem?_eq_some_iff.mp hv).1
    rw [List.length_set] at hlt
    rw [List.getElem?_set_self hlt] at hv
    cases hv
    exact ⟨hx, h'.2.2 (j, x) List.mem_cons_self⟩
  · rw [List.getElem?_set_ne (Ne.symm hj)] at hv
    have hc := h.2.2 j v hv
    refine ⟨hc.1, h'.2.2 (j, v) (List.mem_cons_of_mem _ (List.mem_filter.mpr ⟨prs_mem.mpr hv, ?_⟩))⟩
    simp [hj, hc.1]
def Kx (g : Gl) (cc : ByteArray) (nL : Nat) (own : String) (ret : Option FieldType) (κ : Ka) : Prop :=
  κ.1.tables.exec = Jvm.exec ∧ κ.2.2.2.2.2.2.2.code = cc ∧ κ.2.2.2.2.2.2.2.maxLocals = nL ∧ κ.2.2.1.vm.findClass own = some κ.2.2.2.1.cls ∧ (∀ w ∈ gw, w.before κ.2.2.2.2.1 κ.2.2.1 = true) ∧ va_K g.2.1 cls (tysy g.2.2.1) κ.2.2.1 ∧ (∀ w ∈ nws, va_Nw w κ.2.2.1) ∧ κ.2.2.2.2.2.2.1.locks = false ∧ κ.2.2.2.2.2.2.1.sig.returnType = ret
def Wk (g : Gl) (R : Room) (Q : State → Prop) (κ : Ka) (H : Heap) (locs : List Loc) (f : JFrame) : Prop := W κ.1 g.1 κ.2.1 R κ.2.2.1 κ.2.2.2.1 κ.2.2.2.2.1 κ.2.2.2.2.2.1 κ.2.2.2.2.2.2.1 κ.2.2.2.2.2.2.2 H locs 0 0 Q f
def V (g : Gl) (cc : ByteArray) (nL : Nat) (own : String) (ret : Option FieldType) (R : Room) (Q : State → Prop) (κ : Ka) (M : Mem) (pc : Nat) (L : List (Option Value)) (st : List Value) : Prop :=
  Kx g cc nL own ret κ → ∀ (H : Heap) (locs : List Loc) (ls : Array Slot), Wo g M κ.2.2.1.heap H locs → hasL ls nL L → Wk g R Q κ H locs (F0 κ.2.2.2.1 pc ls st)
section VV
variable {g : Gl} {cc : ByteArray} {nL : Nat} {own : String} {ret : Option FieldType} {R : Room} {Q : State → Prop} {κ : Ka} {M : Mem} {pc : Nat} {L : List (Option Value)} {st : List Value}
theorem V.iload_n {k : Fin 4} {x : Int32} (d : decode cc pc = .ok (.iload_n k, 1)) (h : L[(k : Nat)]? = some (some (.int x))) (kk : V g cc nL own ret R Q κ M (pc + 1) L (.int x :: st)) : V g cc nL own ret R Q κ M pc L st := fun E H locs ls w hl => lv_iload_n E.1 E.2.1 d rfl (hl.2.2 _ _ h).2 (kk E H locs ls w hl)
theorem V.iload {k : Nat} {x : Int32} (d : decode cc pc = .ok (.iload k, 2)) (h : L[k]? = some (some (.int x))) (kk : V g cc nL own ret R Q κ M (pc + 2) L (.int x :: st)) : V g cc nL own ret R Q κ M pc L st := fun E H locs ls w hl => lv_iload E.1 E.2.1 d (hl.2.2 _ _ h).2 (kk E H locs ls w hl)
theorem V.aload_n {k : Fin 4} {x : Nat} (d : decode cc pc = .ok (.aload_n k, 1)) (h : L[(k : Nat)]? = some (some (.ref x))) (kk : V g cc nL own ret R Q κ M (pc + 1) L (.ref x :: st)) : V g cc nL own ret R Q κ M pc L st := fun E H locs ls w hl => lv_aload_n E.1 E.2.1 d rfl (hl.2.2 _ _ h).2 (kk E H locs ls w hl)
theorem V.aload {k : Nat} {x : Nat} (d : decode cc pc = .ok (.aload k, 2)) (h : L[k]? = some (some (.ref x))) (kk : V g cc nL own ret R Q κ M (pc + 2) L (.ref x :: st)) : V g cc nL own ret R Q κ M pc L st := fun E H locs ls w hl => lv_aload E.1 E.2.1 d (hl.2.2 _ _ h).2 (kk E H locs ls w hl)
theorem V.istore_n {k : Fin 4} {x : Int32} (d : decode cc pc = .ok (.istore_n k, 1)) (hn : (k : Nat) < nL) (kk : V g cc nL own ret R Q κ M (pc + 1) (L.set (k : Nat) (some (.int x))) st) : V g cc nL own ret R Q κ M pc L (.int x :: st) := fun E H locs ls w hl => lv_istore_n E.1 E.2.1 d rfl hl.lv hn rfl (fun ls' hl' => kk E H locs ls' w (hl.st rfl hl'))
theorem V.istore {k : Nat} {x : Int32} (d : decode cc pc = .ok (.istore k, 2)) (hn : k < nL) (kk : V g cc nL own ret R Q κ M (pc + 2) (L.set k (some (.int x))) st) : V g cc nL own ret R Q κ M pc L (.int x :: st) := fun E H locs ls w hl => lv_istore E.1 E.2.1 d hl.lv hn rfl (fun ls' hl' => kk E H locs ls' w (hl.st rfl hl'))
theorem V.astore_n {k : Fin 4} {x : Nat} (d : decode cc pc = .ok (.astore_n k, 1)) (hn : (k : Nat) < nL) (kk : V g cc nL own ret R Q κ M (pc + 1) (L.set (k : Nat) (some (.ref x))) st) : V g cc nL own ret R Q κ M pc L (.ref x :: st) := fun E H locs ls w hl => lv_astore_n E.1 E.2.1 d rfl hl.lv hn rfl (fun ls' hl' => kk E H locs ls' w (hl.st rfl hl'))
theorem V.astore {k : Nat} {x : Nat} (d : decode cc pc = .ok (.astore k, 2)) (hn : k < nL) (kk : V g cc nL own ret R Q κ M (pc + 2) (L.set k (some (.ref x))) st) : V g cc nL own ret R Q κ M pc L (.ref x :: st) := fun E H locs ls w hl => lv_astore E.1 E.2.1 d hl.lv hn rfl (fun ls' hl' => kk E H locs ls' w (hl.st rfl hl'))
theorem V.iinc {i : Nat} {n : Int} {x v : Int32} (d : decode cc pc = .ok (.iinc i n, 3)) (hn : i < nL) (h : L[i]? = some (some (.int x))) (hv : x + Int32.ofInt n = v) (kk : V g cc nL own ret R Q κ M (pc + 3) (L.set i (some (.int v))) st) : V g cc nL own ret R Q κ M pc L st := fun E H locs ls w hl => by
  obtain ⟨k, hk⟩ := List.getElem?_of_mem (prs_mem.mpr h)
  exact lv_iinc E.1 E.2.1 d hl.lv (k := k) hk hv hn rfl (fun ls' hl' => kk E H locs ls' w (hl.st rfl hl'))
theorem V.iconst {n : Int} {v : Int32} (d : decode cc pc = .ok (.iconst n, 1)) (hv : Int32.ofInt n = v) (kk : V g cc nL own ret R Q κ M (pc + 1) L (.int v :: st)) : V g cc nL own ret R Q κ M pc L st := fun E H locs ls w hl => lv_iconst E.1 E.2.1 d hv (kk E H locs ls w hl)
theorem V.bipush {n : Int} {v : Int32} (d : decode cc pc = .ok (.bipush n, 2)) (hv : (Int8.ofInt n).toInt32 = v) (kk : V g cc nL own ret R Q κ M (pc + 2) L (.int v :: st)) : V g cc nL own ret R Q κ M pc L st := fun E H locs ls w hl => lv_bipush E.1 E.2.1 d hv (kk E H locs ls w hl)
theorem V.sipush {n : Int} {v : Int32} (d : decode cc pc = .ok (.sipush n, 3)) (hv : (Int16.ofInt n).toInt32 = v) (kk : V g cc nL own ret R Q κ M (pc + 3) L (.int v :: st)) : V g cc nL own ret R Q κ M pc L st := fun E H locs ls w hl => lv_sipush E.1 E.2.1 d hv (kk E H locs ls w hl)
theorem V.iadd {x z : Int32} (d : decode cc pc = .ok (.iadd, 1)) (kk : V g cc nL own ret R Q κ M (pc + 1) L (.int (x + z) :: st)) : V g cc nL own ret R Q κ M pc L (.int z :: .int x :: st) := fun E H locs ls w hl => lv_iadd E.1 E.2.1 d (kk E H locs ls w hl)
theorem V.isub {x z : Int32} (d : decode cc pc = .ok (.isub, 1)) (kk : V g cc nL own ret R Q κ M (pc + 1) L (.int (x - z) :: st)) : V g cc nL own ret R Q κ M pc L (.int z :: .int x :: st) := fun E H locs ls w hl => lv_isub E.1 E.2.1 d (kk E H locs ls w hl)
theorem V.imul {x z : Int32} (d : decode cc pc = .ok (.imul, 1)) (kk : V g cc nL own ret R Q κ M (pc + 1) L (.int (x * z) :: st)) : V g cc nL own ret R Q κ M pc L (.int z :: .int x :: st) := fun E H locs ls w hl => lv_imul E.1 E.2.1 d (kk E H locs ls w hl)
theorem V.irem {x z : Int32} (d : decode cc pc = .ok (.irem, 1)) (hz : ¬ z = 0) (kk : V g cc nL own ret R Q κ M (pc + 1) L (.int (x - x / z * z) :: st)) : V g cc nL own ret R Q κ M pc L (.int z :: .int x :: st) := fun E H locs ls w hl => lv_irem E.1 E.2.1 d hz (kk E H locs ls w hl)
theorem V.idiv {x z : Int32} (d : decode cc pc = .ok (.idiv, 1)) (hz : ¬ z = 0) (kk : V g cc nL own ret R Q κ M (pc + 1) L (.int (x / z) :: st)) : V g cc nL own ret R Q κ M pc L (.int z :: .int x :: st) := fun E H locs ls w hl => lv_idiv E.1 E.2.1 d hz (kk E H locs ls w hl)
theorem V.iand {x z : Int32} (d : decode cc pc = .ok (.iand, 1)) (kk : V g cc nL own ret R Q κ M (pc + 1) L (.int (x &&& z) :: st)) : V g cc nL own ret R Q κ M pc L (.int z :: .int x :: st) := fun E H locs ls w hl => lv_iand E.1 E.2.1 d (kk E H locs ls w hl)
theorem V.ishr {x z : Int32} (d : decode cc pc = .ok (.ishr, 1)) (kk : V g cc nL own ret R Q κ M (pc + 1) L (.int (x >>> (z &&& 31)) :: st)) : V g cc nL own ret R Q κ M pc L (.int z :: .int x :: st) := fun E H locs ls w hl => lv_ishr E.1 E.2.1 d (kk E H locs ls w hl)
theorem V.dup {a : Value} (d : decode cc pc = .ok (.dup, 1)) (ha : a.category = 1) (kk : V g cc nL own ret R Q κ M (pc + 1) L (a :: a :: st)) : V g cc nL own ret R Q κ M pc L (a :: st) := fun E H locs ls w hl => lv_dup E.1 E.2.1 d ha (kk E H locs ls w hl)
theorem V.pop {a : Value} (d : decode cc pc = .ok (.pop, 1)) (ha : a.category = 1) (kk : V g cc nL own ret R Q κ M (pc + 1) L st) : V g cc nL own ret R Q κ M pc L (a :: st) := fun E H locs ls w hl => lv_pop E.1 E.2.1 d ha (kk E H locs ls w hl)
theorem V.dup2 {a b : Value} (d : decode cc pc = .ok (.dup2, 1)) (ha : a.category = 1) (hb : b.category = 1) (kk : V g cc nL own ret R Q κ M (pc + 1) L (a :: b :: a :: b :: st)) : V g cc nL own ret R Q κ M pc L (a :: b :: st) := fun E H locs ls w hl => lv_dup2_11 E.1 E.2.1 d ha hb (kk E H locs ls w hl)
theorem V.goto {off : Int} {tgt : Nat} (d : decode cc pc = .ok (.goto off, 3)) (ht : (pc : Int) + off = (tgt : Int)) (kk : V g cc nL own ret R Q κ M tgt L st) : V g cc nL own ret R Q κ M pc L st := fun E H locs ls w hl => lv_goto E.1 E.2.1 d ht (kk E H locs ls w hl)
theorem V.if_eq {x : Int32} {off : Int} {tgt : Nat} (d : decode cc pc = .ok (.ifCond .eq off, 3)) (ht : (pc : Int) + off = (tgt : Int)) (kt : x = 0 → V g cc nL own ret R Q κ M tgt L st) (kf : ¬ x = 0 → V g cc nL own ret R Q κ M (pc + 3) L st) : V g cc nL own ret R Q κ M pc L (.int x :: st) := fun E H locs ls w hl => lv_if_eq E.1 E.2.1 d ht (fun h => kt h E H locs ls w hl) (fun h => kf h E H locs ls w hl)
theorem V.if_ne {x : Int32} {off : Int} {tgt : Nat} (d : decode cc pc = .ok (.ifCond .ne off, 3)) (ht : (pc : Int) + off = (tgt : Int)) (kt : ¬ x = 0 → V g cc nL own ret R Q κ M tgt L st) (kf : x = 0 → V g cc nL own ret R Q κ M (pc + 3) L st) : V g cc nL own ret R Q κ M pc L (.int x :: st) := fun E H locs ls w hl => lv_if_ne E.1 E.2.1 d ht (fun h => kt h E H locs ls w hl) (fun h => kf h E H locs ls w hl)
theorem V.if_lt {x : Int32} {off : Int} {tgt : Nat} (d : decode cc pc = .ok (.ifCond .lt off, 3)) (ht : (pc : Int) + off = (tgt : Int)) (kt : x < 0 → V g cc nL own ret R Q κ M tgt L st) (kf : ¬ x < 0 → V g cc nL own ret R Q κ M (pc + 3) L st) : V g cc nL own ret R Q κ M pc L (.int x :: st) := fun E H locs ls w hl => lv_if_lt E.1 E.2.1 d ht (fun h => kt h E H locs ls w hl) (fun h => kf h E H locs ls w hl)
theorem V.if_ge {x : Int32} {off : Int} {tgt : Nat} (d : decode cc pc = .ok (.ifCond .ge off, 3)) (ht : (pc : Int) + off = (tgt : Int)) (kt : 0 ≤ x → V g cc nL own ret R Q κ M tgt L st) (kf : ¬ 0 ≤ x → V g cc nL own ret R Q κ M (pc + 3) L st) : V g cc nL own ret R Q κ M pc L (.int x :: st) := fun E H locs ls w hl => lv_if_ge E.1 E.2.1 d ht (fun h => kt h E H locs ls w hl) (fun h => kf h E H locs ls w hl)
theorem V.if_gt {x : Int32} {off : Int} {tgt : Nat} (d : decode cc pc = .ok (.ifCond .gt off, 3)) (ht : (pc : Int) + off = (tgt : Int)) (kt : 0 < x → V g cc nL own ret R Q κ M tgt L st) (kf : ¬ 0 < x → V g cc nL own ret R Q κ M (pc + 3) L st) : V g cc nL own ret R Q κ M pc L (.int x :: st) := fun E H locs ls w hl => lv_if_gt E.1 E.2.1 d ht (fun h => kt h E H locs ls w hl) (fun h => kf h E H locs ls w hl)
theorem V.if_le {x : Int32} {off : Int} {tgt : Nat} (d : decode cc pc = .ok (.ifCond .le off, 3)) (ht : (pc : Int) + off = (tgt : Int)) (kt : x ≤ 0 → V g cc nL own ret R Q κ M tgt L st) (kf : ¬ x ≤ 0 → V g cc nL own ret R Q κ M (pc + 3) L st) : V g cc nL own ret R Q κ M pc L (.int x :: st) := fun E H locs ls w hl => lv_if_le E.1 E.2.1 d ht (fun h => kt h E H locs ls w hl) (fun h => kf h E H locs ls w hl)
theorem V.icmp_eq {x z : Int32} {off : Int} {tgt : Nat} (d : decode cc pc = .ok (.if_icmp .eq off, 3)) (ht : (pc : Int) + off = (tgt : Int)) (kt : x = z → V g cc nL own ret R Q κ M tgt L st) (kf : ¬ x = z → V g cc nL own ret R Q κ M (pc + 3) L st) : V g cc nL own ret R Q κ M pc L (.int z :: .int x :: st) := fun E H locs ls w hl => lv_icmp_eq E.1 E.2.1 d ht (fun h => kt h E H locs ls w hl) (fun h => kf h E H locs ls w hl)
theorem V.icmp_ne {x z : Int32} {off : Int} {tgt : Nat} (d : decode cc pc = .ok (.if_icmp .ne off, 3)) (ht : (pc : Int) + off = (tgt : Int)) (kt : ¬ x = z → V g cc nL own ret R Q κ M tgt L st) (kf : x = z → V g cc nL own ret R Q κ M (pc + 3) L st) : V g cc nL own ret R Q κ M pc L (.int z :: .int x :: st) := fun E H locs ls w hl => lv_icmp_ne E.1 E.2.1 d ht (fun h => kt h E H locs ls w hl) (fun h => kf h E H locs ls w hl)
theorem V.icmp_lt {x z : Int32} {off : Int} {tgt : Nat} (d : decode cc pc = .ok (.if_icmp .lt off, 3)) (ht : (pc : Int) + off = (tgt : Int)) (kt : x < z → V g cc nL own ret R Q κ M tgt L st) (kf : ¬ x < z → V g cc nL own ret R Q κ M (pc + 3) L st) : V g cc nL own ret R Q κ M pc L (.int z :: .int x :: st) := fun E H locs ls w hl => lv_icmp_lt E.1 E.2.1 d ht (fun h => kt h E H locs ls w hl) (fun h => kf h E H locs ls w hl)
theorem V.icmp_ge {x z : Int32} {off : Int} {tgt : Nat} (d : decode cc pc = .ok (.if_icmp .ge off, 3)) (ht : (pc : Int) + off = (tgt : Int)) (kt : z ≤ x → V g cc nL own ret R Q κ M tgt L st) (kf : ¬ z ≤ x → V g cc nL own ret R Q κ M (pc + 3) L st) : V g cc nL own ret R Q κ M pc L (.int z :: .int x :: st) := fun E H locs ls w hl => lv_icmp_ge E.1 E.2.1 d ht (fun h => kt h E H locs ls w hl) (fun h => kf h E H locs ls w hl)
theorem V.icmp_gt {x z : Int32} {off : Int} {tgt : Nat} (d : decode cc pc = .ok (.if_icmp .gt off, 3)) (ht : (pc : Int) + off = (tgt : Int)) (kt : z < x → V g cc nL own ret R Q κ M tgt L st) (kf : ¬ z < x → V g cc nL own ret R Q κ M (pc + 3) L st) : V g cc nL own ret R Q κ M pc L (.int z :: .int x :: st) := fun E H locs ls w hl => lv_icmp_gt E.1 E.2.1 d ht (fun h => kt h E H locs ls w hl) (fun h => kf h E H locs ls w hl)
theorem V.icmp_le {x z : Int32} {off : Int} {tgt : Nat} (d : decode cc pc = .ok (.if_icmp .le off, 3)) (ht : (pc : Int) + off = (tgt : Int)) (kt : x ≤ z → V g cc nL own ret R Q κ M tgt L st) (kf : ¬ x ≤ z → V g cc nL own ret R Q κ M (pc + 3) L st) : V g cc nL own ret R Q κ M pc L (.int z :: .int x :: st) := fun E H locs ls w hl => lv_icmp_le E.1 E.2.1 d ht (fun h => kt h E H locs ls w hl) (fun h => kf h E H locs ls w hl)
theorem V.lookup {dflt : Int} {ps : Array (Int × Int)} {len : Nat} {x : Int32} {off : Int} {tgt : Nat} (d : decode cc pc = .ok (.lookupswitch dflt ps, len)) (hp : (ps.toList.zip (ps.toList.drop 1)).all (fun (a, next) => a.1 < next.1) = true) (ho : Op.lookupswitch.offset ps.toList dflt x.toInt = off) (ht : (pc : Int) + off = (tgt : Int)) (kk : V g cc nL own ret R Q κ M tgt L st) : V g cc nL own ret R Q κ M pc L (.int x :: st) := fun E H locs ls w hl => lv_lookup E.1 E.2.1 d hp ho ht (kk E H locs ls w hl)
theorem V.tableOut {dflt lo hi : Int} {offs : Array Int} {len : Nat} {x : Int32} {tgt : Nat} (d : decode cc pc = .ok (.tableswitch dflt lo hi offs, len)) (h : x.toInt < lo ∨ hi < x.toInt) (ht : (pc : Int) + dflt = (tgt : Int)) (kk : V g cc nL own ret R Q κ M tgt L st) : V g cc nL own ret R Q κ M pc L (.int x :: st) := fun E H locs ls w hl => lv_tableOut E.1 E.2.1 d h ht (kk E H locs ls w hl)
theorem V.tableIn {dflt lo hi : Int} {offs : Array Int} {len : Nat} {x : Int32} {off : Int} {tgt : Nat} (d : decode cc pc = .ok (.tableswitch dflt lo hi offs, len)) (h1 : ¬ x.toInt < lo) (h2 : ¬ hi < x.toInt) (ho : offs[(x.toInt - lo).toNat]? = some off) (ht : (pc : Int) + off = (tgt : Int)) (kk : V g cc nL own ret R Q κ M tgt L st) : V g cc nL own ret R Q κ M pc L (.int x :: st) := fun E H locs ls w hl => lv_tableIn E.1 E.2.1 d h1 h2 ho ht (kk E H locs ls w hl)
/-- an int array's place, read -/
theorem V.iald {i n j : Nat} (d : decode cc pc = .ok (.iaload, 1)) (hi : i ∈ g.2.2.2.2) (hn : ial i = n) (hj : j < n) (kk : V g cc nL own ret R Q κ M (pc + 1) L (.int (M i j) :: st)) : V g cc nL own ret R Q κ M pc L (.int (nI j) :: .ref (g.2.2.2.1 i) :: st) := fun E H locs ls w hl => by
  obtain ⟨k, -, hk⟩ := wd_at (M := M) hi
  have hs := ial_small i
  have hc : (nI j).toNatClampNeg = j := nI_clamp (by omega)
  refine va_iald E.1 E.2.1 E.2.2.2.2.2.1 w.1 k 0 (n := n) (f := M i) (by rw [hk, cont_int hn (by omega)]) rfl (nI_in (by omega) (by omega)) d ?_
  rw [hc]
  exact kk E H locs ls w hl
theorem V.iast {i n j : Nat} {x : Int32} (d : decode cc pc = .ok (.iastore, 1)) (hi : i ∈ g.2.2.2.2) (hn : ial i = n) (hj : j < n) (kk : V g cc nL own ret R Q κ (mset M i j x) (pc + 1) L st) : V g cc nL own ret R Q κ M pc L (.int x :: .int (nI j) :: .ref (g.2.2.2.1 i) :: st) := fun E H locs ls w hl => by
  obtain ⟨k, hk0, hk⟩ := wd_at (M := M) hi
  have hs := ial_small i
  have hc : (nI j).toNatClampNeg = j := nI_clamp (by omega)
  refine va_iast E.1 E.2.1 E.2.2.2.2.2.1 w.1 w.2.1 w.2.2 k 0 (n := n) (f := M i) (by rw [hk, cont_int hn (by omega)]) rfl (nI_in (by omega) (by omega)) d (fun H1 locs1 hP hD hS => ?_)
  have e := wd_set (M' := mset M i j x) (e := .inl (g.2.2.1 0, n, .inl (upd (M i) (nI j).toNatClampNeg x))) w.2.1 hk0 (by rw [cont_int hn (by omega), mset_self, hc]) (fun a ha => mset_ne ha)
  rw [e] at hP hD
  exact kk E H1 locs1 ls ⟨hP, hD, hS⟩ hl
/-- a boolean array's (there is one: 148) -/
theorem V.zald {j : Nat} (d : decode cc pc = .ok (.baload, 1)) (hi : 148 ∈ g.2.2.2.2) (hj : j < 2) (kk : V g cc nL own ret R Q κ M (pc + 1) L (.int (M 148 j) :: st)) : V g cc nL own ret R Q κ M pc L (.int (nI j) :: .ref (g.2.2.2.1 148) :: st) := fun E H locs ls w hl => by
  obtain ⟨k, -, hk⟩ := wd_at (M := M) hi
  have hc : (nI j).toNatClampNeg = j := nI_clamp (by omega)
  refine va_zald E.1 E.2.1 E.2.2.2.2.2.1 w.1 k 1 (n := 2) (f := M 148) (by rw [hk]; rfl) rfl (nI_in (by omega) (by omega)) d ?_
  rw [hc]
  exact kk E H locs ls w hl
/-- an array of references, read -/
theorem V.aald {i n j t : Nat} {cA : ClassId} {ty : FieldType} {r : Nat → Nat} (d : decode cc pc = .ok (.aaload, 1)) (hi : i ∈ g.2.2.2.2) (hc : cont g.2.2.1 g.2.2.2.1 M i = rarr cA n r) (ht : (tysy g.2.2.1)[t]? = some (cA, ty)) (hty : ty.isReference = true) (hn : n ≤ 162) (hj : j < n) (kk : V g cc nL own ret R Q κ M (pc + 1) L (.ref (r j) :: st)) : V g cc nL own ret R Q κ M pc L (.int (nI j) :: .ref (g.2.2.2.1 i) :: st) := fun E H locs ls w hl => by
  obtain ⟨k, -, hk⟩ := wd_at (M := M) hi
  rw [hc] at hk
  have hcl : (nI j).toNatClampNeg = j := nI_clamp (by omega)
  have e : va_rf (refs n r j) = .ref (r j) := by simp [refs, hj, va_rf]
  refine W.aald (v := .ref (r j)) (ty := ty) E.1 E.2.1 (w.1 k _ hk) ((E.2.2.2.2.2.1.2 t _ ht).1 n (fun j => va_rf (refs n r j))) hty (fun q => by cases q) (by show ¬ (nI j < 0 ∨ (arrV _ _ _).slots.size ≤ _); rw [arrV_size]; exact nI_in (N := n) hj (by omega)) (by show (arrV _ _ _).slots[_]? = _; rw [hcl, arrV_read _ _ hj, e]) rfl rfl d (kk E H locs ls w hl)
/-- a field, read -/
theorem V.getf {o ci k N index : Nat} {C : String} {T : u_T} {fs : List Value} {v : Value} (d : decode cc pc = .ok (.getfield index, 3)) (hlink : Cond.fieldLink own index (T k).1 (T k).2.1 (T k).2.2.1 ∈ gw) (hin : ∀ w ∈ u_ws C T N, w ∈ gw) (hcl : cls[ci]? = some (C, T, N)) (ho : o ∈ g.2.2.2.2) (hc : cont g.2.2.1 g.2.2.2.1 M o = .inr (ci, fs)) (hk : k < N) (hv : fs[k]? = some v) (kk : V g cc nL own ret R Q κ M (pc + 3) L (v :: st)) : V g cc nL own ret R Q κ M pc L (.ref (g.2.2.2.1 o) :: st) := fun E H locs ls w hl => by
  obtain ⟨q, -, hq⟩ := wd_at (M := M) ho
  rw [hc] at hq
  exact va_get E.1 E.2.1 E.2.2.2.2.1 hin E.2.2.2.1 E.2.2.2.2.2.1 w.1 q hq hcl k hk (E.2.2.2.2.1 _ hlink) (fun x hx => hx) hv d (kk E H locs ls w hl)
/-- an int field, written -/
theorem V.putf {o ci k N index : Nat} {C : String} {T : u_T} {fs : List Value} {x : Int32} {ty : FieldType} (ty0 : Nat → FieldType) (d : decode cc pc = .ok (.putfield index, 3)) (hlink : Cond.fieldLink own index (T k).1 (T k).2.1 (T k).2.2.1 ∈ gw) (hin : ∀ w ∈ u_ws C T N, w ∈ gw) (hty : ∀ k, k < N → parseFieldDescriptor (T k).2.2.1 = some (ty0 k)) (hnm : ∀ a, a < N → ∀ b, b < N → a ≠ b → (T a).2.1 ≠ (T b).2.1) (hcl : cls[ci]? = some (C, T, N)) (ho : o ∈ g.2.2.2.2) (hc : cont g.2.2.1 g.2.2.2.1 M o = .inr (ci, fs)) (hk : k < N) (hfin : (T k).2.2.2 = false) (he : ty0 k = ty) (hn : narrow ty (.int x) = .int x) (hfit : fits ty (.int x) = true) (hl0 : k < fs.length) (hc2 : cont g.2.2.1 g.2.2.2.1 (mset M o k x) o = .inr (ci, fs.set k (.int x))) (kk : V g cc nL own ret R Q κ (mset M o k x) (pc + 3) L st) : V g cc nL own ret R Q κ M pc L (.int x :: .ref (g.2.2.2.1 o) :: st) := fun E H locs ls w hl => by
  obtain ⟨q, hq0, hq⟩ := wd_at (M := M) ho
  rw [hc] at hq
  refine va_put E.1 E.2.1 E.2.2.2.2.1 hin ty0 hty hnm E.2.2.2.1 E.2.2.2.2.2.1 w.1 w.2.1 w.2.2 q hq hcl k hk (E.2.2.2.2.1 _ hlink) (fun x hx => hx) hfin (ty := ty) (by rw [← he]; exact hty k hk) hn hfit hl0 d (fun H1 locs1 hP hD hS => ?_)
  have e := wd_set (M' := mset M o k x) (e := .inr (ci, fs.set k (.int x))) w.2.1 hq0 hc2 (fun a ha => mset_ne ha)
  rw [e] at hP hD
  exact kk E H1 locs1 ls ⟨hP, hD, hS⟩ hl
end VV
