/-! ===== a world that grows: I the cells that are there, ad their addresses (both in g), ce what they are ===== -/
def wl (I : List Nat) (ad : Nat → Nat) (ce : Nat → va_E) : va_W := I.map (fun i => (ad i, ce i))
theorem wl_wd (g : Gl) (M : Mem) : wl g.2.2.2.2 g.2.2.2.1 (cont g.2.2.1 g.2.2.2.1 M) = wd g M := rfl
def Wb (g : Gl) (A : Nat → Prop) (ce : Nat → va_E) (H0 H : Heap) (locs : List Loc) : Prop := va_P g.2.1 cls (wl g.2.2.2.2 g.2.2.2.1 ce) H ∧ va_D A (wl g.2.2.2.2 g.2.2.2.1 ce) ∧ va_S A H0 H locs
def U (g : Gl) (A : Nat → Prop) (cc : ByteArray) (nL : Nat) (own : String) (ret : Option FieldType) (R : Room) (Q : State → Prop) (κ : Ka) (ce : Nat → va_E) (kc : Nat × Nat) (pc : Nat) (L : List (Option Value)) (st : List Value) : Prop :=
  Kx g cc nL own ret κ → ∀ (H : Heap) (locs : List Loc) (ls : Array Slot), Wb g A ce κ.2.2.1.heap H locs → hasL ls nL L → W κ.1 g.1 κ.2.1 R κ.2.2.1 κ.2.2.2.1 κ.2.2.2.2.1 κ.2.2.2.2.2.1 κ.2.2.2.2.2.2.1 κ.2.2.2.2.2.2.2 H locs kc.1 kc.2 Q (F0 κ.2.2.2.1 pc ls st)
theorem wl_at {I : List Nat} {ad : Nat → Nat} {ce : Nat → va_E} {i : Nat} (h : i ∈ I) : ∃ k : Nat, I[k]? = some i ∧ (wl I ad ce)[k]? = some (ad i, ce i) := by
  obtain ⟨k, hk⟩ := List.getElem?_of_mem h
  exact ⟨k, hk, by unfold wl; rw [List.getElem?_map, hk]; rfl⟩
theorem wl_set {I : List Nat} {ad : Nat → Nat} {ce : Nat → va_E} {A : Nat → Prop} {i k : Nat} {e : va_E} (hD : va_D A (wl I ad ce)) (hk : I[k]? = some i) : (wl I ad ce).set k (ad i, e) = wl I ad (va_up ce i e) := by
  have hl : k < (wl I ad ce).length := by unfold wl; rw [List.length_map]; exact (List.getElem?_eq_some_iff.mp hk).1
  apply List.ext_getElem?
  intro j
  by_cases hj : j = k
  · subst hj
    rw [List.getElem?_set_self hl]
    unfold wl; rw [List.getElem?_map, hk]
    simp only [Option.map_some, va_up_self]
  · rw [List.getElem?_set_ne (Ne.symm hj)]
    unfold wl
    rw [List.getElem?_map, List.getElem?_map]
    cases hb : I[j]? with
    | none => simp only [Option.map_none]
    | some b =>
      have hbi : b ≠ i := by
        intro e0
        subst e0
        refine hj (hD.1 j k (ad b, ce b) (ad b, ce b) ?_ ?_ rfl)
        · unfold wl; rw [List.getElem?_map, hb]; rfl
        · unfold wl; rw [List.getElem?_map, hk]; rfl
      simp only [Option.map_some]
      rw [va_up_ne _ _ hbi]
theorem wl_cg {I : List Nat} {ad ad' : Nat → Nat} {ce ce' : Nat → va_E} (h : ∀ i, i ∈ I → ad i = ad' i ∧ ce i = ce' i) : wl I ad ce = wl I ad' ce' := by
  unfold wl
  apply List.map_congr_left
  intro a ha
  rw [(h a ha).1, (h a ha).2]
theorem wl_push {I : List Nat} {ad : Nat → Nat} {ce : Nat → va_E} {i q : Nat} {e : va_E} (h : i ∉ I) : wl I ad ce ++ [(q, e)] = wl (I ++ [i]) (va_up ad i q) (va_up ce i e) := by
  have e1 : wl I ad ce = wl I (va_up ad i q) (va_up ce i e) := wl_cg (fun j hj => by
    have : j ≠ i := fun z => h (z ▸ hj)
    rw [va_up_ne _ _ this, va_up_ne _ _ this]; exact ⟨rfl, rfl⟩)
  rw [e1]
  unfold wl
  rw [List.map_append]
  simp only [List.map_cons, List.map_nil, va_up_self]
/-- one class to a name -/
theorem K_one {D : va_G} {tys : List (ClassId × FieldType)} {s : State} {cA c0 : ClassId} {ty : FieldType} {t : Nat} (h : va_K D cls (tys ++ [(cA, ty)]) s) (h0 : tys[t]? = some (c0, ty)) : cA = c0 := by
  have r1 := (h.2 tys.length (cA, ty) (by simp)).2
  have r2 := (h.2 t (c0, ty) (by rw [List.getElem?_append_left (List.getElem?_eq_some_iff.mp h0).1]; exact h0)).2
  cases ty with
  | object C =>
    obtain ⟨_, _, -, -, -, a⟩ := r1
    obtain ⟨_, _, -, -, -, b⟩ := r2
    exact Option.some.inj (a.symm.trans b)
  | _ => exact Option.some.inj (Eq.symm (Eq.trans (Eq.symm r2) r1))
section UU
variable {g : Gl} {A : Nat → Prop} {cc : ByteArray} {nL : Nat} {own : String} {ret : Option FieldType} {R : Room} {Q : State → Prop} {κ : Ka} {ce : Nat → va_E} {kc : Nat × Nat} {pc : Nat} {L : List (Option Value)} {st : List Value}
theorem U.iload_n {k : Fin 4} {x : Int32} (d : decode cc pc = .ok (.iload_n k, 1)) (h : L[(k : Nat)]? = some (some (.int x))) (kk : U g A cc nL own ret R Q κ ce kc (pc + 1) L (.int x :: st)) : U g A cc nL own ret R Q κ ce kc pc L st := fun E H locs ls w hl => lv_iload_n E.1 E.2.1 d rfl (hl.2.2 _ _ h).2 (kk E H locs ls w hl)
theorem U.iload {k : Nat} {x : Int32} (d : decode cc pc = .ok (.iload k, 2)) (h : L[k]? = some (some (.int x))) (kk : U g A cc nL own ret R Q κ ce kc (pc + 2) L (.int x :: st)) : U g A cc nL own ret R Q κ ce kc pc L st := fun E H locs ls w hl => lv_iload E.1 E.2.1 d (hl.2.2 _ _ h).2 (kk E H locs ls w hl)
theorem U.aload_n {k : Fin 4} {x : Nat} (d : decode cc pc = .ok (.aload_n k, 1)) (h : L[(k : Nat)]? = some (some (.ref x))) (kk : U g A cc nL own ret R Q κ ce kc (pc + 1) L (.ref x :: st)) : U g A cc nL own ret R Q κ ce kc pc L st := fun E H locs ls w hl => lv_aload_n E.1 E.2.1 d rfl (hl.2.2 _ _ h).2 (kk E H locs ls w hl)
theorem U.aload {k : Nat} {x : Nat} (d : decode cc pc = .ok (.aload k, 2)) (h : L[k]? = some (some (.ref x))) (kk : U g A cc nL own ret R Q κ ce kc (pc + 2) L (.ref x :: st)) : U g A cc nL own ret R Q κ ce kc pc L st := fun E H locs ls w hl => lv_aload E.1 E.2.1 d (hl.2.2 _ _ h).2 (kk E H locs ls w hl)
theorem U.istore_n {k : Fin 4} {x : Int32} (d : decode cc pc = .ok (.istore_n k, 1)) (hn : (k : Nat) < nL) (kk : U g A cc nL own ret R Q κ ce kc (pc + 1) (L.set (k : Nat) (some (.int x))) st) : U g A cc nL own ret R Q κ ce kc pc L (.int x :: st) := fun E H locs ls w hl => lv_istore_n E.1 E.2.1 d rfl hl.lv hn rfl (fun ls' hl' => kk E H locs ls' w (hl.st rfl hl'))
theorem U.istore {k : Nat} {x : Int32} (d : decode cc pc = .ok (.istore k, 2)) (hn : k < nL) (kk : U g A cc nL own ret R Q κ ce kc (pc + 2) (L.set k (some (.int x))) st) : U g A cc nL own ret R Q κ ce kc pc L (.int x :: st) := fun E H locs ls w hl => lv_istore E.1 E.2.1 d hl.lv hn rfl (fun ls' hl' => kk E H locs ls' w (hl.st rfl hl'))
theorem U.astore_n {k : Fin 4} {x : Nat} (d : decode cc pc = .ok (.astore_n k, 1)) (hn : (k : Nat) < nL) (kk : U g A cc nL own ret R Q κ ce kc (pc + 1) (L.set (k : Nat) (some (.ref x))) st) : U g A cc nL own ret R Q κ ce kc pc L (.ref x :: st) := fun E H locs ls w hl => lv_astore_n E.1 E.2.1 d rfl hl.lv hn rfl (fun ls' hl' => kk E H locs ls' w (hl.st rfl hl'))
theorem U.astore {k : Nat} {x : Nat} (d : decode cc pc = .ok (.astore k, 2)) (hn : k < nL) (kk : U g A cc nL own ret R Q κ ce kc (pc + 2) (L.set k (some (.ref x))) st) : U g A cc nL own ret R Q κ ce kc pc L (.ref x :: st) := fun E H locs ls w hl => lv_astore E.1 E.2.1 d hl.lv hn rfl (fun ls' hl' => kk E H locs ls' w (hl.st rfl hl'))
theorem U.iinc {i : Nat} {n : Int} {x v : Int32} (d : decode cc pc = .ok (.iinc i n, 3)) (hn : i < nL) (h : L[i]? = some (some (.int x))) (hv : x + Int32.ofInt n = v) (kk : U g A cc nL own ret R Q κ ce kc (pc + 3) (L.set i (some (.int v))) st) : U g A cc nL own ret R Q κ ce kc pc L st := fun E H locs ls w hl => by
  obtain ⟨k, hk⟩ := List.getElem?_of_mem (prs_mem.mpr h)
  exact lv_iinc E.1 E.2.1 d hl.lv (k := k) hk hv hn rfl (fun ls' hl' => kk E H locs ls' w (hl.st rfl hl'))
theorem U.iconst {n : Int} {v : Int32} (d : decode cc pc = .ok (.iconst n, 1)) (hv : Int32.ofInt n = v) (kk : U g A cc nL own ret R Q κ ce kc (pc + 1) L (.int v :: st)) : U g A cc nL own ret R Q κ ce kc pc L st := fun E H locs ls w hl => lv_iconst E.1 E.2.1 d hv (kk E H locs ls w hl)
theorem U.bipush {n : Int} {v : Int32} (d : decode cc pc = .ok (.bipush n, 2)) (hv : (Int8.ofInt n).toInt32 = v) (kk : U g A cc nL own ret R Q κ ce kc (pc + 2) L (.int v :: st)) : U g A cc nL own ret R Q κ ce kc pc L st := fun E H locs ls w hl => lv_bipush E.1 E.2.1 d hv (kk E H locs ls w hl)
theorem U.sipush {n : Int} {v : Int32} (d : decode cc pc = .ok (.sipush n, 3)) (hv : (Int16.ofInt n).toInt32 = v) (kk : U g A cc nL own ret R Q κ ce kc (pc + 3) L (.int v :: st)) : U g A cc nL own ret R Q κ ce kc pc L st := fun E H locs ls w hl => lv_sipush E.1 E.2.1 d hv (kk E H locs ls w hl)
theorem U.iadd {x z : Int32} (d : decode cc pc = .ok (.iadd, 1)) (kk : U g A cc nL own ret R Q κ ce kc (pc + 1) L (.int (x + z) :: st)) : U g A cc nL own ret R Q κ ce kc pc L (.int z :: .int x :: st) := fun E H locs ls w hl => lv_iadd E.1 E.2.1 d (kk E H locs ls w hl)
theorem U.isub {x z : Int32} (d : decode cc pc = .ok (.isub, 1)) (kk : U g A cc nL own ret R Q κ ce kc (pc + 1) L (.int (x - z) :: st)) : U g A cc nL own ret R Q κ ce kc pc L (.int z :: .int x :: st) := fun E H locs ls w hl => lv_isub E.1 E.2.1 d (kk E H locs ls w hl)
theorem U.imul {x z : Int32} (d : decode cc pc = .ok (.imul, 1)) (kk : U g A cc nL own ret R Q κ ce kc (pc + 1) L (.int (x * z) :: st)) : U g A cc nL own ret R Q κ ce kc pc L (.int z :: .int x :: st) := fun E H locs ls w hl => lv_imul E.1 E.2.1 d (kk E H locs ls w hl)
theorem U.irem {x z : Int32} (d : decode cc pc = .ok (.irem, 1)) (hz : ¬ z = 0) (kk : U g A cc nL own ret R Q κ ce kc (pc + 1) L (.int (x - x / z * z) :: st)) : U g A cc nL own ret R Q κ ce kc pc L (.int z :: .int x :: st) := fun E H locs ls w hl => lv_irem E.1 E.2.1 d hz (kk E H locs ls w hl)
theorem U.idiv {x z : Int32} (d : decode cc pc = .ok (.idiv, 1)) (hz : ¬ z = 0) (kk : U g A cc nL own ret R Q κ ce kc (pc + 1) L (.int (x / z) :: st)) : U g A cc nL own ret R Q κ ce kc pc L (.int z :: .int x :: st) := fun E H locs ls w hl => lv_idiv E.1 E.2.1 d hz (kk E H locs ls w hl)
theorem U.iand {x z : Int32} (d : decode cc pc = .ok (.iand, 1)) (kk : U g A cc nL own ret R Q κ ce kc (pc + 1) L (.int (x &&& z) :: st)) : U g A cc nL own ret R Q κ ce kc pc L (.int z :: .int x :: st) := fun E H locs ls w hl => lv_iand E.1 E.2.1 d (kk E H locs ls w hl)
theorem U.ishr {x z : Int32} (d : decode cc pc = .ok (.ishr, 1)) (kk : U g A cc nL own ret R Q κ ce kc (pc + 1) L (.int (x >>> (z &&& 31)) :: st)) : U g A cc nL own ret R Q κ ce kc pc L (.int z :: .int x :: st) := fun E H locs ls w hl => lv_ishr E.1 E.2.1 d (kk E H locs ls w hl)
theorem U.dup {a : Value} (d : decode cc pc = .ok (.dup, 1)) (ha : a.category = 1) (kk : U g A cc nL own ret R Q κ ce kc (pc + 1) L (a :: a :: st)) : U g A cc nL own ret R Q κ ce kc pc L (a :: st) := fun E H locs ls w hl => lv_dup E.1 E.2.1 d ha (kk E H locs ls w hl)
theorem U.pop {a : Value} (d : decode cc pc = .ok (.pop, 1)) (ha : a.category = 1) (kk : U g A cc nL own ret R Q κ ce kc (pc + 1) L st) : U g A cc nL own ret R Q κ ce kc pc L (a :: st) := fun E H locs ls w hl => lv_pop E.1 E.2.1 d ha (kk E H locs ls w hl)
theorem U.dup2 {a b : Value} (d : decode cc pc = .ok (.dup2, 1)) (ha : a.category = 1) (hb : b.category = 1) (kk : U g A cc nL own ret R Q κ ce kc (pc + 1) L (a :: b :: a :: b :: st)) : U g A cc nL own ret R Q κ ce kc pc L (a :: b :: st) := fun E H locs ls w hl => lv_dup2_11 E.1 E.2.1 d ha hb (kk E H locs ls w hl)
theorem U.goto {off : Int} {tgt : Nat} (d : decode cc pc = .ok (.goto off, 3)) (ht : (pc : Int) + off = (tgt : Int)) (kk : U g A cc nL own ret R Q κ ce kc tgt L st) : U g A cc nL own ret R Q κ ce kc pc L st := fun E H locs ls w hl => lv_goto E.1 E.2.1 d ht (kk E H locs ls w hl)
theorem U.if_eq {x : Int32} {off : Int} {tgt : Nat} (d : decode cc pc = .ok (.ifCond .eq off, 3)) (ht : (pc : Int) + off = (tgt : Int)) (kt : x = 0 → U g A cc nL own ret R Q κ ce kc tgt L st) (kf : ¬ x = 0 → U g A cc nL own ret R Q κ ce kc (pc + 3) L st) : U g A cc nL own ret R Q κ ce kc pc L (.int x :: st) := fun E H locs ls w hl => lv_if_eq E.1 E.2.1 d ht (fun h => kt h E H locs ls w hl) (fun h => kf h E H locs ls w hl)
theorem U.if_ne {x : Int32} {off : Int} {tgt : Nat} (d : decode cc pc = .ok (.ifCond .ne off, 3)) (ht : (pc : Int) + off = (tgt : Int)) (kt : ¬ x = 0 → U g A cc nL own ret R Q κ ce kc tgt L st) (kf : x = 0 → U g A cc nL own ret R Q κ ce kc (pc + 3) L st) : U g A cc nL own ret R Q κ ce kc pc L (.int x :: st) := fun E H locs ls w hl => lv_if_ne E.1 E.2.1 d ht (fun h => kt h E H locs ls w hl) (fun h => kf h E H locs ls w hl)
theorem U.if_lt {x : Int32} {off : Int} {tgt : Nat} (d : decode cc pc = .ok (.ifCond .lt off, 3)) (ht : (pc : Int) + off = (tgt : Int)) (kt : x < 0 → U g A cc nL own ret R Q κ ce kc tgt L st) (kf : ¬ x < 0 → U g A cc nL own ret R Q κ ce kc (pc + 3) L st) : U g A cc nL own ret R Q κ ce kc pc L (.int x :: st) := fun E H locs ls w hl => lv_if_lt E.1 E.2.1 d ht (fun h => kt h E H locs ls w hl) (fun h => kf h E H locs ls w hl)
theorem U.if_ge {x : Int32} {off : Int} {tgt : Nat} (d : decode cc pc = .ok (.ifCond .ge off, 3)) (ht : (pc : Int) + off = (tgt : Int)) (kt : 0 ≤ x → U g A cc nL own ret R Q κ ce kc tgt L st) (kf : ¬ 0 ≤ x → U g A cc nL own ret R Q κ ce kc (pc + 3) L st) : U g A cc nL own ret R Q κ ce kc pc L (.int x :: st) := fun E H locs ls w hl => lv_if_ge E.1 E.2.1 d ht (fun h => kt h E H locs ls w hl) (fun h => kf h E H locs ls w hl)
theorem U.if_gt {x : Int32} {off : Int} {tgt : Nat} (d : decode cc pc = .ok (.ifCond .gt off, 3)) (ht : (pc : Int) + off = (tgt : Int)) (kt : 0 < x → U g A cc nL own ret R Q κ ce kc tgt L st) (kf : ¬ 0 < x → U g A cc nL own ret R Q κ ce kc (pc + 3) L st) : U g A cc nL own ret R Q κ ce kc pc L (.int x :: st) := fun E H locs ls w hl => lv_if_gt E.1 E.2.1 d ht (fun h => kt h E H locs ls w hl) (fun h => kf h E H locs ls w hl)
theorem U.if_le {x : Int32} {off : Int} {tgt : Nat} (d : decode cc pc = .ok (.ifCond .le off, 3)) (ht : (pc : Int) + off = (tgt : Int)) (kt : x ≤ 0 → U g A cc nL own ret R Q κ ce kc tgt L st) (kf : ¬ x ≤ 0 → U g A cc nL own ret R Q κ ce kc (pc + 3) L st) : U g A cc nL own ret R Q κ ce kc pc L (.int x :: st) := fun E H locs ls w hl => lv_if_le E.1 E.2.1 d ht (fun h => kt h E H locs ls w hl) (fun h => kf h E H locs ls w hl)
theorem U.icmp_eq {x z : Int32} {off : Int} {tgt : Nat} (d : decode cc pc = .ok (.if_icmp .eq off, 3)) (ht : (pc : Int) + off = (tgt : Int)) (kt : x = z → U g A cc nL own ret R Q κ ce kc tgt L st) (kf : ¬ x = z → U g A cc nL own ret R Q κ ce kc (pc + 3) L st) : U g A cc nL own ret R Q κ ce kc pc L (.int z :: .int x :: st) := fun E H locs ls w hl => lv_icmp_eq E.1 E.2.1 d ht (fun h => kt h E H locs ls w hl) (fun h => kf h E H locs ls w hl)
theorem U.icmp_ne {x z : Int32} {off : Int} {tgt : Nat} (d : decode cc pc = .ok (.if_icmp .ne off, 3)) (ht : (pc : Int) + off = (tgt : Int)) (kt : ¬ x = z → U g A cc nL own ret R Q κ ce kc tgt L st) (kf : x = z → U g A cc nL own ret R Q κ ce kc (pc + 3) L st) : U g A cc nL own ret R Q κ ce kc pc L (.int z :: .int x :: st) := fun E H locs ls w hl => lv_icmp_ne E.1 E.2.1 d ht (fun h => kt h E H locs ls w hl) (fun h => kf h E H locs ls w hl)
theorem U.icmp_lt {x z : Int32} {off : Int} {tgt : Nat} (d : decode cc pc = .ok (.if_icmp .lt off, 3)) (ht : (pc : Int) + off = (tgt : Int)) (kt : x < z → U g A cc nL own ret R Q κ ce kc tgt L st) (kf : ¬ x < z → U g A cc nL own ret R Q κ ce kc (pc + 3) L st) : U g A cc nL own ret R Q κ ce kc pc L (.int z :: .int x :: st) := fun E H locs ls w hl => lv_icmp_lt E.1 E.2.1 d ht (fun h => kt h E H locs ls w hl) (fun h => kf h E H locs ls w hl)
theorem U.icmp_ge {x z : Int32} {off : Int} {tgt : Nat} (d : decode cc pc = .ok (.if_icmp .ge off, 3)) (ht : (pc : Int) + off = (tgt : Int)) (kt : z ≤ x → U g A cc nL own ret R Q κ ce kc tgt L st) (kf : ¬ z ≤ x → U g A cc nL own ret R Q κ ce kc (pc + 3) L st) : U g A cc nL own ret R Q κ ce kc pc L (.int z :: .int x :: st) := fun E H locs ls w hl => lv_icmp_ge E.1 E.2.1 d ht (fun h => kt h E H locs ls w hl) (fun h => kf h E H locs ls w hl)
theorem U.icmp_gt {x z : Int32} {off : Int} {tgt : Nat} (d : decode cc pc = .ok (.if_icmp .gt off, 3)) (ht : (pc : Int) + off = (tgt : Int)) (kt : z < x → U g A cc nL own ret R Q κ ce kc tgt L st) (kf : ¬ z < x → U g A cc nL own ret R Q κ ce kc (pc + 3) L st) : U g A cc nL own ret R Q κ ce kc pc L (.int z :: .int x :: st) := fun E H locs ls w hl => lv_icmp_gt E.1 E.2.1 d ht (fun h => kt h E H locs ls w hl) (fun h => kf h E H locs ls w hl)
theorem U.icmp_le {x z : Int32} {off : Int} {tgt : Nat} (d : decode cc pc = .ok (.if_icmp .le off, 3)) (ht : (pc : Int) + off = (tgt : Int)) (kt : x ≤ z → U g A cc nL own ret R Q κ ce kc tgt L st) (kf : ¬ x ≤ z → U g A cc nL own ret R Q κ ce kc (pc + 3) L st) : U g A cc nL own ret R Q κ ce kc pc L (.int z :: .int x :: st) := fun E H locs ls w hl => lv_icmp_le E.1 E.2.1 d ht (fun h => kt h E H locs ls w hl) (fun h => kf h E H locs ls w hl)
theorem U.lookup {dflt : Int} {ps : Array (Int × Int)} {len : Nat} {x : Int32} {off : Int} {tgt : Nat} (d : decode cc pc = .ok (.lookupswitch dflt ps, len)) (hp : (ps.toList.zip (ps.toList.drop 1)).all (fun (a, next) => a.1 < next.1) = true) (ho : Op.lookupswitch.offset ps.toList dflt x.toInt = off) (ht : (pc : Int) + off = (tgt : Int)) (kk : U g A cc nL own ret R Q κ ce kc tgt L st) : U g A cc nL own ret R Q κ ce kc pc L (.int x :: st) := fun E H locs ls w hl => lv_lookup E.1 E.2.1 d hp ho ht (kk E H locs ls w hl)
theorem U.tableOut {dflt lo hi : Int} {offs : Array Int} {len : Nat} {x : Int32} {tgt : Nat} (d : decode cc pc = .ok (.tableswitch dflt lo hi offs, len)) (h : x.toInt < lo ∨ hi < x.toInt) (ht : (pc : Int) + dflt = (tgt : Int)) (kk : U g A cc nL own ret R Q κ ce kc tgt L st) : U g A cc nL own ret R Q κ ce kc pc L (.int x :: st) := fun E H locs ls w hl => lv_tableOut E.1 E.2.1 d h ht (kk E H locs ls w hl)
theorem U.tableIn {dflt lo hi : Int} {offs : Array Int} {len : Nat} {x : Int32} {off : Int} {tgt : Nat} (d : decode cc pc = .ok (.tableswitch dflt lo hi offs, len)) (h1 : ¬ x.toInt < lo) (h2 : ¬ hi < x.toInt) (ho : offs[(x.toInt - lo).toNat]? = some off) (ht : (pc : Int) + off = (tgt : Int)) (kk : U g A cc nL own ret R Q κ ce kc tgt L st) : U g A cc nL own ret R Q κ ce kc pc L (.int x :: st) := fun E H locs ls w hl => lv_tableIn E.1 E.2.1 d h1 h2 ho ht (kk E H locs ls w hl)
theorem U.iaddN {a b : Nat} (d : decode cc pc = .ok (.iadd, 1)) (kk : U g A cc nL own ret R Q κ ce kc (pc + 1) L (.int (nI (a + b)) :: st)) : U g A cc nL own ret R Q κ ce kc pc L (.int (nI b) :: .int (nI a) :: st) := U.iadd d (by rw [nI_add]; exact kk)
theorem U.isubN {a b : Nat} (d : decode cc pc = .ok (.isub, 1)) (h : b ≤ a) (kk : U g A cc nL own ret R Q κ ce kc (pc + 1) L (.int (nI (a - b)) :: st)) : U g A cc nL own ret R Q κ ce kc pc L (.int (nI b) :: .int (nI a) :: st) := U.isub d (by rw [pk_sub h]; exact kk)
theorem U.imulN {a b : Nat} (d : decode cc pc = .ok (.imul, 1)) (kk : U g A cc nL own ret R Q κ ce kc (pc + 1) L (.int (nI (a * b)) :: st)) : U g A cc nL own ret R Q κ ce kc pc L (.int (nI b) :: .int (nI a) :: st) := U.imul d (by rw [pk_mul]; exact kk)
theorem U.iremN {a b : Nat} (d : decode cc pc = .ok (.irem, 1)) (ha : a < 2 ^ 31) (h0 : 0 < b) (hb : b < 2 ^ 31) (kk : U g A cc nL own ret R Q κ ce kc (pc + 1) L (.int (nI (a % b)) :: st)) : U g A cc nL own ret R Q κ ce kc pc L (.int (nI b) :: .int (nI a) :: st) := U.irem d (nI_ne0 h0 hb) (by rw [pk_rem ha h0 hb]; exact kk)
theorem U.idivN {a b : Nat} (d : decode cc pc = .ok (.idiv, 1)) (ha : a < 2 ^ 31) (h0 : 0 < b) (hb : b < 2 ^ 31) (kk : U g A cc nL own ret R Q κ ce kc (pc + 1) L (.int (nI (a / b)) :: st)) : U g A cc nL own ret R Q κ ce kc pc L (.int (nI b) :: .int (nI a) :: st) := U.idiv d (nI_ne0 h0 hb) (by rw [pk_div ha h0 hb]; exact kk)
theorem U.iincN {i j : Nat} (d : decode cc pc = .ok (.iinc i 1, 3)) (hn : i < nL) (h : L[i]? = some (some (.int (nI j)))) (kk : U g A cc nL own ret R Q κ ce kc (pc + 3) (L.set i (some (.int (nI (j + 1))))) st) : U g A cc nL own ret R Q κ ce kc pc L st := U.iinc d hn h (nI_inc j) kk
theorem U.iincD {i j : Nat} (d : decode cc pc = .ok (.iinc i (-1), 3)) (hn : i < nL) (h : L[i]? = some (some (.int (nI j)))) (kk : U g A cc nL own ret R Q κ ce kc (pc + 3) (L.set i (some (.int (nI j - 1)))) st) : U g A cc nL own ret R Q κ ce kc pc L st := U.iinc d hn h (nI_dec' j) kk
theorem U.geN {a b : Nat} {off : Int} {tgt : Nat} (d : decode cc pc = .ok (.if_icmp .ge off, 3)) (ht : (pc : Int) + off = (tgt : Int)) (ha : a < 2 ^ 31) (hb : b < 2 ^ 31) (kt : b ≤ a → U g A cc nL own ret R Q κ ce kc tgt L st) (kf : a < b → U g A cc nL own ret R Q κ ce kc (pc + 3) L st) : U g A cc nL own ret R Q κ ce kc pc L (.int (nI b) :: .int (nI a) :: st) := U.icmp_ge d ht (fun h => kt ((nI_leI hb ha).mp h)) (fun h => kf (by have := mt (nI_leI hb ha).mpr h; omega))
theorem U.gtN {a b : Nat} {off : Int} {tgt : Nat} (d : decode cc pc = .ok (.if_icmp .gt off, 3)) (ht : (pc : Int) + off = (tgt : Int)) (ha : a < 2 ^ 31) (hb : b < 2 ^ 31) (kt : b < a → U g A cc nL own ret R Q κ ce kc tgt L st) (kf : a ≤ b → U g A cc nL own ret R Q κ ce kc (pc + 3) L st) : U g A cc nL own ret R Q κ ce kc pc L (.int (nI b) :: .int (nI a) :: st) := U.icmp_gt d ht (fun h => kt ((nI_ltI hb ha).mp h)) (fun h => kf (by have := mt (nI_ltI hb ha).mpr h; omega))
theorem U.leN {a b : Nat} {off : Int} {tgt : Nat} (d : decode cc pc = .ok (.if_icmp .le off, 3)) (ht : (pc : Int) + off = (tgt : Int)) (ha : a < 2 ^ 31) (hb : b < 2 ^ 31) (kt : a ≤ b → U g A cc nL own ret R Q κ ce kc tgt L st) (kf : b < a → U g A cc nL own ret R Q κ ce kc (pc + 3) L st) : U g A cc nL own ret R Q κ ce kc pc L (.int (nI b) :: .int (nI a) :: st) := U.icmp_le d ht (fun h => kt ((nI_leI ha hb).mp h)) (fun h => kf (by have := mt (nI_leI ha hb).mpr h; omega))
theorem U.ltN {a b : Nat} {off : Int} {tgt : Nat} (d : decode cc pc = .ok (.if_icmp .lt off, 3)) (ht : (pc : Int) + off = (tgt : Int)) (ha : a < 2 ^ 31) (hb : b < 2 ^ 31) (kt : a < b → U g A cc nL own ret R Q κ ce kc tgt L st) (kf : b ≤ a → U g A cc nL own ret R Q κ ce kc (pc + 3) L st) : U g A cc nL own ret R Q κ ce kc pc L (.int (nI b) :: .int (nI a) :: st) := U.icmp_lt d ht (fun h => kt ((nI_ltI ha hb).mp h)) (fun h => kf (by have := mt (nI_ltI ha hb).mpr h; omega))
theorem U.eqN {a b : Nat} {off : Int} {tgt : Nat} (d : decode cc pc = .ok (.if_icmp .eq off, 3)) (ht : (pc : Int) + off = (tgt : Int)) (ha : a < 2 ^ 31) (hb : b < 2 ^ 31) (kt : a = b → U g A cc nL own ret R Q κ ce kc tgt L st) (kf : a ≠ b → U g A cc nL own ret R Q κ ce kc (pc + 3) L st) : U g A cc nL own ret R Q κ ce kc pc L (.int (nI b) :: .int (nI a) :: st) := U.icmp_eq d ht (fun h => kt ((nI_eq ha hb).mp h)) (fun h => kf (mt (nI_eq ha hb).mpr h))
theorem U.neN {a b : Nat} {off : Int} {tgt : Nat} (d : decode cc pc = .ok (.if_icmp .ne off, 3)) (ht : (pc : Int) + off = (tgt : Int)) (ha : a < 2 ^ 31) (hb : b < 2 ^ 31) (kt : a ≠ b → U g A cc nL own ret R Q κ ce kc tgt L st) (kf : a = b → U g A cc nL own ret R Q κ ce kc (pc + 3) L st) : U g A cc nL own ret R Q κ ce kc pc L (.int (nI b) :: .int (nI a) :: st) := U.icmp_ne d ht (fun h => kt (mt (nI_eq ha hb).mpr h)) (fun h => kf ((nI_eq ha hb).mp h))
theorem U.if_eqN {a : Nat} {off : Int} {tgt : Nat} (d : decode cc pc = .ok (.ifCond .eq off, 3)) (ht : (pc : Int) + off = (tgt : Int)) (ha : a < 2 ^ 31) (kt : a = 0 → U g A cc nL own ret R Q κ ce kc tgt L st) (kf : a ≠ 0 → U g A cc nL own ret R Q κ ce kc (pc + 3) L st) : U g A cc nL own ret R Q κ ce kc pc L (.int (nI a) :: st) := U.if_eq d ht (fun h => kt ((nI_eq ha (by decide)).mp (h.trans nI_0.symm))) (fun h => kf (fun e => h (by rw [e]; rfl)))
theorem U.if_neN {a : Nat} {off : Int} {tgt : Nat} (d : decode cc pc = .ok (.ifCond .ne off, 3)) (ht : (pc : Int) + off = (tgt : Int)) (ha : a < 2 ^ 31) (kt : a ≠ 0 → U g A cc nL own ret R Q κ ce kc tgt L st) (kf : a = 0 → U g A cc nL own ret R Q κ ce kc (pc + 3) L st) : U g A cc nL own ret R Q κ ce kc pc L (.int (nI a) :: st) := U.if_ne d ht (fun h => kt (fun e => h (by rw [e]; rfl))) (fun h => kf ((nI_eq ha (by decide)).mp (h.trans nI_0.symm)))
theorem U.if_leN {a : Nat} {off : Int} {tgt : Nat} (d : decode cc pc = .ok (.ifCond .le off, 3)) (ht : (pc : Int) + off = (tgt : Int)) (ha : a < 2 ^ 31) (kt : a = 0 → U g A cc nL own ret R Q κ ce kc tgt L st) (kf : 0 < a → U g A cc nL own ret R Q κ ce kc (pc + 3) L st) : U g A cc nL own ret R Q κ ce kc pc L (.int (nI a) :: st) := U.if_le d ht (fun h => kt (by have := (nI_leI ha (by decide : (0 : Nat) < 2 ^ 31)).mp h; omega)) (fun h => kf (by rcases Nat.eq_zero_or_pos a with e | e; exact absurd (by rw [e]; decide) h; exact e))
theorem U.if_ltD {k : Nat} {off : Int} {tgt : Nat} (d : decode cc pc = .ok (.ifCond .lt off, 3)) (ht : (pc : Int) + off = (tgt : Int)) (hk : k < 2 ^ 31) (kt : k = 0 → U g A cc nL own ret R Q κ ce kc tgt L st) (kf : ∀ j, k = j + 1 → U g A cc nL own ret R Q κ ce kc (pc + 3) L st) : U g A cc nL own ret R Q κ ce kc pc L (.int (nI k - 1) :: st) := U.if_lt d ht (fun h => kt (by
    cases k with
    | zero => rfl
    | succ j => rw [nI_pred] at h; exact absurd h (nI_pos (by omega)))) (fun h => by
    cases k with
    | zero => exact absurd nI_m1neg h
    | succ j => exact kf j rfl)
theorem U.if_leD {a : Nat} {off : Int} {tgt : Nat} (d : decode cc pc = .ok (.ifCond .le off, 3)) (ht : (pc : Int) + off = (tgt : Int)) (ha : a < 2 ^ 31) (kt : a = 0 → U g A cc nL own ret R Q κ ce kc tgt L st) (kf : ∀ j, a = j + 1 → U g A cc nL own ret R Q κ ce kc (pc + 3) L st) : U g A cc nL own ret R Q κ ce kc pc L (.int (nI a) :: st) := U.if_leN d ht ha kt (fun h => kf (a - 1) (by omega))
theorem U.kkF {M2 : Mem} {r : Int32} (h : V g cc nL own ret R Q κ M2 pc L (.int r :: st)) : ∀ (v : Option Value) (M' : Mem), (v = some (.int r) ∧ M' = M2) → V g cc nL own ret R Q κ M' pc L (v.toList ++ st) := by
  rintro _ _ ⟨rfl, rfl⟩; exact h
theorem U.kkA {M2 : Mem} {a : Nat} (h : V g cc nL own ret R Q κ M2 pc L (.ref a :: st)) : ∀ (v : Option Value) (M' : Mem), (v = some (.ref a) ∧ M' = M2) → V g cc nL own ret R Q κ M' pc L (v.toList ++ st) := by
  rintro _ _ ⟨rfl, rfl⟩; exact h
theorem U.kkN {M2 : Mem} (h : V g cc nL own ret R Q κ M2 pc L st) : ∀ (v : Option Value) (M' : Mem), (v = none ∧ M' = M2) → V g cc nL own ret R Q κ M' pc L (v.toList ++ st) := by
  rintro _ _ ⟨rfl, rfl⟩; exact h
theorem U.kkP {P : Mem → Prop} (h : ∀ M', P M' → V g cc nL own ret R Q κ M' pc L st) : ∀ (v : Option Value) (M' : Mem), (v = none ∧ P M') → V g cc nL own ret R Q κ M' pc L (v.toList ++ st) := by
  rintro _ M' ⟨rfl, hp⟩; exact h M' hp
theorem U.kkI {P : Int32 → Mem → Prop} (h : ∀ r M', P r M' → V g cc nL own ret R Q κ M' pc L (.int r :: st)) : ∀ (v : Option Value) (M' : Mem), (∃ r, v = some (.int r) ∧ P r M') → V g cc nL own ret R Q κ M' pc L (v.toList ++ st) := by
  rintro _ M' ⟨r, rfl, hp⟩; exact h r M' hp
theorem U.kkB {P : Bool → Mem → Prop} (h : ∀ b M', P b M' → V g cc nL own ret R Q κ M' pc L (.int (if b then 1 else 0) :: st)) : ∀ (v : Option Value) (M' : Mem), (∃ b : Bool, v = some (.int (if b then 1 else 0)) ∧ P b M') → V g cc nL own ret R Q κ M' pc L (v.toList ++ st) := by
  rintro _ M' ⟨r, rfl, hp⟩; exact h r M' hp
theorem U.if_eqB {b : Bool} {off : Int} {tgt : Nat} (d : decode cc pc = .ok (.ifCond .eq off, 3)) (ht : (pc : Int) + off = (tgt : Int)) (kt : b = false → U g A cc nL own ret R Q κ ce kc tgt L st) (kf : b = true → U g A cc nL own ret R Q κ ce kc (pc + 3) L st) : U g A cc nL own ret R Q κ ce kc pc L (.int (nI b.toNat) :: st) := by
  cases b
  · exact U.if_eqN d ht (by decide) (fun _ => kt rfl) (fun h => absurd rfl h)
  · exact U.if_eqN d ht (by decide) (fun h => absurd h (by decide)) (fun _ => kf rfl)
theorem U.if_neB {b : Bool} {off : Int} {tgt : Nat} (d : decode cc pc = .ok (.ifCond .ne off, 3)) (ht : (pc : Int) + off = (tgt : Int)) (kt : b = true → U g A cc nL own ret R Q κ ce kc tgt L st) (kf : b = false → U g A cc nL own ret R Q κ ce kc (pc + 3) L st) : U g A cc nL own ret R Q κ ce kc pc L (.int (nI b.toNat) :: st) := by
  cases b
  · exact U.if_neN d ht (by decide) (fun h => absurd rfl h) (fun _ => kf rfl)
  · exact U.if_neN d ht (by decide) (fun _ => kt rfl) (fun h => absurd h (by decide))
theorem U.kkX {r : Int32} {P : Mem → Prop} (h : ∀ M', P M' → V g cc nL own ret R Q κ M' pc L (.int r :: st)) : ∀ (v : Option Value) (M' : Mem), (v = some (.int r) ∧ P M') → V g cc nL own ret R Q κ M' pc L (v.toList ++ st) := by
  rintro _ M' ⟨rfl, hp⟩; exact h M' hp
theorem U.getf {o ci k N index : Nat} {C : String} {T : u_T} {fs : List Value} {v : Value} (d : decode cc pc = .ok (.getfield index, 3)) (hlink : Cond.fieldLink own index (T k).1 (T k).2.1 (T k).2.2.1 ∈ gw) (hin : ∀ w ∈ u_ws C T N, w ∈ gw) (hcl : cls[ci]? = some (C, T, N)) (ho : o ∈ g.2.2.2.2) (hc : ce o = .inr (ci, fs)) (hk : k < N) (hv : fs[k]? = some v) (kk : U g A cc nL own ret R Q κ ce kc (pc + 3) L (v :: st)) : U g A cc nL own ret R Q κ ce kc pc L (.ref (g.2.2.2.1 o) :: st) := fun E H locs ls w hl => by
  obtain ⟨q, -, hq⟩ := wl_at (ad := g.2.2.2.1) (ce := ce) ho
  rw [hc] at hq
  exact va_get E.1 E.2.1 E.2.2.2.2.1 hin E.2.2.2.1 E.2.2.2.2.2.1 w.1 q hq hcl k hk (E.2.2.2.2.1 _ hlink) (fun x hx => hx) hv d (kk E H locs ls w hl)
theorem U.putf {o ci k N index : Nat} {C : String} {T : u_T} {fs : List Value} {v : Value} {ty : FieldType} (ty0 : Nat → FieldType) (d : decode cc pc = .ok (.putfield index, 3)) (hlink : Cond.fieldLink own index (T k).1 (T k).2.1 (T k).2.2.1 ∈ gw) (hin : ∀ w ∈ u_ws C T N, w ∈ gw) (hty : ∀ k, k < N → parseFieldDescriptor (T k).2.2.1 = some (ty0 k)) (hnm : ∀ a, a < N → ∀ b, b < N → a ≠ b → (T a).2.1 ≠ (T b).2.1) (hcl : cls[ci]? = some (C, T, N)) (ho : o ∈ g.2.2.2.2) (hc : ce o = .inr (ci, fs)) (hk : k < N) (hfin : (T k).2.2.2 = false) (he : ty0 k = ty) (hn : narrow ty v = v) (hfit : fits ty v = true) (hl0 : k < fs.length) (kk : U g A cc nL own ret R Q κ (va_up ce o (.inr (ci, fs.set k v))) kc (pc + 3) L st) : U g A cc nL own ret R Q κ ce kc pc L (v :: .ref (g.2.2.2.1 o) :: st) := fun E H locs ls w hl => by
  obtain ⟨q, hq0, hq⟩ := wl_at (ad := g.2.2.2.1) (ce := ce) ho
  rw [hc] at hq
  refine va_put E.1 E.2.1 E.2.2.2.2.1 hin ty0 hty hnm E.2.2.2.1 E.2.2.2.2.2.1 w.1 w.2.1 w.2.2 q hq hcl k hk (E.2.2.2.2.1 _ hlink) (fun x hx => hx) hfin (ty := ty) (by rw [← he]; exact hty k hk) hn hfit hl0 d (fun H1 locs1 hP hD hS => ?_)
  rw [wl_set w.2.1 hq0] at hP hD
  exact kk E H1 locs1 ls ⟨hP, hD, hS⟩ hl
/-- a final field, in the class' own constructor -/
theorem U.putF {o ci k N index : Nat} {C : String} {T : u_T} {fs : List Value} {v : Value} {ty : FieldType} (ty0 : Nat → FieldType) (d : decode cc pc = .ok (.putfield index, 3)) (hm : κ.2.2.2.2.2.2.1.name = "<init>") (hlink : Cond.fieldLink own index (T k).1 (T k).2.1 (T k).2.2.1 ∈ gw) (hin : ∀ w ∈ u_ws C T N, w ∈ gw) (hty : ∀ k, k < N → parseFieldDescriptor (T k).2.2.1 = some (ty0 k)) (hnm : ∀ a, a < N → ∀ b, b < N → a ≠ b → (T a).2.1 ≠ (T b).2.1) (hcl : cls[ci]? = some (C, T, N)) (ho : o ∈ g.2.2.2.2) (hc : ce o = .inr (ci, fs)) (hk : k < N) (hfin : (T k).2.2.2 = true) (hdecl : (T k).1 = own) (he : ty0 k = ty) (hn : narrow ty v = v) (hfit : fits ty v = true) (hl0 : k < fs.length) (kk : U g A cc nL own ret R Q κ (va_up ce o (.inr (ci, fs.set k v))) kc (pc + 3) L st) : U g A cc nL own ret R Q κ ce kc pc L (v :: .ref (g.2.2.2.1 o) :: st) := fun E H locs ls w hl => by
  obtain ⟨q, hq0, hq⟩ := wl_at (ad := g.2.2.2.1) (ce := ce) ho
  rw [hc] at hq
  refine va_putF E.1 E.2.1 E.2.2.2.2.1 hin ty0 hty hnm E.2.2.2.1 E.2.2.2.2.2.1 w.1 w.2.1 w.2.2 q hq hcl k hk (E.2.2.2.2.1 _ hlink) (fun x hx => hx) hfin hm hdecl (ty := ty) (by rw [← he]; exact hty k hk) hn hfit hl0 d (fun H1 locs1 hP hD hS => ?_)
  rw [wl_set w.2.1 hq0] at hP hD
  exact kk E H1 locs1 ls ⟨hP, hD, hS⟩ hl
theorem U.iald {i n j : Nat} {f : Nat → Int32} (d : decode cc pc = .ok (.iaload, 1)) (hi : i ∈ g.2.2.2.2) (hc : ce i = .inl (g.2.2.1 0, n, .inl f)) (hn : n ≤ 162) (hj : j < n) (kk : U g A cc nL own ret R Q κ ce kc (pc + 1) L (.int (f j) :: st)) : U g A cc nL own ret R Q κ ce kc pc L (.int (nI j) :: .ref (g.2.2.2.1 i) :: st) := fun E H locs ls w hl => by
  obtain ⟨k, -, hk⟩ := wl_at (ad := g.2.2.2.1) (ce := ce) hi
  have hcl : (nI j).toNatClampNeg = j := nI_clamp (by omega)
  refine va_iald E.1 E.2.1 E.2.2.2.2.2.1 w.1 k 0 (n := n) (f := f) (by rw [hk, hc]) rfl (nI_in (by omega) (by omega)) d ?_
  rw [hcl]
  exact kk E H locs ls w hl
theorem U.iast {i n j : Nat} {f : Nat → Int32} {x : Int32} (d : decode cc pc = .ok (.iastore, 1)) (hi : i ∈ g.2.2.2.2) (hc : ce i = .inl (g.2.2.1 0, n, .inl f)) (hn : n ≤ 162) (hj : j < n) (kk : U g A cc nL own ret R Q κ (va_up ce i (.inl (g.2.2.1 0, n, .inl (upd f j x)))) kc (pc + 1) L st) : U g A cc nL own ret R Q κ ce kc pc L (.int x :: .int (nI j) :: .ref (g.2.2.2.1 i) :: st) := fun E H locs ls w hl => by
  obtain ⟨k, hk0, hk⟩ := wl_at (ad := g.2.2.2.1) (ce := ce) hi
  have hcl : (nI j).toNatClampNeg = j := nI_clamp (by omega)
  refine va_iast E.1 E.2.1 E.2.2.2.2.2.1 w.1 w.2.1 w.2.2 k 0 (n := n) (f := f) (by rw [hk, hc]) rfl (nI_in (by omega) (by omega)) d (fun H1 locs1 hP hD hS => ?_)
  rw [hcl, wl_set w.2.1 hk0] at hP hD
  exact kk E H1 locs1 ls ⟨hP, hD, hS⟩ hl
theorem U.new {i ci N index : Nat} {C : String} {T : u_T} {fs : List Value} (ty0 : Nat → FieldType) (d : decode cc pc = .ok (.new index, 3)) (hA : ∀ q, κ.2.2.1.heap.size ≤ q → A q) (hi : i ∉ g.2.2.2.2) (hin : ∀ w ∈ u_ws C T N, w ∈ gw) (hty : ∀ k, k < N → parseFieldDescriptor (T k).2.2.1 = some (ty0 k)) (hl0 : Cond.classLink own index C ∈ gw) (hinst : Cond.instantiable C N ∈ gw) (hini : Cond.initialized C ∈ gw) (hcl : cls[ci]? = some (C, T, N)) (hfs : ∀ j, j < N → defaultValue (ty0 j) = vp_V fs j) (h1 : kc.1 + 1 ≤ R.cells) (h2 : kc.2 + N ≤ R.slots) (kk : ∀ q, U (g.1, g.2.1, g.2.2.1, va_up g.2.2.2.1 i q, g.2.2.2.2 ++ [i]) A cc nL own ret R Q κ (va_up ce i (.inr (ci, fs))) (kc.1 + 1, kc.2 + N) (pc + 3) L (.ref q :: st)) : U g A cc nL own ret R Q κ ce kc pc L st := fun E H locs ls w hl => by
  refine va_new E.1 E.2.1 E.2.2.2.2.1 hin ty0 hty E.2.2.2.1 (E.2.2.2.2.1 _ hl0) (E.2.2.2.2.1 _ hinst) (E.2.2.2.2.1 _ hini) E.2.2.2.2.2.1 w.1 w.2.1 w.2.2 hA hcl hfs h1 h2 d (fun q H1 hP hD hS => ?_)
  rw [wl_push hi] at hP hD
  exact kk q E H1 locs ls ⟨hP, hD, hS⟩ hl
theorem U.newa {i n : Nat} (d : decode cc pc = .ok (.newarray .int, 2)) (hA : ∀ q, κ.2.2.1.heap.size ≤ q → A q) (hi : i ∉ g.2.2.2.2) (harr : Cond.arrayClass .int ∈ gw) (hn : n ≤ 162) (h1 : kc.1 + 1 ≤ R.cells) (h2 : kc.2 + n ≤ R.slots) (kk : ∀ q, U (g.1, g.2.1, g.2.2.1, va_up g.2.2.2.1 i q, g.2.2.2.2 ++ [i]) A cc nL own ret R Q κ (va_up ce i (.inl (g.2.2.1 0, n, .inl (fun _ => 0)))) (kc.1 + 1, kc.2 + n) (pc + 2) L (.ref q :: st)) : U g A cc nL own ret R Q κ ce kc pc L (.int (nI n) :: st) := fun E H locs ls w hl => by
  refine va_newa (atype := .int) E.1 E.2.1 (E.2.2.2.2.1 _ harr) (ty := .int) rfl E.2.2.2.2.2.1 w.1 w.2.1 w.2.2 hA (n := nI n) (N' := n) (a0 := (n, .inl (fun _ => 0))) (fun _ => rfl) (nI_pos (by omega)) (nI_clamp (by omega)) (by show n * 4 ≤ _; omega) h1 h2 d (fun q cA H1 hK hP hD hS => ?_)
  have e := K_one hK (t := 0) (c0 := g.2.2.1 0) rfl
  subst e
  rw [wl_push hi] at hP hD
  exact kk q E H1 locs ls ⟨hP, hD, hS⟩ hl
end UU
