/-- the script stands aside -/
def LwH (κ : Ka) (A : Nat → Prop) (b Ls : Nat) (xs : Nat → Int32) : Prop := va_X b Ls xs κ.2.2.1 κ.2.2.1.heap ∧ b < κ.2.2.1.heap.size ∧ ¬ A b ∧ Ls ≤ 2560
def LL (b : Nat) (ad : Nat → Nat) (n : Nat) : List (Option Value) := [some (.ref b), some (.ref (ad 0)), some (.ref (ad 142)), some (.int (nI n))]
/-- in the law, both objects made -/
def UL (l : Launch) (D : va_G) (y : Nat → ClassId) (ad : Nat → Nat) (A : Nat → Prop) (Q : State → Prop) (κ : Ka) (b : Nat) (M : Mem) (pc n : Nat) (st : List Value) : Prop := U (l, D, y, ad, IN 0 1 174) A cL_law 4 RL (some .boolean) room_1 Q κ (cont y ad M) (174, 2496) pc (LL b ad n) st
def Nx (l : Launch) (D : va_G) (y : Nat → ClassId) (ad : Nat → Nat) (A : Nat → Prop) (Q : State → Prop) (κ : Ka) (b n : Nat) : Prop := ∀ a M, Good a → Rc (iA a) M → Rm (iA a) M → UL l D y ad A Q κ b M 1132 n []
section LW
variable {l : Launch} {D : va_G} {y : Nat → ClassId} {ad : Nat → Nat} {A : Nat → Prop} {Q : State → Prop} {κ : Ka} {b Ls n : Nat} {xs : Nat → Int32}
theorem w_write (hX : LwH κ A b Ls xs) (hn : n + 5 ≤ Ls) (nx : Nx l D y ad A Q κ b n) {a : AbF} {M : Mem} (hg : Good a) (h7 : Rc (iA a) M) (h8 : Rm (iA a) M) : UL l D y ad A Q κ b M 176 n [] := by
  obtain ⟨v, a', hg', hc, hm⟩ := j_write (g := (l, D, y, ad, IN 0 1 174)) (fun i hi => IN0 hi) hg (x := xs (n + 1))
  refine U.aload_n dL_law_176 rfl ?_
  refine U.aload_n dL_law_177 rfl ?_
  refine U.iload_n dL_law_178 rfl ?_
  refine U.iconst (v := nI 1) dL_law_179 rfl ?_
  first | refine U.iaddN dL_law_180 ?_ | refine U.iadd dL_law_180 ?_
  refine U.sld dL_law_181 hX.1 hX.2.1 hX.2.2.1 hX.2.2.2 (by omega) ?_
  refine U.callVM (o := 0) (ci := 6) (T := TX7) (N := 10) dL_law_182 IN_nd rfl (hc M h7) lkL_13 im_X7_write se_X7_write cd_X7_write ini_X7 rfl (IN0 (by decide)) (show cont y ad M 0 = o_desk ad from rfl) hd_X7_write ⟨(Nat.le_of_ble_eq_true rfl), (Nat.le_of_ble_eq_true rfl)⟩ rfl (Nat.le_of_ble_eq_true rfl) (Nat.le_of_ble_eq_true rfl) (Nat.le_of_ble_eq_true rfl) ?_
  rintro _ M1 ⟨rfl, r7, k7⟩
  show UL l D y ad A Q κ b M1 185 n [.int v]
  have r8 : Rm (iA a) M1 := h8.far (fun j hj => k7 j (Nat.not_lt.mpr hj))
  refine U.aload_n dL_law_185 rfl ?_
  refine U.aload_n dL_law_186 rfl ?_
  refine U.iload_n dL_law_187 rfl ?_
  refine U.iconst (v := nI 1) dL_law_188 rfl ?_
  first | refine U.iaddN dL_law_189 ?_ | refine U.iadd dL_law_189 ?_
  refine U.sld dL_law_190 hX.1 hX.2.1 hX.2.2.1 hX.2.2.2 (by omega) ?_
  refine U.callVM (o := 142) (ci := 7) (T := TX8) (N := 37) dL_law_191 IN_nd rfl (hm M1 r8) lkL_17 im_X8_write se_X8_write cd_X8_write ini_X8 rfl (IN0 (by decide)) (show cont y ad M1 142 = o_model ad M1 from rfl) hd_X8_write ⟨(Nat.le_of_ble_eq_true rfl), (Nat.le_of_ble_eq_true rfl)⟩ rfl (Nat.le_of_ble_eq_true rfl) (Nat.le_of_ble_eq_true rfl) (Nat.le_of_ble_eq_true rfl) ?_
  rintro _ M2 ⟨rfl, s8, k8⟩
  show UL l D y ad A Q κ b M2 194 n [.int v, .int v]
  have s7 : Rc (iA a') M2 := r7.far (fun j hj => k8 j (Nat.not_le.mpr hj))
  exact U.icmp_eq (tgt := 1132) dL_law_194 (by decide) (fun _ => nx a' M2 hg' s7 s8) (fun h => absurd rfl h)
theorem w_erase (hX : LwH κ A b Ls xs) (hn : n + 5 ≤ Ls) (nx : Nx l D y ad A Q κ b n) {a : AbF} {M : Mem} (hg : Good a) (h7 : Rc (iA a) M) (h8 : Rm (iA a) M) : UL l D y ad A Q κ b M 199 n [] := by
  obtain ⟨v, a', hg', hc, hm⟩ := j_erase (g := (l, D, y, ad, IN 0 1 174)) (fun i hi => IN0 hi) hg 
  refine U.aload_n dL_law_199 rfl ?_
  refine U.callVM (o := 0) (ci := 6) (T := TX7) (N := 10) dL_law_200 IN_nd rfl (hc M h7) lkL_18 im_X7_erase se_X7_erase cd_X7_erase ini_X7 rfl (IN0 (by decide)) (show cont y ad M 0 = o_desk ad from rfl) hd_X7_erase ⟨(Nat.le_of_ble_eq_true rfl), (Nat.le_of_ble_eq_true rfl)⟩ rfl (Nat.le_of_ble_eq_true rfl) (Nat.le_of_ble_eq_true rfl) (Nat.le_of_ble_eq_true rfl) ?_
  rintro _ M1 ⟨rfl, r7, k7⟩
  show UL l D y ad A Q κ b M1 203 n [.int v]
  have r8 : Rm (iA a) M1 := h8.far (fun j hj => k7 j (Nat.not_lt.mpr hj))
  refine U.aload_n dL_law_203 rfl ?_
  refine U.callVM (o := 142) (ci := 7) (T := TX8) (N := 37) dL_law_204 IN_nd rfl (hm M1 r8) lkL_22 im_X8_erase se_X8_erase cd_X8_erase ini_X8 rfl (IN0 (by decide)) (show cont y ad M1 142 = o_model ad M1 from rfl) hd_X8_erase ⟨(Nat.le_of_ble_eq_true rfl), (Nat.le_of_ble_eq_true rfl)⟩ rfl (Nat.le_of_ble_eq_true rfl) (Nat.le_of_ble_eq_true rfl) (Nat.le_of_ble_eq_true rfl) ?_
  rintro _ M2 ⟨rfl, s8, k8⟩
  show UL l D y ad A Q κ b M2 207 n [.int v, .int v]
  have s7 : Rc (iA a') M2 := r7.far (fun j hj => k8 j (Nat.not_le.mpr hj))
  exact U.icmp_eq (tgt := 1132) dL_law_207 (by decide) (fun _ => nx a' M2 hg' s7 s8) (fun h => absurd rfl h)
theorem w_fault (hX : LwH κ A b Ls xs) (hn : n + 5 ≤ Ls) (nx : Nx l D y ad A Q κ b n) {a : AbF} {M : Mem} (hg : Good a) (h7 : Rc (iA a) M) (h8 : Rm (iA a) M) : UL l D y ad A Q κ b M 212 n [] := by
  obtain ⟨v, a', hg', hc, hm⟩ := j_fault (g := (l, D, y, ad, IN 0 1 174)) (fun i hi => IN0 hi) hg 
  refine U.aload_n dL_law_212 rfl ?_
  refine U.callVM (o := 0) (ci := 6) (T := TX7) (N := 10) dL_law_213 IN_nd rfl (hc M h7) lkL_23 im_X7_fault se_X7_fault cd_X7_fault ini_X7 rfl (IN0 (by decide)) (show cont y ad M 0 = o_desk ad from rfl) hd_X7_fault ⟨(Nat.le_of_ble_eq_true rfl), (Nat.le_of_ble_eq_true rfl)⟩ rfl (Nat.le_of_ble_eq_true rfl) (Nat.le_of_ble_eq_true rfl) (Nat.le_of_ble_eq_true rfl) ?_
  rintro _ M1 ⟨rfl, r7, k7⟩
  show UL l D y ad A Q κ b M1 216 n [.int v]
  have r8 : Rm (iA a) M1 := h8.far (fun j hj => k7 j (Nat.not_lt.mpr hj))
  refine U.aload_n dL_law_216 rfl ?_
  refine U.callVM (o := 142) (ci := 7) (T := TX8) (N := 37) dL_law_217 IN_nd rfl (hm M1 r8) lkL_26 im_X8_fault se_X8_fault cd_X8_fault ini_X8 rfl (IN0 (by decide)) (show cont y ad M1 142 = o_model ad M1 from rfl) hd_X8_fault ⟨(Nat.le_of_ble_eq_true rfl), (Nat.le_of_ble_eq_true rfl)⟩ rfl (Nat.le_of_ble_eq_true rfl) (Nat.le_of_ble_eq_true rfl) (Nat.le_of_ble_eq_true rfl) ?_
  rintro _ M2 ⟨rfl, s8, k8⟩
  show UL l D y ad A Q κ b M2 220 n [.int v, .int v]
  have s7 : Rc (iA a') M2 := r7.far (fun j hj => k8 j (Nat.not_le.mpr hj))
  exact U.icmp_eq (tgt := 1132) dL_law_220 (by decide) (fun _ => nx a' M2 hg' s7 s8) (fun h => absurd rfl h)
theorem w_read (hX : LwH κ A b Ls xs) (hn : n + 5 ≤ Ls) (nx : Nx l D y ad A Q κ b n) {a : AbF} {M : Mem} (hg : Good a) (h7 : Rc (iA a) M) (h8 : Rm (iA a) M) : UL l D y ad A Q κ b M 225 n [] := by
  obtain ⟨v, a', hg', hc, hm⟩ := j_read (g := (l, D, y, ad, IN 0 1 174)) (fun i hi => IN0 hi) hg (x := xs (n + 1))
  refine U.aload_n dL_law_225 rfl ?_
  refine U.aload_n dL_law_226 rfl ?_
  refine U.iload_n dL_law_227 rfl ?_
  refine U.iconst (v := nI 1) dL_law_228 rfl ?_
  first | refine U.iaddN dL_law_229 ?_ | refine U.iadd dL_law_229 ?_
  refine U.sld dL_law_230 hX.1 hX.2.1 hX.2.2.1 hX.2.2.2 (by omega) ?_
  refine U.callVM (o := 0) (ci := 6) (T := TX7) (N := 10) dL_law_231 IN_nd rfl (hc M h7) lkL_27 im_X7_read se_X7_read cd_X7_read ini_X7 rfl (IN0 (by decide)) (show cont y ad M 0 = o_desk ad from rfl) hd_X7_read ⟨(Nat.le_of_ble_eq_true rfl), (Nat.le_of_ble_eq_true rfl)⟩ rfl (Nat.le_of_ble_eq_true rfl) (Nat.le_of_ble_eq_true rfl) (Nat.le_of_ble_eq_true rfl) ?_
  rintro _ M1 ⟨rfl, r7, k7⟩
  show UL l D y ad A Q κ b M1 234 n [.int v]
  have r8 : Rm (iA a) M1 := h8.far (fun j hj => k7 j (Nat.not_lt.mpr hj))
  refine U.aload_n dL_law_234 rfl ?_
  refine U.aload_n dL_law_235 rfl ?_
  refine U.iload_n dL_law_236 rfl ?_
  refine U.iconst (v := nI 1) dL_law_237 rfl ?_
  first | refine U.iaddN dL_law_238 ?_ | refine U.iadd dL_law_238 ?_
  refine U.sld dL_law_239 hX.1 hX.2.1 hX.2.2.1 hX.2.2.2 (by omega) ?_
  refine U.callVM (o := 142) (ci := 7) (T := TX8) (N := 37) dL_law_240 IN_nd rfl (hm M1 r8) lkL_30 im_X8_read se_X8_read cd_X8_read ini_X8 rfl (IN0 (by decide)) (show cont y ad M1 142 = o_model ad M1 from rfl) hd_X8_read ⟨(Nat.le_of_ble_eq_true rfl), (Nat.le_of_ble_eq_true rfl)⟩ rfl (Nat.le_of_ble_eq_true rfl) (Nat.le_of_ble_eq_true rfl) (Nat.le_of_ble_eq_true rfl) ?_
  rintro _ M2 ⟨rfl, s8, k8⟩
  show UL l D y ad A Q κ b M2 243 n [.int v, .int v]
  have s7 : Rc (iA a') M2 := r7.far (fun j hj => k8 j (Nat.not_le.mpr hj))
  exact U.icmp_eq (tgt := 1132) dL_law_243 (by decide) (fun _ => nx a' M2 hg' s7 s8) (fun h => absurd rfl h)
theorem w_compose (hX : LwH κ A b Ls xs) (hn : n + 5 ≤ Ls) (nx : Nx l D y ad A Q κ b n) {a : AbF} {M : Mem} (hg : Good a) (h7 : Rc (iA a) M) (h8 : Rm (iA a) M) : UL l D y ad A Q κ b M 248 n [] := by
  obtain ⟨v, a', hg', hc, hm⟩ := j_compose (g := (l, D, y, ad, IN 0 1 174)) (fun i hi => IN0 hi) hg (x := xs (n + 1)) (y := xs (n + 2)) (z := xs (n + 3))
  refine U.aload_n dL_law_248 rfl ?_
  refine U.aload_n dL_law_249 rfl ?_
  refine U.iload_n dL_law_250 rfl ?_
  refine U.iconst (v := nI 1) dL_law_251 rfl ?_
  first | refine U.iaddN dL_law_252 ?_ | refine U.iadd dL_law_252 ?_
  refine U.sld dL_law_253 hX.1 hX.2.1 hX.2.2.1 hX.2.2.2 (by omega) ?_
  refine U.aload_n dL_law_254 rfl ?_
  refine U.iload_n dL_law_255 rfl ?_
  refine U.iconst (v := nI 2) dL_law_256 rfl ?_
  first | refine U.iaddN dL_law_257 ?_ | refine U.iadd dL_law_257 ?_
  refine U.sld dL_law_258 hX.1 hX.2.1 hX.2.2.1 hX.2.2.2 (by omega) ?_
  refine U.aload_n dL_law_259 rfl ?_
  refine U.iload_n dL_law_260 rfl ?_
  refine U.iconst (v := nI 3) dL_law_261 rfl ?_
  first | refine U.iaddN dL_law_262 ?_ | refine U.iadd dL_law_262 ?_
  refine U.sld dL_law_263 hX.1 hX.2.1 hX.2.2.1 hX.2.2.2 (by omega) ?_
  refine U.callVM (o := 0) (ci := 6) (T := TX7) (N := 10) dL_law_264 IN_nd rfl (hc M h7) lkL_31 im_X7_compose se_X7_compose cd_X7_compose ini_X7 rfl (IN0 (by decide)) (show cont y ad M 0 = o_desk ad from rfl) hd_X7_compose ⟨(Nat.le_of_ble_eq_true rfl), (Nat.le_of_ble_eq_true rfl)⟩ rfl (Nat.le_of_ble_eq_true rfl) (Nat.le_of_ble_eq_true rfl) (Nat.le_of_ble_eq_true rfl) ?_
  rintro _ M1 ⟨rfl, r7, k7⟩
  show UL l D y ad A Q κ b M1 267 n [.int v]
  have r8 : Rm (iA a) M1 := h8.far (fun j hj => k7 j (Nat.not_lt.mpr hj))
  refine U.aload_n dL_law_267 rfl ?_
  refine U.aload_n dL_law_268 rfl ?_
  refine U.iload_n dL_law_269 rfl ?_
  refine U.iconst (v := nI 1) dL_law_270 rfl ?_
  first | refine U.iaddN dL_law_271 ?_ | refine U.iadd dL_law_271 ?_
  refine U.sld dL_law_272 hX.1 hX.2.1 hX.2.2.1 hX.2.2.2 (by omega) ?_
  refine U.aload_n dL_law_273 rfl ?_
  refine U.iload_n dL_law_274 rfl ?_
  refine U.iconst (v := nI 2) dL_law_275 rfl ?_
  first | refine U.iaddN dL_law_276 ?_ | refine U.iadd dL_law_276 ?_
  refine U.sld dL_law_277 hX.1 hX.2.1 hX.2.2.1 hX.2.2.2 (by omega) ?_
  refine U.aload_n dL_law_278 rfl ?_
  refine U.iload_n dL_law_279 rfl ?_
  refine U.iconst (v := nI 3) dL_law_280 rfl ?_
  first | refine U.iaddN dL_law_281 ?_ | refine U.iadd dL_law_281 ?_
  refine U.sld dL_law_282 hX.1 hX.2.1 hX.2.2.1 hX.2.2.2 (by omega) ?_
  refine U.callVM (o := 142) (ci := 7) (T := TX8) (N := 37) dL_law_283 IN_nd rfl (hm M1 r8) lkL_35 im_X8_compose se_X8_compose cd_X8_compose ini_X8 rfl (IN0 (by decide)) (show cont y ad M1 142 = o_model ad M1 from rfl) hd_X8_compose ⟨(Nat.le_of_ble_eq_true rfl), (Nat.le_of_ble_eq_true rfl)⟩ rfl (Nat.le_of_ble_eq_true rfl) (Nat.le_of_ble_eq_true rfl) (Nat.le_of_ble_eq_true rfl) ?_
  rintro _ M2 ⟨rfl, s8, k8⟩
  show UL l D y ad A Q κ b M2 286 n [.int v, .int v]
  have s7 : Rc (iA a') M2 := r7.far (fun j hj => k8 j (Nat.not_le.mpr hj))
  exact U.icmp_eq (tgt := 1132) dL_law_286 (by decide) (fun _ => nx a' M2 hg' s7 s8) (fun h => absurd rfl h)
theorem w_invert (hX : LwH κ A b Ls xs) (hn : n + 5 ≤ Ls) (nx : Nx l D y ad A Q κ b n) {a : AbF} {M : Mem} (hg : Good a) (h7 : Rc (iA a) M) (h8 : Rm (iA a) M) : UL l D y ad A Q κ b M 291 n [] := by
  obtain ⟨v, a', hg', hc, hm⟩ := j_invert (g := (l, D, y, ad, IN 0 1 174)) (fun i hi => IN0 hi) hg (x := xs (n + 1)) (y := xs (n + 2))
  refine U.aload_n dL_law_291 rfl ?_
  refine U.aload_n dL_law_292 rfl ?_
  refine U.iload_n dL_law_293 rfl ?_
  refine U.iconst (v := nI 1) dL_law_294 rfl ?_
  first | refine U.iaddN dL_law_295 ?_ | refine U.iadd dL_law_295 ?_
  refine U.sld dL_law_296 hX.1 hX.2.1 hX.2.2.1 hX.2.2.2 (by omega) ?_
  refine U.aload_n dL_law_297 rfl ?_
  refine U.iload_n dL_law_298 rfl ?_
  refine U.iconst (v := nI 2) dL_law_299 rfl ?_
  first | refine U.iaddN dL_law_300 ?_ | refine U.iadd dL_law_300 ?_
  refine U.sld dL_law_301 hX.1 hX.2.1 hX.2.2.1 hX.2.2.2 (by omega) ?_
  refine U.callVM (o := 0) (ci := 6) (T := TX7) (N := 10) dL_law_302 IN_nd rfl (hc M h7) lkL_36 im_X7_invert se_X7_invert cd_X7_invert ini_X7 rfl (IN0 (by decide)) (show cont y ad M 0 = o_desk ad from rfl) hd_X7_invert ⟨(Nat.le_of_ble_eq_true rfl), (Nat.le_of_ble_eq_true rfl)⟩ rfl (Nat.le_of_ble_eq_true rfl) (Nat.le_of_ble_eq_true rfl) (Nat.le_of_ble_eq_true rfl) ?_
  rintro _ M1 ⟨rfl, r7, k7⟩
  show UL l D y ad A Q κ b M1 305 n [.int v]
  have r8 : Rm (iA a) M1 := h8.far (fun j hj => k7 j (Nat.not_lt.mpr hj))
  refine U.aload_n dL_law_305 rfl ?_
  refine U.aload_n dL_law_306 rfl ?_
  refine U.iload_n dL_law_307 rfl ?_
  refine U.iconst (v := nI 1) dL_law_308 rfl ?_
  first | refine U.iaddN dL_law_309 ?_ | refine U.iadd dL_law_309 ?_
  refine U.sld dL_law_310 hX.1 hX.2.1 hX.2.2.1 hX.2.2.2 (by omega) ?_
  refine U.aload_n dL_law_311 rfl ?_
  refine U.iload_n dL_law_312 rfl ?_
  refine U.iconst (v := nI 2) dL_law_313 rfl ?_
  first | refine U.iaddN dL_law_314 ?_ | refine U.iadd dL_law_314 ?_
  refine U.sld dL_law_315 hX.1 hX.2.1 hX.2.2.1 hX.2.2.2 (by omega) ?_
  refine U.callVM (o := 142) (ci := 7) (T := TX8) (N := 37) dL_law_316 IN_nd rfl (hm M1 r8) lkL_40 im_X8_invert se_X8_invert cd_X8_invert ini_X8 rfl (IN0 (by decide)) (show cont y ad M1 142 = o_model ad M1 from rfl) hd_X8_invert ⟨(Nat.le_of_ble_eq_true rfl), (Nat.le_of_ble_eq_true rfl)⟩ rfl (Nat.le_of_ble_eq_true rfl) (Nat.le_of_ble_eq_true rfl) (Nat.le_of_ble_eq_true rfl) ?_
  rintro _ M2 ⟨rfl, s8, k8⟩
  show UL l D y ad A Q κ b M2 319 n [.int v, .int v]
  have s7 : Rc (iA a') M2 := r7.far (fun j hj => k8 j (Nat.not_le.mpr hj))
  exact U.icmp_eq (tgt := 1132) dL_law_319 (by decide) (fun _ => nx a' M2 hg' s7 s8) (fun h => absurd rfl h)
theorem w_part (hX : LwH κ A b Ls xs) (hn : n + 5 ≤ Ls) (nx : Nx l D y ad A Q κ b n) {a : AbF} {M : Mem} (hg : Good a) (h7 : Rc (iA a) M) (h8 : Rm (iA a) M) : UL l D y ad A Q κ b M 324 n [] := by
  obtain ⟨v, a', hg', hc, hm⟩ := j_part (g := (l, D, y, ad, IN 0 1 174)) (fun i hi => IN0 hi) hg (x := xs (n + 1)) (y := xs (n + 2)) (z := xs (n + 3))
  refine U.aload_n dL_law_324 rfl ?_
  refine U.aload_n dL_law_325 rfl ?_
  refine U.iload_n dL_law_326 rfl ?_
  refine U.iconst (v := nI 1) dL_law_327 rfl ?_
  first | refine U.iaddN dL_law_328 ?_ | refine U.iadd dL_law_328 ?_
  refine U.sld dL_law_329 hX.1 hX.2.1 hX.2.2.1 hX.2.2.2 (by omega) ?_
  refine U.aload_n dL_law_330 rfl ?_
  refine U.iload_n dL_law_331 rfl ?_
  refine U.iconst (v := nI 2) dL_law_332 rfl ?_
  first | refine U.iaddN dL_law_333 ?_ | refine U.iadd dL_law_333 ?_
  refine U.sld dL_law_334 hX.1 hX.2.1 hX.2.2.1 hX.2.2.2 (by omega) ?_
  refine U.aload_n dL_law_335 rfl ?_
  refine U.iload_n dL_law_336 rfl ?_
  refine U.iconst (v := nI 3) dL_law_337 rfl ?_
  first | refine U.iaddN dL_law_338 ?_ | refine U.iadd dL_law_338 ?_
  refine U.sld dL_law_339 hX.1 hX.2.1 hX.2.2.1 hX.2.2.2 (by omega) ?_
  refine U.callVM (o := 0) (ci := 6) (T := TX7) (N := 10) dL_law_340 IN_nd rfl (hc M h7) lkL_41 im_X7_part se_X7_part cd_X7_part ini_X7 rfl (IN0 (by decide)) (show cont y ad M 0 = o_desk ad from rfl) hd_X7_part ⟨(Nat.le_of_ble_eq_true rfl), (Nat.le_of_ble_eq_true rfl)⟩ rfl (Nat.le_of_ble_eq_true rfl) (Nat.le_of_ble_eq_true rfl) (Nat.le_of_ble_eq_true rfl) ?_
  rintro _ M1 ⟨rfl, r7, k7⟩
  show UL l D y ad A Q κ b M1 343 n [.int v]
  have r8 : Rm (iA a) M1 := h8.far (fun j hj => k7 j (Nat.not_lt.mpr hj))
  refine U.aload_n dL_law_343 rfl ?_
  refine U.aload_n dL_law_344 rfl ?_
  refine U.iload_n dL_law_345 rfl ?_
  refine U.iconst (v := nI 1) dL_law_346 rfl ?_
  first | refine U.iaddN dL_law_347 ?_ | refine U.iadd dL_law_347 ?_
  refine U.sld dL_law_348 hX.1 hX.2.1 hX.2.2.1 hX.2.2.2 (by omega) ?_
  refine U.aload_n dL_law_349 rfl ?_
  refine U.iload_n dL_law_350 rfl ?_
  refine U.iconst (v := nI 2) dL_law_351 rfl ?_
  first | refine U.iaddN dL_law_352 ?_ | refine U.iadd dL_law_352 ?_
  refine U.sld dL_law_353 hX.1 hX.2.1 hX.2.2.1 hX.2.2.2 (by omega) ?_
  refine U.aload_n dL_law_354 rfl ?_
  refine U.iload_n dL_law_355 rfl ?_
  refine U.iconst (v := nI 3) dL_law_356 rfl ?_
  first | refine U.iaddN dL_law_357 ?_ | refine U.iadd dL_law_357 ?_
  refine U.sld dL_law_358 hX.1 hX.2.1 hX.2.2.1 hX.2.2.2 (by omega) ?_
  refine U.callVM (o := 142) (ci := 7) (T := TX8) (N := 37) dL_law_359 IN_nd rfl (hm M1 r8) lkL_44 im_X8_part se_X8_part cd_X8_part ini_X8 rfl (IN0 (by decide)) (show cont y ad M1 142 = o_model ad M1 from rfl) hd_X8_part ⟨(Nat.le_of_ble_eq_true rfl), (Nat.le_of_ble_eq_true rfl)⟩ rfl (Nat.le_of_ble_eq_true rfl) (Nat.le_of_ble_eq_true rfl) (Nat.le_of_ble_eq_true rfl) ?_
  rintro _ M2 ⟨rfl, s8, k8⟩
  show UL l D y ad A Q κ b M2 362 n [.int v, .int v]
  have s7 : Rc (iA a') M2 := r7.far (fun j hj => k8 j (Nat.not_le.mpr hj))
  exact U.icmp_eq (tgt := 1132) dL_law_362 (by decide) (fun _ => nx a' M2 hg' s7 s8) (fun h => absurd rfl h)
theorem w_move (hX : LwH κ A b Ls xs) (hn : n + 5 ≤ Ls) (nx : Nx l D y ad A Q κ b n) {a : AbF} {M : Mem} (hg : Good a) (h7 : Rc (iA a) M) (h8 : Rm (iA a) M) : UL l D y ad A Q κ b M 367 n [] := by
  obtain ⟨v, a', hg', hc, hm⟩ := j_move (g := (l, D, y, ad, IN 0 1 174)) (fun i hi => IN0 hi) hg (x := xs (n + 1)) (y := xs (n + 2)) (z := xs (n + 3))
  refine U.aload_n dL_law_367 rfl ?_
  refine U.aload_n dL_law_368 rfl ?_
  refine U.iload_n dL_law_369 rfl ?_
  refine U.iconst (v := nI 1) dL_law_370 rfl ?_
  first | refine U.iaddN dL_law_371 ?_ | refine U.iadd dL_law_371 ?_
  refine U.sld dL_law_372 hX.1 hX.2.1 hX.2.2.1 hX.2.2.2 (by omega) ?_
  refine U.aload_n dL_law_373 rfl ?_
  refine U.iload_n dL_law_374 rfl ?_
  refine U.iconst (v := nI 2) dL_law_375 rfl ?_
  first | refine U.iaddN dL_law_376 ?_ | refine U.iadd dL_law_376 ?_
  refine U.sld dL_law_377 hX.1 hX.2.1 hX.2.2.1 hX.2.2.2 (by omega) ?_
  refine U.aload_n dL_law_378 rfl ?_
  refine U.iload_n dL_law_379 rfl ?_
  refine U.iconst (v := nI 3) dL_law_380 rfl ?_
  first | refine U.iaddN dL_law_381 ?_ | refine U.iadd dL_law_381 ?_
  refine U.sld dL_law_382 hX.1 hX.2.1 hX.2.2.1 hX.2.2.2 (by omega) ?_
  refine U.callVM (o := 0) (ci := 6) (T := TX7) (N := 10) dL_law_383 IN_nd rfl (hc M h7) lkL_45 im_X7_move se_X7_move cd_X7_move ini_X7 rfl (IN0 (by decide)) (show cont y ad M 0 = o_desk ad from rfl) hd_X7_move ⟨(Nat.le_of_ble_eq_true rfl), (Nat.le_of_ble_eq_true rfl)⟩ rfl (Nat.le_of_ble_eq_true rfl) (Nat.le_of_ble_eq_true rfl) (Nat.le_of_ble_eq_true rfl) ?_
  rintro _ M1 ⟨rfl, r7, k7⟩
  show UL l D y ad A Q κ b M1 386 n [.int v]
  have r8 : Rm (iA a) M1 := h8.far (fun j hj => k7 j (Nat.not_lt.mpr hj))
  refine U.aload_n dL_law_386 rfl ?_
  refine U.aload_n dL_law_387 rfl ?_
  refine U.iload_n dL_law_388 rfl ?_
  refine U.iconst (v := nI 1) dL_law_389 rfl ?_
  first | refine U.iaddN dL_law_390 ?_ | refine U.iadd dL_law_390 ?_
  refine U.sld dL_law_391 hX.1 hX.2.1 hX.2.2.1 hX.2.2.2 (by omega) ?_
  refine U.aload_n dL_law_392 rfl ?_
  refine U.iload_n dL_law_393 rfl ?_
  refine U.iconst (v := nI 2) dL_law_394 rfl ?_
  first | refine U.iaddN dL_law_395 ?_ | refine U.iadd dL_law_395 ?_
  refine U.sld dL_law_396 hX.1 hX.2.1 hX.2.2.1 hX.2.2.2 (by omega) ?_
  refine U.aload_n dL_law_397 rfl ?_
  refine U.iload_n dL_law_398 rfl ?_
  refine U.iconst (v := nI 3) dL_law_399 rfl ?_
  first | refine U.iaddN dL_law_400 ?_ | refine U.iadd dL_law_400 ?_
  refine U.sld dL_law_401 hX.1 hX.2.1 hX.2.2.1 hX.2.2.2 (by omega) ?_
  refine U.callVM (o := 142) (ci := 7) (T := TX8) (N := 37) dL_law_402 IN_nd rfl (hm M1 r8) lkL_48 im_X8_move se_X8_move cd_X8_move ini_X8 rfl (IN0 (by decide)) (show cont y ad M1 142 = o_model ad M1 from rfl) hd_X8_move ⟨(Nat.le_of_ble_eq_true rfl), (Nat.le_of_ble_eq_true rfl)⟩ rfl (Nat.le_of_ble_eq_true rfl) (Nat.le_of_ble_eq_true rfl) (Nat.le_of_ble_eq_true rfl) ?_
  rintro _ M2 ⟨rfl, s8, k8⟩
  show UL l D y ad A Q κ b M2 405 n [.int v, .int v]
  have s7 : Rc (iA a') M2 := r7.far (fun j hj => k8 j (Nat.not_le.mpr hj))
  exact U.icmp_eq (tgt := 1132) dL_law_405 (by decide) (fun _ => nx a' M2 hg' s7 s8) (fun h => absurd rfl h)
theorem w_stretch (hX : LwH κ A b Ls xs) (hn : n + 5 ≤ Ls) (nx : Nx l D y ad A Q κ b n) {a : AbF} {M : Mem} (hg : Good a) (h7 : Rc (iA a) M) (h8 : Rm (iA a) M) : UL l D y ad A Q κ b M 410 n [] := by
  obtain ⟨v, a', hg', hc, hm⟩ := j_stretch (g := (l, D, y, ad, IN 0 1 174)) (fun i hi => IN0 hi) hg (x := xs (n + 1)) (y := xs (n + 2)) (z := xs (n + 3))
  refine U.aload_n dL_law_410 rfl ?_
  refine U.aload_n dL_law_411 rfl ?_
  refine U.iload_n dL_law_412 rfl ?_
  refine U.iconst (v := nI 1) dL_law_413 rfl ?_
  first | refine U.iaddN dL_law_414 ?_ | refine U.iadd dL_law_414 ?_
  refine U.sld dL_law_415 hX.1 hX.2.1 hX.2.2.1 hX.2.2.2 (by omega) ?_
  refine U.aload_n dL_law_416 rfl ?_
  refine U.iload_n dL_law_417 rfl ?_
  refine U.iconst (v := nI 2) dL_law_418 rfl ?_
  first | refine U.iaddN dL_law_419 ?_ | refine U.iadd dL_law_419 ?_
  refine U.sld dL_law_420 hX.1 hX.2.1 hX.2.2.1 hX.2.2.2 (by omega) ?_
  refine U.aload_n dL_law_421 rfl ?_
  refine U.iload_n dL_law_422 rfl ?_
  refine U.iconst (v := nI 3) dL_law_423 rfl ?_
  first | refine U.iaddN dL_law_424 ?_ | refine U.iadd dL_law_424 ?_
  refine U.sld dL_law_425 hX.1 hX.2.1 hX.2.2.1 hX.2.2.2 (by omega) ?_
  refine U.callVM (o := 0) (ci := 6) (T := TX7) (N := 10) dL_law_426 IN_nd rfl (hc M h7) lkL_49 im_X7_stretch se_X7_stretch cd_X7_stretch ini_X7 rfl (IN0 (by decide)) (show cont y ad M 0 = o_desk ad from rfl) hd_X7_stretch ⟨(Nat.le_of_ble_eq_true rfl), (Nat.le_of_ble_eq_true rfl)⟩ rfl (Nat.le_of_ble_eq_true rfl) (Nat.le_of_ble_eq_true rfl) (Nat.le_of_ble_eq_true rfl) ?_
  rintro _ M1 ⟨rfl, r7, k7⟩
  show UL l D y ad A Q κ b M1 429 n [.int v]
  have r8 : Rm (iA a) M1 := h8.far (fun j hj => k7 j (Nat.not_lt.mpr hj))
  refine U.aload_n dL_law_429 rfl ?_
  refine U.aload_n dL_law_430 rfl ?_
  refine U.iload_n dL_law_431 rfl ?_
  refine U.iconst (v := nI 1) dL_law_432 rfl ?_
  first | refine U.iaddN dL_law_433 ?_ | refine U.iadd dL_law_433 ?_
  refine U.sld dL_law_434 hX.1 hX.2.1 hX.2.2.1 hX.2.2.2 (by omega) ?_
  refine U.aload_n dL_law_435 rfl ?_
  refine U.iload_n dL_law_436 rfl ?_
  refine U.iconst (v := nI 2) dL_law_437 rfl ?_
  first | refine U.iaddN dL_law_438 ?_ | refine U.iadd dL_law_438 ?_
  refine U.sld dL_law_439 hX.1 hX.2.1 hX.2.2.1 hX.2.2.2 (by omega) ?_
  refine U.aload_n dL_law_440 rfl ?_
  refine U.iload_n dL_law_441 rfl ?_
  refine U.iconst (v := nI 3) dL_law_442 rfl ?_
  first | refine U.iaddN dL_law_443 ?_ | refine U.iadd dL_law_443 ?_
  refine U.sld dL_law_444 hX.1 hX.2.1 hX.2.2.1 hX.2.2.2 (by omega) ?_
  refine U.callVM (o := 142) (ci := 7) (T := TX8) (N := 37) dL_law_445 IN_nd rfl (hm M1 r8) lkL_52 im_X8_stretch se_X8_stretch cd_X8_stretch ini_X8 rfl (IN0 (by decide)) (show cont y ad M1 142 = o_model ad M1 from rfl) hd_X8_stretch ⟨(Nat.le_of_ble_eq_true rfl), (Nat.le_of_ble_eq_true rfl)⟩ rfl (Nat.le_of_ble_eq_true rfl) (Nat.le_of_ble_eq_true rfl) (Nat.le_of_ble_eq_true rfl) ?_
  rintro _ M2 ⟨rfl, s8, k8⟩
  show UL l D y ad A Q κ b M2 448 n [.int v, .int v]
  have s7 : Rc (iA a') M2 := r7.far (fun j hj => k8 j (Nat.not_le.mpr hj))
  exact U.icmp_eq (tgt := 1132) dL_law_448 (by decide) (fun _ => nx a' M2 hg' s7 s8) (fun h => absurd rfl h)
theorem w_series (hX : LwH κ A b Ls xs) (hn : n + 5 ≤ Ls) (nx : Nx l D y ad A Q κ b n) {a : AbF} {M : Mem} (hg : Good a) (h7 : Rc (iA a) M) (h8 : Rm (iA a) M) : UL l D y ad A Q κ b M 453 n [] := by
  obtain ⟨v, a', hg', hc, hm⟩ := j_series (g := (l, D, y, ad, IN 0 1 174)) (fun i hi => IN0 hi) hg (x := xs (n + 1)) (y := xs (n + 2)) (z := xs (n + 3))
  refine U.aload_n dL_law_453 rfl ?_
  refine U.aload_n dL_law_454 rfl ?_
  refine U.iload_n dL_law_455 rfl ?_
  refine U.iconst (v := nI 1) dL_law_456 rfl ?_
  first | refine U.iaddN dL_law_457 ?_ | refine U.iadd dL_law_457 ?_
  refine U.sld dL_law_458 hX.1 hX.2.1 hX.2.2.1 hX.2.2.2 (by omega) ?_
  refine U.aload_n dL_law_459 rfl ?_
  refine U.iload_n dL_law_460 rfl ?_
  refine U.iconst (v := nI 2) dL_law_461 rfl ?_
  first | refine U.iaddN dL_law_462 ?_ | refine U.iadd dL_law_462 ?_
  refine U.sld dL_law_463 hX.1 hX.2.1 hX.2.2.1 hX.2.2.2 (by omega) ?_
  refine U.aload_n dL_law_464 rfl ?_
  refine U.iload_n dL_law_465 rfl ?_
  refine U.iconst (v := nI 3) dL_law_466 rfl ?_
  first | refine U.iaddN dL_law_467 ?_ | refine U.iadd dL_law_467 ?_
  refine U.sld dL_law_468 hX.1 hX.2.1 hX.2.2.1 hX.2.2.2 (by omega) ?_
  refine U.callVM (o := 0) (ci := 6) (T := TX7) (N := 10) dL_law_469 IN_nd rfl (hc M h7) lkL_53 im_X7_series se_X7_series cd_X7_series ini_X7 rfl (IN0 (by decide)) (show cont y ad M 0 = o_desk ad from rfl) hd_X7_series ⟨(Nat.le_of_ble_eq_true rfl), (Nat.le_of_ble_eq_true rfl)⟩ rfl (Nat.le_of_ble_eq_true rfl) (Nat.le_of_ble_eq_true rfl) (Nat.le_of_ble_eq_true rfl) ?_
  rintro _ M1 ⟨rfl, r7, k7⟩
  show UL l D y ad A Q κ b M1 472 n [.int v]
  have r8 : Rm (iA a) M1 := h8.far (fun j hj => k7 j (Nat.not_lt.mpr hj))
  refine U.aload_n dL_law_472 rfl ?_
  refine U.aload_n dL_law_473 rfl ?_
  refine U.iload_n dL_law_474 rfl ?_
  refine U.iconst (v := nI 1) dL_law_475 rfl ?_
  first | refine U.iaddN dL_law_476 ?_ | refine U.iadd dL_law_476 ?_
  refine U.sld dL_law_477 hX.1 hX.2.1 hX.2.2.1 hX.2.2.2 (by omega) ?_
  refine U.aload_n dL_law_478 rfl ?_
  refine U.iload_n dL_law_479 rfl ?_
  refine U.iconst (v := nI 2) dL_law_480 rfl ?_
  first | refine U.iaddN dL_law_481 ?_ | refine U.iadd dL_law_481 ?_
  refine U.sld dL_law_482 hX.1 hX.2.1 hX.2.2.1 hX.2.2.2 (by omega) ?_
  refine U.aload_n dL_law_483 rfl ?_
  refine U.iload_n dL_law_484 rfl ?_
  refine U.iconst (v := nI 3) dL_law_485 rfl ?_
  first | refine U.iaddN dL_law_486 ?_ | refine U.iadd dL_law_486 ?_
  refine U.sld dL_law_487 hX.1 hX.2.1 hX.2.2.1 hX.2.2.2 (by omega) ?_
  refine U.callVM (o := 142) (ci := 7) (T := TX8) (N := 37) dL_law_488 IN_nd rfl (hm M1 r8) lkL_56 im_X8_series se_X8_series cd_X8_series ini_X8 rfl (IN0 (by decide)) (show cont y ad M1 142 = o_model ad M1 from rfl) hd_X8_series ⟨(Nat.le_of_ble_eq_true rfl), (Nat.le_of_ble_eq_true rfl)⟩ rfl (Nat.le_of_ble_eq_true rfl) (Nat.le_of_ble_eq_true rfl) (Nat.le_of_ble_eq_true rfl) ?_
  rintro _ M2 ⟨rfl, s8, k8⟩
  show UL l D y ad A Q κ b M2 491 n [.int v, .int v]
  have s7 : Rc (iA a') M2 := r7.far (fun j hj => k8 j (Nat.not_le.mpr hj))
  exact U.icmp_eq (tgt := 1132) dL_law_491 (by decide) (fun _ => nx a' M2 hg' s7 s8) (fun h => absurd rfl h)
theorem w_polynomial (hX : LwH κ A b Ls xs) (hn : n + 5 ≤ Ls) (nx : Nx l D y ad A Q κ b n) {a : AbF} {M : Mem} (hg : Good a) (h7 : Rc (iA a) M) (h8 : Rm (iA a) M) : UL l D y ad A Q κ b M 496 n [] := by
  obtain ⟨v, a', hg', hc, hm⟩ := j_polynomial (g := (l, D, y, ad, IN 0 1 174)) (fun i hi => IN0 hi) hg (x := xs (n + 1)) (y := xs (n + 2)) (z := xs (n + 3))
  refine U.aload_n dL_law_496 rfl ?_
  refine U.aload_n dL_law_497 rfl ?_
  refine U.iload_n dL_law_498 rfl ?_
  refine U.iconst (v := nI 1) dL_law_499 rfl ?_
  first | refine U.iaddN dL_law_500 ?_ | refine U.iadd dL_law_500 ?_
  refine U.sld dL_law_501 hX.1 hX.2.1 hX.2.2.1 hX.2.2.2 (by omega) ?_
  refine U.aload_n dL_law_502 rfl ?_
  refine U.iload_n dL_law_503 rfl ?_
  refine U.iconst (v := nI 2) dL_law_504 rfl ?_
  first | refine U.iaddN dL_law_505 ?_ | refine U.iadd dL_law_505 ?_
  refine U.sld dL_law_506 hX.1 hX.2.1 hX.2.2.1 hX.2.2.2 (by omega) ?_
  refine U.aload_n dL_law_507 rfl ?_
  refine U.iload_n dL_law_508 rfl ?_
  refine U.iconst (v := nI 3) dL_law_509 rfl ?_
  first | refine U.iaddN dL_law_510 ?_ | refine U.iadd dL_law_510 ?_
  refine U.sld dL_law_511 hX.1 hX.2.1 hX.2.2.1 hX.2.2.2 (by omega) ?_
  refine U.callVM (o := 0) (ci := 6) (T := TX7) (N := 10) dL_law_512 IN_nd rfl (hc M h7) lkL_57 im_X7_polynomial se_X7_polynomial cd_X7_polynomial ini_X7 rfl (IN0 (by decide)) (show cont y ad M 0 = o_desk ad from rfl) hd_X7_polynomial ⟨(Nat.le_of_ble_eq_true rfl), (Nat.le_of_ble_eq_true rfl)⟩ rfl (Nat.le_of_ble_eq_true rfl) (Nat.le_of_ble_eq_true rfl) (Nat.le_of_ble_eq_true rfl) ?_
  rintro _ M1 ⟨rfl, r7, k7⟩
  show UL l D y ad A Q κ b M1 515 n [.int v]
  have r8 : Rm (iA a) M1 := h8.far (fun j hj => k7 j (Nat.not_lt.mpr hj))
  refine U.aload_n dL_law_515 rfl ?_
  refine U.aload_n dL_law_516 rfl ?_
  refine U.iload_n dL_law_517 rfl ?_
  refine U.iconst (v := nI 1) dL_law_518 rfl ?_
  first | refine U.iaddN dL_law_519 ?_ | refine U.iadd dL_law_519 ?_
  refine U.sld dL_law_520 hX.1 hX.2.1 hX.2.2.1 hX.2.2.2 (by omega) ?_
  refine U.aload_n dL_law_521 rfl ?_
  refine U.iload_n dL_law_522 rfl ?_
  refine U.iconst (v := nI 2) dL_law_523 rfl ?_
  first | refine U.iaddN dL_law_524 ?_ | refine U.iadd dL_law_524 ?_
  refine U.sld dL_law_525 hX.1 hX.2.1 hX.2.2.1 hX.2.2.2 (by omega) ?_
  refine U.aload_n dL_law_526 rfl ?_
  refine U.iload_n dL_law_527 rfl ?_
  refine U.iconst (v := nI 3) dL_law_528 rfl ?_
  first | refine U.iaddN dL_law_529 ?_ | refine U.iadd dL_law_529 ?_
  refine U.sld dL_law_530 hX.1 hX.2.1 hX.2.2.1 hX.2.2.2 (by omega) ?_
  refine U.callVM (o := 142) (ci := 7) (T := TX8) (N := 37) dL_law_531 IN_nd rfl (hm M1 r8) lkL_60 im_X8_polynomial se_X8_polynomial cd_X8_polynomial ini_X8 rfl (IN0 (by decide)) (show cont y ad M1 142 = o_model ad M1 from rfl) hd_X8_polynomial ⟨(Nat.le_of_ble_eq_true rfl), (Nat.le_of_ble_eq_true rfl)⟩ rfl (Nat.le_of_ble_eq_true rfl) (Nat.le_of_ble_eq_true rfl) (Nat.le_of_ble_eq_true rfl) ?_
  rintro _ M2 ⟨rfl, s8, k8⟩
  show UL l D y ad A Q κ b M2 534 n [.int v, .int v]
  have s7 : Rc (iA a') M2 := r7.far (fun j hj => k8 j (Nat.not_le.mpr hj))
  exact U.icmp_eq (tgt := 1132) dL_law_534 (by decide) (fun _ => nx a' M2 hg' s7 s8) (fun h => absurd rfl h)
theorem w_value (hX : LwH κ A b Ls xs) (hn : n + 5 ≤ Ls) (nx : Nx l D y ad A Q κ b n) {a : AbF} {M : Mem} (hg : Good a) (h7 : Rc (iA a) M) (h8 : Rm (iA a) M) : UL l D y ad A Q κ b M 539 n [] := by
  obtain ⟨v, a', hg', hc, hm⟩ := j_value (g := (l, D, y, ad, IN 0 1 174)) (fun i hi => IN0 hi) hg (x := xs (n + 1)) (y := xs (n + 2)) (z := xs (n + 3))
  refine U.aload_n dL_law_539 rfl ?_
  refine U.aload_n dL_law_540 rfl ?_
  refine U.iload_n dL_law_541 rfl ?_
  refine U.iconst (v := nI 1) dL_law_542 rfl ?_
  first | refine U.iaddN dL_law_543 ?_ | refine U.iadd dL_law_543 ?_
  refine U.sld dL_law_544 hX.1 hX.2.1 hX.2.2.1 hX.2.2.2 (by omega) ?_
  refine U.aload_n dL_law_545 rfl ?_
  refine U.iload_n dL_law_546 rfl ?_
  refine U.iconst (v := nI 2) dL_law_547 rfl ?_
  first | refine U.iaddN dL_law_548 ?_ | refine U.iadd dL_law_548 ?_
  refine U.sld dL_law_549 hX.1 hX.2.1 hX.2.2.1 hX.2.2.2 (by omega) ?_
  refine U.aload_n dL_law_550 rfl ?_
  refine U.iload_n dL_law_551 rfl ?_
  refine U.iconst (v := nI 3) dL_law_552 rfl ?_
  first | refine U.iaddN dL_law_553 ?_ | refine U.iadd dL_law_553 ?_
  refine U.sld dL_law_554 hX.1 hX.2.1 hX.2.2.1 hX.2.2.2 (by omega) ?_
  refine U.callVM (o := 0) (ci := 6) (T := TX7) (N := 10) dL_law_555 IN_nd rfl (hc M h7) lkL_61 im_X7_value se_X7_value cd_X7_value ini_X7 rfl (IN0 (by decide)) (show cont y ad M 0 = o_desk ad from rfl) hd_X7_value ⟨(Nat.le_of_ble_eq_true rfl), (Nat.le_of_ble_eq_true rfl)⟩ rfl (Nat.le_of_ble_eq_true rfl) (Nat.le_of_ble_eq_true rfl) (Nat.le_of_ble_eq_true rfl) ?_
  rintro _ M1 ⟨rfl, r7, k7⟩
  show UL l D y ad A Q κ b M1 558 n [.int v]
  have r8 : Rm (iA a) M1 := h8.far (fun j hj => k7 j (Nat.not_lt.mpr hj))
  refine U.aload_n dL_law_558 rfl ?_
  refine U.aload_n dL_law_559 rfl ?_
  refine U.iload_n dL_law_560 rfl ?_
  refine U.iconst (v := nI 1) dL_law_561 rfl ?_
  first | refine U.iaddN dL_law_562 ?_ | refine U.iadd dL_law_562 ?_
  refine U.sld dL_law_563 hX.1 hX.2.1 hX.2.2.1 hX.2.2.2 (by omega) ?_
  refine U.aload_n dL_law_564 rfl ?_
  refine U.iload_n dL_law_565 rfl ?_
  refine U.iconst (v := nI 2) dL_law_566 rfl ?_
  first | refine U.iaddN dL_law_567 ?_ | refine U.iadd dL_law_567 ?_
  refine U.sld dL_law_568 hX.1 hX.2.1 hX.2.2.1 hX.2.2.2 (by omega) ?_
  refine U.aload_n dL_law_569 rfl ?_
  refine U.iload_n dL_law_570 rfl ?_
  refine U.iconst (v := nI 3) dL_law_571 rfl ?_
  first | refine U.iaddN dL_law_572 ?_ | refine U.iadd dL_law_572 ?_
  refine U.sld dL_law_573 hX.1 hX.2.1 hX.2.2.1 hX.2.2.2 (by omega) ?_
  refine U.callVM (o := 142) (ci := 7) (T := TX8) (N := 37) dL_law_574 IN_nd rfl (hm M1 r8) lkL_64 im_X8_value se_X8_value cd_X8_value ini_X8 rfl (IN0 (by decide)) (show cont y ad M1 142 = o_model ad M1 from rfl) hd_X8_value ⟨(Nat.le_of_ble_eq_true rfl), (Nat.le_of_ble_eq_true rfl)⟩ rfl (Nat.le_of_ble_eq_true rfl) (Nat.le_of_ble_eq_true rfl) (Nat.le_of_ble_eq_true rfl) ?_
  rintro _ M2 ⟨rfl, s8, k8⟩
  show UL l D y ad A Q κ b M2 577 n [.int v, .int v]
  have s7 : Rc (iA a') M2 := r7.far (fun j hj => k8 j (Nat.not_le.mpr hj))
  exact U.icmp_eq (tgt := 1132) dL_law_577 (by decide) (fun _ => nx a' M2 hg' s7 s8) (fun h => absurd rfl h)
theorem w_connect (hX : LwH κ A b Ls xs) (hn : n + 5 ≤ Ls) (nx : Nx l D y ad A Q κ b n) {a : AbF} {M : Mem} (hg : Good a) (h7 : Rc (iA a) M) (h8 : Rm (iA a) M) : UL l D y ad A Q κ b M 582 n [] := by
  obtain ⟨v, a', hg', hc, hm⟩ := j_connect (g := (l, D, y, ad, IN 0 1 174)) (fun i hi => IN0 hi) hg (x := xs (n + 1)) (y := xs (n + 2)) (z := xs (n + 3)) (t := xs (n + 4))
  refine U.aload_n dL_law_582 rfl ?_
  refine U.aload_n dL_law_583 rfl ?_
  refine U.iload_n dL_law_584 rfl ?_
  refine U.iconst (v := nI 1) dL_law_585 rfl ?_
  first | refine U.iaddN dL_law_586 ?_ | refine U.iadd dL_law_586 ?_
  refine U.sld dL_law_587 hX.1 hX.2.1 hX.2.2.1 hX.2.2.2 (by omega) ?_
  refine U.aload_n dL_law_588 rfl ?_
  refine U.iload_n dL_law_589 rfl ?_
  refine U.iconst (v := nI 2) dL_law_590 rfl ?_
  first | refine U.iaddN dL_law_591 ?_ | refine U.iadd dL_law_591 ?_
  refine U.sld dL_law_592 hX.1 hX.2.1 hX.2.2.1 hX.2.2.2 (by omega) ?_
  refine U.aload_n dL_law_593 rfl ?_
  refine U.iload_n dL_law_594 rfl ?_
  refine U.iconst (v := nI 3) dL_law_595 rfl ?_
  first | refine U.iaddN dL_law_596 ?_ | refine U.iadd dL_law_596 ?_
  refine U.sld dL_law_597 hX.1 hX.2.1 hX.2.2.1 hX.2.2.2 (by omega) ?_
  refine U.aload_n dL_law_598 rfl ?_
  refine U.iload_n dL_law_599 rfl ?_
  refine U.iconst (v := nI 4) dL_law_600 rfl ?_
  first | refine U.iaddN dL_law_601 ?_ | refine U.iadd dL_law_601 ?_
  refine U.sld dL_law_602 hX.1 hX.2.1 hX.2.2.1 hX.2.2.2 (by omega) ?_
  refine U.callVM (o := 0) (ci := 6) (T := TX7) (N := 10) dL_law_603 IN_nd rfl (hc M h7) lkL_65 im_X7_connect se_X7_connect cd_X7_connect ini_X7 rfl (IN0 (by decide)) (show cont y ad M 0 = o_desk ad from rfl) hd_X7_connect ⟨(Nat.le_of_ble_eq_true rfl), (Nat.le_of_ble_eq_true rfl)⟩ rfl (Nat.le_of_ble_eq_true rfl) (Nat.le_of_ble_eq_true rfl) (Nat.le_of_ble_eq_true rfl) ?_
  rintro _ M1 ⟨rfl, r7, k7⟩
  show UL l D y ad A Q κ b M1 606 n [.int v]
  have r8 : Rm (iA a) M1 := h8.far (fun j hj => k7 j (Nat.not_lt.mpr hj))
  refine U.aload_n dL_law_606 rfl ?_
  refine U.aload_n dL_law_607 rfl ?_
  refine U.iload_n dL_law_608 rfl ?_
  refine U.iconst (v := nI 1) dL_law_609 rfl ?_
  first | refine U.iaddN dL_law_610 ?_ | refine U.iadd dL_law_610 ?_
  refine U.sld dL_law_611 hX.1 hX.2.1 hX.2.2.1 hX.2.2.2 (by omega) ?_
  refine U.aload_n dL_law_612 rfl ?_
  refine U.iload_n dL_law_613 rfl ?_
  refine U.iconst (v := nI 2) dL_law_614 rfl ?_
  first | refine U.iaddN dL_law_615 ?_ | refine U.iadd dL_law_615 ?_
  refine U.sld dL_law_616 hX.1 hX.2.1 hX.2.2.1 hX.2.2.2 (by omega) ?_
  refine U.aload_n dL_law_617 rfl ?_
  refine U.iload_n dL_law_618 rfl ?_
  refine U.iconst (v := nI 3) dL_law_619 rfl ?_
  first | refine U.iaddN dL_law_620 ?_ | refine U.iadd dL_law_620 ?_
  refine U.sld dL_law_621 hX.1 hX.2.1 hX.2.2.1 hX.2.2.2 (by omega) ?_
  refine U.aload_n dL_law_622 rfl ?_
  refine U.iload_n dL_law_623 rfl ?_
  refine U.iconst (v := nI 4) dL_law_624 rfl ?_
  first | refine U.iaddN dL_law_625 ?_ | refine U.iadd dL_law_625 ?_
  refine U.sld dL_law_626 hX.1 hX.2.1 hX.2.2.1 hX.2.2.2 (by omega) ?_
  refine U.callVM (o := 142) (ci := 7) (T := TX8) (N := 37) dL_law_627 IN_nd rfl (hm M1 r8) lkL_69 im_X8_connect se_X8_connect cd_X8_connect ini_X8 rfl (IN0 (by decide)) (show cont y ad M1 142 = o_model ad M1 from rfl) hd_X8_connect ⟨(Nat.le_of_ble_eq_true rfl), (Nat.le_of_ble_eq_true rfl)⟩ rfl (Nat.le_of_ble_eq_true rfl) (Nat.le_of_ble_eq_true rfl) (Nat.le_of_ble_eq_true rfl) ?_
  rintro _ M2 ⟨rfl, s8, k8⟩
  show UL l D y ad A Q κ b M2 630 n [.int v, .int v]
  have s7 : Rc (iA a') M2 := r7.far (fun j hj => k8 j (Nat.not_le.mpr hj))
  exact U.icmp_eq (tgt := 1132) dL_law_630 (by decide) (fun _ => nx a' M2 hg' s7 s8) (fun h => absurd rfl h)
theorem w_differ (hX : LwH κ A b Ls xs) (hn : n + 5 ≤ Ls) (nx : Nx l D y ad A Q κ b n) {a : AbF} {M : Mem} (hg : Good a) (h7 : Rc (iA a) M) (h8 : Rm (iA a) M) : UL l D y ad A Q κ b M 635 n [] := by
  obtain ⟨v, a', hg', hc, hm⟩ := j_differ (g := (l, D, y, ad, IN 0 1 174)) (fun i hi => IN0 hi) hg (x := xs (n + 1)) (y := xs (n + 2))
  refine U.aload_n dL_law_635 rfl ?_
  refine U.aload_n dL_law_636 rfl ?_
  refine U.iload_n dL_law_637 rfl ?_
  refine U.iconst (v := nI 1) dL_law_638 rfl ?_
  first | refine U.iaddN dL_law_639 ?_ | refine U.iadd dL_law_639 ?_
  refine U.sld dL_law_640 hX.1 hX.2.1 hX.2.2.1 hX.2.2.2 (by omega) ?_
  refine U.aload_n dL_law_641 rfl ?_
  refine U.iload_n dL_law_642 rfl ?_
  refine U.iconst (v := nI 2) dL_law_643 rfl ?_
  first | refine U.iaddN dL_law_644 ?_ | refine U.iadd dL_law_644 ?_
  refine U.sld dL_law_645 hX.1 hX.2.1 hX.2.2.1 hX.2.2.2 (by omega) ?_
  refine U.callVM (o := 0) (ci := 6) (T := TX7) (N := 10) dL_law_646 IN_nd rfl (hc M h7) lkL_70 im_X7_differ se_X7_differ cd_X7_differ ini_X7 rfl (IN0 (by decide)) (show cont y ad M 0 = o_desk ad from rfl) hd_X7_differ ⟨(Nat.le_of_ble_eq_true rfl), (Nat.le_of_ble_eq_true rfl)⟩ rfl (Nat.le_of_ble_eq_true rfl) (Nat.le_of_ble_eq_true rfl) (Nat.le_of_ble_eq_true rfl) ?_
  rintro _ M1 ⟨rfl, r7, k7⟩
  show UL l D y ad A Q κ b M1 649 n [.int v]
  have r8 : Rm (iA a) M1 := h8.far (fun j hj => k7 j (Nat.not_lt.mpr hj))
  refine U.aload_n dL_law_649 rfl ?_
  refine U.aload_n dL_law_650 rfl ?_
  refine U.iload_n dL_law_651 rfl ?_
  refine U.iconst (v := nI 1) dL_law_652 rfl ?_
  first | refine U.iaddN dL_law_653 ?_ | refine U.iadd dL_law_653 ?_
  refine U.sld dL_law_654 hX.1 hX.2.1 hX.2.2.1 hX.2.2.2 (by omega) ?_
  refine U.aload_n dL_law_655 rfl ?_
  refine U.iload_n dL_law_656 rfl ?_
  refine U.iconst (v := nI 2) dL_law_657 rfl ?_
  first | refine U.iaddN dL_law_658 ?_ | refine U.iadd dL_law_658 ?_
  refine U.sld dL_law_659 hX.1 hX.2.1 hX.2.2.1 hX.2.2.2 (by omega) ?_
  refine U.callVM (o := 142) (ci := 7) (T := TX8) (N := 37) dL_law_660 IN_nd rfl (hm M1 r8) lkL_73 im_X8_differ se_X8_differ cd_X8_differ ini_X8 rfl (IN0 (by decide)) (show cont y ad M1 142 = o_model ad M1 from rfl) hd_X8_differ ⟨(Nat.le_of_ble_eq_true rfl), (Nat.le_of_ble_eq_true rfl)⟩ rfl (Nat.le_of_ble_eq_true rfl) (Nat.le_of_ble_eq_true rfl) (Nat.le_of_ble_eq_true rfl) ?_
  rintro _ M2 ⟨rfl, s8, k8⟩
  show UL l D y ad A Q κ b M2 663 n [.int v, .int v]
  have s7 : Rc (iA a') M2 := r7.far (fun j hj => k8 j (Nat.not_le.mpr hj))
  exact U.icmp_eq (tgt := 1132) dL_law_663 (by decide) (fun _ => nx a' M2 hg' s7 s8) (fun h => absurd rfl h)
theorem w_take (hX : LwH κ A b Ls xs) (hn : n + 5 ≤ Ls) (nx : Nx l D y ad A Q κ b n) {a : AbF} {M : Mem} (hg : Good a) (h7 : Rc (iA a) M) (h8 : Rm (iA a) M) : UL l D y ad A Q κ b M 668 n [] := by
  obtain ⟨v, a', hg', hc, hm⟩ := j_take (g := (l, D, y, ad, IN 0 1 174)) (fun i hi => IN0 hi) hg (x := xs (n + 1)) (y := xs (n + 2))
  refine U.aload_n dL_law_668 rfl ?_
  refine U.aload_n dL_law_669 rfl ?_
  refine U.iload_n dL_law_670 rfl ?_
  refine U.iconst (v := nI 1) dL_law_671 rfl ?_
  first | refine U.iaddN dL_law_672 ?_ | refine U.iadd dL_law_672 ?_
  refine U.sld dL_law_673 hX.1 hX.2.1 hX.2.2.1 hX.2.2.2 (by omega) ?_
  refine U.aload_n dL_law_674 rfl ?_
  refine U.iload_n dL_law_675 rfl ?_
  refine U.iconst (v := nI 2) dL_law_676 rfl ?_
  first | refine U.iaddN dL_law_677 ?_ | refine U.iadd dL_law_677 ?_
  refine U.sld dL_law_678 hX.1 hX.2.1 hX.2.2.1 hX.2.2.2 (by omega) ?_
  refine U.callVM (o := 0) (ci := 6) (T := TX7) (N := 10) dL_law_679 IN_nd rfl (hc M h7) lkL_74 im_X7_take se_X7_take cd_X7_take ini_X7 rfl (IN0 (by decide)) (show cont y ad M 0 = o_desk ad from rfl) hd_X7_take ⟨(Nat.le_of_ble_eq_true rfl), (Nat.le_of_ble_eq_true rfl)⟩ rfl (Nat.le_of_ble_eq_true rfl) (Nat.le_of_ble_eq_true rfl) (Nat.le_of_ble_eq_true rfl) ?_
  rintro _ M1 ⟨rfl, r7, k7⟩
  show UL l D y ad A Q κ b M1 682 n [.int v]
  have r8 : Rm (iA a) M1 := h8.far (fun j hj => k7 j (Nat.not_lt.mpr hj))
  refine U.aload_n dL_law_682 rfl ?_
  refine U.aload_n dL_law_683 rfl ?_
  refine U.iload_n dL_law_684 rfl ?_
  refine U.iconst (v := nI 1) dL_law_685 rfl ?_
  first | refine U.iaddN dL_law_686 ?_ | refine U.iadd dL_law_686 ?_
  refine U.sld dL_law_687 hX.1 hX.2.1 hX.2.2.1 hX.2.2.2 (by omega) ?_
  refine U.aload_n dL_law_688 rfl ?_
  refine U.iload_n dL_law_689 rfl ?_
  refine U.iconst (v := nI 2) dL_law_690 rfl ?_
  first | refine U.iaddN dL_law_691 ?_ | refine U.iadd dL_law_691 ?_
  refine U.sld dL_law_692 hX.1 hX.2.1 hX.2.2.1 hX.2.2.2 (by omega) ?_
  refine U.callVM (o := 142) (ci := 7) (T := TX8) (N := 37) dL_law_693 IN_nd rfl (hm M1 r8) lkL_77 im_X8_take se_X8_take cd_X8_take ini_X8 rfl (IN0 (by decide)) (show cont y ad M1 142 = o_model ad M1 from rfl) hd_X8_take ⟨(Nat.le_of_ble_eq_true rfl), (Nat.le_of_ble_eq_true rfl)⟩ rfl (Nat.le_of_ble_eq_true rfl) (Nat.le_of_ble_eq_true rfl) (Nat.le_of_ble_eq_true rfl) ?_
  rintro _ M2 ⟨rfl, s8, k8⟩
  show UL l D y ad A Q κ b M2 696 n [.int v, .int v]
  have s7 : Rc (iA a') M2 := r7.far (fun j hj => k8 j (Nat.not_le.mpr hj))
  exact U.icmp_eq (tgt := 1132) dL_law_696 (by decide) (fun _ => nx a' M2 hg' s7 s8) (fun h => absurd rfl h)
theorem w_put (hX : LwH κ A b Ls xs) (hn : n + 5 ≤ Ls) (nx : Nx l D y ad A Q κ b n) {a : AbF} {M : Mem} (hg : Good a) (h7 : Rc (iA a) M) (h8 : Rm (iA a) M) : UL l D y ad A Q κ b M 701 n [] := by
  obtain ⟨v, a', hg', hc, hm⟩ := j_put (g := (l, D, y, ad, IN 0 1 174)) (fun i hi => IN0 hi) hg (x := xs (n + 1)) (y := xs (n + 2))
  refine U.aload_n dL_law_701 rfl ?_
  refine U.aload_n dL_law_702 rfl ?_
  refine U.iload_n dL_law_703 rfl ?_
  refine U.iconst (v := nI 1) dL_law_704 rfl ?_
  first | refine U.iaddN dL_law_705 ?_ | refine U.iadd dL_law_705 ?_
  refine U.sld dL_law_706 hX.1 hX.2.1 hX.2.2.1 hX.2.2.2 (by omega) ?_
  refine U.aload_n dL_law_707 rfl ?_
  refine U.iload_n dL_law_708 rfl ?_
  refine U.iconst (v := nI 2) dL_law_709 rfl ?_
  first | refine U.iaddN dL_law_710 ?_ | refine U.iadd dL_law_710 ?_
  refine U.sld dL_law_711 hX.1 hX.2.1 hX.2.2.1 hX.2.2.2 (by omega) ?_
  refine U.callVM (o := 0) (ci := 6) (T := TX7) (N := 10) dL_law_712 IN_nd rfl (hc M h7) lkL_78 im_X7_put se_X7_put cd_X7_put ini_X7 rfl (IN0 (by decide)) (show cont y ad M 0 = o_desk ad from rfl) hd_X7_put ⟨(Nat.le_of_ble_eq_true rfl), (Nat.le_of_ble_eq_true rfl)⟩ rfl (Nat.le_of_ble_eq_true rfl) (Nat.le_of_ble_eq_true rfl) (Nat.le_of_ble_eq_true rfl) ?_
  rintro _ M1 ⟨rfl, r7, k7⟩
  show UL l D y ad A Q κ b M1 715 n [.int v]
  have r8 : Rm (iA a) M1 := h8.far (fun j hj => k7 j (Nat.not_lt.mpr hj))
  refine U.aload_n dL_law_715 rfl ?_
  refine U.aload_n dL_law_716 rfl ?_
  refine U.iload_n dL_law_717 rfl ?_
  refine U.iconst (v := nI 1) dL_law_718 rfl ?_
  first | refine U.iaddN dL_law_719 ?_ | refine U.iadd dL_law_719 ?_
  refine U.sld dL_law_720 hX.1 hX.2.1 hX.2.2.1 hX.2.2.2 (by omega) ?_
  refine U.aload_n dL_law_721 rfl ?_
  refine U.iload_n dL_law_722 rfl ?_
  refine U.iconst (v := nI 2) dL_law_723 rfl ?_
  first | refine U.iaddN dL_law_724 ?_ | refine U.iadd dL_law_724 ?_
  refine U.sld dL_law_725 hX.1 hX.2.1 hX.2.2.1 hX.2.2.2 (by omega) ?_
  refine U.callVM (o := 142) (ci := 7) (T := TX8) (N := 37) dL_law_726 IN_nd rfl (hm M1 r8) lkL_81 im_X8_put se_X8_put cd_X8_put ini_X8 rfl (IN0 (by decide)) (show cont y ad M1 142 = o_model ad M1 from rfl) hd_X8_put ⟨(Nat.le_of_ble_eq_true rfl), (Nat.le_of_ble_eq_true rfl)⟩ rfl (Nat.le_of_ble_eq_true rfl) (Nat.le_of_ble_eq_true rfl) (Nat.le_of_ble_eq_true rfl) ?_
  rintro _ M2 ⟨rfl, s8, k8⟩
  show UL l D y ad A Q κ b M2 729 n [.int v, .int v]
  have s7 : Rc (iA a') M2 := r7.far (fun j hj => k8 j (Nat.not_le.mpr hj))
  exact U.icmp_eq (tgt := 1132) dL_law_729 (by decide) (fun _ => nx a' M2 hg' s7 s8) (fun h => absurd rfl h)
theorem w_plus (hX : LwH κ A b Ls xs) (hn : n + 5 ≤ Ls) (nx : Nx l D y ad A Q κ b n) {a : AbF} {M : Mem} (hg : Good a) (h7 : Rc (iA a) M) (h8 : Rm (iA a) M) : UL l D y ad A Q κ b M 734 n [] := by
  obtain ⟨v, a', hg', hc, hm⟩ := j_plus (g := (l, D, y, ad, IN 0 1 174)) (fun i hi => IN0 hi) hg (x := xs (n + 1)) (y := xs (n + 2)) (z := xs (n + 3))
  refine U.aload_n dL_law_734 rfl ?_
  refine U.aload_n dL_law_735 rfl ?_
  refine U.iload_n dL_law_736 rfl ?_
  refine U.iconst (v := nI 1) dL_law_737 rfl ?_
  first | refine U.iaddN dL_law_738 ?_ | refine U.iadd dL_law_738 ?_
  refine U.sld dL_law_739 hX.1 hX.2.1 hX.2.2.1 hX.2.2.2 (by omega) ?_
  refine U.aload_n dL_law_740 rfl ?_
  refine U.iload_n dL_law_741 rfl ?_
  refine U.iconst (v := nI 2) dL_law_742 rfl ?_
  first | refine U.iaddN dL_law_743 ?_ | refine U.iadd dL_law_743 ?_
  refine U.sld dL_law_744 hX.1 hX.2.1 hX.2.2.1 hX.2.2.2 (by omega) ?_
  refine U.aload_n dL_law_745 rfl ?_
  refine U.iload_n dL_law_746 rfl ?_
  refine U.iconst (v := nI 3) dL_law_747 rfl ?_
  first | refine U.iaddN dL_law_748 ?_ | refine U.iadd dL_law_748 ?_
  refine U.sld dL_law_749 hX.1 hX.2.1 hX.2.2.1 hX.2.2.2 (by omega) ?_
  refine U.callVM (o := 0) (ci := 6) (T := TX7) (N := 10) dL_law_750 IN_nd rfl (hc M h7) lkL_82 im_X7_plus se_X7_plus cd_X7_plus ini_X7 rfl (IN0 (by decide)) (show cont y ad M 0 = o_desk ad from rfl) hd_X7_plus ⟨(Nat.le_of_ble_eq_true rfl), (Nat.le_of_ble_eq_true rfl)⟩ rfl (Nat.le_of_ble_eq_true rfl) (Nat.le_of_ble_eq_true rfl) (Nat.le_of_ble_eq_true rfl) ?_
  rintro _ M1 ⟨rfl, r7, k7⟩
  show UL l D y ad A Q κ b M1 753 n [.int v]
  have r8 : Rm (iA a) M1 := h8.far (fun j hj => k7 j (Nat.not_lt.mpr hj))
  refine U.aload_n dL_law_753 rfl ?_
  refine U.aload_n dL_law_754 rfl ?_
  refine U.iload_n dL_law_755 rfl ?_
  refine U.iconst (v := nI 1) dL_law_756 rfl ?_
  first | refine U.iaddN dL_law_757 ?_ | refine U.iadd dL_law_757 ?_
  refine U.sld dL_law_758 hX.1 hX.2.1 hX.2.2.1 hX.2.2.2 (by omega) ?_
  refine U.aload_n dL_law_759 rfl ?_
  refine U.iload_n dL_law_760 rfl ?_
  refine U.iconst (v := nI 2) dL_law_761 rfl ?_
  first | refine U.iaddN dL_law_762 ?_ | refine U.iadd dL_law_762 ?_
  refine U.sld dL_law_763 hX.1 hX.2.1 hX.2.2.1 hX.2.2.2 (by omega) ?_
  refine U.aload_n dL_law_764 rfl ?_
  refine U.iload_n dL_law_765 rfl ?_
  refine U.iconst (v := nI 3) dL_law_766 rfl ?_
  first | refine U.iaddN dL_law_767 ?_ | refine U.iadd dL_law_767 ?_
  refine U.sld dL_law_768 hX.1 hX.2.1 hX.2.2.1 hX.2.2.2 (by omega) ?_
  refine U.callVM (o := 142) (ci := 7) (T := TX8) (N := 37) dL_law_769 IN_nd rfl (hm M1 r8) lkL_85 im_X8_plus se_X8_plus cd_X8_plus ini_X8 rfl (IN0 (by decide)) (show cont y ad M1 142 = o_model ad M1 from rfl) hd_X8_plus ⟨(Nat.le_of_ble_eq_true rfl), (Nat.le_of_ble_eq_true rfl)⟩ rfl (Nat.le_of_ble_eq_true rfl) (Nat.le_of_ble_eq_true rfl) (Nat.le_of_ble_eq_true rfl) ?_
  rintro _ M2 ⟨rfl, s8, k8⟩
  show UL l D y ad A Q κ b M2 772 n [.int v, .int v]
  have s7 : Rc (iA a') M2 := r7.far (fun j hj => k8 j (Nat.not_le.mpr hj))
  exact U.icmp_eq (tgt := 1132) dL_law_772 (by decide) (fun _ => nx a' M2 hg' s7 s8) (fun h => absurd rfl h)
theorem w_act (hX : LwH κ A b Ls xs) (hn : n + 5 ≤ Ls) (nx : Nx l D y ad A Q κ b n) {a : AbF} {M : Mem} (hg : Good a) (h7 : Rc (iA a) M) (h8 : Rm (iA a) M) : UL l D y ad A Q κ b M 777 n [] := by
  obtain ⟨v, a', hg', hc, hm⟩ := j_act (g := (l, D, y, ad, IN 0 1 174)) (fun i hi => IN0 hi) hg (x := xs (n + 1)) (y := xs (n + 2))
  refine U.aload_n dL_law_777 rfl ?_
  refine U.aload_n dL_law_778 rfl ?_
  refine U.iload_n dL_law_779 rfl ?_
  refine U.iconst (v := nI 1) dL_law_780 rfl ?_
  first | refine U.iaddN dL_law_781 ?_ | refine U.iadd dL_law_781 ?_
  refine U.sld dL_law_782 hX.1 hX.2.1 hX.2.2.1 hX.2.2.2 (by omega) ?_
  refine U.aload_n dL_law_783 rfl ?_
  refine U.iload_n dL_law_784 rfl ?_
  refine U.iconst (v := nI 2) dL_law_785 rfl ?_
  first | refine U.iaddN dL_law_786 ?_ | refine U.iadd dL_law_786 ?_
  refine U.sld dL_law_787 hX.1 hX.2.1 hX.2.2.1 hX.2.2.2 (by omega) ?_
  refine U.callVM (o := 0) (ci := 6) (T := TX7) (N := 10) dL_law_788 IN_nd rfl (hc M h7) lkL_86 im_X7_act se_X7_act cd_X7_act ini_X7 rfl (IN0 (by decide)) (show cont y ad M 0 = o_desk ad from rfl) hd_X7_act ⟨(Nat.le_of_ble_eq_true rfl), (Nat.le_of_ble_eq_true rfl)⟩ rfl (Nat.le_of_ble_eq_true rfl) (Nat.le_of_ble_eq_true rfl) (Nat.le_of_ble_eq_true rfl) ?_
  rintro _ M1 ⟨rfl, r7, k7⟩
  show UL l D y ad A Q κ b M1 791 n [.int v]
  have r8 : Rm (iA a) M1 := h8.far (fun j hj => k7 j (Nat.not_lt.mpr hj))
  refine U.aload_n dL_law_791 rfl ?_
  refine U.aload_n dL_law_792 rfl ?_
  refine U.iload_n dL_law_793 rfl ?_
  refine U.iconst (v := nI 1) dL_law_794 rfl ?_
  first | refine U.iaddN dL_law_795 ?_ | refine U.iadd dL_law_795 ?_
  refine U.sld dL_law_796 hX.1 hX.2.1 hX.2.2.1 hX.2.2.2 (by omega) ?_
  refine U.aload_n dL_law_797 rfl ?_
  refine U.iload_n dL_law_798 rfl ?_
  refine U.iconst (v := nI 2) dL_law_799 rfl ?_
  first | refine U.iaddN dL_law_800 ?_ | refine U.iadd dL_law_800 ?_
  refine U.sld dL_law_801 hX.1 hX.2.1 hX.2.2.1 hX.2.2.2 (by omega) ?_
  refine U.callVM (o := 142) (ci := 7) (T := TX8) (N := 37) dL_law_802 IN_nd rfl (hm M1 r8) lkL_89 im_X8_act se_X8_act cd_X8_act ini_X8 rfl (IN0 (by decide)) (show cont y ad M1 142 = o_model ad M1 from rfl) hd_X8_act ⟨(Nat.le_of_ble_eq_true rfl), (Nat.le_of_ble_eq_true rfl)⟩ rfl (Nat.le_of_ble_eq_true rfl) (Nat.le_of_ble_eq_true rfl) (Nat.le_of_ble_eq_true rfl) ?_
  rintro _ M2 ⟨rfl, s8, k8⟩
  show UL l D y ad A Q κ b M2 805 n [.int v, .int v]
  have s7 : Rc (iA a') M2 := r7.far (fun j hj => k8 j (Nat.not_le.mpr hj))
  exact U.icmp_eq (tgt := 1132) dL_law_805 (by decide) (fun _ => nx a' M2 hg' s7 s8) (fun h => absurd rfl h)
theorem w_raise (hX : LwH κ A b Ls xs) (hn : n + 5 ≤ Ls) (nx : Nx l D y ad A Q κ b n) {a : AbF} {M : Mem} (hg : Good a) (h7 : Rc (iA a) M) (h8 : Rm (iA a) M) : UL l D y ad A Q κ b M 810 n [] := by
  obtain ⟨v, a', hg', hc, hm⟩ := j_raise (g := (l, D, y, ad, IN 0 1 174)) (fun i hi => IN0 hi) hg (x := xs (n + 1))
  refine U.aload_n dL_law_810 rfl ?_
  refine U.aload_n dL_law_811 rfl ?_
  refine U.iload_n dL_law_812 rfl ?_
  refine U.iconst (v := nI 1) dL_law_813 rfl ?_
  first | refine U.iaddN dL_law_814 ?_ | refine U.iadd dL_law_814 ?_
  refine U.sld dL_law_815 hX.1 hX.2.1 hX.2.2.1 hX.2.2.2 (by omega) ?_
  refine U.callVM (o := 0) (ci := 6) (T := TX7) (N := 10) dL_law_816 IN_nd rfl (hc M h7) lkL_90 im_X7_raise se_X7_raise cd_X7_raise ini_X7 rfl (IN0 (by decide)) (show cont y ad M 0 = o_desk ad from rfl) hd_X7_raise ⟨(Nat.le_of_ble_eq_true rfl), (Nat.le_of_ble_eq_true rfl)⟩ rfl (Nat.le_of_ble_eq_true rfl) (Nat.le_of_ble_eq_true rfl) (Nat.le_of_ble_eq_true rfl) ?_
  rintro _ M1 ⟨rfl, r7, k7⟩
  show UL l D y ad A Q κ b M1 819 n [.int v]
  have r8 : Rm (iA a) M1 := h8.far (fun j hj => k7 j (Nat.not_lt.mpr hj))
  refine U.aload_n dL_law_819 rfl ?_
  refine U.aload_n dL_law_820 rfl ?_
  refine U.iload_n dL_law_821 rfl ?_
  refine U.iconst (v := nI 1) dL_law_822 rfl ?_
  first | refine U.iaddN dL_law_823 ?_ | refine U.iadd dL_law_823 ?_
  refine U.sld dL_law_824 hX.1 hX.2.1 hX.2.2.1 hX.2.2.2 (by omega) ?_
  refine U.callVM (o := 142) (ci := 7) (T := TX8) (N := 37) dL_law_825 IN_nd rfl (hm M1 r8) lkL_93 im_X8_raise se_X8_raise cd_X8_raise ini_X8 rfl (IN0 (by decide)) (show cont y ad M1 142 = o_model ad M1 from rfl) hd_X8_raise ⟨(Nat.le_of_ble_eq_true rfl), (Nat.le_of_ble_eq_true rfl)⟩ rfl (Nat.le_of_ble_eq_true rfl) (Nat.le_of_ble_eq_true rfl) (Nat.le_of_ble_eq_true rfl) ?_
  rintro _ M2 ⟨rfl, s8, k8⟩
  show UL l D y ad A Q κ b M2 828 n [.int v, .int v]
  have s7 : Rc (iA a') M2 := r7.far (fun j hj => k8 j (Nat.not_le.mpr hj))
  exact U.icmp_eq (tgt := 1132) dL_law_828 (by decide) (fun _ => nx a' M2 hg' s7 s8) (fun h => absurd rfl h)
theorem w_shift (hX : LwH κ A b Ls xs) (hn : n + 5 ≤ Ls) (nx : Nx l D y ad A Q κ b n) {a : AbF} {M : Mem} (hg : Good a) (h7 : Rc (iA a) M) (h8 : Rm (iA a) M) : UL l D y ad A Q κ b M 833 n [] := by
  obtain ⟨v, a', hg', hc, hm⟩ := j_shift (g := (l, D, y, ad, IN 0 1 174)) (fun i hi => IN0 hi) hg (x := xs (n + 1))
  refine U.aload_n dL_law_833 rfl ?_
  refine U.aload_n dL_law_834 rfl ?_
  refine U.iload_n dL_law_835 rfl ?_
  refine U.iconst (v := nI 1) dL_law_836 rfl ?_
  first | refine U.iaddN dL_law_837 ?_ | refine U.iadd dL_law_837 ?_
  refine U.sld dL_law_838 hX.1 hX.2.1 hX.2.2.1 hX.2.2.2 (by omega) ?_
  refine U.callVM (o := 0) (ci := 6) (T := TX7) (N := 10) dL_law_839 IN_nd rfl (hc M h7) lkL_94 im_X7_shift se_X7_shift cd_X7_shift ini_X7 rfl (IN0 (by decide)) (show cont y ad M 0 = o_desk ad from rfl) hd_X7_shift ⟨(Nat.le_of_ble_eq_true rfl), (Nat.le_of_ble_eq_true rfl)⟩ rfl (Nat.le_of_ble_eq_true rfl) (Nat.le_of_ble_eq_true rfl) (Nat.le_of_ble_eq_true rfl) ?_
  rintro _ M1 ⟨rfl, r7, k7⟩
  show UL l D y ad A Q κ b M1 842 n [.int v]
  have r8 : Rm (iA a) M1 := h8.far (fun j hj => k7 j (Nat.not_lt.mpr hj))
  refine U.aload_n dL_law_842 rfl ?_
  refine U.aload_n dL_law_843 rfl ?_
  refine U.iload_n dL_law_844 rfl ?_
  refine U.iconst (v := nI 1) dL_law_845 rfl ?_
  first | refine U.iaddN dL_law_846 ?_ | refine U.iadd dL_law_846 ?_
  refine U.sld dL_law_847 hX.1 hX.2.1 hX.2.2.1 hX.2.2.2 (by omega) ?_
  refine U.callVM (o := 142) (ci := 7) (T := TX8) (N := 37) dL_law_848 IN_nd rfl (hm M1 r8) lkL_97 im_X8_shift se_X8_shift cd_X8_shift ini_X8 rfl (IN0 (by decide)) (show cont y ad M1 142 = o_model ad M1 from rfl) hd_X8_shift ⟨(Nat.le_of_ble_eq_true rfl), (Nat.le_of_ble_eq_true rfl)⟩ rfl (Nat.le_of_ble_eq_true rfl) (Nat.le_of_ble_eq_true rfl) (Nat.le_of_ble_eq_true rfl) ?_
  rintro _ M2 ⟨rfl, s8, k8⟩
  show UL l D y ad A Q κ b M2 851 n [.int v, .int v]
  have s7 : Rc (iA a') M2 := r7.far (fun j hj => k8 j (Nat.not_le.mpr hj))
  exact U.icmp_eq (tgt := 1132) dL_law_851 (by decide) (fun _ => nx a' M2 hg' s7 s8) (fun h => absurd rfl h)
theorem w_times (hX : LwH κ A b Ls xs) (hn : n + 5 ≤ Ls) (nx : Nx l D y ad A Q κ b n) {a : AbF} {M : Mem} (hg : Good a) (h7 : Rc (iA a) M) (h8 : Rm (iA a) M) : UL l D y ad A Q κ b M 856 n [] := by
  obtain ⟨v, a', hg', hc, hm⟩ := j_times (g := (l, D, y, ad, IN 0 1 174)) (fun i hi => IN0 hi) hg 
  refine U.aload_n dL_law_856 rfl ?_
  refine U.callVM (o := 0) (ci := 6) (T := TX7) (N := 10) dL_law_857 IN_nd rfl (hc M h7) lkL_98 im_X7_times se_X7_times cd_X7_times ini_X7 rfl (IN0 (by decide)) (show cont y ad M 0 = o_desk ad from rfl) hd_X7_times ⟨(Nat.le_of_ble_eq_true rfl), (Nat.le_of_ble_eq_true rfl)⟩ rfl (Nat.le_of_ble_eq_true rfl) (Nat.le_of_ble_eq_true rfl) (Nat.le_of_ble_eq_true rfl) ?_
  rintro _ M1 ⟨rfl, r7, k7⟩
  show UL l D y ad A Q κ b M1 860 n [.int v]
  have r8 : Rm (iA a) M1 := h8.far (fun j hj => k7 j (Nat.not_lt.mpr hj))
  refine U.aload_n dL_law_860 rfl ?_
  refine U.callVM (o := 142) (ci := 7) (T := TX8) (N := 37) dL_law_861 IN_nd rfl (hm M1 r8) lkL_101 im_X8_times se_X8_times cd_X8_times ini_X8 rfl (IN0 (by decide)) (show cont y ad M1 142 = o_model ad M1 from rfl) hd_X8_times ⟨(Nat.le_of_ble_eq_true rfl), (Nat.le_of_ble_eq_true rfl)⟩ rfl (Nat.le_of_ble_eq_true rfl) (Nat.le_of_ble_eq_true rfl) (Nat.le_of_ble_eq_true rfl) ?_
  rintro _ M2 ⟨rfl, s8, k8⟩
  show UL l D y ad A Q κ b M2 864 n [.int v, .int v]
  have s7 : Rc (iA a') M2 := r7.far (fun j hj => k8 j (Nat.not_le.mpr hj))
  exact U.icmp_eq (tgt := 1132) dL_law_864 (by decide) (fun _ => nx a' M2 hg' s7 s8) (fun h => absurd rfl h)
theorem w_swap (hX : LwH κ A b Ls xs) (hn : n + 5 ≤ Ls) (nx : Nx l D y ad A Q κ b n) {a : AbF} {M : Mem} (hg : Good a) (h7 : Rc (iA a) M) (h8 : Rm (iA a) M) : UL l D y ad A Q κ b M 869 n [] := by
  obtain ⟨v, a', hg', hc, hm⟩ := j_swap (g := (l, D, y, ad, IN 0 1 174)) (fun i hi => IN0 hi) hg (x := xs (n + 1)) (y := xs (n + 2))
  refine U.aload_n dL_law_869 rfl ?_
  refine U.aload_n dL_law_870 rfl ?_
  refine U.iload_n dL_law_871 rfl ?_
  refine U.iconst (v := nI 1) dL_law_872 rfl ?_
  first | refine U.iaddN dL_law_873 ?_ | refine U.iadd dL_law_873 ?_
  refine U.sld dL_law_874 hX.1 hX.2.1 hX.2.2.1 hX.2.2.2 (by omega) ?_
  refine U.aload_n dL_law_875 rfl ?_
  refine U.iload_n dL_law_876 rfl ?_
  refine U.iconst (v := nI 2) dL_law_877 rfl ?_
  first | refine U.iaddN dL_law_878 ?_ | refine U.iadd dL_law_878 ?_
  refine U.sld dL_law_879 hX.1 hX.2.1 hX.2.2.1 hX.2.2.2 (by omega) ?_
  refine U.callVM (o := 0) (ci := 6) (T := TX7) (N := 10) dL_law_880 IN_nd rfl (hc M h7) lkL_102 im_X7_swap se_X7_swap cd_X7_swap ini_X7 rfl (IN0 (by decide)) (show cont y ad M 0 = o_desk ad from rfl) hd_X7_swap ⟨(Nat.le_of_ble_eq_true rfl), (Nat.le_of_ble_eq_true rfl)⟩ rfl (Nat.le_of_ble_eq_true rfl) (Nat.le_of_ble_eq_true rfl) (Nat.le_of_ble_eq_true rfl) ?_
  rintro _ M1 ⟨rfl, r7, k7⟩
  show UL l D y ad A Q κ b M1 883 n [.int v]
  have r8 : Rm (iA a) M1 := h8.far (fun j hj => k7 j (Nat.not_lt.mpr hj))
  refine U.aload_n dL_law_883 rfl ?_
  refine U.aload_n dL_law_884 rfl ?_
  refine U.iload_n dL_law_885 rfl ?_
  refine U.iconst (v := nI 1) dL_law_886 rfl ?_
  first | refine U.iaddN dL_law_887 ?_ | refine U.iadd dL_law_887 ?_
  refine U.sld dL_law_888 hX.1 hX.2.1 hX.2.2.1 hX.2.2.2 (by omega) ?_
  refine U.aload_n dL_law_889 rfl ?_
  refine U.iload_n dL_law_890 rfl ?_
  refine U.iconst (v := nI 2) dL_law_891 rfl ?_
  first | refine U.iaddN dL_law_892 ?_ | refine U.iadd dL_law_892 ?_
  refine U.sld dL_law_893 hX.1 hX.2.1 hX.2.2.1 hX.2.2.2 (by omega) ?_
  refine U.callVM (o := 142) (ci := 7) (T := TX8) (N := 37) dL_law_894 IN_nd rfl (hm M1 r8) lkL_105 im_X8_swap se_X8_swap cd_X8_swap ini_X8 rfl (IN0 (by decide)) (show cont y ad M1 142 = o_model ad M1 from rfl) hd_X8_swap ⟨(Nat.le_of_ble_eq_true rfl), (Nat.le_of_ble_eq_true rfl)⟩ rfl (Nat.le_of_ble_eq_true rfl) (Nat.le_of_ble_eq_true rfl) (Nat.le_of_ble_eq_true rfl) ?_
  rintro _ M2 ⟨rfl, s8, k8⟩
  show UL l D y ad A Q κ b M2 897 n [.int v, .int v]
  have s7 : Rc (iA a') M2 := r7.far (fun j hj => k8 j (Nat.not_le.mpr hj))
  exact U.icmp_eq (tgt := 1132) dL_law_897 (by decide) (fun _ => nx a' M2 hg' s7 s8) (fun h => absurd rfl h)
theorem w_climb (hX : LwH κ A b Ls xs) (hn : n + 5 ≤ Ls) (nx : Nx l D y ad A Q κ b n) {a : AbF} {M : Mem} (hg : Good a) (h7 : Rc (iA a) M) (h8 : Rm (iA a) M) : UL l D y ad A Q κ b M 902 n [] := by
  obtain ⟨v, a', hg', hc, hm⟩ := j_climb (g := (l, D, y, ad, IN 0 1 174)) (fun i hi => IN0 hi) hg (x := xs (n + 1))
  refine U.aload_n dL_law_902 rfl ?_
  refine U.aload_n dL_law_903 rfl ?_
  refine U.iload_n dL_law_904 rfl ?_
  refine U.iconst (v := nI 1) dL_law_905 rfl ?_
  first | refine U.iaddN dL_law_906 ?_ | refine U.iadd dL_law_906 ?_
  refine U.sld dL_law_907 hX.1 hX.2.1 hX.2.2.1 hX.2.2.2 (by omega) ?_
  refine U.callVM (o := 0) (ci := 6) (T := TX7) (N := 10) dL_law_908 IN_nd rfl (hc M h7) lkL_106 im_X7_climb se_X7_climb cd_X7_climb ini_X7 rfl (IN0 (by decide)) (show cont y ad M 0 = o_desk ad from rfl) hd_X7_climb ⟨(Nat.le_of_ble_eq_true rfl), (Nat.le_of_ble_eq_true rfl)⟩ rfl (Nat.le_of_ble_eq_true rfl) (Nat.le_of_ble_eq_true rfl) (Nat.le_of_ble_eq_true rfl) ?_
  rintro _ M1 ⟨rfl, r7, k7⟩
  show UL l D y ad A Q κ b M1 911 n [.int v]
  have r8 : Rm (iA a) M1 := h8.far (fun j hj => k7 j (Nat.not_lt.mpr hj))
  refine U.aload_n dL_law_911 rfl ?_
  refine U.aload_n dL_law_912 rfl ?_
  refine U.iload_n dL_law_913 rfl ?_
  refine U.iconst (v := nI 1) dL_law_914 rfl ?_
  first | refine U.iaddN dL_law_915 ?_ | refine U.iadd dL_law_915 ?_
  refine U.sld dL_law_916 hX.1 hX.2.1 hX.2.2.1 hX.2.2.2 (by omega) ?_
  refine U.callVM (o := 142) (ci := 7) (T := TX8) (N := 37) dL_law_917 IN_nd rfl (hm M1 r8) lkL_109 im_X8_climb se_X8_climb cd_X8_climb ini_X8 rfl (IN0 (by decide)) (show cont y ad M1 142 = o_model ad M1 from rfl) hd_X8_climb ⟨(Nat.le_of_ble_eq_true rfl), (Nat.le_of_ble_eq_true rfl)⟩ rfl (Nat.le_of_ble_eq_true rfl) (Nat.le_of_ble_eq_true rfl) (Nat.le_of_ble_eq_true rfl) ?_
  rintro _ M2 ⟨rfl, s8, k8⟩
  show UL l D y ad A Q κ b M2 920 n [.int v, .int v]
  have s7 : Rc (iA a') M2 := r7.far (fun j hj => k8 j (Nat.not_le.mpr hj))
  exact U.icmp_eq (tgt := 1132) dL_law_920 (by decide) (fun _ => nx a' M2 hg' s7 s8) (fun h => absurd rfl h)
theorem w_weigh (hX : LwH κ A b Ls xs) (hn : n + 5 ≤ Ls) (nx : Nx l D y ad A Q κ b n) {a : AbF} {M : Mem} (hg : Good a) (h7 : Rc (iA a) M) (h8 : Rm (iA a) M) : UL l D y ad A Q κ b M 925 n [] := by
  obtain ⟨v, a', hg', hc, hm⟩ := j_weigh (g := (l, D, y, ad, IN 0 1 174)) (fun i hi => IN0 hi) hg (x := xs (n + 1))
  refine U.aload_n dL_law_925 rfl ?_
  refine U.aload_n dL_law_926 rfl ?_
  refine U.iload_n dL_law_927 rfl ?_
  refine U.iconst (v := nI 1) dL_law_928 rfl ?_
  first | refine U.iaddN dL_law_929 ?_ | refine U.iadd dL_law_929 ?_
  refine U.sld dL_law_930 hX.1 hX.2.1 hX.2.2.1 hX.2.2.2 (by omega) ?_
  refine U.callVM (o := 0) (ci := 6) (T := TX7) (N := 10) dL_law_931 IN_nd rfl (hc M h7) lkL_110 im_X7_weigh se_X7_weigh cd_X7_weigh ini_X7 rfl (IN0 (by decide)) (show cont y ad M 0 = o_desk ad from rfl) hd_X7_weigh ⟨(Nat.le_of_ble_eq_true rfl), (Nat.le_of_ble_eq_true rfl)⟩ rfl (Nat.le_of_ble_eq_true rfl) (Nat.le_of_ble_eq_true rfl) (Nat.le_of_ble_eq_true rfl) ?_
  rintro _ M1 ⟨rfl, r7, k7⟩
  show UL l D y ad A Q κ b M1 934 n [.int v]
  have r8 : Rm (iA a) M1 := h8.far (fun j hj => k7 j (Nat.not_lt.mpr hj))
  refine U.aload_n dL_law_934 rfl ?_
  refine U.aload_n dL_law_935 rfl ?_
  refine U.iload_n dL_law_936 rfl ?_
  refine U.iconst (v := nI 1) dL_law_937 rfl ?_
  first | refine U.iaddN dL_law_938 ?_ | refine U.iadd dL_law_938 ?_
  refine U.sld dL_law_939 hX.1 hX.2.1 hX.2.2.1 hX.2.2.2 (by omega) ?_
  refine U.callVM (o := 142) (ci := 7) (T := TX8) (N := 37) dL_law_940 IN_nd rfl (hm M1 r8) lkL_113 im_X8_weigh se_X8_weigh cd_X8_weigh ini_X8 rfl (IN0 (by decide)) (show cont y ad M1 142 = o_model ad M1 from rfl) hd_X8_weigh ⟨(Nat.le_of_ble_eq_true rfl), (Nat.le_of_ble_eq_true rfl)⟩ rfl (Nat.le_of_ble_eq_true rfl) (Nat.le_of_ble_eq_true rfl) (Nat.le_of_ble_eq_true rfl) ?_
  rintro _ M2 ⟨rfl, s8, k8⟩
  show UL l D y ad A Q κ b M2 943 n [.int v, .int v]
  have s7 : Rc (iA a') M2 := r7.far (fun j hj => k8 j (Nat.not_le.mpr hj))
  exact U.icmp_eq (tgt := 1132) dL_law_943 (by decide) (fun _ => nx a' M2 hg' s7 s8) (fun h => absurd rfl h)
theorem w_undo (hX : LwH κ A b Ls xs) (hn : n + 5 ≤ Ls) (nx : Nx l D y ad A Q κ b n) {a : AbF} {M : Mem} (hg : Good a) (h7 : Rc (iA a) M) (h8 : Rm (iA a) M) : UL l D y ad A Q κ b M 948 n [] := by
  obtain ⟨v, a', hg', hc, hm⟩ := j_undo (g := (l, D, y, ad, IN 0 1 174)) (fun i hi => IN0 hi) hg 
  refine U.aload_n dL_law_948 rfl ?_
  refine U.callVM (o := 0) (ci := 6) (T := TX7) (N := 10) dL_law_949 IN_nd rfl (hc M h7) lkL_114 im_X7_undo se_X7_undo cd_X7_undo ini_X7 rfl (IN0 (by decide)) (show cont y ad M 0 = o_desk ad from rfl) hd_X7_undo ⟨(Nat.le_of_ble_eq_true rfl), (Nat.le_of_ble_eq_true rfl)⟩ rfl (Nat.le_of_ble_eq_true rfl) (Nat.le_of_ble_eq_true rfl) (Nat.le_of_ble_eq_true rfl) ?_
  rintro _ M1 ⟨rfl, r7, k7⟩
  show UL l D y ad A Q κ b M1 952 n [.int v]
  have r8 : Rm (iA a) M1 := h8.far (fun j hj => k7 j (Nat.not_lt.mpr hj))
  refine U.aload_n dL_law_952 rfl ?_
  refine U.callVM (o := 142) (ci := 7) (T := TX8) (N := 37) dL_law_953 IN_nd rfl (hm M1 r8) lkL_117 im_X8_undo se_X8_undo cd_X8_undo ini_X8 rfl (IN0 (by decide)) (show cont y ad M1 142 = o_model ad M1 from rfl) hd_X8_undo ⟨(Nat.le_of_ble_eq_true rfl), (Nat.le_of_ble_eq_true rfl)⟩ rfl (Nat.le_of_ble_eq_true rfl) (Nat.le_of_ble_eq_true rfl) (Nat.le_of_ble_eq_true rfl) ?_
  rintro _ M2 ⟨rfl, s8, k8⟩
  show UL l D y ad A Q κ b M2 956 n [.int v, .int v]
  have s7 : Rc (iA a') M2 := r7.far (fun j hj => k8 j (Nat.not_le.mpr hj))
  exact U.icmp_eq (tgt := 1132) dL_law_956 (by decide) (fun _ => nx a' M2 hg' s7 s8) (fun h => absurd rfl h)
theorem w_hand (hX : LwH κ A b Ls xs) (hn : n + 5 ≤ Ls) (nx : Nx l D y ad A Q κ b n) {a : AbF} {M : Mem} (hg : Good a) (h7 : Rc (iA a) M) (h8 : Rm (iA a) M) : UL l D y ad A Q κ b M 961 n [] := by
  obtain ⟨v, a', hg', hc, hm⟩ := j_hand (g := (l, D, y, ad, IN 0 1 174)) (fun i hi => IN0 hi) hg (x := xs (n + 1))
  refine U.aload_n dL_law_961 rfl ?_
  refine U.aload_n dL_law_962 rfl ?_
  refine U.iload_n dL_law_963 rfl ?_
  refine U.iconst (v := nI 1) dL_law_964 rfl ?_
  first | refine U.iaddN dL_law_965 ?_ | refine U.iadd dL_law_965 ?_
  refine U.sld dL_law_966 hX.1 hX.2.1 hX.2.2.1 hX.2.2.2 (by omega) ?_
  refine U.callVM (o := 0) (ci := 6) (T := TX7) (N := 10) dL_law_967 IN_nd rfl (hc M h7) lkL_118 im_X7_hand se_X7_hand cd_X7_hand ini_X7 rfl (IN0 (by decide)) (show cont y ad M 0 = o_desk ad from rfl) hd_X7_hand ⟨(Nat.le_of_ble_eq_true rfl), (Nat.le_of_ble_eq_true rfl)⟩ rfl (Nat.le_of_ble_eq_true rfl) (Nat.le_of_ble_eq_true rfl) (Nat.le_of_ble_eq_true rfl) ?_
  rintro _ M1 ⟨rfl, r7, k7⟩
  show UL l D y ad A Q κ b M1 970 n [.int v]
  have r8 : Rm (iA a) M1 := h8.far (fun j hj => k7 j (Nat.not_lt.mpr hj))
  refine U.aload_n dL_law_970 rfl ?_
  refine U.aload_n dL_law_971 rfl ?_
  refine U.iload_n dL_law_972 rfl ?_
  refine U.iconst (v := nI 1) dL_law_973 rfl ?_
  first | refine U.iaddN dL_law_974 ?_ | refine U.iadd dL_law_974 ?_
  refine U.sld dL_law_975 hX.1 hX.2.1 hX.2.2.1 hX.2.2.2 (by omega) ?_
  refine U.callVM (o := 142) (ci := 7) (T := TX8) (N := 37) dL_law_976 IN_nd rfl (hm M1 r8) lkL_121 im_X8_hand se_X8_hand cd_X8_hand ini_X8 rfl (IN0 (by decide)) (show cont y ad M1 142 = o_model ad M1 from rfl) hd_X8_hand ⟨(Nat.le_of_ble_eq_true rfl), (Nat.le_of_ble_eq_true rfl)⟩ rfl (Nat.le_of_ble_eq_true rfl) (Nat.le_of_ble_eq_true rfl) (Nat.le_of_ble_eq_true rfl) ?_
  rintro _ M2 ⟨rfl, s8, k8⟩
  show UL l D y ad A Q κ b M2 979 n [.int v, .int v]
  have s7 : Rc (iA a') M2 := r7.far (fun j hj => k8 j (Nat.not_le.mpr hj))
  exact U.icmp_eq (tgt := 1132) dL_law_979 (by decide) (fun _ => nx a' M2 hg' s7 s8) (fun h => absurd rfl h)
theorem w_at (hX : LwH κ A b Ls xs) (hn : n + 5 ≤ Ls) (nx : Nx l D y ad A Q κ b n) {a : AbF} {M : Mem} (hg : Good a) (h7 : Rc (iA a) M) (h8 : Rm (iA a) M) : UL l D y ad A Q κ b M 984 n [] := by
  obtain ⟨v, a', hg', hc, hm⟩ := j_at (g := (l, D, y, ad, IN 0 1 174)) (fun i hi => IN0 hi) hg (x := xs (n + 1))
  refine U.aload_n dL_law_984 rfl ?_
  refine U.aload_n dL_law_985 rfl ?_
  refine U.iload_n dL_law_986 rfl ?_
  refine U.iconst (v := nI 1) dL_law_987 rfl ?_
  first | refine U.iaddN dL_law_988 ?_ | refine U.iadd dL_law_988 ?_
  refine U.sld dL_law_989 hX.1 hX.2.1 hX.2.2.1 hX.2.2.2 (by omega) ?_
  refine U.callVM (o := 0) (ci := 6) (T := TX7) (N := 10) dL_law_990 IN_nd rfl (hc M h7) lkL_122 im_X7_at se_X7_at cd_X7_at ini_X7 rfl (IN0 (by decide)) (show cont y ad M 0 = o_desk ad from rfl) hd_X7_at ⟨(Nat.le_of_ble_eq_true rfl), (Nat.le_of_ble_eq_true rfl)⟩ rfl (Nat.le_of_ble_eq_true rfl) (Nat.le_of_ble_eq_true rfl) (Nat.le_of_ble_eq_true rfl) ?_
  rintro _ M1 ⟨rfl, r7, k7⟩
  show UL l D y ad A Q κ b M1 993 n [.int v]
  have r8 : Rm (iA a) M1 := h8.far (fun j hj => k7 j (Nat.not_lt.mpr hj))
  refine U.aload_n dL_law_993 rfl ?_
  refine U.aload_n dL_law_994 rfl ?_
  refine U.iload_n dL_law_995 rfl ?_
  refine U.iconst (v := nI 1) dL_law_996 rfl ?_
  first | refine U.iaddN dL_law_997 ?_ | refine U.iadd dL_law_997 ?_
  refine U.sld dL_law_998 hX.1 hX.2.1 hX.2.2.1 hX.2.2.2 (by omega) ?_
  refine U.callVM (o := 142) (ci := 7) (T := TX8) (N := 37) dL_law_999 IN_nd rfl (hm M1 r8) lkL_125 im_X8_at se_X8_at cd_X8_at ini_X8 rfl (IN0 (by decide)) (show cont y ad M1 142 = o_model ad M1 from rfl) hd_X8_at ⟨(Nat.le_of_ble_eq_true rfl), (Nat.le_of_ble_eq_true rfl)⟩ rfl (Nat.le_of_ble_eq_true rfl) (Nat.le_of_ble_eq_true rfl) (Nat.le_of_ble_eq_true rfl) ?_
  rintro _ M2 ⟨rfl, s8, k8⟩
  show UL l D y ad A Q κ b M2 1002 n [.int v, .int v]
  have s7 : Rc (iA a') M2 := r7.far (fun j hj => k8 j (Nat.not_le.mpr hj))
  exact U.icmp_eq (tgt := 1132) dL_law_1002 (by decide) (fun _ => nx a' M2 hg' s7 s8) (fun h => absurd rfl h)
theorem w_expand (hX : LwH κ A b Ls xs) (hn : n + 5 ≤ Ls) (nx : Nx l D y ad A Q κ b n) {a : AbF} {M : Mem} (hg : Good a) (h7 : Rc (iA a) M) (h8 : Rm (iA a) M) : UL l D y ad A Q κ b M 1007 n [] := by
  obtain ⟨v, a', hg', hc, hm⟩ := j_expand (g := (l, D, y, ad, IN 0 1 174)) (fun i hi => IN0 hi) hg (x := xs (n + 1)) (y := xs (n + 2))
  refine U.aload_n dL_law_1007 rfl ?_
  refine U.aload_n dL_law_1008 rfl ?_
  refine U.iload_n dL_law_1009 rfl ?_
  refine U.iconst (v := nI 1) dL_law_1010 rfl ?_
  first | refine U.iaddN dL_law_1011 ?_ | refine U.iadd dL_law_1011 ?_
  refine U.sld dL_law_1012 hX.1 hX.2.1 hX.2.2.1 hX.2.2.2 (by omega) ?_
  refine U.aload_n dL_law_1013 rfl ?_
  refine U.iload_n dL_law_1014 rfl ?_
  refine U.iconst (v := nI 2) dL_law_1015 rfl ?_
  first | refine U.iaddN dL_law_1016 ?_ | refine U.iadd dL_law_1016 ?_
  refine U.sld dL_law_1017 hX.1 hX.2.1 hX.2.2.1 hX.2.2.2 (by omega) ?_
  refine U.callVM (o := 0) (ci := 6) (T := TX7) (N := 10) dL_law_1018 IN_nd rfl (hc M h7) lkL_126 im_X7_expand se_X7_expand cd_X7_expand ini_X7 rfl (IN0 (by decide)) (show cont y ad M 0 = o_desk ad from rfl) hd_X7_expand ⟨(Nat.le_of_ble_eq_true rfl), (Nat.le_of_ble_eq_true rfl)⟩ rfl (Nat.le_of_ble_eq_true rfl) (Nat.le_of_ble_eq_true rfl) (Nat.le_of_ble_eq_true rfl) ?_
  rintro _ M1 ⟨rfl, r7, k7⟩
  show UL l D y ad A Q κ b M1 1021 n [.int v]
  have r8 : Rm (iA a) M1 := h8.far (fun j hj => k7 j (Nat.not_lt.mpr hj))
  refine U.aload_n dL_law_1021 rfl ?_
  refine U.aload_n dL_law_1022 rfl ?_
  refine U.iload_n dL_law_1023 rfl ?_
  refine U.iconst (v := nI 1) dL_law_1024 rfl ?_
  first | refine U.iaddN dL_law_1025 ?_ | refine U.iadd dL_law_1025 ?_
  refine U.sld dL_law_1026 hX.1 hX.2.1 hX.2.2.1 hX.2.2.2 (by omega) ?_
  refine U.aload_n dL_law_1027 rfl ?_
  refine U.iload_n dL_law_1028 rfl ?_
  refine U.iconst (v := nI 2) dL_law_1029 rfl ?_
  first | refine U.iaddN dL_law_1030 ?_ | refine U.iadd dL_law_1030 ?_
  refine U.sld dL_law_1031 hX.1 hX.2.1 hX.2.2.1 hX.2.2.2 (by omega) ?_
  refine U.callVM (o := 142) (ci := 7) (T := TX8) (N := 37) dL_law_1032 IN_nd rfl (hm M1 r8) lkL_129 im_X8_expand se_X8_expand cd_X8_expand ini_X8 rfl (IN0 (by decide)) (show cont y ad M1 142 = o_model ad M1 from rfl) hd_X8_expand ⟨(Nat.le_of_ble_eq_true rfl), (Nat.le_of_ble_eq_true rfl)⟩ rfl (Nat.le_of_ble_eq_true rfl) (Nat.le_of_ble_eq_true rfl) (Nat.le_of_ble_eq_true rfl) ?_
  rintro _ M2 ⟨rfl, s8, k8⟩
  show UL l D y ad A Q κ b M2 1035 n [.int v, .int v]
  have s7 : Rc (iA a') M2 := r7.far (fun j hj => k8 j (Nat.not_le.mpr hj))
  exact U.icmp_eq (tgt := 1132) dL_law_1035 (by decide) (fun _ => nx a' M2 hg' s7 s8) (fun h => absurd rfl h)
theorem w_sum (hX : LwH κ A b Ls xs) (hn : n + 5 ≤ Ls) (nx : Nx l D y ad A Q κ b n) {a : AbF} {M : Mem} (hg : Good a) (h7 : Rc (iA a) M) (h8 : Rm (iA a) M) : UL l D y ad A Q κ b M 1040 n [] := by
  obtain ⟨v, a', hg', hc, hm⟩ := j_sum (g := (l, D, y, ad, IN 0 1 174)) (fun i hi => IN0 hi) hg (x := xs (n + 1))
  refine U.aload_n dL_law_1040 rfl ?_
  refine U.aload_n dL_law_1041 rfl ?_
  refine U.iload_n dL_law_1042 rfl ?_
  refine U.iconst (v := nI 1) dL_law_1043 rfl ?_
  first | refine U.iaddN dL_law_1044 ?_ | refine U.iadd dL_law_1044 ?_
  refine U.sld dL_law_1045 hX.1 hX.2.1 hX.2.2.1 hX.2.2.2 (by omega) ?_
  refine U.callVM (o := 0) (ci := 6) (T := TX7) (N := 10) dL_law_1046 IN_nd rfl (hc M h7) lkL_130 im_X7_sum se_X7_sum cd_X7_sum ini_X7 rfl (IN0 (by decide)) (show cont y ad M 0 = o_desk ad from rfl) hd_X7_sum ⟨(Nat.le_of_ble_eq_true rfl), (Nat.le_of_ble_eq_true rfl)⟩ rfl (Nat.le_of_ble_eq_true rfl) (Nat.le_of_ble_eq_true rfl) (Nat.le_of_ble_eq_true rfl) ?_
  rintro _ M1 ⟨rfl, r7, k7⟩
  show UL l D y ad A Q κ b M1 1049 n [.int v]
  have r8 : Rm (iA a) M1 := h8.far (fun j hj => k7 j (Nat.not_lt.mpr hj))
  refine U.aload_n dL_law_1049 rfl ?_
  refine U.aload_n dL_law_1050 rfl ?_
  refine U.iload_n dL_law_1051 rfl ?_
  refine U.iconst (v := nI 1) dL_law_1052 rfl ?_
  first | refine U.iaddN dL_law_1053 ?_ | refine U.iadd dL_law_1053 ?_
  refine U.sld dL_law_1054 hX.1 hX.2.1 hX.2.2.1 hX.2.2.2 (by omega) ?_
  refine U.callVM (o := 142) (ci := 7) (T := TX8) (N := 37) dL_law_1055 IN_nd rfl (hm M1 r8) lkL_133 im_X8_sum se_X8_sum cd_X8_sum ini_X8 rfl (IN0 (by decide)) (show cont y ad M1 142 = o_model ad M1 from rfl) hd_X8_sum ⟨(Nat.le_of_ble_eq_true rfl), (Nat.le_of_ble_eq_true rfl)⟩ rfl (Nat.le_of_ble_eq_true rfl) (Nat.le_of_ble_eq_true rfl) (Nat.le_of_ble_eq_true rfl) ?_
  rintro _ M2 ⟨rfl, s8, k8⟩
  show UL l D y ad A Q κ b M2 1058 n [.int v, .int v]
  have s7 : Rc (iA a') M2 := r7.far (fun j hj => k8 j (Nat.not_le.mpr hj))
  exact U.icmp_eq (tgt := 1132) dL_law_1058 (by decide) (fun _ => nx a' M2 hg' s7 s8) (fun h => absurd rfl h)
theorem w_keep (hX : LwH κ A b Ls xs) (hn : n + 5 ≤ Ls) (nx : Nx l D y ad A Q κ b n) {a : AbF} {M : Mem} (hg : Good a) (h7 : Rc (iA a) M) (h8 : Rm (iA a) M) : UL l D y ad A Q κ b M 1063 n [] := by
  obtain ⟨v, a', hg', hc, hm⟩ := j_keep (g := (l, D, y, ad, IN 0 1 174)) (fun i hi => IN0 hi) hg (x := xs (n + 1))
  refine U.aload_n dL_law_1063 rfl ?_
  refine U.aload_n dL_law_1064 rfl ?_
  refine U.iload_n dL_law_1065 rfl ?_
  refine U.iconst (v := nI 1) dL_law_1066 rfl ?_
  first | refine U.iaddN dL_law_1067 ?_ | refine U.iadd dL_law_1067 ?_
  refine U.sld dL_law_1068 hX.1 hX.2.1 hX.2.2.1 hX.2.2.2 (by omega) ?_
  refine U.callVM (o := 0) (ci := 6) (T := TX7) (N := 10) dL_law_1069 IN_nd rfl (hc M h7) lkL_134 im_X7_keep se_X7_keep cd_X7_keep ini_X7 rfl (IN0 (by decide)) (show cont y ad M 0 = o_desk ad from rfl) hd_X7_keep ⟨(Nat.le_of_ble_eq_true rfl), (Nat.le_of_ble_eq_true rfl)⟩ rfl (Nat.le_of_ble_eq_true rfl) (Nat.le_of_ble_eq_true rfl) (Nat.le_of_ble_eq_true rfl) ?_
  rintro _ M1 ⟨rfl, r7, k7⟩
  show UL l D y ad A Q κ b M1 1072 n [.int v]
  have r8 : Rm (iA a) M1 := h8.far (fun j hj => k7 j (Nat.not_lt.mpr hj))
  refine U.aload_n dL_law_1072 rfl ?_
  refine U.aload_n dL_law_1073 rfl ?_
  refine U.iload_n dL_law_1074 rfl ?_
  refine U.iconst (v := nI 1) dL_law_1075 rfl ?_
  first | refine U.iaddN dL_law_1076 ?_ | refine U.iadd dL_law_1076 ?_
  refine U.sld dL_law_1077 hX.1 hX.2.1 hX.2.2.1 hX.2.2.2 (by omega) ?_
  refine U.callVM (o := 142) (ci := 7) (T := TX8) (N := 37) dL_law_1078 IN_nd rfl (hm M1 r8) lkL_137 im_X8_keep se_X8_keep cd_X8_keep ini_X8 rfl (IN0 (by decide)) (show cont y ad M1 142 = o_model ad M1 from rfl) hd_X8_keep ⟨(Nat.le_of_ble_eq_true rfl), (Nat.le_of_ble_eq_true rfl)⟩ rfl (Nat.le_of_ble_eq_true rfl) (Nat.le_of_ble_eq_true rfl) (Nat.le_of_ble_eq_true rfl) ?_
  rintro _ M2 ⟨rfl, s8, k8⟩
  show UL l D y ad A Q κ b M2 1081 n [.int v, .int v]
  have s7 : Rc (iA a') M2 := r7.far (fun j hj => k8 j (Nat.not_le.mpr hj))
  exact U.icmp_eq (tgt := 1132) dL_law_1081 (by decide) (fun _ => nx a' M2 hg' s7 s8) (fun h => absurd rfl h)
theorem w_back (hX : LwH κ A b Ls xs) (hn : n + 5 ≤ Ls) (nx : Nx l D y ad A Q κ b n) {a : AbF} {M : Mem} (hg : Good a) (h7 : Rc (iA a) M) (h8 : Rm (iA a) M) : UL l D y ad A Q κ b M 1086 n [] := by
  obtain ⟨v, a', hg', hc, hm⟩ := j_back (g := (l, D, y, ad, IN 0 1 174)) (fun i hi => IN0 hi) hg (x := xs (n + 1))
  refine U.aload_n dL_law_1086 rfl ?_
  refine U.aload_n dL_law_1087 rfl ?_
  refine U.iload_n dL_law_1088 rfl ?_
  refine U.iconst (v := nI 1) dL_law_1089 rfl ?_
  first | refine U.iaddN dL_law_1090 ?_ | refine U.iadd dL_law_1090 ?_
  refine U.sld dL_law_1091 hX.1 hX.2.1 hX.2.2.1 hX.2.2.2 (by omega) ?_
  refine U.callVM (o := 0) (ci := 6) (T := TX7) (N := 10) dL_law_1092 IN_nd rfl (hc M h7) lkL_138 im_X7_back se_X7_back cd_X7_back ini_X7 rfl (IN0 (by decide)) (show cont y ad M 0 = o_desk ad from rfl) hd_X7_back ⟨(Nat.le_of_ble_eq_true rfl), (Nat.le_of_ble_eq_true rfl)⟩ rfl (Nat.le_of_ble_eq_true rfl) (Nat.le_of_ble_eq_true rfl) (Nat.le_of_ble_eq_true rfl) ?_
  rintro _ M1 ⟨rfl, r7, k7⟩
  show UL l D y ad A Q κ b M1 1095 n [.int v]
  have r8 : Rm (iA a) M1 := h8.far (fun j hj => k7 j (Nat.not_lt.mpr hj))
  refine U.aload_n dL_law_1095 rfl ?_
  refine U.aload_n dL_law_1096 rfl ?_
  refine U.iload_n dL_law_1097 rfl ?_
  refine U.iconst (v := nI 1) dL_law_1098 rfl ?_
  first | refine U.iaddN dL_law_1099 ?_ | refine U.iadd dL_law_1099 ?_
  refine U.sld dL_law_1100 hX.1 hX.2.1 hX.2.2.1 hX.2.2.2 (by omega) ?_
  refine U.callVM (o := 142) (ci := 7) (T := TX8) (N := 37) dL_law_1101 IN_nd rfl (hm M1 r8) lkL_141 im_X8_back se_X8_back cd_X8_back ini_X8 rfl (IN0 (by decide)) (show cont y ad M1 142 = o_model ad M1 from rfl) hd_X8_back ⟨(Nat.le_of_ble_eq_true rfl), (Nat.le_of_ble_eq_true rfl)⟩ rfl (Nat.le_of_ble_eq_true rfl) (Nat.le_of_ble_eq_true rfl) (Nat.le_of_ble_eq_true rfl) ?_
  rintro _ M2 ⟨rfl, s8, k8⟩
  show UL l D y ad A Q κ b M2 1104 n [.int v, .int v]
  have s7 : Rc (iA a') M2 := r7.far (fun j hj => k8 j (Nat.not_le.mpr hj))
  exact U.icmp_eq (tgt := 1132) dL_law_1104 (by decide) (fun _ => nx a' M2 hg' s7 s8) (fun h => absurd rfl h)
theorem w_count (hX : LwH κ A b Ls xs) (hn : n + 5 ≤ Ls) (nx : Nx l D y ad A Q κ b n) {a : AbF} {M : Mem} (hg : Good a) (h7 : Rc (iA a) M) (h8 : Rm (iA a) M) : UL l D y ad A Q κ b M 1109 n [] := by
  obtain ⟨v, a', hg', hc, hm⟩ := j_count (g := (l, D, y, ad, IN 0 1 174)) (fun i hi => IN0 hi) hg (x := xs (n + 1))
  refine U.aload_n dL_law_1109 rfl ?_
  refine U.aload_n dL_law_1110 rfl ?_
  refine U.iload_n dL_law_1111 rfl ?_
  refine U.iconst (v := nI 1) dL_law_1112 rfl ?_
  first | refine U.iaddN dL_law_1113 ?_ | refine U.iadd dL_law_1113 ?_
  refine U.sld dL_law_1114 hX.1 hX.2.1 hX.2.2.1 hX.2.2.2 (by omega) ?_
  refine U.callVM (o := 0) (ci := 6) (T := TX7) (N := 10) dL_law_1115 IN_nd rfl (hc M h7) lkL_142 im_X7_count se_X7_count cd_X7_count ini_X7 rfl (IN0 (by decide)) (show cont y ad M 0 = o_desk ad from rfl) hd_X7_count ⟨(Nat.le_of_ble_eq_true rfl), (Nat.le_of_ble_eq_true rfl)⟩ rfl (Nat.le_of_ble_eq_true rfl) (Nat.le_of_ble_eq_true rfl) (Nat.le_of_ble_eq_true rfl) ?_
  rintro _ M1 ⟨rfl, r7, k7⟩
  show UL l D y ad A Q κ b M1 1118 n [.int v]
  have r8 : Rm (iA a) M1 := h8.far (fun j hj => k7 j (Nat.not_lt.mpr hj))
  refine U.aload_n dL_law_1118 rfl ?_
  refine U.aload_n dL_law_1119 rfl ?_
  refine U.iload_n dL_law_1120 rfl ?_
  refine U.iconst (v := nI 1) dL_law_1121 rfl ?_
  first | refine U.iaddN dL_law_1122 ?_ | refine U.iadd dL_law_1122 ?_
  refine U.sld dL_law_1123 hX.1 hX.2.1 hX.2.2.1 hX.2.2.2 (by omega) ?_
  refine U.callVM (o := 142) (ci := 7) (T := TX8) (N := 37) dL_law_1124 IN_nd rfl (hm M1 r8) lkL_145 im_X8_count se_X8_count cd_X8_count ini_X8 rfl (IN0 (by decide)) (show cont y ad M1 142 = o_model ad M1 from rfl) hd_X8_count ⟨(Nat.le_of_ble_eq_true rfl), (Nat.le_of_ble_eq_true rfl)⟩ rfl (Nat.le_of_ble_eq_true rfl) (Nat.le_of_ble_eq_true rfl) (Nat.le_of_ble_eq_true rfl) ?_
  rintro _ M2 ⟨rfl, s8, k8⟩
  show UL l D y ad A Q κ b M2 1127 n [.int v, .int v]
  have s7 : Rc (iA a') M2 := r7.far (fun j hj => k8 j (Nat.not_le.mpr hj))
  exact U.icmp_eq (tgt := 1132) dL_law_1127 (by decide) (fun _ => nx a' M2 hg' s7 s8) (fun h => absurd rfl h)
end LW

