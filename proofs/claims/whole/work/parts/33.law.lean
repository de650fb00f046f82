/-! the law's cases -/
theorem nI_ad (a b : Nat) : nI a + nI b = nI (a + b) := (Int32.ofNat_add a b).symm
theorem lg_c8 (x : Int64) : lg_cmp x x = 0 := by simp [lg_cmp]
theorem lg_c9 {x y : Int64} (h : x = y) : lg_cmp x y = 0 := h ▸ lg_c8 x
section ULAW
variable {p : Program} {l : Launch} {e : Env} {R : Room} {s : State} {m : MethodId} {args : Array Value} {below : List Frame} {meth : Method} {c : Code} {Q : State → Prop} {cells slots : Nat}
variable {D : va_G} {A : Nat → Prop} {H0 : Heap} {G : w_G} {M : w_M} {X Y O b L i t : Nat} {xs : Nat → Int32} {Inv : Nat → w_M → Prop}
abbrev law_lv (b : Nat) (G : w_G) (X Y O i : Nat) : List (Nat × Value) := [(0, .ref b), (1, .ref (gP G X)), (2, .ref (gP G Y)), (3, .ref (gP G O)), (4, .int (nI i))]
abbrev law_kk (p : Program) (l : Launch) (e : Env) (R : Room) (s : State) (m : MethodId) (args : Array Value) (below : List Frame) (meth : Method) (c : Code) (D : va_G) (A : Nat → Prop) (H0 : Heap) (cells slots : Nat) (Q : State → Prop) (b : Nat) (G : w_G) (X Y O i t : Nat) (Inv : Nat → w_M → Prop) : Prop := ∀ M3, Inv (t + 1) M3 → u_S p l e R s m args below meth c 8 D A H0 (cells + 1) (slots + 6) Q 1656 (law_lv b G X Y O i) [] G M3
theorem u_W1 {pc : Nat} {lv : List (Nat × Value)} {st : List Value} (k : u_S p l e R s m args below meth c 8 D A H0 (cells + 1) (slots + 6) Q pc lv st G M) : u_S p l e R s m args below meth c 8 D A H0 cells slots Q pc lv st G M := fun H locs ls hP hD hS hl => W.widen (Nat.le_succ _) (Nat.le_add_right _ _) (k H locs ls hP hD hS hl)
def H_turn (l : Launch) (D : va_G) (G : w_G) (X Y O : Nat) (Inv : Nat → w_M → Prop) : Prop := ∀ (t : Nat) (M : w_M) (a1 : Int32) (a2 : Int32) (a3 : Int32) (a4 : Int32), t < 512 → Inv t M → ∃ pH, u_Hm l D G yL_turn cL_turn 7 [(0, 14, 17, 13), (0, 14, 21, 15)] 7 146 [.ref (gP G X), .int a1, .int a2, .int a3, .int a4, .ref (gP G O)] M pH ∧ ∀ r5 M2, pH r5 M2 → ∃ pR, u_Mi l D G yX11_turn cX11_turn 6 (some .int) 1 22 [.ref (gP G Y), .int a1, .int a2, .int a3, .int a4] M2 pR ∧ ∀ r6 M3, pR r6 M3 → ∃ pT, u_Mi l D G yX11_thrown cX11_thrown 1 (some .int) 0 0 [.ref (gP G Y)] M3 pT ∧ ∀ r7 M4, pT r7 M4 → r7 = r5 ∧ (r5 = 0 → jv M4 O 0 = r6.toInt64) ∧ Inv (t + 1) M4
theorem law_turn (C : u_C p R s m args c cL_law RL 8 D A H0 cells slots G) (C1 : u_C p R s m args c cL_law RL 8 D A H0 (cells + 1) (slots + 6) G) (hXT : u_XT s) (hXH : u_XH A s H0) (hsc : va_X b L xs s H0) (hbl : b < H0.size) (hbA : ¬ A b) (hL : L < 10000) (hi : i + 6 ≤ L) (ht : t < 512) (hI : Inv t M) (hX : u_is G X 10) (hY : u_is G Y 11) (hO : L_j1 G O) (hR : 8 ≤ R.frames ∧ 300 ≤ R.locals) (hH : H_turn l D G X Y O Inv) (kk : law_kk p l e R s m args below meth c D A H0 cells slots Q b G X Y O i t Inv) (hcs : cells + 1 ≤ R.cells ∧ slots + 6 ≤ R.slots) : u_S p l e R s m args below meth c 8 D A H0 cells slots Q 148 (law_lv b G X Y O i) [] G M := by
  obtain ⟨pH, hH1, hH2⟩ := hH t M (xs (i + 1)) (xs (i + 2)) (xs (i + 3)) (xs (i + 4)) ht hI
  refine u_aload_n C (n := 1) dL_law_148 rfl ?_
  refine u_aload_n C (n := 0) dL_law_149 rfl ?_
  refine u_iload C (i := 4) dL_law_150 rfl ?_
  refine u_iconst C dL_law_152 (v := nI 1) rfl ?_
  refine u_iadd C dL_law_153 ?_
  rw [nI_ad]
  refine u_sld C hsc hbl hbA dL_law_154 (by omega) hL ?_
  refine u_aload_n C (n := 0) dL_law_155 rfl ?_
  refine u_iload C (i := 4) dL_law_156 rfl ?_
  refine u_iconst C dL_law_158 (v := nI 2) rfl ?_
  refine u_iadd C dL_law_159 ?_
  rw [nI_ad]
  refine u_sld C hsc hbl hbA dL_law_160 (by omega) hL ?_
  refine u_aload_n C (n := 0) dL_law_161 rfl ?_
  refine u_iload C (i := 4) dL_law_162 rfl ?_
  refine u_iconst C dL_law_164 (v := nI 3) rfl ?_
  refine u_iadd C dL_law_165 ?_
  rw [nI_ad]
  refine u_sld C hsc hbl hbA dL_law_166 (by omega) hL ?_
  refine u_aload_n C (n := 0) dL_law_167 rfl ?_
  refine u_iload C (i := 4) dL_law_168 rfl ?_
  refine u_iconst C dL_law_170 (v := nI 4) rfl ?_
  refine u_iadd C dL_law_171 ?_
  rw [nI_ad]
  refine u_sld C hsc hbl hbA dL_law_172 (by omega) hL ?_
  refine u_aload_n C (n := 3) dL_law_173 rfl ?_
  refine u_callHm (na := 6) C hXT hXH hw_L_turn hs_L_turn hi_L ⟨by decide, by decide, by decide +kernel⟩ dL_law_174 ml_RL_89 (As := [.ref (gP G X), .int (xs (i + 1)), .int (xs (i + 2)), .int (xs (i + 3)), .int (xs (i + 4)), .ref (gP G O)]) hH1 ⟨by omega, by omega⟩ rfl rfl (Nat.le_of_ble_eq_true rfl) hcs (fun r5 M2 hr5 => ?_)
  obtain ⟨pR, hR1, hR2⟩ := hH2 r5 M2 hr5
  refine u_istore C1 (i := 5) dL_law_177 (by decide) ?_
  refine u_aload_n C1 (n := 2) dL_law_179 rfl ?_
  refine u_aload_n C1 (n := 0) dL_law_180 rfl ?_
  refine u_iload C1 (i := 4) dL_law_181 rfl ?_
  refine u_iconst C1 dL_law_183 (v := nI 1) rfl ?_
  refine u_iadd C1 dL_law_184 ?_
  rw [nI_ad]
  refine u_sld C1 hsc hbl hbA dL_law_185 (by omega) hL ?_
  refine u_aload_n C1 (n := 0) dL_law_186 rfl ?_
  refine u_iload C1 (i := 4) dL_law_187 rfl ?_
  refine u_iconst C1 dL_law_189 (v := nI 2) rfl ?_
  refine u_iadd C1 dL_law_190 ?_
  rw [nI_ad]
  refine u_sld C1 hsc hbl hbA dL_law_191 (by omega) hL ?_
  refine u_aload_n C1 (n := 0) dL_law_192 rfl ?_
  refine u_iload C1 (i := 4) dL_law_193 rfl ?_
  refine u_iconst C1 dL_law_195 (v := nI 3) rfl ?_
  refine u_iadd C1 dL_law_196 ?_
  rw [nI_ad]
  refine u_sld C1 hsc hbl hbA dL_law_197 (by omega) hL ?_
  refine u_aload_n C1 (n := 0) dL_law_198 rfl ?_
  refine u_iload C1 (i := 4) dL_law_199 rfl ?_
  refine u_iconst C1 dL_law_201 (v := nI 4) rfl ?_
  refine u_iadd C1 dL_law_202 ?_
  rw [nI_ad]
  refine u_sld C1 hsc hbl hbA dL_law_203 (by omega) hL ?_
  refine u_calliV C1 ev_X11_turn dL_law_204 ml_RL_94 hY rfl (by decide) (As := [.int (xs (i + 1)), .int (xs (i + 2)), .int (xs (i + 3)), .int (xs (i + 4))]) hR1 ⟨by omega, by omega⟩ rfl rfl (Nat.le_of_ble_eq_true rfl) (fun r6 M3 hr6 => ?_)
  obtain ⟨pT, hT1, hT2⟩ := hR2 r6 M3 hr6
  refine u_istore C1 (i := 6) dL_law_207 (by decide) ?_
  refine u_aload_n C1 (n := 2) dL_law_209 rfl ?_
  refine u_calliV C1 ev_X11_thrown dL_law_210 ml_RL_95 hY rfl (by decide) (As := []) hT1 ⟨by omega, by omega⟩ rfl rfl (Nat.le_of_ble_eq_true rfl) (fun r7 M4 hr7 => ?_)
  obtain ⟨he, hv, hI2⟩ := hT2 r7 M4 hr7
  refine u_iload C1 (i := 5) dL_law_213 rfl ?_
  refine u_icmp_eq C1 dL_law_215 (tgt := 220) (by decide) (fun _ => ?_) (fun h => absurd he h)
  refine u_iload C1 (i := 5) dL_law_220 rfl ?_
  have hend : ∀ (lv : List (Nat × Value)), lv_re lv [0, 1, 2, 3, 4] = law_lv b G X Y O i → u_S p l e R s m args below meth c 8 D A H0 (cells + 1) (slots + 6) Q 237 lv [] G M4 := fun lv hlv => u_goto C1 dL_law_237 (tgt := 1656) (by decide) (u_loc [0, 1, 2, 3, 4] hlv (kk M4 hI2))
  refine u_if_ne C1 dL_law_222 (tgt := 237) (by decide) (fun _ => hend _ rfl) (fun h0 => ?_)
  have hv := hv h0
  refine u_aload_n C1 (n := 3) dL_law_225 rfl ?_
  refine u_iconst C1 dL_law_226 (v := nI 0) rfl ?_
  refine u_laldN C1 dL_law_227 (i := 0) hO.1 hO.2 (by decide) (by decide) ?_
  refine u_iload C1 (i := 6) dL_law_228 rfl ?_
  refine u_i2l C1 dL_law_230 ?_
  refine u_lcmp C1 dL_law_231 ?_
  exact u_if_eq C1 dL_law_232 (tgt := 237) (by decide) (fun _ => hend _ rfl) (fun h => absurd (lg_c9 hv) h)
def H_mean (l : Launch) (D : va_G) (G : w_G) (X Y O : Nat) (Inv : Nat → w_M → Prop) : Prop := ∀ (t : Nat) (M : w_M) (a1 : Int32), t < 512 → Inv t M → ∃ pH, u_Hm l D G yL_mean cL_mean 4 [(0, 9, 12, 13)] 7 143 [.ref (gP G X), .int a1, .ref (gP G O)] M pH ∧ ∀ r5 M2, pH r5 M2 → ∃ pR, u_Mi l D G yX11_mean cX11_mean 3 (some .int) 1 22 [.ref (gP G Y), .int a1] M2 pR ∧ ∀ r6 M3, pR r6 M3 → ∃ pT, u_Mi l D G yX11_thrown cX11_thrown 1 (some .int) 0 0 [.ref (gP G Y)] M3 pT ∧ ∀ r7 M4, pT r7 M4 → r7 = r5 ∧ (r5 = 0 → jv M4 O 0 = r6.toInt64) ∧ Inv (t + 1) M4
theorem law_mean (C : u_C p R s m args c cL_law RL 8 D A H0 cells slots G) (C1 : u_C p R s m args c cL_law RL 8 D A H0 (cells + 1) (slots + 6) G) (hXT : u_XT s) (hXH : u_XH A s H0) (hsc : va_X b L xs s H0) (hbl : b < H0.size) (hbA : ¬ A b) (hL : L < 10000) (hi : i + 6 ≤ L) (ht : t < 512) (hI : Inv t M) (hX : u_is G X 10) (hY : u_is G Y 11) (hO : L_j1 G O) (hR : 8 ≤ R.frames ∧ 300 ≤ R.locals) (hH : H_mean l D G X Y O Inv) (kk : law_kk p l e R s m args below meth c D A H0 cells slots Q b G X Y O i t Inv) (hcs : cells + 1 ≤ R.cells ∧ slots + 6 ≤ R.slots) : u_S p l e R s m args below meth c 8 D A H0 cells slots Q 240 (law_lv b G X Y O i) [] G M := by
  obtain ⟨pH, hH1, hH2⟩ := hH t M (xs (i + 1)) ht hI
  refine u_aload_n C (n := 1) dL_law_240 rfl ?_
  refine u_aload_n C (n := 0) dL_law_241 rfl ?_
  refine u_iload C (i := 4) dL_law_242 rfl ?_
  refine u_iconst C dL_law_244 (v := nI 1) rfl ?_
  refine u_iadd C dL_law_245 ?_
  rw [nI_ad]
  refine u_sld C hsc hbl hbA dL_law_246 (by omega) hL ?_
  refine u_aload_n C (n := 3) dL_law_247 rfl ?_
  refine u_callHm (na := 3) C hXT hXH hw_L_mean hs_L_mean hi_L ⟨by decide, by decide, by decide +kernel⟩ dL_law_248 ml_RL_99 (As := [.ref (gP G X), .int (xs (i + 1)), .ref (gP G O)]) hH1 ⟨by omega, by omega⟩ rfl rfl (Nat.le_of_ble_eq_true rfl) hcs (fun r5 M2 hr5 => ?_)
  obtain ⟨pR, hR1, hR2⟩ := hH2 r5 M2 hr5
  refine u_istore C1 (i := 5) dL_law_251 (by decide) ?_
  refine u_aload_n C1 (n := 2) dL_law_253 rfl ?_
  refine u_aload_n C1 (n := 0) dL_law_254 rfl ?_
  refine u_iload C1 (i := 4) dL_law_255 rfl ?_
  refine u_iconst C1 dL_law_257 (v := nI 1) rfl ?_
  refine u_iadd C1 dL_law_258 ?_
  rw [nI_ad]
  refine u_sld C1 hsc hbl hbA dL_law_259 (by omega) hL ?_
  refine u_calliV C1 ev_X11_mean dL_law_260 ml_RL_102 hY rfl (by decide) (As := [.int (xs (i + 1))]) hR1 ⟨by omega, by omega⟩ rfl rfl (Nat.le_of_ble_eq_true rfl) (fun r6 M3 hr6 => ?_)
  obtain ⟨pT, hT1, hT2⟩ := hR2 r6 M3 hr6
  refine u_istore C1 (i := 6) dL_law_263 (by decide) ?_
  refine u_aload_n C1 (n := 2) dL_law_265 rfl ?_
  refine u_calliV C1 ev_X11_thrown dL_law_266 ml_RL_95 hY rfl (by decide) (As := []) hT1 ⟨by omega, by omega⟩ rfl rfl (Nat.le_of_ble_eq_true rfl) (fun r7 M4 hr7 => ?_)
  obtain ⟨he, hv, hI2⟩ := hT2 r7 M4 hr7
  refine u_iload C1 (i := 5) dL_law_269 rfl ?_
  refine u_icmp_eq C1 dL_law_271 (tgt := 276) (by decide) (fun _ => ?_) (fun h => absurd he h)
  refine u_iload C1 (i := 5) dL_law_276 rfl ?_
  have hend : ∀ (lv : List (Nat × Value)), lv_re lv [0, 1, 2, 3, 4] = law_lv b G X Y O i → u_S p l e R s m args below meth c 8 D A H0 (cells + 1) (slots + 6) Q 293 lv [] G M4 := fun lv hlv => u_goto C1 dL_law_293 (tgt := 1656) (by decide) (u_loc [0, 1, 2, 3, 4] hlv (kk M4 hI2))
  refine u_if_ne C1 dL_law_278 (tgt := 293) (by decide) (fun _ => hend _ rfl) (fun h0 => ?_)
  have hv := hv h0
  refine u_aload_n C1 (n := 3) dL_law_281 rfl ?_
  refine u_iconst C1 dL_law_282 (v := nI 0) rfl ?_
  refine u_laldN C1 dL_law_283 (i := 0) hO.1 hO.2 (by decide) (by decide) ?_
  refine u_iload C1 (i := 6) dL_law_284 rfl ?_
  refine u_i2l C1 dL_law_286 ?_
  refine u_lcmp C1 dL_law_287 ?_
  exact u_if_eq C1 dL_law_288 (tgt := 293) (by decide) (fun _ => hend _ rfl) (fun h => absurd (lg_c9 hv) h)
def H_surge (l : Launch) (D : va_G) (G : w_G) (X Y O : Nat) (Inv : Nat → w_M → Prop) : Prop := ∀ (t : Nat) (M : w_M) (a1 : Int32) (a2 : Int32) (a3 : Int32), t < 512 → Inv t M → ∃ pH, u_Hm l D G yL_surge cL_surge 6 [(0, 12, 15, 13), (0, 12, 19, 15)] 7 144 [.ref (gP G X), .int a1, .int a2, .int a3, .ref (gP G O)] M pH ∧ ∀ r5 M2, pH r5 M2 → ∃ pR, u_Mi l D G yX11_surge cX11_surge 5 (some .int) 1 22 [.ref (gP G Y), .int a1, .int a2, .int a3] M2 pR ∧ ∀ r6 M3, pR r6 M3 → ∃ pT, u_Mi l D G yX11_thrown cX11_thrown 1 (some .int) 0 0 [.ref (gP G Y)] M3 pT ∧ ∀ r7 M4, pT r7 M4 → r7 = r5 ∧ (r5 = 0 → jv M4 O 0 = r6.toInt64) ∧ Inv (t + 1) M4
theorem law_surge (C : u_C p R s m args c cL_law RL 8 D A H0 cells slots G) (C1 : u_C p R s m args c cL_law RL 8 D A H0 (cells + 1) (slots + 6) G) (hXT : u_XT s) (hXH : u_XH A s H0) (hsc : va_X b L xs s H0) (hbl : b < H0.size) (hbA : ¬ A b) (hL : L < 10000) (hi : i + 6 ≤ L) (ht : t < 512) (hI : Inv t M) (hX : u_is G X 10) (hY : u_is G Y 11) (hO : L_j1 G O) (hR : 8 ≤ R.frames ∧ 300 ≤ R.locals) (hH : H_surge l D G X Y O Inv) (kk : law_kk p l e R s m args below meth c D A H0 cells slots Q b G X Y O i t Inv) (hcs : cells + 1 ≤ R.cells ∧ slots + 6 ≤ R.slots) : u_S p l e R s m args below meth c 8 D A H0 cells slots Q 296 (law_lv b G X Y O i) [] G M := by
  obtain ⟨pH, hH1, hH2⟩ := hH t M (xs (i + 1)) (xs (i + 2)) (xs (i + 3)) ht hI
  refine u_aload_n C (n := 1) dL_law_296 rfl ?_
  refine u_aload_n C (n := 0) dL_law_297 rfl ?_
  refine u_iload C (i := 4) dL_law_298 rfl ?_
  refine u_iconst C dL_law_300 (v := nI 1) rfl ?_
  refine u_iadd C dL_law_301 ?_
  rw [nI_ad]
  refine u_sld C hsc hbl hbA dL_law_302 (by omega) hL ?_
  refine u_aload_n C (n := 0) dL_law_303 rfl ?_
  refine u_iload C (i := 4) dL_law_304 rfl ?_
  refine u_iconst C dL_law_306 (v := nI 2) rfl ?_
  refine u_iadd C dL_law_307 ?_
  rw [nI_ad]
  refine u_sld C hsc hbl hbA dL_law_308 (by omega) hL ?_
  refine u_aload_n C (n := 0) dL_law_309 rfl ?_
  refine u_iload C (i := 4) dL_law_310 rfl ?_
  refine u_iconst C dL_law_312 (v := nI 3) rfl ?_
  refine u_iadd C dL_law_313 ?_
  rw [nI_ad]
  refine u_sld C hsc hbl hbA dL_law_314 (by omega) hL ?_
  refine u_aload_n C (n := 3) dL_law_315 rfl ?_
  refine u_callHm (na := 5) C hXT hXH hw_L_surge hs_L_surge hi_L ⟨by decide, by decide, by decide +kernel⟩ dL_law_316 ml_RL_103 (As := [.ref (gP G X), .int (xs (i + 1)), .int (xs (i + 2)), .int (xs (i + 3)), .ref (gP G O)]) hH1 ⟨by omega, by omega⟩ rfl rfl (Nat.le_of_ble_eq_true rfl) hcs (fun r5 M2 hr5 => ?_)
  obtain ⟨pR, hR1, hR2⟩ := hH2 r5 M2 hr5
  refine u_istore C1 (i := 5) dL_law_319 (by decide) ?_
  refine u_aload_n C1 (n := 2) dL_law_321 rfl ?_
  refine u_aload_n C1 (n := 0) dL_law_322 rfl ?_
  refine u_iload C1 (i := 4) dL_law_323 rfl ?_
  refine u_iconst C1 dL_law_325 (v := nI 1) rfl ?_
  refine u_iadd C1 dL_law_326 ?_
  rw [nI_ad]
  refine u_sld C1 hsc hbl hbA dL_law_327 (by omega) hL ?_
  refine u_aload_n C1 (n := 0) dL_law_328 rfl ?_
  refine u_iload C1 (i := 4) dL_law_329 rfl ?_
  refine u_iconst C1 dL_law_331 (v := nI 2) rfl ?_
  refine u_iadd C1 dL_law_332 ?_
  rw [nI_ad]
  refine u_sld C1 hsc hbl hbA dL_law_333 (by omega) hL ?_
  refine u_aload_n C1 (n := 0) dL_law_334 rfl ?_
  refine u_iload C1 (i := 4) dL_law_335 rfl ?_
  refine u_iconst C1 dL_law_337 (v := nI 3) rfl ?_
  refine u_iadd C1 dL_law_338 ?_
  rw [nI_ad]
  refine u_sld C1 hsc hbl hbA dL_law_339 (by omega) hL ?_
  refine u_calliV C1 ev_X11_surge dL_law_340 ml_RL_106 hY rfl (by decide) (As := [.int (xs (i + 1)), .int (xs (i + 2)), .int (xs (i + 3))]) hR1 ⟨by omega, by omega⟩ rfl rfl (Nat.le_of_ble_eq_true rfl) (fun r6 M3 hr6 => ?_)
  obtain ⟨pT, hT1, hT2⟩ := hR2 r6 M3 hr6
  refine u_istore C1 (i := 6) dL_law_343 (by decide) ?_
  refine u_aload_n C1 (n := 2) dL_law_345 rfl ?_
  refine u_calliV C1 ev_X11_thrown dL_law_346 ml_RL_95 hY rfl (by decide) (As := []) hT1 ⟨by omega, by omega⟩ rfl rfl (Nat.le_of_ble_eq_true rfl) (fun r7 M4 hr7 => ?_)
  obtain ⟨he, hv, hI2⟩ := hT2 r7 M4 hr7
  refine u_iload C1 (i := 5) dL_law_349 rfl ?_
  refine u_icmp_eq C1 dL_law_351 (tgt := 356) (by decide) (fun _ => ?_) (fun h => absurd he h)
  refine u_iload C1 (i := 5) dL_law_356 rfl ?_
  have hend : ∀ (lv : List (Nat × Value)), lv_re lv [0, 1, 2, 3, 4] = law_lv b G X Y O i → u_S p l e R s m args below meth c 8 D A H0 (cells + 1) (slots + 6) Q 373 lv [] G M4 := fun lv hlv => u_goto C1 dL_law_373 (tgt := 1656) (by decide) (u_loc [0, 1, 2, 3, 4] hlv (kk M4 hI2))
  refine u_if_ne C1 dL_law_358 (tgt := 373) (by decide) (fun _ => hend _ rfl) (fun h0 => ?_)
  have hv := hv h0
  refine u_aload_n C1 (n := 3) dL_law_361 rfl ?_
  refine u_iconst C1 dL_law_362 (v := nI 0) rfl ?_
  refine u_laldN C1 dL_law_363 (i := 0) hO.1 hO.2 (by decide) (by decide) ?_
  refine u_iload C1 (i := 6) dL_law_364 rfl ?_
  refine u_i2l C1 dL_law_366 ?_
  refine u_lcmp C1 dL_law_367 ?_
  exact u_if_eq C1 dL_law_368 (tgt := 373) (by decide) (fun _ => hend _ rfl) (fun h => absurd (lg_c9 hv) h)
def H_river (l : Launch) (D : va_G) (G : w_G) (X Y O : Nat) (Inv : Nat → w_M → Prop) : Prop := ∀ (t : Nat) (M : w_M) (a1 : Int32) (a2 : Int32), t < 512 → Inv t M → ∃ pH, u_Hm l D G yL_river cL_river 5 [(0, 10, 13, 13)] 7 144 [.ref (gP G X), .int a1, .int a2, .ref (gP G O)] M pH ∧ ∀ r5 M2, pH r5 M2 → ∃ pR, u_Mi l D G yX11_river cX11_river 4 (some .int) 1 22 [.ref (gP G Y), .int a1, .int a2] M2 pR ∧ ∀ r6 M3, pR r6 M3 → ∃ pT, u_Mi l D G yX11_thrown cX11_thrown 1 (some .int) 0 0 [.ref (gP G Y)] M3 pT ∧ ∀ r7 M4, pT r7 M4 → r7 = r5 ∧ (r5 = 0 → jv M4 O 0 = r6.toInt64) ∧ Inv (t + 1) M4
theorem law_river (C : u_C p R s m args c cL_law RL 8 D A H0 cells slots G) (C1 : u_C p R s m args c cL_law RL 8 D A H0 (cells + 1) (slots + 6) G) (hXT : u_XT s) (hXH : u_XH A s H0) (hsc : va_X b L xs s H0) (hbl : b < H0.size) (hbA : ¬ A b) (hL : L < 10000) (hi : i + 6 ≤ L) (ht : t < 512) (hI : Inv t M) (hX : u_is G X 10) (hY : u_is G Y 11) (hO : L_j1 G O) (hR : 8 ≤ R.frames ∧ 300 ≤ R.locals) (hH : H_river l D G X Y O Inv) (kk : law_kk p l e R s m args below meth c D A H0 cells slots Q b G X Y O i t Inv) (hcs : cells + 1 ≤ R.cells ∧ slots + 6 ≤ R.slots) : u_S p l e R s m args below meth c 8 D A H0 cells slots Q 376 (law_lv b G X Y O i) [] G M := by
  obtain ⟨pH, hH1, hH2⟩ := hH t M (xs (i + 1)) (xs (i + 2)) ht hI
  refine u_aload_n C (n := 1) dL_law_376 rfl ?_
  refine u_aload_n C (n := 0) dL_law_377 rfl ?_
  refine u_iload C (i := 4) dL_law_378 rfl ?_
  refine u_iconst C dL_law_380 (v := nI 1) rfl ?_
  refine u_iadd C dL_law_381 ?_
  rw [nI_ad]
  refine u_sld C hsc hbl hbA dL_law_382 (by omega) hL ?_
  refine u_aload_n C (n := 0) dL_law_383 rfl ?_
  refine u_iload C (i := 4) dL_law_384 rfl ?_
  refine u_iconst C dL_law_386 (v := nI 2) rfl ?_
  refine u_iadd C dL_law_387 ?_
  rw [nI_ad]
  refine u_sld C hsc hbl hbA dL_law_388 (by omega) hL ?_
  refine u_aload_n C (n := 3) dL_law_389 rfl ?_
  refine u_callHm (na := 4) C hXT hXH hw_L_river hs_L_river hi_L ⟨by decide, by decide, by decide +kernel⟩ dL_law_390 ml_RL_107 (As := [.ref (gP G X), .int (xs (i + 1)), .int (xs (i + 2)), .ref (gP G O)]) hH1 ⟨by omega, by omega⟩ rfl rfl (Nat.le_of_ble_eq_true rfl) hcs (fun r5 M2 hr5 => ?_)
  obtain ⟨pR, hR1, hR2⟩ := hH2 r5 M2 hr5
  refine u_istore C1 (i := 5) dL_law_393 (by decide) ?_
  refine u_aload_n C1 (n := 2) dL_law_395 rfl ?_
  refine u_aload_n C1 (n := 0) dL_law_396 rfl ?_
  refine u_iload C1 (i := 4) dL_law_397 rfl ?_
  refine u_iconst C1 dL_law_399 (v := nI 1) rfl ?_
  refine u_iadd C1 dL_law_400 ?_
  rw [nI_ad]
  refine u_sld C1 hsc hbl hbA dL_law_401 (by omega) hL ?_
  refine u_aload_n C1 (n := 0) dL_law_402 rfl ?_
  refine u_iload C1 (i := 4) dL_law_403 rfl ?_
  refine u_iconst C1 dL_law_405 (v := nI 2) rfl ?_
  refine u_iadd C1 dL_law_406 ?_
  rw [nI_ad]
  refine u_sld C1 hsc hbl hbA dL_law_407 (by omega) hL ?_
  refine u_calliV C1 ev_X11_river dL_law_408 ml_RL_110 hY rfl (by decide) (As := [.int (xs (i + 1)), .int (xs (i + 2))]) hR1 ⟨by omega, by omega⟩ rfl rfl (Nat.le_of_ble_eq_true rfl) (fun r6 M3 hr6 => ?_)
  obtain ⟨pT, hT1, hT2⟩ := hR2 r6 M3 hr6
  refine u_istore C1 (i := 6) dL_law_411 (by decide) ?_
  refine u_aload_n C1 (n := 2) dL_law_413 rfl ?_
  refine u_calliV C1 ev_X11_thrown dL_law_414 ml_RL_95 hY rfl (by decide) (As := []) hT1 ⟨by omega, by omega⟩ rfl rfl (Nat.le_of_ble_eq_true rfl) (fun r7 M4 hr7 => ?_)
  obtain ⟨he, hv, hI2⟩ := hT2 r7 M4 hr7
  refine u_iload C1 (i := 5) dL_law_417 rfl ?_
  refine u_icmp_eq C1 dL_law_419 (tgt := 424) (by decide) (fun _ => ?_) (fun h => absurd he h)
  refine u_iload C1 (i := 5) dL_law_424 rfl ?_
  have hend : ∀ (lv : List (Nat × Value)), lv_re lv [0, 1, 2, 3, 4] = law_lv b G X Y O i → u_S p l e R s m args below meth c 8 D A H0 (cells + 1) (slots + 6) Q 441 lv [] G M4 := fun lv hlv => u_goto C1 dL_law_441 (tgt := 1656) (by decide) (u_loc [0, 1, 2, 3, 4] hlv (kk M4 hI2))
  refine u_if_ne C1 dL_law_426 (tgt := 441) (by decide) (fun _ => hend _ rfl) (fun h0 => ?_)
  have hv := hv h0
  refine u_aload_n C1 (n := 3) dL_law_429 rfl ?_
  refine u_iconst C1 dL_law_430 (v := nI 0) rfl ?_
  refine u_laldN C1 dL_law_431 (i := 0) hO.1 hO.2 (by decide) (by decide) ?_
  refine u_iload C1 (i := 6) dL_law_432 rfl ?_
  refine u_i2l C1 dL_law_434 ?_
  refine u_lcmp C1 dL_law_435 ?_
  exact u_if_eq C1 dL_law_436 (tgt := 441) (by decide) (fun _ => hend _ rfl) (fun h => absurd (lg_c9 hv) h)
def H_barrier (l : Launch) (D : va_G) (G : w_G) (X Y O : Nat) (Inv : Nat → w_M → Prop) : Prop := ∀ (t : Nat) (M : w_M) (a1 : Int32) (a2 : Int32), t < 512 → Inv t M → ∃ pH, u_Hm l D G yL_barrier cL_barrier 5 [(0, 10, 13, 13)] 7 144 [.ref (gP G X), .int a1, .int a2, .ref (gP G O)] M pH ∧ ∀ r5 M2, pH r5 M2 → ∃ pR, u_Mi l D G yX11_barrier cX11_barrier 4 (some .int) 1 22 [.ref (gP G Y), .int a1, .int a2] M2 pR ∧ ∀ r6 M3, pR r6 M3 → ∃ pT, u_Mi l D G yX11_thrown cX11_thrown 1 (some .int) 0 0 [.ref (gP G Y)] M3 pT ∧ ∀ r7 M4, pT r7 M4 → r7 = r5 ∧ (r5 = 0 → jv M4 O 0 = r6.toInt64) ∧ Inv (t + 1) M4
theorem law_barrier (C : u_C p R s m args c cL_law RL 8 D A H0 cells slots G) (C1 : u_C p R s m args c cL_law RL 8 D A H0 (cells + 1) (slots + 6) G) (hXT : u_XT s) (hXH : u_XH A s H0) (hsc : va_X b L xs s H0) (hbl : b < H0.size) (hbA : ¬ A b) (hL : L < 10000) (hi : i + 6 ≤ L) (ht : t < 512) (hI : Inv t M) (hX : u_is G X 10) (hY : u_is G Y 11) (hO : L_j1 G O) (hR : 8 ≤ R.frames ∧ 300 ≤ R.locals) (hH : H_barrier l D G X Y O Inv) (kk : law_kk p l e R s m args below meth c D A H0 cells slots Q b G X Y O i t Inv) (hcs : cells + 1 ≤ R.cells ∧ slots + 6 ≤ R.slots) : u_S p l e R s m args below meth c 8 D A H0 cells slots Q 444 (law_lv b G X Y O i) [] G M := by
  obtain ⟨pH, hH1, hH2⟩ := hH t M (xs (i + 1)) (xs (i + 2)) ht hI
  refine u_aload_n C (n := 1) dL_law_444 rfl ?_
  refine u_aload_n C (n := 0) dL_law_445 rfl ?_
  refine u_iload C (i := 4) dL_law_446 rfl ?_
  refine u_iconst C dL_law_448 (v := nI 1) rfl ?_
  refine u_iadd C dL_law_449 ?_
  rw [nI_ad]
  refine u_sld C hsc hbl hbA dL_law_450 (by omega) hL ?_
  refine u_aload_n C (n := 0) dL_law_451 rfl ?_
  refine u_iload C (i := 4) dL_law_452 rfl ?_
  refine u_iconst C dL_law_454 (v := nI 2) rfl ?_
  refine u_iadd C dL_law_455 ?_
  rw [nI_ad]
  refine u_sld C hsc hbl hbA dL_law_456 (by omega) hL ?_
  refine u_aload_n C (n := 3) dL_law_457 rfl ?_
  refine u_callHm (na := 4) C hXT hXH hw_L_barrier hs_L_barrier hi_L ⟨by decide, by decide, by decide +kernel⟩ dL_law_458 ml_RL_111 (As := [.ref (gP G X), .int (xs (i + 1)), .int (xs (i + 2)), .ref (gP G O)]) hH1 ⟨by omega, by omega⟩ rfl rfl (Nat.le_of_ble_eq_true rfl) hcs (fun r5 M2 hr5 => ?_)
  obtain ⟨pR, hR1, hR2⟩ := hH2 r5 M2 hr5
  refine u_istore C1 (i := 5) dL_law_461 (by decide) ?_
  refine u_aload_n C1 (n := 2) dL_law_463 rfl ?_
  refine u_aload_n C1 (n := 0) dL_law_464 rfl ?_
  refine u_iload C1 (i := 4) dL_law_465 rfl ?_
  refine u_iconst C1 dL_law_467 (v := nI 1) rfl ?_
  refine u_iadd C1 dL_law_468 ?_
  rw [nI_ad]
  refine u_sld C1 hsc hbl hbA dL_law_469 (by omega) hL ?_
  refine u_aload_n C1 (n := 0) dL_law_470 rfl ?_
  refine u_iload C1 (i := 4) dL_law_471 rfl ?_
  refine u_iconst C1 dL_law_473 (v := nI 2) rfl ?_
  refine u_iadd C1 dL_law_474 ?_
  rw [nI_ad]
  refine u_sld C1 hsc hbl hbA dL_law_475 (by omega) hL ?_
  refine u_calliV C1 ev_X11_barrier dL_law_476 ml_RL_113 hY rfl (by decide) (As := [.int (xs (i + 1)), .int (xs (i + 2))]) hR1 ⟨by omega, by omega⟩ rfl rfl (Nat.le_of_ble_eq_true rfl) (fun r6 M3 hr6 => ?_)
  obtain ⟨pT, hT1, hT2⟩ := hR2 r6 M3 hr6
  refine u_istore C1 (i := 6) dL_law_479 (by decide) ?_
  refine u_aload_n C1 (n := 2) dL_law_481 rfl ?_
  refine u_calliV C1 ev_X11_thrown dL_law_482 ml_RL_95 hY rfl (by decide) (As := []) hT1 ⟨by omega, by omega⟩ rfl rfl (Nat.le_of_ble_eq_true rfl) (fun r7 M4 hr7 => ?_)
  obtain ⟨he, hv, hI2⟩ := hT2 r7 M4 hr7
  refine u_iload C1 (i := 5) dL_law_485 rfl ?_
  refine u_icmp_eq C1 dL_law_487 (tgt := 492) (by decide) (fun _ => ?_) (fun h => absurd he h)
  refine u_iload C1 (i := 5) dL_law_492 rfl ?_
  have hend : ∀ (lv : List (Nat × Value)), lv_re lv [0, 1, 2, 3, 4] = law_lv b G X Y O i → u_S p l e R s m args below meth c 8 D A H0 (cells + 1) (slots + 6) Q 509 lv [] G M4 := fun lv hlv => u_goto C1 dL_law_509 (tgt := 1656) (by decide) (u_loc [0, 1, 2, 3, 4] hlv (kk M4 hI2))
  refine u_if_ne C1 dL_law_494 (tgt := 509) (by decide) (fun _ => hend _ rfl) (fun h0 => ?_)
  have hv := hv h0
  refine u_aload_n C1 (n := 3) dL_law_497 rfl ?_
  refine u_iconst C1 dL_law_498 (v := nI 0) rfl ?_
  refine u_laldN C1 dL_law_499 (i := 0) hO.1 hO.2 (by decide) (by decide) ?_
  refine u_iload C1 (i := 6) dL_law_500 rfl ?_
  refine u_i2l C1 dL_law_502 ?_
  refine u_lcmp C1 dL_law_503 ?_
  exact u_if_eq C1 dL_law_504 (tgt := 509) (by decide) (fun _ => hend _ rfl) (fun h => absurd (lg_c9 hv) h)
def H_section (l : Launch) (D : va_G) (G : w_G) (X Y O : Nat) (Inv : Nat → w_M → Prop) : Prop := ∀ (t : Nat) (M : w_M) (a1 : Int32) (a2 : Int32) (a3 : Int32) (a4 : Int32), t < 512 → Inv t M → ∃ pH, u_Hm l D G yL_section cL_section 7 [(0, 14, 17, 13), (0, 14, 21, 15)] 7 146 [.ref (gP G X), .int a1, .int a2, .int a3, .int a4, .ref (gP G O)] M pH ∧ ∀ r5 M2, pH r5 M2 → ∃ pR, u_Mi l D G yX11_section cX11_section 6 (some .int) 1 22 [.ref (gP G Y), .int a1, .int a2, .int a3, .int a4] M2 pR ∧ ∀ r6 M3, pR r6 M3 → ∃ pT, u_Mi l D G yX11_thrown cX11_thrown 1 (some .int) 0 0 [.ref (gP G Y)] M3 pT ∧ ∀ r7 M4, pT r7 M4 → r7 = r5 ∧ (r5 = 0 → jv M4 O 0 = r6.toInt64) ∧ Inv (t + 1) M4
theorem law_section (C : u_C p R s m args c cL_law RL 8 D A H0 cells slots G) (C1 : u_C p R s m args c cL_law RL 8 D A H0 (cells + 1) (slots + 6) G) (hXT : u_XT s) (hXH : u_XH A s H0) (hsc : va_X b L xs s H0) (hbl : b < H0.size) (hbA : ¬ A b) (hL : L < 10000) (hi : i + 6 ≤ L) (ht : t < 512) (hI : Inv t M) (hX : u_is G X 10) (hY : u_is G Y 11) (hO : L_j1 G O) (hR : 8 ≤ R.frames ∧ 300 ≤ R.locals) (hH : H_section l D G X Y O Inv) (kk : law_kk p l e R s m args below meth c D A H0 cells slots Q b G X Y O i t Inv) (hcs : cells + 1 ≤ R.cells ∧ slots + 6 ≤ R.slots) : u_S p l e R s m args below meth c 8 D A H0 cells slots Q 512 (law_lv b G X Y O i) [] G M := by
  obtain ⟨pH, hH1, hH2⟩ := hH t M (xs (i + 1)) (xs (i + 2)) (xs (i + 3)) (xs (i + 4)) ht hI
  refine u_aload_n C (n := 1) dL_law_512 rfl ?_
  refine u_aload_n C (n := 0) dL_law_513 rfl ?_
  refine u_iload C (i := 4) dL_law_514 rfl ?_
  refine u_iconst C dL_law_516 (v := nI 1) rfl ?_
  refine u_iadd C dL_law_517 ?_
  rw [nI_ad]
  refine u_sld C hsc hbl hbA dL_law_518 (by omega) hL ?_
  refine u_aload_n C (n := 0) dL_law_519 rfl ?_
  refine u_iload C (i := 4) dL_law_520 rfl ?_
  refine u_iconst C dL_law_522 (v := nI 2) rfl ?_
  refine u_iadd C dL_law_523 ?_
  rw [nI_ad]
  refine u_sld C hsc hbl hbA dL_law_524 (by omega) hL ?_
  refine u_aload_n C (n := 0) dL_law_525 rfl ?_
  refine u_iload C (i := 4) dL_law_526 rfl ?_
  refine u_iconst C dL_law_528 (v := nI 3) rfl ?_
  refine u_iadd C dL_law_529 ?_
  rw [nI_ad]
  refine u_sld C hsc hbl hbA dL_law_530 (by omega) hL ?_
  refine u_aload_n C (n := 0) dL_law_531 rfl ?_
  refine u_iload C (i := 4) dL_law_532 rfl ?_
  refine u_iconst C dL_law_534 (v := nI 4) rfl ?_
  refine u_iadd C dL_law_535 ?_
  rw [nI_ad]
  refine u_sld C hsc hbl hbA dL_law_536 (by omega) hL ?_
  refine u_aload_n C (n := 3) dL_law_537 rfl ?_
  refine u_callHm (na := 6) C hXT hXH hw_L_section hs_L_section hi_L ⟨by decide, by decide, by decide +kernel⟩ dL_law_538 ml_RL_114 (As := [.ref (gP G X), .int (xs (i + 1)), .int (xs (i + 2)), .int (xs (i + 3)), .int (xs (i + 4)), .ref (gP G O)]) hH1 ⟨by omega, by omega⟩ rfl rfl (Nat.le_of_ble_eq_true rfl) hcs (fun r5 M2 hr5 => ?_)
  obtain ⟨pR, hR1, hR2⟩ := hH2 r5 M2 hr5
  refine u_istore C1 (i := 5) dL_law_541 (by decide) ?_
  refine u_aload_n C1 (n := 2) dL_law_543 rfl ?_
  refine u_aload_n C1 (n := 0) dL_law_544 rfl ?_
  refine u_iload C1 (i := 4) dL_law_545 rfl ?_
  refine u_iconst C1 dL_law_547 (v := nI 1) rfl ?_
  refine u_iadd C1 dL_law_548 ?_
  rw [nI_ad]
  refine u_sld C1 hsc hbl hbA dL_law_549 (by omega) hL ?_
  refine u_aload_n C1 (n := 0) dL_law_550 rfl ?_
  refine u_iload C1 (i := 4) dL_law_551 rfl ?_
  refine u_iconst C1 dL_law_553 (v := nI 2) rfl ?_
  refine u_iadd C1 dL_law_554 ?_
  rw [nI_ad]
  refine u_sld C1 hsc hbl hbA dL_law_555 (by omega) hL ?_
  refine u_aload_n C1 (n := 0) dL_law_556 rfl ?_
  refine u_iload C1 (i := 4) dL_law_557 rfl ?_
  refine u_iconst C1 dL_law_559 (v := nI 3) rfl ?_
  refine u_iadd C1 dL_law_560 ?_
  rw [nI_ad]
  refine u_sld C1 hsc hbl hbA dL_law_561 (by omega) hL ?_
  refine u_aload_n C1 (n := 0) dL_law_562 rfl ?_
  refine u_iload C1 (i := 4) dL_law_563 rfl ?_
  refine u_iconst C1 dL_law_565 (v := nI 4) rfl ?_
  refine u_iadd C1 dL_law_566 ?_
  rw [nI_ad]
  refine u_sld C1 hsc hbl hbA dL_law_567 (by omega) hL ?_
  refine u_calliV C1 ev_X11_section dL_law_568 ml_RL_116 hY rfl (by decide) (As := [.int (xs (i + 1)), .int (xs (i + 2)), .int (xs (i + 3)), .int (xs (i + 4))]) hR1 ⟨by omega, by omega⟩ rfl rfl (Nat.le_of_ble_eq_true rfl) (fun r6 M3 hr6 => ?_)
  obtain ⟨pT, hT1, hT2⟩ := hR2 r6 M3 hr6
  refine u_istore C1 (i := 6) dL_law_571 (by decide) ?_
  refine u_aload_n C1 (n := 2) dL_law_573 rfl ?_
  refine u_calliV C1 ev_X11_thrown dL_law_574 ml_RL_95 hY rfl (by decide) (As := []) hT1 ⟨by omega, by omega⟩ rfl rfl (Nat.le_of_ble_eq_true rfl) (fun r7 M4 hr7 => ?_)
  obtain ⟨he, hv, hI2⟩ := hT2 r7 M4 hr7
  refine u_iload C1 (i := 5) dL_law_577 rfl ?_
  refine u_icmp_eq C1 dL_law_579 (tgt := 584) (by decide) (fun _ => ?_) (fun h => absurd he h)
  refine u_iload C1 (i := 5) dL_law_584 rfl ?_
  have hend : ∀ (lv : List (Nat × Value)), lv_re lv [0, 1, 2, 3, 4] = law_lv b G X Y O i → u_S p l e R s m args below meth c 8 D A H0 (cells + 1) (slots + 6) Q 601 lv [] G M4 := fun lv hlv => u_goto C1 dL_law_601 (tgt := 1656) (by decide) (u_loc [0, 1, 2, 3, 4] hlv (kk M4 hI2))
  refine u_if_ne C1 dL_law_586 (tgt := 601) (by decide) (fun _ => hend _ rfl) (fun h0 => ?_)
  have hv := hv h0
  refine u_aload_n C1 (n := 3) dL_law_589 rfl ?_
  refine u_iconst C1 dL_law_590 (v := nI 0) rfl ?_
  refine u_laldN C1 dL_law_591 (i := 0) hO.1 hO.2 (by decide) (by decide) ?_
  refine u_iload C1 (i := 6) dL_law_592 rfl ?_
  refine u_i2l C1 dL_law_594 ?_
  refine u_lcmp C1 dL_law_595 ?_
  exact u_if_eq C1 dL_law_596 (tgt := 601) (by decide) (fun _ => hend _ rfl) (fun h => absurd (lg_c9 hv) h)
def H_intake (l : Launch) (D : va_G) (G : w_G) (X Y O : Nat) (Inv : Nat → w_M → Prop) : Prop := ∀ (t : Nat) (M : w_M) (a1 : Int32) (a2 : Int32) (a3 : Int32) (a4 : Int32) (a5 : Int32), t < 512 → Inv t M → ∃ pH, u_Hm l D G yL_intake cL_intake 8 [(0, 16, 19, 39), (0, 16, 23, 13), (0, 16, 27, 15)] 7 147 [.ref (gP G X), .int a1, .int a2, .int a3, .int a4, .int a5, .ref (gP G O)] M pH ∧ ∀ r5 M2, pH r5 M2 → ∃ pR, u_Mi l D G yX11_intake cX11_intake 7 (some .int) 2 43 [.ref (gP G Y), .int a1, .int a2, .int a3, .int a4, .int a5] M2 pR ∧ ∀ r6 M3, pR r6 M3 → ∃ pT, u_Mi l D G yX11_thrown cX11_thrown 1 (some .int) 0 0 [.ref (gP G Y)] M3 pT ∧ ∀ r7 M4, pT r7 M4 → r7 = r5 ∧ (r5 = 0 → jv M4 O 0 = r6.toInt64) ∧ Inv (t + 1) M4
theorem law_intake (C : u_C p R s m args c cL_law RL 8 D A H0 cells slots G) (C1 : u_C p R s m args c cL_law RL 8 D A H0 (cells + 1) (slots + 6) G) (hXT : u_XT s) (hXH : u_XH A s H0) (hsc : va_X b L xs s H0) (hbl : b < H0.size) (hbA : ¬ A b) (hL : L < 10000) (hi : i + 6 ≤ L) (ht : t < 512) (hI : Inv t M) (hX : u_is G X 10) (hY : u_is G Y 11) (hO : L_j1 G O) (hR : 8 ≤ R.frames ∧ 300 ≤ R.locals) (hH : H_intake l D G X Y O Inv) (kk : law_kk p l e R s m args below meth c D A H0 cells slots Q b G X Y O i t Inv) (hcs : cells + 1 ≤ R.cells ∧ slots + 6 ≤ R.slots) : u_S p l e R s m args below meth c 8 D A H0 cells slots Q 604 (law_lv b G X Y O i) [] G M := by
  obtain ⟨pH, hH1, hH2⟩ := hH t M (xs (i + 1)) (xs (i + 2)) (xs (i + 3)) (xs (i + 4)) (xs (i + 5)) ht hI
  refine u_aload_n C (n := 1) dL_law_604 rfl ?_
  refine u_aload_n C (n := 0) dL_law_605 rfl ?_
  refine u_iload C (i := 4) dL_law_606 rfl ?_
  refine u_iconst C dL_law_608 (v := nI 1) rfl ?_
  refine u_iadd C dL_law_609 ?_
  rw [nI_ad]
  refine u_sld C hsc hbl hbA dL_law_610 (by omega) hL ?_
  refine u_aload_n C (n := 0) dL_law_611 rfl ?_
  refine u_iload C (i := 4) dL_law_612 rfl ?_
  refine u_iconst C dL_law_614 (v := nI 2) rfl ?_
  refine u_iadd C dL_law_615 ?_
  rw [nI_ad]
  refine u_sld C hsc hbl hbA dL_law_616 (by omega) hL ?_
  refine u_aload_n C (n := 0) dL_law_617 rfl ?_
  refine u_iload C (i := 4) dL_law_618 rfl ?_
  refine u_iconst C dL_law_620 (v := nI 3) rfl ?_
  refine u_iadd C dL_law_621 ?_
  rw [nI_ad]
  refine u_sld C hsc hbl hbA dL_law_622 (by omega) hL ?_
  refine u_aload_n C (n := 0) dL_law_623 rfl ?_
  refine u_iload C (i := 4) dL_law_624 rfl ?_
  refine u_iconst C dL_law_626 (v := nI 4) rfl ?_
  refine u_iadd C dL_law_627 ?_
  rw [nI_ad]
  refine u_sld C hsc hbl hbA dL_law_628 (by omega) hL ?_
  refine u_aload_n C (n := 0) dL_law_629 rfl ?_
  refine u_iload C (i := 4) dL_law_630 rfl ?_
  refine u_iconst C dL_law_632 (v := nI 5) rfl ?_
  refine u_iadd C dL_law_633 ?_
  rw [nI_ad]
  refine u_sld C hsc hbl hbA dL_law_634 (by omega) hL ?_
  refine u_aload_n C (n := 3) dL_law_635 rfl ?_
  refine u_callHm (na := 7) C hXT hXH hw_L_intake hs_L_intake hi_L ⟨by decide, by decide, by decide +kernel⟩ dL_law_636 ml_RL_117 (As := [.ref (gP G X), .int (xs (i + 1)), .int (xs (i + 2)), .int (xs (i + 3)), .int (xs (i + 4)), .int (xs (i + 5)), .ref (gP G O)]) hH1 ⟨by omega, by omega⟩ rfl rfl (Nat.le_of_ble_eq_true rfl) hcs (fun r5 M2 hr5 => ?_)
  obtain ⟨pR, hR1, hR2⟩ := hH2 r5 M2 hr5
  refine u_istore C1 (i := 5) dL_law_639 (by decide) ?_
  refine u_aload_n C1 (n := 2) dL_law_641 rfl ?_
  refine u_aload_n C1 (n := 0) dL_law_642 rfl ?_
  refine u_iload C1 (i := 4) dL_law_643 rfl ?_
  refine u_iconst C1 dL_law_645 (v := nI 1) rfl ?_
  refine u_iadd C1 dL_law_646 ?_
  rw [nI_ad]
  refine u_sld C1 hsc hbl hbA dL_law_647 (by omega) hL ?_
  refine u_aload_n C1 (n := 0) dL_law_648 rfl ?_
  refine u_iload C1 (i := 4) dL_law_649 rfl ?_
  refine u_iconst C1 dL_law_651 (v := nI 2) rfl ?_
  refine u_iadd C1 dL_law_652 ?_
  rw [nI_ad]
  refine u_sld C1 hsc hbl hbA dL_law_653 (by omega) hL ?_
  refine u_aload_n C1 (n := 0) dL_law_654 rfl ?_
  refine u_iload C1 (i := 4) dL_law_655 rfl ?_
  refine u_iconst C1 dL_law_657 (v := nI 3) rfl ?_
  refine u_iadd C1 dL_law_658 ?_
  rw [nI_ad]
  refine u_sld C1 hsc hbl hbA dL_law_659 (by omega) hL ?_
  refine u_aload_n C1 (n := 0) dL_law_660 rfl ?_
  refine u_iload C1 (i := 4) dL_law_661 rfl ?_
  refine u_iconst C1 dL_law_663 (v := nI 4) rfl ?_
  refine u_iadd C1 dL_law_664 ?_
  rw [nI_ad]
  refine u_sld C1 hsc hbl hbA dL_law_665 (by omega) hL ?_
  refine u_aload_n C1 (n := 0) dL_law_666 rfl ?_
  refine u_iload C1 (i := 4) dL_law_667 rfl ?_
  refine u_iconst C1 dL_law_669 (v := nI 5) rfl ?_
  refine u_iadd C1 dL_law_670 ?_
  rw [nI_ad]
  refine u_sld C1 hsc hbl hbA dL_law_671 (by omega) hL ?_
  refine u_calliV C1 ev_X11_intake dL_law_672 ml_RL_120 hY rfl (by decide) (As := [.int (xs (i + 1)), .int (xs (i + 2)), .int (xs (i + 3)), .int (xs (i + 4)), .int (xs (i + 5))]) hR1 ⟨by omega, by omega⟩ rfl rfl (Nat.le_of_ble_eq_true rfl) (fun r6 M3 hr6 => ?_)
  obtain ⟨pT, hT1, hT2⟩ := hR2 r6 M3 hr6
  refine u_istore C1 (i := 6) dL_law_675 (by decide) ?_
  refine u_aload_n C1 (n := 2) dL_law_677 rfl ?_
  refine u_calliV C1 ev_X11_thrown dL_law_678 ml_RL_95 hY rfl (by decide) (As := []) hT1 ⟨by omega, by omega⟩ rfl rfl (Nat.le_of_ble_eq_true rfl) (fun r7 M4 hr7 => ?_)
  obtain ⟨he, hv, hI2⟩ := hT2 r7 M4 hr7
  refine u_iload C1 (i := 5) dL_law_681 rfl ?_
  refine u_icmp_eq C1 dL_law_683 (tgt := 688) (by decide) (fun _ => ?_) (fun h => absurd he h)
  refine u_iload C1 (i := 5) dL_law_688 rfl ?_
  have hend : ∀ (lv : List (Nat × Value)), lv_re lv [0, 1, 2, 3, 4] = law_lv b G X Y O i → u_S p l e R s m args below meth c 8 D A H0 (cells + 1) (slots + 6) Q 705 lv [] G M4 := fun lv hlv => u_goto C1 dL_law_705 (tgt := 1656) (by decide) (u_loc [0, 1, 2, 3, 4] hlv (kk M4 hI2))
  refine u_if_ne C1 dL_law_690 (tgt := 705) (by decide) (fun _ => hend _ rfl) (fun h0 => ?_)
  have hv := hv h0
  refine u_aload_n C1 (n := 3) dL_law_693 rfl ?_
  refine u_iconst C1 dL_law_694 (v := nI 0) rfl ?_
  refine u_laldN C1 dL_law_695 (i := 0) hO.1 hO.2 (by decide) (by decide) ?_
  refine u_iload C1 (i := 6) dL_law_696 rfl ?_
  refine u_i2l C1 dL_law_698 ?_
  refine u_lcmp C1 dL_law_699 ?_
  exact u_if_eq C1 dL_law_700 (tgt := 705) (by decide) (fun _ => hend _ rfl) (fun h => absurd (lg_c9 hv) h)
def H_oysters (l : Launch) (D : va_G) (G : w_G) (X Y O : Nat) (Inv : Nat → w_M → Prop) : Prop := ∀ (t : Nat) (M : w_M) (a1 : Int32) (a2 : Int32) (a3 : Int32), t < 512 → Inv t M → ∃ pH, u_Hm l D G yL_oysters cL_oysters 6 [(0, 12, 15, 39), (0, 12, 19, 13), (0, 12, 23, 15)] 7 114 [.ref (gP G X), .int a1, .int a2, .int a3, .ref (gP G O)] M pH ∧ ∀ r5 M2, pH r5 M2 → ∃ pR, u_Mi l D G yX11_oysters cX11_oysters 5 (some .int) 2 43 [.ref (gP G Y), .int a1, .int a2, .int a3] M2 pR ∧ ∀ r6 M3, pR r6 M3 → ∃ pT, u_Mi l D G yX11_thrown cX11_thrown 1 (some .int) 0 0 [.ref (gP G Y)] M3 pT ∧ ∀ r7 M4, pT r7 M4 → r7 = r5 ∧ (r5 = 0 → jv M4 O 0 = r6.toInt64) ∧ Inv (t + 1) M4
theorem law_oysters (C : u_C p R s m args c cL_law RL 8 D A H0 cells slots G) (C1 : u_C p R s m args c cL_law RL 8 D A H0 (cells + 1) (slots + 6) G) (hXT : u_XT s) (hXH : u_XH A s H0) (hsc : va_X b L xs s H0) (hbl : b < H0.size) (hbA : ¬ A b) (hL : L < 10000) (hi : i + 6 ≤ L) (ht : t < 512) (hI : Inv t M) (hX : u_is G X 10) (hY : u_is G Y 11) (hO : L_j1 G O) (hR : 8 ≤ R.frames ∧ 300 ≤ R.locals) (hH : H_oysters l D G X Y O Inv) (kk : law_kk p l e R s m args below meth c D A H0 cells slots Q b G X Y O i t Inv) (hcs : cells + 1 ≤ R.cells ∧ slots + 6 ≤ R.slots) : u_S p l e R s m args below meth c 8 D A H0 cells slots Q 708 (law_lv b G X Y O i) [] G M := by
  obtain ⟨pH, hH1, hH2⟩ := hH t M (xs (i + 1)) (xs (i + 2)) (xs (i + 3)) ht hI
  refine u_aload_n C (n := 1) dL_law_708 rfl ?_
  refine u_aload_n C (n := 0) dL_law_709 rfl ?_
  refine u_iload C (i := 4) dL_law_710 rfl ?_
  refine u_iconst C dL_law_712 (v := nI 1) rfl ?_
  refine u_iadd C dL_law_713 ?_
  rw [nI_ad]
  refine u_sld C hsc hbl hbA dL_law_714 (by omega) hL ?_
  refine u_aload_n C (n := 0) dL_law_715 rfl ?_
  refine u_iload C (i := 4) dL_law_716 rfl ?_
  refine u_iconst C dL_law_718 (v := nI 2) rfl ?_
  refine u_iadd C dL_law_719 ?_
  rw [nI_ad]
  refine u_sld C hsc hbl hbA dL_law_720 (by omega) hL ?_
  refine u_aload_n C (n := 0) dL_law_721 rfl ?_
  refine u_iload C (i := 4) dL_law_722 rfl ?_
  refine u_iconst C dL_law_724 (v := nI 3) rfl ?_
  refine u_iadd C dL_law_725 ?_
  rw [nI_ad]
  refine u_sld C hsc hbl hbA dL_law_726 (by omega) hL ?_
  refine u_aload_n C (n := 3) dL_law_727 rfl ?_
  refine u_callHm (na := 5) C hXT hXH hw_L_oysters hs_L_oysters hi_L ⟨by decide, by decide, by decide +kernel⟩ dL_law_728 ml_RL_121 (As := [.ref (gP G X), .int (xs (i + 1)), .int (xs (i + 2)), .int (xs (i + 3)), .ref (gP G O)]) hH1 ⟨by omega, by omega⟩ rfl rfl (Nat.le_of_ble_eq_true rfl) hcs (fun r5 M2 hr5 => ?_)
  obtain ⟨pR, hR1, hR2⟩ := hH2 r5 M2 hr5
  refine u_istore C1 (i := 5) dL_law_731 (by decide) ?_
  refine u_aload_n C1 (n := 2) dL_law_733 rfl ?_
  refine u_aload_n C1 (n := 0) dL_law_734 rfl ?_
  refine u_iload C1 (i := 4) dL_law_735 rfl ?_
  refine u_iconst C1 dL_law_737 (v := nI 1) rfl ?_
  refine u_iadd C1 dL_law_738 ?_
  rw [nI_ad]
  refine u_sld C1 hsc hbl hbA dL_law_739 (by omega) hL ?_
  refine u_aload_n C1 (n := 0) dL_law_740 rfl ?_
  refine u_iload C1 (i := 4) dL_law_741 rfl ?_
  refine u_iconst C1 dL_law_743 (v := nI 2) rfl ?_
  refine u_iadd C1 dL_law_744 ?_
  rw [nI_ad]
  refine u_sld C1 hsc hbl hbA dL_law_745 (by omega) hL ?_
  refine u_aload_n C1 (n := 0) dL_law_746 rfl ?_
  refine u_iload C1 (i := 4) dL_law_747 rfl ?_
  refine u_iconst C1 dL_law_749 (v := nI 3) rfl ?_
  refine u_iadd C1 dL_law_750 ?_
  rw [nI_ad]
  refine u_sld C1 hsc hbl hbA dL_law_751 (by omega) hL ?_
  refine u_calliV C1 ev_X11_oysters dL_law_752 ml_RL_123 hY rfl (by decide) (As := [.int (xs (i + 1)), .int (xs (i + 2)), .int (xs (i + 3))]) hR1 ⟨by omega, by omega⟩ rfl rfl (Nat.le_of_ble_eq_true rfl) (fun r6 M3 hr6 => ?_)
  obtain ⟨pT, hT1, hT2⟩ := hR2 r6 M3 hr6
  refine u_istore C1 (i := 6) dL_law_755 (by decide) ?_
  refine u_aload_n C1 (n := 2) dL_law_757 rfl ?_
  refine u_calliV C1 ev_X11_thrown dL_law_758 ml_RL_95 hY rfl (by decide) (As := []) hT1 ⟨by omega, by omega⟩ rfl rfl (Nat.le_of_ble_eq_true rfl) (fun r7 M4 hr7 => ?_)
  obtain ⟨he, hv, hI2⟩ := hT2 r7 M4 hr7
  refine u_iload C1 (i := 5) dL_law_761 rfl ?_
  refine u_icmp_eq C1 dL_law_763 (tgt := 768) (by decide) (fun _ => ?_) (fun h => absurd he h)
  refine u_iload C1 (i := 5) dL_law_768 rfl ?_
  have hend : ∀ (lv : List (Nat × Value)), lv_re lv [0, 1, 2, 3, 4] = law_lv b G X Y O i → u_S p l e R s m args below meth c 8 D A H0 (cells + 1) (slots + 6) Q 785 lv [] G M4 := fun lv hlv => u_goto C1 dL_law_785 (tgt := 1656) (by decide) (u_loc [0, 1, 2, 3, 4] hlv (kk M4 hI2))
  refine u_if_ne C1 dL_law_770 (tgt := 785) (by decide) (fun _ => hend _ rfl) (fun h0 => ?_)
  have hv := hv h0
  refine u_aload_n C1 (n := 3) dL_law_773 rfl ?_
  refine u_iconst C1 dL_law_774 (v := nI 0) rfl ?_
  refine u_laldN C1 dL_law_775 (i := 0) hO.1 hO.2 (by decide) (by decide) ?_
  refine u_iload C1 (i := 6) dL_law_776 rfl ?_
  refine u_i2l C1 dL_law_778 ?_
  refine u_lcmp C1 dL_law_779 ?_
  exact u_if_eq C1 dL_law_780 (tgt := 785) (by decide) (fun _ => hend _ rfl) (fun h => absurd (lg_c9 hv) h)
def H_permit (l : Launch) (D : va_G) (G : w_G) (X Y O : Nat) (Inv : Nat → w_M → Prop) : Prop := ∀ (t : Nat) (M : w_M) (a1 : Int32) (a2 : Int32), t < 512 → Inv t M → ∃ pH, u_Hm l D G yL_permit cL_permit 5 [(0, 10, 13, 39), (0, 10, 17, 13)] 7 144 [.ref (gP G X), .int a1, .int a2, .ref (gP G O)] M pH ∧ ∀ r5 M2, pH r5 M2 → ∃ pR, u_Mi l D G yX11_permit cX11_permit 4 (some .int) 2 43 [.ref (gP G Y), .int a1, .int a2] M2 pR ∧ ∀ r6 M3, pR r6 M3 → ∃ pT, u_Mi l D G yX11_thrown cX11_thrown 1 (some .int) 0 0 [.ref (gP G Y)] M3 pT ∧ ∀ r7 M4, pT r7 M4 → r7 = r5 ∧ (r5 = 0 → jv M4 O 0 = r6.toInt64) ∧ Inv (t + 1) M4
theorem law_permit (C : u_C p R s m args c cL_law RL 8 D A H0 cells slots G) (C1 : u_C p R s m args c cL_law RL 8 D A H0 (cells + 1) (slots + 6) G) (hXT : u_XT s) (hXH : u_XH A s H0) (hsc : va_X b L xs s H0) (hbl : b < H0.size) (hbA : ¬ A b) (hL : L < 10000) (hi : i + 6 ≤ L) (ht : t < 512) (hI : Inv t M) (hX : u_is G X 10) (hY : u_is G Y 11) (hO : L_j1 G O) (hR : 8 ≤ R.frames ∧ 300 ≤ R.locals) (hH : H_permit l D G X Y O Inv) (kk : law_kk p l e R s m args below meth c D A H0 cells slots Q b G X Y O i t Inv) (hcs : cells + 1 ≤ R.cells ∧ slots + 6 ≤ R.slots) : u_S p l e R s m args below meth c 8 D A H0 cells slots Q 788 (law_lv b G X Y O i) [] G M := by
  obtain ⟨pH, hH1, hH2⟩ := hH t M (xs (i + 1)) (xs (i + 2)) ht hI
  refine u_aload_n C (n := 1) dL_law_788 rfl ?_
  refine u_aload_n C (n := 0) dL_law_789 rfl ?_
  refine u_iload C (i := 4) dL_law_790 rfl ?_
  refine u_iconst C dL_law_792 (v := nI 1) rfl ?_
  refine u_iadd C dL_law_793 ?_
  rw [nI_ad]
  refine u_sld C hsc hbl hbA dL_law_794 (by omega) hL ?_
  refine u_aload_n C (n := 0) dL_law_795 rfl ?_
  refine u_iload C (i := 4) dL_law_796 rfl ?_
  refine u_iconst C dL_law_798 (v := nI 2) rfl ?_
  refine u_iadd C dL_law_799 ?_
  rw [nI_ad]
  refine u_sld C hsc hbl hbA dL_law_800 (by omega) hL ?_
  refine u_aload_n C (n := 3) dL_law_801 rfl ?_
  refine u_callHm (na := 4) C hXT hXH hw_L_permit hs_L_permit hi_L ⟨by decide, by decide, by decide +kernel⟩ dL_law_802 ml_RL_124 (As := [.ref (gP G X), .int (xs (i + 1)), .int (xs (i + 2)), .ref (gP G O)]) hH1 ⟨by omega, by omega⟩ rfl rfl (Nat.le_of_ble_eq_true rfl) hcs (fun r5 M2 hr5 => ?_)
  obtain ⟨pR, hR1, hR2⟩ := hH2 r5 M2 hr5
  refine u_istore C1 (i := 5) dL_law_805 (by decide) ?_
  refine u_aload_n C1 (n := 2) dL_law_807 rfl ?_
  refine u_aload_n C1 (n := 0) dL_law_808 rfl ?_
  refine u_iload C1 (i := 4) dL_law_809 rfl ?_
  refine u_iconst C1 dL_law_811 (v := nI 1) rfl ?_
  refine u_iadd C1 dL_law_812 ?_
  rw [nI_ad]
  refine u_sld C1 hsc hbl hbA dL_law_813 (by omega) hL ?_
  refine u_aload_n C1 (n := 0) dL_law_814 rfl ?_
  refine u_iload C1 (i := 4) dL_law_815 rfl ?_
  refine u_iconst C1 dL_law_817 (v := nI 2) rfl ?_
  refine u_iadd C1 dL_law_818 ?_
  rw [nI_ad]
  refine u_sld C1 hsc hbl hbA dL_law_819 (by omega) hL ?_
  refine u_calliV C1 ev_X11_permit dL_law_820 ml_RL_126 hY rfl (by decide) (As := [.int (xs (i + 1)), .int (xs (i + 2))]) hR1 ⟨by omega, by omega⟩ rfl rfl (Nat.le_of_ble_eq_true rfl) (fun r6 M3 hr6 => ?_)
  obtain ⟨pT, hT1, hT2⟩ := hR2 r6 M3 hr6
  refine u_istore C1 (i := 6) dL_law_823 (by decide) ?_
  refine u_aload_n C1 (n := 2) dL_law_825 rfl ?_
  refine u_calliV C1 ev_X11_thrown dL_law_826 ml_RL_95 hY rfl (by decide) (As := []) hT1 ⟨by omega, by omega⟩ rfl rfl (Nat.le_of_ble_eq_true rfl) (fun r7 M4 hr7 => ?_)
  obtain ⟨he, hv, hI2⟩ := hT2 r7 M4 hr7
  refine u_iload C1 (i := 5) dL_law_829 rfl ?_
  refine u_icmp_eq C1 dL_law_831 (tgt := 836) (by decide) (fun _ => ?_) (fun h => absurd he h)
  refine u_iload C1 (i := 5) dL_law_836 rfl ?_
  have hend : ∀ (lv : List (Nat × Value)), lv_re lv [0, 1, 2, 3, 4] = law_lv b G X Y O i → u_S p l e R s m args below meth c 8 D A H0 (cells + 1) (slots + 6) Q 853 lv [] G M4 := fun lv hlv => u_goto C1 dL_law_853 (tgt := 1656) (by decide) (u_loc [0, 1, 2, 3, 4] hlv (kk M4 hI2))
  refine u_if_ne C1 dL_law_838 (tgt := 853) (by decide) (fun _ => hend _ rfl) (fun h0 => ?_)
  have hv := hv h0
  refine u_aload_n C1 (n := 3) dL_law_841 rfl ?_
  refine u_iconst C1 dL_law_842 (v := nI 0) rfl ?_
  refine u_laldN C1 dL_law_843 (i := 0) hO.1 hO.2 (by decide) (by decide) ?_
  refine u_iload C1 (i := 6) dL_law_844 rfl ?_
  refine u_i2l C1 dL_law_846 ?_
  refine u_lcmp C1 dL_law_847 ?_
  exact u_if_eq C1 dL_law_848 (tgt := 853) (by decide) (fun _ => hend _ rfl) (fun h => absurd (lg_c9 hv) h)
def H_whyNot (l : Launch) (D : va_G) (G : w_G) (X Y O : Nat) (Inv : Nat → w_M → Prop) : Prop := ∀ (t : Nat) (M : w_M) (a1 : Int32) (a2 : Int32), t < 512 → Inv t M → ∃ pH, u_Hm l D G yL_whyNot cL_whyNot 5 [(0, 10, 13, 39), (0, 10, 17, 13)] 7 112 [.ref (gP G X), .int a1, .int a2, .ref (gP G O)] M pH ∧ ∀ r5 M2, pH r5 M2 → ∃ pR, u_Mi l D G yX11_whyNot cX11_whyNot 3 (some .int) 2 43 [.ref (gP G Y), .int a1, .int a2] M2 pR ∧ ∀ r6 M3, pR r6 M3 → ∃ pT, u_Mi l D G yX11_thrown cX11_thrown 1 (some .int) 0 0 [.ref (gP G Y)] M3 pT ∧ ∀ r7 M4, pT r7 M4 → r7 = r5 ∧ (r5 = 0 → jv M4 O 0 = r6.toInt64) ∧ Inv (t + 1) M4
theorem law_whyNot (C : u_C p R s m args c cL_law RL 8 D A H0 cells slots G) (C1 : u_C p R s m args c cL_law RL 8 D A H0 (cells + 1) (slots + 6) G) (hXT : u_XT s) (hXH : u_XH A s H0) (hsc : va_X b L xs s H0) (hbl : b < H0.size) (hbA : ¬ A b) (hL : L < 10000) (hi : i + 6 ≤ L) (ht : t < 512) (hI : Inv t M) (hX : u_is G X 10) (hY : u_is G Y 11) (hO : L_j1 G O) (hR : 8 ≤ R.frames ∧ 300 ≤ R.locals) (hH : H_whyNot l D G X Y O Inv) (kk : law_kk p l e R s m args below meth c D A H0 cells slots Q b G X Y O i t Inv) (hcs : cells + 1 ≤ R.cells ∧ slots + 6 ≤ R.slots) : u_S p l e R s m args below meth c 8 D A H0 cells slots Q 856 (law_lv b G X Y O i) [] G M := by
  obtain ⟨pH, hH1, hH2⟩ := hH t M (xs (i + 1)) (xs (i + 2)) ht hI
  refine u_aload_n C (n := 1) dL_law_856 rfl ?_
  refine u_aload_n C (n := 0) dL_law_857 rfl ?_
  refine u_iload C (i := 4) dL_law_858 rfl ?_
  refine u_iconst C dL_law_860 (v := nI 1) rfl ?_
  refine u_iadd C dL_law_861 ?_
  rw [nI_ad]
  refine u_sld C hsc hbl hbA dL_law_862 (by omega) hL ?_
  refine u_aload_n C (n := 0) dL_law_863 rfl ?_
  refine u_iload C (i := 4) dL_law_864 rfl ?_
  refine u_iconst C dL_law_866 (v := nI 2) rfl ?_
  refine u_iadd C dL_law_867 ?_
  rw [nI_ad]
  refine u_sld C hsc hbl hbA dL_law_868 (by omega) hL ?_
  refine u_aload_n C (n := 3) dL_law_869 rfl ?_
  refine u_callHm (na := 4) C hXT hXH hw_L_whyNot hs_L_whyNot hi_L ⟨by decide, by decide, by decide +kernel⟩ dL_law_870 ml_RL_127 (As := [.ref (gP G X), .int (xs (i + 1)), .int (xs (i + 2)), .ref (gP G O)]) hH1 ⟨by omega, by omega⟩ rfl rfl (Nat.le_of_ble_eq_true rfl) hcs (fun r5 M2 hr5 => ?_)
  obtain ⟨pR, hR1, hR2⟩ := hH2 r5 M2 hr5
  refine u_istore C1 (i := 5) dL_law_873 (by decide) ?_
  refine u_aload_n C1 (n := 2) dL_law_875 rfl ?_
  refine u_aload_n C1 (n := 0) dL_law_876 rfl ?_
  refine u_iload C1 (i := 4) dL_law_877 rfl ?_
  refine u_iconst C1 dL_law_879 (v := nI 1) rfl ?_
  refine u_iadd C1 dL_law_880 ?_
  rw [nI_ad]
  refine u_sld C1 hsc hbl hbA dL_law_881 (by omega) hL ?_
  refine u_aload_n C1 (n := 0) dL_law_882 rfl ?_
  refine u_iload C1 (i := 4) dL_law_883 rfl ?_
  refine u_iconst C1 dL_law_885 (v := nI 2) rfl ?_
  refine u_iadd C1 dL_law_886 ?_
  rw [nI_ad]
  refine u_sld C1 hsc hbl hbA dL_law_887 (by omega) hL ?_
  refine u_calliV C1 ev_X11_whyNot dL_law_888 ml_RL_129 hY rfl (by decide) (As := [.int (xs (i + 1)), .int (xs (i + 2))]) hR1 ⟨by omega, by omega⟩ rfl rfl (Nat.le_of_ble_eq_true rfl) (fun r6 M3 hr6 => ?_)
  obtain ⟨pT, hT1, hT2⟩ := hR2 r6 M3 hr6
  refine u_istore C1 (i := 6) dL_law_891 (by decide) ?_
  refine u_aload_n C1 (n := 2) dL_law_893 rfl ?_
  refine u_calliV C1 ev_X11_thrown dL_law_894 ml_RL_95 hY rfl (by decide) (As := []) hT1 ⟨by omega, by omega⟩ rfl rfl (Nat.le_of_ble_eq_true rfl) (fun r7 M4 hr7 => ?_)
  obtain ⟨he, hv, hI2⟩ := hT2 r7 M4 hr7
  refine u_iload C1 (i := 5) dL_law_897 rfl ?_
  refine u_icmp_eq C1 dL_law_899 (tgt := 904) (by decide) (fun _ => ?_) (fun h => absurd he h)
  refine u_iload C1 (i := 5) dL_law_904 rfl ?_
  have hend : ∀ (lv : List (Nat × Value)), lv_re lv [0, 1, 2, 3, 4] = law_lv b G X Y O i → u_S p l e R s m args below meth c 8 D A H0 (cells + 1) (slots + 6) Q 921 lv [] G M4 := fun lv hlv => u_goto C1 dL_law_921 (tgt := 1656) (by decide) (u_loc [0, 1, 2, 3, 4] hlv (kk M4 hI2))
  refine u_if_ne C1 dL_law_906 (tgt := 921) (by decide) (fun _ => hend _ rfl) (fun h0 => ?_)
  have hv := hv h0
  refine u_aload_n C1 (n := 3) dL_law_909 rfl ?_
  refine u_iconst C1 dL_law_910 (v := nI 0) rfl ?_
  refine u_laldN C1 dL_law_911 (i := 0) hO.1 hO.2 (by decide) (by decide) ?_
  refine u_iload C1 (i := 6) dL_law_912 rfl ?_
  refine u_i2l C1 dL_law_914 ?_
  refine u_lcmp C1 dL_law_915 ?_
  exact u_if_eq C1 dL_law_916 (tgt := 921) (by decide) (fun _ => hend _ rfl) (fun h => absurd (lg_c9 hv) h)
def H_dredge (l : Launch) (D : va_G) (G : w_G) (X Y O : Nat) (Inv : Nat → w_M → Prop) : Prop := ∀ (t : Nat) (M : w_M) (a1 : Int32) (a2 : Int32) (a3 : Int32), t < 512 → Inv t M → ∃ pH, u_Hm l D G yL_dredge cL_dredge 6 [(0, 12, 15, 39), (0, 12, 19, 13), (0, 12, 23, 15)] 7 144 [.ref (gP G X), .int a1, .int a2, .int a3, .ref (gP G O)] M pH ∧ ∀ r5 M2, pH r5 M2 → ∃ pR, u_Mi l D G yX11_dredge cX11_dredge 5 (some .int) 2 43 [.ref (gP G Y), .int a1, .int a2, .int a3] M2 pR ∧ ∀ r6 M3, pR r6 M3 → ∃ pT, u_Mi l D G yX11_thrown cX11_thrown 1 (some .int) 0 0 [.ref (gP G Y)] M3 pT ∧ ∀ r7 M4, pT r7 M4 → r7 = r5 ∧ (r5 = 0 → jv M4 O 0 = r6.toInt64) ∧ Inv (t + 1) M4
theorem law_dredge (C : u_C p R s m args c cL_law RL 8 D A H0 cells slots G) (C1 : u_C p R s m args c cL_law RL 8 D A H0 (cells + 1) (slots + 6) G) (hXT : u_XT s) (hXH : u_XH A s H0) (hsc : va_X b L xs s H0) (hbl : b < H0.size) (hbA : ¬ A b) (hL : L < 10000) (hi : i + 6 ≤ L) (ht : t < 512) (hI : Inv t M) (hX : u_is G X 10) (hY : u_is G Y 11) (hO : L_j1 G O) (hR : 8 ≤ R.frames ∧ 300 ≤ R.locals) (hH : H_dredge l D G X Y O Inv) (kk : law_kk p l e R s m args below meth c D A H0 cells slots Q b G X Y O i t Inv) (hcs : cells + 1 ≤ R.cells ∧ slots + 6 ≤ R.slots) : u_S p l e R s m args below meth c 8 D A H0 cells slots Q 924 (law_lv b G X Y O i) [] G M := by
  obtain ⟨pH, hH1, hH2⟩ := hH t M (xs (i + 1)) (xs (i + 2)) (xs (i + 3)) ht hI
  refine u_aload_n C (n := 1) dL_law_924 rfl ?_
  refine u_aload_n C (n := 0) dL_law_925 rfl ?_
  refine u_iload C (i := 4) dL_law_926 rfl ?_
  refine u_iconst C dL_law_928 (v := nI 1) rfl ?_
  refine u_iadd C dL_law_929 ?_
  rw [nI_ad]
  refine u_sld C hsc hbl hbA dL_law_930 (by omega) hL ?_
  refine u_aload_n C (n := 0) dL_law_931 rfl ?_
  refine u_iload C (i := 4) dL_law_932 rfl ?_
  refine u_iconst C dL_law_934 (v := nI 2) rfl ?_
  refine u_iadd C dL_law_935 ?_
  rw [nI_ad]
  refine u_sld C hsc hbl hbA dL_law_936 (by omega) hL ?_
  refine u_aload_n C (n := 0) dL_law_937 rfl ?_
  refine u_iload C (i := 4) dL_law_938 rfl ?_
  refine u_iconst C dL_law_940 (v := nI 3) rfl ?_
  refine u_iadd C dL_law_941 ?_
  rw [nI_ad]
  refine u_sld C hsc hbl hbA dL_law_942 (by omega) hL ?_
  refine u_aload_n C (n := 3) dL_law_943 rfl ?_
  refine u_callHm (na := 5) C hXT hXH hw_L_dredge hs_L_dredge hi_L ⟨by decide, by decide, by decide +kernel⟩ dL_law_944 ml_RL_130 (As := [.ref (gP G X), .int (xs (i + 1)), .int (xs (i + 2)), .int (xs (i + 3)), .ref (gP G O)]) hH1 ⟨by omega, by omega⟩ rfl rfl (Nat.le_of_ble_eq_true rfl) hcs (fun r5 M2 hr5 => ?_)
  obtain ⟨pR, hR1, hR2⟩ := hH2 r5 M2 hr5
  refine u_istore C1 (i := 5) dL_law_947 (by decide) ?_
  refine u_aload_n C1 (n := 2) dL_law_949 rfl ?_
  refine u_aload_n C1 (n := 0) dL_law_950 rfl ?_
  refine u_iload C1 (i := 4) dL_law_951 rfl ?_
  refine u_iconst C1 dL_law_953 (v := nI 1) rfl ?_
  refine u_iadd C1 dL_law_954 ?_
  rw [nI_ad]
  refine u_sld C1 hsc hbl hbA dL_law_955 (by omega) hL ?_
  refine u_aload_n C1 (n := 0) dL_law_956 rfl ?_
  refine u_iload C1 (i := 4) dL_law_957 rfl ?_
  refine u_iconst C1 dL_law_959 (v := nI 2) rfl ?_
  refine u_iadd C1 dL_law_960 ?_
  rw [nI_ad]
  refine u_sld C1 hsc hbl hbA dL_law_961 (by omega) hL ?_
  refine u_aload_n C1 (n := 0) dL_law_962 rfl ?_
  refine u_iload C1 (i := 4) dL_law_963 rfl ?_
  refine u_iconst C1 dL_law_965 (v := nI 3) rfl ?_
  refine u_iadd C1 dL_law_966 ?_
  rw [nI_ad]
  refine u_sld C1 hsc hbl hbA dL_law_967 (by omega) hL ?_
  refine u_calliV C1 ev_X11_dredge dL_law_968 ml_RL_132 hY rfl (by decide) (As := [.int (xs (i + 1)), .int (xs (i + 2)), .int (xs (i + 3))]) hR1 ⟨by omega, by omega⟩ rfl rfl (Nat.le_of_ble_eq_true rfl) (fun r6 M3 hr6 => ?_)
  obtain ⟨pT, hT1, hT2⟩ := hR2 r6 M3 hr6
  refine u_istore C1 (i := 6) dL_law_971 (by decide) ?_
  refine u_aload_n C1 (n := 2) dL_law_973 rfl ?_
  refine u_calliV C1 ev_X11_thrown dL_law_974 ml_RL_95 hY rfl (by decide) (As := []) hT1 ⟨by omega, by omega⟩ rfl rfl (Nat.le_of_ble_eq_true rfl) (fun r7 M4 hr7 => ?_)
  obtain ⟨he, hv, hI2⟩ := hT2 r7 M4 hr7
  refine u_iload C1 (i := 5) dL_law_977 rfl ?_
  refine u_icmp_eq C1 dL_law_979 (tgt := 984) (by decide) (fun _ => ?_) (fun h => absurd he h)
  refine u_iload C1 (i := 5) dL_law_984 rfl ?_
  have hend : ∀ (lv : List (Nat × Value)), lv_re lv [0, 1, 2, 3, 4] = law_lv b G X Y O i → u_S p l e R s m args below meth c 8 D A H0 (cells + 1) (slots + 6) Q 1001 lv [] G M4 := fun lv hlv => u_goto C1 dL_law_1001 (tgt := 1656) (by decide) (u_loc [0, 1, 2, 3, 4] hlv (kk M4 hI2))
  refine u_if_ne C1 dL_law_986 (tgt := 1001) (by decide) (fun _ => hend _ rfl) (fun h0 => ?_)
  have hv := hv h0
  refine u_aload_n C1 (n := 3) dL_law_989 rfl ?_
  refine u_iconst C1 dL_law_990 (v := nI 0) rfl ?_
  refine u_laldN C1 dL_law_991 (i := 0) hO.1 hO.2 (by decide) (by decide) ?_
  refine u_iload C1 (i := 6) dL_law_992 rfl ?_
  refine u_i2l C1 dL_law_994 ?_
  refine u_lcmp C1 dL_law_995 ?_
  exact u_if_eq C1 dL_law_996 (tgt := 1001) (by decide) (fun _ => hend _ rfl) (fun h => absurd (lg_c9 hv) h)
def H_pass (l : Launch) (D : va_G) (G : w_G) (X Y O : Nat) (Inv : Nat → w_M → Prop) : Prop := ∀ (t : Nat) (M : w_M) (a1 : Int32), t < 512 → Inv t M → ∃ pH, u_Hm l D G yL_pass cL_pass 4 [(0, 9, 12, 13), (0, 9, 15, 15)] 7 160 [.ref (gP G X), .int a1, .ref (gP G O)] M pH ∧ ∀ r5 M2, pH r5 M2 → ∃ pR, u_Mi l D G yX11_pass cX11_pass 3 (some .int) 5 119 [.ref (gP G Y), .int a1] M2 pR ∧ ∀ r6 M3, pR r6 M3 → ∃ pT, u_Mi l D G yX11_thrown cX11_thrown 1 (some .int) 0 0 [.ref (gP G Y)] M3 pT ∧ ∀ r7 M4, pT r7 M4 → r7 = r5 ∧ (r5 = 0 → jv M4 O 0 = r6.toInt64) ∧ Inv (t + 1) M4
theorem law_pass (C : u_C p R s m args c cL_law RL 8 D A H0 cells slots G) (C1 : u_C p R s m args c cL_law RL 8 D A H0 (cells + 1) (slots + 6) G) (hXT : u_XT s) (hXH : u_XH A s H0) (hsc : va_X b L xs s H0) (hbl : b < H0.size) (hbA : ¬ A b) (hL : L < 10000) (hi : i + 6 ≤ L) (ht : t < 512) (hI : Inv t M) (hX : u_is G X 10) (hY : u_is G Y 11) (hO : L_j1 G O) (hR : 8 ≤ R.frames ∧ 300 ≤ R.locals) (hH : H_pass l D G X Y O Inv) (kk : law_kk p l e R s m args below meth c D A H0 cells slots Q b G X Y O i t Inv) (hcs : cells + 1 ≤ R.cells ∧ slots + 6 ≤ R.slots) : u_S p l e R s m args below meth c 8 D A H0 cells slots Q 1004 (law_lv b G X Y O i) [] G M := by
  obtain ⟨pH, hH1, hH2⟩ := hH t M (xs (i + 1)) ht hI
  refine u_aload_n C (n := 1) dL_law_1004 rfl ?_
  refine u_aload_n C (n := 0) dL_law_1005 rfl ?_
  refine u_iload C (i := 4) dL_law_1006 rfl ?_
  refine u_iconst C dL_law_1008 (v := nI 1) rfl ?_
  refine u_iadd C dL_law_1009 ?_
  rw [nI_ad]
  refine u_sld C hsc hbl hbA dL_law_1010 (by omega) hL ?_
  refine u_aload_n C (n := 3) dL_law_1011 rfl ?_
  refine u_callHm (na := 3) C hXT hXH hw_L_pass hs_L_pass hi_L ⟨by decide, by decide, by decide +kernel⟩ dL_law_1012 ml_RL_133 (As := [.ref (gP G X), .int (xs (i + 1)), .ref (gP G O)]) hH1 ⟨by omega, by omega⟩ rfl rfl (Nat.le_of_ble_eq_true rfl) hcs (fun r5 M2 hr5 => ?_)
  obtain ⟨pR, hR1, hR2⟩ := hH2 r5 M2 hr5
  refine u_istore C1 (i := 5) dL_law_1015 (by decide) ?_
  refine u_aload_n C1 (n := 2) dL_law_1017 rfl ?_
  refine u_aload_n C1 (n := 0) dL_law_1018 rfl ?_
  refine u_iload C1 (i := 4) dL_law_1019 rfl ?_
  refine u_iconst C1 dL_law_1021 (v := nI 1) rfl ?_
  refine u_iadd C1 dL_law_1022 ?_
  rw [nI_ad]
  refine u_sld C1 hsc hbl hbA dL_law_1023 (by omega) hL ?_
  refine u_calliV C1 ev_X11_pass dL_law_1024 ml_RL_135 hY rfl (by decide) (As := [.int (xs (i + 1))]) hR1 ⟨by omega, by omega⟩ rfl rfl (Nat.le_of_ble_eq_true rfl) (fun r6 M3 hr6 => ?_)
  obtain ⟨pT, hT1, hT2⟩ := hR2 r6 M3 hr6
  refine u_istore C1 (i := 6) dL_law_1027 (by decide) ?_
  refine u_aload_n C1 (n := 2) dL_law_1029 rfl ?_
  refine u_calliV C1 ev_X11_thrown dL_law_1030 ml_RL_95 hY rfl (by decide) (As := []) hT1 ⟨by omega, by omega⟩ rfl rfl (Nat.le_of_ble_eq_true rfl) (fun r7 M4 hr7 => ?_)
  obtain ⟨he, hv, hI2⟩ := hT2 r7 M4 hr7
  refine u_iload C1 (i := 5) dL_law_1033 rfl ?_
  refine u_icmp_eq C1 dL_law_1035 (tgt := 1040) (by decide) (fun _ => ?_) (fun h => absurd he h)
  refine u_iload C1 (i := 5) dL_law_1040 rfl ?_
  have hend : ∀ (lv : List (Nat × Value)), lv_re lv [0, 1, 2, 3, 4] = law_lv b G X Y O i → u_S p l e R s m args below meth c 8 D A H0 (cells + 1) (slots + 6) Q 1057 lv [] G M4 := fun lv hlv => u_goto C1 dL_law_1057 (tgt := 1656) (by decide) (u_loc [0, 1, 2, 3, 4] hlv (kk M4 hI2))
  refine u_if_ne C1 dL_law_1042 (tgt := 1057) (by decide) (fun _ => hend _ rfl) (fun h0 => ?_)
  have hv := hv h0
  refine u_aload_n C1 (n := 3) dL_law_1045 rfl ?_
  refine u_iconst C1 dL_law_1046 (v := nI 0) rfl ?_
  refine u_laldN C1 dL_law_1047 (i := 0) hO.1 hO.2 (by decide) (by decide) ?_
  refine u_iload C1 (i := 6) dL_law_1048 rfl ?_
  refine u_i2l C1 dL_law_1050 ?_
  refine u_lcmp C1 dL_law_1051 ?_
  exact u_if_eq C1 dL_law_1052 (tgt := 1057) (by decide) (fun _ => hend _ rfl) (fun h => absurd (lg_c9 hv) h)
def H_now (l : Launch) (D : va_G) (G : w_G) (X Y O : Nat) (Inv : Nat → w_M → Prop) : Prop := ∀ (t : Nat) (M : w_M), t < 512 → Inv t M → ∃ pA, u_Mi l D G yX10_now cX10_now 1 (some .int) 0 0 [.ref (gP G X)] M pA ∧ ∀ r M2, pA r M2 → ∃ pB, u_Mi l D G yX11_now cX11_now 1 (some .int) 0 0 [.ref (gP G Y)] M2 pB ∧ ∀ r2 M3, pB r2 M3 → r = r2 ∧ Inv (t + 1) M3
theorem law_now (C : u_C p R s m args c cL_law RL 8 D A H0 cells slots G) (C1 : u_C p R s m args c cL_law RL 8 D A H0 (cells + 1) (slots + 6) G) (hXT : u_XT s) (hXH : u_XH A s H0) (hsc : va_X b L xs s H0) (hbl : b < H0.size) (hbA : ¬ A b) (hL : L < 10000) (hi : i + 6 ≤ L) (ht : t < 512) (hI : Inv t M) (hX : u_is G X 10) (hY : u_is G Y 11) (hO : L_j1 G O) (hR : 8 ≤ R.frames ∧ 300 ≤ R.locals) (hH : H_now l D G X Y O Inv) (kk : law_kk p l e R s m args below meth c D A H0 cells slots Q b G X Y O i t Inv) : u_S p l e R s m args below meth c 8 D A H0 cells slots Q 1060 (law_lv b G X Y O i) [] G M := by
  refine u_W1 ?_
  obtain ⟨pA, hA1, hA2⟩ := hH t M ht hI
  refine u_aload_n C1 (n := 1) dL_law_1060 rfl ?_
  refine u_calliV C1 ev_X10_now dL_law_1061 ml_RL_136 hX rfl (by decide) (As := []) hA1 ⟨by omega, by omega⟩ rfl rfl (Nat.le_of_ble_eq_true rfl) (fun r M2 hr => ?_)
  obtain ⟨pB, hB1, hB2⟩ := hA2 r M2 hr
  refine u_aload_n C1 (n := 2) dL_law_1064 rfl ?_
  refine u_calliV C1 ev_X11_now dL_law_1065 ml_RL_139 hY rfl (by decide) (As := []) hB1 ⟨by omega, by omega⟩ rfl rfl (Nat.le_of_ble_eq_true rfl) (fun r2 M3 hr2 => ?_)
  obtain ⟨he, hI2⟩ := hB2 r2 M3 hr2
  exact u_icmp_eq C1 dL_law_1068 (tgt := 1656) (by decide) (fun _ => kk M3 hI2) (fun h => absurd he h)
def H_sea (l : Launch) (D : va_G) (G : w_G) (X Y O : Nat) (Inv : Nat → w_M → Prop) : Prop := ∀ (t : Nat) (M : w_M) (a1 : Int32), t < 512 → Inv t M → ∃ pH, u_Hm l D G yL_sea cL_sea 4 [(0, 9, 12, 13)] 7 111 [.ref (gP G X), .int a1, .ref (gP G O)] M pH ∧ ∀ r5 M2, pH r5 M2 → ∃ pR, u_Mi l D G yX11_sea cX11_sea 2 (some .int) 2 49 [.ref (gP G Y), .int a1] M2 pR ∧ ∀ r6 M3, pR r6 M3 → ∃ pT, u_Mi l D G yX11_thrown cX11_thrown 1 (some .int) 0 0 [.ref (gP G Y)] M3 pT ∧ ∀ r7 M4, pT r7 M4 → r7 = r5 ∧ (r5 = 0 → jv M4 O 0 = r6.toInt64) ∧ Inv (t + 1) M4
theorem law_sea (C : u_C p R s m args c cL_law RL 8 D A H0 cells slots G) (C1 : u_C p R s m args c cL_law RL 8 D A H0 (cells + 1) (slots + 6) G) (hXT : u_XT s) (hXH : u_XH A s H0) (hsc : va_X b L xs s H0) (hbl : b < H0.size) (hbA : ¬ A b) (hL : L < 10000) (hi : i + 6 ≤ L) (ht : t < 512) (hI : Inv t M) (hX : u_is G X 10) (hY : u_is G Y 11) (hO : L_j1 G O) (hR : 8 ≤ R.frames ∧ 300 ≤ R.locals) (hH : H_sea l D G X Y O Inv) (kk : law_kk p l e R s m args below meth c D A H0 cells slots Q b G X Y O i t Inv) (hcs : cells + 1 ≤ R.cells ∧ slots + 6 ≤ R.slots) : u_S p l e R s m args below meth c 8 D A H0 cells slots Q 1073 (law_lv b G X Y O i) [] G M := by
  obtain ⟨pH, hH1, hH2⟩ := hH t M (xs (i + 1)) ht hI
  refine u_aload_n C (n := 1) dL_law_1073 rfl ?_
  refine u_aload_n C (n := 0) dL_law_1074 rfl ?_
  refine u_iload C (i := 4) dL_law_1075 rfl ?_
  refine u_iconst C dL_law_1077 (v := nI 1) rfl ?_
  refine u_iadd C dL_law_1078 ?_
  rw [nI_ad]
  refine u_sld C hsc hbl hbA dL_law_1079 (by omega) hL ?_
  refine u_aload_n C (n := 3) dL_law_1080 rfl ?_
  refine u_callHm (na := 3) C hXT hXH hw_L_sea hs_L_sea hi_L ⟨by decide, by decide, by decide +kernel⟩ dL_law_1081 ml_RL_140 (As := [.ref (gP G X), .int (xs (i + 1)), .ref (gP G O)]) hH1 ⟨by omega, by omega⟩ rfl rfl (Nat.le_of_ble_eq_true rfl) hcs (fun r5 M2 hr5 => ?_)
  obtain ⟨pR, hR1, hR2⟩ := hH2 r5 M2 hr5
  refine u_istore C1 (i := 5) dL_law_1084 (by decide) ?_
  refine u_aload_n C1 (n := 2) dL_law_1086 rfl ?_
  refine u_aload_n C1 (n := 0) dL_law_1087 rfl ?_
  refine u_iload C1 (i := 4) dL_law_1088 rfl ?_
  refine u_iconst C1 dL_law_1090 (v := nI 1) rfl ?_
  refine u_iadd C1 dL_law_1091 ?_
  rw [nI_ad]
  refine u_sld C1 hsc hbl hbA dL_law_1092 (by omega) hL ?_
  refine u_calliV C1 ev_X11_sea dL_law_1093 ml_RL_142 hY rfl (by decide) (As := [.int (xs (i + 1))]) hR1 ⟨by omega, by omega⟩ rfl rfl (Nat.le_of_ble_eq_true rfl) (fun r6 M3 hr6 => ?_)
  obtain ⟨pT, hT1, hT2⟩ := hR2 r6 M3 hr6
  refine u_istore C1 (i := 6) dL_law_1096 (by decide) ?_
  refine u_aload_n C1 (n := 2) dL_law_1098 rfl ?_
  refine u_calliV C1 ev_X11_thrown dL_law_1099 ml_RL_95 hY rfl (by decide) (As := []) hT1 ⟨by omega, by omega⟩ rfl rfl (Nat.le_of_ble_eq_true rfl) (fun r7 M4 hr7 => ?_)
  obtain ⟨he, hv, hI2⟩ := hT2 r7 M4 hr7
  refine u_iload C1 (i := 5) dL_law_1102 rfl ?_
  refine u_icmp_eq C1 dL_law_1104 (tgt := 1109) (by decide) (fun _ => ?_) (fun h => absurd he h)
  refine u_iload C1 (i := 5) dL_law_1109 rfl ?_
  have hend : ∀ (lv : List (Nat × Value)), lv_re lv [0, 1, 2, 3, 4] = law_lv b G X Y O i → u_S p l e R s m args below meth c 8 D A H0 (cells + 1) (slots + 6) Q 1126 lv [] G M4 := fun lv hlv => u_goto C1 dL_law_1126 (tgt := 1656) (by decide) (u_loc [0, 1, 2, 3, 4] hlv (kk M4 hI2))
  refine u_if_ne C1 dL_law_1111 (tgt := 1126) (by decide) (fun _ => hend _ rfl) (fun h0 => ?_)
  have hv := hv h0
  refine u_aload_n C1 (n := 3) dL_law_1114 rfl ?_
  refine u_iconst C1 dL_law_1115 (v := nI 0) rfl ?_
  refine u_laldN C1 dL_law_1116 (i := 0) hO.1 hO.2 (by decide) (by decide) ?_
  refine u_iload C1 (i := 6) dL_law_1117 rfl ?_
  refine u_i2l C1 dL_law_1119 ?_
  refine u_lcmp C1 dL_law_1120 ?_
  exact u_if_eq C1 dL_law_1121 (tgt := 1126) (by decide) (fun _ => hend _ rfl) (fun h => absurd (lg_c9 hv) h)
def H_ofSection (l : Launch) (D : va_G) (G : w_G) (X Y O : Nat) (Inv : Nat → w_M → Prop) : Prop := ∀ (t : Nat) (M : w_M) (a1 : Int32) (a2 : Int32), t < 512 → Inv t M → ∃ pH, u_Hm l D G yL_ofSection cL_ofSection 5 [(0, 10, 13, 39), (0, 10, 17, 13)] 7 112 [.ref (gP G X), .int a1, .int a2, .ref (gP G O)] M pH ∧ ∀ r5 M2, pH r5 M2 → ∃ pR, u_Mi l D G yX11_ofSection cX11_ofSection 4 (some .int) 2 43 [.ref (gP G Y), .int a1, .int a2] M2 pR ∧ ∀ r6 M3, pR r6 M3 → ∃ pT, u_Mi l D G yX11_thrown cX11_thrown 1 (some .int) 0 0 [.ref (gP G Y)] M3 pT ∧ ∀ r7 M4, pT r7 M4 → r7 = r5 ∧ (r5 = 0 → jv M4 O 0 = r6.toInt64) ∧ Inv (t + 1) M4
theorem law_ofSection (C : u_C p R s m args c cL_law RL 8 D A H0 cells slots G) (C1 : u_C p R s m args c cL_law RL 8 D A H0 (cells + 1) (slots + 6) G) (hXT : u_XT s) (hXH : u_XH A s H0) (hsc : va_X b L xs s H0) (hbl : b < H0.size) (hbA : ¬ A b) (hL : L < 10000) (hi : i + 6 ≤ L) (ht : t < 512) (hI : Inv t M) (hX : u_is G X 10) (hY : u_is G Y 11) (hO : L_j1 G O) (hR : 8 ≤ R.frames ∧ 300 ≤ R.locals) (hH : H_ofSection l D G X Y O Inv) (kk : law_kk p l e R s m args below meth c D A H0 cells slots Q b G X Y O i t Inv) (hcs : cells + 1 ≤ R.cells ∧ slots + 6 ≤ R.slots) : u_S p l e R s m args below meth c 8 D A H0 cells slots Q 1129 (law_lv b G X Y O i) [] G M := by
  obtain ⟨pH, hH1, hH2⟩ := hH t M (xs (i + 1)) (xs (i + 2)) ht hI
  refine u_aload_n C (n := 1) dL_law_1129 rfl ?_
  refine u_aload_n C (n := 0) dL_law_1130 rfl ?_
  refine u_iload C (i := 4) dL_law_1131 rfl ?_
  refine u_iconst C dL_law_1133 (v := nI 1) rfl ?_
  refine u_iadd C dL_law_1134 ?_
  rw [nI_ad]
  refine u_sld C hsc hbl hbA dL_law_1135 (by omega) hL ?_
  refine u_aload_n C (n := 0) dL_law_1136 rfl ?_
  refine u_iload C (i := 4) dL_law_1137 rfl ?_
  refine u_iconst C dL_law_1139 (v := nI 2) rfl ?_
  refine u_iadd C dL_law_1140 ?_
  rw [nI_ad]
  refine u_sld C hsc hbl hbA dL_law_1141 (by omega) hL ?_
  refine u_aload_n C (n := 3) dL_law_1142 rfl ?_
  refine u_callHm (na := 4) C hXT hXH hw_L_ofSection hs_L_ofSection hi_L ⟨by decide, by decide, by decide +kernel⟩ dL_law_1143 ml_RL_143 (As := [.ref (gP G X), .int (xs (i + 1)), .int (xs (i + 2)), .ref (gP G O)]) hH1 ⟨by omega, by omega⟩ rfl rfl (Nat.le_of_ble_eq_true rfl) hcs (fun r5 M2 hr5 => ?_)
  obtain ⟨pR, hR1, hR2⟩ := hH2 r5 M2 hr5
  refine u_istore C1 (i := 5) dL_law_1146 (by decide) ?_
  refine u_aload_n C1 (n := 2) dL_law_1148 rfl ?_
  refine u_aload_n C1 (n := 0) dL_law_1149 rfl ?_
  refine u_iload C1 (i := 4) dL_law_1150 rfl ?_
  refine u_iconst C1 dL_law_1152 (v := nI 1) rfl ?_
  refine u_iadd C1 dL_law_1153 ?_
  rw [nI_ad]
  refine u_sld C1 hsc hbl hbA dL_law_1154 (by omega) hL ?_
  refine u_aload_n C1 (n := 0) dL_law_1155 rfl ?_
  refine u_iload C1 (i := 4) dL_law_1156 rfl ?_
  refine u_iconst C1 dL_law_1158 (v := nI 2) rfl ?_
  refine u_iadd C1 dL_law_1159 ?_
  rw [nI_ad]
  refine u_sld C1 hsc hbl hbA dL_law_1160 (by omega) hL ?_
  refine u_calliV C1 ev_X11_ofSection dL_law_1161 ml_RL_145 hY rfl (by decide) (As := [.int (xs (i + 1)), .int (xs (i + 2))]) hR1 ⟨by omega, by omega⟩ rfl rfl (Nat.le_of_ble_eq_true rfl) (fun r6 M3 hr6 => ?_)
  obtain ⟨pT, hT1, hT2⟩ := hR2 r6 M3 hr6
  refine u_istore C1 (i := 6) dL_law_1164 (by decide) ?_
  refine u_aload_n C1 (n := 2) dL_law_1166 rfl ?_
  refine u_calliV C1 ev_X11_thrown dL_law_1167 ml_RL_95 hY rfl (by decide) (As := []) hT1 ⟨by omega, by omega⟩ rfl rfl (Nat.le_of_ble_eq_true rfl) (fun r7 M4 hr7 => ?_)
  obtain ⟨he, hv, hI2⟩ := hT2 r7 M4 hr7
  refine u_iload C1 (i := 5) dL_law_1170 rfl ?_
  refine u_icmp_eq C1 dL_law_1172 (tgt := 1177) (by decide) (fun _ => ?_) (fun h => absurd he h)
  refine u_iload C1 (i := 5) dL_law_1177 rfl ?_
  have hend : ∀ (lv : List (Nat × Value)), lv_re lv [0, 1, 2, 3, 4] = law_lv b G X Y O i → u_S p l e R s m args below meth c 8 D A H0 (cells + 1) (slots + 6) Q 1194 lv [] G M4 := fun lv hlv => u_goto C1 dL_law_1194 (tgt := 1656) (by decide) (u_loc [0, 1, 2, 3, 4] hlv (kk M4 hI2))
  refine u_if_ne C1 dL_law_1179 (tgt := 1194) (by decide) (fun _ => hend _ rfl) (fun h0 => ?_)
  have hv := hv h0
  refine u_aload_n C1 (n := 3) dL_law_1182 rfl ?_
  refine u_iconst C1 dL_law_1183 (v := nI 0) rfl ?_
  refine u_laldN C1 dL_law_1184 (i := 0) hO.1 hO.2 (by decide) (by decide) ?_
  refine u_iload C1 (i := 6) dL_law_1185 rfl ?_
  refine u_i2l C1 dL_law_1187 ?_
  refine u_lcmp C1 dL_law_1188 ?_
  exact u_if_eq C1 dL_law_1189 (tgt := 1194) (by decide) (fun _ => hend _ rfl) (fun h => absurd (lg_c9 hv) h)
def H_ofSectionAnew (l : Launch) (D : va_G) (G : w_G) (X Y O : Nat) (Inv : Nat → w_M → Prop) : Prop := ∀ (t : Nat) (M : w_M) (a1 : Int32) (a2 : Int32), t < 512 → Inv t M → ∃ pH, u_Hm l D G yL_ofSectionAnew cL_ofSectionAnew 5 [(0, 10, 13, 39), (0, 10, 17, 13)] 7 162 [.ref (gP G X), .int a1, .int a2, .ref (gP G O)] M pH ∧ ∀ r5 M2, pH r5 M2 → ∃ pR, u_Mi l D G yX11_ofSectionAnew cX11_ofSectionAnew 3 (some .int) 3 66 [.ref (gP G Y), .int a1, .int a2] M2 pR ∧ ∀ r6 M3, pR r6 M3 → ∃ pT, u_Mi l D G yX11_thrown cX11_thrown 1 (some .int) 0 0 [.ref (gP G Y)] M3 pT ∧ ∀ r7 M4, pT r7 M4 → r7 = r5 ∧ (r5 = 0 → jv M4 O 0 = r6.toInt64) ∧ Inv (t + 1) M4
theorem law_ofSectionAnew (C : u_C p R s m args c cL_law RL 8 D A H0 cells slots G) (C1 : u_C p R s m args c cL_law RL 8 D A H0 (cells + 1) (slots + 6) G) (hXT : u_XT s) (hXH : u_XH A s H0) (hsc : va_X b L xs s H0) (hbl : b < H0.size) (hbA : ¬ A b) (hL : L < 10000) (hi : i + 6 ≤ L) (ht : t < 512) (hI : Inv t M) (hX : u_is G X 10) (hY : u_is G Y 11) (hO : L_j1 G O) (hR : 8 ≤ R.frames ∧ 300 ≤ R.locals) (hH : H_ofSectionAnew l D G X Y O Inv) (kk : law_kk p l e R s m args below meth c D A H0 cells slots Q b G X Y O i t Inv) (hcs : cells + 1 ≤ R.cells ∧ slots + 6 ≤ R.slots) : u_S p l e R s m args below meth c 8 D A H0 cells slots Q 1197 (law_lv b G X Y O i) [] G M := by
  obtain ⟨pH, hH1, hH2⟩ := hH t M (xs (i + 1)) (xs (i + 2)) ht hI
  refine u_aload_n C (n := 1) dL_law_1197 rfl ?_
  refine u_aload_n C (n := 0) dL_law_1198 rfl ?_
  refine u_iload C (i := 4) dL_law_1199 rfl ?_
  refine u_iconst C dL_law_1201 (v := nI 1) rfl ?_
  refine u_iadd C dL_law_1202 ?_
  rw [nI_ad]
  refine u_sld C hsc hbl hbA dL_law_1203 (by omega) hL ?_
  refine u_aload_n C (n := 0) dL_law_1204 rfl ?_
  refine u_iload C (i := 4) dL_law_1205 rfl ?_
  refine u_iconst C dL_law_1207 (v := nI 2) rfl ?_
  refine u_iadd C dL_law_1208 ?_
  rw [nI_ad]
  refine u_sld C hsc hbl hbA dL_law_1209 (by omega) hL ?_
  refine u_aload_n C (n := 3) dL_law_1210 rfl ?_
  refine u_callHm (na := 4) C hXT hXH hw_L_ofSectionAnew hs_L_ofSectionAnew hi_L ⟨by decide, by decide, by decide +kernel⟩ dL_law_1211 ml_RL_146 (As := [.ref (gP G X), .int (xs (i + 1)), .int (xs (i + 2)), .ref (gP G O)]) hH1 ⟨by omega, by omega⟩ rfl rfl (Nat.le_of_ble_eq_true rfl) hcs (fun r5 M2 hr5 => ?_)
  obtain ⟨pR, hR1, hR2⟩ := hH2 r5 M2 hr5
  refine u_istore C1 (i := 5) dL_law_1214 (by decide) ?_
  refine u_aload_n C1 (n := 2) dL_law_1216 rfl ?_
  refine u_aload_n C1 (n := 0) dL_law_1217 rfl ?_
  refine u_iload C1 (i := 4) dL_law_1218 rfl ?_
  refine u_iconst C1 dL_law_1220 (v := nI 1) rfl ?_
  refine u_iadd C1 dL_law_1221 ?_
  rw [nI_ad]
  refine u_sld C1 hsc hbl hbA dL_law_1222 (by omega) hL ?_
  refine u_aload_n C1 (n := 0) dL_law_1223 rfl ?_
  refine u_iload C1 (i := 4) dL_law_1224 rfl ?_
  refine u_iconst C1 dL_law_1226 (v := nI 2) rfl ?_
  refine u_iadd C1 dL_law_1227 ?_
  rw [nI_ad]
  refine u_sld C1 hsc hbl hbA dL_law_1228 (by omega) hL ?_
  refine u_calliV C1 ev_X11_ofSectionAnew dL_law_1229 ml_RL_148 hY rfl (by decide) (As := [.int (xs (i + 1)), .int (xs (i + 2))]) hR1 ⟨by omega, by omega⟩ rfl rfl (Nat.le_of_ble_eq_true rfl) (fun r6 M3 hr6 => ?_)
  obtain ⟨pT, hT1, hT2⟩ := hR2 r6 M3 hr6
  refine u_istore C1 (i := 6) dL_law_1232 (by decide) ?_
  refine u_aload_n C1 (n := 2) dL_law_1234 rfl ?_
  refine u_calliV C1 ev_X11_thrown dL_law_1235 ml_RL_95 hY rfl (by decide) (As := []) hT1 ⟨by omega, by omega⟩ rfl rfl (Nat.le_of_ble_eq_true rfl) (fun r7 M4 hr7 => ?_)
  obtain ⟨he, hv, hI2⟩ := hT2 r7 M4 hr7
  refine u_iload C1 (i := 5) dL_law_1238 rfl ?_
  refine u_icmp_eq C1 dL_law_1240 (tgt := 1245) (by decide) (fun _ => ?_) (fun h => absurd he h)
  refine u_iload C1 (i := 5) dL_law_1245 rfl ?_
  have hend : ∀ (lv : List (Nat × Value)), lv_re lv [0, 1, 2, 3, 4] = law_lv b G X Y O i → u_S p l e R s m args below meth c 8 D A H0 (cells + 1) (slots + 6) Q 1262 lv [] G M4 := fun lv hlv => u_goto C1 dL_law_1262 (tgt := 1656) (by decide) (u_loc [0, 1, 2, 3, 4] hlv (kk M4 hI2))
  refine u_if_ne C1 dL_law_1247 (tgt := 1262) (by decide) (fun _ => hend _ rfl) (fun h0 => ?_)
  have hv := hv h0
  refine u_aload_n C1 (n := 3) dL_law_1250 rfl ?_
  refine u_iconst C1 dL_law_1251 (v := nI 0) rfl ?_
  refine u_laldN C1 dL_law_1252 (i := 0) hO.1 hO.2 (by decide) (by decide) ?_
  refine u_iload C1 (i := 6) dL_law_1253 rfl ?_
  refine u_i2l C1 dL_law_1255 ?_
  refine u_lcmp C1 dL_law_1256 ?_
  exact u_if_eq C1 dL_law_1257 (tgt := 1262) (by decide) (fun _ => hend _ rfl) (fun h => absurd (lg_c9 hv) h)
def H_ofIntake (l : Launch) (D : va_G) (G : w_G) (X Y O : Nat) (Inv : Nat → w_M → Prop) : Prop := ∀ (t : Nat) (M : w_M) (a1 : Int32) (a2 : Int32), t < 512 → Inv t M → ∃ pH, u_Hm l D G yL_ofIntake cL_ofIntake 5 [(0, 10, 13, 39), (0, 10, 17, 13)] 7 112 [.ref (gP G X), .int a1, .int a2, .ref (gP G O)] M pH ∧ ∀ r5 M2, pH r5 M2 → ∃ pR, u_Mi l D G yX11_ofIntake cX11_ofIntake 3 (some .int) 1 22 [.ref (gP G Y), .int a1, .int a2] M2 pR ∧ ∀ r6 M3, pR r6 M3 → ∃ pT, u_Mi l D G yX11_thrown cX11_thrown 1 (some .int) 0 0 [.ref (gP G Y)] M3 pT ∧ ∀ r7 M4, pT r7 M4 → r7 = r5 ∧ (r5 = 0 → jv M4 O 0 = r6.toInt64) ∧ Inv (t + 1) M4
theorem law_ofIntake (C : u_C p R s m args c cL_law RL 8 D A H0 cells slots G) (C1 : u_C p R s m args c cL_law RL 8 D A H0 (cells + 1) (slots + 6) G) (hXT : u_XT s) (hXH : u_XH A s H0) (hsc : va_X b L xs s H0) (hbl : b < H0.size) (hbA : ¬ A b) (hL : L < 10000) (hi : i + 6 ≤ L) (ht : t < 512) (hI : Inv t M) (hX : u_is G X 10) (hY : u_is G Y 11) (hO : L_j1 G O) (hR : 8 ≤ R.frames ∧ 300 ≤ R.locals) (hH : H_ofIntake l D G X Y O Inv) (kk : law_kk p l e R s m args below meth c D A H0 cells slots Q b G X Y O i t Inv) (hcs : cells + 1 ≤ R.cells ∧ slots + 6 ≤ R.slots) : u_S p l e R s m args below meth c 8 D A H0 cells slots Q 1265 (law_lv b G X Y O i) [] G M := by
  obtain ⟨pH, hH1, hH2⟩ := hH t M (xs (i + 1)) (xs (i + 2)) ht hI
  refine u_aload_n C (n := 1) dL_law_1265 rfl ?_
  refine u_aload_n C (n := 0) dL_law_1266 rfl ?_
  refine u_iload C (i := 4) dL_law_1267 rfl ?_
  refine u_iconst C dL_law_1269 (v := nI 1) rfl ?_
  refine u_iadd C dL_law_1270 ?_
  rw [nI_ad]
  refine u_sld C hsc hbl hbA dL_law_1271 (by omega) hL ?_
  refine u_aload_n C (n := 0) dL_law_1272 rfl ?_
  refine u_iload C (i := 4) dL_law_1273 rfl ?_
  refine u_iconst C dL_law_1275 (v := nI 2) rfl ?_
  refine u_iadd C dL_law_1276 ?_
  rw [nI_ad]
  refine u_sld C hsc hbl hbA dL_law_1277 (by omega) hL ?_
  refine u_aload_n C (n := 3) dL_law_1278 rfl ?_
  refine u_callHm (na := 4) C hXT hXH hw_L_ofIntake hs_L_ofIntake hi_L ⟨by decide, by decide, by decide +kernel⟩ dL_law_1279 ml_RL_149 (As := [.ref (gP G X), .int (xs (i + 1)), .int (xs (i + 2)), .ref (gP G O)]) hH1 ⟨by omega, by omega⟩ rfl rfl (Nat.le_of_ble_eq_true rfl) hcs (fun r5 M2 hr5 => ?_)
  obtain ⟨pR, hR1, hR2⟩ := hH2 r5 M2 hr5
  refine u_istore C1 (i := 5) dL_law_1282 (by decide) ?_
  refine u_aload_n C1 (n := 2) dL_law_1284 rfl ?_
  refine u_aload_n C1 (n := 0) dL_law_1285 rfl ?_
  refine u_iload C1 (i := 4) dL_law_1286 rfl ?_
  refine u_iconst C1 dL_law_1288 (v := nI 1) rfl ?_
  refine u_iadd C1 dL_law_1289 ?_
  rw [nI_ad]
  refine u_sld C1 hsc hbl hbA dL_law_1290 (by omega) hL ?_
  refine u_aload_n C1 (n := 0) dL_law_1291 rfl ?_
  refine u_iload C1 (i := 4) dL_law_1292 rfl ?_
  refine u_iconst C1 dL_law_1294 (v := nI 2) rfl ?_
  refine u_iadd C1 dL_law_1295 ?_
  rw [nI_ad]
  refine u_sld C1 hsc hbl hbA dL_law_1296 (by omega) hL ?_
  refine u_calliV C1 ev_X11_ofIntake dL_law_1297 ml_RL_151 hY rfl (by decide) (As := [.int (xs (i + 1)), .int (xs (i + 2))]) hR1 ⟨by omega, by omega⟩ rfl rfl (Nat.le_of_ble_eq_true rfl) (fun r6 M3 hr6 => ?_)
  obtain ⟨pT, hT1, hT2⟩ := hR2 r6 M3 hr6
  refine u_istore C1 (i := 6) dL_law_1300 (by decide) ?_
  refine u_aload_n C1 (n := 2) dL_law_1302 rfl ?_
  refine u_calliV C1 ev_X11_thrown dL_law_1303 ml_RL_95 hY rfl (by decide) (As := []) hT1 ⟨by omega, by omega⟩ rfl rfl (Nat.le_of_ble_eq_true rfl) (fun r7 M4 hr7 => ?_)
  obtain ⟨he, hv, hI2⟩ := hT2 r7 M4 hr7
  refine u_iload C1 (i := 5) dL_law_1306 rfl ?_
  refine u_icmp_eq C1 dL_law_1308 (tgt := 1313) (by decide) (fun _ => ?_) (fun h => absurd he h)
  refine u_iload C1 (i := 5) dL_law_1313 rfl ?_
  have hend : ∀ (lv : List (Nat × Value)), lv_re lv [0, 1, 2, 3, 4] = law_lv b G X Y O i → u_S p l e R s m args below meth c 8 D A H0 (cells + 1) (slots + 6) Q 1330 lv [] G M4 := fun lv hlv => u_goto C1 dL_law_1330 (tgt := 1656) (by decide) (u_loc [0, 1, 2, 3, 4] hlv (kk M4 hI2))
  refine u_if_ne C1 dL_law_1315 (tgt := 1330) (by decide) (fun _ => hend _ rfl) (fun h0 => ?_)
  have hv := hv h0
  refine u_aload_n C1 (n := 3) dL_law_1318 rfl ?_
  refine u_iconst C1 dL_law_1319 (v := nI 0) rfl ?_
  refine u_laldN C1 dL_law_1320 (i := 0) hO.1 hO.2 (by decide) (by decide) ?_
  refine u_iload C1 (i := 6) dL_law_1321 rfl ?_
  refine u_i2l C1 dL_law_1323 ?_
  refine u_lcmp C1 dL_law_1324 ?_
  exact u_if_eq C1 dL_law_1325 (tgt := 1330) (by decide) (fun _ => hend _ rfl) (fun h => absurd (lg_c9 hv) h)
def H_isClosed (l : Launch) (D : va_G) (G : w_G) (X Y O : Nat) (Inv : Nat → w_M → Prop) : Prop := ∀ (t : Nat) (M : w_M) (a1 : Int32), t < 512 → Inv t M → ∃ pH, u_Hm l D G yL_isClosed cL_isClosed 4 [(0, 16, 19, 39)] 7 112 [.ref (gP G X), .int a1, .ref (gP G O)] M pH ∧ ∀ r5 M2, pH r5 M2 → ∃ pR, u_Mi l D G yX11_isClosed cX11_isClosed 4 (some .boolean) 1 22 [.ref (gP G Y), .int a1] M2 pR ∧ ∀ r6 M3, pR r6 M3 → ∃ pT, u_Mi l D G yX11_thrown cX11_thrown 1 (some .int) 0 0 [.ref (gP G Y)] M3 pT ∧ ∀ r7 M4, pT r7 M4 → r7 = r5 ∧ (r5 = 0 → jv M4 O 0 = (if r6 = 0 then 0 else 1)) ∧ Inv (t + 1) M4
theorem law_isClosed (C : u_C p R s m args c cL_law RL 8 D A H0 cells slots G) (C1 : u_C p R s m args c cL_law RL 8 D A H0 (cells + 1) (slots + 6) G) (hXT : u_XT s) (hXH : u_XH A s H0) (hsc : va_X b L xs s H0) (hbl : b < H0.size) (hbA : ¬ A b) (hL : L < 10000) (hi : i + 6 ≤ L) (ht : t < 512) (hI : Inv t M) (hX : u_is G X 10) (hY : u_is G Y 11) (hO : L_j1 G O) (hR : 8 ≤ R.frames ∧ 300 ≤ R.locals) (hH : H_isClosed l D G X Y O Inv) (kk : law_kk p l e R s m args below meth c D A H0 cells slots Q b G X Y O i t Inv) (hcs : cells + 1 ≤ R.cells ∧ slots + 6 ≤ R.slots) : u_S p l e R s m args below meth c 8 D A H0 cells slots Q 1333 (law_lv b G X Y O i) [] G M := by
  obtain ⟨pH, hH1, hH2⟩ := hH t M (xs (i + 1)) ht hI
  refine u_aload_n C (n := 1) dL_law_1333 rfl ?_
  refine u_aload_n C (n := 0) dL_law_1334 rfl ?_
  refine u_iload C (i := 4) dL_law_1335 rfl ?_
  refine u_iconst C dL_law_1337 (v := nI 1) rfl ?_
  refine u_iadd C dL_law_1338 ?_
  rw [nI_ad]
  refine u_sld C hsc hbl hbA dL_law_1339 (by omega) hL ?_
  refine u_aload_n C (n := 3) dL_law_1340 rfl ?_
  refine u_callHm (na := 3) C hXT hXH hw_L_isClosed hs_L_isClosed hi_L ⟨by decide, by decide, by decide +kernel⟩ dL_law_1341 ml_RL_152 (As := [.ref (gP G X), .int (xs (i + 1)), .ref (gP G O)]) hH1 ⟨by omega, by omega⟩ rfl rfl (Nat.le_of_ble_eq_true rfl) hcs (fun r5 M2 hr5 => ?_)
  obtain ⟨pR, hR1, hR2⟩ := hH2 r5 M2 hr5
  refine u_istore C1 (i := 5) dL_law_1344 (by decide) ?_
  refine u_aload_n C1 (n := 2) dL_law_1346 rfl ?_
  refine u_aload_n C1 (n := 0) dL_law_1347 rfl ?_
  refine u_iload C1 (i := 4) dL_law_1348 rfl ?_
  refine u_iconst C1 dL_law_1350 (v := nI 1) rfl ?_
  refine u_iadd C1 dL_law_1351 ?_
  rw [nI_ad]
  refine u_sld C1 hsc hbl hbA dL_law_1352 (by omega) hL ?_
  refine u_calliV C1 ev_X11_isClosed dL_law_1353 ml_RL_154 hY rfl (by decide) (As := [.int (xs (i + 1))]) hR1 ⟨by omega, by omega⟩ rfl rfl (Nat.le_of_ble_eq_true rfl) (fun r6 M3 hr6 => ?_)
  obtain ⟨pT, hT1, hT2⟩ := hR2 r6 M3 hr6
  refine u_istore C1 (i := 6) dL_law_1356 (by decide) ?_
  refine u_aload_n C1 (n := 2) dL_law_1358 rfl ?_
  refine u_calliV C1 ev_X11_thrown dL_law_1359 ml_RL_95 hY rfl (by decide) (As := []) hT1 ⟨by omega, by omega⟩ rfl rfl (Nat.le_of_ble_eq_true rfl) (fun r7 M4 hr7 => ?_)
  obtain ⟨he, hv, hI2⟩ := hT2 r7 M4 hr7
  refine u_iload C1 (i := 5) dL_law_1362 rfl ?_
  refine u_icmp_eq C1 dL_law_1364 (tgt := 1369) (by decide) (fun _ => ?_) (fun h => absurd he h)
  refine u_iload C1 (i := 5) dL_law_1369 rfl ?_
  have hend : ∀ (lv : List (Nat × Value)), lv_re lv [0, 1, 2, 3, 4] = law_lv b G X Y O i → u_S p l e R s m args below meth c 8 D A H0 (cells + 1) (slots + 6) Q 1393 lv [] G M4 := fun lv hlv => u_goto C1 dL_law_1393 (tgt := 1656) (by decide) (u_loc [0, 1, 2, 3, 4] hlv (kk M4 hI2))
  refine u_if_ne C1 dL_law_1371 (tgt := 1393) (by decide) (fun _ => hend _ rfl) (fun h0 => ?_)
  have hv := hv h0
  refine u_aload_n C1 (n := 3) dL_law_1374 rfl ?_
  refine u_iconst C1 dL_law_1375 (v := nI 0) rfl ?_
  refine u_laldN C1 dL_law_1376 (i := 0) hO.1 hO.2 (by decide) (by decide) ?_
  refine u_iload C1 (i := 6) dL_law_1377 rfl ?_
  refine u_if_eq C1 dL_law_1379 (tgt := 1386) (by decide) (fun h6 => ?_) (fun h6 => ?_)
  · rw [if_pos h6] at hv
    refine u_lconst C1 dL_law_1386 (v := 0) rfl ?_
    refine u_lcmp C1 dL_law_1387 ?_
    exact u_if_eq C1 dL_law_1388 (tgt := 1393) (by decide) (fun _ => hend _ rfl) (fun h => absurd (lg_c9 hv) h)
  · rw [if_neg h6] at hv
    refine u_lconst C1 dL_law_1382 (v := 1) rfl ?_
    refine u_goto C1 dL_law_1383 (tgt := 1387) (by decide) ?_
    refine u_lcmp C1 dL_law_1387 ?_
    exact u_if_eq C1 dL_law_1388 (tgt := 1393) (by decide) (fun _ => hend _ rfl) (fun h => absurd (lg_c9 hv) h)
def H_closures (l : Launch) (D : va_G) (G : w_G) (X Y O : Nat) (Inv : Nat → w_M → Prop) : Prop := ∀ (t : Nat) (M : w_M), t < 512 → Inv t M → ∃ pA, u_Mi l D G yX10_closures cX10_closures 1 (some .int) 0 0 [.ref (gP G X)] M pA ∧ ∀ r M2, pA r M2 → ∃ pB, u_Mi l D G yX11_closures cX11_closures 1 (some .int) 0 0 [.ref (gP G Y)] M2 pB ∧ ∀ r2 M3, pB r2 M3 → r = r2 ∧ Inv (t + 1) M3
theorem law_closures (C : u_C p R s m args c cL_law RL 8 D A H0 cells slots G) (C1 : u_C p R s m args c cL_law RL 8 D A H0 (cells + 1) (slots + 6) G) (hXT : u_XT s) (hXH : u_XH A s H0) (hsc : va_X b L xs s H0) (hbl : b < H0.size) (hbA : ¬ A b) (hL : L < 10000) (hi : i + 6 ≤ L) (ht : t < 512) (hI : Inv t M) (hX : u_is G X 10) (hY : u_is G Y 11) (hO : L_j1 G O) (hR : 8 ≤ R.frames ∧ 300 ≤ R.locals) (hH : H_closures l D G X Y O Inv) (kk : law_kk p l e R s m args below meth c D A H0 cells slots Q b G X Y O i t Inv) : u_S p l e R s m args below meth c 8 D A H0 cells slots Q 1396 (law_lv b G X Y O i) [] G M := by
  refine u_W1 ?_
  obtain ⟨pA, hA1, hA2⟩ := hH t M ht hI
  refine u_aload_n C1 (n := 1) dL_law_1396 rfl ?_
  refine u_calliV C1 ev_X10_closures dL_law_1397 ml_RL_155 hX rfl (by decide) (As := []) hA1 ⟨by omega, by omega⟩ rfl rfl (Nat.le_of_ble_eq_true rfl) (fun r M2 hr => ?_)
  obtain ⟨pB, hB1, hB2⟩ := hA2 r M2 hr
  refine u_aload_n C1 (n := 2) dL_law_1400 rfl ?_
  refine u_calliV C1 ev_X11_closures dL_law_1401 ml_RL_158 hY rfl (by decide) (As := []) hB1 ⟨by omega, by omega⟩ rfl rfl (Nat.le_of_ble_eq_true rfl) (fun r2 M3 hr2 => ?_)
  obtain ⟨he, hI2⟩ := hB2 r2 M3 hr2
  exact u_icmp_eq C1 dL_law_1404 (tgt := 1656) (by decide) (fun _ => kk M3 hI2) (fun h => absurd he h)
def H_closure (l : Launch) (D : va_G) (G : w_G) (X Y O : Nat) (Inv : Nat → w_M → Prop) : Prop := ∀ (t : Nat) (M : w_M) (a1 : Int32) (a2 : Int32), t < 512 → Inv t M → ∃ pH, u_Hm l D G yL_closure cL_closure 5 [(0, 10, 13, 39), (0, 10, 17, 13)] 7 112 [.ref (gP G X), .int a1, .int a2, .ref (gP G O)] M pH ∧ ∀ r5 M2, pH r5 M2 → ∃ pR, u_Mi l D G yX11_closure cX11_closure 3 (some .int) 1 22 [.ref (gP G Y), .int a1, .int a2] M2 pR ∧ ∀ r6 M3, pR r6 M3 → ∃ pT, u_Mi l D G yX11_thrown cX11_thrown 1 (some .int) 0 0 [.ref (gP G Y)] M3 pT ∧ ∀ r7 M4, pT r7 M4 → r7 = r5 ∧ (r5 = 0 → jv M4 O 0 = r6.toInt64) ∧ Inv (t + 1) M4
theorem law_closure (C : u_C p R s m args c cL_law RL 8 D A H0 cells slots G) (C1 : u_C p R s m args c cL_law RL 8 D A H0 (cells + 1) (slots + 6) G) (hXT : u_XT s) (hXH : u_XH A s H0) (hsc : va_X b L xs s H0) (hbl : b < H0.size) (hbA : ¬ A b) (hL : L < 10000) (hi : i + 6 ≤ L) (ht : t < 512) (hI : Inv t M) (hX : u_is G X 10) (hY : u_is G Y 11) (hO : L_j1 G O) (hR : 8 ≤ R.frames ∧ 300 ≤ R.locals) (hH : H_closure l D G X Y O Inv) (kk : law_kk p l e R s m args below meth c D A H0 cells slots Q b G X Y O i t Inv) (hcs : cells + 1 ≤ R.cells ∧ slots + 6 ≤ R.slots) : u_S p l e R s m args below meth c 8 D A H0 cells slots Q 1409 (law_lv b G X Y O i) [] G M := by
  obtain ⟨pH, hH1, hH2⟩ := hH t M (xs (i + 1)) (xs (i + 2)) ht hI
  refine u_aload_n C (n := 1) dL_law_1409 rfl ?_
  refine u_aload_n C (n := 0) dL_law_1410 rfl ?_
  refine u_iload C (i := 4) dL_law_1411 rfl ?_
  refine u_iconst C dL_law_1413 (v := nI 1) rfl ?_
  refine u_iadd C dL_law_1414 ?_
  rw [nI_ad]
  refine u_sld C hsc hbl hbA dL_law_1415 (by omega) hL ?_
  refine u_aload_n C (n := 0) dL_law_1416 rfl ?_
  refine u_iload C (i := 4) dL_law_1417 rfl ?_
  refine u_iconst C dL_law_1419 (v := nI 2) rfl ?_
  refine u_iadd C dL_law_1420 ?_
  rw [nI_ad]
  refine u_sld C hsc hbl hbA dL_law_1421 (by omega) hL ?_
  refine u_aload_n C (n := 3) dL_law_1422 rfl ?_
  refine u_callHm (na := 4) C hXT hXH hw_L_closure hs_L_closure hi_L ⟨by decide, by decide, by decide +kernel⟩ dL_law_1423 ml_RL_159 (As := [.ref (gP G X), .int (xs (i + 1)), .int (xs (i + 2)), .ref (gP G O)]) hH1 ⟨by omega, by omega⟩ rfl rfl (Nat.le_of_ble_eq_true rfl) hcs (fun r5 M2 hr5 => ?_)
  obtain ⟨pR, hR1, hR2⟩ := hH2 r5 M2 hr5
  refine u_istore C1 (i := 5) dL_law_1426 (by decide) ?_
  refine u_aload_n C1 (n := 2) dL_law_1428 rfl ?_
  refine u_aload_n C1 (n := 0) dL_law_1429 rfl ?_
  refine u_iload C1 (i := 4) dL_law_1430 rfl ?_
  refine u_iconst C1 dL_law_1432 (v := nI 1) rfl ?_
  refine u_iadd C1 dL_law_1433 ?_
  rw [nI_ad]
  refine u_sld C1 hsc hbl hbA dL_law_1434 (by omega) hL ?_
  refine u_aload_n C1 (n := 0) dL_law_1435 rfl ?_
  refine u_iload C1 (i := 4) dL_law_1436 rfl ?_
  refine u_iconst C1 dL_law_1438 (v := nI 2) rfl ?_
  refine u_iadd C1 dL_law_1439 ?_
  rw [nI_ad]
  refine u_sld C1 hsc hbl hbA dL_law_1440 (by omega) hL ?_
  refine u_calliV C1 ev_X11_closure dL_law_1441 ml_RL_161 hY rfl (by decide) (As := [.int (xs (i + 1)), .int (xs (i + 2))]) hR1 ⟨by omega, by omega⟩ rfl rfl (Nat.le_of_ble_eq_true rfl) (fun r6 M3 hr6 => ?_)
  obtain ⟨pT, hT1, hT2⟩ := hR2 r6 M3 hr6
  refine u_istore C1 (i := 6) dL_law_1444 (by decide) ?_
  refine u_aload_n C1 (n := 2) dL_law_1446 rfl ?_
  refine u_calliV C1 ev_X11_thrown dL_law_1447 ml_RL_95 hY rfl (by decide) (As := []) hT1 ⟨by omega, by omega⟩ rfl rfl (Nat.le_of_ble_eq_true rfl) (fun r7 M4 hr7 => ?_)
  obtain ⟨he, hv, hI2⟩ := hT2 r7 M4 hr7
  refine u_iload C1 (i := 5) dL_law_1450 rfl ?_
  refine u_icmp_eq C1 dL_law_1452 (tgt := 1457) (by decide) (fun _ => ?_) (fun h => absurd he h)
  refine u_iload C1 (i := 5) dL_law_1457 rfl ?_
  have hend : ∀ (lv : List (Nat × Value)), lv_re lv [0, 1, 2, 3, 4] = law_lv b G X Y O i → u_S p l e R s m args below meth c 8 D A H0 (cells + 1) (slots + 6) Q 1474 lv [] G M4 := fun lv hlv => u_goto C1 dL_law_1474 (tgt := 1656) (by decide) (u_loc [0, 1, 2, 3, 4] hlv (kk M4 hI2))
  refine u_if_ne C1 dL_law_1459 (tgt := 1474) (by decide) (fun _ => hend _ rfl) (fun h0 => ?_)
  have hv := hv h0
  refine u_aload_n C1 (n := 3) dL_law_1462 rfl ?_
  refine u_iconst C1 dL_law_1463 (v := nI 0) rfl ?_
  refine u_laldN C1 dL_law_1464 (i := 0) hO.1 hO.2 (by decide) (by decide) ?_
  refine u_iload C1 (i := 6) dL_law_1465 rfl ?_
  refine u_i2l C1 dL_law_1467 ?_
  refine u_lcmp C1 dL_law_1468 ?_
  exact u_if_eq C1 dL_law_1469 (tgt := 1474) (by decide) (fun _ => hend _ rfl) (fun h => absurd (lg_c9 hv) h)
def H_intrusion (l : Launch) (D : va_G) (G : w_G) (X Y O : Nat) (Inv : Nat → w_M → Prop) : Prop := ∀ (t : Nat) (M : w_M) (a1 : Int32), t < 512 → Inv t M → ∃ pH, u_Hm l D G yL_intrusion cL_intrusion 4 [(0, 9, 12, 13)] 7 112 [.ref (gP G X), .int a1, .ref (gP G O)] M pH ∧ ∀ r5 M2, pH r5 M2 → ∃ pR, u_Mi l D G yX11_intrusion cX11_intrusion 3 (some .int) 1 23 [.ref (gP G Y), .int a1] M2 pR ∧ ∀ r6 M3, pR r6 M3 → ∃ pT, u_Mi l D G yX11_thrown cX11_thrown 1 (some .int) 0 0 [.ref (gP G Y)] M3 pT ∧ ∀ r7 M4, pT r7 M4 → r7 = r5 ∧ (r5 = 0 → jv M4 O 0 = r6.toInt64) ∧ Inv (t + 1) M4
theorem law_intrusion (C : u_C p R s m args c cL_law RL 8 D A H0 cells slots G) (C1 : u_C p R s m args c cL_law RL 8 D A H0 (cells + 1) (slots + 6) G) (hXT : u_XT s) (hXH : u_XH A s H0) (hsc : va_X b L xs s H0) (hbl : b < H0.size) (hbA : ¬ A b) (hL : L < 10000) (hi : i + 6 ≤ L) (ht : t < 512) (hI : Inv t M) (hX : u_is G X 10) (hY : u_is G Y 11) (hO : L_j1 G O) (hR : 8 ≤ R.frames ∧ 300 ≤ R.locals) (hH : H_intrusion l D G X Y O Inv) (kk : law_kk p l e R s m args below meth c D A H0 cells slots Q b G X Y O i t Inv) (hcs : cells + 1 ≤ R.cells ∧ slots + 6 ≤ R.slots) : u_S p l e R s m args below meth c 8 D A H0 cells slots Q 1477 (law_lv b G X Y O i) [] G M := by
  obtain ⟨pH, hH1, hH2⟩ := hH t M (xs (i + 1)) ht hI
  refine u_aload_n C (n := 1) dL_law_1477 rfl ?_
  refine u_aload_n C (n := 0) dL_law_1478 rfl ?_
  refine u_iload C (i := 4) dL_law_1479 rfl ?_
  refine u_iconst C dL_law_1481 (v := nI 1) rfl ?_
  refine u_iadd C dL_law_1482 ?_
  rw [nI_ad]
  refine u_sld C hsc hbl hbA dL_law_1483 (by omega) hL ?_
  refine u_aload_n C (n := 3) dL_law_1484 rfl ?_
  refine u_callHm (na := 3) C hXT hXH hw_L_intrusion hs_L_intrusion hi_L ⟨by decide, by decide, by decide +kernel⟩ dL_law_1485 ml_RL_162 (As := [.ref (gP G X), .int (xs (i + 1)), .ref (gP G O)]) hH1 ⟨by omega, by omega⟩ rfl rfl (Nat.le_of_ble_eq_true rfl) hcs (fun r5 M2 hr5 => ?_)
  obtain ⟨pR, hR1, hR2⟩ := hH2 r5 M2 hr5
  refine u_istore C1 (i := 5) dL_law_1488 (by decide) ?_
  refine u_aload_n C1 (n := 2) dL_law_1490 rfl ?_
  refine u_aload_n C1 (n := 0) dL_law_1491 rfl ?_
  refine u_iload C1 (i := 4) dL_law_1492 rfl ?_
  refine u_iconst C1 dL_law_1494 (v := nI 1) rfl ?_
  refine u_iadd C1 dL_law_1495 ?_
  rw [nI_ad]
  refine u_sld C1 hsc hbl hbA dL_law_1496 (by omega) hL ?_
  refine u_calliV C1 ev_X11_intrusion dL_law_1497 ml_RL_164 hY rfl (by decide) (As := [.int (xs (i + 1))]) hR1 ⟨by omega, by omega⟩ rfl rfl (Nat.le_of_ble_eq_true rfl) (fun r6 M3 hr6 => ?_)
  obtain ⟨pT, hT1, hT2⟩ := hR2 r6 M3 hr6
  refine u_istore C1 (i := 6) dL_law_1500 (by decide) ?_
  refine u_aload_n C1 (n := 2) dL_law_1502 rfl ?_
  refine u_calliV C1 ev_X11_thrown dL_law_1503 ml_RL_95 hY rfl (by decide) (As := []) hT1 ⟨by omega, by omega⟩ rfl rfl (Nat.le_of_ble_eq_true rfl) (fun r7 M4 hr7 => ?_)
  obtain ⟨he, hv, hI2⟩ := hT2 r7 M4 hr7
  refine u_iload C1 (i := 5) dL_law_1506 rfl ?_
  refine u_icmp_eq C1 dL_law_1508 (tgt := 1513) (by decide) (fun _ => ?_) (fun h => absurd he h)
  refine u_iload C1 (i := 5) dL_law_1513 rfl ?_
  have hend : ∀ (lv : List (Nat × Value)), lv_re lv [0, 1, 2, 3, 4] = law_lv b G X Y O i → u_S p l e R s m args below meth c 8 D A H0 (cells + 1) (slots + 6) Q 1530 lv [] G M4 := fun lv hlv => u_goto C1 dL_law_1530 (tgt := 1656) (by decide) (u_loc [0, 1, 2, 3, 4] hlv (kk M4 hI2))
  refine u_if_ne C1 dL_law_1515 (tgt := 1530) (by decide) (fun _ => hend _ rfl) (fun h0 => ?_)
  have hv := hv h0
  refine u_aload_n C1 (n := 3) dL_law_1518 rfl ?_
  refine u_iconst C1 dL_law_1519 (v := nI 0) rfl ?_
  refine u_laldN C1 dL_law_1520 (i := 0) hO.1 hO.2 (by decide) (by decide) ?_
  refine u_iload C1 (i := 6) dL_law_1521 rfl ?_
  refine u_i2l C1 dL_law_1523 ?_
  refine u_lcmp C1 dL_law_1524 ?_
  exact u_if_eq C1 dL_law_1525 (tgt := 1530) (by decide) (fun _ => hend _ rfl) (fun h => absurd (lg_c9 hv) h)
def H_window (l : Launch) (D : va_G) (G : w_G) (X Y O : Nat) (Inv : Nat → w_M → Prop) : Prop := ∀ (t : Nat) (M : w_M) (a1 : Int32) (a2 : Int32), t < 512 → Inv t M → ∃ pH, u_Hm l D G yL_window cL_window 5 [(0, 10, 13, 13), (0, 10, 17, 15)] 7 112 [.ref (gP G X), .int a1, .int a2, .ref (gP G O)] M pH ∧ ∀ r5 M2, pH r5 M2 → ∃ pR, u_Mi l D G yX11_window cX11_window 6 (some .int) 2 49 [.ref (gP G Y), .int a1, .int a2] M2 pR ∧ ∀ r6 M3, pR r6 M3 → ∃ pT, u_Mi l D G yX11_thrown cX11_thrown 1 (some .int) 0 0 [.ref (gP G Y)] M3 pT ∧ ∀ r7 M4, pT r7 M4 → r7 = r5 ∧ (r5 = 0 → jv M4 O 0 = r6.toInt64) ∧ Inv (t + 1) M4
theorem law_window (C : u_C p R s m args c cL_law RL 8 D A H0 cells slots G) (C1 : u_C p R s m args c cL_law RL 8 D A H0 (cells + 1) (slots + 6) G) (hXT : u_XT s) (hXH : u_XH A s H0) (hsc : va_X b L xs s H0) (hbl : b < H0.size) (hbA : ¬ A b) (hL : L < 10000) (hi : i + 6 ≤ L) (ht : t < 512) (hI : Inv t M) (hX : u_is G X 10) (hY : u_is G Y 11) (hO : L_j1 G O) (hR : 8 ≤ R.frames ∧ 300 ≤ R.locals) (hH : H_window l D G X Y O Inv) (kk : law_kk p l e R s m args below meth c D A H0 cells slots Q b G X Y O i t Inv) (hcs : cells + 1 ≤ R.cells ∧ slots + 6 ≤ R.slots) : u_S p l e R s m args below meth c 8 D A H0 cells slots Q 1533 (law_lv b G X Y O i) [] G M := by
  obtain ⟨pH, hH1, hH2⟩ := hH t M (xs (i + 1)) (xs (i + 2)) ht hI
  refine u_aload_n C (n := 1) dL_law_1533 rfl ?_
  refine u_aload_n C (n := 0) dL_law_1534 rfl ?_
  refine u_iload C (i := 4) dL_law_1535 rfl ?_
  refine u_iconst C dL_law_1537 (v := nI 1) rfl ?_
  refine u_iadd C dL_law_1538 ?_
  rw [nI_ad]
  refine u_sld C hsc hbl hbA dL_law_1539 (by omega) hL ?_
  refine u_aload_n C (n := 0) dL_law_1540 rfl ?_
  refine u_iload C (i := 4) dL_law_1541 rfl ?_
  refine u_iconst C dL_law_1543 (v := nI 2) rfl ?_
  refine u_iadd C dL_law_1544 ?_
  rw [nI_ad]
  refine u_sld C hsc hbl hbA dL_law_1545 (by omega) hL ?_
  refine u_aload_n C (n := 3) dL_law_1546 rfl ?_
  refine u_callHm (na := 4) C hXT hXH hw_L_window hs_L_window hi_L ⟨by decide, by decide, by decide +kernel⟩ dL_law_1547 ml_RL_165 (As := [.ref (gP G X), .int (xs (i + 1)), .int (xs (i + 2)), .ref (gP G O)]) hH1 ⟨by omega, by omega⟩ rfl rfl (Nat.le_of_ble_eq_true rfl) hcs (fun r5 M2 hr5 => ?_)
  obtain ⟨pR, hR1, hR2⟩ := hH2 r5 M2 hr5
  refine u_istore C1 (i := 5) dL_law_1550 (by decide) ?_
  refine u_aload_n C1 (n := 2) dL_law_1552 rfl ?_
  refine u_aload_n C1 (n := 0) dL_law_1553 rfl ?_
  refine u_iload C1 (i := 4) dL_law_1554 rfl ?_
  refine u_iconst C1 dL_law_1556 (v := nI 1) rfl ?_
  refine u_iadd C1 dL_law_1557 ?_
  rw [nI_ad]
  refine u_sld C1 hsc hbl hbA dL_law_1558 (by omega) hL ?_
  refine u_aload_n C1 (n := 0) dL_law_1559 rfl ?_
  refine u_iload C1 (i := 4) dL_law_1560 rfl ?_
  refine u_iconst C1 dL_law_1562 (v := nI 2) rfl ?_
  refine u_iadd C1 dL_law_1563 ?_
  rw [nI_ad]
  refine u_sld C1 hsc hbl hbA dL_law_1564 (by omega) hL ?_
  refine u_calliV C1 ev_X11_window dL_law_1565 ml_RL_167 hY rfl (by decide) (As := [.int (xs (i + 1)), .int (xs (i + 2))]) hR1 ⟨by omega, by omega⟩ rfl rfl (Nat.le_of_ble_eq_true rfl) (fun r6 M3 hr6 => ?_)
  obtain ⟨pT, hT1, hT2⟩ := hR2 r6 M3 hr6
  refine u_istore C1 (i := 6) dL_law_1568 (by decide) ?_
  refine u_aload_n C1 (n := 2) dL_law_1570 rfl ?_
  refine u_calliV C1 ev_X11_thrown dL_law_1571 ml_RL_95 hY rfl (by decide) (As := []) hT1 ⟨by omega, by omega⟩ rfl rfl (Nat.le_of_ble_eq_true rfl) (fun r7 M4 hr7 => ?_)
  obtain ⟨he, hv, hI2⟩ := hT2 r7 M4 hr7
  refine u_iload C1 (i := 5) dL_law_1574 rfl ?_
  refine u_icmp_eq C1 dL_law_1576 (tgt := 1581) (by decide) (fun _ => ?_) (fun h => absurd he h)
  refine u_iload C1 (i := 5) dL_law_1581 rfl ?_
  have hend : ∀ (lv : List (Nat × Value)), lv_re lv [0, 1, 2, 3, 4] = law_lv b G X Y O i → u_S p l e R s m args below meth c 8 D A H0 (cells + 1) (slots + 6) Q 1598 lv [] G M4 := fun lv hlv => u_goto C1 dL_law_1598 (tgt := 1656) (by decide) (u_loc [0, 1, 2, 3, 4] hlv (kk M4 hI2))
  refine u_if_ne C1 dL_law_1583 (tgt := 1598) (by decide) (fun _ => hend _ rfl) (fun h0 => ?_)
  have hv := hv h0
  refine u_aload_n C1 (n := 3) dL_law_1586 rfl ?_
  refine u_iconst C1 dL_law_1587 (v := nI 0) rfl ?_
  refine u_laldN C1 dL_law_1588 (i := 0) hO.1 hO.2 (by decide) (by decide) ?_
  refine u_iload C1 (i := 6) dL_law_1589 rfl ?_
  refine u_i2l C1 dL_law_1591 ?_
  refine u_lcmp C1 dL_law_1592 ?_
  exact u_if_eq C1 dL_law_1593 (tgt := 1598) (by decide) (fun _ => hend _ rfl) (fun h => absurd (lg_c9 hv) h)
def H_sum (l : Launch) (D : va_G) (G : w_G) (X Y O : Nat) (Inv : Nat → w_M → Prop) : Prop := ∀ (t : Nat) (M : w_M) (a1 : Int32), t < 512 → Inv t M → ∃ pH, u_Hm l D G yL_sum cL_sum 4 [(0, 8, 11, 13)] 7 111 [.ref (gP G X), .int a1, .ref (gP G O)] M pH ∧ ∀ r5 M2, pH r5 M2 → ∃ pR, u_Ml l D G yX11_sum cX11_sum 2 (some .long) 1 22 [.ref (gP G Y), .int a1] M2 pR ∧ ∀ r6 M3, pR r6 M3 → ∃ pT, u_Mi l D G yX11_thrown cX11_thrown 1 (some .int) 0 0 [.ref (gP G Y)] M3 pT ∧ ∀ r7 M4, pT r7 M4 → r7 = r5 ∧ (r5 = 0 → jv M4 O 0 = r6) ∧ Inv (t + 1) M4
theorem law_sum (C : u_C p R s m args c cL_law RL 8 D A H0 cells slots G) (C1 : u_C p R s m args c cL_law RL 8 D A H0 (cells + 1) (slots + 6) G) (hXT : u_XT s) (hXH : u_XH A s H0) (hsc : va_X b L xs s H0) (hbl : b < H0.size) (hbA : ¬ A b) (hL : L < 10000) (hi : i + 6 ≤ L) (ht : t < 512) (hI : Inv t M) (hX : u_is G X 10) (hY : u_is G Y 11) (hO : L_j1 G O) (hR : 8 ≤ R.frames ∧ 300 ≤ R.locals) (hH : H_sum l D G X Y O Inv) (kk : law_kk p l e R s m args below meth c D A H0 cells slots Q b G X Y O i t Inv) (hcs : cells + 1 ≤ R.cells ∧ slots + 6 ≤ R.slots) : u_S p l e R s m args below meth c 8 D A H0 cells slots Q 1601 (law_lv b G X Y O i) [] G M := by
  obtain ⟨pH, hH1, hH2⟩ := hH t M (xs (i + 1)) ht hI
  refine u_aload_n C (n := 1) dL_law_1601 rfl ?_
  refine u_aload_n C (n := 0) dL_law_1602 rfl ?_
  refine u_iload C (i := 4) dL_law_1603 rfl ?_
  refine u_iconst C dL_law_1605 (v := nI 1) rfl ?_
  refine u_iadd C dL_law_1606 ?_
  rw [nI_ad]
  refine u_sld C hsc hbl hbA dL_law_1607 (by omega) hL ?_
  refine u_aload_n C (n := 3) dL_law_1608 rfl ?_
  refine u_callHm (na := 3) C hXT hXH hw_L_sum hs_L_sum hi_L ⟨by decide, by decide, by decide +kernel⟩ dL_law_1609 ml_RL_168 (As := [.ref (gP G X), .int (xs (i + 1)), .ref (gP G O)]) hH1 ⟨by omega, by omega⟩ rfl rfl (Nat.le_of_ble_eq_true rfl) hcs (fun r5 M2 hr5 => ?_)
  obtain ⟨pR, hR1, hR2⟩ := hH2 r5 M2 hr5
  refine u_istore C1 (i := 5) dL_law_1612 (by decide) ?_
  refine u_aload_n C1 (n := 2) dL_law_1614 rfl ?_
  refine u_aload_n C1 (n := 0) dL_law_1615 rfl ?_
  refine u_iload C1 (i := 4) dL_law_1616 rfl ?_
  refine u_iconst C1 dL_law_1618 (v := nI 1) rfl ?_
  refine u_iadd C1 dL_law_1619 ?_
  rw [nI_ad]
  refine u_sld C1 hsc hbl hbA dL_law_1620 (by omega) hL ?_
  refine u_calllV C1 ev_X11_sum dL_law_1621 ml_RL_170 hY rfl (by decide) (As := [.int (xs (i + 1))]) hR1 ⟨by omega, by omega⟩ rfl rfl (Nat.le_of_ble_eq_true rfl) (fun r6 M3 hr6 => ?_)
  obtain ⟨pT, hT1, hT2⟩ := hR2 r6 M3 hr6
  refine u_lstore C1 (i := 6) dL_law_1624 (by decide) ?_
  refine u_aload_n C1 (n := 2) dL_law_1626 rfl ?_
  refine u_calliV C1 ev_X11_thrown dL_law_1627 ml_RL_95 hY rfl (by decide) (As := []) hT1 ⟨by omega, by omega⟩ rfl rfl (Nat.le_of_ble_eq_true rfl) (fun r7 M4 hr7 => ?_)
  obtain ⟨he, hv, hI2⟩ := hT2 r7 M4 hr7
  refine u_iload C1 (i := 5) dL_law_1630 rfl ?_
  refine u_icmp_eq C1 dL_law_1632 (tgt := 1637) (by decide) (fun _ => ?_) (fun h => absurd he h)
  refine u_iload C1 (i := 5) dL_law_1637 rfl ?_
  have hend : ∀ (lv : List (Nat × Value)), lv_re lv [0, 1, 2, 3, 4] = law_lv b G X Y O i → u_S p l e R s m args below meth c 8 D A H0 (cells + 1) (slots + 6) Q 1653 lv [] G M4 := fun lv hlv => u_goto C1 dL_law_1653 (tgt := 1656) (by decide) (u_loc [0, 1, 2, 3, 4] hlv (kk M4 hI2))
  refine u_if_ne C1 dL_law_1639 (tgt := 1653) (by decide) (fun _ => hend _ rfl) (fun h0 => ?_)
  have hv := hv h0
  refine u_aload_n C1 (n := 3) dL_law_1642 rfl ?_
  refine u_iconst C1 dL_law_1643 (v := nI 0) rfl ?_
  refine u_laldN C1 dL_law_1644 (i := 0) hO.1 hO.2 (by decide) (by decide) ?_
  refine u_lload C1 (i := 6) dL_law_1645 rfl ?_
  refine u_lcmp C1 dL_law_1647 ?_
  exact u_if_eq C1 dL_law_1648 (tgt := 1653) (by decide) (fun _ => hend _ rfl) (fun h => absurd (lg_c9 hv) h)
end ULAW
