/-! the check of sums: it goes through, and changes nothing -/
theorem cw_30 : Cond.constantLong RL 123 (30) ∈ wsL_law := u_r23 _ (List.mem_of_getElem? (i := 12) rfl)
set_option maxHeartbeats 4000000 in
set_option maxRecDepth 100000 in
theorem c_isKept (l : Launch) (D : va_G) (G : w_G) (M N : w_M) (X Y O : Nat) {n ic τ c oc tc sc w0 m0 q cc : Nat} (hX : L_sal G X) (hO : u_is G O 12 ∧ gN G O = 28) (hst : l.stackTraces = false) (h : JJ X Y O M N n ic τ c oc tc sc w0 m0 q cc) (hc9 : c ≤ 512) : u_Gm l D G yL_isKept cL_isKept 12 (some .boolean) 8 200 140 [.ref (gP G X), .ref (gP G O)] M (fun r M2 => r = 1 ∧ M2 = M) := by
  have n8 := h.v.rr.n8
  have i6 := h.v.rr.i6
  have t1 := h.v.rr.t1
  have hw := h.w
  have hm := h.m
  refine u_bodyGz (by decide +kernel) (Nat.le_of_ble_eq_true rfl) rfl (fun p e s m args below meth c9 A H0 Q CC hXT hXH ret => ?_)
  have E : u_E l (u_rk 8 200 140) s A H0 G X := ⟨hXT, hXH, ⟨by decide, by decide⟩, hst, hX⟩
  have C0 := CC 0 0 (by omega) (by omega)
  have tail : u_S p l e (u_rk 8 200 140) s m args below meth c9 12 D A H0 (11 * n + 6 * ic) (66 * n + 36 * ic) Q 259 [(0, .ref (gP G X)), (1, .ref (gP G O)), (2, .long (sL (fun k => iv N (Y + 22) k + iv N (Y + 22) (8 + k)) n)), (4, .long (sL (fun k => iv N (Y + 23) k + iv N (Y + 23) (8 + k)) n)), (6, .long (sL (fun k => iv N (Y + 19) k + iv N (Y + 18) k) n)), (8, .long (sL (fun k => iv N (Y + 32) k) ic)), (10, .int (nI 1)), (11, .int (nI ic))] [] G M := by
    have C0 := CC (11 * n + 6 * ic) (66 * n + 36 * ic) (by omega) (by omega)
    refine u_iload C0 dL_isKept_259 rfl ?_
    refine u_if_eqK (tgt := 387) C0 dL_isKept_261 (by decide) (by omega) (fun c_261 => ?_) (fun c_261 => ?_)
    · exfalso; omega
    · refine u_lload_n C0 dL_isKept_264 rfl ?_
      refine u_aload_n C0 dL_isKept_265 rfl ?_
      refine u_bipush (v := nI 6) C0 dL_isKept_266 (by decide) ?_
      refine u_ialdNv (i := 6) (x := nI w0) C0 dL_isKept_268 hO.1 hO.2 (by decide) (by decide) h.d6 ?_
      refine u_i2l C0 dL_isKept_269 ?_
      refine u_aload_n C0 dL_isKept_270 rfl ?_
      refine u_iconst (v := nI 0) C0 dL_isKept_271 (by decide) ?_
      have C1 := CC (11 * n + 6 * ic + 1) (66 * n + 36 * ic + 6) (by omega) (by omega)
      refine k_sum C0 C1 E h.v (by decide) dL_isKept_272 (Nat.le_of_ble_eq_true rfl) ?_
      refine u_ladd C1 dL_isKept_275 ?_
      refine u_aload_n C1 dL_isKept_276 rfl ?_
      refine u_iconst (v := nI 1) C1 dL_isKept_277 (by decide) ?_
      have C2 := CC (11 * n + 6 * ic + 1 + 1) (66 * n + 36 * ic + 6 + 6) (by omega) (by omega)
      refine k_sum C1 C2 E h.v (by decide) dL_isKept_278 (Nat.le_of_ble_eq_true rfl) ?_
      refine u_lsub C2 dL_isKept_281 ?_
      refine u_aload_n C2 dL_isKept_282 rfl ?_
      refine u_iconst (v := nI 2) C2 dL_isKept_283 (by decide) ?_
      have C3 := CC (11 * n + 6 * ic + 1 + 1 + 1) (66 * n + 36 * ic + 6 + 6 + 6) (by omega) (by omega)
      refine k_sum C2 C3 E h.v (by decide) dL_isKept_284 (Nat.le_of_ble_eq_true rfl) ?_
      refine u_ladd C3 dL_isKept_287 ?_
      refine u_aload_n C3 dL_isKept_288 rfl ?_
      refine u_iconst (v := nI 3) C3 dL_isKept_289 (by decide) ?_
      have C4 := CC (11 * n + 6 * ic + 1 + 1 + 1 + 1) (66 * n + 36 * ic + 6 + 6 + 6 + 6) (by omega) (by omega)
      refine k_sum C3 C4 E h.v (by decide) dL_isKept_290 (Nat.le_of_ble_eq_true rfl) ?_
      refine u_lsub C4 dL_isKept_293 ?_
      refine u_lcmp C4 dL_isKept_294 ?_
      refine u_if_ne (tgt := 387) C4 dL_isKept_295 (by decide) (fun c_295 => ?_) (fun c_295 => ?_)
      · exact absurd (lg_c9 (kept_w h hc9)) c_295
      · refine u_lload C4 dL_isKept_298 rfl ?_
        refine u_aload_n C4 dL_isKept_300 rfl ?_
        refine u_iconst (v := nI 4) C4 dL_isKept_301 (by decide) ?_
        have C5 := CC (11 * n + 6 * ic + 1 + 1 + 1 + 1 + 1) (66 * n + 36 * ic + 6 + 6 + 6 + 6 + 6) (by omega) (by omega)
        refine k_sum C4 C5 E h.v (by decide) dL_isKept_302 (Nat.le_of_ble_eq_true rfl) ?_
        refine u_aload_n C5 dL_isKept_305 rfl ?_
        refine u_iconst (v := nI 5) C5 dL_isKept_306 (by decide) ?_
        have C6 := CC (11 * n + 6 * ic + 1 + 1 + 1 + 1 + 1 + 1) (66 * n + 36 * ic + 6 + 6 + 6 + 6 + 6 + 6) (by omega) (by omega)
        refine k_sum C5 C6 E h.v (by decide) dL_isKept_307 (Nat.le_of_ble_eq_true rfl) ?_
        refine u_lsub C6 dL_isKept_310 ?_
        refine u_aload_n C6 dL_isKept_311 rfl ?_
        refine u_bipush (v := nI 6) C6 dL_isKept_312 (by decide) ?_
        have C7 := CC (11 * n + 6 * ic + 1 + 1 + 1 + 1 + 1 + 1 + 1) (66 * n + 36 * ic + 6 + 6 + 6 + 6 + 6 + 6 + 6) (by omega) (by omega)
        refine k_sum C6 C7 E h.v (by decide) dL_isKept_314 (Nat.le_of_ble_eq_true rfl) ?_
        refine u_lsub C7 dL_isKept_317 ?_
        refine u_lcmp C7 dL_isKept_318 ?_
        refine u_if_ne (tgt := 387) C7 dL_isKept_319 (by decide) (fun c_319 => ?_) (fun c_319 => ?_)
        · exact absurd (lg_c9 (kept_s h hc9)) c_319
        · refine u_lload C7 dL_isKept_322 rfl ?_
          refine u_aload_n C7 dL_isKept_324 rfl ?_
          refine u_bipush (v := nI 7) C7 dL_isKept_325 (by decide) ?_
          refine u_ialdNv (i := 7) (x := nI m0) C7 dL_isKept_327 hO.1 hO.2 (by decide) (by decide) h.d7 ?_
          refine u_i2l C7 dL_isKept_328 ?_
          refine u_aload_n C7 dL_isKept_329 rfl ?_
          refine u_bipush (v := nI 7) C7 dL_isKept_330 (by decide) ?_
          have C8 := CC (11 * n + 6 * ic + 1 + 1 + 1 + 1 + 1 + 1 + 1 + 1) (66 * n + 36 * ic + 6 + 6 + 6 + 6 + 6 + 6 + 6 + 6) (by omega) (by omega)
          refine k_sum C7 C8 E h.v (by decide) dL_isKept_332 (Nat.le_of_ble_eq_true rfl) ?_
          refine u_ladd C8 dL_isKept_335 ?_
          refine u_aload_n C8 dL_isKept_336 rfl ?_
          refine u_bipush (v := nI 8) C8 dL_isKept_337 (by decide) ?_
          have C9 := CC (11 * n + 6 * ic + 1 + 1 + 1 + 1 + 1 + 1 + 1 + 1 + 1) (66 * n + 36 * ic + 6 + 6 + 6 + 6 + 6 + 6 + 6 + 6 + 6) (by omega) (by omega)
          refine k_sum C8 C9 E h.v (by decide) dL_isKept_339 (Nat.le_of_ble_eq_true rfl) ?_
          refine u_lsub C9 dL_isKept_342 ?_
          refine u_aload_n C9 dL_isKept_343 rfl ?_
          refine u_bipush (v := nI 9) C9 dL_isKept_344 (by decide) ?_
          have C10 := CC (11 * n + 6 * ic + 1 + 1 + 1 + 1 + 1 + 1 + 1 + 1 + 1 + 1) (66 * n + 36 * ic + 6 + 6 + 6 + 6 + 6 + 6 + 6 + 6 + 6 + 6) (by omega) (by omega)
          refine k_sum C9 C10 E h.v (by decide) dL_isKept_346 (Nat.le_of_ble_eq_true rfl) ?_
          refine u_lsub C10 dL_isKept_349 ?_
          refine u_lcmp C10 dL_isKept_350 ?_
          refine u_if_ne (tgt := 387) C10 dL_isKept_351 (by decide) (fun c_351 => ?_) (fun c_351 => ?_)
          · exact absurd (lg_c9 (kept_m h hc9)) c_351
          · refine u_aload_n C10 dL_isKept_354 rfl ?_
            refine u_iconst (v := nI 4) C10 dL_isKept_355 (by decide) ?_
            have C11 := CC (11 * n + 6 * ic + 1 + 1 + 1 + 1 + 1 + 1 + 1 + 1 + 1 + 1 + 1) (66 * n + 36 * ic + 6 + 6 + 6 + 6 + 6 + 6 + 6 + 6 + 6 + 6 + 6) (by omega) (by omega)
            refine k_sum C10 C11 E h.v (by decide) dL_isKept_356 (Nat.le_of_ble_eq_true rfl) ?_
            refine u_ldc2 C11 cw_30 dL_isKept_359 ?_
            refine u_aload_n C11 dL_isKept_362 rfl ?_
            refine u_iconst (v := nI 0) C11 dL_isKept_363 (by decide) ?_
            have C12 := CC (11 * n + 6 * ic + 1 + 1 + 1 + 1 + 1 + 1 + 1 + 1 + 1 + 1 + 1 + 1) (66 * n + 36 * ic + 6 + 6 + 6 + 6 + 6 + 6 + 6 + 6 + 6 + 6 + 6 + 6) (by omega) (by omega)
            refine k_sum C11 C12 E h.v (by decide) dL_isKept_364 (Nat.le_of_ble_eq_true rfl) ?_
            refine u_lmul C12 dL_isKept_367 ?_
            refine u_lcmp C12 dL_isKept_368 ?_
            refine u_if_ne (tgt := 387) C12 dL_isKept_369 (by decide) (fun c_369 => ?_) (fun c_369 => ?_)
            · exact absurd (lg_c9 (kept_30 h hc9)) c_369
            · refine u_lload C12 dL_isKept_372 rfl ?_
              refine u_aload_n C12 dL_isKept_374 rfl ?_
              refine u_iconst (v := nI 3) C12 dL_isKept_375 (by decide) ?_
              have C13 := CC (11 * n + 6 * ic + 1 + 1 + 1 + 1 + 1 + 1 + 1 + 1 + 1 + 1 + 1 + 1 + 1) (66 * n + 36 * ic + 6 + 6 + 6 + 6 + 6 + 6 + 6 + 6 + 6 + 6 + 6 + 6 + 6) (by omega) (by omega)
              refine k_sum C12 C13 E h.v (by decide) dL_isKept_376 (Nat.le_of_ble_eq_true rfl) ?_
              refine u_lcmp C13 dL_isKept_379 ?_
              refine u_if_ne (tgt := 387) C13 dL_isKept_380 (by decide) (fun c_380 => ?_) (fun c_380 => ?_)
              · exact absurd (lg_c9 (kept_t h hc9)) c_380
              · refine u_iconst (v := nI 1) C13 dL_isKept_383 (by decide) ?_
                refine u_goto (tgt := 388) C13 dL_isKept_384 (by decide) ?_
                exact ret _ _ _ _ _ _ (by omega) (by omega) dL_isKept_388 (Or.inr rfl) ⟨rfl, rfl⟩
  have loop2 : ∀ (v j : Nat), j + v = ic → u_S p l e (u_rk 8 200 140) s m args below meth c9 12 D A H0 (11 * n + 6 * j) (66 * n + 36 * j) Q 163 [(0, .ref (gP G X)), (1, .ref (gP G O)), (2, .long (sL (fun k => iv N (Y + 22) k + iv N (Y + 22) (8 + k)) n)), (4, .long (sL (fun k => iv N (Y + 23) k + iv N (Y + 23) (8 + k)) n)), (6, .long (sL (fun k => iv N (Y + 19) k + iv N (Y + 18) k) n)), (8, .long (sL (fun k => iv N (Y + 32) k) j)), (10, .int (nI 1)), (11, .int (nI j))] [] G M := by
    intro v
    induction v with
    | zero =>
      intro j hj
      obtain rfl : j = ic := by omega
      have C0 := CC (11 * n + 6 * j) (66 * n + 36 * j) (by omega) (by omega)
      refine u_iload C0 dL_isKept_163 rfl ?_
      refine u_aload_n C0 dL_isKept_165 rfl ?_
      refine u_iconst (v := nI 1) C0 dL_isKept_166 (by decide) ?_
      refine u_ialdNv (i := 1) (x := nI j) C0 dL_isKept_167 hO.1 hO.2 (by decide) (by decide) h.d1 ?_
      refine u_icmp_geK (tgt := 259) C0 dL_isKept_168 (by decide) (by omega) (by omega) (fun c_168 => ?_) (fun c_168 => ?_)
      · exact tail
      · exfalso; omega
    | succ v ih =>
      intro j hj
      have hk : j < ic := by omega
      obtain ⟨f1, f2, f3, f4⟩ := kept_2 h hk
      have C0 := CC (11 * n + 6 * j) (66 * n + 36 * j) (by omega) (by omega)
      refine u_iload C0 dL_isKept_163 rfl ?_
      refine u_aload_n C0 dL_isKept_165 rfl ?_
      refine u_iconst (v := nI 1) C0 dL_isKept_166 (by decide) ?_
      refine u_ialdNv (i := 1) (x := nI ic) C0 dL_isKept_167 hO.1 hO.2 (by decide) (by decide) h.d1 ?_
      refine u_icmp_geK (tgt := 259) C0 dL_isKept_168 (by decide) (by omega) (by omega) (fun c_168 => ?_) (fun c_168 => ?_)
      · exfalso; omega
      · refine u_lload C0 dL_isKept_171 rfl ?_
        refine u_aload_n C0 dL_isKept_173 rfl ?_
        refine u_iload C0 dL_isKept_174 rfl ?_
        refine u_iconst (v := nI 1) C0 dL_isKept_176 (by decide) ?_
        have C1 := CC (11 * n + 6 * j + 1) (66 * n + 36 * j + 6) (by omega) (by omega)
        refine k_oin C0 C1 E h.v hk (by decide) dL_isKept_177 (Nat.le_of_ble_eq_true rfl) oi_1 ?_
        refine u_i2l C1 dL_isKept_180 ?_
        refine u_ladd C1 dL_isKept_181 ?_
        refine u_lstore C1 dL_isKept_182 (by decide) ?_
        refine u_iload C1 dL_isKept_184 rfl ?_
        refine u_if_eqK (tgt := 250) C1 dL_isKept_186 (by decide) (by omega) (fun c_186 => ?_) (fun c_186 => ?_)
        · exfalso; omega
        · refine u_aload_n C1 dL_isKept_189 rfl ?_
          refine u_iload C1 dL_isKept_190 rfl ?_
          refine u_iconst (v := nI 0) C1 dL_isKept_192 (by decide) ?_
          have C2 := CC (11 * n + 6 * j + 1 + 1) (66 * n + 36 * j + 6 + 6) (by omega) (by omega)
          refine k_oin C1 C2 E h.v hk (by decide) dL_isKept_193 (Nat.le_of_ble_eq_true rfl) oi_0 ?_
          refine u_if_lt (tgt := 250) C2 dL_isKept_196 (by decide) (fun c_196 => ?_) (fun c_196 => ?_)
          · exact absurd c_196 (fun z => by rw [i_lt, i_0] at z; omega)
          · refine u_aload_n C2 dL_isKept_199 rfl ?_
            refine u_iload C2 dL_isKept_200 rfl ?_
            refine u_iconst (v := nI 0) C2 dL_isKept_202 (by decide) ?_
            have C3 := CC (11 * n + 6 * j + 1 + 1 + 1) (66 * n + 36 * j + 6 + 6 + 6) (by omega) (by omega)
            refine k_oin C2 C3 E h.v hk (by decide) dL_isKept_203 (Nat.le_of_ble_eq_true rfl) oi_0 ?_
            refine u_aload_n C3 dL_isKept_206 rfl ?_
            refine u_bipush (v := nI 9) C3 dL_isKept_207 (by decide) ?_
            refine u_iload C3 dL_isKept_209 rfl ?_
            refine u_iaddK C3 dL_isKept_211 ?_
            refine u_ialdNv (i := 9 + j) (x := iv N (Y + 29) j) C3 dL_isKept_212 hO.1 hO.2 (by omega) (by decide) (h.d9 j hk).1 ?_
            refine u_icmp_gt (tgt := 250) C3 dL_isKept_213 (by decide) (fun c_213 => ?_) (fun c_213 => ?_)
            · exact absurd c_213 (fun z => by rw [i_lt] at z; omega)
            · refine u_aload_n C3 dL_isKept_216 rfl ?_
              refine u_iload C3 dL_isKept_217 rfl ?_
              refine u_iconst (v := nI 4) C3 dL_isKept_219 (by decide) ?_
              have C4 := CC (11 * n + 6 * j + 1 + 1 + 1 + 1) (66 * n + 36 * j + 6 + 6 + 6 + 6) (by omega) (by omega)
              refine k_oin C3 C4 E h.v hk (by decide) dL_isKept_220 (Nat.le_of_ble_eq_true rfl) oi_4 ?_
              refine u_aload_n C4 dL_isKept_223 rfl ?_
              refine u_iload C4 dL_isKept_224 rfl ?_
              refine u_iconst (v := nI 3) C4 dL_isKept_226 (by decide) ?_
              have C5 := CC (11 * n + 6 * j + 1 + 1 + 1 + 1 + 1) (66 * n + 36 * j + 6 + 6 + 6 + 6 + 6) (by omega) (by omega)
              refine k_oin C4 C5 E h.v hk (by decide) dL_isKept_227 (Nat.le_of_ble_eq_true rfl) oi_3 ?_
              refine u_icmp_lt (tgt := 250) C5 dL_isKept_230 (by decide) (fun c_230 => ?_) (fun c_230 => ?_)
              · exact absurd c_230 (fun z => by rw [i_lt] at z; omega)
              · refine u_aload_n C5 dL_isKept_233 rfl ?_
                refine u_iload C5 dL_isKept_234 rfl ?_
                refine u_iconst (v := nI 4) C5 dL_isKept_236 (by decide) ?_
                have C6 := CC (11 * n + 6 * j + 1 + 1 + 1 + 1 + 1 + 1) (66 * n + 36 * j + 6 + 6 + 6 + 6 + 6 + 6) (by omega) (by omega)
                refine k_oin C5 C6 E h.v hk (by decide) dL_isKept_237 (Nat.le_of_ble_eq_true rfl) oi_4 ?_
                refine u_aload_n C6 dL_isKept_240 rfl ?_
                refine u_iconst (v := nI 5) C6 dL_isKept_241 (by decide) ?_
                refine u_ialdNv (i := 5) (x := nI τ) C6 dL_isKept_242 hO.1 hO.2 (by decide) (by decide) h.d5 ?_
                refine u_icmp_gt (tgt := 250) C6 dL_isKept_243 (by decide) (fun c_243 => ?_) (fun c_243 => ?_)
                · exact absurd c_243 (fun z => by rw [i_lt, i_N (by omega)] at z; omega)
                · refine u_iconst (v := nI 1) C6 dL_isKept_246 (by decide) ?_
                  refine u_goto (tgt := 251) C6 dL_isKept_247 (by decide) ?_
                  refine u_istore C6 dL_isKept_251 (by decide) ?_
                  refine u_iincK (b := 1) C6 dL_isKept_253 (by decide) rfl ?_
                  refine u_goto (tgt := 163) C6 dL_isKept_256 (by decide) ?_
                  exact u_loc [0, 1, 2, 4, 6, 8, 10, 11] rfl (ih (j + 1) (by omega))
  have loop1 : ∀ (v j : Nat), j + v = n → u_S p l e (u_rk 8 200 140) s m args below meth c9 12 D A H0 (11 * j) (66 * j) Q 17 [(0, .ref (gP G X)), (1, .ref (gP G O)), (2, .long (sL (fun k => iv N (Y + 22) k + iv N (Y + 22) (8 + k)) j)), (4, .long (sL (fun k => iv N (Y + 23) k + iv N (Y + 23) (8 + k)) j)), (6, .long (sL (fun k => iv N (Y + 19) k + iv N (Y + 18) k) j)), (8, .long 0), (10, .int (nI 1)), (11, .int (nI j))] [] G M := by
    intro v
    induction v with
    | zero =>
      intro j hj
      obtain rfl : j = n := by omega
      have C0 := CC (11 * j) (66 * j) (by omega) (by omega)
      refine u_iload C0 dL_isKept_17 rfl ?_
      refine u_aload_n C0 dL_isKept_19 rfl ?_
      refine u_iconst (v := nI 0) C0 dL_isKept_20 (by decide) ?_
      refine u_ialdNv (i := 0) (x := nI j) C0 dL_isKept_21 hO.1 hO.2 (by decide) (by decide) h.d0 ?_
      refine u_icmp_geK (tgt := 160) C0 dL_isKept_22 (by decide) (by omega) (by omega) (fun c_22 => ?_) (fun c_22 => ?_)
      · refine u_iconst (v := nI 0) C0 dL_isKept_160 (by decide) ?_
        refine u_istore C0 dL_isKept_161 (by decide) ?_
        exact u_loc [0, 1, 2, 4, 6, 8, 10, 11] rfl (loop2 ic 0 (by omega))
      · exfalso; omega
    | succ v ih =>
      intro j hj
      have hk : j < n := by omega
      obtain ⟨f1, f2, f3, f4, f5⟩ := kept_1 h hk
      have C0 := CC (11 * j) (66 * j) (by omega) (by omega)
      refine u_iload C0 dL_isKept_17 rfl ?_
      refine u_aload_n C0 dL_isKept_19 rfl ?_
      refine u_iconst (v := nI 0) C0 dL_isKept_20 (by decide) ?_
      refine u_ialdNv (i := 0) (x := nI n) C0 dL_isKept_21 hO.1 hO.2 (by decide) (by decide) h.d0 ?_
      refine u_icmp_geK (tgt := 160) C0 dL_isKept_22 (by decide) (by omega) (by omega) (fun c_22 => ?_) (fun c_22 => ?_)
      · exfalso; omega
      · refine u_lload_n C0 dL_isKept_25 rfl ?_
        refine u_aload_n C0 dL_isKept_26 rfl ?_
        refine u_iload C0 dL_isKept_27 rfl ?_
        refine u_iconst (v := nI 0) C0 dL_isKept_29 (by decide) ?_
        have C1 := CC (11 * j + 1) (66 * j + 6) (by omega) (by omega)
        refine k_of C0 C1 E h.v hk (by decide) dL_isKept_30 (Nat.le_of_ble_eq_true rfl) of_0 ?_
        refine u_aload_n C1 dL_isKept_33 rfl ?_
        refine u_iload C1 dL_isKept_34 rfl ?_
        refine u_iconst (v := nI 2) C1 dL_isKept_36 (by decide) ?_
        have C2 := CC (11 * j + 1 + 1) (66 * j + 6 + 6) (by omega) (by omega)
        refine k_of C1 C2 E h.v hk (by decide) dL_isKept_37 (Nat.le_of_ble_eq_true rfl) of_2 ?_
        refine u_iadd C2 dL_isKept_40 ?_
        refine u_i2l C2 dL_isKept_41 ?_
        refine u_ladd C2 dL_isKept_42 ?_
        refine u_lstore_n C2 dL_isKept_43 (by decide) ?_
        refine u_lload C2 dL_isKept_44 rfl ?_
        refine u_aload_n C2 dL_isKept_46 rfl ?_
        refine u_iload C2 dL_isKept_47 rfl ?_
        refine u_iconst (v := nI 1) C2 dL_isKept_49 (by decide) ?_
        have C3 := CC (11 * j + 1 + 1 + 1) (66 * j + 6 + 6 + 6) (by omega) (by omega)
        refine k_of C2 C3 E h.v hk (by decide) dL_isKept_50 (Nat.le_of_ble_eq_true rfl) of_1 ?_
        refine u_aload_n C3 dL_isKept_53 rfl ?_
        refine u_iload C3 dL_isKept_54 rfl ?_
        refine u_iconst (v := nI 3) C3 dL_isKept_56 (by decide) ?_
        have C4 := CC (11 * j + 1 + 1 + 1 + 1) (66 * j + 6 + 6 + 6 + 6) (by omega) (by omega)
        refine k_of C3 C4 E h.v hk (by decide) dL_isKept_57 (Nat.le_of_ble_eq_true rfl) of_3 ?_
        refine u_iadd C4 dL_isKept_60 ?_
        refine u_i2l C4 dL_isKept_61 ?_
        refine u_ladd C4 dL_isKept_62 ?_
        refine u_lstore C4 dL_isKept_63 (by decide) ?_
        refine u_lload C4 dL_isKept_65 rfl ?_
        refine u_aload_n C4 dL_isKept_67 rfl ?_
        refine u_iload C4 dL_isKept_68 rfl ?_
        refine u_iconst (v := nI 4) C4 dL_isKept_70 (by decide) ?_
        have C5 := CC (11 * j + 1 + 1 + 1 + 1 + 1) (66 * j + 6 + 6 + 6 + 6 + 6) (by omega) (by omega)
        refine k_of C4 C5 E h.v hk (by decide) dL_isKept_71 (Nat.le_of_ble_eq_true rfl) of_4 ?_
        refine u_aload_n C5 dL_isKept_74 rfl ?_
        refine u_iload C5 dL_isKept_75 rfl ?_
        refine u_iconst (v := nI 5) C5 dL_isKept_77 (by decide) ?_
        have C6 := CC (11 * j + 1 + 1 + 1 + 1 + 1 + 1) (66 * j + 6 + 6 + 6 + 6 + 6 + 6) (by omega) (by omega)
        refine k_of C5 C6 E h.v hk (by decide) dL_isKept_78 (Nat.le_of_ble_eq_true rfl) of_5 ?_
        refine u_iadd C6 dL_isKept_81 ?_
        refine u_i2l C6 dL_isKept_82 ?_
        refine u_ladd C6 dL_isKept_83 ?_
        refine u_lstore C6 dL_isKept_84 (by decide) ?_
        refine u_iload C6 dL_isKept_86 rfl ?_
        refine u_if_eqK (tgt := 151) C6 dL_isKept_88 (by decide) (by omega) (fun c_88 => ?_) (fun c_88 => ?_)
        · exfalso; omega
        · refine u_aload_n C6 dL_isKept_91 rfl ?_
          refine u_iload C6 dL_isKept_92 rfl ?_
          refine u_bipush (v := nI 7) C6 dL_isKept_94 (by decide) ?_
          have C7 := CC (11 * j + 1 + 1 + 1 + 1 + 1 + 1 + 1) (66 * j + 6 + 6 + 6 + 6 + 6 + 6 + 6) (by omega) (by omega)
          refine k_of C6 C7 E h.v hk (by decide) dL_isKept_96 (Nat.le_of_ble_eq_true rfl) of_7 ?_
          refine u_bipush (v := nI 30) C7 dL_isKept_99 (by decide) ?_
          refine u_icmp_gt (tgt := 151) C7 dL_isKept_101 (by decide) (fun c_101 => ?_) (fun c_101 => ?_)
          · exact absurd c_101 (fun z => by rw [i_lt, i_N (by omega)] at z; omega)
          · refine u_aload_n C7 dL_isKept_104 rfl ?_
            refine u_iload C7 dL_isKept_105 rfl ?_
            refine u_bipush (v := nI 8) C7 dL_isKept_107 (by decide) ?_
            have C8 := CC (11 * j + 1 + 1 + 1 + 1 + 1 + 1 + 1 + 1) (66 * j + 6 + 6 + 6 + 6 + 6 + 6 + 6 + 6) (by omega) (by omega)
            refine k_of C7 C8 E h.v hk (by decide) dL_isKept_109 (Nat.le_of_ble_eq_true rfl) of_8 ?_
            refine u_bipush (v := nI 30) C8 dL_isKept_112 (by decide) ?_
            refine u_icmp_gt (tgt := 151) C8 dL_isKept_114 (by decide) (fun c_114 => ?_) (fun c_114 => ?_)
            · exact absurd c_114 (fun z => by rw [i_lt, i_N (by omega)] at z; omega)
            · refine u_aload_n C8 dL_isKept_117 rfl ?_
              refine u_iload C8 dL_isKept_118 rfl ?_
              refine u_iconst (v := nI 1) C8 dL_isKept_120 (by decide) ?_
              have C9 := CC (11 * j + 1 + 1 + 1 + 1 + 1 + 1 + 1 + 1 + 1) (66 * j + 6 + 6 + 6 + 6 + 6 + 6 + 6 + 6 + 6) (by omega) (by omega)
              refine k_of C8 C9 E h.v hk (by decide) dL_isKept_121 (Nat.le_of_ble_eq_true rfl) of_1 ?_
              refine u_if_lt (tgt := 151) C9 dL_isKept_124 (by decide) (fun c_124 => ?_) (fun c_124 => ?_)
              · exact absurd c_124 (fun z => by rw [i_lt, i_0] at z; omega)
              · refine u_aload_n C9 dL_isKept_127 rfl ?_
                refine u_iload C9 dL_isKept_128 rfl ?_
                refine u_iconst (v := nI 3) C9 dL_isKept_130 (by decide) ?_
                have C10 := CC (11 * j + 1 + 1 + 1 + 1 + 1 + 1 + 1 + 1 + 1 + 1) (66 * j + 6 + 6 + 6 + 6 + 6 + 6 + 6 + 6 + 6 + 6) (by omega) (by omega)
                refine k_of C9 C10 E h.v hk (by decide) dL_isKept_131 (Nat.le_of_ble_eq_true rfl) of_3 ?_
                refine u_if_lt (tgt := 151) C10 dL_isKept_134 (by decide) (fun c_134 => ?_) (fun c_134 => ?_)
                · exact absurd c_134 (fun z => by rw [i_lt, i_0] at z; omega)
                · refine u_aload_n C10 dL_isKept_137 rfl ?_
                  refine u_iload C10 dL_isKept_138 rfl ?_
                  refine u_iconst (v := nI 4) C10 dL_isKept_140 (by decide) ?_
                  have C11 := CC (11 * j + 1 + 1 + 1 + 1 + 1 + 1 + 1 + 1 + 1 + 1 + 1) (66 * j + 6 + 6 + 6 + 6 + 6 + 6 + 6 + 6 + 6 + 6 + 6) (by omega) (by omega)
                  refine k_of C10 C11 E h.v hk (by decide) dL_isKept_141 (Nat.le_of_ble_eq_true rfl) of_4 ?_
                  refine u_if_lt (tgt := 151) C11 dL_isKept_144 (by decide) (fun c_144 => ?_) (fun c_144 => ?_)
                  · exact absurd c_144 (fun z => by rw [i_lt, i_0] at z; omega)
                  · refine u_iconst (v := nI 1) C11 dL_isKept_147 (by decide) ?_
                    refine u_goto (tgt := 152) C11 dL_isKept_148 (by decide) ?_
                    refine u_istore C11 dL_isKept_152 (by decide) ?_
                    refine u_iincK (b := 1) C11 dL_isKept_154 (by decide) rfl ?_
                    refine u_goto (tgt := 17) C11 dL_isKept_157 (by decide) ?_
                    exact u_loc [0, 1, 2, 4, 6, 8, 10, 11] rfl (ih (j + 1) (by omega))
  refine u_lconst (v := 0) C0 dL_isKept_0 (by decide) ?_
  refine u_lstore_n C0 dL_isKept_1 (by decide) ?_
  refine u_lconst (v := 0) C0 dL_isKept_2 (by decide) ?_
  refine u_lstore C0 dL_isKept_3 (by decide) ?_
  refine u_lconst (v := 0) C0 dL_isKept_5 (by decide) ?_
  refine u_lstore C0 dL_isKept_6 (by decide) ?_
  refine u_lconst (v := 0) C0 dL_isKept_8 (by decide) ?_
  refine u_lstore C0 dL_isKept_9 (by decide) ?_
  refine u_iconst (v := nI 1) C0 dL_isKept_11 (by decide) ?_
  refine u_istore C0 dL_isKept_12 (by decide) ?_
  refine u_iconst (v := nI 0) C0 dL_isKept_14 (by decide) ?_
  refine u_istore C0 dL_isKept_15 (by decide) ?_
  exact u_loc [0, 1, 2, 4, 6, 8, 10, 11] rfl (loop1 n 0 (by omega))
