/-! one step of the law: its cases -/
set_option maxHeartbeats 4000000 in
set_option maxRecDepth 100000 in
theorem st_sec {p : Program} {l : Launch} {e : Env} {s : State} {m : MethodId} {args : Array Value} {below : List Frame} {meth : Method} {c8 : Code} {A : Nat → Prop} {H0 : Heap} {Q : State → Prop} {D : va_G} {G : w_G} {M N : w_M} {X Y O : Nat} {n ic τ c oc tc sc w0 m0 q cc k9 wh a b at9 : Nat} (CC : ∀ cells slots, cells ≤ 60 → slots ≤ 6 * 60 → u_C p (u_rk 10 260 60) s m args c8 cL_step RL 19 D A H0 cells slots G) (E : u_E l (u_rk 10 260 60) s A H0 G X) (hO : u_is G O 12 ∧ gN G O = 28) (h : JJ X Y O M N n ic τ c oc tc sc w0 m0 q cc) (hO9 : X + 3000 ≤ O) (hk9 : k9 < 200) (hc2 : c ≤ 2 * k9) (hq : q ≤ k9) (ha : a < 2 ^ 31) (hb : b < 2 ^ 31) (ret : ∀ (pc : Nat) (lv : List (Nat × Value)) (r : Int32) (M2 : w_M) (cells slots : Nat), cells ≤ 60 → slots ≤ 6 * 60 → decode cL_step pc = .ok (.ireturn, 1) → r = 0 ∨ r = 1 → (r = 1 ∧ JE X Y O (k9 + 1) M2) → u_S p l e (u_rk 10 260 60) s m args below meth c8 19 D A H0 cells slots Q pc lv [.int r] G M2)  : u_S p l e (u_rk 10 260 60) s m args below meth c8 19 D A H0 0 0 Q 108 [(0, .ref (gP G X)), (1, .ref (gP G O)), (2, .int (nI wh)), (3, .int (nI a)), (4, .int (nI b)), (5, .int (nI at9))] [] G M := by
  have n8 := h.v.rr.n8
  have i6 := h.v.rr.i6
  have t1 := h.v.rr.t1
  have o6 := h.v.o6
  have t6 := h.t6
  have s20 := h.s20
  have hw9 := h.w
  have hm9 := h.m
  have C0 := CC 0 0 (by omega) (by omega)
  have k127 : ∀ u : Nat, u ≤ 2999 → u_S p l e (u_rk 10 260 60) s m args below meth c8 19 D A H0 0 0 Q 127 [(0, .ref (gP G X)), (1, .ref (gP G O)), (2, .int (nI wh)), (3, .int (nI a)), (4, .int (nI b)), (5, .int (nI at9))] [.int (nI u)] G M := by
    intro u hu
    have k148 : ∀ w : Nat, w ≤ 2999 → u_S p l e (u_rk 10 260 60) s m args below meth c8 19 D A H0 0 0 Q 148 [(0, .ref (gP G X)), (1, .ref (gP G O)), (2, .int (nI wh)), (3, .int (nI a)), (4, .int (nI b)), (5, .int (nI at9)), (6, .int (nI u))] [.int (nI w)] G M := by
      intro w hw
      refine u_istore C0 dL_step_148 (by decide) ?_
      refine u_iload_n C0 dL_step_150 rfl ?_
      refine u_sipush (v := nI 128) C0 dL_step_151 (by decide) ?_
      refine u_idivK C0 dL_step_154 (by omega) (by omega) (by omega) ?_
      refine u_sipush (v := nI 2000) C0 dL_step_155 (by decide) ?_
      refine u_iremK C0 dL_step_158 (by omega) (by omega) (by omega) ?_
      refine u_istore C0 dL_step_159 (by decide) ?_
      refine u_aload_n C0 dL_step_161 rfl ?_
      refine u_iconst (v := nI 1) C0 dL_step_162 (by decide) ?_
      refine u_iload_n C0 dL_step_163 rfl ?_
      refine u_bipush (v := nI 100) C0 dL_step_164 (by decide) ?_
      refine u_iremK C0 dL_step_166 (by omega) (by omega) (by omega) ?_
      refine u_iaddK C0 dL_step_167 ?_
      refine u_iload C0 dL_step_168 rfl ?_
      refine u_iload C0 dL_step_170 rfl ?_
      refine u_iload C0 dL_step_172 rfl ?_
      have C1 := CC (0 + 1) (0 + 6) (by omega) (by omega)
      refine k_section C0 C1 E h.v (by omega) (a := 1 + a % 100) (u := u) (w := w) (d := a / 128 % 2000) (by omega) (by omega) (by omega) (by omega) (by omega) dL_step_174 (Nat.le_of_ble_eq_true rfl) (fun z1 z2 => ?_) (fun z => ?_)
      · obtain ⟨T, e17, e18, e22, e22l, oo⟩ := t_sec h (by omega) z1 z2 (a := 1 + a % 100) (u := u) (w := w) (d := a / 128 % 2000) (by omega) (by omega) (by omega) (by omega)
        generalize m_tell M X 5 (nI (1 + a % 100)) (nI u) (nI w) (nI (a / 128 % 2000)) 0 = M2 at *
        generalize gE_sec N Y n (nI (1 + a % 100)) (nI u) (nI w) (nI (a / 128 % 2000)) = N2 at *
        have hm200 : ¬ nI n = -200 := fun z => absurd (show nI n < 0 by rw [z]; decide) (nI_pos (by omega))
        refine u_istore C1 dL_step_177 (by decide) ?_
        refine u_aload_n C1 dL_step_179 rfl ?_
        refine u_iconst (v := nI 0) C1 dL_step_180 (by decide) ?_
        refine u_dup2 C1 dL_step_181 rfl rfl ?_
        refine u_ialdNv (i := 0) (x := nI n) C1 dL_step_182 hO.1 hO.2 (by decide) (by decide) (by rw [T.2.2.2 _ _ (by omega)]; exact h.d0) ?_
        refine u_iload C1 dL_step_183 rfl ?_
        refine u_if_geK (tgt := 192) C1 dL_step_185 (by decide) (by omega) ?_
        refine u_iconst (v := nI 1) C1 dL_step_192 (by decide) ?_
        refine u_iaddK C1 dL_step_193 ?_
        refine u_iastN (i := 0) C1 dL_step_194 hO.1 hO.2 (by decide) (by decide) ?_
        refine u_aload_n C1 dL_step_195 rfl ?_
        refine u_bipush (v := nI 6) C1 dL_step_196 (by decide) ?_
        refine u_dup2 C1 dL_step_198 rfl rfl ?_
        refine u_ialdNv (i := 6) (x := nI w0) C1 dL_step_199 hO.1 hO.2 (by decide) (by decide) (by simp (disch := omega) only [iv_n, iv_s]; rw [T.2.2.2 _ _ (by omega)]; exact h.d6) ?_
        refine u_iload C1 dL_step_200 rfl ?_
        refine u_if_geK (tgt := 209) C1 dL_step_202 (by decide) (by omega) ?_
        refine u_iload C1 dL_step_209 rfl ?_
        refine u_iload C1 dL_step_211 rfl ?_
        refine u_iaddK C1 dL_step_213 ?_
        refine u_iaddK C1 dL_step_214 ?_
        refine u_iastN (i := 6) C1 dL_step_215 hO.1 hO.2 (by decide) (by decide) ?_
        refine u_aload_n C1 dL_step_216 rfl ?_
        refine u_bipush (v := nI 7) C1 dL_step_217 (by decide) ?_
        refine u_dup2 C1 dL_step_219 rfl rfl ?_
        refine u_ialdNv (i := 7) (x := nI m0) C1 dL_step_220 hO.1 hO.2 (by decide) (by decide) (by simp (disch := omega) only [iv_n, iv_s]; rw [T.2.2.2 _ _ (by omega)]; exact h.d7) ?_
        refine u_iload C1 dL_step_221 rfl ?_
        refine u_if_geK (tgt := 230) C1 dL_step_223 (by decide) (by omega) ?_
        refine u_iload C1 dL_step_230 rfl ?_
        refine u_iaddK C1 dL_step_232 ?_
        refine u_iastN (i := 7) C1 dL_step_233 hO.1 hO.2 (by decide) (by decide) ?_
        refine u_aload_n C1 dL_step_234 rfl ?_
        refine u_bipush (v := nI 27) C1 dL_step_235 (by decide) ?_
        refine u_iload C1 dL_step_237 rfl ?_
        refine u_if_neK (tgt := 251) C1 dL_step_239 (by decide) (by omega) (fun c_239 => ?_) (fun c_239 => ?_)
        · refine u_aload_n C1 dL_step_251 rfl ?_
          refine u_bipush (v := nI 27) C1 dL_step_252 (by decide) ?_
          refine u_ialdNv (i := 27) (x := (iv M O 27)) C1 dL_step_254 hO.1 hO.2 (by decide) (by decide) (by simp (disch := omega) only [iv_n]; rw [T.2.2.2 _ _ (by omega)]) ?_
          refine u_iastN (i := 27) C1 dL_step_255 hO.1 hO.2 (by decide) (by decide) ?_
          have J := jj_sec h hO9 T oo (x := iv M O 27) ((h.d27 (by omega)).trans (oo _ _ (by omega) (by omega) (by omega) (by omega)).symm) (by omega) (by omega)
          generalize hM3 : wi (wi (wi (wi M2 O 0 (nI (n + 1))) O 6 (nI (w0 + (u + w)))) O 7 (nI (m0 + a / 128 % 2000))) O 27 (iv M O 27) = M3 at *
          refine u_iload C1 dL_step_256 rfl ?_
          refine u_sipush (v := (-200)) C1 dL_step_258 (by decide) ?_
          refine u_icmp_ne (tgt := 286) C1 dL_step_261 (by decide) (fun c_261 => ?_) (fun c_261 => ?_)
          · refine u_iload C1 dL_step_286 rfl ?_
            refine u_aload_n C1 dL_step_288 rfl ?_
            refine u_iconst (v := nI 0) C1 dL_step_289 (by decide) ?_
            refine u_ialdNv (i := 0) (x := nI (n + 1)) C1 dL_step_290 hO.1 hO.2 (by decide) (by decide) J.d0 ?_
            refine u_iconst (v := nI 1) C1 dL_step_291 (by decide) ?_
            refine u_isubK C1 dL_step_292 (by omega) (by omega) ?_
            refine u_icmp_neK (tgt := 351) C1 dL_step_293 (by decide) (by omega) (by omega) (fun c_293 => ?_) (fun c_293 => ?_)
            · exfalso; omega
            · refine u_aload_n C1 dL_step_296 rfl ?_
              refine u_iconst (v := nI 5) C1 dL_step_297 (by decide) ?_
              refine u_ialdNv (i := 5) (x := nI τ) C1 dL_step_298 hO.1 hO.2 (by decide) (by decide) J.d5 ?_
              refine u_if_neK (tgt := 351) C1 dL_step_299 (by decide) (by omega) (fun c_299 => ?_) (fun c_299 => ?_)
              · exfalso; omega
              · refine u_aload_n C1 dL_step_302 rfl ?_
                refine u_iload C1 dL_step_303 rfl ?_
                refine u_iconst (v := nI 5) C1 dL_step_305 (by decide) ?_
                have C2 := CC (0 + 1 + 1) (0 + 6 + 6) (by omega) (by omega)
                refine k_of C1 C2 E J.v (k := n) (x := nI (a / 128 % 2000)) (by omega) (by decide) dL_step_306 (Nat.le_of_ble_eq_true rfl) (of_5.trans e18) ?_
                refine u_iload C2 dL_step_309 rfl ?_
                refine u_icmp_neK (tgt := 351) C2 dL_step_311 (by decide) (by omega) (by omega) (fun c_311 => ?_) (fun c_311 => ?_)
                · exfalso; omega
                · refine u_aload_n C2 dL_step_314 rfl ?_
                  refine u_iload C2 dL_step_315 rfl ?_
                  refine u_bipush (v := nI 6) C2 dL_step_317 (by decide) ?_
                  have C3 := CC (0 + 1 + 1 + 1) (0 + 6 + 6 + 6) (by omega) (by omega)
                  refine k_of C2 C3 E J.v (k := n) (x := nI (a / 128 % 2000 / (1 + a % 100) + (u + w) / (1 + a % 100))) (by omega) (by decide) dL_step_319 (Nat.le_of_ble_eq_true rfl) (of_6.trans (lev_new e17 e18 e22 e22l (by omega) (by omega) (by omega) (by omega))) ?_
                  refine u_iload C3 dL_step_322 rfl ?_
                  refine u_iconst (v := nI 1) C3 dL_step_324 (by decide) ?_
                  refine u_iload_n C3 dL_step_325 rfl ?_
                  refine u_bipush (v := nI 100) C3 dL_step_326 (by decide) ?_
                  refine u_iremK C3 dL_step_328 (by omega) (by omega) (by omega) ?_
                  refine u_iaddK C3 dL_step_329 ?_
                  refine u_idivK C3 dL_step_330 (by omega) (by omega) (by omega) ?_
                  refine u_iload C3 dL_step_331 rfl ?_
                  refine u_iload C3 dL_step_333 rfl ?_
                  refine u_iaddK C3 dL_step_335 ?_
                  refine u_iconst (v := nI 1) C3 dL_step_336 (by decide) ?_
                  refine u_iload_n C3 dL_step_337 rfl ?_
                  refine u_bipush (v := nI 100) C3 dL_step_338 (by decide) ?_
                  refine u_iremK C3 dL_step_340 (by omega) (by omega) (by omega) ?_
                  refine u_iaddK C3 dL_step_341 ?_
                  refine u_idivK C3 dL_step_342 (by omega) (by omega) (by omega) ?_
                  refine u_iaddK C3 dL_step_343 ?_
                  refine u_icmp_neK (tgt := 351) C3 dL_step_344 (by decide) (by have z1 := Nat.div_le_self (a / 128 % 2000) (1 + a % 100); have z2 := Nat.div_le_self (u + w) (1 + a % 100); omega) (by have z1 := Nat.div_le_self (a / 128 % 2000) (1 + a % 100); have z2 := Nat.div_le_self (u + w) (1 + a % 100); omega) (fun c_344 => ?_) (fun c_344 => ?_)
                  · exfalso; omega
                  · refine u_iconst (v := nI 1) C3 dL_step_347 (by decide) ?_
                    refine u_goto (tgt := 352) C3 dL_step_348 (by decide) ?_
                    exact ret _ _ _ _ _ _ (by omega) (by omega) dL_step_352 (Or.inr rfl) ⟨rfl, _, _, _, _, _, _, _, _, _, _, _, _, J, by omega, by omega⟩
          · exact absurd c_261 hm200
        · refine u_iconst (v := nI 1) C1 dL_step_242 (by decide) ?_
          refine u_iload_n C1 dL_step_243 rfl ?_
          refine u_bipush (v := nI 100) C1 dL_step_244 (by decide) ?_
          refine u_iremK C1 dL_step_246 (by omega) (by omega) (by omega) ?_
          refine u_iaddK C1 dL_step_247 ?_
          refine u_goto (tgt := 255) C1 dL_step_248 (by decide) ?_
          refine u_iastN (i := 27) C1 dL_step_255 hO.1 hO.2 (by decide) (by decide) ?_
          have J := jj_sec h hO9 T oo (x := nI (1 + a % 100)) (by rw [c_239] at e17; exact e17.symm) (by omega) (by omega)
          generalize hM3 : wi (wi (wi (wi M2 O 0 (nI (n + 1))) O 6 (nI (w0 + (u + w)))) O 7 (nI (m0 + a / 128 % 2000))) O 27 (nI (1 + a % 100)) = M3 at *
          refine u_iload C1 dL_step_256 rfl ?_
          refine u_sipush (v := (-200)) C1 dL_step_258 (by decide) ?_
          refine u_icmp_ne (tgt := 286) C1 dL_step_261 (by decide) (fun c_261 => ?_) (fun c_261 => ?_)
          · refine u_iload C1 dL_step_286 rfl ?_
            refine u_aload_n C1 dL_step_288 rfl ?_
            refine u_iconst (v := nI 0) C1 dL_step_289 (by decide) ?_
            refine u_ialdNv (i := 0) (x := nI (n + 1)) C1 dL_step_290 hO.1 hO.2 (by decide) (by decide) J.d0 ?_
            refine u_iconst (v := nI 1) C1 dL_step_291 (by decide) ?_
            refine u_isubK C1 dL_step_292 (by omega) (by omega) ?_
            refine u_icmp_neK (tgt := 351) C1 dL_step_293 (by decide) (by omega) (by omega) (fun c_293 => ?_) (fun c_293 => ?_)
            · exfalso; omega
            · refine u_aload_n C1 dL_step_296 rfl ?_
              refine u_iconst (v := nI 5) C1 dL_step_297 (by decide) ?_
              refine u_ialdNv (i := 5) (x := nI τ) C1 dL_step_298 hO.1 hO.2 (by decide) (by decide) J.d5 ?_
              refine u_if_neK (tgt := 351) C1 dL_step_299 (by decide) (by omega) (fun c_299 => ?_) (fun c_299 => ?_)
              · exfalso; omega
              · refine u_aload_n C1 dL_step_302 rfl ?_
                refine u_iload C1 dL_step_303 rfl ?_
                refine u_iconst (v := nI 5) C1 dL_step_305 (by decide) ?_
                have C2 := CC (0 + 1 + 1) (0 + 6 + 6) (by omega) (by omega)
                refine k_of C1 C2 E J.v (k := n) (x := nI (a / 128 % 2000)) (by omega) (by decide) dL_step_306 (Nat.le_of_ble_eq_true rfl) (of_5.trans e18) ?_
                refine u_iload C2 dL_step_309 rfl ?_
                refine u_icmp_neK (tgt := 351) C2 dL_step_311 (by decide) (by omega) (by omega) (fun c_311 => ?_) (fun c_311 => ?_)
                · exfalso; omega
                · refine u_aload_n C2 dL_step_314 rfl ?_
                  refine u_iload C2 dL_step_315 rfl ?_
                  refine u_bipush (v := nI 6) C2 dL_step_317 (by decide) ?_
                  have C3 := CC (0 + 1 + 1 + 1) (0 + 6 + 6 + 6) (by omega) (by omega)
                  refine k_of C2 C3 E J.v (k := n) (x := nI (a / 128 % 2000 / (1 + a % 100) + (u + w) / (1 + a % 100))) (by omega) (by decide) dL_step_319 (Nat.le_of_ble_eq_true rfl) (of_6.trans (lev_new e17 e18 e22 e22l (by omega) (by omega) (by omega) (by omega))) ?_
                  refine u_iload C3 dL_step_322 rfl ?_
                  refine u_iconst (v := nI 1) C3 dL_step_324 (by decide) ?_
                  refine u_iload_n C3 dL_step_325 rfl ?_
                  refine u_bipush (v := nI 100) C3 dL_step_326 (by decide) ?_
                  refine u_iremK C3 dL_step_328 (by omega) (by omega) (by omega) ?_
                  refine u_iaddK C3 dL_step_329 ?_
                  refine u_idivK C3 dL_step_330 (by omega) (by omega) (by omega) ?_
                  refine u_iload C3 dL_step_331 rfl ?_
                  refine u_iload C3 dL_step_333 rfl ?_
                  refine u_iaddK C3 dL_step_335 ?_
                  refine u_iconst (v := nI 1) C3 dL_step_336 (by decide) ?_
                  refine u_iload_n C3 dL_step_337 rfl ?_
                  refine u_bipush (v := nI 100) C3 dL_step_338 (by decide) ?_
                  refine u_iremK C3 dL_step_340 (by omega) (by omega) (by omega) ?_
                  refine u_iaddK C3 dL_step_341 ?_
                  refine u_idivK C3 dL_step_342 (by omega) (by omega) (by omega) ?_
                  refine u_iaddK C3 dL_step_343 ?_
                  refine u_icmp_neK (tgt := 351) C3 dL_step_344 (by decide) (by have z1 := Nat.div_le_self (a / 128 % 2000) (1 + a % 100); have z2 := Nat.div_le_self (u + w) (1 + a % 100); omega) (by have z1 := Nat.div_le_self (a / 128 % 2000) (1 + a % 100); have z2 := Nat.div_le_self (u + w) (1 + a % 100); omega) (fun c_344 => ?_) (fun c_344 => ?_)
                  · exfalso; omega
                  · refine u_iconst (v := nI 1) C3 dL_step_347 (by decide) ?_
                    refine u_goto (tgt := 352) C3 dL_step_348 (by decide) ?_
                    exact ret _ _ _ _ _ _ (by omega) (by omega) dL_step_352 (Or.inr rfl) ⟨rfl, _, _, _, _, _, _, _, _, _, _, _, _, J, by omega, by omega⟩
          · exact absurd c_261 hm200
      · skip
        refine u_istore C1 dL_step_177 (by decide) ?_
        refine u_aload_n C1 dL_step_179 rfl ?_
        refine u_iconst (v := nI 0) C1 dL_step_180 (by decide) ?_
        refine u_dup2 C1 dL_step_181 rfl rfl ?_
        refine u_ialdNv (i := 0) (x := nI n) C1 dL_step_182 hO.1 hO.2 (by decide) (by decide) h.d0 ?_
        refine u_iload C1 dL_step_183 rfl ?_
        refine u_if_ge (tgt := 192) C1 dL_step_185 (by decide) (fun c_185 => ?_) (fun c_185 => ?_)
        · exact absurd c_185 (by decide)
        · refine u_iconst (v := nI 0) C1 dL_step_188 (by decide) ?_
          refine u_goto (tgt := 193) C1 dL_step_189 (by decide) ?_
          refine u_iaddK C1 dL_step_193 ?_
          refine u_iastN (i := 0) C1 dL_step_194 hO.1 hO.2 (by decide) (by decide) ?_
          rw [show wi M O 0 (nI (n + 0)) = M from wi_id h.d0]
          refine u_aload_n C1 dL_step_195 rfl ?_
          refine u_bipush (v := nI 6) C1 dL_step_196 (by decide) ?_
          refine u_dup2 C1 dL_step_198 rfl rfl ?_
          refine u_ialdNv (i := 6) (x := nI w0) C1 dL_step_199 hO.1 hO.2 (by decide) (by decide) h.d6 ?_
          refine u_iload C1 dL_step_200 rfl ?_
          refine u_if_ge (tgt := 209) C1 dL_step_202 (by decide) (fun c_202 => ?_) (fun c_202 => ?_)
          · exact absurd c_202 (by decide)
          · refine u_iconst (v := nI 0) C1 dL_step_205 (by decide) ?_
            refine u_goto (tgt := 214) C1 dL_step_206 (by decide) ?_
            refine u_iaddK C1 dL_step_214 ?_
            refine u_iastN (i := 6) C1 dL_step_215 hO.1 hO.2 (by decide) (by decide) ?_
            rw [show wi M O 6 (nI (w0 + 0)) = M from wi_id h.d6]
            refine u_aload_n C1 dL_step_216 rfl ?_
            refine u_bipush (v := nI 7) C1 dL_step_217 (by decide) ?_
            refine u_dup2 C1 dL_step_219 rfl rfl ?_
            refine u_ialdNv (i := 7) (x := nI m0) C1 dL_step_220 hO.1 hO.2 (by decide) (by decide) h.d7 ?_
            refine u_iload C1 dL_step_221 rfl ?_
            refine u_if_ge (tgt := 230) C1 dL_step_223 (by decide) (fun c_223 => ?_) (fun c_223 => ?_)
            · exact absurd c_223 (by decide)
            · refine u_iconst (v := nI 0) C1 dL_step_226 (by decide) ?_
              refine u_goto (tgt := 232) C1 dL_step_227 (by decide) ?_
              refine u_iaddK C1 dL_step_232 ?_
              refine u_iastN (i := 7) C1 dL_step_233 hO.1 hO.2 (by decide) (by decide) ?_
              rw [show wi M O 7 (nI (m0 + 0)) = M from wi_id h.d7]
              refine u_aload_n C1 dL_step_234 rfl ?_
              refine u_bipush (v := nI 27) C1 dL_step_235 (by decide) ?_
              refine u_iload C1 dL_step_237 rfl ?_
              refine u_if_ne (tgt := 251) C1 dL_step_239 (by decide) (fun c_239 => ?_) (fun c_239 => ?_)
              · refine u_aload_n C1 dL_step_251 rfl ?_
                refine u_bipush (v := nI 27) C1 dL_step_252 (by decide) ?_
                refine u_ialdNv (i := 27) (x := (iv M O 27)) C1 dL_step_254 hO.1 hO.2 (by decide) (by decide) rfl ?_
                refine u_iastN (i := 27) C1 dL_step_255 hO.1 hO.2 (by decide) (by decide) ?_
                rw [show wi M O 27 (iv M O 27) = M from wi_id rfl]
                refine u_iload C1 dL_step_256 rfl ?_
                refine u_sipush (v := (-200)) C1 dL_step_258 (by decide) ?_
                refine u_icmp_ne (tgt := 286) C1 dL_step_261 (by decide) (fun c_261 => ?_) (fun c_261 => ?_)
                · exact absurd rfl c_261
                · refine u_aload_n C1 dL_step_264 rfl ?_
                  refine u_iconst (v := nI 0) C1 dL_step_265 (by decide) ?_
                  refine u_ialdNv (i := 0) (x := nI n) C1 dL_step_266 hO.1 hO.2 (by decide) (by decide) h.d0 ?_
                  refine u_bipush (v := nI 8) C1 dL_step_267 (by decide) ?_
                  refine u_icmp_eqK (tgt := 278) C1 dL_step_269 (by decide) (by omega) (by omega) (fun c_269 => ?_) (fun c_269 => ?_)
                  · refine u_iconst (v := nI 1) C1 dL_step_278 (by decide) ?_
                    refine u_goto (tgt := 352) C1 dL_step_279 (by decide) ?_
                    exact ret _ _ _ _ _ _ (by omega) (by omega) dL_step_352 (Or.inr rfl) ⟨rfl, _, _, _, _, _, _, _, _, _, _, _, _, h, by omega, by omega⟩
                  · refine u_aload_n C1 dL_step_272 rfl ?_
                    refine u_iconst (v := nI 5) C1 dL_step_273 (by decide) ?_
                    refine u_ialdNv (i := 5) (x := nI τ) C1 dL_step_274 hO.1 hO.2 (by decide) (by decide) h.d5 ?_
                    refine u_if_leK (tgt := 282) C1 dL_step_275 (by decide) (by omega) (fun c_275 => ?_) (fun c_275 => ?_)
                    · exfalso; omega
                    · refine u_iconst (v := nI 1) C1 dL_step_278 (by decide) ?_
                      refine u_goto (tgt := 352) C1 dL_step_279 (by decide) ?_
                      exact ret _ _ _ _ _ _ (by omega) (by omega) dL_step_352 (Or.inr rfl) ⟨rfl, _, _, _, _, _, _, _, _, _, _, _, _, h, by omega, by omega⟩
              · exact absurd c_239 (by decide)
    refine u_istore C0 dL_step_127 (by decide) ?_
    refine u_iload C0 dL_step_129 rfl ?_
    refine u_iconst (v := nI 4) C0 dL_step_131 (by decide) ?_
    refine u_iremK C0 dL_step_132 (by omega) (by omega) (by omega) ?_
    refine u_if_neK (tgt := 140) C0 dL_step_133 (by decide) (by omega) (fun c_133 => ?_) (fun c_133 => ?_)
    · refine u_iload C0 dL_step_140 rfl ?_
      refine u_iconst (v := nI 4) C0 dL_step_142 (by decide) ?_
      refine u_idivK C0 dL_step_143 (by omega) (by omega) (by omega) ?_
      refine u_sipush (v := nI 3000) C0 dL_step_144 (by decide) ?_
      refine u_iremK C0 dL_step_147 (by omega) (by omega) (by omega) ?_
      exact u_loc [0, 1, 2, 3, 4, 5, 6] rfl (k148 ((b / 4) % 3000) (by omega))
    · refine u_iconst (v := nI 0) C0 dL_step_136 (by decide) ?_
      refine u_goto (tgt := 148) C0 dL_step_137 (by decide) ?_
      exact u_loc [0, 1, 2, 3, 4, 5, 6] rfl (k148 (0) (by omega))
  refine u_iload C0 dL_step_108 rfl ?_
  refine u_iconst (v := nI 3) C0 dL_step_110 (by decide) ?_
  refine u_iremK C0 dL_step_111 (by omega) (by omega) (by omega) ?_
  refine u_if_neK (tgt := 119) C0 dL_step_112 (by decide) (by omega) (fun c_112 => ?_) (fun c_112 => ?_)
  · refine u_iload C0 dL_step_119 rfl ?_
    refine u_iconst (v := nI 3) C0 dL_step_121 (by decide) ?_
    refine u_idivK C0 dL_step_122 (by omega) (by omega) (by omega) ?_
    refine u_sipush (v := nI 3000) C0 dL_step_123 (by decide) ?_
    refine u_iremK C0 dL_step_126 (by omega) (by omega) (by omega) ?_
    exact k127 ((b / 3) % 3000) (by omega)
  · refine u_iconst (v := nI 0) C0 dL_step_115 (by decide) ?_
    refine u_goto (tgt := 127) C0 dL_step_116 (by decide) ?_
    exact k127 (0) (by omega)
set_option maxHeartbeats 4000000 in
set_option maxRecDepth 100000 in
theorem st_turn {p : Program} {l : Launch} {e : Env} {s : State} {m : MethodId} {args : Array Value} {below : List Frame} {meth : Method} {c8 : Code} {A : Nat → Prop} {H0 : Heap} {Q : State → Prop} {D : va_G} {G : w_G} {M N : w_M} {X Y O : Nat} {n ic τ c oc tc sc w0 m0 q cc k9 wh a b at9 : Nat} (CC : ∀ cells slots, cells ≤ 60 → slots ≤ 6 * 60 → u_C p (u_rk 10 260 60) s m args c8 cL_step RL 19 D A H0 cells slots G) (E : u_E l (u_rk 10 260 60) s A H0 G X) (hO : u_is G O 12 ∧ gN G O = 28) (h : JJ X Y O M N n ic τ c oc tc sc w0 m0 q cc) (hO9 : X + 3000 ≤ O) (hk9 : k9 < 200) (hc2 : c ≤ 2 * k9) (hq : q ≤ k9) (ha : a < 2 ^ 31) (hb : b < 2 ^ 31) (ret : ∀ (pc : Nat) (lv : List (Nat × Value)) (r : Int32) (M2 : w_M) (cells slots : Nat), cells ≤ 60 → slots ≤ 6 * 60 → decode cL_step pc = .ok (.ireturn, 1) → r = 0 ∨ r = 1 → (r = 1 ∧ JE X Y O (k9 + 1) M2) → u_S p l e (u_rk 10 260 60) s m args below meth c8 19 D A H0 cells slots Q pc lv [.int r] G M2)  : u_S p l e (u_rk 10 260 60) s m args below meth c8 19 D A H0 0 0 Q 353 [(0, .ref (gP G X)), (1, .ref (gP G O)), (2, .int (nI wh)), (3, .int (nI a)), (4, .int (nI b)), (5, .int (nI at9))] [] G M := by
  have n8 := h.v.rr.n8
  have i6 := h.v.rr.i6
  have t1 := h.v.rr.t1
  have o6 := h.v.o6
  have t6 := h.t6
  have s20 := h.s20
  have hw9 := h.w
  have hm9 := h.m
  have C0 := CC 0 0 (by omega) (by omega)
  refine u_iconst (v := nI 2) C0 dL_step_353 (by decide) ?_
  refine u_iload_n C0 dL_step_354 rfl ?_
  refine u_bipush (v := nI 59) C0 dL_step_355 (by decide) ?_
  refine u_iremK C0 dL_step_357 (by omega) (by omega) (by omega) ?_
  refine u_iaddK C0 dL_step_358 ?_
  refine u_istore C0 dL_step_359 (by decide) ?_
  refine u_iconst (v := nI 1) C0 dL_step_361 (by decide) ?_
  refine u_iload C0 dL_step_362 rfl ?_
  refine u_iload C0 dL_step_364 rfl ?_
  refine u_iconst (v := nI 1) C0 dL_step_366 (by decide) ?_
  refine u_isubK C0 dL_step_367 (by omega) (by omega) ?_
  refine u_iremK C0 dL_step_368 (by omega) (by omega) (by omega) ?_
  refine u_iaddK C0 dL_step_369 ?_
  refine u_istore C0 dL_step_370 (by decide) ?_
  refine u_aload_n C0 dL_step_372 rfl ?_
  refine u_iload C0 dL_step_373 rfl ?_
  refine u_iload C0 dL_step_375 rfl ?_
  refine u_iload C0 dL_step_377 rfl ?_
  refine u_bipush (v := nI 64) C0 dL_step_379 (by decide) ?_
  refine u_idivK C0 dL_step_381 (by omega) (by omega) (by omega) ?_
  refine u_bipush (v := nI 51) C0 dL_step_382 (by decide) ?_
  refine u_iremK C0 dL_step_384 (by omega) (by omega) (by omega) ?_
  refine u_iload C0 dL_step_385 rfl ?_
  refine u_sipush (v := nI 4096) C0 dL_step_387 (by decide) ?_
  refine u_idivK C0 dL_step_390 (by omega) (by omega) (by omega) ?_
  refine u_bipush (v := nI 60) C0 dL_step_391 (by decide) ?_
  refine u_iremK C0 dL_step_393 (by omega) (by omega) (by omega) ?_
  have hr := Nat.mod_lt b (show 0 < 2 + a % 59 - 1 by omega)
  have C1 := CC (0 + 1) (0 + 6) (by omega) (by omega)
  refine k_turn C0 C1 E h.v (by omega) h.htc t6 (a := 2 + a % 59) (u := 1 + b % (2 + a % 59 - 1)) (w := b / 64 % 51) (d := b / 4096 % 60) (by omega) (by omega) (by omega) (by omega) (by omega) (by omega) dL_step_394 (Nat.le_of_ble_eq_true rfl) (fun z => ?_) (fun z => ?_)
  · obtain ⟨T, e3, e4, oo⟩ := t_turn h (by omega) z (a := 2 + a % 59) (u := 1 + b % (2 + a % 59 - 1)) (w := b / 64 % 51) (d := b / 4096 % 60) (by omega) (by omega) (by omega) (by omega) (by omega) (by omega)
    have J := jj_turn h hO9 z T e3 oo
    generalize m_tell M X 0 (nI (2 + a % 59)) (nI (1 + b % (2 + a % 59 - 1))) (nI (b / 64 % 51)) (nI (b / 4096 % 60)) 0 = M2 at *
    generalize gE_turn N Y tc (nI (2 + a % 59)) (nI (1 + b % (2 + a % 59 - 1))) (nI (b / 64 % 51)) (nI (b / 4096 % 60)) = N2 at *
    have hm200 : ¬ nI tc = -200 := fun z => absurd (show nI tc < 0 by rw [z]; decide) (nI_pos (by omega))
    refine u_istore C1 dL_step_397 (by decide) ?_
    refine u_aload_n C1 dL_step_399 rfl ?_
    refine u_iconst (v := nI 3) C1 dL_step_400 (by decide) ?_
    refine u_dup2 C1 dL_step_401 rfl rfl ?_
    refine u_ialdNv (i := 3) (x := nI tc) C1 dL_step_402 hO.1 hO.2 (by decide) (by decide) (by rw [T.2.2.2 _ _ (by omega)]; exact h.d3) ?_
    refine u_iload C1 dL_step_403 rfl ?_
    refine u_if_geK (tgt := 412) C1 dL_step_405 (by decide) (by omega) ?_
    refine u_iconst (v := nI 1) C1 dL_step_412 (by decide) ?_
    refine u_iaddK C1 dL_step_413 ?_
    refine u_iastN (i := 3) C1 dL_step_414 hO.1 hO.2 (by decide) (by decide) ?_
    refine u_iload C1 dL_step_415 rfl ?_
    refine u_sipush (v := (-200)) C1 dL_step_417 (by decide) ?_
    refine u_icmp_ne (tgt := 439) C1 dL_step_420 (by decide) (fun c_420 => ?_) (fun c_420 => ?_)
    · refine u_iload C1 dL_step_439 rfl ?_
      refine u_aload_n C1 dL_step_441 rfl ?_
      refine u_iconst (v := nI 3) C1 dL_step_442 (by decide) ?_
      refine u_ialdNv (i := 3) (x := nI (tc + 1)) C1 dL_step_443 hO.1 hO.2 (by decide) (by decide) J.d3 ?_
      refine u_iconst (v := nI 1) C1 dL_step_444 (by decide) ?_
      refine u_isubK C1 dL_step_445 (by omega) (by omega) ?_
      refine u_icmp_neK (tgt := 463) C1 dL_step_446 (by decide) (by omega) (by omega) (fun c_446 => ?_) (fun c_446 => ?_)
      · exfalso; omega
      · refine u_aload_n C1 dL_step_449 rfl ?_
        refine u_aload_n C1 dL_step_450 rfl ?_
        refine u_iload C1 dL_step_451 rfl ?_
        have C2 := CC (0 + 1 + 4) (0 + 6 + 24) (by omega) (by omega)
        refine u_callGm (na := 3) C1 E.1 E.2.1 es_L_isTide dL_step_453 ml_RL_57 (As := [.ref (gP G X), .ref (gP G O), .int (nI (2 + a % 59))]) (c_isTide l D G _ _ X Y O (2 + a % 59) E.2.2.2.2 hO E.2.2.2.1 J (by omega) (by omega) (by omega) (by omega) (by omega) (fun y => by rw [show tc = 0 by omega] at e4; exact e4)) ⟨by decide, by decide⟩ rfl rfl (Nat.le_of_ble_eq_true rfl) C2.2.2.2 (fun r M3 q3 => ?_)
        obtain ⟨rfl, rfl⟩ := q3
        refine u_if_eq (tgt := 463) C2 dL_step_456 (by decide) (fun c_456 => ?_) (fun c_456 => ?_)
        · exact absurd c_456 (by decide)
        · refine u_iconst (v := nI 1) C2 dL_step_459 (by decide) ?_
          refine u_goto (tgt := 464) C2 dL_step_460 (by decide) ?_
          exact ret _ _ _ _ _ _ (by omega) (by omega) dL_step_464 (Or.inr rfl) ⟨rfl, _, _, _, _, _, _, _, _, _, _, _, _, J, by omega, by omega⟩
    · exact absurd c_420 hm200
  · skip
    refine u_istore C1 dL_step_397 (by decide) ?_
    refine u_aload_n C1 dL_step_399 rfl ?_
    refine u_iconst (v := nI 3) C1 dL_step_400 (by decide) ?_
    refine u_dup2 C1 dL_step_401 rfl rfl ?_
    refine u_ialdNv (i := 3) (x := nI tc) C1 dL_step_402 hO.1 hO.2 (by decide) (by decide) h.d3 ?_
    refine u_iload C1 dL_step_403 rfl ?_
    refine u_if_ge (tgt := 412) C1 dL_step_405 (by decide) (fun c_405 => ?_) (fun c_405 => ?_)
    · exact absurd c_405 (by decide)
    · refine u_iconst (v := nI 0) C1 dL_step_408 (by decide) ?_
      refine u_goto (tgt := 413) C1 dL_step_409 (by decide) ?_
      refine u_iaddK C1 dL_step_413 ?_
      refine u_iastN (i := 3) C1 dL_step_414 hO.1 hO.2 (by decide) (by decide) ?_
      rw [show wi M O 3 (nI (tc + 0)) = M from wi_id h.d3]
      refine u_iload C1 dL_step_415 rfl ?_
      refine u_sipush (v := (-200)) C1 dL_step_417 (by decide) ?_
      refine u_icmp_ne (tgt := 439) C1 dL_step_420 (by decide) (fun c_420 => ?_) (fun c_420 => ?_)
      · exact absurd rfl c_420
      · refine u_aload_n C1 dL_step_423 rfl ?_
        refine u_iconst (v := nI 3) C1 dL_step_424 (by decide) ?_
        refine u_ialdNv (i := 3) (x := nI tc) C1 dL_step_425 hO.1 hO.2 (by decide) (by decide) h.d3 ?_
        refine u_bipush (v := nI 6) C1 dL_step_426 (by decide) ?_
        refine u_icmp_neK (tgt := 435) C1 dL_step_428 (by decide) (by omega) (by omega) (fun c_428 => ?_) (fun c_428 => ?_)
        · exfalso; omega
        · refine u_iconst (v := nI 1) C1 dL_step_431 (by decide) ?_
          refine u_goto (tgt := 464) C1 dL_step_432 (by decide) ?_
          exact ret _ _ _ _ _ _ (by omega) (by omega) dL_step_464 (Or.inr rfl) ⟨rfl, _, _, _, _, _, _, _, _, _, _, _, _, h, by omega, by omega⟩
set_option maxHeartbeats 4000000 in
set_option maxRecDepth 100000 in
theorem st_mean {p : Program} {l : Launch} {e : Env} {s : State} {m : MethodId} {args : Array Value} {below : List Frame} {meth : Method} {c8 : Code} {A : Nat → Prop} {H0 : Heap} {Q : State → Prop} {D : va_G} {G : w_G} {M N : w_M} {X Y O : Nat} {n ic τ c oc tc sc w0 m0 q cc k9 wh a b at9 : Nat} (CC : ∀ cells slots, cells ≤ 60 → slots ≤ 6 * 60 → u_C p (u_rk 10 260 60) s m args c8 cL_step RL 19 D A H0 cells slots G) (E : u_E l (u_rk 10 260 60) s A H0 G X) (hO : u_is G O 12 ∧ gN G O = 28) (h : JJ X Y O M N n ic τ c oc tc sc w0 m0 q cc) (hO9 : X + 3000 ≤ O) (hk9 : k9 < 200) (hc2 : c ≤ 2 * k9) (hq : q ≤ k9) (ha : a < 2 ^ 31) (hb : b < 2 ^ 31) (ret : ∀ (pc : Nat) (lv : List (Nat × Value)) (r : Int32) (M2 : w_M) (cells slots : Nat), cells ≤ 60 → slots ≤ 6 * 60 → decode cL_step pc = .ok (.ireturn, 1) → r = 0 ∨ r = 1 → (r = 1 ∧ JE X Y O (k9 + 1) M2) → u_S p l e (u_rk 10 260 60) s m args below meth c8 19 D A H0 cells slots Q pc lv [.int r] G M2)  : u_S p l e (u_rk 10 260 60) s m args below meth c8 19 D A H0 0 0 Q 465 [(0, .ref (gP G X)), (1, .ref (gP G O)), (2, .int (nI wh)), (3, .int (nI a)), (4, .int (nI b)), (5, .int (nI at9))] [] G M := by
  have n8 := h.v.rr.n8
  have i6 := h.v.rr.i6
  have t1 := h.v.rr.t1
  have o6 := h.v.o6
  have t6 := h.t6
  have s20 := h.s20
  have hw9 := h.w
  have hm9 := h.m
  have C0 := CC 0 0 (by omega) (by omega)
  refine u_aload_n C0 dL_step_465 rfl ?_
  refine u_iload C0 dL_step_466 rfl ?_
  refine u_bipush (v := nI 101) C0 dL_step_468 (by decide) ?_
  refine u_iremK C0 dL_step_470 (by omega) (by omega) (by omega) ?_
  have C1 := CC (0 + 1) (0 + 6) (by omega) (by omega)
  refine k_mean C0 C1 E h.v (by omega) (v := b % 101) (by omega) dL_step_471 (Nat.le_of_ble_eq_true rfl) ?_
  have T1 := t_mean h (by omega) (v := b % 101) (by omega)
  have J1 := jj_of h T1 (by omega) (fun x9 hx9 k => iv_n (by omega)) (iv_n (by omega)) (iv_n (by omega)) (by rw [iv_n (by omega)]; exact h.mk)
  have e2 : iv (wi N Y 2 (nI (b % 101))) Y 2 = nI (b % 101) := iv_s
  generalize m_tell M X 1 (nI (b % 101)) 0 0 0 0 = M1 at *
  generalize wi N Y 2 (nI (b % 101)) = N1 at *
  refine u_if_lt (tgt := 498) C1 dL_step_474 (by decide) (fun c_474 => ?_) (fun c_474 => ?_)
  · exact absurd c_474 (fun z => by rw [i_lt, i_0] at z; have := h.v.rr.gt.m0; omega)
  · refine u_aload_n C1 dL_step_477 rfl ?_
    refine u_iload C1 dL_step_478 rfl ?_
    refine u_bipush (v := nI 101) C1 dL_step_480 (by decide) ?_
    refine u_iremK C1 dL_step_482 (by omega) (by omega) (by omega) ?_
    have C2 := CC (0 + 1 + 1) (0 + 6 + 6) (by omega) (by omega)
    refine k_mean C1 C2 E J1.v (by omega) (v := b % 101) (by omega) dL_step_483 (Nat.le_of_ble_eq_true rfl) ?_
    have T2 := t_mean J1 (by omega) (v := b % 101) (by omega)
    have J2 := jj_of J1 T2 (by omega) (fun x9 hx9 k => iv_n (by omega)) (iv_n (by omega)) (iv_n (by omega)) (by rw [iv_n (by omega)]; exact J1.mk)
    rw [e2]
    refine u_iload C2 dL_step_486 rfl ?_
    refine u_bipush (v := nI 101) C2 dL_step_488 (by decide) ?_
    refine u_iremK C2 dL_step_490 (by omega) (by omega) (by omega) ?_
    refine u_icmp_neK (tgt := 498) C2 dL_step_491 (by decide) (by omega) (by omega) (fun c_491 => ?_) (fun c_491 => ?_)
    · exfalso; omega
    · refine u_iconst (v := nI 1) C2 dL_step_494 (by decide) ?_
      refine u_goto (tgt := 499) C2 dL_step_495 (by decide) ?_
      exact ret _ _ _ _ _ _ (by omega) (by omega) dL_step_499 (Or.inr rfl) ⟨rfl, _, _, _, _, _, _, _, _, _, _, _, _, J2, by omega, by omega⟩
set_option maxHeartbeats 4000000 in
set_option maxRecDepth 100000 in
theorem st_surge {p : Program} {l : Launch} {e : Env} {s : State} {m : MethodId} {args : Array Value} {below : List Frame} {meth : Method} {c8 : Code} {A : Nat → Prop} {H0 : Heap} {Q : State → Prop} {D : va_G} {G : w_G} {M N : w_M} {X Y O : Nat} {n ic τ c oc tc sc w0 m0 q cc k9 wh a b at9 : Nat} (CC : ∀ cells slots, cells ≤ 60 → slots ≤ 6 * 60 → u_C p (u_rk 10 260 60) s m args c8 cL_step RL 19 D A H0 cells slots G) (E : u_E l (u_rk 10 260 60) s A H0 G X) (hO : u_is G O 12 ∧ gN G O = 28) (h : JJ X Y O M N n ic τ c oc tc sc w0 m0 q cc) (hO9 : X + 3000 ≤ O) (hk9 : k9 < 200) (hc2 : c ≤ 2 * k9) (hq : q ≤ k9) (ha : a < 2 ^ 31) (hb : b < 2 ^ 31) (ret : ∀ (pc : Nat) (lv : List (Nat × Value)) (r : Int32) (M2 : w_M) (cells slots : Nat), cells ≤ 60 → slots ≤ 6 * 60 → decode cL_step pc = .ok (.ireturn, 1) → r = 0 ∨ r = 1 → (r = 1 ∧ JE X Y O (k9 + 1) M2) → u_S p l e (u_rk 10 260 60) s m args below meth c8 19 D A H0 cells slots Q pc lv [.int r] G M2)  : u_S p l e (u_rk 10 260 60) s m args below meth c8 19 D A H0 0 0 Q 500 [(0, .ref (gP G X)), (1, .ref (gP G O)), (2, .int (nI wh)), (3, .int (nI a)), (4, .int (nI b)), (5, .int (nI at9))] [] G M := by
  have n8 := h.v.rr.n8
  have i6 := h.v.rr.i6
  have t1 := h.v.rr.t1
  have o6 := h.v.o6
  have t6 := h.t6
  have s20 := h.s20
  have hw9 := h.w
  have hm9 := h.m
  have C0 := CC 0 0 (by omega) (by omega)
  refine u_aload_n C0 dL_step_500 rfl ?_
  refine u_aload_n C0 dL_step_501 rfl ?_
  refine u_iconst (v := nI 5) C0 dL_step_502 (by decide) ?_
  refine u_ialdNv (i := 5) (x := nI τ) C0 dL_step_503 hO.1 hO.2 (by decide) (by decide) h.d5 ?_
  refine u_iload_n C0 dL_step_504 rfl ?_
  refine u_bipush (v := nI 30) C0 dL_step_505 (by decide) ?_
  refine u_iremK C0 dL_step_507 (by omega) (by omega) (by omega) ?_
  refine u_iaddK C0 dL_step_508 ?_
  have C1 := CC (0 + 1) (0 + 6) (by omega) (by omega)
  refine k_sea C0 C1 E h.v (k := τ + a % 30) (by omega) dL_step_509 (Nat.le_of_ble_eq_true rfl) (sea_f h.v.rr (by omega)) ?_
  refine u_istore C1 dL_step_512 (by decide) ?_
  refine u_aload_n C1 dL_step_514 rfl ?_
  refine u_aload_n C1 dL_step_515 rfl ?_
  refine u_iconst (v := nI 5) C1 dL_step_516 (by decide) ?_
  refine u_ialdNv (i := 5) (x := nI τ) C1 dL_step_517 hO.1 hO.2 (by decide) (by decide) h.d5 ?_
  refine u_iload_n C1 dL_step_518 rfl ?_
  refine u_bipush (v := nI 30) C1 dL_step_519 (by decide) ?_
  refine u_iremK C1 dL_step_521 (by omega) (by omega) (by omega) ?_
  refine u_iaddK C1 dL_step_522 ?_
  refine u_aload_n C1 dL_step_523 rfl ?_
  refine u_iconst (v := nI 5) C1 dL_step_524 (by decide) ?_
  refine u_ialdNv (i := 5) (x := nI τ) C1 dL_step_525 hO.1 hO.2 (by decide) (by decide) h.d5 ?_
  refine u_iload_n C1 dL_step_526 rfl ?_
  refine u_bipush (v := nI 30) C1 dL_step_527 (by decide) ?_
  refine u_iremK C1 dL_step_529 (by omega) (by omega) (by omega) ?_
  refine u_iaddK C1 dL_step_530 ?_
  refine u_iload C1 dL_step_531 rfl ?_
  refine u_bipush (v := nI 20) C1 dL_step_533 (by decide) ?_
  refine u_iremK C1 dL_step_535 (by omega) (by omega) (by omega) ?_
  refine u_iaddK C1 dL_step_536 ?_
  refine u_iload C1 dL_step_537 rfl ?_
  refine u_bipush (v := nI 32) C1 dL_step_539 (by decide) ?_
  refine u_idivK C1 dL_step_541 (by omega) (by omega) (by omega) ?_
  refine u_sipush (v := nI 151) C1 dL_step_542 (by decide) ?_
  refine u_iremK C1 dL_step_545 (by omega) (by omega) (by omega) ?_
  refine u_bipush (v := nI 50) C1 dL_step_546 (by decide) ?_
  refine u_isub C1 dL_step_548 ?_
  refine u_iconst (v := nI 3) C1 dL_step_549 (by decide) ?_
  have ex : (nI (b / 32 % 151) - nI 50).toInt = ((b / 32 % 151 : Nat) : Int) - 50 := by rw [i_sub (by rw [i_N (by omega), i_N (by omega)]; omega) (by rw [i_N (by omega), i_N (by omega)]; omega), i_N (by omega), i_N (by omega)]; rfl
  have C2 := CC (0 + 1 + 1) (0 + 6 + 6) (by omega) (by omega)
  refine k_surge C1 C2 E h.v (by omega) (a := τ + a % 30) (b := τ + a % 30 + b % 20) (x := (nI (b / 32 % 151) - nI 50)) h.hsc s20 (by omega) (by omega) (by omega) (by omega) (by omega) dL_step_550 (Nat.le_of_ble_eq_true rfl) (fun z => ?_) (fun z => ?_)
  · obtain ⟨T, e5, oo, ef⟩ := t_surge h (by omega) z (a := τ + a % 30) (b := τ + a % 30 + b % 20) (x := (nI (b / 32 % 151) - nI 50)) (by omega) (by omega) (by omega) (by omega) (by omega) (by omega)
    have J := jj_surge h hO9 z T e5 oo
    generalize m_tell M X 2 (nI (τ + a % 30)) (nI (τ + a % 30 + b % 20)) (nI (b / 32 % 151) - nI 50) 0 0 = M2 at *
    generalize gE_surge N Y sc (nI (τ + a % 30)) (nI (τ + a % 30 + b % 20)) (nI (b / 32 % 151) - nI 50) = N2 at *
    have hm200 : ¬ nI (sc + 1) = -200 := fun z => absurd (show nI (sc + 1) < 0 by rw [z]; decide) (nI_pos (by omega))
    refine u_istore C2 dL_step_553 (by decide) ?_
    refine u_aload_n C2 dL_step_555 rfl ?_
    refine u_iconst (v := nI 4) C2 dL_step_556 (by decide) ?_
    refine u_dup2 C2 dL_step_557 rfl rfl ?_
    refine u_ialdNv (i := 4) (x := nI sc) C2 dL_step_558 hO.1 hO.2 (by decide) (by decide) (by rw [T.2.2.2 _ _ (by omega)]; exact h.d4) ?_
    refine u_iload C2 dL_step_559 rfl ?_
    refine u_if_geK (tgt := 568) C2 dL_step_561 (by decide) (by omega) ?_
    refine u_iconst (v := nI 1) C2 dL_step_568 (by decide) ?_
    refine u_iaddK C2 dL_step_569 ?_
    refine u_iastN (i := 4) C2 dL_step_570 hO.1 hO.2 (by decide) (by decide) ?_
    refine u_iload C2 dL_step_571 rfl ?_
    refine u_sipush (v := (-200)) C2 dL_step_573 (by decide) ?_
    refine u_icmp_ne (tgt := 595) C2 dL_step_576 (by decide) (fun c_576 => ?_) (fun c_576 => ?_)
    · refine u_iload C2 dL_step_595 rfl ?_
      refine u_aload_n C2 dL_step_597 rfl ?_
      refine u_iconst (v := nI 4) C2 dL_step_598 (by decide) ?_
      refine u_ialdNv (i := 4) (x := nI (sc + 1)) C2 dL_step_599 hO.1 hO.2 (by decide) (by decide) J.d4 ?_
      refine u_icmp_neK (tgt := 637) C2 dL_step_600 (by decide) (by omega) (by omega) (fun c_600 => ?_) (fun c_600 => ?_)
      · exfalso; omega
      · refine u_aload_n C2 dL_step_603 rfl ?_
        refine u_aload_n C2 dL_step_604 rfl ?_
        refine u_iconst (v := nI 5) C2 dL_step_605 (by decide) ?_
        refine u_ialdNv (i := 5) (x := nI τ) C2 dL_step_606 hO.1 hO.2 (by decide) (by decide) J.d5 ?_
        refine u_iload_n C2 dL_step_607 rfl ?_
        refine u_bipush (v := nI 30) C2 dL_step_608 (by decide) ?_
        refine u_iremK C2 dL_step_610 (by omega) (by omega) (by omega) ?_
        refine u_iaddK C2 dL_step_611 ?_
        have C3 := CC (0 + 1 + 1 + 1) (0 + 6 + 6 + 6) (by omega) (by omega)
        refine k_sea C2 C3 E J.v (k := τ + a % 30) (by omega) dL_step_612 (Nat.le_of_ble_eq_true rfl) ((sea_f J.v.rr (by omega)).trans ef) ?_
        refine u_iload C3 dL_step_615 rfl ?_
        refine u_iload C3 dL_step_617 rfl ?_
        refine u_bipush (v := nI 32) C3 dL_step_619 (by decide) ?_
        refine u_idivK C3 dL_step_621 (by omega) (by omega) (by omega) ?_
        refine u_sipush (v := nI 151) C3 dL_step_622 (by decide) ?_
        refine u_iremK C3 dL_step_625 (by omega) (by omega) (by omega) ?_
        refine u_iadd C3 dL_step_626 ?_
        refine u_bipush (v := nI 50) C3 dL_step_627 (by decide) ?_
        refine u_isub C3 dL_step_629 ?_
        refine u_icmp_ne (tgt := 637) C3 dL_step_630 (by decide) (fun c_630 => ?_) (fun c_630 => ?_)
        · exact absurd (as_sub _ _ _) c_630
        · refine u_iconst (v := nI 1) C3 dL_step_633 (by decide) ?_
          refine u_goto (tgt := 638) C3 dL_step_634 (by decide) ?_
          exact ret _ _ _ _ _ _ (by omega) (by omega) dL_step_638 (Or.inr rfl) ⟨rfl, _, _, _, _, _, _, _, _, _, _, _, _, J, by omega, by omega⟩
    · exact absurd c_576 hm200
  · skip
    refine u_istore C2 dL_step_553 (by decide) ?_
    refine u_aload_n C2 dL_step_555 rfl ?_
    refine u_iconst (v := nI 4) C2 dL_step_556 (by decide) ?_
    refine u_dup2 C2 dL_step_557 rfl rfl ?_
    refine u_ialdNv (i := 4) (x := nI sc) C2 dL_step_558 hO.1 hO.2 (by decide) (by decide) h.d4 ?_
    refine u_iload C2 dL_step_559 rfl ?_
    refine u_if_ge (tgt := 568) C2 dL_step_561 (by decide) (fun c_561 => ?_) (fun c_561 => ?_)
    · exact absurd c_561 (by decide)
    · refine u_iconst (v := nI 0) C2 dL_step_564 (by decide) ?_
      refine u_goto (tgt := 569) C2 dL_step_565 (by decide) ?_
      refine u_iaddK C2 dL_step_569 ?_
      refine u_iastN (i := 4) C2 dL_step_570 hO.1 hO.2 (by decide) (by decide) ?_
      rw [show wi M O 4 (nI (sc + 0)) = M from wi_id h.d4]
      refine u_iload C2 dL_step_571 rfl ?_
      refine u_sipush (v := (-200)) C2 dL_step_573 (by decide) ?_
      refine u_icmp_ne (tgt := 595) C2 dL_step_576 (by decide) (fun c_576 => ?_) (fun c_576 => ?_)
      · exact absurd rfl c_576
      · refine u_aload_n C2 dL_step_579 rfl ?_
        refine u_iconst (v := nI 4) C2 dL_step_580 (by decide) ?_
        refine u_ialdNv (i := 4) (x := nI sc) C2 dL_step_581 hO.1 hO.2 (by decide) (by decide) h.d4 ?_
        refine u_bipush (v := nI 20) C2 dL_step_582 (by decide) ?_
        refine u_icmp_neK (tgt := 591) C2 dL_step_584 (by decide) (by omega) (by omega) (fun c_584 => ?_) (fun c_584 => ?_)
        · exfalso; omega
        · refine u_iconst (v := nI 1) C2 dL_step_587 (by decide) ?_
          refine u_goto (tgt := 638) C2 dL_step_588 (by decide) ?_
          exact ret _ _ _ _ _ _ (by omega) (by omega) dL_step_638 (Or.inr rfl) ⟨rfl, _, _, _, _, _, _, _, _, _, _, _, _, h, by omega, by omega⟩
set_option maxHeartbeats 4000000 in
set_option maxRecDepth 100000 in
theorem st_river {p : Program} {l : Launch} {e : Env} {s : State} {m : MethodId} {args : Array Value} {below : List Frame} {meth : Method} {c8 : Code} {A : Nat → Prop} {H0 : Heap} {Q : State → Prop} {D : va_G} {G : w_G} {M N : w_M} {X Y O : Nat} {n ic τ c oc tc sc w0 m0 q cc k9 wh a b at9 : Nat} (CC : ∀ cells slots, cells ≤ 60 → slots ≤ 6 * 60 → u_C p (u_rk 10 260 60) s m args c8 cL_step RL 19 D A H0 cells slots G) (E : u_E l (u_rk 10 260 60) s A H0 G X) (hO : u_is G O 12 ∧ gN G O = 28) (h : JJ X Y O M N n ic τ c oc tc sc w0 m0 q cc) (hO9 : X + 3000 ≤ O) (hk9 : k9 < 200) (hc2 : c ≤ 2 * k9) (hq : q ≤ k9) (ha : a < 2 ^ 31) (hb : b < 2 ^ 31) (ret : ∀ (pc : Nat) (lv : List (Nat × Value)) (r : Int32) (M2 : w_M) (cells slots : Nat), cells ≤ 60 → slots ≤ 6 * 60 → decode cL_step pc = .ok (.ireturn, 1) → r = 0 ∨ r = 1 → (r = 1 ∧ JE X Y O (k9 + 1) M2) → u_S p l e (u_rk 10 260 60) s m args below meth c8 19 D A H0 cells slots Q pc lv [.int r] G M2)  : u_S p l e (u_rk 10 260 60) s m args below meth c8 19 D A H0 0 0 Q 639 [(0, .ref (gP G X)), (1, .ref (gP G O)), (2, .int (nI wh)), (3, .int (nI a)), (4, .int (nI b)), (5, .int (nI at9))] [] G M := by
  have n8 := h.v.rr.n8
  have i6 := h.v.rr.i6
  have t1 := h.v.rr.t1
  have o6 := h.v.o6
  have t6 := h.t6
  have s20 := h.s20
  have hw9 := h.w
  have hm9 := h.m
  have C0 := CC 0 0 (by omega) (by omega)
  have k665 : ∀ v : Nat, v ≤ 500 → u_S p l e (u_rk 10 260 60) s m args below meth c8 19 D A H0 0 0 Q 665 [(0, .ref (gP G X)), (1, .ref (gP G O)), (2, .int (nI wh)), (3, .int (nI a)), (4, .int (nI b)), (5, .int (nI at9))] [.int (nI v), .ref (gP G X)] G M := by
    intro v hv
    have k687 : ∀ w : Nat, w ≤ 500 → u_S p l e (u_rk 10 260 60) s m args below meth c8 19 D A H0 0 0 Q 687 [(0, .ref (gP G X)), (1, .ref (gP G O)), (2, .int (nI wh)), (3, .int (nI a)), (4, .int (nI b)), (5, .int (nI at9))] [.int (nI w), .int (nI v), .ref (gP G X)] G M := by
      intro w hw
      have C1 := CC (0 + 1) (0 + 6) (by omega) (by omega)
      refine k_river C0 C1 E h.v (by omega) hv hw dL_step_687 (Nat.le_of_ble_eq_true rfl) ?_
      have T := t_river h (by omega) hv hw
      have J := jj_of h T (by omega) (fun x9 hx9 k => by simp (disch := omega) only [iv_n]) (by simp (disch := omega) only [iv_n]) (by simp (disch := omega) only [iv_n]) (by simp (disch := omega) only [iv_n]; exact h.mk)
      refine u_if_lt (tgt := 697) C1 dL_step_690 (by decide) (fun c_690 => ?_) (fun c_690 => ?_)
      · exact absurd c_690 (fun z => by rw [i_lt, i_0] at z; have := h.v.rr.w0; omega)
      · refine u_iconst (v := nI 1) C1 dL_step_693 (by decide) ?_
        refine u_goto (tgt := 698) C1 dL_step_694 (by decide) ?_
        exact ret _ _ _ _ _ _ (by omega) (by omega) dL_step_698 (Or.inr rfl) ⟨rfl, _, _, _, _, _, _, _, _, _, _, _, _, J, by omega, by omega⟩
    refine u_iload_n C0 dL_step_665 rfl ?_
    refine u_iconst (v := nI 3) C0 dL_step_666 (by decide) ?_
    refine u_iremK C0 dL_step_667 (by omega) (by omega) (by omega) ?_
    refine u_if_neK (tgt := 681) C0 dL_step_668 (by decide) (by omega) (fun c_668 => ?_) (fun c_668 => ?_)
    · refine u_iload_n C0 dL_step_681 rfl ?_
      refine u_iconst (v := nI 3) C0 dL_step_682 (by decide) ?_
      refine u_idivK C0 dL_step_683 (by omega) (by omega) (by omega) ?_
      refine u_bipush (v := nI 40) C0 dL_step_684 (by decide) ?_
      refine u_iremK C0 dL_step_686 (by omega) (by omega) (by omega) ?_
      exact k687 ((a / 3) % 40) (by omega)
    · refine u_iload_n C0 dL_step_671 rfl ?_
      refine u_iconst (v := nI 3) C0 dL_step_672 (by decide) ?_
      refine u_idivK C0 dL_step_673 (by omega) (by omega) (by omega) ?_
      refine u_sipush (v := nI 501) C0 dL_step_674 (by decide) ?_
      refine u_iremK C0 dL_step_677 (by omega) (by omega) (by omega) ?_
      refine u_goto (tgt := 687) C0 dL_step_678 (by decide) ?_
      exact k687 ((a / 3) % 501) (by omega)
  refine u_aload_n C0 dL_step_639 rfl ?_
  refine u_iload C0 dL_step_640 rfl ?_
  refine u_iconst (v := nI 4) C0 dL_step_642 (by decide) ?_
  refine u_iremK C0 dL_step_643 (by omega) (by omega) (by omega) ?_
  refine u_if_neK (tgt := 658) C0 dL_step_644 (by decide) (by omega) (fun c_644 => ?_) (fun c_644 => ?_)
  · refine u_iload C0 dL_step_658 rfl ?_
    refine u_iconst (v := nI 4) C0 dL_step_660 (by decide) ?_
    refine u_idivK C0 dL_step_661 (by omega) (by omega) (by omega) ?_
    refine u_bipush (v := nI 60) C0 dL_step_662 (by decide) ?_
    refine u_iremK C0 dL_step_664 (by omega) (by omega) (by omega) ?_
    exact k665 ((b / 4) % 60) (by omega)
  · refine u_iload C0 dL_step_647 rfl ?_
    refine u_iconst (v := nI 4) C0 dL_step_649 (by decide) ?_
    refine u_idivK C0 dL_step_650 (by omega) (by omega) (by omega) ?_
    refine u_sipush (v := nI 501) C0 dL_step_651 (by decide) ?_
    refine u_iremK C0 dL_step_654 (by omega) (by omega) (by omega) ?_
    refine u_goto (tgt := 665) C0 dL_step_655 (by decide) ?_
    exact k665 ((b / 4) % 501) (by omega)
set_option maxHeartbeats 4000000 in
set_option maxRecDepth 100000 in
theorem st_bar {p : Program} {l : Launch} {e : Env} {s : State} {m : MethodId} {args : Array Value} {below : List Frame} {meth : Method} {c8 : Code} {A : Nat → Prop} {H0 : Heap} {Q : State → Prop} {D : va_G} {G : w_G} {M N : w_M} {X Y O : Nat} {n ic τ c oc tc sc w0 m0 q cc k9 wh a b at9 : Nat} (CC : ∀ cells slots, cells ≤ 60 → slots ≤ 6 * 60 → u_C p (u_rk 10 260 60) s m args c8 cL_step RL 19 D A H0 cells slots G) (E : u_E l (u_rk 10 260 60) s A H0 G X) (hO : u_is G O 12 ∧ gN G O = 28) (h : JJ X Y O M N n ic τ c oc tc sc w0 m0 q cc) (hO9 : X + 3000 ≤ O) (hk9 : k9 < 200) (hc2 : c ≤ 2 * k9) (hq : q ≤ k9) (ha : a < 2 ^ 31) (hb : b < 2 ^ 31) (ret : ∀ (pc : Nat) (lv : List (Nat × Value)) (r : Int32) (M2 : w_M) (cells slots : Nat), cells ≤ 60 → slots ≤ 6 * 60 → decode cL_step pc = .ok (.ireturn, 1) → r = 0 ∨ r = 1 → (r = 1 ∧ JE X Y O (k9 + 1) M2) → u_S p l e (u_rk 10 260 60) s m args below meth c8 19 D A H0 cells slots Q pc lv [.int r] G M2)  : u_S p l e (u_rk 10 260 60) s m args below meth c8 19 D A H0 0 0 Q 699 [(0, .ref (gP G X)), (1, .ref (gP G O)), (2, .int (nI wh)), (3, .int (nI a)), (4, .int (nI b)), (5, .int (nI at9))] [] G M := by
  have n8 := h.v.rr.n8
  have i6 := h.v.rr.i6
  have t1 := h.v.rr.t1
  have o6 := h.v.o6
  have t6 := h.t6
  have s20 := h.s20
  have hw9 := h.w
  have hm9 := h.m
  have C0 := CC 0 0 (by omega) (by omega)
  have k716 : ∀ v : Int32, (v = -1 ∨ ∃ x, x ≤ 500 ∧ v = nI x) → u_S p l e (u_rk 10 260 60) s m args below meth c8 19 D A H0 0 0 Q 716 [(0, .ref (gP G X)), (1, .ref (gP G O)), (2, .int (nI wh)), (3, .int (nI a)), (4, .int (nI b)), (5, .int (nI at9))] [.int v, .ref (gP G X)] G M := by
    intro v hv
    refine u_iload_n C0 dL_step_716 rfl ?_
    refine u_iconst (v := nI 3) C0 dL_step_717 (by decide) ?_
    refine u_idivK C0 dL_step_718 (by omega) (by omega) (by omega) ?_
    refine u_bipush (v := nI 13) C0 dL_step_719 (by decide) ?_
    refine u_iremK C0 dL_step_721 (by omega) (by omega) (by omega) ?_
    have C1 := CC (0 + 1) (0 + 6) (by omega) (by omega)
    refine k_bar C0 C1 E h.v (by omega) (v := v) (w := a / 3 % 13) hv (by omega) dL_step_722 (Nat.le_of_ble_eq_true rfl) ?_
    have T := t_bar h (by omega) (v := v) (w := a / 3 % 13) (by omega)
    have J := jj_of h T (by omega) (fun x9 hx9 k => by simp (disch := omega) only [iv_n]) (by simp (disch := omega) only [iv_n]) (by simp (disch := omega) only [iv_n]) (by rw [iv_n (by omega), iv_s]; rcases hv with rfl | ⟨x, hx, rfl⟩; decide; rw [i_N (by omega)]; omega)
    refine u_iconst (v := (-1)) C1 dL_step_725 (by decide) ?_
    refine u_icmp_lt (tgt := 733) C1 dL_step_726 (by decide) (fun c_726 => ?_) (fun c_726 => ?_)
    · exact absurd c_726 (fun z => by rw [i_lt, show (-1 : Int32).toInt = -1 by decide] at z; have := h.mk; omega)
    · refine u_iconst (v := nI 1) C1 dL_step_729 (by decide) ?_
      refine u_goto (tgt := 734) C1 dL_step_730 (by decide) ?_
      exact ret _ _ _ _ _ _ (by omega) (by omega) dL_step_734 (Or.inr rfl) ⟨rfl, _, _, _, _, _, _, _, _, _, _, _, _, J, by omega, by omega⟩
  refine u_aload_n C0 dL_step_699 rfl ?_
  refine u_iload_n C0 dL_step_700 rfl ?_
  refine u_iconst (v := nI 3) C0 dL_step_701 (by decide) ?_
  refine u_iremK C0 dL_step_702 (by omega) (by omega) (by omega) ?_
  refine u_if_neK (tgt := 710) C0 dL_step_703 (by decide) (by omega) (fun c_703 => ?_) (fun c_703 => ?_)
  · refine u_iload C0 dL_step_710 rfl ?_
    refine u_sipush (v := nI 250) C0 dL_step_712 (by decide) ?_
    refine u_iremK C0 dL_step_715 (by omega) (by omega) (by omega) ?_
    exact k716 _ (Or.inr ⟨b % 250, by omega, rfl⟩)
  · refine u_iconst (v := (-1)) C0 dL_step_706 (by decide) ?_
    refine u_goto (tgt := 716) C0 dL_step_707 (by decide) ?_
    exact k716 _ (Or.inl rfl)
set_option maxHeartbeats 4000000 in
set_option maxRecDepth 100000 in
theorem st_int {p : Program} {l : Launch} {e : Env} {s : State} {m : MethodId} {args : Array Value} {below : List Frame} {meth : Method} {c8 : Code} {A : Nat → Prop} {H0 : Heap} {Q : State → Prop} {D : va_G} {G : w_G} {M N : w_M} {X Y O : Nat} {n ic τ c oc tc sc w0 m0 q cc k9 wh a b at9 : Nat} (CC : ∀ cells slots, cells ≤ 60 → slots ≤ 6 * 60 → u_C p (u_rk 10 260 60) s m args c8 cL_step RL 19 D A H0 cells slots G) (E : u_E l (u_rk 10 260 60) s A H0 G X) (hO : u_is G O 12 ∧ gN G O = 28) (h : JJ X Y O M N n ic τ c oc tc sc w0 m0 q cc) (hO9 : X + 3000 ≤ O) (hk9 : k9 < 200) (hc2 : c ≤ 2 * k9) (hq : q ≤ k9) (ha : a < 2 ^ 31) (hb : b < 2 ^ 31) (ret : ∀ (pc : Nat) (lv : List (Nat × Value)) (r : Int32) (M2 : w_M) (cells slots : Nat), cells ≤ 60 → slots ≤ 6 * 60 → decode cL_step pc = .ok (.ireturn, 1) → r = 0 ∨ r = 1 → (r = 1 ∧ JE X Y O (k9 + 1) M2) → u_S p l e (u_rk 10 260 60) s m args below meth c8 19 D A H0 cells slots Q pc lv [.int r] G M2) (hat : at9 < n) : u_S p l e (u_rk 10 260 60) s m args below meth c8 19 D A H0 0 0 Q 735 [(0, .ref (gP G X)), (1, .ref (gP G O)), (2, .int (nI wh)), (3, .int (nI a)), (4, .int (nI b)), (5, .int (nI at9))] [] G M := by
  have n8 := h.v.rr.n8
  have i6 := h.v.rr.i6
  have t1 := h.v.rr.t1
  have o6 := h.v.o6
  have t6 := h.t6
  have s20 := h.s20
  have hw9 := h.w
  have hm9 := h.m
  have C0 := CC 0 0 (by omega) (by omega)
  have k755 : ∀ m9 : Nat, m9 = 10000 ∨ m9 = 100 → u_S p l e (u_rk 10 260 60) s m args below meth c8 19 D A H0 0 0 Q 755 [(0, .ref (gP G X)), (1, .ref (gP G O)), (2, .int (nI wh)), (3, .int (nI a)), (4, .int (nI b)), (5, .int (nI at9))] [.int (nI m9), .int (nI (a / 8)), .int (nI 1)] G M := by
    intro m9 hm9
    have hr := Nat.mod_lt (a / 8) (show 0 < m9 by omega)
    refine u_iremK C0 dL_step_755 (by omega) (by omega) (by omega) ?_
    refine u_iaddK C0 dL_step_756 ?_
    refine u_istore C0 dL_step_757 (by decide) ?_
    refine u_aload_n C0 dL_step_759 rfl ?_
    refine u_iload C0 dL_step_760 rfl ?_
    refine u_iconst (v := nI 1) C0 dL_step_762 (by decide) ?_
    refine u_iload C0 dL_step_763 rfl ?_
    refine u_sipush (v := nI 500) C0 dL_step_765 (by decide) ?_
    refine u_iremK C0 dL_step_768 (by omega) (by omega) (by omega) ?_
    refine u_iaddK C0 dL_step_769 ?_
    refine u_iload C0 dL_step_770 rfl ?_
    refine u_sipush (v := nI 512) C0 dL_step_772 (by decide) ?_
    refine u_idivK C0 dL_step_775 (by omega) (by omega) (by omega) ?_
    refine u_bipush (v := nI 31) C0 dL_step_776 (by decide) ?_
    refine u_iremK C0 dL_step_778 (by omega) (by omega) (by omega) ?_
    refine u_iload C0 dL_step_779 rfl ?_
    refine u_iload C0 dL_step_781 rfl ?_
    refine u_sipush (v := nI 16384) C0 dL_step_783 (by decide) ?_
    refine u_idivK C0 dL_step_786 (by omega) (by omega) (by omega) ?_
    refine u_bipush (v := nI 60) C0 dL_step_787 (by decide) ?_
    refine u_iremK C0 dL_step_789 (by omega) (by omega) (by omega) ?_
    have C1 := CC (0 + 1) (0 + 6) (by omega) (by omega)
    refine k_intake C0 C1 E h.v (by omega) (v := at9) (a := 1 + b % 500) (u := b / 512 % 31) (w := 1 + a / 8 % m9) (d := b / 16384 % 60) hat (by omega) (by omega) (by omega) (by omega) (by omega) (by omega) dL_step_790 (Nat.le_of_ble_eq_true rfl) (fun z => ?_) (fun z => ?_)
    · obtain ⟨T, e29, e30, oo⟩ := t_int h (by omega) z (v := at9) (a := 1 + b % 500) (u := b / 512 % 31) (w := 1 + a / 8 % m9) (d := b / 16384 % 60) hat (by omega) (by omega) (by omega) (by omega)
      have J := jj_int (g := b / 512 % 31) h hO9 z T e29 e30 oo
      have z31 : iv (gE_int N Y ic (nI at9) (nI (1 + b % 500)) (nI (b / 512 % 31)) (nI (1 + a / 8 % m9)) (nI (b / 16384 % 60))) (Y + 31) ic = 0 := (oo _ _ (by omega) (by omega)).trans (h.v.rr.zi ic (Nat.le_refl _) 31 (by omega) (by omega))
      have z35 : iv (gE_int N Y ic (nI at9) (nI (1 + b % 500)) (nI (b / 512 % 31)) (nI (1 + a / 8 % m9)) (nI (b / 16384 % 60))) (Y + 35) ic = 0 := (oo _ _ (by omega) (by omega)).trans (h.v.rr.zi ic (Nat.le_refl _) 35 (by omega) (by omega))
      generalize m_tell M X 6 (nI at9) (nI (1 + b % 500)) (nI (b / 512 % 31)) (nI (1 + a / 8 % m9)) (nI (b / 16384 % 60)) = M2 at *
      generalize gE_int N Y ic (nI at9) (nI (1 + b % 500)) (nI (b / 512 % 31)) (nI (1 + a / 8 % m9)) (nI (b / 16384 % 60)) = N2 at *
      have hm200 : ¬ nI ic = -200 := fun z => absurd (show nI ic < 0 by rw [z]; decide) (nI_pos (by omega))
      refine u_istore C1 dL_step_793 (by decide) ?_
      refine u_iload C1 dL_step_795 rfl ?_
      refine u_sipush (v := (-200)) C1 dL_step_797 (by decide) ?_
      refine u_icmp_ne (tgt := 817) C1 dL_step_800 (by decide) (fun c_800 => ?_) (fun c_800 => ?_)
      · refine u_aload_n C1 dL_step_817 rfl ?_
        refine u_iconst (v := nI 1) C1 dL_step_818 (by decide) ?_
        refine u_dup2 C1 dL_step_819 rfl rfl ?_
        refine u_ialdNv (i := 1) (x := nI ic) C1 dL_step_820 hO.1 hO.2 (by decide) (by decide) (by rw [T.2.2.2 _ _ (by omega)]; exact h.d1) ?_
        refine u_iconst (v := nI 1) C1 dL_step_821 (by decide) ?_
        refine u_iaddK C1 dL_step_822 ?_
        refine u_iastN (i := 1) C1 dL_step_823 hO.1 hO.2 (by decide) (by decide) ?_
        refine u_aload_n C1 dL_step_824 rfl ?_
        refine u_bipush (v := nI 9) C1 dL_step_825 (by decide) ?_
        refine u_iload C1 dL_step_827 rfl ?_
        refine u_iaddK C1 dL_step_829 ?_
        refine u_iload C1 dL_step_830 rfl ?_
        refine u_iastN (i := 9 + ic) C1 dL_step_832 hO.1 hO.2 (by omega) (by decide) ?_
        refine u_aload_n C1 dL_step_833 rfl ?_
        refine u_bipush (v := nI 15) C1 dL_step_834 (by decide) ?_
        refine u_iload C1 dL_step_836 rfl ?_
        refine u_iaddK C1 dL_step_838 ?_
        refine u_iload C1 dL_step_839 rfl ?_
        refine u_sipush (v := nI 16384) C1 dL_step_841 (by decide) ?_
        refine u_idivK C1 dL_step_844 (by omega) (by omega) (by omega) ?_
        refine u_bipush (v := nI 60) C1 dL_step_845 (by decide) ?_
        refine u_iremK C1 dL_step_847 (by omega) (by omega) (by omega) ?_
        refine u_iastN (i := 15 + ic) C1 dL_step_848 hO.1 hO.2 (by omega) (by decide) ?_
        refine u_aload_n C1 dL_step_849 rfl ?_
        refine u_bipush (v := nI 21) C1 dL_step_850 (by decide) ?_
        refine u_iload C1 dL_step_852 rfl ?_
        refine u_iaddK C1 dL_step_854 ?_
        refine u_iload C1 dL_step_855 rfl ?_
        refine u_sipush (v := nI 512) C1 dL_step_857 (by decide) ?_
        refine u_idivK C1 dL_step_860 (by omega) (by omega) (by omega) ?_
        refine u_bipush (v := nI 31) C1 dL_step_861 (by decide) ?_
        refine u_iremK C1 dL_step_863 (by omega) (by omega) (by omega) ?_
        refine u_iastN (i := 21 + ic) C1 dL_step_864 hO.1 hO.2 (by omega) (by decide) ?_
        refine u_iload C1 dL_step_865 rfl ?_
        refine u_aload_n C1 dL_step_867 rfl ?_
        refine u_iconst (v := nI 1) C1 dL_step_868 (by decide) ?_
        refine u_ialdNv (i := 1) (x := nI (ic + 1)) C1 dL_step_869 hO.1 hO.2 (by decide) (by decide) J.d1 ?_
        refine u_iconst (v := nI 1) C1 dL_step_870 (by decide) ?_
        refine u_isubK C1 dL_step_871 (by omega) (by omega) ?_
        refine u_icmp_neK (tgt := 899) C1 dL_step_872 (by decide) (by omega) (by omega) (fun c_872 => ?_) (fun c_872 => ?_)
        · exfalso; omega
        · refine u_aload_n C1 dL_step_875 rfl ?_
          refine u_iload C1 dL_step_876 rfl ?_
          refine u_iconst (v := nI 0) C1 dL_step_878 (by decide) ?_
          have C2 := CC (0 + 1 + 1) (0 + 6 + 6) (by omega) (by omega)
          refine k_oin C1 C2 E J.v (k := ic) (x := nI 0) (by omega) (by decide) dL_step_879 (Nat.le_of_ble_eq_true rfl) (oi_0.trans z31) ?_
          refine u_if_neK (tgt := 899) C2 dL_step_882 (by decide) (by omega) (fun c_882 => ?_) (fun c_882 => ?_)
          · exfalso; omega
          · refine u_aload_n C2 dL_step_885 rfl ?_
            refine u_iload C2 dL_step_886 rfl ?_
            refine u_iconst (v := nI 3) C2 dL_step_888 (by decide) ?_
            have C3 := CC (0 + 1 + 1 + 1) (0 + 6 + 6 + 6) (by omega) (by omega)
            refine k_oin C2 C3 E J.v (k := ic) (x := nI 0) (by omega) (by decide) dL_step_889 (Nat.le_of_ble_eq_true rfl) (oi_3.trans (if_pos z35)) ?_
            refine u_if_neK (tgt := 899) C3 dL_step_892 (by decide) (by omega) (fun c_892 => ?_) (fun c_892 => ?_)
            · exfalso; omega
            · refine u_iconst (v := nI 1) C3 dL_step_895 (by decide) ?_
              refine u_goto (tgt := 900) C3 dL_step_896 (by decide) ?_
              exact ret _ _ _ _ _ _ (by omega) (by omega) dL_step_900 (Or.inr rfl) ⟨rfl, _, _, _, _, _, _, _, _, _, _, _, _, J, by omega, by omega⟩
      · exact absurd c_800 hm200
    · skip
      refine u_istore C1 dL_step_793 (by decide) ?_
      refine u_iload C1 dL_step_795 rfl ?_
      refine u_sipush (v := (-200)) C1 dL_step_797 (by decide) ?_
      refine u_icmp_ne (tgt := 817) C1 dL_step_800 (by decide) (fun c_800 => ?_) (fun c_800 => ?_)
      · exact absurd rfl c_800
      · refine u_aload_n C1 dL_step_803 rfl ?_
        refine u_iconst (v := nI 1) C1 dL_step_804 (by decide) ?_
        refine u_ialdNv (i := 1) (x := nI ic) C1 dL_step_805 hO.1 hO.2 (by decide) (by decide) h.d1 ?_
        refine u_bipush (v := nI 6) C1 dL_step_806 (by decide) ?_
        refine u_icmp_neK (tgt := 815) C1 dL_step_808 (by decide) (by omega) (by omega) (fun c_808 => ?_) (fun c_808 => ?_)
        · exfalso; omega
        · refine u_iconst (v := nI 1) C1 dL_step_811 (by decide) ?_
          refine u_goto (tgt := 816) C1 dL_step_812 (by decide) ?_
          exact ret _ _ _ _ _ _ (by omega) (by omega) dL_step_816 (Or.inr rfl) ⟨rfl, _, _, _, _, _, _, _, _, _, _, _, _, h, by omega, by omega⟩
  refine u_iconst (v := nI 1) C0 dL_step_735 (by decide) ?_
  refine u_iload_n C0 dL_step_736 rfl ?_
  refine u_bipush (v := nI 8) C0 dL_step_737 (by decide) ?_
  refine u_idivK C0 dL_step_739 (by omega) (by omega) (by omega) ?_
  refine u_iload C0 dL_step_740 rfl ?_
  refine u_iconst (v := nI 4) C0 dL_step_742 (by decide) ?_
  refine u_iremK C0 dL_step_743 (by omega) (by omega) (by omega) ?_
  refine u_if_neK (tgt := 753) C0 dL_step_744 (by decide) (by omega) (fun c_744 => ?_) (fun c_744 => ?_)
  · refine u_bipush (v := nI 100) C0 dL_step_753 (by decide) ?_
    exact k755 100 (by omega)
  · refine u_sipush (v := nI 10000) C0 dL_step_747 (by decide) ?_
    refine u_goto (tgt := 755) C0 dL_step_750 (by decide) ?_
    exact k755 10000 (by omega)
set_option maxHeartbeats 4000000 in
set_option maxRecDepth 100000 in
theorem st_oys {p : Program} {l : Launch} {e : Env} {s : State} {m : MethodId} {args : Array Value} {below : List Frame} {meth : Method} {c8 : Code} {A : Nat → Prop} {H0 : Heap} {Q : State → Prop} {D : va_G} {G : w_G} {M N : w_M} {X Y O : Nat} {n ic τ c oc tc sc w0 m0 q cc k9 wh a b at9 : Nat} (CC : ∀ cells slots, cells ≤ 60 → slots ≤ 6 * 60 → u_C p (u_rk 10 260 60) s m args c8 cL_step RL 19 D A H0 cells slots G) (E : u_E l (u_rk 10 260 60) s A H0 G X) (hO : u_is G O 12 ∧ gN G O = 28) (h : JJ X Y O M N n ic τ c oc tc sc w0 m0 q cc) (hO9 : X + 3000 ≤ O) (hk9 : k9 < 200) (hc2 : c ≤ 2 * k9) (hq : q ≤ k9) (ha : a < 2 ^ 31) (hb : b < 2 ^ 31) (ret : ∀ (pc : Nat) (lv : List (Nat × Value)) (r : Int32) (M2 : w_M) (cells slots : Nat), cells ≤ 60 → slots ≤ 6 * 60 → decode cL_step pc = .ok (.ireturn, 1) → r = 0 ∨ r = 1 → (r = 1 ∧ JE X Y O (k9 + 1) M2) → u_S p l e (u_rk 10 260 60) s m args below meth c8 19 D A H0 cells slots Q pc lv [.int r] G M2) (hat : at9 < n) : u_S p l e (u_rk 10 260 60) s m args below meth c8 19 D A H0 0 0 Q 901 [(0, .ref (gP G X)), (1, .ref (gP G O)), (2, .int (nI wh)), (3, .int (nI a)), (4, .int (nI b)), (5, .int (nI at9))] [] G M := by
  have n8 := h.v.rr.n8
  have i6 := h.v.rr.i6
  have t1 := h.v.rr.t1
  have o6 := h.v.o6
  have t6 := h.t6
  have s20 := h.s20
  have hw9 := h.w
  have hm9 := h.m
  have C0 := CC 0 0 (by omega) (by omega)
  refine u_aload_n C0 dL_step_901 rfl ?_
  refine u_iload C0 dL_step_902 rfl ?_
  refine u_iload C0 dL_step_904 rfl ?_
  refine u_bipush (v := nI 31) C0 dL_step_906 (by decide) ?_
  refine u_iremK C0 dL_step_908 (by omega) (by omega) (by omega) ?_
  refine u_iconst (v := nI 1) C0 dL_step_909 (by decide) ?_
  refine u_iload C0 dL_step_910 rfl ?_
  refine u_bipush (v := nI 32) C0 dL_step_912 (by decide) ?_
  refine u_idivK C0 dL_step_914 (by omega) (by omega) (by omega) ?_
  refine u_bipush (v := nI 24) C0 dL_step_915 (by decide) ?_
  refine u_iremK C0 dL_step_917 (by omega) (by omega) (by omega) ?_
  refine u_iaddK C0 dL_step_918 ?_
  have C1 := CC (0 + 1) (0 + 6) (by omega) (by omega)
  refine k_oysters C0 C1 E h.v (v := at9) (g := b % 31) (w := 1 + b / 32 % 24) hat (by omega) (by omega) (by omega) dL_step_919 (Nat.le_of_ble_eq_true rfl) (fun z => ?_) (fun z => ?_)
  · obtain ⟨J, u1⟩ := jj_oys h hO9 (v := at9) (g := b % 31) (w := 1 + b / 32 % 24) hat (by omega) z rfl
    have f2 : iv (wi (wi (wi (wi M (X + 10 + oc) 0 (nI at9)) (X + 10 + oc) 1 (nI (b % 31))) (X + 10 + oc) 2 (nI (1 + b / 32 % 24))) X 4 (nI (oc + 1))) O 2 = nI oc := by simp (disch := omega) only [iv_n]; exact h.d2
    generalize wi (wi (wi (wi M (X + 10 + oc) 0 (nI at9)) (X + 10 + oc) 1 (nI (b % 31))) (X + 10 + oc) 2 (nI (1 + b / 32 % 24))) X 4 (nI (oc + 1)) = M2 at *
    have hm200 : ¬ nI oc = -200 := fun z => absurd (show nI oc < 0 by rw [z]; decide) (nI_pos (by omega))
    refine u_istore C1 dL_step_922 (by decide) ?_
    refine u_aload_n C1 dL_step_924 rfl ?_
    refine u_iconst (v := nI 2) C1 dL_step_925 (by decide) ?_
    refine u_dup2 C1 dL_step_926 rfl rfl ?_
    refine u_ialdNv (i := 2) (x := nI oc) C1 dL_step_927 hO.1 hO.2 (by decide) (by decide) f2 ?_
    refine u_iload C1 dL_step_928 rfl ?_
    refine u_if_geK (tgt := 937) C1 dL_step_930 (by decide) (by omega) ?_
    refine u_iconst (v := nI 1) C1 dL_step_937 (by decide) ?_
    refine u_iaddK C1 dL_step_938 ?_
    refine u_iastN (i := 2) C1 dL_step_939 hO.1 hO.2 (by decide) (by decide) ?_
    refine u_iload C1 dL_step_940 rfl ?_
    refine u_sipush (v := (-200)) C1 dL_step_942 (by decide) ?_
    refine u_icmp_ne (tgt := 964) C1 dL_step_945 (by decide) (fun c_945 => ?_) (fun c_945 => ?_)
    · refine u_iload C1 dL_step_964 rfl ?_
      refine u_aload_n C1 dL_step_966 rfl ?_
      refine u_iconst (v := nI 2) C1 dL_step_967 (by decide) ?_
      refine u_ialdNv (i := 2) (x := nI (oc + 1)) C1 dL_step_968 hO.1 hO.2 (by decide) (by decide) J.d2 ?_
      refine u_iconst (v := nI 1) C1 dL_step_969 (by decide) ?_
      refine u_isubK C1 dL_step_970 (by omega) (by omega) ?_
      refine u_icmp_neK (tgt := 1010) C1 dL_step_971 (by decide) (by omega) (by omega) (fun c_971 => ?_) (fun c_971 => ?_)
      · exfalso; omega
      · refine u_aload_n C1 dL_step_974 rfl ?_
        refine u_iconst (v := nI 5) C1 dL_step_975 (by decide) ?_
        refine u_ialdNv (i := 5) (x := nI τ) C1 dL_step_976 hO.1 hO.2 (by decide) (by decide) J.d5 ?_
        refine u_if_gtK (tgt := 989) C1 dL_step_977 (by decide) (by omega) (fun c_977 => ?_) (fun c_977 => ?_)
        · refine u_iload C1 dL_step_989 rfl ?_
          refine u_bipush (v := nI 31) C1 dL_step_991 (by decide) ?_
          refine u_iremK C1 dL_step_993 (by omega) (by omega) (by omega) ?_
          refine u_if_gtK (tgt := 1006) C1 dL_step_994 (by decide) (by omega) (fun c_994 => ?_) (fun c_994 => ?_)
          · refine u_iconst (v := nI 1) C1 dL_step_1006 (by decide) ?_
            refine u_goto (tgt := 1011) C1 dL_step_1007 (by decide) ?_
            exact ret _ _ _ _ _ _ (by omega) (by omega) dL_step_1011 (Or.inr rfl) ⟨rfl, _, _, _, _, _, _, _, _, _, _, _, _, J, by omega, by omega⟩
          · refine u_aload_n C1 dL_step_997 rfl ?_
            refine u_iload C1 dL_step_998 rfl ?_
            have C2 := CC (0 + 1 + 1) (0 + 6 + 6) (by omega) (by omega)
            refine k_isC C1 C2 E J.v (k := oc) (by omega) dL_step_1000 (Nat.le_of_ble_eq_true rfl) (fun s9 hs9 q1 q2 q3 q4 => ?_) ?_
            · rw [iv_n (by omega), u1, show b % 31 = 0 by omega]
              have z0 := fr_zero J q1 (τ - (τ - hs9)) (τ - hs9) (by omega) (by omega)
              unfold s_fr at z0 ⊢
              exact z0
            refine u_if_neK (tgt := 1010) C2 dL_step_1003 (by decide) (by omega) (fun c_1003 => ?_) (fun c_1003 => ?_)
            · exfalso; omega
            · refine u_iconst (v := nI 1) C2 dL_step_1006 (by decide) ?_
              refine u_goto (tgt := 1011) C2 dL_step_1007 (by decide) ?_
              exact ret _ _ _ _ _ _ (by omega) (by omega) dL_step_1011 (Or.inr rfl) ⟨rfl, _, _, _, _, _, _, _, _, _, _, _, _, J, by omega, by omega⟩
        · refine u_aload_n C1 dL_step_980 rfl ?_
          refine u_iload C1 dL_step_981 rfl ?_
          have C2 := CC (0 + 1 + 1) (0 + 6 + 6) (by omega) (by omega)
          refine k_isC C1 C2 E J.v (k := oc) (by omega) dL_step_983 (Nat.le_of_ble_eq_true rfl) (fun s9 hs9 q1 q2 q3 q4 => ?_) ?_
          · obtain rfl : τ = 0 := by omega
            simp only [Nat.zero_sub]; rfl
          refine u_if_neK (tgt := 1010) C2 dL_step_986 (by decide) (by omega) (fun c_986 => ?_) (fun c_986 => ?_)
          · exfalso; omega
          · refine u_iload C2 dL_step_989 rfl ?_
            refine u_bipush (v := nI 31) C2 dL_step_991 (by decide) ?_
            refine u_iremK C2 dL_step_993 (by omega) (by omega) (by omega) ?_
            refine u_if_gtK (tgt := 1006) C2 dL_step_994 (by decide) (by omega) (fun c_994 => ?_) (fun c_994 => ?_)
            · refine u_iconst (v := nI 1) C2 dL_step_1006 (by decide) ?_
              refine u_goto (tgt := 1011) C2 dL_step_1007 (by decide) ?_
              exact ret _ _ _ _ _ _ (by omega) (by omega) dL_step_1011 (Or.inr rfl) ⟨rfl, _, _, _, _, _, _, _, _, _, _, _, _, J, by omega, by omega⟩
            · refine u_aload_n C2 dL_step_997 rfl ?_
              refine u_iload C2 dL_step_998 rfl ?_
              have C3 := CC (0 + 1 + 1 + 1) (0 + 6 + 6 + 6) (by omega) (by omega)
              refine k_isC C2 C3 E J.v (k := oc) (by omega) dL_step_1000 (Nat.le_of_ble_eq_true rfl) (fun s9 hs9 q1 q2 q3 q4 => ?_) ?_
              · rw [iv_n (by omega), u1, show b % 31 = 0 by omega]
                have z0 := fr_zero J q1 (τ - (τ - hs9)) (τ - hs9) (by omega) (by omega)
                unfold s_fr at z0 ⊢
                exact z0
              refine u_if_neK (tgt := 1010) C3 dL_step_1003 (by decide) (by omega) (fun c_1003 => ?_) (fun c_1003 => ?_)
              · exfalso; omega
              · refine u_iconst (v := nI 1) C3 dL_step_1006 (by decide) ?_
                refine u_goto (tgt := 1011) C3 dL_step_1007 (by decide) ?_
                exact ret _ _ _ _ _ _ (by omega) (by omega) dL_step_1011 (Or.inr rfl) ⟨rfl, _, _, _, _, _, _, _, _, _, _, _, _, J, by omega, by omega⟩
    · exact absurd c_945 hm200
  · skip
    refine u_istore C1 dL_step_922 (by decide) ?_
    refine u_aload_n C1 dL_step_924 rfl ?_
    refine u_iconst (v := nI 2) C1 dL_step_925 (by decide) ?_
    refine u_dup2 C1 dL_step_926 rfl rfl ?_
    refine u_ialdNv (i := 2) (x := nI oc) C1 dL_step_927 hO.1 hO.2 (by decide) (by decide) h.d2 ?_
    refine u_iload C1 dL_step_928 rfl ?_
    refine u_if_ge (tgt := 937) C1 dL_step_930 (by decide) (fun c_930 => ?_) (fun c_930 => ?_)
    · exact absurd c_930 (by decide)
    · refine u_iconst (v := nI 0) C1 dL_step_933 (by decide) ?_
      refine u_goto (tgt := 938) C1 dL_step_934 (by decide) ?_
      refine u_iaddK C1 dL_step_938 ?_
      refine u_iastN (i := 2) C1 dL_step_939 hO.1 hO.2 (by decide) (by decide) ?_
      rw [show wi M O 2 (nI (oc + 0)) = M from wi_id h.d2]
      refine u_iload C1 dL_step_940 rfl ?_
      refine u_sipush (v := (-200)) C1 dL_step_942 (by decide) ?_
      refine u_icmp_ne (tgt := 964) C1 dL_step_945 (by decide) (fun c_945 => ?_) (fun c_945 => ?_)
      · exact absurd rfl c_945
      · refine u_aload_n C1 dL_step_948 rfl ?_
        refine u_iconst (v := nI 2) C1 dL_step_949 (by decide) ?_
        refine u_ialdNv (i := 2) (x := nI oc) C1 dL_step_950 hO.1 hO.2 (by decide) (by decide) h.d2 ?_
        refine u_bipush (v := nI 6) C1 dL_step_951 (by decide) ?_
        refine u_icmp_neK (tgt := 960) C1 dL_step_953 (by decide) (by omega) (by omega) (fun c_953 => ?_) (fun c_953 => ?_)
        · exfalso; omega
        · refine u_iconst (v := nI 1) C1 dL_step_956 (by decide) ?_
          refine u_goto (tgt := 1011) C1 dL_step_957 (by decide) ?_
          exact ret _ _ _ _ _ _ (by omega) (by omega) dL_step_1011 (Or.inr rfl) ⟨rfl, _, _, _, _, _, _, _, _, _, _, _, _, h, by omega, by omega⟩
set_option maxHeartbeats 4000000 in
set_option maxRecDepth 100000 in
theorem st_per {p : Program} {l : Launch} {e : Env} {s : State} {m : MethodId} {args : Array Value} {below : List Frame} {meth : Method} {c8 : Code} {A : Nat → Prop} {H0 : Heap} {Q : State → Prop} {D : va_G} {G : w_G} {M N : w_M} {X Y O : Nat} {n ic τ c oc tc sc w0 m0 q cc k9 wh a b at9 : Nat} (CC : ∀ cells slots, cells ≤ 60 → slots ≤ 6 * 60 → u_C p (u_rk 10 260 60) s m args c8 cL_step RL 19 D A H0 cells slots G) (E : u_E l (u_rk 10 260 60) s A H0 G X) (hO : u_is G O 12 ∧ gN G O = 28) (h : JJ X Y O M N n ic τ c oc tc sc w0 m0 q cc) (hO9 : X + 3000 ≤ O) (hk9 : k9 < 200) (hc2 : c ≤ 2 * k9) (hq : q ≤ k9) (ha : a < 2 ^ 31) (hb : b < 2 ^ 31) (ret : ∀ (pc : Nat) (lv : List (Nat × Value)) (r : Int32) (M2 : w_M) (cells slots : Nat), cells ≤ 60 → slots ≤ 6 * 60 → decode cL_step pc = .ok (.ireturn, 1) → r = 0 ∨ r = 1 → (r = 1 ∧ JE X Y O (k9 + 1) M2) → u_S p l e (u_rk 10 260 60) s m args below meth c8 19 D A H0 cells slots Q pc lv [.int r] G M2) (hat : at9 < n) : u_S p l e (u_rk 10 260 60) s m args below meth c8 19 D A H0 0 0 Q 1012 [(0, .ref (gP G X)), (1, .ref (gP G O)), (2, .int (nI wh)), (3, .int (nI a)), (4, .int (nI b)), (5, .int (nI at9))] [] G M := by
  have n8 := h.v.rr.n8
  have i6 := h.v.rr.i6
  have t1 := h.v.rr.t1
  have o6 := h.v.o6
  have t6 := h.t6
  have s20 := h.s20
  have hw9 := h.w
  have hm9 := h.m
  have C0 := CC 0 0 (by omega) (by omega)
  have k1029 : ∀ v : Nat, v ≤ 10000 → u_S p l e (u_rk 10 260 60) s m args below meth c8 19 D A H0 0 0 Q 1029 [(0, .ref (gP G X)), (1, .ref (gP G O)), (2, .int (nI wh)), (3, .int (nI a)), (4, .int (nI b)), (5, .int (nI at9))] [.int (nI v)] G M := by
    intro v hv
    refine u_istore C0 dL_step_1029 (by decide) ?_
    refine u_aload_n C0 dL_step_1031 rfl ?_
    refine u_iload C0 dL_step_1032 rfl ?_
    refine u_iload C0 dL_step_1034 rfl ?_
    have C1 := CC (0 + 1) (0 + 6) (by omega) (by omega)
    refine k_per C0 C1 E h.v (by omega) (v := v) hat hv dL_step_1036 (Nat.le_of_ble_eq_true rfl) ?_
    have T1 := t_per h (by omega) hat hv
    have J1 := jj_of h T1 (by omega) (fun x9 hx9 k => iv_n (by omega)) (iv_n (by omega)) (iv_n (by omega)) (by rw [iv_n (by omega)]; exact h.mk)
    have e21 : iv (wi N (Y + 21) at9 (nI v)) (Y + 21) at9 = nI v := iv_s
    generalize m_tell M X 7 (nI at9) (nI v) 0 0 0 = M1 at *
    generalize wi N (Y + 21) at9 (nI v) = N1 at *
    refine u_if_lt (tgt := 1075) C1 dL_step_1039 (by decide) (fun c_1039 => ?_) (fun c_1039 => ?_)
    · exact absurd c_1039 (fun z => by rw [i_lt, i_0] at z; have := (h.k.p at9 hat).1; omega)
    · refine u_aload_n C1 dL_step_1042 rfl ?_
      refine u_iload C1 dL_step_1043 rfl ?_
      refine u_iload C1 dL_step_1045 rfl ?_
      have C2 := CC (0 + 1 + 1) (0 + 6 + 6) (by omega) (by omega)
      refine k_per C1 C2 E J1.v (by omega) (v := v) hat hv dL_step_1047 (Nat.le_of_ble_eq_true rfl) ?_
      have T2 := t_per J1 (by omega) hat hv
      have J2 := jj_of J1 T2 (by omega) (fun x9 hx9 k => iv_n (by omega)) (iv_n (by omega)) (iv_n (by omega)) (by rw [iv_n (by omega)]; exact J1.mk)
      have e22 : iv (wi N1 (Y + 21) at9 (nI v)) (Y + 21) at9 = nI v := iv_s
      rw [e21]
      generalize m_tell M1 X 7 (nI at9) (nI v) 0 0 0 = M2 at *
      generalize wi N1 (Y + 21) at9 (nI v) = N2 at *
      refine u_iload C2 dL_step_1050 rfl ?_
      refine u_icmp_neK (tgt := 1075) C2 dL_step_1052 (by decide) (by omega) (by omega) (fun c_1052 => ?_) (fun c_1052 => ?_)
      · exfalso; omega
      · refine u_iload C2 dL_step_1055 rfl ?_
        refine u_if_gtK (tgt := 1071) C2 dL_step_1057 (by decide) (by omega) (fun c_1057 => ?_) (fun c_1057 => ?_)
        · refine u_iconst (v := nI 1) C2 dL_step_1071 (by decide) ?_
          refine u_goto (tgt := 1076) C2 dL_step_1072 (by decide) ?_
          exact ret _ _ _ _ _ _ (by omega) (by omega) dL_step_1076 (Or.inr rfl) ⟨rfl, _, _, _, _, _, _, _, _, _, _, _, _, J2, by omega, by omega⟩
        · refine u_aload_n C2 dL_step_1060 rfl ?_
          refine u_iload C2 dL_step_1061 rfl ?_
          refine u_iconst (v := nI 1) C2 dL_step_1063 (by decide) ?_
          have C3 := CC (0 + 1 + 1 + 1) (0 + 6 + 6 + 6) (by omega) (by omega)
          refine k_why C2 C3 E J2.v (k := at9) (a := 1) (x := nI 1) hat (by omega) (by omega) dL_step_1064 (Nat.le_of_ble_eq_true rfl) ((ref1 _ _).mpr (by rw [e22, show v = 0 by omega]; rfl)) ?_
          refine u_iconst (v := nI 1) C3 dL_step_1067 (by decide) ?_
          refine u_icmp_neK (tgt := 1075) C3 dL_step_1068 (by decide) (by omega) (by omega) (fun c_1068 => ?_) (fun c_1068 => ?_)
          · exfalso; omega
          · refine u_iconst (v := nI 1) C3 dL_step_1071 (by decide) ?_
            refine u_goto (tgt := 1076) C3 dL_step_1072 (by decide) ?_
            exact ret _ _ _ _ _ _ (by omega) (by omega) dL_step_1076 (Or.inr rfl) ⟨rfl, _, _, _, _, _, _, _, _, _, _, _, _, J2, by omega, by omega⟩
  refine u_iload C0 dL_step_1012 rfl ?_
  refine u_iconst (v := nI 5) C0 dL_step_1014 (by decide) ?_
  refine u_iremK C0 dL_step_1015 (by omega) (by omega) (by omega) ?_
  refine u_if_neK (tgt := 1023) C0 dL_step_1016 (by decide) (by omega) (fun c_1016 => ?_) (fun c_1016 => ?_)
  · refine u_iload C0 dL_step_1023 rfl ?_
    refine u_sipush (v := nI 2000) C0 dL_step_1025 (by decide) ?_
    refine u_iremK C0 dL_step_1028 (by omega) (by omega) (by omega) ?_
    exact k1029 (b % 2000) (by omega)
  · refine u_iconst (v := nI 0) C0 dL_step_1019 (by decide) ?_
    refine u_goto (tgt := 1029) C0 dL_step_1020 (by decide) ?_
    exact k1029 (0) (by omega)
set_option maxHeartbeats 4000000 in
set_option maxRecDepth 100000 in
theorem st_dre {p : Program} {l : Launch} {e : Env} {s : State} {m : MethodId} {args : Array Value} {below : List Frame} {meth : Method} {c8 : Code} {A : Nat → Prop} {H0 : Heap} {Q : State → Prop} {D : va_G} {G : w_G} {M N : w_M} {X Y O : Nat} {n ic τ c oc tc sc w0 m0 q cc k9 wh a b at9 : Nat} (CC : ∀ cells slots, cells ≤ 60 → slots ≤ 6 * 60 → u_C p (u_rk 10 260 60) s m args c8 cL_step RL 19 D A H0 cells slots G) (E : u_E l (u_rk 10 260 60) s A H0 G X) (hO : u_is G O 12 ∧ gN G O = 28) (h : JJ X Y O M N n ic τ c oc tc sc w0 m0 q cc) (hO9 : X + 3000 ≤ O) (hk9 : k9 < 200) (hc2 : c ≤ 2 * k9) (hq : q ≤ k9) (ha : a < 2 ^ 31) (hb : b < 2 ^ 31) (ret : ∀ (pc : Nat) (lv : List (Nat × Value)) (r : Int32) (M2 : w_M) (cells slots : Nat), cells ≤ 60 → slots ≤ 6 * 60 → decode cL_step pc = .ok (.ireturn, 1) → r = 0 ∨ r = 1 → (r = 1 ∧ JE X Y O (k9 + 1) M2) → u_S p l e (u_rk 10 260 60) s m args below meth c8 19 D A H0 cells slots Q pc lv [.int r] G M2) (hat : at9 < n) : u_S p l e (u_rk 10 260 60) s m args below meth c8 19 D A H0 0 0 Q 1077 [(0, .ref (gP G X)), (1, .ref (gP G O)), (2, .int (nI wh)), (3, .int (nI a)), (4, .int (nI b)), (5, .int (nI at9))] [] G M := by
  have n8 := h.v.rr.n8
  have i6 := h.v.rr.i6
  have t1 := h.v.rr.t1
  have o6 := h.v.o6
  have t6 := h.t6
  have s20 := h.s20
  have hw9 := h.w
  have hm9 := h.m
  have C0 := CC 0 0 (by omega) (by omega)
  have kS : u_S p l e (u_rk 10 260 60) s m args below meth c8 19 D A H0 0 0 Q 1116 [(0, .ref (gP G X)), (1, .ref (gP G O)), (2, .int (nI wh)), (3, .int (nI a)), (4, .int (nI b)), (5, .int (nI at9))] [.int (-1), .int (nI (1 + b % 300)), .int (nI at9), .ref (gP G X)] G M := by
    have C1 := CC (0 + 12) (0 + 72) (by omega) (by omega)
    refine u_callGm (na := 4) C0 E.1 E.2.1 es_L_isDredged dL_step_1116 ml_RL_95 (As := [.ref (gP G X), .int (nI at9), .int (nI (1 + b % 300)), .int (-1)]) (c_isDredgedS l D G M N X Y O at9 (1 + b % 300) E.2.2.2.2 hO E.2.2.2.1 h (by omega) (by omega) hat (by omega) (by omega)) ⟨by decide, by decide⟩ rfl rfl (Nat.le_of_ble_eq_true rfl) C1.2.2.2 (fun r M3 q3 => ?_)
    obtain ⟨rfl, N3, c3, J, hc3⟩ := q3
    exact ret _ _ _ _ _ _ (by omega) (by omega) dL_step_1119 (Or.inr rfl) ⟨rfl, _, _, _, _, _, _, _, _, _, _, _, _, J, by omega, by omega⟩
  have kC : ∀ j : Nat, j < n → j ≠ at9 → u_S p l e (u_rk 10 260 60) s m args below meth c8 19 D A H0 0 0 Q 1116 [(0, .ref (gP G X)), (1, .ref (gP G O)), (2, .int (nI wh)), (3, .int (nI a)), (4, .int (nI b)), (5, .int (nI at9))] [.int (nI j), .int (nI (1 + b % 300)), .int (nI at9), .ref (gP G X)] G M := by
    intro j hj hjv
    have C1 := CC (0 + 12) (0 + 72) (by omega) (by omega)
    refine u_callGm (na := 4) C0 E.1 E.2.1 es_L_isDredged dL_step_1116 ml_RL_95 (As := [.ref (gP G X), .int (nI at9), .int (nI (1 + b % 300)), .int (nI j)]) (c_isDredgedC l D G M N X Y O at9 (1 + b % 300) j E.2.2.2.2 hO E.2.2.2.1 h (by omega) (by omega) hat (by omega) (by omega) hj hjv) ⟨by decide, by decide⟩ rfl rfl (Nat.le_of_ble_eq_true rfl) C1.2.2.2 (fun r M3 q3 => ?_)
    obtain ⟨rfl, N3, c3, J, hc3⟩ := q3
    exact ret _ _ _ _ _ _ (by omega) (by omega) dL_step_1119 (Or.inr rfl) ⟨rfl, _, _, _, _, _, _, _, _, _, _, _, _, J, by omega, by omega⟩
  refine u_aload_n C0 dL_step_1077 rfl ?_
  refine u_iload C0 dL_step_1078 rfl ?_
  refine u_iconst (v := nI 1) C0 dL_step_1080 (by decide) ?_
  refine u_iload C0 dL_step_1081 rfl ?_
  refine u_sipush (v := nI 300) C0 dL_step_1083 (by decide) ?_
  refine u_iremK C0 dL_step_1086 (by omega) (by omega) (by omega) ?_
  refine u_iaddK C0 dL_step_1087 ?_
  refine u_iload_n C0 dL_step_1088 rfl ?_
  refine u_bipush (v := nI 16) C0 dL_step_1089 (by decide) ?_
  refine u_idivK C0 dL_step_1091 (by omega) (by omega) (by omega) ?_
  refine u_iconst (v := nI 3) C0 dL_step_1092 (by decide) ?_
  refine u_iremK C0 dL_step_1093 (by omega) (by omega) (by omega) ?_
  refine u_if_eqK (tgt := 1104) C0 dL_step_1094 (by decide) (by omega) (fun c_1094 => ?_) (fun c_1094 => ?_)
  · refine u_iconst (v := (-1)) C0 dL_step_1104 (by decide) ?_
    refine u_goto (tgt := 1116) C0 dL_step_1105 (by decide) ?_
    exact kS
  · refine u_aload_n C0 dL_step_1097 rfl ?_
    refine u_iconst (v := nI 0) C0 dL_step_1098 (by decide) ?_
    refine u_ialdNv (i := 0) (x := nI n) C0 dL_step_1099 hO.1 hO.2 (by decide) (by decide) h.d0 ?_
    refine u_iconst (v := nI 1) C0 dL_step_1100 (by decide) ?_
    refine u_icmp_neK (tgt := 1108) C0 dL_step_1101 (by decide) (by omega) (by omega) (fun c_1101 => ?_) (fun c_1101 => ?_)
    · refine u_iload C0 dL_step_1108 rfl ?_
      refine u_iconst (v := nI 1) C0 dL_step_1110 (by decide) ?_
      refine u_iaddK C0 dL_step_1111 ?_
      refine u_aload_n C0 dL_step_1112 rfl ?_
      refine u_iconst (v := nI 0) C0 dL_step_1113 (by decide) ?_
      refine u_ialdNv (i := 0) (x := nI n) C0 dL_step_1114 hO.1 hO.2 (by decide) (by decide) h.d0 ?_
      refine u_iremK C0 dL_step_1115 (by omega) (by omega) (by omega) ?_
      have hz := Nat.mod_lt (at9 + 1) (show 0 < n by omega)
      exact kC ((at9 + 1) % n) hz (by rcases Nat.lt_or_ge (at9 + 1) n with y | y; rw [Nat.mod_eq_of_lt y]; omega; rw [show at9 + 1 = n by omega, Nat.mod_self]; omega)
    · refine u_iconst (v := (-1)) C0 dL_step_1104 (by decide) ?_
      refine u_goto (tgt := 1116) C0 dL_step_1105 (by decide) ?_
      exact kS
set_option maxHeartbeats 4000000 in
set_option maxRecDepth 100000 in
theorem st_win {p : Program} {l : Launch} {e : Env} {s : State} {m : MethodId} {args : Array Value} {below : List Frame} {meth : Method} {c8 : Code} {A : Nat → Prop} {H0 : Heap} {Q : State → Prop} {D : va_G} {G : w_G} {M N : w_M} {X Y O : Nat} {n ic τ c oc tc sc w0 m0 q cc k9 wh a b at9 : Nat} (CC : ∀ cells slots, cells ≤ 60 → slots ≤ 6 * 60 → u_C p (u_rk 10 260 60) s m args c8 cL_step RL 19 D A H0 cells slots G) (E : u_E l (u_rk 10 260 60) s A H0 G X) (hO : u_is G O 12 ∧ gN G O = 28) (h : JJ X Y O M N n ic τ c oc tc sc w0 m0 q cc) (hO9 : X + 3000 ≤ O) (hk9 : k9 < 200) (hc2 : c ≤ 2 * k9) (hq : q ≤ k9) (ha : a < 2 ^ 31) (hb : b < 2 ^ 31) (ret : ∀ (pc : Nat) (lv : List (Nat × Value)) (r : Int32) (M2 : w_M) (cells slots : Nat), cells ≤ 60 → slots ≤ 6 * 60 → decode cL_step pc = .ok (.ireturn, 1) → r = 0 ∨ r = 1 → (r = 1 ∧ JE X Y O (k9 + 1) M2) → u_S p l e (u_rk 10 260 60) s m args below meth c8 19 D A H0 cells slots Q pc lv [.int r] G M2) (hat : at9 < n) : u_S p l e (u_rk 10 260 60) s m args below meth c8 19 D A H0 0 0 Q 1120 [(0, .ref (gP G X)), (1, .ref (gP G O)), (2, .int (nI wh)), (3, .int (nI a)), (4, .int (nI b)), (5, .int (nI at9))] [] G M := by
  have n8 := h.v.rr.n8
  have i6 := h.v.rr.i6
  have t1 := h.v.rr.t1
  have o6 := h.v.o6
  have t6 := h.t6
  have s20 := h.s20
  have hw9 := h.w
  have hm9 := h.m
  have C0 := CC 0 0 (by omega) (by omega)
  refine u_aload_n C0 dL_step_1120 rfl ?_
  refine u_aload_n C0 dL_step_1121 rfl ?_
  refine u_iconst (v := nI 1) C0 dL_step_1122 (by decide) ?_
  refine u_iload_n C0 dL_step_1123 rfl ?_
  refine u_sipush (v := nI 200) C0 dL_step_1124 (by decide) ?_
  refine u_iremK C0 dL_step_1127 (by omega) (by omega) (by omega) ?_
  refine u_iaddK C0 dL_step_1128 ?_
  refine u_iconst (v := nI 1) C0 dL_step_1129 (by decide) ?_
  refine u_iload C0 dL_step_1130 rfl ?_
  refine u_bipush (v := nI 24) C0 dL_step_1132 (by decide) ?_
  refine u_iremK C0 dL_step_1134 (by omega) (by omega) (by omega) ?_
  refine u_iaddK C0 dL_step_1135 ?_
  have C1 := CC (0 + 40) (0 + 240) (by omega) (by omega)
  refine u_callGm (na := 4) C0 E.1 E.2.1 es_L_isWindow dL_step_1136 ml_RL_99 (As := [.ref (gP G X), .ref (gP G O), .int (nI (1 + a % 200)), .int (nI (1 + b % 24))]) (c_isWindow l D G M N X Y O (1 + a % 200) (1 + b % 24) E.2.2.2.2 hO E.2.2.2.1 h (by omega) (by omega) (by omega) (by omega) (by omega)) ⟨by decide, by decide⟩ rfl rfl (Nat.le_of_ble_eq_true rfl) C1.2.2.2 (fun r M3 q3 => ?_)
  obtain ⟨rfl, rfl⟩ := q3
  exact ret _ _ _ _ _ _ (by omega) (by omega) dL_step_1139 (Or.inr rfl) ⟨rfl, _, _, _, _, _, _, _, _, _, _, _, _, h, by omega, by omega⟩
set_option maxHeartbeats 4000000 in
set_option maxRecDepth 100000 in
theorem st_anew {p : Program} {l : Launch} {e : Env} {s : State} {m : MethodId} {args : Array Value} {below : List Frame} {meth : Method} {c8 : Code} {A : Nat → Prop} {H0 : Heap} {Q : State → Prop} {D : va_G} {G : w_G} {M N : w_M} {X Y O : Nat} {n ic τ c oc tc sc w0 m0 q cc k9 wh a b at9 : Nat} (CC : ∀ cells slots, cells ≤ 60 → slots ≤ 6 * 60 → u_C p (u_rk 10 260 60) s m args c8 cL_step RL 19 D A H0 cells slots G) (E : u_E l (u_rk 10 260 60) s A H0 G X) (hO : u_is G O 12 ∧ gN G O = 28) (h : JJ X Y O M N n ic τ c oc tc sc w0 m0 q cc) (hO9 : X + 3000 ≤ O) (hk9 : k9 < 200) (hc2 : c ≤ 2 * k9) (hq : q ≤ k9) (ha : a < 2 ^ 31) (hb : b < 2 ^ 31) (ret : ∀ (pc : Nat) (lv : List (Nat × Value)) (r : Int32) (M2 : w_M) (cells slots : Nat), cells ≤ 60 → slots ≤ 6 * 60 → decode cL_step pc = .ok (.ireturn, 1) → r = 0 ∨ r = 1 → (r = 1 ∧ JE X Y O (k9 + 1) M2) → u_S p l e (u_rk 10 260 60) s m args below meth c8 19 D A H0 cells slots Q pc lv [.int r] G M2) (hat : at9 < n) : u_S p l e (u_rk 10 260 60) s m args below meth c8 19 D A H0 0 0 Q 1140 [(0, .ref (gP G X)), (1, .ref (gP G O)), (2, .int (nI wh)), (3, .int (nI a)), (4, .int (nI b)), (5, .int (nI at9))] [] G M := by
  have n8 := h.v.rr.n8
  have i6 := h.v.rr.i6
  have t1 := h.v.rr.t1
  have o6 := h.v.o6
  have t6 := h.t6
  have s20 := h.s20
  have hw9 := h.w
  have hm9 := h.m
  have C0 := CC 0 0 (by omega) (by omega)
  refine u_aload_n C0 dL_step_1140 rfl ?_
  refine u_bipush (v := nI 8) C0 dL_step_1141 (by decide) ?_
  refine u_dup2 C0 dL_step_1143 rfl rfl ?_
  refine u_ialdNv (i := 8) (x := nI q) C0 dL_step_1144 hO.1 hO.2 (by decide) (by decide) h.d8 ?_
  refine u_iconst (v := nI 1) C0 dL_step_1145 (by decide) ?_
  refine u_iaddK C0 dL_step_1146 ?_
  refine u_iastN (i := 8) C0 dL_step_1147 hO.1 hO.2 (by decide) (by decide) ?_
  have J := jj_M (M2 := wi M O 8 (nI (q + 1))) h (q2 := q + 1) (fun a j ha => iv_n (by omega)) (fun j => rfl) iv_s (fun j hj => iv_n (by omega)) i6
  generalize wi M O 8 (nI (q + 1)) = M1 at *
  refine u_aload_n C0 dL_step_1148 rfl ?_
  refine u_bipush (v := nI 8) C0 dL_step_1149 (by decide) ?_
  refine u_ialdNv (i := 8) (x := nI (q + 1)) C0 dL_step_1151 hO.1 hO.2 (by decide) (by decide) J.d8 ?_
  refine u_iconst (v := nI 3) C0 dL_step_1152 (by decide) ?_
  refine u_icmp_gtK (tgt := 1181) C0 dL_step_1153 (by decide) (by omega) (by omega) (fun c_1153 => ?_) (fun c_1153 => ?_)
  · refine u_iconst (v := nI 1) C0 dL_step_1181 (by decide) ?_
    refine u_goto (tgt := 1186) C0 dL_step_1182 (by decide) ?_
    exact ret _ _ _ _ _ _ (by omega) (by omega) dL_step_1186 (Or.inr rfl) ⟨rfl, _, _, _, _, _, _, _, _, _, _, _, _, J, by omega, by omega⟩
  · refine u_aload_n C0 dL_step_1156 rfl ?_
    refine u_iload C0 dL_step_1157 rfl ?_
    refine u_iload C0 dL_step_1159 rfl ?_
    refine u_bipush (v := nI 10) C0 dL_step_1161 (by decide) ?_
    refine u_iremK C0 dL_step_1163 (by omega) (by omega) (by omega) ?_
    have C1 := CC (0 + 1) (0 + 6) (by omega) (by omega)
    refine k_anew C0 C1 E J.v (by omega) (k := at9) (w := b % 10) hat (by omega) dL_step_1164 (Nat.le_of_ble_eq_true rfl) (fun M2 hfr => ?_)
    have J2 := jj_M (M2 := M2) J (q2 := q + 1) (fun a j ha => (hfr a (by omega) j).1) (fun j => (hfr (X + 1005) (by omega) j).2) ((hfr O (by omega) 8).1.trans J.d8) (fun j hj => (hfr O (by omega) j).1) i6
    refine u_aload_n C1 dL_step_1167 rfl ?_
    refine u_iload C1 dL_step_1168 rfl ?_
    refine u_iload C1 dL_step_1170 rfl ?_
    refine u_bipush (v := nI 10) C1 dL_step_1172 (by decide) ?_
    refine u_iremK C1 dL_step_1174 (by omega) (by omega) (by omega) ?_
    have C2 := CC (0 + 1 + 1) (0 + 6 + 6) (by omega) (by omega)
    refine k_of C1 C2 E J2.v (k := at9) (w := b % 10) hat (by omega) dL_step_1175 (Nat.le_of_ble_eq_true rfl) rfl ?_
    refine u_icmp_ne (tgt := 1185) C2 dL_step_1178 (by decide) (fun c_1178 => ?_) (fun c_1178 => ?_)
    · exact absurd rfl c_1178
    · refine u_iconst (v := nI 1) C2 dL_step_1181 (by decide) ?_
      refine u_goto (tgt := 1186) C2 dL_step_1182 (by decide) ?_
      exact ret _ _ _ _ _ _ (by omega) (by omega) dL_step_1186 (Or.inr rfl) ⟨rfl, _, _, _, _, _, _, _, _, _, _, _, _, J2, by omega, by omega⟩
set_option maxHeartbeats 4000000 in
set_option maxRecDepth 100000 in
theorem st_pass {p : Program} {l : Launch} {e : Env} {s : State} {m : MethodId} {args : Array Value} {below : List Frame} {meth : Method} {c8 : Code} {A : Nat → Prop} {H0 : Heap} {Q : State → Prop} {D : va_G} {G : w_G} {M N : w_M} {X Y O : Nat} {n ic τ c oc tc sc w0 m0 q cc k9 wh a b at9 : Nat} (CC : ∀ cells slots, cells ≤ 60 → slots ≤ 6 * 60 → u_C p (u_rk 10 260 60) s m args c8 cL_step RL 19 D A H0 cells slots G) (E : u_E l (u_rk 10 260 60) s A H0 G X) (hO : u_is G O 12 ∧ gN G O = 28) (h : JJ X Y O M N n ic τ c oc tc sc w0 m0 q cc) (hO9 : X + 3000 ≤ O) (hk9 : k9 < 200) (hc2 : c ≤ 2 * k9) (hq : q ≤ k9) (ha : a < 2 ^ 31) (hb : b < 2 ^ 31) (ret : ∀ (pc : Nat) (lv : List (Nat × Value)) (r : Int32) (M2 : w_M) (cells slots : Nat), cells ≤ 60 → slots ≤ 6 * 60 → decode cL_step pc = .ok (.ireturn, 1) → r = 0 ∨ r = 1 → (r = 1 ∧ JE X Y O (k9 + 1) M2) → u_S p l e (u_rk 10 260 60) s m args below meth c8 19 D A H0 cells slots Q pc lv [.int r] G M2) (hat : at9 < n) : u_S p l e (u_rk 10 260 60) s m args below meth c8 19 D A H0 0 0 Q 1187 [(0, .ref (gP G X)), (1, .ref (gP G O)), (2, .int (nI wh)), (3, .int (nI a)), (4, .int (nI b)), (5, .int (nI at9))] [] G M := by
  have n8 := h.v.rr.n8
  have i6 := h.v.rr.i6
  have t1 := h.v.rr.t1
  have o6 := h.v.o6
  have t6 := h.t6
  have s20 := h.s20
  have hw9 := h.w
  have hm9 := h.m
  have C0 := CC 0 0 (by omega) (by omega)
  have k1204 : ∀ m9 : Nat, m9 = 12 ∨ m9 = 3 → u_S p l e (u_rk 10 260 60) s m args below meth c8 19 D A H0 0 0 Q 1204 [(0, .ref (gP G X)), (1, .ref (gP G O)), (2, .int (nI wh)), (3, .int (nI a)), (4, .int (nI b)), (5, .int (nI at9))] [.int (nI m9), .int (nI a), .int (nI 1), .ref (gP G O), .ref (gP G X)] G M := by
    intro m9 hm9
    have hr := Nat.mod_lt a (show 0 < m9 by omega)
    refine u_iremK C0 dL_step_1204 (by omega) (by omega) (by omega) ?_
    refine u_iaddK C0 dL_step_1205 ?_
    have C1 := CC (0 + 20) (0 + 120) (by omega) (by omega)
    refine u_callGm (na := 3) C0 E.1 E.2.1 es_L_hasPassed dL_step_1206 ml_RL_106 (As := [.ref (gP G X), .ref (gP G O), .int (nI (1 + a % m9))]) (c_hasPassed l D G M N X Y O (1 + a % m9) E.2.2.2.2 hO E.2.2.2.1 h (by omega) (by omega) (by omega) (by omega)) ⟨by decide, by decide⟩ rfl rfl (Nat.le_of_ble_eq_true rfl) C1.2.2.2 (fun r M3 q3 => ?_)
    obtain ⟨rfl, N3, c3, τ3, J, hτ3⟩ := q3
    exact ret _ _ _ _ _ _ (by omega) (by omega) dL_step_1209 (Or.inr rfl) ⟨rfl, _, _, _, _, _, _, _, _, _, _, _, _, J, by omega, by omega⟩
  refine u_aload_n C0 dL_step_1187 rfl ?_
  refine u_aload_n C0 dL_step_1188 rfl ?_
  refine u_iconst (v := nI 1) C0 dL_step_1189 (by decide) ?_
  refine u_iload_n C0 dL_step_1190 rfl ?_
  refine u_iload C0 dL_step_1191 rfl ?_
  refine u_iconst (v := nI 4) C0 dL_step_1193 (by decide) ?_
  refine u_iremK C0 dL_step_1194 (by omega) (by omega) (by omega) ?_
  refine u_if_neK (tgt := 1203) C0 dL_step_1195 (by decide) (by omega) (fun c_1195 => ?_) (fun c_1195 => ?_)
  · refine u_iconst (v := nI 3) C0 dL_step_1203 (by decide) ?_
    exact k1204 3 (by omega)
  · refine u_bipush (v := nI 12) C0 dL_step_1198 (by decide) ?_
    refine u_goto (tgt := 1204) C0 dL_step_1200 (by decide) ?_
    exact k1204 12 (by omega)
