/-! hours go by -/
theorem u_Wk {p : Program} {l : Launch} {e : Env} {R : Room} {s : State} {m : MethodId} {args : Array Value} {below : List Frame} {meth : Method} {c : Code} {Q : State → Prop} {cells slots nL k : Nat} {D : va_G} {A : Nat → Prop} {H0 : Heap} {G : w_G} {M : w_M} {pc : Nat} {lv : List (Nat × Value)} {st : List Value} (kk : u_S p l e R s m args below meth c nL D A H0 (cells + k) (slots + 6 * k) Q pc lv st G M) : u_S p l e R s m args below meth c nL D A H0 cells slots Q pc lv st G M := fun H locs ls hP hD hS hl => W.widen (Nat.le_add_right _ _) (Nat.le_add_right _ _) (kk H locs ls hP hD hS hl)
theorem t_pass {X Y O p : Nat} {M N M3 : w_M} {n ic τ c oc tc sc w0 m0 q cc : Nat} (h : JJ X Y O M N n ic τ c oc tc sc w0 m0 q cc) (hO9 : X + 3000 ≤ O) (hc : c < 512) (p0 : 1 ≤ p) (hp : τ + p ≤ 1000) (e3 : M3 = wi (m_go M (X + 1000) p) O 5 (nI (τ + p))) : ∃ c', JJ X Y O M3 (g_gos N Y p) n ic (τ + p) c oc tc sc w0 m0 q c' ∧ cc ≤ c' ∧ c' ≤ cc + (p + 1) / 2 ∧ g_sea (g_gos N Y p) Y τ = g_for N Y (nI τ) ∧ (∀ k, k < ic → (iv N (Y + 33) k).toInt ≤ (iv (g_gos N Y p) (Y + 33) k).toInt ∧ (iv (g_gos N Y p) (Y + 33) k).toInt ≤ (iv N (Y + 33) k).toInt + p * (iv N (Y + 30) k).toInt ∧ iv (g_gos N Y p) (Y + 30) k = iv N (Y + 30) k) ∧ (∀ j, iv (m_go M (X + 1000) p) O j = iv M O j) := by
  have n8 := h.v.rr.n8; have i6 := h.v.rr.i6
  obtain ⟨k1, k2, c', k3, k4, k5⟩ := gos_k p h.v.rr h.k h.kc hp (by omega)
  have J1 := h.v.pass (p := p) hp
  have f1 := fr_go n8 i6 p h.v.rr.Mn h.v.rr.Mi
  have far : ∀ j, iv (m_go M (X + 1000) p) O j = iv M O j := fun j => (f1 O (by omega) j).1
  have pc1 := @pC_le N Y cc
  have pc2 := @pC_le (g_gos N Y p) Y c'
  have o17 : ∀ (p : Nat) (N : w_M) (a j : Nat), (a = Y ∧ (j = 3 ∨ j = 5 ∨ j = 10)) ∨ a = Y + 17 ∨ a = Y + 29 → iv (g_gos N Y p) a j = iv N a j := by
    intro p
    induction p with
    | zero => intro N a j _; rfl
    | succ p ih =>
      intro N a j hj
      rw [g_gos, ih _ _ _ hj]
      unfold g_hour
      rw [hrn_c (by unfold kpA; omega) (by omega) (by omega) (by omega), c0_o (by omega) (by omega) (by omega) (by omega)]
      have : ∀ i, iv (g_r0 N Y i) a j = iv N a j := by
        intro i; induction i with
        | zero => rfl
        | succ i ih => rw [g_r0, iv_n (by omega), ih]
      exact this _
  have J3 : JV X Y M3 (g_gos N Y p) n ic (τ + p) c oc := J1.same (fun a j ha => by rw [e3, iv_n (by omega)]) (fun j => by rw [e3]; rfl)
  have d3 : ∀ j, j ≠ 5 → iv M3 O j = iv M O j := fun j hj => by rw [e3, iv_n (by omega), far]
  refine ⟨c', ⟨J3, k1, k3, ⟨?_, ?_, ?_, ?_, ?_, ?_, ?_, ?_, ?_, fun k hk => ?_, fun hn => ?_⟩, ?_, ?_, h.w, h.m, h.t6, h.s20, ?_⟩, k4, by omega, ?_, k2, far⟩
  · rw [d3 _ (by omega)]; exact h.d0
  · rw [d3 _ (by omega)]; exact h.d1
  · rw [d3 _ (by omega)]; exact h.d2
  · rw [d3 _ (by omega)]; exact h.d3
  · rw [d3 _ (by omega)]; exact h.d4
  · rw [e3, iv_s]
  · rw [d3 _ (by omega)]; exact h.d6
  · rw [d3 _ (by omega)]; exact h.d7
  · rw [d3 _ (by omega)]; exact h.d8
  · rw [d3 _ (by omega), d3 _ (by omega), o17 _ _ _ _ (by omega), (k2 k hk).2.2]; exact h.d9 k hk
  · rw [d3 _ (by omega), o17 _ _ _ _ (by omega)]; exact h.d27 hn
  · rw [o17 _ _ _ _ (by omega)]; exact h.htc
  · rw [o17 _ _ _ _ (by omega)]; exact h.hsc
  · rw [o17 _ _ _ _ (by omega)]; exact h.mk
  · have e1 : cN (iv (g_gos N Y p) Y 1) = τ + p := by rw [J1.rr.Nt]; exact cN_nI (by omega)
    unfold g_sea
    rw [e1, if_pos (by omega)]
    exact (past_k p h.v.rr hp τ).2 (by omega)
set_option maxHeartbeats 4000000 in
set_option maxRecDepth 100000 in
theorem c_hasPassed (l : Launch) (D : va_G) (G : w_G) (M N : w_M) (X Y O p9 : Nat) {n ic τ c oc tc sc w0 m0 q cc : Nat} (hX : L_sal G X) (hO : u_is G O 12 ∧ gN G O = 28) (hst : l.stackTraces = false) (h : JJ X Y O M N n ic τ c oc tc sc w0 m0 q cc) (hO9 : X + 3000 ≤ O) (hc : c < 512) (p0 : 1 ≤ p9) (p1 : p9 ≤ 12) : u_Gm l D G yL_hasPassed cL_hasPassed 9 (some .boolean) 9 215 20 [.ref (gP G X), .ref (gP G O), .int (nI p9)] M (fun r M2 => r = 1 ∧ ∃ N2 c2 τ2, JJ X Y O M2 N2 n ic τ2 c oc tc sc w0 m0 q c2 ∧ τ2 ≤ τ + p9) := by
  have n8 := h.v.rr.n8
  have i6 := h.v.rr.i6
  have t1 := h.v.rr.t1
  have hcc := h.kc.2.1
  have h12 := h.kc.1
  refine u_bodyGz (by decide +kernel) (Nat.le_of_ble_eq_true rfl) rfl (fun p e s m args below meth c8 A H0 Q CC hXT hXH ret => ?_)
  have E : u_E l (u_rk 9 215 20) s A H0 G X := ⟨hXT, hXH, ⟨by decide, by decide⟩, hst, hX⟩
  have C0 := CC 0 0 (by omega) (by omega)
  have rest : τ + p9 ≤ 1000 → ∀ lk9 : Int32, (0 < ic → lk9 = iv N (Y + 33) 0) → u_S p l e (u_rk 9 215 20) s m args below meth c8 9 D A H0 (0 + 1 + 1) (0 + 6 + 6) Q 61 [(0, .ref (gP G X)), (1, .ref (gP G O)), (2, .int (nI p9)), (3, .int (g_for N Y (nI τ))), (4, .int (nI cc))] [.int lk9] G M := by
    intro hp lk9 hlk
    have C0 := CC (0 + 1 + 1) (0 + 6 + 6) (by omega) (by omega)
    obtain ⟨c', J, g1, g2, g3, g4, far⟩ := t_pass h hO9 hc p0 hp rfl
    have J1 := h.v.pass (p := p9) hp
    have hc' := J.kc.2.1
    have h12' := J.kc.1
    generalize hN2 : g_gos N Y p9 = N2 at *
    refine u_istore C0 dL_hasPassed_61 (by decide) ?_
    refine u_aload_n C0 dL_hasPassed_63 rfl ?_
    refine u_iload_n C0 dL_hasPassed_64 rfl ?_
    refine u_iconst (v := nI 0) C0 dL_hasPassed_65 (by decide) ?_
    refine u_iconst (v := nI 0) C0 dL_hasPassed_66 (by decide) ?_
    refine u_iconst (v := nI 2) C0 dL_hasPassed_67 (by decide) ?_
    have C1 := CC (0 + 1 + 1 + 1) (0 + 6 + 6 + 6) (by omega) (by omega)
    refine k_pass C0 C1 E h.v p0 (by omega) dL_hasPassed_68 (Nat.le_of_ble_eq_true rfl) (fun _ => ?_) (fun z => absurd z (by omega))
    refine u_istore C1 dL_hasPassed_71 (by decide) ?_
    refine u_aload_n C1 dL_hasPassed_73 rfl ?_
    refine u_iconst (v := nI 5) C1 dL_hasPassed_74 (by decide) ?_
    refine u_dup2 C1 dL_hasPassed_75 rfl rfl ?_
    refine u_ialdNv (i := 5) (x := nI τ) C1 dL_hasPassed_76 hO.1 hO.2 (by decide) (by decide) (by rw [far]; exact h.d5) ?_
    refine u_iload_n C1 dL_hasPassed_77 rfl ?_
    refine u_iaddK C1 dL_hasPassed_78 ?_
    refine u_iastN (i := 5) C1 dL_hasPassed_79 hO.1 hO.2 (by decide) (by decide) ?_
    refine u_iload C1 dL_hasPassed_80 rfl ?_
    refine u_aload_n C1 dL_hasPassed_82 rfl ?_
    refine u_iconst (v := nI 5) C1 dL_hasPassed_83 (by decide) ?_
    refine u_ialdNv (i := 5) (x := nI (τ + p9)) C1 dL_hasPassed_84 hO.1 hO.2 (by decide) (by decide) J.d5 ?_
    refine u_icmp_neK (tgt := 137) C1 dL_hasPassed_85 (by decide) (by omega) (by omega) (fun c_85 => ?_) (fun c_85 => ?_)
    · exfalso; omega
    · refine u_aload_n C1 dL_hasPassed_88 rfl ?_
      refine k_now C1 E J.v dL_hasPassed_89 (Nat.le_of_ble_eq_true rfl) ?_
      refine u_iload C1 dL_hasPassed_92 rfl ?_
      refine u_icmp_neK (tgt := 137) C1 dL_hasPassed_94 (by decide) (by omega) (by omega) (fun c_94 => ?_) (fun c_94 => ?_)
      · exfalso; omega
      · refine u_aload_n C1 dL_hasPassed_97 rfl ?_
        refine u_iload C1 dL_hasPassed_98 rfl ?_
        refine u_iload_n C1 dL_hasPassed_100 rfl ?_
        refine u_isubK C1 dL_hasPassed_101 (by omega) (by omega) ?_
        have C2 := CC (0 + 1 + 1 + 1 + 1) (0 + 6 + 6 + 6 + 6) (by omega) (by omega)
        refine k_sea C1 C2 E J.v (k := τ + p9 - p9) (x := g_for N Y (nI τ)) (by omega) dL_hasPassed_102 (Nat.le_of_ble_eq_true rfl) (by rw [Nat.add_sub_cancel]; exact g3) ?_
        refine u_iload_n C2 dL_hasPassed_105 rfl ?_
        refine u_icmp_ne (tgt := 137) C2 dL_hasPassed_106 (by decide) (fun c_106 => ?_) (fun c_106 => ?_)
        · exact absurd rfl c_106
        · refine u_aload_n C2 dL_hasPassed_109 rfl ?_
          refine k_clos C2 E J.v (x := nI c') dL_hasPassed_110 (Nat.le_of_ble_eq_true rfl) h12' ?_
          refine u_iload C2 dL_hasPassed_113 rfl ?_
          refine u_icmp_ltK (tgt := 137) C2 dL_hasPassed_115 (by decide) (by omega) (by omega) (fun c_115 => ?_) (fun c_115 => ?_)
          · exfalso; omega
          · refine u_aload_n C2 dL_hasPassed_118 rfl ?_
            refine k_clos C2 E J.v (x := nI c') dL_hasPassed_119 (Nat.le_of_ble_eq_true rfl) h12' ?_
            refine u_iload C2 dL_hasPassed_122 rfl ?_
            refine u_iload_n C2 dL_hasPassed_124 rfl ?_
            refine u_iconst (v := nI 1) C2 dL_hasPassed_125 (by decide) ?_
            refine u_iaddK C2 dL_hasPassed_126 ?_
            refine u_iconst (v := nI 2) C2 dL_hasPassed_127 (by decide) ?_
            refine u_idivK C2 dL_hasPassed_128 (by omega) (by omega) (by omega) ?_
            refine u_iaddK C2 dL_hasPassed_129 ?_
            refine u_icmp_gtK (tgt := 137) C2 dL_hasPassed_130 (by decide) (by omega) (by omega) (fun c_130 => ?_) (fun c_130 => ?_)
            · exfalso; omega
            · refine u_iconst (v := nI 1) C2 dL_hasPassed_133 (by decide) ?_
              refine u_goto (tgt := 138) C2 dL_hasPassed_134 (by decide) ?_
              refine u_istore C2 dL_hasPassed_138 (by decide) ?_
              refine u_aload_n C2 dL_hasPassed_140 rfl ?_
              refine k_clos C2 E J.v (x := nI c') dL_hasPassed_141 (Nat.le_of_ble_eq_true rfl) h12' ?_
              refine u_iconst (v := nI 1) C2 dL_hasPassed_144 (by decide) ?_
              refine u_icmp_leK (tgt := 218) C2 dL_hasPassed_145 (by decide) (by omega) (by omega) (fun c_145 => ?_) (fun c_145 => ?_)
              · refine u_iload C2 dL_hasPassed_218 rfl ?_
                refine u_if_eqK (tgt := 262) C2 dL_hasPassed_220 (by decide) (by omega) (fun c_220 => ?_) (fun c_220 => ?_)
                · exfalso; omega
                · refine u_aload_n C2 dL_hasPassed_223 rfl ?_
                  refine u_iconst (v := nI 1) C2 dL_hasPassed_224 (by decide) ?_
                  refine u_ialdNv (i := 1) (x := nI ic) C2 dL_hasPassed_225 hO.1 hO.2 (by decide) (by decide) J.d1 ?_
                  refine u_if_eqK (tgt := 258) C2 dL_hasPassed_226 (by decide) (by omega) (fun c_226 => ?_) (fun c_226 => ?_)
                  · refine u_iconst (v := nI 1) C2 dL_hasPassed_258 (by decide) ?_
                    refine u_goto (tgt := 263) C2 dL_hasPassed_259 (by decide) ?_
                    exact ret _ _ _ _ _ _ (by omega) (by omega) dL_hasPassed_263 (Or.inr rfl) ⟨rfl, N2, c', τ + p9, J, Nat.le_refl _⟩
                  · obtain ⟨f1, f2, f3⟩ := g4 0 (by omega)
                    have fk := h.k.i 0 (by omega)
                    have fk1 := fk.2.1
                    have fk5 := fk.2.2.2.2.1
                    have fk6 := fk.2.2.2.2.2.1
                    have fu := h.v.rr.gi.us 0 (by omega)
                    have fl := hlk (by omega)
                    have fm : (nI p9 * iv N (Y + 30) 0).toInt = (p9 : Int) * (iv N (Y + 30) 0).toInt := by
                      have w1 : (p9 : Int) * (iv N (Y + 30) 0).toInt ≤ 12 * 500 := Int.mul_le_mul (by omega) fk1 fu (by omega)
                      have w2 : 0 ≤ (p9 : Int) * (iv N (Y + 30) 0).toInt := Int.mul_nonneg (by omega) fu
                      rw [i_mul (by rw [i_N (by omega)]; omega) (by rw [i_N (by omega)]; omega), i_N (by omega)]
                    have fw : (p9 : Int) * (iv N (Y + 30) 0).toInt ≤ 12 * 500 := Int.mul_le_mul (by omega) fk1 fu (by omega)
                    have fw0 : 0 ≤ (p9 : Int) * (iv N (Y + 30) 0).toInt := Int.mul_nonneg (by omega) fu
                    have fa : (lk9 + nI p9 * iv N (Y + 30) 0).toInt = lk9.toInt + (p9 : Int) * (iv N (Y + 30) 0).toInt := by rw [i_add (by rw [fm, fl]; omega) (by rw [fm, fl]; omega), fm]
                    refine u_aload_n C2 dL_hasPassed_229 rfl ?_
                    refine u_iconst (v := nI 0) C2 dL_hasPassed_230 (by decide) ?_
                    refine u_iconst (v := nI 2) C2 dL_hasPassed_231 (by decide) ?_
                    have C3 := CC (0 + 1 + 1 + 1 + 1 + 1) (0 + 6 + 6 + 6 + 6 + 6) (by omega) (by omega)
                    refine k_oin C2 C3 E J.v (k := 0) (by omega) (by decide) dL_hasPassed_232 (Nat.le_of_ble_eq_true rfl) oi_2 ?_
                    refine u_iload C3 dL_hasPassed_235 rfl ?_
                    refine u_icmp_lt (tgt := 262) C3 dL_hasPassed_237 (by decide) (fun c_237 => ?_) (fun c_237 => ?_)
                    · exact absurd c_237 (fun z => by rw [i_lt, fl] at z; omega)
                    · refine u_aload_n C3 dL_hasPassed_240 rfl ?_
                      refine u_iconst (v := nI 0) C3 dL_hasPassed_241 (by decide) ?_
                      refine u_iconst (v := nI 2) C3 dL_hasPassed_242 (by decide) ?_
                      have C4 := CC (0 + 1 + 1 + 1 + 1 + 1 + 1) (0 + 6 + 6 + 6 + 6 + 6 + 6) (by omega) (by omega)
                      refine k_oin C3 C4 E J.v (k := 0) (by omega) (by decide) dL_hasPassed_243 (Nat.le_of_ble_eq_true rfl) oi_2 ?_
                      refine u_iload C4 dL_hasPassed_246 rfl ?_
                      refine u_iload_n C4 dL_hasPassed_248 rfl ?_
                      refine u_aload_n C4 dL_hasPassed_249 rfl ?_
                      refine u_bipush (v := nI 15) C4 dL_hasPassed_250 (by decide) ?_
                      refine u_ialdNv (i := 15) (x := (iv N (Y + 30) 0)) C4 dL_hasPassed_252 hO.1 hO.2 (by decide) (by decide) ((J.d9 0 (by omega)).2.trans f3) ?_
                      refine u_imul C4 dL_hasPassed_253 ?_
                      refine u_iadd C4 dL_hasPassed_254 ?_
                      refine u_icmp_gt (tgt := 262) C4 dL_hasPassed_255 (by decide) (fun c_255 => ?_) (fun c_255 => ?_)
                      · exact absurd c_255 (fun z => by rw [i_lt, fa, fl] at z; omega)
                      · refine u_iconst (v := nI 1) C4 dL_hasPassed_258 (by decide) ?_
                        refine u_goto (tgt := 263) C4 dL_hasPassed_259 (by decide) ?_
                        exact ret _ _ _ _ _ _ (by omega) (by omega) dL_hasPassed_263 (Or.inr rfl) ⟨rfl, N2, c', τ + p9, J, Nat.le_refl _⟩
              · obtain ⟨ca, cb, q1, q2, q3, q4, q5⟩ := J.kc.2.2 (c' - 1) (by omega)
                obtain ⟨cd, q6, q7⟩ := q5 (c' - 1 - 1) (by omega)
                refine u_aload_n C2 dL_hasPassed_148 rfl ?_
                refine k_clos C2 E J.v (x := nI c') dL_hasPassed_149 (Nat.le_of_ble_eq_true rfl) h12' ?_
                refine u_iconst (v := nI 1) C2 dL_hasPassed_152 (by decide) ?_
                refine u_isubK C2 dL_hasPassed_153 (by omega) (by omega) ?_
                refine u_istore C2 dL_hasPassed_154 (by decide) ?_
                refine u_iload C2 dL_hasPassed_156 rfl ?_
                refine u_if_eqK (tgt := 215) C2 dL_hasPassed_158 (by decide) (by omega) (fun c_158 => ?_) (fun c_158 => ?_)
                · exfalso; omega
                · refine u_aload_n C2 dL_hasPassed_161 rfl ?_
                  refine u_iload C2 dL_hasPassed_162 rfl ?_
                  refine u_iconst (v := nI 0) C2 dL_hasPassed_164 (by decide) ?_
                  have C3 := CC (0 + 1 + 1 + 1 + 1 + 1) (0 + 6 + 6 + 6 + 6 + 6) (by omega) (by omega)
                  refine k_clo C2 C3 E J.v (k := c' - 1) (w := 0) (x := nI ca) h12' (by omega) (by decide) dL_hasPassed_165 (Nat.le_of_ble_eq_true rfl) (cl_0.trans q1) ?_ (by omega)
                  refine u_aload_n C3 dL_hasPassed_168 rfl ?_
                  refine u_iload C3 dL_hasPassed_169 rfl ?_
                  refine u_iconst (v := nI 1) C3 dL_hasPassed_171 (by decide) ?_
                  refine u_isubK C3 dL_hasPassed_172 (by omega) (by omega) ?_
                  refine u_iconst (v := nI 1) C3 dL_hasPassed_173 (by decide) ?_
                  have C4 := CC (0 + 1 + 1 + 1 + 1 + 1 + 1) (0 + 6 + 6 + 6 + 6 + 6 + 6) (by omega) (by omega)
                  refine k_clo C3 C4 E J.v (k := c' - 1 - 1) (w := 1) (x := nI cd) h12' (by omega) (by decide) dL_hasPassed_174 (Nat.le_of_ble_eq_true rfl) (cl_1.trans q6) ?_ (by omega)
                  refine u_iconst (v := nI 1) C4 dL_hasPassed_177 (by decide) ?_
                  refine u_iaddK C4 dL_hasPassed_178 ?_
                  refine u_icmp_leK (tgt := 215) C4 dL_hasPassed_179 (by decide) (by omega) (by omega) (fun c_179 => ?_) (fun c_179 => ?_)
                  · exfalso; omega
                  · refine u_aload_n C4 dL_hasPassed_182 rfl ?_
                    refine u_iload C4 dL_hasPassed_183 rfl ?_
                    refine u_iconst (v := nI 1) C4 dL_hasPassed_185 (by decide) ?_
                    have C5 := CC (0 + 1 + 1 + 1 + 1 + 1 + 1 + 1) (0 + 6 + 6 + 6 + 6 + 6 + 6 + 6) (by omega) (by omega)
                    refine k_clo C4 C5 E J.v (k := c' - 1) (w := 1) (x := nI cb) h12' (by omega) (by decide) dL_hasPassed_186 (Nat.le_of_ble_eq_true rfl) (cl_1.trans q2) ?_ (by omega)
                    refine u_aload_n C5 dL_hasPassed_189 rfl ?_
                    refine u_iload C5 dL_hasPassed_190 rfl ?_
                    refine u_iconst (v := nI 0) C5 dL_hasPassed_192 (by decide) ?_
                    have C6 := CC (0 + 1 + 1 + 1 + 1 + 1 + 1 + 1 + 1) (0 + 6 + 6 + 6 + 6 + 6 + 6 + 6 + 6) (by omega) (by omega)
                    refine k_clo C5 C6 E J.v (k := c' - 1) (w := 0) (x := nI ca) h12' (by omega) (by decide) dL_hasPassed_193 (Nat.le_of_ble_eq_true rfl) (cl_0.trans q1) ?_ (by omega)
                    refine u_icmp_ltK (tgt := 215) C6 dL_hasPassed_196 (by decide) (by omega) (by omega) (fun c_196 => ?_) (fun c_196 => ?_)
                    · exfalso; omega
                    · refine u_aload_n C6 dL_hasPassed_199 rfl ?_
                      refine u_iload C6 dL_hasPassed_200 rfl ?_
                      refine u_iconst (v := nI 1) C6 dL_hasPassed_202 (by decide) ?_
                      have C7 := CC (0 + 1 + 1 + 1 + 1 + 1 + 1 + 1 + 1 + 1) (0 + 6 + 6 + 6 + 6 + 6 + 6 + 6 + 6 + 6) (by omega) (by omega)
                      refine k_clo C6 C7 E J.v (k := c' - 1) (w := 1) (x := nI cb) h12' (by omega) (by decide) dL_hasPassed_203 (Nat.le_of_ble_eq_true rfl) (cl_1.trans q2) ?_ (by omega)
                      refine u_iload C7 dL_hasPassed_206 rfl ?_
                      refine u_icmp_geK (tgt := 215) C7 dL_hasPassed_208 (by decide) (by omega) (by omega) (fun c_208 => ?_) (fun c_208 => ?_)
                      · exfalso; omega
                      · refine u_iconst (v := nI 1) C7 dL_hasPassed_211 (by decide) ?_
                        refine u_goto (tgt := 216) C7 dL_hasPassed_212 (by decide) ?_
                        refine u_istore C7 dL_hasPassed_216 (by decide) ?_
                        refine u_iload C7 dL_hasPassed_218 rfl ?_
                        refine u_if_eqK (tgt := 262) C7 dL_hasPassed_220 (by decide) (by omega) (fun c_220 => ?_) (fun c_220 => ?_)
                        · exfalso; omega
                        · refine u_aload_n C7 dL_hasPassed_223 rfl ?_
                          refine u_iconst (v := nI 1) C7 dL_hasPassed_224 (by decide) ?_
                          refine u_ialdNv (i := 1) (x := nI ic) C7 dL_hasPassed_225 hO.1 hO.2 (by decide) (by decide) J.d1 ?_
                          refine u_if_eqK (tgt := 258) C7 dL_hasPassed_226 (by decide) (by omega) (fun c_226 => ?_) (fun c_226 => ?_)
                          · refine u_iconst (v := nI 1) C7 dL_hasPassed_258 (by decide) ?_
                            refine u_goto (tgt := 263) C7 dL_hasPassed_259 (by decide) ?_
                            exact ret _ _ _ _ _ _ (by omega) (by omega) dL_hasPassed_263 (Or.inr rfl) ⟨rfl, N2, c', τ + p9, J, Nat.le_refl _⟩
                          · obtain ⟨f1, f2, f3⟩ := g4 0 (by omega)
                            have fk := h.k.i 0 (by omega)
                            have fk1 := fk.2.1
                            have fk5 := fk.2.2.2.2.1
                            have fk6 := fk.2.2.2.2.2.1
                            have fu := h.v.rr.gi.us 0 (by omega)
                            have fl := hlk (by omega)
                            have fm : (nI p9 * iv N (Y + 30) 0).toInt = (p9 : Int) * (iv N (Y + 30) 0).toInt := by
                              have w1 : (p9 : Int) * (iv N (Y + 30) 0).toInt ≤ 12 * 500 := Int.mul_le_mul (by omega) fk1 fu (by omega)
                              have w2 : 0 ≤ (p9 : Int) * (iv N (Y + 30) 0).toInt := Int.mul_nonneg (by omega) fu
                              rw [i_mul (by rw [i_N (by omega)]; omega) (by rw [i_N (by omega)]; omega), i_N (by omega)]
                            have fw : (p9 : Int) * (iv N (Y + 30) 0).toInt ≤ 12 * 500 := Int.mul_le_mul (by omega) fk1 fu (by omega)
                            have fw0 : 0 ≤ (p9 : Int) * (iv N (Y + 30) 0).toInt := Int.mul_nonneg (by omega) fu
                            have fa : (lk9 + nI p9 * iv N (Y + 30) 0).toInt = lk9.toInt + (p9 : Int) * (iv N (Y + 30) 0).toInt := by rw [i_add (by rw [fm, fl]; omega) (by rw [fm, fl]; omega), fm]
                            refine u_aload_n C7 dL_hasPassed_229 rfl ?_
                            refine u_iconst (v := nI 0) C7 dL_hasPassed_230 (by decide) ?_
                            refine u_iconst (v := nI 2) C7 dL_hasPassed_231 (by decide) ?_
                            have C8 := CC (0 + 1 + 1 + 1 + 1 + 1 + 1 + 1 + 1 + 1 + 1) (0 + 6 + 6 + 6 + 6 + 6 + 6 + 6 + 6 + 6 + 6) (by omega) (by omega)
                            refine k_oin C7 C8 E J.v (k := 0) (by omega) (by decide) dL_hasPassed_232 (Nat.le_of_ble_eq_true rfl) oi_2 ?_
                            refine u_iload C8 dL_hasPassed_235 rfl ?_
                            refine u_icmp_lt (tgt := 262) C8 dL_hasPassed_237 (by decide) (fun c_237 => ?_) (fun c_237 => ?_)
                            · exact absurd c_237 (fun z => by rw [i_lt, fl] at z; omega)
                            · refine u_aload_n C8 dL_hasPassed_240 rfl ?_
                              refine u_iconst (v := nI 0) C8 dL_hasPassed_241 (by decide) ?_
                              refine u_iconst (v := nI 2) C8 dL_hasPassed_242 (by decide) ?_
                              have C9 := CC (0 + 1 + 1 + 1 + 1 + 1 + 1 + 1 + 1 + 1 + 1 + 1) (0 + 6 + 6 + 6 + 6 + 6 + 6 + 6 + 6 + 6 + 6 + 6) (by omega) (by omega)
                              refine k_oin C8 C9 E J.v (k := 0) (by omega) (by decide) dL_hasPassed_243 (Nat.le_of_ble_eq_true rfl) oi_2 ?_
                              refine u_iload C9 dL_hasPassed_246 rfl ?_
                              refine u_iload_n C9 dL_hasPassed_248 rfl ?_
                              refine u_aload_n C9 dL_hasPassed_249 rfl ?_
                              refine u_bipush (v := nI 15) C9 dL_hasPassed_250 (by decide) ?_
                              refine u_ialdNv (i := 15) (x := (iv N (Y + 30) 0)) C9 dL_hasPassed_252 hO.1 hO.2 (by decide) (by decide) ((J.d9 0 (by omega)).2.trans f3) ?_
                              refine u_imul C9 dL_hasPassed_253 ?_
                              refine u_iadd C9 dL_hasPassed_254 ?_
                              refine u_icmp_gt (tgt := 262) C9 dL_hasPassed_255 (by decide) (fun c_255 => ?_) (fun c_255 => ?_)
                              · exact absurd c_255 (fun z => by rw [i_lt, fa, fl] at z; omega)
                              · refine u_iconst (v := nI 1) C9 dL_hasPassed_258 (by decide) ?_
                                refine u_goto (tgt := 263) C9 dL_hasPassed_259 (by decide) ?_
                                exact ret _ _ _ _ _ _ (by omega) (by omega) dL_hasPassed_263 (Or.inr rfl) ⟨rfl, N2, c', τ + p9, J, Nat.le_refl _⟩
  refine u_aload_n C0 dL_hasPassed_0 rfl ?_
  refine u_iconst (v := nI 5) C0 dL_hasPassed_1 (by decide) ?_
  refine u_ialdNv (i := 5) (x := nI τ) C0 dL_hasPassed_2 hO.1 hO.2 (by decide) (by decide) h.d5 ?_
  refine u_iload_n C0 dL_hasPassed_3 rfl ?_
  refine u_iaddK C0 dL_hasPassed_4 ?_
  refine u_sipush (v := nI 1000) C0 dL_hasPassed_5 (by decide) ?_
  refine u_icmp_leK (tgt := 31) C0 dL_hasPassed_8 (by decide) (by omega) (by omega) (fun c_8 => ?_) (fun c_8 => ?_)
  · refine u_aload_n C0 dL_hasPassed_31 rfl ?_
    refine u_aload_n C0 dL_hasPassed_32 rfl ?_
    refine u_iconst (v := nI 5) C0 dL_hasPassed_33 (by decide) ?_
    refine u_ialdNv (i := 5) (x := nI τ) C0 dL_hasPassed_34 hO.1 hO.2 (by decide) (by decide) h.d5 ?_
    have C1 := CC (0 + 1) (0 + 6) (by omega) (by omega)
    refine k_sea C0 C1 E h.v (k := τ) (by omega) dL_hasPassed_35 (Nat.le_of_ble_eq_true rfl) (sea_f h.v.rr (Nat.le_refl _)) ?_
    refine u_istore_n C1 dL_hasPassed_38 (by decide) ?_
    refine u_aload_n C1 dL_hasPassed_39 rfl ?_
    refine k_clos C1 E h.v (x := nI cc) dL_hasPassed_40 (Nat.le_of_ble_eq_true rfl) h12 ?_
    refine u_istore C1 dL_hasPassed_43 (by decide) ?_
    refine u_aload_n C1 dL_hasPassed_45 rfl ?_
    refine u_iconst (v := nI 1) C1 dL_hasPassed_46 (by decide) ?_
    refine u_ialdNv (i := 1) (x := nI ic) C1 dL_hasPassed_47 hO.1 hO.2 (by decide) (by decide) h.d1 ?_
    refine u_if_neK (tgt := 55) C1 dL_hasPassed_48 (by decide) (by omega) (fun c_48 => ?_) (fun c_48 => ?_)
    · refine u_aload_n C1 dL_hasPassed_55 rfl ?_
      refine u_iconst (v := nI 0) C1 dL_hasPassed_56 (by decide) ?_
      refine u_iconst (v := nI 2) C1 dL_hasPassed_57 (by decide) ?_
      have C2 := CC (0 + 1 + 1) (0 + 6 + 6) (by omega) (by omega)
      refine k_oin C1 C2 E h.v (k := 0) (by omega) (by decide) dL_hasPassed_58 (Nat.le_of_ble_eq_true rfl) oi_2 ?_
      exact u_loc [0, 1, 2, 3, 4] rfl (rest c_8 _ (fun _ => rfl))
    · refine u_iconst (v := nI 0) C1 dL_hasPassed_51 (by decide) ?_
      refine u_goto (tgt := 61) C1 dL_hasPassed_52 (by decide) ?_
      refine u_Wk (k := 1) ?_
      exact u_loc [0, 1, 2, 3, 4] rfl (rest c_8 _ (fun z => absurd z (by omega)))
  · refine u_aload_n C0 dL_hasPassed_11 rfl ?_
    refine u_iload_n C0 dL_hasPassed_12 rfl ?_
    refine u_iconst (v := nI 0) C0 dL_hasPassed_13 (by decide) ?_
    refine u_iconst (v := nI 0) C0 dL_hasPassed_14 (by decide) ?_
    refine u_iconst (v := nI 2) C0 dL_hasPassed_15 (by decide) ?_
    have C1 := CC (0 + 1) (0 + 6) (by omega) (by omega)
    refine k_pass C0 C1 E h.v p0 (by omega) dL_hasPassed_16 (Nat.le_of_ble_eq_true rfl) (fun z => absurd z (by omega)) (fun _ => ?_)
    refine u_sipush (v := (-200)) C1 dL_hasPassed_19 (by decide) ?_
    refine u_icmp_ne (tgt := 29) C1 dL_hasPassed_22 (by decide) (fun c_22 => ?_) (fun c_22 => ?_)
    · exact absurd rfl c_22
    · refine u_iconst (v := nI 1) C1 dL_hasPassed_25 (by decide) ?_
      refine u_goto (tgt := 30) C1 dL_hasPassed_26 (by decide) ?_
      exact ret _ _ _ _ _ _ (by omega) (by omega) dL_hasPassed_30 (Or.inr rfl) ⟨rfl, N, cc, τ, h, by omega⟩
