/-! a constructor's contract; an object made; a row of objects made -/
def z_ok (G : w_G) (M : w_M) (q : Nat) : Prop := ¬ q ∈ gL G ∧ ∀ j, iv M q j = 0 ∧ jv M q j = 0
def u_K (l : Launch) (D : va_G) (y : MethodName) (bytes : ByteArray) (maxL f n mc ms ci : Nat) (Re : Nat → Nat → Prop) (L : w_G → Nat → Prop) (fM : w_M → Nat → w_M) : Prop :=
  ∀ (G : w_G) (M : w_M) (k : Nat), g_ok G → u_is G k ci → (∀ q, Re k q → ¬ q = k → z_ok G M q) → u_Mc l D G y bytes maxL f n mc ms [.ref (gP G k)] M (fun G2 M2 => gx G G2 (Re k) ∧ L G2 k ∧ M2 = fM M k)
theorem z_ok.gx {G G2 : w_G} {M : w_M} {R : Nat → Prop} {q : Nat} (h : z_ok G M q) (hx : gx G G2 R) (hq : ¬ R q) : z_ok G2 M q := ⟨hx.nin hq h.1, h.2⟩
section UMK
variable {p : Program} {l : Launch} {e : Env} {R : Room} {s : State} {m : MethodId} {args : Array Value} {below : List Frame} {meth : Method} {c : Code} {Q : State → Prop} {cells slots : Nat}
variable {cc : ByteArray} {own : String} {nL : Nat} {D : va_G} {A : Nat → Prop} {H0 : Heap} {G : w_G} {M : w_M} {pc : Nat} {lv : List (Nat × Value)} {st st0 : List Value} {cells2 slots2 : Nat}
variable {y : MethodName} {bytes : ByteArray} {maxL f n mc ms index ix ci : Nat} {Re : Nat → Nat → Prop} {L : w_G → Nat → Prop} {fM : w_M → Nat → w_M}
/-- new, dup, invokespecial -/
theorem u_mk (C : u_C p R s m args c cc own nL D A H0 cells slots G) {k : Nat} (hK : u_K l D y bytes maxL f n mc ms ci Re L fM) (hRe : ∀ q, Re k q → z_ok G M q) (hkk : Re k k) (hok : g_ok G)
    (hd1 : decode cc pc = .ok (.new ix, 3)) (hd2 : decode cc (pc + 3) = .ok (.dup, 1)) (hd3 : decode cc (pc + 4) = .ok (.invokespecial index, 3)) (hnw : u_nw own ix ci) (hm : u_me y bytes maxL none 0) (hin : y.name = "<init>") (hwv : Cond.instanceMethod y ∈ wsL_law) (hlk : Cond.methodLink own index y ∈ wsL_law ∨ Cond.methodLinkNest own index y RX10 ∈ u_nestL)
    (hR : f + 1 ≤ R.frames ∧ 8 + (maxL + 11) + n ≤ R.locals) (hcat : (st.map fun v => v.category).sum ≤ 7) (hcs : cells + (1 + mc) = cells2 ∧ slots + (w_nf ci + ms) = slots2 ∧ cells2 ≤ R.cells ∧ slots2 ≤ R.slots)
    (kk : ∀ G2, gx G G2 (Re k) → u_is G2 k ci → L G2 k → u_S p l e R s m args below meth c nL D A H0 cells2 slots2 Q (pc + 7) lv (.ref (gP G2 k) :: st) G2 (fM M k)) : u_S p l e R s m args below meth c nL D A H0 cells slots Q pc lv st G M := by
  obtain ⟨rfl, rfl, h1, h2⟩ := hcs
  refine u_new C hd1 hnw (hRe k hkk).1 hok (fun j => ((hRe k hkk).2 j).1) ⟨rfl, rfl, by omega, by omega⟩ (fun G1 hx1 hi1 => ?_)
  have C1 := C.to (G2 := G1) (cells2 := cells + 1) (slots2 := slots + w_nf ci) hx1.c (by omega) (by omega)
  refine u_dup C1 hd2 rfl ?_
  have hMc := hK G1 M k (hx1.ok hok) hi1 (fun q hq hne => (hRe q hq).gx hx1 hne)
  have hcat2 : ((Value.ref (gP G1 k) :: st).map fun v => v.category).sum ≤ 8 := by
    simp only [List.map_cons, List.sum_cons]
    show 1 + _ ≤ 8
    omega
  have hk2 : ∀ (G2 : w_G) (M2 : w_M), gx G1 G2 (Re k) ∧ L G2 k ∧ M2 = fM M k → u_S p l e R s m args below meth c nL D A H0 (cells + (1 + mc)) (slots + (w_nf ci + ms)) Q (pc + 4 + 3) lv (.ref (gP G1 k) :: st) G2 M2 := by
    rintro G2 M2 ⟨hx2, hL, rfl⟩
    have := kk G2 (hx1.tr hx2 (fun b hb => by rw [hb]; exact hkk) (fun b hb => hb)) (hx2.is hi1) hL
    rw [hx2.P hi1] at this
    exact this
  rcases hlk with hlk | hlk
  · exact u_callC C1 hm hin hwv hd3 hlk hMc hR hcat2 ⟨by omega, by omega, h1, h2⟩ hk2
  · exact u_callCN C1 hm hin hwv hd3 hlk hMc hR hcat2 ⟨by omega, by omega, h1, h2⟩ hk2
/-- the memory when i of a row's objects are made -/
def f_it (fM : w_M → Nat → w_M) (b : Nat) (M : w_M) : Nat → w_M
  | 0 => M
  | i + 1 => fM (f_it fM b M i) (b + i)
theorem f_it_kp {fM : w_M → Nat → w_M} {b : Nat} {M : w_M} (h : ∀ M k q j, ¬ q = k → iv (fM M k) q j = iv M q j ∧ jv (fM M k) q j = jv M q j) : ∀ (i q : Nat), (∀ j, j < i → ¬ q = b + j) → ∀ j, iv (f_it fM b M i) q j = iv M q j ∧ jv (f_it fM b M i) q j = jv M q j
  | 0, _, _, _ => ⟨rfl, rfl⟩
  | i + 1, q, hq, j => by
    have h1 := h (f_it fM b M i) (b + i) q j (hq i (Nat.lt_succ_self i))
    have h2 := f_it_kp (M := M) h i q (fun j hj => hq j (Nat.lt_succ_of_lt hj)) j
    exact ⟨h1.1.trans h2.1, h1.2.trans h2.2⟩
/-- for (i = 0; i < row.length; i++) row[i] = new T(): from the loop's head to its end -/
theorem u_fill {p0 k r t N cj b : Nat} {Cn : vw_C} (C : u_C p R s m args c cc own 2 D A H0 cells slots G) (hK : u_K l D y bytes maxL f n mc ms ci Re L fM)
    (hkp : ∀ M k q j, ¬ q = k → iv (fM M k) q j = iv M q j ∧ jv (fM M k) q j = jv M q j)
    (hLx : ∀ G G2 R k, gx G G2 R → (∀ q, Re k q → ¬ R q) → L G k → L G2 k)
    (hfr : ∀ i, i < N → ∀ q, Re (b + i) q → z_ok G M q) (hself : ∀ k, Re k k) (hap : ∀ i j, i < N → j < i → ∀ q, Re (b + i) q → ¬ Re (b + j) q) (hrr : ∀ i, i < N → ¬ Re (b + i) r) (hkR : ∀ i, i < N → ¬ Re (b + i) k) (hrk : ¬ k = r) (hok : g_ok G)
    {cI : Nat} (hk : u_is G k cI) (hkf : gF G k cj = some r) (hrf : w_rf cI cj = true) (hr : u_is G r t) (hrn : gN G r = N) (hN : N < 10000) (ht : w_rc t Cn.1) (hcl : vwCl[ci]? = some Cn) (hci : ci < 12)
    (d0 : decode cc p0 = .ok (.iload_n 1, 1)) (d1 : decode cc (p0 + 1) = .ok (.aload_n 0, 1)) (g2 : u_gf cc own (p0 + 2) cI cj) (d5 : decode cc (p0 + 5) = .ok (.arraylength, 1)) (d6 : decode cc (p0 + 6) = .ok (.if_icmp .ge 22, 3))
    (d9 : decode cc (p0 + 9) = .ok (.aload_n 0, 1)) (g10 : u_gf cc own (p0 + 10) cI cj) (d13 : decode cc (p0 + 13) = .ok (.iload_n 1, 1)) (d14 : decode cc (p0 + 14) = .ok (.new ix, 3)) (d17 : decode cc (p0 + 17) = .ok (.dup, 1)) (d18 : decode cc (p0 + 18) = .ok (.invokespecial index, 3)) (d21 : decode cc (p0 + 21) = .ok (.aastore, 1)) (d22 : decode cc (p0 + 22) = .ok (.iinc 1 1, 3)) (d25 : decode cc (p0 + 25) = .ok (.goto (-25), 3))
    (hnw : u_nw own ix ci) (hm : u_me y bytes maxL none 0) (hin : y.name = "<init>") (hwv : Cond.instanceMethod y ∈ wsL_law) (hlk : Cond.methodLink own index y ∈ wsL_law ∨ Cond.methodLinkNest own index y RX10 ∈ u_nestL)
    (hR : f + 1 ≤ R.frames ∧ 8 + (maxL + 11) + n ≤ R.locals) (hcs : cells + N * (1 + mc) = cells2 ∧ slots + N * (w_nf ci + ms) = slots2 ∧ cells2 ≤ R.cells ∧ slots2 ≤ R.slots)
    (kk : ∀ G2, gx G G2 (fun q => q = r ∨ ∃ j, j < N ∧ Re (b + j) q) → (∀ j, j < N → gF G2 r j = some (b + j) ∧ L G2 (b + j)) → u_S p l e R s m args below meth c 2 D A H0 cells2 slots2 Q (p0 + 28) [(1, .int (nI N)), (0, .ref (gP G2 k))] [] G2 (f_it fM b M N)) :
    u_S p l e R s m args below meth c 2 D A H0 cells slots Q p0 [(1, .int (nI 0)), (0, .ref (gP G k))] [] G M := by
  obtain ⟨rfl, rfl, hc1, hc2⟩ := hcs
  have main : ∀ (v i : Nat), i + v = N → ∀ (G1 : w_G), gx G G1 (fun q => q = r ∨ ∃ j, j < i ∧ Re (b + j) q) → (∀ j, j < i → gF G1 r j = some (b + j) ∧ L G1 (b + j)) → u_S p l e R s m args below meth c 2 D A H0 (cells + i * (1 + mc)) (slots + i * (w_nf ci + ms)) Q p0 [(1, .int (nI i)), (0, .ref (gP G1 k))] [] G1 (f_it fM b M i) := by
    intro v
    induction v with
    | zero =>
      intro i hi G1 hx hd
      obtain rfl : i = N := by omega
      have C1 := C.to (G2 := G1) (cells2 := cells + i * (1 + mc)) (slots2 := slots + i * (w_nf ci + ms)) hx.c hc1 hc2
      have hk1 := hx.is hk
      have hr1 := hx.is hr
      have hf1 : gF G1 k cj = some r := by rw [hx.F (fun z => z.elim hrk (fun ⟨j, hj, hq⟩ => hkR j hj hq))]; exact hkf
      refine u_iload_n C1 (n := 1) d0 rfl ?_
      refine u_aload_n C1 (n := 0) d1 rfl ?_
      refine u_getR C1 g2 hrf hk1 hf1 ?_
      refine u_alenR C1 d5 hr1 ⟨ht.2.1, by have := ht.2.2.1; omega⟩ ?_
      refine u_icmp_ge C1 d6 (tgt := p0 + 28) (by omega) (fun _ => kk G1 hx hd) (fun h => absurd ?_ h)
      rw [hx.N hr, hrn]
      exact nI_le (Nat.le_refl _) (by omega)
    | succ v ih =>
      intro i hi G1 hx hd
      have hiN : i < N := by omega
      have hmul : (i + 1) * (1 + mc) = i * (1 + mc) + (1 + mc) := Nat.succ_mul _ _
      have hmul2 : (i + 1) * (w_nf ci + ms) = i * (w_nf ci + ms) + (w_nf ci + ms) := Nat.succ_mul _ _
      have hle : (i + 1) * (1 + mc) ≤ N * (1 + mc) := Nat.mul_le_mul_right _ hiN
      have hle2 : (i + 1) * (w_nf ci + ms) ≤ N * (w_nf ci + ms) := Nat.mul_le_mul_right _ hiN
      have C1 := C.to (G2 := G1) (cells2 := cells + i * (1 + mc)) (slots2 := slots + i * (w_nf ci + ms)) hx.c (by omega) (by omega)
      have hk1 := hx.is hk
      have hr1 := hx.is hr
      have hf1 : gF G1 k cj = some r := by rw [hx.F (fun z => z.elim hrk (fun ⟨j, hj, hq⟩ => hkR j (by omega) hq))]; exact hkf
      refine u_iload_n C1 (n := 1) d0 rfl ?_
      refine u_aload_n C1 (n := 0) d1 rfl ?_
      refine u_getR C1 g2 hrf hk1 hf1 ?_
      refine u_alenR C1 d5 hr1 ⟨ht.2.1, by have := ht.2.2.1; omega⟩ ?_
      refine u_icmp_ge C1 d6 (tgt := p0 + 28) (by omega) (fun h => absurd h ?_) (fun _ => ?_)
      · rw [hx.N hr, hrn]
        exact nI_ge hiN (by omega)
      refine u_aload_n C1 (n := 0) d9 rfl ?_
      refine u_getR C1 g10 hrf hk1 hf1 ?_
      refine u_iload_n C1 (n := 1) d13 rfl ?_
      have hz : ∀ q, Re (b + i) q → z_ok G1 (f_it fM b M i) q := by
        intro q hq
        have hzq := hfr i hiN q hq
        have hne : ∀ j, j < i → ¬ q = b + j := fun j hj z => hap i j hiN hj q hq (by rw [z]; exact hself _)
        refine ⟨hx.nin (fun z => z.elim (fun z => hrr i hiN (z ▸ hq)) (fun ⟨j, hj, hq2⟩ => hap i j hiN hj q hq hq2)) hzq.1, fun j => ?_⟩
        have := f_it_kp (M := M) hkp i q hne j
        exact ⟨this.1.trans (hzq.2 j).1, this.2.trans (hzq.2 j).2⟩
      refine u_mk C1 (k := b + i) hK hz (hself _) (hx.ok hok) d14 d17 d18 hnw hm hin hwv hlk hR (by show 1 + (1 + 0) ≤ 7; omega) ⟨rfl, rfl, by omega, by omega⟩ (fun G2 hx2 hi2 hL2 => ?_)
      have C2 := C.to (G2 := G2) (cells2 := cells + i * (1 + mc) + (1 + mc)) (slots2 := slots + i * (w_nf ci + ms) + (w_nf ci + ms)) (hx2.c.trans hx.c) (by omega) (by omega)
      have hr2 := hx2.is hr1
      rw [← hx2.P hr1, ← hx2.P hk1]
      refine u_aast C2 d21 ht hcl hci hr2 hi2 rfl (by rw [hx2.N hr1, hx.N hr, hrn]; exact hiN) (by rw [hx2.N hr1, hx.N hr, hrn]; exact hN) (fun G3 hx3 hF3 => ?_)
      have C3 := C2.to (G2 := G3) hx3.c C2.2.2.2.1 C2.2.2.2.2
      have hk2 := hx2.is hk1
      rw [← hx3.P hk2]
      refine u_iinc C3 d22 (by omega) rfl ?_
      refine u_goto C3 d25 (tgt := p0) (by omega) ?_
      have hG : gx G G3 (fun q => q = r ∨ ∃ j, j < i + 1 ∧ Re (b + j) q) := by
        refine (hx.tr (R3 := fun q => q = r ∨ ∃ j, j < i + 1 ∧ Re (b + j) q) hx2 ?_ ?_).tr hx3 (fun b hb => hb) (fun b hb => Or.inl hb)
        · rintro q (z | ⟨j, hj, hq⟩)
          · exact Or.inl z
          · exact Or.inr ⟨j, by omega, hq⟩
        · exact fun q hq => Or.inr ⟨i, by omega, hq⟩
      have hd3 : ∀ j, j < i + 1 → gF G3 r j = some (b + j) ∧ L G3 (b + j) := by
        intro j hj
        have hj2 : j < N := by omega
        have hLr : ∀ q, Re (b + j) q → ¬ q = r := fun q hq z => hrr j hj2 (z ▸ hq)
        by_cases hji : j = i
        · subst hji
          exact ⟨by rw [hF3, if_pos rfl], hLx _ _ _ _ hx3 hLr hL2⟩
        · have hji2 : j < i := by omega
          obtain ⟨e1, e2⟩ := hd j hji2
          refine ⟨?_, hLx _ _ _ _ hx3 hLr (hLx _ _ _ _ hx2 (fun q hq hq2 => hap i j hiN hji2 q hq2 hq) e2)⟩
          rw [hF3, if_neg hji, hx2.F (hrr i hiN)]
          exact e1
      have := ih (i + 1) (by omega) G3 hG hd3
      rw [show cells + (i + 1) * (1 + mc) = cells + i * (1 + mc) + (1 + mc) by omega, show slots + (i + 1) * (w_nf ci + ms) = slots + i * (w_nf ci + ms) + (w_nf ci + ms) by omega, nI_succ] at this
      exact this
  have h0 := main N 0 (by omega) G gx.rf (fun j hj => absurd hj (Nat.not_lt_zero j))
  rw [Nat.zero_mul, Nat.zero_mul] at h0
  exact h0
end UMK
