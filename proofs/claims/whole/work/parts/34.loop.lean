/-! the law's loop -/
theorem and31 (x : Int32) : ∃ z : Nat, z < 32 ∧ (x &&& nI 31).toInt = (z : Int) := by
  have h : (x &&& nI 31).toBitVec.toNat ≤ 31 := by
    rw [Int32.toBitVec_and, BitVec.toNat_and]
    exact Nat.and_le_right
  refine ⟨(x &&& nI 31).toBitVec.toNat, by omega, ?_⟩
  exact BitVec.toInt_eq_toNat_of_lt (by omega)
theorem sub6 {L i : Nat} (hL : L < 10000) (hi : i < 10000) (h : ¬ nI L - nI 6 < nI i) : i + 6 ≤ L := by
  rw [Int32.lt_iff_toInt_lt, Int32.toInt_sub, nI_toInt (by omega), nI_toInt (by omega), nI_toInt (by omega), Int.bmod_eq_of_le (by omega) (by omega)] at h
  omega
def H_all (l : Launch) (D : va_G) (G : w_G) (X Y O : Nat) (Inv : Nat → w_M → Prop) : Prop := H_turn l D G X Y O Inv ∧ H_mean l D G X Y O Inv ∧ H_surge l D G X Y O Inv ∧ H_river l D G X Y O Inv ∧ H_barrier l D G X Y O Inv ∧ H_section l D G X Y O Inv ∧ H_intake l D G X Y O Inv ∧ H_oysters l D G X Y O Inv ∧ H_permit l D G X Y O Inv ∧ H_whyNot l D G X Y O Inv ∧ H_dredge l D G X Y O Inv ∧ H_pass l D G X Y O Inv ∧ H_now l D G X Y O Inv ∧ H_sea l D G X Y O Inv ∧ H_ofSection l D G X Y O Inv ∧ H_ofSectionAnew l D G X Y O Inv ∧ H_ofIntake l D G X Y O Inv ∧ H_isClosed l D G X Y O Inv ∧ H_closures l D G X Y O Inv ∧ H_closure l D G X Y O Inv ∧ H_intrusion l D G X Y O Inv ∧ H_window l D G X Y O Inv ∧ H_sum l D G X Y O Inv ∧ ∀ t M, Inv t M → Inv (t + 1) M
theorem H_all.turn {l : Launch} {D : va_G} {G : w_G} {X Y O : Nat} {Inv : Nat → w_M → Prop} (h : H_all l D G X Y O Inv) : H_turn l D G X Y O Inv := h.1
theorem H_all.mean {l : Launch} {D : va_G} {G : w_G} {X Y O : Nat} {Inv : Nat → w_M → Prop} (h : H_all l D G X Y O Inv) : H_mean l D G X Y O Inv := h.2.1
theorem H_all.surge {l : Launch} {D : va_G} {G : w_G} {X Y O : Nat} {Inv : Nat → w_M → Prop} (h : H_all l D G X Y O Inv) : H_surge l D G X Y O Inv := h.2.2.1
theorem H_all.river {l : Launch} {D : va_G} {G : w_G} {X Y O : Nat} {Inv : Nat → w_M → Prop} (h : H_all l D G X Y O Inv) : H_river l D G X Y O Inv := h.2.2.2.1
theorem H_all.barrier {l : Launch} {D : va_G} {G : w_G} {X Y O : Nat} {Inv : Nat → w_M → Prop} (h : H_all l D G X Y O Inv) : H_barrier l D G X Y O Inv := h.2.2.2.2.1
theorem H_all.section {l : Launch} {D : va_G} {G : w_G} {X Y O : Nat} {Inv : Nat → w_M → Prop} (h : H_all l D G X Y O Inv) : H_section l D G X Y O Inv := h.2.2.2.2.2.1
theorem H_all.intake {l : Launch} {D : va_G} {G : w_G} {X Y O : Nat} {Inv : Nat → w_M → Prop} (h : H_all l D G X Y O Inv) : H_intake l D G X Y O Inv := h.2.2.2.2.2.2.1
theorem H_all.oysters {l : Launch} {D : va_G} {G : w_G} {X Y O : Nat} {Inv : Nat → w_M → Prop} (h : H_all l D G X Y O Inv) : H_oysters l D G X Y O Inv := h.2.2.2.2.2.2.2.1
theorem H_all.permit {l : Launch} {D : va_G} {G : w_G} {X Y O : Nat} {Inv : Nat → w_M → Prop} (h : H_all l D G X Y O Inv) : H_permit l D G X Y O Inv := h.2.2.2.2.2.2.2.2.1
theorem H_all.whyNot {l : Launch} {D : va_G} {G : w_G} {X Y O : Nat} {Inv : Nat → w_M → Prop} (h : H_all l D G X Y O Inv) : H_whyNot l D G X Y O Inv := h.2.2.2.2.2.2.2.2.2.1
theorem H_all.dredge {l : Launch} {D : va_G} {G : w_G} {X Y O : Nat} {Inv : Nat → w_M → Prop} (h : H_all l D G X Y O Inv) : H_dredge l D G X Y O Inv := h.2.2.2.2.2.2.2.2.2.2.1
theorem H_all.pass {l : Launch} {D : va_G} {G : w_G} {X Y O : Nat} {Inv : Nat → w_M → Prop} (h : H_all l D G X Y O Inv) : H_pass l D G X Y O Inv := h.2.2.2.2.2.2.2.2.2.2.2.1
theorem H_all.now {l : Launch} {D : va_G} {G : w_G} {X Y O : Nat} {Inv : Nat → w_M → Prop} (h : H_all l D G X Y O Inv) : H_now l D G X Y O Inv := h.2.2.2.2.2.2.2.2.2.2.2.2.1
theorem H_all.sea {l : Launch} {D : va_G} {G : w_G} {X Y O : Nat} {Inv : Nat → w_M → Prop} (h : H_all l D G X Y O Inv) : H_sea l D G X Y O Inv := h.2.2.2.2.2.2.2.2.2.2.2.2.2.1
theorem H_all.ofSection {l : Launch} {D : va_G} {G : w_G} {X Y O : Nat} {Inv : Nat → w_M → Prop} (h : H_all l D G X Y O Inv) : H_ofSection l D G X Y O Inv := h.2.2.2.2.2.2.2.2.2.2.2.2.2.2.1
theorem H_all.ofSectionAnew {l : Launch} {D : va_G} {G : w_G} {X Y O : Nat} {Inv : Nat → w_M → Prop} (h : H_all l D G X Y O Inv) : H_ofSectionAnew l D G X Y O Inv := h.2.2.2.2.2.2.2.2.2.2.2.2.2.2.2.1
theorem H_all.ofIntake {l : Launch} {D : va_G} {G : w_G} {X Y O : Nat} {Inv : Nat → w_M → Prop} (h : H_all l D G X Y O Inv) : H_ofIntake l D G X Y O Inv := h.2.2.2.2.2.2.2.2.2.2.2.2.2.2.2.2.1
theorem H_all.isClosed {l : Launch} {D : va_G} {G : w_G} {X Y O : Nat} {Inv : Nat → w_M → Prop} (h : H_all l D G X Y O Inv) : H_isClosed l D G X Y O Inv := h.2.2.2.2.2.2.2.2.2.2.2.2.2.2.2.2.2.1
theorem H_all.closures {l : Launch} {D : va_G} {G : w_G} {X Y O : Nat} {Inv : Nat → w_M → Prop} (h : H_all l D G X Y O Inv) : H_closures l D G X Y O Inv := h.2.2.2.2.2.2.2.2.2.2.2.2.2.2.2.2.2.2.1
theorem H_all.closure {l : Launch} {D : va_G} {G : w_G} {X Y O : Nat} {Inv : Nat → w_M → Prop} (h : H_all l D G X Y O Inv) : H_closure l D G X Y O Inv := h.2.2.2.2.2.2.2.2.2.2.2.2.2.2.2.2.2.2.2.1
theorem H_all.intrusion {l : Launch} {D : va_G} {G : w_G} {X Y O : Nat} {Inv : Nat → w_M → Prop} (h : H_all l D G X Y O Inv) : H_intrusion l D G X Y O Inv := h.2.2.2.2.2.2.2.2.2.2.2.2.2.2.2.2.2.2.2.2.1
theorem H_all.window {l : Launch} {D : va_G} {G : w_G} {X Y O : Nat} {Inv : Nat → w_M → Prop} (h : H_all l D G X Y O Inv) : H_window l D G X Y O Inv := h.2.2.2.2.2.2.2.2.2.2.2.2.2.2.2.2.2.2.2.2.2.1
theorem H_all.sum {l : Launch} {D : va_G} {G : w_G} {X Y O : Nat} {Inv : Nat → w_M → Prop} (h : H_all l D G X Y O Inv) : H_sum l D G X Y O Inv := h.2.2.2.2.2.2.2.2.2.2.2.2.2.2.2.2.2.2.2.2.2.2.1
theorem H_all.skip {l : Launch} {D : va_G} {G : w_G} {X Y O : Nat} {Inv : Nat → w_M → Prop} (h : H_all l D G X Y O Inv) : ∀ t M, Inv t M → Inv (t + 1) M := h.2.2.2.2.2.2.2.2.2.2.2.2.2.2.2.2.2.2.2.2.2.2.2
theorem law_loop {p : Program} {l : Launch} {e : Env} {R : Room} {s : State} {m : MethodId} {args : Array Value} {below : List Frame} {meth : Method} {c : Code} {Q : State → Prop} {c0 s0 : Nat} {D : va_G} {A : Nat → Prop} {H0 : Heap} {G : w_G} {X Y O b L : Nat} {xs : Nat → Int32} {Inv : Nat → w_M → Prop}
    (CC : ∀ cells slots, cells ≤ R.cells → slots ≤ R.slots → u_C p R s m args c cL_law RL 8 D A H0 cells slots G) (hXT : u_XT s) (hXH : u_XH A s H0) (hsc : va_X b L xs s H0) (hbl : b < H0.size) (hbA : ¬ A b) (hL : L ≤ 3072) (hX : u_is G X 10) (hY : u_is G Y 11) (hO : L_j1 G O) (hR : 8 ≤ R.frames ∧ 300 ≤ R.locals) (hRc : c0 + 512 ≤ R.cells ∧ s0 + 3072 ≤ R.slots) (hH : H_all l D G X Y O Inv)
    (kk : ∀ (M : w_M) (t i : Nat), t ≤ 512 → u_S p l e R s m args below meth c 8 D A H0 (c0 + t) (s0 + 6 * t) Q 1662 (law_lv b G X Y O i) [] G M) :
    ∀ (v t : Nat) (M : w_M), t + v = 512 → Inv t M → u_S p l e R s m args below meth c 8 D A H0 (c0 + t) (s0 + 6 * t) Q 23 (law_lv b G X Y O (6 * t)) [] G M := by
  intro v
  induction v with
  | zero =>
    intro t M ht hI
    have C := CC (c0 + t) (s0 + 6 * t) (by omega) (by omega)
    refine u_iload C (i := 4) dL_law_23 rfl ?_
    refine u_aload_n C (n := 0) dL_law_25 rfl ?_
    refine u_slen C hsc hbl hbA dL_law_26 ?_
    refine u_bipush C dL_law_27 (v := nI 6) rfl ?_
    refine u_isub C dL_law_29 ?_
    refine u_icmp_gt C dL_law_30 (tgt := 1662) (by decide) (fun _ => kk M t _ (by omega)) (fun h => ?_)
    have := sub6 (by omega) (by omega) h
    omega
  | succ v ih =>
    intro t M ht hI
    have C := CC (c0 + t) (s0 + 6 * t) (by omega) (by omega)
    have C1 := CC (c0 + t + 1) (s0 + 6 * t + 6) (by omega) (by omega)
    refine u_iload C (i := 4) dL_law_23 rfl ?_
    refine u_aload_n C (n := 0) dL_law_25 rfl ?_
    refine u_slen C hsc hbl hbA dL_law_26 ?_
    refine u_bipush C dL_law_27 (v := nI 6) rfl ?_
    refine u_isub C dL_law_29 ?_
    refine u_icmp_gt C dL_law_30 (tgt := 1662) (by decide) (fun _ => kk M t _ (by omega)) (fun h => ?_)
    have hi := sub6 (by omega) (by omega) h
    have hnext : law_kk p l e R s m args below meth c D A H0 (c0 + t) (s0 + 6 * t) Q b G X Y O (6 * t) t Inv := by
      intro M3 hI3
      refine u_iinc C1 dL_law_1656 (by decide) rfl ?_
      refine u_goto C1 dL_law_1659 (tgt := 23) (by decide) ?_
      have := ih (t + 1) M3 (by omega) hI3
      rw [show c0 + (t + 1) = c0 + t + 1 by omega, show s0 + 6 * (t + 1) = s0 + 6 * t + 6 by omega] at this
      refine u_loc [0, 1, 2, 3, 4] (lv2 := law_lv b G X Y O (6 * (t + 1))) ?_ this
      show [_, _, _, _, (4, Value.int (nI (6 * t) + Int32.ofInt 6))] = _
      rw [show Int32.ofInt 6 = nI 6 from rfl, nI_ad]
      rfl
    refine u_aload_n C (n := 0) dL_law_33 rfl ?_
    refine u_iload C (i := 4) dL_law_34 rfl ?_
    refine u_sld C hsc hbl hbA dL_law_36 (by omega) (by omega) ?_
    refine u_bipush C dL_law_37 (v := nI 31) rfl ?_
    refine u_iand C dL_law_39 ?_
    obtain ⟨z, hz32, hz⟩ := and31 (xs (6 * t))
    generalize xs (6 * t) &&& nI 31 = x at hz ⊢
    by_cases h0 : z = 0
    · subst h0
      refine u_tin C dL_law_40 (off := 108) (tgt := 148) (by rw [hz]; decide) (by rw [hz]; decide) (by rw [hz]; rfl) (by decide) ?_
      exact law_turn C C1 hXT hXH hsc hbl hbA (by omega) hi (by omega) hI hX hY hO hR hH.turn hnext ⟨by omega, by omega⟩
    by_cases h1 : z = 1
    · subst h1
      refine u_tin C dL_law_40 (off := 200) (tgt := 240) (by rw [hz]; decide) (by rw [hz]; decide) (by rw [hz]; rfl) (by decide) ?_
      exact law_mean C C1 hXT hXH hsc hbl hbA (by omega) hi (by omega) hI hX hY hO hR hH.mean hnext ⟨by omega, by omega⟩
    by_cases h2 : z = 2
    · subst h2
      refine u_tin C dL_law_40 (off := 256) (tgt := 296) (by rw [hz]; decide) (by rw [hz]; decide) (by rw [hz]; rfl) (by decide) ?_
      exact law_surge C C1 hXT hXH hsc hbl hbA (by omega) hi (by omega) hI hX hY hO hR hH.surge hnext ⟨by omega, by omega⟩
    by_cases h3 : z = 3
    · subst h3
      refine u_tin C dL_law_40 (off := 336) (tgt := 376) (by rw [hz]; decide) (by rw [hz]; decide) (by rw [hz]; rfl) (by decide) ?_
      exact law_river C C1 hXT hXH hsc hbl hbA (by omega) hi (by omega) hI hX hY hO hR hH.river hnext ⟨by omega, by omega⟩
    by_cases h4 : z = 4
    · subst h4
      refine u_tin C dL_law_40 (off := 404) (tgt := 444) (by rw [hz]; decide) (by rw [hz]; decide) (by rw [hz]; rfl) (by decide) ?_
      exact law_barrier C C1 hXT hXH hsc hbl hbA (by omega) hi (by omega) hI hX hY hO hR hH.barrier hnext ⟨by omega, by omega⟩
    by_cases h5 : z = 5
    · subst h5
      refine u_tin C dL_law_40 (off := 472) (tgt := 512) (by rw [hz]; decide) (by rw [hz]; decide) (by rw [hz]; rfl) (by decide) ?_
      exact law_section C C1 hXT hXH hsc hbl hbA (by omega) hi (by omega) hI hX hY hO hR hH.section hnext ⟨by omega, by omega⟩
    by_cases h6 : z = 6
    · subst h6
      refine u_tin C dL_law_40 (off := 564) (tgt := 604) (by rw [hz]; decide) (by rw [hz]; decide) (by rw [hz]; rfl) (by decide) ?_
      exact law_intake C C1 hXT hXH hsc hbl hbA (by omega) hi (by omega) hI hX hY hO hR hH.intake hnext ⟨by omega, by omega⟩
    by_cases h7 : z = 7
    · subst h7
      refine u_tin C dL_law_40 (off := 668) (tgt := 708) (by rw [hz]; decide) (by rw [hz]; decide) (by rw [hz]; rfl) (by decide) ?_
      exact law_oysters C C1 hXT hXH hsc hbl hbA (by omega) hi (by omega) hI hX hY hO hR hH.oysters hnext ⟨by omega, by omega⟩
    by_cases h8 : z = 8
    · subst h8
      refine u_tin C dL_law_40 (off := 748) (tgt := 788) (by rw [hz]; decide) (by rw [hz]; decide) (by rw [hz]; rfl) (by decide) ?_
      exact law_permit C C1 hXT hXH hsc hbl hbA (by omega) hi (by omega) hI hX hY hO hR hH.permit hnext ⟨by omega, by omega⟩
    by_cases h9 : z = 9
    · subst h9
      refine u_tin C dL_law_40 (off := 816) (tgt := 856) (by rw [hz]; decide) (by rw [hz]; decide) (by rw [hz]; rfl) (by decide) ?_
      exact law_whyNot C C1 hXT hXH hsc hbl hbA (by omega) hi (by omega) hI hX hY hO hR hH.whyNot hnext ⟨by omega, by omega⟩
    by_cases h10 : z = 10
    · subst h10
      refine u_tin C dL_law_40 (off := 884) (tgt := 924) (by rw [hz]; decide) (by rw [hz]; decide) (by rw [hz]; rfl) (by decide) ?_
      exact law_dredge C C1 hXT hXH hsc hbl hbA (by omega) hi (by omega) hI hX hY hO hR hH.dredge hnext ⟨by omega, by omega⟩
    by_cases h11 : z = 11
    · subst h11
      refine u_tin C dL_law_40 (off := 964) (tgt := 1004) (by rw [hz]; decide) (by rw [hz]; decide) (by rw [hz]; rfl) (by decide) ?_
      exact law_pass C C1 hXT hXH hsc hbl hbA (by omega) hi (by omega) hI hX hY hO hR hH.pass hnext ⟨by omega, by omega⟩
    by_cases h12 : z = 12
    · subst h12
      refine u_tin C dL_law_40 (off := 1020) (tgt := 1060) (by rw [hz]; decide) (by rw [hz]; decide) (by rw [hz]; rfl) (by decide) ?_
      exact law_now C C1 hXT hXH hsc hbl hbA (by omega) hi (by omega) hI hX hY hO hR hH.now hnext
    by_cases h13 : z = 13
    · subst h13
      refine u_tin C dL_law_40 (off := 1033) (tgt := 1073) (by rw [hz]; decide) (by rw [hz]; decide) (by rw [hz]; rfl) (by decide) ?_
      exact law_sea C C1 hXT hXH hsc hbl hbA (by omega) hi (by omega) hI hX hY hO hR hH.sea hnext ⟨by omega, by omega⟩
    by_cases h14 : z = 14
    · subst h14
      refine u_tin C dL_law_40 (off := 1089) (tgt := 1129) (by rw [hz]; decide) (by rw [hz]; decide) (by rw [hz]; rfl) (by decide) ?_
      exact law_ofSection C C1 hXT hXH hsc hbl hbA (by omega) hi (by omega) hI hX hY hO hR hH.ofSection hnext ⟨by omega, by omega⟩
    by_cases h15 : z = 15
    · subst h15
      refine u_tin C dL_law_40 (off := 1157) (tgt := 1197) (by rw [hz]; decide) (by rw [hz]; decide) (by rw [hz]; rfl) (by decide) ?_
      exact law_ofSectionAnew C C1 hXT hXH hsc hbl hbA (by omega) hi (by omega) hI hX hY hO hR hH.ofSectionAnew hnext ⟨by omega, by omega⟩
    by_cases h16 : z = 16
    · subst h16
      refine u_tin C dL_law_40 (off := 1225) (tgt := 1265) (by rw [hz]; decide) (by rw [hz]; decide) (by rw [hz]; rfl) (by decide) ?_
      exact law_ofIntake C C1 hXT hXH hsc hbl hbA (by omega) hi (by omega) hI hX hY hO hR hH.ofIntake hnext ⟨by omega, by omega⟩
    by_cases h17 : z = 17
    · subst h17
      refine u_tin C dL_law_40 (off := 1293) (tgt := 1333) (by rw [hz]; decide) (by rw [hz]; decide) (by rw [hz]; rfl) (by decide) ?_
      exact law_isClosed C C1 hXT hXH hsc hbl hbA (by omega) hi (by omega) hI hX hY hO hR hH.isClosed hnext ⟨by omega, by omega⟩
    by_cases h18 : z = 18
    · subst h18
      refine u_tin C dL_law_40 (off := 1356) (tgt := 1396) (by rw [hz]; decide) (by rw [hz]; decide) (by rw [hz]; rfl) (by decide) ?_
      exact law_closures C C1 hXT hXH hsc hbl hbA (by omega) hi (by omega) hI hX hY hO hR hH.closures hnext
    by_cases h19 : z = 19
    · subst h19
      refine u_tin C dL_law_40 (off := 1369) (tgt := 1409) (by rw [hz]; decide) (by rw [hz]; decide) (by rw [hz]; rfl) (by decide) ?_
      exact law_closure C C1 hXT hXH hsc hbl hbA (by omega) hi (by omega) hI hX hY hO hR hH.closure hnext ⟨by omega, by omega⟩
    by_cases h20 : z = 20
    · subst h20
      refine u_tin C dL_law_40 (off := 1437) (tgt := 1477) (by rw [hz]; decide) (by rw [hz]; decide) (by rw [hz]; rfl) (by decide) ?_
      exact law_intrusion C C1 hXT hXH hsc hbl hbA (by omega) hi (by omega) hI hX hY hO hR hH.intrusion hnext ⟨by omega, by omega⟩
    by_cases h21 : z = 21
    · subst h21
      refine u_tin C dL_law_40 (off := 1493) (tgt := 1533) (by rw [hz]; decide) (by rw [hz]; decide) (by rw [hz]; rfl) (by decide) ?_
      exact law_window C C1 hXT hXH hsc hbl hbA (by omega) hi (by omega) hI hX hY hO hR hH.window hnext ⟨by omega, by omega⟩
    by_cases h22 : z = 22
    · subst h22
      refine u_tin C dL_law_40 (off := 1561) (tgt := 1601) (by rw [hz]; decide) (by rw [hz]; decide) (by rw [hz]; rfl) (by decide) ?_
      exact law_sum C C1 hXT hXH hsc hbl hbA (by omega) hi (by omega) hI hX hY hO hR hH.sum hnext ⟨by omega, by omega⟩
    refine u_tout C dL_law_40 (tgt := 1656) (Or.inr (by rw [hz]; omega)) (by decide) ?_
    exact u_W1 (hnext M (hH.skip t M hI))
