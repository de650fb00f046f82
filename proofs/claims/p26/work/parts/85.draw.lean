/-! the script's draws: ints from 0 to 2147483647 -/
theorem and_max (x : Int32) : ∃ z : Nat, z < 2 ^ 31 ∧ x &&& 2147483647 = nI z := by
  have h : (x &&& 2147483647).toBitVec.toNat ≤ 2147483647 := by
    rw [Int32.toBitVec_and, BitVec.toNat_and]
    exact Nat.and_le_right
  refine ⟨(x &&& 2147483647).toBitVec.toNat, by omega, ?_⟩
  refine Int32.toInt_inj.mp ?_
  rw [nI_toInt (by omega)]
  exact BitVec.toInt_eq_toNat_of_lt (by omega)
def u_PreY (D : va_G) (G : w_G) (M : w_M) (b L : Nat) (xs : Nat → Int32) (sz : Nat) (av : List Value) : Array Value → State → Prop := va_Pc av (fun U => U.heap.size = sz ∧ (va_P D vwCl (u_W G M) U.heap ∧ (va_K D vwCl (w_ty (gC G)) U ∧ u_N U) ∧ va_D (fun _ => True) (u_W G M)) ∧ va_X b L xs U U.heap ∧ b < sz ∧ ¬ va_A (u_W G M) sz b)
theorem u_blindY {D : va_G} {G : w_G} {M : w_M} {b L : Nat} {xs : Nat → Int32} {sz : Nat} {av : List Value} : FrameBlind (u_PreY D G M b L xs sz av) := fun a U g mk q => by
  obtain ⟨q0, q1, ⟨qP, qK, qD⟩, qX, qb, qA⟩ := q
  exact ⟨q0, q1, ⟨qP, ⟨va_K.moved (u := U) (U := U.calling g mk a) (Vm.Alike.refl U.vm) qK.1, u_N.same (u := U) (U := U.calling g mk a) rfl qK.2⟩, qD⟩, va_X.moved (u := U) (U := U.calling g mk a) (Vm.Alike.refl U.vm) qX, qb, qA⟩
theorem w_dr : Cond.constant RL 7 2147483647 ∈ wsL_law := u_r7 _ (List.mem_of_getElem? (i := 17) rfl)
section DRW
variable {p : Program} {l : Launch} {e : Env} {R : Room} {s : State} {m : MethodId} {args : Array Value} {below : List Frame} {meth : Method} {c : Code} {Q : State → Prop} {cells slots : Nat}
variable {cc : ByteArray} {nL : Nat} {D : va_G} {A : Nat → Prop} {H0 : Heap} {G : w_G} {M : w_M} {pc : Nat} {lv : List (Nat × Value)} {st : List Value} {b L k : Nat} {xs : Nat → Int32}
theorem draw_w (C : u_C p (u_rm 0 0) s m args c cL_draw RL 2 D A H0 0 0 G) (hX : va_X b L xs s H0) (hbl : b < H0.size) (hbA : ¬ A b) (hk : k < L) (hL : L ≤ 3072) (ret : ∀ (pc : Nat) (lv : List (Nat × Value)) (r : Int32) (M2 : w_M), decode cL_draw pc = .ok (.ireturn, 1) → (M2 = M ∧ ∃ z : Nat, z < 2 ^ 31 ∧ r = nI z) → u_S p l e (u_rm 0 0) s m args below meth c 2 D A H0 0 0 Q pc lv [.int r] G M2) : u_S p l e (u_rm 0 0) s m args below meth c 2 D A H0 0 0 Q 0 (lv_args 0 [.ref b, .int (nI k)]) [] G M := by
  refine u_iload_n C dL_draw_0 rfl ?_
  refine u_aload_n C dL_draw_1 rfl ?_
  refine u_slen C hX hbl hbA dL_draw_2 ?_
  refine u_icmp_geK (tgt := 15) C dL_draw_3 (by decide) (by omega) (by omega) (fun h => ?_) (fun h => ?_)
  · exfalso; omega
  refine u_aload_n C dL_draw_6 rfl ?_
  refine u_iload_n C dL_draw_7 rfl ?_
  refine u_sld C hX hbl hbA dL_draw_8 hk (by omega) ?_
  refine u_ldc C w_dr dL_draw_9 ?_
  refine u_iand C dL_draw_11 ?_
  refine u_goto (tgt := 24) C dL_draw_12 (by decide) ?_
  obtain ⟨z, hz, e1⟩ := and_max (xs k)
  exact ret _ _ _ _ dL_draw_24 ⟨rfl, z, hz, e1⟩
theorem c_draw (l : Launch) (D : va_G) (G : w_G) (M : w_M) (b L : Nat) (xs : Nat → Int32) (k : Nat) (hk : k < L) (hL : L ≤ 3072) (sz : Nat) : Met l yL_draw (u_ws2 yL_draw cL_draw 2 (some .int)) (u_rm 0 0) (u_PreY D G M b L xs sz [.ref b, .int (nI k)]) (va_Qi (fun r M2 => M2 = M ∧ ∃ z : Nat, z < 2 ^ 31 ∧ r = nI z) (u_Bx D G) (va_A (u_W G M) sz)) 0 0 (va_A (u_W G M) sz) := by
  refine u_ofW (cc := cL_draw) (maxL := 2) (ret := some .int) (by decide +kernel) rfl ?_
  intro p e s m args below meth c s₁ B hml hv
  obtain ⟨rfl, hsz, ⟨hP, hK, hD0⟩, hX, hbl, hbA⟩ := hv
  have hx := B.exec
  have hb := B.bytes
  have hr := B.returns
  have hts := atoms_spec (ws := u_ws2 yL_draw cL_draw 2 (some .int)) B.pre
  have hown : s.vm.findClass yL_draw.cls = some m.cls := findClass_of_methodNamed B.named
  have hlocks := B.notSynchronized
  subst hsz
  have hD := hD0.self (sz := s.heap.size)
  have hA : ∀ q : Nat, s.heap.size ≤ q → va_A (u_W G M) s.heap.size q := fun q h => Or.inr h
  have hS : va_S (va_A (u_W G M) s.heap.size) s.heap s.heap [] := va_S.rf
  have hl := lv_entry ([.ref b, .int (nI k)] : List Value) (n := 2) (Nat.le_of_ble_eq_true rfl)
  rw [lg_entry_eq]
  refine draw_w (k := k) ⟨⟨hx, hb, hml, hown, fun w hw => hts w (List.mem_cons_of_mem _ hw)⟩, hK, hA, Nat.le_refl 0, Nat.le_refl 0⟩ hX hbl hbA hk hL ?_ s.heap [] _ hP hD hS hl
  intro pc lv r M2 hd hq H locs ls hP hD hS hl
  exact W.iret hx hb hr (fun t ht hW => ⟨⟨r, M2, rfl, hq, by rw [u_Bx, ht]; exact hP⟩, hS.F ht⟩) hS.2.2 hd
theorem u_callD (C : u_C p R s m args c cc RL nL D A H0 cells slots G) (hX : va_X b L xs s H0) (hbl : b < H0.size) (hbA : ¬ A b) (hd : decode cc pc = .ok (.invokestatic 129, 3)) (hk : k < L) (hL : L ≤ 3072) (hR : 1 ≤ R.frames ∧ 21 ≤ R.locals) (hcat : (st.map fun v => v.category).sum ≤ 8) (kk : ∀ z : Nat, z < 2 ^ 31 → u_S p l e R s m args below meth c nL D A H0 cells slots Q (pc + 3) lv (.int (nI z) :: st) G M) : u_S p l e R s m args below meth c nL D A H0 cells slots Q pc lv (.int (nI k) :: .ref b :: st) G M := by
  intro H locs ls hP hD hS hl
  obtain ⟨⟨hx, hb, hml, hown, hts⟩, ⟨hK, hN⟩, hA, hcs⟩ := id C
  have hf := u_hf hA hD hS
  have hpre : PreS s H (u_PreY D G M b L xs H.size [.ref b, .int (nI k)]) [.ref b, .int (nI k)] := ⟨u_blindY, fun U hU hW => ⟨rfl, by rw [hU], ⟨by rw [hU]; exact hP, ⟨va_K.moved hW.alike hK, u_N.warm hW hN⟩, hD.weaken (fun _ _ _ _ => trivial)⟩, by rw [hU]; exact (va_X.moved hW.alike hX).kept (hS.2.1 b hbl hbA), Nat.lt_of_lt_of_le hbl hS.1, fun q => hbA (hf b q)⟩⟩
  refine va_calli (va_runS (As := [.ref b, .int (nI k)]) (rest := st) ⟨hx, hb, hml, hown, hts⟩ (c_draw l D G M b L xs k hk hL H.size) ⟨u_cb C e_L_draw ml_RL_129 ⟨hR.1, hR.2⟩, hts _ ws_L_draw⟩ hpre rfl rfl hl.1 rfl (lv_room hcat) hd ⟨hcs.1, hcs.2⟩) hS (fun q _ h => hf q h) hf (fun r u t H1 locs ht hvm hw hB hz1 hk1 hS => ?_)
  obtain ⟨rfl, z, hz, rfl⟩ := hw
  have hP1 : va_P D vwCl (u_W G u) t.heap := hB
  rw [ht] at hP1
  exact kk z hz H1 locs ls hP1 hD hS hl
end DRW
