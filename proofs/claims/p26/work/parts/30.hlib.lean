/-! the law's helpers: a call of the face, its exceptions caught -/
def u_wsH (y : MethodName) (cc : ByteArray) (maxL : Nat) (hh : List (Nat × Nat × Nat × Nat)) : List Cond := Cond.codeWith y cc maxL (some .int) hh :: wsL_law
def u_Hm (l : Launch) (D : va_G) (G : w_G) (y : MethodName) (cc : ByteArray) (maxL : Nat) (hh : List (Nat × Nat × Nat × Nat)) (f n : Nat) (av : List Value) (M : w_M) (post : Int32 → w_M → Prop) : Prop := ∀ sz : Nat, Met l y (u_wsH y cc maxL hh) (u_rx f n) (u_PreX D G M sz av) (va_Qi post (u_Bx D G) (va_A (u_W G M) sz)) 1 6 (va_A (u_W G M) sz)
def h_post (O : Nat) (kd : List String) (P : Int32 → w_M → Prop) (px : String → w_M → Prop) : Int32 → w_M → Prop := fun r M' => (r = nI 0 ∧ ∃ v M2, P v M2 ∧ M' = wj M2 O 0 v.toInt64) ∨ ∃ E i, px E M' ∧ kd[i]? = some E ∧ r = nI (i + 1)
def h_postL (O : Nat) (kd : List String) (P : Int64 → w_M → Prop) (px : String → w_M → Prop) : Int32 → w_M → Prop := fun r M' => (r = nI 0 ∧ ∃ v M2, P v M2 ∧ M' = wj M2 O 0 v) ∨ ∃ E i, px E M' ∧ kd[i]? = some E ∧ r = nI (i + 1)
section UHB
variable {l : Launch} {D : va_G} {G : w_G} {y : MethodName} {cc : ByteArray} {maxL f n : Nat} {av : List Value} {M : w_M} {hh : List (Nat × Nat × Nat × Nat)}
theorem u_bodyH {post : Int32 → w_M → Prop} (hy : plainName y.cls = true) (hav : (lg_sl av).length ≤ maxL) (body : ∀ (p : Program) (e : Env) (s : State) (m : MethodId) (args : Array Value) (below : List Frame) (meth : Method) (c : Code) (A : Nat → Prop) (H0 : Heap) (Q : State → Prop), u_C p (u_rx f n) s m args c cc y.cls maxL D A H0 0 0 G → c.exceptionTable.toList = tableOf hh → u_XT s → u_XH A s H0 → (∀ (pc : Nat) (lv : List (Nat × Value)) (r : Int32) (M2 : w_M), decode cc pc = .ok (.ireturn, 1) → post r M2 → u_S p l e (u_rx f n) s m args below meth c maxL D A H0 1 6 Q pc lv [.int r] G M2) → u_S p l e (u_rx f n) s m args below meth c maxL D A H0 0 0 Q 0 (lv_args 0 av) [] G M) : u_Hm l D G y cc maxL hh f n av M post := by
  intro sz
  refine MetFree.of_bodyS (code := cc) (maxLocals := maxL) (ret := some .int) hy ?_ ?_
  · intro args s m h hn
    obtain ⟨m9, meth, c, hn9, h1, h2, h3, h4, -, h5, h6, -⟩ := Cond.codeWith_spec (atoms_spec (ws := u_wsH y cc maxL hh) h _ List.mem_cons_self)
    cases hn.symm.trans hn9
    exact ⟨meth, c, h1, h2, h3, h4, h5, h6⟩
  intro p e s m args below meth c s₁ B hml hv _
  have hh0 : s₁.heap = s.heap := by rw [B.state]; rfl
  obtain ⟨rfl, hsz, hP, hK, hD0, hXT, hXH⟩ := hv
  have hx := B.exec
  have hb := B.bytes
  have hr := B.returns
  have hts := atoms_spec (ws := u_wsH y cc maxL hh) B.pre
  have htab : c.exceptionTable.toList = tableOf hh := vx_table (x := y) B (hts _ List.mem_cons_self)
  have hown : s.vm.findClass y.cls = some m.cls := findClass_of_methodNamed B.named
  have hlocks := B.notSynchronized
  subst hsz
  have hD := hD0.self (sz := s.heap.size)
  have hA : ∀ q : Nat, s.heap.size ≤ q → va_A (u_W G M) s.heap.size q := fun q h => Or.inr h
  have hS : va_S (va_A (u_W G M) s.heap.size) s.heap s.heap [] := va_S.rf
  have hl := lv_entry av (n := maxL) hav
  have key := body p e s m av.toArray below meth c _ s.heap (MQ below (va_Qi post (u_Bx D G) (va_A (u_W G M) s.heap.size)) av.toArray s 1 6 (va_A (u_W G M) s.heap.size)) ⟨⟨hx, hb, hml, hown, fun w hw => hts w (List.mem_cons_of_mem _ hw)⟩, hK, hA, Nat.zero_le _, Nat.zero_le _⟩ htab hXT hXH (by
    intro pc lv r M2 hd hq H locs ls hP hD hS hl
    exact W.iret hx hb hr (fun t ht hW => ⟨⟨r, M2, rfl, hq, by rw [u_Bx, ht]; exact hP⟩, hS.F ht⟩) hS.2.2 hd) s.heap [] _ hP hD hS hl
  rw [← lg_entry_eq] at key
  obtain ⟨t, a1, o, b1, b2, b3⟩ := key s₁ hh0 (Stand.of_body B)
  exact ⟨t, o, a1, b1, b2, ⟨b3.1, b3.2⟩⟩
end UHB
section UHC
variable {p : Program} {l : Launch} {e : Env} {R : Room} {s : State} {m : MethodId} {args : Array Value} {below : List Frame} {meth : Method} {c : Code} {Q : State → Prop} {cells slots : Nat}
variable {cc : ByteArray} {own : String} {nL : Nat} {D : va_G} {A : Nat → Prop} {H0 : Heap} {G : w_G} {M : w_M} {pc : Nat} {lv : List (Nat × Value)} {st st0 : List Value}
variable {y : MethodName} {bytes : ByteArray} {maxL f n na index : Nat} {ret : Option FieldType} {As : List Value}
/-- what a handler is, and what follows -/
def u_hx (p : Program) (l : Launch) (e : Env) (R : Room) (s : State) (m : MethodId) (args : Array Value) (below : List Frame) (meth : Method) (c : Code) (own : String) (nL : Nat) (D : va_G) (A : Nat → Prop) (H0 : Heap) (cells slots : Nat) (Q : State → Prop) (pc : Nat) (lv : List (Nat × Value)) (G : w_G) (E : String) (M2 : w_M) : Prop :=
  ∃ (pre : List ExceptionTableEntry) (x : ExceptionTableEntry) (suf : List ExceptionTableEntry), c.exceptionTable.toList = pre ++ x :: suf ∧ (∀ z ∈ pre, covers z pc = false ∨ (z.catchType ≠ 0 ∧ ∃ nm : String, Cond.classLink own z.catchType nm ∈ wsL_law ∧ va_Nc E nm s)) ∧ covers x pc = true ∧ x.catchType ≠ 0 ∧ (∃ name : String, Cond.classLink own x.catchType name ∈ wsL_law ∧ va_Nw (.castable E name) s) ∧ ∀ q : Nat, u_S p l e R s m args below meth c nL D A H0 cells slots Q x.handlerPc lv [.ref q] G M2
theorem u_presX {H : Heap} {locs : List Loc} (C : u_C p R s m args c cc own nL D A H0 cells slots G) (hXT : u_XT s) (hXH : u_XH A s H0) (hP : va_P D vwCl (u_W G M) H) (hD : va_D A (u_W G M)) (hS : va_S A H0 H locs) (av : List Value) : PreS s H (u_PreX D G M H.size av) av := by
  obtain ⟨-, ⟨hK, hN⟩, hA, -⟩ := C
  have hf := u_hf hA hD hS
  exact ⟨u_blindX, fun U hU hW => ⟨rfl, by rw [hU], by rw [hU]; exact hP, ⟨va_K.moved hW.alike hK, u_N.warm hW hN⟩, hD.weaken (fun _ _ _ _ => trivial), u_XT.warm hW hXT, by rw [hU]; exact ((hXH.kept hS.2.1).narrow hf).moved hW.alike⟩⟩
theorem u_callXi {post : Int32 → w_M → Prop} {px : String → w_M → Prop} (C : u_C p R s m args c cc own nL D A H0 cells slots G) (hXT : u_XT s) (hXH : u_XH A s H0) (hm : u_mev y bytes maxL ret na) (hd : decode cc pc = .ok (.invokevirtual index, 3)) (hlk : Cond.methodLink own index y ∈ wsL_law) {b ci : Nat} (hb9 : u_is G b ci) (hcl : (vwCl[ci]?).map (fun q => q.1) = some y.cls) (hci : ci < 12) (hM : u_XMi l D G y bytes maxL ret f n (.ref (gP G b) :: As) M post px) (hR : f + 1 ≤ R.frames ∧ 8 + (maxL + 11) + n ≤ R.locals) (hn : As.length = na) (hst : st0 = As.reverse ++ .ref (gP G b) :: st) (hcat : (st.map fun v => v.category).sum ≤ 8) (hcs : cells + 1 ≤ R.cells ∧ slots + 6 ≤ R.slots)
    (kx : ∀ (E : String) (M2 : w_M), px E M2 → u_hx p l e R s m args below meth c own nL D A H0 (cells + 1) (slots + 6) Q pc lv G E M2)
    (kk : ∀ (r : Int32) (M2 : w_M), post r M2 → u_S p l e R s m args below meth c nL D A H0 (cells + 1) (slots + 6) Q (pc + 3) lv (.int r :: st) G M2) : u_S p l e R s m args below meth c nL D A H0 cells slots Q pc lv st0 G M := by
  intro H locs ls hP hD hS hl
  obtain ⟨⟨hx, hb, hml, hown, hts⟩, ⟨hK, hN⟩, hA, -⟩ := id C
  obtain ⟨q9, hq9, hw9⟩ := u_get (M := M) hb9.1
  rw [w_cellO hb9 hci] at hw9
  obtain ⟨r9, hr9, hr8⟩ := Option.map_eq_some_iff.mp hcl
  have hrecv : ∃ cellB : Cell, H[gP G b]? = some cellB ∧ cellB.vm.isStatics = false ∧ s.vm.findClass y.cls = some cellB.cls := by
    rw [← hr8]
    exact va_recv hK hP hr9 hw9
  have hf := u_hf hA hD hS
  have hcb : CallB R s args own index y bytes maxL ret (u_ws2 y bytes maxL ret) (u_rx f n) 1 6 na := callB_of na hts (u_goodIn hm.1.2.2) rfl rfl rfl (hts _ hm.1.2.1) (hts _ hlk) hm.1.1 hR
  refine vx_calli (vx_runV (As := As) (rest := st) ⟨hx, hb, hml, hown, hts⟩ (hM H.size) ⟨hcb, hts _ hm.2.1, hts _ hm.2.2⟩ ⟨u_blindX, hrecv, (u_presX C hXT hXH hP hD hS _).2⟩ rfl hn hl.1 hst (lv_room hcat) hd hcs) hS (fun q _ h => hf q h) hf (fun q _ h => hf q h) (fun E ce q9 u t H1 locs ht hvm _ hB hz1 hk1 hS hce hcv hcl => ?_) (fun r u t H1 locs ht hvm hw hB hz1 hk1 hS => ?_)
  · obtain ⟨hpx, hB⟩ := hB
    have hP1 : va_P D vwCl (u_W G u) t.heap := hB
    rw [ht] at hP1
    obtain ⟨pre, x, suf, t1, t2, t3, t4, ⟨name, t5, t6⟩, t7⟩ := kx E u hpx
    exact vx_catch hown pre x suf t1 (fun z hz => (t2 z hz).elim Or.inl (fun ⟨h0, nm, h1, h2⟩ => Or.inr ⟨h0, nm, hts _ h1, h2⟩)) t3 t4 (hts _ t5) (va_Nw.use rfl t6) hce hcv hcl (t7 q9 H1 locs ls hP1 (u_DM u hD) hS hl)
  · have hP1 : va_P D vwCl (u_W G u) t.heap := hB
    rw [ht] at hP1
    exact kk r u hw H1 locs ls hP1 (u_DM u hD) hS hl
theorem u_callXl {post : Int64 → w_M → Prop} {px : String → w_M → Prop} (C : u_C p R s m args c cc own nL D A H0 cells slots G) (hXT : u_XT s) (hXH : u_XH A s H0) (hm : u_mev y bytes maxL ret na) (hd : decode cc pc = .ok (.invokevirtual index, 3)) (hlk : Cond.methodLink own index y ∈ wsL_law) {b ci : Nat} (hb9 : u_is G b ci) (hcl : (vwCl[ci]?).map (fun q => q.1) = some y.cls) (hci : ci < 12) (hM : u_XMl l D G y bytes maxL ret f n (.ref (gP G b) :: As) M post px) (hR : f + 1 ≤ R.frames ∧ 8 + (maxL + 11) + n ≤ R.locals) (hn : As.length = na) (hst : st0 = As.reverse ++ .ref (gP G b) :: st) (hcat : (st.map fun v => v.category).sum ≤ 8) (hcs : cells + 1 ≤ R.cells ∧ slots + 6 ≤ R.slots)
    (kx : ∀ (E : String) (M2 : w_M), px E M2 → u_hx p l e R s m args below meth c own nL D A H0 (cells + 1) (slots + 6) Q pc lv G E M2)
    (kk : ∀ (r : Int64) (M2 : w_M), post r M2 → u_S p l e R s m args below meth c nL D A H0 (cells + 1) (slots + 6) Q (pc + 3) lv (.long r :: st) G M2) : u_S p l e R s m args below meth c nL D A H0 cells slots Q pc lv st0 G M := by
  intro H locs ls hP hD hS hl
  obtain ⟨⟨hx, hb, hml, hown, hts⟩, ⟨hK, hN⟩, hA, -⟩ := id C
  obtain ⟨q9, hq9, hw9⟩ := u_get (M := M) hb9.1
  rw [w_cellO hb9 hci] at hw9
  obtain ⟨r9, hr9, hr8⟩ := Option.map_eq_some_iff.mp hcl
  have hrecv : ∃ cellB : Cell, H[gP G b]? = some cellB ∧ cellB.vm.isStatics = false ∧ s.vm.findClass y.cls = some cellB.cls := by
    rw [← hr8]
    exact va_recv hK hP hr9 hw9
  have hf := u_hf hA hD hS
  have hcb : CallB R s args own index y bytes maxL ret (u_ws2 y bytes maxL ret) (u_rx f n) 1 6 na := callB_of na hts (u_goodIn hm.1.2.2) rfl rfl rfl (hts _ hm.1.2.1) (hts _ hlk) hm.1.1 hR
  refine vx_calll (vx_runV (As := As) (rest := st) ⟨hx, hb, hml, hown, hts⟩ (hM H.size) ⟨hcb, hts _ hm.2.1, hts _ hm.2.2⟩ ⟨u_blindX, hrecv, (u_presX C hXT hXH hP hD hS _).2⟩ rfl hn hl.1 hst (lv_room hcat) hd hcs) hS (fun q _ h => hf q h) hf (fun q _ h => hf q h) (fun E ce q9 u t H1 locs ht hvm _ hB hz1 hk1 hS hce hcv hcl => ?_) (fun r u t H1 locs ht hvm hw hB hz1 hk1 hS => ?_)
  · obtain ⟨hpx, hB⟩ := hB
    have hP1 : va_P D vwCl (u_W G u) t.heap := hB
    rw [ht] at hP1
    obtain ⟨pre, x, suf, t1, t2, t3, t4, ⟨name, t5, t6⟩, t7⟩ := kx E u hpx
    exact vx_catch hown pre x suf t1 (fun z hz => (t2 z hz).elim Or.inl (fun ⟨h0, nm, h1, h2⟩ => Or.inr ⟨h0, nm, hts _ h1, h2⟩)) t3 t4 (hts _ t5) (va_Nw.use rfl t6) hce hcv hcl (t7 q9 H1 locs ls hP1 (u_DM u hD) hS hl)
  · have hP1 : va_P D vwCl (u_W G u) t.heap := hB
    rw [ht] at hP1
    exact kk r u hw H1 locs ls hP1 (u_DM u hD) hS hl
end UHC
