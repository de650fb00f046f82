/-! constructors -/
def u_rc (f n mc ms : Nat) : Room := { frames := f, cells := mc, slots := ms, locals := n }
def u_Bc (D : va_G) (A : Nat → Prop) (u : w_G × w_M) (t : State) : Prop := va_P D vwCl (u_W u.1 u.2) t.heap ∧ va_D A (u_W u.1 u.2)
def u_Mc (l : Launch) (D : va_G) (G : w_G) (y : MethodName) (cc : ByteArray) (maxL : Nat) (f n mc ms : Nat) (av : List Value) (M : w_M) (post : w_G → w_M → Prop) : Prop := ∀ sz : Nat, Met l y (u_ws2 y cc maxL none) (u_rc f n mc ms) (u_Pre D G M sz av) (va_Qv (S := w_G × w_M) (fun u => post u.1 u.2) (u_Bc D (va_A (u_W G M) sz)) (va_A (u_W G M) sz)) mc ms (va_A (u_W G M) sz)
section UCT
variable {l : Launch} {D : va_G} {G : w_G} {y : MethodName} {cc : ByteArray} {maxL f n mc ms : Nat} {av : List Value} {M : w_M}
theorem u_ofWc {l : Launch} {y : MethodName} {ws ws' : List Cond} {rm : Room} {Pc : Array Value → State → Prop} {Qc : Array Value → State → Outcome → State → Prop} {mc ms : Nat} {free : Addr → Prop} {cc : ByteArray} {maxL : Nat} {ret : Option FieldType}
    (hy : plainFor y = true) (hw : ws = Cond.code y cc maxL ret :: ws')
    (body : ∀ p e s m args below meth c s₁, BodyLoose p l y (headSpec ws rm) cc maxL ret e s m args below meth c s₁ → c.maxLocals = maxL → Pc args s →
      W p l e (headSpec ws rm).room s m args below meth c s.heap [] 0 0 (MQ below Qc args s mc ms free) (entryFrame m args maxL)) : Met l y ws rm Pc Qc mc ms free := u_ofW hy hw body
theorem u_bodyc {post : w_G → w_M → Prop} (hy : plainFor y = true) (hav : (lg_sl av).length ≤ maxL) (body : ∀ (p : Program) (e : Env) (s : State) (m : MethodId) (args : Array Value) (below : List Frame) (meth : Method) (c : Code) (A : Nat → Prop) (H0 : Heap) (Q : State → Prop), u_C p (u_rc f n mc ms) s m args c cc y.cls maxL D A H0 0 0 G → meth.name = y.name → (∀ (pc : Nat) (lv : List (Nat × Value)) (G2 : w_G) (M2 : w_M), decode cc pc = .ok (.return_, 1) → post G2 M2 → u_S p l e (u_rc f n mc ms) s m args below meth c maxL D A H0 mc ms Q pc lv [] G2 M2) → u_S p l e (u_rc f n mc ms) s m args below meth c maxL D A H0 0 0 Q 0 (lv_args 0 av) [] G M) : u_Mc l D G y cc maxL f n mc ms av M post := by
  intro sz
  refine u_ofW (cc := cc) (maxL := maxL) (ret := none) hy rfl ?_
  intro p e s m args below meth c s₁ B hml hv
  obtain ⟨rfl, hsz, hP, hK, hD0⟩ := hv
  have hx := B.exec
  have hb := B.bytes
  have hr := B.returns
  have hts := atoms_spec (ws := u_ws2 y cc maxL none) B.pre
  have hown : s.vm.findClass y.cls = some m.cls := findClass_of_methodNamed B.named
  have hname : meth.name = y.name := (name_of_methodNamed B.named B.method).1
  have hlocks := B.notSynchronized
  subst hsz
  have hD := hD0.self (sz := s.heap.size)
  have hA : ∀ q : Nat, s.heap.size ≤ q → va_A (u_W G M) s.heap.size q := fun q h => Or.inr h
  have hS : va_S (va_A (u_W G M) s.heap.size) s.heap s.heap [] := va_S.rf
  have hl := lv_entry av (n := maxL) hav
  rw [lg_entry_eq]
  refine body p e s m av.toArray below meth c _ s.heap _ ⟨⟨hx, hb, hml, hown, fun w hw => hts w (List.mem_cons_of_mem _ hw)⟩, hK, hA, Nat.zero_le _, Nat.zero_le _⟩ hname ?_ s.heap [] _ hP hD hS hl
  intro pc lv G2 M2 hd hq H locs ls hP hD hS hl
  exact W.vret hx hb hr (fun t ht hW => ⟨⟨(G2, M2), rfl, hq, by rw [ht]; exact hP, hD⟩, hS.F ht⟩) hS.2.2 hd
end UCT
section UCC
variable {p : Program} {l : Launch} {e : Env} {R : Room} {s : State} {m : MethodId} {args : Array Value} {below : List Frame} {meth : Method} {c : Code} {Q : State → Prop} {cells slots : Nat}
variable {cc : ByteArray} {own : String} {nL : Nat} {D : va_G} {A : Nat → Prop} {H0 : Heap} {G : w_G} {M : w_M} {pc : Nat} {lv : List (Nat × Value)} {st st0 : List Value} {cells2 slots2 : Nat}
variable {y : MethodName} {bytes : ByteArray} {maxL f n mc ms index : Nat}
theorem u_callC {post : w_G → w_M → Prop} (C : u_C p R s m args c cc own nL D A H0 cells slots G) (hm : u_me y bytes maxL none 0) (hin : y.name = "<init>") (hwv : Cond.instanceMethod y ∈ wsL_law) (hd : decode cc pc = .ok (.invokespecial index, 3)) (hlk : Cond.methodLink own index y ∈ wsL_law) {b : Nat} (hM : u_Mc l D G y bytes maxL f n mc ms [.ref (gP G b)] M post) (hR : f + 1 ≤ R.frames ∧ 8 + (maxL + 11) + n ≤ R.locals) (hcat : (st.map fun v => v.category).sum ≤ 8) (hcs : cells + mc = cells2 ∧ slots + ms = slots2 ∧ cells2 ≤ R.cells ∧ slots2 ≤ R.slots) (kk : ∀ (G2 : w_G) (M2 : w_M), post G2 M2 → u_S p l e R s m args below meth c nL D A H0 cells2 slots2 Q (pc + 3) lv (st) G2 M2) : u_S p l e R s m args below meth c nL D A H0 cells slots Q pc lv (.ref (gP G b) :: st) G M := by
  intro H locs ls hP hD hS hl
  obtain ⟨⟨hx, hb, hml, hown, hts⟩, ⟨hK, hN⟩, hA, -⟩ := id C
  obtain ⟨rfl, rfl, h1, h2⟩ := hcs
  have hf := u_hf hA hD hS
  have hcb : CallB R s args own index y bytes maxL none (u_ws2 y bytes maxL none) (u_rc f n mc ms) mc ms 0 := callB_of 0 hts (u_goodIn hm.2.2) rfl rfl rfl (hts _ hm.2.1) (hts _ hlk) hm.1 hR
  refine va_callv (va_runI (As := []) (rest := st) ⟨hx, hb, hml, hown, hts⟩ (hM H.size) ⟨hcb, hin, hts _ hwv⟩ (u_pres ⟨hK, hN⟩ hP hD _) rfl rfl hl.1 rfl (lv_room hcat) hd ⟨h1, h2⟩) hS (fun q _ h => hf q h) hf (fun u t H1 locs ht hvm hw hB hz1 hk1 hS => ?_)
  have hP1 : va_P D vwCl (u_W u.1 u.2) t.heap := hB.1
  rw [ht] at hP1
  exact kk u.1 u.2 hw H1 locs ls hP1 ⟨hB.2.1, fun k q hq => hf _ (hB.2.2 k q hq)⟩ hS hl
theorem u_callCN {post : w_G → w_M → Prop} (C : u_C p R s m args c cc own nL D A H0 cells slots G) (hm : u_me y bytes maxL none 0) (hin : y.name = "<init>") (hwv : Cond.instanceMethod y ∈ wsL_law) (hd : decode cc pc = .ok (.invokespecial index, 3)) (hlk : Cond.methodLinkNest own index y RX10 ∈ u_nestL) {b : Nat} (hM : u_Mc l D G y bytes maxL f n mc ms [.ref (gP G b)] M post) (hR : f + 1 ≤ R.frames ∧ 8 + (maxL + 11) + n ≤ R.locals) (hcat : (st.map fun v => v.category).sum ≤ 8) (hcs : cells + mc = cells2 ∧ slots + ms = slots2 ∧ cells2 ≤ R.cells ∧ slots2 ≤ R.slots) (kk : ∀ (G2 : w_G) (M2 : w_M), post G2 M2 → u_S p l e R s m args below meth c nL D A H0 cells2 slots2 Q (pc + 3) lv (st) G2 M2) : u_S p l e R s m args below meth c nL D A H0 cells slots Q pc lv (.ref (gP G b) :: st) G M := by
  intro H locs ls hP hD hS hl
  obtain ⟨⟨hx, hb, hml, hown, hts⟩, ⟨hK, hN⟩, hA, -⟩ := id C
  obtain ⟨rfl, rfl, h1, h2⟩ := hcs
  have hf := u_hf hA hD hS
  refine va_callv (va_runIN (host := RX10) (As := []) (rest := st) ⟨hx, hb, hml, hown, hts⟩ (hM H.size) ⟨va_cnB (host := RX10) 0 hts (u_goodIn hm.2.2) rfl rfl rfl (hN.1 _ hlk) (hts _ hm.2.1) hm.1 hR, hin, hts _ hwv⟩ (u_pres ⟨hK, hN⟩ hP hD _) rfl rfl hl.1 rfl (lv_room hcat) hd ⟨h1, h2⟩) hS (fun q _ h => hf q h) hf (fun u t H1 locs ht hvm hw hB hz1 hk1 hS => ?_)
  have hP1 : va_P D vwCl (u_W u.1 u.2) t.heap := hB.1
  rw [ht] at hP1
  exact kk u.1 u.2 hw H1 locs ls hP1 ⟨hB.2.1, fun k q hq => hf _ (hB.2.2 k q hq)⟩ hS hl
end UCC
