section
-- ===== PART A: goes FIRST, ahead of the names: the tables' words, and 'selects' of the private methods out of them =====
/-- a private method of a class that the tables say can be made, by its rows of tables_1 -/
def lw_okq (q : MethodName × Nat) : Prop := (q.1.cls ≠ "java/lang/invoke/MethodHandle" ∧ q.1.cls ≠ "java/lang/invoke/VarHandle") ∧ Cond.instantiable q.1.cls q.2 ∈ tables_1 ∧ Cond.privateMethod q.1 ∈ tables_1 ∧ Cond.instanceMethod q.1 ∈ tables_1
theorem lw_p0 : lw_okq (⟨"java/lang/Throwable", "fillInStackTrace", "(I)Ljava/lang/Throwable;"⟩, 6) := ⟨⟨by decide +kernel, by decide +kernel⟩, List.mem_of_getElem? (i := 384) (by decide +kernel), List.mem_of_getElem? (i := 382) (by decide +kernel), List.mem_of_getElem? (i := 383) (by decide +kernel)⟩
theorem lw_p1 : lw_okq (⟨"Saltwedge", "tell", "(IIIIII)V"⟩, 5) := ⟨⟨by decide +kernel, by decide +kernel⟩, List.mem_of_getElem? (i := 21) (by decide +kernel), List.mem_of_getElem? (i := 431) (by decide +kernel), List.mem_of_getElem? (i := 432) (by decide +kernel)⟩
theorem lw_p2 : lw_okq (⟨"SaltwedgeModel", "holds", "(I)Z"⟩, 43) := ⟨⟨by decide +kernel, by decide +kernel⟩, List.mem_of_getElem? (i := 838) (by decide +kernel), List.mem_of_getElem? (i := 985) (by decide +kernel), List.mem_of_getElem? (i := 986) (by decide +kernel)⟩
theorem lw_p3 : lw_okq (⟨"SaltwedgeModel", "isSection", "(I)Z"⟩, 43) := ⟨⟨by decide +kernel, by decide +kernel⟩, List.mem_of_getElem? (i := 838) (by decide +kernel), List.mem_of_getElem? (i := 1013) (by decide +kernel), List.mem_of_getElem? (i := 1014) (by decide +kernel)⟩
theorem lw_p4 : lw_okq (⟨"SaltwedgeModel", "why", "(II)I"⟩, 43) := ⟨⟨by decide +kernel, by decide +kernel⟩, List.mem_of_getElem? (i := 838) (by decide +kernel), List.mem_of_getElem? (i := 1029) (by decide +kernel), List.mem_of_getElem? (i := 1030) (by decide +kernel)⟩
theorem lw_p5 : lw_okq (⟨"SaltwedgeModel", "hour", "()V"⟩, 43) := ⟨⟨by decide +kernel, by decide +kernel⟩, List.mem_of_getElem? (i := 838) (by decide +kernel), List.mem_of_getElem? (i := 1041) (by decide +kernel), List.mem_of_getElem? (i := 1042) (by decide +kernel)⟩
theorem lw_p6 : lw_okq (⟨"SaltwedgeModel", "seaOf", "(I)I"⟩, 43) := ⟨⟨by decide +kernel, by decide +kernel⟩, List.mem_of_getElem? (i := 838) (by decide +kernel), List.mem_of_getElem? (i := 1045) (by decide +kernel), List.mem_of_getElem? (i := 1046) (by decide +kernel)⟩
theorem lw_p7 : lw_okq (⟨"SaltwedgeModel", "heightOf", "(II)I"⟩, 43) := ⟨⟨by decide +kernel, by decide +kernel⟩, List.mem_of_getElem? (i := 838) (by decide +kernel), List.mem_of_getElem? (i := 1049) (by decide +kernel), List.mem_of_getElem? (i := 1050) (by decide +kernel)⟩
theorem lw_p8 : lw_okq (⟨"SaltwedgeModel", "isShutNow", "()Z"⟩, 43) := ⟨⟨by decide +kernel, by decide +kernel⟩, List.mem_of_getElem? (i := 838) (by decide +kernel), List.mem_of_getElem? (i := 1053) (by decide +kernel), List.mem_of_getElem? (i := 1054) (by decide +kernel)⟩
theorem lw_p9 : lw_okq (⟨"SaltwedgeModel", "closes", "(I)V"⟩, 43) := ⟨⟨by decide +kernel, by decide +kernel⟩, List.mem_of_getElem? (i := 838) (by decide +kernel), List.mem_of_getElem? (i := 1057) (by decide +kernel), List.mem_of_getElem? (i := 1058) (by decide +kernel)⟩
theorem lw_p10 : lw_okq (⟨"SaltwedgeModel", "mouth", "(I)V"⟩, 43) := ⟨⟨by decide +kernel, by decide +kernel⟩, List.mem_of_getElem? (i := 838) (by decide +kernel), List.mem_of_getElem? (i := 1061) (by decide +kernel), List.mem_of_getElem? (i := 1062) (by decide +kernel)⟩
theorem lw_p11 : lw_okq (⟨"SaltwedgeModel", "level", "(I)I"⟩, 43) := ⟨⟨by decide +kernel, by decide +kernel⟩, List.mem_of_getElem? (i := 838) (by decide +kernel), List.mem_of_getElem? (i := 1065) (by decide +kernel), List.mem_of_getElem? (i := 1066) (by decide +kernel)⟩
theorem lw_p12 : lw_okq (⟨"SaltwedgeModel", "bed", "(I)I"⟩, 43) := ⟨⟨by decide +kernel, by decide +kernel⟩, List.mem_of_getElem? (i := 838) (by decide +kernel), List.mem_of_getElem? (i := 1069) (by decide +kernel), List.mem_of_getElem? (i := 1070) (by decide +kernel)⟩
theorem lw_p13 : lw_okq (⟨"SaltwedgeModel", "leaves", "(III)V"⟩, 43) := ⟨⟨by decide +kernel, by decide +kernel⟩, List.mem_of_getElem? (i := 838) (by decide +kernel), List.mem_of_getElem? (i := 1073) (by decide +kernel), List.mem_of_getElem? (i := 1074) (by decide +kernel)⟩
theorem lw_p14 : lw_okq (⟨"SaltwedgeModel", "neighbours", "(I)V"⟩, 43) := ⟨⟨by decide +kernel, by decide +kernel⟩, List.mem_of_getElem? (i := 838) (by decide +kernel), List.mem_of_getElem? (i := 1080) (by decide +kernel), List.mem_of_getElem? (i := 1081) (by decide +kernel)⟩
theorem lw_p15 : lw_okq (⟨"SaltwedgeModel", "flows", "(IIII)V"⟩, 43) := ⟨⟨by decide +kernel, by decide +kernel⟩, List.mem_of_getElem? (i := 838) (by decide +kernel), List.mem_of_getElem? (i := 1084) (by decide +kernel), List.mem_of_getElem? (i := 1085) (by decide +kernel)⟩
def lw_privs_1 : List (MethodName × Nat) := [(⟨"java/lang/Throwable", "fillInStackTrace", "(I)Ljava/lang/Throwable;"⟩, 6), (⟨"Saltwedge", "tell", "(IIIIII)V"⟩, 5), (⟨"SaltwedgeModel", "holds", "(I)Z"⟩, 43), (⟨"SaltwedgeModel", "isSection", "(I)Z"⟩, 43), (⟨"SaltwedgeModel", "why", "(II)I"⟩, 43), (⟨"SaltwedgeModel", "hour", "()V"⟩, 43), (⟨"SaltwedgeModel", "seaOf", "(I)I"⟩, 43), (⟨"SaltwedgeModel", "heightOf", "(II)I"⟩, 43), (⟨"SaltwedgeModel", "isShutNow", "()Z"⟩, 43), (⟨"SaltwedgeModel", "closes", "(I)V"⟩, 43), (⟨"SaltwedgeModel", "mouth", "(I)V"⟩, 43), (⟨"SaltwedgeModel", "level", "(I)I"⟩, 43), (⟨"SaltwedgeModel", "bed", "(I)I"⟩, 43), (⟨"SaltwedgeModel", "leaves", "(III)V"⟩, 43), (⟨"SaltwedgeModel", "neighbours", "(I)V"⟩, 43), (⟨"SaltwedgeModel", "flows", "(IIII)V"⟩, 43)]
theorem lw_r1 : ∀ q ∈ lw_privs_1, lw_okq q := List.forall_mem_cons.mpr ⟨lw_p0, List.forall_mem_cons.mpr ⟨lw_p1, List.forall_mem_cons.mpr ⟨lw_p2, List.forall_mem_cons.mpr ⟨lw_p3, List.forall_mem_cons.mpr ⟨lw_p4, List.forall_mem_cons.mpr ⟨lw_p5, List.forall_mem_cons.mpr ⟨lw_p6, List.forall_mem_cons.mpr ⟨lw_p7, List.forall_mem_cons.mpr ⟨lw_p8, List.forall_mem_cons.mpr ⟨lw_p9, List.forall_mem_cons.mpr ⟨lw_p10, List.forall_mem_cons.mpr ⟨lw_p11, List.forall_mem_cons.mpr ⟨lw_p12, List.forall_mem_cons.mpr ⟨lw_p13, List.forall_mem_cons.mpr ⟨lw_p14, List.forall_mem_cons.mpr ⟨lw_p15, fun _ h => absurd h List.not_mem_nil⟩⟩⟩⟩⟩⟩⟩⟩⟩⟩⟩⟩⟩⟩⟩⟩
theorem lw_p16 : lw_okq (⟨"SaltwedgeModel", "salinity", "(II)I"⟩, 43) := ⟨⟨by decide +kernel, by decide +kernel⟩, List.mem_of_getElem? (i := 838) (by decide +kernel), List.mem_of_getElem? (i := 1088) (by decide +kernel), List.mem_of_getElem? (i := 1089) (by decide +kernel)⟩
theorem lw_p17 : lw_okq (⟨"SaltwedgeModel", "mixes", "(I)V"⟩, 43) := ⟨⟨by decide +kernel, by decide +kernel⟩, List.mem_of_getElem? (i := 838) (by decide +kernel), List.mem_of_getElem? (i := 1092) (by decide +kernel), List.mem_of_getElem? (i := 1093) (by decide +kernel)⟩
theorem lw_p18 : lw_okq (⟨"SaltwedgeModel", "settles", "(I)V"⟩, 43) := ⟨⟨by decide +kernel, by decide +kernel⟩, List.mem_of_getElem? (i := 838) (by decide +kernel), List.mem_of_getElem? (i := 1096) (by decide +kernel), List.mem_of_getElem? (i := 1097) (by decide +kernel)⟩
theorem lw_p19 : lw_okq (⟨"SaltwedgeModel", "drinks", "(I)V"⟩, 43) := ⟨⟨by decide +kernel, by decide +kernel⟩, List.mem_of_getElem? (i := 838) (by decide +kernel), List.mem_of_getElem? (i := 1100) (by decide +kernel), List.mem_of_getElem? (i := 1101) (by decide +kernel)⟩
def lw_privs_2 : List (MethodName × Nat) := [(⟨"SaltwedgeModel", "salinity", "(II)I"⟩, 43), (⟨"SaltwedgeModel", "mixes", "(I)V"⟩, 43), (⟨"SaltwedgeModel", "settles", "(I)V"⟩, 43), (⟨"SaltwedgeModel", "drinks", "(I)V"⟩, 43)]
theorem lw_r2 : ∀ q ∈ lw_privs_2, lw_okq q := List.forall_mem_cons.mpr ⟨lw_p16, List.forall_mem_cons.mpr ⟨lw_p17, List.forall_mem_cons.mpr ⟨lw_p18, List.forall_mem_cons.mpr ⟨lw_p19, fun _ h => absurd h List.not_mem_nil⟩⟩⟩⟩
def lw_privs : List (MethodName × Nat) := lw_privs_1 ++ (lw_privs_2)
def lw_tbl : List Cond := k2_sels lw_privs ++ tables_1
theorem lw_privs_ok : ∀ q ∈ lw_privs, lw_okq q := by
  show ∀ q ∈ lw_privs_1 ++ (lw_privs_2), lw_okq q
  exact List.forall_mem_append.mpr ⟨lw_r1, lw_r2⟩
-- ===== end of PART A; then your names; then what follows =====
end
section
/-! ===== BEGIN words of one list among another's, by their places ===== -/
theorem goodIn_r {big : List Cond} (ws : List Cond) (ps : List Nat) (hp : ws = ps.filterMap (fun i => big[i]?)) (h : ws.all goodWord = true) : GoodIn big ws := by
  intro w hw
  have h1 := List.all_eq_true.mp h w hw
  rw [hp] at hw
  obtain ⟨i, -, hi⟩ := List.mem_filterMap.mp hw
  have hm : w ∈ big := by first | exact List.mem_of_getElem? hi | exact List.getElem?_mem hi
  exact ⟨hm, good_of_word h1⟩
theorem goodIn_app {big a b : List Cond} (ha : GoodIn big a) (hb : GoodIn big b) : GoodIn big (a ++ b) := fun w h => (List.mem_append.mp h).elim (ha w) (hb w)
theorem goodIn_ca {big a b : List Cond} {c : Cond} (ha : GoodIn big (c :: a)) (hb : GoodIn big b) : GoodIn big (c :: (a ++ b)) := fun w h => (List.mem_cons.mp h).elim (fun e => ha w (List.mem_cons.mpr (Or.inl e))) (fun h => (List.mem_append.mp h).elim (fun h => ha w (List.mem_cons.mpr (Or.inr h))) (hb w))
theorem goodIn_sub {big ws : List Cond} (hm : ∀ w ∈ ws, w ∈ big) (h : ws.all goodWord = true) : GoodIn big ws := fun w hw => ⟨hm w hw, good_of_word (List.all_eq_true.mp h w hw)⟩
/-! ===== END ===== -/

/-! ===== BEGIN exceptions that leave a method, and their catching by the caller (launches without stack traces) ===== -/
section VXA
/-! The laws vx_back, vx_callV, vx_callS, vx_callSW, vx_throw0, vx_throwS follow proofs of the library, with one case more: JvmDerived/Free/Laws.lean (Back.of_free), Shelf42/LK1.lean (callV, callS), Shelf/KitTraced.lean (throwNew0V, throwNewS). -/
/-- where a method has thrown q: the class by its name, the cell, what was written, the world -/
def vx_T (XC : String → State → State → Prop) (st : State) (q : Addr) (t : State) (mc ms : Nat) (free : Addr → Prop) : Prop :=
  ∃ (E : String) (ce : Cell) (L : List Loc), XC E st t ∧ t.heap[q]? = some ce ∧ ce.vm = .none ∧ st.vm.findClass E = some ce.cls ∧ st.WarmedH t.vm ∧ st.sameButNew ({ t with vm := st.vm } : State) L mc ms ∧ ∀ z ∈ L, free z.base
def vx_Q (Qc : Array Value → State → Outcome → State → Prop) (XC : String → State → State → Prop) (mc ms : Nat) (free : Addr → Prop) : Array Value → State → Outcome → State → Prop := fun a st o t =>
  (Qc a st o t ∧ ∃ L, FrameEnd st o t L mc ms ∧ ∀ q ∈ L, free q.base) ∨ ∃ q, o = .threw q ∧ vx_T XC st q t mc ms free
/-- a callee that returns or throws -/
def vx_Met (l : Launch) (y : MethodName) (ws : List Cond) (rm : Room) (Pc : Array Value → State → Prop) (Qc : Array Value → State → Outcome → State → Prop) (XC : String → State → State → Prop) (mc ms : Nat) (free : Addr → Prop) : Prop :=
  MetFree l y (headSpec ws rm) Pc (fun _ _ _ _ _ => True) (vx_Q Qc XC mc ms free)
def vx_Post (XC : String → State → State → Prop) (mc ms : Nat) (free : Addr → Prop) : Pt → Array Value → Addr → Pt → Prop := fun A a q B =>
  ∃ (g : JFrame) (mk : MethodId) (t : State) (L : List Loc) (E : String) (ce : Cell), B.U.heap = t.heap ∧ B.U.vm = t.vm ∧ XC E (A.U.calling g mk a) t ∧ t.heap[q]? = some ce ∧ ce.vm = .none ∧ A.U.vm.findClass E = some ce.cls ∧ B.locs = A.locs ++ L ∧ (∀ z ∈ L, free z.base) ∧ B.cells = A.cells + mc ∧ B.slots = A.slots + ms
def vx_Back (l : Launch) (R : Room) (p : Program) (e : Env) (below : List Frame) (s : State) (sargs : Array Value) (y : MethodName) (len W9 : Nat)
    (Pre : Pt → Array Value → Prop) (Post : Pt → Array Value → Option Value → Pt → Prop) (PostX : Pt → Array Value → Addr → Pt → Prop) : Prop :=
  ∀ (m : MethodId) (meth : Method) (c : Code) (A : Pt) (g : JFrame) (ig : Instr) (mk : MethodId) (a : Array Value),
    Stand p l e R s m sargs below meth c A.U A.locs A.cells A.slots → g.method = m → g.locals.size = c.maxLocals → decode c.code g.pc = .ok (ig, len) →
    2 * g.monitorRoom + (g.stack.map fun v => v.category).sum ≤ W9 → A.U.methodNamed? y = some mk → Pre A a →
    (∃ (v : Option Value) (B : Pt), Stand p l e R s m sargs below meth c B.U B.locs B.cells B.slots ∧ Post A a v B ∧
      Steps p.tables e below (doInvoke e (A.U.setTop g) [] mk a).1 (B.U.setTop { g with pc := g.pc + len, stack := v.toList ++ g.stack })) ∨
    (∃ (q : Addr) (B : Pt), Stand p l e R s m sargs below meth c B.U B.locs B.cells B.slots ∧ PostX A a q B ∧
      Steps p.tables e below (doInvoke e (A.U.setTop g) [] mk a).1 ((B.U.setTop g).pushFrame (.throwing q)))
section Payer
variable {l : Launch} {R : Room} {p : Program} {e : Env} {below : List Frame} {s : State} {sargs : Array Value} {y : MethodName} {len W9 : Nat}
theorem vx_back {ws : List Cond} {rm : Room} {Pc : Array Value → State → Prop} {Qc : Array Value → State → Outcome → State → Prop} {XC : String → State → State → Prop} {mc ms : Nat} {free : Addr → Prop} {bytes : ByteArray} {maxL : Nat} {ret : Option FieldType}
    (hM : vx_Met l y ws rm Pc Qc XC mc ms free) (hblind : FrameBlind Pc) (hrc : rm.cells = mc) (hrs : rm.slots = ms)
    (hframes : rm.frames + 1 ≤ R.frames) (hlocals : W9 + (maxL + 11) + rm.locals ≤ R.locals)
    (hws : ∀ w ∈ ws, ∀ a' U, s.WarmedH U.vm → w.before a' U = true) (hcode : Cond.code y bytes maxL ret ∈ ws) (hinit : ∀ a' U, s.WarmedH U.vm → (Cond.initialized y.cls).before a' U = true) :
    vx_Back l R p e below s sargs y len W9 (PreOf R mc ms Pc) (PostOf Qc mc ms free) (vx_Post XC mc ms free) := by
  intro m meth c A g ig mk a X hg hsize hdg hW hn hp
  have h1 : (headSpec ws rm).pre.before a A.U = true := atoms_intro fun w hw => hws w hw _ _ X.warmed
  have h2 : (Cond.code y bytes maxL ret).before a A.U = true := hws _ hcode _ _ X.warmed
  have h3 : (Cond.initialized y.cls).before a A.U = true := hinit _ _ X.warmed
  have h4 : A.cells + (headSpec ws rm).room.cells ≤ R.cells := by rw [show (headSpec ws rm).room.cells = mc from hrc]; exact hp.1
  have h5 : A.slots + (headSpec ws rm).room.slots ≤ R.slots := by rw [show (headSpec ws rm).room.slots = ms from hrs]; exact hp.2.1
  have hPc : Pc a (A.U.calling g mk a) := hblind _ _ _ _ hp.2.2
  obtain ⟨U, Ls, c0, s0⟩ := A
  dsimp only [Pt.U, Pt.locs, Pt.cells, Pt.slots] at h1 h2 h3 h4 h5 X hn hPc ⊢
  obtain ⟨methY, cY, hmY, hcY, -, hlY, -, -, -, -⟩ := Cond.code_spec hn h2
  obtain ⟨kY, hkY, -⟩ := className_of_methodNamed hn
  have hinitY : kY.init = .initialized := Cond.initialized_spec (findClass_of_methodNamed hn) hkY h3
  have h : At U g.method c below := by rw [hg]; exact X.here
  have hlocals9 : W9 + (maxL + 11) + (headSpec ws rm).room.locals ≤ R.locals := hlocals
  have happ : (headSpec ws rm).appliesLoose y e.platform (U.calling g mk a) = true :=
    Spec.appliesLoose_calling (g := g) h hdg hn hkY hinitY
      (X.room_calling (g := g) (R' := (headSpec ws rm).room) hsize hmY hcY hframes (by rw [hlY]; omega) h4 h5) h1
  obtain ⟨mid, hmid⟩ := h.above
  have hfr : (U.setTop g).frames = (.java g :: mid) ++ below := by rw [State.frames_setTop' g h.top, hmid]; rfl
  obtain ⟨o, s₂, hsteps, -, hend, hq⟩ := Steps.callFree hM p X.admits X.cas X.clock (acts := []) hfr happ hPc trivial
  have hq' : vx_Q Qc XC mc ms free a (U.calling g mk a) o s₂ := hq
  rw [State.frames_setTop' g h.top] at hend
  obtain ⟨g₀, hg0⟩ := Option.isSome_iff_exists.mp h.top
  obtain ⟨r, hr⟩ := State.topJava?_eq_some.mp hg0
  have hr' : (({ U with heap := s₂.heap, slotsUsed := s₂.slotsUsed } : State).setVm s₂.vm).frames = .java g₀ :: r := hr
  rcases hq' with ⟨hqc, L, hfe, hL⟩ | ⟨q, rfl, E, ce, L, hx, hce, hcv, hcl, hW₂, hsm, hL⟩
  · obtain ⟨⟨v, rfl⟩, hW₂, e2, q2, q3, q4, q5, q6⟩ := id hfe
    have e3 : s₂ = ({ (U.calling g mk a).setFrames s₂.frames with heap := s₂.heap, slotsUsed := s₂.slotsUsed } : State).setVm s₂.vm := by
      have : s₂ = ({ s₂ with vm := (U.calling g mk a).vm } : State).setVm s₂.vm := rfl
      rw [e2] at this
      exact this
    obtain ⟨c₂, i₂, len₂, hc₂, hd₂, hf₂⟩ := hend
    have hW' : U.WarmedH s₂.vm := hW₂
    have hcc : c₂ = c := by
      have h1 : s₂.code? g.method = U.code? g.method := by
        rw [State.code?_eq, State.code?_eq, hW'.alike.method?]
      exact Option.some.inj (hc₂.symm.trans (h1.trans h.code))
    subst hcc
    have hlen : len₂ = len := by rw [hdg] at hd₂; cases hd₂; rfl
    subst hlen
    have hs₂ : s₂ = (({ U with heap := s₂.heap, slotsUsed := s₂.slotsUsed } : State).setVm s₂.vm).setTop { g with pc := g.pc + len₂, stack := v.toList ++ g.stack } := by
      refine e3.trans ?_
      rw [hf₂, State.calling_eq h.top, State.setFrames_setFrames, State.setTop_of_frames _ hr', hr]
      rfl
    have hsame : U.sameButNew ({ U with heap := s₂.heap, slotsUsed := s₂.slotsUsed } : State) L mc ms := by
      refine ⟨?_, q2, q3, q4, q5, q6⟩
      obtain ⟨t, ht, -⟩ := State.frames_cons hr
      show ({ U with heap := s₂.heap, slotsUsed := s₂.slotsUsed } : State) = { U.setFrames U.frames with heap := s₂.heap, slotsUsed := s₂.slotsUsed }
      rw [State.setFrames_self ht]
    subst hg
    refine Or.inl ⟨v, ⟨(({ U with heap := s₂.heap, slotsUsed := s₂.slotsUsed } : State).setVm s₂.vm), Ls ++ L, c0 + mc, s0 + ms⟩,
      ⟨X.admits, X.cas, X.clock, X.frames, X.room, X.hears, X.method, X.code, (X.here.setHeapUsed s₂.heap s₂.slotsUsed).setVm hW'.alike, X.tail, State.WarmedH.trans X.warmed hW', X.limits, X.bytes, X.same.trans (hsame.setVm s.vm)⟩,
      ⟨g, mk, s₂, L, rfl, rfl, hqc, rfl, hL, rfl, rfl⟩, ?_⟩
    show Steps p.tables e below _ ((({ U with heap := s₂.heap, slotsUsed := s₂.slotsUsed } : State).setVm s₂.vm).setTop { g with pc := g.pc + len₂, stack := v.toList ++ g.stack })
    rw [← hs₂]
    exact hsteps
  · obtain ⟨e2, q2, q3, q4, q5, q6⟩ := id hsm
    have e3 : s₂ = ({ (U.calling g mk a).setFrames s₂.frames with heap := s₂.heap, slotsUsed := s₂.slotsUsed } : State).setVm s₂.vm := by
      have : s₂ = ({ s₂ with vm := (U.calling g mk a).vm } : State).setVm s₂.vm := rfl
      rw [e2] at this
      exact this
    have hf₂ : s₂.frames = .throwing q :: .java g :: U.frames.tail := hend
    have hW' : U.WarmedH s₂.vm := hW₂
    have hs₂ : s₂ = ((({ U with heap := s₂.heap, slotsUsed := s₂.slotsUsed } : State).setVm s₂.vm).setTop g).pushFrame (.throwing q) := by
      refine e3.trans ?_
      rw [hf₂, State.calling_eq h.top, State.setFrames_setFrames, State.pushFrame, State.frames_setTop _ hr', State.setTop_of_frames _ hr', State.setFrames_setFrames, hr]
      rfl
    have hsame : U.sameButNew ({ U with heap := s₂.heap, slotsUsed := s₂.slotsUsed } : State) L mc ms := by
      refine ⟨?_, q2, q3, q4, q5, q6⟩
      obtain ⟨t, ht, -⟩ := State.frames_cons hr
      show ({ U with heap := s₂.heap, slotsUsed := s₂.slotsUsed } : State) = { U.setFrames U.frames with heap := s₂.heap, slotsUsed := s₂.slotsUsed }
      rw [State.setFrames_self ht]
    subst hg
    refine Or.inr ⟨q, ⟨(({ U with heap := s₂.heap, slotsUsed := s₂.slotsUsed } : State).setVm s₂.vm), Ls ++ L, c0 + mc, s0 + ms⟩,
      ⟨X.admits, X.cas, X.clock, X.frames, X.room, X.hears, X.method, X.code, (X.here.setHeapUsed s₂.heap s₂.slotsUsed).setVm hW'.alike, X.tail, State.WarmedH.trans X.warmed hW', X.limits, X.bytes, X.same.trans (hsame.setVm s.vm)⟩,
      ⟨g, mk, s₂, L, E, ce, rfl, rfl, hx, hce, hcv, hcl, rfl, hL, rfl, rfl⟩, ?_⟩
    show Steps p.tables e below _ (((({ U with heap := s₂.heap, slotsUsed := s₂.slotsUsed } : State).setVm s₂.vm).setTop g).pushFrame (.throwing q))
    rw [← hs₂]
    exact hsteps
end Payer
section Calls
variable {p : Program} {l : Launch} {e : Env} {R : Room} {s : State} {m : MethodId} {args : Array Value} {below : List Frame} {meth : Method} {c : Code} {T : State} {locs : List Loc} {cells slots : Nat}
theorem vx_callV (X : Stand p l e R s m args below meth c T locs cells slots) (hexec : p.tables.exec = Jvm.exec) {own C : String} {index : Nat} {y : MethodName} {bytes : ByteArray} {maxL : Nat} {ret : Option FieldType}
    (hown : s.vm.findClass own = some m.cls) (hlink : (Cond.methodLink own index y).before args s = true) (hinst : (Cond.instanceMethod y).before args s = true) (hsel : (Cond.selects C y y).before args s = true)
    (hcode : (Cond.code y bytes maxL ret).before args s = true) (hy : y.cls ≠ "java/lang/invoke/MethodHandle" ∧ y.cls ≠ "java/lang/invoke/VarHandle")
    {W9 : Nat} {Pre : Pt → Array Value → Prop} {Post : Pt → Array Value → Option Value → Pt → Prop} {PostX : Pt → Array Value → Addr → Pt → Prop} (hK : vx_Back l R p e below s args y 3 W9 Pre Post PostX)
    {b : Addr} {cellB : Cell} (hcell : T.heap[b]? = some cellB) (hobj : cellB.vm.isStatics = false) (hcls : s.vm.findClass C = some cellB.cls)
    {g : JFrame} (hg : g.method = m) (hsize : g.locals.size = c.maxLocals) {argsL rest : List Value} (hlen : ∀ sig, parseMethodDescriptor y.desc = some sig → argsL.length = sig.parameters.length)
    (hstack : g.stack = argsL.reverse ++ .ref b :: rest) (hW : 2 * g.monitorRoom + (rest.map fun v => v.category).sum ≤ W9) (hdg : decode c.code g.pc = .ok (.invokevirtual index, 3))
    (hpre : ∀ vm₁, s.WarmedH vm₁ → Pre ⟨T.setVm vm₁, locs, cells, slots⟩ (Value.ref b :: argsL).toArray) :
    (∃ (v : Option Value) (vm₁ : Vm) (B : Pt), s.WarmedH vm₁ ∧ Stand p l e R s m args below meth c B.U B.locs B.cells B.slots ∧ Post ⟨T.setVm vm₁, locs, cells, slots⟩ (Value.ref b :: argsL).toArray v B ∧
      ∀ target, Steps p.tables e below (B.U.setTop { g with pc := g.pc + 3, stack := v.toList ++ rest }) target → Steps p.tables e below (T.setTop g) target) ∨
    (∃ (q : Addr) (vm₁ : Vm) (B : Pt), s.WarmedH vm₁ ∧ Stand p l e R s m args below meth c B.U B.locs B.cells B.slots ∧ PostX ⟨T.setVm vm₁, locs, cells, slots⟩ (Value.ref b :: argsL).toArray q B ∧
      Steps p.tables e below (T.setTop g) ((B.U.setTop { g with stack := rest }).pushFrame (.throwing q))) := by
  obtain ⟨mk, methM, hnamed, hmethM, hstM, habM⟩ := Cond.instanceMethod_spec hinst
  obtain ⟨methM', cM, hmethM', -, -, -, -, -, -, hsigM⟩ := Cond.code_spec hnamed hcode
  cases hmethM.symm.trans hmethM'
  obtain ⟨c2, r2, m2, q1, q2, q3, q4, kP, hkP, hkPi⟩ := Cond.selects_spec hsel
  cases hcls.symm.trans q1
  cases (State.methodFound?_of_named hnamed hy).symm.trans q2
  cases hnamed.symm.trans q3
  have hselP : selectMethod e.platform s.vm cellB.cls mk = .method mk := by rw [Launch.admits_selectMethod X.admits]; exact q4
  obtain ⟨vm₁, X₁, hstep₁⟩ := X.invokevirtual hexec hown hlink hnamed hmethM hstM hkP hkPi hy (a := b) (cell := cellB) hcell
    (fun z h => by rw [h] at hobj; cases hobj) hselP hmethM habM hkP hkPi (g := g) hg (argsL := argsL) (rest := rest) (hlen _ hsigM) hstack hdg
  rcases hK m meth c ⟨T.setVm vm₁, locs, cells, slots⟩ { g with stack := rest } (.invokevirtual index) mk (Value.ref b :: argsL).toArray X₁ hg hsize hdg hW (X₁.named hnamed) (hpre vm₁ X₁.warmed) with ⟨v, B, X', hpost, hsteps⟩ | ⟨q, B, X', hpost, hsteps⟩
  · exact Or.inl ⟨v, vm₁, B, X₁.warmed, X', hpost, fun target h => hstep₁ _ fun acts => by rw [doInvoke_state]; exact hsteps.trans h⟩
  · exact Or.inr ⟨q, vm₁, B, X₁.warmed, X', hpost, hstep₁ _ fun acts => by rw [doInvoke_state]; exact hsteps⟩
theorem vx_callS (X : Stand p l e R s m args below meth c T locs cells slots) (hexec : p.tables.exec = Jvm.exec) {own : String} {index : Nat} {y : MethodName} {bytes : ByteArray} {maxL : Nat} {ret : Option FieldType}
    (hown : s.vm.findClass own = some m.cls) (hlink : (Cond.methodLink own index y).before args s = true) (hstat : (Cond.static y).before args s = true) (hinit : (Cond.initialized y.cls).before args s = true)
    (hcode : (Cond.code y bytes maxL ret).before args s = true) (hy : y.cls ≠ "java/lang/invoke/MethodHandle" ∧ y.cls ≠ "java/lang/invoke/VarHandle")
    {W9 : Nat} {Pre : Pt → Array Value → Prop} {Post : Pt → Array Value → Option Value → Pt → Prop} {PostX : Pt → Array Value → Addr → Pt → Prop} (hK : vx_Back l R p e below s args y 3 W9 Pre Post PostX)
    {g : JFrame} (hg : g.method = m) (hsize : g.locals.size = c.maxLocals) {argsL rest : List Value} (hlen : ∀ sig, parseMethodDescriptor y.desc = some sig → argsL.length = sig.parameters.length)
    (hstack : g.stack = argsL.reverse ++ rest) (hW : 2 * g.monitorRoom + (rest.map fun v => v.category).sum ≤ W9) (hdg : decode c.code g.pc = .ok (.invokestatic index, 3))
    (hpre : ∀ vm₁, s.WarmedH vm₁ → Pre ⟨T.setVm vm₁, locs, cells, slots⟩ argsL.toArray) :
    (∃ (v : Option Value) (vm₁ : Vm) (B : Pt), s.WarmedH vm₁ ∧ Stand p l e R s m args below meth c B.U B.locs B.cells B.slots ∧ Post ⟨T.setVm vm₁, locs, cells, slots⟩ argsL.toArray v B ∧
      ∀ target, Steps p.tables e below (B.U.setTop { g with pc := g.pc + 3, stack := v.toList ++ rest }) target → Steps p.tables e below (T.setTop g) target) ∨
    (∃ (q : Addr) (vm₁ : Vm) (B : Pt), s.WarmedH vm₁ ∧ Stand p l e R s m args below meth c B.U B.locs B.cells B.slots ∧ PostX ⟨T.setVm vm₁, locs, cells, slots⟩ argsL.toArray q B ∧
      Steps p.tables e below (T.setTop g) ((B.U.setTop { g with stack := rest }).pushFrame (.throwing q))) := by
  obtain ⟨mk, hnamed⟩ := Cond.code_named hcode
  obtain ⟨methM, cM, hmethM, -, -, -, -, -, -, hsigM⟩ := Cond.code_spec hnamed hcode
  have hstatic : methM.isStatic = true := Cond.static_spec hnamed hmethM hstat
  obtain ⟨kP, hkP, -⟩ := className_of_methodNamed hnamed
  have hinitP : kP.init = .initialized := Cond.initialized_spec (findClass_of_methodNamed hnamed) hkP hinit
  obtain ⟨vm₁, X₁, hstep₁⟩ := X.invokestatic hexec hown hlink hnamed hmethM hstatic hkP hinitP hy (g := g) hg (argsL := argsL) (rest := rest) (hlen _ hsigM) hstack hdg
  rcases hK m meth c ⟨T.setVm vm₁, locs, cells, slots⟩ { g with stack := rest } (.invokestatic index) mk argsL.toArray X₁ hg hsize hdg hW (X₁.named hnamed) (hpre vm₁ X₁.warmed) with ⟨v, B, X', hpost, hsteps⟩ | ⟨q, B, X', hpost, hsteps⟩
  · exact Or.inl ⟨v, vm₁, B, X₁.warmed, X', hpost, fun target h => hstep₁ _ fun acts => by rw [doInvoke_state]; exact hsteps.trans h⟩
  · exact Or.inr ⟨q, vm₁, B, X₁.warmed, X', hpost, hstep₁ _ fun acts => by rw [doInvoke_state]; exact hsteps⟩
end Calls
theorem vx_cls {s : State} {T : State} {vm₁ : Vm} {E : String} {k : ClassId} (hW : s.WarmedH vm₁) (h : (T.setVm vm₁).vm.findClass E = some k) : s.vm.findClass E = some k := by
  have h1 : vm₁.findClass E = some k := h
  rw [hW.alike.findClass] at h1
  exact h1
/-- the method's frame g, with q thrown over it -/
def vx_W (p : Program) (l : Launch) (e : Env) (R : Room) (s : State) (m : MethodId) (args : Array Value) (below : List Frame) (meth : Method) (c : Code) (H : Heap) (locs : List Loc) (cells slots : Nat) (Q : State → Prop) (g : JFrame) (q : Addr) : Prop :=
  ∀ T : State, T.heap = H → Stand p l e R s m args below meth c T locs cells slots → ∃ t, Steps p.tables e below ((T.setTop g).pushFrame (.throwing q)) t ∧ Q t
def vx_Run (p : Program) (l : Launch) (e : Env) (R : Room) (s : State) (m : MethodId) (args : Array Value) (below : List Frame) (meth : Method) (c : Code) (H : Heap) (locs : List Loc) (cells slots mc ms : Nat) (g : JFrame) (rest : List Value) (Qa : State → Outcome → State → Prop) (XC : String → State → State → Prop) (free : Addr → Prop) : Prop :=
  ∀ T : State, T.heap = H → Stand p l e R s m args below meth c T locs cells slots →
    (∃ (v : Option Value) (st₀ t T' : State) (L : List Loc), st₀.heap = H ∧ Stand p l e R s m args below meth c T' (locs ++ L) (cells + mc) (slots + ms) ∧ (∀ q ∈ L, free q.base) ∧ T'.heap = t.heap ∧ T'.vm = t.vm ∧ Qa st₀ (.returned v) t ∧
      Goes p e below T g T' { g with pc := g.pc + 3, stack := v.toList ++ rest }) ∨
    (∃ (q : Addr) (st₀ t T' : State) (L : List Loc) (E : String) (ce : Cell), st₀.heap = H ∧ Stand p l e R s m args below meth c T' (locs ++ L) (cells + mc) (slots + ms) ∧ (∀ z ∈ L, free z.base) ∧ T'.heap = t.heap ∧ T'.vm = t.vm ∧ XC E st₀ t ∧ t.heap[q]? = some ce ∧ ce.vm = .none ∧ s.vm.findClass E = some ce.cls ∧
      Steps p.tables e below (T.setTop g) ((T'.setTop { g with stack := rest }).pushFrame (.throwing q)))
def vx_X {S : Type} (px : S → Prop) (B : String → S → State → Prop) (A : Nat → Prop) : String → State → State → Prop := fun E st t => ∃ u : S, px u ∧ B E u t ∧ va_F A st t
section Runs
variable {p : Program} {l : Launch} {e : Env} {R : Room} {s : State} {m : MethodId} {args : Array Value} {below : List Frame} {meth : Method} {c : Code} {H : Heap} {locs : List Loc} {cells slots : Nat}
variable {y : MethodName} {bytes cc : ByteArray} {maxL nL mc ms n index : Nat} {ret : Option FieldType} {ws : List Cond} {rm : Room} {Pc : Array Value → State → Prop} {Qc : Array Value → State → Outcome → State → Prop} {XC : String → State → State → Prop} {free : Addr → Prop} {Ts : List Cond} {own C : String} {b : Addr} {As rest : List Value} {g : JFrame}
theorem vx_callBack (cb : CallB R s args own index y bytes maxL ret ws rm mc ms n) (hM : vx_Met l y ws rm Pc Qc XC mc ms free) (hbl : FrameBlind Pc) : vx_Back l R p e below s args y 3 8 (PreOf R mc ms Pc) (PostOf Qc mc ms free) (vx_Post XC mc ms free) := by
  obtain ⟨hrc, hrs, hfr, hlo, hws, hcw, -, hini, -⟩ := cb
  exact vx_back (bytes := bytes) (maxL := maxL) (ret := ret) hM hbl hrc hrs hfr hlo hws hcw (fun a' U hW => word_at hW (Or.inl (by first | rfl | simp [Cond.onTables, Cond.keeps, Cond.steady])) hini)
theorem vx_runV (S : CallFix p m c cc nL s args Ts own) (hM : vx_Met l y ws rm Pc Qc XC mc ms free) (cw : CallW R s args own C index y bytes maxL ret ws rm mc ms n) (hp : PreV s H C b Pc As)
    (hg : g.method = m) (hn : As.length = n) (hsize : g.locals.size = nL) (hstack : g.stack = As.reverse ++ .ref b :: rest) (hW : 2 * g.monitorRoom + (rest.map fun v => v.category).sum ≤ 8) (hdg : decode cc g.pc = .ok (.invokevirtual index, 3)) (hf : cells + mc ≤ R.cells ∧ slots + ms ≤ R.slots) :
    vx_Run p l e R s m args below meth c H locs cells slots mc ms g rest (Qc (Value.ref b :: As).toArray) XC free := by
  have hK : vx_Back l R p e below s args y 3 8 (PreOf R mc ms Pc) (PostOf Qc mc ms free) (vx_Post XC mc ms free) := vx_callBack cw.1 hM hp.1
  obtain ⟨⟨-, -, -, -, -, -, hcode, -, hy, hlen, hl⟩, hin, hse⟩ := cw
  obtain ⟨hx, hb, hml, ho, -⟩ := S
  obtain ⟨-, ⟨cellB, hcB, hoB, hclB⟩, hPc⟩ := hp
  intro T hT X
  rcases vx_callV X hx (C := C) (bytes := bytes) (maxL := maxL) (ret := ret) ho hl hin hse hcode hy hK (by rw [hT]; exact hcB) hoB hclB hg (hsize.trans hml.symm) (argsL := As) (rest := rest) (fun sig h => hn.trans (hlen sig h)) hstack hW (by rw [hb]; exact hdg)
    (fun vm₁ hW₁ => ⟨hf.1, hf.2, hPc (T.setVm vm₁) hT hW₁⟩) with ⟨v, vm₁, ⟨U', l2, c2, s2⟩, hW₁, X', ⟨g', mk, t, L, e1, e2, hq, h1, hL, h2, h3⟩, st⟩ | ⟨q, vm₁, ⟨U', l2, c2, s2⟩, hW₁, X', ⟨g', mk, t, L, E, ce, e1, e2, hq, hce, hcv, hcl, h1, hL, h2, h3⟩, st⟩
  · dsimp only [Pt.U, Pt.locs, Pt.cells, Pt.slots] at X' e1 e2 h1 h2 h3 st
    subst h1; subst h2; subst h3
    exact Or.inl ⟨v, (T.setVm vm₁).calling g' mk (Value.ref b :: As).toArray, t, U', L, hT, X', hL, e1, e2, hq, st⟩
  · dsimp only [Pt.U, Pt.locs, Pt.cells, Pt.slots] at X' e1 e2 h1 h2 h3 st hcl
    subst h1; subst h2; subst h3
    exact Or.inr ⟨q, (T.setVm vm₁).calling g' mk (Value.ref b :: As).toArray, t, U', L, E, ce, hT, X', hL, e1, e2, hq, hce, hcv, vx_cls hW₁ hcl, st⟩
theorem vx_runS (S : CallFix p m c cc nL s args Ts own) (hM : vx_Met l y ws rm Pc Qc XC mc ms free) (cw : CallB R s args own index y bytes maxL ret ws rm mc ms n ∧ (Cond.static y).before args s = true) (hp : PreS s H Pc As)
    (hg : g.method = m) (hn : As.length = n) (hsize : g.locals.size = nL) (hstack : g.stack = As.reverse ++ rest) (hW : 2 * g.monitorRoom + (rest.map fun v => v.category).sum ≤ 8) (hdg : decode cc g.pc = .ok (.invokestatic index, 3)) (hf : cells + mc ≤ R.cells ∧ slots + ms ≤ R.slots) :
    vx_Run p l e R s m args below meth c H locs cells slots mc ms g rest (Qc As.toArray) XC free := by
  have hK : vx_Back l R p e below s args y 3 8 (PreOf R mc ms Pc) (PostOf Qc mc ms free) (vx_Post XC mc ms free) := vx_callBack cw.1 hM hp.1
  obtain ⟨⟨-, -, -, -, -, -, hcode, hini, hy, hlen, hl⟩, hstt⟩ := cw
  obtain ⟨hx, hb, hml, ho, -⟩ := S
  intro T hT X
  rcases vx_callS X hx (bytes := bytes) (maxL := maxL) (ret := ret) ho hl hstt hini hcode hy hK hg (hsize.trans hml.symm) (argsL := As) (rest := rest) (fun sig h => hn.trans (hlen sig h)) hstack hW (by rw [hb]; exact hdg)
    (fun vm₁ hW₁ => ⟨hf.1, hf.2, hp.2 (T.setVm vm₁) hT hW₁⟩) with ⟨v, vm₁, ⟨U', l2, c2, s2⟩, hW₁, X', ⟨g', mk, t, L, e1, e2, hq, h1, hL, h2, h3⟩, st⟩ | ⟨q, vm₁, ⟨U', l2, c2, s2⟩, hW₁, X', ⟨g', mk, t, L, E, ce, e1, e2, hq, hce, hcv, hcl, h1, hL, h2, h3⟩, st⟩
  · dsimp only [Pt.U, Pt.locs, Pt.cells, Pt.slots] at X' e1 e2 h1 h2 h3 st
    subst h1; subst h2; subst h3
    exact Or.inl ⟨v, (T.setVm vm₁).calling g' mk As.toArray, t, U', L, hT, X', hL, e1, e2, hq, st⟩
  · dsimp only [Pt.U, Pt.locs, Pt.cells, Pt.slots] at X' e1 e2 h1 h2 h3 st hcl
    subst h1; subst h2; subst h3
    exact Or.inr ⟨q, (T.setVm vm₁).calling g' mk As.toArray, t, U', L, E, ce, hT, X', hL, e1, e2, hq, hce, hcv, vx_cls hW₁ hcl, st⟩
end Runs
section Rows
variable {p : Program} {l : Launch} {e : Env} {R : Room} {s : State} {m : MethodId} {args : Array Value} {below : List Frame} {meth : Method} {c : Code} {H : Heap} {locs : List Loc} {cells slots : Nat} {Q : State → Prop}
variable {mc ms : Nat} {free : Addr → Prop} {A0 A1 : Nat → Prop} {H0 : Heap} {a : Array Value} {pc : Nat} {ls : Array Slot} {st0 rest : List Value}
theorem vx_keep {st₀ t T' : State} {L : List Loc} (h0 : st₀.heap = H) (e1 : T'.heap = t.heap) (hS : va_S A0 H0 H locs) (hA : ∀ q, q < H.size → A1 q → A0 q) (hf : ∀ q, free q → A0 q) (hL : ∀ q ∈ L, free q.base) (hF : va_F A1 st₀ t) :
    H.size ≤ T'.heap.size ∧ (∀ q : Nat, q < H.size → ¬ A1 q → T'.heap[q]? = H[q]?) ∧ va_S A0 H0 T'.heap (locs ++ L) := by
  obtain ⟨hz, hk⟩ := hF
  rw [h0] at hz hk
  exact ⟨by rw [e1]; exact hz, fun q h1 h2 => by rw [e1]; exact hk q h1 h2,
    ⟨Nat.le_trans hS.1 (by rw [e1]; exact hz), fun q h1 h2 => by rw [e1, hk q (Nat.lt_of_lt_of_le h1 hS.1) (fun z => h2 (hA q (Nat.lt_of_lt_of_le h1 hS.1) z))]; exact hS.2.1 q h1 h2, fun q hq => by
      rcases List.mem_append.mp hq with h | h
      · exact hS.2.2 q h
      · exact hf _ (hL q h)⟩⟩
theorem vx_calli {S SX : Type} {post : Int32 → S → Prop} {px : SX → Prop} {B : S → State → Prop} {BX : String → SX → State → Prop} {AX : Nat → Prop} (hr : vx_Run p l e R s m args below meth c H locs cells slots mc ms (F0 m pc ls st0) rest (va_Qi post B A1 a) (vx_X px BX AX) free) (hS : va_S A0 H0 H locs) (hA : ∀ q, q < H.size → A1 q → A0 q) (hf : ∀ q, free q → A0 q) (hAX : ∀ q, q < H.size → AX q → A0 q)
    (kx : ∀ (E : String) (ce : Cell) (q9 : Addr) (u : SX) (t : State) (H1 : Heap) (locs1 : List Loc), t.heap = H1 → s.vm.Alike t.vm → px u → BX E u t → H.size ≤ H1.size → (∀ q : Nat, q < H.size → ¬ AX q → H1[q]? = H[q]?) → va_S A0 H0 H1 locs1 → H1[q9]? = some ce → ce.vm = .none → s.vm.findClass E = some ce.cls → vx_W p l e R s m args below meth c H1 locs1 (cells + mc) (slots + ms) Q (F0 m pc ls rest) q9)
    (kk : ∀ (r : Int32) (u : S) (t : State) (H1 : Heap) (locs1 : List Loc), t.heap = H1 → s.vm.Alike t.vm → post r u → B u t → H.size ≤ H1.size → (∀ q : Nat, q < H.size → ¬ A1 q → H1[q]? = H[q]?) → va_S A0 H0 H1 locs1 → W p l e R s m args below meth c H1 locs1 (cells + mc) (slots + ms) Q (F0 m (pc + 3) ls (.int r :: rest))) : W p l e R s m args below meth c H locs cells slots Q (F0 m pc ls st0) := by
  intro T hT X
  rcases hr T hT X with ⟨v, st₀, t, T', L, h0, X', hL, e1, e2, ⟨⟨r, u, hv, hp, hb⟩, hF⟩, st⟩ | ⟨q, st₀, t, T', L, E, ce, h0, X', hL, e1, e2, ⟨u, hp, hb, hF⟩, hce, hcv, hcl, st⟩
  · cases hv
    obtain ⟨k1, k2, k3⟩ := vx_keep h0 e1 hS hA hf hL hF
    obtain ⟨t2, a1, b1⟩ := kk r u t T'.heap (locs ++ L) e1.symm (by rw [← e2]; exact X'.warmed.alike) hp hb k1 k2 k3 T' rfl X'
    exact ⟨t2, st t2 a1, b1⟩
  · obtain ⟨k1, k2, k3⟩ := vx_keep h0 e1 hS hAX hf hL hF
    obtain ⟨t2, a1, b1⟩ := kx E ce q u t T'.heap (locs ++ L) e1.symm (by rw [← e2]; exact X'.warmed.alike) hp hb k1 k2 k3 (by rw [e1]; exact hce) hcv hcl T' rfl X'
    exact ⟨t2, st.trans a1, b1⟩
theorem vx_calll {S SX : Type} {post : Int64 → S → Prop} {px : SX → Prop} {B : S → State → Prop} {BX : String → SX → State → Prop} {AX : Nat → Prop} (hr : vx_Run p l e R s m args below meth c H locs cells slots mc ms (F0 m pc ls st0) rest (va_Ql post B A1 a) (vx_X px BX AX) free) (hS : va_S A0 H0 H locs) (hA : ∀ q, q < H.size → A1 q → A0 q) (hf : ∀ q, free q → A0 q) (hAX : ∀ q, q < H.size → AX q → A0 q)
    (kx : ∀ (E : String) (ce : Cell) (q9 : Addr) (u : SX) (t : State) (H1 : Heap) (locs1 : List Loc), t.heap = H1 → s.vm.Alike t.vm → px u → BX E u t → H.size ≤ H1.size → (∀ q : Nat, q < H.size → ¬ AX q → H1[q]? = H[q]?) → va_S A0 H0 H1 locs1 → H1[q9]? = some ce → ce.vm = .none → s.vm.findClass E = some ce.cls → vx_W p l e R s m args below meth c H1 locs1 (cells + mc) (slots + ms) Q (F0 m pc ls rest) q9)
    (kk : ∀ (r : Int64) (u : S) (t : State) (H1 : Heap) (locs1 : List Loc), t.heap = H1 → s.vm.Alike t.vm → post r u → B u t → H.size ≤ H1.size → (∀ q : Nat, q < H.size → ¬ A1 q → H1[q]? = H[q]?) → va_S A0 H0 H1 locs1 → W p l e R s m args below meth c H1 locs1 (cells + mc) (slots + ms) Q (F0 m (pc + 3) ls (.long r :: rest))) : W p l e R s m args below meth c H locs cells slots Q (F0 m pc ls st0) := by
  intro T hT X
  rcases hr T hT X with ⟨v, st₀, t, T', L, h0, X', hL, e1, e2, ⟨⟨r, u, hv, hp, hb⟩, hF⟩, st⟩ | ⟨q, st₀, t, T', L, E, ce, h0, X', hL, e1, e2, ⟨u, hp, hb, hF⟩, hce, hcv, hcl, st⟩
  · cases hv
    obtain ⟨k1, k2, k3⟩ := vx_keep h0 e1 hS hA hf hL hF
    obtain ⟨t2, a1, b1⟩ := kk r u t T'.heap (locs ++ L) e1.symm (by rw [← e2]; exact X'.warmed.alike) hp hb k1 k2 k3 T' rfl X'
    exact ⟨t2, st t2 a1, b1⟩
  · obtain ⟨k1, k2, k3⟩ := vx_keep h0 e1 hS hAX hf hL hF
    obtain ⟨t2, a1, b1⟩ := kx E ce q u t T'.heap (locs ++ L) e1.symm (by rw [← e2]; exact X'.warmed.alike) hp hb k1 k2 k3 (by rw [e1]; exact hce) hcv hcl T' rfl X'
    exact ⟨t2, st.trans a1, b1⟩
theorem vx_callf {S SX : Type} {post : UInt32 → S → Prop} {px : SX → Prop} {B : S → State → Prop} {BX : String → SX → State → Prop} {AX : Nat → Prop} (hr : vx_Run p l e R s m args below meth c H locs cells slots mc ms (F0 m pc ls st0) rest (va_Qf post B A1 a) (vx_X px BX AX) free) (hS : va_S A0 H0 H locs) (hA : ∀ q, q < H.size → A1 q → A0 q) (hf : ∀ q, free q → A0 q) (hAX : ∀ q, q < H.size → AX q → A0 q)
    (kx : ∀ (E : String) (ce : Cell) (q9 : Addr) (u : SX) (t : State) (H1 : Heap) (locs1 : List Loc), t.heap = H1 → s.vm.Alike t.vm → px u → BX E u t → H.size ≤ H1.size → (∀ q : Nat, q < H.size → ¬ AX q → H1[q]? = H[q]?) → va_S A0 H0 H1 locs1 → H1[q9]? = some ce → ce.vm = .none → s.vm.findClass E = some ce.cls → vx_W p l e R s m args below meth c H1 locs1 (cells + mc) (slots + ms) Q (F0 m pc ls rest) q9)
    (kk : ∀ (r : UInt32) (u : S) (t : State) (H1 : Heap) (locs1 : List Loc), t.heap = H1 → s.vm.Alike t.vm → post r u → B u t → H.size ≤ H1.size → (∀ q : Nat, q < H.size → ¬ A1 q → H1[q]? = H[q]?) → va_S A0 H0 H1 locs1 → W p l e R s m args below meth c H1 locs1 (cells + mc) (slots + ms) Q (F0 m (pc + 3) ls (.float r :: rest))) : W p l e R s m args below meth c H locs cells slots Q (F0 m pc ls st0) := by
  intro T hT X
  rcases hr T hT X with ⟨v, st₀, t, T', L, h0, X', hL, e1, e2, ⟨⟨r, u, hv, hp, hb⟩, hF⟩, st⟩ | ⟨q, st₀, t, T', L, E, ce, h0, X', hL, e1, e2, ⟨u, hp, hb, hF⟩, hce, hcv, hcl, st⟩
  · cases hv
    obtain ⟨k1, k2, k3⟩ := vx_keep h0 e1 hS hA hf hL hF
    obtain ⟨t2, a1, b1⟩ := kk r u t T'.heap (locs ++ L) e1.symm (by rw [← e2]; exact X'.warmed.alike) hp hb k1 k2 k3 T' rfl X'
    exact ⟨t2, st t2 a1, b1⟩
  · obtain ⟨k1, k2, k3⟩ := vx_keep h0 e1 hS hAX hf hL hF
    obtain ⟨t2, a1, b1⟩ := kx E ce q u t T'.heap (locs ++ L) e1.symm (by rw [← e2]; exact X'.warmed.alike) hp hb k1 k2 k3 (by rw [e1]; exact hce) hcv hcl T' rfl X'
    exact ⟨t2, st.trans a1, b1⟩
theorem vx_calld {S SX : Type} {post : UInt64 → S → Prop} {px : SX → Prop} {B : S → State → Prop} {BX : String → SX → State → Prop} {AX : Nat → Prop} (hr : vx_Run p l e R s m args below meth c H locs cells slots mc ms (F0 m pc ls st0) rest (va_Qd post B A1 a) (vx_X px BX AX) free) (hS : va_S A0 H0 H locs) (hA : ∀ q, q < H.size → A1 q → A0 q) (hf : ∀ q, free q → A0 q) (hAX : ∀ q, q < H.size → AX q → A0 q)
    (kx : ∀ (E : String) (ce : Cell) (q9 : Addr) (u : SX) (t : State) (H1 : Heap) (locs1 : List Loc), t.heap = H1 → s.vm.Alike t.vm → px u → BX E u t → H.size ≤ H1.size → (∀ q : Nat, q < H.size → ¬ AX q → H1[q]? = H[q]?) → va_S A0 H0 H1 locs1 → H1[q9]? = some ce → ce.vm = .none → s.vm.findClass E = some ce.cls → vx_W p l e R s m args below meth c H1 locs1 (cells + mc) (slots + ms) Q (F0 m pc ls rest) q9)
    (kk : ∀ (r : UInt64) (u : S) (t : State) (H1 : Heap) (locs1 : List Loc), t.heap = H1 → s.vm.Alike t.vm → post r u → B u t → H.size ≤ H1.size → (∀ q : Nat, q < H.size → ¬ A1 q → H1[q]? = H[q]?) → va_S A0 H0 H1 locs1 → W p l e R s m args below meth c H1 locs1 (cells + mc) (slots + ms) Q (F0 m (pc + 3) ls (.double r :: rest))) : W p l e R s m args below meth c H locs cells slots Q (F0 m pc ls st0) := by
  intro T hT X
  rcases hr T hT X with ⟨v, st₀, t, T', L, h0, X', hL, e1, e2, ⟨⟨r, u, hv, hp, hb⟩, hF⟩, st⟩ | ⟨q, st₀, t, T', L, E, ce, h0, X', hL, e1, e2, ⟨u, hp, hb, hF⟩, hce, hcv, hcl, st⟩
  · cases hv
    obtain ⟨k1, k2, k3⟩ := vx_keep h0 e1 hS hA hf hL hF
    obtain ⟨t2, a1, b1⟩ := kk r u t T'.heap (locs ++ L) e1.symm (by rw [← e2]; exact X'.warmed.alike) hp hb k1 k2 k3 T' rfl X'
    exact ⟨t2, st t2 a1, b1⟩
  · obtain ⟨k1, k2, k3⟩ := vx_keep h0 e1 hS hAX hf hL hF
    obtain ⟨t2, a1, b1⟩ := kx E ce q u t T'.heap (locs ++ L) e1.symm (by rw [← e2]; exact X'.warmed.alike) hp hb k1 k2 k3 (by rw [e1]; exact hce) hcv hcl T' rfl X'
    exact ⟨t2, st.trans a1, b1⟩
theorem vx_callv {S SX : Type} {post : S → Prop} {px : SX → Prop} {B : S → State → Prop} {BX : String → SX → State → Prop} {AX : Nat → Prop} (hr : vx_Run p l e R s m args below meth c H locs cells slots mc ms (F0 m pc ls st0) rest (va_Qv post B A1 a) (vx_X px BX AX) free) (hS : va_S A0 H0 H locs) (hA : ∀ q, q < H.size → A1 q → A0 q) (hf : ∀ q, free q → A0 q) (hAX : ∀ q, q < H.size → AX q → A0 q)
    (kx : ∀ (E : String) (ce : Cell) (q9 : Addr) (u : SX) (t : State) (H1 : Heap) (locs1 : List Loc), t.heap = H1 → s.vm.Alike t.vm → px u → BX E u t → H.size ≤ H1.size → (∀ q : Nat, q < H.size → ¬ AX q → H1[q]? = H[q]?) → va_S A0 H0 H1 locs1 → H1[q9]? = some ce → ce.vm = .none → s.vm.findClass E = some ce.cls → vx_W p l e R s m args below meth c H1 locs1 (cells + mc) (slots + ms) Q (F0 m pc ls rest) q9)
    (kk : ∀ (u : S) (t : State) (H1 : Heap) (locs1 : List Loc), t.heap = H1 → s.vm.Alike t.vm → post u → B u t → H.size ≤ H1.size → (∀ q : Nat, q < H.size → ¬ A1 q → H1[q]? = H[q]?) → va_S A0 H0 H1 locs1 → W p l e R s m args below meth c H1 locs1 (cells + mc) (slots + ms) Q (F0 m (pc + 3) ls (rest))) : W p l e R s m args below meth c H locs cells slots Q (F0 m pc ls st0) := by
  intro T hT X
  rcases hr T hT X with ⟨v, st₀, t, T', L, h0, X', hL, e1, e2, ⟨⟨u, hv, hp, hb⟩, hF⟩, st⟩ | ⟨q, st₀, t, T', L, E, ce, h0, X', hL, e1, e2, ⟨u, hp, hb, hF⟩, hce, hcv, hcl, st⟩
  · cases hv
    obtain ⟨k1, k2, k3⟩ := vx_keep h0 e1 hS hA hf hL hF
    obtain ⟨t2, a1, b1⟩ := kk u t T'.heap (locs ++ L) e1.symm (by rw [← e2]; exact X'.warmed.alike) hp hb k1 k2 k3 T' rfl X'
    exact ⟨t2, st t2 a1, b1⟩
  · obtain ⟨k1, k2, k3⟩ := vx_keep h0 e1 hS hAX hf hL hF
    obtain ⟨t2, a1, b1⟩ := kx E ce q u t T'.heap (locs ++ L) e1.symm (by rw [← e2]; exact X'.warmed.alike) hp hb k1 k2 k3 (by rw [e1]; exact hce) hcv hcl T' rfl X'
    exact ⟨t2, st.trans a1, b1⟩
/-- caught by the row x of this method's table; the rows ahead don't take it -/
theorem vx_catch {own name : String} {E : String} {ce : Cell} {q : Addr} (hown : s.vm.findClass own = some m.cls) (pre : List ExceptionTableEntry) (x : ExceptionTableEntry) (suf : List ExceptionTableEntry) (hsplit : c.exceptionTable.toList = pre ++ x :: suf)
    (hpass : ∀ z ∈ pre, covers z pc = false ∨ (z.catchType ≠ 0 ∧ ∃ nm : String, (Cond.classLink own z.catchType nm).before args s = true ∧ va_Nc E nm s)) (hx : covers x pc = true) (h0 : x.catchType ≠ 0)
    (hlink : (Cond.classLink own x.catchType name).before args s = true) (hcast : (Cond.castable E name).before args s = true) (hcell : H[q]? = some ce) (hv : ce.vm = .none) (hcl : s.vm.findClass E = some ce.cls)
    (kk : W p l e R s m args below meth c H locs cells slots Q (F0 m x.handlerPc ls [.ref q])) : vx_W p l e R s m args below meth c H locs cells slots Q (F0 m pc ls rest) q := by
  intro T hT X
  have hpl : e.platform.magicAccessors = ({} : Platform).magicAccessors := by rw [X.admits.platform]
  obtain ⟨c3, c4, hc3, hc4, hasg⟩ := Cond.castable_spec hcast
  cases Option.some.inj (hc3.symm.trans hcl)
  obtain ⟨c5, hc5, hcl5⟩ := Cond.classLink_spec hown hlink e.platform hpl
  cases Option.some.inj (hc4.symm.trans hc5)
  obtain ⟨vm', X', st⟩ := X.thenCaughtThrough q (g := F0 m pc ls rest) rfl (Steps.refl _) (by rw [hT]; exact hcell) (by rw [hv]; rfl) (by obtain ⟨k9, h9, -⟩ := Vm.findClass_spec hcl; exact ⟨k9, h9⟩) pre x suf hsplit
    (fun z hz => by
      rcases hpass z hz with h | ⟨hz0, nm, hl1, hn1⟩
      · exact Or.inl h
      · obtain ⟨c6, hc6, hcl6⟩ := Cond.classLink_spec hown hl1 e.platform hpl
        obtain ⟨a8, b8, h1, h2, h3⟩ := hn1
        cases Option.some.inj (h1.symm.trans hcl)
        cases Option.some.inj (h2.symm.trans hc6)
        exact Or.inr ⟨hz0, _, hcl6, h3⟩) hx (Or.inr ⟨h0, c4, hcl5, hasg⟩)
  obtain ⟨t, a1, b1⟩ := kk (T.setVm vm') hT X'
  exact ⟨t, st.trans a1, b1⟩
end Rows
section Ends
variable {p : Program} {l : Launch} {e : Env} {R : Room} {s : State} {m : MethodId} {args : Array Value} {below : List Frame} {meth : Method} {c : Code} {H : Heap} {locs : List Loc} {cells slots : Nat} {Q : State → Prop}
variable {mc ms : Nat} {free : Addr → Prop} {A0 A1 : Nat → Prop} {H0 : Heap} {a : Array Value} {ls : Array Slot} {st0 rest : List Value}
variable {Qc : Array Value → State → Outcome → State → Prop} {XC : String → State → State → Prop}
/-- what a body that may throw owes at its end -/
def vx_MQ (below : List Frame) (Qc : Array Value → State → Outcome → State → Prop) (XC : String → State → State → Prop) (a : Array Value) (s : State) (mc ms : Nat) (free : Addr → Prop) : State → Prop := fun t =>
  ∃ o, t.status = .running ∧ Ended t below o ∧ vx_Q Qc XC mc ms free a s o t
theorem vx_ret {g : JFrame} {mc ms : Nat} (k : W p l e R s m args below meth c H locs cells slots (MQ below Qc args s mc ms free) g) : W p l e R s m args below meth c H locs cells slots (vx_MQ below Qc XC args s mc ms free) g := by
  intro T hT X
  obtain ⟨t, a1, o, b1, b2, b3, b4⟩ := k T hT X
  exact ⟨t, a1, o, b1, b2, Or.inl ⟨b3, b4⟩⟩
/-- not caught here: it goes on to the caller -/
theorem vx_widen {g : JFrame} {q : Addr} {k n : Nat} (h1 : cells ≤ k) (h2 : slots ≤ n) (kk : vx_W p l e R s m args below meth c H locs k n Q g q) : vx_W p l e R s m args below meth c H locs cells slots Q g q := fun T hT X => kk T hT (stand_widen X h1 h2)
theorem vx_out {pc : Nat} {E : String} {ce : Cell} {q : Addr} {mc ms : Nat} (hout : ∀ x ∈ c.exceptionTable.toList, covers x pc = false) (hlocks : meth.locks = false) (hcell : H[q]? = some ce) (hv : ce.vm = .none) (hcl : s.vm.findClass E = some ce.cls)
    (hx : ∀ t : State, t.heap = H → s.vm.Alike t.vm → XC E s t) (hf : ∀ z ∈ locs, free z.base) (hc : cells ≤ mc) (hs : slots ≤ ms) :
    vx_W p l e R s m args below meth c H locs cells slots (vx_MQ below Qc XC args s mc ms free) (F0 m pc ls rest) q := by
  intro T hT X
  obtain ⟨st1, hrun, hend, hW, hsm⟩ := X.leaveThrown q (g := F0 m pc ls rest) rfl rfl rfl hout hlocks
  have hcell9 : (T.setFrames (.throwing q :: below)).heap[q]? = some ce := by
    show T.heap[q]? = some ce
    rw [hT]; exact hcell
  exact ⟨_, st1, .threw q, hrun, hend, Or.inr ⟨q, rfl, E, ce, locs, hx _ hT hW.alike, hcell9, hv, hcl, hW, hsm.mono hc hs, hf⟩⟩
theorem vx_frame {U : State} {k n : Nat} (h : s.sameButNew ({ U with vm := s.vm } : State) locs k n) : s.heap.size ≤ U.heap.size ∧ ∀ q : Nat, q < s.heap.size → (∀ z ∈ locs, z.base ≠ q) → U.heap[q]? = s.heap[q]? := by
  obtain ⟨-, h2, -, -, -, h6⟩ := h
  refine ⟨h2, fun q hq hz => ?_⟩
  obtain ⟨c9, e1, e2, e3, e4⟩ := h6 q _ (Array.getElem?_eq_getElem hq)
  have hs : c9.slots = (s.heap[q]).slots := Array.ext_getElem? fun i => e4 i fun hm => hz _ hm rfl
  have h9 : c9 = s.heap[q] := by
    rw [hs] at e2
    exact e2
  have e5 : U.heap[q]? = some c9 := e1
  rw [e5, h9, Array.getElem?_eq_getElem hq]
/-- the words of a throw but the four that speak of the heap -/
def vx_no (w : Cond) : Bool := decide (w ≠ .isRef (.static Bundle.tN "UNASSIGNED_STACK" Bundle.steD)) && decide (w ≠ .isRef (.static Bundle.tN "SUPPRESSED_SENTINEL" Bundle.listD)) && decide (w ≠ .laysStatic Bundle.tN "UNASSIGNED_STACK" Bundle.steD) && decide (w ≠ .laysStatic Bundle.tN "SUPPRESSED_SENTINEL" Bundle.listD)
def vx_at0 (own : String) (ic : Nat) (X : String) (names : List String) : List Cond := (Bundle.ownAtoms0 own ic X names).filter vx_no
def vx_atS (own : String) (ic : Nat) (X : String) (names : List String) : List Cond := (Bundle.ownAtoms own ic X names).filter vx_no
/-- a word that the tables alone decide, or a good one -/
def vx_ot (w : Cond) : Bool := w.onTables || goodWord w
theorem vx_ot_at {args a' : Array Value} {s U : State} {w : Cond} (hW : s.WarmedH U.vm) (hvm : s.vm = U.vm) (hg : vx_ot w = true) (h : w.before args s = true) : w.before a' U = true := by
  simp only [vx_ot, Bool.or_eq_true] at hg
  rcases hg with hg | hg
  · exact va_tabs hg hvm h
  · exact word_at hW (good_of_word hg) h
/-- a list's words: the good ones out of the method's own list, the others by premises of their own -/
theorem vx_hat {args : Array Value} {s : State} {L B : List Cond} (h1 : ∀ w ∈ L.filter goodWord, w.before args s = true) (h2 : ∀ w ∈ L.filter (fun w => !goodWord w), w ∈ B) (h3 : ∀ w ∈ B, w.before args s = true) : ∀ w ∈ L, w.before args s = true := by
  intro w hw
  by_cases g : goodWord w = true
  · exact h1 w (List.mem_filter.mpr ⟨hw, g⟩)
  · refine h3 w (h2 w (List.mem_filter.mpr ⟨hw, ?_⟩))
    show (!goodWord w) = true
    cases hgw : goodWord w
    · rfl
    · exact absurd hgw g
theorem vx_c {args : Array Value} {s : State} {w : Cond} {B : List Cond} (h : w.before args s = true) (t : ∀ w ∈ B, w.before args s = true) : ∀ w' ∈ w :: B, w'.before args s = true := fun w' h' => (List.mem_cons.mp h').elim (fun e => by rw [e]; exact h) (t w')
theorem vx_n {args : Array Value} {s : State} : ∀ w ∈ ([] : List Cond), w.before args s = true := fun _ h => nomatch h
theorem vx_own {args : Array Value} {s : State} {L : List Cond} (h1 : ∀ w ∈ L.filter vx_no, w.before args s = true)
    (hU : (Cond.isRef (.static Bundle.tN "UNASSIGNED_STACK" Bundle.steD)).before args s = true) (hN : (Cond.isRef (.static Bundle.tN "SUPPRESSED_SENTINEL" Bundle.listD)).before args s = true)
    (lU : (Cond.laysStatic Bundle.tN "UNASSIGNED_STACK" Bundle.steD).before args s = true) (lN : (Cond.laysStatic Bundle.tN "SUPPRESSED_SENTINEL" Bundle.listD).before args s = true) : ∀ w ∈ L, w.before args s = true := by
  intro w hw
  by_cases e1 : w = .isRef (.static Bundle.tN "UNASSIGNED_STACK" Bundle.steD)
  · rw [e1]; exact hU
  · by_cases e2 : w = .isRef (.static Bundle.tN "SUPPRESSED_SENTINEL" Bundle.listD)
    · rw [e2]; exact hN
    · by_cases e3 : w = .laysStatic Bundle.tN "UNASSIGNED_STACK" Bundle.steD
      · rw [e3]; exact lU
      · by_cases e4 : w = .laysStatic Bundle.tN "SUPPRESSED_SENTINEL" Bundle.listD
        · rw [e4]; exact lN
        · exact h1 w (List.mem_filter.mpr ⟨hw, by unfold vx_no; rw [decide_eq_true e1, decide_eq_true e2, decide_eq_true e3, decide_eq_true e4]; rfl⟩)
/-- where a static field lies, its class's statics cell in H -/
def vx_L (C n d : String) (A : Nat → Prop) (U : State) (H : Heap) : Prop := ∃ (c : ClassId) (k : Class) (i : Nat) (f : Field) (a : Nat) (cell : Cell), U.vm.findClass C = some c ∧ U.fieldFound? C n d = some (c, k, i, f) ∧ f.isStatic = true ∧ k.statics = some a ∧ H[a]? = some cell ∧ cell.vm.isStatics = true ∧ cell.cls = c ∧ f.slot < cell.slots.size ∧ k.staticTypes[f.slot]? = some f.type ∧ ¬ A a
theorem vx_L.moved {C n d : String} {A : Nat → Prop} {u U : State} {H : Heap} (hvm : u.vm.Alike U.vm) (h : vx_L C n d A u H) : vx_L C n d A U H := by
  obtain ⟨c, k, i, f, a, cell, h1, h2, h3, h4, h5, h6, h7, h8, h9, h10⟩ := h
  obtain ⟨k', hi', he⟩ := State.fieldFound?_setVm hvm h2
  exact ⟨c, k', i, f, a, cell, by rw [hvm.findClass]; exact h1, hi', h3, by rw [he]; exact h4, h5, h6, h7, h8, by rw [he]; exact h9, h10⟩
theorem vx_L.kept {C n d : String} {A : Nat → Prop} {U : State} {H H1 : Heap} (h : vx_L C n d A U H) (hq : ∀ a : Nat, a < H.size → ¬ A a → H1[a]? = H[a]?) : vx_L C n d A U H1 := by
  obtain ⟨c, k, i, f, a, cell, h1, h2, h3, h4, h5, h6, h7, h8, h9, h10⟩ := h
  exact ⟨c, k, i, f, a, cell, h1, h2, h3, h4, by rw [hq a (Array.getElem?_eq_some_iff.mp h5).1 h10]; exact h5, h6, h7, h8, h9, h10⟩
theorem vx_L.narrow {C n d : String} {A B : Nat → Prop} {U : State} {H : Heap} (h : vx_L C n d A U H) (hAB : ∀ q, B q → A q) : vx_L C n d B U H := by
  obtain ⟨c, k, i, f, a, cell, h1, h2, h3, h4, h5, h6, h7, h8, h9, h10⟩ := h
  exact ⟨c, k, i, f, a, cell, h1, h2, h3, h4, h5, h6, h7, h8, h9, fun z => h10 (hAB _ z)⟩
theorem vx_L.word {C n d : String} {A : Nat → Prop} {s : State} {args : Array Value} (h : vx_L C n d A s s.heap) : (Cond.laysStatic C n d).before args s = true := by
  obtain ⟨c, k, i, f, a, cell, h1, h2, h3, h4, h5, h6, h7, h8, h9, -⟩ := h
  show (Cond.laysStatic C n d).holds args s none s [] = true
  exact Cond.laysStatic_of h1 h2 h3 h4 h5 h6 h7 h8 h9
/-- .. and what it holds: null or some reference -/
def vx_Zq (C n d : String) (A : Nat → Prop) (U : State) (H : Heap) : Prop := va_Zq C n d A U H ∧ vx_L C n d A U H
theorem vx_Zq.moved {C n d : String} {A : Nat → Prop} {u U : State} {H : Heap} (hvm : u.vm.Alike U.vm) (h : vx_Zq C n d A u H) : vx_Zq C n d A U H := ⟨va_Zq.moved hvm h.1, vx_L.moved hvm h.2⟩
theorem vx_Zq.kept {C n d : String} {A : Nat → Prop} {U : State} {H H1 : Heap} (h : vx_Zq C n d A U H) (hq : ∀ a : Nat, a < H.size → ¬ A a → H1[a]? = H[a]?) : vx_Zq C n d A U H1 := ⟨va_Zq.kept h.1 hq, vx_L.kept h.2 hq⟩
theorem vx_Zq.narrow {C n d : String} {A B : Nat → Prop} {U : State} {H : Heap} (h : vx_Zq C n d A U H) (hAB : ∀ q, B q → A q) : vx_Zq C n d B U H := ⟨va_Zq.narrow h.1 hAB, vx_L.narrow h.2 hAB⟩
theorem vx_Zqof {args : Array Value} {s : State} {C n d : String} {A : Nat → Prop} (hl : (Cond.laysStatic C n d).before args s = true) (hini : (Cond.initialized C).before args s = true) (h : (Cond.isRef (.static C n d)).before args s = true) (hA : ∀ a : Nat, a < s.heap.size → ¬ A a) : vx_Zq C n d A s s.heap := by
  refine ⟨va_Zqof hl hini h hA, ?_⟩
  obtain ⟨c, k, i, f, a, cell, h1, h2, h3, h4, h5, h6, h7, h8, h9⟩ := Cond.laysStatic_spec hl
  exact ⟨c, k, i, f, a, cell, h1, h2, h3, h4, h5, h6, h7, h8, h9, hA a (Array.getElem?_eq_some_iff.mp h5).1⟩
theorem vx_isRef {C n d : String} {v : Value} {A : Nat → Prop} {s : State} {args : Array Value} (h : va_Z C n d v A s s.heap) (hv : v.isRef = true) : (Cond.isRef (.static C n d)).before args s = true := by
  obtain ⟨cf, kf, fi, f, a, cell, h1, h2, h3, h4, h5, h6, h7, -⟩ := h
  have he : (Term.static C n d).eval args s none [] s = some v := by
    simp [Term.eval, State.fieldNamed?, h1, h2, h4, h5, h6, h7]
  simp only [Cond.before, Cond.holds, Cond.value, he]
  cases v <;> simp_all [Value.isRef]
theorem vx_isRefq {C n d : String} {A : Nat → Prop} {s : State} {args : Array Value} (h : va_Zq C n d A s s.heap) : (Cond.isRef (.static C n d)).before args s = true := by
  rcases h with h | ⟨t, h⟩
  · exact vx_isRef h rfl
  · exact vx_isRef h rfl
/-- the same frame, seen from here: as if the method were called anew in this heap -/
theorem vx_rebase {T : State} (X : Stand p l e R s m args below meth c T locs cells slots) {R' : Room} (hf : R'.frames ≤ R.frames) (hl : R'.locals ≤ R.locals) (hc : cells + R'.cells ≤ R.cells) (hs : slots + R'.slots ≤ R.slots) :
    Stand p l e R' ((T.setVm s.vm).setFrames (.invoking m args :: below)) m args below meth c T [] 0 0 := by
  have htop : (T.setVm s.vm).topJava?.isSome := X.here.top
  have hF : ((T.setVm s.vm).setFrames (.invoking m args :: below)).frames = .invoking m args :: below := State.frames_setFrames _ (State.cur_lt_of_top htop)
  obtain ⟨g₀, hg0⟩ := Option.isSome_iff_exists.mp htop
  obtain ⟨r, hr⟩ := State.topJava?_eq_some.mp hg0
  have hl9 : e.platform.stackLimits (T.setVm s.vm).me = e.platform.stackLimits s.me := X.limits
  have hb9 : (T.setVm s.vm).me.stackBytes = s.me.stackBytes := X.bytes
  refine ⟨X.admits, X.cas, X.clock, hF, ?_, X.hears, X.method, X.code, X.here, X.tail, X.warmed, ?_, ?_, ?_⟩
  · have h := X.room
    have hU : ((T.setVm s.vm).setFrames (.invoking m args :: below)).localsInUse = s.localsInUse := by
      rw [State.localsInUse_invoking hF (meth := meth) (c := c) X.method X.code, State.localsInUse_invoking X.frames X.method X.code]
    simp only [State.hasRoom, Bool.and_eq_true, decide_eq_true_eq] at h ⊢
    obtain ⟨⟨⟨⟨h1, h2, h3, h4, h5, h6⟩, h7⟩, h8⟩, h9⟩ := h
    rw [X.frames, List.length_cons] at h2 h3
    have q1 := X.heapSize
    have q2 := X.used
    simp only [hF, hU, List.length_cons, State.stackLimits_setFrames, State.stackBytes_setFrames, hl9, hb9]
    refine ⟨⟨⟨⟨by omega, by omega, by omega, by omega, by omega, h6⟩, ?_⟩, ?_⟩, X.book⟩
    · show T.heap.size + R'.cells ≤ e.platform.maxCells
      omega
    · show T.slotsUsed + R'.slots ≤ e.platform.maxSlots
      omega
  · rw [State.stackLimits_setFrames]; rfl
  · rw [State.stackBytes_setFrames]; rfl
  · refine ⟨?_, Nat.le_refl _, Nat.le_refl _, ?_, ?_, fun a c9 h9 => ⟨c9, h9, rfl, rfl, fun _ _ => rfl⟩⟩
    · obtain ⟨t, ht, -⟩ := State.frames_cons hr
      show T.setVm s.vm = { ((T.setVm s.vm).setFrames (.invoking m args :: below)).setFrames (T.setVm s.vm).frames with heap := T.heap, slotsUsed := T.slotsUsed }
      rw [State.setFrames_setFrames, State.setFrames_self ht]
      rfl
    · show T.slotsUsed = T.slotsUsed + ((T.heap.toList.drop T.heap.size).map (·.slots.size)).sum
      rw [List.drop_eq_nil_of_le (Nat.le_of_eq Array.length_toList)]
      rfl
    · show ((T.heap.toList.drop T.heap.size).map (·.slots.size)).sum ≤ 0
      rw [List.drop_eq_nil_of_le (Nat.le_of_eq Array.length_toList)]
      exact Nat.le_refl _
/-- 'throw new E()': new; dup; invokespecial; athrow -/
theorem vx_throw0 {cc : ByteArray} {pc : Nat} (hexec : p.tables.exec = Jvm.exec) (hb : c.code = cc) (hl : l.stackTraces = false) {own cls : String} {names : List String} {ik ic mc ms : Nat} {A : Nat → Prop}
    (hown : s.vm.findClass own = some m.cls) (hcls : Bundle.fit cls = true) (hnames : ∀ n ∈ names, Bundle.fit n = true)
    (hk : (Cond.classLink own ik cls).before args s = true) (hini : (Cond.initialized cls).before args s = true) (hat : ∀ w ∈ vx_at0 own ic cls names, w.before args s = true)
    (hgood : ∀ w ∈ Cond.classLink own ik cls :: Cond.initialized cls :: vx_at0 own ic cls names, vx_ot w = true)
    (hU : vx_Zq Bundle.tN "UNASSIGNED_STACK" Bundle.steD A s s.heap) (hN : vx_Zq Bundle.tN "SUPPRESSED_SENTINEL" Bundle.listD A s s.heap) (hS : va_S A s.heap H locs) (hsize : ls.size = c.maxLocals)
    (d0 : decode cc pc = .ok (.new ik, 3)) (d3 : decode cc (pc + 3) = .ok (.dup, 1)) (d4 : decode cc (pc + 4) = .ok (.invokespecial ic, 3)) (d7 : decode cc (pc + 7) = .ok (.athrow, 1))
    (hout : ∀ x ∈ c.exceptionTable.toList, covers x (pc + 7) = false)
    (hRframes : names.length + 3 < R.frames) (hRlocals : (rest.map fun v => v.category).sum + (13 * (names.length + 1) + 42) ≤ R.locals) (hRcells : cells + 1 ≤ R.cells) (hRslots : slots + 6 ≤ R.slots) (hlocks : meth.locks = false)
    (hx : ∀ t : State, s.vm.Alike t.vm → H.size ≤ t.heap.size → (∀ q : Nat, q < H.size → t.heap[q]? = H[q]?) → XC cls s t)
    (hf : ∀ z ∈ locs, free z.base) (hc : cells + 1 ≤ mc) (hs : slots + 6 ≤ ms) :
    W p l e R s m args below meth c H locs cells slots (vx_MQ below Qc XC args s mc ms free) (F0 m pc ls rest) := by
  intro T hT X
  have htr : e.platform.stackTraces = false := (show e.platform.stackTraces = l.stackTraces by rw [X.admits.platform]).trans hl
  have Y := vx_rebase X (R' := { frames := R.frames, locals := R.locals, cells := 1, slots := 6 }) (Nat.le_refl _) (Nat.le_refl _) hRcells hRslots
  obtain ⟨s', hA⟩ : ∃ z, z = (T.setVm s.vm).setFrames (.invoking m args :: below) := ⟨_, rfl⟩
  rw [← hA] at Y
  have hvm : s'.vm = s.vm := by rw [hA]; rfl
  have hhp : s'.heap = H := by rw [hA]; exact hT
  have hW0 : s.WarmedH s'.vm := by rw [hvm]; exact State.WarmedH.refl s
  have hat' : ∀ w ∈ vx_at0 own ic cls names, w.before args s' = true := fun w hw => vx_ot_at hW0 hvm.symm (hgood w (List.mem_cons_of_mem _ (List.mem_cons_of_mem _ hw))) (hat w hw)
  have hk' : (Cond.classLink own ik cls).before args s' = true := vx_ot_at hW0 hvm.symm (hgood _ List.mem_cons_self) hk
  have hini' : (Cond.initialized cls).before args s' = true := vx_ot_at hW0 hvm.symm (hgood _ (List.mem_cons_of_mem _ List.mem_cons_self)) hini
  have hU' : vx_Zq Bundle.tN "UNASSIGNED_STACK" Bundle.steD A s' s'.heap := by rw [hhp]; exact vx_Zq.moved hW0.alike (hU.kept hS.2.1)
  have hN' : vx_Zq Bundle.tN "SUPPRESSED_SENTINEL" Bundle.listD A s' s'.heap := by rw [hhp]; exact vx_Zq.moved hW0.alike (hN.kept hS.2.1)
  have h : ∀ w ∈ Bundle.ownAtoms0 own ic cls names, w.before args s' = true := vx_own hat' (vx_isRefq hU'.1) (vx_isRefq hN'.1) hU'.2.word hN'.2.word
  have hown' : s'.vm.findClass own = some m.cls := by rw [hvm]; exact hown
  have hins : (Cond.instantiable cls 6).before args s' = true := h _ (by simp [Bundle.ownAtoms0])
  obtain ⟨vm₁, cX, kX, hfX, hkX, -, -, X₁, st1⟩ := Y.newCold hexec (own := own) (C := cls) (index := ik) (n := 6) hown' hk' hins hini'
    (g := F0 m pc ls rest) rfl (by rw [hb]; exact d0) (Nat.le_refl _) (Nat.le_refl _)
  generalize hT1 : (T.setVm vm₁).pushCell { cls := cX, slots := kX.instanceTypes.map defaultValue, vm := .none } = T1 at X₁ st1
  have hcat : (Value.ref T.heap.size).category = 1 := rfl
  have hcellA : T1.heap[T.heap.size]? = some (freshCell cX kX) := by rw [← hT1]; exact State.heap_pushCell_size _ _
  have d3' : decode c.code (pc + 3) = .ok (.dup, 1) := by rw [hb]; exact d3
  obtain ⟨U, hsteps, hrun, hend, hW, hsame, ce, hce, hO⟩ := X₁.ctorThrow0 hexec htr (own := own) (cls := cls) (names := names) (ic := ic) hown' hcls hnames h (fun x hx => nomatch hx) hfX hkX hcellA (by rw [hhp, hT]; exact Nat.le_refl _)
    (g := { method := m, pc := pc + 4, locals := ls, stack := .ref T.heap.size :: .ref T.heap.size :: rest, locked := none }) rfl hsize rfl rfl (rest := rest) rfl
    (by rw [hb]; exact d4) (by rw [hb]; exact d7) hout hRframes (by simp only [List.map_cons, List.sum_cons, hcat]; omega) hlocks
  obtain ⟨f1, f2⟩ := vx_frame hsame
  rw [hhp] at f1 f2
  have hWs : s.WarmedH U.vm := State.WarmedH.trans hW0 hW
  have hcl : s.vm.findClass cls = some ce.cls := by
    have h9 := hO.cls
    rw [hvm] at h9
    exact h9
  have hall : s.sameButNew ({ U with vm := s.vm } : State) locs mc ms := by
    subst hA
    obtain ⟨e1, e2⟩ := hsame
    rw [State.setFrames_setFrames] at e1
    have h2 : (T.setVm s.vm).sameButNew ({ U with vm := s.vm } : State) [] (0 + 1) (0 + 6) := ⟨e1, e2⟩
    have h3 := X.same.trans h2
    rw [List.append_nil] at h3
    exact h3.mono hc hs
  refine ⟨U, ?_, .threw T.heap.size, hrun, hend, Or.inr ⟨T.heap.size, rfl, cls, ce, locs, hx U hWs.alike f1 (fun q hq => f2 q hq (fun z hz => nomatch hz)), hce, hO.vm, hcl, hWs, hall, hf⟩⟩
  refine st1 _ ?_
  show Steps p.tables e below (T1.setTop { method := m, pc := pc + 3, locals := ls, stack := .ref T.heap.size :: rest, locked := none }) _
  jvm_step X₁.here [X₁.here.top, hexec, d3', Value.category]
  exact hsteps
/-- 'throw new E("text")': new; dup; ldc; invokespecial; athrow -/
theorem vx_throwS {cc : ByteArray} {pc : Nat} (hexec : p.tables.exec = Jvm.exec) (hb : c.code = cc) (hl : l.stackTraces = false) {own cls text : String} {names : List String} {ik is ic mc ms sa : Nat} {A : Nat → Prop}
    (hown : s.vm.findClass own = some m.cls) (hcls : Bundle.fit cls = true) (hnames : ∀ n ∈ names, Bundle.fit n = true)
    (hk : (Cond.classLink own ik cls).before args s = true) (hini : (Cond.initialized cls).before args s = true) (hstr : vk_R own is text sa s) (hat : ∀ w ∈ vx_atS own ic cls names, w.before args s = true)
    (hgood : ∀ w ∈ Cond.classLink own ik cls :: Cond.initialized cls :: vx_atS own ic cls names, vx_ot w = true)
    (hU : vx_Zq Bundle.tN "UNASSIGNED_STACK" Bundle.steD A s s.heap) (hN : vx_Zq Bundle.tN "SUPPRESSED_SENTINEL" Bundle.listD A s s.heap) (hS : va_S A s.heap H locs) (hsize : ls.size = c.maxLocals)
    (d0 : decode cc pc = .ok (.new ik, 3)) (d3 : decode cc (pc + 3) = .ok (.dup, 1)) (d4 : decode cc (pc + 4) = .ok (.ldc is, 2)) (d6 : decode cc (pc + 6) = .ok (.invokespecial ic, 3)) (d9 : decode cc (pc + 9) = .ok (.athrow, 1))
    (hout : ∀ x ∈ c.exceptionTable.toList, covers x (pc + 9) = false)
    (hRframes : names.length + 3 < R.frames) (hRlocals : (rest.map fun v => v.category).sum + (13 * (names.length + 1) + 43) ≤ R.locals) (hRcells : cells + 1 ≤ R.cells) (hRslots : slots + 6 ≤ R.slots) (hlocks : meth.locks = false)
    (hx : ∀ t : State, s.vm.Alike t.vm → H.size ≤ t.heap.size → (∀ q : Nat, q < H.size → t.heap[q]? = H[q]?) → XC cls s t)
    (hf : ∀ z ∈ locs, free z.base) (hc : cells + 1 ≤ mc) (hs : slots + 6 ≤ ms) :
    W p l e R s m args below meth c H locs cells slots (vx_MQ below Qc XC args s mc ms free) (F0 m pc ls rest) := by
  intro T hT X
  have htr : e.platform.stackTraces = false := (show e.platform.stackTraces = l.stackTraces by rw [X.admits.platform]).trans hl
  have Y := vx_rebase X (R' := { frames := R.frames, locals := R.locals, cells := 1, slots := 6 }) (Nat.le_refl _) (Nat.le_refl _) hRcells hRslots
  obtain ⟨s', hA⟩ : ∃ z, z = (T.setVm s.vm).setFrames (.invoking m args :: below) := ⟨_, rfl⟩
  rw [← hA] at Y
  have hvm : s'.vm = s.vm := by rw [hA]; rfl
  have hhp : s'.heap = H := by rw [hA]; exact hT
  have hW0 : s.WarmedH s'.vm := by rw [hvm]; exact State.WarmedH.refl s
  have hat' : ∀ w ∈ vx_atS own ic cls names, w.before args s' = true := fun w hw => vx_ot_at hW0 hvm.symm (hgood w (List.mem_cons_of_mem _ (List.mem_cons_of_mem _ hw))) (hat w hw)
  have hk' : (Cond.classLink own ik cls).before args s' = true := vx_ot_at hW0 hvm.symm (hgood _ List.mem_cons_self) hk
  have hini' : (Cond.initialized cls).before args s' = true := vx_ot_at hW0 hvm.symm (hgood _ (List.mem_cons_of_mem _ List.mem_cons_self)) hini
  have hU' : vx_Zq Bundle.tN "UNASSIGNED_STACK" Bundle.steD A s' s'.heap := by rw [hhp]; exact vx_Zq.moved hW0.alike (hU.kept hS.2.1)
  have hN' : vx_Zq Bundle.tN "SUPPRESSED_SENTINEL" Bundle.listD A s' s'.heap := by rw [hhp]; exact vx_Zq.moved hW0.alike (hN.kept hS.2.1)
  have h : ∀ w ∈ Bundle.ownAtoms own ic cls names, w.before args s' = true := vx_own hat' (vx_isRefq hU'.1) (vx_isRefq hN'.1) hU'.2.word hN'.2.word
  have hown' : s'.vm.findClass own = some m.cls := by rw [hvm]; exact hown
  have hins : (Cond.instantiable cls 6).before args s' = true := h _ (by simp [Bundle.ownAtoms])
  obtain ⟨vm₁, cX, kX, hfX, hkX, -, -, X₁, st1⟩ := Y.newCold hexec (own := own) (C := cls) (index := ik) (n := 6) hown' hk' hins hini'
    (g := F0 m pc ls rest) rfl (by rw [hb]; exact d0) (Nat.le_refl _) (Nat.le_refl _)
  generalize hT1 : (T.setVm vm₁).pushCell { cls := cX, slots := kX.instanceTypes.map defaultValue, vm := .none } = T1 at X₁ st1
  have hcat : (Value.ref T.heap.size).category = 1 := rfl
  have hcellA : T1.heap[T.heap.size]? = some (freshCell cX kX) := by rw [← hT1]; exact State.heap_pushCell_size _ _
  have d3' : decode c.code (pc + 3) = .ok (.dup, 1) := by rw [hb]; exact d3
  have d4' : decode c.code (pc + 4) = .ok (.ldc is, 2) := by rw [hb]; exact d4
  have hstr' : vk_R own is text sa s' := vk_R.warm hW0 hstr
  obtain ⟨U, hsteps, hrun, hend, hW, hsame, ce, hce, hO⟩ := X₁.ctorThrowS hexec htr (own := own) (cls := cls) (names := names) (ic := ic) hown' hcls hnames h (fun x hx => nomatch hx) hfX hkX hcellA (by rw [hhp, hT]; exact Nat.le_refl _) (msg := .ref sa) rfl
    (g := { method := m, pc := pc + 6, locals := ls, stack := .ref sa :: .ref T.heap.size :: .ref T.heap.size :: rest, locked := none }) rfl hsize rfl rfl (rest := rest) rfl
    (by rw [hb]; exact d6) (by rw [hb]; exact d9) hout hRframes (by simp only [List.map_cons, List.sum_cons, hcat]; omega) hlocks
  obtain ⟨f1, f2⟩ := vx_frame hsame
  rw [hhp] at f1 f2
  have hWs : s.WarmedH U.vm := State.WarmedH.trans hW0 hW
  have hcl : s.vm.findClass cls = some ce.cls := by
    have h9 := hO.cls
    rw [hvm] at h9
    exact h9
  have hall : s.sameButNew ({ U with vm := s.vm } : State) locs mc ms := by
    subst hA
    obtain ⟨e1, e2⟩ := hsame
    rw [State.setFrames_setFrames] at e1
    have h2 : (T.setVm s.vm).sameButNew ({ U with vm := s.vm } : State) [] (0 + 1) (0 + 6) := ⟨e1, e2⟩
    have h3 := X.same.trans h2
    rw [List.append_nil] at h3
    exact h3.mono hc hs
  refine ⟨U, ?_, .threw T.heap.size, hrun, hend, Or.inr ⟨T.heap.size, rfl, cls, ce, locs, hx U hWs.alike f1 (fun q hq => f2 q hq (fun z hz => nomatch hz)), hce, hO.vm, hcl, hWs, hall, hf⟩⟩
  refine st1 _ ?_
  show Steps p.tables e below (T1.setTop { method := m, pc := pc + 3, locals := ls, stack := .ref T.heap.size :: rest, locked := none }) _
  jvm_step X₁.here [X₁.here.top, hexec, d3', Value.category]
  exact X₁.ldcString hexec (own := own) (text := text) (index := is) (a := sa) hown' hstr'.1 hstr'.2
    (g := { method := m, pc := pc + 4, locals := ls, stack := .ref T.heap.size :: .ref T.heap.size :: rest, locked := none }) rfl d4' _ hsteps
/-- 'throw new E("text")', the text by a wide index -/
theorem vx_throwSW {cc : ByteArray} {pc : Nat} (hexec : p.tables.exec = Jvm.exec) (hb : c.code = cc) (hl : l.stackTraces = false) {own cls text : String} {names : List String} {ik is ic mc ms sa : Nat} {A : Nat → Prop}
    (hown : s.vm.findClass own = some m.cls) (hcls : Bundle.fit cls = true) (hnames : ∀ n ∈ names, Bundle.fit n = true)
    (hk : (Cond.classLink own ik cls).before args s = true) (hini : (Cond.initialized cls).before args s = true) (hstr : vk_R own is text sa s) (hat : ∀ w ∈ vx_atS own ic cls names, w.before args s = true)
    (hgood : ∀ w ∈ Cond.classLink own ik cls :: Cond.initialized cls :: vx_atS own ic cls names, vx_ot w = true)
    (hU : vx_Zq Bundle.tN "UNASSIGNED_STACK" Bundle.steD A s s.heap) (hN : vx_Zq Bundle.tN "SUPPRESSED_SENTINEL" Bundle.listD A s s.heap) (hS : va_S A s.heap H locs) (hsize : ls.size = c.maxLocals)
    (d0 : decode cc pc = .ok (.new ik, 3)) (d3 : decode cc (pc + 3) = .ok (.dup, 1)) (d4 : decode cc (pc + 4) = .ok (.ldc_w is, 3)) (d7 : decode cc (pc + 7) = .ok (.invokespecial ic, 3)) (d10 : decode cc (pc + 10) = .ok (.athrow, 1))
    (hout : ∀ x ∈ c.exceptionTable.toList, covers x (pc + 10) = false)
    (hRframes : names.length + 3 < R.frames) (hRlocals : (rest.map fun v => v.category).sum + (13 * (names.length + 1) + 43) ≤ R.locals) (hRcells : cells + 1 ≤ R.cells) (hRslots : slots + 6 ≤ R.slots) (hlocks : meth.locks = false)
    (hx : ∀ t : State, s.vm.Alike t.vm → H.size ≤ t.heap.size → (∀ q : Nat, q < H.size → t.heap[q]? = H[q]?) → XC cls s t)
    (hf : ∀ z ∈ locs, free z.base) (hc : cells + 1 ≤ mc) (hs : slots + 6 ≤ ms) :
    W p l e R s m args below meth c H locs cells slots (vx_MQ below Qc XC args s mc ms free) (F0 m pc ls rest) := by
  intro T hT X
  have htr : e.platform.stackTraces = false := (show e.platform.stackTraces = l.stackTraces by rw [X.admits.platform]).trans hl
  have Y := vx_rebase X (R' := { frames := R.frames, locals := R.locals, cells := 1, slots := 6 }) (Nat.le_refl _) (Nat.le_refl _) hRcells hRslots
  obtain ⟨s', hA⟩ : ∃ z, z = (T.setVm s.vm).setFrames (.invoking m args :: below) := ⟨_, rfl⟩
  rw [← hA] at Y
  have hvm : s'.vm = s.vm := by rw [hA]; rfl
  have hhp : s'.heap = H := by rw [hA]; exact hT
  have hW0 : s.WarmedH s'.vm := by rw [hvm]; exact State.WarmedH.refl s
  have hat' : ∀ w ∈ vx_atS own ic cls names, w.before args s' = true := fun w hw => vx_ot_at hW0 hvm.symm (hgood w (List.mem_cons_of_mem _ (List.mem_cons_of_mem _ hw))) (hat w hw)
  have hk' : (Cond.classLink own ik cls).before args s' = true := vx_ot_at hW0 hvm.symm (hgood _ List.mem_cons_self) hk
  have hini' : (Cond.initialized cls).before args s' = true := vx_ot_at hW0 hvm.symm (hgood _ (List.mem_cons_of_mem _ List.mem_cons_self)) hini
  have hU' : vx_Zq Bundle.tN "UNASSIGNED_STACK" Bundle.steD A s' s'.heap := by rw [hhp]; exact vx_Zq.moved hW0.alike (hU.kept hS.2.1)
  have hN' : vx_Zq Bundle.tN "SUPPRESSED_SENTINEL" Bundle.listD A s' s'.heap := by rw [hhp]; exact vx_Zq.moved hW0.alike (hN.kept hS.2.1)
  have h : ∀ w ∈ Bundle.ownAtoms own ic cls names, w.before args s' = true := vx_own hat' (vx_isRefq hU'.1) (vx_isRefq hN'.1) hU'.2.word hN'.2.word
  have hown' : s'.vm.findClass own = some m.cls := by rw [hvm]; exact hown
  have hins : (Cond.instantiable cls 6).before args s' = true := h _ (by simp [Bundle.ownAtoms])
  obtain ⟨vm₁, cX, kX, hfX, hkX, -, -, X₁, st1⟩ := Y.newCold hexec (own := own) (C := cls) (index := ik) (n := 6) hown' hk' hins hini'
    (g := F0 m pc ls rest) rfl (by rw [hb]; exact d0) (Nat.le_refl _) (Nat.le_refl _)
  generalize hT1 : (T.setVm vm₁).pushCell { cls := cX, slots := kX.instanceTypes.map defaultValue, vm := .none } = T1 at X₁ st1
  have hcat : (Value.ref T.heap.size).category = 1 := rfl
  have hcellA : T1.heap[T.heap.size]? = some (freshCell cX kX) := by rw [← hT1]; exact State.heap_pushCell_size _ _
  have d3' : decode c.code (pc + 3) = .ok (.dup, 1) := by rw [hb]; exact d3
  have d4' : decode c.code (pc + 4) = .ok (.ldc_w is, 3) := by rw [hb]; exact d4
  have hstr' : vk_R own is text sa s' := vk_R.warm hW0 hstr
  obtain ⟨U, hsteps, hrun, hend, hW, hsame, ce, hce, hO⟩ := X₁.ctorThrowS hexec htr (own := own) (cls := cls) (names := names) (ic := ic) hown' hcls hnames h (fun x hx => nomatch hx) hfX hkX hcellA (by rw [hhp, hT]; exact Nat.le_refl _) (msg := .ref sa) rfl
    (g := { method := m, pc := pc + 7, locals := ls, stack := .ref sa :: .ref T.heap.size :: .ref T.heap.size :: rest, locked := none }) rfl hsize rfl rfl (rest := rest) rfl
    (by rw [hb]; exact d7) (by rw [hb]; exact d10) hout hRframes (by simp only [List.map_cons, List.sum_cons, hcat]; omega) hlocks
  obtain ⟨f1, f2⟩ := vx_frame hsame
  rw [hhp] at f1 f2
  have hWs : s.WarmedH U.vm := State.WarmedH.trans hW0 hW
  have hcl : s.vm.findClass cls = some ce.cls := by
    have h9 := hO.cls
    rw [hvm] at h9
    exact h9
  have hall : s.sameButNew ({ U with vm := s.vm } : State) locs mc ms := by
    subst hA
    obtain ⟨e1, e2⟩ := hsame
    rw [State.setFrames_setFrames] at e1
    have h2 : (T.setVm s.vm).sameButNew ({ U with vm := s.vm } : State) [] (0 + 1) (0 + 6) := ⟨e1, e2⟩
    have h3 := X.same.trans h2
    rw [List.append_nil] at h3
    exact h3.mono hc hs
  refine ⟨U, ?_, .threw T.heap.size, hrun, hend, Or.inr ⟨T.heap.size, rfl, cls, ce, locs, hx U hWs.alike f1 (fun q hq => f2 q hq (fun z hz => nomatch hz)), hce, hO.vm, hcl, hWs, hall, hf⟩⟩
  refine st1 _ ?_
  show Steps p.tables e below (T1.setTop { method := m, pc := pc + 3, locals := ls, stack := .ref T.heap.size :: rest, locked := none }) _
  jvm_step X₁.here [X₁.here.top, hexec, d3', Value.category]
  exact X₁.ldcStringW hexec (own := own) (text := text) (index := is) (a := sa) hown' hstr'.1 hstr'.2
    (g := { method := m, pc := pc + 4, locals := ls, stack := .ref T.heap.size :: .ref T.heap.size :: rest, locked := none }) rfl d4' _ hsteps
end Ends
section Bodies
variable {l : Launch}
theorem vx_ofW {y : MethodName} {ws ws' : List Cond} {rm : Room} {Pc : Array Value → State → Prop} {Qc : Array Value → State → Outcome → State → Prop} {XC : String → State → State → Prop} {mc ms : Nat} {free : Addr → Prop} {cc : ByteArray} {maxL : Nat} {ret : Option FieldType}
    (hy : plainName y.cls = true) (hw : ws = Cond.code y cc maxL ret :: ws')
    (body : ∀ p e s m args below meth c s₁, BodyLoose p l y (headSpec ws rm) cc maxL ret e s m args below meth c s₁ → c.maxLocals = maxL → (∀ x ∈ c.exceptionTable.toList, False) → Pc args s →
      W p l e (headSpec ws rm).room s m args below meth c s.heap [] 0 0 (vx_MQ below Qc XC args s mc ms free) (entryFrame m args maxL)) : vx_Met l y ws rm Pc Qc XC mc ms free := by
  refine MetFree.of_bodyS (code := cc) (maxLocals := maxL) (ret := ret) hy ?_ ?_
  · intro args s m h hn
    obtain ⟨meth, c, h1, h2, h3, h4, h5, h6, -, -⟩ := Cond.code_spec hn (atoms_spec (ws := ws) h _ (by rw [hw]; exact List.mem_cons_self))
    exact ⟨meth, c, h1, h2, h3, h4, h5, h6⟩
  · intro p e s m args below meth c s₁ B hml hP _
    have hh0 : s₁.heap = s.heap := by rw [B.state]; rfl
    have ht : ∀ x ∈ c.exceptionTable.toList, False := by
      obtain ⟨meth9, c9, h1, h2, -, -, -, -, h7, -⟩ := Cond.code_spec B.named (atoms_spec (ws := ws) B.pre _ (by rw [hw]; exact List.mem_cons_self))
      cases Option.some.inj (h1.symm.trans B.method)
      cases Option.some.inj (h2.symm.trans (Stand.of_body B).code)
      intro x hx
      rw [Array.isEmpty_iff.mp h7] at hx
      cases hx
    obtain ⟨t, a1, o, b1, b2, b3⟩ := body p e s m args below meth c s₁ B hml ht hP s₁ hh0 (Stand.of_body B)
    exact ⟨t, o, a1, b1, b2, b3⟩
/-- the table of a body with handlers -/
theorem vx_table {p : Program} {x y : MethodName} {S : Spec} {cc bytes : ByteArray} {maxL maxL' : Nat} {ret ret' : Option FieldType} {e : Env} {s s₁ : State} {m : MethodId} {args : Array Value} {below : List Frame} {meth : Method} {c : Code} {hh : List (Nat × Nat × Nat × Nat)}
    (B : BodyLoose p l y S cc maxL ret e s m args below meth c s₁) (h : (Cond.codeWith y bytes maxL' ret' hh).before args s = true) : c.exceptionTable.toList = tableOf hh := by
  obtain ⟨m9, meth9, c9, hn9, h1, h2, -, -, h6, -⟩ := Cond.codeWith_spec h
  cases Option.some.inj (hn9.symm.trans B.named)
  cases Option.some.inj (h1.symm.trans B.method)
  cases Option.some.inj (h2.symm.trans (Stand.of_body B).code)
  rw [← h6, table_eq]
end Bodies
end VXA
/-! ===== END ===== -/
/-! ===== BEGIN a static call of a method with an exception table ===== -/
section VXS
variable {p : Program} {l : Launch} {e : Env} {R : Room} {s : State} {m : MethodId} {args : Array Value} {below : List Frame} {meth : Method} {c : Code} {T : State} {H : Heap} {locs : List Loc} {cells slots : Nat}
abbrev vx_CSW (R : Room) (s : State) (args : Array Value) (own : String) (index : Nat) (y : MethodName) (bytes : ByteArray) (maxL : Nat) (ret : Option FieldType) (hh : List (Nat × Nat × Nat × Nat)) (ws : List Cond) (rm : Room) (mc ms n : Nat) : Prop :=
  (rm.cells = mc ∧ rm.slots = ms ∧ rm.frames + 1 ≤ R.frames ∧ 8 + (maxL + 11) + rm.locals ≤ R.locals ∧ (∀ w ∈ ws, ∀ (a' : Array Value) (U : State), s.WarmedH U.vm → w.before a' U = true) ∧ Cond.codeWith y bytes maxL ret hh ∈ ws) ∧
  (Cond.codeWith y bytes maxL ret hh).before args s = true ∧ (Cond.initialized y.cls).before args s = true ∧ (y.cls ≠ "java/lang/invoke/MethodHandle" ∧ y.cls ≠ "java/lang/invoke/VarHandle") ∧
  (∀ sig, parseMethodDescriptor y.desc = some sig → n = sig.parameters.length) ∧ (Cond.methodLink own index y).before args s = true ∧ (Cond.static y).before args s = true
theorem vx_cwSW {own : String} {index maxL mc ms : Nat} {y : MethodName} {bytes : ByteArray} {ret : Option FieldType} {hh : List (Nat × Nat × Nat × Nat)} {Ts ws ws' : List Cond} {rm : Room} (n : Nat) (ht : ∀ w ∈ Ts, w.before args s = true) (hT : GoodIn Ts (va_wsS own index y ws)) (hw : ws = Cond.codeWith y bytes maxL ret hh :: ws') (hrc : rm.cells = mc) (hrs : rm.slots = ms)
    (hd : y.cls ≠ "java/lang/invoke/MethodHandle" ∧ y.cls ≠ "java/lang/invoke/VarHandle" ∧ (parseMethodDescriptor y.desc).map (fun d => d.parameters.length) = some n) (hR : rm.frames + 1 ≤ R.frames ∧ 8 + (maxL + 11) + rm.locals ≤ R.locals) :
    vx_CSW R s args own index y bytes maxL ret hh ws rm mc ms n := by
  have ok : ∀ w ∈ va_wsS own index y ws, w.before args s = true := fun w h => ht w (hT w h).1
  have hG : GoodIn Ts ws := fun w h => hT w (by unfold va_wsS; exact List.mem_append_right _ h)
  have hc : Cond.codeWith y bytes maxL ret hh ∈ ws := by rw [hw]; exact List.mem_cons_self
  refine ⟨⟨hrc, hrs, hR.1, hR.2, pay_in ht hG, hc⟩, ht _ (hG _ hc).1, ok _ (by simp [va_wsS]), ⟨hd.1, hd.2.1⟩, fun sig h => ?_, ok _ (by simp [va_wsS]), ok _ (by simp [va_wsS])⟩
  have h2 := hd.2.2
  rw [h] at h2
  exact (Option.some.inj h2).symm
theorem vx_callSW (X : Stand p l e R s m args below meth c T locs cells slots) (hexec : p.tables.exec = Jvm.exec) {own : String} {index : Nat} {y : MethodName} {bytes : ByteArray} {maxL : Nat} {ret : Option FieldType} {hh : List (Nat × Nat × Nat × Nat)}
    (hown : s.vm.findClass own = some m.cls) (hlink : (Cond.methodLink own index y).before args s = true) (hstat : (Cond.static y).before args s = true) (hinit : (Cond.initialized y.cls).before args s = true)
    (hcode : (Cond.codeWith y bytes maxL ret hh).before args s = true) (hy : y.cls ≠ "java/lang/invoke/MethodHandle" ∧ y.cls ≠ "java/lang/invoke/VarHandle")
    {W9 : Nat} {Pre : Pt → Array Value → Prop} {Post : Pt → Array Value → Option Value → Pt → Prop} (hK : Back l R p e below s args y 3 W9 Pre Post)
    {g : JFrame} (hg : g.method = m) (hsize : g.locals.size = c.maxLocals) {argsL rest : List Value} (hlen : ∀ sig, parseMethodDescriptor y.desc = some sig → argsL.length = sig.parameters.length)
    (hstack : g.stack = argsL.reverse ++ rest) (hW : 2 * g.monitorRoom + (rest.map fun v => v.category).sum ≤ W9) (hdg : decode c.code g.pc = .ok (.invokestatic index, 3))
    (hpre : ∀ vm₁, s.WarmedH vm₁ → Pre ⟨T.setVm vm₁, locs, cells, slots⟩ argsL.toArray) :
    ∃ (v : Option Value) (vm₁ : Vm) (B : Pt), s.WarmedH vm₁ ∧ Stand p l e R s m args below meth c B.U B.locs B.cells B.slots ∧ Post ⟨T.setVm vm₁, locs, cells, slots⟩ argsL.toArray v B ∧
      ∀ target, Steps p.tables e below (B.U.setTop { g with pc := g.pc + 3, stack := v.toList ++ rest }) target → Steps p.tables e below (T.setTop g) target := by
  obtain ⟨mk, methM, cM, hnamed, hmethM, -, -, -, -, -, -, hsigM⟩ := Cond.codeWith_spec hcode
  have hstatic : methM.isStatic = true := Cond.static_spec hnamed hmethM hstat
  obtain ⟨kP, hkP, -⟩ := className_of_methodNamed hnamed
  have hinitP : kP.init = .initialized := Cond.initialized_spec (findClass_of_methodNamed hnamed) hkP hinit
  obtain ⟨vm₁, X₁, hstep₁⟩ := X.invokestatic hexec hown hlink hnamed hmethM hstatic hkP hinitP hy (g := g) hg (argsL := argsL) (rest := rest) (hlen _ hsigM) hstack hdg
  obtain ⟨v, B, X', hpost, hsteps⟩ := hK m meth c ⟨T.setVm vm₁, locs, cells, slots⟩ { g with stack := rest } (.invokestatic index) mk argsL.toArray X₁ hg hsize hdg hW (X₁.named hnamed) (hpre vm₁ X₁.warmed)
  exact ⟨v, vm₁, B, X₁.warmed, X', hpost, fun target h => hstep₁ _ fun acts => by rw [doInvoke_state]; exact hsteps.trans h⟩
theorem vx_runSW {y : MethodName} {bytes cc : ByteArray} {maxL nL mc ms n index : Nat} {ret : Option FieldType} {hh : List (Nat × Nat × Nat × Nat)} {ws : List Cond} {rm : Room} {Pc : Array Value → State → Prop} {Qc : Array Value → State → Outcome → State → Prop} {free : Addr → Prop} {Ts : List Cond} {own : String} {As rest : List Value} {g : JFrame}
    (S : CallFix p m c cc nL s args Ts own) (hM : Met l y ws rm Pc Qc mc ms free) (cw : vx_CSW R s args own index y bytes maxL ret hh ws rm mc ms n) (hp : PreS s H Pc As)
    (hg : g.method = m) (hn : As.length = n) (hsize : g.locals.size = nL) (hstack : g.stack = As.reverse ++ rest) (hW : 2 * g.monitorRoom + (rest.map fun v => v.category).sum ≤ 8) (hdg : decode cc g.pc = .ok (.invokestatic index, 3)) (hf : cells + mc ≤ R.cells ∧ slots + ms ≤ R.slots) :
    va_Run p l e R s m args below meth c H locs cells slots mc ms g rest (Qc As.toArray) (free) := by
  obtain ⟨⟨hrc, hrs, hfr, hlo, hws, hcw⟩, hcode, hini, hy, hlen, hl, hstt⟩ := cw
  have hK : Back l R p e below s args y 3 8 (PreOf R mc ms Pc) (PostOf Qc mc ms free) := va_backW (hh := hh) (bytes := bytes) (maxL := maxL) (ret := ret) hM hp.1 hrc hrs hfr hlo hws hcw (fun a' U hW => word_at hW (Or.inl (by first | rfl | simp [Cond.onTables, Cond.keeps, Cond.steady])) hini)
  obtain ⟨hx, hb, hml, ho, -⟩ := S
  intro T hT X
  obtain ⟨v, vm₁, ⟨U', l2, c2, s2⟩, hW₁, X', ⟨g', mk, t, L, e1, e2, hq, h1, hL, h2, h3⟩, st⟩ := vx_callSW X hx (hh := hh) (bytes := bytes) (maxL := maxL) (ret := ret) ho hl hstt hini hcode hy hK hg (hsize.trans hml.symm) (argsL := As) (rest := rest) (fun sig h => hn.trans (hlen sig h)) hstack hW (by rw [hb]; exact hdg)
    (fun vm₁ hW₁ => ⟨hf.1, hf.2, hp.2 (T.setVm vm₁) hT hW₁⟩)
  dsimp only [Pt.U, Pt.locs, Pt.cells, Pt.slots] at X' e1 e2 h1 h2 h3 st
  subst h1; subst h2; subst h3
  exact ⟨v, (T.setVm vm₁).calling g' mk As.toArray, t, U', L, hT, X', hL, e1, e2, hq, st⟩
/-- not caught here, past rows that name other classes: it goes on to the caller -/
theorem vx_outP {p : Program} {l : Launch} {e : Env} {R : Room} {s : State} {m : MethodId} {args : Array Value} {below : List Frame} {meth : Method} {c : Code} {H : Heap} {locs : List Loc} {cells slots : Nat} {free : Addr → Prop} {ls : Array Slot} {rest : List Value} {Qc : Array Value → State → Outcome → State → Prop} {XC : String → State → State → Prop}
    {pc : Nat} {own E : String} {ce : Cell} {q : Addr} {mc ms : Nat} (hown : s.vm.findClass own = some m.cls) (hlocks : meth.locks = false)
    (hpass : ∀ z ∈ c.exceptionTable.toList, covers z pc = false ∨ (z.catchType ≠ 0 ∧ ∃ nm : String, (Cond.classLink own z.catchType nm).before args s = true ∧ va_Nc E nm s)) (hcell : H[q]? = some ce) (hv : ce.vm = .none) (hcl : s.vm.findClass E = some ce.cls)
    (hx : ∀ t : State, t.heap = H → s.vm.Alike t.vm → XC E s t) (hf : ∀ z ∈ locs, free z.base) (hc : cells ≤ mc) (hs : slots ≤ ms) :
    vx_W p l e R s m args below meth c H locs cells slots (vx_MQ below Qc XC args s mc ms free) (F0 m pc ls rest) q := by
  intro T hT X
  have hpl : e.platform.magicAccessors = ({} : Platform).magicAccessors := by rw [X.admits.platform]
  obtain ⟨vm', hW', X', st⟩ := X.outThrough hlocks q (g := F0 m pc ls rest) rfl rfl rfl (cell := ce) (by rw [hT]; exact hcell) (by rw [hv]; rfl)
    (by obtain ⟨k9, h9, -⟩ := Vm.findClass_spec hcl; exact ⟨k9, h9⟩) (fun z hz => by
      rcases hpass z hz with h | ⟨hz0, nm, hl1, hn1⟩
      · exact Or.inl h
      · obtain ⟨c6, hc6, hcl6⟩ := Cond.classLink_spec hown hl1 e.platform hpl
        obtain ⟨a8, b8, h1, h2, h3⟩ := hn1
        cases Option.some.inj (h1.symm.trans hcl)
        cases Option.some.inj (h2.symm.trans hc6)
        exact Or.inr ⟨hz0, _, hcl6, h3⟩)
  obtain ⟨g₀, hfr⟩ := X'.frames_eq
  have hcell9 : ((T.setVm vm').setFrames (.throwing q :: below)).heap[q]? = some ce := by
    show T.heap[q]? = some ce
    rw [hT]; exact hcell
  have hend : Ended ((T.setVm vm').setFrames (.throwing q :: below)) below (.threw q) := State.frames_setFrames _ (State.cur_lt_of_frames hfr)
  refine ⟨(T.setVm vm').setFrames (.throwing q :: below), ?_, .threw q, X'.here.running, hend, Or.inr ⟨q, rfl, E, ce, locs, hx _ hT (X'.ends _).1.alike, hcell9, hv, hcl, (X'.ends _).1, (X'.ends _).2.mono hc hs, hf⟩⟩
  rw [X.pushThrowing_eq]
  exact st
/-- a thing of a world lies in the heap -/
theorem vx_lt {D : va_G} {cl : List vw_C} {ws : va_W} {H1 : Heap} (h : va_P D cl ws H1) {k : Nat} {q : Nat × va_E} (hk : ws[k]? = some q) : q.1 < H1.size := (h k q hk).lt
end VXS
/-! ===== END ===== -/
/-! ===== BEGIN methods with a table of their own: called by a name, returning or throwing ===== -/
section VXH
/-! vx_backW, vx_callVX, vx_callSX, vx_callVW, vx_runVW, vx_runVX, vx_runSX, vx_ofWH follow the same proofs as their sisters above (Free/Laws.lean, Shelf42/LK1.lean); vx_outP calls Shelf42/NT130.lean (outThrough). -/
section
variable {l : Launch} {R : Room} {p : Program} {e : Env} {below : List Frame} {s : State} {sargs : Array Value} {y : MethodName} {len W9 : Nat}
theorem vx_backW {ws : List Cond} {rm : Room} {Pc : Array Value → State → Prop} {Qc : Array Value → State → Outcome → State → Prop} {XC : String → State → State → Prop} {mc ms : Nat} {free : Addr → Prop} {bytes : ByteArray} {maxL : Nat} {ret : Option FieldType} {hh : List (Nat × Nat × Nat × Nat)}
    (hM : vx_Met l y ws rm Pc Qc XC mc ms free) (hblind : FrameBlind Pc) (hrc : rm.cells = mc) (hrs : rm.slots = ms)
    (hframes : rm.frames + 1 ≤ R.frames) (hlocals : W9 + (maxL + 11) + rm.locals ≤ R.locals)
    (hws : ∀ w ∈ ws, ∀ a' U, s.WarmedH U.vm → w.before a' U = true) (hcode : Cond.codeWith y bytes maxL ret hh ∈ ws) (hinit : ∀ a' U, s.WarmedH U.vm → (Cond.initialized y.cls).before a' U = true) :
    vx_Back l R p e below s sargs y len W9 (PreOf R mc ms Pc) (PostOf Qc mc ms free) (vx_Post XC mc ms free) := by
  intro m meth c A g ig mk a X hg hsize hdg hW hn hp
  have h1 : (headSpec ws rm).pre.before a A.U = true := atoms_intro fun w hw => hws w hw _ _ X.warmed
  have h2 : (Cond.codeWith y bytes maxL ret hh).before a A.U = true := hws _ hcode _ _ X.warmed
  have h3 : (Cond.initialized y.cls).before a A.U = true := hinit _ _ X.warmed
  have h4 : A.cells + (headSpec ws rm).room.cells ≤ R.cells := by rw [show (headSpec ws rm).room.cells = mc from hrc]; exact hp.1
  have h5 : A.slots + (headSpec ws rm).room.slots ≤ R.slots := by rw [show (headSpec ws rm).room.slots = ms from hrs]; exact hp.2.1
  have hPc : Pc a (A.U.calling g mk a) := hblind _ _ _ _ hp.2.2
  obtain ⟨U, Ls, c0, s0⟩ := A
  dsimp only [Pt.U, Pt.locs, Pt.cells, Pt.slots] at h1 h2 h3 h4 h5 X hn hPc ⊢
  obtain ⟨m9, methY, cY, hn9, hmY, hcY, -, hlY, -⟩ := Cond.codeWith_spec h2
  cases Option.some.inj (hn9.symm.trans hn)
  obtain ⟨kY, hkY, -⟩ := className_of_methodNamed hn
  have hinitY : kY.init = .initialized := Cond.initialized_spec (findClass_of_methodNamed hn) hkY h3
  have h : At U g.method c below := by rw [hg]; exact X.here
  have hlocals9 : W9 + (maxL + 11) + (headSpec ws rm).room.locals ≤ R.locals := hlocals
  have happ : (headSpec ws rm).appliesLoose y e.platform (U.calling g mk a) = true :=
    Spec.appliesLoose_calling (g := g) h hdg hn hkY hinitY
      (X.room_calling (g := g) (R' := (headSpec ws rm).room) hsize hmY hcY hframes (by rw [hlY]; omega) h4 h5) h1
  obtain ⟨mid, hmid⟩ := h.above
  have hfr : (U.setTop g).frames = (.java g :: mid) ++ below := by rw [State.frames_setTop' g h.top, hmid]; rfl
  obtain ⟨o, s₂, hsteps, -, hend, hq⟩ := Steps.callFree hM p X.admits X.cas X.clock (acts := []) hfr happ hPc trivial
  have hq' : vx_Q Qc XC mc ms free a (U.calling g mk a) o s₂ := hq
  rw [State.frames_setTop' g h.top] at hend
  obtain ⟨g₀, hg0⟩ := Option.isSome_iff_exists.mp h.top
  obtain ⟨r, hr⟩ := State.topJava?_eq_some.mp hg0
  have hr' : (({ U with heap := s₂.heap, slotsUsed := s₂.slotsUsed } : State).setVm s₂.vm).frames = .java g₀ :: r := hr
  rcases hq' with ⟨hqc, L, hfe, hL⟩ | ⟨q, rfl, E, ce, L, hx, hce, hcv, hcl, hW₂, hsm, hL⟩
  · obtain ⟨⟨v, rfl⟩, hW₂, e2, q2, q3, q4, q5, q6⟩ := id hfe
    have e3 : s₂ = ({ (U.calling g mk a).setFrames s₂.frames with heap := s₂.heap, slotsUsed := s₂.slotsUsed } : State).setVm s₂.vm := by
      have : s₂ = ({ s₂ with vm := (U.calling g mk a).vm } : State).setVm s₂.vm := rfl
      rw [e2] at this
      exact this
    obtain ⟨c₂, i₂, len₂, hc₂, hd₂, hf₂⟩ := hend
    have hW' : U.WarmedH s₂.vm := hW₂
    have hcc : c₂ = c := by
      have h1 : s₂.code? g.method = U.code? g.method := by
        rw [State.code?_eq, State.code?_eq, hW'.alike.method?]
      exact Option.some.inj (hc₂.symm.trans (h1.trans h.code))
    subst hcc
    have hlen : len₂ = len := by rw [hdg] at hd₂; cases hd₂; rfl
    subst hlen
    have hs₂ : s₂ = (({ U with heap := s₂.heap, slotsUsed := s₂.slotsUsed } : State).setVm s₂.vm).setTop { g with pc := g.pc + len₂, stack := v.toList ++ g.stack } := by
      refine e3.trans ?_
      rw [hf₂, State.calling_eq h.top, State.setFrames_setFrames, State.setTop_of_frames _ hr', hr]
      rfl
    have hsame : U.sameButNew ({ U with heap := s₂.heap, slotsUsed := s₂.slotsUsed } : State) L mc ms := by
      refine ⟨?_, q2, q3, q4, q5, q6⟩
      obtain ⟨t, ht, -⟩ := State.frames_cons hr
      show ({ U with heap := s₂.heap, slotsUsed := s₂.slotsUsed } : State) = { U.setFrames U.frames with heap := s₂.heap, slotsUsed := s₂.slotsUsed }
      rw [State.setFrames_self ht]
    subst hg
    refine Or.inl ⟨v, ⟨(({ U with heap := s₂.heap, slotsUsed := s₂.slotsUsed } : State).setVm s₂.vm), Ls ++ L, c0 + mc, s0 + ms⟩,
      ⟨X.admits, X.cas, X.clock, X.frames, X.room, X.hears, X.method, X.code, (X.here.setHeapUsed s₂.heap s₂.slotsUsed).setVm hW'.alike, X.tail, State.WarmedH.trans X.warmed hW', X.limits, X.bytes, X.same.trans (hsame.setVm s.vm)⟩,
      ⟨g, mk, s₂, L, rfl, rfl, hqc, rfl, hL, rfl, rfl⟩, ?_⟩
    show Steps p.tables e below _ ((({ U with heap := s₂.heap, slotsUsed := s₂.slotsUsed } : State).setVm s₂.vm).setTop { g with pc := g.pc + len₂, stack := v.toList ++ g.stack })
    rw [← hs₂]
    exact hsteps
  · obtain ⟨e2, q2, q3, q4, q5, q6⟩ := id hsm
    have e3 : s₂ = ({ (U.calling g mk a).setFrames s₂.frames with heap := s₂.heap, slotsUsed := s₂.slotsUsed } : State).setVm s₂.vm := by
      have : s₂ = ({ s₂ with vm := (U.calling g mk a).vm } : State).setVm s₂.vm := rfl
      rw [e2] at this
      exact this
    have hf₂ : s₂.frames = .throwing q :: .java g :: U.frames.tail := hend
    have hW' : U.WarmedH s₂.vm := hW₂
    have hs₂ : s₂ = ((({ U with heap := s₂.heap, slotsUsed := s₂.slotsUsed } : State).setVm s₂.vm).setTop g).pushFrame (.throwing q) := by
      refine e3.trans ?_
      rw [hf₂, State.calling_eq h.top, State.setFrames_setFrames, State.pushFrame, State.frames_setTop _ hr', State.setTop_of_frames _ hr', State.setFrames_setFrames, hr]
      rfl
    have hsame : U.sameButNew ({ U with heap := s₂.heap, slotsUsed := s₂.slotsUsed } : State) L mc ms := by
      refine ⟨?_, q2, q3, q4, q5, q6⟩
      obtain ⟨t, ht, -⟩ := State.frames_cons hr
      show ({ U with heap := s₂.heap, slotsUsed := s₂.slotsUsed } : State) = { U.setFrames U.frames with heap := s₂.heap, slotsUsed := s₂.slotsUsed }
      rw [State.setFrames_self ht]
    subst hg
    refine Or.inr ⟨q, ⟨(({ U with heap := s₂.heap, slotsUsed := s₂.slotsUsed } : State).setVm s₂.vm), Ls ++ L, c0 + mc, s0 + ms⟩,
      ⟨X.admits, X.cas, X.clock, X.frames, X.room, X.hears, X.method, X.code, (X.here.setHeapUsed s₂.heap s₂.slotsUsed).setVm hW'.alike, X.tail, State.WarmedH.trans X.warmed hW', X.limits, X.bytes, X.same.trans (hsame.setVm s.vm)⟩,
      ⟨g, mk, s₂, L, E, ce, rfl, rfl, hx, hce, hcv, hcl, rfl, hL, rfl, rfl⟩, ?_⟩
    show Steps p.tables e below _ (((({ U with heap := s₂.heap, slotsUsed := s₂.slotsUsed } : State).setVm s₂.vm).setTop g).pushFrame (.throwing q))
    rw [← hs₂]
    exact hsteps
end
variable {p : Program} {l : Launch} {e : Env} {R : Room} {s : State} {m : MethodId} {args : Array Value} {below : List Frame} {meth : Method} {c : Code} {T : State} {H : Heap} {locs : List Loc} {cells slots : Nat}
theorem vx_callVX (X : Stand p l e R s m args below meth c T locs cells slots) (hexec : p.tables.exec = Jvm.exec) {own C : String} {index : Nat} {y : MethodName} {bytes : ByteArray} {maxL : Nat} {ret : Option FieldType} {hh : List (Nat × Nat × Nat × Nat)}
    (hown : s.vm.findClass own = some m.cls) (hlink : (Cond.methodLink own index y).before args s = true) (hinst : (Cond.instanceMethod y).before args s = true) (hsel : (Cond.selects C y y).before args s = true)
    (hcode : (Cond.codeWith y bytes maxL ret hh).before args s = true) (hy : y.cls ≠ "java/lang/invoke/MethodHandle" ∧ y.cls ≠ "java/lang/invoke/VarHandle")
    {W9 : Nat} {Pre : Pt → Array Value → Prop} {Post : Pt → Array Value → Option Value → Pt → Prop} {PostX : Pt → Array Value → Addr → Pt → Prop} (hK : vx_Back l R p e below s args y 3 W9 Pre Post PostX)
    {b : Addr} {cellB : Cell} (hcell : T.heap[b]? = some cellB) (hobj : cellB.vm.isStatics = false) (hcls : s.vm.findClass C = some cellB.cls)
    {g : JFrame} (hg : g.method = m) (hsize : g.locals.size = c.maxLocals) {argsL rest : List Value} (hlen : ∀ sig, parseMethodDescriptor y.desc = some sig → argsL.length = sig.parameters.length)
    (hstack : g.stack = argsL.reverse ++ .ref b :: rest) (hW : 2 * g.monitorRoom + (rest.map fun v => v.category).sum ≤ W9) (hdg : decode c.code g.pc = .ok (.invokevirtual index, 3))
    (hpre : ∀ vm₁, s.WarmedH vm₁ → Pre ⟨T.setVm vm₁, locs, cells, slots⟩ (Value.ref b :: argsL).toArray) :
    (∃ (v : Option Value) (vm₁ : Vm) (B : Pt), s.WarmedH vm₁ ∧ Stand p l e R s m args below meth c B.U B.locs B.cells B.slots ∧ Post ⟨T.setVm vm₁, locs, cells, slots⟩ (Value.ref b :: argsL).toArray v B ∧
      ∀ target, Steps p.tables e below (B.U.setTop { g with pc := g.pc + 3, stack := v.toList ++ rest }) target → Steps p.tables e below (T.setTop g) target) ∨
    (∃ (q : Addr) (vm₁ : Vm) (B : Pt), s.WarmedH vm₁ ∧ Stand p l e R s m args below meth c B.U B.locs B.cells B.slots ∧ PostX ⟨T.setVm vm₁, locs, cells, slots⟩ (Value.ref b :: argsL).toArray q B ∧
      Steps p.tables e below (T.setTop g) ((B.U.setTop { g with stack := rest }).pushFrame (.throwing q))) := by
  obtain ⟨mk, methM, hnamed, hmethM, hstM, habM⟩ := Cond.instanceMethod_spec hinst
  obtain ⟨m8, methM', cM, hn8, hmethM', -, -, -, -, -, -, hsigM⟩ := Cond.codeWith_spec hcode
  cases Option.some.inj (hn8.symm.trans hnamed)
  cases hmethM.symm.trans hmethM'
  obtain ⟨c2, r2, m2, q1, q2, q3, q4, kP, hkP, hkPi⟩ := Cond.selects_spec hsel
  cases hcls.symm.trans q1
  cases (State.methodFound?_of_named hnamed hy).symm.trans q2
  cases hnamed.symm.trans q3
  have hselP : selectMethod e.platform s.vm cellB.cls mk = .method mk := by rw [Launch.admits_selectMethod X.admits]; exact q4
  obtain ⟨vm₁, X₁, hstep₁⟩ := X.invokevirtual hexec hown hlink hnamed hmethM hstM hkP hkPi hy (a := b) (cell := cellB) hcell
    (fun z h => by rw [h] at hobj; cases hobj) hselP hmethM habM hkP hkPi (g := g) hg (argsL := argsL) (rest := rest) (hlen _ hsigM) hstack hdg
  rcases hK m meth c ⟨T.setVm vm₁, locs, cells, slots⟩ { g with stack := rest } (.invokevirtual index) mk (Value.ref b :: argsL).toArray X₁ hg hsize hdg hW (X₁.named hnamed) (hpre vm₁ X₁.warmed) with ⟨v, B, X', hpost, hsteps⟩ | ⟨q, B, X', hpost, hsteps⟩
  · exact Or.inl ⟨v, vm₁, B, X₁.warmed, X', hpost, fun target h => hstep₁ _ fun acts => by rw [doInvoke_state]; exact hsteps.trans h⟩
  · exact Or.inr ⟨q, vm₁, B, X₁.warmed, X', hpost, hstep₁ _ fun acts => by rw [doInvoke_state]; exact hsteps⟩
theorem vx_callSX (X : Stand p l e R s m args below meth c T locs cells slots) (hexec : p.tables.exec = Jvm.exec) {own : String} {index : Nat} {y : MethodName} {bytes : ByteArray} {maxL : Nat} {ret : Option FieldType} {hh : List (Nat × Nat × Nat × Nat)}
    (hown : s.vm.findClass own = some m.cls) (hlink : (Cond.methodLink own index y).before args s = true) (hstat : (Cond.static y).before args s = true) (hinit : (Cond.initialized y.cls).before args s = true)
    (hcode : (Cond.codeWith y bytes maxL ret hh).before args s = true) (hy : y.cls ≠ "java/lang/invoke/MethodHandle" ∧ y.cls ≠ "java/lang/invoke/VarHandle")
    {W9 : Nat} {Pre : Pt → Array Value → Prop} {Post : Pt → Array Value → Option Value → Pt → Prop} {PostX : Pt → Array Value → Addr → Pt → Prop} (hK : vx_Back l R p e below s args y 3 W9 Pre Post PostX)
    {g : JFrame} (hg : g.method = m) (hsize : g.locals.size = c.maxLocals) {argsL rest : List Value} (hlen : ∀ sig, parseMethodDescriptor y.desc = some sig → argsL.length = sig.parameters.length)
    (hstack : g.stack = argsL.reverse ++ rest) (hW : 2 * g.monitorRoom + (rest.map fun v => v.category).sum ≤ W9) (hdg : decode c.code g.pc = .ok (.invokestatic index, 3))
    (hpre : ∀ vm₁, s.WarmedH vm₁ → Pre ⟨T.setVm vm₁, locs, cells, slots⟩ argsL.toArray) :
    (∃ (v : Option Value) (vm₁ : Vm) (B : Pt), s.WarmedH vm₁ ∧ Stand p l e R s m args below meth c B.U B.locs B.cells B.slots ∧ Post ⟨T.setVm vm₁, locs, cells, slots⟩ argsL.toArray v B ∧
      ∀ target, Steps p.tables e below (B.U.setTop { g with pc := g.pc + 3, stack := v.toList ++ rest }) target → Steps p.tables e below (T.setTop g) target) ∨
    (∃ (q : Addr) (vm₁ : Vm) (B : Pt), s.WarmedH vm₁ ∧ Stand p l e R s m args below meth c B.U B.locs B.cells B.slots ∧ PostX ⟨T.setVm vm₁, locs, cells, slots⟩ argsL.toArray q B ∧
      Steps p.tables e below (T.setTop g) ((B.U.setTop { g with stack := rest }).pushFrame (.throwing q))) := by
  obtain ⟨mk, methM, cM, hnamed, hmethM, -, -, -, -, -, -, hsigM⟩ := Cond.codeWith_spec hcode
  have hstatic : methM.isStatic = true := Cond.static_spec hnamed hmethM hstat
  obtain ⟨kP, hkP, -⟩ := className_of_methodNamed hnamed
  have hinitP : kP.init = .initialized := Cond.initialized_spec (findClass_of_methodNamed hnamed) hkP hinit
  obtain ⟨vm₁, X₁, hstep₁⟩ := X.invokestatic hexec hown hlink hnamed hmethM hstatic hkP hinitP hy (g := g) hg (argsL := argsL) (rest := rest) (hlen _ hsigM) hstack hdg
  rcases hK m meth c ⟨T.setVm vm₁, locs, cells, slots⟩ { g with stack := rest } (.invokestatic index) mk argsL.toArray X₁ hg hsize hdg hW (X₁.named hnamed) (hpre vm₁ X₁.warmed) with ⟨v, B, X', hpost, hsteps⟩ | ⟨q, B, X', hpost, hsteps⟩
  · exact Or.inl ⟨v, vm₁, B, X₁.warmed, X', hpost, fun target h => hstep₁ _ fun acts => by rw [doInvoke_state]; exact hsteps.trans h⟩
  · exact Or.inr ⟨q, vm₁, B, X₁.warmed, X', hpost, hstep₁ _ fun acts => by rw [doInvoke_state]; exact hsteps⟩
theorem vx_callVW (X : Stand p l e R s m args below meth c T locs cells slots) (hexec : p.tables.exec = Jvm.exec) {own C : String} {index : Nat} {y : MethodName} {bytes : ByteArray} {maxL : Nat} {ret : Option FieldType} {hh : List (Nat × Nat × Nat × Nat)}
    (hown : s.vm.findClass own = some m.cls) (hlink : (Cond.methodLink own index y).before args s = true) (hinst : (Cond.instanceMethod y).before args s = true) (hsel : (Cond.selects C y y).before args s = true)
    (hcode : (Cond.codeWith y bytes maxL ret hh).before args s = true) (hy : y.cls ≠ "java/lang/invoke/MethodHandle" ∧ y.cls ≠ "java/lang/invoke/VarHandle")
    {W9 : Nat} {Pre : Pt → Array Value → Prop} {Post : Pt → Array Value → Option Value → Pt → Prop} (hK : Back l R p e below s args y 3 W9 Pre Post)
    {b : Addr} {cellB : Cell} (hcell : T.heap[b]? = some cellB) (hobj : cellB.vm.isStatics = false) (hcls : s.vm.findClass C = some cellB.cls)
    {g : JFrame} (hg : g.method = m) (hsize : g.locals.size = c.maxLocals) {argsL rest : List Value} (hlen : ∀ sig, parseMethodDescriptor y.desc = some sig → argsL.length = sig.parameters.length)
    (hstack : g.stack = argsL.reverse ++ .ref b :: rest) (hW : 2 * g.monitorRoom + (rest.map fun v => v.category).sum ≤ W9) (hdg : decode c.code g.pc = .ok (.invokevirtual index, 3))
    (hpre : ∀ vm₁, s.WarmedH vm₁ → Pre ⟨T.setVm vm₁, locs, cells, slots⟩ (Value.ref b :: argsL).toArray) :
    ∃ (v : Option Value) (vm₁ : Vm) (B : Pt), s.WarmedH vm₁ ∧ Stand p l e R s m args below meth c B.U B.locs B.cells B.slots ∧ Post ⟨T.setVm vm₁, locs, cells, slots⟩ (Value.ref b :: argsL).toArray v B ∧
      ∀ target, Steps p.tables e below (B.U.setTop { g with pc := g.pc + 3, stack := v.toList ++ rest }) target → Steps p.tables e below (T.setTop g) target := by
  obtain ⟨mk, methM, hnamed, hmethM, hstM, habM⟩ := Cond.instanceMethod_spec hinst
  obtain ⟨m8, methM', cM, hn8, hmethM', -, -, -, -, -, -, hsigM⟩ := Cond.codeWith_spec hcode
  cases Option.some.inj (hn8.symm.trans hnamed)
  cases hmethM.symm.trans hmethM'
  obtain ⟨c2, r2, m2, q1, q2, q3, q4, kP, hkP, hkPi⟩ := Cond.selects_spec hsel
  cases hcls.symm.trans q1
  cases (State.methodFound?_of_named hnamed hy).symm.trans q2
  cases hnamed.symm.trans q3
  have hselP : selectMethod e.platform s.vm cellB.cls mk = .method mk := by rw [Launch.admits_selectMethod X.admits]; exact q4
  obtain ⟨vm₁, X₁, hstep₁⟩ := X.invokevirtual hexec hown hlink hnamed hmethM hstM hkP hkPi hy (a := b) (cell := cellB) hcell
    (fun z h => by rw [h] at hobj; cases hobj) hselP hmethM habM hkP hkPi (g := g) hg (argsL := argsL) (rest := rest) (hlen _ hsigM) hstack hdg
  obtain ⟨v, B, X', hpost, hsteps⟩ := hK m meth c ⟨T.setVm vm₁, locs, cells, slots⟩ { g with stack := rest } (.invokevirtual index) mk (Value.ref b :: argsL).toArray X₁ hg hsize hdg hW (X₁.named hnamed) (hpre vm₁ X₁.warmed)
  exact ⟨v, vm₁, B, X₁.warmed, X', hpost, fun target h => hstep₁ _ fun acts => by rw [doInvoke_state]; exact hsteps.trans h⟩
abbrev vx_CVW (R : Room) (s : State) (args : Array Value) (own C : String) (index : Nat) (y : MethodName) (bytes : ByteArray) (maxL : Nat) (ret : Option FieldType) (hh : List (Nat × Nat × Nat × Nat)) (ws : List Cond) (rm : Room) (mc ms n : Nat) : Prop :=
  (rm.cells = mc ∧ rm.slots = ms ∧ rm.frames + 1 ≤ R.frames ∧ 8 + (maxL + 11) + rm.locals ≤ R.locals ∧ (∀ w ∈ ws, ∀ (a' : Array Value) (U : State), s.WarmedH U.vm → w.before a' U = true) ∧ Cond.codeWith y bytes maxL ret hh ∈ ws) ∧
  (Cond.codeWith y bytes maxL ret hh).before args s = true ∧ (Cond.initialized y.cls).before args s = true ∧ (y.cls ≠ "java/lang/invoke/MethodHandle" ∧ y.cls ≠ "java/lang/invoke/VarHandle") ∧
  (∀ sig, parseMethodDescriptor y.desc = some sig → n = sig.parameters.length) ∧ (Cond.methodLink own index y).before args s = true ∧ (Cond.instanceMethod y).before args s = true ∧ (Cond.selects C y y).before args s = true
theorem vx_cwVW {own C : String} {index maxL mc ms : Nat} {y : MethodName} {bytes : ByteArray} {ret : Option FieldType} {hh : List (Nat × Nat × Nat × Nat)} {Ts ws ws' : List Cond} {rm : Room} (n : Nat) (ht : ∀ w ∈ Ts, w.before args s = true) (hT : GoodIn Ts (wsV own index C y ws)) (hw : ws = Cond.codeWith y bytes maxL ret hh :: ws') (hrc : rm.cells = mc) (hrs : rm.slots = ms)
    (hd : y.cls = C ∧ y.cls ≠ "java/lang/invoke/MethodHandle" ∧ y.cls ≠ "java/lang/invoke/VarHandle" ∧ (parseMethodDescriptor y.desc).map (fun d => d.parameters.length) = some n) (hR : rm.frames + 1 ≤ R.frames ∧ 8 + (maxL + 11) + rm.locals ≤ R.locals) :
    vx_CVW R s args own C index y bytes maxL ret hh ws rm mc ms n := by
  obtain ⟨hC, hd⟩ := hd
  subst hC
  have ok : ∀ w ∈ wsV own index y.cls y ws, w.before args s = true := fun w h => ht w (hT w h).1
  have hG : GoodIn Ts ws := fun w h => hT w (by unfold wsV; exact List.mem_append_right _ h)
  have hc : Cond.codeWith y bytes maxL ret hh ∈ ws := by rw [hw]; exact List.mem_cons_self
  refine ⟨⟨hrc, hrs, hR.1, hR.2, pay_in ht hG, hc⟩, ht _ (hG _ hc).1, ok _ (by simp [wsV]), ⟨hd.1, hd.2.1⟩, fun sig h => ?_, ok _ (by simp [wsV]), ok _ (by simp [wsV]), ok _ (by simp [wsV])⟩
  have h2 := hd.2.2
  rw [h] at h2
  exact (Option.some.inj h2).symm
theorem vx_runVW {y : MethodName} {bytes cc : ByteArray} {maxL nL mc ms n index : Nat} {ret : Option FieldType} {hh : List (Nat × Nat × Nat × Nat)} {ws : List Cond} {rm : Room} {Pc : Array Value → State → Prop} {Qc : Array Value → State → Outcome → State → Prop} {free : Addr → Prop} {Ts : List Cond} {own C : String} {b : Addr} {As rest : List Value} {g : JFrame}
    (S : CallFix p m c cc nL s args Ts own) (hM : Met l y ws rm Pc Qc mc ms free) (cw : vx_CVW R s args own C index y bytes maxL ret hh ws rm mc ms n) (hp : PreV s H C b Pc As)
    (hg : g.method = m) (hn : As.length = n) (hsize : g.locals.size = nL) (hstack : g.stack = As.reverse ++ .ref b :: rest) (hW : 2 * g.monitorRoom + (rest.map fun v => v.category).sum ≤ 8) (hdg : decode cc g.pc = .ok (.invokevirtual index, 3)) (hf : cells + mc ≤ R.cells ∧ slots + ms ≤ R.slots) :
    va_Run p l e R s m args below meth c H locs cells slots mc ms g rest (Qc (Value.ref b :: As).toArray) free := by
  obtain ⟨⟨hrc, hrs, hfr, hlo, hws, hcw⟩, hcode, hini, hy, hlen, hl, hin, hse⟩ := cw
  have hK : Back l R p e below s args y 3 8 (PreOf R mc ms Pc) (PostOf Qc mc ms free) := va_backW (hh := hh) (bytes := bytes) (maxL := maxL) (ret := ret) hM hp.1 hrc hrs hfr hlo hws hcw (fun a' U hW => word_at hW (Or.inl (by first | rfl | simp [Cond.onTables, Cond.keeps, Cond.steady])) hini)
  obtain ⟨hx, hb, hml, ho, -⟩ := S
  obtain ⟨-, ⟨cellB, hcB, hoB, hclB⟩, hPc⟩ := hp
  intro T hT X
  obtain ⟨v, vm₁, ⟨U', l2, c2, s2⟩, hW₁, X', ⟨g', mk, t, L, e1, e2, hq, h1, hL, h2, h3⟩, st⟩ := vx_callVW X hx (C := C) (hh := hh) (bytes := bytes) (maxL := maxL) (ret := ret) ho hl hin hse hcode hy hK (by rw [hT]; exact hcB) hoB hclB hg (hsize.trans hml.symm) (argsL := As) (rest := rest) (fun sig h => hn.trans (hlen sig h)) hstack hW (by rw [hb]; exact hdg)
    (fun vm₁ hW₁ => ⟨hf.1, hf.2, hPc (T.setVm vm₁) hT hW₁⟩)
  dsimp only [Pt.U, Pt.locs, Pt.cells, Pt.slots] at X' e1 e2 h1 h2 h3 st
  subst h1; subst h2; subst h3
  exact ⟨v, (T.setVm vm₁).calling g' mk (Value.ref b :: As).toArray, t, U', L, hT, X', hL, e1, e2, hq, st⟩
section
variable {y : MethodName} {bytes cc : ByteArray} {maxL nL mc ms n index : Nat} {ret : Option FieldType} {ws : List Cond} {rm : Room} {Pc : Array Value → State → Prop} {Qc : Array Value → State → Outcome → State → Prop} {XC : String → State → State → Prop} {free : Addr → Prop} {Ts : List Cond} {own C : String} {b : Addr} {As rest : List Value} {g : JFrame}
theorem vx_runVX {hh : List (Nat × Nat × Nat × Nat)} (S : CallFix p m c cc nL s args Ts own) (hM : vx_Met l y ws rm Pc Qc XC mc ms free) (cw : vx_CVW R s args own C index y bytes maxL ret hh ws rm mc ms n) (hp : PreV s H C b Pc As)
    (hg : g.method = m) (hn : As.length = n) (hsize : g.locals.size = nL) (hstack : g.stack = As.reverse ++ .ref b :: rest) (hW : 2 * g.monitorRoom + (rest.map fun v => v.category).sum ≤ 8) (hdg : decode cc g.pc = .ok (.invokevirtual index, 3)) (hf : cells + mc ≤ R.cells ∧ slots + ms ≤ R.slots) :
    vx_Run p l e R s m args below meth c H locs cells slots mc ms g rest (Qc (Value.ref b :: As).toArray) XC free := by
  obtain ⟨⟨hrc, hrs, hfr, hlo, hws, hcw⟩, hcode, hini, hy, hlen, hl, hin, hse⟩ := cw
  have hK : vx_Back l R p e below s args y 3 8 (PreOf R mc ms Pc) (PostOf Qc mc ms free) (vx_Post XC mc ms free) := vx_backW (hh := hh) (bytes := bytes) (maxL := maxL) (ret := ret) hM hp.1 hrc hrs hfr hlo hws hcw (fun a' U hW => word_at hW (Or.inl (by first | rfl | simp [Cond.onTables, Cond.keeps, Cond.steady])) hini)
  obtain ⟨hx, hb, hml, ho, -⟩ := S
  obtain ⟨-, ⟨cellB, hcB, hoB, hclB⟩, hPc⟩ := hp
  intro T hT X
  rcases vx_callVX X hx (C := C) (hh := hh) (bytes := bytes) (maxL := maxL) (ret := ret) ho hl hin hse hcode hy hK (by rw [hT]; exact hcB) hoB hclB hg (hsize.trans hml.symm) (argsL := As) (rest := rest) (fun sig h => hn.trans (hlen sig h)) hstack hW (by rw [hb]; exact hdg)
    (fun vm₁ hW₁ => ⟨hf.1, hf.2, hPc (T.setVm vm₁) hT hW₁⟩) with ⟨v, vm₁, ⟨U', l2, c2, s2⟩, hW₁, X', ⟨g', mk, t, L, e1, e2, hq, h1, hL, h2, h3⟩, st⟩ | ⟨q, vm₁, ⟨U', l2, c2, s2⟩, hW₁, X', ⟨g', mk, t, L, E, ce, e1, e2, hq, hce, hcv, hcl, h1, hL, h2, h3⟩, st⟩
  · dsimp only [Pt.U, Pt.locs, Pt.cells, Pt.slots] at X' e1 e2 h1 h2 h3 st
    subst h1; subst h2; subst h3
    exact Or.inl ⟨v, (T.setVm vm₁).calling g' mk (Value.ref b :: As).toArray, t, U', L, hT, X', hL, e1, e2, hq, st⟩
  · dsimp only [Pt.U, Pt.locs, Pt.cells, Pt.slots] at X' e1 e2 h1 h2 h3 st hcl
    subst h1; subst h2; subst h3
    exact Or.inr ⟨q, (T.setVm vm₁).calling g' mk (Value.ref b :: As).toArray, t, U', L, E, ce, hT, X', hL, e1, e2, hq, hce, hcv, vx_cls hW₁ hcl, st⟩
theorem vx_runSX {hh : List (Nat × Nat × Nat × Nat)} (S : CallFix p m c cc nL s args Ts own) (hM : vx_Met l y ws rm Pc Qc XC mc ms free) (cw : vx_CSW R s args own index y bytes maxL ret hh ws rm mc ms n) (hp : PreS s H Pc As)
    (hg : g.method = m) (hn : As.length = n) (hsize : g.locals.size = nL) (hstack : g.stack = As.reverse ++ rest) (hW : 2 * g.monitorRoom + (rest.map fun v => v.category).sum ≤ 8) (hdg : decode cc g.pc = .ok (.invokestatic index, 3)) (hf : cells + mc ≤ R.cells ∧ slots + ms ≤ R.slots) :
    vx_Run p l e R s m args below meth c H locs cells slots mc ms g rest (Qc As.toArray) XC free := by
  obtain ⟨⟨hrc, hrs, hfr, hlo, hws, hcw⟩, hcode, hini, hy, hlen, hl, hstt⟩ := cw
  have hK : vx_Back l R p e below s args y 3 8 (PreOf R mc ms Pc) (PostOf Qc mc ms free) (vx_Post XC mc ms free) := vx_backW (hh := hh) (bytes := bytes) (maxL := maxL) (ret := ret) hM hp.1 hrc hrs hfr hlo hws hcw (fun a' U hW => word_at hW (Or.inl (by first | rfl | simp [Cond.onTables, Cond.keeps, Cond.steady])) hini)
  obtain ⟨hx, hb, hml, ho, -⟩ := S
  intro T hT X
  rcases vx_callSX X hx (hh := hh) (bytes := bytes) (maxL := maxL) (ret := ret) ho hl hstt hini hcode hy hK hg (hsize.trans hml.symm) (argsL := As) (rest := rest) (fun sig h => hn.trans (hlen sig h)) hstack hW (by rw [hb]; exact hdg)
    (fun vm₁ hW₁ => ⟨hf.1, hf.2, hp.2 (T.setVm vm₁) hT hW₁⟩) with ⟨v, vm₁, ⟨U', l2, c2, s2⟩, hW₁, X', ⟨g', mk, t, L, e1, e2, hq, h1, hL, h2, h3⟩, st⟩ | ⟨q, vm₁, ⟨U', l2, c2, s2⟩, hW₁, X', ⟨g', mk, t, L, E, ce, e1, e2, hq, hce, hcv, hcl, h1, hL, h2, h3⟩, st⟩
  · dsimp only [Pt.U, Pt.locs, Pt.cells, Pt.slots] at X' e1 e2 h1 h2 h3 st
    subst h1; subst h2; subst h3
    exact Or.inl ⟨v, (T.setVm vm₁).calling g' mk As.toArray, t, U', L, hT, X', hL, e1, e2, hq, st⟩
  · dsimp only [Pt.U, Pt.locs, Pt.cells, Pt.slots] at X' e1 e2 h1 h2 h3 st hcl
    subst h1; subst h2; subst h3
    exact Or.inr ⟨q, (T.setVm vm₁).calling g' mk As.toArray, t, U', L, E, ce, hT, X', hL, e1, e2, hq, hce, hcv, vx_cls hW₁ hcl, st⟩
end
end VXH
theorem vx_ofWH {l : Launch} {y : MethodName} {ws ws' : List Cond} {rm : Room} {Pc : Array Value → State → Prop} {Qc : Array Value → State → Outcome → State → Prop} {XC : String → State → State → Prop} {mc ms : Nat} {free : Addr → Prop} {cc : ByteArray} {maxL : Nat} {ret : Option FieldType} {hh : List (Nat × Nat × Nat × Nat)}
    (hy : plainName y.cls = true) (hw : ws = Cond.codeWith y cc maxL ret hh :: ws')
    (body : ∀ p e s m args below meth c s₁, BodyLoose p l y (headSpec ws rm) cc maxL ret e s m args below meth c s₁ → c.maxLocals = maxL → Pc args s →
      W p l e (headSpec ws rm).room s m args below meth c s.heap [] 0 0 (vx_MQ below Qc XC args s mc ms free) (entryFrame m args maxL)) : vx_Met l y ws rm Pc Qc XC mc ms free := by
  refine MetFree.of_bodyS (code := cc) (maxLocals := maxL) (ret := ret) hy ?_ ?_
  · intro args s m h hn
    obtain ⟨m9, meth, c, hn9, h1, h2, h3, h4, -, h5, h6, -⟩ := Cond.codeWith_spec (atoms_spec (ws := ws) h _ (by rw [hw]; exact List.mem_cons_self))
    cases hn.symm.trans hn9
    exact ⟨meth, c, h1, h2, h3, h4, h5, h6⟩
  · intro p e s m args below meth c s₁ B hml hP _
    have hh0 : s₁.heap = s.heap := by rw [B.state]; rfl
    obtain ⟨t, a1, o, b1, b2, b3⟩ := body p e s m args below meth c s₁ B hml hP s₁ hh0 (Stand.of_body B)
    exact ⟨t, o, a1, b1, b2, b3⟩
/-! ===== END ===== -/
end
section
/-! ===== BEGIN printed: names, fields, word lists, decode rows ===== -/
def RX0 : String := "Saltwedge$Barrier"
def TX0 : u_T := fun k => match k with
  | 0 => ("Saltwedge$Barrier", "first", "[I", true)
  | 1 => ("Saltwedge$Barrier", "last", "[I", true)
  | 2 => ("Saltwedge$Barrier", "right", "[Z", true)
  | 3 => ("Saltwedge$Barrier", "closureCount", "I", false)
  | 4 => ("Saltwedge$Barrier", "mark", "I", false)
  | 5 => ("Saltwedge$Barrier", "lead", "I", false)
  | _ => ("Saltwedge$Barrier", "closed", "Z", false)
def tyX0 : Nat → FieldType := fun k => match k with
  | 0 => .array .int
  | 1 => .array .int
  | 2 => .array .boolean
  | 3 => .int
  | 4 => .int
  | 5 => .int
  | _ => .boolean
abbrev wsX00 : List Cond := u_ws RX0 TX0 7
theorem nmX0 : ∀ a, a < 7 → ∀ b, b < 7 → a ≠ b → (TX0 a).2.1 ≠ (TX0 b).2.1 := by decide +kernel
theorem tyX0_ok : ∀ k, k < 7 → parseFieldDescriptor (TX0 k).2.2.1 = some (tyX0 k) := by decide +kernel
abbrev cX0_init : ByteArray := prog_2_method_1_code
def yX0_init : MethodName := ⟨RX0, "<init>", "()V"⟩
abbrev cX0_begin : ByteArray := prog_2_method_2_code
def yX0_begin : MethodName := ⟨RX0, "begin", "()V"⟩
abbrev cX0_look : ByteArray := prog_2_method_3_code
def yX0_look : MethodName := ⟨RX0, "look", "(LSaltwedge$Sea;I)V"⟩
abbrev cX0_answer : ByteArray := prog_2_method_4_code
def yX0_answer : MethodName := ⟨RX0, "answer", "(II)I"⟩
def RX1 : String := "Saltwedge$Intake"
def TX1 : u_T := fun k => match k with
  | 0 => ("Saltwedge$Intake", "section", "I", false)
  | 1 => ("Saltwedge$Intake", "rate", "I", false)
  | 2 => ("Saltwedge$Intake", "grain", "I", false)
  | 3 => ("Saltwedge$Intake", "room", "I", false)
  | 4 => ("Saltwedge$Intake", "use", "I", false)
  | 5 => ("Saltwedge$Intake", "held", "I", false)
  | 6 => ("Saltwedge$Intake", "taken", "I", false)
  | 7 => ("Saltwedge$Intake", "lacking", "I", false)
  | 8 => ("Saltwedge$Intake", "stoppedHours", "I", false)
  | _ => ("Saltwedge$Intake", "stopped", "Z", false)
def tyX1 : Nat → FieldType := fun k => match k with
  | 0 => .int
  | 1 => .int
  | 2 => .int
  | 3 => .int
  | 4 => .int
  | 5 => .int
  | 6 => .int
  | 7 => .int
  | 8 => .int
  | _ => .boolean
abbrev wsX10 : List Cond := u_ws RX1 TX1 10
theorem nmX1 : ∀ a, a < 10 → ∀ b, b < 10 → a ≠ b → (TX1 a).2.1 ≠ (TX1 b).2.1 := by decide +kernel
theorem tyX1_ok : ∀ k, k < 10 → parseFieldDescriptor (TX1 k).2.2.1 = some (tyX1 k) := by decide +kernel
abbrev cX1_init : ByteArray := prog_3_method_1_code
def yX1_init : MethodName := ⟨RX1, "<init>", "()V"⟩
abbrev cX1_begin : ByteArray := prog_3_method_2_code
def yX1_begin : MethodName := ⟨RX1, "begin", "(IIIII)V"⟩
abbrev cX1_take : ByteArray := prog_3_method_3_code
def yX1_take : MethodName := ⟨RX1, "take", "(LSaltwedge$Layer;[J)V"⟩
abbrev cX1_supply : ByteArray := prog_3_method_4_code
def yX1_supply : MethodName := ⟨RX1, "supply", "()V"⟩
abbrev cX1_answer : ByteArray := prog_3_method_5_code
def yX1_answer : MethodName := ⟨RX1, "answer", "(I)I"⟩
def RX2 : String := "Saltwedge$Layer"
def TX2 : u_T := fun k => match k with
  | 0 => ("Saltwedge$Layer", "water", "I", false)
  | _ => ("Saltwedge$Layer", "salt", "I", false)
def tyX2 : Nat → FieldType := fun k => match k with
  | 0 => .int
  | _ => .int
abbrev wsX20 : List Cond := u_ws RX2 TX2 2
theorem nmX2 : ∀ a, a < 2 → ∀ b, b < 2 → a ≠ b → (TX2 a).2.1 ≠ (TX2 b).2.1 := by decide +kernel
theorem tyX2_ok : ∀ k, k < 2 → parseFieldDescriptor (TX2 k).2.2.1 = some (tyX2 k) := by decide +kernel
abbrev cX2_init : ByteArray := prog_4_method_1_code
def yX2_init : MethodName := ⟨RX2, "<init>", "()V"⟩
abbrev cX2_begin : ByteArray := prog_4_method_2_code
def yX2_begin : MethodName := ⟨RX2, "begin", "(I)V"⟩
abbrev cX2_salinity : ByteArray := prog_4_method_3_code
def yX2_salinity : MethodName := ⟨RX2, "salinity", "()I"⟩
abbrev cX2_saltWith : ByteArray := prog_4_method_4_code
def yX2_saltWith : MethodName := ⟨RX2, "saltWith", "(I)I"⟩
abbrev cX2_giveOut : ByteArray := prog_4_method_5_code
def yX2_giveOut : MethodName := ⟨RX2, "giveOut", "(I)I"⟩
abbrev cX2_takeIn : ByteArray := prog_4_method_6_code
def yX2_takeIn : MethodName := ⟨RX2, "takeIn", "(II)V"⟩
def RX3 : String := "Saltwedge$Mouth"
def TX3 : u_T := fun k => match k with
  | 0 => ("Saltwedge$Mouth", "sea", "LSaltwedge$Sea;", true)
  | 1 => ("Saltwedge$Mouth", "barrier", "LSaltwedge$Barrier;", true)
  | 2 => ("Saltwedge$Mouth", "sections", "[LSaltwedge$Section;", true)
  | 3 => ("Saltwedge$Mouth", "intakes", "[LSaltwedge$Intake;", true)
  | 4 => ("Saltwedge$Mouth", "sums", "[J", true)
  | 5 => ("Saltwedge$Mouth", "sectionCount", "I", false)
  | 6 => ("Saltwedge$Mouth", "intakeCount", "I", false)
  | 7 => ("Saltwedge$Mouth", "riverWater", "I", false)
  | 8 => ("Saltwedge$Mouth", "riverSilt", "I", false)
  | _ => ("Saltwedge$Mouth", "now", "I", false)
def tyX3 : Nat → FieldType := fun k => match k with
  | 0 => .object "Saltwedge$Sea"
  | 1 => .object "Saltwedge$Barrier"
  | 2 => .array (.object "Saltwedge$Section")
  | 3 => .array (.object "Saltwedge$Intake")
  | 4 => .array .long
  | 5 => .int
  | 6 => .int
  | 7 => .int
  | 8 => .int
  | _ => .int
abbrev wsX30 : List Cond := u_ws RX3 TX3 10
theorem nmX3 : ∀ a, a < 10 → ∀ b, b < 10 → a ≠ b → (TX3 a).2.1 ≠ (TX3 b).2.1 := by decide +kernel
theorem tyX3_ok : ∀ k, k < 10 → parseFieldDescriptor (TX3 k).2.2.1 = some (tyX3 k) := by decide +kernel
abbrev cX3_init : ByteArray := prog_5_method_1_code
def yX3_init : MethodName := ⟨RX3, "<init>", "()V"⟩
abbrev cX3_begin : ByteArray := prog_5_method_2_code
def yX3_begin : MethodName := ⟨RX3, "begin", "()V"⟩
abbrev cX3_hasSection : ByteArray := prog_5_method_3_code
def yX3_hasSection : MethodName := ⟨RX3, "hasSection", "(I)Z"⟩
abbrev cX3_hear : ByteArray := prog_5_method_4_code
def yX3_hear : MethodName := ⟨RX3, "hear", "(IIIIII)V"⟩
abbrev cX3_addSection : ByteArray := prog_5_method_5_code
def yX3_addSection : MethodName := ⟨RX3, "addSection", "(IIII)V"⟩
abbrev cX3_addIntake : ByteArray := prog_5_method_6_code
def yX3_addIntake : MethodName := ⟨RX3, "addIntake", "(IIIII)V"⟩
abbrev cX3_setPermit : ByteArray := prog_5_method_7_code
def yX3_setPermit : MethodName := ⟨RX3, "setPermit", "(II)V"⟩
abbrev cX3_moveMud : ByteArray := prog_5_method_8_code
def yX3_moveMud : MethodName := ⟨RX3, "moveMud", "(III)V"⟩
abbrev cX3_seaOf : ByteArray := prog_5_method_9_code
def yX3_seaOf : MethodName := ⟨RX3, "seaOf", "(I)I"⟩
abbrev cX3_firstHourAt : ByteArray := prog_5_method_10_code
def yX3_firstHourAt : MethodName := ⟨RX3, "firstHourAt", "(II)I"⟩
abbrev cX3_goOnTo : ByteArray := prog_5_method_11_code
def yX3_goOnTo : MethodName := ⟨RX3, "goOnTo", "(I)V"⟩
abbrev cX3_letHourGoBy : ByteArray := prog_5_method_12_code
def yX3_letHourGoBy : MethodName := ⟨RX3, "letHourGoBy", "()V"⟩
abbrev cX3_meetSea : ByteArray := prog_5_method_13_code
def yX3_meetSea : MethodName := ⟨RX3, "meetSea", "(LSaltwedge$Section;I)V"⟩
abbrev cX3_meetRiver : ByteArray := prog_5_method_14_code
def yX3_meetRiver : MethodName := ⟨RX3, "meetRiver", "(LSaltwedge$Section;)V"⟩
abbrev cX3_level : ByteArray := prog_5_method_15_code
def yX3_level : MethodName := ⟨RX3, "level", "(LSaltwedge$Section;LSaltwedge$Section;)V"⟩
abbrev cX3_creep : ByteArray := prog_5_method_16_code
def yX3_creep : MethodName := ⟨RX3, "creep", "(LSaltwedge$Section;LSaltwedge$Section;)V"⟩
abbrev cX3_flowInLow : ByteArray := prog_5_method_17_code
def yX3_flowInLow : MethodName := ⟨RX3, "flowInLow", "(LSaltwedge$Section;LSaltwedge$Section;I)V"⟩
abbrev cX3_flowInUp : ByteArray := prog_5_method_18_code
def yX3_flowInUp : MethodName := ⟨RX3, "flowInUp", "(LSaltwedge$Section;LSaltwedge$Section;I)V"⟩
abbrev cX3_serveIntakes : ByteArray := prog_5_method_19_code
def yX3_serveIntakes : MethodName := ⟨RX3, "serveIntakes", "()V"⟩
def RX4 : String := "Saltwedge$Oysters"
def TX4 : u_T := fun k => match k with
  | 0 => ("Saltwedge$Oysters", "section", "I", false)
  | 1 => ("Saltwedge$Oysters", "grain", "I", false)
  | _ => ("Saltwedge$Oysters", "hours", "I", false)
def tyX4 : Nat → FieldType := fun k => match k with
  | 0 => .int
  | 1 => .int
  | _ => .int
abbrev wsX40 : List Cond := u_ws RX4 TX4 3
theorem nmX4 : ∀ a, a < 3 → ∀ b, b < 3 → a ≠ b → (TX4 a).2.1 ≠ (TX4 b).2.1 := by decide +kernel
theorem tyX4_ok : ∀ k, k < 3 → parseFieldDescriptor (TX4 k).2.2.1 = some (tyX4 k) := by decide +kernel
abbrev cX4_init : ByteArray := prog_6_method_1_code
def yX4_init : MethodName := ⟨RX4, "<init>", "()V"⟩
def RX5 : String := "Saltwedge$Sea"
def TX5 : u_T := fun k => match k with
  | 0 => ("Saltwedge$Sea", "turns", "[LSaltwedge$Turn;", true)
  | 1 => ("Saltwedge$Sea", "surges", "[LSaltwedge$Surge;", true)
  | 2 => ("Saltwedge$Sea", "past", "[I", true)
  | 3 => ("Saltwedge$Sea", "turnCount", "I", false)
  | 4 => ("Saltwedge$Sea", "surgeCount", "I", false)
  | _ => ("Saltwedge$Sea", "mean", "I", false)
def tyX5 : Nat → FieldType := fun k => match k with
  | 0 => .array (.object "Saltwedge$Turn")
  | 1 => .array (.object "Saltwedge$Surge")
  | 2 => .array .int
  | 3 => .int
  | 4 => .int
  | _ => .int
abbrev wsX50 : List Cond := u_ws RX5 TX5 6
theorem nmX5 : ∀ a, a < 6 → ∀ b, b < 6 → a ≠ b → (TX5 a).2.1 ≠ (TX5 b).2.1 := by decide +kernel
theorem tyX5_ok : ∀ k, k < 6 → parseFieldDescriptor (TX5 k).2.2.1 = some (tyX5 k) := by decide +kernel
abbrev cX5_init : ByteArray := prog_7_method_1_code
def yX5_init : MethodName := ⟨RX5, "<init>", "()V"⟩
abbrev cX5_begin : ByteArray := prog_7_method_2_code
def yX5_begin : MethodName := ⟨RX5, "begin", "()V"⟩
abbrev cX5_addTurn : ByteArray := prog_7_method_3_code
def yX5_addTurn : MethodName := ⟨RX5, "addTurn", "(IIII)V"⟩
abbrev cX5_addSurge : ByteArray := prog_7_method_4_code
def yX5_addSurge : MethodName := ⟨RX5, "addSurge", "(III)V"⟩
abbrev cX5_foretold : ByteArray := prog_7_method_5_code
def yX5_foretold : MethodName := ⟨RX5, "foretold", "(I)I"⟩
abbrev cX5_foretoldAbove : ByteArray := prog_7_method_6_code
def yX5_foretoldAbove : MethodName := ⟨RX5, "foretoldAbove", "(III)Z"⟩
abbrev cX5_keep : ByteArray := prog_7_method_7_code
def yX5_keep : MethodName := ⟨RX5, "keep", "(II)V"⟩
def RX6 : String := "Saltwedge$Section"
def TX6 : u_T := fun k => match k with
  | 0 => ("Saltwedge$Section", "up", "LSaltwedge$Layer;", true)
  | 1 => ("Saltwedge$Section", "low", "LSaltwedge$Layer;", true)
  | 2 => ("Saltwedge$Section", "lowAtEnd", "[I", true)
  | 3 => ("Saltwedge$Section", "area", "I", false)
  | 4 => ("Saltwedge$Section", "mud", "I", false)
  | 5 => ("Saltwedge$Section", "cloud", "I", false)
  | 6 => ("Saltwedge$Section", "run", "I", false)
  | _ => ("Saltwedge$Section", "permit", "I", false)
def tyX6 : Nat → FieldType := fun k => match k with
  | 0 => .object "Saltwedge$Layer"
  | 1 => .object "Saltwedge$Layer"
  | 2 => .array .int
  | 3 => .int
  | 4 => .int
  | 5 => .int
  | 6 => .int
  | _ => .int
abbrev wsX60 : List Cond := u_ws RX6 TX6 8
theorem nmX6 : ∀ a, a < 8 → ∀ b, b < 8 → a ≠ b → (TX6 a).2.1 ≠ (TX6 b).2.1 := by decide +kernel
theorem tyX6_ok : ∀ k, k < 8 → parseFieldDescriptor (TX6 k).2.2.1 = some (tyX6 k) := by decide +kernel
abbrev cX6_init : ByteArray := prog_8_method_1_code
def yX6_init : MethodName := ⟨RX6, "<init>", "()V"⟩
abbrev cX6_begin : ByteArray := prog_8_method_2_code
def yX6_begin : MethodName := ⟨RX6, "begin", "(IIII)V"⟩
abbrev cX6_bed : ByteArray := prog_8_method_3_code
def yX6_bed : MethodName := ⟨RX6, "bed", "()I"⟩
abbrev cX6_level : ByteArray := prog_8_method_4_code
def yX6_level : MethodName := ⟨RX6, "level", "()I"⟩
abbrev cX6_giveCloud : ByteArray := prog_8_method_5_code
def yX6_giveCloud : MethodName := ⟨RX6, "giveCloud", "(I)I"⟩
abbrev cX6_refusal : ByteArray := prog_8_method_6_code
def yX6_refusal : MethodName := ⟨RX6, "refusal", "(I)I"⟩
abbrev cX6_mix : ByteArray := prog_8_method_7_code
def yX6_mix : MethodName := ⟨RX6, "mix", "()V"⟩
abbrev cX6_settleOrLift : ByteArray := prog_8_method_8_code
def yX6_settleOrLift : MethodName := ⟨RX6, "settleOrLift", "()V"⟩
abbrev cX6_endHour : ByteArray := prog_8_method_9_code
def yX6_endHour : MethodName := ⟨RX6, "endHour", "(I)V"⟩
abbrev cX6_wasFresher : ByteArray := prog_8_method_10_code
def yX6_wasFresher : MethodName := ⟨RX6, "wasFresher", "(III)Z"⟩
abbrev cX6_answer : ByteArray := prog_8_method_11_code
def yX6_answer : MethodName := ⟨RX6, "answer", "(I)I"⟩
def RX7 : String := "Saltwedge$Surge"
def TX7 : u_T := fun k => match k with
  | 0 => ("Saltwedge$Surge", "from", "I", false)
  | 1 => ("Saltwedge$Surge", "to", "I", false)
  | _ => ("Saltwedge$Surge", "height", "I", false)
def tyX7 : Nat → FieldType := fun k => match k with
  | 0 => .int
  | 1 => .int
  | _ => .int
abbrev wsX70 : List Cond := u_ws RX7 TX7 3
theorem nmX7 : ∀ a, a < 3 → ∀ b, b < 3 → a ≠ b → (TX7 a).2.1 ≠ (TX7 b).2.1 := by decide +kernel
theorem tyX7_ok : ∀ k, k < 3 → parseFieldDescriptor (TX7 k).2.2.1 = some (tyX7 k) := by decide +kernel
abbrev cX7_init : ByteArray := prog_9_method_1_code
def yX7_init : MethodName := ⟨RX7, "<init>", "()V"⟩
def RX8 : String := "Saltwedge$Told"
def TX8 : u_T := fun k => match k with
  | 0 => ("Saltwedge$Told", "rows", "[I", true)
  | _ => ("Saltwedge$Told", "count", "I", false)
def tyX8 : Nat → FieldType := fun k => match k with
  | 0 => .array .int
  | _ => .int
abbrev wsX80 : List Cond := u_ws RX8 TX8 2
theorem nmX8 : ∀ a, a < 2 → ∀ b, b < 2 → a ≠ b → (TX8 a).2.1 ≠ (TX8 b).2.1 := by decide +kernel
theorem tyX8_ok : ∀ k, k < 2 → parseFieldDescriptor (TX8 k).2.2.1 = some (tyX8 k) := by decide +kernel
abbrev cX8_init : ByteArray := prog_10_method_1_code
def yX8_init : MethodName := ⟨RX8, "<init>", "()V"⟩
abbrev cX8_keep : ByteArray := prog_10_method_2_code
def yX8_keep : MethodName := ⟨RX8, "keep", "(IIIIIII)V"⟩
abbrev cX8_part : ByteArray := prog_10_method_3_code
def yX8_part : MethodName := ⟨RX8, "part", "(II)I"⟩
def RX9 : String := "Saltwedge$Turn"
def TX9 : u_T := fun k => match k with
  | 0 => ("Saltwedge$Turn", "period", "I", false)
  | 1 => ("Saltwedge$Turn", "rise", "I", false)
  | 2 => ("Saltwedge$Turn", "range", "I", false)
  | _ => ("Saltwedge$Turn", "phase", "I", false)
def tyX9 : Nat → FieldType := fun k => match k with
  | 0 => .int
  | 1 => .int
  | 2 => .int
  | _ => .int
abbrev wsX90 : List Cond := u_ws RX9 TX9 4
theorem nmX9 : ∀ a, a < 4 → ∀ b, b < 4 → a ≠ b → (TX9 a).2.1 ≠ (TX9 b).2.1 := by decide +kernel
theorem tyX9_ok : ∀ k, k < 4 → parseFieldDescriptor (TX9 k).2.2.1 = some (tyX9 k) := by decide +kernel
abbrev cX9_init : ByteArray := prog_11_method_1_code
def yX9_init : MethodName := ⟨RX9, "<init>", "()V"⟩
abbrev cX9_height : ByteArray := prog_11_method_2_code
def yX9_height : MethodName := ⟨RX9, "height", "(I)I"⟩
def RX10 : String := "Saltwedge"
def TX10 : u_T := fun k => match k with
  | 0 => ("Saltwedge", "live", "LSaltwedge$Mouth;", true)
  | 1 => ("Saltwedge", "anew", "LSaltwedge$Mouth;", true)
  | 2 => ("Saltwedge", "told", "LSaltwedge$Told;", true)
  | 3 => ("Saltwedge", "oysters", "[LSaltwedge$Oysters;", true)
  | _ => ("Saltwedge", "oysterCount", "I", false)
def tyX10 : Nat → FieldType := fun k => match k with
  | 0 => .object "Saltwedge$Mouth"
  | 1 => .object "Saltwedge$Mouth"
  | 2 => .object "Saltwedge$Told"
  | 3 => .array (.object "Saltwedge$Oysters")
  | _ => .int
abbrev wsX100 : List Cond := u_ws RX10 TX10 5
theorem nmX10 : ∀ a, a < 5 → ∀ b, b < 5 → a ≠ b → (TX10 a).2.1 ≠ (TX10 b).2.1 := by decide +kernel
theorem tyX10_ok : ∀ k, k < 5 → parseFieldDescriptor (TX10 k).2.2.1 = some (tyX10 k) := by decide +kernel
abbrev cX10_init : ByteArray := prog_1_method_1_code
def yX10_init : MethodName := ⟨RX10, "<init>", "()V"⟩
abbrev cX10_turn : ByteArray := prog_1_method_2_code
def yX10_turn : MethodName := ⟨RX10, "turn", "(IIII)I"⟩
abbrev cX10_mean : ByteArray := prog_1_method_3_code
def yX10_mean : MethodName := ⟨RX10, "mean", "(I)I"⟩
abbrev cX10_surge : ByteArray := prog_1_method_4_code
def yX10_surge : MethodName := ⟨RX10, "surge", "(III)I"⟩
abbrev cX10_river : ByteArray := prog_1_method_5_code
def yX10_river : MethodName := ⟨RX10, "river", "(II)I"⟩
abbrev cX10_barrier : ByteArray := prog_1_method_6_code
def yX10_barrier : MethodName := ⟨RX10, "barrier", "(II)I"⟩
abbrev cX10_section : ByteArray := prog_1_method_7_code
def yX10_section : MethodName := ⟨RX10, "section", "(IIII)I"⟩
abbrev cX10_intake : ByteArray := prog_1_method_8_code
def yX10_intake : MethodName := ⟨RX10, "intake", "(IIIII)I"⟩
abbrev cX10_oysters : ByteArray := prog_1_method_9_code
def yX10_oysters : MethodName := ⟨RX10, "oysters", "(III)I"⟩
abbrev cX10_permit : ByteArray := prog_1_method_10_code
def yX10_permit : MethodName := ⟨RX10, "permit", "(II)I"⟩
abbrev cX10_whyNot : ByteArray := prog_1_method_11_code
def yX10_whyNot : MethodName := ⟨RX10, "whyNot", "(II)I"⟩
abbrev cX10_dredge : ByteArray := prog_1_method_12_code
def yX10_dredge : MethodName := ⟨RX10, "dredge", "(III)I"⟩
abbrev cX10_pass : ByteArray := prog_1_method_13_code
def yX10_pass : MethodName := ⟨RX10, "pass", "(I)I"⟩
abbrev cX10_now : ByteArray := prog_1_method_14_code
def yX10_now : MethodName := ⟨RX10, "now", "()I"⟩
abbrev cX10_sea : ByteArray := prog_1_method_15_code
def yX10_sea : MethodName := ⟨RX10, "sea", "(I)I"⟩
abbrev cX10_ofSection : ByteArray := prog_1_method_16_code
def yX10_ofSection : MethodName := ⟨RX10, "ofSection", "(II)I"⟩
abbrev cX10_ofSectionAnew : ByteArray := prog_1_method_17_code
def yX10_ofSectionAnew : MethodName := ⟨RX10, "ofSectionAnew", "(II)I"⟩
abbrev cX10_ofIntake : ByteArray := prog_1_method_18_code
def yX10_ofIntake : MethodName := ⟨RX10, "ofIntake", "(II)I"⟩
abbrev cX10_isClosed : ByteArray := prog_1_method_19_code
def yX10_isClosed : MethodName := ⟨RX10, "isClosed", "(I)Z"⟩
abbrev cX10_closures : ByteArray := prog_1_method_20_code
def yX10_closures : MethodName := ⟨RX10, "closures", "()I"⟩
abbrev cX10_closure : ByteArray := prog_1_method_21_code
def yX10_closure : MethodName := ⟨RX10, "closure", "(II)I"⟩
abbrev cX10_intrusion : ByteArray := prog_1_method_22_code
def yX10_intrusion : MethodName := ⟨RX10, "intrusion", "(I)I"⟩
abbrev cX10_window : ByteArray := prog_1_method_23_code
def yX10_window : MethodName := ⟨RX10, "window", "(II)I"⟩
abbrev cX10_sum : ByteArray := prog_1_method_24_code
def yX10_sum : MethodName := ⟨RX10, "sum", "(I)J"⟩
abbrev cX10_within : ByteArray := prog_1_method_25_code
def yX10_within : MethodName := ⟨RX10, "within", "(III)Z"⟩
abbrev cX10_goesWith : ByteArray := prog_1_method_26_code
def yX10_goesWith : MethodName := ⟨RX10, "goesWith", "(III)I"⟩
abbrev cX10_tell : ByteArray := prog_1_method_27_code
def yX10_tell : MethodName := ⟨RX10, "tell", "(IIIIII)V"⟩
def RX11 : String := "SaltwedgeModel"
def TX11 : u_T := fun k => match k with
  | 0 => ("SaltwedgeModel", "thrown", "I", false)
  | 1 => ("SaltwedgeModel", "now", "I", false)
  | 2 => ("SaltwedgeModel", "mean", "I", false)
  | 3 => ("SaltwedgeModel", "turns", "I", false)
  | 4 => ("SaltwedgeModel", "turn", "[I", true)
  | 5 => ("SaltwedgeModel", "surges", "I", false)
  | 6 => ("SaltwedgeModel", "surge", "[I", true)
  | 7 => ("SaltwedgeModel", "was", "[I", true)
  | 8 => ("SaltwedgeModel", "riverWater", "I", false)
  | 9 => ("SaltwedgeModel", "riverSilt", "I", false)
  | 10 => ("SaltwedgeModel", "mark", "I", false)
  | 11 => ("SaltwedgeModel", "lead", "I", false)
  | 12 => ("SaltwedgeModel", "closures", "I", false)
  | 13 => ("SaltwedgeModel", "first", "[I", true)
  | 14 => ("SaltwedgeModel", "latest", "[I", true)
  | 15 => ("SaltwedgeModel", "isRight", "[Z", true)
  | 16 => ("SaltwedgeModel", "sections", "I", false)
  | 17 => ("SaltwedgeModel", "area", "[I", true)
  | 18 => ("SaltwedgeModel", "mud", "[I", true)
  | 19 => ("SaltwedgeModel", "cloud", "[I", true)
  | 20 => ("SaltwedgeModel", "run", "[I", true)
  | 21 => ("SaltwedgeModel", "permit", "[I", true)
  | 22 => ("SaltwedgeModel", "water", "[I", true)
  | 23 => ("SaltwedgeModel", "salt", "[I", true)
  | 24 => ("SaltwedgeModel", "tasted", "[I", true)
  | 25 => ("SaltwedgeModel", "intakes", "I", false)
  | 26 => ("SaltwedgeModel", "intakeAt", "[I", true)
  | 27 => ("SaltwedgeModel", "rate", "[I", true)
  | 28 => ("SaltwedgeModel", "intakeGrain", "[I", true)
  | 29 => ("SaltwedgeModel", "room", "[I", true)
  | 30 => ("SaltwedgeModel", "use", "[I", true)
  | 31 => ("SaltwedgeModel", "kept", "[I", true)
  | 32 => ("SaltwedgeModel", "took", "[I", true)
  | 33 => ("SaltwedgeModel", "lacking", "[I", true)
  | 34 => ("SaltwedgeModel", "stops", "[I", true)
  | 35 => ("SaltwedgeModel", "isStopped", "[Z", true)
  | 36 => ("SaltwedgeModel", "oysters", "I", false)
  | 37 => ("SaltwedgeModel", "oystersAt", "[I", true)
  | 38 => ("SaltwedgeModel", "oysterGrain", "[I", true)
  | 39 => ("SaltwedgeModel", "oysterHours", "[I", true)
  | 40 => ("SaltwedgeModel", "sums", "[J", true)
  | 41 => ("SaltwedgeModel", "saltGone", "I", false)
  | _ => ("SaltwedgeModel", "cloudGone", "I", false)
def tyX11 : Nat → FieldType := fun k => match k with
  | 0 => .int
  | 1 => .int
  | 2 => .int
  | 3 => .int
  | 4 => .array .int
  | 5 => .int
  | 6 => .array .int
  | 7 => .array .int
  | 8 => .int
  | 9 => .int
  | 10 => .int
  | 11 => .int
  | 12 => .int
  | 13 => .array .int
  | 14 => .array .int
  | 15 => .array .boolean
  | 16 => .int
  | 17 => .array .int
  | 18 => .array .int
  | 19 => .array .int
  | 20 => .array .int
  | 21 => .array .int
  | 22 => .array .int
  | 23 => .array .int
  | 24 => .array .int
  | 25 => .int
  | 26 => .array .int
  | 27 => .array .int
  | 28 => .array .int
  | 29 => .array .int
  | 30 => .array .int
  | 31 => .array .int
  | 32 => .array .int
  | 33 => .array .int
  | 34 => .array .int
  | 35 => .array .boolean
  | 36 => .int
  | 37 => .array .int
  | 38 => .array .int
  | 39 => .array .int
  | 40 => .array .long
  | 41 => .int
  | _ => .int
abbrev wsX110 : List Cond := u_ws RX11 TX11 43
theorem nmX11 : ∀ a, a < 43 → ∀ b, b < 43 → a ≠ b → (TX11 a).2.1 ≠ (TX11 b).2.1 := by decide +kernel
theorem tyX11_ok : ∀ k, k < 43 → parseFieldDescriptor (TX11 k).2.2.1 = some (tyX11 k) := by decide +kernel
abbrev cX11_init : ByteArray := prog_13_method_1_code
def yX11_init : MethodName := ⟨RX11, "<init>", "()V"⟩
abbrev cX11_thrown : ByteArray := prog_13_method_2_code
def yX11_thrown : MethodName := ⟨RX11, "thrown", "()I"⟩
abbrev cX11_holds : ByteArray := prog_13_method_3_code
def yX11_holds : MethodName := ⟨RX11, "holds", "(I)Z"⟩
abbrev cX11_isIn : ByteArray := prog_13_method_4_code
def yX11_isIn : MethodName := ⟨RX11, "isIn", "(III)Z"⟩
abbrev cX11_isSection : ByteArray := prog_13_method_5_code
def yX11_isSection : MethodName := ⟨RX11, "isSection", "(I)Z"⟩
abbrev cX11_turn : ByteArray := prog_13_method_6_code
def yX11_turn : MethodName := ⟨RX11, "turn", "(IIII)I"⟩
abbrev cX11_mean : ByteArray := prog_13_method_7_code
def yX11_mean : MethodName := ⟨RX11, "mean", "(I)I"⟩
abbrev cX11_surge : ByteArray := prog_13_method_8_code
def yX11_surge : MethodName := ⟨RX11, "surge", "(III)I"⟩
abbrev cX11_river : ByteArray := prog_13_method_9_code
def yX11_river : MethodName := ⟨RX11, "river", "(II)I"⟩
abbrev cX11_barrier : ByteArray := prog_13_method_10_code
def yX11_barrier : MethodName := ⟨RX11, "barrier", "(II)I"⟩
abbrev cX11_heightOf : ByteArray := prog_13_method_11_code
def yX11_heightOf : MethodName := ⟨RX11, "heightOf", "(II)I"⟩
abbrev cX11_seaOf : ByteArray := prog_13_method_12_code
def yX11_seaOf : MethodName := ⟨RX11, "seaOf", "(I)I"⟩
abbrev cX11_section : ByteArray := prog_13_method_13_code
def yX11_section : MethodName := ⟨RX11, "section", "(IIII)I"⟩
abbrev cX11_intake : ByteArray := prog_13_method_14_code
def yX11_intake : MethodName := ⟨RX11, "intake", "(IIIII)I"⟩
abbrev cX11_oysters : ByteArray := prog_13_method_15_code
def yX11_oysters : MethodName := ⟨RX11, "oysters", "(III)I"⟩
abbrev cX11_permit : ByteArray := prog_13_method_16_code
def yX11_permit : MethodName := ⟨RX11, "permit", "(II)I"⟩
abbrev cX11_why : ByteArray := prog_13_method_17_code
def yX11_why : MethodName := ⟨RX11, "why", "(II)I"⟩
abbrev cX11_whyNot : ByteArray := prog_13_method_18_code
def yX11_whyNot : MethodName := ⟨RX11, "whyNot", "(II)I"⟩
abbrev cX11_dredge : ByteArray := prog_13_method_19_code
def yX11_dredge : MethodName := ⟨RX11, "dredge", "(III)I"⟩
abbrev cX11_bed : ByteArray := prog_13_method_20_code
def yX11_bed : MethodName := ⟨RX11, "bed", "(I)I"⟩
abbrev cX11_level : ByteArray := prog_13_method_21_code
def yX11_level : MethodName := ⟨RX11, "level", "(I)I"⟩
abbrev cX11_salinity : ByteArray := prog_13_method_22_code
def yX11_salinity : MethodName := ⟨RX11, "salinity", "(II)I"⟩
abbrev cX11_share : ByteArray := prog_13_method_23_code
def yX11_share : MethodName := ⟨RX11, "share", "(III)I"⟩
abbrev cX11_leaves : ByteArray := prog_13_method_24_code
def yX11_leaves : MethodName := ⟨RX11, "leaves", "(III)V"⟩
abbrev cX11_flows : ByteArray := prog_13_method_25_code
def yX11_flows : MethodName := ⟨RX11, "flows", "(IIII)V"⟩
abbrev cX11_isShutNow : ByteArray := prog_13_method_26_code
def yX11_isShutNow : MethodName := ⟨RX11, "isShutNow", "()Z"⟩
abbrev cX11_closes : ByteArray := prog_13_method_27_code
def yX11_closes : MethodName := ⟨RX11, "closes", "(I)V"⟩
abbrev cX11_mouth : ByteArray := prog_13_method_28_code
def yX11_mouth : MethodName := ⟨RX11, "mouth", "(I)V"⟩
abbrev cX11_neighbours : ByteArray := prog_13_method_29_code
def yX11_neighbours : MethodName := ⟨RX11, "neighbours", "(I)V"⟩
abbrev cX11_mixes : ByteArray := prog_13_method_30_code
def yX11_mixes : MethodName := ⟨RX11, "mixes", "(I)V"⟩
abbrev cX11_settles : ByteArray := prog_13_method_31_code
def yX11_settles : MethodName := ⟨RX11, "settles", "(I)V"⟩
abbrev cX11_drinks : ByteArray := prog_13_method_32_code
def yX11_drinks : MethodName := ⟨RX11, "drinks", "(I)V"⟩
abbrev cX11_hour : ByteArray := prog_13_method_33_code
def yX11_hour : MethodName := ⟨RX11, "hour", "()V"⟩
abbrev cX11_pass : ByteArray := prog_13_method_34_code
def yX11_pass : MethodName := ⟨RX11, "pass", "(I)I"⟩
abbrev cX11_now : ByteArray := prog_13_method_35_code
def yX11_now : MethodName := ⟨RX11, "now", "()I"⟩
abbrev cX11_sea : ByteArray := prog_13_method_36_code
def yX11_sea : MethodName := ⟨RX11, "sea", "(I)I"⟩
abbrev cX11_ofSection : ByteArray := prog_13_method_37_code
def yX11_ofSection : MethodName := ⟨RX11, "ofSection", "(II)I"⟩
abbrev cX11_ofSectionAnew : ByteArray := prog_13_method_38_code
def yX11_ofSectionAnew : MethodName := ⟨RX11, "ofSectionAnew", "(II)I"⟩
abbrev cX11_ofIntake : ByteArray := prog_13_method_39_code
def yX11_ofIntake : MethodName := ⟨RX11, "ofIntake", "(II)I"⟩
abbrev cX11_isClosed : ByteArray := prog_13_method_40_code
def yX11_isClosed : MethodName := ⟨RX11, "isClosed", "(I)Z"⟩
abbrev cX11_closures : ByteArray := prog_13_method_41_code
def yX11_closures : MethodName := ⟨RX11, "closures", "()I"⟩
abbrev cX11_closure : ByteArray := prog_13_method_42_code
def yX11_closure : MethodName := ⟨RX11, "closure", "(II)I"⟩
abbrev cX11_intrusion : ByteArray := prog_13_method_43_code
def yX11_intrusion : MethodName := ⟨RX11, "intrusion", "(I)I"⟩
abbrev cX11_window : ByteArray := prog_13_method_44_code
def yX11_window : MethodName := ⟨RX11, "window", "(II)I"⟩
abbrev cX11_sum : ByteArray := prog_13_method_45_code
def yX11_sum : MethodName := ⟨RX11, "sum", "(I)J"⟩
def RJ9 : String := "java/lang/Math"
def TJ9 : u_T := fun k => match k with
  | _ => ("", "", "", false)
def tyJ9 : Nat → FieldType := fun k => match k with
  | _ => .int
abbrev wsJ90 : List Cond := u_ws RJ9 TJ9 0
theorem nmJ9 : ∀ a, a < 0 → ∀ b, b < 0 → a ≠ b → (TJ9 a).2.1 ≠ (TJ9 b).2.1 := by decide +kernel
theorem tyJ9_ok : ∀ k, k < 0 → parseFieldDescriptor (TJ9 k).2.2.1 = some (tyJ9 k) := by decide +kernel
abbrev cJ9_floorMod_7cf53 : ByteArray := prog_18_method_50_code
def yJ9_floorMod_7cf53 : MethodName := ⟨RJ9, "floorMod", "(II)I"⟩
abbrev cJ9_max_7cf53 : ByteArray := prog_18_method_65_code
def yJ9_max_7cf53 : MethodName := ⟨RJ9, "max", "(II)I"⟩
abbrev cJ9_min_7cf53 : ByteArray := prog_18_method_69_code
def yJ9_min_7cf53 : MethodName := ⟨RJ9, "min", "(II)I"⟩
def RJ0 : String := "java/lang/String"
def TJ0 : u_T := fun k => match k with
  | _ => ("", "", "", false)
def tyJ0 : Nat → FieldType := fun k => match k with
  | _ => .int
abbrev wsJ00 : List Cond := u_ws RJ0 TJ0 0
theorem nmJ0 : ∀ a, a < 0 → ∀ b, b < 0 → a ≠ b → (TJ0 a).2.1 ≠ (TJ0 b).2.1 := by decide +kernel
theorem tyJ0_ok : ∀ k, k < 0 → parseFieldDescriptor (TJ0 k).2.2.1 = some (tyJ0 k) := by decide +kernel
def RL : String := "SaltwedgeLaw"
abbrev cL_turn : ByteArray := method_3_code
def yL_turn : MethodName := ⟨RL, "turn", "(LSaltwedge;IIII[J)I"⟩
abbrev cL_mean : ByteArray := method_4_code
def yL_mean : MethodName := ⟨RL, "mean", "(LSaltwedge;I[J)I"⟩
abbrev cL_surge : ByteArray := method_5_code
def yL_surge : MethodName := ⟨RL, "surge", "(LSaltwedge;III[J)I"⟩
abbrev cL_river : ByteArray := method_6_code
def yL_river : MethodName := ⟨RL, "river", "(LSaltwedge;II[J)I"⟩
abbrev cL_barrier : ByteArray := method_7_code
def yL_barrier : MethodName := ⟨RL, "barrier", "(LSaltwedge;II[J)I"⟩
abbrev cL_section : ByteArray := method_8_code
def yL_section : MethodName := ⟨RL, "section", "(LSaltwedge;IIII[J)I"⟩
abbrev cL_intake : ByteArray := method_9_code
def yL_intake : MethodName := ⟨RL, "intake", "(LSaltwedge;IIIII[J)I"⟩
abbrev cL_oysters : ByteArray := method_10_code
def yL_oysters : MethodName := ⟨RL, "oysters", "(LSaltwedge;III[J)I"⟩
abbrev cL_permit : ByteArray := method_11_code
def yL_permit : MethodName := ⟨RL, "permit", "(LSaltwedge;II[J)I"⟩
abbrev cL_whyNot : ByteArray := method_12_code
def yL_whyNot : MethodName := ⟨RL, "whyNot", "(LSaltwedge;II[J)I"⟩
abbrev cL_dredge : ByteArray := method_13_code
def yL_dredge : MethodName := ⟨RL, "dredge", "(LSaltwedge;III[J)I"⟩
abbrev cL_pass : ByteArray := method_14_code
def yL_pass : MethodName := ⟨RL, "pass", "(LSaltwedge;I[J)I"⟩
abbrev cL_sea : ByteArray := method_15_code
def yL_sea : MethodName := ⟨RL, "sea", "(LSaltwedge;I[J)I"⟩
abbrev cL_ofSection : ByteArray := method_16_code
def yL_ofSection : MethodName := ⟨RL, "ofSection", "(LSaltwedge;II[J)I"⟩
abbrev cL_ofSectionAnew : ByteArray := method_17_code
def yL_ofSectionAnew : MethodName := ⟨RL, "ofSectionAnew", "(LSaltwedge;II[J)I"⟩
abbrev cL_ofIntake : ByteArray := method_18_code
def yL_ofIntake : MethodName := ⟨RL, "ofIntake", "(LSaltwedge;II[J)I"⟩
abbrev cL_isClosed : ByteArray := method_19_code
def yL_isClosed : MethodName := ⟨RL, "isClosed", "(LSaltwedge;I[J)I"⟩
abbrev cL_closure : ByteArray := method_20_code
def yL_closure : MethodName := ⟨RL, "closure", "(LSaltwedge;II[J)I"⟩
abbrev cL_intrusion : ByteArray := method_21_code
def yL_intrusion : MethodName := ⟨RL, "intrusion", "(LSaltwedge;I[J)I"⟩
abbrev cL_window : ByteArray := method_22_code
def yL_window : MethodName := ⟨RL, "window", "(LSaltwedge;II[J)I"⟩
abbrev cL_sum : ByteArray := method_23_code
def yL_sum : MethodName := ⟨RL, "sum", "(LSaltwedge;I[J)I"⟩
abbrev cL_law : ByteArray := code
def yL_law : MethodName := ⟨RL, "law", "([I)Z"⟩
def wsL_law0_r1 : List Cond := [Cond.classLink RL 8 RX10, Cond.instantiable RX10 5, Cond.initialized RX10, Cond.classLink RL 86 RX11, Cond.instantiable RX11 43, Cond.initialized RX11, Cond.arrayClass .long, Cond.methodLink RL 85 yX10_init, Cond.instanceMethod yX10_init, Cond.code yX10_init cX10_init 2 none, Cond.methodLink RX10 1 objectInit, Cond.instanceMethod objectInit, Cond.code objectInit ⟨#[0xb1]⟩ 1 none, Cond.classLink RX10 7 RX3, Cond.instantiable RX3 10, Cond.initialized RX3, Cond.fieldLink RX10 10 "Saltwedge" "live" "LSaltwedge$Mouth;", Cond.fieldLink RX10 16 "Saltwedge" "anew" "LSaltwedge$Mouth;", Cond.classLink RX10 19 RX8, Cond.instantiable RX8 2, Cond.initialized RX8, Cond.fieldLink RX10 22 "Saltwedge" "told" "LSaltwedge$Told;", Cond.classLink RX10 26 RX4, Cond.fieldLink RX10 28 "Saltwedge" "oysters" "[LSaltwedge$Oysters;"]
def wsL_law0_r2 : List Cond := [Cond.instantiable RX4 3, Cond.initialized RX4, Cond.methodLink RX10 9 yX3_init, Cond.instanceMethod yX3_init, Cond.code yX3_init cX3_init 2 none, Cond.methodLink RX3 3 objectInit, Cond.classLink RX3 9 RX5, Cond.instantiable RX5 6, Cond.initialized RX5, Cond.fieldLink RX3 12 "Saltwedge$Mouth" "sea" "LSaltwedge$Sea;", Cond.classLink RX3 18 RX0, Cond.instantiable RX0 7, Cond.initialized RX0, Cond.fieldLink RX3 21 "Saltwedge$Mouth" "barrier" "LSaltwedge$Barrier;", Cond.classLink RX3 25 RX6, Cond.fieldLink RX3 27 "Saltwedge$Mouth" "sections" "[LSaltwedge$Section;", Cond.classLink RX3 31 RX1, Cond.fieldLink RX3 33 "Saltwedge$Mouth" "intakes" "[LSaltwedge$Intake;", Cond.fieldLink RX3 37 "Saltwedge$Mouth" "sums" "[J", Cond.instantiable RX6 8, Cond.initialized RX6, Cond.instantiable RX1 10, Cond.initialized RX1, Cond.methodLink RX3 11 yX5_init]
def wsL_law0_r3 : List Cond := [Cond.instanceMethod yX5_init, Cond.code yX5_init cX5_init 2 none, Cond.methodLink RX5 3 objectInit, Cond.classLink RX5 9 RX9, Cond.fieldLink RX5 11 "Saltwedge$Sea" "turns" "[LSaltwedge$Turn;", Cond.classLink RX5 17 RX7, Cond.fieldLink RX5 19 "Saltwedge$Sea" "surges" "[LSaltwedge$Surge;", Cond.arrayClass .int, Cond.fieldLink RX5 23 "Saltwedge$Sea" "past" "[I", Cond.fieldLink RX5 27 "Saltwedge$Sea" "mean" "I", Cond.instantiable RX9 4, Cond.initialized RX9, Cond.instantiable RX7 3, Cond.initialized RX7, Cond.instanceMethod yX9_init, Cond.code yX9_init cX9_init 1 none, Cond.methodLink RX9 1 objectInit, Cond.instanceMethod yX7_init, Cond.code yX7_init cX7_init 1 none, Cond.methodLink RX7 1 objectInit, Cond.instanceMethod yX0_init, Cond.code yX0_init cX0_init 1 none, Cond.methodLink RX0 3 objectInit, Cond.fieldLink RX0 9 "Saltwedge$Barrier" "first" "[I"]
def wsL_law0_r4 : List Cond := [Cond.fieldLink RX0 15 "Saltwedge$Barrier" "last" "[I", Cond.arrayClass .boolean, Cond.fieldLink RX0 18 "Saltwedge$Barrier" "right" "[Z", Cond.fieldLink RX0 22 "Saltwedge$Barrier" "mark" "I", Cond.instanceMethod yX6_init, Cond.code yX6_init cX6_init 1 none, Cond.methodLink RX6 3 objectInit, Cond.classLink RX6 9 RX2, Cond.instantiable RX2 2, Cond.initialized RX2, Cond.fieldLink RX6 12 "Saltwedge$Section" "up" "LSaltwedge$Layer;", Cond.fieldLink RX6 18 "Saltwedge$Section" "low" "LSaltwedge$Layer;", Cond.fieldLink RX6 21 "Saltwedge$Section" "lowAtEnd" "[I", Cond.fieldLink RX6 25 "Saltwedge$Section" "area" "I", Cond.instanceMethod yX2_init, Cond.code yX2_init cX2_init 1 none, Cond.methodLink RX2 1 objectInit, Cond.instanceMethod yX1_init, Cond.code yX1_init cX1_init 1 none, Cond.methodLink RX1 3 objectInit, Cond.instanceMethod yX8_init, Cond.code yX8_init cX8_init 1 none, Cond.methodLink RX8 3 objectInit, Cond.fieldLink RX8 11 "Saltwedge$Told" "rows" "[I"]
def wsL_law0_r5 : List Cond := [Cond.instanceMethod yX4_init, Cond.code yX4_init cX4_init 1 none, Cond.methodLink RX4 1 objectInit, Cond.methodLink RL 88 yX11_init, Cond.instanceMethod yX11_init, Cond.code yX11_init cX11_init 1 none, Cond.methodLink RX11 1 objectInit, Cond.fieldLink RX11 7 "SaltwedgeModel" "mean" "I", Cond.fieldLink RX11 13 "SaltwedgeModel" "turn" "[I", Cond.fieldLink RX11 17 "SaltwedgeModel" "surge" "[I", Cond.fieldLink RX11 20 "SaltwedgeModel" "was" "[I", Cond.fieldLink RX11 23 "SaltwedgeModel" "mark" "I", Cond.fieldLink RX11 26 "SaltwedgeModel" "first" "[I", Cond.fieldLink RX11 29 "SaltwedgeModel" "latest" "[I", Cond.fieldLink RX11 32 "SaltwedgeModel" "isRight" "[Z", Cond.fieldLink RX11 36 "SaltwedgeModel" "area" "[I", Cond.fieldLink RX11 39 "SaltwedgeModel" "mud" "[I", Cond.fieldLink RX11 42 "SaltwedgeModel" "cloud" "[I", Cond.fieldLink RX11 45 "SaltwedgeModel" "run" "[I", Cond.fieldLink RX11 48 "SaltwedgeModel" "permit" "[I", Cond.fieldLink RX11 51 "SaltwedgeModel" "water" "[I", Cond.fieldLink RX11 54 "SaltwedgeModel" "salt" "[I", Cond.fieldLink RX11 57 "SaltwedgeModel" "tasted" "[I", Cond.fieldLink RX11 60 "SaltwedgeModel" "intakeAt" "[I"]
def wsL_law0_r6 : List Cond := [Cond.fieldLink RX11 63 "SaltwedgeModel" "rate" "[I", Cond.fieldLink RX11 66 "SaltwedgeModel" "intakeGrain" "[I", Cond.fieldLink RX11 69 "SaltwedgeModel" "room" "[I", Cond.fieldLink RX11 72 "SaltwedgeModel" "use" "[I", Cond.fieldLink RX11 75 "SaltwedgeModel" "kept" "[I", Cond.fieldLink RX11 78 "SaltwedgeModel" "took" "[I", Cond.fieldLink RX11 81 "SaltwedgeModel" "lacking" "[I", Cond.fieldLink RX11 84 "SaltwedgeModel" "stops" "[I", Cond.fieldLink RX11 87 "SaltwedgeModel" "isStopped" "[Z", Cond.fieldLink RX11 90 "SaltwedgeModel" "oystersAt" "[I", Cond.fieldLink RX11 93 "SaltwedgeModel" "oysterGrain" "[I", Cond.fieldLink RX11 96 "SaltwedgeModel" "oysterHours" "[I", Cond.fieldLink RX11 99 "SaltwedgeModel" "sums" "[J", Cond.methodLink RL 89 yL_turn, Cond.static yL_turn, Cond.initialized RL, Cond.codeWith yL_turn cL_turn 7 (some .int) [(0, 14, 17, 13), (0, 14, 21, 15)], Cond.classLink RL 13 "java/lang/IllegalArgumentException", Cond.classLink RL 15 "java/lang/IllegalStateException", Cond.methodLink RL 7 yX10_turn, Cond.instanceMethod yX10_turn, Cond.selects RX10 yX10_turn yX10_turn, Cond.code yX10_turn cX10_turn 6 (some .int), Cond.classLink RX10 37 "java/lang/IllegalArgumentException"]
def wsL_law0_r7 : List Cond := [Cond.initialized "java/lang/IllegalArgumentException", Cond.classLink RX10 56 "java/lang/IllegalStateException", Cond.initialized "java/lang/IllegalStateException", Cond.fieldLink RX10 46 "Saltwedge$Mouth" "sea" "LSaltwedge$Sea;", Cond.fieldLink RX10 50 "Saltwedge$Sea" "turnCount" "I", Cond.methodLink RX10 33 yX10_within, Cond.static yX10_within, Cond.code yX10_within cX10_within 3 (some .boolean), Cond.methodLink RX10 61 yX10_tell, Cond.instanceMethod yX10_tell, Cond.selects RX10 yX10_tell yX10_tell, Cond.code yX10_tell cX10_tell 7 none, Cond.fieldLink RX10 70 "Saltwedge$Mouth" "now" "I", Cond.methodLink RX10 236 yX8_keep, Cond.instanceMethod yX8_keep, Cond.selects RX8 yX8_keep yX8_keep, Cond.code yX8_keep cX8_keep 9 none, Cond.fieldLink RX8 15 "Saltwedge$Told" "count" "I", Cond.methodLink RX10 186 yX3_hear, Cond.instanceMethod yX3_hear, Cond.selects RX3 yX3_hear yX3_hear, Cond.code yX3_hear cX3_hear 7 none, Cond.fieldLink RX3 67 "Saltwedge$Sea" "mean" "I", Cond.fieldLink RX3 54 "Saltwedge$Mouth" "riverWater" "I"]
def wsL_law0_r8 : List Cond := [Cond.fieldLink RX3 57 "Saltwedge$Mouth" "riverSilt" "I", Cond.fieldLink RX3 74 "Saltwedge$Barrier" "mark" "I", Cond.fieldLink RX3 77 "Saltwedge$Barrier" "lead" "I", Cond.methodLink RX3 63 yX5_addTurn, Cond.instanceMethod yX5_addTurn, Cond.selects RX5 yX5_addTurn yX5_addTurn, Cond.code yX5_addTurn cX5_addTurn 6 none, Cond.fieldLink RX5 33 "Saltwedge$Sea" "turnCount" "I", Cond.fieldLink RX5 39 "Saltwedge$Turn" "period" "I", Cond.fieldLink RX5 42 "Saltwedge$Turn" "rise" "I", Cond.fieldLink RX5 45 "Saltwedge$Turn" "range" "I", Cond.fieldLink RX5 48 "Saltwedge$Turn" "phase" "I", Cond.methodLink RX3 70 yX5_addSurge, Cond.instanceMethod yX5_addSurge, Cond.selects RX5 yX5_addSurge yX5_addSurge, Cond.code yX5_addSurge cX5_addSurge 5 none, Cond.fieldLink RX5 36 "Saltwedge$Sea" "surgeCount" "I", Cond.fieldLink RX5 51 "Saltwedge$Surge" "from" "I", Cond.fieldLink RX5 54 "Saltwedge$Surge" "to" "I", Cond.fieldLink RX5 57 "Saltwedge$Surge" "height" "I", Cond.methodLink RX3 80 yX3_addSection, Cond.instanceMethod yX3_addSection, Cond.selects RX3 yX3_addSection yX3_addSection, Cond.code yX3_addSection cX3_addSection 5 none]
def wsL_law0_r9 : List Cond := [Cond.fieldLink RX3 47 "Saltwedge$Mouth" "sectionCount" "I", Cond.methodLink RX3 94 yX6_begin, Cond.instanceMethod yX6_begin, Cond.selects RX6 yX6_begin yX6_begin, Cond.code yX6_begin cX6_begin 5 none, Cond.fieldLink RX6 29 "Saltwedge$Section" "mud" "I", Cond.fieldLink RX6 36 "Saltwedge$Section" "cloud" "I", Cond.fieldLink RX6 39 "Saltwedge$Section" "run" "I", Cond.fieldLink RX6 42 "Saltwedge$Section" "permit" "I", Cond.methodLink RX6 32 yX2_begin, Cond.instanceMethod yX2_begin, Cond.selects RX2 yX2_begin yX2_begin, Cond.code yX2_begin cX2_begin 2 none, Cond.fieldLink RX2 7 "Saltwedge$Layer" "water" "I", Cond.fieldLink RX2 13 "Saltwedge$Layer" "salt" "I", Cond.methodLink RX3 83 yX3_addIntake, Cond.instanceMethod yX3_addIntake, Cond.selects RX3 yX3_addIntake yX3_addIntake, Cond.code yX3_addIntake cX3_addIntake 6 none, Cond.fieldLink RX3 51 "Saltwedge$Mouth" "intakeCount" "I", Cond.methodLink RX3 96 yX1_begin, Cond.instanceMethod yX1_begin, Cond.selects RX1 yX1_begin yX1_begin, Cond.code yX1_begin cX1_begin 6 none]
def wsL_law0_r10 : List Cond := [Cond.fieldLink RX1 9 "Saltwedge$Intake" "section" "I", Cond.fieldLink RX1 15 "Saltwedge$Intake" "rate" "I", Cond.fieldLink RX1 18 "Saltwedge$Intake" "grain" "I", Cond.fieldLink RX1 21 "Saltwedge$Intake" "room" "I", Cond.fieldLink RX1 24 "Saltwedge$Intake" "use" "I", Cond.fieldLink RX1 27 "Saltwedge$Intake" "held" "I", Cond.fieldLink RX1 30 "Saltwedge$Intake" "taken" "I", Cond.fieldLink RX1 33 "Saltwedge$Intake" "lacking" "I", Cond.fieldLink RX1 36 "Saltwedge$Intake" "stoppedHours" "I", Cond.fieldLink RX1 39 "Saltwedge$Intake" "stopped" "Z", Cond.methodLink RX3 87 yX3_setPermit, Cond.instanceMethod yX3_setPermit, Cond.selects RX3 yX3_setPermit yX3_setPermit, Cond.code yX3_setPermit cX3_setPermit 3 none, Cond.fieldLink RX3 102 "Saltwedge$Section" "permit" "I", Cond.methodLink RX3 98 yX3_hasSection, Cond.instanceMethod yX3_hasSection, Cond.selects RX3 yX3_hasSection yX3_hasSection, Cond.code yX3_hasSection cX3_hasSection 2 (some .boolean), Cond.methodLink RX3 91 yX3_moveMud, Cond.instanceMethod yX3_moveMud, Cond.selects RX3 yX3_moveMud yX3_moveMud, Cond.code yX3_moveMud cX3_moveMud 4 none, Cond.fieldLink RX3 105 "Saltwedge$Section" "mud" "I"]
def wsL_law0_r11 : List Cond := [Cond.fieldLink RX3 108 "Saltwedge$Section" "cloud" "I", Cond.methodLink RL 94 yX11_turn, Cond.instanceMethod yX11_turn, Cond.selects RX11 yX11_turn yX11_turn, Cond.code yX11_turn cX11_turn 6 (some .int), Cond.fieldLink RX11 113 "SaltwedgeModel" "turns" "I", Cond.methodLink RX11 109 yX11_isIn, Cond.static yX11_isIn, Cond.code yX11_isIn cX11_isIn 3 (some .boolean), Cond.methodLink RX11 116 yX11_holds, Cond.instanceMethod yX11_holds, Cond.selects RX11 yX11_holds yX11_holds, Cond.code yX11_holds cX11_holds 2 (some .boolean), Cond.fieldLink RX11 103 "SaltwedgeModel" "thrown" "I", Cond.methodLink RL 95 yX11_thrown, Cond.instanceMethod yX11_thrown, Cond.selects RX11 yX11_thrown yX11_thrown, Cond.code yX11_thrown cX11_thrown 1 (some .int), Cond.methodLink RL 99 yL_mean, Cond.static yL_mean, Cond.codeWith yL_mean cL_mean 4 (some .int) [(0, 9, 12, 13)], Cond.methodLink RL 17 yX10_mean, Cond.instanceMethod yX10_mean, Cond.selects RX10 yX10_mean yX10_mean]
def wsL_law0_r12 : List Cond := [Cond.code yX10_mean cX10_mean 3 (some .int), Cond.fieldLink RX10 67 "Saltwedge$Sea" "mean" "I", Cond.methodLink RL 102 yX11_mean, Cond.instanceMethod yX11_mean, Cond.selects RX11 yX11_mean yX11_mean, Cond.code yX11_mean cX11_mean 3 (some .int), Cond.methodLink RL 103 yL_surge, Cond.static yL_surge, Cond.codeWith yL_surge cL_surge 6 (some .int) [(0, 12, 15, 13), (0, 12, 19, 15)], Cond.methodLink RL 21 yX10_surge, Cond.instanceMethod yX10_surge, Cond.selects RX10 yX10_surge yX10_surge, Cond.code yX10_surge cX10_surge 4 (some .int), Cond.fieldLink RX10 75 "Saltwedge$Sea" "surgeCount" "I", Cond.methodLink RL 106 yX11_surge, Cond.instanceMethod yX11_surge, Cond.selects RX11 yX11_surge yX11_surge, Cond.code yX11_surge cX11_surge 5 (some .int), Cond.fieldLink RX11 120 "SaltwedgeModel" "now" "I", Cond.fieldLink RX11 123 "SaltwedgeModel" "surges" "I", Cond.methodLink RL 107 yL_river, Cond.static yL_river, Cond.codeWith yL_river cL_river 5 (some .int) [(0, 10, 13, 13)], Cond.methodLink RL 25 yX10_river]
def wsL_law0_r13 : List Cond := [Cond.instanceMethod yX10_river, Cond.selects RX10 yX10_river yX10_river, Cond.code yX10_river cX10_river 4 (some .int), Cond.fieldLink RX10 82 "Saltwedge$Mouth" "riverWater" "I", Cond.methodLink RL 110 yX11_river, Cond.instanceMethod yX11_river, Cond.selects RX11 yX11_river yX11_river, Cond.code yX11_river cX11_river 4 (some .int), Cond.fieldLink RX11 126 "SaltwedgeModel" "riverWater" "I", Cond.fieldLink RX11 129 "SaltwedgeModel" "riverSilt" "I", Cond.methodLink RL 111 yL_barrier, Cond.static yL_barrier, Cond.codeWith yL_barrier cL_barrier 5 (some .int) [(0, 10, 13, 13)], Cond.methodLink RL 29 yX10_barrier, Cond.instanceMethod yX10_barrier, Cond.selects RX10 yX10_barrier yX10_barrier, Cond.code yX10_barrier cX10_barrier 4 (some .int), Cond.fieldLink RX10 87 "Saltwedge$Mouth" "barrier" "LSaltwedge$Barrier;", Cond.fieldLink RX10 91 "Saltwedge$Barrier" "mark" "I", Cond.methodLink RL 113 yX11_barrier, Cond.instanceMethod yX11_barrier, Cond.selects RX11 yX11_barrier yX11_barrier, Cond.code yX11_barrier cX11_barrier 4 (some .int), Cond.fieldLink RX11 132 "SaltwedgeModel" "lead" "I"]
def wsL_law0_r14 : List Cond := [Cond.methodLink RL 114 yL_section, Cond.static yL_section, Cond.codeWith yL_section cL_section 7 (some .int) [(0, 14, 17, 13), (0, 14, 21, 15)], Cond.methodLink RL 32 yX10_section, Cond.instanceMethod yX10_section, Cond.selects RX10 yX10_section yX10_section, Cond.code yX10_section cX10_section 6 (some .int), Cond.fieldLink RX10 100 "Saltwedge$Mouth" "sectionCount" "I", Cond.methodLink RL 116 yX11_section, Cond.instanceMethod yX11_section, Cond.selects RX11 yX11_section yX11_section, Cond.code yX11_section cX11_section 6 (some .int), Cond.fieldLink RX11 106 "SaltwedgeModel" "sections" "I", Cond.methodLink RL 117 yL_intake, Cond.static yL_intake, Cond.codeWith yL_intake cL_intake 8 (some .int) [(0, 16, 19, 39), (0, 16, 23, 13), (0, 16, 27, 15)], Cond.classLink RL 39 "java/lang/IndexOutOfBoundsException", Cond.methodLink RL 35 yX10_intake, Cond.instanceMethod yX10_intake, Cond.selects RX10 yX10_intake yX10_intake, Cond.code yX10_intake cX10_intake 7 (some .int), Cond.classLink RX10 109 "java/lang/IndexOutOfBoundsException", Cond.initialized "java/lang/IndexOutOfBoundsException", Cond.fieldLink RX10 118 "Saltwedge$Mouth" "intakeCount" "I"]
def wsL_law0_r15 : List Cond := [Cond.methodLink RX10 105 yX3_hasSection, Cond.methodLink RL 120 yX11_intake, Cond.instanceMethod yX11_intake, Cond.selects RX11 yX11_intake yX11_intake, Cond.code yX11_intake cX11_intake 7 (some .int), Cond.fieldLink RX11 142 "SaltwedgeModel" "intakes" "I", Cond.methodLink RX11 139 yX11_isSection, Cond.instanceMethod yX11_isSection, Cond.selects RX11 yX11_isSection yX11_isSection, Cond.code yX11_isSection cX11_isSection 2 (some .boolean), Cond.methodLink RL 121 yL_oysters, Cond.static yL_oysters, Cond.codeWith yL_oysters cL_oysters 6 (some .int) [(0, 12, 15, 39), (0, 12, 19, 13), (0, 12, 23, 15)], Cond.methodLink RL 41 yX10_oysters, Cond.instanceMethod yX10_oysters, Cond.selects RX10 yX10_oysters yX10_oysters, Cond.code yX10_oysters cX10_oysters 5 (some .int), Cond.fieldLink RX10 125 "Saltwedge" "oysterCount" "I", Cond.fieldLink RX10 130 "Saltwedge$Oysters" "section" "I", Cond.fieldLink RX10 133 "Saltwedge$Oysters" "grain" "I", Cond.fieldLink RX10 136 "Saltwedge$Oysters" "hours" "I", Cond.methodLink RL 123 yX11_oysters, Cond.instanceMethod yX11_oysters, Cond.selects RX11 yX11_oysters yX11_oysters]
def wsL_law0_r16 : List Cond := [Cond.code yX11_oysters cX11_oysters 5 (some .int), Cond.fieldLink RX11 145 "SaltwedgeModel" "oysters" "I", Cond.methodLink RL 124 yL_permit, Cond.static yL_permit, Cond.codeWith yL_permit cL_permit 5 (some .int) [(0, 10, 13, 39), (0, 10, 17, 13)], Cond.methodLink RL 44 yX10_permit, Cond.instanceMethod yX10_permit, Cond.selects RX10 yX10_permit yX10_permit, Cond.code yX10_permit cX10_permit 4 (some .int), Cond.fieldLink RX10 141 "Saltwedge$Mouth" "sections" "[LSaltwedge$Section;", Cond.fieldLink RX10 145 "Saltwedge$Section" "permit" "I", Cond.methodLink RL 126 yX11_permit, Cond.instanceMethod yX11_permit, Cond.selects RX11 yX11_permit yX11_permit, Cond.code yX11_permit cX11_permit 4 (some .int), Cond.methodLink RL 127 yL_whyNot, Cond.static yL_whyNot, Cond.codeWith yL_whyNot cL_whyNot 5 (some .int) [(0, 10, 13, 39), (0, 10, 17, 13)], Cond.methodLink RL 47 yX10_whyNot, Cond.instanceMethod yX10_whyNot, Cond.selects RX10 yX10_whyNot yX10_whyNot, Cond.code yX10_whyNot cX10_whyNot 3 (some .int), Cond.methodLink RX10 150 yX6_refusal, Cond.instanceMethod yX6_refusal]
def wsL_law0_r17 : List Cond := [Cond.selects RX6 yX6_refusal yX6_refusal, Cond.code yX6_refusal cX6_refusal 2 (some .int), Cond.methodLink RL 129 yX11_whyNot, Cond.instanceMethod yX11_whyNot, Cond.selects RX11 yX11_whyNot yX11_whyNot, Cond.code yX11_whyNot cX11_whyNot 3 (some .int), Cond.methodLink RX11 148 yX11_why, Cond.instanceMethod yX11_why, Cond.selects RX11 yX11_why yX11_why, Cond.code yX11_why cX11_why 3 (some .int), Cond.methodLink RL 130 yL_dredge, Cond.static yL_dredge, Cond.codeWith yL_dredge cL_dredge 6 (some .int) [(0, 12, 15, 39), (0, 12, 19, 13), (0, 12, 23, 15)], Cond.methodLink RL 50 yX10_dredge, Cond.instanceMethod yX10_dredge, Cond.selects RX10 yX10_dredge yX10_dredge, Cond.code yX10_dredge cX10_dredge 4 (some .int), Cond.methodLink RL 132 yX11_dredge, Cond.instanceMethod yX11_dredge, Cond.selects RX11 yX11_dredge yX11_dredge, Cond.code yX11_dredge cX11_dredge 5 (some .int), Cond.methodLink RL 133 yL_pass, Cond.static yL_pass, Cond.codeWith yL_pass cL_pass 4 (some .int) [(0, 9, 12, 13), (0, 9, 15, 15)]]
def wsL_law0_r18 : List Cond := [Cond.methodLink RL 53 yX10_pass, Cond.instanceMethod yX10_pass, Cond.selects RX10 yX10_pass yX10_pass, Cond.code yX10_pass cX10_pass 2 (some .int), Cond.methodLink RX10 162 yX3_goOnTo, Cond.instanceMethod yX3_goOnTo, Cond.selects RX3 yX3_goOnTo yX3_goOnTo, Cond.code yX3_goOnTo cX3_goOnTo 3 none, Cond.methodLink RX3 119 Lib.Math.min.name, Cond.static Lib.Math.min.name, Cond.initialized "java/lang/Math", Cond.code Lib.Math.min.name Lib.Math.min.code 2 (some .int), Cond.fieldLink RX3 60 "Saltwedge$Mouth" "now" "I", Cond.methodLink RX3 125 yX3_letHourGoBy, Cond.instanceMethod yX3_letHourGoBy, Cond.selects RX3 yX3_letHourGoBy yX3_letHourGoBy, Cond.code yX3_letHourGoBy cX3_letHourGoBy 3 none, Cond.fieldLink RX3 128 "Saltwedge$Section" "run" "I", Cond.fieldLink RX3 135 "Saltwedge$Barrier" "closed" "Z", Cond.methodLink RX3 115 yX5_foretold, Cond.instanceMethod yX5_foretold, Cond.selects RX5 yX5_foretold yX5_foretold, Cond.code yX5_foretold cX5_foretold 4 (some .int), Cond.methodLink RX5 60 yX9_height]
def wsL_law0_r19 : List Cond := [Cond.instanceMethod yX9_height, Cond.selects RX9 yX9_height yX9_height, Cond.code yX9_height cX9_height 3 (some .int), Cond.fieldLink RX9 7 "Saltwedge$Turn" "rise" "I", Cond.fieldLink RX9 13 "Saltwedge$Turn" "period" "I", Cond.fieldLink RX9 16 "Saltwedge$Turn" "phase" "I", Cond.fieldLink RX9 19 "Saltwedge$Turn" "range" "I", Cond.methodLink RX3 131 yX0_look, Cond.instanceMethod yX0_look, Cond.selects RX0 yX0_look yX0_look, Cond.code yX0_look cX0_look 5 none, Cond.fieldLink RX0 32 "Saltwedge$Barrier" "closed" "Z", Cond.fieldLink RX0 29 "Saltwedge$Barrier" "lead" "I", Cond.fieldLink RX0 26 "Saltwedge$Barrier" "closureCount" "I", Cond.methodLink RX0 36 yX5_foretoldAbove, Cond.instanceMethod yX5_foretoldAbove, Cond.selects RX5 yX5_foretoldAbove yX5_foretoldAbove, Cond.code yX5_foretoldAbove cX5_foretoldAbove 5 (some .boolean), Cond.methodLink RX5 63 yX5_foretold, Cond.methodLink RX0 42 yX5_foretold, Cond.methodLink RX3 139 yX3_meetSea, Cond.instanceMethod yX3_meetSea, Cond.selects RX3 yX3_meetSea yX3_meetSea, Cond.code yX3_meetSea cX3_meetSea 5 none]
def wsL_law0_r20 : List Cond := [Cond.fieldLink RX3 173 "Saltwedge$Section" "area" "I", Cond.fieldLink RX3 176 "Saltwedge$Section" "low" "LSaltwedge$Layer;", Cond.fieldLink RX3 185 "Saltwedge$Section" "up" "LSaltwedge$Layer;", Cond.fieldLink RX3 188 "Saltwedge$Layer" "water" "I", Cond.methodLink RX3 170 yX6_level, Cond.instanceMethod yX6_level, Cond.selects RX6 yX6_level yX6_level, Cond.code yX6_level cX6_level 1 (some .int), Cond.fieldLink RX6 49 "Saltwedge$Layer" "water" "I", Cond.methodLink RX6 45 yX6_bed, Cond.instanceMethod yX6_bed, Cond.selects RX6 yX6_bed yX6_bed, Cond.code yX6_bed cX6_bed 1 (some .int), Cond.methodLink RX3 180 yX2_takeIn, Cond.instanceMethod yX2_takeIn, Cond.selects RX2 yX2_takeIn yX2_takeIn, Cond.code yX2_takeIn cX2_takeIn 3 none, Cond.methodLink RX3 191 yX6_giveCloud, Cond.instanceMethod yX6_giveCloud, Cond.selects RX6 yX6_giveCloud yX6_giveCloud, Cond.code yX6_giveCloud cX6_giveCloud 3 (some .int), Cond.static yX10_goesWith, Cond.code yX10_goesWith cX10_goesWith 3 (some .int), Cond.methodLink RX3 194 yX2_giveOut]
def wsL_law0_r21 : List Cond := [Cond.instanceMethod yX2_giveOut, Cond.selects RX2 yX2_giveOut yX2_giveOut, Cond.code yX2_giveOut cX2_giveOut 3 (some .int), Cond.methodLink RX3 143 yX3_meetRiver, Cond.instanceMethod yX3_meetRiver, Cond.selects RX3 yX3_meetRiver yX3_meetRiver, Cond.code yX3_meetRiver cX3_meetRiver 2 none, Cond.methodLink RX3 147 yX3_level, Cond.instanceMethod yX3_level, Cond.selects RX3 yX3_level yX3_level, Cond.code yX3_level cX3_level 6 none, Cond.methodLink RX3 197 yX3_flowInLow, Cond.instanceMethod yX3_flowInLow, Cond.selects RX3 yX3_flowInLow yX3_flowInLow, Cond.code yX3_flowInLow cX3_flowInLow 5 none, Cond.methodLink RX3 201 yX3_flowInUp, Cond.instanceMethod yX3_flowInUp, Cond.selects RX3 yX3_flowInUp yX3_flowInUp, Cond.code yX3_flowInUp cX3_flowInUp 6 none, Cond.methodLink RX3 151 yX3_creep, Cond.instanceMethod yX3_creep, Cond.selects RX3 yX3_creep yX3_creep, Cond.code yX3_creep cX3_creep 4 none, Cond.methodLink RX3 204 yX2_salinity]
def wsL_law0_r22 : List Cond := [Cond.instanceMethod yX2_salinity, Cond.selects RX2 yX2_salinity yX2_salinity, Cond.code yX2_salinity cX2_salinity 1 (some .int), Cond.methodLink RX3 154 yX6_mix, Cond.instanceMethod yX6_mix, Cond.selects RX6 yX6_mix yX6_mix, Cond.code yX6_mix cX6_mix 3 none, Cond.methodLink RX6 56 Lib.Math.min.name, Cond.fieldLink RX6 66 "Saltwedge$Layer" "salt" "I", Cond.methodLink RX6 62 yX2_saltWith, Cond.instanceMethod yX2_saltWith, Cond.selects RX2 yX2_saltWith yX2_saltWith, Cond.code yX2_saltWith cX2_saltWith 2 (some .int), Cond.methodLink RX3 157 yX6_settleOrLift, Cond.instanceMethod yX6_settleOrLift, Cond.selects RX6 yX6_settleOrLift yX6_settleOrLift, Cond.code yX6_settleOrLift cX6_settleOrLift 2 none, Cond.methodLink RX3 160 yX3_serveIntakes, Cond.instanceMethod yX3_serveIntakes, Cond.selects RX3 yX3_serveIntakes yX3_serveIntakes, Cond.code yX3_serveIntakes cX3_serveIntakes 3 none, Cond.fieldLink RX3 207 "Saltwedge$Intake" "section" "I", Cond.methodLink RX3 210 yX1_take, Cond.instanceMethod yX1_take]
def wsL_law0_r23 : List Cond := [Cond.selects RX1 yX1_take yX1_take, Cond.code yX1_take cX1_take 5 none, Cond.fieldLink RX1 43 "Saltwedge$Layer" "water" "I", Cond.methodLink RX1 52 Lib.Math.min.name, Cond.methodLink RX1 48 yX2_salinity, Cond.methodLink RX1 58 yX2_giveOut, Cond.methodLink RX3 214 yX1_supply, Cond.instanceMethod yX1_supply, Cond.selects RX1 yX1_supply yX1_supply, Cond.code yX1_supply cX1_supply 2 none, Cond.methodLink RX3 163 yX6_endHour, Cond.instanceMethod yX6_endHour, Cond.selects RX6 yX6_endHour yX6_endHour, Cond.code yX6_endHour cX6_endHour 2 none, Cond.methodLink RX6 69 yJ9_floorMod_7cf53, Cond.static yJ9_floorMod_7cf53, Cond.initialized RJ9, Cond.code yJ9_floorMod_7cf53 cJ9_floorMod_7cf53 3 (some .int), Cond.methodLink RX6 72 yX2_salinity, Cond.methodLink RX3 167 yX5_keep, Cond.instanceMethod yX5_keep, Cond.selects RX5 yX5_keep yX5_keep, Cond.code yX5_keep cX5_keep 3 none, Cond.methodLink RL 135 yX11_pass]
def wsL_law0_r24 : List Cond := [Cond.instanceMethod yX11_pass, Cond.selects RX11 yX11_pass yX11_pass, Cond.code yX11_pass cX11_pass 3 (some .int), Cond.methodLink RX11 208 yX11_hour, Cond.instanceMethod yX11_hour, Cond.selects RX11 yX11_hour yX11_hour, Cond.code yX11_hour cX11_hour 4 none, Cond.methodLink RX11 169 yX11_seaOf, Cond.instanceMethod yX11_seaOf, Cond.selects RX11 yX11_seaOf yX11_seaOf, Cond.code yX11_seaOf cX11_seaOf 4 (some .int), Cond.methodLink RX11 135 yX11_heightOf, Cond.instanceMethod yX11_heightOf, Cond.selects RX11 yX11_heightOf yX11_heightOf, Cond.code yX11_heightOf cX11_heightOf 7 (some .int), Cond.methodLink RX11 185 yX11_isShutNow, Cond.instanceMethod yX11_isShutNow, Cond.selects RX11 yX11_isShutNow yX11_isShutNow, Cond.code yX11_isShutNow cX11_isShutNow 3 (some .boolean), Cond.methodLink RX11 189 yX11_closes, Cond.instanceMethod yX11_closes, Cond.selects RX11 yX11_closes yX11_closes, Cond.code yX11_closes cX11_closes 3 none, Cond.fieldLink RX11 172 "SaltwedgeModel" "closures" "I"]
def wsL_law0_r25 : List Cond := [Cond.methodLink RX11 193 yX11_mouth, Cond.instanceMethod yX11_mouth, Cond.selects RX11 yX11_mouth yX11_mouth, Cond.code yX11_mouth cX11_mouth 4 none, Cond.fieldLink RX11 159 "SaltwedgeModel" "saltGone" "I", Cond.fieldLink RX11 162 "SaltwedgeModel" "cloudGone" "I", Cond.methodLink RX11 175 yX11_level, Cond.instanceMethod yX11_level, Cond.selects RX11 yX11_level yX11_level, Cond.code yX11_level cX11_level 2 (some .int), Cond.methodLink RX11 151 yX11_bed, Cond.instanceMethod yX11_bed, Cond.selects RX11 yX11_bed yX11_bed, Cond.code yX11_bed cX11_bed 2 (some .int), Cond.methodLink RX11 165 yX11_leaves, Cond.instanceMethod yX11_leaves, Cond.selects RX11 yX11_leaves yX11_leaves, Cond.code yX11_leaves cX11_leaves 5 none, Cond.methodLink RX11 155 yX11_share, Cond.static yX11_share, Cond.code yX11_share cX11_share 3 (some .int), Cond.methodLink RX11 196 yX11_neighbours, Cond.instanceMethod yX11_neighbours, Cond.selects RX11 yX11_neighbours yX11_neighbours]
def wsL_law0_r26 : List Cond := [Cond.code yX11_neighbours cX11_neighbours 7 none, Cond.methodLink RX11 178 yX11_flows, Cond.instanceMethod yX11_flows, Cond.selects RX11 yX11_flows yX11_flows, Cond.code yX11_flows cX11_flows 5 none, Cond.methodLink RX11 182 yX11_salinity, Cond.instanceMethod yX11_salinity, Cond.selects RX11 yX11_salinity yX11_salinity, Cond.code yX11_salinity cX11_salinity 4 (some .int), Cond.methodLink RX11 199 yX11_mixes, Cond.instanceMethod yX11_mixes, Cond.selects RX11 yX11_mixes yX11_mixes, Cond.code yX11_mixes cX11_mixes 4 none, Cond.methodLink RX11 202 yX11_settles, Cond.instanceMethod yX11_settles, Cond.selects RX11 yX11_settles yX11_settles, Cond.code yX11_settles cX11_settles 3 none, Cond.methodLink RX11 205 yX11_drinks, Cond.instanceMethod yX11_drinks, Cond.selects RX11 yX11_drinks yX11_drinks, Cond.code yX11_drinks cX11_drinks 5 none, Cond.methodLink RL 136 yX10_now, Cond.instanceMethod yX10_now, Cond.selects RX10 yX10_now yX10_now]
def wsL_law0_r27 : List Cond := [Cond.code yX10_now cX10_now 1 (some .int), Cond.methodLink RL 139 yX11_now, Cond.instanceMethod yX11_now, Cond.selects RX11 yX11_now yX11_now, Cond.code yX11_now cX11_now 1 (some .int), Cond.methodLink RL 140 yL_sea, Cond.static yL_sea, Cond.codeWith yL_sea cL_sea 4 (some .int) [(0, 9, 12, 13)], Cond.methodLink RL 56 yX10_sea, Cond.instanceMethod yX10_sea, Cond.selects RX10 yX10_sea yX10_sea, Cond.code yX10_sea cX10_sea 2 (some .int), Cond.methodLink RX10 168 yX3_seaOf, Cond.instanceMethod yX3_seaOf, Cond.selects RX3 yX3_seaOf yX3_seaOf, Cond.code yX3_seaOf cX3_seaOf 2 (some .int), Cond.fieldLink RX3 111 "Saltwedge$Sea" "past" "[I", Cond.methodLink RL 142 yX11_sea, Cond.instanceMethod yX11_sea, Cond.selects RX11 yX11_sea yX11_sea, Cond.code yX11_sea cX11_sea 2 (some .int), Cond.methodLink RL 143 yL_ofSection, Cond.static yL_ofSection, Cond.codeWith yL_ofSection cL_ofSection 5 (some .int) [(0, 10, 13, 39), (0, 10, 17, 13)]]
def wsL_law0_r28 : List Cond := [Cond.methodLink RL 59 yX10_ofSection, Cond.instanceMethod yX10_ofSection, Cond.selects RX10 yX10_ofSection yX10_ofSection, Cond.code yX10_ofSection cX10_ofSection 3 (some .int), Cond.methodLink RX10 173 yX6_answer, Cond.instanceMethod yX6_answer, Cond.selects RX6 yX6_answer yX6_answer, Cond.code yX6_answer cX6_answer 2 (some .int), Cond.methodLink RX6 78 yX6_level, Cond.methodLink RL 145 yX11_ofSection, Cond.instanceMethod yX11_ofSection, Cond.selects RX11 yX11_ofSection yX11_ofSection, Cond.code yX11_ofSection cX11_ofSection 4 (some .int), Cond.methodLink RL 146 yL_ofSectionAnew, Cond.static yL_ofSectionAnew, Cond.codeWith yL_ofSectionAnew cL_ofSectionAnew 5 (some .int) [(0, 10, 13, 39), (0, 10, 17, 13)], Cond.methodLink RL 62 yX10_ofSectionAnew, Cond.instanceMethod yX10_ofSectionAnew, Cond.selects RX10 yX10_ofSectionAnew yX10_ofSectionAnew, Cond.code yX10_ofSectionAnew cX10_ofSectionAnew 4 (some .int), Cond.fieldLink RX10 179 "Saltwedge$Told" "count" "I", Cond.methodLink RX10 176 yX3_begin, Cond.instanceMethod yX3_begin, Cond.selects RX3 yX3_begin yX3_begin]
def wsL_law0_r29 : List Cond := [Cond.code yX3_begin cX3_begin 2 none, Cond.methodLink RX3 43 yX5_begin, Cond.instanceMethod yX5_begin, Cond.selects RX5 yX5_begin yX5_begin, Cond.code yX5_begin cX5_begin 1 none, Cond.methodLink RX3 46 yX0_begin, Cond.instanceMethod yX0_begin, Cond.selects RX0 yX0_begin yX0_begin, Cond.code yX0_begin cX0_begin 1 none, Cond.methodLink RX10 182 yX8_part, Cond.instanceMethod yX8_part, Cond.selects RX8 yX8_part yX8_part, Cond.code yX8_part cX8_part 4 (some .int), Cond.methodLink RL 148 yX11_ofSectionAnew, Cond.instanceMethod yX11_ofSectionAnew, Cond.selects RX11 yX11_ofSectionAnew yX11_ofSectionAnew, Cond.code yX11_ofSectionAnew cX11_ofSectionAnew 3 (some .int), Cond.methodLink RX11 211 yX11_ofSection, Cond.methodLink RL 149 yL_ofIntake, Cond.static yL_ofIntake, Cond.codeWith yL_ofIntake cL_ofIntake 5 (some .int) [(0, 10, 13, 39), (0, 10, 17, 13)], Cond.methodLink RL 65 yX10_ofIntake, Cond.instanceMethod yX10_ofIntake, Cond.selects RX10 yX10_ofIntake yX10_ofIntake]
def wsL_law0_r30 : List Cond := [Cond.code yX10_ofIntake cX10_ofIntake 3 (some .int), Cond.fieldLink RX10 191 "Saltwedge$Mouth" "intakes" "[LSaltwedge$Intake;", Cond.methodLink RX10 195 yX1_answer, Cond.instanceMethod yX1_answer, Cond.selects RX1 yX1_answer yX1_answer, Cond.code yX1_answer cX1_answer 2 (some .int), Cond.methodLink RL 151 yX11_ofIntake, Cond.instanceMethod yX11_ofIntake, Cond.selects RX11 yX11_ofIntake yX11_ofIntake, Cond.code yX11_ofIntake cX11_ofIntake 3 (some .int), Cond.methodLink RL 152 yL_isClosed, Cond.static yL_isClosed, Cond.codeWith yL_isClosed cL_isClosed 4 (some .int) [(0, 16, 19, 39)], Cond.methodLink RL 68 yX10_isClosed, Cond.instanceMethod yX10_isClosed, Cond.selects RX10 yX10_isClosed yX10_isClosed, Cond.code yX10_isClosed cX10_isClosed 3 (some .boolean), Cond.methodLink RX10 200 yX6_wasFresher, Cond.instanceMethod yX6_wasFresher, Cond.selects RX6 yX6_wasFresher yX6_wasFresher, Cond.code yX6_wasFresher cX6_wasFresher 5 (some .boolean), Cond.methodLink RX6 75 Lib.Math.max.name, Cond.static Lib.Math.max.name, Cond.code Lib.Math.max.name Lib.Math.max.code 2 (some .int)]
def wsL_law0_r31 : List Cond := [Cond.methodLink RL 154 yX11_isClosed, Cond.instanceMethod yX11_isClosed, Cond.selects RX11 yX11_isClosed yX11_isClosed, Cond.code yX11_isClosed cX11_isClosed 4 (some .boolean), Cond.methodLink RL 155 yX10_closures, Cond.instanceMethod yX10_closures, Cond.selects RX10 yX10_closures yX10_closures, Cond.code yX10_closures cX10_closures 1 (some .int), Cond.fieldLink RX10 203 "Saltwedge$Barrier" "closureCount" "I", Cond.methodLink RL 158 yX11_closures, Cond.instanceMethod yX11_closures, Cond.selects RX11 yX11_closures yX11_closures, Cond.code yX11_closures cX11_closures 1 (some .int), Cond.methodLink RL 159 yL_closure, Cond.static yL_closure, Cond.codeWith yL_closure cL_closure 5 (some .int) [(0, 10, 13, 39), (0, 10, 17, 13)], Cond.methodLink RL 72 yX10_closure, Cond.instanceMethod yX10_closure, Cond.selects RX10 yX10_closure yX10_closure, Cond.code yX10_closure cX10_closure 3 (some .int), Cond.methodLink RX10 208 yX0_answer, Cond.instanceMethod yX0_answer, Cond.selects RX0 yX0_answer yX0_answer, Cond.code yX0_answer cX0_answer 3 (some .int)]
def wsL_law0_r32 : List Cond := [Cond.methodLink RL 161 yX11_closure, Cond.instanceMethod yX11_closure, Cond.selects RX11 yX11_closure yX11_closure, Cond.code yX11_closure cX11_closure 3 (some .int), Cond.methodLink RL 162 yL_intrusion, Cond.static yL_intrusion, Cond.codeWith yL_intrusion cL_intrusion 4 (some .int) [(0, 9, 12, 13)], Cond.methodLink RL 75 yX10_intrusion, Cond.instanceMethod yX10_intrusion, Cond.selects RX10 yX10_intrusion yX10_intrusion, Cond.code yX10_intrusion cX10_intrusion 3 (some .int), Cond.fieldLink RX10 212 "Saltwedge$Section" "low" "LSaltwedge$Layer;", Cond.methodLink RX10 216 yX2_salinity, Cond.methodLink RL 164 yX11_intrusion, Cond.instanceMethod yX11_intrusion, Cond.selects RX11 yX11_intrusion yX11_intrusion, Cond.code yX11_intrusion cX11_intrusion 3 (some .int), Cond.methodLink RL 165 yL_window, Cond.static yL_window, Cond.codeWith yL_window cL_window 5 (some .int) [(0, 10, 13, 13), (0, 10, 17, 15)], Cond.methodLink RL 78 yX10_window, Cond.instanceMethod yX10_window, Cond.selects RX10 yX10_window yX10_window, Cond.code yX10_window cX10_window 3 (some .int)]
def wsL_law0_r33 : List Cond := [Cond.methodLink RX10 226 yX6_bed, Cond.methodLink RX10 229 yX3_firstHourAt, Cond.instanceMethod yX3_firstHourAt, Cond.selects RX3 yX3_firstHourAt yX3_firstHourAt, Cond.code yX3_firstHourAt cX3_firstHourAt 5 (some .int), Cond.methodLink RL 167 yX11_window, Cond.instanceMethod yX11_window, Cond.selects RX11 yX11_window yX11_window, Cond.code yX11_window cX11_window 6 (some .int), Cond.methodLink RL 168 yL_sum, Cond.static yL_sum, Cond.codeWith yL_sum cL_sum 4 (some .int) [(0, 8, 11, 13)], Cond.methodLink RL 81 yX10_sum, Cond.instanceMethod yX10_sum, Cond.selects RX10 yX10_sum yX10_sum, Cond.code yX10_sum cX10_sum 2 (some .long), Cond.fieldLink RX10 232 "Saltwedge$Mouth" "sums" "[J", Cond.methodLink RL 170 yX11_sum, Cond.instanceMethod yX11_sum, Cond.selects RX11 yX11_sum yX11_sum, Cond.code yX11_sum cX11_sum 2 (some .long)]
def wsL_law0 : List Cond := (wsL_law0_r1 ++ (wsL_law0_r2 ++ (wsL_law0_r3 ++ (wsL_law0_r4 ++ (wsL_law0_r5 ++ (wsL_law0_r6 ++ (wsL_law0_r7 ++ (wsL_law0_r8 ++ (wsL_law0_r9 ++ (wsL_law0_r10 ++ (wsL_law0_r11 ++ (wsL_law0_r12 ++ (wsL_law0_r13 ++ (wsL_law0_r14 ++ (wsL_law0_r15 ++ (wsL_law0_r16 ++ (wsL_law0_r17 ++ (wsL_law0_r18 ++ (wsL_law0_r19 ++ (wsL_law0_r20 ++ (wsL_law0_r21 ++ (wsL_law0_r22 ++ (wsL_law0_r23 ++ (wsL_law0_r24 ++ (wsL_law0_r25 ++ (wsL_law0_r26 ++ (wsL_law0_r27 ++ (wsL_law0_r28 ++ (wsL_law0_r29 ++ (wsL_law0_r30 ++ (wsL_law0_r31 ++ (wsL_law0_r32 ++ wsL_law0_r33)))))))))))))))))))))))))))))))) ++ wsX100 ++ wsX110 ++ wsX30 ++ wsX80 ++ wsX40 ++ wsX50 ++ wsX00 ++ wsX60 ++ wsX10 ++ wsX90 ++ wsX70 ++ wsX20 ++ ([] : List Cond)
def wsL_law : List Cond := wsL_law0 ++ (vx_atS RX10 41 "java/lang/IllegalArgumentException" ["java/lang/RuntimeException", "java/lang/Exception"]).filter goodWord ++ (vx_atS RX10 60 "java/lang/IllegalStateException" ["java/lang/RuntimeException", "java/lang/Exception"]).filter goodWord ++ (vx_atS RX10 113 "java/lang/IndexOutOfBoundsException" ["java/lang/RuntimeException", "java/lang/Exception"]).filter goodWord
theorem inlX0 : ∀ w ∈ wsX00, w ∈ wsL_law := fun _ h => List.mem_append_left _ (List.mem_append_left _ (List.mem_append_left _ (List.mem_append_left _ (List.mem_append_left _ (List.mem_append_left _ (List.mem_append_left _ (List.mem_append_left _ (List.mem_append_left _ (List.mem_append_right _ h)))))))))
theorem inlX1 : ∀ w ∈ wsX10, w ∈ wsL_law := fun _ h => List.mem_append_left _ (List.mem_append_left _ (List.mem_append_left _ (List.mem_append_left _ (List.mem_append_left _ (List.mem_append_left _ (List.mem_append_left _ (List.mem_append_right _ h)))))))
theorem inlX2 : ∀ w ∈ wsX20, w ∈ wsL_law := fun _ h => List.mem_append_left _ (List.mem_append_left _ (List.mem_append_left _ (List.mem_append_left _ (List.mem_append_right _ h))))
theorem inlX3 : ∀ w ∈ wsX30, w ∈ wsL_law := fun _ h => List.mem_append_left _ (List.mem_append_left _ (List.mem_append_left _ (List.mem_append_left _ (List.mem_append_left _ (List.mem_append_left _ (List.mem_append_left _ (List.mem_append_left _ (List.mem_append_left _ (List.mem_append_left _ (List.mem_append_left _ (List.mem_append_left _ (List.mem_append_left _ (List.mem_append_right _ h)))))))))))))
theorem inlX4 : ∀ w ∈ wsX40, w ∈ wsL_law := fun _ h => List.mem_append_left _ (List.mem_append_left _ (List.mem_append_left _ (List.mem_append_left _ (List.mem_append_left _ (List.mem_append_left _ (List.mem_append_left _ (List.mem_append_left _ (List.mem_append_left _ (List.mem_append_left _ (List.mem_append_left _ (List.mem_append_right _ h)))))))))))
theorem inlX5 : ∀ w ∈ wsX50, w ∈ wsL_law := fun _ h => List.mem_append_left _ (List.mem_append_left _ (List.mem_append_left _ (List.mem_append_left _ (List.mem_append_left _ (List.mem_append_left _ (List.mem_append_left _ (List.mem_append_left _ (List.mem_append_left _ (List.mem_append_left _ (List.mem_append_right _ h))))))))))
theorem inlX6 : ∀ w ∈ wsX60, w ∈ wsL_law := fun _ h => List.mem_append_left _ (List.mem_append_left _ (List.mem_append_left _ (List.mem_append_left _ (List.mem_append_left _ (List.mem_append_left _ (List.mem_append_left _ (List.mem_append_left _ (List.mem_append_right _ h))))))))
theorem inlX7 : ∀ w ∈ wsX70, w ∈ wsL_law := fun _ h => List.mem_append_left _ (List.mem_append_left _ (List.mem_append_left _ (List.mem_append_left _ (List.mem_append_left _ (List.mem_append_right _ h)))))
theorem inlX8 : ∀ w ∈ wsX80, w ∈ wsL_law := fun _ h => List.mem_append_left _ (List.mem_append_left _ (List.mem_append_left _ (List.mem_append_left _ (List.mem_append_left _ (List.mem_append_left _ (List.mem_append_left _ (List.mem_append_left _ (List.mem_append_left _ (List.mem_append_left _ (List.mem_append_left _ (List.mem_append_left _ (List.mem_append_right _ h))))))))))))
theorem inlX9 : ∀ w ∈ wsX90, w ∈ wsL_law := fun _ h => List.mem_append_left _ (List.mem_append_left _ (List.mem_append_left _ (List.mem_append_left _ (List.mem_append_left _ (List.mem_append_left _ (List.mem_append_right _ h))))))
theorem inlX10 : ∀ w ∈ wsX100, w ∈ wsL_law := fun _ h => List.mem_append_left _ (List.mem_append_left _ (List.mem_append_left _ (List.mem_append_left _ (List.mem_append_left _ (List.mem_append_left _ (List.mem_append_left _ (List.mem_append_left _ (List.mem_append_left _ (List.mem_append_left _ (List.mem_append_left _ (List.mem_append_left _ (List.mem_append_left _ (List.mem_append_left _ (List.mem_append_left _ (List.mem_append_right _ h)))))))))))))))
theorem inlX11 : ∀ w ∈ wsX110, w ∈ wsL_law := fun _ h => List.mem_append_left _ (List.mem_append_left _ (List.mem_append_left _ (List.mem_append_left _ (List.mem_append_left _ (List.mem_append_left _ (List.mem_append_left _ (List.mem_append_left _ (List.mem_append_left _ (List.mem_append_left _ (List.mem_append_left _ (List.mem_append_left _ (List.mem_append_left _ (List.mem_append_left _ (List.mem_append_right _ h))))))))))))))
abbrev vwCl : List vw_C := [(RX0, TX0, 7), (RX1, TX1, 10), (RX2, TX2, 2), (RX3, TX3, 10), (RX4, TX4, 3), (RX5, TX5, 6), (RX6, TX6, 8), (RX7, TX7, 3), (RX8, TX8, 2), (RX9, TX9, 4), (RX10, TX10, 5), (RX11, TX11, 43)]


theorem u_0in : ∀ w ∈ wsL_law0, w ∈ wsL_law := fun w h => List.mem_append_left _ (List.mem_append_left _ (List.mem_append_left _ h))
theorem u_r1 : ∀ w ∈ wsL_law0_r1, w ∈ wsL_law := fun w h => u_0in w (List.mem_append_left _ (List.mem_append_left _ (List.mem_append_left _ (List.mem_append_left _ (List.mem_append_left _ (List.mem_append_left _ (List.mem_append_left _ (List.mem_append_left _ (List.mem_append_left _ (List.mem_append_left _ (List.mem_append_left _ (List.mem_append_left _ (List.mem_append_left _ (List.mem_append_left _ h))))))))))))))
theorem u_r2 : ∀ w ∈ wsL_law0_r2, w ∈ wsL_law := fun w h => u_0in w (List.mem_append_left _ (List.mem_append_left _ (List.mem_append_left _ (List.mem_append_left _ (List.mem_append_left _ (List.mem_append_left _ (List.mem_append_left _ (List.mem_append_left _ (List.mem_append_left _ (List.mem_append_left _ (List.mem_append_left _ (List.mem_append_left _ (List.mem_append_left _ (List.mem_append_right _ (List.mem_append_left _ h)))))))))))))))
theorem u_r3 : ∀ w ∈ wsL_law0_r3, w ∈ wsL_law := fun w h => u_0in w (List.mem_append_left _ (List.mem_append_left _ (List.mem_append_left _ (List.mem_append_left _ (List.mem_append_left _ (List.mem_append_left _ (List.mem_append_left _ (List.mem_append_left _ (List.mem_append_left _ (List.mem_append_left _ (List.mem_append_left _ (List.mem_append_left _ (List.mem_append_left _ (List.mem_append_right _ (List.mem_append_right _ (List.mem_append_left _ h))))))))))))))))
theorem u_r4 : ∀ w ∈ wsL_law0_r4, w ∈ wsL_law := fun w h => u_0in w (List.mem_append_left _ (List.mem_append_left _ (List.mem_append_left _ (List.mem_append_left _ (List.mem_append_left _ (List.mem_append_left _ (List.mem_append_left _ (List.mem_append_left _ (List.mem_append_left _ (List.mem_append_left _ (List.mem_append_left _ (List.mem_append_left _ (List.mem_append_left _ (List.mem_append_right _ (List.mem_append_right _ (List.mem_append_right _ (List.mem_append_left _ h)))))))))))))))))
theorem u_r5 : ∀ w ∈ wsL_law0_r5, w ∈ wsL_law := fun w h => u_0in w (List.mem_append_left _ (List.mem_append_left _ (List.mem_append_left _ (List.mem_append_left _ (List.mem_append_left _ (List.mem_append_left _ (List.mem_append_left _ (List.mem_append_left _ (List.mem_append_left _ (List.mem_append_left _ (List.mem_append_left _ (List.mem_append_left _ (List.mem_append_left _ (List.mem_append_right _ (List.mem_append_right _ (List.mem_append_right _ (List.mem_append_right _ (List.mem_append_left _ h))))))))))))))))))
theorem u_r6 : ∀ w ∈ wsL_law0_r6, w ∈ wsL_law := fun w h => u_0in w (List.mem_append_left _ (List.mem_append_left _ (List.mem_append_left _ (List.mem_append_left _ (List.mem_append_left _ (List.mem_append_left _ (List.mem_append_left _ (List.mem_append_left _ (List.mem_append_left _ (List.mem_append_left _ (List.mem_append_left _ (List.mem_append_left _ (List.mem_append_left _ (List.mem_append_right _ (List.mem_append_right _ (List.mem_append_right _ (List.mem_append_right _ (List.mem_append_right _ (List.mem_append_left _ h)))))))))))))))))))
theorem u_r7 : ∀ w ∈ wsL_law0_r7, w ∈ wsL_law := fun w h => u_0in w (List.mem_append_left _ (List.mem_append_left _ (List.mem_append_left _ (List.mem_append_left _ (List.mem_append_left _ (List.mem_append_left _ (List.mem_append_left _ (List.mem_append_left _ (List.mem_append_left _ (List.mem_append_left _ (List.mem_append_left _ (List.mem_append_left _ (List.mem_append_left _ (List.mem_append_right _ (List.mem_append_right _ (List.mem_append_right _ (List.mem_append_right _ (List.mem_append_right _ (List.mem_append_right _ (List.mem_append_left _ h))))))))))))))))))))
theorem u_r8 : ∀ w ∈ wsL_law0_r8, w ∈ wsL_law := fun w h => u_0in w (List.mem_append_left _ (List.mem_append_left _ (List.mem_append_left _ (List.mem_append_left _ (List.mem_append_left _ (List.mem_append_left _ (List.mem_append_left _ (List.mem_append_left _ (List.mem_append_left _ (List.mem_append_left _ (List.mem_append_left _ (List.mem_append_left _ (List.mem_append_left _ (List.mem_append_right _ (List.mem_append_right _ (List.mem_append_right _ (List.mem_append_right _ (List.mem_append_right _ (List.mem_append_right _ (List.mem_append_right _ (List.mem_append_left _ h)))))))))))))))))))))
theorem u_r9 : ∀ w ∈ wsL_law0_r9, w ∈ wsL_law := fun w h => u_0in w (List.mem_append_left _ (List.mem_append_left _ (List.mem_append_left _ (List.mem_append_left _ (List.mem_append_left _ (List.mem_append_left _ (List.mem_append_left _ (List.mem_append_left _ (List.mem_append_left _ (List.mem_append_left _ (List.mem_append_left _ (List.mem_append_left _ (List.mem_append_left _ (List.mem_append_right _ (List.mem_append_right _ (List.mem_append_right _ (List.mem_append_right _ (List.mem_append_right _ (List.mem_append_right _ (List.mem_append_right _ (List.mem_append_right _ (List.mem_append_left _ h))))))))))))))))))))))
theorem u_r10 : ∀ w ∈ wsL_law0_r10, w ∈ wsL_law := fun w h => u_0in w (List.mem_append_left _ (List.mem_append_left _ (List.mem_append_left _ (List.mem_append_left _ (List.mem_append_left _ (List.mem_append_left _ (List.mem_append_left _ (List.mem_append_left _ (List.mem_append_left _ (List.mem_append_left _ (List.mem_append_left _ (List.mem_append_left _ (List.mem_append_left _ (List.mem_append_right _ (List.mem_append_right _ (List.mem_append_right _ (List.mem_append_right _ (List.mem_append_right _ (List.mem_append_right _ (List.mem_append_right _ (List.mem_append_right _ (List.mem_append_right _ (List.mem_append_left _ h)))))))))))))))))))))))
theorem u_r11 : ∀ w ∈ wsL_law0_r11, w ∈ wsL_law := fun w h => u_0in w (List.mem_append_left _ (List.mem_append_left _ (List.mem_append_left _ (List.mem_append_left _ (List.mem_append_left _ (List.mem_append_left _ (List.mem_append_left _ (List.mem_append_left _ (List.mem_append_left _ (List.mem_append_left _ (List.mem_append_left _ (List.mem_append_left _ (List.mem_append_left _ (List.mem_append_right _ (List.mem_append_right _ (List.mem_append_right _ (List.mem_append_right _ (List.mem_append_right _ (List.mem_append_right _ (List.mem_append_right _ (List.mem_append_right _ (List.mem_append_right _ (List.mem_append_right _ (List.mem_append_left _ h))))))))))))))))))))))))
theorem u_r12 : ∀ w ∈ wsL_law0_r12, w ∈ wsL_law := fun w h => u_0in w (List.mem_append_left _ (List.mem_append_left _ (List.mem_append_left _ (List.mem_append_left _ (List.mem_append_left _ (List.mem_append_left _ (List.mem_append_left _ (List.mem_append_left _ (List.mem_append_left _ (List.mem_append_left _ (List.mem_append_left _ (List.mem_append_left _ (List.mem_append_left _ (List.mem_append_right _ (List.mem_append_right _ (List.mem_append_right _ (List.mem_append_right _ (List.mem_append_right _ (List.mem_append_right _ (List.mem_append_right _ (List.mem_append_right _ (List.mem_append_right _ (List.mem_append_right _ (List.mem_append_right _ (List.mem_append_left _ h)))))))))))))))))))))))))
theorem u_r13 : ∀ w ∈ wsL_law0_r13, w ∈ wsL_law := fun w h => u_0in w (List.mem_append_left _ (List.mem_append_left _ (List.mem_append_left _ (List.mem_append_left _ (List.mem_append_left _ (List.mem_append_left _ (List.mem_append_left _ (List.mem_append_left _ (List.mem_append_left _ (List.mem_append_left _ (List.mem_append_left _ (List.mem_append_left _ (List.mem_append_left _ (List.mem_append_right _ (List.mem_append_right _ (List.mem_append_right _ (List.mem_append_right _ (List.mem_append_right _ (List.mem_append_right _ (List.mem_append_right _ (List.mem_append_right _ (List.mem_append_right _ (List.mem_append_right _ (List.mem_append_right _ (List.mem_append_right _ (List.mem_append_left _ h))))))))))))))))))))))))))
theorem u_r14 : ∀ w ∈ wsL_law0_r14, w ∈ wsL_law := fun w h => u_0in w (List.mem_append_left _ (List.mem_append_left _ (List.mem_append_left _ (List.mem_append_left _ (List.mem_append_left _ (List.mem_append_left _ (List.mem_append_left _ (List.mem_append_left _ (List.mem_append_left _ (List.mem_append_left _ (List.mem_append_left _ (List.mem_append_left _ (List.mem_append_left _ (List.mem_append_right _ (List.mem_append_right _ (List.mem_append_right _ (List.mem_append_right _ (List.mem_append_right _ (List.mem_append_right _ (List.mem_append_right _ (List.mem_append_right _ (List.mem_append_right _ (List.mem_append_right _ (List.mem_append_right _ (List.mem_append_right _ (List.mem_append_right _ (List.mem_append_left _ h)))))))))))))))))))))))))))
theorem u_r15 : ∀ w ∈ wsL_law0_r15, w ∈ wsL_law := fun w h => u_0in w (List.mem_append_left _ (List.mem_append_left _ (List.mem_append_left _ (List.mem_append_left _ (List.mem_append_left _ (List.mem_append_left _ (List.mem_append_left _ (List.mem_append_left _ (List.mem_append_left _ (List.mem_append_left _ (List.mem_append_left _ (List.mem_append_left _ (List.mem_append_left _ (List.mem_append_right _ (List.mem_append_right _ (List.mem_append_right _ (List.mem_append_right _ (List.mem_append_right _ (List.mem_append_right _ (List.mem_append_right _ (List.mem_append_right _ (List.mem_append_right _ (List.mem_append_right _ (List.mem_append_right _ (List.mem_append_right _ (List.mem_append_right _ (List.mem_append_right _ (List.mem_append_left _ h))))))))))))))))))))))))))))
theorem u_r16 : ∀ w ∈ wsL_law0_r16, w ∈ wsL_law := fun w h => u_0in w (List.mem_append_left _ (List.mem_append_left _ (List.mem_append_left _ (List.mem_append_left _ (List.mem_append_left _ (List.mem_append_left _ (List.mem_append_left _ (List.mem_append_left _ (List.mem_append_left _ (List.mem_append_left _ (List.mem_append_left _ (List.mem_append_left _ (List.mem_append_left _ (List.mem_append_right _ (List.mem_append_right _ (List.mem_append_right _ (List.mem_append_right _ (List.mem_append_right _ (List.mem_append_right _ (List.mem_append_right _ (List.mem_append_right _ (List.mem_append_right _ (List.mem_append_right _ (List.mem_append_right _ (List.mem_append_right _ (List.mem_append_right _ (List.mem_append_right _ (List.mem_append_right _ (List.mem_append_left _ h)))))))))))))))))))))))))))))
theorem u_r17 : ∀ w ∈ wsL_law0_r17, w ∈ wsL_law := fun w h => u_0in w (List.mem_append_left _ (List.mem_append_left _ (List.mem_append_left _ (List.mem_append_left _ (List.mem_append_left _ (List.mem_append_left _ (List.mem_append_left _ (List.mem_append_left _ (List.mem_append_left _ (List.mem_append_left _ (List.mem_append_left _ (List.mem_append_left _ (List.mem_append_left _ (List.mem_append_right _ (List.mem_append_right _ (List.mem_append_right _ (List.mem_append_right _ (List.mem_append_right _ (List.mem_append_right _ (List.mem_append_right _ (List.mem_append_right _ (List.mem_append_right _ (List.mem_append_right _ (List.mem_append_right _ (List.mem_append_right _ (List.mem_append_right _ (List.mem_append_right _ (List.mem_append_right _ (List.mem_append_right _ (List.mem_append_left _ h))))))))))))))))))))))))))))))
theorem u_r18 : ∀ w ∈ wsL_law0_r18, w ∈ wsL_law := fun w h => u_0in w (List.mem_append_left _ (List.mem_append_left _ (List.mem_append_left _ (List.mem_append_left _ (List.mem_append_left _ (List.mem_append_left _ (List.mem_append_left _ (List.mem_append_left _ (List.mem_append_left _ (List.mem_append_left _ (List.mem_append_left _ (List.mem_append_left _ (List.mem_append_left _ (List.mem_append_right _ (List.mem_append_right _ (List.mem_append_right _ (List.mem_append_right _ (List.mem_append_right _ (List.mem_append_right _ (List.mem_append_right _ (List.mem_append_right _ (List.mem_append_right _ (List.mem_append_right _ (List.mem_append_right _ (List.mem_append_right _ (List.mem_append_right _ (List.mem_append_right _ (List.mem_append_right _ (List.mem_append_right _ (List.mem_append_right _ (List.mem_append_left _ h)))))))))))))))))))))))))))))))
theorem u_r19 : ∀ w ∈ wsL_law0_r19, w ∈ wsL_law := fun w h => u_0in w (List.mem_append_left _ (List.mem_append_left _ (List.mem_append_left _ (List.mem_append_left _ (List.mem_append_left _ (List.mem_append_left _ (List.mem_append_left _ (List.mem_append_left _ (List.mem_append_left _ (List.mem_append_left _ (List.mem_append_left _ (List.mem_append_left _ (List.mem_append_left _ (List.mem_append_right _ (List.mem_append_right _ (List.mem_append_right _ (List.mem_append_right _ (List.mem_append_right _ (List.mem_append_right _ (List.mem_append_right _ (List.mem_append_right _ (List.mem_append_right _ (List.mem_append_right _ (List.mem_append_right _ (List.mem_append_right _ (List.mem_append_right _ (List.mem_append_right _ (List.mem_append_right _ (List.mem_append_right _ (List.mem_append_right _ (List.mem_append_right _ (List.mem_append_left _ h))))))))))))))))))))))))))))))))
theorem u_r20 : ∀ w ∈ wsL_law0_r20, w ∈ wsL_law := fun w h => u_0in w (List.mem_append_left _ (List.mem_append_left _ (List.mem_append_left _ (List.mem_append_left _ (List.mem_append_left _ (List.mem_append_left _ (List.mem_append_left _ (List.mem_append_left _ (List.mem_append_left _ (List.mem_append_left _ (List.mem_append_left _ (List.mem_append_left _ (List.mem_append_left _ (List.mem_append_right _ (List.mem_append_right _ (List.mem_append_right _ (List.mem_append_right _ (List.mem_append_right _ (List.mem_append_right _ (List.mem_append_right _ (List.mem_append_right _ (List.mem_append_right _ (List.mem_append_right _ (List.mem_append_right _ (List.mem_append_right _ (List.mem_append_right _ (List.mem_append_right _ (List.mem_append_right _ (List.mem_append_right _ (List.mem_append_right _ (List.mem_append_right _ (List.mem_append_right _ (List.mem_append_left _ h)))))))))))))))))))))))))))))))))
theorem u_r21 : ∀ w ∈ wsL_law0_r21, w ∈ wsL_law := fun w h => u_0in w (List.mem_append_left _ (List.mem_append_left _ (List.mem_append_left _ (List.mem_append_left _ (List.mem_append_left _ (List.mem_append_left _ (List.mem_append_left _ (List.mem_append_left _ (List.mem_append_left _ (List.mem_append_left _ (List.mem_append_left _ (List.mem_append_left _ (List.mem_append_left _ (List.mem_append_right _ (List.mem_append_right _ (List.mem_append_right _ (List.mem_append_right _ (List.mem_append_right _ (List.mem_append_right _ (List.mem_append_right _ (List.mem_append_right _ (List.mem_append_right _ (List.mem_append_right _ (List.mem_append_right _ (List.mem_append_right _ (List.mem_append_right _ (List.mem_append_right _ (List.mem_append_right _ (List.mem_append_right _ (List.mem_append_right _ (List.mem_append_right _ (List.mem_append_right _ (List.mem_append_right _ (List.mem_append_left _ h))))))))))))))))))))))))))))))))))
theorem u_r22 : ∀ w ∈ wsL_law0_r22, w ∈ wsL_law := fun w h => u_0in w (List.mem_append_left _ (List.mem_append_left _ (List.mem_append_left _ (List.mem_append_left _ (List.mem_append_left _ (List.mem_append_left _ (List.mem_append_left _ (List.mem_append_left _ (List.mem_append_left _ (List.mem_append_left _ (List.mem_append_left _ (List.mem_append_left _ (List.mem_append_left _ (List.mem_append_right _ (List.mem_append_right _ (List.mem_append_right _ (List.mem_append_right _ (List.mem_append_right _ (List.mem_append_right _ (List.mem_append_right _ (List.mem_append_right _ (List.mem_append_right _ (List.mem_append_right _ (List.mem_append_right _ (List.mem_append_right _ (List.mem_append_right _ (List.mem_append_right _ (List.mem_append_right _ (List.mem_append_right _ (List.mem_append_right _ (List.mem_append_right _ (List.mem_append_right _ (List.mem_append_right _ (List.mem_append_right _ (List.mem_append_left _ h)))))))))))))))))))))))))))))))))))
theorem u_r23 : ∀ w ∈ wsL_law0_r23, w ∈ wsL_law := fun w h => u_0in w (List.mem_append_left _ (List.mem_append_left _ (List.mem_append_left _ (List.mem_append_left _ (List.mem_append_left _ (List.mem_append_left _ (List.mem_append_left _ (List.mem_append_left _ (List.mem_append_left _ (List.mem_append_left _ (List.mem_append_left _ (List.mem_append_left _ (List.mem_append_left _ (List.mem_append_right _ (List.mem_append_right _ (List.mem_append_right _ (List.mem_append_right _ (List.mem_append_right _ (List.mem_append_right _ (List.mem_append_right _ (List.mem_append_right _ (List.mem_append_right _ (List.mem_append_right _ (List.mem_append_right _ (List.mem_append_right _ (List.mem_append_right _ (List.mem_append_right _ (List.mem_append_right _ (List.mem_append_right _ (List.mem_append_right _ (List.mem_append_right _ (List.mem_append_right _ (List.mem_append_right _ (List.mem_append_right _ (List.mem_append_right _ (List.mem_append_left _ h))))))))))))))))))))))))))))))))))))
theorem u_r24 : ∀ w ∈ wsL_law0_r24, w ∈ wsL_law := fun w h => u_0in w (List.mem_append_left _ (List.mem_append_left _ (List.mem_append_left _ (List.mem_append_left _ (List.mem_append_left _ (List.mem_append_left _ (List.mem_append_left _ (List.mem_append_left _ (List.mem_append_left _ (List.mem_append_left _ (List.mem_append_left _ (List.mem_append_left _ (List.mem_append_left _ (List.mem_append_right _ (List.mem_append_right _ (List.mem_append_right _ (List.mem_append_right _ (List.mem_append_right _ (List.mem_append_right _ (List.mem_append_right _ (List.mem_append_right _ (List.mem_append_right _ (List.mem_append_right _ (List.mem_append_right _ (List.mem_append_right _ (List.mem_append_right _ (List.mem_append_right _ (List.mem_append_right _ (List.mem_append_right _ (List.mem_append_right _ (List.mem_append_right _ (List.mem_append_right _ (List.mem_append_right _ (List.mem_append_right _ (List.mem_append_right _ (List.mem_append_right _ (List.mem_append_left _ h)))))))))))))))))))))))))))))))))))))
theorem u_r25 : ∀ w ∈ wsL_law0_r25, w ∈ wsL_law := fun w h => u_0in w (List.mem_append_left _ (List.mem_append_left _ (List.mem_append_left _ (List.mem_append_left _ (List.mem_append_left _ (List.mem_append_left _ (List.mem_append_left _ (List.mem_append_left _ (List.mem_append_left _ (List.mem_append_left _ (List.mem_append_left _ (List.mem_append_left _ (List.mem_append_left _ (List.mem_append_right _ (List.mem_append_right _ (List.mem_append_right _ (List.mem_append_right _ (List.mem_append_right _ (List.mem_append_right _ (List.mem_append_right _ (List.mem_append_right _ (List.mem_append_right _ (List.mem_append_right _ (List.mem_append_right _ (List.mem_append_right _ (List.mem_append_right _ (List.mem_append_right _ (List.mem_append_right _ (List.mem_append_right _ (List.mem_append_right _ (List.mem_append_right _ (List.mem_append_right _ (List.mem_append_right _ (List.mem_append_right _ (List.mem_append_right _ (List.mem_append_right _ (List.mem_append_right _ (List.mem_append_left _ h))))))))))))))))))))))))))))))))))))))
theorem u_r26 : ∀ w ∈ wsL_law0_r26, w ∈ wsL_law := fun w h => u_0in w (List.mem_append_left _ (List.mem_append_left _ (List.mem_append_left _ (List.mem_append_left _ (List.mem_append_left _ (List.mem_append_left _ (List.mem_append_left _ (List.mem_append_left _ (List.mem_append_left _ (List.mem_append_left _ (List.mem_append_left _ (List.mem_append_left _ (List.mem_append_left _ (List.mem_append_right _ (List.mem_append_right _ (List.mem_append_right _ (List.mem_append_right _ (List.mem_append_right _ (List.mem_append_right _ (List.mem_append_right _ (List.mem_append_right _ (List.mem_append_right _ (List.mem_append_right _ (List.mem_append_right _ (List.mem_append_right _ (List.mem_append_right _ (List.mem_append_right _ (List.mem_append_right _ (List.mem_append_right _ (List.mem_append_right _ (List.mem_append_right _ (List.mem_append_right _ (List.mem_append_right _ (List.mem_append_right _ (List.mem_append_right _ (List.mem_append_right _ (List.mem_append_right _ (List.mem_append_right _ (List.mem_append_left _ h)))))))))))))))))))))))))))))))))))))))
theorem u_r27 : ∀ w ∈ wsL_law0_r27, w ∈ wsL_law := fun w h => u_0in w (List.mem_append_left _ (List.mem_append_left _ (List.mem_append_left _ (List.mem_append_left _ (List.mem_append_left _ (List.mem_append_left _ (List.mem_append_left _ (List.mem_append_left _ (List.mem_append_left _ (List.mem_append_left _ (List.mem_append_left _ (List.mem_append_left _ (List.mem_append_left _ (List.mem_append_right _ (List.mem_append_right _ (List.mem_append_right _ (List.mem_append_right _ (List.mem_append_right _ (List.mem_append_right _ (List.mem_append_right _ (List.mem_append_right _ (List.mem_append_right _ (List.mem_append_right _ (List.mem_append_right _ (List.mem_append_right _ (List.mem_append_right _ (List.mem_append_right _ (List.mem_append_right _ (List.mem_append_right _ (List.mem_append_right _ (List.mem_append_right _ (List.mem_append_right _ (List.mem_append_right _ (List.mem_append_right _ (List.mem_append_right _ (List.mem_append_right _ (List.mem_append_right _ (List.mem_append_right _ (List.mem_append_right _ (List.mem_append_left _ h))))))))))))))))))))))))))))))))))))))))
theorem u_r28 : ∀ w ∈ wsL_law0_r28, w ∈ wsL_law := fun w h => u_0in w (List.mem_append_left _ (List.mem_append_left _ (List.mem_append_left _ (List.mem_append_left _ (List.mem_append_left _ (List.mem_append_left _ (List.mem_append_left _ (List.mem_append_left _ (List.mem_append_left _ (List.mem_append_left _ (List.mem_append_left _ (List.mem_append_left _ (List.mem_append_left _ (List.mem_append_right _ (List.mem_append_right _ (List.mem_append_right _ (List.mem_append_right _ (List.mem_append_right _ (List.mem_append_right _ (List.mem_append_right _ (List.mem_append_right _ (List.mem_append_right _ (List.mem_append_right _ (List.mem_append_right _ (List.mem_append_right _ (List.mem_append_right _ (List.mem_append_right _ (List.mem_append_right _ (List.mem_append_right _ (List.mem_append_right _ (List.mem_append_right _ (List.mem_append_right _ (List.mem_append_right _ (List.mem_append_right _ (List.mem_append_right _ (List.mem_append_right _ (List.mem_append_right _ (List.mem_append_right _ (List.mem_append_right _ (List.mem_append_right _ (List.mem_append_left _ h)))))))))))))))))))))))))))))))))))))))))
theorem u_r29 : ∀ w ∈ wsL_law0_r29, w ∈ wsL_law := fun w h => u_0in w (List.mem_append_left _ (List.mem_append_left _ (List.mem_append_left _ (List.mem_append_left _ (List.mem_append_left _ (List.mem_append_left _ (List.mem_append_left _ (List.mem_append_left _ (List.mem_append_left _ (List.mem_append_left _ (List.mem_append_left _ (List.mem_append_left _ (List.mem_append_left _ (List.mem_append_right _ (List.mem_append_right _ (List.mem_append_right _ (List.mem_append_right _ (List.mem_append_right _ (List.mem_append_right _ (List.mem_append_right _ (List.mem_append_right _ (List.mem_append_right _ (List.mem_append_right _ (List.mem_append_right _ (List.mem_append_right _ (List.mem_append_right _ (List.mem_append_right _ (List.mem_append_right _ (List.mem_append_right _ (List.mem_append_right _ (List.mem_append_right _ (List.mem_append_right _ (List.mem_append_right _ (List.mem_append_right _ (List.mem_append_right _ (List.mem_append_right _ (List.mem_append_right _ (List.mem_append_right _ (List.mem_append_right _ (List.mem_append_right _ (List.mem_append_right _ (List.mem_append_left _ h))))))))))))))))))))))))))))))))))))))))))
theorem u_r30 : ∀ w ∈ wsL_law0_r30, w ∈ wsL_law := fun w h => u_0in w (List.mem_append_left _ (List.mem_append_left _ (List.mem_append_left _ (List.mem_append_left _ (List.mem_append_left _ (List.mem_append_left _ (List.mem_append_left _ (List.mem_append_left _ (List.mem_append_left _ (List.mem_append_left _ (List.mem_append_left _ (List.mem_append_left _ (List.mem_append_left _ (List.mem_append_right _ (List.mem_append_right _ (List.mem_append_right _ (List.mem_append_right _ (List.mem_append_right _ (List.mem_append_right _ (List.mem_append_right _ (List.mem_append_right _ (List.mem_append_right _ (List.mem_append_right _ (List.mem_append_right _ (List.mem_append_right _ (List.mem_append_right _ (List.mem_append_right _ (List.mem_append_right _ (List.mem_append_right _ (List.mem_append_right _ (List.mem_append_right _ (List.mem_append_right _ (List.mem_append_right _ (List.mem_append_right _ (List.mem_append_right _ (List.mem_append_right _ (List.mem_append_right _ (List.mem_append_right _ (List.mem_append_right _ (List.mem_append_right _ (List.mem_append_right _ (List.mem_append_right _ (List.mem_append_left _ h)))))))))))))))))))))))))))))))))))))))))))
theorem u_r31 : ∀ w ∈ wsL_law0_r31, w ∈ wsL_law := fun w h => u_0in w (List.mem_append_left _ (List.mem_append_left _ (List.mem_append_left _ (List.mem_append_left _ (List.mem_append_left _ (List.mem_append_left _ (List.mem_append_left _ (List.mem_append_left _ (List.mem_append_left _ (List.mem_append_left _ (List.mem_append_left _ (List.mem_append_left _ (List.mem_append_left _ (List.mem_append_right _ (List.mem_append_right _ (List.mem_append_right _ (List.mem_append_right _ (List.mem_append_right _ (List.mem_append_right _ (List.mem_append_right _ (List.mem_append_right _ (List.mem_append_right _ (List.mem_append_right _ (List.mem_append_right _ (List.mem_append_right _ (List.mem_append_right _ (List.mem_append_right _ (List.mem_append_right _ (List.mem_append_right _ (List.mem_append_right _ (List.mem_append_right _ (List.mem_append_right _ (List.mem_append_right _ (List.mem_append_right _ (List.mem_append_right _ (List.mem_append_right _ (List.mem_append_right _ (List.mem_append_right _ (List.mem_append_right _ (List.mem_append_right _ (List.mem_append_right _ (List.mem_append_right _ (List.mem_append_right _ (List.mem_append_left _ h))))))))))))))))))))))))))))))))))))))))))))
theorem u_r32 : ∀ w ∈ wsL_law0_r32, w ∈ wsL_law := fun w h => u_0in w (List.mem_append_left _ (List.mem_append_left _ (List.mem_append_left _ (List.mem_append_left _ (List.mem_append_left _ (List.mem_append_left _ (List.mem_append_left _ (List.mem_append_left _ (List.mem_append_left _ (List.mem_append_left _ (List.mem_append_left _ (List.mem_append_left _ (List.mem_append_left _ (List.mem_append_right _ (List.mem_append_right _ (List.mem_append_right _ (List.mem_append_right _ (List.mem_append_right _ (List.mem_append_right _ (List.mem_append_right _ (List.mem_append_right _ (List.mem_append_right _ (List.mem_append_right _ (List.mem_append_right _ (List.mem_append_right _ (List.mem_append_right _ (List.mem_append_right _ (List.mem_append_right _ (List.mem_append_right _ (List.mem_append_right _ (List.mem_append_right _ (List.mem_append_right _ (List.mem_append_right _ (List.mem_append_right _ (List.mem_append_right _ (List.mem_append_right _ (List.mem_append_right _ (List.mem_append_right _ (List.mem_append_right _ (List.mem_append_right _ (List.mem_append_right _ (List.mem_append_right _ (List.mem_append_right _ (List.mem_append_right _ (List.mem_append_left _ h)))))))))))))))))))))))))))))))))))))))))))))
theorem u_r33 : ∀ w ∈ wsL_law0_r33, w ∈ wsL_law := fun w h => u_0in w (List.mem_append_left _ (List.mem_append_left _ (List.mem_append_left _ (List.mem_append_left _ (List.mem_append_left _ (List.mem_append_left _ (List.mem_append_left _ (List.mem_append_left _ (List.mem_append_left _ (List.mem_append_left _ (List.mem_append_left _ (List.mem_append_left _ (List.mem_append_left _ (List.mem_append_right _ (List.mem_append_right _ (List.mem_append_right _ (List.mem_append_right _ (List.mem_append_right _ (List.mem_append_right _ (List.mem_append_right _ (List.mem_append_right _ (List.mem_append_right _ (List.mem_append_right _ (List.mem_append_right _ (List.mem_append_right _ (List.mem_append_right _ (List.mem_append_right _ (List.mem_append_right _ (List.mem_append_right _ (List.mem_append_right _ (List.mem_append_right _ (List.mem_append_right _ (List.mem_append_right _ (List.mem_append_right _ (List.mem_append_right _ (List.mem_append_right _ (List.mem_append_right _ (List.mem_append_right _ (List.mem_append_right _ (List.mem_append_right _ (List.mem_append_right _ (List.mem_append_right _ (List.mem_append_right _ (List.mem_append_right _ (List.mem_append_right _ h)))))))))))))))))))))))))))))))))))))))))))))
end
section
/-! flat memory: cells by logical numbers; the walk in one predicate u_S -/
theorem u_good0 : wsL_law0.all goodWord = true := by decide +kernel
theorem u_good : wsL_law.all goodWord = true := by
  have f : ∀ l : List Cond, (l.filter goodWord).all goodWord = true := fun l => List.all_eq_true.mpr fun w hw => (List.mem_filter.mp hw).2
  unfold wsL_law
  rw [List.all_append, List.all_append, List.all_append, u_good0, f, f, f]
  rfl
def u_ws2 (y : MethodName) (cc : ByteArray) (maxL : Nat) (ret : Option FieldType) : List Cond := Cond.code y cc maxL ret :: wsL_law
theorem u_goodIn {y : MethodName} {cc : ByteArray} {maxL : Nat} {ret : Option FieldType} (h : Cond.code y cc maxL ret ∈ wsL_law) : GoodIn wsL_law (u_ws2 y cc maxL ret) := by
  intro w hw
  have hm : w ∈ wsL_law := by
    rcases List.mem_cons.mp hw with rfl | hw
    · exact h
    · exact hw
  exact ⟨hm, good_of_word (List.all_eq_true.mp u_good w hm)⟩
def u_nestL : List Cond := [.methodLinkNest RX2 16 yX10_goesWith RX10, .methodLinkNest RX6 52 yX10_goesWith RX10, .methodLinkNest RX5 31 yX9_init RX10, .methodLinkNest RX5 32 yX7_init RX10, .methodLinkNest RX3 20 yX0_init RX10, .methodLinkNest RX3 41 yX6_init RX10, .methodLinkNest RX6 11 yX2_init RX10, .methodLinkNest RX3 42 yX1_init RX10, .methodLinkNest RX10 21 yX8_init RX10, .methodLinkNest RX10 32 yX4_init RX10]
def u_aoL : List String := [RX1, RX4, RX6, RX7, RX9]
/-- what the tables say of calls between nest mates, and of rows of references -/
def u_N (U : State) : Prop := (∀ w ∈ u_nestL, va_Nw w U) ∧ ∀ C ∈ u_aoL, va_AO C U
theorem u_nestL_on : ∀ w ∈ u_nestL, w.onTables = true := by decide +kernel
theorem u_N.same {u U : State} (h : u.vm = U.vm) (hN : u_N u) : u_N U := ⟨fun w hw => va_Nw.same (u_nestL_on w hw) h (hN.1 w hw), fun C hC => va_AO.moved (by rw [h]; exact Vm.Alike.refl _) (hN.2 C hC)⟩
theorem u_N.warm {s U : State} (hW : s.WarmedH U.vm) (hN : u_N s) : u_N U := by
  refine ⟨fun w hw => ?_, fun C hC => va_AO.moved hW.alike (hN.2 C hC)⟩
  have h1 := hN.1 w hw
  simp only [u_nestL, List.mem_cons, List.not_mem_nil, or_false] at hw
  rcases hw with rfl | rfl | rfl | rfl | rfl | rfl | rfl | rfl | rfl | rfl <;> exact va_Nw.warmM hW h1
/-- the fields: how many, which hold references -/
def w_nf (ci : Nat) : Nat := match ci with
  | 0 => 7 | 1 => 10 | 2 => 2 | 3 => 10 | 4 => 3 | 5 => 6 | 6 => 8 | 7 => 3 | 8 => 2 | 9 => 4 | 10 => 5 | _ => 43
def w_rf (ci j : Nat) : Bool := match ci with
  | 0 => Nat.blt j 3 | 3 => Nat.blt j 5 | 5 => Nat.blt j 3 | 6 => Nat.blt j 3 | 8 => Nat.blt j 1 | 10 => Nat.blt j 4
  | 11 => (j == 4) || (j == 6) || (j == 7) || (j == 13) || (j == 14) || (j == 15) || (Nat.blt 16 j && Nat.blt j 25) || (Nat.blt 25 j && Nat.blt j 36) || (Nat.blt 36 j && Nat.blt j 41)
  | _ => false
/-- the fixed part: array classes, addresses, kinds, lengths, references, numbers in use -/
abbrev w_G : Type := (Nat → ClassId) × (Nat → Nat) × (Nat → Nat) × (Nat → Nat) × (Nat → Nat → Option Nat) × List Nat
def gC (G : w_G) : Nat → ClassId := G.1
def gP (G : w_G) : Nat → Nat := G.2.1
def gK (G : w_G) : Nat → Nat := G.2.2.1
def gN (G : w_G) : Nat → Nat := G.2.2.2.1
def gF (G : w_G) : Nat → Nat → Option Nat := G.2.2.2.2.1
def gL (G : w_G) : List Nat := G.2.2.2.2.2
/-- what changes: ints (fields and elements) and longs -/
abbrev w_M : Type := (Nat → Nat → Int32) × (Nat → Nat → Int64)
def iv (M : w_M) (a j : Nat) : Int32 := M.1 a j
def jv (M : w_M) (a j : Nat) : Int64 := M.2 a j
def wi (M : w_M) (a j : Nat) (x : Int32) : w_M := (fun b k => if b = a ∧ k = j then x else M.1 b k, M.2)
def wj (M : w_M) (a j : Nat) (x : Int64) : w_M := (M.1, fun b k => if b = a ∧ k = j then x else M.2 b k)
theorem iv_wi (M : w_M) (a j : Nat) (x : Int32) (b k : Nat) : iv (wi M a j x) b k = if b = a ∧ k = j then x else iv M b k := rfl
theorem jv_wj (M : w_M) (a j : Nat) (x : Int64) (b k : Nat) : jv (wj M a j x) b k = if b = a ∧ k = j then x else jv M b k := rfl
theorem iv_wj (M : w_M) (a j : Nat) (x : Int64) (b k : Nat) : iv (wj M a j x) b k = iv M b k := rfl
theorem jv_wi (M : w_M) (a j : Nat) (x : Int32) (b k : Nat) : jv (wi M a j x) b k = jv M b k := rfl
theorem w_ext {M M' : w_M} (h1 : ∀ a j, iv M a j = iv M' a j) (h2 : ∀ a j, jv M a j = jv M' a j) : M = M' := Prod.ext (funext fun a => funext fun j => h1 a j) (funext fun a => funext fun j => h2 a j)
def w_fv (G : w_G) (M : w_M) (ci k j : Nat) : Value := if w_rf ci j then va_rf ((gF G k j).map (gP G)) else .int (iv M k j)
def w_fs (G : w_G) (M : w_M) (ci k : Nat) : List Value := (List.range (w_nf ci)).map (w_fv G M ci k)
def w_cell (G : w_G) (M : w_M) (k : Nat) : va_E :=
  if gK G k < 12 then .inr (gK G k, w_fs G M (gK G k) k)
  else if gK G k = 12 then .inl (gC G 0, gN G k, .inl (fun j => iv M k j))
  else if gK G k = 13 then .inl (gC G 1, gN G k, .inr (.inl (fun j => jv M k j)))
  else if gK G k = 14 then .inl (gC G 2, gN G k, .inl (fun j => iv M k j))
  else .inl (gC G (gK G k - 12), gN G k, .inr (.inr (.inr (.inr (fun i => (gF G k i).map (gP G))))))
def w_ty (cy : Nat → ClassId) : List (ClassId × FieldType) := [(cy 0, .int), (cy 1, .long), (cy 2, .boolean), (cy 3, .object RX1), (cy 4, .object RX4), (cy 5, .object RX6), (cy 6, .object RX7), (cy 7, .object RX9)]
def u_W (G : w_G) (M : w_M) : va_W := (gL G).map (fun k => (gP G k, w_cell G M k))
/-- a number in use, of that kind -/
def u_is (G : w_G) (k ci : Nat) : Prop := k ∈ gL G ∧ gK G k = ci
theorem u_get {G : w_G} {M : w_M} {k : Nat} (h : k ∈ gL G) : ∃ q : Nat, (gL G)[q]? = some k ∧ (u_W G M)[q]? = some (gP G k, w_cell G M k) := by
  obtain ⟨q, hq⟩ := List.getElem?_of_mem h
  exact ⟨q, hq, by simp [u_W, hq]⟩
theorem u_inj {A : Nat → Prop} {G : w_G} {M : w_M} (hD : va_D A (u_W G M)) {i j k : Nat} (hi : (gL G)[i]? = some k) (hj : (gL G)[j]? = some k) : i = j :=
  hD.1 i j (gP G k, w_cell G M k) (gP G k, w_cell G M k) (by simp [u_W, hi]) (by simp [u_W, hj]) rfl
theorem u_setW {A : Nat → Prop} {G : w_G} {M M' : w_M} (hD : va_D A (u_W G M)) {k q : Nat} (hq : (gL G)[q]? = some k) (ho : ∀ b, b ≠ k → w_cell G M' b = w_cell G M b) : (u_W G M).set q (gP G k, w_cell G M' k) = u_W G M' := by
  refine List.ext_getElem? fun i => ?_
  by_cases hi : i = q
  · subst hi
    rw [List.getElem?_set_self (by simp [u_W]; exact (List.getElem?_eq_some_iff.mp hq).1)]
    simp [u_W, hq]
  · rw [List.getElem?_set_ne (Ne.symm hi)]
    simp only [u_W, List.getElem?_map]
    cases h : (gL G)[i]? with
    | none => rfl
    | some b =>
      have hb : b ≠ k := fun z => hi (u_inj hD (z ▸ h) hq)
      simp [ho b hb]
theorem u_DM {A : Nat → Prop} {G : w_G} {M : w_M} (M' : w_M) (hD : va_D A (u_W G M)) : va_D A (u_W G M') := by
  have key : ∀ (i : Nat) (p : Nat × va_E), (u_W G M')[i]? = some p → ∃ p', (u_W G M)[i]? = some p' ∧ p'.1 = p.1 := by
    intro i p h
    simp only [u_W, List.getElem?_map] at h ⊢
    cases hb : (gL G)[i]? with
    | none => rw [hb] at h; cases h
    | some b => rw [hb] at h; cases h; exact ⟨_, rfl, rfl⟩
  refine ⟨fun i j p q hi hj e => ?_, fun i p hi => ?_⟩
  · obtain ⟨p', h1, h2⟩ := key i p hi
    obtain ⟨q', h3, h4⟩ := key j q hj
    exact hD.1 i j p' q' h1 h3 (by rw [h2, h4, e])
  · obtain ⟨p', h1, h2⟩ := key i p hi
    rw [← h2]
    exact hD.2 i p' h1
theorem u_AM {G : w_G} (M M' : w_M) (sz : Nat) : va_A (u_W G M') sz = va_A (u_W G M) sz := by
  have key : ∀ (M M' : w_M) (q : Nat), va_A (u_W G M') sz q → va_A (u_W G M) sz q := by
    intro M M' q h
    rcases h with ⟨k, e, h⟩ | h
    · simp only [u_W, List.getElem?_map] at h
      cases hb : (gL G)[k]? with
      | none => rw [hb] at h; cases h
      | some b =>
        rw [hb] at h
        cases h
        exact Or.inl ⟨k, w_cell G M b, by simp [u_W, hb]⟩
    · exact Or.inr h
  funext q
  exact propext ⟨key M M' q, key M' M q⟩
theorem w_fs_len (G : w_G) (M : w_M) (ci k : Nat) : (w_fs G M ci k).length = w_nf ci := by simp [w_fs]
theorem w_fs_at {G : w_G} {M : w_M} {ci k j : Nat} (hj : j < w_nf ci) : (w_fs G M ci k)[j]? = some (w_fv G M ci k j) := by simp [w_fs, List.getElem?_range hj]
theorem w_cellO {G : w_G} {M : w_M} {k ci : Nat} (h : u_is G k ci) (hc : ci < 12) : w_cell G M k = .inr (ci, w_fs G M ci k) := by
  unfold w_cell
  rw [h.2, if_pos hc]
theorem w_cellI {G : w_G} {M : w_M} {k : Nat} (h : u_is G k 12) : w_cell G M k = .inl (gC G 0, gN G k, .inl (fun j => iv M k j)) := by
  unfold w_cell
  rw [h.2]
  rfl
theorem w_cellJ {G : w_G} {M : w_M} {k : Nat} (h : u_is G k 13) : w_cell G M k = .inl (gC G 1, gN G k, .inr (.inl (fun j => jv M k j))) := by
  unfold w_cell
  rw [h.2]
  rfl
theorem w_cellZ {G : w_G} {M : w_M} {k : Nat} (h : u_is G k 14) : w_cell G M k = .inl (gC G 2, gN G k, .inl (fun j => iv M k j)) := by
  unfold w_cell
  rw [h.2]
  rfl
theorem w_cellR {G : w_G} {M : w_M} {k t : Nat} (h : u_is G k t) (ht : 15 ≤ t) : w_cell G M k = .inl (gC G (t - 12), gN G k, .inr (.inr (.inr (.inr (fun i => (gF G k i).map (gP G)))))) := by
  unfold w_cell
  rw [h.2, if_neg (by omega), if_neg (by omega), if_neg (by omega), if_neg (by omega)]
theorem w_oi {G : w_G} {M : w_M} {k j : Nat} {x : Int32} {b : Nat} (hb : b ≠ k) : w_cell G (wi M k j x) b = w_cell G M b := by
  have e : ∀ i, iv (wi M k j x) b i = iv M b i := fun i => by rw [iv_wi, if_neg (fun z => hb z.1)]
  have e2 : ∀ i, jv (wi M k j x) b i = jv M b i := fun i => rfl
  have e3 : w_fs G (wi M k j x) (gK G b) b = w_fs G M (gK G b) b := by
    unfold w_fs
    refine List.map_congr_left fun i _ => ?_
    unfold w_fv
    rw [e]
  unfold w_cell
  rw [e3]
  simp only [e, e2]
theorem w_oj {G : w_G} {M : w_M} {k j : Nat} {x : Int64} {b : Nat} (hb : b ≠ k) : w_cell G (wj M k j x) b = w_cell G M b := by
  have e : ∀ i, jv (wj M k j x) b i = jv M b i := fun i => by rw [jv_wj, if_neg (fun z => hb z.1)]
  have e3 : w_fs G (wj M k j x) (gK G b) b = w_fs G M (gK G b) b := rfl
  unfold w_cell
  rw [e3]
  simp only [e, iv_wj]
theorem w_fs_wi {G : w_G} {M : w_M} {ci k j : Nat} {x : Int32} (hr : w_rf ci j = false) : (w_fs G M ci k).set j (.int x) = w_fs G (wi M k j x) ci k := by
  refine List.ext_getElem? fun i => ?_
  by_cases hi : i < w_nf ci
  · by_cases hij : i = j
    · subst hij
      rw [List.getElem?_set_self (by rw [w_fs_len]; exact hi), w_fs_at hi]
      simp [w_fv, hr, iv_wi]
    · rw [List.getElem?_set_ne (Ne.symm hij), w_fs_at hi, w_fs_at hi]
      simp [w_fv, iv_wi, hij]
  · rw [List.getElem?_eq_none (by simp [w_fs_len]; omega), List.getElem?_eq_none (by simp [w_fs_len]; omega)]
/-- locals by number -/
def lv_get : List (Nat × Value) → Nat → Option Value
  | [], _ => none
  | (j, v) :: t, i => if j = i then some v else lv_get t i
def lv_put (lv : List (Nat × Value)) (i : Nat) (v : Value) : List (Nat × Value) := (i, v) :: lv.filter (fun q => !(q.1 == i) && !(q.1 + 1 == i && q.2.category == 2))
def lv_put2 (lv : List (Nat × Value)) (i : Nat) (v : Value) : List (Nat × Value) := (i, v) :: lv.filter (fun q => !(q.1 == i) && (!(q.1 == i + 1) && !(q.1 + 1 == i && q.2.category == 2)))
theorem lv_get_mem {lv : List (Nat × Value)} {i : Nat} {v : Value} (h : lv_get lv i = some v) : (i, v) ∈ lv := by
  induction lv with
  | nil => cases h
  | cons q t ih =>
    obtain ⟨j, w⟩ := q
    simp only [lv_get] at h
    split at h
    · next e => subst e; cases h; exact List.mem_cons_self
    · exact List.mem_cons_of_mem _ (ih h)
theorem lv_gat {ls : Array Slot} {nL : Nat} {lv : List (Nat × Value)} {i : Nat} {v : Value} (h : lv_has ls nL lv) (hg : lv_get lv i = some v) : ls[i]? = some (.val v) := h.2.2 (i, v) (lv_get_mem hg)
def lv_re (lv : List (Nat × Value)) (ks : List Nat) : List (Nat × Value) := ks.filterMap (fun i => (lv_get lv i).map (fun v => (i, v)))
theorem lv_rehas {ls : Array Slot} {nL : Nat} {lv : List (Nat × Value)} (h : lv_has ls nL lv) (ks : List Nat) : lv_has ls nL (lv_re lv ks) := by
  refine ⟨h.1, h.2.1, fun q hq => ?_⟩
  obtain ⟨i, -, hi⟩ := List.mem_filterMap.mp hq
  cases hv : lv_get lv i with
  | none => rw [hv] at hi; cases hi
  | some v => rw [hv] at hi; cases hi; exact lv_gat h hv
section US
variable {p : Program} {l : Launch} {e : Env} {R : Room} {s : State} {m : MethodId} {args : Array Value} {below : List Frame} {meth : Method} {c : Code} {Q : State → Prop} {cells slots : Nat}
variable {cc : ByteArray} {own : String} {nL : Nat} {D : va_G} {A : Nat → Prop} {H0 : Heap}
/-- the machine at pc, with locals lv, stack st, the world (G, M): it comes to Q -/
def u_S (p : Program) (l : Launch) (e : Env) (R : Room) (s : State) (m : MethodId) (args : Array Value) (below : List Frame) (meth : Method) (c : Code) (nL : Nat) (D : va_G) (A : Nat → Prop) (H0 : Heap) (cells slots : Nat) (Q : State → Prop) (pc : Nat) (lv : List (Nat × Value)) (st : List Value) (G : w_G) (M : w_M) : Prop :=
  ∀ (H : Heap) (locs : List Loc) (ls : Array Slot), va_P D vwCl (u_W G M) H → va_D A (u_W G M) → va_S A H0 H locs → lv_has ls nL lv → W p l e R s m args below meth c H locs cells slots Q (F0 m pc ls st)
/-- what stays through a method -/
def u_C (p : Program) (R : Room) (s : State) (m : MethodId) (args : Array Value) (c : Code) (cc : ByteArray) (own : String) (nL : Nat) (D : va_G) (A : Nat → Prop) (H0 : Heap) (cells slots : Nat) (G : w_G) : Prop :=
  CallFix p m c cc nL s args wsL_law own ∧ (va_K D vwCl (w_ty (gC G)) s ∧ u_N s) ∧ (∀ q, H0.size ≤ q → A q) ∧ cells ≤ R.cells ∧ slots ≤ R.slots
variable {G : w_G} {M : w_M} {pc : Nat} {lv : List (Nat × Value)} {st : List Value}

theorem u_iload_n (C : u_C p R s m args c cc own nL D A H0 cells slots G) {n : Fin 4} {x : Int32} (hd : decode cc pc = .ok (.iload_n n, 1)) (hv : lv_get lv (n : Nat) = some (.int x)) (k : u_S p l e R s m args below meth c nL D A H0 cells slots Q (pc + 1) lv (.int x :: st) G M) : u_S p l e R s m args below meth c nL D A H0 cells slots Q pc lv (st) G M := by
  intro H locs ls hP hD hS hl
  obtain ⟨⟨hx, hb, hml, hown, hts⟩, ⟨hK, hN⟩, hA, hcs⟩ := C
  exact lv_iload_n hx hb hd rfl (lv_gat hl hv) (k H locs ls hP hD hS hl)

theorem u_iload (C : u_C p R s m args c cc own nL D A H0 cells slots G) {i : Nat} {x : Int32} (hd : decode cc pc = .ok (.iload i, 2)) (hv : lv_get lv i = some (.int x)) (k : u_S p l e R s m args below meth c nL D A H0 cells slots Q (pc + 2) lv (.int x :: st) G M) : u_S p l e R s m args below meth c nL D A H0 cells slots Q pc lv (st) G M := by
  intro H locs ls hP hD hS hl
  obtain ⟨⟨hx, hb, hml, hown, hts⟩, ⟨hK, hN⟩, hA, hcs⟩ := C
  exact lv_iload hx hb hd (lv_gat hl hv) (k H locs ls hP hD hS hl)

theorem u_lload (C : u_C p R s m args c cc own nL D A H0 cells slots G) {i : Nat} {x : Int64} (hd : decode cc pc = .ok (.lload i, 2)) (hv : lv_get lv i = some (.long x)) (k : u_S p l e R s m args below meth c nL D A H0 cells slots Q (pc + 2) lv (.long x :: st) G M) : u_S p l e R s m args below meth c nL D A H0 cells slots Q pc lv (st) G M := by
  intro H locs ls hP hD hS hl
  obtain ⟨⟨hx, hb, hml, hown, hts⟩, ⟨hK, hN⟩, hA, hcs⟩ := C
  exact lv_lload hx hb hd (lv_gat hl hv) (k H locs ls hP hD hS hl)

theorem u_aload_n (C : u_C p R s m args c cc own nL D A H0 cells slots G) {n : Fin 4} {x : Nat} (hd : decode cc pc = .ok (.aload_n n, 1)) (hv : lv_get lv (n : Nat) = some (.ref x)) (k : u_S p l e R s m args below meth c nL D A H0 cells slots Q (pc + 1) lv (.ref x :: st) G M) : u_S p l e R s m args below meth c nL D A H0 cells slots Q pc lv (st) G M := by
  intro H locs ls hP hD hS hl
  obtain ⟨⟨hx, hb, hml, hown, hts⟩, ⟨hK, hN⟩, hA, hcs⟩ := C
  exact lv_aload_n hx hb hd rfl (lv_gat hl hv) (k H locs ls hP hD hS hl)

theorem u_aload (C : u_C p R s m args c cc own nL D A H0 cells slots G) {i : Nat} {x : Nat} (hd : decode cc pc = .ok (.aload i, 2)) (hv : lv_get lv i = some (.ref x)) (k : u_S p l e R s m args below meth c nL D A H0 cells slots Q (pc + 2) lv (.ref x :: st) G M) : u_S p l e R s m args below meth c nL D A H0 cells slots Q pc lv (st) G M := by
  intro H locs ls hP hD hS hl
  obtain ⟨⟨hx, hb, hml, hown, hts⟩, ⟨hK, hN⟩, hA, hcs⟩ := C
  exact lv_aload hx hb hd (lv_gat hl hv) (k H locs ls hP hD hS hl)

theorem u_istore_n (C : u_C p R s m args c cc own nL D A H0 cells slots G) {n : Fin 4} {x : Int32} (hd : decode cc pc = .ok (.istore_n n, 1)) (hn : (n : Nat) < nL) (k : u_S p l e R s m args below meth c nL D A H0 cells slots Q (pc + 1) (lv_put lv (n : Nat) (.int x)) st G M) : u_S p l e R s m args below meth c nL D A H0 cells slots Q pc lv (.int x :: st) G M := by
  intro H locs ls hP hD hS hl
  obtain ⟨⟨hx, hb, hml, hown, hts⟩, ⟨hK, hN⟩, hA, hcs⟩ := C
  exact lv_istore_n hx hb hd rfl hl hn rfl (fun ls hl => k H locs ls hP hD hS hl)

theorem u_istore (C : u_C p R s m args c cc own nL D A H0 cells slots G) {i : Nat} {x : Int32} (hd : decode cc pc = .ok (.istore i, 2)) (hn : i < nL) (k : u_S p l e R s m args below meth c nL D A H0 cells slots Q (pc + 2) (lv_put lv i (.int x)) st G M) : u_S p l e R s m args below meth c nL D A H0 cells slots Q pc lv (.int x :: st) G M := by
  intro H locs ls hP hD hS hl
  obtain ⟨⟨hx, hb, hml, hown, hts⟩, ⟨hK, hN⟩, hA, hcs⟩ := C
  exact lv_istore hx hb hd hl hn rfl (fun ls hl => k H locs ls hP hD hS hl)

theorem u_astore_n (C : u_C p R s m args c cc own nL D A H0 cells slots G) {n : Fin 4} {x : Nat} (hd : decode cc pc = .ok (.astore_n n, 1)) (hn : (n : Nat) < nL) (k : u_S p l e R s m args below meth c nL D A H0 cells slots Q (pc + 1) (lv_put lv (n : Nat) (.ref x)) st G M) : u_S p l e R s m args below meth c nL D A H0 cells slots Q pc lv (.ref x :: st) G M := by
  intro H locs ls hP hD hS hl
  obtain ⟨⟨hx, hb, hml, hown, hts⟩, ⟨hK, hN⟩, hA, hcs⟩ := C
  exact lv_astore_n hx hb hd rfl hl hn rfl (fun ls hl => k H locs ls hP hD hS hl)

theorem u_astore (C : u_C p R s m args c cc own nL D A H0 cells slots G) {i : Nat} {x : Nat} (hd : decode cc pc = .ok (.astore i, 2)) (hn : i < nL) (k : u_S p l e R s m args below meth c nL D A H0 cells slots Q (pc + 2) (lv_put lv i (.ref x)) st G M) : u_S p l e R s m args below meth c nL D A H0 cells slots Q pc lv (.ref x :: st) G M := by
  intro H locs ls hP hD hS hl
  obtain ⟨⟨hx, hb, hml, hown, hts⟩, ⟨hK, hN⟩, hA, hcs⟩ := C
  exact lv_astore hx hb hd hl hn rfl (fun ls hl => k H locs ls hP hD hS hl)

theorem u_lstore (C : u_C p R s m args c cc own nL D A H0 cells slots G) {i : Nat} {x : Int64} (hd : decode cc pc = .ok (.lstore i, 2)) (hn : i + 1 < nL) (k : u_S p l e R s m args below meth c nL D A H0 cells slots Q (pc + 2) (lv_put2 lv i (.long x)) st G M) : u_S p l e R s m args below meth c nL D A H0 cells slots Q pc lv (.long x :: st) G M := by
  intro H locs ls hP hD hS hl
  obtain ⟨⟨hx, hb, hml, hown, hts⟩, ⟨hK, hN⟩, hA, hcs⟩ := C
  exact lv_lstore hx hb hd hl hn rfl (fun ls hl => k H locs ls hP hD hS hl)

theorem u_iinc (C : u_C p R s m args c cc own nL D A H0 cells slots G) {i : Nat} {n : Int} {x : Int32} (hd : decode cc pc = .ok (.iinc i n, 3)) (hn : i < nL) (hv : lv_get lv i = some (.int x)) (k : u_S p l e R s m args below meth c nL D A H0 cells slots Q (pc + 3) (lv_put lv i (.int (x + Int32.ofInt n))) st G M) : u_S p l e R s m args below meth c nL D A H0 cells slots Q pc lv st G M := by
  intro H locs ls hP hD hS hl
  obtain ⟨⟨hx, hb, hml, hown, hts⟩, ⟨hK, hN⟩, hA, hcs⟩ := C
  obtain ⟨q, hq⟩ := List.getElem?_of_mem (lv_get_mem hv)
  exact lv_iinc hx hb hd hl (k := q) hq rfl hn rfl (fun ls hl => k H locs ls hP hD hS hl)

theorem u_iconst (C : u_C p R s m args c cc own nL D A H0 cells slots G) {n : Int} {v : Int32} (hd : decode cc pc = .ok (.iconst n, 1)) (hv : Int32.ofInt n = v) (k : u_S p l e R s m args below meth c nL D A H0 cells slots Q (pc + 1) lv (.int v :: st) G M) : u_S p l e R s m args below meth c nL D A H0 cells slots Q pc lv (st) G M := by
  intro H locs ls hP hD hS hl
  obtain ⟨⟨hx, hb, hml, hown, hts⟩, ⟨hK, hN⟩, hA, hcs⟩ := C
  exact lv_iconst hx hb hd hv (k H locs ls hP hD hS hl)

theorem u_bipush (C : u_C p R s m args c cc own nL D A H0 cells slots G) {n : Int} {v : Int32} (hd : decode cc pc = .ok (.bipush n, 2)) (hv : (Int8.ofInt n).toInt32 = v) (k : u_S p l e R s m args below meth c nL D A H0 cells slots Q (pc + 2) lv (.int v :: st) G M) : u_S p l e R s m args below meth c nL D A H0 cells slots Q pc lv (st) G M := by
  intro H locs ls hP hD hS hl
  obtain ⟨⟨hx, hb, hml, hown, hts⟩, ⟨hK, hN⟩, hA, hcs⟩ := C
  exact lv_bipush hx hb hd hv (k H locs ls hP hD hS hl)

theorem u_sipush (C : u_C p R s m args c cc own nL D A H0 cells slots G) {n : Int} {v : Int32} (hd : decode cc pc = .ok (.sipush n, 3)) (hv : (Int16.ofInt n).toInt32 = v) (k : u_S p l e R s m args below meth c nL D A H0 cells slots Q (pc + 3) lv (.int v :: st) G M) : u_S p l e R s m args below meth c nL D A H0 cells slots Q pc lv (st) G M := by
  intro H locs ls hP hD hS hl
  obtain ⟨⟨hx, hb, hml, hown, hts⟩, ⟨hK, hN⟩, hA, hcs⟩ := C
  exact lv_sipush hx hb hd hv (k H locs ls hP hD hS hl)

theorem u_lconst (C : u_C p R s m args c cc own nL D A H0 cells slots G) {n : Fin 2} {v : Int64} (hd : decode cc pc = .ok (.lconst n, 1)) (hv : Int64.ofNat (n : Nat) = v) (k : u_S p l e R s m args below meth c nL D A H0 cells slots Q (pc + 1) lv (.long v :: st) G M) : u_S p l e R s m args below meth c nL D A H0 cells slots Q pc lv (st) G M := by
  intro H locs ls hP hD hS hl
  obtain ⟨⟨hx, hb, hml, hown, hts⟩, ⟨hK, hN⟩, hA, hcs⟩ := C
  exact lv_lconst hx hb hd hv (k H locs ls hP hD hS hl)

theorem u_iadd (C : u_C p R s m args c cc own nL D A H0 cells slots G) {x y : Int32} (hd : decode cc pc = .ok (.iadd, 1)) (k : u_S p l e R s m args below meth c nL D A H0 cells slots Q (pc + 1) lv (.int (x + y) :: st) G M) : u_S p l e R s m args below meth c nL D A H0 cells slots Q pc lv (.int y :: .int x :: st) G M := by
  intro H locs ls hP hD hS hl
  obtain ⟨⟨hx, hb, hml, hown, hts⟩, ⟨hK, hN⟩, hA, hcs⟩ := C
  exact lv_iadd hx hb hd (k H locs ls hP hD hS hl)

theorem u_isub (C : u_C p R s m args c cc own nL D A H0 cells slots G) {x y : Int32} (hd : decode cc pc = .ok (.isub, 1)) (k : u_S p l e R s m args below meth c nL D A H0 cells slots Q (pc + 1) lv (.int (x - y) :: st) G M) : u_S p l e R s m args below meth c nL D A H0 cells slots Q pc lv (.int y :: .int x :: st) G M := by
  intro H locs ls hP hD hS hl
  obtain ⟨⟨hx, hb, hml, hown, hts⟩, ⟨hK, hN⟩, hA, hcs⟩ := C
  exact lv_isub hx hb hd (k H locs ls hP hD hS hl)

theorem u_imul (C : u_C p R s m args c cc own nL D A H0 cells slots G) {x y : Int32} (hd : decode cc pc = .ok (.imul, 1)) (k : u_S p l e R s m args below meth c nL D A H0 cells slots Q (pc + 1) lv (.int (x * y) :: st) G M) : u_S p l e R s m args below meth c nL D A H0 cells slots Q pc lv (.int y :: .int x :: st) G M := by
  intro H locs ls hP hD hS hl
  obtain ⟨⟨hx, hb, hml, hown, hts⟩, ⟨hK, hN⟩, hA, hcs⟩ := C
  exact lv_imul hx hb hd (k H locs ls hP hD hS hl)

theorem u_iand (C : u_C p R s m args c cc own nL D A H0 cells slots G) {x y : Int32} (hd : decode cc pc = .ok (.iand, 1)) (k : u_S p l e R s m args below meth c nL D A H0 cells slots Q (pc + 1) lv (.int (x &&& y) :: st) G M) : u_S p l e R s m args below meth c nL D A H0 cells slots Q pc lv (.int y :: .int x :: st) G M := by
  intro H locs ls hP hD hS hl
  obtain ⟨⟨hx, hb, hml, hown, hts⟩, ⟨hK, hN⟩, hA, hcs⟩ := C
  exact lv_iand hx hb hd (k H locs ls hP hD hS hl)

theorem u_ixor (C : u_C p R s m args c cc own nL D A H0 cells slots G) {x y : Int32} (hd : decode cc pc = .ok (.ixor, 1)) (k : u_S p l e R s m args below meth c nL D A H0 cells slots Q (pc + 1) lv (.int (x ^^^ y) :: st) G M) : u_S p l e R s m args below meth c nL D A H0 cells slots Q pc lv (.int y :: .int x :: st) G M := by
  intro H locs ls hP hD hS hl
  obtain ⟨⟨hx, hb, hml, hown, hts⟩, ⟨hK, hN⟩, hA, hcs⟩ := C
  exact lv_ixor hx hb hd (k H locs ls hP hD hS hl)

theorem u_idiv (C : u_C p R s m args c cc own nL D A H0 cells slots G) {x y : Int32} (hd : decode cc pc = .ok (.idiv, 1)) (hne : ¬ y = 0) (k : u_S p l e R s m args below meth c nL D A H0 cells slots Q (pc + 1) lv (.int (x / y) :: st) G M) : u_S p l e R s m args below meth c nL D A H0 cells slots Q pc lv (.int y :: .int x :: st) G M := by
  intro H locs ls hP hD hS hl
  obtain ⟨⟨hx, hb, hml, hown, hts⟩, ⟨hK, hN⟩, hA, hcs⟩ := C
  exact lv_idiv hx hb hd hne (k H locs ls hP hD hS hl)

theorem u_irem (C : u_C p R s m args c cc own nL D A H0 cells slots G) {x y : Int32} (hd : decode cc pc = .ok (.irem, 1)) (hne : ¬ y = 0) (k : u_S p l e R s m args below meth c nL D A H0 cells slots Q (pc + 1) lv (.int (x - x / y * y) :: st) G M) : u_S p l e R s m args below meth c nL D A H0 cells slots Q pc lv (.int y :: .int x :: st) G M := by
  intro H locs ls hP hD hS hl
  obtain ⟨⟨hx, hb, hml, hown, hts⟩, ⟨hK, hN⟩, hA, hcs⟩ := C
  exact lv_irem hx hb hd hne (k H locs ls hP hD hS hl)

theorem u_ineg (C : u_C p R s m args c cc own nL D A H0 cells slots G) {x : Int32} (hd : decode cc pc = .ok (.ineg, 1)) (k : u_S p l e R s m args below meth c nL D A H0 cells slots Q (pc + 1) lv (.int (-x) :: st) G M) : u_S p l e R s m args below meth c nL D A H0 cells slots Q pc lv (.int x :: st) G M := by
  intro H locs ls hP hD hS hl
  obtain ⟨⟨hx, hb, hml, hown, hts⟩, ⟨hK, hN⟩, hA, hcs⟩ := C
  exact lv_ineg hx hb hd (k H locs ls hP hD hS hl)

theorem u_ladd (C : u_C p R s m args c cc own nL D A H0 cells slots G) {x y : Int64} (hd : decode cc pc = .ok (.ladd, 1)) (k : u_S p l e R s m args below meth c nL D A H0 cells slots Q (pc + 1) lv (.long (x + y) :: st) G M) : u_S p l e R s m args below meth c nL D A H0 cells slots Q pc lv (.long y :: .long x :: st) G M := by
  intro H locs ls hP hD hS hl
  obtain ⟨⟨hx, hb, hml, hown, hts⟩, ⟨hK, hN⟩, hA, hcs⟩ := C
  exact lv_ladd hx hb hd (k H locs ls hP hD hS hl)

theorem u_lmul (C : u_C p R s m args c cc own nL D A H0 cells slots G) {x y : Int64} (hd : decode cc pc = .ok (.lmul, 1)) (k : u_S p l e R s m args below meth c nL D A H0 cells slots Q (pc + 1) lv (.long (x * y) :: st) G M) : u_S p l e R s m args below meth c nL D A H0 cells slots Q pc lv (.long y :: .long x :: st) G M := by
  intro H locs ls hP hD hS hl
  obtain ⟨⟨hx, hb, hml, hown, hts⟩, ⟨hK, hN⟩, hA, hcs⟩ := C
  exact lv_lmul hx hb hd (k H locs ls hP hD hS hl)

theorem u_ldiv (C : u_C p R s m args c cc own nL D A H0 cells slots G) {x y : Int64} (hd : decode cc pc = .ok (.ldiv, 1)) (hne : ¬ y = 0) (k : u_S p l e R s m args below meth c nL D A H0 cells slots Q (pc + 1) lv (.long (x / y) :: st) G M) : u_S p l e R s m args below meth c nL D A H0 cells slots Q pc lv (.long y :: .long x :: st) G M := by
  intro H locs ls hP hD hS hl
  obtain ⟨⟨hx, hb, hml, hown, hts⟩, ⟨hK, hN⟩, hA, hcs⟩ := C
  exact lv_ldiv hx hb hd hne (k H locs ls hP hD hS hl)

theorem u_lcmp (C : u_C p R s m args c cc own nL D A H0 cells slots G) {x y : Int64} (hd : decode cc pc = .ok (.lcmp, 1)) (k : u_S p l e R s m args below meth c nL D A H0 cells slots Q (pc + 1) lv (.int (lg_cmp x y) :: st) G M) : u_S p l e R s m args below meth c nL D A H0 cells slots Q pc lv (.long y :: .long x :: st) G M := by
  intro H locs ls hP hD hS hl
  obtain ⟨⟨hx, hb, hml, hown, hts⟩, ⟨hK, hN⟩, hA, hcs⟩ := C
  exact W.lcmp hx hb hd (k H locs ls hP hD hS hl)

theorem u_i2l (C : u_C p R s m args c cc own nL D A H0 cells slots G) {x : Int32} (hd : decode cc pc = .ok (.i2l, 1)) (k : u_S p l e R s m args below meth c nL D A H0 cells slots Q (pc + 1) lv (.long x.toInt64 :: st) G M) : u_S p l e R s m args below meth c nL D A H0 cells slots Q pc lv (.int x :: st) G M := by
  intro H locs ls hP hD hS hl
  obtain ⟨⟨hx, hb, hml, hown, hts⟩, ⟨hK, hN⟩, hA, hcs⟩ := C
  exact lv_i2l hx hb hd rfl (k H locs ls hP hD hS hl)

theorem u_l2i (C : u_C p R s m args c cc own nL D A H0 cells slots G) {x : Int64} (hd : decode cc pc = .ok (.l2i, 1)) (k : u_S p l e R s m args below meth c nL D A H0 cells slots Q (pc + 1) lv (.int x.toInt32 :: st) G M) : u_S p l e R s m args below meth c nL D A H0 cells slots Q pc lv (.long x :: st) G M := by
  intro H locs ls hP hD hS hl
  obtain ⟨⟨hx, hb, hml, hown, hts⟩, ⟨hK, hN⟩, hA, hcs⟩ := C
  exact lv_l2i hx hb hd rfl (k H locs ls hP hD hS hl)

theorem u_dup (C : u_C p R s m args c cc own nL D A H0 cells slots G) {v : Value} (hd : decode cc pc = .ok (.dup, 1)) (hc : v.category = 1) (k : u_S p l e R s m args below meth c nL D A H0 cells slots Q (pc + 1) lv (v :: v :: st) G M) : u_S p l e R s m args below meth c nL D A H0 cells slots Q pc lv (v :: st) G M := by
  intro H locs ls hP hD hS hl
  obtain ⟨⟨hx, hb, hml, hown, hts⟩, ⟨hK, hN⟩, hA, hcs⟩ := C
  exact lv_dup hx hb hd hc (k H locs ls hP hD hS hl)

theorem u_pop (C : u_C p R s m args c cc own nL D A H0 cells slots G) {v : Value} (hd : decode cc pc = .ok (.pop, 1)) (hc : v.category = 1) (k : u_S p l e R s m args below meth c nL D A H0 cells slots Q (pc + 1) lv (st) G M) : u_S p l e R s m args below meth c nL D A H0 cells slots Q pc lv (v :: st) G M := by
  intro H locs ls hP hD hS hl
  obtain ⟨⟨hx, hb, hml, hown, hts⟩, ⟨hK, hN⟩, hA, hcs⟩ := C
  exact lv_pop hx hb hd hc (k H locs ls hP hD hS hl)

theorem u_dup2 (C : u_C p R s m args c cc own nL D A H0 cells slots G) {v w : Value} (hd : decode cc pc = .ok (.dup2, 1)) (hc : v.category = 1) (hc2 : w.category = 1) (k : u_S p l e R s m args below meth c nL D A H0 cells slots Q (pc + 1) lv (v :: w :: v :: w :: st) G M) : u_S p l e R s m args below meth c nL D A H0 cells slots Q pc lv (v :: w :: st) G M := by
  intro H locs ls hP hD hS hl
  obtain ⟨⟨hx, hb, hml, hown, hts⟩, ⟨hK, hN⟩, hA, hcs⟩ := C
  exact lv_dup2_11 hx hb hd hc hc2 (k H locs ls hP hD hS hl)

theorem u_if_eq (C : u_C p R s m args c cc own nL D A H0 cells slots G) {x : Int32} {off : Int} {tgt : Nat} (hd : decode cc pc = .ok (.ifCond .eq off, 3)) (ht : (pc : Int) + off = (tgt : Int)) (kt : x = 0 → u_S p l e R s m args below meth c nL D A H0 cells slots Q tgt lv st G M) (kf : ¬ (x = 0) → u_S p l e R s m args below meth c nL D A H0 cells slots Q (pc + 3) lv st G M) : u_S p l e R s m args below meth c nL D A H0 cells slots Q pc lv (.int x :: st) G M := by
  intro H locs ls hP hD hS hl
  obtain ⟨⟨hx, hb, hml, hown, hts⟩, ⟨hK, hN⟩, hA, hcs⟩ := C
  exact lv_if_eq hx hb hd ht (fun z => kt z H locs ls hP hD hS hl) (fun z => kf z H locs ls hP hD hS hl)

theorem u_if_ne (C : u_C p R s m args c cc own nL D A H0 cells slots G) {x : Int32} {off : Int} {tgt : Nat} (hd : decode cc pc = .ok (.ifCond .ne off, 3)) (ht : (pc : Int) + off = (tgt : Int)) (kt : ¬ x = 0 → u_S p l e R s m args below meth c nL D A H0 cells slots Q tgt lv st G M) (kf : x = 0 → u_S p l e R s m args below meth c nL D A H0 cells slots Q (pc + 3) lv st G M) : u_S p l e R s m args below meth c nL D A H0 cells slots Q pc lv (.int x :: st) G M := by
  intro H locs ls hP hD hS hl
  obtain ⟨⟨hx, hb, hml, hown, hts⟩, ⟨hK, hN⟩, hA, hcs⟩ := C
  exact lv_if_ne hx hb hd ht (fun z => kt z H locs ls hP hD hS hl) (fun z => kf z H locs ls hP hD hS hl)

theorem u_if_lt (C : u_C p R s m args c cc own nL D A H0 cells slots G) {x : Int32} {off : Int} {tgt : Nat} (hd : decode cc pc = .ok (.ifCond .lt off, 3)) (ht : (pc : Int) + off = (tgt : Int)) (kt : x < 0 → u_S p l e R s m args below meth c nL D A H0 cells slots Q tgt lv st G M) (kf : ¬ (x < 0) → u_S p l e R s m args below meth c nL D A H0 cells slots Q (pc + 3) lv st G M) : u_S p l e R s m args below meth c nL D A H0 cells slots Q pc lv (.int x :: st) G M := by
  intro H locs ls hP hD hS hl
  obtain ⟨⟨hx, hb, hml, hown, hts⟩, ⟨hK, hN⟩, hA, hcs⟩ := C
  exact lv_if_lt hx hb hd ht (fun z => kt z H locs ls hP hD hS hl) (fun z => kf z H locs ls hP hD hS hl)

theorem u_if_ge (C : u_C p R s m args c cc own nL D A H0 cells slots G) {x : Int32} {off : Int} {tgt : Nat} (hd : decode cc pc = .ok (.ifCond .ge off, 3)) (ht : (pc : Int) + off = (tgt : Int)) (kt : 0 ≤ x → u_S p l e R s m args below meth c nL D A H0 cells slots Q tgt lv st G M) (kf : ¬ (0 ≤ x) → u_S p l e R s m args below meth c nL D A H0 cells slots Q (pc + 3) lv st G M) : u_S p l e R s m args below meth c nL D A H0 cells slots Q pc lv (.int x :: st) G M := by
  intro H locs ls hP hD hS hl
  obtain ⟨⟨hx, hb, hml, hown, hts⟩, ⟨hK, hN⟩, hA, hcs⟩ := C
  exact lv_if_ge hx hb hd ht (fun z => kt z H locs ls hP hD hS hl) (fun z => kf z H locs ls hP hD hS hl)

theorem u_if_gt (C : u_C p R s m args c cc own nL D A H0 cells slots G) {x : Int32} {off : Int} {tgt : Nat} (hd : decode cc pc = .ok (.ifCond .gt off, 3)) (ht : (pc : Int) + off = (tgt : Int)) (kt : 0 < x → u_S p l e R s m args below meth c nL D A H0 cells slots Q tgt lv st G M) (kf : ¬ (0 < x) → u_S p l e R s m args below meth c nL D A H0 cells slots Q (pc + 3) lv st G M) : u_S p l e R s m args below meth c nL D A H0 cells slots Q pc lv (.int x :: st) G M := by
  intro H locs ls hP hD hS hl
  obtain ⟨⟨hx, hb, hml, hown, hts⟩, ⟨hK, hN⟩, hA, hcs⟩ := C
  exact lv_if_gt hx hb hd ht (fun z => kt z H locs ls hP hD hS hl) (fun z => kf z H locs ls hP hD hS hl)

theorem u_if_le (C : u_C p R s m args c cc own nL D A H0 cells slots G) {x : Int32} {off : Int} {tgt : Nat} (hd : decode cc pc = .ok (.ifCond .le off, 3)) (ht : (pc : Int) + off = (tgt : Int)) (kt : x ≤ 0 → u_S p l e R s m args below meth c nL D A H0 cells slots Q tgt lv st G M) (kf : ¬ (x ≤ 0) → u_S p l e R s m args below meth c nL D A H0 cells slots Q (pc + 3) lv st G M) : u_S p l e R s m args below meth c nL D A H0 cells slots Q pc lv (.int x :: st) G M := by
  intro H locs ls hP hD hS hl
  obtain ⟨⟨hx, hb, hml, hown, hts⟩, ⟨hK, hN⟩, hA, hcs⟩ := C
  exact lv_if_le hx hb hd ht (fun z => kt z H locs ls hP hD hS hl) (fun z => kf z H locs ls hP hD hS hl)

theorem u_icmp_eq (C : u_C p R s m args c cc own nL D A H0 cells slots G) {x y : Int32} {off : Int} {tgt : Nat} (hd : decode cc pc = .ok (.if_icmp .eq off, 3)) (ht : (pc : Int) + off = (tgt : Int)) (kt : x = y → u_S p l e R s m args below meth c nL D A H0 cells slots Q tgt lv st G M) (kf : ¬ (x = y) → u_S p l e R s m args below meth c nL D A H0 cells slots Q (pc + 3) lv st G M) : u_S p l e R s m args below meth c nL D A H0 cells slots Q pc lv (.int y :: .int x :: st) G M := by
  intro H locs ls hP hD hS hl
  obtain ⟨⟨hx, hb, hml, hown, hts⟩, ⟨hK, hN⟩, hA, hcs⟩ := C
  exact lv_icmp_eq hx hb hd ht (fun z => kt z H locs ls hP hD hS hl) (fun z => kf z H locs ls hP hD hS hl)

theorem u_icmp_ne (C : u_C p R s m args c cc own nL D A H0 cells slots G) {x y : Int32} {off : Int} {tgt : Nat} (hd : decode cc pc = .ok (.if_icmp .ne off, 3)) (ht : (pc : Int) + off = (tgt : Int)) (kt : ¬ x = y → u_S p l e R s m args below meth c nL D A H0 cells slots Q tgt lv st G M) (kf : x = y → u_S p l e R s m args below meth c nL D A H0 cells slots Q (pc + 3) lv st G M) : u_S p l e R s m args below meth c nL D A H0 cells slots Q pc lv (.int y :: .int x :: st) G M := by
  intro H locs ls hP hD hS hl
  obtain ⟨⟨hx, hb, hml, hown, hts⟩, ⟨hK, hN⟩, hA, hcs⟩ := C
  exact lv_icmp_ne hx hb hd ht (fun z => kt z H locs ls hP hD hS hl) (fun z => kf z H locs ls hP hD hS hl)

theorem u_icmp_lt (C : u_C p R s m args c cc own nL D A H0 cells slots G) {x y : Int32} {off : Int} {tgt : Nat} (hd : decode cc pc = .ok (.if_icmp .lt off, 3)) (ht : (pc : Int) + off = (tgt : Int)) (kt : x < y → u_S p l e R s m args below meth c nL D A H0 cells slots Q tgt lv st G M) (kf : ¬ (x < y) → u_S p l e R s m args below meth c nL D A H0 cells slots Q (pc + 3) lv st G M) : u_S p l e R s m args below meth c nL D A H0 cells slots Q pc lv (.int y :: .int x :: st) G M := by
  intro H locs ls hP hD hS hl
  obtain ⟨⟨hx, hb, hml, hown, hts⟩, ⟨hK, hN⟩, hA, hcs⟩ := C
  exact lv_icmp_lt hx hb hd ht (fun z => kt z H locs ls hP hD hS hl) (fun z => kf z H locs ls hP hD hS hl)

theorem u_icmp_ge (C : u_C p R s m args c cc own nL D A H0 cells slots G) {x y : Int32} {off : Int} {tgt : Nat} (hd : decode cc pc = .ok (.if_icmp .ge off, 3)) (ht : (pc : Int) + off = (tgt : Int)) (kt : y ≤ x → u_S p l e R s m args below meth c nL D A H0 cells slots Q tgt lv st G M) (kf : ¬ (y ≤ x) → u_S p l e R s m args below meth c nL D A H0 cells slots Q (pc + 3) lv st G M) : u_S p l e R s m args below meth c nL D A H0 cells slots Q pc lv (.int y :: .int x :: st) G M := by
  intro H locs ls hP hD hS hl
  obtain ⟨⟨hx, hb, hml, hown, hts⟩, ⟨hK, hN⟩, hA, hcs⟩ := C
  exact lv_icmp_ge hx hb hd ht (fun z => kt z H locs ls hP hD hS hl) (fun z => kf z H locs ls hP hD hS hl)

theorem u_icmp_gt (C : u_C p R s m args c cc own nL D A H0 cells slots G) {x y : Int32} {off : Int} {tgt : Nat} (hd : decode cc pc = .ok (.if_icmp .gt off, 3)) (ht : (pc : Int) + off = (tgt : Int)) (kt : y < x → u_S p l e R s m args below meth c nL D A H0 cells slots Q tgt lv st G M) (kf : ¬ (y < x) → u_S p l e R s m args below meth c nL D A H0 cells slots Q (pc + 3) lv st G M) : u_S p l e R s m args below meth c nL D A H0 cells slots Q pc lv (.int y :: .int x :: st) G M := by
  intro H locs ls hP hD hS hl
  obtain ⟨⟨hx, hb, hml, hown, hts⟩, ⟨hK, hN⟩, hA, hcs⟩ := C
  exact lv_icmp_gt hx hb hd ht (fun z => kt z H locs ls hP hD hS hl) (fun z => kf z H locs ls hP hD hS hl)

theorem u_icmp_le (C : u_C p R s m args c cc own nL D A H0 cells slots G) {x y : Int32} {off : Int} {tgt : Nat} (hd : decode cc pc = .ok (.if_icmp .le off, 3)) (ht : (pc : Int) + off = (tgt : Int)) (kt : x ≤ y → u_S p l e R s m args below meth c nL D A H0 cells slots Q tgt lv st G M) (kf : ¬ (x ≤ y) → u_S p l e R s m args below meth c nL D A H0 cells slots Q (pc + 3) lv st G M) : u_S p l e R s m args below meth c nL D A H0 cells slots Q pc lv (.int y :: .int x :: st) G M := by
  intro H locs ls hP hD hS hl
  obtain ⟨⟨hx, hb, hml, hown, hts⟩, ⟨hK, hN⟩, hA, hcs⟩ := C
  exact lv_icmp_le hx hb hd ht (fun z => kt z H locs ls hP hD hS hl) (fun z => kf z H locs ls hP hD hS hl)

theorem u_goto (C : u_C p R s m args c cc own nL D A H0 cells slots G) {off : Int} {tgt : Nat} (hd : decode cc pc = .ok (.goto off, 3)) (ht : (pc : Int) + off = (tgt : Int)) (k : u_S p l e R s m args below meth c nL D A H0 cells slots Q tgt lv st G M) : u_S p l e R s m args below meth c nL D A H0 cells slots Q pc lv st G M := by
  intro H locs ls hP hD hS hl
  obtain ⟨⟨hx, hb, hml, hown, hts⟩, ⟨hK, hN⟩, hA, hcs⟩ := C
  exact lv_goto hx hb hd ht (k H locs ls hP hD hS hl)

theorem u_tin (C : u_C p R s m args c cc own nL D A H0 cells slots G) {dflt lo hi : Int} {offs : Array Int} {len : Nat} {x : Int32} {off : Int} {tgt : Nat} (hd : decode cc pc = .ok (.tableswitch dflt lo hi offs, len)) (h1 : ¬ x.toInt < lo) (h2 : ¬ hi < x.toInt) (ho : offs[(x.toInt - lo).toNat]? = some off) (ht : (pc : Int) + off = (tgt : Int)) (k : u_S p l e R s m args below meth c nL D A H0 cells slots Q tgt lv st G M) : u_S p l e R s m args below meth c nL D A H0 cells slots Q pc lv (.int x :: st) G M := by
  intro H locs ls hP hD hS hl
  obtain ⟨⟨hx, hb, hml, hown, hts⟩, ⟨hK, hN⟩, hA, hcs⟩ := C
  exact lv_tableIn hx hb hd h1 h2 ho ht (k H locs ls hP hD hS hl)

theorem u_tout (C : u_C p R s m args c cc own nL D A H0 cells slots G) {dflt lo hi : Int} {offs : Array Int} {len : Nat} {x : Int32} {tgt : Nat} (hd : decode cc pc = .ok (.tableswitch dflt lo hi offs, len)) (h : x.toInt < lo ∨ hi < x.toInt) (ht : (pc : Int) + dflt = (tgt : Int)) (k : u_S p l e R s m args below meth c nL D A H0 cells slots Q tgt lv st G M) : u_S p l e R s m args below meth c nL D A H0 cells slots Q pc lv (.int x :: st) G M := by
  intro H locs ls hP hD hS hl
  obtain ⟨⟨hx, hb, hml, hown, hts⟩, ⟨hK, hN⟩, hA, hcs⟩ := C
  exact lv_tableOut hx hb hd h ht (k H locs ls hP hD hS hl)

def u_gf (cc : ByteArray) (own : String) (pc ci j : Nat) : Prop := ∃ (index : Nat) (Cn : String) (T : u_T) (N : Nat), decode cc pc = .ok (.getfield index, 3) ∧ vwCl[ci]? = some (Cn, T, N) ∧ (∀ w ∈ u_ws Cn T N, w ∈ wsL_law) ∧ j < N ∧ Cond.fieldLink own index (T j).1 (T j).2.1 (T j).2.2.1 ∈ wsL_law ∧ j < w_nf ci ∧ ci < 12
def u_pf (cc : ByteArray) (own : String) (pc ci j : Nat) (fin : Bool) (t : FieldType) : Prop := ∃ (index : Nat) (Cn : String) (T : u_T) (N : Nat) (ty0 : Nat → FieldType), decode cc pc = .ok (.putfield index, 3) ∧ vwCl[ci]? = some (Cn, T, N) ∧ (∀ w ∈ u_ws Cn T N, w ∈ wsL_law) ∧ (∀ k, k < N → parseFieldDescriptor (T k).2.2.1 = some (ty0 k)) ∧ (∀ a, a < N → ∀ b, b < N → a ≠ b → (T a).2.1 ≠ (T b).2.1) ∧ j < N ∧ Cond.fieldLink own index (T j).1 (T j).2.1 (T j).2.2.1 ∈ wsL_law ∧ j < w_nf ci ∧ ci < 12 ∧ (T j).2.2.2 = fin ∧ parseFieldDescriptor (T j).2.2.1 = some t ∧ (fin = true → (T j).1 = own)
theorem u_getI (C : u_C p R s m args c cc own nL D A H0 cells slots G) {ci j k : Nat} (hg : u_gf cc own pc ci j) (hr : w_rf ci j = false) (hk : u_is G k ci) (kk : u_S p l e R s m args below meth c nL D A H0 cells slots Q (pc + 3) lv (.int (iv M k j) :: st) G M) : u_S p l e R s m args below meth c nL D A H0 cells slots Q pc lv (.ref (gP G k) :: st) G M := by
  intro H locs ls hP hD hS hl
  obtain ⟨⟨hx, hb, hml, hown, hts⟩, ⟨hK, hN⟩, hA, hcs⟩ := C
  obtain ⟨index, Cn, T, N, hd, hc, hin, hj, hlk, hj', hci⟩ := hg
  obtain ⟨q, hq, hw⟩ := u_get (M := M) hk.1
  rw [w_cellO hk hci] at hw
  exact va_get hx hb hts hin hown hK hP q hw hc j hj (hts _ hlk) (fun _ h => h) (v := .int (iv M k j)) (by rw [w_fs_at hj']; simp [w_fv, hr]) hd (kk H locs ls hP hD hS hl)

theorem u_getR (C : u_C p R s m args c cc own nL D A H0 cells slots G) {ci j k k2 : Nat} (hg : u_gf cc own pc ci j) (hr : w_rf ci j = true) (hk : u_is G k ci) (hf : gF G k j = some k2) (kk : u_S p l e R s m args below meth c nL D A H0 cells slots Q (pc + 3) lv (.ref (gP G k2) :: st) G M) : u_S p l e R s m args below meth c nL D A H0 cells slots Q pc lv (.ref (gP G k) :: st) G M := by
  intro H locs ls hP hD hS hl
  obtain ⟨⟨hx, hb, hml, hown, hts⟩, ⟨hK, hN⟩, hA, hcs⟩ := C
  obtain ⟨index, Cn, T, N, hd, hc, hin, hj, hlk, hj', hci⟩ := hg
  obtain ⟨q, hq, hw⟩ := u_get (M := M) hk.1
  rw [w_cellO hk hci] at hw
  exact va_get hx hb hts hin hown hK hP q hw hc j hj (hts _ hlk) (fun _ h => h) (v := .ref (gP G k2)) (by rw [w_fs_at hj']; simp [w_fv, hr, hf, va_rf]) hd (kk H locs ls hP hD hS hl)

theorem u_putI (C : u_C p R s m args c cc own nL D A H0 cells slots G) {ci j k : Nat} {x : Int32} (hg : u_pf cc own pc ci j false .int) (hr : w_rf ci j = false) (hk : u_is G k ci)  (kk : u_S p l e R s m args below meth c nL D A H0 cells slots Q (pc + 3) lv st G (wi M k j x)) : u_S p l e R s m args below meth c nL D A H0 cells slots Q pc lv (.int x :: .ref (gP G k) :: st) G M := by
  intro H locs ls hP hD hS hl
  obtain ⟨⟨hx, hb, hml, hown, hts⟩, ⟨hK, hN⟩, hA, hcs⟩ := C
  obtain ⟨index, Cn, T, N, ty0, hd, hc, hin, hty, hnm, hj, hlk, hj', hci, hfin, hd9, -⟩ := hg
  obtain ⟨q, hq, hw⟩ := u_get (M := M) hk.1
  rw [w_cellO hk hci] at hw
  have e : (u_W G M).set q (gP G k, .inr (ci, (w_fs G M ci k).set j (.int x))) = u_W G (wi M k j x) := by
    rw [w_fs_wi hr, ← w_cellO hk hci]
    exact u_setW hD hq (fun b hb => w_oi hb)
  refine va_put hx hb hts hin ty0 hty hnm hown hK hP hD hS q hw hc j hj (hts _ hlk) (fun _ h => h) hfin (v := .int x) hd9 rfl rfl (by rw [w_fs_len]; exact hj') hd (fun H locs hP hD hS => ?_)
  rw [e] at hP hD
  exact kk H locs ls hP hD hS hl

theorem u_putZ (C : u_C p R s m args c cc own nL D A H0 cells slots G) {ci j k : Nat} {x : Int32} (hg : u_pf cc own pc ci j false .boolean) (hr : w_rf ci j = false) (hk : u_is G k ci) (hx9 : x = 0 ∨ x = 1)  (kk : u_S p l e R s m args below meth c nL D A H0 cells slots Q (pc + 3) lv st G (wi M k j x)) : u_S p l e R s m args below meth c nL D A H0 cells slots Q pc lv (.int x :: .ref (gP G k) :: st) G M := by
  intro H locs ls hP hD hS hl
  obtain ⟨⟨hx, hb, hml, hown, hts⟩, ⟨hK, hN⟩, hA, hcs⟩ := C
  obtain ⟨index, Cn, T, N, ty0, hd, hc, hin, hty, hnm, hj, hlk, hj', hci, hfin, hd9, -⟩ := hg
  obtain ⟨q, hq, hw⟩ := u_get (M := M) hk.1
  rw [w_cellO hk hci] at hw
  have e : (u_W G M).set q (gP G k, .inr (ci, (w_fs G M ci k).set j (.int x))) = u_W G (wi M k j x) := by
    rw [w_fs_wi hr, ← w_cellO hk hci]
    exact u_setW hD hq (fun b hb => w_oi hb)
  refine va_put hx hb hts hin ty0 hty hnm hown hK hP hD hS q hw hc j hj (hts _ hlk) (fun _ h => h) hfin (v := .int x) hd9 (by rcases hx9 with rfl | rfl <;> rfl) (by rcases hx9 with rfl | rfl <;> rfl) (by rw [w_fs_len]; exact hj') hd (fun H locs hP hD hS => ?_)
  rw [e] at hP hD
  exact kk H locs ls hP hD hS hl

theorem u_upd {M : w_M} {k i : Nat} {x : Int32} : upd (fun j => iv M k j) i x = fun j => iv (wi M k i x) k j := by
  funext j
  simp [upd, iv_wi]

theorem u_updL {M : w_M} {k i : Nat} {x : Int64} : vp_updL (fun j => jv M k j) i x = fun j => jv (wj M k i x) k j := by
  funext j
  simp [vp_updL, jv_wj]

theorem u_iald (C : u_C p R s m args c cc own nL D A H0 cells slots G) {k : Nat} {i : Int32} (hd : decode cc pc = .ok (.iaload, 1)) (hk : u_is G k 12) (hi : vp_in i (gN G k)) (kk : u_S p l e R s m args below meth c nL D A H0 cells slots Q (pc + 1) lv (.int (iv M k i.toNatClampNeg) :: st) G M) : u_S p l e R s m args below meth c nL D A H0 cells slots Q pc lv (.int i :: .ref (gP G k) :: st) G M := by
  intro H locs ls hP hD hS hl
  obtain ⟨⟨hx, hb, hml, hown, hts⟩, ⟨hK, hN⟩, hA, hcs⟩ := C
  obtain ⟨q, hq, hw⟩ := u_get (M := M) hk.1
  rw [w_cellI hk] at hw
  exact va_iald hx hb hK hP q 0 hw rfl hi hd (kk H locs ls hP hD hS hl)

theorem u_zald (C : u_C p R s m args c cc own nL D A H0 cells slots G) {k : Nat} {i : Int32} (hd : decode cc pc = .ok (.baload, 1)) (hk : u_is G k 14) (hi : vp_in i (gN G k)) (kk : u_S p l e R s m args below meth c nL D A H0 cells slots Q (pc + 1) lv (.int (iv M k i.toNatClampNeg) :: st) G M) : u_S p l e R s m args below meth c nL D A H0 cells slots Q pc lv (.int i :: .ref (gP G k) :: st) G M := by
  intro H locs ls hP hD hS hl
  obtain ⟨⟨hx, hb, hml, hown, hts⟩, ⟨hK, hN⟩, hA, hcs⟩ := C
  obtain ⟨q, hq, hw⟩ := u_get (M := M) hk.1
  rw [w_cellZ hk] at hw
  exact va_zald hx hb hK hP q 2 hw rfl hi hd (kk H locs ls hP hD hS hl)

theorem u_lald (C : u_C p R s m args c cc own nL D A H0 cells slots G) {k : Nat} {i : Int32} (hd : decode cc pc = .ok (.laload, 1)) (hk : u_is G k 13) (hi : vp_in i (gN G k)) (kk : u_S p l e R s m args below meth c nL D A H0 cells slots Q (pc + 1) lv (.long (jv M k i.toNatClampNeg) :: st) G M) : u_S p l e R s m args below meth c nL D A H0 cells slots Q pc lv (.int i :: .ref (gP G k) :: st) G M := by
  intro H locs ls hP hD hS hl
  obtain ⟨⟨hx, hb, hml, hown, hts⟩, ⟨hK, hN⟩, hA, hcs⟩ := C
  obtain ⟨q, hq, hw⟩ := u_get (M := M) hk.1
  rw [w_cellJ hk] at hw
  exact va_lald hx hb hK hP q 1 hw rfl hi hd (kk H locs ls hP hD hS hl)

theorem u_iast (C : u_C p R s m args c cc own nL D A H0 cells slots G) {k : Nat} {i : Int32} {x : Int32} (hd : decode cc pc = .ok (.iastore, 1)) (hk : u_is G k 12) (hi : vp_in i (gN G k))  (kk : u_S p l e R s m args below meth c nL D A H0 cells slots Q (pc + 1) lv st G (wi M k i.toNatClampNeg x)) : u_S p l e R s m args below meth c nL D A H0 cells slots Q pc lv (.int x :: .int i :: .ref (gP G k) :: st) G M := by
  intro H locs ls hP hD hS hl
  obtain ⟨⟨hx, hb, hml, hown, hts⟩, ⟨hK, hN⟩, hA, hcs⟩ := C
  obtain ⟨q, hq, hw⟩ := u_get (M := M) hk.1
  rw [w_cellI hk] at hw
  have e : (u_W G M).set q (gP G k, .inl (gC G 0, gN G k, .inl (upd (fun j => iv M k j) i.toNatClampNeg x))) = u_W G (wi M k i.toNatClampNeg x) := by
    rw [u_upd, ← w_cellI hk]
    exact u_setW hD hq (fun b hb => w_oi hb)
  refine va_iast hx hb hK hP hD hS q 0 hw rfl hi hd (fun H locs hP hD hS => ?_)
  rw [e] at hP hD
  exact kk H locs ls hP hD hS hl

theorem u_zast (C : u_C p R s m args c cc own nL D A H0 cells slots G) {k : Nat} {i : Int32} {x : Int32} (hd : decode cc pc = .ok (.bastore, 1)) (hk : u_is G k 14) (hi : vp_in i (gN G k)) (hx9 : x = 0 ∨ x = 1) (kk : u_S p l e R s m args below meth c nL D A H0 cells slots Q (pc + 1) lv st G (wi M k i.toNatClampNeg x)) : u_S p l e R s m args below meth c nL D A H0 cells slots Q pc lv (.int x :: .int i :: .ref (gP G k) :: st) G M := by
  intro H locs ls hP hD hS hl
  obtain ⟨⟨hx, hb, hml, hown, hts⟩, ⟨hK, hN⟩, hA, hcs⟩ := C
  obtain ⟨q, hq, hw⟩ := u_get (M := M) hk.1
  rw [w_cellZ hk] at hw
  have e : (u_W G M).set q (gP G k, .inl (gC G 2, gN G k, .inl (upd (fun j => iv M k j) i.toNatClampNeg x))) = u_W G (wi M k i.toNatClampNeg x) := by
    rw [u_upd, ← w_cellZ hk]
    exact u_setW hD hq (fun b hb => w_oi hb)
  refine va_zast hx hb hK hP hD hS q 2 hw rfl hi hd (fun H locs hP hD hS => ?_)
  rw [show vp_nar .boolean x = x by rcases hx9 with rfl | rfl <;> rfl] at hP hD
  rw [e] at hP hD
  exact kk H locs ls hP hD hS hl

theorem u_last (C : u_C p R s m args c cc own nL D A H0 cells slots G) {k : Nat} {i : Int32} {x : Int64} (hd : decode cc pc = .ok (.lastore, 1)) (hk : u_is G k 13) (hi : vp_in i (gN G k))  (kk : u_S p l e R s m args below meth c nL D A H0 cells slots Q (pc + 1) lv st G (wj M k i.toNatClampNeg x)) : u_S p l e R s m args below meth c nL D A H0 cells slots Q pc lv (.long x :: .int i :: .ref (gP G k) :: st) G M := by
  intro H locs ls hP hD hS hl
  obtain ⟨⟨hx, hb, hml, hown, hts⟩, ⟨hK, hN⟩, hA, hcs⟩ := C
  obtain ⟨q, hq, hw⟩ := u_get (M := M) hk.1
  rw [w_cellJ hk] at hw
  have e : (u_W G M).set q (gP G k, .inl (gC G 1, gN G k, .inr (.inl (vp_updL (fun j => jv M k j) i.toNatClampNeg x)))) = u_W G (wj M k i.toNatClampNeg x) := by
    rw [u_updL, ← w_cellJ hk]
    exact u_setW hD hq (fun b hb => w_oj hb)
  refine va_last hx hb hK hP hD hS q 1 hw rfl hi hd (fun H locs hP hD hS => ?_)
  rw [e] at hP hD
  exact kk H locs ls hP hD hS hl

theorem u_aald (C : u_C p R s m args c cc own nL D A H0 cells slots G) {k k2 t : Nat} {i : Int32} (hd : decode cc pc = .ok (.aaload, 1)) (hk : u_is G k t) (ht : 15 ≤ t ∧ t ≤ 19) (hi : vp_in i (gN G k)) (hf : gF G k i.toNatClampNeg = some k2) (kk : u_S p l e R s m args below meth c nL D A H0 cells slots Q (pc + 1) lv (.ref (gP G k2) :: st) G M) : u_S p l e R s m args below meth c nL D A H0 cells slots Q pc lv (.int i :: .ref (gP G k) :: st) G M := by
  intro H locs ls hP hD hS hl
  obtain ⟨⟨hx, hb, hml, hown, hts⟩, ⟨hK, hN⟩, hA, hcs⟩ := C
  obtain ⟨q, hq, hw⟩ := u_get (M := M) hk.1
  rw [w_cellR hk ht.1] at hw
  obtain ⟨Cn, h9⟩ : ∃ Cn : String, (w_ty (gC G))[t - 12]? = some (gC G (t - 12), .object Cn) := by
    obtain ⟨h1, h2⟩ := ht
    rcases (show t = 15 ∨ t = 16 ∨ t = 17 ∨ t = 18 ∨ t = 19 by omega) with rfl | rfl | rfl | rfl | rfl <;> exact ⟨_, rfl⟩
  refine va_aldq hx hb hK hP q (t - 12) hw h9 hi hd ?_
  rw [hf]
  exact kk H locs ls hP hD hS hl

theorem u_alenI (C : u_C p R s m args c cc own nL D A H0 cells slots G) {k : Nat} (hd : decode cc pc = .ok (.arraylength, 1)) (hk : u_is G k 12) (kk : u_S p l e R s m args below meth c nL D A H0 cells slots Q (pc + 1) lv (.int (Int32.ofNat (gN G k)) :: st) G M) : u_S p l e R s m args below meth c nL D A H0 cells slots Q pc lv (.ref (gP G k) :: st) G M := by
  intro H locs ls hP hD hS hl
  obtain ⟨⟨hx, hb, hml, hown, hts⟩, ⟨hK, hN⟩, hA, hcs⟩ := C
  obtain ⟨q, hq, hw⟩ := u_get (M := M) hk.1
  rw [w_cellI hk] at hw
  exact va_alen hx hb hK hP q 0 hw rfl rfl hd (kk H locs ls hP hD hS hl)

theorem u_alenJ (C : u_C p R s m args c cc own nL D A H0 cells slots G) {k : Nat} (hd : decode cc pc = .ok (.arraylength, 1)) (hk : u_is G k 13) (kk : u_S p l e R s m args below meth c nL D A H0 cells slots Q (pc + 1) lv (.int (Int32.ofNat (gN G k)) :: st) G M) : u_S p l e R s m args below meth c nL D A H0 cells slots Q pc lv (.ref (gP G k) :: st) G M := by
  intro H locs ls hP hD hS hl
  obtain ⟨⟨hx, hb, hml, hown, hts⟩, ⟨hK, hN⟩, hA, hcs⟩ := C
  obtain ⟨q, hq, hw⟩ := u_get (M := M) hk.1
  rw [w_cellJ hk] at hw
  exact va_alen hx hb hK hP q 1 hw rfl rfl hd (kk H locs ls hP hD hS hl)

theorem u_alenR (C : u_C p R s m args c cc own nL D A H0 cells slots G) {k t : Nat} (hd : decode cc pc = .ok (.arraylength, 1)) (hk : u_is G k t) (ht : 15 ≤ t ∧ t ≤ 19) (kk : u_S p l e R s m args below meth c nL D A H0 cells slots Q (pc + 1) lv (.int (Int32.ofNat (gN G k)) :: st) G M) : u_S p l e R s m args below meth c nL D A H0 cells slots Q pc lv (.ref (gP G k) :: st) G M := by
  intro H locs ls hP hD hS hl
  obtain ⟨⟨hx, hb, hml, hown, hts⟩, ⟨hK, hN⟩, hA, hcs⟩ := C
  obtain ⟨q, hq, hw⟩ := u_get (M := M) hk.1
  rw [w_cellR hk ht.1] at hw
  obtain ⟨Cn, h9⟩ : ∃ Cn : String, (w_ty (gC G))[t - 12]? = some (gC G (t - 12), .object Cn) := by
    obtain ⟨h1, h2⟩ := ht
    rcases (show t = 15 ∨ t = 16 ∨ t = 17 ∨ t = 18 ∨ t = 19 by omega) with rfl | rfl | rfl | rfl | rfl <;> exact ⟨_, rfl⟩
  exact va_alen hx hb hK hP q (t - 12) hw h9 rfl hd (kk H locs ls hP hD hS hl)

theorem u_ialdN (C : u_C p R s m args c cc own nL D A H0 cells slots G) {k i N : Nat} (hd : decode cc pc = .ok (.iaload, 1)) (hk : u_is G k 12) (hn : gN G k = N) (hi : i < N) (hN : N < 2 ^ 31) (kk : u_S p l e R s m args below meth c nL D A H0 cells slots Q (pc + 1) lv (.int (iv M k i) :: st) G M) : u_S p l e R s m args below meth c nL D A H0 cells slots Q pc lv (.int (nI i) :: .ref (gP G k) :: st) G M := u_iald C hd hk (by rw [hn]; exact vp_in_nI hi hN) (by rw [nI_clamp (Nat.lt_trans hi hN)]; exact kk)
theorem u_zaldN (C : u_C p R s m args c cc own nL D A H0 cells slots G) {k i N : Nat} (hd : decode cc pc = .ok (.baload, 1)) (hk : u_is G k 14) (hn : gN G k = N) (hi : i < N) (hN : N < 2 ^ 31) (kk : u_S p l e R s m args below meth c nL D A H0 cells slots Q (pc + 1) lv (.int (iv M k i) :: st) G M) : u_S p l e R s m args below meth c nL D A H0 cells slots Q pc lv (.int (nI i) :: .ref (gP G k) :: st) G M := u_zald C hd hk (by rw [hn]; exact vp_in_nI hi hN) (by rw [nI_clamp (Nat.lt_trans hi hN)]; exact kk)
theorem u_laldN (C : u_C p R s m args c cc own nL D A H0 cells slots G) {k i N : Nat} (hd : decode cc pc = .ok (.laload, 1)) (hk : u_is G k 13) (hn : gN G k = N) (hi : i < N) (hN : N < 2 ^ 31) (kk : u_S p l e R s m args below meth c nL D A H0 cells slots Q (pc + 1) lv (.long (jv M k i) :: st) G M) : u_S p l e R s m args below meth c nL D A H0 cells slots Q pc lv (.int (nI i) :: .ref (gP G k) :: st) G M := u_lald C hd hk (by rw [hn]; exact vp_in_nI hi hN) (by rw [nI_clamp (Nat.lt_trans hi hN)]; exact kk)
theorem u_iastN (C : u_C p R s m args c cc own nL D A H0 cells slots G) {k i N : Nat} {x : Int32} (hd : decode cc pc = .ok (.iastore, 1)) (hk : u_is G k 12) (hn : gN G k = N) (hi : i < N) (hN : N < 2 ^ 31) (kk : u_S p l e R s m args below meth c nL D A H0 cells slots Q (pc + 1) lv st G (wi M k i x)) : u_S p l e R s m args below meth c nL D A H0 cells slots Q pc lv (.int x :: .int (nI i) :: .ref (gP G k) :: st) G M := u_iast C hd hk (by rw [hn]; exact vp_in_nI hi hN) (by rw [nI_clamp (Nat.lt_trans hi hN)]; exact kk)
theorem u_zastN (C : u_C p R s m args c cc own nL D A H0 cells slots G) {k i N : Nat} {x : Int32} (hd : decode cc pc = .ok (.bastore, 1)) (hk : u_is G k 14) (hn : gN G k = N) (hi : i < N) (hN : N < 2 ^ 31) (hx9 : x = 0 ∨ x = 1) (kk : u_S p l e R s m args below meth c nL D A H0 cells slots Q (pc + 1) lv st G (wi M k i x)) : u_S p l e R s m args below meth c nL D A H0 cells slots Q pc lv (.int x :: .int (nI i) :: .ref (gP G k) :: st) G M := u_zast C hd hk (by rw [hn]; exact vp_in_nI hi hN) hx9 (by rw [nI_clamp (Nat.lt_trans hi hN)]; exact kk)
theorem u_lastN (C : u_C p R s m args c cc own nL D A H0 cells slots G) {k i N : Nat} {x : Int64} (hd : decode cc pc = .ok (.lastore, 1)) (hk : u_is G k 13) (hn : gN G k = N) (hi : i < N) (hN : N < 2 ^ 31) (kk : u_S p l e R s m args below meth c nL D A H0 cells slots Q (pc + 1) lv st G (wj M k i x)) : u_S p l e R s m args below meth c nL D A H0 cells slots Q pc lv (.long x :: .int (nI i) :: .ref (gP G k) :: st) G M := u_last C hd hk (by rw [hn]; exact vp_in_nI hi hN) (by rw [nI_clamp (Nat.lt_trans hi hN)]; exact kk)
theorem u_aaldN (C : u_C p R s m args c cc own nL D A H0 cells slots G) {k k2 t i N : Nat} (hd : decode cc pc = .ok (.aaload, 1)) (hk : u_is G k t) (ht : 15 ≤ t ∧ t ≤ 19) (hn : gN G k = N) (hi : i < N) (hN : N < 2 ^ 31) (hf : gF G k i = some k2) (kk : u_S p l e R s m args below meth c nL D A H0 cells slots Q (pc + 1) lv (.ref (gP G k2) :: st) G M) : u_S p l e R s m args below meth c nL D A H0 cells slots Q pc lv (.int (nI i) :: .ref (gP G k) :: st) G M := u_aald C hd hk ht (by rw [hn]; exact vp_in_nI hi hN) (by rw [nI_clamp (Nat.lt_trans hi hN)]; exact hf) kk
theorem u_look (C : u_C p R s m args c cc own nL D A H0 cells slots G) {dflt : Int} {ps : Array (Int × Int)} {len : Nat} {x : Int32} {off : Int} {tgt : Nat} (hd : decode cc pc = .ok (.lookupswitch dflt ps, len)) (hp : (ps.toList.zip (ps.toList.drop 1)).all (fun (a, next) => a.1 < next.1) = true) (ho : Op.lookupswitch.offset ps.toList dflt x.toInt = off) (ht : (pc : Int) + off = (tgt : Int)) (k : u_S p l e R s m args below meth c nL D A H0 cells slots Q tgt lv st G M) : u_S p l e R s m args below meth c nL D A H0 cells slots Q pc lv (.int x :: st) G M := by
  intro H locs ls hP hD hS hl
  obtain ⟨⟨hx, hb, hml, hown, hts⟩, ⟨hK, hN⟩, hA, hcs⟩ := C
  exact lv_lookup hx hb hd hp ho ht (k H locs ls hP hD hS hl)

theorem u_lt {i n : Nat} (h : ¬ nI n ≤ nI i) (hi : i < 2 ^ 31) : i < n := by
  rcases Nat.lt_or_ge i n with q | q
  · exact q
  · exact absurd (nI_le q hi) h
theorem u_gei {i n : Nat} (h : nI n ≤ nI i) (hn : n < 2 ^ 31) (hi : i < 2 ^ 31) : n ≤ i := (nI_leI hn hi).mp h
def cN (x : Int32) : Nat := x.toNatClampNeg
theorem cN_nI {n : Nat} (h : n < 2 ^ 31) : cN (nI n) = n := nI_clamp h
def cB (x : Int32) (b : Nat) : Prop := ∃ n : Nat, n ≤ b ∧ x = nI n
theorem u_loc (ks : List Nat) {lv2 : List (Nat × Value)} (hs : lv_re lv ks = lv2) (k : u_S p l e R s m args below meth c nL D A H0 cells slots Q pc lv2 st G M) : u_S p l e R s m args below meth c nL D A H0 cells slots Q pc lv st G M := fun H locs ls hP hD hS hl => k H locs ls hP hD hS (hs ▸ lv_rehas hl ks)
theorem u_eq {lv2 : List (Nat × Value)} {st2 : List Value} {M2 : w_M} (k : u_S p l e R s m args below meth c nL D A H0 cells slots Q pc lv2 st2 G M2) (h1 : lv = lv2) (h2 : st = st2) (h3 : M = M2) : u_S p l e R s m args below meth c nL D A H0 cells slots Q pc lv st G M := by subst h1 h2 h3; exact k
theorem u_mmin (C : u_C p R s m args c cc own nL D A H0 cells slots G) {x y : Int32} {index : Nat} (hd : decode cc pc = .ok (.invokestatic index, 3)) (hlk : Cond.methodLink own index Lib.Math.min.name ∈ wsL_law) (hw : Cond.static Lib.Math.min.name ∈ wsL_law ∧ Cond.initialized "java/lang/Math" ∈ wsL_law ∧ Cond.code Lib.Math.min.name Lib.Math.min.code 2 (some .int) ∈ wsL_law) (hR : 1 ≤ R.frames ∧ 21 ≤ R.locals) (hcat : (st.map fun v => v.category).sum ≤ 8) (kk : u_S p l e R s m args below meth c nL D A H0 cells slots Q (pc + 3) lv (.int (if y < x then y else x) :: st) G M) : u_S p l e R s m args below meth c nL D A H0 cells slots Q pc lv (.int y :: .int x :: st) G M := by
  intro H locs ls hP hD hS hl
  obtain ⟨⟨hx, hb, hml, hown, hts⟩, ⟨hK, hN⟩, hA, hcs⟩ := C
  exact va_mmin hx hb (hml.trans hl.1.symm) hown (hts _ hlk) (hts _ hw.1) (hts _ hw.2.1) (hts _ hw.2.2) hR.1 (by omega) hcs.1 hcs.2 hd (kk H locs ls hP hD hS hl)

theorem u_mmax (C : u_C p R s m args c cc own nL D A H0 cells slots G) {x y : Int32} {index : Nat} (hd : decode cc pc = .ok (.invokestatic index, 3)) (hlk : Cond.methodLink own index Lib.Math.max.name ∈ wsL_law) (hw : Cond.static Lib.Math.max.name ∈ wsL_law ∧ Cond.initialized "java/lang/Math" ∈ wsL_law ∧ Cond.code Lib.Math.max.name Lib.Math.max.code 2 (some .int) ∈ wsL_law) (hR : 1 ≤ R.frames ∧ 21 ≤ R.locals) (hcat : (st.map fun v => v.category).sum ≤ 8) (kk : u_S p l e R s m args below meth c nL D A H0 cells slots Q (pc + 3) lv (.int (if x < y then y else x) :: st) G M) : u_S p l e R s m args below meth c nL D A H0 cells slots Q pc lv (.int y :: .int x :: st) G M := by
  intro H locs ls hP hD hS hl
  obtain ⟨⟨hx, hb, hml, hown, hts⟩, ⟨hK, hN⟩, hA, hcs⟩ := C
  exact va_mmax hx hb (hml.trans hl.1.symm) hown (hts _ hlk) (hts _ hw.1) (hts _ hw.2.1) (hts _ hw.2.2) hR.1 (by omega) hcs.1 hcs.2 hd (kk H locs ls hP hD hS hl)

end US
def u_rm (f n : Nat) : Room := { frames := f, cells := 0, slots := 0, locals := n }
def u_Pre (D : va_G) (G : w_G) (M : w_M) (sz : Nat) (av : List Value) : Array Value → State → Prop := va_Pc av (fun U => U.heap.size = sz ∧ va_P D vwCl (u_W G M) U.heap ∧ (va_K D vwCl (w_ty (gC G)) U ∧ u_N U) ∧ va_D (fun _ => True) (u_W G M))
def u_Bx (D : va_G) (G : w_G) (M : w_M) (t : State) : Prop := va_P D vwCl (u_W G M) t.heap
theorem u_blind {D : va_G} {G : w_G} {M : w_M} {sz : Nat} {av : List Value} : FrameBlind (u_Pre D G M sz av) := fun a U g mk q => by
  obtain ⟨q0, q1, qP, qK, qD⟩ := q
  exact ⟨q0, q1, qP, ⟨va_K.moved (u := U) (U := U.calling g mk a) (Vm.Alike.refl U.vm) qK.1, u_N.same (u := U) (U := U.calling g mk a) rfl qK.2⟩, qD⟩
def u_Mi (l : Launch) (D : va_G) (G : w_G) (y : MethodName) (cc : ByteArray) (maxL : Nat) (ret : Option FieldType) (f n : Nat) (av : List Value) (M : w_M) (post : Int32 → w_M → Prop) : Prop := ∀ sz : Nat, Met l y (u_ws2 y cc maxL ret) (u_rm f n) (u_Pre D G M sz av) (va_Qi post (u_Bx D G) (va_A (u_W G M) sz)) 0 0 (va_A (u_W G M) sz)
def u_Ml (l : Launch) (D : va_G) (G : w_G) (y : MethodName) (cc : ByteArray) (maxL : Nat) (ret : Option FieldType) (f n : Nat) (av : List Value) (M : w_M) (post : Int64 → w_M → Prop) : Prop := ∀ sz : Nat, Met l y (u_ws2 y cc maxL ret) (u_rm f n) (u_Pre D G M sz av) (va_Ql post (u_Bx D G) (va_A (u_W G M) sz)) 0 0 (va_A (u_W G M) sz)
def u_Mv (l : Launch) (D : va_G) (G : w_G) (y : MethodName) (cc : ByteArray) (maxL : Nat) (ret : Option FieldType) (f n : Nat) (av : List Value) (M : w_M) (post : w_M → Prop) : Prop := ∀ sz : Nat, Met l y (u_ws2 y cc maxL ret) (u_rm f n) (u_Pre D G M sz av) (va_Qv post (u_Bx D G) (va_A (u_W G M) sz)) 0 0 (va_A (u_W G M) sz)
/-- what the tables say of a callee -/
def u_me (y : MethodName) (cc : ByteArray) (maxL : Nat) (ret : Option FieldType) (n : Nat) : Prop := (y.cls ≠ "java/lang/invoke/MethodHandle" ∧ y.cls ≠ "java/lang/invoke/VarHandle" ∧ (parseMethodDescriptor y.desc).map (fun d => d.parameters.length) = some n) ∧ Cond.initialized y.cls ∈ wsL_law ∧ Cond.code y cc maxL ret ∈ wsL_law
def u_mev (y : MethodName) (cc : ByteArray) (maxL : Nat) (ret : Option FieldType) (n : Nat) : Prop := u_me y cc maxL ret n ∧ Cond.instanceMethod y ∈ wsL_law ∧ Cond.selects y.cls y y ∈ wsL_law
def u_mes (y : MethodName) (cc : ByteArray) (maxL : Nat) (ret : Option FieldType) (n : Nat) : Prop := u_me y cc maxL ret n ∧ Cond.static y ∈ wsL_law
theorem u_ofW {l : Launch} {y : MethodName} {ws ws' : List Cond} {rm : Room} {Pc : Array Value → State → Prop} {Qc : Array Value → State → Outcome → State → Prop} {mc ms : Nat} {free : Addr → Prop} {cc : ByteArray} {maxL : Nat} {ret : Option FieldType}
    (hy : plainFor y = true) (hw : ws = Cond.code y cc maxL ret :: ws')
    (body : ∀ p e s m args below meth c s₁, BodyLoose p l y (headSpec ws rm) cc maxL ret e s m args below meth c s₁ → c.maxLocals = maxL → Pc args s →
      W p l e (headSpec ws rm).room s m args below meth c s.heap [] 0 0 (MQ below Qc args s mc ms free) (entryFrame m args maxL)) : Met l y ws rm Pc Qc mc ms free := by
  refine MetFree.of_bodySF (code := cc) (maxLocals := maxL) (ret := ret) hy ?_ ?_
  · intro args s m h hn
    obtain ⟨meth, c, h1, h2, h3, h4, h5, h6, -, -⟩ := Cond.code_spec hn (atoms_spec (ws := ws) h _ (by rw [hw]; exact List.mem_cons_self))
    exact ⟨meth, c, h1, h2, h3, h4, h5, h6⟩
  · intro p e s m args below meth c s₁ B hml hP _
    have hh0 : s₁.heap = s.heap := by rw [B.state]; rfl
    obtain ⟨t, a1, o, b1, b2, b3⟩ := body p e s m args below meth c s₁ B hml hP s₁ hh0 (Stand.of_body B)
    exact ⟨t, o, a1, b1, b2, ⟨b3.1, b3.2⟩⟩
section UB
variable {l : Launch} {D : va_G} {G : w_G} {y : MethodName} {cc : ByteArray} {maxL f n : Nat} {av : List Value} {M : w_M}

theorem u_bodyi {ret : Option FieldType} {post : Int32 → w_M → Prop} (hy : plainFor y = true) (hav : (lg_sl av).length ≤ maxL) (hret : ret = some .int) (body : ∀ (p : Program) (e : Env) (s : State) (m : MethodId) (args : Array Value) (below : List Frame) (meth : Method) (c : Code) (A : Nat → Prop) (H0 : Heap) (Q : State → Prop), u_C p (u_rm f n) s m args c cc y.cls maxL D A H0 0 0 G → (∀ (pc : Nat) (lv : List (Nat × Value)) (r : Int32) (M2 : w_M), decode cc pc = .ok (.ireturn, 1) → post r M2 → u_S p l e (u_rm f n) s m args below meth c maxL D A H0 0 0 Q pc lv [.int r] G M2) → u_S p l e (u_rm f n) s m args below meth c maxL D A H0 0 0 Q 0 (lv_args 0 av) [] G M) : u_Mi l D G y cc maxL ret f n av M post := by
  intro sz
  refine u_ofW (cc := cc) (maxL := maxL) (ret := ret) hy rfl ?_
  intro p e s m args below meth c s₁ B hml hv
  obtain ⟨rfl, hsz, hP, hK, hD0⟩ := hv
  have hx := B.exec
  have hb := B.bytes
  have hr := B.returns
  have hts := atoms_spec (ws := u_ws2 y cc maxL ret) B.pre
  have hown : s.vm.findClass y.cls = some m.cls := findClass_of_methodNamed B.named
  have hlocks := B.notSynchronized
  subst hsz
  have hD := hD0.self (sz := s.heap.size)
  have hA : ∀ q : Nat, s.heap.size ≤ q → va_A (u_W G M) s.heap.size q := fun q h => Or.inr h
  have hS : va_S (va_A (u_W G M) s.heap.size) s.heap s.heap [] := va_S.rf
  have hl := lv_entry av (n := maxL) hav
  rw [lg_entry_eq]
  refine body p e s m av.toArray below meth c _ s.heap _ ⟨⟨hx, hb, hml, hown, fun w hw => hts w (List.mem_cons_of_mem _ hw)⟩, hK, hA, Nat.le_refl 0, Nat.le_refl 0⟩ ?_ s.heap [] _ hP hD hS hl
  intro pc lv r M2 hd hq H locs ls hP hD hS hl
  subst hret
  exact W.iret hx hb hr (fun t ht hW => ⟨⟨r, M2, rfl, hq, by rw [u_Bx, ht]; exact hP⟩, hS.F ht⟩) hS.2.2 hd

theorem u_bodyz {ret : Option FieldType} {post : Int32 → w_M → Prop} (hy : plainFor y = true) (hav : (lg_sl av).length ≤ maxL) (hret : ret = some .boolean) (body : ∀ (p : Program) (e : Env) (s : State) (m : MethodId) (args : Array Value) (below : List Frame) (meth : Method) (c : Code) (A : Nat → Prop) (H0 : Heap) (Q : State → Prop), u_C p (u_rm f n) s m args c cc y.cls maxL D A H0 0 0 G → (∀ (pc : Nat) (lv : List (Nat × Value)) (r : Int32) (M2 : w_M), decode cc pc = .ok (.ireturn, 1) → r = 0 ∨ r = 1 → post r M2 → u_S p l e (u_rm f n) s m args below meth c maxL D A H0 0 0 Q pc lv [.int r] G M2) → u_S p l e (u_rm f n) s m args below meth c maxL D A H0 0 0 Q 0 (lv_args 0 av) [] G M) : u_Mi l D G y cc maxL ret f n av M post := by
  intro sz
  refine u_ofW (cc := cc) (maxL := maxL) (ret := ret) hy rfl ?_
  intro p e s m args below meth c s₁ B hml hv
  obtain ⟨rfl, hsz, hP, hK, hD0⟩ := hv
  have hx := B.exec
  have hb := B.bytes
  have hr := B.returns
  have hts := atoms_spec (ws := u_ws2 y cc maxL ret) B.pre
  have hown : s.vm.findClass y.cls = some m.cls := findClass_of_methodNamed B.named
  have hlocks := B.notSynchronized
  subst hsz
  have hD := hD0.self (sz := s.heap.size)
  have hA : ∀ q : Nat, s.heap.size ≤ q → va_A (u_W G M) s.heap.size q := fun q h => Or.inr h
  have hS : va_S (va_A (u_W G M) s.heap.size) s.heap s.heap [] := va_S.rf
  have hl := lv_entry av (n := maxL) hav
  rw [lg_entry_eq]
  refine body p e s m av.toArray below meth c _ s.heap _ ⟨⟨hx, hb, hml, hown, fun w hw => hts w (List.mem_cons_of_mem _ hw)⟩, hK, hA, Nat.le_refl 0, Nat.le_refl 0⟩ ?_ s.heap [] _ hP hD hS hl
  intro pc lv r M2 hd h01 hq H locs ls hP hD hS hl
  subst hret
  exact W.zret hx hb hr (by rcases h01 with rfl | rfl <;> rfl) (fun t ht hW => ⟨⟨r, M2, rfl, hq, by rw [u_Bx, ht]; exact hP⟩, hS.F ht⟩) hS.2.2 hd

theorem u_bodyl {ret : Option FieldType} {post : Int64 → w_M → Prop} (hy : plainFor y = true) (hav : (lg_sl av).length ≤ maxL) (hret : ret = some .long) (body : ∀ (p : Program) (e : Env) (s : State) (m : MethodId) (args : Array Value) (below : List Frame) (meth : Method) (c : Code) (A : Nat → Prop) (H0 : Heap) (Q : State → Prop), u_C p (u_rm f n) s m args c cc y.cls maxL D A H0 0 0 G → (∀ (pc : Nat) (lv : List (Nat × Value)) (r : Int64) (M2 : w_M), decode cc pc = .ok (.lreturn, 1) → post r M2 → u_S p l e (u_rm f n) s m args below meth c maxL D A H0 0 0 Q pc lv [.long r] G M2) → u_S p l e (u_rm f n) s m args below meth c maxL D A H0 0 0 Q 0 (lv_args 0 av) [] G M) : u_Ml l D G y cc maxL ret f n av M post := by
  intro sz
  refine u_ofW (cc := cc) (maxL := maxL) (ret := ret) hy rfl ?_
  intro p e s m args below meth c s₁ B hml hv
  obtain ⟨rfl, hsz, hP, hK, hD0⟩ := hv
  have hx := B.exec
  have hb := B.bytes
  have hr := B.returns
  have hts := atoms_spec (ws := u_ws2 y cc maxL ret) B.pre
  have hown : s.vm.findClass y.cls = some m.cls := findClass_of_methodNamed B.named
  have hlocks := B.notSynchronized
  subst hsz
  have hD := hD0.self (sz := s.heap.size)
  have hA : ∀ q : Nat, s.heap.size ≤ q → va_A (u_W G M) s.heap.size q := fun q h => Or.inr h
  have hS : va_S (va_A (u_W G M) s.heap.size) s.heap s.heap [] := va_S.rf
  have hl := lv_entry av (n := maxL) hav
  rw [lg_entry_eq]
  refine body p e s m av.toArray below meth c _ s.heap _ ⟨⟨hx, hb, hml, hown, fun w hw => hts w (List.mem_cons_of_mem _ hw)⟩, hK, hA, Nat.le_refl 0, Nat.le_refl 0⟩ ?_ s.heap [] _ hP hD hS hl
  intro pc lv r M2 hd hq H locs ls hP hD hS hl
  subst hret
  exact W.lret hx hb hr (fun t ht hW => ⟨⟨r, M2, rfl, hq, by rw [u_Bx, ht]; exact hP⟩, hS.F ht⟩) hS.2.2 hd

theorem u_bodyv {ret : Option FieldType} {post : w_M → Prop} (hy : plainFor y = true) (hav : (lg_sl av).length ≤ maxL) (hret : ret = none) (body : ∀ (p : Program) (e : Env) (s : State) (m : MethodId) (args : Array Value) (below : List Frame) (meth : Method) (c : Code) (A : Nat → Prop) (H0 : Heap) (Q : State → Prop), u_C p (u_rm f n) s m args c cc y.cls maxL D A H0 0 0 G → (∀ (pc : Nat) (lv : List (Nat × Value)) (M2 : w_M), decode cc pc = .ok (.return_, 1) → post M2 → u_S p l e (u_rm f n) s m args below meth c maxL D A H0 0 0 Q pc lv [] G M2) → u_S p l e (u_rm f n) s m args below meth c maxL D A H0 0 0 Q 0 (lv_args 0 av) [] G M) : u_Mv l D G y cc maxL ret f n av M post := by
  intro sz
  refine u_ofW (cc := cc) (maxL := maxL) (ret := ret) hy rfl ?_
  intro p e s m args below meth c s₁ B hml hv
  obtain ⟨rfl, hsz, hP, hK, hD0⟩ := hv
  have hx := B.exec
  have hb := B.bytes
  have hr := B.returns
  have hts := atoms_spec (ws := u_ws2 y cc maxL ret) B.pre
  have hown : s.vm.findClass y.cls = some m.cls := findClass_of_methodNamed B.named
  have hlocks := B.notSynchronized
  subst hsz
  have hD := hD0.self (sz := s.heap.size)
  have hA : ∀ q : Nat, s.heap.size ≤ q → va_A (u_W G M) s.heap.size q := fun q h => Or.inr h
  have hS : va_S (va_A (u_W G M) s.heap.size) s.heap s.heap [] := va_S.rf
  have hl := lv_entry av (n := maxL) hav
  rw [lg_entry_eq]
  refine body p e s m av.toArray below meth c _ s.heap _ ⟨⟨hx, hb, hml, hown, fun w hw => hts w (List.mem_cons_of_mem _ hw)⟩, hK, hA, Nat.le_refl 0, Nat.le_refl 0⟩ ?_ s.heap [] _ hP hD hS hl
  intro pc lv M2 hd hq H locs ls hP hD hS hl
  subst hret
  exact W.vret hx hb hr (fun t ht hW => ⟨⟨M2, rfl, hq, by rw [u_Bx, ht]; exact hP⟩, hS.F ht⟩) hS.2.2 hd

end UB
section UCALL
variable {p : Program} {l : Launch} {e : Env} {R : Room} {s : State} {m : MethodId} {args : Array Value} {below : List Frame} {meth : Method} {c : Code} {Q : State → Prop} {cells slots : Nat}
variable {cc : ByteArray} {own : String} {nL : Nat} {D : va_G} {A : Nat → Prop} {H0 : Heap} {G : w_G} {M : w_M} {pc : Nat} {lv : List (Nat × Value)} {st st0 : List Value}
variable {y : MethodName} {bytes : ByteArray} {maxL f n na index : Nat} {ret : Option FieldType} {As : List Value}
theorem u_cb (C : u_C p R s m args c cc own nL D A H0 cells slots G) (hm : u_me y bytes maxL ret na) (hlk : Cond.methodLink own index y ∈ wsL_law) (hR : f + 1 ≤ R.frames ∧ 8 + (maxL + 11) + n ≤ R.locals) : CallB R s args own index y bytes maxL ret (u_ws2 y bytes maxL ret) (u_rm f n) 0 0 na := by
  obtain ⟨⟨hx, hb, hml, hown, hts⟩, ⟨hK, hN⟩, hA, hcs⟩ := C
  exact callB_of na hts (u_goodIn hm.2.2) rfl rfl rfl (hts _ hm.2.1) (hts _ hlk) hm.1 hR
theorem u_pres {H : Heap} {M : w_M} (hK : va_K D vwCl (w_ty (gC G)) s ∧ u_N s) (hP : va_P D vwCl (u_W G M) H) (hD : va_D A (u_W G M)) (av : List Value) : PreS s H (u_Pre D G M H.size av) av :=
  ⟨u_blind, fun U hU hW => ⟨rfl, by rw [hU], by rw [hU]; exact hP, ⟨va_K.moved hW.alike hK.1, u_N.warm hW hK.2⟩, hD.weaken (fun _ _ _ _ => trivial)⟩⟩
theorem u_hf {H : Heap} {locs : List Loc} (hA : ∀ q, H0.size ≤ q → A q) (hD : va_D A (u_W G M)) (hS : va_S A H0 H locs) : ∀ q, va_A (u_W G M) H.size q → A q := by
  intro q h
  rcases h with ⟨k, e, h⟩ | h
  · exact hD.2 k (q, e) h
  · exact hA q (Nat.le_trans hS.1 h)
theorem u_calliV {post : Int32 → w_M → Prop} (C : u_C p R s m args c cc own nL D A H0 cells slots G) (hm : u_mev y bytes maxL ret na) (hd : decode cc pc = .ok (.invokevirtual index, 3)) (hlk : Cond.methodLink own index y ∈ wsL_law) {b ci : Nat} (hb9 : u_is G b ci) (hcl : (vwCl[ci]?).map (fun q => q.1) = some y.cls) (hci : ci < 12) (hM : u_Mi l D G y bytes maxL ret f n (.ref (gP G b) :: As) M post) (hR : f + 1 ≤ R.frames ∧ 8 + (maxL + 11) + n ≤ R.locals) (hn : As.length = na) (hst : st0 = As.reverse ++ .ref (gP G b) :: st) (hcat : (st.map fun v => v.category).sum ≤ 8) (kk : ∀ (r : Int32) (M2 : w_M), post r M2 → u_S p l e R s m args below meth c nL D A H0 cells slots Q (pc + 3) lv (.int r :: st) G M2) : u_S p l e R s m args below meth c nL D A H0 cells slots Q pc lv st0 G M := by
  intro H locs ls hP hD hS hl
  obtain ⟨⟨hx, hb, hml, hown, hts⟩, ⟨hK, hN⟩, hA, hcs⟩ := id C
  obtain ⟨q9, hq9, hw9⟩ := u_get (M := M) hb9.1
  rw [w_cellO hb9 hci] at hw9
  obtain ⟨r9, hr9, hr8⟩ := Option.map_eq_some_iff.mp hcl
  have hrecv : ∃ cellB : Cell, H[gP G b]? = some cellB ∧ cellB.vm.isStatics = false ∧ s.vm.findClass y.cls = some cellB.cls := by
    rw [← hr8]
    exact va_recv hK hP hr9 hw9
  have hf := u_hf hA hD hS
  refine va_calli (va_runV (As := As) (rest := st) ⟨hx, hb, hml, hown, hts⟩ (hM H.size) ⟨u_cb C hm.1 hlk hR, hts _ hm.2.1, hts _ hm.2.2⟩ ⟨u_blind, hrecv, (u_pres ⟨hK, hN⟩ hP hD _).2⟩ rfl hn hl.1 hst (lv_room hcat) hd ⟨hcs.1, hcs.2⟩) hS (fun q _ h => hf q h) hf (fun r u t H1 locs ht hvm hw hB hz1 hk1 hS => ?_)
  have hP1 : va_P D vwCl (u_W G u) t.heap := hB
  rw [ht] at hP1
  exact kk r u hw H1 locs ls hP1 (u_DM u hD) hS hl

theorem u_calliV0 {post : Int32 → w_M → Prop} (C : u_C p R s m args c cc own nL D A H0 cells slots G) (hm : u_mev y bytes maxL ret 0) (hd : decode cc pc = .ok (.invokevirtual index, 3)) (hlk : Cond.methodLink own index y ∈ wsL_law) {b ci : Nat} (hb9 : u_is G b ci) (hcl : (vwCl[ci]?).map (fun q => q.1) = some y.cls) (hci : ci < 12) (hM : u_Mi l D G y bytes maxL ret f n (.ref (gP G b) :: []) M post) (hR : f + 1 ≤ R.frames ∧ 8 + (maxL + 11) + n ≤ R.locals) (hcat : (st.map fun v => v.category).sum ≤ 8) (kk : ∀ (r : Int32) (M2 : w_M), post r M2 → u_S p l e R s m args below meth c nL D A H0 cells slots Q (pc + 3) lv (.int r :: st) G M2) : u_S p l e R s m args below meth c nL D A H0 cells slots Q pc lv (.ref (gP G b) :: st) G M := u_calliV C hm hd hlk hb9 hcl hci hM hR (As := []) rfl rfl hcat kk
theorem u_calliV1 {post : Int32 → w_M → Prop} {a0 : Value} (C : u_C p R s m args c cc own nL D A H0 cells slots G) (hm : u_mev y bytes maxL ret 1) (hd : decode cc pc = .ok (.invokevirtual index, 3)) (hlk : Cond.methodLink own index y ∈ wsL_law) {b ci : Nat} (hb9 : u_is G b ci) (hcl : (vwCl[ci]?).map (fun q => q.1) = some y.cls) (hci : ci < 12) (hM : u_Mi l D G y bytes maxL ret f n (.ref (gP G b) :: [a0]) M post) (hR : f + 1 ≤ R.frames ∧ 8 + (maxL + 11) + n ≤ R.locals) (hcat : (st.map fun v => v.category).sum ≤ 8) (kk : ∀ (r : Int32) (M2 : w_M), post r M2 → u_S p l e R s m args below meth c nL D A H0 cells slots Q (pc + 3) lv (.int r :: st) G M2) : u_S p l e R s m args below meth c nL D A H0 cells slots Q pc lv (a0 :: .ref (gP G b) :: st) G M := u_calliV C hm hd hlk hb9 hcl hci hM hR (As := [a0]) rfl rfl hcat kk
theorem u_calliV2 {post : Int32 → w_M → Prop} {a0 a1 : Value} (C : u_C p R s m args c cc own nL D A H0 cells slots G) (hm : u_mev y bytes maxL ret 2) (hd : decode cc pc = .ok (.invokevirtual index, 3)) (hlk : Cond.methodLink own index y ∈ wsL_law) {b ci : Nat} (hb9 : u_is G b ci) (hcl : (vwCl[ci]?).map (fun q => q.1) = some y.cls) (hci : ci < 12) (hM : u_Mi l D G y bytes maxL ret f n (.ref (gP G b) :: [a0, a1]) M post) (hR : f + 1 ≤ R.frames ∧ 8 + (maxL + 11) + n ≤ R.locals) (hcat : (st.map fun v => v.category).sum ≤ 8) (kk : ∀ (r : Int32) (M2 : w_M), post r M2 → u_S p l e R s m args below meth c nL D A H0 cells slots Q (pc + 3) lv (.int r :: st) G M2) : u_S p l e R s m args below meth c nL D A H0 cells slots Q pc lv (a1 :: a0 :: .ref (gP G b) :: st) G M := u_calliV C hm hd hlk hb9 hcl hci hM hR (As := [a0, a1]) rfl rfl hcat kk
theorem u_calliV3 {post : Int32 → w_M → Prop} {a0 a1 a2 : Value} (C : u_C p R s m args c cc own nL D A H0 cells slots G) (hm : u_mev y bytes maxL ret 3) (hd : decode cc pc = .ok (.invokevirtual index, 3)) (hlk : Cond.methodLink own index y ∈ wsL_law) {b ci : Nat} (hb9 : u_is G b ci) (hcl : (vwCl[ci]?).map (fun q => q.1) = some y.cls) (hci : ci < 12) (hM : u_Mi l D G y bytes maxL ret f n (.ref (gP G b) :: [a0, a1, a2]) M post) (hR : f + 1 ≤ R.frames ∧ 8 + (maxL + 11) + n ≤ R.locals) (hcat : (st.map fun v => v.category).sum ≤ 8) (kk : ∀ (r : Int32) (M2 : w_M), post r M2 → u_S p l e R s m args below meth c nL D A H0 cells slots Q (pc + 3) lv (.int r :: st) G M2) : u_S p l e R s m args below meth c nL D A H0 cells slots Q pc lv (a2 :: a1 :: a0 :: .ref (gP G b) :: st) G M := u_calliV C hm hd hlk hb9 hcl hci hM hR (As := [a0, a1, a2]) rfl rfl hcat kk
theorem u_calliV4 {post : Int32 → w_M → Prop} {a0 a1 a2 a3 : Value} (C : u_C p R s m args c cc own nL D A H0 cells slots G) (hm : u_mev y bytes maxL ret 4) (hd : decode cc pc = .ok (.invokevirtual index, 3)) (hlk : Cond.methodLink own index y ∈ wsL_law) {b ci : Nat} (hb9 : u_is G b ci) (hcl : (vwCl[ci]?).map (fun q => q.1) = some y.cls) (hci : ci < 12) (hM : u_Mi l D G y bytes maxL ret f n (.ref (gP G b) :: [a0, a1, a2, a3]) M post) (hR : f + 1 ≤ R.frames ∧ 8 + (maxL + 11) + n ≤ R.locals) (hcat : (st.map fun v => v.category).sum ≤ 8) (kk : ∀ (r : Int32) (M2 : w_M), post r M2 → u_S p l e R s m args below meth c nL D A H0 cells slots Q (pc + 3) lv (.int r :: st) G M2) : u_S p l e R s m args below meth c nL D A H0 cells slots Q pc lv (a3 :: a2 :: a1 :: a0 :: .ref (gP G b) :: st) G M := u_calliV C hm hd hlk hb9 hcl hci hM hR (As := [a0, a1, a2, a3]) rfl rfl hcat kk
theorem u_calliV5 {post : Int32 → w_M → Prop} {a0 a1 a2 a3 a4 : Value} (C : u_C p R s m args c cc own nL D A H0 cells slots G) (hm : u_mev y bytes maxL ret 5) (hd : decode cc pc = .ok (.invokevirtual index, 3)) (hlk : Cond.methodLink own index y ∈ wsL_law) {b ci : Nat} (hb9 : u_is G b ci) (hcl : (vwCl[ci]?).map (fun q => q.1) = some y.cls) (hci : ci < 12) (hM : u_Mi l D G y bytes maxL ret f n (.ref (gP G b) :: [a0, a1, a2, a3, a4]) M post) (hR : f + 1 ≤ R.frames ∧ 8 + (maxL + 11) + n ≤ R.locals) (hcat : (st.map fun v => v.category).sum ≤ 8) (kk : ∀ (r : Int32) (M2 : w_M), post r M2 → u_S p l e R s m args below meth c nL D A H0 cells slots Q (pc + 3) lv (.int r :: st) G M2) : u_S p l e R s m args below meth c nL D A H0 cells slots Q pc lv (a4 :: a3 :: a2 :: a1 :: a0 :: .ref (gP G b) :: st) G M := u_calliV C hm hd hlk hb9 hcl hci hM hR (As := [a0, a1, a2, a3, a4]) rfl rfl hcat kk
theorem u_calliV6 {post : Int32 → w_M → Prop} {a0 a1 a2 a3 a4 a5 : Value} (C : u_C p R s m args c cc own nL D A H0 cells slots G) (hm : u_mev y bytes maxL ret 6) (hd : decode cc pc = .ok (.invokevirtual index, 3)) (hlk : Cond.methodLink own index y ∈ wsL_law) {b ci : Nat} (hb9 : u_is G b ci) (hcl : (vwCl[ci]?).map (fun q => q.1) = some y.cls) (hci : ci < 12) (hM : u_Mi l D G y bytes maxL ret f n (.ref (gP G b) :: [a0, a1, a2, a3, a4, a5]) M post) (hR : f + 1 ≤ R.frames ∧ 8 + (maxL + 11) + n ≤ R.locals) (hcat : (st.map fun v => v.category).sum ≤ 8) (kk : ∀ (r : Int32) (M2 : w_M), post r M2 → u_S p l e R s m args below meth c nL D A H0 cells slots Q (pc + 3) lv (.int r :: st) G M2) : u_S p l e R s m args below meth c nL D A H0 cells slots Q pc lv (a5 :: a4 :: a3 :: a2 :: a1 :: a0 :: .ref (gP G b) :: st) G M := u_calliV C hm hd hlk hb9 hcl hci hM hR (As := [a0, a1, a2, a3, a4, a5]) rfl rfl hcat kk
theorem u_calliV7 {post : Int32 → w_M → Prop} {a0 a1 a2 a3 a4 a5 a6 : Value} (C : u_C p R s m args c cc own nL D A H0 cells slots G) (hm : u_mev y bytes maxL ret 7) (hd : decode cc pc = .ok (.invokevirtual index, 3)) (hlk : Cond.methodLink own index y ∈ wsL_law) {b ci : Nat} (hb9 : u_is G b ci) (hcl : (vwCl[ci]?).map (fun q => q.1) = some y.cls) (hci : ci < 12) (hM : u_Mi l D G y bytes maxL ret f n (.ref (gP G b) :: [a0, a1, a2, a3, a4, a5, a6]) M post) (hR : f + 1 ≤ R.frames ∧ 8 + (maxL + 11) + n ≤ R.locals) (hcat : (st.map fun v => v.category).sum ≤ 8) (kk : ∀ (r : Int32) (M2 : w_M), post r M2 → u_S p l e R s m args below meth c nL D A H0 cells slots Q (pc + 3) lv (.int r :: st) G M2) : u_S p l e R s m args below meth c nL D A H0 cells slots Q pc lv (a6 :: a5 :: a4 :: a3 :: a2 :: a1 :: a0 :: .ref (gP G b) :: st) G M := u_calliV C hm hd hlk hb9 hcl hci hM hR (As := [a0, a1, a2, a3, a4, a5, a6]) rfl rfl hcat kk
theorem u_calliS {post : Int32 → w_M → Prop} (C : u_C p R s m args c cc own nL D A H0 cells slots G) (hm : u_mes y bytes maxL ret na) (hd : decode cc pc = .ok (.invokestatic index, 3)) (hlk : Cond.methodLink own index y ∈ wsL_law) (hM : u_Mi l D G y bytes maxL ret f n As M post) (hR : f + 1 ≤ R.frames ∧ 8 + (maxL + 11) + n ≤ R.locals) (hn : As.length = na) (hst : st0 = As.reverse ++ st) (hcat : (st.map fun v => v.category).sum ≤ 8) (kk : ∀ (r : Int32) (M2 : w_M), post r M2 → u_S p l e R s m args below meth c nL D A H0 cells slots Q (pc + 3) lv (.int r :: st) G M2) : u_S p l e R s m args below meth c nL D A H0 cells slots Q pc lv st0 G M := by
  intro H locs ls hP hD hS hl
  obtain ⟨⟨hx, hb, hml, hown, hts⟩, ⟨hK, hN⟩, hA, hcs⟩ := id C
  have hf := u_hf hA hD hS
  refine va_calli (va_runS (As := As) (rest := st) ⟨hx, hb, hml, hown, hts⟩ (hM H.size) ⟨u_cb C hm.1 hlk hR, hts _ hm.2⟩ (u_pres ⟨hK, hN⟩ hP hD _) rfl hn hl.1 hst (lv_room hcat) hd ⟨hcs.1, hcs.2⟩) hS (fun q _ h => hf q h) hf (fun r u t H1 locs ht hvm hw hB hz1 hk1 hS => ?_)
  have hP1 : va_P D vwCl (u_W G u) t.heap := hB
  rw [ht] at hP1
  exact kk r u hw H1 locs ls hP1 (u_DM u hD) hS hl

theorem u_calliS0 {post : Int32 → w_M → Prop} (C : u_C p R s m args c cc own nL D A H0 cells slots G) (hm : u_mes y bytes maxL ret 0) (hd : decode cc pc = .ok (.invokestatic index, 3)) (hlk : Cond.methodLink own index y ∈ wsL_law) (hM : u_Mi l D G y bytes maxL ret f n [] M post) (hR : f + 1 ≤ R.frames ∧ 8 + (maxL + 11) + n ≤ R.locals) (hcat : (st.map fun v => v.category).sum ≤ 8) (kk : ∀ (r : Int32) (M2 : w_M), post r M2 → u_S p l e R s m args below meth c nL D A H0 cells slots Q (pc + 3) lv (.int r :: st) G M2) : u_S p l e R s m args below meth c nL D A H0 cells slots Q pc lv (st) G M := u_calliS C hm hd hlk hM hR (As := []) rfl rfl hcat kk
theorem u_calliS1 {post : Int32 → w_M → Prop} {a0 : Value} (C : u_C p R s m args c cc own nL D A H0 cells slots G) (hm : u_mes y bytes maxL ret 1) (hd : decode cc pc = .ok (.invokestatic index, 3)) (hlk : Cond.methodLink own index y ∈ wsL_law) (hM : u_Mi l D G y bytes maxL ret f n [a0] M post) (hR : f + 1 ≤ R.frames ∧ 8 + (maxL + 11) + n ≤ R.locals) (hcat : (st.map fun v => v.category).sum ≤ 8) (kk : ∀ (r : Int32) (M2 : w_M), post r M2 → u_S p l e R s m args below meth c nL D A H0 cells slots Q (pc + 3) lv (.int r :: st) G M2) : u_S p l e R s m args below meth c nL D A H0 cells slots Q pc lv (a0 :: st) G M := u_calliS C hm hd hlk hM hR (As := [a0]) rfl rfl hcat kk
theorem u_calliS2 {post : Int32 → w_M → Prop} {a0 a1 : Value} (C : u_C p R s m args c cc own nL D A H0 cells slots G) (hm : u_mes y bytes maxL ret 2) (hd : decode cc pc = .ok (.invokestatic index, 3)) (hlk : Cond.methodLink own index y ∈ wsL_law) (hM : u_Mi l D G y bytes maxL ret f n [a0, a1] M post) (hR : f + 1 ≤ R.frames ∧ 8 + (maxL + 11) + n ≤ R.locals) (hcat : (st.map fun v => v.category).sum ≤ 8) (kk : ∀ (r : Int32) (M2 : w_M), post r M2 → u_S p l e R s m args below meth c nL D A H0 cells slots Q (pc + 3) lv (.int r :: st) G M2) : u_S p l e R s m args below meth c nL D A H0 cells slots Q pc lv (a1 :: a0 :: st) G M := u_calliS C hm hd hlk hM hR (As := [a0, a1]) rfl rfl hcat kk
theorem u_calliS3 {post : Int32 → w_M → Prop} {a0 a1 a2 : Value} (C : u_C p R s m args c cc own nL D A H0 cells slots G) (hm : u_mes y bytes maxL ret 3) (hd : decode cc pc = .ok (.invokestatic index, 3)) (hlk : Cond.methodLink own index y ∈ wsL_law) (hM : u_Mi l D G y bytes maxL ret f n [a0, a1, a2] M post) (hR : f + 1 ≤ R.frames ∧ 8 + (maxL + 11) + n ≤ R.locals) (hcat : (st.map fun v => v.category).sum ≤ 8) (kk : ∀ (r : Int32) (M2 : w_M), post r M2 → u_S p l e R s m args below meth c nL D A H0 cells slots Q (pc + 3) lv (.int r :: st) G M2) : u_S p l e R s m args below meth c nL D A H0 cells slots Q pc lv (a2 :: a1 :: a0 :: st) G M := u_calliS C hm hd hlk hM hR (As := [a0, a1, a2]) rfl rfl hcat kk
theorem u_calliS4 {post : Int32 → w_M → Prop} {a0 a1 a2 a3 : Value} (C : u_C p R s m args c cc own nL D A H0 cells slots G) (hm : u_mes y bytes maxL ret 4) (hd : decode cc pc = .ok (.invokestatic index, 3)) (hlk : Cond.methodLink own index y ∈ wsL_law) (hM : u_Mi l D G y bytes maxL ret f n [a0, a1, a2, a3] M post) (hR : f + 1 ≤ R.frames ∧ 8 + (maxL + 11) + n ≤ R.locals) (hcat : (st.map fun v => v.category).sum ≤ 8) (kk : ∀ (r : Int32) (M2 : w_M), post r M2 → u_S p l e R s m args below meth c nL D A H0 cells slots Q (pc + 3) lv (.int r :: st) G M2) : u_S p l e R s m args below meth c nL D A H0 cells slots Q pc lv (a3 :: a2 :: a1 :: a0 :: st) G M := u_calliS C hm hd hlk hM hR (As := [a0, a1, a2, a3]) rfl rfl hcat kk
theorem u_calliS5 {post : Int32 → w_M → Prop} {a0 a1 a2 a3 a4 : Value} (C : u_C p R s m args c cc own nL D A H0 cells slots G) (hm : u_mes y bytes maxL ret 5) (hd : decode cc pc = .ok (.invokestatic index, 3)) (hlk : Cond.methodLink own index y ∈ wsL_law) (hM : u_Mi l D G y bytes maxL ret f n [a0, a1, a2, a3, a4] M post) (hR : f + 1 ≤ R.frames ∧ 8 + (maxL + 11) + n ≤ R.locals) (hcat : (st.map fun v => v.category).sum ≤ 8) (kk : ∀ (r : Int32) (M2 : w_M), post r M2 → u_S p l e R s m args below meth c nL D A H0 cells slots Q (pc + 3) lv (.int r :: st) G M2) : u_S p l e R s m args below meth c nL D A H0 cells slots Q pc lv (a4 :: a3 :: a2 :: a1 :: a0 :: st) G M := u_calliS C hm hd hlk hM hR (As := [a0, a1, a2, a3, a4]) rfl rfl hcat kk
theorem u_calliS6 {post : Int32 → w_M → Prop} {a0 a1 a2 a3 a4 a5 : Value} (C : u_C p R s m args c cc own nL D A H0 cells slots G) (hm : u_mes y bytes maxL ret 6) (hd : decode cc pc = .ok (.invokestatic index, 3)) (hlk : Cond.methodLink own index y ∈ wsL_law) (hM : u_Mi l D G y bytes maxL ret f n [a0, a1, a2, a3, a4, a5] M post) (hR : f + 1 ≤ R.frames ∧ 8 + (maxL + 11) + n ≤ R.locals) (hcat : (st.map fun v => v.category).sum ≤ 8) (kk : ∀ (r : Int32) (M2 : w_M), post r M2 → u_S p l e R s m args below meth c nL D A H0 cells slots Q (pc + 3) lv (.int r :: st) G M2) : u_S p l e R s m args below meth c nL D A H0 cells slots Q pc lv (a5 :: a4 :: a3 :: a2 :: a1 :: a0 :: st) G M := u_calliS C hm hd hlk hM hR (As := [a0, a1, a2, a3, a4, a5]) rfl rfl hcat kk
theorem u_calliS7 {post : Int32 → w_M → Prop} {a0 a1 a2 a3 a4 a5 a6 : Value} (C : u_C p R s m args c cc own nL D A H0 cells slots G) (hm : u_mes y bytes maxL ret 7) (hd : decode cc pc = .ok (.invokestatic index, 3)) (hlk : Cond.methodLink own index y ∈ wsL_law) (hM : u_Mi l D G y bytes maxL ret f n [a0, a1, a2, a3, a4, a5, a6] M post) (hR : f + 1 ≤ R.frames ∧ 8 + (maxL + 11) + n ≤ R.locals) (hcat : (st.map fun v => v.category).sum ≤ 8) (kk : ∀ (r : Int32) (M2 : w_M), post r M2 → u_S p l e R s m args below meth c nL D A H0 cells slots Q (pc + 3) lv (.int r :: st) G M2) : u_S p l e R s m args below meth c nL D A H0 cells slots Q pc lv (a6 :: a5 :: a4 :: a3 :: a2 :: a1 :: a0 :: st) G M := u_calliS C hm hd hlk hM hR (As := [a0, a1, a2, a3, a4, a5, a6]) rfl rfl hcat kk
theorem u_calllV {post : Int64 → w_M → Prop} (C : u_C p R s m args c cc own nL D A H0 cells slots G) (hm : u_mev y bytes maxL ret na) (hd : decode cc pc = .ok (.invokevirtual index, 3)) (hlk : Cond.methodLink own index y ∈ wsL_law) {b ci : Nat} (hb9 : u_is G b ci) (hcl : (vwCl[ci]?).map (fun q => q.1) = some y.cls) (hci : ci < 12) (hM : u_Ml l D G y bytes maxL ret f n (.ref (gP G b) :: As) M post) (hR : f + 1 ≤ R.frames ∧ 8 + (maxL + 11) + n ≤ R.locals) (hn : As.length = na) (hst : st0 = As.reverse ++ .ref (gP G b) :: st) (hcat : (st.map fun v => v.category).sum ≤ 8) (kk : ∀ (r : Int64) (M2 : w_M), post r M2 → u_S p l e R s m args below meth c nL D A H0 cells slots Q (pc + 3) lv (.long r :: st) G M2) : u_S p l e R s m args below meth c nL D A H0 cells slots Q pc lv st0 G M := by
  intro H locs ls hP hD hS hl
  obtain ⟨⟨hx, hb, hml, hown, hts⟩, ⟨hK, hN⟩, hA, hcs⟩ := id C
  obtain ⟨q9, hq9, hw9⟩ := u_get (M := M) hb9.1
  rw [w_cellO hb9 hci] at hw9
  obtain ⟨r9, hr9, hr8⟩ := Option.map_eq_some_iff.mp hcl
  have hrecv : ∃ cellB : Cell, H[gP G b]? = some cellB ∧ cellB.vm.isStatics = false ∧ s.vm.findClass y.cls = some cellB.cls := by
    rw [← hr8]
    exact va_recv hK hP hr9 hw9
  have hf := u_hf hA hD hS
  refine va_calll (va_runV (As := As) (rest := st) ⟨hx, hb, hml, hown, hts⟩ (hM H.size) ⟨u_cb C hm.1 hlk hR, hts _ hm.2.1, hts _ hm.2.2⟩ ⟨u_blind, hrecv, (u_pres ⟨hK, hN⟩ hP hD _).2⟩ rfl hn hl.1 hst (lv_room hcat) hd ⟨hcs.1, hcs.2⟩) hS (fun q _ h => hf q h) hf (fun r u t H1 locs ht hvm hw hB hz1 hk1 hS => ?_)
  have hP1 : va_P D vwCl (u_W G u) t.heap := hB
  rw [ht] at hP1
  exact kk r u hw H1 locs ls hP1 (u_DM u hD) hS hl

theorem u_calllV0 {post : Int64 → w_M → Prop} (C : u_C p R s m args c cc own nL D A H0 cells slots G) (hm : u_mev y bytes maxL ret 0) (hd : decode cc pc = .ok (.invokevirtual index, 3)) (hlk : Cond.methodLink own index y ∈ wsL_law) {b ci : Nat} (hb9 : u_is G b ci) (hcl : (vwCl[ci]?).map (fun q => q.1) = some y.cls) (hci : ci < 12) (hM : u_Ml l D G y bytes maxL ret f n (.ref (gP G b) :: []) M post) (hR : f + 1 ≤ R.frames ∧ 8 + (maxL + 11) + n ≤ R.locals) (hcat : (st.map fun v => v.category).sum ≤ 8) (kk : ∀ (r : Int64) (M2 : w_M), post r M2 → u_S p l e R s m args below meth c nL D A H0 cells slots Q (pc + 3) lv (.long r :: st) G M2) : u_S p l e R s m args below meth c nL D A H0 cells slots Q pc lv (.ref (gP G b) :: st) G M := u_calllV C hm hd hlk hb9 hcl hci hM hR (As := []) rfl rfl hcat kk
theorem u_calllV1 {post : Int64 → w_M → Prop} {a0 : Value} (C : u_C p R s m args c cc own nL D A H0 cells slots G) (hm : u_mev y bytes maxL ret 1) (hd : decode cc pc = .ok (.invokevirtual index, 3)) (hlk : Cond.methodLink own index y ∈ wsL_law) {b ci : Nat} (hb9 : u_is G b ci) (hcl : (vwCl[ci]?).map (fun q => q.1) = some y.cls) (hci : ci < 12) (hM : u_Ml l D G y bytes maxL ret f n (.ref (gP G b) :: [a0]) M post) (hR : f + 1 ≤ R.frames ∧ 8 + (maxL + 11) + n ≤ R.locals) (hcat : (st.map fun v => v.category).sum ≤ 8) (kk : ∀ (r : Int64) (M2 : w_M), post r M2 → u_S p l e R s m args below meth c nL D A H0 cells slots Q (pc + 3) lv (.long r :: st) G M2) : u_S p l e R s m args below meth c nL D A H0 cells slots Q pc lv (a0 :: .ref (gP G b) :: st) G M := u_calllV C hm hd hlk hb9 hcl hci hM hR (As := [a0]) rfl rfl hcat kk
theorem u_calllV2 {post : Int64 → w_M → Prop} {a0 a1 : Value} (C : u_C p R s m args c cc own nL D A H0 cells slots G) (hm : u_mev y bytes maxL ret 2) (hd : decode cc pc = .ok (.invokevirtual index, 3)) (hlk : Cond.methodLink own index y ∈ wsL_law) {b ci : Nat} (hb9 : u_is G b ci) (hcl : (vwCl[ci]?).map (fun q => q.1) = some y.cls) (hci : ci < 12) (hM : u_Ml l D G y bytes maxL ret f n (.ref (gP G b) :: [a0, a1]) M post) (hR : f + 1 ≤ R.frames ∧ 8 + (maxL + 11) + n ≤ R.locals) (hcat : (st.map fun v => v.category).sum ≤ 8) (kk : ∀ (r : Int64) (M2 : w_M), post r M2 → u_S p l e R s m args below meth c nL D A H0 cells slots Q (pc + 3) lv (.long r :: st) G M2) : u_S p l e R s m args below meth c nL D A H0 cells slots Q pc lv (a1 :: a0 :: .ref (gP G b) :: st) G M := u_calllV C hm hd hlk hb9 hcl hci hM hR (As := [a0, a1]) rfl rfl hcat kk
theorem u_calllV3 {post : Int64 → w_M → Prop} {a0 a1 a2 : Value} (C : u_C p R s m args c cc own nL D A H0 cells slots G) (hm : u_mev y bytes maxL ret 3) (hd : decode cc pc = .ok (.invokevirtual index, 3)) (hlk : Cond.methodLink own index y ∈ wsL_law) {b ci : Nat} (hb9 : u_is G b ci) (hcl : (vwCl[ci]?).map (fun q => q.1) = some y.cls) (hci : ci < 12) (hM : u_Ml l D G y bytes maxL ret f n (.ref (gP G b) :: [a0, a1, a2]) M post) (hR : f + 1 ≤ R.frames ∧ 8 + (maxL + 11) + n ≤ R.locals) (hcat : (st.map fun v => v.category).sum ≤ 8) (kk : ∀ (r : Int64) (M2 : w_M), post r M2 → u_S p l e R s m args below meth c nL D A H0 cells slots Q (pc + 3) lv (.long r :: st) G M2) : u_S p l e R s m args below meth c nL D A H0 cells slots Q pc lv (a2 :: a1 :: a0 :: .ref (gP G b) :: st) G M := u_calllV C hm hd hlk hb9 hcl hci hM hR (As := [a0, a1, a2]) rfl rfl hcat kk
theorem u_calllV4 {post : Int64 → w_M → Prop} {a0 a1 a2 a3 : Value} (C : u_C p R s m args c cc own nL D A H0 cells slots G) (hm : u_mev y bytes maxL ret 4) (hd : decode cc pc = .ok (.invokevirtual index, 3)) (hlk : Cond.methodLink own index y ∈ wsL_law) {b ci : Nat} (hb9 : u_is G b ci) (hcl : (vwCl[ci]?).map (fun q => q.1) = some y.cls) (hci : ci < 12) (hM : u_Ml l D G y bytes maxL ret f n (.ref (gP G b) :: [a0, a1, a2, a3]) M post) (hR : f + 1 ≤ R.frames ∧ 8 + (maxL + 11) + n ≤ R.locals) (hcat : (st.map fun v => v.category).sum ≤ 8) (kk : ∀ (r : Int64) (M2 : w_M), post r M2 → u_S p l e R s m args below meth c nL D A H0 cells slots Q (pc + 3) lv (.long r :: st) G M2) : u_S p l e R s m args below meth c nL D A H0 cells slots Q pc lv (a3 :: a2 :: a1 :: a0 :: .ref (gP G b) :: st) G M := u_calllV C hm hd hlk hb9 hcl hci hM hR (As := [a0, a1, a2, a3]) rfl rfl hcat kk
theorem u_calllV5 {post : Int64 → w_M → Prop} {a0 a1 a2 a3 a4 : Value} (C : u_C p R s m args c cc own nL D A H0 cells slots G) (hm : u_mev y bytes maxL ret 5) (hd : decode cc pc = .ok (.invokevirtual index, 3)) (hlk : Cond.methodLink own index y ∈ wsL_law) {b ci : Nat} (hb9 : u_is G b ci) (hcl : (vwCl[ci]?).map (fun q => q.1) = some y.cls) (hci : ci < 12) (hM : u_Ml l D G y bytes maxL ret f n (.ref (gP G b) :: [a0, a1, a2, a3, a4]) M post) (hR : f + 1 ≤ R.frames ∧ 8 + (maxL + 11) + n ≤ R.locals) (hcat : (st.map fun v => v.category).sum ≤ 8) (kk : ∀ (r : Int64) (M2 : w_M), post r M2 → u_S p l e R s m args below meth c nL D A H0 cells slots Q (pc + 3) lv (.long r :: st) G M2) : u_S p l e R s m args below meth c nL D A H0 cells slots Q pc lv (a4 :: a3 :: a2 :: a1 :: a0 :: .ref (gP G b) :: st) G M := u_calllV C hm hd hlk hb9 hcl hci hM hR (As := [a0, a1, a2, a3, a4]) rfl rfl hcat kk
theorem u_calllV6 {post : Int64 → w_M → Prop} {a0 a1 a2 a3 a4 a5 : Value} (C : u_C p R s m args c cc own nL D A H0 cells slots G) (hm : u_mev y bytes maxL ret 6) (hd : decode cc pc = .ok (.invokevirtual index, 3)) (hlk : Cond.methodLink own index y ∈ wsL_law) {b ci : Nat} (hb9 : u_is G b ci) (hcl : (vwCl[ci]?).map (fun q => q.1) = some y.cls) (hci : ci < 12) (hM : u_Ml l D G y bytes maxL ret f n (.ref (gP G b) :: [a0, a1, a2, a3, a4, a5]) M post) (hR : f + 1 ≤ R.frames ∧ 8 + (maxL + 11) + n ≤ R.locals) (hcat : (st.map fun v => v.category).sum ≤ 8) (kk : ∀ (r : Int64) (M2 : w_M), post r M2 → u_S p l e R s m args below meth c nL D A H0 cells slots Q (pc + 3) lv (.long r :: st) G M2) : u_S p l e R s m args below meth c nL D A H0 cells slots Q pc lv (a5 :: a4 :: a3 :: a2 :: a1 :: a0 :: .ref (gP G b) :: st) G M := u_calllV C hm hd hlk hb9 hcl hci hM hR (As := [a0, a1, a2, a3, a4, a5]) rfl rfl hcat kk
theorem u_calllV7 {post : Int64 → w_M → Prop} {a0 a1 a2 a3 a4 a5 a6 : Value} (C : u_C p R s m args c cc own nL D A H0 cells slots G) (hm : u_mev y bytes maxL ret 7) (hd : decode cc pc = .ok (.invokevirtual index, 3)) (hlk : Cond.methodLink own index y ∈ wsL_law) {b ci : Nat} (hb9 : u_is G b ci) (hcl : (vwCl[ci]?).map (fun q => q.1) = some y.cls) (hci : ci < 12) (hM : u_Ml l D G y bytes maxL ret f n (.ref (gP G b) :: [a0, a1, a2, a3, a4, a5, a6]) M post) (hR : f + 1 ≤ R.frames ∧ 8 + (maxL + 11) + n ≤ R.locals) (hcat : (st.map fun v => v.category).sum ≤ 8) (kk : ∀ (r : Int64) (M2 : w_M), post r M2 → u_S p l e R s m args below meth c nL D A H0 cells slots Q (pc + 3) lv (.long r :: st) G M2) : u_S p l e R s m args below meth c nL D A H0 cells slots Q pc lv (a6 :: a5 :: a4 :: a3 :: a2 :: a1 :: a0 :: .ref (gP G b) :: st) G M := u_calllV C hm hd hlk hb9 hcl hci hM hR (As := [a0, a1, a2, a3, a4, a5, a6]) rfl rfl hcat kk
theorem u_calllS {post : Int64 → w_M → Prop} (C : u_C p R s m args c cc own nL D A H0 cells slots G) (hm : u_mes y bytes maxL ret na) (hd : decode cc pc = .ok (.invokestatic index, 3)) (hlk : Cond.methodLink own index y ∈ wsL_law) (hM : u_Ml l D G y bytes maxL ret f n As M post) (hR : f + 1 ≤ R.frames ∧ 8 + (maxL + 11) + n ≤ R.locals) (hn : As.length = na) (hst : st0 = As.reverse ++ st) (hcat : (st.map fun v => v.category).sum ≤ 8) (kk : ∀ (r : Int64) (M2 : w_M), post r M2 → u_S p l e R s m args below meth c nL D A H0 cells slots Q (pc + 3) lv (.long r :: st) G M2) : u_S p l e R s m args below meth c nL D A H0 cells slots Q pc lv st0 G M := by
  intro H locs ls hP hD hS hl
  obtain ⟨⟨hx, hb, hml, hown, hts⟩, ⟨hK, hN⟩, hA, hcs⟩ := id C
  have hf := u_hf hA hD hS
  refine va_calll (va_runS (As := As) (rest := st) ⟨hx, hb, hml, hown, hts⟩ (hM H.size) ⟨u_cb C hm.1 hlk hR, hts _ hm.2⟩ (u_pres ⟨hK, hN⟩ hP hD _) rfl hn hl.1 hst (lv_room hcat) hd ⟨hcs.1, hcs.2⟩) hS (fun q _ h => hf q h) hf (fun r u t H1 locs ht hvm hw hB hz1 hk1 hS => ?_)
  have hP1 : va_P D vwCl (u_W G u) t.heap := hB
  rw [ht] at hP1
  exact kk r u hw H1 locs ls hP1 (u_DM u hD) hS hl

theorem u_calllS0 {post : Int64 → w_M → Prop} (C : u_C p R s m args c cc own nL D A H0 cells slots G) (hm : u_mes y bytes maxL ret 0) (hd : decode cc pc = .ok (.invokestatic index, 3)) (hlk : Cond.methodLink own index y ∈ wsL_law) (hM : u_Ml l D G y bytes maxL ret f n [] M post) (hR : f + 1 ≤ R.frames ∧ 8 + (maxL + 11) + n ≤ R.locals) (hcat : (st.map fun v => v.category).sum ≤ 8) (kk : ∀ (r : Int64) (M2 : w_M), post r M2 → u_S p l e R s m args below meth c nL D A H0 cells slots Q (pc + 3) lv (.long r :: st) G M2) : u_S p l e R s m args below meth c nL D A H0 cells slots Q pc lv (st) G M := u_calllS C hm hd hlk hM hR (As := []) rfl rfl hcat kk
theorem u_calllS1 {post : Int64 → w_M → Prop} {a0 : Value} (C : u_C p R s m args c cc own nL D A H0 cells slots G) (hm : u_mes y bytes maxL ret 1) (hd : decode cc pc = .ok (.invokestatic index, 3)) (hlk : Cond.methodLink own index y ∈ wsL_law) (hM : u_Ml l D G y bytes maxL ret f n [a0] M post) (hR : f + 1 ≤ R.frames ∧ 8 + (maxL + 11) + n ≤ R.locals) (hcat : (st.map fun v => v.category).sum ≤ 8) (kk : ∀ (r : Int64) (M2 : w_M), post r M2 → u_S p l e R s m args below meth c nL D A H0 cells slots Q (pc + 3) lv (.long r :: st) G M2) : u_S p l e R s m args below meth c nL D A H0 cells slots Q pc lv (a0 :: st) G M := u_calllS C hm hd hlk hM hR (As := [a0]) rfl rfl hcat kk
theorem u_calllS2 {post : Int64 → w_M → Prop} {a0 a1 : Value} (C : u_C p R s m args c cc own nL D A H0 cells slots G) (hm : u_mes y bytes maxL ret 2) (hd : decode cc pc = .ok (.invokestatic index, 3)) (hlk : Cond.methodLink own index y ∈ wsL_law) (hM : u_Ml l D G y bytes maxL ret f n [a0, a1] M post) (hR : f + 1 ≤ R.frames ∧ 8 + (maxL + 11) + n ≤ R.locals) (hcat : (st.map fun v => v.category).sum ≤ 8) (kk : ∀ (r : Int64) (M2 : w_M), post r M2 → u_S p l e R s m args below meth c nL D A H0 cells slots Q (pc + 3) lv (.long r :: st) G M2) : u_S p l e R s m args below meth c nL D A H0 cells slots Q pc lv (a1 :: a0 :: st) G M := u_calllS C hm hd hlk hM hR (As := [a0, a1]) rfl rfl hcat kk
theorem u_calllS3 {post : Int64 → w_M → Prop} {a0 a1 a2 : Value} (C : u_C p R s m args c cc own nL D A H0 cells slots G) (hm : u_mes y bytes maxL ret 3) (hd : decode cc pc = .ok (.invokestatic index, 3)) (hlk : Cond.methodLink own index y ∈ wsL_law) (hM : u_Ml l D G y bytes maxL ret f n [a0, a1, a2] M post) (hR : f + 1 ≤ R.frames ∧ 8 + (maxL + 11) + n ≤ R.locals) (hcat : (st.map fun v => v.category).sum ≤ 8) (kk : ∀ (r : Int64) (M2 : w_M), post r M2 → u_S p l e R s m args below meth c nL D A H0 cells slots Q (pc + 3) lv (.long r :: st) G M2) : u_S p l e R s m args below meth c nL D A H0 cells slots Q pc lv (a2 :: a1 :: a0 :: st) G M := u_calllS C hm hd hlk hM hR (As := [a0, a1, a2]) rfl rfl hcat kk
theorem u_calllS4 {post : Int64 → w_M → Prop} {a0 a1 a2 a3 : Value} (C : u_C p R s m args c cc own nL D A H0 cells slots G) (hm : u_mes y bytes maxL ret 4) (hd : decode cc pc = .ok (.invokestatic index, 3)) (hlk : Cond.methodLink own index y ∈ wsL_law) (hM : u_Ml l D G y bytes maxL ret f n [a0, a1, a2, a3] M post) (hR : f + 1 ≤ R.frames ∧ 8 + (maxL + 11) + n ≤ R.locals) (hcat : (st.map fun v => v.category).sum ≤ 8) (kk : ∀ (r : Int64) (M2 : w_M), post r M2 → u_S p l e R s m args below meth c nL D A H0 cells slots Q (pc + 3) lv (.long r :: st) G M2) : u_S p l e R s m args below meth c nL D A H0 cells slots Q pc lv (a3 :: a2 :: a1 :: a0 :: st) G M := u_calllS C hm hd hlk hM hR (As := [a0, a1, a2, a3]) rfl rfl hcat kk
theorem u_calllS5 {post : Int64 → w_M → Prop} {a0 a1 a2 a3 a4 : Value} (C : u_C p R s m args c cc own nL D A H0 cells slots G) (hm : u_mes y bytes maxL ret 5) (hd : decode cc pc = .ok (.invokestatic index, 3)) (hlk : Cond.methodLink own index y ∈ wsL_law) (hM : u_Ml l D G y bytes maxL ret f n [a0, a1, a2, a3, a4] M post) (hR : f + 1 ≤ R.frames ∧ 8 + (maxL + 11) + n ≤ R.locals) (hcat : (st.map fun v => v.category).sum ≤ 8) (kk : ∀ (r : Int64) (M2 : w_M), post r M2 → u_S p l e R s m args below meth c nL D A H0 cells slots Q (pc + 3) lv (.long r :: st) G M2) : u_S p l e R s m args below meth c nL D A H0 cells slots Q pc lv (a4 :: a3 :: a2 :: a1 :: a0 :: st) G M := u_calllS C hm hd hlk hM hR (As := [a0, a1, a2, a3, a4]) rfl rfl hcat kk
theorem u_calllS6 {post : Int64 → w_M → Prop} {a0 a1 a2 a3 a4 a5 : Value} (C : u_C p R s m args c cc own nL D A H0 cells slots G) (hm : u_mes y bytes maxL ret 6) (hd : decode cc pc = .ok (.invokestatic index, 3)) (hlk : Cond.methodLink own index y ∈ wsL_law) (hM : u_Ml l D G y bytes maxL ret f n [a0, a1, a2, a3, a4, a5] M post) (hR : f + 1 ≤ R.frames ∧ 8 + (maxL + 11) + n ≤ R.locals) (hcat : (st.map fun v => v.category).sum ≤ 8) (kk : ∀ (r : Int64) (M2 : w_M), post r M2 → u_S p l e R s m args below meth c nL D A H0 cells slots Q (pc + 3) lv (.long r :: st) G M2) : u_S p l e R s m args below meth c nL D A H0 cells slots Q pc lv (a5 :: a4 :: a3 :: a2 :: a1 :: a0 :: st) G M := u_calllS C hm hd hlk hM hR (As := [a0, a1, a2, a3, a4, a5]) rfl rfl hcat kk
theorem u_calllS7 {post : Int64 → w_M → Prop} {a0 a1 a2 a3 a4 a5 a6 : Value} (C : u_C p R s m args c cc own nL D A H0 cells slots G) (hm : u_mes y bytes maxL ret 7) (hd : decode cc pc = .ok (.invokestatic index, 3)) (hlk : Cond.methodLink own index y ∈ wsL_law) (hM : u_Ml l D G y bytes maxL ret f n [a0, a1, a2, a3, a4, a5, a6] M post) (hR : f + 1 ≤ R.frames ∧ 8 + (maxL + 11) + n ≤ R.locals) (hcat : (st.map fun v => v.category).sum ≤ 8) (kk : ∀ (r : Int64) (M2 : w_M), post r M2 → u_S p l e R s m args below meth c nL D A H0 cells slots Q (pc + 3) lv (.long r :: st) G M2) : u_S p l e R s m args below meth c nL D A H0 cells slots Q pc lv (a6 :: a5 :: a4 :: a3 :: a2 :: a1 :: a0 :: st) G M := u_calllS C hm hd hlk hM hR (As := [a0, a1, a2, a3, a4, a5, a6]) rfl rfl hcat kk
theorem u_callvV {post : w_M → Prop} (C : u_C p R s m args c cc own nL D A H0 cells slots G) (hm : u_mev y bytes maxL ret na) (hd : decode cc pc = .ok (.invokevirtual index, 3)) (hlk : Cond.methodLink own index y ∈ wsL_law) {b ci : Nat} (hb9 : u_is G b ci) (hcl : (vwCl[ci]?).map (fun q => q.1) = some y.cls) (hci : ci < 12) (hM : u_Mv l D G y bytes maxL ret f n (.ref (gP G b) :: As) M post) (hR : f + 1 ≤ R.frames ∧ 8 + (maxL + 11) + n ≤ R.locals) (hn : As.length = na) (hst : st0 = As.reverse ++ .ref (gP G b) :: st) (hcat : (st.map fun v => v.category).sum ≤ 8) (kk : ∀ (M2 : w_M), post M2 → u_S p l e R s m args below meth c nL D A H0 cells slots Q (pc + 3) lv (st) G M2) : u_S p l e R s m args below meth c nL D A H0 cells slots Q pc lv st0 G M := by
  intro H locs ls hP hD hS hl
  obtain ⟨⟨hx, hb, hml, hown, hts⟩, ⟨hK, hN⟩, hA, hcs⟩ := id C
  obtain ⟨q9, hq9, hw9⟩ := u_get (M := M) hb9.1
  rw [w_cellO hb9 hci] at hw9
  obtain ⟨r9, hr9, hr8⟩ := Option.map_eq_some_iff.mp hcl
  have hrecv : ∃ cellB : Cell, H[gP G b]? = some cellB ∧ cellB.vm.isStatics = false ∧ s.vm.findClass y.cls = some cellB.cls := by
    rw [← hr8]
    exact va_recv hK hP hr9 hw9
  have hf := u_hf hA hD hS
  refine va_callv (va_runV (As := As) (rest := st) ⟨hx, hb, hml, hown, hts⟩ (hM H.size) ⟨u_cb C hm.1 hlk hR, hts _ hm.2.1, hts _ hm.2.2⟩ ⟨u_blind, hrecv, (u_pres ⟨hK, hN⟩ hP hD _).2⟩ rfl hn hl.1 hst (lv_room hcat) hd ⟨hcs.1, hcs.2⟩) hS (fun q _ h => hf q h) hf (fun u t H1 locs ht hvm hw hB hz1 hk1 hS => ?_)
  have hP1 : va_P D vwCl (u_W G u) t.heap := hB
  rw [ht] at hP1
  exact kk u hw H1 locs ls hP1 (u_DM u hD) hS hl

theorem u_callvV0 {post : w_M → Prop} (C : u_C p R s m args c cc own nL D A H0 cells slots G) (hm : u_mev y bytes maxL ret 0) (hd : decode cc pc = .ok (.invokevirtual index, 3)) (hlk : Cond.methodLink own index y ∈ wsL_law) {b ci : Nat} (hb9 : u_is G b ci) (hcl : (vwCl[ci]?).map (fun q => q.1) = some y.cls) (hci : ci < 12) (hM : u_Mv l D G y bytes maxL ret f n (.ref (gP G b) :: []) M post) (hR : f + 1 ≤ R.frames ∧ 8 + (maxL + 11) + n ≤ R.locals) (hcat : (st.map fun v => v.category).sum ≤ 8) (kk : ∀ (M2 : w_M), post M2 → u_S p l e R s m args below meth c nL D A H0 cells slots Q (pc + 3) lv (st) G M2) : u_S p l e R s m args below meth c nL D A H0 cells slots Q pc lv (.ref (gP G b) :: st) G M := u_callvV C hm hd hlk hb9 hcl hci hM hR (As := []) rfl rfl hcat kk
theorem u_callvV1 {post : w_M → Prop} {a0 : Value} (C : u_C p R s m args c cc own nL D A H0 cells slots G) (hm : u_mev y bytes maxL ret 1) (hd : decode cc pc = .ok (.invokevirtual index, 3)) (hlk : Cond.methodLink own index y ∈ wsL_law) {b ci : Nat} (hb9 : u_is G b ci) (hcl : (vwCl[ci]?).map (fun q => q.1) = some y.cls) (hci : ci < 12) (hM : u_Mv l D G y bytes maxL ret f n (.ref (gP G b) :: [a0]) M post) (hR : f + 1 ≤ R.frames ∧ 8 + (maxL + 11) + n ≤ R.locals) (hcat : (st.map fun v => v.category).sum ≤ 8) (kk : ∀ (M2 : w_M), post M2 → u_S p l e R s m args below meth c nL D A H0 cells slots Q (pc + 3) lv (st) G M2) : u_S p l e R s m args below meth c nL D A H0 cells slots Q pc lv (a0 :: .ref (gP G b) :: st) G M := u_callvV C hm hd hlk hb9 hcl hci hM hR (As := [a0]) rfl rfl hcat kk
theorem u_callvV2 {post : w_M → Prop} {a0 a1 : Value} (C : u_C p R s m args c cc own nL D A H0 cells slots G) (hm : u_mev y bytes maxL ret 2) (hd : decode cc pc = .ok (.invokevirtual index, 3)) (hlk : Cond.methodLink own index y ∈ wsL_law) {b ci : Nat} (hb9 : u_is G b ci) (hcl : (vwCl[ci]?).map (fun q => q.1) = some y.cls) (hci : ci < 12) (hM : u_Mv l D G y bytes maxL ret f n (.ref (gP G b) :: [a0, a1]) M post) (hR : f + 1 ≤ R.frames ∧ 8 + (maxL + 11) + n ≤ R.locals) (hcat : (st.map fun v => v.category).sum ≤ 8) (kk : ∀ (M2 : w_M), post M2 → u_S p l e R s m args below meth c nL D A H0 cells slots Q (pc + 3) lv (st) G M2) : u_S p l e R s m args below meth c nL D A H0 cells slots Q pc lv (a1 :: a0 :: .ref (gP G b) :: st) G M := u_callvV C hm hd hlk hb9 hcl hci hM hR (As := [a0, a1]) rfl rfl hcat kk
theorem u_callvV3 {post : w_M → Prop} {a0 a1 a2 : Value} (C : u_C p R s m args c cc own nL D A H0 cells slots G) (hm : u_mev y bytes maxL ret 3) (hd : decode cc pc = .ok (.invokevirtual index, 3)) (hlk : Cond.methodLink own index y ∈ wsL_law) {b ci : Nat} (hb9 : u_is G b ci) (hcl : (vwCl[ci]?).map (fun q => q.1) = some y.cls) (hci : ci < 12) (hM : u_Mv l D G y bytes maxL ret f n (.ref (gP G b) :: [a0, a1, a2]) M post) (hR : f + 1 ≤ R.frames ∧ 8 + (maxL + 11) + n ≤ R.locals) (hcat : (st.map fun v => v.category).sum ≤ 8) (kk : ∀ (M2 : w_M), post M2 → u_S p l e R s m args below meth c nL D A H0 cells slots Q (pc + 3) lv (st) G M2) : u_S p l e R s m args below meth c nL D A H0 cells slots Q pc lv (a2 :: a1 :: a0 :: .ref (gP G b) :: st) G M := u_callvV C hm hd hlk hb9 hcl hci hM hR (As := [a0, a1, a2]) rfl rfl hcat kk
theorem u_callvV4 {post : w_M → Prop} {a0 a1 a2 a3 : Value} (C : u_C p R s m args c cc own nL D A H0 cells slots G) (hm : u_mev y bytes maxL ret 4) (hd : decode cc pc = .ok (.invokevirtual index, 3)) (hlk : Cond.methodLink own index y ∈ wsL_law) {b ci : Nat} (hb9 : u_is G b ci) (hcl : (vwCl[ci]?).map (fun q => q.1) = some y.cls) (hci : ci < 12) (hM : u_Mv l D G y bytes maxL ret f n (.ref (gP G b) :: [a0, a1, a2, a3]) M post) (hR : f + 1 ≤ R.frames ∧ 8 + (maxL + 11) + n ≤ R.locals) (hcat : (st.map fun v => v.category).sum ≤ 8) (kk : ∀ (M2 : w_M), post M2 → u_S p l e R s m args below meth c nL D A H0 cells slots Q (pc + 3) lv (st) G M2) : u_S p l e R s m args below meth c nL D A H0 cells slots Q pc lv (a3 :: a2 :: a1 :: a0 :: .ref (gP G b) :: st) G M := u_callvV C hm hd hlk hb9 hcl hci hM hR (As := [a0, a1, a2, a3]) rfl rfl hcat kk
theorem u_callvV5 {post : w_M → Prop} {a0 a1 a2 a3 a4 : Value} (C : u_C p R s m args c cc own nL D A H0 cells slots G) (hm : u_mev y bytes maxL ret 5) (hd : decode cc pc = .ok (.invokevirtual index, 3)) (hlk : Cond.methodLink own index y ∈ wsL_law) {b ci : Nat} (hb9 : u_is G b ci) (hcl : (vwCl[ci]?).map (fun q => q.1) = some y.cls) (hci : ci < 12) (hM : u_Mv l D G y bytes maxL ret f n (.ref (gP G b) :: [a0, a1, a2, a3, a4]) M post) (hR : f + 1 ≤ R.frames ∧ 8 + (maxL + 11) + n ≤ R.locals) (hcat : (st.map fun v => v.category).sum ≤ 8) (kk : ∀ (M2 : w_M), post M2 → u_S p l e R s m args below meth c nL D A H0 cells slots Q (pc + 3) lv (st) G M2) : u_S p l e R s m args below meth c nL D A H0 cells slots Q pc lv (a4 :: a3 :: a2 :: a1 :: a0 :: .ref (gP G b) :: st) G M := u_callvV C hm hd hlk hb9 hcl hci hM hR (As := [a0, a1, a2, a3, a4]) rfl rfl hcat kk
theorem u_callvV6 {post : w_M → Prop} {a0 a1 a2 a3 a4 a5 : Value} (C : u_C p R s m args c cc own nL D A H0 cells slots G) (hm : u_mev y bytes maxL ret 6) (hd : decode cc pc = .ok (.invokevirtual index, 3)) (hlk : Cond.methodLink own index y ∈ wsL_law) {b ci : Nat} (hb9 : u_is G b ci) (hcl : (vwCl[ci]?).map (fun q => q.1) = some y.cls) (hci : ci < 12) (hM : u_Mv l D G y bytes maxL ret f n (.ref (gP G b) :: [a0, a1, a2, a3, a4, a5]) M post) (hR : f + 1 ≤ R.frames ∧ 8 + (maxL + 11) + n ≤ R.locals) (hcat : (st.map fun v => v.category).sum ≤ 8) (kk : ∀ (M2 : w_M), post M2 → u_S p l e R s m args below meth c nL D A H0 cells slots Q (pc + 3) lv (st) G M2) : u_S p l e R s m args below meth c nL D A H0 cells slots Q pc lv (a5 :: a4 :: a3 :: a2 :: a1 :: a0 :: .ref (gP G b) :: st) G M := u_callvV C hm hd hlk hb9 hcl hci hM hR (As := [a0, a1, a2, a3, a4, a5]) rfl rfl hcat kk
theorem u_callvV7 {post : w_M → Prop} {a0 a1 a2 a3 a4 a5 a6 : Value} (C : u_C p R s m args c cc own nL D A H0 cells slots G) (hm : u_mev y bytes maxL ret 7) (hd : decode cc pc = .ok (.invokevirtual index, 3)) (hlk : Cond.methodLink own index y ∈ wsL_law) {b ci : Nat} (hb9 : u_is G b ci) (hcl : (vwCl[ci]?).map (fun q => q.1) = some y.cls) (hci : ci < 12) (hM : u_Mv l D G y bytes maxL ret f n (.ref (gP G b) :: [a0, a1, a2, a3, a4, a5, a6]) M post) (hR : f + 1 ≤ R.frames ∧ 8 + (maxL + 11) + n ≤ R.locals) (hcat : (st.map fun v => v.category).sum ≤ 8) (kk : ∀ (M2 : w_M), post M2 → u_S p l e R s m args below meth c nL D A H0 cells slots Q (pc + 3) lv (st) G M2) : u_S p l e R s m args below meth c nL D A H0 cells slots Q pc lv (a6 :: a5 :: a4 :: a3 :: a2 :: a1 :: a0 :: .ref (gP G b) :: st) G M := u_callvV C hm hd hlk hb9 hcl hci hM hR (As := [a0, a1, a2, a3, a4, a5, a6]) rfl rfl hcat kk
theorem u_callvS {post : w_M → Prop} (C : u_C p R s m args c cc own nL D A H0 cells slots G) (hm : u_mes y bytes maxL ret na) (hd : decode cc pc = .ok (.invokestatic index, 3)) (hlk : Cond.methodLink own index y ∈ wsL_law) (hM : u_Mv l D G y bytes maxL ret f n As M post) (hR : f + 1 ≤ R.frames ∧ 8 + (maxL + 11) + n ≤ R.locals) (hn : As.length = na) (hst : st0 = As.reverse ++ st) (hcat : (st.map fun v => v.category).sum ≤ 8) (kk : ∀ (M2 : w_M), post M2 → u_S p l e R s m args below meth c nL D A H0 cells slots Q (pc + 3) lv (st) G M2) : u_S p l e R s m args below meth c nL D A H0 cells slots Q pc lv st0 G M := by
  intro H locs ls hP hD hS hl
  obtain ⟨⟨hx, hb, hml, hown, hts⟩, ⟨hK, hN⟩, hA, hcs⟩ := id C
  have hf := u_hf hA hD hS
  refine va_callv (va_runS (As := As) (rest := st) ⟨hx, hb, hml, hown, hts⟩ (hM H.size) ⟨u_cb C hm.1 hlk hR, hts _ hm.2⟩ (u_pres ⟨hK, hN⟩ hP hD _) rfl hn hl.1 hst (lv_room hcat) hd ⟨hcs.1, hcs.2⟩) hS (fun q _ h => hf q h) hf (fun u t H1 locs ht hvm hw hB hz1 hk1 hS => ?_)
  have hP1 : va_P D vwCl (u_W G u) t.heap := hB
  rw [ht] at hP1
  exact kk u hw H1 locs ls hP1 (u_DM u hD) hS hl

theorem u_callvS0 {post : w_M → Prop} (C : u_C p R s m args c cc own nL D A H0 cells slots G) (hm : u_mes y bytes maxL ret 0) (hd : decode cc pc = .ok (.invokestatic index, 3)) (hlk : Cond.methodLink own index y ∈ wsL_law) (hM : u_Mv l D G y bytes maxL ret f n [] M post) (hR : f + 1 ≤ R.frames ∧ 8 + (maxL + 11) + n ≤ R.locals) (hcat : (st.map fun v => v.category).sum ≤ 8) (kk : ∀ (M2 : w_M), post M2 → u_S p l e R s m args below meth c nL D A H0 cells slots Q (pc + 3) lv (st) G M2) : u_S p l e R s m args below meth c nL D A H0 cells slots Q pc lv (st) G M := u_callvS C hm hd hlk hM hR (As := []) rfl rfl hcat kk
theorem u_callvS1 {post : w_M → Prop} {a0 : Value} (C : u_C p R s m args c cc own nL D A H0 cells slots G) (hm : u_mes y bytes maxL ret 1) (hd : decode cc pc = .ok (.invokestatic index, 3)) (hlk : Cond.methodLink own index y ∈ wsL_law) (hM : u_Mv l D G y bytes maxL ret f n [a0] M post) (hR : f + 1 ≤ R.frames ∧ 8 + (maxL + 11) + n ≤ R.locals) (hcat : (st.map fun v => v.category).sum ≤ 8) (kk : ∀ (M2 : w_M), post M2 → u_S p l e R s m args below meth c nL D A H0 cells slots Q (pc + 3) lv (st) G M2) : u_S p l e R s m args below meth c nL D A H0 cells slots Q pc lv (a0 :: st) G M := u_callvS C hm hd hlk hM hR (As := [a0]) rfl rfl hcat kk
theorem u_callvS2 {post : w_M → Prop} {a0 a1 : Value} (C : u_C p R s m args c cc own nL D A H0 cells slots G) (hm : u_mes y bytes maxL ret 2) (hd : decode cc pc = .ok (.invokestatic index, 3)) (hlk : Cond.methodLink own index y ∈ wsL_law) (hM : u_Mv l D G y bytes maxL ret f n [a0, a1] M post) (hR : f + 1 ≤ R.frames ∧ 8 + (maxL + 11) + n ≤ R.locals) (hcat : (st.map fun v => v.category).sum ≤ 8) (kk : ∀ (M2 : w_M), post M2 → u_S p l e R s m args below meth c nL D A H0 cells slots Q (pc + 3) lv (st) G M2) : u_S p l e R s m args below meth c nL D A H0 cells slots Q pc lv (a1 :: a0 :: st) G M := u_callvS C hm hd hlk hM hR (As := [a0, a1]) rfl rfl hcat kk
theorem u_callvS3 {post : w_M → Prop} {a0 a1 a2 : Value} (C : u_C p R s m args c cc own nL D A H0 cells slots G) (hm : u_mes y bytes maxL ret 3) (hd : decode cc pc = .ok (.invokestatic index, 3)) (hlk : Cond.methodLink own index y ∈ wsL_law) (hM : u_Mv l D G y bytes maxL ret f n [a0, a1, a2] M post) (hR : f + 1 ≤ R.frames ∧ 8 + (maxL + 11) + n ≤ R.locals) (hcat : (st.map fun v => v.category).sum ≤ 8) (kk : ∀ (M2 : w_M), post M2 → u_S p l e R s m args below meth c nL D A H0 cells slots Q (pc + 3) lv (st) G M2) : u_S p l e R s m args below meth c nL D A H0 cells slots Q pc lv (a2 :: a1 :: a0 :: st) G M := u_callvS C hm hd hlk hM hR (As := [a0, a1, a2]) rfl rfl hcat kk
theorem u_callvS4 {post : w_M → Prop} {a0 a1 a2 a3 : Value} (C : u_C p R s m args c cc own nL D A H0 cells slots G) (hm : u_mes y bytes maxL ret 4) (hd : decode cc pc = .ok (.invokestatic index, 3)) (hlk : Cond.methodLink own index y ∈ wsL_law) (hM : u_Mv l D G y bytes maxL ret f n [a0, a1, a2, a3] M post) (hR : f + 1 ≤ R.frames ∧ 8 + (maxL + 11) + n ≤ R.locals) (hcat : (st.map fun v => v.category).sum ≤ 8) (kk : ∀ (M2 : w_M), post M2 → u_S p l e R s m args below meth c nL D A H0 cells slots Q (pc + 3) lv (st) G M2) : u_S p l e R s m args below meth c nL D A H0 cells slots Q pc lv (a3 :: a2 :: a1 :: a0 :: st) G M := u_callvS C hm hd hlk hM hR (As := [a0, a1, a2, a3]) rfl rfl hcat kk
theorem u_callvS5 {post : w_M → Prop} {a0 a1 a2 a3 a4 : Value} (C : u_C p R s m args c cc own nL D A H0 cells slots G) (hm : u_mes y bytes maxL ret 5) (hd : decode cc pc = .ok (.invokestatic index, 3)) (hlk : Cond.methodLink own index y ∈ wsL_law) (hM : u_Mv l D G y bytes maxL ret f n [a0, a1, a2, a3, a4] M post) (hR : f + 1 ≤ R.frames ∧ 8 + (maxL + 11) + n ≤ R.locals) (hcat : (st.map fun v => v.category).sum ≤ 8) (kk : ∀ (M2 : w_M), post M2 → u_S p l e R s m args below meth c nL D A H0 cells slots Q (pc + 3) lv (st) G M2) : u_S p l e R s m args below meth c nL D A H0 cells slots Q pc lv (a4 :: a3 :: a2 :: a1 :: a0 :: st) G M := u_callvS C hm hd hlk hM hR (As := [a0, a1, a2, a3, a4]) rfl rfl hcat kk
theorem u_callvS6 {post : w_M → Prop} {a0 a1 a2 a3 a4 a5 : Value} (C : u_C p R s m args c cc own nL D A H0 cells slots G) (hm : u_mes y bytes maxL ret 6) (hd : decode cc pc = .ok (.invokestatic index, 3)) (hlk : Cond.methodLink own index y ∈ wsL_law) (hM : u_Mv l D G y bytes maxL ret f n [a0, a1, a2, a3, a4, a5] M post) (hR : f + 1 ≤ R.frames ∧ 8 + (maxL + 11) + n ≤ R.locals) (hcat : (st.map fun v => v.category).sum ≤ 8) (kk : ∀ (M2 : w_M), post M2 → u_S p l e R s m args below meth c nL D A H0 cells slots Q (pc + 3) lv (st) G M2) : u_S p l e R s m args below meth c nL D A H0 cells slots Q pc lv (a5 :: a4 :: a3 :: a2 :: a1 :: a0 :: st) G M := u_callvS C hm hd hlk hM hR (As := [a0, a1, a2, a3, a4, a5]) rfl rfl hcat kk
theorem u_callvS7 {post : w_M → Prop} {a0 a1 a2 a3 a4 a5 a6 : Value} (C : u_C p R s m args c cc own nL D A H0 cells slots G) (hm : u_mes y bytes maxL ret 7) (hd : decode cc pc = .ok (.invokestatic index, 3)) (hlk : Cond.methodLink own index y ∈ wsL_law) (hM : u_Mv l D G y bytes maxL ret f n [a0, a1, a2, a3, a4, a5, a6] M post) (hR : f + 1 ≤ R.frames ∧ 8 + (maxL + 11) + n ≤ R.locals) (hcat : (st.map fun v => v.category).sum ≤ 8) (kk : ∀ (M2 : w_M), post M2 → u_S p l e R s m args below meth c nL D A H0 cells slots Q (pc + 3) lv (st) G M2) : u_S p l e R s m args below meth c nL D A H0 cells slots Q pc lv (a6 :: a5 :: a4 :: a3 :: a2 :: a1 :: a0 :: st) G M := u_callvS C hm hd hlk hM hR (As := [a0, a1, a2, a3, a4, a5, a6]) rfl rfl hcat kk
theorem u_calliN3 {post : Int32 → w_M → Prop} {a0 a1 a2 : Value} (C : u_C p R s m args c cc own nL D A H0 cells slots G) (hm : u_mes y bytes maxL ret 3) (hd : decode cc pc = .ok (.invokestatic index, 3)) (hlk : Cond.methodLinkNest own index y RX10 ∈ u_nestL) (hM : u_Mi l D G y bytes maxL ret f n [a0, a1, a2] M post) (hR : f + 1 ≤ R.frames ∧ 8 + (maxL + 11) + n ≤ R.locals) (hcat : (st.map fun v => v.category).sum ≤ 8) (kk : ∀ (r : Int32) (M2 : w_M), post r M2 → u_S p l e R s m args below meth c nL D A H0 cells slots Q (pc + 3) lv (.int r :: st) G M2) : u_S p l e R s m args below meth c nL D A H0 cells slots Q pc lv (a2 :: a1 :: a0 :: st) G M := by
  intro H locs ls hP hD hS hl
  obtain ⟨⟨hx, hb, hml, hown, hts⟩, ⟨hK, hN⟩, hA, hcs⟩ := id C
  have hf := u_hf hA hD hS
  refine va_calli (va_runSN (As := [a0, a1, a2]) (rest := st) ⟨hx, hb, hml, hown, hts⟩ (hM H.size) ⟨va_cnB (host := RX10) 3 hts (u_goodIn hm.1.2.2) rfl rfl rfl (hN.1 _ hlk) (hts _ hm.1.2.1) hm.1.1 hR, hts _ hm.2, trivial⟩ (u_pres ⟨hK, hN⟩ hP hD _) rfl rfl hl.1 rfl (lv_room hcat) hd ⟨hcs.1, hcs.2⟩) hS (fun q _ h => hf q h) hf (fun r u t H1 locs ht hvm hw hB hz1 hk1 hS => ?_)
  have hP1 : va_P D vwCl (u_W G u) t.heap := hB
  rw [ht] at hP1
  exact kk r u hw H1 locs ls hP1 (u_DM u hD) hS hl

end UCALL
end
section
theorem dX0_init_0 : decode cX0_init 0 = .ok (.aload_n 0, 1) := by decide +kernel
theorem dX0_init_1 : decode cX0_init 1 = .ok (.invokespecial 3, 3) := by decide +kernel
theorem dX0_init_4 : decode cX0_init 4 = .ok (.aload_n 0, 1) := by decide +kernel
theorem dX0_init_5 : decode cX0_init 5 = .ok (.sipush 500, 3) := by decide +kernel
theorem dX0_init_8 : decode cX0_init 8 = .ok (.newarray .int, 2) := by decide +kernel
theorem dX0_init_10 : decode cX0_init 10 = .ok (.putfield 9, 3) := by decide +kernel
theorem dX0_init_13 : decode cX0_init 13 = .ok (.aload_n 0, 1) := by decide +kernel
theorem dX0_init_14 : decode cX0_init 14 = .ok (.sipush 500, 3) := by decide +kernel
theorem dX0_init_17 : decode cX0_init 17 = .ok (.newarray .int, 2) := by decide +kernel
theorem dX0_init_19 : decode cX0_init 19 = .ok (.putfield 15, 3) := by decide +kernel
theorem dX0_init_22 : decode cX0_init 22 = .ok (.aload_n 0, 1) := by decide +kernel
theorem dX0_init_23 : decode cX0_init 23 = .ok (.sipush 500, 3) := by decide +kernel
theorem dX0_init_26 : decode cX0_init 26 = .ok (.newarray .boolean, 2) := by decide +kernel
theorem dX0_init_28 : decode cX0_init 28 = .ok (.putfield 18, 3) := by decide +kernel
theorem dX0_init_31 : decode cX0_init 31 = .ok (.aload_n 0, 1) := by decide +kernel
theorem dX0_init_32 : decode cX0_init 32 = .ok (.iconst (-1), 1) := by decide +kernel
theorem dX0_init_33 : decode cX0_init 33 = .ok (.putfield 22, 3) := by decide +kernel
theorem dX0_init_36 : decode cX0_init 36 = .ok (.return_, 1) := by decide +kernel
theorem dX0_begin_0 : decode cX0_begin 0 = .ok (.aload_n 0, 1) := by decide +kernel
theorem dX0_begin_1 : decode cX0_begin 1 = .ok (.iconst 0, 1) := by decide +kernel
theorem dX0_begin_2 : decode cX0_begin 2 = .ok (.putfield 26, 3) := by decide +kernel
theorem dX0_begin_5 : decode cX0_begin 5 = .ok (.aload_n 0, 1) := by decide +kernel
theorem dX0_begin_6 : decode cX0_begin 6 = .ok (.iconst (-1), 1) := by decide +kernel
theorem dX0_begin_7 : decode cX0_begin 7 = .ok (.putfield 22, 3) := by decide +kernel
theorem dX0_begin_10 : decode cX0_begin 10 = .ok (.aload_n 0, 1) := by decide +kernel
theorem dX0_begin_11 : decode cX0_begin 11 = .ok (.iconst 0, 1) := by decide +kernel
theorem dX0_begin_12 : decode cX0_begin 12 = .ok (.putfield 29, 3) := by decide +kernel
theorem dX0_begin_15 : decode cX0_begin 15 = .ok (.aload_n 0, 1) := by decide +kernel
theorem dX0_begin_16 : decode cX0_begin 16 = .ok (.iconst 0, 1) := by decide +kernel
theorem dX0_begin_17 : decode cX0_begin 17 = .ok (.putfield 32, 3) := by decide +kernel
theorem dX0_begin_20 : decode cX0_begin 20 = .ok (.return_, 1) := by decide +kernel
theorem dX0_look_0 : decode cX0_look 0 = .ok (.aload_n 0, 1) := by decide +kernel
theorem dX0_look_1 : decode cX0_look 1 = .ok (.getfield 32, 3) := by decide +kernel
theorem dX0_look_4 : decode cX0_look 4 = .ok (.istore_n 3, 1) := by decide +kernel
theorem dX0_look_5 : decode cX0_look 5 = .ok (.aload_n 0, 1) := by decide +kernel
theorem dX0_look_6 : decode cX0_look 6 = .ok (.aload_n 0, 1) := by decide +kernel
theorem dX0_look_7 : decode cX0_look 7 = .ok (.getfield 22, 3) := by decide +kernel
theorem dX0_look_10 : decode cX0_look 10 = .ok (.iconst (-1), 1) := by decide +kernel
theorem dX0_look_11 : decode cX0_look 11 = .ok (.if_icmp .eq 25, 3) := by decide +kernel
theorem dX0_look_14 : decode cX0_look 14 = .ok (.aload_n 1, 1) := by decide +kernel
theorem dX0_look_15 : decode cX0_look 15 = .ok (.aload_n 0, 1) := by decide +kernel
theorem dX0_look_16 : decode cX0_look 16 = .ok (.getfield 22, 3) := by decide +kernel
theorem dX0_look_19 : decode cX0_look 19 = .ok (.iload_n 2, 1) := by decide +kernel
theorem dX0_look_20 : decode cX0_look 20 = .ok (.iload_n 2, 1) := by decide +kernel
theorem dX0_look_21 : decode cX0_look 21 = .ok (.aload_n 0, 1) := by decide +kernel
theorem dX0_look_22 : decode cX0_look 22 = .ok (.getfield 29, 3) := by decide +kernel
theorem dX0_look_25 : decode cX0_look 25 = .ok (.iadd, 1) := by decide +kernel
theorem dX0_look_26 : decode cX0_look 26 = .ok (.invokevirtual 36, 3) := by decide +kernel
theorem dX0_look_29 : decode cX0_look 29 = .ok (.ifCond .eq 7, 3) := by decide +kernel
theorem dX0_look_32 : decode cX0_look 32 = .ok (.iconst 1, 1) := by decide +kernel
theorem dX0_look_33 : decode cX0_look 33 = .ok (.goto 4, 3) := by decide +kernel
theorem dX0_look_36 : decode cX0_look 36 = .ok (.iconst 0, 1) := by decide +kernel
theorem dX0_look_37 : decode cX0_look 37 = .ok (.putfield 32, 3) := by decide +kernel
theorem dX0_look_40 : decode cX0_look 40 = .ok (.aload_n 0, 1) := by decide +kernel
theorem dX0_look_41 : decode cX0_look 41 = .ok (.getfield 32, 3) := by decide +kernel
theorem dX0_look_44 : decode cX0_look 44 = .ok (.ifCond .ne 4, 3) := by decide +kernel
theorem dX0_look_47 : decode cX0_look 47 = .ok (.return_, 1) := by decide +kernel
theorem dX0_look_48 : decode cX0_look 48 = .ok (.iload_n 3, 1) := by decide +kernel
theorem dX0_look_49 : decode cX0_look 49 = .ok (.ifCond .ne 45, 3) := by decide +kernel
theorem dX0_look_52 : decode cX0_look 52 = .ok (.aload_n 0, 1) := by decide +kernel
theorem dX0_look_53 : decode cX0_look 53 = .ok (.getfield 26, 3) := by decide +kernel
theorem dX0_look_56 : decode cX0_look 56 = .ok (.aload_n 0, 1) := by decide +kernel
theorem dX0_look_57 : decode cX0_look 57 = .ok (.getfield 9, 3) := by decide +kernel
theorem dX0_look_60 : decode cX0_look 60 = .ok (.arraylength, 1) := by decide +kernel
theorem dX0_look_61 : decode cX0_look 61 = .ok (.if_icmp .ge 33, 3) := by decide +kernel
theorem dX0_look_64 : decode cX0_look 64 = .ok (.aload_n 0, 1) := by decide +kernel
theorem dX0_look_65 : decode cX0_look 65 = .ok (.getfield 9, 3) := by decide +kernel
theorem dX0_look_68 : decode cX0_look 68 = .ok (.aload_n 0, 1) := by decide +kernel
theorem dX0_look_69 : decode cX0_look 69 = .ok (.getfield 26, 3) := by decide +kernel
theorem dX0_look_72 : decode cX0_look 72 = .ok (.iload_n 2, 1) := by decide +kernel
theorem dX0_look_73 : decode cX0_look 73 = .ok (.iastore, 1) := by decide +kernel
theorem dX0_look_74 : decode cX0_look 74 = .ok (.aload_n 0, 1) := by decide +kernel
theorem dX0_look_75 : decode cX0_look 75 = .ok (.getfield 18, 3) := by decide +kernel
theorem dX0_look_78 : decode cX0_look 78 = .ok (.aload_n 0, 1) := by decide +kernel
theorem dX0_look_79 : decode cX0_look 79 = .ok (.getfield 26, 3) := by decide +kernel
theorem dX0_look_82 : decode cX0_look 82 = .ok (.iconst 0, 1) := by decide +kernel
theorem dX0_look_83 : decode cX0_look 83 = .ok (.bastore, 1) := by decide +kernel
theorem dX0_look_84 : decode cX0_look 84 = .ok (.aload_n 0, 1) := by decide +kernel
theorem dX0_look_85 : decode cX0_look 85 = .ok (.dup, 1) := by decide +kernel
theorem dX0_look_86 : decode cX0_look 86 = .ok (.getfield 26, 3) := by decide +kernel
theorem dX0_look_89 : decode cX0_look 89 = .ok (.iconst 1, 1) := by decide +kernel
theorem dX0_look_90 : decode cX0_look 90 = .ok (.iadd, 1) := by decide +kernel
theorem dX0_look_91 : decode cX0_look 91 = .ok (.putfield 26, 3) := by decide +kernel
theorem dX0_look_94 : decode cX0_look 94 = .ok (.aload_n 0, 1) := by decide +kernel
theorem dX0_look_95 : decode cX0_look 95 = .ok (.getfield 26, 3) := by decide +kernel
theorem dX0_look_98 : decode cX0_look 98 = .ok (.iconst 1, 1) := by decide +kernel
theorem dX0_look_99 : decode cX0_look 99 = .ok (.isub, 1) := by decide +kernel
theorem dX0_look_100 : decode cX0_look 100 = .ok (.istore 4, 2) := by decide +kernel
theorem dX0_look_102 : decode cX0_look 102 = .ok (.iload 4, 2) := by decide +kernel
theorem dX0_look_104 : decode cX0_look 104 = .ok (.ifCond .lt 45, 3) := by decide +kernel
theorem dX0_look_107 : decode cX0_look 107 = .ok (.aload_n 0, 1) := by decide +kernel
theorem dX0_look_108 : decode cX0_look 108 = .ok (.getfield 15, 3) := by decide +kernel
theorem dX0_look_111 : decode cX0_look 111 = .ok (.iload 4, 2) := by decide +kernel
theorem dX0_look_113 : decode cX0_look 113 = .ok (.iload_n 2, 1) := by decide +kernel
theorem dX0_look_114 : decode cX0_look 114 = .ok (.iastore, 1) := by decide +kernel
theorem dX0_look_115 : decode cX0_look 115 = .ok (.aload_n 0, 1) := by decide +kernel
theorem dX0_look_116 : decode cX0_look 116 = .ok (.getfield 18, 3) := by decide +kernel
theorem dX0_look_119 : decode cX0_look 119 = .ok (.iload 4, 2) := by decide +kernel
theorem dX0_look_121 : decode cX0_look 121 = .ok (.aload_n 0, 1) := by decide +kernel
theorem dX0_look_122 : decode cX0_look 122 = .ok (.getfield 18, 3) := by decide +kernel
theorem dX0_look_125 : decode cX0_look 125 = .ok (.iload 4, 2) := by decide +kernel
theorem dX0_look_127 : decode cX0_look 127 = .ok (.baload, 1) := by decide +kernel
theorem dX0_look_128 : decode cX0_look 128 = .ok (.ifCond .ne 15, 3) := by decide +kernel
theorem dX0_look_131 : decode cX0_look 131 = .ok (.aload_n 1, 1) := by decide +kernel
theorem dX0_look_132 : decode cX0_look 132 = .ok (.iload_n 2, 1) := by decide +kernel
theorem dX0_look_133 : decode cX0_look 133 = .ok (.invokevirtual 42, 3) := by decide +kernel
theorem dX0_look_136 : decode cX0_look 136 = .ok (.aload_n 0, 1) := by decide +kernel
theorem dX0_look_137 : decode cX0_look 137 = .ok (.getfield 22, 3) := by decide +kernel
theorem dX0_look_140 : decode cX0_look 140 = .ok (.if_icmp .le 7, 3) := by decide +kernel
theorem dX0_look_143 : decode cX0_look 143 = .ok (.iconst 1, 1) := by decide +kernel
theorem dX0_look_144 : decode cX0_look 144 = .ok (.goto 4, 3) := by decide +kernel
theorem dX0_look_147 : decode cX0_look 147 = .ok (.iconst 0, 1) := by decide +kernel
theorem dX0_look_148 : decode cX0_look 148 = .ok (.bastore, 1) := by decide +kernel
theorem dX0_look_149 : decode cX0_look 149 = .ok (.return_, 1) := by decide +kernel
theorem dX0_answer_0 : decode cX0_answer 0 = .ok (.iload_n 2, 1) := by decide +kernel
theorem dX0_answer_1 : decode cX0_answer 1 = .ok (.lookupswitch 41 #[(0, 27), (1, 34)], 27) := by decide +kernel
theorem dX0_answer_28 : decode cX0_answer 28 = .ok (.aload_n 0, 1) := by decide +kernel
theorem dX0_answer_29 : decode cX0_answer 29 = .ok (.getfield 9, 3) := by decide +kernel
theorem dX0_answer_32 : decode cX0_answer 32 = .ok (.iload_n 1, 1) := by decide +kernel
theorem dX0_answer_33 : decode cX0_answer 33 = .ok (.iaload, 1) := by decide +kernel
theorem dX0_answer_34 : decode cX0_answer 34 = .ok (.ireturn, 1) := by decide +kernel
theorem dX0_answer_35 : decode cX0_answer 35 = .ok (.aload_n 0, 1) := by decide +kernel
theorem dX0_answer_36 : decode cX0_answer 36 = .ok (.getfield 15, 3) := by decide +kernel
theorem dX0_answer_39 : decode cX0_answer 39 = .ok (.iload_n 1, 1) := by decide +kernel
theorem dX0_answer_40 : decode cX0_answer 40 = .ok (.iaload, 1) := by decide +kernel
theorem dX0_answer_41 : decode cX0_answer 41 = .ok (.ireturn, 1) := by decide +kernel
theorem dX0_answer_42 : decode cX0_answer 42 = .ok (.aload_n 0, 1) := by decide +kernel
theorem dX0_answer_43 : decode cX0_answer 43 = .ok (.getfield 18, 3) := by decide +kernel
theorem dX0_answer_46 : decode cX0_answer 46 = .ok (.iload_n 1, 1) := by decide +kernel
theorem dX0_answer_47 : decode cX0_answer 47 = .ok (.baload, 1) := by decide +kernel
theorem dX0_answer_48 : decode cX0_answer 48 = .ok (.ifCond .eq 7, 3) := by decide +kernel
theorem dX0_answer_51 : decode cX0_answer 51 = .ok (.iconst 1, 1) := by decide +kernel
theorem dX0_answer_52 : decode cX0_answer 52 = .ok (.goto 4, 3) := by decide +kernel
theorem dX0_answer_55 : decode cX0_answer 55 = .ok (.iconst 0, 1) := by decide +kernel
theorem dX0_answer_56 : decode cX0_answer 56 = .ok (.ireturn, 1) := by decide +kernel
theorem dX1_init_0 : decode cX1_init 0 = .ok (.aload_n 0, 1) := by decide +kernel
theorem dX1_init_1 : decode cX1_init 1 = .ok (.invokespecial 3, 3) := by decide +kernel
theorem dX1_init_4 : decode cX1_init 4 = .ok (.return_, 1) := by decide +kernel
theorem dX1_begin_0 : decode cX1_begin 0 = .ok (.aload_n 0, 1) := by decide +kernel
theorem dX1_begin_1 : decode cX1_begin 1 = .ok (.iload_n 1, 1) := by decide +kernel
theorem dX1_begin_2 : decode cX1_begin 2 = .ok (.putfield 9, 3) := by decide +kernel
theorem dX1_begin_5 : decode cX1_begin 5 = .ok (.aload_n 0, 1) := by decide +kernel
theorem dX1_begin_6 : decode cX1_begin 6 = .ok (.iload_n 2, 1) := by decide +kernel
theorem dX1_begin_7 : decode cX1_begin 7 = .ok (.putfield 15, 3) := by decide +kernel
theorem dX1_begin_10 : decode cX1_begin 10 = .ok (.aload_n 0, 1) := by decide +kernel
theorem dX1_begin_11 : decode cX1_begin 11 = .ok (.iload_n 3, 1) := by decide +kernel
theorem dX1_begin_12 : decode cX1_begin 12 = .ok (.putfield 18, 3) := by decide +kernel
theorem dX1_begin_15 : decode cX1_begin 15 = .ok (.aload_n 0, 1) := by decide +kernel
theorem dX1_begin_16 : decode cX1_begin 16 = .ok (.iload 4, 2) := by decide +kernel
theorem dX1_begin_18 : decode cX1_begin 18 = .ok (.putfield 21, 3) := by decide +kernel
theorem dX1_begin_21 : decode cX1_begin 21 = .ok (.aload_n 0, 1) := by decide +kernel
theorem dX1_begin_22 : decode cX1_begin 22 = .ok (.iload 5, 2) := by decide +kernel
theorem dX1_begin_24 : decode cX1_begin 24 = .ok (.putfield 24, 3) := by decide +kernel
theorem dX1_begin_27 : decode cX1_begin 27 = .ok (.aload_n 0, 1) := by decide +kernel
theorem dX1_begin_28 : decode cX1_begin 28 = .ok (.iconst 0, 1) := by decide +kernel
theorem dX1_begin_29 : decode cX1_begin 29 = .ok (.putfield 27, 3) := by decide +kernel
theorem dX1_begin_32 : decode cX1_begin 32 = .ok (.aload_n 0, 1) := by decide +kernel
theorem dX1_begin_33 : decode cX1_begin 33 = .ok (.iconst 0, 1) := by decide +kernel
theorem dX1_begin_34 : decode cX1_begin 34 = .ok (.putfield 30, 3) := by decide +kernel
theorem dX1_begin_37 : decode cX1_begin 37 = .ok (.aload_n 0, 1) := by decide +kernel
theorem dX1_begin_38 : decode cX1_begin 38 = .ok (.iconst 0, 1) := by decide +kernel
theorem dX1_begin_39 : decode cX1_begin 39 = .ok (.putfield 33, 3) := by decide +kernel
theorem dX1_begin_42 : decode cX1_begin 42 = .ok (.aload_n 0, 1) := by decide +kernel
theorem dX1_begin_43 : decode cX1_begin 43 = .ok (.iconst 0, 1) := by decide +kernel
theorem dX1_begin_44 : decode cX1_begin 44 = .ok (.putfield 36, 3) := by decide +kernel
theorem dX1_begin_47 : decode cX1_begin 47 = .ok (.aload_n 0, 1) := by decide +kernel
theorem dX1_begin_48 : decode cX1_begin 48 = .ok (.iconst 0, 1) := by decide +kernel
theorem dX1_begin_49 : decode cX1_begin 49 = .ok (.putfield 39, 3) := by decide +kernel
theorem dX1_begin_52 : decode cX1_begin 52 = .ok (.return_, 1) := by decide +kernel
theorem dX1_take_0 : decode cX1_take 0 = .ok (.aload_n 0, 1) := by decide +kernel
theorem dX1_take_1 : decode cX1_take 1 = .ok (.aload_n 1, 1) := by decide +kernel
theorem dX1_take_2 : decode cX1_take 2 = .ok (.getfield 43, 3) := by decide +kernel
theorem dX1_take_5 : decode cX1_take 5 = .ok (.ifCond .le 14, 3) := by decide +kernel
theorem dX1_take_8 : decode cX1_take 8 = .ok (.aload_n 1, 1) := by decide +kernel
theorem dX1_take_9 : decode cX1_take 9 = .ok (.invokevirtual 48, 3) := by decide +kernel
theorem dX1_take_12 : decode cX1_take 12 = .ok (.aload_n 0, 1) := by decide +kernel
theorem dX1_take_13 : decode cX1_take 13 = .ok (.getfield 18, 3) := by decide +kernel
theorem dX1_take_16 : decode cX1_take 16 = .ok (.if_icmp .le 7, 3) := by decide +kernel
theorem dX1_take_19 : decode cX1_take 19 = .ok (.iconst 1, 1) := by decide +kernel
theorem dX1_take_20 : decode cX1_take 20 = .ok (.goto 4, 3) := by decide +kernel
theorem dX1_take_23 : decode cX1_take 23 = .ok (.iconst 0, 1) := by decide +kernel
theorem dX1_take_24 : decode cX1_take 24 = .ok (.putfield 39, 3) := by decide +kernel
theorem dX1_take_27 : decode cX1_take 27 = .ok (.aload_n 0, 1) := by decide +kernel
theorem dX1_take_28 : decode cX1_take 28 = .ok (.getfield 39, 3) := by decide +kernel
theorem dX1_take_31 : decode cX1_take 31 = .ok (.ifCond .eq 14, 3) := by decide +kernel
theorem dX1_take_34 : decode cX1_take 34 = .ok (.aload_n 0, 1) := by decide +kernel
theorem dX1_take_35 : decode cX1_take 35 = .ok (.dup, 1) := by decide +kernel
theorem dX1_take_36 : decode cX1_take 36 = .ok (.getfield 36, 3) := by decide +kernel
theorem dX1_take_39 : decode cX1_take 39 = .ok (.iconst 1, 1) := by decide +kernel
theorem dX1_take_40 : decode cX1_take 40 = .ok (.iadd, 1) := by decide +kernel
theorem dX1_take_41 : decode cX1_take 41 = .ok (.putfield 36, 3) := by decide +kernel
theorem dX1_take_44 : decode cX1_take 44 = .ok (.return_, 1) := by decide +kernel
theorem dX1_take_45 : decode cX1_take 45 = .ok (.aload_n 0, 1) := by decide +kernel
theorem dX1_take_46 : decode cX1_take 46 = .ok (.getfield 15, 3) := by decide +kernel
theorem dX1_take_49 : decode cX1_take 49 = .ok (.aload_n 1, 1) := by decide +kernel
theorem dX1_take_50 : decode cX1_take 50 = .ok (.getfield 43, 3) := by decide +kernel
theorem dX1_take_53 : decode cX1_take 53 = .ok (.invokestatic 52, 3) := by decide +kernel
theorem dX1_take_56 : decode cX1_take 56 = .ok (.aload_n 0, 1) := by decide +kernel
theorem dX1_take_57 : decode cX1_take 57 = .ok (.getfield 21, 3) := by decide +kernel
theorem dX1_take_60 : decode cX1_take 60 = .ok (.aload_n 0, 1) := by decide +kernel
theorem dX1_take_61 : decode cX1_take 61 = .ok (.getfield 27, 3) := by decide +kernel
theorem dX1_take_64 : decode cX1_take 64 = .ok (.isub, 1) := by decide +kernel
theorem dX1_take_65 : decode cX1_take 65 = .ok (.invokestatic 52, 3) := by decide +kernel
theorem dX1_take_68 : decode cX1_take 68 = .ok (.istore_n 3, 1) := by decide +kernel
theorem dX1_take_69 : decode cX1_take 69 = .ok (.aload_n 1, 1) := by decide +kernel
theorem dX1_take_70 : decode cX1_take 70 = .ok (.iload_n 3, 1) := by decide +kernel
theorem dX1_take_71 : decode cX1_take 71 = .ok (.invokevirtual 58, 3) := by decide +kernel
theorem dX1_take_74 : decode cX1_take 74 = .ok (.istore 4, 2) := by decide +kernel
theorem dX1_take_76 : decode cX1_take 76 = .ok (.aload_n 0, 1) := by decide +kernel
theorem dX1_take_77 : decode cX1_take 77 = .ok (.dup, 1) := by decide +kernel
theorem dX1_take_78 : decode cX1_take 78 = .ok (.getfield 27, 3) := by decide +kernel
theorem dX1_take_81 : decode cX1_take 81 = .ok (.iload_n 3, 1) := by decide +kernel
theorem dX1_take_82 : decode cX1_take 82 = .ok (.iadd, 1) := by decide +kernel
theorem dX1_take_83 : decode cX1_take 83 = .ok (.putfield 27, 3) := by decide +kernel
theorem dX1_take_86 : decode cX1_take 86 = .ok (.aload_n 0, 1) := by decide +kernel
theorem dX1_take_87 : decode cX1_take 87 = .ok (.dup, 1) := by decide +kernel
theorem dX1_take_88 : decode cX1_take 88 = .ok (.getfield 30, 3) := by decide +kernel
theorem dX1_take_91 : decode cX1_take 91 = .ok (.iload_n 3, 1) := by decide +kernel
theorem dX1_take_92 : decode cX1_take 92 = .ok (.iadd, 1) := by decide +kernel
theorem dX1_take_93 : decode cX1_take 93 = .ok (.putfield 30, 3) := by decide +kernel
theorem dX1_take_96 : decode cX1_take 96 = .ok (.aload_n 2, 1) := by decide +kernel
theorem dX1_take_97 : decode cX1_take 97 = .ok (.iconst 3, 1) := by decide +kernel
theorem dX1_take_98 : decode cX1_take 98 = .ok (.dup2, 1) := by decide +kernel
theorem dX1_take_99 : decode cX1_take 99 = .ok (.laload, 1) := by decide +kernel
theorem dX1_take_100 : decode cX1_take 100 = .ok (.iload_n 3, 1) := by decide +kernel
theorem dX1_take_101 : decode cX1_take 101 = .ok (.i2l, 1) := by decide +kernel
theorem dX1_take_102 : decode cX1_take 102 = .ok (.ladd, 1) := by decide +kernel
theorem dX1_take_103 : decode cX1_take 103 = .ok (.lastore, 1) := by decide +kernel
theorem dX1_take_104 : decode cX1_take 104 = .ok (.aload_n 2, 1) := by decide +kernel
theorem dX1_take_105 : decode cX1_take 105 = .ok (.bipush 6, 2) := by decide +kernel
theorem dX1_take_107 : decode cX1_take 107 = .ok (.dup2, 1) := by decide +kernel
theorem dX1_take_108 : decode cX1_take 108 = .ok (.laload, 1) := by decide +kernel
theorem dX1_take_109 : decode cX1_take 109 = .ok (.iload 4, 2) := by decide +kernel
theorem dX1_take_111 : decode cX1_take 111 = .ok (.i2l, 1) := by decide +kernel
theorem dX1_take_112 : decode cX1_take 112 = .ok (.ladd, 1) := by decide +kernel
theorem dX1_take_113 : decode cX1_take 113 = .ok (.lastore, 1) := by decide +kernel
theorem dX1_take_114 : decode cX1_take 114 = .ok (.return_, 1) := by decide +kernel
theorem dX1_supply_0 : decode cX1_supply 0 = .ok (.aload_n 0, 1) := by decide +kernel
theorem dX1_supply_1 : decode cX1_supply 1 = .ok (.getfield 24, 3) := by decide +kernel
theorem dX1_supply_4 : decode cX1_supply 4 = .ok (.aload_n 0, 1) := by decide +kernel
theorem dX1_supply_5 : decode cX1_supply 5 = .ok (.getfield 27, 3) := by decide +kernel
theorem dX1_supply_8 : decode cX1_supply 8 = .ok (.invokestatic 52, 3) := by decide +kernel
theorem dX1_supply_11 : decode cX1_supply 11 = .ok (.istore_n 1, 1) := by decide +kernel
theorem dX1_supply_12 : decode cX1_supply 12 = .ok (.aload_n 0, 1) := by decide +kernel
theorem dX1_supply_13 : decode cX1_supply 13 = .ok (.dup, 1) := by decide +kernel
theorem dX1_supply_14 : decode cX1_supply 14 = .ok (.getfield 27, 3) := by decide +kernel
theorem dX1_supply_17 : decode cX1_supply 17 = .ok (.iload_n 1, 1) := by decide +kernel
theorem dX1_supply_18 : decode cX1_supply 18 = .ok (.isub, 1) := by decide +kernel
theorem dX1_supply_19 : decode cX1_supply 19 = .ok (.putfield 27, 3) := by decide +kernel
theorem dX1_supply_22 : decode cX1_supply 22 = .ok (.aload_n 0, 1) := by decide +kernel
theorem dX1_supply_23 : decode cX1_supply 23 = .ok (.dup, 1) := by decide +kernel
theorem dX1_supply_24 : decode cX1_supply 24 = .ok (.getfield 33, 3) := by decide +kernel
theorem dX1_supply_27 : decode cX1_supply 27 = .ok (.aload_n 0, 1) := by decide +kernel
theorem dX1_supply_28 : decode cX1_supply 28 = .ok (.getfield 24, 3) := by decide +kernel
theorem dX1_supply_31 : decode cX1_supply 31 = .ok (.iload_n 1, 1) := by decide +kernel
theorem dX1_supply_32 : decode cX1_supply 32 = .ok (.isub, 1) := by decide +kernel
theorem dX1_supply_33 : decode cX1_supply 33 = .ok (.iadd, 1) := by decide +kernel
theorem dX1_supply_34 : decode cX1_supply 34 = .ok (.putfield 33, 3) := by decide +kernel
theorem dX1_supply_37 : decode cX1_supply 37 = .ok (.return_, 1) := by decide +kernel
theorem dX1_answer_0 : decode cX1_answer 0 = .ok (.iload_n 1, 1) := by decide +kernel
theorem dX1_answer_1 : decode cX1_answer 1 = .ok (.tableswitch 59 0 3 #[31, 36, 41, 46], 31) := by decide +kernel
theorem dX1_answer_32 : decode cX1_answer 32 = .ok (.aload_n 0, 1) := by decide +kernel
theorem dX1_answer_33 : decode cX1_answer 33 = .ok (.getfield 27, 3) := by decide +kernel
theorem dX1_answer_36 : decode cX1_answer 36 = .ok (.ireturn, 1) := by decide +kernel
theorem dX1_answer_37 : decode cX1_answer 37 = .ok (.aload_n 0, 1) := by decide +kernel
theorem dX1_answer_38 : decode cX1_answer 38 = .ok (.getfield 30, 3) := by decide +kernel
theorem dX1_answer_41 : decode cX1_answer 41 = .ok (.ireturn, 1) := by decide +kernel
theorem dX1_answer_42 : decode cX1_answer 42 = .ok (.aload_n 0, 1) := by decide +kernel
theorem dX1_answer_43 : decode cX1_answer 43 = .ok (.getfield 33, 3) := by decide +kernel
theorem dX1_answer_46 : decode cX1_answer 46 = .ok (.ireturn, 1) := by decide +kernel
theorem dX1_answer_47 : decode cX1_answer 47 = .ok (.aload_n 0, 1) := by decide +kernel
theorem dX1_answer_48 : decode cX1_answer 48 = .ok (.getfield 39, 3) := by decide +kernel
theorem dX1_answer_51 : decode cX1_answer 51 = .ok (.ifCond .eq 7, 3) := by decide +kernel
theorem dX1_answer_54 : decode cX1_answer 54 = .ok (.iconst 1, 1) := by decide +kernel
theorem dX1_answer_55 : decode cX1_answer 55 = .ok (.goto 4, 3) := by decide +kernel
theorem dX1_answer_58 : decode cX1_answer 58 = .ok (.iconst 0, 1) := by decide +kernel
theorem dX1_answer_59 : decode cX1_answer 59 = .ok (.ireturn, 1) := by decide +kernel
theorem dX1_answer_60 : decode cX1_answer 60 = .ok (.aload_n 0, 1) := by decide +kernel
theorem dX1_answer_61 : decode cX1_answer 61 = .ok (.getfield 36, 3) := by decide +kernel
theorem dX1_answer_64 : decode cX1_answer 64 = .ok (.ireturn, 1) := by decide +kernel
theorem dX2_init_0 : decode cX2_init 0 = .ok (.aload_n 0, 1) := by decide +kernel
theorem dX2_init_1 : decode cX2_init 1 = .ok (.invokespecial 1, 3) := by decide +kernel
theorem dX2_init_4 : decode cX2_init 4 = .ok (.return_, 1) := by decide +kernel
theorem dX2_begin_0 : decode cX2_begin 0 = .ok (.aload_n 0, 1) := by decide +kernel
theorem dX2_begin_1 : decode cX2_begin 1 = .ok (.iload_n 1, 1) := by decide +kernel
theorem dX2_begin_2 : decode cX2_begin 2 = .ok (.putfield 7, 3) := by decide +kernel
theorem dX2_begin_5 : decode cX2_begin 5 = .ok (.aload_n 0, 1) := by decide +kernel
theorem dX2_begin_6 : decode cX2_begin 6 = .ok (.iconst 0, 1) := by decide +kernel
theorem dX2_begin_7 : decode cX2_begin 7 = .ok (.putfield 13, 3) := by decide +kernel
theorem dX2_begin_10 : decode cX2_begin 10 = .ok (.return_, 1) := by decide +kernel
theorem dX2_salinity_0 : decode cX2_salinity 0 = .ok (.aload_n 0, 1) := by decide +kernel
theorem dX2_salinity_1 : decode cX2_salinity 1 = .ok (.getfield 7, 3) := by decide +kernel
theorem dX2_salinity_4 : decode cX2_salinity 4 = .ok (.ifCond .gt 7, 3) := by decide +kernel
theorem dX2_salinity_7 : decode cX2_salinity 7 = .ok (.iconst 0, 1) := by decide +kernel
theorem dX2_salinity_8 : decode cX2_salinity 8 = .ok (.goto 12, 3) := by decide +kernel
theorem dX2_salinity_11 : decode cX2_salinity 11 = .ok (.aload_n 0, 1) := by decide +kernel
theorem dX2_salinity_12 : decode cX2_salinity 12 = .ok (.getfield 13, 3) := by decide +kernel
theorem dX2_salinity_15 : decode cX2_salinity 15 = .ok (.aload_n 0, 1) := by decide +kernel
theorem dX2_salinity_16 : decode cX2_salinity 16 = .ok (.getfield 7, 3) := by decide +kernel
theorem dX2_salinity_19 : decode cX2_salinity 19 = .ok (.idiv, 1) := by decide +kernel
theorem dX2_salinity_20 : decode cX2_salinity 20 = .ok (.ireturn, 1) := by decide +kernel
theorem dX2_saltWith_0 : decode cX2_saltWith 0 = .ok (.iload_n 1, 1) := by decide +kernel
theorem dX2_saltWith_1 : decode cX2_saltWith 1 = .ok (.aload_n 0, 1) := by decide +kernel
theorem dX2_saltWith_2 : decode cX2_saltWith 2 = .ok (.getfield 13, 3) := by decide +kernel
theorem dX2_saltWith_5 : decode cX2_saltWith 5 = .ok (.aload_n 0, 1) := by decide +kernel
theorem dX2_saltWith_6 : decode cX2_saltWith 6 = .ok (.getfield 7, 3) := by decide +kernel
theorem dX2_saltWith_9 : decode cX2_saltWith 9 = .ok (.invokestatic 16, 3) := by decide +kernel
theorem dX2_saltWith_12 : decode cX2_saltWith 12 = .ok (.ireturn, 1) := by decide +kernel
theorem dX2_giveOut_0 : decode cX2_giveOut 0 = .ok (.iload_n 1, 1) := by decide +kernel
theorem dX2_giveOut_1 : decode cX2_giveOut 1 = .ok (.aload_n 0, 1) := by decide +kernel
theorem dX2_giveOut_2 : decode cX2_giveOut 2 = .ok (.getfield 13, 3) := by decide +kernel
theorem dX2_giveOut_5 : decode cX2_giveOut 5 = .ok (.aload_n 0, 1) := by decide +kernel
theorem dX2_giveOut_6 : decode cX2_giveOut 6 = .ok (.getfield 7, 3) := by decide +kernel
theorem dX2_giveOut_9 : decode cX2_giveOut 9 = .ok (.invokestatic 16, 3) := by decide +kernel
theorem dX2_giveOut_12 : decode cX2_giveOut 12 = .ok (.istore_n 2, 1) := by decide +kernel
theorem dX2_giveOut_13 : decode cX2_giveOut 13 = .ok (.aload_n 0, 1) := by decide +kernel
theorem dX2_giveOut_14 : decode cX2_giveOut 14 = .ok (.dup, 1) := by decide +kernel
theorem dX2_giveOut_15 : decode cX2_giveOut 15 = .ok (.getfield 7, 3) := by decide +kernel
theorem dX2_giveOut_18 : decode cX2_giveOut 18 = .ok (.iload_n 1, 1) := by decide +kernel
theorem dX2_giveOut_19 : decode cX2_giveOut 19 = .ok (.isub, 1) := by decide +kernel
theorem dX2_giveOut_20 : decode cX2_giveOut 20 = .ok (.putfield 7, 3) := by decide +kernel
theorem dX2_giveOut_23 : decode cX2_giveOut 23 = .ok (.aload_n 0, 1) := by decide +kernel
theorem dX2_giveOut_24 : decode cX2_giveOut 24 = .ok (.dup, 1) := by decide +kernel
theorem dX2_giveOut_25 : decode cX2_giveOut 25 = .ok (.getfield 13, 3) := by decide +kernel
theorem dX2_giveOut_28 : decode cX2_giveOut 28 = .ok (.iload_n 2, 1) := by decide +kernel
theorem dX2_giveOut_29 : decode cX2_giveOut 29 = .ok (.isub, 1) := by decide +kernel
theorem dX2_giveOut_30 : decode cX2_giveOut 30 = .ok (.putfield 13, 3) := by decide +kernel
theorem dX2_giveOut_33 : decode cX2_giveOut 33 = .ok (.iload_n 2, 1) := by decide +kernel
theorem dX2_giveOut_34 : decode cX2_giveOut 34 = .ok (.ireturn, 1) := by decide +kernel
theorem dX2_takeIn_0 : decode cX2_takeIn 0 = .ok (.aload_n 0, 1) := by decide +kernel
theorem dX2_takeIn_1 : decode cX2_takeIn 1 = .ok (.dup, 1) := by decide +kernel
theorem dX2_takeIn_2 : decode cX2_takeIn 2 = .ok (.getfield 7, 3) := by decide +kernel
theorem dX2_takeIn_5 : decode cX2_takeIn 5 = .ok (.iload_n 1, 1) := by decide +kernel
theorem dX2_takeIn_6 : decode cX2_takeIn 6 = .ok (.iadd, 1) := by decide +kernel
theorem dX2_takeIn_7 : decode cX2_takeIn 7 = .ok (.putfield 7, 3) := by decide +kernel
theorem dX2_takeIn_10 : decode cX2_takeIn 10 = .ok (.aload_n 0, 1) := by decide +kernel
theorem dX2_takeIn_11 : decode cX2_takeIn 11 = .ok (.dup, 1) := by decide +kernel
theorem dX2_takeIn_12 : decode cX2_takeIn 12 = .ok (.getfield 13, 3) := by decide +kernel
theorem dX2_takeIn_15 : decode cX2_takeIn 15 = .ok (.iload_n 2, 1) := by decide +kernel
theorem dX2_takeIn_16 : decode cX2_takeIn 16 = .ok (.iadd, 1) := by decide +kernel
theorem dX2_takeIn_17 : decode cX2_takeIn 17 = .ok (.putfield 13, 3) := by decide +kernel
theorem dX2_takeIn_20 : decode cX2_takeIn 20 = .ok (.return_, 1) := by decide +kernel
theorem dX3_init_0 : decode cX3_init 0 = .ok (.aload_n 0, 1) := by decide +kernel
theorem dX3_init_1 : decode cX3_init 1 = .ok (.invokespecial 3, 3) := by decide +kernel
theorem dX3_init_4 : decode cX3_init 4 = .ok (.aload_n 0, 1) := by decide +kernel
theorem dX3_init_5 : decode cX3_init 5 = .ok (.new 9, 3) := by decide +kernel
theorem dX3_init_8 : decode cX3_init 8 = .ok (.dup, 1) := by decide +kernel
theorem dX3_init_9 : decode cX3_init 9 = .ok (.invokespecial 11, 3) := by decide +kernel
theorem dX3_init_12 : decode cX3_init 12 = .ok (.putfield 12, 3) := by decide +kernel
theorem dX3_init_15 : decode cX3_init 15 = .ok (.aload_n 0, 1) := by decide +kernel
theorem dX3_init_16 : decode cX3_init 16 = .ok (.new 18, 3) := by decide +kernel
theorem dX3_init_19 : decode cX3_init 19 = .ok (.dup, 1) := by decide +kernel
theorem dX3_init_20 : decode cX3_init 20 = .ok (.invokespecial 20, 3) := by decide +kernel
theorem dX3_init_23 : decode cX3_init 23 = .ok (.putfield 21, 3) := by decide +kernel
theorem dX3_init_26 : decode cX3_init 26 = .ok (.aload_n 0, 1) := by decide +kernel
theorem dX3_init_27 : decode cX3_init 27 = .ok (.bipush 8, 2) := by decide +kernel
theorem dX3_init_29 : decode cX3_init 29 = .ok (.anewarray 25, 3) := by decide +kernel
theorem dX3_init_32 : decode cX3_init 32 = .ok (.putfield 27, 3) := by decide +kernel
theorem dX3_init_35 : decode cX3_init 35 = .ok (.aload_n 0, 1) := by decide +kernel
theorem dX3_init_36 : decode cX3_init 36 = .ok (.bipush 6, 2) := by decide +kernel
theorem dX3_init_38 : decode cX3_init 38 = .ok (.anewarray 31, 3) := by decide +kernel
theorem dX3_init_41 : decode cX3_init 41 = .ok (.putfield 33, 3) := by decide +kernel
theorem dX3_init_44 : decode cX3_init 44 = .ok (.aload_n 0, 1) := by decide +kernel
theorem dX3_init_45 : decode cX3_init 45 = .ok (.bipush 10, 2) := by decide +kernel
theorem dX3_init_47 : decode cX3_init 47 = .ok (.newarray .long, 2) := by decide +kernel
theorem dX3_init_49 : decode cX3_init 49 = .ok (.putfield 37, 3) := by decide +kernel
theorem dX3_init_52 : decode cX3_init 52 = .ok (.iconst 0, 1) := by decide +kernel
theorem dX3_init_53 : decode cX3_init 53 = .ok (.istore_n 1, 1) := by decide +kernel
theorem dX3_init_54 : decode cX3_init 54 = .ok (.iload_n 1, 1) := by decide +kernel
theorem dX3_init_55 : decode cX3_init 55 = .ok (.aload_n 0, 1) := by decide +kernel
theorem dX3_init_56 : decode cX3_init 56 = .ok (.getfield 27, 3) := by decide +kernel
theorem dX3_init_59 : decode cX3_init 59 = .ok (.arraylength, 1) := by decide +kernel
theorem dX3_init_60 : decode cX3_init 60 = .ok (.if_icmp .ge 22, 3) := by decide +kernel
theorem dX3_init_63 : decode cX3_init 63 = .ok (.aload_n 0, 1) := by decide +kernel
theorem dX3_init_64 : decode cX3_init 64 = .ok (.getfield 27, 3) := by decide +kernel
theorem dX3_init_67 : decode cX3_init 67 = .ok (.iload_n 1, 1) := by decide +kernel
theorem dX3_init_68 : decode cX3_init 68 = .ok (.new 25, 3) := by decide +kernel
theorem dX3_init_71 : decode cX3_init 71 = .ok (.dup, 1) := by decide +kernel
theorem dX3_init_72 : decode cX3_init 72 = .ok (.invokespecial 41, 3) := by decide +kernel
theorem dX3_init_75 : decode cX3_init 75 = .ok (.aastore, 1) := by decide +kernel
theorem dX3_init_76 : decode cX3_init 76 = .ok (.iinc 1 1, 3) := by decide +kernel
theorem dX3_init_79 : decode cX3_init 79 = .ok (.goto (-25), 3) := by decide +kernel
theorem dX3_init_82 : decode cX3_init 82 = .ok (.iconst 0, 1) := by decide +kernel
theorem dX3_init_83 : decode cX3_init 83 = .ok (.istore_n 1, 1) := by decide +kernel
theorem dX3_init_84 : decode cX3_init 84 = .ok (.iload_n 1, 1) := by decide +kernel
theorem dX3_init_85 : decode cX3_init 85 = .ok (.aload_n 0, 1) := by decide +kernel
theorem dX3_init_86 : decode cX3_init 86 = .ok (.getfield 33, 3) := by decide +kernel
theorem dX3_init_89 : decode cX3_init 89 = .ok (.arraylength, 1) := by decide +kernel
theorem dX3_init_90 : decode cX3_init 90 = .ok (.if_icmp .ge 22, 3) := by decide +kernel
theorem dX3_init_93 : decode cX3_init 93 = .ok (.aload_n 0, 1) := by decide +kernel
theorem dX3_init_94 : decode cX3_init 94 = .ok (.getfield 33, 3) := by decide +kernel
theorem dX3_init_97 : decode cX3_init 97 = .ok (.iload_n 1, 1) := by decide +kernel
theorem dX3_init_98 : decode cX3_init 98 = .ok (.new 31, 3) := by decide +kernel
theorem dX3_init_101 : decode cX3_init 101 = .ok (.dup, 1) := by decide +kernel
theorem dX3_init_102 : decode cX3_init 102 = .ok (.invokespecial 42, 3) := by decide +kernel
theorem dX3_init_105 : decode cX3_init 105 = .ok (.aastore, 1) := by decide +kernel
theorem dX3_init_106 : decode cX3_init 106 = .ok (.iinc 1 1, 3) := by decide +kernel
theorem dX3_init_109 : decode cX3_init 109 = .ok (.goto (-25), 3) := by decide +kernel
theorem dX3_init_112 : decode cX3_init 112 = .ok (.return_, 1) := by decide +kernel
theorem dX3_begin_0 : decode cX3_begin 0 = .ok (.aload_n 0, 1) := by decide +kernel
theorem dX3_begin_1 : decode cX3_begin 1 = .ok (.getfield 12, 3) := by decide +kernel
theorem dX3_begin_4 : decode cX3_begin 4 = .ok (.invokevirtual 43, 3) := by decide +kernel
theorem dX3_begin_7 : decode cX3_begin 7 = .ok (.aload_n 0, 1) := by decide +kernel
theorem dX3_begin_8 : decode cX3_begin 8 = .ok (.getfield 21, 3) := by decide +kernel
theorem dX3_begin_11 : decode cX3_begin 11 = .ok (.invokevirtual 46, 3) := by decide +kernel
theorem dX3_begin_14 : decode cX3_begin 14 = .ok (.iconst 0, 1) := by decide +kernel
theorem dX3_begin_15 : decode cX3_begin 15 = .ok (.istore_n 1, 1) := by decide +kernel
theorem dX3_begin_16 : decode cX3_begin 16 = .ok (.iload_n 1, 1) := by decide +kernel
theorem dX3_begin_17 : decode cX3_begin 17 = .ok (.aload_n 0, 1) := by decide +kernel
theorem dX3_begin_18 : decode cX3_begin 18 = .ok (.getfield 37, 3) := by decide +kernel
theorem dX3_begin_21 : decode cX3_begin 21 = .ok (.arraylength, 1) := by decide +kernel
theorem dX3_begin_22 : decode cX3_begin 22 = .ok (.if_icmp .ge 16, 3) := by decide +kernel
theorem dX3_begin_25 : decode cX3_begin 25 = .ok (.aload_n 0, 1) := by decide +kernel
theorem dX3_begin_26 : decode cX3_begin 26 = .ok (.getfield 37, 3) := by decide +kernel
theorem dX3_begin_29 : decode cX3_begin 29 = .ok (.iload_n 1, 1) := by decide +kernel
theorem dX3_begin_30 : decode cX3_begin 30 = .ok (.lconst 0, 1) := by decide +kernel
theorem dX3_begin_31 : decode cX3_begin 31 = .ok (.lastore, 1) := by decide +kernel
theorem dX3_begin_32 : decode cX3_begin 32 = .ok (.iinc 1 1, 3) := by decide +kernel
theorem dX3_begin_35 : decode cX3_begin 35 = .ok (.goto (-19), 3) := by decide +kernel
theorem dX3_begin_38 : decode cX3_begin 38 = .ok (.aload_n 0, 1) := by decide +kernel
theorem dX3_begin_39 : decode cX3_begin 39 = .ok (.iconst 0, 1) := by decide +kernel
theorem dX3_begin_40 : decode cX3_begin 40 = .ok (.putfield 47, 3) := by decide +kernel
theorem dX3_begin_43 : decode cX3_begin 43 = .ok (.aload_n 0, 1) := by decide +kernel
theorem dX3_begin_44 : decode cX3_begin 44 = .ok (.iconst 0, 1) := by decide +kernel
theorem dX3_begin_45 : decode cX3_begin 45 = .ok (.putfield 51, 3) := by decide +kernel
theorem dX3_begin_48 : decode cX3_begin 48 = .ok (.aload_n 0, 1) := by decide +kernel
theorem dX3_begin_49 : decode cX3_begin 49 = .ok (.iconst 0, 1) := by decide +kernel
theorem dX3_begin_50 : decode cX3_begin 50 = .ok (.putfield 54, 3) := by decide +kernel
theorem dX3_begin_53 : decode cX3_begin 53 = .ok (.aload_n 0, 1) := by decide +kernel
theorem dX3_begin_54 : decode cX3_begin 54 = .ok (.iconst 0, 1) := by decide +kernel
theorem dX3_begin_55 : decode cX3_begin 55 = .ok (.putfield 57, 3) := by decide +kernel
theorem dX3_begin_58 : decode cX3_begin 58 = .ok (.aload_n 0, 1) := by decide +kernel
theorem dX3_begin_59 : decode cX3_begin 59 = .ok (.iconst 0, 1) := by decide +kernel
theorem dX3_begin_60 : decode cX3_begin 60 = .ok (.putfield 60, 3) := by decide +kernel
theorem dX3_begin_63 : decode cX3_begin 63 = .ok (.return_, 1) := by decide +kernel
theorem dX3_hasSection_0 : decode cX3_hasSection 0 = .ok (.iload_n 1, 1) := by decide +kernel
theorem dX3_hasSection_1 : decode cX3_hasSection 1 = .ok (.ifCond .lt 15, 3) := by decide +kernel
theorem dX3_hasSection_4 : decode cX3_hasSection 4 = .ok (.iload_n 1, 1) := by decide +kernel
theorem dX3_hasSection_5 : decode cX3_hasSection 5 = .ok (.aload_n 0, 1) := by decide +kernel
theorem dX3_hasSection_6 : decode cX3_hasSection 6 = .ok (.getfield 47, 3) := by decide +kernel
theorem dX3_hasSection_9 : decode cX3_hasSection 9 = .ok (.if_icmp .ge 7, 3) := by decide +kernel
theorem dX3_hasSection_12 : decode cX3_hasSection 12 = .ok (.iconst 1, 1) := by decide +kernel
theorem dX3_hasSection_13 : decode cX3_hasSection 13 = .ok (.goto 4, 3) := by decide +kernel
theorem dX3_hasSection_16 : decode cX3_hasSection 16 = .ok (.iconst 0, 1) := by decide +kernel
theorem dX3_hasSection_17 : decode cX3_hasSection 17 = .ok (.ireturn, 1) := by decide +kernel
theorem dX3_hear_0 : decode cX3_hear 0 = .ok (.iload_n 1, 1) := by decide +kernel
theorem dX3_hear_1 : decode cX3_hear 1 = .ok (.tableswitch 172 0 8 #[51, 67, 78, 92, 105, 124, 137, 152, 161], 51) := by decide +kernel
theorem dX3_hear_52 : decode cX3_hear 52 = .ok (.aload_n 0, 1) := by decide +kernel
theorem dX3_hear_53 : decode cX3_hear 53 = .ok (.getfield 12, 3) := by decide +kernel
theorem dX3_hear_56 : decode cX3_hear 56 = .ok (.iload_n 2, 1) := by decide +kernel
theorem dX3_hear_57 : decode cX3_hear 57 = .ok (.iload_n 3, 1) := by decide +kernel
theorem dX3_hear_58 : decode cX3_hear 58 = .ok (.iload 4, 2) := by decide +kernel
theorem dX3_hear_60 : decode cX3_hear 60 = .ok (.iload 5, 2) := by decide +kernel
theorem dX3_hear_62 : decode cX3_hear 62 = .ok (.invokevirtual 63, 3) := by decide +kernel
theorem dX3_hear_65 : decode cX3_hear 65 = .ok (.goto 108, 3) := by decide +kernel
theorem dX3_hear_68 : decode cX3_hear 68 = .ok (.aload_n 0, 1) := by decide +kernel
theorem dX3_hear_69 : decode cX3_hear 69 = .ok (.getfield 12, 3) := by decide +kernel
theorem dX3_hear_72 : decode cX3_hear 72 = .ok (.iload_n 2, 1) := by decide +kernel
theorem dX3_hear_73 : decode cX3_hear 73 = .ok (.putfield 67, 3) := by decide +kernel
theorem dX3_hear_76 : decode cX3_hear 76 = .ok (.goto 97, 3) := by decide +kernel
theorem dX3_hear_79 : decode cX3_hear 79 = .ok (.aload_n 0, 1) := by decide +kernel
theorem dX3_hear_80 : decode cX3_hear 80 = .ok (.getfield 12, 3) := by decide +kernel
theorem dX3_hear_83 : decode cX3_hear 83 = .ok (.iload_n 2, 1) := by decide +kernel
theorem dX3_hear_84 : decode cX3_hear 84 = .ok (.iload_n 3, 1) := by decide +kernel
theorem dX3_hear_85 : decode cX3_hear 85 = .ok (.iload 4, 2) := by decide +kernel
theorem dX3_hear_87 : decode cX3_hear 87 = .ok (.invokevirtual 70, 3) := by decide +kernel
theorem dX3_hear_90 : decode cX3_hear 90 = .ok (.goto 83, 3) := by decide +kernel
theorem dX3_hear_93 : decode cX3_hear 93 = .ok (.aload_n 0, 1) := by decide +kernel
theorem dX3_hear_94 : decode cX3_hear 94 = .ok (.iload_n 2, 1) := by decide +kernel
theorem dX3_hear_95 : decode cX3_hear 95 = .ok (.putfield 54, 3) := by decide +kernel
theorem dX3_hear_98 : decode cX3_hear 98 = .ok (.aload_n 0, 1) := by decide +kernel
theorem dX3_hear_99 : decode cX3_hear 99 = .ok (.iload_n 3, 1) := by decide +kernel
theorem dX3_hear_100 : decode cX3_hear 100 = .ok (.putfield 57, 3) := by decide +kernel
theorem dX3_hear_103 : decode cX3_hear 103 = .ok (.goto 70, 3) := by decide +kernel
theorem dX3_hear_106 : decode cX3_hear 106 = .ok (.aload_n 0, 1) := by decide +kernel
theorem dX3_hear_107 : decode cX3_hear 107 = .ok (.getfield 21, 3) := by decide +kernel
theorem dX3_hear_110 : decode cX3_hear 110 = .ok (.iload_n 2, 1) := by decide +kernel
theorem dX3_hear_111 : decode cX3_hear 111 = .ok (.putfield 74, 3) := by decide +kernel
theorem dX3_hear_114 : decode cX3_hear 114 = .ok (.aload_n 0, 1) := by decide +kernel
theorem dX3_hear_115 : decode cX3_hear 115 = .ok (.getfield 21, 3) := by decide +kernel
theorem dX3_hear_118 : decode cX3_hear 118 = .ok (.iload_n 3, 1) := by decide +kernel
theorem dX3_hear_119 : decode cX3_hear 119 = .ok (.putfield 77, 3) := by decide +kernel
theorem dX3_hear_122 : decode cX3_hear 122 = .ok (.goto 51, 3) := by decide +kernel
theorem dX3_hear_125 : decode cX3_hear 125 = .ok (.aload_n 0, 1) := by decide +kernel
theorem dX3_hear_126 : decode cX3_hear 126 = .ok (.iload_n 2, 1) := by decide +kernel
theorem dX3_hear_127 : decode cX3_hear 127 = .ok (.iload_n 3, 1) := by decide +kernel
theorem dX3_hear_128 : decode cX3_hear 128 = .ok (.iload 4, 2) := by decide +kernel
theorem dX3_hear_130 : decode cX3_hear 130 = .ok (.iload 5, 2) := by decide +kernel
theorem dX3_hear_132 : decode cX3_hear 132 = .ok (.invokevirtual 80, 3) := by decide +kernel
theorem dX3_hear_135 : decode cX3_hear 135 = .ok (.goto 38, 3) := by decide +kernel
theorem dX3_hear_138 : decode cX3_hear 138 = .ok (.aload_n 0, 1) := by decide +kernel
theorem dX3_hear_139 : decode cX3_hear 139 = .ok (.iload_n 2, 1) := by decide +kernel
theorem dX3_hear_140 : decode cX3_hear 140 = .ok (.iload_n 3, 1) := by decide +kernel
theorem dX3_hear_141 : decode cX3_hear 141 = .ok (.iload 4, 2) := by decide +kernel
theorem dX3_hear_143 : decode cX3_hear 143 = .ok (.iload 5, 2) := by decide +kernel
theorem dX3_hear_145 : decode cX3_hear 145 = .ok (.iload 6, 2) := by decide +kernel
theorem dX3_hear_147 : decode cX3_hear 147 = .ok (.invokevirtual 83, 3) := by decide +kernel
theorem dX3_hear_150 : decode cX3_hear 150 = .ok (.goto 23, 3) := by decide +kernel
theorem dX3_hear_153 : decode cX3_hear 153 = .ok (.aload_n 0, 1) := by decide +kernel
theorem dX3_hear_154 : decode cX3_hear 154 = .ok (.iload_n 2, 1) := by decide +kernel
theorem dX3_hear_155 : decode cX3_hear 155 = .ok (.iload_n 3, 1) := by decide +kernel
theorem dX3_hear_156 : decode cX3_hear 156 = .ok (.invokevirtual 87, 3) := by decide +kernel
theorem dX3_hear_159 : decode cX3_hear 159 = .ok (.goto 14, 3) := by decide +kernel
theorem dX3_hear_162 : decode cX3_hear 162 = .ok (.aload_n 0, 1) := by decide +kernel
theorem dX3_hear_163 : decode cX3_hear 163 = .ok (.iload_n 2, 1) := by decide +kernel
theorem dX3_hear_164 : decode cX3_hear 164 = .ok (.iload_n 3, 1) := by decide +kernel
theorem dX3_hear_165 : decode cX3_hear 165 = .ok (.iload 4, 2) := by decide +kernel
theorem dX3_hear_167 : decode cX3_hear 167 = .ok (.invokevirtual 91, 3) := by decide +kernel
theorem dX3_hear_170 : decode cX3_hear 170 = .ok (.goto 3, 3) := by decide +kernel
theorem dX3_hear_173 : decode cX3_hear 173 = .ok (.return_, 1) := by decide +kernel
theorem dX3_addSection_0 : decode cX3_addSection 0 = .ok (.aload_n 0, 1) := by decide +kernel
theorem dX3_addSection_1 : decode cX3_addSection 1 = .ok (.getfield 47, 3) := by decide +kernel
theorem dX3_addSection_4 : decode cX3_addSection 4 = .ok (.aload_n 0, 1) := by decide +kernel
theorem dX3_addSection_5 : decode cX3_addSection 5 = .ok (.getfield 27, 3) := by decide +kernel
theorem dX3_addSection_8 : decode cX3_addSection 8 = .ok (.arraylength, 1) := by decide +kernel
theorem dX3_addSection_9 : decode cX3_addSection 9 = .ok (.if_icmp .ge 30, 3) := by decide +kernel
theorem dX3_addSection_12 : decode cX3_addSection 12 = .ok (.aload_n 0, 1) := by decide +kernel
theorem dX3_addSection_13 : decode cX3_addSection 13 = .ok (.getfield 27, 3) := by decide +kernel
theorem dX3_addSection_16 : decode cX3_addSection 16 = .ok (.aload_n 0, 1) := by decide +kernel
theorem dX3_addSection_17 : decode cX3_addSection 17 = .ok (.getfield 47, 3) := by decide +kernel
theorem dX3_addSection_20 : decode cX3_addSection 20 = .ok (.aaload, 1) := by decide +kernel
theorem dX3_addSection_21 : decode cX3_addSection 21 = .ok (.iload_n 1, 1) := by decide +kernel
theorem dX3_addSection_22 : decode cX3_addSection 22 = .ok (.iload_n 2, 1) := by decide +kernel
theorem dX3_addSection_23 : decode cX3_addSection 23 = .ok (.iload_n 3, 1) := by decide +kernel
theorem dX3_addSection_24 : decode cX3_addSection 24 = .ok (.iload 4, 2) := by decide +kernel
theorem dX3_addSection_26 : decode cX3_addSection 26 = .ok (.invokevirtual 94, 3) := by decide +kernel
theorem dX3_addSection_29 : decode cX3_addSection 29 = .ok (.aload_n 0, 1) := by decide +kernel
theorem dX3_addSection_30 : decode cX3_addSection 30 = .ok (.dup, 1) := by decide +kernel
theorem dX3_addSection_31 : decode cX3_addSection 31 = .ok (.getfield 47, 3) := by decide +kernel
theorem dX3_addSection_34 : decode cX3_addSection 34 = .ok (.iconst 1, 1) := by decide +kernel
theorem dX3_addSection_35 : decode cX3_addSection 35 = .ok (.iadd, 1) := by decide +kernel
theorem dX3_addSection_36 : decode cX3_addSection 36 = .ok (.putfield 47, 3) := by decide +kernel
theorem dX3_addSection_39 : decode cX3_addSection 39 = .ok (.return_, 1) := by decide +kernel
theorem dX3_addIntake_0 : decode cX3_addIntake 0 = .ok (.aload_n 0, 1) := by decide +kernel
theorem dX3_addIntake_1 : decode cX3_addIntake 1 = .ok (.getfield 51, 3) := by decide +kernel
theorem dX3_addIntake_4 : decode cX3_addIntake 4 = .ok (.aload_n 0, 1) := by decide +kernel
theorem dX3_addIntake_5 : decode cX3_addIntake 5 = .ok (.getfield 33, 3) := by decide +kernel
theorem dX3_addIntake_8 : decode cX3_addIntake 8 = .ok (.arraylength, 1) := by decide +kernel
theorem dX3_addIntake_9 : decode cX3_addIntake 9 = .ok (.if_icmp .ge 32, 3) := by decide +kernel
theorem dX3_addIntake_12 : decode cX3_addIntake 12 = .ok (.aload_n 0, 1) := by decide +kernel
theorem dX3_addIntake_13 : decode cX3_addIntake 13 = .ok (.getfield 33, 3) := by decide +kernel
theorem dX3_addIntake_16 : decode cX3_addIntake 16 = .ok (.aload_n 0, 1) := by decide +kernel
theorem dX3_addIntake_17 : decode cX3_addIntake 17 = .ok (.getfield 51, 3) := by decide +kernel
theorem dX3_addIntake_20 : decode cX3_addIntake 20 = .ok (.aaload, 1) := by decide +kernel
theorem dX3_addIntake_21 : decode cX3_addIntake 21 = .ok (.iload_n 1, 1) := by decide +kernel
theorem dX3_addIntake_22 : decode cX3_addIntake 22 = .ok (.iload_n 2, 1) := by decide +kernel
theorem dX3_addIntake_23 : decode cX3_addIntake 23 = .ok (.iload_n 3, 1) := by decide +kernel
theorem dX3_addIntake_24 : decode cX3_addIntake 24 = .ok (.iload 4, 2) := by decide +kernel
theorem dX3_addIntake_26 : decode cX3_addIntake 26 = .ok (.iload 5, 2) := by decide +kernel
theorem dX3_addIntake_28 : decode cX3_addIntake 28 = .ok (.invokevirtual 96, 3) := by decide +kernel
theorem dX3_addIntake_31 : decode cX3_addIntake 31 = .ok (.aload_n 0, 1) := by decide +kernel
theorem dX3_addIntake_32 : decode cX3_addIntake 32 = .ok (.dup, 1) := by decide +kernel
theorem dX3_addIntake_33 : decode cX3_addIntake 33 = .ok (.getfield 51, 3) := by decide +kernel
theorem dX3_addIntake_36 : decode cX3_addIntake 36 = .ok (.iconst 1, 1) := by decide +kernel
theorem dX3_addIntake_37 : decode cX3_addIntake 37 = .ok (.iadd, 1) := by decide +kernel
theorem dX3_addIntake_38 : decode cX3_addIntake 38 = .ok (.putfield 51, 3) := by decide +kernel
theorem dX3_addIntake_41 : decode cX3_addIntake 41 = .ok (.return_, 1) := by decide +kernel
theorem dX3_setPermit_0 : decode cX3_setPermit 0 = .ok (.aload_n 0, 1) := by decide +kernel
theorem dX3_setPermit_1 : decode cX3_setPermit 1 = .ok (.iload_n 1, 1) := by decide +kernel
theorem dX3_setPermit_2 : decode cX3_setPermit 2 = .ok (.invokevirtual 98, 3) := by decide +kernel
theorem dX3_setPermit_5 : decode cX3_setPermit 5 = .ok (.ifCond .eq 13, 3) := by decide +kernel
theorem dX3_setPermit_8 : decode cX3_setPermit 8 = .ok (.aload_n 0, 1) := by decide +kernel
theorem dX3_setPermit_9 : decode cX3_setPermit 9 = .ok (.getfield 27, 3) := by decide +kernel
theorem dX3_setPermit_12 : decode cX3_setPermit 12 = .ok (.iload_n 1, 1) := by decide +kernel
theorem dX3_setPermit_13 : decode cX3_setPermit 13 = .ok (.aaload, 1) := by decide +kernel
theorem dX3_setPermit_14 : decode cX3_setPermit 14 = .ok (.iload_n 2, 1) := by decide +kernel
theorem dX3_setPermit_15 : decode cX3_setPermit 15 = .ok (.putfield 102, 3) := by decide +kernel
theorem dX3_setPermit_18 : decode cX3_setPermit 18 = .ok (.return_, 1) := by decide +kernel
theorem dX3_moveMud_0 : decode cX3_moveMud 0 = .ok (.aload_n 0, 1) := by decide +kernel
theorem dX3_moveMud_1 : decode cX3_moveMud 1 = .ok (.iload_n 1, 1) := by decide +kernel
theorem dX3_moveMud_2 : decode cX3_moveMud 2 = .ok (.invokevirtual 98, 3) := by decide +kernel
theorem dX3_moveMud_5 : decode cX3_moveMud 5 = .ok (.ifCond .ne 4, 3) := by decide +kernel
theorem dX3_moveMud_8 : decode cX3_moveMud 8 = .ok (.return_, 1) := by decide +kernel
theorem dX3_moveMud_9 : decode cX3_moveMud 9 = .ok (.aload_n 0, 1) := by decide +kernel
theorem dX3_moveMud_10 : decode cX3_moveMud 10 = .ok (.getfield 27, 3) := by decide +kernel
theorem dX3_moveMud_13 : decode cX3_moveMud 13 = .ok (.iload_n 1, 1) := by decide +kernel
theorem dX3_moveMud_14 : decode cX3_moveMud 14 = .ok (.aaload, 1) := by decide +kernel
theorem dX3_moveMud_15 : decode cX3_moveMud 15 = .ok (.dup, 1) := by decide +kernel
theorem dX3_moveMud_16 : decode cX3_moveMud 16 = .ok (.getfield 102, 3) := by decide +kernel
theorem dX3_moveMud_19 : decode cX3_moveMud 19 = .ok (.iload_n 2, 1) := by decide +kernel
theorem dX3_moveMud_20 : decode cX3_moveMud 20 = .ok (.isub, 1) := by decide +kernel
theorem dX3_moveMud_21 : decode cX3_moveMud 21 = .ok (.putfield 102, 3) := by decide +kernel
theorem dX3_moveMud_24 : decode cX3_moveMud 24 = .ok (.aload_n 0, 1) := by decide +kernel
theorem dX3_moveMud_25 : decode cX3_moveMud 25 = .ok (.getfield 27, 3) := by decide +kernel
theorem dX3_moveMud_28 : decode cX3_moveMud 28 = .ok (.iload_n 1, 1) := by decide +kernel
theorem dX3_moveMud_29 : decode cX3_moveMud 29 = .ok (.aaload, 1) := by decide +kernel
theorem dX3_moveMud_30 : decode cX3_moveMud 30 = .ok (.dup, 1) := by decide +kernel
theorem dX3_moveMud_31 : decode cX3_moveMud 31 = .ok (.getfield 105, 3) := by decide +kernel
theorem dX3_moveMud_34 : decode cX3_moveMud 34 = .ok (.iload_n 2, 1) := by decide +kernel
theorem dX3_moveMud_35 : decode cX3_moveMud 35 = .ok (.isub, 1) := by decide +kernel
theorem dX3_moveMud_36 : decode cX3_moveMud 36 = .ok (.putfield 105, 3) := by decide +kernel
theorem dX3_moveMud_39 : decode cX3_moveMud 39 = .ok (.aload_n 0, 1) := by decide +kernel
theorem dX3_moveMud_40 : decode cX3_moveMud 40 = .ok (.iload_n 3, 1) := by decide +kernel
theorem dX3_moveMud_41 : decode cX3_moveMud 41 = .ok (.invokevirtual 98, 3) := by decide +kernel
theorem dX3_moveMud_44 : decode cX3_moveMud 44 = .ok (.ifCond .eq 21, 3) := by decide +kernel
theorem dX3_moveMud_47 : decode cX3_moveMud 47 = .ok (.aload_n 0, 1) := by decide +kernel
theorem dX3_moveMud_48 : decode cX3_moveMud 48 = .ok (.getfield 27, 3) := by decide +kernel
theorem dX3_moveMud_51 : decode cX3_moveMud 51 = .ok (.iload_n 3, 1) := by decide +kernel
theorem dX3_moveMud_52 : decode cX3_moveMud 52 = .ok (.aaload, 1) := by decide +kernel
theorem dX3_moveMud_53 : decode cX3_moveMud 53 = .ok (.dup, 1) := by decide +kernel
theorem dX3_moveMud_54 : decode cX3_moveMud 54 = .ok (.getfield 108, 3) := by decide +kernel
theorem dX3_moveMud_57 : decode cX3_moveMud 57 = .ok (.iload_n 2, 1) := by decide +kernel
theorem dX3_moveMud_58 : decode cX3_moveMud 58 = .ok (.iadd, 1) := by decide +kernel
theorem dX3_moveMud_59 : decode cX3_moveMud 59 = .ok (.putfield 108, 3) := by decide +kernel
theorem dX3_moveMud_62 : decode cX3_moveMud 62 = .ok (.goto 15, 3) := by decide +kernel
theorem dX3_moveMud_65 : decode cX3_moveMud 65 = .ok (.aload_n 0, 1) := by decide +kernel
theorem dX3_moveMud_66 : decode cX3_moveMud 66 = .ok (.getfield 37, 3) := by decide +kernel
theorem dX3_moveMud_69 : decode cX3_moveMud 69 = .ok (.bipush 9, 2) := by decide +kernel
theorem dX3_moveMud_71 : decode cX3_moveMud 71 = .ok (.dup2, 1) := by decide +kernel
theorem dX3_moveMud_72 : decode cX3_moveMud 72 = .ok (.laload, 1) := by decide +kernel
theorem dX3_moveMud_73 : decode cX3_moveMud 73 = .ok (.iload_n 2, 1) := by decide +kernel
theorem dX3_moveMud_74 : decode cX3_moveMud 74 = .ok (.i2l, 1) := by decide +kernel
theorem dX3_moveMud_75 : decode cX3_moveMud 75 = .ok (.ladd, 1) := by decide +kernel
theorem dX3_moveMud_76 : decode cX3_moveMud 76 = .ok (.lastore, 1) := by decide +kernel
theorem dX3_moveMud_77 : decode cX3_moveMud 77 = .ok (.return_, 1) := by decide +kernel
theorem dX3_seaOf_0 : decode cX3_seaOf 0 = .ok (.iload_n 1, 1) := by decide +kernel
theorem dX3_seaOf_1 : decode cX3_seaOf 1 = .ok (.ifCond .lt 28, 3) := by decide +kernel
theorem dX3_seaOf_4 : decode cX3_seaOf 4 = .ok (.iload_n 1, 1) := by decide +kernel
theorem dX3_seaOf_5 : decode cX3_seaOf 5 = .ok (.aload_n 0, 1) := by decide +kernel
theorem dX3_seaOf_6 : decode cX3_seaOf 6 = .ok (.getfield 60, 3) := by decide +kernel
theorem dX3_seaOf_9 : decode cX3_seaOf 9 = .ok (.if_icmp .ge 20, 3) := by decide +kernel
theorem dX3_seaOf_12 : decode cX3_seaOf 12 = .ok (.iload_n 1, 1) := by decide +kernel
theorem dX3_seaOf_13 : decode cX3_seaOf 13 = .ok (.sipush 1000, 3) := by decide +kernel
theorem dX3_seaOf_16 : decode cX3_seaOf 16 = .ok (.if_icmp .ge 13, 3) := by decide +kernel
theorem dX3_seaOf_19 : decode cX3_seaOf 19 = .ok (.aload_n 0, 1) := by decide +kernel
theorem dX3_seaOf_20 : decode cX3_seaOf 20 = .ok (.getfield 12, 3) := by decide +kernel
theorem dX3_seaOf_23 : decode cX3_seaOf 23 = .ok (.getfield 111, 3) := by decide +kernel
theorem dX3_seaOf_26 : decode cX3_seaOf 26 = .ok (.iload_n 1, 1) := by decide +kernel
theorem dX3_seaOf_27 : decode cX3_seaOf 27 = .ok (.iaload, 1) := by decide +kernel
theorem dX3_seaOf_28 : decode cX3_seaOf 28 = .ok (.ireturn, 1) := by decide +kernel
theorem dX3_seaOf_29 : decode cX3_seaOf 29 = .ok (.aload_n 0, 1) := by decide +kernel
theorem dX3_seaOf_30 : decode cX3_seaOf 30 = .ok (.getfield 12, 3) := by decide +kernel
theorem dX3_seaOf_33 : decode cX3_seaOf 33 = .ok (.iload_n 1, 1) := by decide +kernel
theorem dX3_seaOf_34 : decode cX3_seaOf 34 = .ok (.invokevirtual 115, 3) := by decide +kernel
theorem dX3_seaOf_37 : decode cX3_seaOf 37 = .ok (.ireturn, 1) := by decide +kernel
theorem dX3_firstHourAt_0 : decode cX3_firstHourAt 0 = .ok (.iconst 0, 1) := by decide +kernel
theorem dX3_firstHourAt_1 : decode cX3_firstHourAt 1 = .ok (.istore_n 3, 1) := by decide +kernel
theorem dX3_firstHourAt_2 : decode cX3_firstHourAt 2 = .ok (.aload_n 0, 1) := by decide +kernel
theorem dX3_firstHourAt_3 : decode cX3_firstHourAt 3 = .ok (.getfield 60, 3) := by decide +kernel
theorem dX3_firstHourAt_6 : decode cX3_firstHourAt 6 = .ok (.istore 4, 2) := by decide +kernel
theorem dX3_firstHourAt_8 : decode cX3_firstHourAt 8 = .ok (.iload 4, 2) := by decide +kernel
theorem dX3_firstHourAt_10 : decode cX3_firstHourAt 10 = .ok (.aload_n 0, 1) := by decide +kernel
theorem dX3_firstHourAt_11 : decode cX3_firstHourAt 11 = .ok (.getfield 60, 3) := by decide +kernel
theorem dX3_firstHourAt_14 : decode cX3_firstHourAt 14 = .ok (.bipush 100, 2) := by decide +kernel
theorem dX3_firstHourAt_16 : decode cX3_firstHourAt 16 = .ok (.iadd, 1) := by decide +kernel
theorem dX3_firstHourAt_17 : decode cX3_firstHourAt 17 = .ok (.iload_n 2, 1) := by decide +kernel
theorem dX3_firstHourAt_18 : decode cX3_firstHourAt 18 = .ok (.iadd, 1) := by decide +kernel
theorem dX3_firstHourAt_19 : decode cX3_firstHourAt 19 = .ok (.if_icmp .ge 42, 3) := by decide +kernel
theorem dX3_firstHourAt_22 : decode cX3_firstHourAt 22 = .ok (.aload_n 0, 1) := by decide +kernel
theorem dX3_firstHourAt_23 : decode cX3_firstHourAt 23 = .ok (.getfield 12, 3) := by decide +kernel
theorem dX3_firstHourAt_26 : decode cX3_firstHourAt 26 = .ok (.iload 4, 2) := by decide +kernel
theorem dX3_firstHourAt_28 : decode cX3_firstHourAt 28 = .ok (.invokevirtual 115, 3) := by decide +kernel
theorem dX3_firstHourAt_31 : decode cX3_firstHourAt 31 = .ok (.iload_n 1, 1) := by decide +kernel
theorem dX3_firstHourAt_32 : decode cX3_firstHourAt 32 = .ok (.if_icmp .lt 9, 3) := by decide +kernel
theorem dX3_firstHourAt_35 : decode cX3_firstHourAt 35 = .ok (.iload_n 3, 1) := by decide +kernel
theorem dX3_firstHourAt_36 : decode cX3_firstHourAt 36 = .ok (.iconst 1, 1) := by decide +kernel
theorem dX3_firstHourAt_37 : decode cX3_firstHourAt 37 = .ok (.iadd, 1) := by decide +kernel
theorem dX3_firstHourAt_38 : decode cX3_firstHourAt 38 = .ok (.goto 4, 3) := by decide +kernel
theorem dX3_firstHourAt_41 : decode cX3_firstHourAt 41 = .ok (.iconst 0, 1) := by decide +kernel
theorem dX3_firstHourAt_42 : decode cX3_firstHourAt 42 = .ok (.istore_n 3, 1) := by decide +kernel
theorem dX3_firstHourAt_43 : decode cX3_firstHourAt 43 = .ok (.iload_n 3, 1) := by decide +kernel
theorem dX3_firstHourAt_44 : decode cX3_firstHourAt 44 = .ok (.iload_n 2, 1) := by decide +kernel
theorem dX3_firstHourAt_45 : decode cX3_firstHourAt 45 = .ok (.if_icmp .ne 10, 3) := by decide +kernel
theorem dX3_firstHourAt_48 : decode cX3_firstHourAt 48 = .ok (.iload 4, 2) := by decide +kernel
theorem dX3_firstHourAt_50 : decode cX3_firstHourAt 50 = .ok (.iload_n 2, 1) := by decide +kernel
theorem dX3_firstHourAt_51 : decode cX3_firstHourAt 51 = .ok (.isub, 1) := by decide +kernel
theorem dX3_firstHourAt_52 : decode cX3_firstHourAt 52 = .ok (.iconst 1, 1) := by decide +kernel
theorem dX3_firstHourAt_53 : decode cX3_firstHourAt 53 = .ok (.iadd, 1) := by decide +kernel
theorem dX3_firstHourAt_54 : decode cX3_firstHourAt 54 = .ok (.ireturn, 1) := by decide +kernel
theorem dX3_firstHourAt_55 : decode cX3_firstHourAt 55 = .ok (.iinc 4 1, 3) := by decide +kernel
theorem dX3_firstHourAt_58 : decode cX3_firstHourAt 58 = .ok (.goto (-50), 3) := by decide +kernel
theorem dX3_firstHourAt_61 : decode cX3_firstHourAt 61 = .ok (.iconst (-1), 1) := by decide +kernel
theorem dX3_firstHourAt_62 : decode cX3_firstHourAt 62 = .ok (.ireturn, 1) := by decide +kernel
theorem dX3_goOnTo_0 : decode cX3_goOnTo 0 = .ok (.iload_n 1, 1) := by decide +kernel
theorem dX3_goOnTo_1 : decode cX3_goOnTo 1 = .ok (.sipush 1000, 3) := by decide +kernel
theorem dX3_goOnTo_4 : decode cX3_goOnTo 4 = .ok (.invokestatic 119, 3) := by decide +kernel
theorem dX3_goOnTo_7 : decode cX3_goOnTo 7 = .ok (.istore_n 2, 1) := by decide +kernel
theorem dX3_goOnTo_8 : decode cX3_goOnTo 8 = .ok (.aload_n 0, 1) := by decide +kernel
theorem dX3_goOnTo_9 : decode cX3_goOnTo 9 = .ok (.getfield 60, 3) := by decide +kernel
theorem dX3_goOnTo_12 : decode cX3_goOnTo 12 = .ok (.iload_n 2, 1) := by decide +kernel
theorem dX3_goOnTo_13 : decode cX3_goOnTo 13 = .ok (.if_icmp .ge 20, 3) := by decide +kernel
theorem dX3_goOnTo_16 : decode cX3_goOnTo 16 = .ok (.aload_n 0, 1) := by decide +kernel
theorem dX3_goOnTo_17 : decode cX3_goOnTo 17 = .ok (.invokevirtual 125, 3) := by decide +kernel
theorem dX3_goOnTo_20 : decode cX3_goOnTo 20 = .ok (.aload_n 0, 1) := by decide +kernel
theorem dX3_goOnTo_21 : decode cX3_goOnTo 21 = .ok (.dup, 1) := by decide +kernel
theorem dX3_goOnTo_22 : decode cX3_goOnTo 22 = .ok (.getfield 60, 3) := by decide +kernel
theorem dX3_goOnTo_25 : decode cX3_goOnTo 25 = .ok (.iconst 1, 1) := by decide +kernel
theorem dX3_goOnTo_26 : decode cX3_goOnTo 26 = .ok (.iadd, 1) := by decide +kernel
theorem dX3_goOnTo_27 : decode cX3_goOnTo 27 = .ok (.putfield 60, 3) := by decide +kernel
theorem dX3_goOnTo_30 : decode cX3_goOnTo 30 = .ok (.goto (-22), 3) := by decide +kernel
theorem dX3_goOnTo_33 : decode cX3_goOnTo 33 = .ok (.return_, 1) := by decide +kernel
theorem dX3_letHourGoBy_0 : decode cX3_letHourGoBy 0 = .ok (.aload_n 0, 1) := by decide +kernel
theorem dX3_letHourGoBy_1 : decode cX3_letHourGoBy 1 = .ok (.getfield 12, 3) := by decide +kernel
theorem dX3_letHourGoBy_4 : decode cX3_letHourGoBy 4 = .ok (.aload_n 0, 1) := by decide +kernel
theorem dX3_letHourGoBy_5 : decode cX3_letHourGoBy 5 = .ok (.getfield 60, 3) := by decide +kernel
theorem dX3_letHourGoBy_8 : decode cX3_letHourGoBy 8 = .ok (.invokevirtual 115, 3) := by decide +kernel
theorem dX3_letHourGoBy_11 : decode cX3_letHourGoBy 11 = .ok (.istore_n 1, 1) := by decide +kernel
theorem dX3_letHourGoBy_12 : decode cX3_letHourGoBy 12 = .ok (.iconst 0, 1) := by decide +kernel
theorem dX3_letHourGoBy_13 : decode cX3_letHourGoBy 13 = .ok (.istore_n 2, 1) := by decide +kernel
theorem dX3_letHourGoBy_14 : decode cX3_letHourGoBy 14 = .ok (.iload_n 2, 1) := by decide +kernel
theorem dX3_letHourGoBy_15 : decode cX3_letHourGoBy 15 = .ok (.aload_n 0, 1) := by decide +kernel
theorem dX3_letHourGoBy_16 : decode cX3_letHourGoBy 16 = .ok (.getfield 47, 3) := by decide +kernel
theorem dX3_letHourGoBy_19 : decode cX3_letHourGoBy 19 = .ok (.if_icmp .ge 19, 3) := by decide +kernel
theorem dX3_letHourGoBy_22 : decode cX3_letHourGoBy 22 = .ok (.aload_n 0, 1) := by decide +kernel
theorem dX3_letHourGoBy_23 : decode cX3_letHourGoBy 23 = .ok (.getfield 27, 3) := by decide +kernel
theorem dX3_letHourGoBy_26 : decode cX3_letHourGoBy 26 = .ok (.iload_n 2, 1) := by decide +kernel
theorem dX3_letHourGoBy_27 : decode cX3_letHourGoBy 27 = .ok (.aaload, 1) := by decide +kernel
theorem dX3_letHourGoBy_28 : decode cX3_letHourGoBy 28 = .ok (.iconst 0, 1) := by decide +kernel
theorem dX3_letHourGoBy_29 : decode cX3_letHourGoBy 29 = .ok (.putfield 128, 3) := by decide +kernel
theorem dX3_letHourGoBy_32 : decode cX3_letHourGoBy 32 = .ok (.iinc 2 1, 3) := by decide +kernel
theorem dX3_letHourGoBy_35 : decode cX3_letHourGoBy 35 = .ok (.goto (-21), 3) := by decide +kernel
theorem dX3_letHourGoBy_38 : decode cX3_letHourGoBy 38 = .ok (.aload_n 0, 1) := by decide +kernel
theorem dX3_letHourGoBy_39 : decode cX3_letHourGoBy 39 = .ok (.getfield 21, 3) := by decide +kernel
theorem dX3_letHourGoBy_42 : decode cX3_letHourGoBy 42 = .ok (.aload_n 0, 1) := by decide +kernel
theorem dX3_letHourGoBy_43 : decode cX3_letHourGoBy 43 = .ok (.getfield 12, 3) := by decide +kernel
theorem dX3_letHourGoBy_46 : decode cX3_letHourGoBy 46 = .ok (.aload_n 0, 1) := by decide +kernel
theorem dX3_letHourGoBy_47 : decode cX3_letHourGoBy 47 = .ok (.getfield 60, 3) := by decide +kernel
theorem dX3_letHourGoBy_50 : decode cX3_letHourGoBy 50 = .ok (.invokevirtual 131, 3) := by decide +kernel
theorem dX3_letHourGoBy_53 : decode cX3_letHourGoBy 53 = .ok (.aload_n 0, 1) := by decide +kernel
theorem dX3_letHourGoBy_54 : decode cX3_letHourGoBy 54 = .ok (.getfield 47, 3) := by decide +kernel
theorem dX3_letHourGoBy_57 : decode cX3_letHourGoBy 57 = .ok (.ifCond .le 39, 3) := by decide +kernel
theorem dX3_letHourGoBy_60 : decode cX3_letHourGoBy 60 = .ok (.aload_n 0, 1) := by decide +kernel
theorem dX3_letHourGoBy_61 : decode cX3_letHourGoBy 61 = .ok (.getfield 21, 3) := by decide +kernel
theorem dX3_letHourGoBy_64 : decode cX3_letHourGoBy 64 = .ok (.getfield 135, 3) := by decide +kernel
theorem dX3_letHourGoBy_67 : decode cX3_letHourGoBy 67 = .ok (.ifCond .ne 14, 3) := by decide +kernel
theorem dX3_letHourGoBy_70 : decode cX3_letHourGoBy 70 = .ok (.aload_n 0, 1) := by decide +kernel
theorem dX3_letHourGoBy_71 : decode cX3_letHourGoBy 71 = .ok (.aload_n 0, 1) := by decide +kernel
theorem dX3_letHourGoBy_72 : decode cX3_letHourGoBy 72 = .ok (.getfield 27, 3) := by decide +kernel
theorem dX3_letHourGoBy_75 : decode cX3_letHourGoBy 75 = .ok (.iconst 0, 1) := by decide +kernel
theorem dX3_letHourGoBy_76 : decode cX3_letHourGoBy 76 = .ok (.aaload, 1) := by decide +kernel
theorem dX3_letHourGoBy_77 : decode cX3_letHourGoBy 77 = .ok (.iload_n 1, 1) := by decide +kernel
theorem dX3_letHourGoBy_78 : decode cX3_letHourGoBy 78 = .ok (.invokevirtual 139, 3) := by decide +kernel
theorem dX3_letHourGoBy_81 : decode cX3_letHourGoBy 81 = .ok (.aload_n 0, 1) := by decide +kernel
theorem dX3_letHourGoBy_82 : decode cX3_letHourGoBy 82 = .ok (.aload_n 0, 1) := by decide +kernel
theorem dX3_letHourGoBy_83 : decode cX3_letHourGoBy 83 = .ok (.getfield 27, 3) := by decide +kernel
theorem dX3_letHourGoBy_86 : decode cX3_letHourGoBy 86 = .ok (.aload_n 0, 1) := by decide +kernel
theorem dX3_letHourGoBy_87 : decode cX3_letHourGoBy 87 = .ok (.getfield 47, 3) := by decide +kernel
theorem dX3_letHourGoBy_90 : decode cX3_letHourGoBy 90 = .ok (.iconst 1, 1) := by decide +kernel
theorem dX3_letHourGoBy_91 : decode cX3_letHourGoBy 91 = .ok (.isub, 1) := by decide +kernel
theorem dX3_letHourGoBy_92 : decode cX3_letHourGoBy 92 = .ok (.aaload, 1) := by decide +kernel
theorem dX3_letHourGoBy_93 : decode cX3_letHourGoBy 93 = .ok (.invokevirtual 143, 3) := by decide +kernel
theorem dX3_letHourGoBy_96 : decode cX3_letHourGoBy 96 = .ok (.iconst 0, 1) := by decide +kernel
theorem dX3_letHourGoBy_97 : decode cX3_letHourGoBy 97 = .ok (.istore_n 2, 1) := by decide +kernel
theorem dX3_letHourGoBy_98 : decode cX3_letHourGoBy 98 = .ok (.iload_n 2, 1) := by decide +kernel
theorem dX3_letHourGoBy_99 : decode cX3_letHourGoBy 99 = .ok (.iconst 1, 1) := by decide +kernel
theorem dX3_letHourGoBy_100 : decode cX3_letHourGoBy 100 = .ok (.iadd, 1) := by decide +kernel
theorem dX3_letHourGoBy_101 : decode cX3_letHourGoBy 101 = .ok (.aload_n 0, 1) := by decide +kernel
theorem dX3_letHourGoBy_102 : decode cX3_letHourGoBy 102 = .ok (.getfield 47, 3) := by decide +kernel
theorem dX3_letHourGoBy_105 : decode cX3_letHourGoBy 105 = .ok (.if_icmp .ge 45, 3) := by decide +kernel
theorem dX3_letHourGoBy_108 : decode cX3_letHourGoBy 108 = .ok (.aload_n 0, 1) := by decide +kernel
theorem dX3_letHourGoBy_109 : decode cX3_letHourGoBy 109 = .ok (.aload_n 0, 1) := by decide +kernel
theorem dX3_letHourGoBy_110 : decode cX3_letHourGoBy 110 = .ok (.getfield 27, 3) := by decide +kernel
theorem dX3_letHourGoBy_113 : decode cX3_letHourGoBy 113 = .ok (.iload_n 2, 1) := by decide +kernel
theorem dX3_letHourGoBy_114 : decode cX3_letHourGoBy 114 = .ok (.aaload, 1) := by decide +kernel
theorem dX3_letHourGoBy_115 : decode cX3_letHourGoBy 115 = .ok (.aload_n 0, 1) := by decide +kernel
theorem dX3_letHourGoBy_116 : decode cX3_letHourGoBy 116 = .ok (.getfield 27, 3) := by decide +kernel
theorem dX3_letHourGoBy_119 : decode cX3_letHourGoBy 119 = .ok (.iload_n 2, 1) := by decide +kernel
theorem dX3_letHourGoBy_120 : decode cX3_letHourGoBy 120 = .ok (.iconst 1, 1) := by decide +kernel
theorem dX3_letHourGoBy_121 : decode cX3_letHourGoBy 121 = .ok (.iadd, 1) := by decide +kernel
theorem dX3_letHourGoBy_122 : decode cX3_letHourGoBy 122 = .ok (.aaload, 1) := by decide +kernel
theorem dX3_letHourGoBy_123 : decode cX3_letHourGoBy 123 = .ok (.invokevirtual 147, 3) := by decide +kernel
theorem dX3_letHourGoBy_126 : decode cX3_letHourGoBy 126 = .ok (.aload_n 0, 1) := by decide +kernel
theorem dX3_letHourGoBy_127 : decode cX3_letHourGoBy 127 = .ok (.aload_n 0, 1) := by decide +kernel
theorem dX3_letHourGoBy_128 : decode cX3_letHourGoBy 128 = .ok (.getfield 27, 3) := by decide +kernel
theorem dX3_letHourGoBy_131 : decode cX3_letHourGoBy 131 = .ok (.iload_n 2, 1) := by decide +kernel
theorem dX3_letHourGoBy_132 : decode cX3_letHourGoBy 132 = .ok (.aaload, 1) := by decide +kernel
theorem dX3_letHourGoBy_133 : decode cX3_letHourGoBy 133 = .ok (.aload_n 0, 1) := by decide +kernel
theorem dX3_letHourGoBy_134 : decode cX3_letHourGoBy 134 = .ok (.getfield 27, 3) := by decide +kernel
theorem dX3_letHourGoBy_137 : decode cX3_letHourGoBy 137 = .ok (.iload_n 2, 1) := by decide +kernel
theorem dX3_letHourGoBy_138 : decode cX3_letHourGoBy 138 = .ok (.iconst 1, 1) := by decide +kernel
theorem dX3_letHourGoBy_139 : decode cX3_letHourGoBy 139 = .ok (.iadd, 1) := by decide +kernel
theorem dX3_letHourGoBy_140 : decode cX3_letHourGoBy 140 = .ok (.aaload, 1) := by decide +kernel
theorem dX3_letHourGoBy_141 : decode cX3_letHourGoBy 141 = .ok (.invokevirtual 151, 3) := by decide +kernel
theorem dX3_letHourGoBy_144 : decode cX3_letHourGoBy 144 = .ok (.iinc 2 1, 3) := by decide +kernel
theorem dX3_letHourGoBy_147 : decode cX3_letHourGoBy 147 = .ok (.goto (-49), 3) := by decide +kernel
theorem dX3_letHourGoBy_150 : decode cX3_letHourGoBy 150 = .ok (.iconst 0, 1) := by decide +kernel
theorem dX3_letHourGoBy_151 : decode cX3_letHourGoBy 151 = .ok (.istore_n 2, 1) := by decide +kernel
theorem dX3_letHourGoBy_152 : decode cX3_letHourGoBy 152 = .ok (.iload_n 2, 1) := by decide +kernel
theorem dX3_letHourGoBy_153 : decode cX3_letHourGoBy 153 = .ok (.aload_n 0, 1) := by decide +kernel
theorem dX3_letHourGoBy_154 : decode cX3_letHourGoBy 154 = .ok (.getfield 47, 3) := by decide +kernel
theorem dX3_letHourGoBy_157 : decode cX3_letHourGoBy 157 = .ok (.if_icmp .ge 27, 3) := by decide +kernel
theorem dX3_letHourGoBy_160 : decode cX3_letHourGoBy 160 = .ok (.aload_n 0, 1) := by decide +kernel
theorem dX3_letHourGoBy_161 : decode cX3_letHourGoBy 161 = .ok (.getfield 27, 3) := by decide +kernel
theorem dX3_letHourGoBy_164 : decode cX3_letHourGoBy 164 = .ok (.iload_n 2, 1) := by decide +kernel
theorem dX3_letHourGoBy_165 : decode cX3_letHourGoBy 165 = .ok (.aaload, 1) := by decide +kernel
theorem dX3_letHourGoBy_166 : decode cX3_letHourGoBy 166 = .ok (.invokevirtual 154, 3) := by decide +kernel
theorem dX3_letHourGoBy_169 : decode cX3_letHourGoBy 169 = .ok (.aload_n 0, 1) := by decide +kernel
theorem dX3_letHourGoBy_170 : decode cX3_letHourGoBy 170 = .ok (.getfield 27, 3) := by decide +kernel
theorem dX3_letHourGoBy_173 : decode cX3_letHourGoBy 173 = .ok (.iload_n 2, 1) := by decide +kernel
theorem dX3_letHourGoBy_174 : decode cX3_letHourGoBy 174 = .ok (.aaload, 1) := by decide +kernel
theorem dX3_letHourGoBy_175 : decode cX3_letHourGoBy 175 = .ok (.invokevirtual 157, 3) := by decide +kernel
theorem dX3_letHourGoBy_178 : decode cX3_letHourGoBy 178 = .ok (.iinc 2 1, 3) := by decide +kernel
theorem dX3_letHourGoBy_181 : decode cX3_letHourGoBy 181 = .ok (.goto (-29), 3) := by decide +kernel
theorem dX3_letHourGoBy_184 : decode cX3_letHourGoBy 184 = .ok (.aload_n 0, 1) := by decide +kernel
theorem dX3_letHourGoBy_185 : decode cX3_letHourGoBy 185 = .ok (.invokevirtual 160, 3) := by decide +kernel
theorem dX3_letHourGoBy_188 : decode cX3_letHourGoBy 188 = .ok (.iconst 0, 1) := by decide +kernel
theorem dX3_letHourGoBy_189 : decode cX3_letHourGoBy 189 = .ok (.istore_n 2, 1) := by decide +kernel
theorem dX3_letHourGoBy_190 : decode cX3_letHourGoBy 190 = .ok (.iload_n 2, 1) := by decide +kernel
theorem dX3_letHourGoBy_191 : decode cX3_letHourGoBy 191 = .ok (.aload_n 0, 1) := by decide +kernel
theorem dX3_letHourGoBy_192 : decode cX3_letHourGoBy 192 = .ok (.getfield 47, 3) := by decide +kernel
theorem dX3_letHourGoBy_195 : decode cX3_letHourGoBy 195 = .ok (.if_icmp .ge 22, 3) := by decide +kernel
theorem dX3_letHourGoBy_198 : decode cX3_letHourGoBy 198 = .ok (.aload_n 0, 1) := by decide +kernel
theorem dX3_letHourGoBy_199 : decode cX3_letHourGoBy 199 = .ok (.getfield 27, 3) := by decide +kernel
theorem dX3_letHourGoBy_202 : decode cX3_letHourGoBy 202 = .ok (.iload_n 2, 1) := by decide +kernel
theorem dX3_letHourGoBy_203 : decode cX3_letHourGoBy 203 = .ok (.aaload, 1) := by decide +kernel
theorem dX3_letHourGoBy_204 : decode cX3_letHourGoBy 204 = .ok (.aload_n 0, 1) := by decide +kernel
theorem dX3_letHourGoBy_205 : decode cX3_letHourGoBy 205 = .ok (.getfield 60, 3) := by decide +kernel
theorem dX3_letHourGoBy_208 : decode cX3_letHourGoBy 208 = .ok (.invokevirtual 163, 3) := by decide +kernel
theorem dX3_letHourGoBy_211 : decode cX3_letHourGoBy 211 = .ok (.iinc 2 1, 3) := by decide +kernel
theorem dX3_letHourGoBy_214 : decode cX3_letHourGoBy 214 = .ok (.goto (-24), 3) := by decide +kernel
theorem dX3_letHourGoBy_217 : decode cX3_letHourGoBy 217 = .ok (.aload_n 0, 1) := by decide +kernel
theorem dX3_letHourGoBy_218 : decode cX3_letHourGoBy 218 = .ok (.getfield 12, 3) := by decide +kernel
theorem dX3_letHourGoBy_221 : decode cX3_letHourGoBy 221 = .ok (.aload_n 0, 1) := by decide +kernel
theorem dX3_letHourGoBy_222 : decode cX3_letHourGoBy 222 = .ok (.getfield 60, 3) := by decide +kernel
theorem dX3_letHourGoBy_225 : decode cX3_letHourGoBy 225 = .ok (.iload_n 1, 1) := by decide +kernel
theorem dX3_letHourGoBy_226 : decode cX3_letHourGoBy 226 = .ok (.invokevirtual 167, 3) := by decide +kernel
theorem dX3_letHourGoBy_229 : decode cX3_letHourGoBy 229 = .ok (.return_, 1) := by decide +kernel
theorem dX3_meetSea_0 : decode cX3_meetSea 0 = .ok (.iload_n 2, 1) := by decide +kernel
theorem dX3_meetSea_1 : decode cX3_meetSea 1 = .ok (.aload_n 1, 1) := by decide +kernel
theorem dX3_meetSea_2 : decode cX3_meetSea 2 = .ok (.invokevirtual 170, 3) := by decide +kernel
theorem dX3_meetSea_5 : decode cX3_meetSea 5 = .ok (.isub, 1) := by decide +kernel
theorem dX3_meetSea_6 : decode cX3_meetSea 6 = .ok (.istore_n 3, 1) := by decide +kernel
theorem dX3_meetSea_7 : decode cX3_meetSea 7 = .ok (.iload_n 3, 1) := by decide +kernel
theorem dX3_meetSea_8 : decode cX3_meetSea 8 = .ok (.ifCond .le 57, 3) := by decide +kernel
theorem dX3_meetSea_11 : decode cX3_meetSea 11 = .ok (.iload_n 3, 1) := by decide +kernel
theorem dX3_meetSea_12 : decode cX3_meetSea 12 = .ok (.aload_n 1, 1) := by decide +kernel
theorem dX3_meetSea_13 : decode cX3_meetSea 13 = .ok (.getfield 173, 3) := by decide +kernel
theorem dX3_meetSea_16 : decode cX3_meetSea 16 = .ok (.imul, 1) := by decide +kernel
theorem dX3_meetSea_17 : decode cX3_meetSea 17 = .ok (.iconst 2, 1) := by decide +kernel
theorem dX3_meetSea_18 : decode cX3_meetSea 18 = .ok (.idiv, 1) := by decide +kernel
theorem dX3_meetSea_19 : decode cX3_meetSea 19 = .ok (.istore 4, 2) := by decide +kernel
theorem dX3_meetSea_21 : decode cX3_meetSea 21 = .ok (.aload_n 1, 1) := by decide +kernel
theorem dX3_meetSea_22 : decode cX3_meetSea 22 = .ok (.getfield 176, 3) := by decide +kernel
theorem dX3_meetSea_25 : decode cX3_meetSea 25 = .ok (.iload 4, 2) := by decide +kernel
theorem dX3_meetSea_27 : decode cX3_meetSea 27 = .ok (.bipush 30, 2) := by decide +kernel
theorem dX3_meetSea_29 : decode cX3_meetSea 29 = .ok (.iload 4, 2) := by decide +kernel
theorem dX3_meetSea_31 : decode cX3_meetSea 31 = .ok (.imul, 1) := by decide +kernel
theorem dX3_meetSea_32 : decode cX3_meetSea 32 = .ok (.invokevirtual 180, 3) := by decide +kernel
theorem dX3_meetSea_35 : decode cX3_meetSea 35 = .ok (.aload_n 0, 1) := by decide +kernel
theorem dX3_meetSea_36 : decode cX3_meetSea 36 = .ok (.getfield 37, 3) := by decide +kernel
theorem dX3_meetSea_39 : decode cX3_meetSea 39 = .ok (.iconst 0, 1) := by decide +kernel
theorem dX3_meetSea_40 : decode cX3_meetSea 40 = .ok (.dup2, 1) := by decide +kernel
theorem dX3_meetSea_41 : decode cX3_meetSea 41 = .ok (.laload, 1) := by decide +kernel
theorem dX3_meetSea_42 : decode cX3_meetSea 42 = .ok (.iload 4, 2) := by decide +kernel
theorem dX3_meetSea_44 : decode cX3_meetSea 44 = .ok (.i2l, 1) := by decide +kernel
theorem dX3_meetSea_45 : decode cX3_meetSea 45 = .ok (.ladd, 1) := by decide +kernel
theorem dX3_meetSea_46 : decode cX3_meetSea 46 = .ok (.lastore, 1) := by decide +kernel
theorem dX3_meetSea_47 : decode cX3_meetSea 47 = .ok (.aload_n 0, 1) := by decide +kernel
theorem dX3_meetSea_48 : decode cX3_meetSea 48 = .ok (.getfield 37, 3) := by decide +kernel
theorem dX3_meetSea_51 : decode cX3_meetSea 51 = .ok (.iconst 4, 1) := by decide +kernel
theorem dX3_meetSea_52 : decode cX3_meetSea 52 = .ok (.dup2, 1) := by decide +kernel
theorem dX3_meetSea_53 : decode cX3_meetSea 53 = .ok (.laload, 1) := by decide +kernel
theorem dX3_meetSea_54 : decode cX3_meetSea 54 = .ok (.bipush 30, 2) := by decide +kernel
theorem dX3_meetSea_56 : decode cX3_meetSea 56 = .ok (.iload 4, 2) := by decide +kernel
theorem dX3_meetSea_58 : decode cX3_meetSea 58 = .ok (.imul, 1) := by decide +kernel
theorem dX3_meetSea_59 : decode cX3_meetSea 59 = .ok (.i2l, 1) := by decide +kernel
theorem dX3_meetSea_60 : decode cX3_meetSea 60 = .ok (.ladd, 1) := by decide +kernel
theorem dX3_meetSea_61 : decode cX3_meetSea 61 = .ok (.lastore, 1) := by decide +kernel
theorem dX3_meetSea_62 : decode cX3_meetSea 62 = .ok (.goto 76, 3) := by decide +kernel
theorem dX3_meetSea_65 : decode cX3_meetSea 65 = .ok (.iload_n 3, 1) := by decide +kernel
theorem dX3_meetSea_66 : decode cX3_meetSea 66 = .ok (.ifCond .ge 72, 3) := by decide +kernel
theorem dX3_meetSea_69 : decode cX3_meetSea 69 = .ok (.iload_n 3, 1) := by decide +kernel
theorem dX3_meetSea_70 : decode cX3_meetSea 70 = .ok (.ineg, 1) := by decide +kernel
theorem dX3_meetSea_71 : decode cX3_meetSea 71 = .ok (.aload_n 1, 1) := by decide +kernel
theorem dX3_meetSea_72 : decode cX3_meetSea 72 = .ok (.getfield 173, 3) := by decide +kernel
theorem dX3_meetSea_75 : decode cX3_meetSea 75 = .ok (.imul, 1) := by decide +kernel
theorem dX3_meetSea_76 : decode cX3_meetSea 76 = .ok (.iconst 2, 1) := by decide +kernel
theorem dX3_meetSea_77 : decode cX3_meetSea 77 = .ok (.idiv, 1) := by decide +kernel
theorem dX3_meetSea_78 : decode cX3_meetSea 78 = .ok (.aload_n 1, 1) := by decide +kernel
theorem dX3_meetSea_79 : decode cX3_meetSea 79 = .ok (.getfield 185, 3) := by decide +kernel
theorem dX3_meetSea_82 : decode cX3_meetSea 82 = .ok (.getfield 188, 3) := by decide +kernel
theorem dX3_meetSea_85 : decode cX3_meetSea 85 = .ok (.invokestatic 119, 3) := by decide +kernel
theorem dX3_meetSea_88 : decode cX3_meetSea 88 = .ok (.istore 4, 2) := by decide +kernel
theorem dX3_meetSea_90 : decode cX3_meetSea 90 = .ok (.aload_n 0, 1) := by decide +kernel
theorem dX3_meetSea_91 : decode cX3_meetSea 91 = .ok (.getfield 37, 3) := by decide +kernel
theorem dX3_meetSea_94 : decode cX3_meetSea 94 = .ok (.bipush 8, 2) := by decide +kernel
theorem dX3_meetSea_96 : decode cX3_meetSea 96 = .ok (.dup2, 1) := by decide +kernel
theorem dX3_meetSea_97 : decode cX3_meetSea 97 = .ok (.laload, 1) := by decide +kernel
theorem dX3_meetSea_98 : decode cX3_meetSea 98 = .ok (.aload_n 1, 1) := by decide +kernel
theorem dX3_meetSea_99 : decode cX3_meetSea 99 = .ok (.iload 4, 2) := by decide +kernel
theorem dX3_meetSea_101 : decode cX3_meetSea 101 = .ok (.invokevirtual 191, 3) := by decide +kernel
theorem dX3_meetSea_104 : decode cX3_meetSea 104 = .ok (.i2l, 1) := by decide +kernel
theorem dX3_meetSea_105 : decode cX3_meetSea 105 = .ok (.ladd, 1) := by decide +kernel
theorem dX3_meetSea_106 : decode cX3_meetSea 106 = .ok (.lastore, 1) := by decide +kernel
theorem dX3_meetSea_107 : decode cX3_meetSea 107 = .ok (.aload_n 0, 1) := by decide +kernel
theorem dX3_meetSea_108 : decode cX3_meetSea 108 = .ok (.getfield 37, 3) := by decide +kernel
theorem dX3_meetSea_111 : decode cX3_meetSea 111 = .ok (.iconst 5, 1) := by decide +kernel
theorem dX3_meetSea_112 : decode cX3_meetSea 112 = .ok (.dup2, 1) := by decide +kernel
theorem dX3_meetSea_113 : decode cX3_meetSea 113 = .ok (.laload, 1) := by decide +kernel
theorem dX3_meetSea_114 : decode cX3_meetSea 114 = .ok (.aload_n 1, 1) := by decide +kernel
theorem dX3_meetSea_115 : decode cX3_meetSea 115 = .ok (.getfield 185, 3) := by decide +kernel
theorem dX3_meetSea_118 : decode cX3_meetSea 118 = .ok (.iload 4, 2) := by decide +kernel
theorem dX3_meetSea_120 : decode cX3_meetSea 120 = .ok (.invokevirtual 194, 3) := by decide +kernel
theorem dX3_meetSea_123 : decode cX3_meetSea 123 = .ok (.i2l, 1) := by decide +kernel
theorem dX3_meetSea_124 : decode cX3_meetSea 124 = .ok (.ladd, 1) := by decide +kernel
theorem dX3_meetSea_125 : decode cX3_meetSea 125 = .ok (.lastore, 1) := by decide +kernel
theorem dX3_meetSea_126 : decode cX3_meetSea 126 = .ok (.aload_n 0, 1) := by decide +kernel
theorem dX3_meetSea_127 : decode cX3_meetSea 127 = .ok (.getfield 37, 3) := by decide +kernel
theorem dX3_meetSea_130 : decode cX3_meetSea 130 = .ok (.iconst 1, 1) := by decide +kernel
theorem dX3_meetSea_131 : decode cX3_meetSea 131 = .ok (.dup2, 1) := by decide +kernel
theorem dX3_meetSea_132 : decode cX3_meetSea 132 = .ok (.laload, 1) := by decide +kernel
theorem dX3_meetSea_133 : decode cX3_meetSea 133 = .ok (.iload 4, 2) := by decide +kernel
theorem dX3_meetSea_135 : decode cX3_meetSea 135 = .ok (.i2l, 1) := by decide +kernel
theorem dX3_meetSea_136 : decode cX3_meetSea 136 = .ok (.ladd, 1) := by decide +kernel
theorem dX3_meetSea_137 : decode cX3_meetSea 137 = .ok (.lastore, 1) := by decide +kernel
theorem dX3_meetSea_138 : decode cX3_meetSea 138 = .ok (.return_, 1) := by decide +kernel
theorem dX3_meetRiver_0 : decode cX3_meetRiver 0 = .ok (.aload_n 1, 1) := by decide +kernel
theorem dX3_meetRiver_1 : decode cX3_meetRiver 1 = .ok (.getfield 185, 3) := by decide +kernel
theorem dX3_meetRiver_4 : decode cX3_meetRiver 4 = .ok (.aload_n 0, 1) := by decide +kernel
theorem dX3_meetRiver_5 : decode cX3_meetRiver 5 = .ok (.getfield 54, 3) := by decide +kernel
theorem dX3_meetRiver_8 : decode cX3_meetRiver 8 = .ok (.iconst 0, 1) := by decide +kernel
theorem dX3_meetRiver_9 : decode cX3_meetRiver 9 = .ok (.invokevirtual 180, 3) := by decide +kernel
theorem dX3_meetRiver_12 : decode cX3_meetRiver 12 = .ok (.aload_n 1, 1) := by decide +kernel
theorem dX3_meetRiver_13 : decode cX3_meetRiver 13 = .ok (.dup, 1) := by decide +kernel
theorem dX3_meetRiver_14 : decode cX3_meetRiver 14 = .ok (.getfield 108, 3) := by decide +kernel
theorem dX3_meetRiver_17 : decode cX3_meetRiver 17 = .ok (.aload_n 0, 1) := by decide +kernel
theorem dX3_meetRiver_18 : decode cX3_meetRiver 18 = .ok (.getfield 57, 3) := by decide +kernel
theorem dX3_meetRiver_21 : decode cX3_meetRiver 21 = .ok (.iadd, 1) := by decide +kernel
theorem dX3_meetRiver_22 : decode cX3_meetRiver 22 = .ok (.putfield 108, 3) := by decide +kernel
theorem dX3_meetRiver_25 : decode cX3_meetRiver 25 = .ok (.aload_n 0, 1) := by decide +kernel
theorem dX3_meetRiver_26 : decode cX3_meetRiver 26 = .ok (.getfield 37, 3) := by decide +kernel
theorem dX3_meetRiver_29 : decode cX3_meetRiver 29 = .ok (.iconst 2, 1) := by decide +kernel
theorem dX3_meetRiver_30 : decode cX3_meetRiver 30 = .ok (.dup2, 1) := by decide +kernel
theorem dX3_meetRiver_31 : decode cX3_meetRiver 31 = .ok (.laload, 1) := by decide +kernel
theorem dX3_meetRiver_32 : decode cX3_meetRiver 32 = .ok (.aload_n 0, 1) := by decide +kernel
theorem dX3_meetRiver_33 : decode cX3_meetRiver 33 = .ok (.getfield 54, 3) := by decide +kernel
theorem dX3_meetRiver_36 : decode cX3_meetRiver 36 = .ok (.i2l, 1) := by decide +kernel
theorem dX3_meetRiver_37 : decode cX3_meetRiver 37 = .ok (.ladd, 1) := by decide +kernel
theorem dX3_meetRiver_38 : decode cX3_meetRiver 38 = .ok (.lastore, 1) := by decide +kernel
theorem dX3_meetRiver_39 : decode cX3_meetRiver 39 = .ok (.aload_n 0, 1) := by decide +kernel
theorem dX3_meetRiver_40 : decode cX3_meetRiver 40 = .ok (.getfield 37, 3) := by decide +kernel
theorem dX3_meetRiver_43 : decode cX3_meetRiver 43 = .ok (.bipush 7, 2) := by decide +kernel
theorem dX3_meetRiver_45 : decode cX3_meetRiver 45 = .ok (.dup2, 1) := by decide +kernel
theorem dX3_meetRiver_46 : decode cX3_meetRiver 46 = .ok (.laload, 1) := by decide +kernel
theorem dX3_meetRiver_47 : decode cX3_meetRiver 47 = .ok (.aload_n 0, 1) := by decide +kernel
theorem dX3_meetRiver_48 : decode cX3_meetRiver 48 = .ok (.getfield 57, 3) := by decide +kernel
theorem dX3_meetRiver_51 : decode cX3_meetRiver 51 = .ok (.i2l, 1) := by decide +kernel
theorem dX3_meetRiver_52 : decode cX3_meetRiver 52 = .ok (.ladd, 1) := by decide +kernel
theorem dX3_meetRiver_53 : decode cX3_meetRiver 53 = .ok (.lastore, 1) := by decide +kernel
theorem dX3_meetRiver_54 : decode cX3_meetRiver 54 = .ok (.return_, 1) := by decide +kernel
theorem dX3_level_0 : decode cX3_level 0 = .ok (.aload_n 1, 1) := by decide +kernel
theorem dX3_level_1 : decode cX3_level 1 = .ok (.invokevirtual 170, 3) := by decide +kernel
theorem dX3_level_4 : decode cX3_level 4 = .ok (.aload_n 2, 1) := by decide +kernel
theorem dX3_level_5 : decode cX3_level 5 = .ok (.invokevirtual 170, 3) := by decide +kernel
theorem dX3_level_8 : decode cX3_level 8 = .ok (.isub, 1) := by decide +kernel
theorem dX3_level_9 : decode cX3_level 9 = .ok (.istore_n 3, 1) := by decide +kernel
theorem dX3_level_10 : decode cX3_level 10 = .ok (.aload_n 1, 1) := by decide +kernel
theorem dX3_level_11 : decode cX3_level 11 = .ok (.getfield 173, 3) := by decide +kernel
theorem dX3_level_14 : decode cX3_level 14 = .ok (.aload_n 2, 1) := by decide +kernel
theorem dX3_level_15 : decode cX3_level 15 = .ok (.getfield 173, 3) := by decide +kernel
theorem dX3_level_18 : decode cX3_level 18 = .ok (.invokestatic 119, 3) := by decide +kernel
theorem dX3_level_21 : decode cX3_level 21 = .ok (.istore 4, 2) := by decide +kernel
theorem dX3_level_23 : decode cX3_level 23 = .ok (.iconst 0, 1) := by decide +kernel
theorem dX3_level_24 : decode cX3_level 24 = .ok (.istore 5, 2) := by decide +kernel
theorem dX3_level_26 : decode cX3_level 26 = .ok (.iload_n 3, 1) := by decide +kernel
theorem dX3_level_27 : decode cX3_level 27 = .ok (.ifCond .le 32, 3) := by decide +kernel
theorem dX3_level_30 : decode cX3_level 30 = .ok (.iload_n 3, 1) := by decide +kernel
theorem dX3_level_31 : decode cX3_level 31 = .ok (.iload 4, 2) := by decide +kernel
theorem dX3_level_33 : decode cX3_level 33 = .ok (.imul, 1) := by decide +kernel
theorem dX3_level_34 : decode cX3_level 34 = .ok (.iconst 4, 1) := by decide +kernel
theorem dX3_level_35 : decode cX3_level 35 = .ok (.idiv, 1) := by decide +kernel
theorem dX3_level_36 : decode cX3_level 36 = .ok (.aload_n 1, 1) := by decide +kernel
theorem dX3_level_37 : decode cX3_level 37 = .ok (.getfield 176, 3) := by decide +kernel
theorem dX3_level_40 : decode cX3_level 40 = .ok (.getfield 188, 3) := by decide +kernel
theorem dX3_level_43 : decode cX3_level 43 = .ok (.invokestatic 119, 3) := by decide +kernel
theorem dX3_level_46 : decode cX3_level 46 = .ok (.istore 5, 2) := by decide +kernel
theorem dX3_level_48 : decode cX3_level 48 = .ok (.aload_n 0, 1) := by decide +kernel
theorem dX3_level_49 : decode cX3_level 49 = .ok (.aload_n 1, 1) := by decide +kernel
theorem dX3_level_50 : decode cX3_level 50 = .ok (.aload_n 2, 1) := by decide +kernel
theorem dX3_level_51 : decode cX3_level 51 = .ok (.iload 5, 2) := by decide +kernel
theorem dX3_level_53 : decode cX3_level 53 = .ok (.invokevirtual 197, 3) := by decide +kernel
theorem dX3_level_56 : decode cX3_level 56 = .ok (.goto 34, 3) := by decide +kernel
theorem dX3_level_59 : decode cX3_level 59 = .ok (.iload_n 3, 1) := by decide +kernel
theorem dX3_level_60 : decode cX3_level 60 = .ok (.ifCond .ge 30, 3) := by decide +kernel
theorem dX3_level_63 : decode cX3_level 63 = .ok (.iload_n 3, 1) := by decide +kernel
theorem dX3_level_64 : decode cX3_level 64 = .ok (.ineg, 1) := by decide +kernel
theorem dX3_level_65 : decode cX3_level 65 = .ok (.iload 4, 2) := by decide +kernel
theorem dX3_level_67 : decode cX3_level 67 = .ok (.imul, 1) := by decide +kernel
theorem dX3_level_68 : decode cX3_level 68 = .ok (.iconst 4, 1) := by decide +kernel
theorem dX3_level_69 : decode cX3_level 69 = .ok (.idiv, 1) := by decide +kernel
theorem dX3_level_70 : decode cX3_level 70 = .ok (.aload_n 2, 1) := by decide +kernel
theorem dX3_level_71 : decode cX3_level 71 = .ok (.getfield 185, 3) := by decide +kernel
theorem dX3_level_74 : decode cX3_level 74 = .ok (.getfield 188, 3) := by decide +kernel
theorem dX3_level_77 : decode cX3_level 77 = .ok (.invokestatic 119, 3) := by decide +kernel
theorem dX3_level_80 : decode cX3_level 80 = .ok (.istore 5, 2) := by decide +kernel
theorem dX3_level_82 : decode cX3_level 82 = .ok (.aload_n 0, 1) := by decide +kernel
theorem dX3_level_83 : decode cX3_level 83 = .ok (.aload_n 2, 1) := by decide +kernel
theorem dX3_level_84 : decode cX3_level 84 = .ok (.aload_n 1, 1) := by decide +kernel
theorem dX3_level_85 : decode cX3_level 85 = .ok (.iload 5, 2) := by decide +kernel
theorem dX3_level_87 : decode cX3_level 87 = .ok (.invokevirtual 201, 3) := by decide +kernel
theorem dX3_level_90 : decode cX3_level 90 = .ok (.aload_n 1, 1) := by decide +kernel
theorem dX3_level_91 : decode cX3_level 91 = .ok (.dup, 1) := by decide +kernel
theorem dX3_level_92 : decode cX3_level 92 = .ok (.getfield 128, 3) := by decide +kernel
theorem dX3_level_95 : decode cX3_level 95 = .ok (.iload 5, 2) := by decide +kernel
theorem dX3_level_97 : decode cX3_level 97 = .ok (.iadd, 1) := by decide +kernel
theorem dX3_level_98 : decode cX3_level 98 = .ok (.putfield 128, 3) := by decide +kernel
theorem dX3_level_101 : decode cX3_level 101 = .ok (.aload_n 2, 1) := by decide +kernel
theorem dX3_level_102 : decode cX3_level 102 = .ok (.dup, 1) := by decide +kernel
theorem dX3_level_103 : decode cX3_level 103 = .ok (.getfield 128, 3) := by decide +kernel
theorem dX3_level_106 : decode cX3_level 106 = .ok (.iload 5, 2) := by decide +kernel
theorem dX3_level_108 : decode cX3_level 108 = .ok (.iadd, 1) := by decide +kernel
theorem dX3_level_109 : decode cX3_level 109 = .ok (.putfield 128, 3) := by decide +kernel
theorem dX3_level_112 : decode cX3_level 112 = .ok (.return_, 1) := by decide +kernel
theorem dX3_creep_0 : decode cX3_creep 0 = .ok (.aload_n 1, 1) := by decide +kernel
theorem dX3_creep_1 : decode cX3_creep 1 = .ok (.getfield 176, 3) := by decide +kernel
theorem dX3_creep_4 : decode cX3_creep 4 = .ok (.invokevirtual 204, 3) := by decide +kernel
theorem dX3_creep_7 : decode cX3_creep 7 = .ok (.aload_n 2, 1) := by decide +kernel
theorem dX3_creep_8 : decode cX3_creep 8 = .ok (.getfield 176, 3) := by decide +kernel
theorem dX3_creep_11 : decode cX3_creep 11 = .ok (.invokevirtual 204, 3) := by decide +kernel
theorem dX3_creep_14 : decode cX3_creep 14 = .ok (.if_icmp .le 38, 3) := by decide +kernel
theorem dX3_creep_17 : decode cX3_creep 17 = .ok (.aload_n 1, 1) := by decide +kernel
theorem dX3_creep_18 : decode cX3_creep 18 = .ok (.getfield 176, 3) := by decide +kernel
theorem dX3_creep_21 : decode cX3_creep 21 = .ok (.getfield 188, 3) := by decide +kernel
theorem dX3_creep_24 : decode cX3_creep 24 = .ok (.aload_n 2, 1) := by decide +kernel
theorem dX3_creep_25 : decode cX3_creep 25 = .ok (.getfield 185, 3) := by decide +kernel
theorem dX3_creep_28 : decode cX3_creep 28 = .ok (.getfield 188, 3) := by decide +kernel
theorem dX3_creep_31 : decode cX3_creep 31 = .ok (.invokestatic 119, 3) := by decide +kernel
theorem dX3_creep_34 : decode cX3_creep 34 = .ok (.bipush 8, 2) := by decide +kernel
theorem dX3_creep_36 : decode cX3_creep 36 = .ok (.idiv, 1) := by decide +kernel
theorem dX3_creep_37 : decode cX3_creep 37 = .ok (.istore_n 3, 1) := by decide +kernel
theorem dX3_creep_38 : decode cX3_creep 38 = .ok (.aload_n 0, 1) := by decide +kernel
theorem dX3_creep_39 : decode cX3_creep 39 = .ok (.aload_n 1, 1) := by decide +kernel
theorem dX3_creep_40 : decode cX3_creep 40 = .ok (.aload_n 2, 1) := by decide +kernel
theorem dX3_creep_41 : decode cX3_creep 41 = .ok (.iload_n 3, 1) := by decide +kernel
theorem dX3_creep_42 : decode cX3_creep 42 = .ok (.invokevirtual 197, 3) := by decide +kernel
theorem dX3_creep_45 : decode cX3_creep 45 = .ok (.aload_n 0, 1) := by decide +kernel
theorem dX3_creep_46 : decode cX3_creep 46 = .ok (.aload_n 2, 1) := by decide +kernel
theorem dX3_creep_47 : decode cX3_creep 47 = .ok (.aload_n 1, 1) := by decide +kernel
theorem dX3_creep_48 : decode cX3_creep 48 = .ok (.iload_n 3, 1) := by decide +kernel
theorem dX3_creep_49 : decode cX3_creep 49 = .ok (.invokevirtual 201, 3) := by decide +kernel
theorem dX3_creep_52 : decode cX3_creep 52 = .ok (.return_, 1) := by decide +kernel
theorem dX3_flowInLow_0 : decode cX3_flowInLow 0 = .ok (.aload_n 1, 1) := by decide +kernel
theorem dX3_flowInLow_1 : decode cX3_flowInLow 1 = .ok (.getfield 176, 3) := by decide +kernel
theorem dX3_flowInLow_4 : decode cX3_flowInLow 4 = .ok (.iload_n 3, 1) := by decide +kernel
theorem dX3_flowInLow_5 : decode cX3_flowInLow 5 = .ok (.invokevirtual 194, 3) := by decide +kernel
theorem dX3_flowInLow_8 : decode cX3_flowInLow 8 = .ok (.istore 4, 2) := by decide +kernel
theorem dX3_flowInLow_10 : decode cX3_flowInLow 10 = .ok (.aload_n 2, 1) := by decide +kernel
theorem dX3_flowInLow_11 : decode cX3_flowInLow 11 = .ok (.getfield 176, 3) := by decide +kernel
theorem dX3_flowInLow_14 : decode cX3_flowInLow 14 = .ok (.iload_n 3, 1) := by decide +kernel
theorem dX3_flowInLow_15 : decode cX3_flowInLow 15 = .ok (.iload 4, 2) := by decide +kernel
theorem dX3_flowInLow_17 : decode cX3_flowInLow 17 = .ok (.invokevirtual 180, 3) := by decide +kernel
theorem dX3_flowInLow_20 : decode cX3_flowInLow 20 = .ok (.return_, 1) := by decide +kernel
theorem dX3_flowInUp_0 : decode cX3_flowInUp 0 = .ok (.aload_n 1, 1) := by decide +kernel
theorem dX3_flowInUp_1 : decode cX3_flowInUp 1 = .ok (.iload_n 3, 1) := by decide +kernel
theorem dX3_flowInUp_2 : decode cX3_flowInUp 2 = .ok (.invokevirtual 191, 3) := by decide +kernel
theorem dX3_flowInUp_5 : decode cX3_flowInUp 5 = .ok (.istore 4, 2) := by decide +kernel
theorem dX3_flowInUp_7 : decode cX3_flowInUp 7 = .ok (.aload_n 1, 1) := by decide +kernel
theorem dX3_flowInUp_8 : decode cX3_flowInUp 8 = .ok (.getfield 185, 3) := by decide +kernel
theorem dX3_flowInUp_11 : decode cX3_flowInUp 11 = .ok (.iload_n 3, 1) := by decide +kernel
theorem dX3_flowInUp_12 : decode cX3_flowInUp 12 = .ok (.invokevirtual 194, 3) := by decide +kernel
theorem dX3_flowInUp_15 : decode cX3_flowInUp 15 = .ok (.istore 5, 2) := by decide +kernel
theorem dX3_flowInUp_17 : decode cX3_flowInUp 17 = .ok (.aload_n 2, 1) := by decide +kernel
theorem dX3_flowInUp_18 : decode cX3_flowInUp 18 = .ok (.dup, 1) := by decide +kernel
theorem dX3_flowInUp_19 : decode cX3_flowInUp 19 = .ok (.getfield 108, 3) := by decide +kernel
theorem dX3_flowInUp_22 : decode cX3_flowInUp 22 = .ok (.iload 4, 2) := by decide +kernel
theorem dX3_flowInUp_24 : decode cX3_flowInUp 24 = .ok (.iadd, 1) := by decide +kernel
theorem dX3_flowInUp_25 : decode cX3_flowInUp 25 = .ok (.putfield 108, 3) := by decide +kernel
theorem dX3_flowInUp_28 : decode cX3_flowInUp 28 = .ok (.aload_n 2, 1) := by decide +kernel
theorem dX3_flowInUp_29 : decode cX3_flowInUp 29 = .ok (.getfield 185, 3) := by decide +kernel
theorem dX3_flowInUp_32 : decode cX3_flowInUp 32 = .ok (.iload_n 3, 1) := by decide +kernel
theorem dX3_flowInUp_33 : decode cX3_flowInUp 33 = .ok (.iload 5, 2) := by decide +kernel
theorem dX3_flowInUp_35 : decode cX3_flowInUp 35 = .ok (.invokevirtual 180, 3) := by decide +kernel
theorem dX3_flowInUp_38 : decode cX3_flowInUp 38 = .ok (.return_, 1) := by decide +kernel
theorem dX3_serveIntakes_0 : decode cX3_serveIntakes 0 = .ok (.iconst 0, 1) := by decide +kernel
theorem dX3_serveIntakes_1 : decode cX3_serveIntakes 1 = .ok (.istore_n 1, 1) := by decide +kernel
theorem dX3_serveIntakes_2 : decode cX3_serveIntakes 2 = .ok (.iload_n 1, 1) := by decide +kernel
theorem dX3_serveIntakes_3 : decode cX3_serveIntakes 3 = .ok (.aload_n 0, 1) := by decide +kernel
theorem dX3_serveIntakes_4 : decode cX3_serveIntakes 4 = .ok (.getfield 51, 3) := by decide +kernel
theorem dX3_serveIntakes_7 : decode cX3_serveIntakes 7 = .ok (.if_icmp .ge 51, 3) := by decide +kernel
theorem dX3_serveIntakes_10 : decode cX3_serveIntakes 10 = .ok (.aload_n 0, 1) := by decide +kernel
theorem dX3_serveIntakes_11 : decode cX3_serveIntakes 11 = .ok (.getfield 33, 3) := by decide +kernel
theorem dX3_serveIntakes_14 : decode cX3_serveIntakes 14 = .ok (.iload_n 1, 1) := by decide +kernel
theorem dX3_serveIntakes_15 : decode cX3_serveIntakes 15 = .ok (.aaload, 1) := by decide +kernel
theorem dX3_serveIntakes_16 : decode cX3_serveIntakes 16 = .ok (.astore_n 2, 1) := by decide +kernel
theorem dX3_serveIntakes_17 : decode cX3_serveIntakes 17 = .ok (.aload_n 0, 1) := by decide +kernel
theorem dX3_serveIntakes_18 : decode cX3_serveIntakes 18 = .ok (.aload_n 2, 1) := by decide +kernel
theorem dX3_serveIntakes_19 : decode cX3_serveIntakes 19 = .ok (.getfield 207, 3) := by decide +kernel
theorem dX3_serveIntakes_22 : decode cX3_serveIntakes 22 = .ok (.invokevirtual 98, 3) := by decide +kernel
theorem dX3_serveIntakes_25 : decode cX3_serveIntakes 25 = .ok (.ifCond .eq 23, 3) := by decide +kernel
theorem dX3_serveIntakes_28 : decode cX3_serveIntakes 28 = .ok (.aload_n 2, 1) := by decide +kernel
theorem dX3_serveIntakes_29 : decode cX3_serveIntakes 29 = .ok (.aload_n 0, 1) := by decide +kernel
theorem dX3_serveIntakes_30 : decode cX3_serveIntakes 30 = .ok (.getfield 27, 3) := by decide +kernel
theorem dX3_serveIntakes_33 : decode cX3_serveIntakes 33 = .ok (.aload_n 2, 1) := by decide +kernel
theorem dX3_serveIntakes_34 : decode cX3_serveIntakes 34 = .ok (.getfield 207, 3) := by decide +kernel
theorem dX3_serveIntakes_37 : decode cX3_serveIntakes 37 = .ok (.aaload, 1) := by decide +kernel
theorem dX3_serveIntakes_38 : decode cX3_serveIntakes 38 = .ok (.getfield 185, 3) := by decide +kernel
theorem dX3_serveIntakes_41 : decode cX3_serveIntakes 41 = .ok (.aload_n 0, 1) := by decide +kernel
theorem dX3_serveIntakes_42 : decode cX3_serveIntakes 42 = .ok (.getfield 37, 3) := by decide +kernel
theorem dX3_serveIntakes_45 : decode cX3_serveIntakes 45 = .ok (.invokevirtual 210, 3) := by decide +kernel
theorem dX3_serveIntakes_48 : decode cX3_serveIntakes 48 = .ok (.aload_n 2, 1) := by decide +kernel
theorem dX3_serveIntakes_49 : decode cX3_serveIntakes 49 = .ok (.invokevirtual 214, 3) := by decide +kernel
theorem dX3_serveIntakes_52 : decode cX3_serveIntakes 52 = .ok (.iinc 1 1, 3) := by decide +kernel
theorem dX3_serveIntakes_55 : decode cX3_serveIntakes 55 = .ok (.goto (-53), 3) := by decide +kernel
theorem dX3_serveIntakes_58 : decode cX3_serveIntakes 58 = .ok (.return_, 1) := by decide +kernel
theorem dX4_init_0 : decode cX4_init 0 = .ok (.aload_n 0, 1) := by decide +kernel
theorem dX4_init_1 : decode cX4_init 1 = .ok (.invokespecial 1, 3) := by decide +kernel
theorem dX4_init_4 : decode cX4_init 4 = .ok (.return_, 1) := by decide +kernel
theorem dX5_init_0 : decode cX5_init 0 = .ok (.aload_n 0, 1) := by decide +kernel
theorem dX5_init_1 : decode cX5_init 1 = .ok (.invokespecial 3, 3) := by decide +kernel
theorem dX5_init_4 : decode cX5_init 4 = .ok (.aload_n 0, 1) := by decide +kernel
theorem dX5_init_5 : decode cX5_init 5 = .ok (.bipush 6, 2) := by decide +kernel
theorem dX5_init_7 : decode cX5_init 7 = .ok (.anewarray 9, 3) := by decide +kernel
theorem dX5_init_10 : decode cX5_init 10 = .ok (.putfield 11, 3) := by decide +kernel
theorem dX5_init_13 : decode cX5_init 13 = .ok (.aload_n 0, 1) := by decide +kernel
theorem dX5_init_14 : decode cX5_init 14 = .ok (.bipush 20, 2) := by decide +kernel
theorem dX5_init_16 : decode cX5_init 16 = .ok (.anewarray 17, 3) := by decide +kernel
theorem dX5_init_19 : decode cX5_init 19 = .ok (.putfield 19, 3) := by decide +kernel
theorem dX5_init_22 : decode cX5_init 22 = .ok (.aload_n 0, 1) := by decide +kernel
theorem dX5_init_23 : decode cX5_init 23 = .ok (.sipush 1000, 3) := by decide +kernel
theorem dX5_init_26 : decode cX5_init 26 = .ok (.newarray .int, 2) := by decide +kernel
theorem dX5_init_28 : decode cX5_init 28 = .ok (.putfield 23, 3) := by decide +kernel
theorem dX5_init_31 : decode cX5_init 31 = .ok (.aload_n 0, 1) := by decide +kernel
theorem dX5_init_32 : decode cX5_init 32 = .ok (.bipush 50, 2) := by decide +kernel
theorem dX5_init_34 : decode cX5_init 34 = .ok (.putfield 27, 3) := by decide +kernel
theorem dX5_init_37 : decode cX5_init 37 = .ok (.iconst 0, 1) := by decide +kernel
theorem dX5_init_38 : decode cX5_init 38 = .ok (.istore_n 1, 1) := by decide +kernel
theorem dX5_init_39 : decode cX5_init 39 = .ok (.iload_n 1, 1) := by decide +kernel
theorem dX5_init_40 : decode cX5_init 40 = .ok (.aload_n 0, 1) := by decide +kernel
theorem dX5_init_41 : decode cX5_init 41 = .ok (.getfield 11, 3) := by decide +kernel
theorem dX5_init_44 : decode cX5_init 44 = .ok (.arraylength, 1) := by decide +kernel
theorem dX5_init_45 : decode cX5_init 45 = .ok (.if_icmp .ge 22, 3) := by decide +kernel
theorem dX5_init_48 : decode cX5_init 48 = .ok (.aload_n 0, 1) := by decide +kernel
theorem dX5_init_49 : decode cX5_init 49 = .ok (.getfield 11, 3) := by decide +kernel
theorem dX5_init_52 : decode cX5_init 52 = .ok (.iload_n 1, 1) := by decide +kernel
theorem dX5_init_53 : decode cX5_init 53 = .ok (.new 9, 3) := by decide +kernel
theorem dX5_init_56 : decode cX5_init 56 = .ok (.dup, 1) := by decide +kernel
theorem dX5_init_57 : decode cX5_init 57 = .ok (.invokespecial 31, 3) := by decide +kernel
theorem dX5_init_60 : decode cX5_init 60 = .ok (.aastore, 1) := by decide +kernel
theorem dX5_init_61 : decode cX5_init 61 = .ok (.iinc 1 1, 3) := by decide +kernel
theorem dX5_init_64 : decode cX5_init 64 = .ok (.goto (-25), 3) := by decide +kernel
theorem dX5_init_67 : decode cX5_init 67 = .ok (.iconst 0, 1) := by decide +kernel
theorem dX5_init_68 : decode cX5_init 68 = .ok (.istore_n 1, 1) := by decide +kernel
theorem dX5_init_69 : decode cX5_init 69 = .ok (.iload_n 1, 1) := by decide +kernel
theorem dX5_init_70 : decode cX5_init 70 = .ok (.aload_n 0, 1) := by decide +kernel
theorem dX5_init_71 : decode cX5_init 71 = .ok (.getfield 19, 3) := by decide +kernel
theorem dX5_init_74 : decode cX5_init 74 = .ok (.arraylength, 1) := by decide +kernel
theorem dX5_init_75 : decode cX5_init 75 = .ok (.if_icmp .ge 22, 3) := by decide +kernel
theorem dX5_init_78 : decode cX5_init 78 = .ok (.aload_n 0, 1) := by decide +kernel
theorem dX5_init_79 : decode cX5_init 79 = .ok (.getfield 19, 3) := by decide +kernel
theorem dX5_init_82 : decode cX5_init 82 = .ok (.iload_n 1, 1) := by decide +kernel
theorem dX5_init_83 : decode cX5_init 83 = .ok (.new 17, 3) := by decide +kernel
theorem dX5_init_86 : decode cX5_init 86 = .ok (.dup, 1) := by decide +kernel
theorem dX5_init_87 : decode cX5_init 87 = .ok (.invokespecial 32, 3) := by decide +kernel
theorem dX5_init_90 : decode cX5_init 90 = .ok (.aastore, 1) := by decide +kernel
theorem dX5_init_91 : decode cX5_init 91 = .ok (.iinc 1 1, 3) := by decide +kernel
theorem dX5_init_94 : decode cX5_init 94 = .ok (.goto (-25), 3) := by decide +kernel
theorem dX5_init_97 : decode cX5_init 97 = .ok (.return_, 1) := by decide +kernel
theorem dX5_begin_0 : decode cX5_begin 0 = .ok (.aload_n 0, 1) := by decide +kernel
theorem dX5_begin_1 : decode cX5_begin 1 = .ok (.iconst 0, 1) := by decide +kernel
theorem dX5_begin_2 : decode cX5_begin 2 = .ok (.putfield 33, 3) := by decide +kernel
theorem dX5_begin_5 : decode cX5_begin 5 = .ok (.aload_n 0, 1) := by decide +kernel
theorem dX5_begin_6 : decode cX5_begin 6 = .ok (.iconst 0, 1) := by decide +kernel
theorem dX5_begin_7 : decode cX5_begin 7 = .ok (.putfield 36, 3) := by decide +kernel
theorem dX5_begin_10 : decode cX5_begin 10 = .ok (.aload_n 0, 1) := by decide +kernel
theorem dX5_begin_11 : decode cX5_begin 11 = .ok (.bipush 50, 2) := by decide +kernel
theorem dX5_begin_13 : decode cX5_begin 13 = .ok (.putfield 27, 3) := by decide +kernel
theorem dX5_begin_16 : decode cX5_begin 16 = .ok (.return_, 1) := by decide +kernel
theorem dX5_addTurn_0 : decode cX5_addTurn 0 = .ok (.aload_n 0, 1) := by decide +kernel
theorem dX5_addTurn_1 : decode cX5_addTurn 1 = .ok (.getfield 33, 3) := by decide +kernel
theorem dX5_addTurn_4 : decode cX5_addTurn 4 = .ok (.aload_n 0, 1) := by decide +kernel
theorem dX5_addTurn_5 : decode cX5_addTurn 5 = .ok (.getfield 11, 3) := by decide +kernel
theorem dX5_addTurn_8 : decode cX5_addTurn 8 = .ok (.arraylength, 1) := by decide +kernel
theorem dX5_addTurn_9 : decode cX5_addTurn 9 = .ok (.if_icmp .lt 4, 3) := by decide +kernel
theorem dX5_addTurn_12 : decode cX5_addTurn 12 = .ok (.return_, 1) := by decide +kernel
theorem dX5_addTurn_13 : decode cX5_addTurn 13 = .ok (.aload_n 0, 1) := by decide +kernel
theorem dX5_addTurn_14 : decode cX5_addTurn 14 = .ok (.getfield 11, 3) := by decide +kernel
theorem dX5_addTurn_17 : decode cX5_addTurn 17 = .ok (.aload_n 0, 1) := by decide +kernel
theorem dX5_addTurn_18 : decode cX5_addTurn 18 = .ok (.getfield 33, 3) := by decide +kernel
theorem dX5_addTurn_21 : decode cX5_addTurn 21 = .ok (.aaload, 1) := by decide +kernel
theorem dX5_addTurn_22 : decode cX5_addTurn 22 = .ok (.astore 5, 2) := by decide +kernel
theorem dX5_addTurn_24 : decode cX5_addTurn 24 = .ok (.aload 5, 2) := by decide +kernel
theorem dX5_addTurn_26 : decode cX5_addTurn 26 = .ok (.iload_n 1, 1) := by decide +kernel
theorem dX5_addTurn_27 : decode cX5_addTurn 27 = .ok (.putfield 39, 3) := by decide +kernel
theorem dX5_addTurn_30 : decode cX5_addTurn 30 = .ok (.aload 5, 2) := by decide +kernel
theorem dX5_addTurn_32 : decode cX5_addTurn 32 = .ok (.iload_n 2, 1) := by decide +kernel
theorem dX5_addTurn_33 : decode cX5_addTurn 33 = .ok (.putfield 42, 3) := by decide +kernel
theorem dX5_addTurn_36 : decode cX5_addTurn 36 = .ok (.aload 5, 2) := by decide +kernel
theorem dX5_addTurn_38 : decode cX5_addTurn 38 = .ok (.iload_n 3, 1) := by decide +kernel
theorem dX5_addTurn_39 : decode cX5_addTurn 39 = .ok (.putfield 45, 3) := by decide +kernel
theorem dX5_addTurn_42 : decode cX5_addTurn 42 = .ok (.aload 5, 2) := by decide +kernel
theorem dX5_addTurn_44 : decode cX5_addTurn 44 = .ok (.iload 4, 2) := by decide +kernel
theorem dX5_addTurn_46 : decode cX5_addTurn 46 = .ok (.putfield 48, 3) := by decide +kernel
theorem dX5_addTurn_49 : decode cX5_addTurn 49 = .ok (.aload_n 0, 1) := by decide +kernel
theorem dX5_addTurn_50 : decode cX5_addTurn 50 = .ok (.dup, 1) := by decide +kernel
theorem dX5_addTurn_51 : decode cX5_addTurn 51 = .ok (.getfield 33, 3) := by decide +kernel
theorem dX5_addTurn_54 : decode cX5_addTurn 54 = .ok (.iconst 1, 1) := by decide +kernel
theorem dX5_addTurn_55 : decode cX5_addTurn 55 = .ok (.iadd, 1) := by decide +kernel
theorem dX5_addTurn_56 : decode cX5_addTurn 56 = .ok (.putfield 33, 3) := by decide +kernel
theorem dX5_addTurn_59 : decode cX5_addTurn 59 = .ok (.return_, 1) := by decide +kernel
theorem dX5_addSurge_0 : decode cX5_addSurge 0 = .ok (.aload_n 0, 1) := by decide +kernel
theorem dX5_addSurge_1 : decode cX5_addSurge 1 = .ok (.getfield 36, 3) := by decide +kernel
theorem dX5_addSurge_4 : decode cX5_addSurge 4 = .ok (.aload_n 0, 1) := by decide +kernel
theorem dX5_addSurge_5 : decode cX5_addSurge 5 = .ok (.getfield 19, 3) := by decide +kernel
theorem dX5_addSurge_8 : decode cX5_addSurge 8 = .ok (.arraylength, 1) := by decide +kernel
theorem dX5_addSurge_9 : decode cX5_addSurge 9 = .ok (.if_icmp .lt 4, 3) := by decide +kernel
theorem dX5_addSurge_12 : decode cX5_addSurge 12 = .ok (.return_, 1) := by decide +kernel
theorem dX5_addSurge_13 : decode cX5_addSurge 13 = .ok (.aload_n 0, 1) := by decide +kernel
theorem dX5_addSurge_14 : decode cX5_addSurge 14 = .ok (.getfield 19, 3) := by decide +kernel
theorem dX5_addSurge_17 : decode cX5_addSurge 17 = .ok (.aload_n 0, 1) := by decide +kernel
theorem dX5_addSurge_18 : decode cX5_addSurge 18 = .ok (.getfield 36, 3) := by decide +kernel
theorem dX5_addSurge_21 : decode cX5_addSurge 21 = .ok (.aaload, 1) := by decide +kernel
theorem dX5_addSurge_22 : decode cX5_addSurge 22 = .ok (.astore 4, 2) := by decide +kernel
theorem dX5_addSurge_24 : decode cX5_addSurge 24 = .ok (.aload 4, 2) := by decide +kernel
theorem dX5_addSurge_26 : decode cX5_addSurge 26 = .ok (.iload_n 1, 1) := by decide +kernel
theorem dX5_addSurge_27 : decode cX5_addSurge 27 = .ok (.putfield 51, 3) := by decide +kernel
theorem dX5_addSurge_30 : decode cX5_addSurge 30 = .ok (.aload 4, 2) := by decide +kernel
theorem dX5_addSurge_32 : decode cX5_addSurge 32 = .ok (.iload_n 2, 1) := by decide +kernel
theorem dX5_addSurge_33 : decode cX5_addSurge 33 = .ok (.putfield 54, 3) := by decide +kernel
theorem dX5_addSurge_36 : decode cX5_addSurge 36 = .ok (.aload 4, 2) := by decide +kernel
theorem dX5_addSurge_38 : decode cX5_addSurge 38 = .ok (.iload_n 3, 1) := by decide +kernel
theorem dX5_addSurge_39 : decode cX5_addSurge 39 = .ok (.putfield 57, 3) := by decide +kernel
theorem dX5_addSurge_42 : decode cX5_addSurge 42 = .ok (.aload_n 0, 1) := by decide +kernel
theorem dX5_addSurge_43 : decode cX5_addSurge 43 = .ok (.dup, 1) := by decide +kernel
theorem dX5_addSurge_44 : decode cX5_addSurge 44 = .ok (.getfield 36, 3) := by decide +kernel
theorem dX5_addSurge_47 : decode cX5_addSurge 47 = .ok (.iconst 1, 1) := by decide +kernel
theorem dX5_addSurge_48 : decode cX5_addSurge 48 = .ok (.iadd, 1) := by decide +kernel
theorem dX5_addSurge_49 : decode cX5_addSurge 49 = .ok (.putfield 36, 3) := by decide +kernel
theorem dX5_addSurge_52 : decode cX5_addSurge 52 = .ok (.return_, 1) := by decide +kernel
theorem dX5_foretold_0 : decode cX5_foretold 0 = .ok (.aload_n 0, 1) := by decide +kernel
theorem dX5_foretold_1 : decode cX5_foretold 1 = .ok (.getfield 27, 3) := by decide +kernel
theorem dX5_foretold_4 : decode cX5_foretold 4 = .ok (.istore_n 2, 1) := by decide +kernel
theorem dX5_foretold_5 : decode cX5_foretold 5 = .ok (.iconst 0, 1) := by decide +kernel
theorem dX5_foretold_6 : decode cX5_foretold 6 = .ok (.istore_n 3, 1) := by decide +kernel
theorem dX5_foretold_7 : decode cX5_foretold 7 = .ok (.iload_n 3, 1) := by decide +kernel
theorem dX5_foretold_8 : decode cX5_foretold 8 = .ok (.aload_n 0, 1) := by decide +kernel
theorem dX5_foretold_9 : decode cX5_foretold 9 = .ok (.getfield 33, 3) := by decide +kernel
theorem dX5_foretold_12 : decode cX5_foretold 12 = .ok (.if_icmp .ge 22, 3) := by decide +kernel
theorem dX5_foretold_15 : decode cX5_foretold 15 = .ok (.iload_n 2, 1) := by decide +kernel
theorem dX5_foretold_16 : decode cX5_foretold 16 = .ok (.aload_n 0, 1) := by decide +kernel
theorem dX5_foretold_17 : decode cX5_foretold 17 = .ok (.getfield 11, 3) := by decide +kernel
theorem dX5_foretold_20 : decode cX5_foretold 20 = .ok (.iload_n 3, 1) := by decide +kernel
theorem dX5_foretold_21 : decode cX5_foretold 21 = .ok (.aaload, 1) := by decide +kernel
theorem dX5_foretold_22 : decode cX5_foretold 22 = .ok (.iload_n 1, 1) := by decide +kernel
theorem dX5_foretold_23 : decode cX5_foretold 23 = .ok (.invokevirtual 60, 3) := by decide +kernel
theorem dX5_foretold_26 : decode cX5_foretold 26 = .ok (.iadd, 1) := by decide +kernel
theorem dX5_foretold_27 : decode cX5_foretold 27 = .ok (.istore_n 2, 1) := by decide +kernel
theorem dX5_foretold_28 : decode cX5_foretold 28 = .ok (.iinc 3 1, 3) := by decide +kernel
theorem dX5_foretold_31 : decode cX5_foretold 31 = .ok (.goto (-24), 3) := by decide +kernel
theorem dX5_foretold_34 : decode cX5_foretold 34 = .ok (.iconst 0, 1) := by decide +kernel
theorem dX5_foretold_35 : decode cX5_foretold 35 = .ok (.istore_n 3, 1) := by decide +kernel
theorem dX5_foretold_36 : decode cX5_foretold 36 = .ok (.iload_n 3, 1) := by decide +kernel
theorem dX5_foretold_37 : decode cX5_foretold 37 = .ok (.aload_n 0, 1) := by decide +kernel
theorem dX5_foretold_38 : decode cX5_foretold 38 = .ok (.getfield 36, 3) := by decide +kernel
theorem dX5_foretold_41 : decode cX5_foretold 41 = .ok (.if_icmp .ge 47, 3) := by decide +kernel
theorem dX5_foretold_44 : decode cX5_foretold 44 = .ok (.aload_n 0, 1) := by decide +kernel
theorem dX5_foretold_45 : decode cX5_foretold 45 = .ok (.getfield 19, 3) := by decide +kernel
theorem dX5_foretold_48 : decode cX5_foretold 48 = .ok (.iload_n 3, 1) := by decide +kernel
theorem dX5_foretold_49 : decode cX5_foretold 49 = .ok (.aaload, 1) := by decide +kernel
theorem dX5_foretold_50 : decode cX5_foretold 50 = .ok (.getfield 51, 3) := by decide +kernel
theorem dX5_foretold_53 : decode cX5_foretold 53 = .ok (.iload_n 1, 1) := by decide +kernel
theorem dX5_foretold_54 : decode cX5_foretold 54 = .ok (.if_icmp .gt 28, 3) := by decide +kernel
theorem dX5_foretold_57 : decode cX5_foretold 57 = .ok (.iload_n 1, 1) := by decide +kernel
theorem dX5_foretold_58 : decode cX5_foretold 58 = .ok (.aload_n 0, 1) := by decide +kernel
theorem dX5_foretold_59 : decode cX5_foretold 59 = .ok (.getfield 19, 3) := by decide +kernel
theorem dX5_foretold_62 : decode cX5_foretold 62 = .ok (.iload_n 3, 1) := by decide +kernel
theorem dX5_foretold_63 : decode cX5_foretold 63 = .ok (.aaload, 1) := by decide +kernel
theorem dX5_foretold_64 : decode cX5_foretold 64 = .ok (.getfield 54, 3) := by decide +kernel
theorem dX5_foretold_67 : decode cX5_foretold 67 = .ok (.if_icmp .gt 15, 3) := by decide +kernel
theorem dX5_foretold_70 : decode cX5_foretold 70 = .ok (.iload_n 2, 1) := by decide +kernel
theorem dX5_foretold_71 : decode cX5_foretold 71 = .ok (.aload_n 0, 1) := by decide +kernel
theorem dX5_foretold_72 : decode cX5_foretold 72 = .ok (.getfield 19, 3) := by decide +kernel
theorem dX5_foretold_75 : decode cX5_foretold 75 = .ok (.iload_n 3, 1) := by decide +kernel
theorem dX5_foretold_76 : decode cX5_foretold 76 = .ok (.aaload, 1) := by decide +kernel
theorem dX5_foretold_77 : decode cX5_foretold 77 = .ok (.getfield 57, 3) := by decide +kernel
theorem dX5_foretold_80 : decode cX5_foretold 80 = .ok (.iadd, 1) := by decide +kernel
theorem dX5_foretold_81 : decode cX5_foretold 81 = .ok (.istore_n 2, 1) := by decide +kernel
theorem dX5_foretold_82 : decode cX5_foretold 82 = .ok (.iinc 3 1, 3) := by decide +kernel
theorem dX5_foretold_85 : decode cX5_foretold 85 = .ok (.goto (-49), 3) := by decide +kernel
theorem dX5_foretold_88 : decode cX5_foretold 88 = .ok (.iload_n 2, 1) := by decide +kernel
theorem dX5_foretold_89 : decode cX5_foretold 89 = .ok (.ireturn, 1) := by decide +kernel
theorem dX5_foretoldAbove_0 : decode cX5_foretoldAbove 0 = .ok (.iload_n 2, 1) := by decide +kernel
theorem dX5_foretoldAbove_1 : decode cX5_foretoldAbove 1 = .ok (.istore 4, 2) := by decide +kernel
theorem dX5_foretoldAbove_3 : decode cX5_foretoldAbove 3 = .ok (.iload 4, 2) := by decide +kernel
theorem dX5_foretoldAbove_5 : decode cX5_foretoldAbove 5 = .ok (.iload_n 3, 1) := by decide +kernel
theorem dX5_foretoldAbove_6 : decode cX5_foretoldAbove 6 = .ok (.if_icmp .gt 21, 3) := by decide +kernel
theorem dX5_foretoldAbove_9 : decode cX5_foretoldAbove 9 = .ok (.aload_n 0, 1) := by decide +kernel
theorem dX5_foretoldAbove_10 : decode cX5_foretoldAbove 10 = .ok (.iload 4, 2) := by decide +kernel
theorem dX5_foretoldAbove_12 : decode cX5_foretoldAbove 12 = .ok (.invokevirtual 63, 3) := by decide +kernel
theorem dX5_foretoldAbove_15 : decode cX5_foretoldAbove 15 = .ok (.iload_n 1, 1) := by decide +kernel
theorem dX5_foretoldAbove_16 : decode cX5_foretoldAbove 16 = .ok (.if_icmp .le 5, 3) := by decide +kernel
theorem dX5_foretoldAbove_19 : decode cX5_foretoldAbove 19 = .ok (.iconst 1, 1) := by decide +kernel
theorem dX5_foretoldAbove_20 : decode cX5_foretoldAbove 20 = .ok (.ireturn, 1) := by decide +kernel
theorem dX5_foretoldAbove_21 : decode cX5_foretoldAbove 21 = .ok (.iinc 4 1, 3) := by decide +kernel
theorem dX5_foretoldAbove_24 : decode cX5_foretoldAbove 24 = .ok (.goto (-21), 3) := by decide +kernel
theorem dX5_foretoldAbove_27 : decode cX5_foretoldAbove 27 = .ok (.iconst 0, 1) := by decide +kernel
theorem dX5_foretoldAbove_28 : decode cX5_foretoldAbove 28 = .ok (.ireturn, 1) := by decide +kernel
theorem dX5_keep_0 : decode cX5_keep 0 = .ok (.iload_n 1, 1) := by decide +kernel
theorem dX5_keep_1 : decode cX5_keep 1 = .ok (.ifCond .lt 19, 3) := by decide +kernel
theorem dX5_keep_4 : decode cX5_keep 4 = .ok (.iload_n 1, 1) := by decide +kernel
theorem dX5_keep_5 : decode cX5_keep 5 = .ok (.aload_n 0, 1) := by decide +kernel
theorem dX5_keep_6 : decode cX5_keep 6 = .ok (.getfield 23, 3) := by decide +kernel
theorem dX5_keep_9 : decode cX5_keep 9 = .ok (.arraylength, 1) := by decide +kernel
theorem dX5_keep_10 : decode cX5_keep 10 = .ok (.if_icmp .ge 10, 3) := by decide +kernel
theorem dX5_keep_13 : decode cX5_keep 13 = .ok (.aload_n 0, 1) := by decide +kernel
theorem dX5_keep_14 : decode cX5_keep 14 = .ok (.getfield 23, 3) := by decide +kernel
theorem dX5_keep_17 : decode cX5_keep 17 = .ok (.iload_n 1, 1) := by decide +kernel
theorem dX5_keep_18 : decode cX5_keep 18 = .ok (.iload_n 2, 1) := by decide +kernel
theorem dX5_keep_19 : decode cX5_keep 19 = .ok (.iastore, 1) := by decide +kernel
theorem dX5_keep_20 : decode cX5_keep 20 = .ok (.return_, 1) := by decide +kernel
theorem dX6_init_0 : decode cX6_init 0 = .ok (.aload_n 0, 1) := by decide +kernel
theorem dX6_init_1 : decode cX6_init 1 = .ok (.invokespecial 3, 3) := by decide +kernel
theorem dX6_init_4 : decode cX6_init 4 = .ok (.aload_n 0, 1) := by decide +kernel
theorem dX6_init_5 : decode cX6_init 5 = .ok (.new 9, 3) := by decide +kernel
theorem dX6_init_8 : decode cX6_init 8 = .ok (.dup, 1) := by decide +kernel
theorem dX6_init_9 : decode cX6_init 9 = .ok (.invokespecial 11, 3) := by decide +kernel
theorem dX6_init_12 : decode cX6_init 12 = .ok (.putfield 12, 3) := by decide +kernel
theorem dX6_init_15 : decode cX6_init 15 = .ok (.aload_n 0, 1) := by decide +kernel
theorem dX6_init_16 : decode cX6_init 16 = .ok (.new 9, 3) := by decide +kernel
theorem dX6_init_19 : decode cX6_init 19 = .ok (.dup, 1) := by decide +kernel
theorem dX6_init_20 : decode cX6_init 20 = .ok (.invokespecial 11, 3) := by decide +kernel
theorem dX6_init_23 : decode cX6_init 23 = .ok (.putfield 18, 3) := by decide +kernel
theorem dX6_init_26 : decode cX6_init 26 = .ok (.aload_n 0, 1) := by decide +kernel
theorem dX6_init_27 : decode cX6_init 27 = .ok (.bipush 24, 2) := by decide +kernel
theorem dX6_init_29 : decode cX6_init 29 = .ok (.newarray .int, 2) := by decide +kernel
theorem dX6_init_31 : decode cX6_init 31 = .ok (.putfield 21, 3) := by decide +kernel
theorem dX6_init_34 : decode cX6_init 34 = .ok (.aload_n 0, 1) := by decide +kernel
theorem dX6_init_35 : decode cX6_init 35 = .ok (.iconst 1, 1) := by decide +kernel
theorem dX6_init_36 : decode cX6_init 36 = .ok (.putfield 25, 3) := by decide +kernel
theorem dX6_init_39 : decode cX6_init 39 = .ok (.return_, 1) := by decide +kernel
theorem dX6_begin_0 : decode cX6_begin 0 = .ok (.aload_n 0, 1) := by decide +kernel
theorem dX6_begin_1 : decode cX6_begin 1 = .ok (.iload_n 1, 1) := by decide +kernel
theorem dX6_begin_2 : decode cX6_begin 2 = .ok (.putfield 25, 3) := by decide +kernel
theorem dX6_begin_5 : decode cX6_begin 5 = .ok (.aload_n 0, 1) := by decide +kernel
theorem dX6_begin_6 : decode cX6_begin 6 = .ok (.iload 4, 2) := by decide +kernel
theorem dX6_begin_8 : decode cX6_begin 8 = .ok (.putfield 29, 3) := by decide +kernel
theorem dX6_begin_11 : decode cX6_begin 11 = .ok (.aload_n 0, 1) := by decide +kernel
theorem dX6_begin_12 : decode cX6_begin 12 = .ok (.getfield 12, 3) := by decide +kernel
theorem dX6_begin_15 : decode cX6_begin 15 = .ok (.iload_n 2, 1) := by decide +kernel
theorem dX6_begin_16 : decode cX6_begin 16 = .ok (.invokevirtual 32, 3) := by decide +kernel
theorem dX6_begin_19 : decode cX6_begin 19 = .ok (.aload_n 0, 1) := by decide +kernel
theorem dX6_begin_20 : decode cX6_begin 20 = .ok (.getfield 18, 3) := by decide +kernel
theorem dX6_begin_23 : decode cX6_begin 23 = .ok (.iload_n 3, 1) := by decide +kernel
theorem dX6_begin_24 : decode cX6_begin 24 = .ok (.invokevirtual 32, 3) := by decide +kernel
theorem dX6_begin_27 : decode cX6_begin 27 = .ok (.aload_n 0, 1) := by decide +kernel
theorem dX6_begin_28 : decode cX6_begin 28 = .ok (.iconst 0, 1) := by decide +kernel
theorem dX6_begin_29 : decode cX6_begin 29 = .ok (.putfield 36, 3) := by decide +kernel
theorem dX6_begin_32 : decode cX6_begin 32 = .ok (.aload_n 0, 1) := by decide +kernel
theorem dX6_begin_33 : decode cX6_begin 33 = .ok (.iconst 0, 1) := by decide +kernel
theorem dX6_begin_34 : decode cX6_begin 34 = .ok (.putfield 39, 3) := by decide +kernel
theorem dX6_begin_37 : decode cX6_begin 37 = .ok (.aload_n 0, 1) := by decide +kernel
theorem dX6_begin_38 : decode cX6_begin 38 = .ok (.iconst 0, 1) := by decide +kernel
theorem dX6_begin_39 : decode cX6_begin 39 = .ok (.putfield 42, 3) := by decide +kernel
theorem dX6_begin_42 : decode cX6_begin 42 = .ok (.return_, 1) := by decide +kernel
theorem dX6_bed_0 : decode cX6_bed 0 = .ok (.aload_n 0, 1) := by decide +kernel
theorem dX6_bed_1 : decode cX6_bed 1 = .ok (.getfield 25, 3) := by decide +kernel
theorem dX6_bed_4 : decode cX6_bed 4 = .ok (.ifCond .gt 7, 3) := by decide +kernel
theorem dX6_bed_7 : decode cX6_bed 7 = .ok (.iconst 0, 1) := by decide +kernel
theorem dX6_bed_8 : decode cX6_bed 8 = .ok (.goto 12, 3) := by decide +kernel
theorem dX6_bed_11 : decode cX6_bed 11 = .ok (.aload_n 0, 1) := by decide +kernel
theorem dX6_bed_12 : decode cX6_bed 12 = .ok (.getfield 29, 3) := by decide +kernel
theorem dX6_bed_15 : decode cX6_bed 15 = .ok (.aload_n 0, 1) := by decide +kernel
theorem dX6_bed_16 : decode cX6_bed 16 = .ok (.getfield 25, 3) := by decide +kernel
theorem dX6_bed_19 : decode cX6_bed 19 = .ok (.idiv, 1) := by decide +kernel
theorem dX6_bed_20 : decode cX6_bed 20 = .ok (.ireturn, 1) := by decide +kernel
theorem dX6_level_0 : decode cX6_level 0 = .ok (.aload_n 0, 1) := by decide +kernel
theorem dX6_level_1 : decode cX6_level 1 = .ok (.getfield 25, 3) := by decide +kernel
theorem dX6_level_4 : decode cX6_level 4 = .ok (.ifCond .gt 7, 3) := by decide +kernel
theorem dX6_level_7 : decode cX6_level 7 = .ok (.iconst 0, 1) := by decide +kernel
theorem dX6_level_8 : decode cX6_level 8 = .ok (.goto 28, 3) := by decide +kernel
theorem dX6_level_11 : decode cX6_level 11 = .ok (.aload_n 0, 1) := by decide +kernel
theorem dX6_level_12 : decode cX6_level 12 = .ok (.invokevirtual 45, 3) := by decide +kernel
theorem dX6_level_15 : decode cX6_level 15 = .ok (.aload_n 0, 1) := by decide +kernel
theorem dX6_level_16 : decode cX6_level 16 = .ok (.getfield 12, 3) := by decide +kernel
theorem dX6_level_19 : decode cX6_level 19 = .ok (.getfield 49, 3) := by decide +kernel
theorem dX6_level_22 : decode cX6_level 22 = .ok (.aload_n 0, 1) := by decide +kernel
theorem dX6_level_23 : decode cX6_level 23 = .ok (.getfield 18, 3) := by decide +kernel
theorem dX6_level_26 : decode cX6_level 26 = .ok (.getfield 49, 3) := by decide +kernel
theorem dX6_level_29 : decode cX6_level 29 = .ok (.iadd, 1) := by decide +kernel
theorem dX6_level_30 : decode cX6_level 30 = .ok (.aload_n 0, 1) := by decide +kernel
theorem dX6_level_31 : decode cX6_level 31 = .ok (.getfield 25, 3) := by decide +kernel
theorem dX6_level_34 : decode cX6_level 34 = .ok (.idiv, 1) := by decide +kernel
theorem dX6_level_35 : decode cX6_level 35 = .ok (.iadd, 1) := by decide +kernel
theorem dX6_level_36 : decode cX6_level 36 = .ok (.ireturn, 1) := by decide +kernel
theorem dX6_giveCloud_0 : decode cX6_giveCloud 0 = .ok (.iload_n 1, 1) := by decide +kernel
theorem dX6_giveCloud_1 : decode cX6_giveCloud 1 = .ok (.aload_n 0, 1) := by decide +kernel
theorem dX6_giveCloud_2 : decode cX6_giveCloud 2 = .ok (.getfield 36, 3) := by decide +kernel
theorem dX6_giveCloud_5 : decode cX6_giveCloud 5 = .ok (.aload_n 0, 1) := by decide +kernel
theorem dX6_giveCloud_6 : decode cX6_giveCloud 6 = .ok (.getfield 12, 3) := by decide +kernel
theorem dX6_giveCloud_9 : decode cX6_giveCloud 9 = .ok (.getfield 49, 3) := by decide +kernel
theorem dX6_giveCloud_12 : decode cX6_giveCloud 12 = .ok (.invokestatic 52, 3) := by decide +kernel
theorem dX6_giveCloud_15 : decode cX6_giveCloud 15 = .ok (.istore_n 2, 1) := by decide +kernel
theorem dX6_giveCloud_16 : decode cX6_giveCloud 16 = .ok (.aload_n 0, 1) := by decide +kernel
theorem dX6_giveCloud_17 : decode cX6_giveCloud 17 = .ok (.dup, 1) := by decide +kernel
theorem dX6_giveCloud_18 : decode cX6_giveCloud 18 = .ok (.getfield 36, 3) := by decide +kernel
theorem dX6_giveCloud_21 : decode cX6_giveCloud 21 = .ok (.iload_n 2, 1) := by decide +kernel
theorem dX6_giveCloud_22 : decode cX6_giveCloud 22 = .ok (.isub, 1) := by decide +kernel
theorem dX6_giveCloud_23 : decode cX6_giveCloud 23 = .ok (.putfield 36, 3) := by decide +kernel
theorem dX6_giveCloud_26 : decode cX6_giveCloud 26 = .ok (.iload_n 2, 1) := by decide +kernel
theorem dX6_giveCloud_27 : decode cX6_giveCloud 27 = .ok (.ireturn, 1) := by decide +kernel
theorem dX6_refusal_0 : decode cX6_refusal 0 = .ok (.aload_n 0, 1) := by decide +kernel
theorem dX6_refusal_1 : decode cX6_refusal 1 = .ok (.getfield 42, 3) := by decide +kernel
theorem dX6_refusal_4 : decode cX6_refusal 4 = .ok (.ifCond .ne 5, 3) := by decide +kernel
theorem dX6_refusal_7 : decode cX6_refusal 7 = .ok (.iconst 1, 1) := by decide +kernel
theorem dX6_refusal_8 : decode cX6_refusal 8 = .ok (.ireturn, 1) := by decide +kernel
theorem dX6_refusal_9 : decode cX6_refusal 9 = .ok (.iload_n 1, 1) := by decide +kernel
theorem dX6_refusal_10 : decode cX6_refusal 10 = .ok (.aload_n 0, 1) := by decide +kernel
theorem dX6_refusal_11 : decode cX6_refusal 11 = .ok (.getfield 42, 3) := by decide +kernel
theorem dX6_refusal_14 : decode cX6_refusal 14 = .ok (.if_icmp .le 5, 3) := by decide +kernel
theorem dX6_refusal_17 : decode cX6_refusal 17 = .ok (.iconst 2, 1) := by decide +kernel
theorem dX6_refusal_18 : decode cX6_refusal 18 = .ok (.ireturn, 1) := by decide +kernel
theorem dX6_refusal_19 : decode cX6_refusal 19 = .ok (.aload_n 0, 1) := by decide +kernel
theorem dX6_refusal_20 : decode cX6_refusal 20 = .ok (.getfield 29, 3) := by decide +kernel
theorem dX6_refusal_23 : decode cX6_refusal 23 = .ok (.iload_n 1, 1) := by decide +kernel
theorem dX6_refusal_24 : decode cX6_refusal 24 = .ok (.if_icmp .ge 7, 3) := by decide +kernel
theorem dX6_refusal_27 : decode cX6_refusal 27 = .ok (.iconst 3, 1) := by decide +kernel
theorem dX6_refusal_28 : decode cX6_refusal 28 = .ok (.goto 4, 3) := by decide +kernel
theorem dX6_refusal_31 : decode cX6_refusal 31 = .ok (.iconst 0, 1) := by decide +kernel
theorem dX6_refusal_32 : decode cX6_refusal 32 = .ok (.ireturn, 1) := by decide +kernel
theorem dX6_mix_0 : decode cX6_mix 0 = .ok (.aload_n 0, 1) := by decide +kernel
theorem dX6_mix_1 : decode cX6_mix 1 = .ok (.getfield 39, 3) := by decide +kernel
theorem dX6_mix_4 : decode cX6_mix 4 = .ok (.bipush 20, 2) := by decide +kernel
theorem dX6_mix_6 : decode cX6_mix 6 = .ok (.if_icmp .ge 4, 3) := by decide +kernel
theorem dX6_mix_9 : decode cX6_mix 9 = .ok (.return_, 1) := by decide +kernel
theorem dX6_mix_10 : decode cX6_mix 10 = .ok (.aload_n 0, 1) := by decide +kernel
theorem dX6_mix_11 : decode cX6_mix 11 = .ok (.getfield 12, 3) := by decide +kernel
theorem dX6_mix_14 : decode cX6_mix 14 = .ok (.getfield 49, 3) := by decide +kernel
theorem dX6_mix_17 : decode cX6_mix 17 = .ok (.aload_n 0, 1) := by decide +kernel
theorem dX6_mix_18 : decode cX6_mix 18 = .ok (.getfield 18, 3) := by decide +kernel
theorem dX6_mix_21 : decode cX6_mix 21 = .ok (.getfield 49, 3) := by decide +kernel
theorem dX6_mix_24 : decode cX6_mix 24 = .ok (.invokestatic 56, 3) := by decide +kernel
theorem dX6_mix_27 : decode cX6_mix 27 = .ok (.iconst 4, 1) := by decide +kernel
theorem dX6_mix_28 : decode cX6_mix 28 = .ok (.idiv, 1) := by decide +kernel
theorem dX6_mix_29 : decode cX6_mix 29 = .ok (.istore_n 1, 1) := by decide +kernel
theorem dX6_mix_30 : decode cX6_mix 30 = .ok (.aload_n 0, 1) := by decide +kernel
theorem dX6_mix_31 : decode cX6_mix 31 = .ok (.getfield 18, 3) := by decide +kernel
theorem dX6_mix_34 : decode cX6_mix 34 = .ok (.iload_n 1, 1) := by decide +kernel
theorem dX6_mix_35 : decode cX6_mix 35 = .ok (.invokevirtual 62, 3) := by decide +kernel
theorem dX6_mix_38 : decode cX6_mix 38 = .ok (.aload_n 0, 1) := by decide +kernel
theorem dX6_mix_39 : decode cX6_mix 39 = .ok (.getfield 12, 3) := by decide +kernel
theorem dX6_mix_42 : decode cX6_mix 42 = .ok (.iload_n 1, 1) := by decide +kernel
theorem dX6_mix_43 : decode cX6_mix 43 = .ok (.invokevirtual 62, 3) := by decide +kernel
theorem dX6_mix_46 : decode cX6_mix 46 = .ok (.isub, 1) := by decide +kernel
theorem dX6_mix_47 : decode cX6_mix 47 = .ok (.istore_n 2, 1) := by decide +kernel
theorem dX6_mix_48 : decode cX6_mix 48 = .ok (.iload_n 2, 1) := by decide +kernel
theorem dX6_mix_49 : decode cX6_mix 49 = .ok (.ifCond .le 29, 3) := by decide +kernel
theorem dX6_mix_52 : decode cX6_mix 52 = .ok (.aload_n 0, 1) := by decide +kernel
theorem dX6_mix_53 : decode cX6_mix 53 = .ok (.getfield 18, 3) := by decide +kernel
theorem dX6_mix_56 : decode cX6_mix 56 = .ok (.dup, 1) := by decide +kernel
theorem dX6_mix_57 : decode cX6_mix 57 = .ok (.getfield 66, 3) := by decide +kernel
theorem dX6_mix_60 : decode cX6_mix 60 = .ok (.iload_n 2, 1) := by decide +kernel
theorem dX6_mix_61 : decode cX6_mix 61 = .ok (.isub, 1) := by decide +kernel
theorem dX6_mix_62 : decode cX6_mix 62 = .ok (.putfield 66, 3) := by decide +kernel
theorem dX6_mix_65 : decode cX6_mix 65 = .ok (.aload_n 0, 1) := by decide +kernel
theorem dX6_mix_66 : decode cX6_mix 66 = .ok (.getfield 12, 3) := by decide +kernel
theorem dX6_mix_69 : decode cX6_mix 69 = .ok (.dup, 1) := by decide +kernel
theorem dX6_mix_70 : decode cX6_mix 70 = .ok (.getfield 66, 3) := by decide +kernel
theorem dX6_mix_73 : decode cX6_mix 73 = .ok (.iload_n 2, 1) := by decide +kernel
theorem dX6_mix_74 : decode cX6_mix 74 = .ok (.iadd, 1) := by decide +kernel
theorem dX6_mix_75 : decode cX6_mix 75 = .ok (.putfield 66, 3) := by decide +kernel
theorem dX6_mix_78 : decode cX6_mix 78 = .ok (.return_, 1) := by decide +kernel
theorem dX6_settleOrLift_0 : decode cX6_settleOrLift 0 = .ok (.aload_n 0, 1) := by decide +kernel
theorem dX6_settleOrLift_1 : decode cX6_settleOrLift 1 = .ok (.getfield 39, 3) := by decide +kernel
theorem dX6_settleOrLift_4 : decode cX6_settleOrLift 4 = .ok (.bipush 10, 2) := by decide +kernel
theorem dX6_settleOrLift_6 : decode cX6_settleOrLift 6 = .ok (.if_icmp .ge 38, 3) := by decide +kernel
theorem dX6_settleOrLift_9 : decode cX6_settleOrLift 9 = .ok (.aload_n 0, 1) := by decide +kernel
theorem dX6_settleOrLift_10 : decode cX6_settleOrLift 10 = .ok (.getfield 36, 3) := by decide +kernel
theorem dX6_settleOrLift_13 : decode cX6_settleOrLift 13 = .ok (.aload_n 0, 1) := by decide +kernel
theorem dX6_settleOrLift_14 : decode cX6_settleOrLift 14 = .ok (.getfield 36, 3) := by decide +kernel
theorem dX6_settleOrLift_17 : decode cX6_settleOrLift 17 = .ok (.iconst 2, 1) := by decide +kernel
theorem dX6_settleOrLift_18 : decode cX6_settleOrLift 18 = .ok (.idiv, 1) := by decide +kernel
theorem dX6_settleOrLift_19 : decode cX6_settleOrLift 19 = .ok (.isub, 1) := by decide +kernel
theorem dX6_settleOrLift_20 : decode cX6_settleOrLift 20 = .ok (.istore_n 1, 1) := by decide +kernel
theorem dX6_settleOrLift_21 : decode cX6_settleOrLift 21 = .ok (.aload_n 0, 1) := by decide +kernel
theorem dX6_settleOrLift_22 : decode cX6_settleOrLift 22 = .ok (.dup, 1) := by decide +kernel
theorem dX6_settleOrLift_23 : decode cX6_settleOrLift 23 = .ok (.getfield 36, 3) := by decide +kernel
theorem dX6_settleOrLift_26 : decode cX6_settleOrLift 26 = .ok (.iload_n 1, 1) := by decide +kernel
theorem dX6_settleOrLift_27 : decode cX6_settleOrLift 27 = .ok (.isub, 1) := by decide +kernel
theorem dX6_settleOrLift_28 : decode cX6_settleOrLift 28 = .ok (.putfield 36, 3) := by decide +kernel
theorem dX6_settleOrLift_31 : decode cX6_settleOrLift 31 = .ok (.aload_n 0, 1) := by decide +kernel
theorem dX6_settleOrLift_32 : decode cX6_settleOrLift 32 = .ok (.dup, 1) := by decide +kernel
theorem dX6_settleOrLift_33 : decode cX6_settleOrLift 33 = .ok (.getfield 29, 3) := by decide +kernel
theorem dX6_settleOrLift_36 : decode cX6_settleOrLift 36 = .ok (.iload_n 1, 1) := by decide +kernel
theorem dX6_settleOrLift_37 : decode cX6_settleOrLift 37 = .ok (.iadd, 1) := by decide +kernel
theorem dX6_settleOrLift_38 : decode cX6_settleOrLift 38 = .ok (.putfield 29, 3) := by decide +kernel
theorem dX6_settleOrLift_41 : decode cX6_settleOrLift 41 = .ok (.goto 47, 3) := by decide +kernel
theorem dX6_settleOrLift_44 : decode cX6_settleOrLift 44 = .ok (.aload_n 0, 1) := by decide +kernel
theorem dX6_settleOrLift_45 : decode cX6_settleOrLift 45 = .ok (.getfield 39, 3) := by decide +kernel
theorem dX6_settleOrLift_48 : decode cX6_settleOrLift 48 = .ok (.bipush 40, 2) := by decide +kernel
theorem dX6_settleOrLift_50 : decode cX6_settleOrLift 50 = .ok (.if_icmp .le 38, 3) := by decide +kernel
theorem dX6_settleOrLift_53 : decode cX6_settleOrLift 53 = .ok (.aload_n 0, 1) := by decide +kernel
theorem dX6_settleOrLift_54 : decode cX6_settleOrLift 54 = .ok (.getfield 39, 3) := by decide +kernel
theorem dX6_settleOrLift_57 : decode cX6_settleOrLift 57 = .ok (.bipush 8, 2) := by decide +kernel
theorem dX6_settleOrLift_59 : decode cX6_settleOrLift 59 = .ok (.idiv, 1) := by decide +kernel
theorem dX6_settleOrLift_60 : decode cX6_settleOrLift 60 = .ok (.aload_n 0, 1) := by decide +kernel
theorem dX6_settleOrLift_61 : decode cX6_settleOrLift 61 = .ok (.getfield 29, 3) := by decide +kernel
theorem dX6_settleOrLift_64 : decode cX6_settleOrLift 64 = .ok (.invokestatic 56, 3) := by decide +kernel
theorem dX6_settleOrLift_67 : decode cX6_settleOrLift 67 = .ok (.istore_n 1, 1) := by decide +kernel
theorem dX6_settleOrLift_68 : decode cX6_settleOrLift 68 = .ok (.aload_n 0, 1) := by decide +kernel
theorem dX6_settleOrLift_69 : decode cX6_settleOrLift 69 = .ok (.dup, 1) := by decide +kernel
theorem dX6_settleOrLift_70 : decode cX6_settleOrLift 70 = .ok (.getfield 29, 3) := by decide +kernel
theorem dX6_settleOrLift_73 : decode cX6_settleOrLift 73 = .ok (.iload_n 1, 1) := by decide +kernel
theorem dX6_settleOrLift_74 : decode cX6_settleOrLift 74 = .ok (.isub, 1) := by decide +kernel
theorem dX6_settleOrLift_75 : decode cX6_settleOrLift 75 = .ok (.putfield 29, 3) := by decide +kernel
theorem dX6_settleOrLift_78 : decode cX6_settleOrLift 78 = .ok (.aload_n 0, 1) := by decide +kernel
theorem dX6_settleOrLift_79 : decode cX6_settleOrLift 79 = .ok (.dup, 1) := by decide +kernel
theorem dX6_settleOrLift_80 : decode cX6_settleOrLift 80 = .ok (.getfield 36, 3) := by decide +kernel
theorem dX6_settleOrLift_83 : decode cX6_settleOrLift 83 = .ok (.iload_n 1, 1) := by decide +kernel
theorem dX6_settleOrLift_84 : decode cX6_settleOrLift 84 = .ok (.iadd, 1) := by decide +kernel
theorem dX6_settleOrLift_85 : decode cX6_settleOrLift 85 = .ok (.putfield 36, 3) := by decide +kernel
theorem dX6_settleOrLift_88 : decode cX6_settleOrLift 88 = .ok (.return_, 1) := by decide +kernel
theorem dX6_endHour_0 : decode cX6_endHour 0 = .ok (.aload_n 0, 1) := by decide +kernel
theorem dX6_endHour_1 : decode cX6_endHour 1 = .ok (.getfield 21, 3) := by decide +kernel
theorem dX6_endHour_4 : decode cX6_endHour 4 = .ok (.iload_n 1, 1) := by decide +kernel
theorem dX6_endHour_5 : decode cX6_endHour 5 = .ok (.bipush 24, 2) := by decide +kernel
theorem dX6_endHour_7 : decode cX6_endHour 7 = .ok (.invokestatic 69, 3) := by decide +kernel
theorem dX6_endHour_10 : decode cX6_endHour 10 = .ok (.aload_n 0, 1) := by decide +kernel
theorem dX6_endHour_11 : decode cX6_endHour 11 = .ok (.getfield 18, 3) := by decide +kernel
theorem dX6_endHour_14 : decode cX6_endHour 14 = .ok (.invokevirtual 72, 3) := by decide +kernel
theorem dX6_endHour_17 : decode cX6_endHour 17 = .ok (.iastore, 1) := by decide +kernel
theorem dX6_endHour_18 : decode cX6_endHour 18 = .ok (.return_, 1) := by decide +kernel
theorem dX6_wasFresher_0 : decode cX6_wasFresher 0 = .ok (.iconst 0, 1) := by decide +kernel
theorem dX6_wasFresher_1 : decode cX6_wasFresher 1 = .ok (.iload_n 3, 1) := by decide +kernel
theorem dX6_wasFresher_2 : decode cX6_wasFresher 2 = .ok (.iload_n 2, 1) := by decide +kernel
theorem dX6_wasFresher_3 : decode cX6_wasFresher 3 = .ok (.isub, 1) := by decide +kernel
theorem dX6_wasFresher_4 : decode cX6_wasFresher 4 = .ok (.invokestatic 75, 3) := by decide +kernel
theorem dX6_wasFresher_7 : decode cX6_wasFresher 7 = .ok (.istore 4, 2) := by decide +kernel
theorem dX6_wasFresher_9 : decode cX6_wasFresher 9 = .ok (.iload 4, 2) := by decide +kernel
theorem dX6_wasFresher_11 : decode cX6_wasFresher 11 = .ok (.iload_n 3, 1) := by decide +kernel
theorem dX6_wasFresher_12 : decode cX6_wasFresher 12 = .ok (.if_icmp .ge 27, 3) := by decide +kernel
theorem dX6_wasFresher_15 : decode cX6_wasFresher 15 = .ok (.aload_n 0, 1) := by decide +kernel
theorem dX6_wasFresher_16 : decode cX6_wasFresher 16 = .ok (.getfield 21, 3) := by decide +kernel
theorem dX6_wasFresher_19 : decode cX6_wasFresher 19 = .ok (.iload 4, 2) := by decide +kernel
theorem dX6_wasFresher_21 : decode cX6_wasFresher 21 = .ok (.bipush 24, 2) := by decide +kernel
theorem dX6_wasFresher_23 : decode cX6_wasFresher 23 = .ok (.invokestatic 69, 3) := by decide +kernel
theorem dX6_wasFresher_26 : decode cX6_wasFresher 26 = .ok (.iaload, 1) := by decide +kernel
theorem dX6_wasFresher_27 : decode cX6_wasFresher 27 = .ok (.iload_n 1, 1) := by decide +kernel
theorem dX6_wasFresher_28 : decode cX6_wasFresher 28 = .ok (.if_icmp .ge 5, 3) := by decide +kernel
theorem dX6_wasFresher_31 : decode cX6_wasFresher 31 = .ok (.iconst 1, 1) := by decide +kernel
theorem dX6_wasFresher_32 : decode cX6_wasFresher 32 = .ok (.ireturn, 1) := by decide +kernel
theorem dX6_wasFresher_33 : decode cX6_wasFresher 33 = .ok (.iinc 4 1, 3) := by decide +kernel
theorem dX6_wasFresher_36 : decode cX6_wasFresher 36 = .ok (.goto (-27), 3) := by decide +kernel
theorem dX6_wasFresher_39 : decode cX6_wasFresher 39 = .ok (.iconst 0, 1) := by decide +kernel
theorem dX6_wasFresher_40 : decode cX6_wasFresher 40 = .ok (.ireturn, 1) := by decide +kernel
theorem dX6_answer_0 : decode cX6_answer 0 = .ok (.iload_n 1, 1) := by decide +kernel
theorem dX6_answer_1 : decode cX6_answer 1 = .ok (.tableswitch 114 0 8 #[51, 59, 67, 75, 83, 88, 93, 98, 106], 51) := by decide +kernel
theorem dX6_answer_52 : decode cX6_answer 52 = .ok (.aload_n 0, 1) := by decide +kernel
theorem dX6_answer_53 : decode cX6_answer 53 = .ok (.getfield 12, 3) := by decide +kernel
theorem dX6_answer_56 : decode cX6_answer 56 = .ok (.getfield 49, 3) := by decide +kernel
theorem dX6_answer_59 : decode cX6_answer 59 = .ok (.ireturn, 1) := by decide +kernel
theorem dX6_answer_60 : decode cX6_answer 60 = .ok (.aload_n 0, 1) := by decide +kernel
theorem dX6_answer_61 : decode cX6_answer 61 = .ok (.getfield 12, 3) := by decide +kernel
theorem dX6_answer_64 : decode cX6_answer 64 = .ok (.getfield 66, 3) := by decide +kernel
theorem dX6_answer_67 : decode cX6_answer 67 = .ok (.ireturn, 1) := by decide +kernel
theorem dX6_answer_68 : decode cX6_answer 68 = .ok (.aload_n 0, 1) := by decide +kernel
theorem dX6_answer_69 : decode cX6_answer 69 = .ok (.getfield 18, 3) := by decide +kernel
theorem dX6_answer_72 : decode cX6_answer 72 = .ok (.getfield 49, 3) := by decide +kernel
theorem dX6_answer_75 : decode cX6_answer 75 = .ok (.ireturn, 1) := by decide +kernel
theorem dX6_answer_76 : decode cX6_answer 76 = .ok (.aload_n 0, 1) := by decide +kernel
theorem dX6_answer_77 : decode cX6_answer 77 = .ok (.getfield 18, 3) := by decide +kernel
theorem dX6_answer_80 : decode cX6_answer 80 = .ok (.getfield 66, 3) := by decide +kernel
theorem dX6_answer_83 : decode cX6_answer 83 = .ok (.ireturn, 1) := by decide +kernel
theorem dX6_answer_84 : decode cX6_answer 84 = .ok (.aload_n 0, 1) := by decide +kernel
theorem dX6_answer_85 : decode cX6_answer 85 = .ok (.getfield 36, 3) := by decide +kernel
theorem dX6_answer_88 : decode cX6_answer 88 = .ok (.ireturn, 1) := by decide +kernel
theorem dX6_answer_89 : decode cX6_answer 89 = .ok (.aload_n 0, 1) := by decide +kernel
theorem dX6_answer_90 : decode cX6_answer 90 = .ok (.getfield 29, 3) := by decide +kernel
theorem dX6_answer_93 : decode cX6_answer 93 = .ok (.ireturn, 1) := by decide +kernel
theorem dX6_answer_94 : decode cX6_answer 94 = .ok (.aload_n 0, 1) := by decide +kernel
theorem dX6_answer_95 : decode cX6_answer 95 = .ok (.invokevirtual 78, 3) := by decide +kernel
theorem dX6_answer_98 : decode cX6_answer 98 = .ok (.ireturn, 1) := by decide +kernel
theorem dX6_answer_99 : decode cX6_answer 99 = .ok (.aload_n 0, 1) := by decide +kernel
theorem dX6_answer_100 : decode cX6_answer 100 = .ok (.getfield 12, 3) := by decide +kernel
theorem dX6_answer_103 : decode cX6_answer 103 = .ok (.invokevirtual 72, 3) := by decide +kernel
theorem dX6_answer_106 : decode cX6_answer 106 = .ok (.ireturn, 1) := by decide +kernel
theorem dX6_answer_107 : decode cX6_answer 107 = .ok (.aload_n 0, 1) := by decide +kernel
theorem dX6_answer_108 : decode cX6_answer 108 = .ok (.getfield 18, 3) := by decide +kernel
theorem dX6_answer_111 : decode cX6_answer 111 = .ok (.invokevirtual 72, 3) := by decide +kernel
theorem dX6_answer_114 : decode cX6_answer 114 = .ok (.ireturn, 1) := by decide +kernel
theorem dX6_answer_115 : decode cX6_answer 115 = .ok (.aload_n 0, 1) := by decide +kernel
theorem dX6_answer_116 : decode cX6_answer 116 = .ok (.getfield 39, 3) := by decide +kernel
theorem dX6_answer_119 : decode cX6_answer 119 = .ok (.ireturn, 1) := by decide +kernel
theorem dX7_init_0 : decode cX7_init 0 = .ok (.aload_n 0, 1) := by decide +kernel
theorem dX7_init_1 : decode cX7_init 1 = .ok (.invokespecial 1, 3) := by decide +kernel
theorem dX7_init_4 : decode cX7_init 4 = .ok (.return_, 1) := by decide +kernel
theorem dX8_init_0 : decode cX8_init 0 = .ok (.aload_n 0, 1) := by decide +kernel
theorem dX8_init_1 : decode cX8_init 1 = .ok (.invokespecial 3, 3) := by decide +kernel
theorem dX8_init_4 : decode cX8_init 4 = .ok (.aload_n 0, 1) := by decide +kernel
theorem dX8_init_5 : decode cX8_init 5 = .ok (.sipush 3584, 3) := by decide +kernel
theorem dX8_init_8 : decode cX8_init 8 = .ok (.newarray .int, 2) := by decide +kernel
theorem dX8_init_10 : decode cX8_init 10 = .ok (.putfield 11, 3) := by decide +kernel
theorem dX8_init_13 : decode cX8_init 13 = .ok (.return_, 1) := by decide +kernel
theorem dX8_keep_0 : decode cX8_keep 0 = .ok (.aload_n 0, 1) := by decide +kernel
theorem dX8_keep_1 : decode cX8_keep 1 = .ok (.getfield 15, 3) := by decide +kernel
theorem dX8_keep_4 : decode cX8_keep 4 = .ok (.sipush 512, 3) := by decide +kernel
theorem dX8_keep_7 : decode cX8_keep 7 = .ok (.if_icmp .lt 4, 3) := by decide +kernel
theorem dX8_keep_10 : decode cX8_keep 10 = .ok (.return_, 1) := by decide +kernel
theorem dX8_keep_11 : decode cX8_keep 11 = .ok (.aload_n 0, 1) := by decide +kernel
theorem dX8_keep_12 : decode cX8_keep 12 = .ok (.getfield 15, 3) := by decide +kernel
theorem dX8_keep_15 : decode cX8_keep 15 = .ok (.bipush 7, 2) := by decide +kernel
theorem dX8_keep_17 : decode cX8_keep 17 = .ok (.imul, 1) := by decide +kernel
theorem dX8_keep_18 : decode cX8_keep 18 = .ok (.istore 8, 2) := by decide +kernel
theorem dX8_keep_20 : decode cX8_keep 20 = .ok (.aload_n 0, 1) := by decide +kernel
theorem dX8_keep_21 : decode cX8_keep 21 = .ok (.getfield 11, 3) := by decide +kernel
theorem dX8_keep_24 : decode cX8_keep 24 = .ok (.iload 8, 2) := by decide +kernel
theorem dX8_keep_26 : decode cX8_keep 26 = .ok (.iconst 0, 1) := by decide +kernel
theorem dX8_keep_27 : decode cX8_keep 27 = .ok (.iadd, 1) := by decide +kernel
theorem dX8_keep_28 : decode cX8_keep 28 = .ok (.iload_n 1, 1) := by decide +kernel
theorem dX8_keep_29 : decode cX8_keep 29 = .ok (.iastore, 1) := by decide +kernel
theorem dX8_keep_30 : decode cX8_keep 30 = .ok (.aload_n 0, 1) := by decide +kernel
theorem dX8_keep_31 : decode cX8_keep 31 = .ok (.getfield 11, 3) := by decide +kernel
theorem dX8_keep_34 : decode cX8_keep 34 = .ok (.iload 8, 2) := by decide +kernel
theorem dX8_keep_36 : decode cX8_keep 36 = .ok (.iconst 1, 1) := by decide +kernel
theorem dX8_keep_37 : decode cX8_keep 37 = .ok (.iadd, 1) := by decide +kernel
theorem dX8_keep_38 : decode cX8_keep 38 = .ok (.iload_n 2, 1) := by decide +kernel
theorem dX8_keep_39 : decode cX8_keep 39 = .ok (.iastore, 1) := by decide +kernel
theorem dX8_keep_40 : decode cX8_keep 40 = .ok (.aload_n 0, 1) := by decide +kernel
theorem dX8_keep_41 : decode cX8_keep 41 = .ok (.getfield 11, 3) := by decide +kernel
theorem dX8_keep_44 : decode cX8_keep 44 = .ok (.iload 8, 2) := by decide +kernel
theorem dX8_keep_46 : decode cX8_keep 46 = .ok (.iconst 2, 1) := by decide +kernel
theorem dX8_keep_47 : decode cX8_keep 47 = .ok (.iadd, 1) := by decide +kernel
theorem dX8_keep_48 : decode cX8_keep 48 = .ok (.iload_n 3, 1) := by decide +kernel
theorem dX8_keep_49 : decode cX8_keep 49 = .ok (.iastore, 1) := by decide +kernel
theorem dX8_keep_50 : decode cX8_keep 50 = .ok (.aload_n 0, 1) := by decide +kernel
theorem dX8_keep_51 : decode cX8_keep 51 = .ok (.getfield 11, 3) := by decide +kernel
theorem dX8_keep_54 : decode cX8_keep 54 = .ok (.iload 8, 2) := by decide +kernel
theorem dX8_keep_56 : decode cX8_keep 56 = .ok (.iconst 2, 1) := by decide +kernel
theorem dX8_keep_57 : decode cX8_keep 57 = .ok (.iadd, 1) := by decide +kernel
theorem dX8_keep_58 : decode cX8_keep 58 = .ok (.iconst 1, 1) := by decide +kernel
theorem dX8_keep_59 : decode cX8_keep 59 = .ok (.iadd, 1) := by decide +kernel
theorem dX8_keep_60 : decode cX8_keep 60 = .ok (.iload 4, 2) := by decide +kernel
theorem dX8_keep_62 : decode cX8_keep 62 = .ok (.iastore, 1) := by decide +kernel
theorem dX8_keep_63 : decode cX8_keep 63 = .ok (.aload_n 0, 1) := by decide +kernel
theorem dX8_keep_64 : decode cX8_keep 64 = .ok (.getfield 11, 3) := by decide +kernel
theorem dX8_keep_67 : decode cX8_keep 67 = .ok (.iload 8, 2) := by decide +kernel
theorem dX8_keep_69 : decode cX8_keep 69 = .ok (.iconst 2, 1) := by decide +kernel
theorem dX8_keep_70 : decode cX8_keep 70 = .ok (.iadd, 1) := by decide +kernel
theorem dX8_keep_71 : decode cX8_keep 71 = .ok (.iconst 2, 1) := by decide +kernel
theorem dX8_keep_72 : decode cX8_keep 72 = .ok (.iadd, 1) := by decide +kernel
theorem dX8_keep_73 : decode cX8_keep 73 = .ok (.iload 5, 2) := by decide +kernel
theorem dX8_keep_75 : decode cX8_keep 75 = .ok (.iastore, 1) := by decide +kernel
theorem dX8_keep_76 : decode cX8_keep 76 = .ok (.aload_n 0, 1) := by decide +kernel
theorem dX8_keep_77 : decode cX8_keep 77 = .ok (.getfield 11, 3) := by decide +kernel
theorem dX8_keep_80 : decode cX8_keep 80 = .ok (.iload 8, 2) := by decide +kernel
theorem dX8_keep_82 : decode cX8_keep 82 = .ok (.iconst 2, 1) := by decide +kernel
theorem dX8_keep_83 : decode cX8_keep 83 = .ok (.iadd, 1) := by decide +kernel
theorem dX8_keep_84 : decode cX8_keep 84 = .ok (.iconst 3, 1) := by decide +kernel
theorem dX8_keep_85 : decode cX8_keep 85 = .ok (.iadd, 1) := by decide +kernel
theorem dX8_keep_86 : decode cX8_keep 86 = .ok (.iload 6, 2) := by decide +kernel
theorem dX8_keep_88 : decode cX8_keep 88 = .ok (.iastore, 1) := by decide +kernel
theorem dX8_keep_89 : decode cX8_keep 89 = .ok (.aload_n 0, 1) := by decide +kernel
theorem dX8_keep_90 : decode cX8_keep 90 = .ok (.getfield 11, 3) := by decide +kernel
theorem dX8_keep_93 : decode cX8_keep 93 = .ok (.iload 8, 2) := by decide +kernel
theorem dX8_keep_95 : decode cX8_keep 95 = .ok (.iconst 2, 1) := by decide +kernel
theorem dX8_keep_96 : decode cX8_keep 96 = .ok (.iadd, 1) := by decide +kernel
theorem dX8_keep_97 : decode cX8_keep 97 = .ok (.iconst 4, 1) := by decide +kernel
theorem dX8_keep_98 : decode cX8_keep 98 = .ok (.iadd, 1) := by decide +kernel
theorem dX8_keep_99 : decode cX8_keep 99 = .ok (.iload 7, 2) := by decide +kernel
theorem dX8_keep_101 : decode cX8_keep 101 = .ok (.iastore, 1) := by decide +kernel
theorem dX8_keep_102 : decode cX8_keep 102 = .ok (.aload_n 0, 1) := by decide +kernel
theorem dX8_keep_103 : decode cX8_keep 103 = .ok (.dup, 1) := by decide +kernel
theorem dX8_keep_104 : decode cX8_keep 104 = .ok (.getfield 15, 3) := by decide +kernel
theorem dX8_keep_107 : decode cX8_keep 107 = .ok (.iconst 1, 1) := by decide +kernel
theorem dX8_keep_108 : decode cX8_keep 108 = .ok (.iadd, 1) := by decide +kernel
theorem dX8_keep_109 : decode cX8_keep 109 = .ok (.putfield 15, 3) := by decide +kernel
theorem dX8_keep_112 : decode cX8_keep 112 = .ok (.return_, 1) := by decide +kernel
theorem dX8_part_0 : decode cX8_part 0 = .ok (.iload_n 1, 1) := by decide +kernel
theorem dX8_part_1 : decode cX8_part 1 = .ok (.bipush 7, 2) := by decide +kernel
theorem dX8_part_3 : decode cX8_part 3 = .ok (.imul, 1) := by decide +kernel
theorem dX8_part_4 : decode cX8_part 4 = .ok (.iload_n 2, 1) := by decide +kernel
theorem dX8_part_5 : decode cX8_part 5 = .ok (.iadd, 1) := by decide +kernel
theorem dX8_part_6 : decode cX8_part 6 = .ok (.istore_n 3, 1) := by decide +kernel
theorem dX8_part_7 : decode cX8_part 7 = .ok (.iload_n 3, 1) := by decide +kernel
theorem dX8_part_8 : decode cX8_part 8 = .ok (.ifCond .lt 21, 3) := by decide +kernel
theorem dX8_part_11 : decode cX8_part 11 = .ok (.iload_n 3, 1) := by decide +kernel
theorem dX8_part_12 : decode cX8_part 12 = .ok (.aload_n 0, 1) := by decide +kernel
theorem dX8_part_13 : decode cX8_part 13 = .ok (.getfield 11, 3) := by decide +kernel
theorem dX8_part_16 : decode cX8_part 16 = .ok (.arraylength, 1) := by decide +kernel
theorem dX8_part_17 : decode cX8_part 17 = .ok (.if_icmp .ge 12, 3) := by decide +kernel
theorem dX8_part_20 : decode cX8_part 20 = .ok (.aload_n 0, 1) := by decide +kernel
theorem dX8_part_21 : decode cX8_part 21 = .ok (.getfield 11, 3) := by decide +kernel
theorem dX8_part_24 : decode cX8_part 24 = .ok (.iload_n 3, 1) := by decide +kernel
theorem dX8_part_25 : decode cX8_part 25 = .ok (.iaload, 1) := by decide +kernel
theorem dX8_part_26 : decode cX8_part 26 = .ok (.goto 4, 3) := by decide +kernel
theorem dX8_part_29 : decode cX8_part 29 = .ok (.iconst 0, 1) := by decide +kernel
theorem dX8_part_30 : decode cX8_part 30 = .ok (.ireturn, 1) := by decide +kernel
theorem dX9_init_0 : decode cX9_init 0 = .ok (.aload_n 0, 1) := by decide +kernel
theorem dX9_init_1 : decode cX9_init 1 = .ok (.invokespecial 1, 3) := by decide +kernel
theorem dX9_init_4 : decode cX9_init 4 = .ok (.return_, 1) := by decide +kernel
theorem dX9_height_0 : decode cX9_height 0 = .ok (.aload_n 0, 1) := by decide +kernel
theorem dX9_height_1 : decode cX9_height 1 = .ok (.getfield 7, 3) := by decide +kernel
theorem dX9_height_4 : decode cX9_height 4 = .ok (.ifCond .le 14, 3) := by decide +kernel
theorem dX9_height_7 : decode cX9_height 7 = .ok (.aload_n 0, 1) := by decide +kernel
theorem dX9_height_8 : decode cX9_height 8 = .ok (.getfield 13, 3) := by decide +kernel
theorem dX9_height_11 : decode cX9_height 11 = .ok (.aload_n 0, 1) := by decide +kernel
theorem dX9_height_12 : decode cX9_height 12 = .ok (.getfield 7, 3) := by decide +kernel
theorem dX9_height_15 : decode cX9_height 15 = .ok (.if_icmp .gt 5, 3) := by decide +kernel
theorem dX9_height_18 : decode cX9_height 18 = .ok (.iconst 0, 1) := by decide +kernel
theorem dX9_height_19 : decode cX9_height 19 = .ok (.ireturn, 1) := by decide +kernel
theorem dX9_height_20 : decode cX9_height 20 = .ok (.iload_n 1, 1) := by decide +kernel
theorem dX9_height_21 : decode cX9_height 21 = .ok (.aload_n 0, 1) := by decide +kernel
theorem dX9_height_22 : decode cX9_height 22 = .ok (.getfield 16, 3) := by decide +kernel
theorem dX9_height_25 : decode cX9_height 25 = .ok (.iadd, 1) := by decide +kernel
theorem dX9_height_26 : decode cX9_height 26 = .ok (.aload_n 0, 1) := by decide +kernel
theorem dX9_height_27 : decode cX9_height 27 = .ok (.getfield 13, 3) := by decide +kernel
theorem dX9_height_30 : decode cX9_height 30 = .ok (.irem, 1) := by decide +kernel
theorem dX9_height_31 : decode cX9_height 31 = .ok (.istore_n 2, 1) := by decide +kernel
theorem dX9_height_32 : decode cX9_height 32 = .ok (.iload_n 2, 1) := by decide +kernel
theorem dX9_height_33 : decode cX9_height 33 = .ok (.aload_n 0, 1) := by decide +kernel
theorem dX9_height_34 : decode cX9_height 34 = .ok (.getfield 7, 3) := by decide +kernel
theorem dX9_height_37 : decode cX9_height 37 = .ok (.if_icmp .ge 17, 3) := by decide +kernel
theorem dX9_height_40 : decode cX9_height 40 = .ok (.aload_n 0, 1) := by decide +kernel
theorem dX9_height_41 : decode cX9_height 41 = .ok (.getfield 19, 3) := by decide +kernel
theorem dX9_height_44 : decode cX9_height 44 = .ok (.iload_n 2, 1) := by decide +kernel
theorem dX9_height_45 : decode cX9_height 45 = .ok (.imul, 1) := by decide +kernel
theorem dX9_height_46 : decode cX9_height 46 = .ok (.aload_n 0, 1) := by decide +kernel
theorem dX9_height_47 : decode cX9_height 47 = .ok (.getfield 7, 3) := by decide +kernel
theorem dX9_height_50 : decode cX9_height 50 = .ok (.idiv, 1) := by decide +kernel
theorem dX9_height_51 : decode cX9_height 51 = .ok (.goto 24, 3) := by decide +kernel
theorem dX9_height_54 : decode cX9_height 54 = .ok (.aload_n 0, 1) := by decide +kernel
theorem dX9_height_55 : decode cX9_height 55 = .ok (.getfield 19, 3) := by decide +kernel
theorem dX9_height_58 : decode cX9_height 58 = .ok (.aload_n 0, 1) := by decide +kernel
theorem dX9_height_59 : decode cX9_height 59 = .ok (.getfield 13, 3) := by decide +kernel
theorem dX9_height_62 : decode cX9_height 62 = .ok (.iload_n 2, 1) := by decide +kernel
theorem dX9_height_63 : decode cX9_height 63 = .ok (.isub, 1) := by decide +kernel
theorem dX9_height_64 : decode cX9_height 64 = .ok (.imul, 1) := by decide +kernel
theorem dX9_height_65 : decode cX9_height 65 = .ok (.aload_n 0, 1) := by decide +kernel
theorem dX9_height_66 : decode cX9_height 66 = .ok (.getfield 13, 3) := by decide +kernel
theorem dX9_height_69 : decode cX9_height 69 = .ok (.aload_n 0, 1) := by decide +kernel
theorem dX9_height_70 : decode cX9_height 70 = .ok (.getfield 7, 3) := by decide +kernel
theorem dX9_height_73 : decode cX9_height 73 = .ok (.isub, 1) := by decide +kernel
theorem dX9_height_74 : decode cX9_height 74 = .ok (.idiv, 1) := by decide +kernel
theorem dX9_height_75 : decode cX9_height 75 = .ok (.ireturn, 1) := by decide +kernel
theorem dX10_init_0 : decode cX10_init 0 = .ok (.aload_n 0, 1) := by decide +kernel
theorem dX10_init_1 : decode cX10_init 1 = .ok (.invokespecial 1, 3) := by decide +kernel
theorem dX10_init_4 : decode cX10_init 4 = .ok (.aload_n 0, 1) := by decide +kernel
theorem dX10_init_5 : decode cX10_init 5 = .ok (.new 7, 3) := by decide +kernel
theorem dX10_init_8 : decode cX10_init 8 = .ok (.dup, 1) := by decide +kernel
theorem dX10_init_9 : decode cX10_init 9 = .ok (.invokespecial 9, 3) := by decide +kernel
theorem dX10_init_12 : decode cX10_init 12 = .ok (.putfield 10, 3) := by decide +kernel
theorem dX10_init_15 : decode cX10_init 15 = .ok (.aload_n 0, 1) := by decide +kernel
theorem dX10_init_16 : decode cX10_init 16 = .ok (.new 7, 3) := by decide +kernel
theorem dX10_init_19 : decode cX10_init 19 = .ok (.dup, 1) := by decide +kernel
theorem dX10_init_20 : decode cX10_init 20 = .ok (.invokespecial 9, 3) := by decide +kernel
theorem dX10_init_23 : decode cX10_init 23 = .ok (.putfield 16, 3) := by decide +kernel
theorem dX10_init_26 : decode cX10_init 26 = .ok (.aload_n 0, 1) := by decide +kernel
theorem dX10_init_27 : decode cX10_init 27 = .ok (.new 19, 3) := by decide +kernel
theorem dX10_init_30 : decode cX10_init 30 = .ok (.dup, 1) := by decide +kernel
theorem dX10_init_31 : decode cX10_init 31 = .ok (.invokespecial 21, 3) := by decide +kernel
theorem dX10_init_34 : decode cX10_init 34 = .ok (.putfield 22, 3) := by decide +kernel
theorem dX10_init_37 : decode cX10_init 37 = .ok (.aload_n 0, 1) := by decide +kernel
theorem dX10_init_38 : decode cX10_init 38 = .ok (.bipush 6, 2) := by decide +kernel
theorem dX10_init_40 : decode cX10_init 40 = .ok (.anewarray 26, 3) := by decide +kernel
theorem dX10_init_43 : decode cX10_init 43 = .ok (.putfield 28, 3) := by decide +kernel
theorem dX10_init_46 : decode cX10_init 46 = .ok (.iconst 0, 1) := by decide +kernel
theorem dX10_init_47 : decode cX10_init 47 = .ok (.istore_n 1, 1) := by decide +kernel
theorem dX10_init_48 : decode cX10_init 48 = .ok (.iload_n 1, 1) := by decide +kernel
theorem dX10_init_49 : decode cX10_init 49 = .ok (.aload_n 0, 1) := by decide +kernel
theorem dX10_init_50 : decode cX10_init 50 = .ok (.getfield 28, 3) := by decide +kernel
theorem dX10_init_53 : decode cX10_init 53 = .ok (.arraylength, 1) := by decide +kernel
theorem dX10_init_54 : decode cX10_init 54 = .ok (.if_icmp .ge 22, 3) := by decide +kernel
theorem dX10_init_57 : decode cX10_init 57 = .ok (.aload_n 0, 1) := by decide +kernel
theorem dX10_init_58 : decode cX10_init 58 = .ok (.getfield 28, 3) := by decide +kernel
theorem dX10_init_61 : decode cX10_init 61 = .ok (.iload_n 1, 1) := by decide +kernel
theorem dX10_init_62 : decode cX10_init 62 = .ok (.new 26, 3) := by decide +kernel
theorem dX10_init_65 : decode cX10_init 65 = .ok (.dup, 1) := by decide +kernel
theorem dX10_init_66 : decode cX10_init 66 = .ok (.invokespecial 32, 3) := by decide +kernel
theorem dX10_init_69 : decode cX10_init 69 = .ok (.aastore, 1) := by decide +kernel
theorem dX10_init_70 : decode cX10_init 70 = .ok (.iinc 1 1, 3) := by decide +kernel
theorem dX10_init_73 : decode cX10_init 73 = .ok (.goto (-25), 3) := by decide +kernel
theorem dX10_init_76 : decode cX10_init 76 = .ok (.return_, 1) := by decide +kernel
theorem dX10_turn_0 : decode cX10_turn 0 = .ok (.iload_n 1, 1) := by decide +kernel
theorem dX10_turn_1 : decode cX10_turn 1 = .ok (.iconst 2, 1) := by decide +kernel
theorem dX10_turn_2 : decode cX10_turn 2 = .ok (.bipush 60, 2) := by decide +kernel
theorem dX10_turn_4 : decode cX10_turn 4 = .ok (.invokestatic 33, 3) := by decide +kernel
theorem dX10_turn_7 : decode cX10_turn 7 = .ok (.ifCond .eq 14, 3) := by decide +kernel
theorem dX10_turn_10 : decode cX10_turn 10 = .ok (.iload_n 2, 1) := by decide +kernel
theorem dX10_turn_11 : decode cX10_turn 11 = .ok (.iconst 1, 1) := by decide +kernel
theorem dX10_turn_12 : decode cX10_turn 12 = .ok (.iload_n 1, 1) := by decide +kernel
theorem dX10_turn_13 : decode cX10_turn 13 = .ok (.iconst 1, 1) := by decide +kernel
theorem dX10_turn_14 : decode cX10_turn 14 = .ok (.isub, 1) := by decide +kernel
theorem dX10_turn_15 : decode cX10_turn 15 = .ok (.invokestatic 33, 3) := by decide +kernel
theorem dX10_turn_18 : decode cX10_turn 18 = .ok (.ifCond .ne 13, 3) := by decide +kernel
theorem dX10_turn_21 : decode cX10_turn 21 = .ok (.new 37, 3) := by decide +kernel
theorem dX10_turn_24 : decode cX10_turn 24 = .ok (.dup, 1) := by decide +kernel
theorem dX10_turn_25 : decode cX10_turn 25 = .ok (.ldc 39, 2) := by decide +kernel
theorem dX10_turn_27 : decode cX10_turn 27 = .ok (.invokespecial 41, 3) := by decide +kernel
theorem dX10_turn_30 : decode cX10_turn 30 = .ok (.athrow, 1) := by decide +kernel
theorem dX10_turn_31 : decode cX10_turn 31 = .ok (.iload_n 3, 1) := by decide +kernel
theorem dX10_turn_32 : decode cX10_turn 32 = .ok (.iconst 0, 1) := by decide +kernel
theorem dX10_turn_33 : decode cX10_turn 33 = .ok (.bipush 50, 2) := by decide +kernel
theorem dX10_turn_35 : decode cX10_turn 35 = .ok (.invokestatic 33, 3) := by decide +kernel
theorem dX10_turn_38 : decode cX10_turn 38 = .ok (.ifCond .eq 14, 3) := by decide +kernel
theorem dX10_turn_41 : decode cX10_turn 41 = .ok (.iload 4, 2) := by decide +kernel
theorem dX10_turn_43 : decode cX10_turn 43 = .ok (.iconst 0, 1) := by decide +kernel
theorem dX10_turn_44 : decode cX10_turn 44 = .ok (.bipush 59, 2) := by decide +kernel
theorem dX10_turn_46 : decode cX10_turn 46 = .ok (.invokestatic 33, 3) := by decide +kernel
theorem dX10_turn_49 : decode cX10_turn 49 = .ok (.ifCond .ne 13, 3) := by decide +kernel
theorem dX10_turn_52 : decode cX10_turn 52 = .ok (.new 37, 3) := by decide +kernel
theorem dX10_turn_55 : decode cX10_turn 55 = .ok (.dup, 1) := by decide +kernel
theorem dX10_turn_56 : decode cX10_turn 56 = .ok (.ldc 44, 2) := by decide +kernel
theorem dX10_turn_58 : decode cX10_turn 58 = .ok (.invokespecial 41, 3) := by decide +kernel
theorem dX10_turn_61 : decode cX10_turn 61 = .ok (.athrow, 1) := by decide +kernel
theorem dX10_turn_62 : decode cX10_turn 62 = .ok (.aload_n 0, 1) := by decide +kernel
theorem dX10_turn_63 : decode cX10_turn 63 = .ok (.getfield 10, 3) := by decide +kernel
theorem dX10_turn_66 : decode cX10_turn 66 = .ok (.getfield 46, 3) := by decide +kernel
theorem dX10_turn_69 : decode cX10_turn 69 = .ok (.getfield 50, 3) := by decide +kernel
theorem dX10_turn_72 : decode cX10_turn 72 = .ok (.bipush 6, 2) := by decide +kernel
theorem dX10_turn_74 : decode cX10_turn 74 = .ok (.if_icmp .lt 13, 3) := by decide +kernel
theorem dX10_turn_77 : decode cX10_turn 77 = .ok (.new 56, 3) := by decide +kernel
theorem dX10_turn_80 : decode cX10_turn 80 = .ok (.dup, 1) := by decide +kernel
theorem dX10_turn_81 : decode cX10_turn 81 = .ok (.ldc 58, 2) := by decide +kernel
theorem dX10_turn_83 : decode cX10_turn 83 = .ok (.invokespecial 60, 3) := by decide +kernel
theorem dX10_turn_86 : decode cX10_turn 86 = .ok (.athrow, 1) := by decide +kernel
theorem dX10_turn_87 : decode cX10_turn 87 = .ok (.aload_n 0, 1) := by decide +kernel
theorem dX10_turn_88 : decode cX10_turn 88 = .ok (.getfield 10, 3) := by decide +kernel
theorem dX10_turn_91 : decode cX10_turn 91 = .ok (.getfield 46, 3) := by decide +kernel
theorem dX10_turn_94 : decode cX10_turn 94 = .ok (.getfield 50, 3) := by decide +kernel
theorem dX10_turn_97 : decode cX10_turn 97 = .ok (.istore 5, 2) := by decide +kernel
theorem dX10_turn_99 : decode cX10_turn 99 = .ok (.aload_n 0, 1) := by decide +kernel
theorem dX10_turn_100 : decode cX10_turn 100 = .ok (.iconst 0, 1) := by decide +kernel
theorem dX10_turn_101 : decode cX10_turn 101 = .ok (.iload_n 1, 1) := by decide +kernel
theorem dX10_turn_102 : decode cX10_turn 102 = .ok (.iload_n 2, 1) := by decide +kernel
theorem dX10_turn_103 : decode cX10_turn 103 = .ok (.iload_n 3, 1) := by decide +kernel
theorem dX10_turn_104 : decode cX10_turn 104 = .ok (.iload 4, 2) := by decide +kernel
theorem dX10_turn_106 : decode cX10_turn 106 = .ok (.iconst 0, 1) := by decide +kernel
theorem dX10_turn_107 : decode cX10_turn 107 = .ok (.invokevirtual 61, 3) := by decide +kernel
theorem dX10_turn_110 : decode cX10_turn 110 = .ok (.iload 5, 2) := by decide +kernel
theorem dX10_turn_112 : decode cX10_turn 112 = .ok (.ireturn, 1) := by decide +kernel
theorem dX10_mean_0 : decode cX10_mean 0 = .ok (.iload_n 1, 1) := by decide +kernel
theorem dX10_mean_1 : decode cX10_mean 1 = .ok (.iconst 0, 1) := by decide +kernel
theorem dX10_mean_2 : decode cX10_mean 2 = .ok (.bipush 100, 2) := by decide +kernel
theorem dX10_mean_4 : decode cX10_mean 4 = .ok (.invokestatic 33, 3) := by decide +kernel
theorem dX10_mean_7 : decode cX10_mean 7 = .ok (.ifCond .ne 13, 3) := by decide +kernel
theorem dX10_mean_10 : decode cX10_mean 10 = .ok (.new 37, 3) := by decide +kernel
theorem dX10_mean_13 : decode cX10_mean 13 = .ok (.dup, 1) := by decide +kernel
theorem dX10_mean_14 : decode cX10_mean 14 = .ok (.ldc 65, 2) := by decide +kernel
theorem dX10_mean_16 : decode cX10_mean 16 = .ok (.invokespecial 41, 3) := by decide +kernel
theorem dX10_mean_19 : decode cX10_mean 19 = .ok (.athrow, 1) := by decide +kernel
theorem dX10_mean_20 : decode cX10_mean 20 = .ok (.aload_n 0, 1) := by decide +kernel
theorem dX10_mean_21 : decode cX10_mean 21 = .ok (.getfield 10, 3) := by decide +kernel
theorem dX10_mean_24 : decode cX10_mean 24 = .ok (.getfield 46, 3) := by decide +kernel
theorem dX10_mean_27 : decode cX10_mean 27 = .ok (.getfield 67, 3) := by decide +kernel
theorem dX10_mean_30 : decode cX10_mean 30 = .ok (.istore_n 2, 1) := by decide +kernel
theorem dX10_mean_31 : decode cX10_mean 31 = .ok (.aload_n 0, 1) := by decide +kernel
theorem dX10_mean_32 : decode cX10_mean 32 = .ok (.iconst 1, 1) := by decide +kernel
theorem dX10_mean_33 : decode cX10_mean 33 = .ok (.iload_n 1, 1) := by decide +kernel
theorem dX10_mean_34 : decode cX10_mean 34 = .ok (.iconst 0, 1) := by decide +kernel
theorem dX10_mean_35 : decode cX10_mean 35 = .ok (.iconst 0, 1) := by decide +kernel
theorem dX10_mean_36 : decode cX10_mean 36 = .ok (.iconst 0, 1) := by decide +kernel
theorem dX10_mean_37 : decode cX10_mean 37 = .ok (.iconst 0, 1) := by decide +kernel
theorem dX10_mean_38 : decode cX10_mean 38 = .ok (.invokevirtual 61, 3) := by decide +kernel
theorem dX10_mean_41 : decode cX10_mean 41 = .ok (.iload_n 2, 1) := by decide +kernel
theorem dX10_mean_42 : decode cX10_mean 42 = .ok (.ireturn, 1) := by decide +kernel
theorem dX10_surge_0 : decode cX10_surge 0 = .ok (.iload_n 1, 1) := by decide +kernel
theorem dX10_surge_1 : decode cX10_surge 1 = .ok (.aload_n 0, 1) := by decide +kernel
theorem dX10_surge_2 : decode cX10_surge 2 = .ok (.getfield 10, 3) := by decide +kernel
theorem dX10_surge_5 : decode cX10_surge 5 = .ok (.getfield 70, 3) := by decide +kernel
theorem dX10_surge_8 : decode cX10_surge 8 = .ok (.sipush 2000, 3) := by decide +kernel
theorem dX10_surge_11 : decode cX10_surge 11 = .ok (.invokestatic 33, 3) := by decide +kernel
theorem dX10_surge_14 : decode cX10_surge 14 = .ok (.ifCond .eq 25, 3) := by decide +kernel
theorem dX10_surge_17 : decode cX10_surge 17 = .ok (.iload_n 2, 1) := by decide +kernel
theorem dX10_surge_18 : decode cX10_surge 18 = .ok (.iload_n 1, 1) := by decide +kernel
theorem dX10_surge_19 : decode cX10_surge 19 = .ok (.sipush 2000, 3) := by decide +kernel
theorem dX10_surge_22 : decode cX10_surge 22 = .ok (.invokestatic 33, 3) := by decide +kernel
theorem dX10_surge_25 : decode cX10_surge 25 = .ok (.ifCond .eq 14, 3) := by decide +kernel
theorem dX10_surge_28 : decode cX10_surge 28 = .ok (.iload_n 3, 1) := by decide +kernel
theorem dX10_surge_29 : decode cX10_surge 29 = .ok (.bipush (-50), 2) := by decide +kernel
theorem dX10_surge_31 : decode cX10_surge 31 = .ok (.bipush 100, 2) := by decide +kernel
theorem dX10_surge_33 : decode cX10_surge 33 = .ok (.invokestatic 33, 3) := by decide +kernel
theorem dX10_surge_36 : decode cX10_surge 36 = .ok (.ifCond .ne 13, 3) := by decide +kernel
theorem dX10_surge_39 : decode cX10_surge 39 = .ok (.new 37, 3) := by decide +kernel
theorem dX10_surge_42 : decode cX10_surge 42 = .ok (.dup, 1) := by decide +kernel
theorem dX10_surge_43 : decode cX10_surge 43 = .ok (.ldc 73, 2) := by decide +kernel
theorem dX10_surge_45 : decode cX10_surge 45 = .ok (.invokespecial 41, 3) := by decide +kernel
theorem dX10_surge_48 : decode cX10_surge 48 = .ok (.athrow, 1) := by decide +kernel
theorem dX10_surge_49 : decode cX10_surge 49 = .ok (.aload_n 0, 1) := by decide +kernel
theorem dX10_surge_50 : decode cX10_surge 50 = .ok (.getfield 10, 3) := by decide +kernel
theorem dX10_surge_53 : decode cX10_surge 53 = .ok (.getfield 46, 3) := by decide +kernel
theorem dX10_surge_56 : decode cX10_surge 56 = .ok (.getfield 75, 3) := by decide +kernel
theorem dX10_surge_59 : decode cX10_surge 59 = .ok (.bipush 20, 2) := by decide +kernel
theorem dX10_surge_61 : decode cX10_surge 61 = .ok (.if_icmp .lt 13, 3) := by decide +kernel
theorem dX10_surge_64 : decode cX10_surge 64 = .ok (.new 56, 3) := by decide +kernel
theorem dX10_surge_67 : decode cX10_surge 67 = .ok (.dup, 1) := by decide +kernel
theorem dX10_surge_68 : decode cX10_surge 68 = .ok (.ldc 78, 2) := by decide +kernel
theorem dX10_surge_70 : decode cX10_surge 70 = .ok (.invokespecial 60, 3) := by decide +kernel
theorem dX10_surge_73 : decode cX10_surge 73 = .ok (.athrow, 1) := by decide +kernel
theorem dX10_surge_74 : decode cX10_surge 74 = .ok (.aload_n 0, 1) := by decide +kernel
theorem dX10_surge_75 : decode cX10_surge 75 = .ok (.iconst 2, 1) := by decide +kernel
theorem dX10_surge_76 : decode cX10_surge 76 = .ok (.iload_n 1, 1) := by decide +kernel
theorem dX10_surge_77 : decode cX10_surge 77 = .ok (.iload_n 2, 1) := by decide +kernel
theorem dX10_surge_78 : decode cX10_surge 78 = .ok (.iload_n 3, 1) := by decide +kernel
theorem dX10_surge_79 : decode cX10_surge 79 = .ok (.iconst 0, 1) := by decide +kernel
theorem dX10_surge_80 : decode cX10_surge 80 = .ok (.iconst 0, 1) := by decide +kernel
theorem dX10_surge_81 : decode cX10_surge 81 = .ok (.invokevirtual 61, 3) := by decide +kernel
theorem dX10_surge_84 : decode cX10_surge 84 = .ok (.aload_n 0, 1) := by decide +kernel
theorem dX10_surge_85 : decode cX10_surge 85 = .ok (.getfield 10, 3) := by decide +kernel
theorem dX10_surge_88 : decode cX10_surge 88 = .ok (.getfield 46, 3) := by decide +kernel
theorem dX10_surge_91 : decode cX10_surge 91 = .ok (.getfield 75, 3) := by decide +kernel
theorem dX10_surge_94 : decode cX10_surge 94 = .ok (.ireturn, 1) := by decide +kernel
theorem dX10_river_0 : decode cX10_river 0 = .ok (.iload_n 1, 1) := by decide +kernel
theorem dX10_river_1 : decode cX10_river 1 = .ok (.iconst 0, 1) := by decide +kernel
theorem dX10_river_2 : decode cX10_river 2 = .ok (.sipush 500, 3) := by decide +kernel
theorem dX10_river_5 : decode cX10_river 5 = .ok (.invokestatic 33, 3) := by decide +kernel
theorem dX10_river_8 : decode cX10_river 8 = .ok (.ifCond .eq 14, 3) := by decide +kernel
theorem dX10_river_11 : decode cX10_river 11 = .ok (.iload_n 2, 1) := by decide +kernel
theorem dX10_river_12 : decode cX10_river 12 = .ok (.iconst 0, 1) := by decide +kernel
theorem dX10_river_13 : decode cX10_river 13 = .ok (.sipush 500, 3) := by decide +kernel
theorem dX10_river_16 : decode cX10_river 16 = .ok (.invokestatic 33, 3) := by decide +kernel
theorem dX10_river_19 : decode cX10_river 19 = .ok (.ifCond .ne 13, 3) := by decide +kernel
theorem dX10_river_22 : decode cX10_river 22 = .ok (.new 37, 3) := by decide +kernel
theorem dX10_river_25 : decode cX10_river 25 = .ok (.dup, 1) := by decide +kernel
theorem dX10_river_26 : decode cX10_river 26 = .ok (.ldc 80, 2) := by decide +kernel
theorem dX10_river_28 : decode cX10_river 28 = .ok (.invokespecial 41, 3) := by decide +kernel
theorem dX10_river_31 : decode cX10_river 31 = .ok (.athrow, 1) := by decide +kernel
theorem dX10_river_32 : decode cX10_river 32 = .ok (.aload_n 0, 1) := by decide +kernel
theorem dX10_river_33 : decode cX10_river 33 = .ok (.getfield 10, 3) := by decide +kernel
theorem dX10_river_36 : decode cX10_river 36 = .ok (.getfield 82, 3) := by decide +kernel
theorem dX10_river_39 : decode cX10_river 39 = .ok (.istore_n 3, 1) := by decide +kernel
theorem dX10_river_40 : decode cX10_river 40 = .ok (.aload_n 0, 1) := by decide +kernel
theorem dX10_river_41 : decode cX10_river 41 = .ok (.iconst 3, 1) := by decide +kernel
theorem dX10_river_42 : decode cX10_river 42 = .ok (.iload_n 1, 1) := by decide +kernel
theorem dX10_river_43 : decode cX10_river 43 = .ok (.iload_n 2, 1) := by decide +kernel
theorem dX10_river_44 : decode cX10_river 44 = .ok (.iconst 0, 1) := by decide +kernel
theorem dX10_river_45 : decode cX10_river 45 = .ok (.iconst 0, 1) := by decide +kernel
theorem dX10_river_46 : decode cX10_river 46 = .ok (.iconst 0, 1) := by decide +kernel
theorem dX10_river_47 : decode cX10_river 47 = .ok (.invokevirtual 61, 3) := by decide +kernel
theorem dX10_river_50 : decode cX10_river 50 = .ok (.iload_n 3, 1) := by decide +kernel
theorem dX10_river_51 : decode cX10_river 51 = .ok (.ireturn, 1) := by decide +kernel
theorem dX10_barrier_0 : decode cX10_barrier 0 = .ok (.iload_n 1, 1) := by decide +kernel
theorem dX10_barrier_1 : decode cX10_barrier 1 = .ok (.iconst (-1), 1) := by decide +kernel
theorem dX10_barrier_2 : decode cX10_barrier 2 = .ok (.if_icmp .eq 14, 3) := by decide +kernel
theorem dX10_barrier_5 : decode cX10_barrier 5 = .ok (.iload_n 1, 1) := by decide +kernel
theorem dX10_barrier_6 : decode cX10_barrier 6 = .ok (.iconst 0, 1) := by decide +kernel
theorem dX10_barrier_7 : decode cX10_barrier 7 = .ok (.sipush 500, 3) := by decide +kernel
theorem dX10_barrier_10 : decode cX10_barrier 10 = .ok (.invokestatic 33, 3) := by decide +kernel
theorem dX10_barrier_13 : decode cX10_barrier 13 = .ok (.ifCond .eq 13, 3) := by decide +kernel
theorem dX10_barrier_16 : decode cX10_barrier 16 = .ok (.iload_n 2, 1) := by decide +kernel
theorem dX10_barrier_17 : decode cX10_barrier 17 = .ok (.iconst 0, 1) := by decide +kernel
theorem dX10_barrier_18 : decode cX10_barrier 18 = .ok (.bipush 12, 2) := by decide +kernel
theorem dX10_barrier_20 : decode cX10_barrier 20 = .ok (.invokestatic 33, 3) := by decide +kernel
theorem dX10_barrier_23 : decode cX10_barrier 23 = .ok (.ifCond .ne 13, 3) := by decide +kernel
theorem dX10_barrier_26 : decode cX10_barrier 26 = .ok (.new 37, 3) := by decide +kernel
theorem dX10_barrier_29 : decode cX10_barrier 29 = .ok (.dup, 1) := by decide +kernel
theorem dX10_barrier_30 : decode cX10_barrier 30 = .ok (.ldc 85, 2) := by decide +kernel
theorem dX10_barrier_32 : decode cX10_barrier 32 = .ok (.invokespecial 41, 3) := by decide +kernel
theorem dX10_barrier_35 : decode cX10_barrier 35 = .ok (.athrow, 1) := by decide +kernel
theorem dX10_barrier_36 : decode cX10_barrier 36 = .ok (.aload_n 0, 1) := by decide +kernel
theorem dX10_barrier_37 : decode cX10_barrier 37 = .ok (.getfield 10, 3) := by decide +kernel
theorem dX10_barrier_40 : decode cX10_barrier 40 = .ok (.getfield 87, 3) := by decide +kernel
theorem dX10_barrier_43 : decode cX10_barrier 43 = .ok (.getfield 91, 3) := by decide +kernel
theorem dX10_barrier_46 : decode cX10_barrier 46 = .ok (.istore_n 3, 1) := by decide +kernel
theorem dX10_barrier_47 : decode cX10_barrier 47 = .ok (.aload_n 0, 1) := by decide +kernel
theorem dX10_barrier_48 : decode cX10_barrier 48 = .ok (.iconst 4, 1) := by decide +kernel
theorem dX10_barrier_49 : decode cX10_barrier 49 = .ok (.iload_n 1, 1) := by decide +kernel
theorem dX10_barrier_50 : decode cX10_barrier 50 = .ok (.iload_n 2, 1) := by decide +kernel
theorem dX10_barrier_51 : decode cX10_barrier 51 = .ok (.iconst 0, 1) := by decide +kernel
theorem dX10_barrier_52 : decode cX10_barrier 52 = .ok (.iconst 0, 1) := by decide +kernel
theorem dX10_barrier_53 : decode cX10_barrier 53 = .ok (.iconst 0, 1) := by decide +kernel
theorem dX10_barrier_54 : decode cX10_barrier 54 = .ok (.invokevirtual 61, 3) := by decide +kernel
theorem dX10_barrier_57 : decode cX10_barrier 57 = .ok (.iload_n 3, 1) := by decide +kernel
theorem dX10_barrier_58 : decode cX10_barrier 58 = .ok (.ireturn, 1) := by decide +kernel
theorem dX10_section_0 : decode cX10_section 0 = .ok (.iload_n 1, 1) := by decide +kernel
theorem dX10_section_1 : decode cX10_section 1 = .ok (.iconst 1, 1) := by decide +kernel
theorem dX10_section_2 : decode cX10_section 2 = .ok (.bipush 100, 2) := by decide +kernel
theorem dX10_section_4 : decode cX10_section 4 = .ok (.invokestatic 33, 3) := by decide +kernel
theorem dX10_section_7 : decode cX10_section 7 = .ok (.ifCond .eq 15, 3) := by decide +kernel
theorem dX10_section_10 : decode cX10_section 10 = .ok (.iload 4, 2) := by decide +kernel
theorem dX10_section_12 : decode cX10_section 12 = .ok (.iconst 0, 1) := by decide +kernel
theorem dX10_section_13 : decode cX10_section 13 = .ok (.sipush 10000, 3) := by decide +kernel
theorem dX10_section_16 : decode cX10_section 16 = .ok (.invokestatic 33, 3) := by decide +kernel
theorem dX10_section_19 : decode cX10_section 19 = .ok (.ifCond .ne 13, 3) := by decide +kernel
theorem dX10_section_22 : decode cX10_section 22 = .ok (.new 37, 3) := by decide +kernel
theorem dX10_section_25 : decode cX10_section 25 = .ok (.dup, 1) := by decide +kernel
theorem dX10_section_26 : decode cX10_section 26 = .ok (.ldc 96, 2) := by decide +kernel
theorem dX10_section_28 : decode cX10_section 28 = .ok (.invokespecial 41, 3) := by decide +kernel
theorem dX10_section_31 : decode cX10_section 31 = .ok (.athrow, 1) := by decide +kernel
theorem dX10_section_32 : decode cX10_section 32 = .ok (.iload_n 2, 1) := by decide +kernel
theorem dX10_section_33 : decode cX10_section 33 = .ok (.iconst 0, 1) := by decide +kernel
theorem dX10_section_34 : decode cX10_section 34 = .ok (.sipush 10000, 3) := by decide +kernel
theorem dX10_section_37 : decode cX10_section 37 = .ok (.invokestatic 33, 3) := by decide +kernel
theorem dX10_section_40 : decode cX10_section 40 = .ok (.ifCond .eq 14, 3) := by decide +kernel
theorem dX10_section_43 : decode cX10_section 43 = .ok (.iload_n 3, 1) := by decide +kernel
theorem dX10_section_44 : decode cX10_section 44 = .ok (.iconst 0, 1) := by decide +kernel
theorem dX10_section_45 : decode cX10_section 45 = .ok (.sipush 10000, 3) := by decide +kernel
theorem dX10_section_48 : decode cX10_section 48 = .ok (.invokestatic 33, 3) := by decide +kernel
theorem dX10_section_51 : decode cX10_section 51 = .ok (.ifCond .ne 13, 3) := by decide +kernel
theorem dX10_section_54 : decode cX10_section 54 = .ok (.new 37, 3) := by decide +kernel
theorem dX10_section_57 : decode cX10_section 57 = .ok (.dup, 1) := by decide +kernel
theorem dX10_section_58 : decode cX10_section 58 = .ok (.ldc 98, 2) := by decide +kernel
theorem dX10_section_60 : decode cX10_section 60 = .ok (.invokespecial 41, 3) := by decide +kernel
theorem dX10_section_63 : decode cX10_section 63 = .ok (.athrow, 1) := by decide +kernel
theorem dX10_section_64 : decode cX10_section 64 = .ok (.aload_n 0, 1) := by decide +kernel
theorem dX10_section_65 : decode cX10_section 65 = .ok (.getfield 10, 3) := by decide +kernel
theorem dX10_section_68 : decode cX10_section 68 = .ok (.getfield 100, 3) := by decide +kernel
theorem dX10_section_71 : decode cX10_section 71 = .ok (.bipush 8, 2) := by decide +kernel
theorem dX10_section_73 : decode cX10_section 73 = .ok (.if_icmp .ge 13, 3) := by decide +kernel
theorem dX10_section_76 : decode cX10_section 76 = .ok (.aload_n 0, 1) := by decide +kernel
theorem dX10_section_77 : decode cX10_section 77 = .ok (.getfield 10, 3) := by decide +kernel
theorem dX10_section_80 : decode cX10_section 80 = .ok (.getfield 70, 3) := by decide +kernel
theorem dX10_section_83 : decode cX10_section 83 = .ok (.ifCond .le 13, 3) := by decide +kernel
theorem dX10_section_86 : decode cX10_section 86 = .ok (.new 56, 3) := by decide +kernel
theorem dX10_section_89 : decode cX10_section 89 = .ok (.dup, 1) := by decide +kernel
theorem dX10_section_90 : decode cX10_section 90 = .ok (.ldc 103, 2) := by decide +kernel
theorem dX10_section_92 : decode cX10_section 92 = .ok (.invokespecial 60, 3) := by decide +kernel
theorem dX10_section_95 : decode cX10_section 95 = .ok (.athrow, 1) := by decide +kernel
theorem dX10_section_96 : decode cX10_section 96 = .ok (.aload_n 0, 1) := by decide +kernel
theorem dX10_section_97 : decode cX10_section 97 = .ok (.getfield 10, 3) := by decide +kernel
theorem dX10_section_100 : decode cX10_section 100 = .ok (.getfield 100, 3) := by decide +kernel
theorem dX10_section_103 : decode cX10_section 103 = .ok (.istore 5, 2) := by decide +kernel
theorem dX10_section_105 : decode cX10_section 105 = .ok (.aload_n 0, 1) := by decide +kernel
theorem dX10_section_106 : decode cX10_section 106 = .ok (.iconst 5, 1) := by decide +kernel
theorem dX10_section_107 : decode cX10_section 107 = .ok (.iload_n 1, 1) := by decide +kernel
theorem dX10_section_108 : decode cX10_section 108 = .ok (.iload_n 2, 1) := by decide +kernel
theorem dX10_section_109 : decode cX10_section 109 = .ok (.iload_n 3, 1) := by decide +kernel
theorem dX10_section_110 : decode cX10_section 110 = .ok (.iload 4, 2) := by decide +kernel
theorem dX10_section_112 : decode cX10_section 112 = .ok (.iconst 0, 1) := by decide +kernel
theorem dX10_section_113 : decode cX10_section 113 = .ok (.invokevirtual 61, 3) := by decide +kernel
theorem dX10_section_116 : decode cX10_section 116 = .ok (.iload 5, 2) := by decide +kernel
theorem dX10_section_118 : decode cX10_section 118 = .ok (.ireturn, 1) := by decide +kernel
theorem dX10_intake_0 : decode cX10_intake 0 = .ok (.aload_n 0, 1) := by decide +kernel
theorem dX10_intake_1 : decode cX10_intake 1 = .ok (.getfield 10, 3) := by decide +kernel
theorem dX10_intake_4 : decode cX10_intake 4 = .ok (.iload_n 1, 1) := by decide +kernel
theorem dX10_intake_5 : decode cX10_intake 5 = .ok (.invokevirtual 105, 3) := by decide +kernel
theorem dX10_intake_8 : decode cX10_intake 8 = .ok (.ifCond .ne 13, 3) := by decide +kernel
theorem dX10_intake_11 : decode cX10_intake 11 = .ok (.new 109, 3) := by decide +kernel
theorem dX10_intake_14 : decode cX10_intake 14 = .ok (.dup, 1) := by decide +kernel
theorem dX10_intake_15 : decode cX10_intake 15 = .ok (.ldc 111, 2) := by decide +kernel
theorem dX10_intake_17 : decode cX10_intake 17 = .ok (.invokespecial 113, 3) := by decide +kernel
theorem dX10_intake_20 : decode cX10_intake 20 = .ok (.athrow, 1) := by decide +kernel
theorem dX10_intake_21 : decode cX10_intake 21 = .ok (.iload_n 2, 1) := by decide +kernel
theorem dX10_intake_22 : decode cX10_intake 22 = .ok (.iconst 1, 1) := by decide +kernel
theorem dX10_intake_23 : decode cX10_intake 23 = .ok (.sipush 500, 3) := by decide +kernel
theorem dX10_intake_26 : decode cX10_intake 26 = .ok (.invokestatic 33, 3) := by decide +kernel
theorem dX10_intake_29 : decode cX10_intake 29 = .ok (.ifCond .eq 13, 3) := by decide +kernel
theorem dX10_intake_32 : decode cX10_intake 32 = .ok (.iload_n 3, 1) := by decide +kernel
theorem dX10_intake_33 : decode cX10_intake 33 = .ok (.iconst 0, 1) := by decide +kernel
theorem dX10_intake_34 : decode cX10_intake 34 = .ok (.bipush 30, 2) := by decide +kernel
theorem dX10_intake_36 : decode cX10_intake 36 = .ok (.invokestatic 33, 3) := by decide +kernel
theorem dX10_intake_39 : decode cX10_intake 39 = .ok (.ifCond .ne 13, 3) := by decide +kernel
theorem dX10_intake_42 : decode cX10_intake 42 = .ok (.new 37, 3) := by decide +kernel
theorem dX10_intake_45 : decode cX10_intake 45 = .ok (.dup, 1) := by decide +kernel
theorem dX10_intake_46 : decode cX10_intake 46 = .ok (.ldc 114, 2) := by decide +kernel
theorem dX10_intake_48 : decode cX10_intake 48 = .ok (.invokespecial 41, 3) := by decide +kernel
theorem dX10_intake_51 : decode cX10_intake 51 = .ok (.athrow, 1) := by decide +kernel
theorem dX10_intake_52 : decode cX10_intake 52 = .ok (.iload 4, 2) := by decide +kernel
theorem dX10_intake_54 : decode cX10_intake 54 = .ok (.iconst 1, 1) := by decide +kernel
theorem dX10_intake_55 : decode cX10_intake 55 = .ok (.sipush 10000, 3) := by decide +kernel
theorem dX10_intake_58 : decode cX10_intake 58 = .ok (.invokestatic 33, 3) := by decide +kernel
theorem dX10_intake_61 : decode cX10_intake 61 = .ok (.ifCond .eq 15, 3) := by decide +kernel
theorem dX10_intake_64 : decode cX10_intake 64 = .ok (.iload 5, 2) := by decide +kernel
theorem dX10_intake_66 : decode cX10_intake 66 = .ok (.iconst 0, 1) := by decide +kernel
theorem dX10_intake_67 : decode cX10_intake 67 = .ok (.sipush 500, 3) := by decide +kernel
theorem dX10_intake_70 : decode cX10_intake 70 = .ok (.invokestatic 33, 3) := by decide +kernel
theorem dX10_intake_73 : decode cX10_intake 73 = .ok (.ifCond .ne 13, 3) := by decide +kernel
theorem dX10_intake_76 : decode cX10_intake 76 = .ok (.new 37, 3) := by decide +kernel
theorem dX10_intake_79 : decode cX10_intake 79 = .ok (.dup, 1) := by decide +kernel
theorem dX10_intake_80 : decode cX10_intake 80 = .ok (.ldc 116, 2) := by decide +kernel
theorem dX10_intake_82 : decode cX10_intake 82 = .ok (.invokespecial 41, 3) := by decide +kernel
theorem dX10_intake_85 : decode cX10_intake 85 = .ok (.athrow, 1) := by decide +kernel
theorem dX10_intake_86 : decode cX10_intake 86 = .ok (.aload_n 0, 1) := by decide +kernel
theorem dX10_intake_87 : decode cX10_intake 87 = .ok (.getfield 10, 3) := by decide +kernel
theorem dX10_intake_90 : decode cX10_intake 90 = .ok (.getfield 118, 3) := by decide +kernel
theorem dX10_intake_93 : decode cX10_intake 93 = .ok (.bipush 6, 2) := by decide +kernel
theorem dX10_intake_95 : decode cX10_intake 95 = .ok (.if_icmp .lt 13, 3) := by decide +kernel
theorem dX10_intake_98 : decode cX10_intake 98 = .ok (.new 56, 3) := by decide +kernel
theorem dX10_intake_101 : decode cX10_intake 101 = .ok (.dup, 1) := by decide +kernel
theorem dX10_intake_102 : decode cX10_intake 102 = .ok (.ldc 121, 2) := by decide +kernel
theorem dX10_intake_104 : decode cX10_intake 104 = .ok (.invokespecial 60, 3) := by decide +kernel
theorem dX10_intake_107 : decode cX10_intake 107 = .ok (.athrow, 1) := by decide +kernel
theorem dX10_intake_108 : decode cX10_intake 108 = .ok (.aload_n 0, 1) := by decide +kernel
theorem dX10_intake_109 : decode cX10_intake 109 = .ok (.getfield 10, 3) := by decide +kernel
theorem dX10_intake_112 : decode cX10_intake 112 = .ok (.getfield 118, 3) := by decide +kernel
theorem dX10_intake_115 : decode cX10_intake 115 = .ok (.istore 6, 2) := by decide +kernel
theorem dX10_intake_117 : decode cX10_intake 117 = .ok (.aload_n 0, 1) := by decide +kernel
theorem dX10_intake_118 : decode cX10_intake 118 = .ok (.bipush 6, 2) := by decide +kernel
theorem dX10_intake_120 : decode cX10_intake 120 = .ok (.iload_n 1, 1) := by decide +kernel
theorem dX10_intake_121 : decode cX10_intake 121 = .ok (.iload_n 2, 1) := by decide +kernel
theorem dX10_intake_122 : decode cX10_intake 122 = .ok (.iload_n 3, 1) := by decide +kernel
theorem dX10_intake_123 : decode cX10_intake 123 = .ok (.iload 4, 2) := by decide +kernel
theorem dX10_intake_125 : decode cX10_intake 125 = .ok (.iload 5, 2) := by decide +kernel
theorem dX10_intake_127 : decode cX10_intake 127 = .ok (.invokevirtual 61, 3) := by decide +kernel
theorem dX10_intake_130 : decode cX10_intake 130 = .ok (.iload 6, 2) := by decide +kernel
theorem dX10_intake_132 : decode cX10_intake 132 = .ok (.ireturn, 1) := by decide +kernel
theorem dX10_oysters_0 : decode cX10_oysters 0 = .ok (.aload_n 0, 1) := by decide +kernel
theorem dX10_oysters_1 : decode cX10_oysters 1 = .ok (.getfield 10, 3) := by decide +kernel
theorem dX10_oysters_4 : decode cX10_oysters 4 = .ok (.iload_n 1, 1) := by decide +kernel
theorem dX10_oysters_5 : decode cX10_oysters 5 = .ok (.invokevirtual 105, 3) := by decide +kernel
theorem dX10_oysters_8 : decode cX10_oysters 8 = .ok (.ifCond .ne 13, 3) := by decide +kernel
theorem dX10_oysters_11 : decode cX10_oysters 11 = .ok (.new 109, 3) := by decide +kernel
theorem dX10_oysters_14 : decode cX10_oysters 14 = .ok (.dup, 1) := by decide +kernel
theorem dX10_oysters_15 : decode cX10_oysters 15 = .ok (.ldc 111, 2) := by decide +kernel
theorem dX10_oysters_17 : decode cX10_oysters 17 = .ok (.invokespecial 113, 3) := by decide +kernel
theorem dX10_oysters_20 : decode cX10_oysters 20 = .ok (.athrow, 1) := by decide +kernel
theorem dX10_oysters_21 : decode cX10_oysters 21 = .ok (.iload_n 2, 1) := by decide +kernel
theorem dX10_oysters_22 : decode cX10_oysters 22 = .ok (.iconst 0, 1) := by decide +kernel
theorem dX10_oysters_23 : decode cX10_oysters 23 = .ok (.bipush 30, 2) := by decide +kernel
theorem dX10_oysters_25 : decode cX10_oysters 25 = .ok (.invokestatic 33, 3) := by decide +kernel
theorem dX10_oysters_28 : decode cX10_oysters 28 = .ok (.ifCond .eq 13, 3) := by decide +kernel
theorem dX10_oysters_31 : decode cX10_oysters 31 = .ok (.iload_n 3, 1) := by decide +kernel
theorem dX10_oysters_32 : decode cX10_oysters 32 = .ok (.iconst 1, 1) := by decide +kernel
theorem dX10_oysters_33 : decode cX10_oysters 33 = .ok (.bipush 24, 2) := by decide +kernel
theorem dX10_oysters_35 : decode cX10_oysters 35 = .ok (.invokestatic 33, 3) := by decide +kernel
theorem dX10_oysters_38 : decode cX10_oysters 38 = .ok (.ifCond .ne 13, 3) := by decide +kernel
theorem dX10_oysters_41 : decode cX10_oysters 41 = .ok (.new 37, 3) := by decide +kernel
theorem dX10_oysters_44 : decode cX10_oysters 44 = .ok (.dup, 1) := by decide +kernel
theorem dX10_oysters_45 : decode cX10_oysters 45 = .ok (.ldc 123, 2) := by decide +kernel
theorem dX10_oysters_47 : decode cX10_oysters 47 = .ok (.invokespecial 41, 3) := by decide +kernel
theorem dX10_oysters_50 : decode cX10_oysters 50 = .ok (.athrow, 1) := by decide +kernel
theorem dX10_oysters_51 : decode cX10_oysters 51 = .ok (.aload_n 0, 1) := by decide +kernel
theorem dX10_oysters_52 : decode cX10_oysters 52 = .ok (.getfield 125, 3) := by decide +kernel
theorem dX10_oysters_55 : decode cX10_oysters 55 = .ok (.bipush 6, 2) := by decide +kernel
theorem dX10_oysters_57 : decode cX10_oysters 57 = .ok (.if_icmp .lt 13, 3) := by decide +kernel
theorem dX10_oysters_60 : decode cX10_oysters 60 = .ok (.new 56, 3) := by decide +kernel
theorem dX10_oysters_63 : decode cX10_oysters 63 = .ok (.dup, 1) := by decide +kernel
theorem dX10_oysters_64 : decode cX10_oysters 64 = .ok (.ldc 128, 2) := by decide +kernel
theorem dX10_oysters_66 : decode cX10_oysters 66 = .ok (.invokespecial 60, 3) := by decide +kernel
theorem dX10_oysters_69 : decode cX10_oysters 69 = .ok (.athrow, 1) := by decide +kernel
theorem dX10_oysters_70 : decode cX10_oysters 70 = .ok (.aload_n 0, 1) := by decide +kernel
theorem dX10_oysters_71 : decode cX10_oysters 71 = .ok (.getfield 125, 3) := by decide +kernel
theorem dX10_oysters_74 : decode cX10_oysters 74 = .ok (.istore 4, 2) := by decide +kernel
theorem dX10_oysters_76 : decode cX10_oysters 76 = .ok (.aload_n 0, 1) := by decide +kernel
theorem dX10_oysters_77 : decode cX10_oysters 77 = .ok (.getfield 28, 3) := by decide +kernel
theorem dX10_oysters_80 : decode cX10_oysters 80 = .ok (.iload 4, 2) := by decide +kernel
theorem dX10_oysters_82 : decode cX10_oysters 82 = .ok (.aaload, 1) := by decide +kernel
theorem dX10_oysters_83 : decode cX10_oysters 83 = .ok (.iload_n 1, 1) := by decide +kernel
theorem dX10_oysters_84 : decode cX10_oysters 84 = .ok (.putfield 130, 3) := by decide +kernel
theorem dX10_oysters_87 : decode cX10_oysters 87 = .ok (.aload_n 0, 1) := by decide +kernel
theorem dX10_oysters_88 : decode cX10_oysters 88 = .ok (.getfield 28, 3) := by decide +kernel
theorem dX10_oysters_91 : decode cX10_oysters 91 = .ok (.iload 4, 2) := by decide +kernel
theorem dX10_oysters_93 : decode cX10_oysters 93 = .ok (.aaload, 1) := by decide +kernel
theorem dX10_oysters_94 : decode cX10_oysters 94 = .ok (.iload_n 2, 1) := by decide +kernel
theorem dX10_oysters_95 : decode cX10_oysters 95 = .ok (.putfield 133, 3) := by decide +kernel
theorem dX10_oysters_98 : decode cX10_oysters 98 = .ok (.aload_n 0, 1) := by decide +kernel
theorem dX10_oysters_99 : decode cX10_oysters 99 = .ok (.getfield 28, 3) := by decide +kernel
theorem dX10_oysters_102 : decode cX10_oysters 102 = .ok (.iload 4, 2) := by decide +kernel
theorem dX10_oysters_104 : decode cX10_oysters 104 = .ok (.aaload, 1) := by decide +kernel
theorem dX10_oysters_105 : decode cX10_oysters 105 = .ok (.iload_n 3, 1) := by decide +kernel
theorem dX10_oysters_106 : decode cX10_oysters 106 = .ok (.putfield 136, 3) := by decide +kernel
theorem dX10_oysters_109 : decode cX10_oysters 109 = .ok (.aload_n 0, 1) := by decide +kernel
theorem dX10_oysters_110 : decode cX10_oysters 110 = .ok (.iload 4, 2) := by decide +kernel
theorem dX10_oysters_112 : decode cX10_oysters 112 = .ok (.iconst 1, 1) := by decide +kernel
theorem dX10_oysters_113 : decode cX10_oysters 113 = .ok (.iadd, 1) := by decide +kernel
theorem dX10_oysters_114 : decode cX10_oysters 114 = .ok (.putfield 125, 3) := by decide +kernel
theorem dX10_oysters_117 : decode cX10_oysters 117 = .ok (.iload 4, 2) := by decide +kernel
theorem dX10_oysters_119 : decode cX10_oysters 119 = .ok (.ireturn, 1) := by decide +kernel
theorem dX10_permit_0 : decode cX10_permit 0 = .ok (.aload_n 0, 1) := by decide +kernel
theorem dX10_permit_1 : decode cX10_permit 1 = .ok (.getfield 10, 3) := by decide +kernel
theorem dX10_permit_4 : decode cX10_permit 4 = .ok (.iload_n 1, 1) := by decide +kernel
theorem dX10_permit_5 : decode cX10_permit 5 = .ok (.invokevirtual 105, 3) := by decide +kernel
theorem dX10_permit_8 : decode cX10_permit 8 = .ok (.ifCond .ne 13, 3) := by decide +kernel
theorem dX10_permit_11 : decode cX10_permit 11 = .ok (.new 109, 3) := by decide +kernel
theorem dX10_permit_14 : decode cX10_permit 14 = .ok (.dup, 1) := by decide +kernel
theorem dX10_permit_15 : decode cX10_permit 15 = .ok (.ldc 111, 2) := by decide +kernel
theorem dX10_permit_17 : decode cX10_permit 17 = .ok (.invokespecial 113, 3) := by decide +kernel
theorem dX10_permit_20 : decode cX10_permit 20 = .ok (.athrow, 1) := by decide +kernel
theorem dX10_permit_21 : decode cX10_permit 21 = .ok (.iload_n 2, 1) := by decide +kernel
theorem dX10_permit_22 : decode cX10_permit 22 = .ok (.iconst 0, 1) := by decide +kernel
theorem dX10_permit_23 : decode cX10_permit 23 = .ok (.sipush 10000, 3) := by decide +kernel
theorem dX10_permit_26 : decode cX10_permit 26 = .ok (.invokestatic 33, 3) := by decide +kernel
theorem dX10_permit_29 : decode cX10_permit 29 = .ok (.ifCond .ne 13, 3) := by decide +kernel
theorem dX10_permit_32 : decode cX10_permit 32 = .ok (.new 37, 3) := by decide +kernel
theorem dX10_permit_35 : decode cX10_permit 35 = .ok (.dup, 1) := by decide +kernel
theorem dX10_permit_36 : decode cX10_permit 36 = .ok (.ldc 139, 2) := by decide +kernel
theorem dX10_permit_38 : decode cX10_permit 38 = .ok (.invokespecial 41, 3) := by decide +kernel
theorem dX10_permit_41 : decode cX10_permit 41 = .ok (.athrow, 1) := by decide +kernel
theorem dX10_permit_42 : decode cX10_permit 42 = .ok (.aload_n 0, 1) := by decide +kernel
theorem dX10_permit_43 : decode cX10_permit 43 = .ok (.getfield 10, 3) := by decide +kernel
theorem dX10_permit_46 : decode cX10_permit 46 = .ok (.getfield 141, 3) := by decide +kernel
theorem dX10_permit_49 : decode cX10_permit 49 = .ok (.iload_n 1, 1) := by decide +kernel
theorem dX10_permit_50 : decode cX10_permit 50 = .ok (.aaload, 1) := by decide +kernel
theorem dX10_permit_51 : decode cX10_permit 51 = .ok (.getfield 145, 3) := by decide +kernel
theorem dX10_permit_54 : decode cX10_permit 54 = .ok (.istore_n 3, 1) := by decide +kernel
theorem dX10_permit_55 : decode cX10_permit 55 = .ok (.aload_n 0, 1) := by decide +kernel
theorem dX10_permit_56 : decode cX10_permit 56 = .ok (.bipush 7, 2) := by decide +kernel
theorem dX10_permit_58 : decode cX10_permit 58 = .ok (.iload_n 1, 1) := by decide +kernel
theorem dX10_permit_59 : decode cX10_permit 59 = .ok (.iload_n 2, 1) := by decide +kernel
theorem dX10_permit_60 : decode cX10_permit 60 = .ok (.iconst 0, 1) := by decide +kernel
theorem dX10_permit_61 : decode cX10_permit 61 = .ok (.iconst 0, 1) := by decide +kernel
theorem dX10_permit_62 : decode cX10_permit 62 = .ok (.iconst 0, 1) := by decide +kernel
theorem dX10_permit_63 : decode cX10_permit 63 = .ok (.invokevirtual 61, 3) := by decide +kernel
theorem dX10_permit_66 : decode cX10_permit 66 = .ok (.iload_n 3, 1) := by decide +kernel
theorem dX10_permit_67 : decode cX10_permit 67 = .ok (.ireturn, 1) := by decide +kernel
theorem dX10_whyNot_0 : decode cX10_whyNot 0 = .ok (.aload_n 0, 1) := by decide +kernel
theorem dX10_whyNot_1 : decode cX10_whyNot 1 = .ok (.getfield 10, 3) := by decide +kernel
theorem dX10_whyNot_4 : decode cX10_whyNot 4 = .ok (.iload_n 1, 1) := by decide +kernel
theorem dX10_whyNot_5 : decode cX10_whyNot 5 = .ok (.invokevirtual 105, 3) := by decide +kernel
theorem dX10_whyNot_8 : decode cX10_whyNot 8 = .ok (.ifCond .ne 13, 3) := by decide +kernel
theorem dX10_whyNot_11 : decode cX10_whyNot 11 = .ok (.new 109, 3) := by decide +kernel
theorem dX10_whyNot_14 : decode cX10_whyNot 14 = .ok (.dup, 1) := by decide +kernel
theorem dX10_whyNot_15 : decode cX10_whyNot 15 = .ok (.ldc 111, 2) := by decide +kernel
theorem dX10_whyNot_17 : decode cX10_whyNot 17 = .ok (.invokespecial 113, 3) := by decide +kernel
theorem dX10_whyNot_20 : decode cX10_whyNot 20 = .ok (.athrow, 1) := by decide +kernel
theorem dX10_whyNot_21 : decode cX10_whyNot 21 = .ok (.iload_n 2, 1) := by decide +kernel
theorem dX10_whyNot_22 : decode cX10_whyNot 22 = .ok (.iconst 1, 1) := by decide +kernel
theorem dX10_whyNot_23 : decode cX10_whyNot 23 = .ok (.sipush 10000, 3) := by decide +kernel
theorem dX10_whyNot_26 : decode cX10_whyNot 26 = .ok (.invokestatic 33, 3) := by decide +kernel
theorem dX10_whyNot_29 : decode cX10_whyNot 29 = .ok (.ifCond .ne 13, 3) := by decide +kernel
theorem dX10_whyNot_32 : decode cX10_whyNot 32 = .ok (.new 37, 3) := by decide +kernel
theorem dX10_whyNot_35 : decode cX10_whyNot 35 = .ok (.dup, 1) := by decide +kernel
theorem dX10_whyNot_36 : decode cX10_whyNot 36 = .ok (.ldc 139, 2) := by decide +kernel
theorem dX10_whyNot_38 : decode cX10_whyNot 38 = .ok (.invokespecial 41, 3) := by decide +kernel
theorem dX10_whyNot_41 : decode cX10_whyNot 41 = .ok (.athrow, 1) := by decide +kernel
theorem dX10_whyNot_42 : decode cX10_whyNot 42 = .ok (.aload_n 0, 1) := by decide +kernel
theorem dX10_whyNot_43 : decode cX10_whyNot 43 = .ok (.getfield 10, 3) := by decide +kernel
theorem dX10_whyNot_46 : decode cX10_whyNot 46 = .ok (.getfield 141, 3) := by decide +kernel
theorem dX10_whyNot_49 : decode cX10_whyNot 49 = .ok (.iload_n 1, 1) := by decide +kernel
theorem dX10_whyNot_50 : decode cX10_whyNot 50 = .ok (.aaload, 1) := by decide +kernel
theorem dX10_whyNot_51 : decode cX10_whyNot 51 = .ok (.iload_n 2, 1) := by decide +kernel
theorem dX10_whyNot_52 : decode cX10_whyNot 52 = .ok (.invokevirtual 150, 3) := by decide +kernel
theorem dX10_whyNot_55 : decode cX10_whyNot 55 = .ok (.ireturn, 1) := by decide +kernel
theorem dX10_dredge_0 : decode cX10_dredge 0 = .ok (.aload_n 0, 1) := by decide +kernel
theorem dX10_dredge_1 : decode cX10_dredge 1 = .ok (.getfield 10, 3) := by decide +kernel
theorem dX10_dredge_4 : decode cX10_dredge 4 = .ok (.iload_n 1, 1) := by decide +kernel
theorem dX10_dredge_5 : decode cX10_dredge 5 = .ok (.invokevirtual 105, 3) := by decide +kernel
theorem dX10_dredge_8 : decode cX10_dredge 8 = .ok (.ifCond .eq 19, 3) := by decide +kernel
theorem dX10_dredge_11 : decode cX10_dredge 11 = .ok (.iload_n 3, 1) := by decide +kernel
theorem dX10_dredge_12 : decode cX10_dredge 12 = .ok (.iconst (-1), 1) := by decide +kernel
theorem dX10_dredge_13 : decode cX10_dredge 13 = .ok (.if_icmp .eq 24, 3) := by decide +kernel
theorem dX10_dredge_16 : decode cX10_dredge 16 = .ok (.aload_n 0, 1) := by decide +kernel
theorem dX10_dredge_17 : decode cX10_dredge 17 = .ok (.getfield 10, 3) := by decide +kernel
theorem dX10_dredge_20 : decode cX10_dredge 20 = .ok (.iload_n 3, 1) := by decide +kernel
theorem dX10_dredge_21 : decode cX10_dredge 21 = .ok (.invokevirtual 105, 3) := by decide +kernel
theorem dX10_dredge_24 : decode cX10_dredge 24 = .ok (.ifCond .ne 13, 3) := by decide +kernel
theorem dX10_dredge_27 : decode cX10_dredge 27 = .ok (.new 109, 3) := by decide +kernel
theorem dX10_dredge_30 : decode cX10_dredge 30 = .ok (.dup, 1) := by decide +kernel
theorem dX10_dredge_31 : decode cX10_dredge 31 = .ok (.ldc 111, 2) := by decide +kernel
theorem dX10_dredge_33 : decode cX10_dredge 33 = .ok (.invokespecial 113, 3) := by decide +kernel
theorem dX10_dredge_36 : decode cX10_dredge 36 = .ok (.athrow, 1) := by decide +kernel
theorem dX10_dredge_37 : decode cX10_dredge 37 = .ok (.iload_n 2, 1) := by decide +kernel
theorem dX10_dredge_38 : decode cX10_dredge 38 = .ok (.iconst 1, 1) := by decide +kernel
theorem dX10_dredge_39 : decode cX10_dredge 39 = .ok (.sipush 10000, 3) := by decide +kernel
theorem dX10_dredge_42 : decode cX10_dredge 42 = .ok (.invokestatic 33, 3) := by decide +kernel
theorem dX10_dredge_45 : decode cX10_dredge 45 = .ok (.ifCond .eq 8, 3) := by decide +kernel
theorem dX10_dredge_48 : decode cX10_dredge 48 = .ok (.iload_n 1, 1) := by decide +kernel
theorem dX10_dredge_49 : decode cX10_dredge 49 = .ok (.iload_n 3, 1) := by decide +kernel
theorem dX10_dredge_50 : decode cX10_dredge 50 = .ok (.if_icmp .ne 13, 3) := by decide +kernel
theorem dX10_dredge_53 : decode cX10_dredge 53 = .ok (.new 37, 3) := by decide +kernel
theorem dX10_dredge_56 : decode cX10_dredge 56 = .ok (.dup, 1) := by decide +kernel
theorem dX10_dredge_57 : decode cX10_dredge 57 = .ok (.ldc 154, 2) := by decide +kernel
theorem dX10_dredge_59 : decode cX10_dredge 59 = .ok (.invokespecial 41, 3) := by decide +kernel
theorem dX10_dredge_62 : decode cX10_dredge 62 = .ok (.athrow, 1) := by decide +kernel
theorem dX10_dredge_63 : decode cX10_dredge 63 = .ok (.aload_n 0, 1) := by decide +kernel
theorem dX10_dredge_64 : decode cX10_dredge 64 = .ok (.getfield 10, 3) := by decide +kernel
theorem dX10_dredge_67 : decode cX10_dredge 67 = .ok (.getfield 141, 3) := by decide +kernel
theorem dX10_dredge_70 : decode cX10_dredge 70 = .ok (.iload_n 1, 1) := by decide +kernel
theorem dX10_dredge_71 : decode cX10_dredge 71 = .ok (.aaload, 1) := by decide +kernel
theorem dX10_dredge_72 : decode cX10_dredge 72 = .ok (.iload_n 2, 1) := by decide +kernel
theorem dX10_dredge_73 : decode cX10_dredge 73 = .ok (.invokevirtual 150, 3) := by decide +kernel
theorem dX10_dredge_76 : decode cX10_dredge 76 = .ok (.ifCond .eq 13, 3) := by decide +kernel
theorem dX10_dredge_79 : decode cX10_dredge 79 = .ok (.new 56, 3) := by decide +kernel
theorem dX10_dredge_82 : decode cX10_dredge 82 = .ok (.dup, 1) := by decide +kernel
theorem dX10_dredge_83 : decode cX10_dredge 83 = .ok (.ldc 156, 2) := by decide +kernel
theorem dX10_dredge_85 : decode cX10_dredge 85 = .ok (.invokespecial 60, 3) := by decide +kernel
theorem dX10_dredge_88 : decode cX10_dredge 88 = .ok (.athrow, 1) := by decide +kernel
theorem dX10_dredge_89 : decode cX10_dredge 89 = .ok (.aload_n 0, 1) := by decide +kernel
theorem dX10_dredge_90 : decode cX10_dredge 90 = .ok (.bipush 8, 2) := by decide +kernel
theorem dX10_dredge_92 : decode cX10_dredge 92 = .ok (.iload_n 1, 1) := by decide +kernel
theorem dX10_dredge_93 : decode cX10_dredge 93 = .ok (.iload_n 2, 1) := by decide +kernel
theorem dX10_dredge_94 : decode cX10_dredge 94 = .ok (.iload_n 3, 1) := by decide +kernel
theorem dX10_dredge_95 : decode cX10_dredge 95 = .ok (.iconst 0, 1) := by decide +kernel
theorem dX10_dredge_96 : decode cX10_dredge 96 = .ok (.iconst 0, 1) := by decide +kernel
theorem dX10_dredge_97 : decode cX10_dredge 97 = .ok (.invokevirtual 61, 3) := by decide +kernel
theorem dX10_dredge_100 : decode cX10_dredge 100 = .ok (.aload_n 0, 1) := by decide +kernel
theorem dX10_dredge_101 : decode cX10_dredge 101 = .ok (.getfield 10, 3) := by decide +kernel
theorem dX10_dredge_104 : decode cX10_dredge 104 = .ok (.getfield 141, 3) := by decide +kernel
theorem dX10_dredge_107 : decode cX10_dredge 107 = .ok (.iload_n 1, 1) := by decide +kernel
theorem dX10_dredge_108 : decode cX10_dredge 108 = .ok (.aaload, 1) := by decide +kernel
theorem dX10_dredge_109 : decode cX10_dredge 109 = .ok (.getfield 145, 3) := by decide +kernel
theorem dX10_dredge_112 : decode cX10_dredge 112 = .ok (.ireturn, 1) := by decide +kernel
theorem dX10_pass_0 : decode cX10_pass 0 = .ok (.iload_n 1, 1) := by decide +kernel
theorem dX10_pass_1 : decode cX10_pass 1 = .ok (.iconst 1, 1) := by decide +kernel
theorem dX10_pass_2 : decode cX10_pass 2 = .ok (.bipush 48, 2) := by decide +kernel
theorem dX10_pass_4 : decode cX10_pass 4 = .ok (.invokestatic 33, 3) := by decide +kernel
theorem dX10_pass_7 : decode cX10_pass 7 = .ok (.ifCond .ne 13, 3) := by decide +kernel
theorem dX10_pass_10 : decode cX10_pass 10 = .ok (.new 37, 3) := by decide +kernel
theorem dX10_pass_13 : decode cX10_pass 13 = .ok (.dup, 1) := by decide +kernel
theorem dX10_pass_14 : decode cX10_pass 14 = .ok (.ldc 158, 2) := by decide +kernel
theorem dX10_pass_16 : decode cX10_pass 16 = .ok (.invokespecial 41, 3) := by decide +kernel
theorem dX10_pass_19 : decode cX10_pass 19 = .ok (.athrow, 1) := by decide +kernel
theorem dX10_pass_20 : decode cX10_pass 20 = .ok (.aload_n 0, 1) := by decide +kernel
theorem dX10_pass_21 : decode cX10_pass 21 = .ok (.getfield 10, 3) := by decide +kernel
theorem dX10_pass_24 : decode cX10_pass 24 = .ok (.getfield 70, 3) := by decide +kernel
theorem dX10_pass_27 : decode cX10_pass 27 = .ok (.iload_n 1, 1) := by decide +kernel
theorem dX10_pass_28 : decode cX10_pass 28 = .ok (.iadd, 1) := by decide +kernel
theorem dX10_pass_29 : decode cX10_pass 29 = .ok (.sipush 1000, 3) := by decide +kernel
theorem dX10_pass_32 : decode cX10_pass 32 = .ok (.if_icmp .le 13, 3) := by decide +kernel
theorem dX10_pass_35 : decode cX10_pass 35 = .ok (.new 56, 3) := by decide +kernel
theorem dX10_pass_38 : decode cX10_pass 38 = .ok (.dup, 1) := by decide +kernel
theorem dX10_pass_39 : decode cX10_pass 39 = .ok (.ldc 160, 2) := by decide +kernel
theorem dX10_pass_41 : decode cX10_pass 41 = .ok (.invokespecial 60, 3) := by decide +kernel
theorem dX10_pass_44 : decode cX10_pass 44 = .ok (.athrow, 1) := by decide +kernel
theorem dX10_pass_45 : decode cX10_pass 45 = .ok (.aload_n 0, 1) := by decide +kernel
theorem dX10_pass_46 : decode cX10_pass 46 = .ok (.getfield 10, 3) := by decide +kernel
theorem dX10_pass_49 : decode cX10_pass 49 = .ok (.aload_n 0, 1) := by decide +kernel
theorem dX10_pass_50 : decode cX10_pass 50 = .ok (.getfield 10, 3) := by decide +kernel
theorem dX10_pass_53 : decode cX10_pass 53 = .ok (.getfield 70, 3) := by decide +kernel
theorem dX10_pass_56 : decode cX10_pass 56 = .ok (.iload_n 1, 1) := by decide +kernel
theorem dX10_pass_57 : decode cX10_pass 57 = .ok (.iadd, 1) := by decide +kernel
theorem dX10_pass_58 : decode cX10_pass 58 = .ok (.invokevirtual 162, 3) := by decide +kernel
theorem dX10_pass_61 : decode cX10_pass 61 = .ok (.aload_n 0, 1) := by decide +kernel
theorem dX10_pass_62 : decode cX10_pass 62 = .ok (.getfield 10, 3) := by decide +kernel
theorem dX10_pass_65 : decode cX10_pass 65 = .ok (.getfield 70, 3) := by decide +kernel
theorem dX10_pass_68 : decode cX10_pass 68 = .ok (.ireturn, 1) := by decide +kernel
theorem dX10_now_0 : decode cX10_now 0 = .ok (.aload_n 0, 1) := by decide +kernel
theorem dX10_now_1 : decode cX10_now 1 = .ok (.getfield 10, 3) := by decide +kernel
theorem dX10_now_4 : decode cX10_now 4 = .ok (.getfield 70, 3) := by decide +kernel
theorem dX10_now_7 : decode cX10_now 7 = .ok (.ireturn, 1) := by decide +kernel
theorem dX10_sea_0 : decode cX10_sea 0 = .ok (.iload_n 1, 1) := by decide +kernel
theorem dX10_sea_1 : decode cX10_sea 1 = .ok (.iconst 0, 1) := by decide +kernel
theorem dX10_sea_2 : decode cX10_sea 2 = .ok (.sipush 2000, 3) := by decide +kernel
theorem dX10_sea_5 : decode cX10_sea 5 = .ok (.invokestatic 33, 3) := by decide +kernel
theorem dX10_sea_8 : decode cX10_sea 8 = .ok (.ifCond .ne 13, 3) := by decide +kernel
theorem dX10_sea_11 : decode cX10_sea 11 = .ok (.new 37, 3) := by decide +kernel
theorem dX10_sea_14 : decode cX10_sea 14 = .ok (.dup, 1) := by decide +kernel
theorem dX10_sea_15 : decode cX10_sea 15 = .ok (.ldc 166, 2) := by decide +kernel
theorem dX10_sea_17 : decode cX10_sea 17 = .ok (.invokespecial 41, 3) := by decide +kernel
theorem dX10_sea_20 : decode cX10_sea 20 = .ok (.athrow, 1) := by decide +kernel
theorem dX10_sea_21 : decode cX10_sea 21 = .ok (.aload_n 0, 1) := by decide +kernel
theorem dX10_sea_22 : decode cX10_sea 22 = .ok (.getfield 10, 3) := by decide +kernel
theorem dX10_sea_25 : decode cX10_sea 25 = .ok (.iload_n 1, 1) := by decide +kernel
theorem dX10_sea_26 : decode cX10_sea 26 = .ok (.invokevirtual 168, 3) := by decide +kernel
theorem dX10_sea_29 : decode cX10_sea 29 = .ok (.ireturn, 1) := by decide +kernel
theorem dX10_ofSection_0 : decode cX10_ofSection 0 = .ok (.aload_n 0, 1) := by decide +kernel
theorem dX10_ofSection_1 : decode cX10_ofSection 1 = .ok (.getfield 10, 3) := by decide +kernel
theorem dX10_ofSection_4 : decode cX10_ofSection 4 = .ok (.iload_n 1, 1) := by decide +kernel
theorem dX10_ofSection_5 : decode cX10_ofSection 5 = .ok (.invokevirtual 105, 3) := by decide +kernel
theorem dX10_ofSection_8 : decode cX10_ofSection 8 = .ok (.ifCond .ne 13, 3) := by decide +kernel
theorem dX10_ofSection_11 : decode cX10_ofSection 11 = .ok (.new 109, 3) := by decide +kernel
theorem dX10_ofSection_14 : decode cX10_ofSection 14 = .ok (.dup, 1) := by decide +kernel
theorem dX10_ofSection_15 : decode cX10_ofSection 15 = .ok (.ldc 111, 2) := by decide +kernel
theorem dX10_ofSection_17 : decode cX10_ofSection 17 = .ok (.invokespecial 113, 3) := by decide +kernel
theorem dX10_ofSection_20 : decode cX10_ofSection 20 = .ok (.athrow, 1) := by decide +kernel
theorem dX10_ofSection_21 : decode cX10_ofSection 21 = .ok (.iload_n 2, 1) := by decide +kernel
theorem dX10_ofSection_22 : decode cX10_ofSection 22 = .ok (.iconst 0, 1) := by decide +kernel
theorem dX10_ofSection_23 : decode cX10_ofSection 23 = .ok (.bipush 9, 2) := by decide +kernel
theorem dX10_ofSection_25 : decode cX10_ofSection 25 = .ok (.invokestatic 33, 3) := by decide +kernel
theorem dX10_ofSection_28 : decode cX10_ofSection 28 = .ok (.ifCond .ne 13, 3) := by decide +kernel
theorem dX10_ofSection_31 : decode cX10_ofSection 31 = .ok (.new 37, 3) := by decide +kernel
theorem dX10_ofSection_34 : decode cX10_ofSection 34 = .ok (.dup, 1) := by decide +kernel
theorem dX10_ofSection_35 : decode cX10_ofSection 35 = .ok (.ldc 171, 2) := by decide +kernel
theorem dX10_ofSection_37 : decode cX10_ofSection 37 = .ok (.invokespecial 41, 3) := by decide +kernel
theorem dX10_ofSection_40 : decode cX10_ofSection 40 = .ok (.athrow, 1) := by decide +kernel
theorem dX10_ofSection_41 : decode cX10_ofSection 41 = .ok (.aload_n 0, 1) := by decide +kernel
theorem dX10_ofSection_42 : decode cX10_ofSection 42 = .ok (.getfield 10, 3) := by decide +kernel
theorem dX10_ofSection_45 : decode cX10_ofSection 45 = .ok (.getfield 141, 3) := by decide +kernel
theorem dX10_ofSection_48 : decode cX10_ofSection 48 = .ok (.iload_n 1, 1) := by decide +kernel
theorem dX10_ofSection_49 : decode cX10_ofSection 49 = .ok (.aaload, 1) := by decide +kernel
theorem dX10_ofSection_50 : decode cX10_ofSection 50 = .ok (.iload_n 2, 1) := by decide +kernel
theorem dX10_ofSection_51 : decode cX10_ofSection 51 = .ok (.invokevirtual 173, 3) := by decide +kernel
theorem dX10_ofSection_54 : decode cX10_ofSection 54 = .ok (.ireturn, 1) := by decide +kernel
theorem dX10_ofSectionAnew_0 : decode cX10_ofSectionAnew 0 = .ok (.aload_n 0, 1) := by decide +kernel
theorem dX10_ofSectionAnew_1 : decode cX10_ofSectionAnew 1 = .ok (.getfield 10, 3) := by decide +kernel
theorem dX10_ofSectionAnew_4 : decode cX10_ofSectionAnew 4 = .ok (.iload_n 1, 1) := by decide +kernel
theorem dX10_ofSectionAnew_5 : decode cX10_ofSectionAnew 5 = .ok (.invokevirtual 105, 3) := by decide +kernel
theorem dX10_ofSectionAnew_8 : decode cX10_ofSectionAnew 8 = .ok (.ifCond .ne 13, 3) := by decide +kernel
theorem dX10_ofSectionAnew_11 : decode cX10_ofSectionAnew 11 = .ok (.new 109, 3) := by decide +kernel
theorem dX10_ofSectionAnew_14 : decode cX10_ofSectionAnew 14 = .ok (.dup, 1) := by decide +kernel
theorem dX10_ofSectionAnew_15 : decode cX10_ofSectionAnew 15 = .ok (.ldc 111, 2) := by decide +kernel
theorem dX10_ofSectionAnew_17 : decode cX10_ofSectionAnew 17 = .ok (.invokespecial 113, 3) := by decide +kernel
theorem dX10_ofSectionAnew_20 : decode cX10_ofSectionAnew 20 = .ok (.athrow, 1) := by decide +kernel
theorem dX10_ofSectionAnew_21 : decode cX10_ofSectionAnew 21 = .ok (.iload_n 2, 1) := by decide +kernel
theorem dX10_ofSectionAnew_22 : decode cX10_ofSectionAnew 22 = .ok (.iconst 0, 1) := by decide +kernel
theorem dX10_ofSectionAnew_23 : decode cX10_ofSectionAnew 23 = .ok (.bipush 9, 2) := by decide +kernel
theorem dX10_ofSectionAnew_25 : decode cX10_ofSectionAnew 25 = .ok (.invokestatic 33, 3) := by decide +kernel
theorem dX10_ofSectionAnew_28 : decode cX10_ofSectionAnew 28 = .ok (.ifCond .ne 13, 3) := by decide +kernel
theorem dX10_ofSectionAnew_31 : decode cX10_ofSectionAnew 31 = .ok (.new 37, 3) := by decide +kernel
theorem dX10_ofSectionAnew_34 : decode cX10_ofSectionAnew 34 = .ok (.dup, 1) := by decide +kernel
theorem dX10_ofSectionAnew_35 : decode cX10_ofSectionAnew 35 = .ok (.ldc 171, 2) := by decide +kernel
theorem dX10_ofSectionAnew_37 : decode cX10_ofSectionAnew 37 = .ok (.invokespecial 41, 3) := by decide +kernel
theorem dX10_ofSectionAnew_40 : decode cX10_ofSectionAnew 40 = .ok (.athrow, 1) := by decide +kernel
theorem dX10_ofSectionAnew_41 : decode cX10_ofSectionAnew 41 = .ok (.aload_n 0, 1) := by decide +kernel
theorem dX10_ofSectionAnew_42 : decode cX10_ofSectionAnew 42 = .ok (.getfield 16, 3) := by decide +kernel
theorem dX10_ofSectionAnew_45 : decode cX10_ofSectionAnew 45 = .ok (.invokevirtual 176, 3) := by decide +kernel
theorem dX10_ofSectionAnew_48 : decode cX10_ofSectionAnew 48 = .ok (.iconst 0, 1) := by decide +kernel
theorem dX10_ofSectionAnew_49 : decode cX10_ofSectionAnew 49 = .ok (.istore_n 3, 1) := by decide +kernel
theorem dX10_ofSectionAnew_50 : decode cX10_ofSectionAnew 50 = .ok (.iload_n 3, 1) := by decide +kernel
theorem dX10_ofSectionAnew_51 : decode cX10_ofSectionAnew 51 = .ok (.aload_n 0, 1) := by decide +kernel
theorem dX10_ofSectionAnew_52 : decode cX10_ofSectionAnew 52 = .ok (.getfield 22, 3) := by decide +kernel
theorem dX10_ofSectionAnew_55 : decode cX10_ofSectionAnew 55 = .ok (.getfield 179, 3) := by decide +kernel
theorem dX10_ofSectionAnew_58 : decode cX10_ofSectionAnew 58 = .ok (.if_icmp .ge 87, 3) := by decide +kernel
theorem dX10_ofSectionAnew_61 : decode cX10_ofSectionAnew 61 = .ok (.aload_n 0, 1) := by decide +kernel
theorem dX10_ofSectionAnew_62 : decode cX10_ofSectionAnew 62 = .ok (.getfield 16, 3) := by decide +kernel
theorem dX10_ofSectionAnew_65 : decode cX10_ofSectionAnew 65 = .ok (.aload_n 0, 1) := by decide +kernel
theorem dX10_ofSectionAnew_66 : decode cX10_ofSectionAnew 66 = .ok (.getfield 22, 3) := by decide +kernel
theorem dX10_ofSectionAnew_69 : decode cX10_ofSectionAnew 69 = .ok (.iload_n 3, 1) := by decide +kernel
theorem dX10_ofSectionAnew_70 : decode cX10_ofSectionAnew 70 = .ok (.iconst 0, 1) := by decide +kernel
theorem dX10_ofSectionAnew_71 : decode cX10_ofSectionAnew 71 = .ok (.invokevirtual 182, 3) := by decide +kernel
theorem dX10_ofSectionAnew_74 : decode cX10_ofSectionAnew 74 = .ok (.invokevirtual 162, 3) := by decide +kernel
theorem dX10_ofSectionAnew_77 : decode cX10_ofSectionAnew 77 = .ok (.aload_n 0, 1) := by decide +kernel
theorem dX10_ofSectionAnew_78 : decode cX10_ofSectionAnew 78 = .ok (.getfield 16, 3) := by decide +kernel
theorem dX10_ofSectionAnew_81 : decode cX10_ofSectionAnew 81 = .ok (.aload_n 0, 1) := by decide +kernel
theorem dX10_ofSectionAnew_82 : decode cX10_ofSectionAnew 82 = .ok (.getfield 22, 3) := by decide +kernel
theorem dX10_ofSectionAnew_85 : decode cX10_ofSectionAnew 85 = .ok (.iload_n 3, 1) := by decide +kernel
theorem dX10_ofSectionAnew_86 : decode cX10_ofSectionAnew 86 = .ok (.iconst 1, 1) := by decide +kernel
theorem dX10_ofSectionAnew_87 : decode cX10_ofSectionAnew 87 = .ok (.invokevirtual 182, 3) := by decide +kernel
theorem dX10_ofSectionAnew_90 : decode cX10_ofSectionAnew 90 = .ok (.aload_n 0, 1) := by decide +kernel
theorem dX10_ofSectionAnew_91 : decode cX10_ofSectionAnew 91 = .ok (.getfield 22, 3) := by decide +kernel
theorem dX10_ofSectionAnew_94 : decode cX10_ofSectionAnew 94 = .ok (.iload_n 3, 1) := by decide +kernel
theorem dX10_ofSectionAnew_95 : decode cX10_ofSectionAnew 95 = .ok (.iconst 2, 1) := by decide +kernel
theorem dX10_ofSectionAnew_96 : decode cX10_ofSectionAnew 96 = .ok (.invokevirtual 182, 3) := by decide +kernel
theorem dX10_ofSectionAnew_99 : decode cX10_ofSectionAnew 99 = .ok (.aload_n 0, 1) := by decide +kernel
theorem dX10_ofSectionAnew_100 : decode cX10_ofSectionAnew 100 = .ok (.getfield 22, 3) := by decide +kernel
theorem dX10_ofSectionAnew_103 : decode cX10_ofSectionAnew 103 = .ok (.iload_n 3, 1) := by decide +kernel
theorem dX10_ofSectionAnew_104 : decode cX10_ofSectionAnew 104 = .ok (.iconst 3, 1) := by decide +kernel
theorem dX10_ofSectionAnew_105 : decode cX10_ofSectionAnew 105 = .ok (.invokevirtual 182, 3) := by decide +kernel
theorem dX10_ofSectionAnew_108 : decode cX10_ofSectionAnew 108 = .ok (.aload_n 0, 1) := by decide +kernel
theorem dX10_ofSectionAnew_109 : decode cX10_ofSectionAnew 109 = .ok (.getfield 22, 3) := by decide +kernel
theorem dX10_ofSectionAnew_112 : decode cX10_ofSectionAnew 112 = .ok (.iload_n 3, 1) := by decide +kernel
theorem dX10_ofSectionAnew_113 : decode cX10_ofSectionAnew 113 = .ok (.iconst 4, 1) := by decide +kernel
theorem dX10_ofSectionAnew_114 : decode cX10_ofSectionAnew 114 = .ok (.invokevirtual 182, 3) := by decide +kernel
theorem dX10_ofSectionAnew_117 : decode cX10_ofSectionAnew 117 = .ok (.aload_n 0, 1) := by decide +kernel
theorem dX10_ofSectionAnew_118 : decode cX10_ofSectionAnew 118 = .ok (.getfield 22, 3) := by decide +kernel
theorem dX10_ofSectionAnew_121 : decode cX10_ofSectionAnew 121 = .ok (.iload_n 3, 1) := by decide +kernel
theorem dX10_ofSectionAnew_122 : decode cX10_ofSectionAnew 122 = .ok (.iconst 5, 1) := by decide +kernel
theorem dX10_ofSectionAnew_123 : decode cX10_ofSectionAnew 123 = .ok (.invokevirtual 182, 3) := by decide +kernel
theorem dX10_ofSectionAnew_126 : decode cX10_ofSectionAnew 126 = .ok (.aload_n 0, 1) := by decide +kernel
theorem dX10_ofSectionAnew_127 : decode cX10_ofSectionAnew 127 = .ok (.getfield 22, 3) := by decide +kernel
theorem dX10_ofSectionAnew_130 : decode cX10_ofSectionAnew 130 = .ok (.iload_n 3, 1) := by decide +kernel
theorem dX10_ofSectionAnew_131 : decode cX10_ofSectionAnew 131 = .ok (.bipush 6, 2) := by decide +kernel
theorem dX10_ofSectionAnew_133 : decode cX10_ofSectionAnew 133 = .ok (.invokevirtual 182, 3) := by decide +kernel
theorem dX10_ofSectionAnew_136 : decode cX10_ofSectionAnew 136 = .ok (.invokevirtual 186, 3) := by decide +kernel
theorem dX10_ofSectionAnew_139 : decode cX10_ofSectionAnew 139 = .ok (.iinc 3 1, 3) := by decide +kernel
theorem dX10_ofSectionAnew_142 : decode cX10_ofSectionAnew 142 = .ok (.goto (-92), 3) := by decide +kernel
theorem dX10_ofSectionAnew_145 : decode cX10_ofSectionAnew 145 = .ok (.aload_n 0, 1) := by decide +kernel
theorem dX10_ofSectionAnew_146 : decode cX10_ofSectionAnew 146 = .ok (.getfield 16, 3) := by decide +kernel
theorem dX10_ofSectionAnew_149 : decode cX10_ofSectionAnew 149 = .ok (.aload_n 0, 1) := by decide +kernel
theorem dX10_ofSectionAnew_150 : decode cX10_ofSectionAnew 150 = .ok (.getfield 10, 3) := by decide +kernel
theorem dX10_ofSectionAnew_153 : decode cX10_ofSectionAnew 153 = .ok (.getfield 70, 3) := by decide +kernel
theorem dX10_ofSectionAnew_156 : decode cX10_ofSectionAnew 156 = .ok (.invokevirtual 162, 3) := by decide +kernel
theorem dX10_ofSectionAnew_159 : decode cX10_ofSectionAnew 159 = .ok (.aload_n 0, 1) := by decide +kernel
theorem dX10_ofSectionAnew_160 : decode cX10_ofSectionAnew 160 = .ok (.getfield 16, 3) := by decide +kernel
theorem dX10_ofSectionAnew_163 : decode cX10_ofSectionAnew 163 = .ok (.getfield 141, 3) := by decide +kernel
theorem dX10_ofSectionAnew_166 : decode cX10_ofSectionAnew 166 = .ok (.iload_n 1, 1) := by decide +kernel
theorem dX10_ofSectionAnew_167 : decode cX10_ofSectionAnew 167 = .ok (.aaload, 1) := by decide +kernel
theorem dX10_ofSectionAnew_168 : decode cX10_ofSectionAnew 168 = .ok (.iload_n 2, 1) := by decide +kernel
theorem dX10_ofSectionAnew_169 : decode cX10_ofSectionAnew 169 = .ok (.invokevirtual 173, 3) := by decide +kernel
theorem dX10_ofSectionAnew_172 : decode cX10_ofSectionAnew 172 = .ok (.ireturn, 1) := by decide +kernel
theorem dX10_ofIntake_0 : decode cX10_ofIntake 0 = .ok (.iload_n 1, 1) := by decide +kernel
theorem dX10_ofIntake_1 : decode cX10_ofIntake 1 = .ok (.ifCond .lt 14, 3) := by decide +kernel
theorem dX10_ofIntake_4 : decode cX10_ofIntake 4 = .ok (.iload_n 1, 1) := by decide +kernel
theorem dX10_ofIntake_5 : decode cX10_ofIntake 5 = .ok (.aload_n 0, 1) := by decide +kernel
theorem dX10_ofIntake_6 : decode cX10_ofIntake 6 = .ok (.getfield 10, 3) := by decide +kernel
theorem dX10_ofIntake_9 : decode cX10_ofIntake 9 = .ok (.getfield 118, 3) := by decide +kernel
theorem dX10_ofIntake_12 : decode cX10_ofIntake 12 = .ok (.if_icmp .lt 13, 3) := by decide +kernel
theorem dX10_ofIntake_15 : decode cX10_ofIntake 15 = .ok (.new 109, 3) := by decide +kernel
theorem dX10_ofIntake_18 : decode cX10_ofIntake 18 = .ok (.dup, 1) := by decide +kernel
theorem dX10_ofIntake_19 : decode cX10_ofIntake 19 = .ok (.ldc 189, 2) := by decide +kernel
theorem dX10_ofIntake_21 : decode cX10_ofIntake 21 = .ok (.invokespecial 113, 3) := by decide +kernel
theorem dX10_ofIntake_24 : decode cX10_ofIntake 24 = .ok (.athrow, 1) := by decide +kernel
theorem dX10_ofIntake_25 : decode cX10_ofIntake 25 = .ok (.iload_n 2, 1) := by decide +kernel
theorem dX10_ofIntake_26 : decode cX10_ofIntake 26 = .ok (.iconst 0, 1) := by decide +kernel
theorem dX10_ofIntake_27 : decode cX10_ofIntake 27 = .ok (.iconst 4, 1) := by decide +kernel
theorem dX10_ofIntake_28 : decode cX10_ofIntake 28 = .ok (.invokestatic 33, 3) := by decide +kernel
theorem dX10_ofIntake_31 : decode cX10_ofIntake 31 = .ok (.ifCond .ne 13, 3) := by decide +kernel
theorem dX10_ofIntake_34 : decode cX10_ofIntake 34 = .ok (.new 37, 3) := by decide +kernel
theorem dX10_ofIntake_37 : decode cX10_ofIntake 37 = .ok (.dup, 1) := by decide +kernel
theorem dX10_ofIntake_38 : decode cX10_ofIntake 38 = .ok (.ldc 171, 2) := by decide +kernel
theorem dX10_ofIntake_40 : decode cX10_ofIntake 40 = .ok (.invokespecial 41, 3) := by decide +kernel
theorem dX10_ofIntake_43 : decode cX10_ofIntake 43 = .ok (.athrow, 1) := by decide +kernel
theorem dX10_ofIntake_44 : decode cX10_ofIntake 44 = .ok (.aload_n 0, 1) := by decide +kernel
theorem dX10_ofIntake_45 : decode cX10_ofIntake 45 = .ok (.getfield 10, 3) := by decide +kernel
theorem dX10_ofIntake_48 : decode cX10_ofIntake 48 = .ok (.getfield 191, 3) := by decide +kernel
theorem dX10_ofIntake_51 : decode cX10_ofIntake 51 = .ok (.iload_n 1, 1) := by decide +kernel
theorem dX10_ofIntake_52 : decode cX10_ofIntake 52 = .ok (.aaload, 1) := by decide +kernel
theorem dX10_ofIntake_53 : decode cX10_ofIntake 53 = .ok (.iload_n 2, 1) := by decide +kernel
theorem dX10_ofIntake_54 : decode cX10_ofIntake 54 = .ok (.invokevirtual 195, 3) := by decide +kernel
theorem dX10_ofIntake_57 : decode cX10_ofIntake 57 = .ok (.ireturn, 1) := by decide +kernel
theorem dX10_isClosed_0 : decode cX10_isClosed 0 = .ok (.iload_n 1, 1) := by decide +kernel
theorem dX10_isClosed_1 : decode cX10_isClosed 1 = .ok (.ifCond .lt 11, 3) := by decide +kernel
theorem dX10_isClosed_4 : decode cX10_isClosed 4 = .ok (.iload_n 1, 1) := by decide +kernel
theorem dX10_isClosed_5 : decode cX10_isClosed 5 = .ok (.aload_n 0, 1) := by decide +kernel
theorem dX10_isClosed_6 : decode cX10_isClosed 6 = .ok (.getfield 125, 3) := by decide +kernel
theorem dX10_isClosed_9 : decode cX10_isClosed 9 = .ok (.if_icmp .lt 13, 3) := by decide +kernel
theorem dX10_isClosed_12 : decode cX10_isClosed 12 = .ok (.new 109, 3) := by decide +kernel
theorem dX10_isClosed_15 : decode cX10_isClosed 15 = .ok (.dup, 1) := by decide +kernel
theorem dX10_isClosed_16 : decode cX10_isClosed 16 = .ok (.ldc 198, 2) := by decide +kernel
theorem dX10_isClosed_18 : decode cX10_isClosed 18 = .ok (.invokespecial 113, 3) := by decide +kernel
theorem dX10_isClosed_21 : decode cX10_isClosed 21 = .ok (.athrow, 1) := by decide +kernel
theorem dX10_isClosed_22 : decode cX10_isClosed 22 = .ok (.aload_n 0, 1) := by decide +kernel
theorem dX10_isClosed_23 : decode cX10_isClosed 23 = .ok (.getfield 28, 3) := by decide +kernel
theorem dX10_isClosed_26 : decode cX10_isClosed 26 = .ok (.iload_n 1, 1) := by decide +kernel
theorem dX10_isClosed_27 : decode cX10_isClosed 27 = .ok (.aaload, 1) := by decide +kernel
theorem dX10_isClosed_28 : decode cX10_isClosed 28 = .ok (.astore_n 2, 1) := by decide +kernel
theorem dX10_isClosed_29 : decode cX10_isClosed 29 = .ok (.aload_n 0, 1) := by decide +kernel
theorem dX10_isClosed_30 : decode cX10_isClosed 30 = .ok (.getfield 10, 3) := by decide +kernel
theorem dX10_isClosed_33 : decode cX10_isClosed 33 = .ok (.getfield 141, 3) := by decide +kernel
theorem dX10_isClosed_36 : decode cX10_isClosed 36 = .ok (.aload_n 2, 1) := by decide +kernel
theorem dX10_isClosed_37 : decode cX10_isClosed 37 = .ok (.getfield 130, 3) := by decide +kernel
theorem dX10_isClosed_40 : decode cX10_isClosed 40 = .ok (.aaload, 1) := by decide +kernel
theorem dX10_isClosed_41 : decode cX10_isClosed 41 = .ok (.aload_n 2, 1) := by decide +kernel
theorem dX10_isClosed_42 : decode cX10_isClosed 42 = .ok (.getfield 133, 3) := by decide +kernel
theorem dX10_isClosed_45 : decode cX10_isClosed 45 = .ok (.aload_n 2, 1) := by decide +kernel
theorem dX10_isClosed_46 : decode cX10_isClosed 46 = .ok (.getfield 136, 3) := by decide +kernel
theorem dX10_isClosed_49 : decode cX10_isClosed 49 = .ok (.aload_n 0, 1) := by decide +kernel
theorem dX10_isClosed_50 : decode cX10_isClosed 50 = .ok (.getfield 10, 3) := by decide +kernel
theorem dX10_isClosed_53 : decode cX10_isClosed 53 = .ok (.getfield 70, 3) := by decide +kernel
theorem dX10_isClosed_56 : decode cX10_isClosed 56 = .ok (.invokevirtual 200, 3) := by decide +kernel
theorem dX10_isClosed_59 : decode cX10_isClosed 59 = .ok (.ireturn, 1) := by decide +kernel
theorem dX10_closures_0 : decode cX10_closures 0 = .ok (.aload_n 0, 1) := by decide +kernel
theorem dX10_closures_1 : decode cX10_closures 1 = .ok (.getfield 10, 3) := by decide +kernel
theorem dX10_closures_4 : decode cX10_closures 4 = .ok (.getfield 87, 3) := by decide +kernel
theorem dX10_closures_7 : decode cX10_closures 7 = .ok (.getfield 203, 3) := by decide +kernel
theorem dX10_closures_10 : decode cX10_closures 10 = .ok (.ireturn, 1) := by decide +kernel
theorem dX10_closure_0 : decode cX10_closure 0 = .ok (.iload_n 1, 1) := by decide +kernel
theorem dX10_closure_1 : decode cX10_closure 1 = .ok (.ifCond .lt 17, 3) := by decide +kernel
theorem dX10_closure_4 : decode cX10_closure 4 = .ok (.iload_n 1, 1) := by decide +kernel
theorem dX10_closure_5 : decode cX10_closure 5 = .ok (.aload_n 0, 1) := by decide +kernel
theorem dX10_closure_6 : decode cX10_closure 6 = .ok (.getfield 10, 3) := by decide +kernel
theorem dX10_closure_9 : decode cX10_closure 9 = .ok (.getfield 87, 3) := by decide +kernel
theorem dX10_closure_12 : decode cX10_closure 12 = .ok (.getfield 203, 3) := by decide +kernel
theorem dX10_closure_15 : decode cX10_closure 15 = .ok (.if_icmp .lt 13, 3) := by decide +kernel
theorem dX10_closure_18 : decode cX10_closure 18 = .ok (.new 109, 3) := by decide +kernel
theorem dX10_closure_21 : decode cX10_closure 21 = .ok (.dup, 1) := by decide +kernel
theorem dX10_closure_22 : decode cX10_closure 22 = .ok (.ldc 206, 2) := by decide +kernel
theorem dX10_closure_24 : decode cX10_closure 24 = .ok (.invokespecial 113, 3) := by decide +kernel
theorem dX10_closure_27 : decode cX10_closure 27 = .ok (.athrow, 1) := by decide +kernel
theorem dX10_closure_28 : decode cX10_closure 28 = .ok (.iload_n 2, 1) := by decide +kernel
theorem dX10_closure_29 : decode cX10_closure 29 = .ok (.iconst 0, 1) := by decide +kernel
theorem dX10_closure_30 : decode cX10_closure 30 = .ok (.iconst 2, 1) := by decide +kernel
theorem dX10_closure_31 : decode cX10_closure 31 = .ok (.invokestatic 33, 3) := by decide +kernel
theorem dX10_closure_34 : decode cX10_closure 34 = .ok (.ifCond .ne 13, 3) := by decide +kernel
theorem dX10_closure_37 : decode cX10_closure 37 = .ok (.new 37, 3) := by decide +kernel
theorem dX10_closure_40 : decode cX10_closure 40 = .ok (.dup, 1) := by decide +kernel
theorem dX10_closure_41 : decode cX10_closure 41 = .ok (.ldc 171, 2) := by decide +kernel
theorem dX10_closure_43 : decode cX10_closure 43 = .ok (.invokespecial 41, 3) := by decide +kernel
theorem dX10_closure_46 : decode cX10_closure 46 = .ok (.athrow, 1) := by decide +kernel
theorem dX10_closure_47 : decode cX10_closure 47 = .ok (.aload_n 0, 1) := by decide +kernel
theorem dX10_closure_48 : decode cX10_closure 48 = .ok (.getfield 10, 3) := by decide +kernel
theorem dX10_closure_51 : decode cX10_closure 51 = .ok (.getfield 87, 3) := by decide +kernel
theorem dX10_closure_54 : decode cX10_closure 54 = .ok (.iload_n 1, 1) := by decide +kernel
theorem dX10_closure_55 : decode cX10_closure 55 = .ok (.iload_n 2, 1) := by decide +kernel
theorem dX10_closure_56 : decode cX10_closure 56 = .ok (.invokevirtual 208, 3) := by decide +kernel
theorem dX10_closure_59 : decode cX10_closure 59 = .ok (.ireturn, 1) := by decide +kernel
theorem dX10_intrusion_0 : decode cX10_intrusion 0 = .ok (.iload_n 1, 1) := by decide +kernel
theorem dX10_intrusion_1 : decode cX10_intrusion 1 = .ok (.iconst 1, 1) := by decide +kernel
theorem dX10_intrusion_2 : decode cX10_intrusion 2 = .ok (.bipush 30, 2) := by decide +kernel
theorem dX10_intrusion_4 : decode cX10_intrusion 4 = .ok (.invokestatic 33, 3) := by decide +kernel
theorem dX10_intrusion_7 : decode cX10_intrusion 7 = .ok (.ifCond .ne 13, 3) := by decide +kernel
theorem dX10_intrusion_10 : decode cX10_intrusion 10 = .ok (.new 37, 3) := by decide +kernel
theorem dX10_intrusion_13 : decode cX10_intrusion 13 = .ok (.dup, 1) := by decide +kernel
theorem dX10_intrusion_14 : decode cX10_intrusion 14 = .ok (.ldc 210, 2) := by decide +kernel
theorem dX10_intrusion_16 : decode cX10_intrusion 16 = .ok (.invokespecial 41, 3) := by decide +kernel
theorem dX10_intrusion_19 : decode cX10_intrusion 19 = .ok (.athrow, 1) := by decide +kernel
theorem dX10_intrusion_20 : decode cX10_intrusion 20 = .ok (.iconst 0, 1) := by decide +kernel
theorem dX10_intrusion_21 : decode cX10_intrusion 21 = .ok (.istore_n 2, 1) := by decide +kernel
theorem dX10_intrusion_22 : decode cX10_intrusion 22 = .ok (.iload_n 2, 1) := by decide +kernel
theorem dX10_intrusion_23 : decode cX10_intrusion 23 = .ok (.aload_n 0, 1) := by decide +kernel
theorem dX10_intrusion_24 : decode cX10_intrusion 24 = .ok (.getfield 10, 3) := by decide +kernel
theorem dX10_intrusion_27 : decode cX10_intrusion 27 = .ok (.getfield 100, 3) := by decide +kernel
theorem dX10_intrusion_30 : decode cX10_intrusion 30 = .ok (.if_icmp .ge 28, 3) := by decide +kernel
theorem dX10_intrusion_33 : decode cX10_intrusion 33 = .ok (.aload_n 0, 1) := by decide +kernel
theorem dX10_intrusion_34 : decode cX10_intrusion 34 = .ok (.getfield 10, 3) := by decide +kernel
theorem dX10_intrusion_37 : decode cX10_intrusion 37 = .ok (.getfield 141, 3) := by decide +kernel
theorem dX10_intrusion_40 : decode cX10_intrusion 40 = .ok (.iload_n 2, 1) := by decide +kernel
theorem dX10_intrusion_41 : decode cX10_intrusion 41 = .ok (.aaload, 1) := by decide +kernel
theorem dX10_intrusion_42 : decode cX10_intrusion 42 = .ok (.getfield 212, 3) := by decide +kernel
theorem dX10_intrusion_45 : decode cX10_intrusion 45 = .ok (.invokevirtual 216, 3) := by decide +kernel
theorem dX10_intrusion_48 : decode cX10_intrusion 48 = .ok (.iload_n 1, 1) := by decide +kernel
theorem dX10_intrusion_49 : decode cX10_intrusion 49 = .ok (.if_icmp .lt 9, 3) := by decide +kernel
theorem dX10_intrusion_52 : decode cX10_intrusion 52 = .ok (.iinc 2 1, 3) := by decide +kernel
theorem dX10_intrusion_55 : decode cX10_intrusion 55 = .ok (.goto (-33), 3) := by decide +kernel
theorem dX10_intrusion_58 : decode cX10_intrusion 58 = .ok (.iload_n 2, 1) := by decide +kernel
theorem dX10_intrusion_59 : decode cX10_intrusion 59 = .ok (.ireturn, 1) := by decide +kernel
theorem dX10_window_0 : decode cX10_window 0 = .ok (.iload_n 1, 1) := by decide +kernel
theorem dX10_window_1 : decode cX10_window 1 = .ok (.iconst 1, 1) := by decide +kernel
theorem dX10_window_2 : decode cX10_window 2 = .ok (.sipush 200, 3) := by decide +kernel
theorem dX10_window_5 : decode cX10_window 5 = .ok (.invokestatic 33, 3) := by decide +kernel
theorem dX10_window_8 : decode cX10_window 8 = .ok (.ifCond .eq 13, 3) := by decide +kernel
theorem dX10_window_11 : decode cX10_window 11 = .ok (.iload_n 2, 1) := by decide +kernel
theorem dX10_window_12 : decode cX10_window 12 = .ok (.iconst 1, 1) := by decide +kernel
theorem dX10_window_13 : decode cX10_window 13 = .ok (.bipush 24, 2) := by decide +kernel
theorem dX10_window_15 : decode cX10_window 15 = .ok (.invokestatic 33, 3) := by decide +kernel
theorem dX10_window_18 : decode cX10_window 18 = .ok (.ifCond .ne 13, 3) := by decide +kernel
theorem dX10_window_21 : decode cX10_window 21 = .ok (.new 37, 3) := by decide +kernel
theorem dX10_window_24 : decode cX10_window 24 = .ok (.dup, 1) := by decide +kernel
theorem dX10_window_25 : decode cX10_window 25 = .ok (.ldc 222, 2) := by decide +kernel
theorem dX10_window_27 : decode cX10_window 27 = .ok (.invokespecial 41, 3) := by decide +kernel
theorem dX10_window_30 : decode cX10_window 30 = .ok (.athrow, 1) := by decide +kernel
theorem dX10_window_31 : decode cX10_window 31 = .ok (.aload_n 0, 1) := by decide +kernel
theorem dX10_window_32 : decode cX10_window 32 = .ok (.getfield 10, 3) := by decide +kernel
theorem dX10_window_35 : decode cX10_window 35 = .ok (.getfield 100, 3) := by decide +kernel
theorem dX10_window_38 : decode cX10_window 38 = .ok (.ifCond .ne 13, 3) := by decide +kernel
theorem dX10_window_41 : decode cX10_window 41 = .ok (.new 56, 3) := by decide +kernel
theorem dX10_window_44 : decode cX10_window 44 = .ok (.dup, 1) := by decide +kernel
theorem dX10_window_45 : decode cX10_window 45 = .ok (.ldc 224, 2) := by decide +kernel
theorem dX10_window_47 : decode cX10_window 47 = .ok (.invokespecial 60, 3) := by decide +kernel
theorem dX10_window_50 : decode cX10_window 50 = .ok (.athrow, 1) := by decide +kernel
theorem dX10_window_51 : decode cX10_window 51 = .ok (.aload_n 0, 1) := by decide +kernel
theorem dX10_window_52 : decode cX10_window 52 = .ok (.getfield 10, 3) := by decide +kernel
theorem dX10_window_55 : decode cX10_window 55 = .ok (.aload_n 0, 1) := by decide +kernel
theorem dX10_window_56 : decode cX10_window 56 = .ok (.getfield 10, 3) := by decide +kernel
theorem dX10_window_59 : decode cX10_window 59 = .ok (.getfield 141, 3) := by decide +kernel
theorem dX10_window_62 : decode cX10_window 62 = .ok (.iconst 0, 1) := by decide +kernel
theorem dX10_window_63 : decode cX10_window 63 = .ok (.aaload, 1) := by decide +kernel
theorem dX10_window_64 : decode cX10_window 64 = .ok (.invokevirtual 226, 3) := by decide +kernel
theorem dX10_window_67 : decode cX10_window 67 = .ok (.iload_n 1, 1) := by decide +kernel
theorem dX10_window_68 : decode cX10_window 68 = .ok (.iadd, 1) := by decide +kernel
theorem dX10_window_69 : decode cX10_window 69 = .ok (.iload_n 2, 1) := by decide +kernel
theorem dX10_window_70 : decode cX10_window 70 = .ok (.invokevirtual 229, 3) := by decide +kernel
theorem dX10_window_73 : decode cX10_window 73 = .ok (.ireturn, 1) := by decide +kernel
theorem dX10_sum_0 : decode cX10_sum 0 = .ok (.iload_n 1, 1) := by decide +kernel
theorem dX10_sum_1 : decode cX10_sum 1 = .ok (.iconst 0, 1) := by decide +kernel
theorem dX10_sum_2 : decode cX10_sum 2 = .ok (.bipush 9, 2) := by decide +kernel
theorem dX10_sum_4 : decode cX10_sum 4 = .ok (.invokestatic 33, 3) := by decide +kernel
theorem dX10_sum_7 : decode cX10_sum 7 = .ok (.ifCond .ne 13, 3) := by decide +kernel
theorem dX10_sum_10 : decode cX10_sum 10 = .ok (.new 37, 3) := by decide +kernel
theorem dX10_sum_13 : decode cX10_sum 13 = .ok (.dup, 1) := by decide +kernel
theorem dX10_sum_14 : decode cX10_sum 14 = .ok (.ldc 171, 2) := by decide +kernel
theorem dX10_sum_16 : decode cX10_sum 16 = .ok (.invokespecial 41, 3) := by decide +kernel
theorem dX10_sum_19 : decode cX10_sum 19 = .ok (.athrow, 1) := by decide +kernel
theorem dX10_sum_20 : decode cX10_sum 20 = .ok (.aload_n 0, 1) := by decide +kernel
theorem dX10_sum_21 : decode cX10_sum 21 = .ok (.getfield 10, 3) := by decide +kernel
theorem dX10_sum_24 : decode cX10_sum 24 = .ok (.getfield 232, 3) := by decide +kernel
theorem dX10_sum_27 : decode cX10_sum 27 = .ok (.iload_n 1, 1) := by decide +kernel
theorem dX10_sum_28 : decode cX10_sum 28 = .ok (.laload, 1) := by decide +kernel
theorem dX10_sum_29 : decode cX10_sum 29 = .ok (.lreturn, 1) := by decide +kernel
theorem dX10_within_0 : decode cX10_within 0 = .ok (.iload_n 0, 1) := by decide +kernel
theorem dX10_within_1 : decode cX10_within 1 = .ok (.iload_n 1, 1) := by decide +kernel
theorem dX10_within_2 : decode cX10_within 2 = .ok (.if_icmp .lt 12, 3) := by decide +kernel
theorem dX10_within_5 : decode cX10_within 5 = .ok (.iload_n 0, 1) := by decide +kernel
theorem dX10_within_6 : decode cX10_within 6 = .ok (.iload_n 2, 1) := by decide +kernel
theorem dX10_within_7 : decode cX10_within 7 = .ok (.if_icmp .gt 7, 3) := by decide +kernel
theorem dX10_within_10 : decode cX10_within 10 = .ok (.iconst 1, 1) := by decide +kernel
theorem dX10_within_11 : decode cX10_within 11 = .ok (.goto 4, 3) := by decide +kernel
theorem dX10_within_14 : decode cX10_within 14 = .ok (.iconst 0, 1) := by decide +kernel
theorem dX10_within_15 : decode cX10_within 15 = .ok (.ireturn, 1) := by decide +kernel
theorem dX10_goesWith_0 : decode cX10_goesWith 0 = .ok (.iload_n 2, 1) := by decide +kernel
theorem dX10_goesWith_1 : decode cX10_goesWith 1 = .ok (.ifCond .gt 5, 3) := by decide +kernel
theorem dX10_goesWith_4 : decode cX10_goesWith 4 = .ok (.iconst 0, 1) := by decide +kernel
theorem dX10_goesWith_5 : decode cX10_goesWith 5 = .ok (.ireturn, 1) := by decide +kernel
theorem dX10_goesWith_6 : decode cX10_goesWith 6 = .ok (.iload_n 1, 1) := by decide +kernel
theorem dX10_goesWith_7 : decode cX10_goesWith 7 = .ok (.i2l, 1) := by decide +kernel
theorem dX10_goesWith_8 : decode cX10_goesWith 8 = .ok (.iload_n 0, 1) := by decide +kernel
theorem dX10_goesWith_9 : decode cX10_goesWith 9 = .ok (.i2l, 1) := by decide +kernel
theorem dX10_goesWith_10 : decode cX10_goesWith 10 = .ok (.lmul, 1) := by decide +kernel
theorem dX10_goesWith_11 : decode cX10_goesWith 11 = .ok (.iload_n 2, 1) := by decide +kernel
theorem dX10_goesWith_12 : decode cX10_goesWith 12 = .ok (.i2l, 1) := by decide +kernel
theorem dX10_goesWith_13 : decode cX10_goesWith 13 = .ok (.ldiv, 1) := by decide +kernel
theorem dX10_goesWith_14 : decode cX10_goesWith 14 = .ok (.l2i, 1) := by decide +kernel
theorem dX10_goesWith_15 : decode cX10_goesWith 15 = .ok (.ireturn, 1) := by decide +kernel
theorem dX10_tell_0 : decode cX10_tell 0 = .ok (.aload_n 0, 1) := by decide +kernel
theorem dX10_tell_1 : decode cX10_tell 1 = .ok (.getfield 22, 3) := by decide +kernel
theorem dX10_tell_4 : decode cX10_tell 4 = .ok (.aload_n 0, 1) := by decide +kernel
theorem dX10_tell_5 : decode cX10_tell 5 = .ok (.getfield 10, 3) := by decide +kernel
theorem dX10_tell_8 : decode cX10_tell 8 = .ok (.getfield 70, 3) := by decide +kernel
theorem dX10_tell_11 : decode cX10_tell 11 = .ok (.iload_n 1, 1) := by decide +kernel
theorem dX10_tell_12 : decode cX10_tell 12 = .ok (.iload_n 2, 1) := by decide +kernel
theorem dX10_tell_13 : decode cX10_tell 13 = .ok (.iload_n 3, 1) := by decide +kernel
theorem dX10_tell_14 : decode cX10_tell 14 = .ok (.iload 4, 2) := by decide +kernel
theorem dX10_tell_16 : decode cX10_tell 16 = .ok (.iload 5, 2) := by decide +kernel
theorem dX10_tell_18 : decode cX10_tell 18 = .ok (.iload 6, 2) := by decide +kernel
theorem dX10_tell_20 : decode cX10_tell 20 = .ok (.invokevirtual 236, 3) := by decide +kernel
theorem dX10_tell_23 : decode cX10_tell 23 = .ok (.aload_n 0, 1) := by decide +kernel
theorem dX10_tell_24 : decode cX10_tell 24 = .ok (.getfield 10, 3) := by decide +kernel
theorem dX10_tell_27 : decode cX10_tell 27 = .ok (.iload_n 1, 1) := by decide +kernel
theorem dX10_tell_28 : decode cX10_tell 28 = .ok (.iload_n 2, 1) := by decide +kernel
theorem dX10_tell_29 : decode cX10_tell 29 = .ok (.iload_n 3, 1) := by decide +kernel
theorem dX10_tell_30 : decode cX10_tell 30 = .ok (.iload 4, 2) := by decide +kernel
theorem dX10_tell_32 : decode cX10_tell 32 = .ok (.iload 5, 2) := by decide +kernel
theorem dX10_tell_34 : decode cX10_tell 34 = .ok (.iload 6, 2) := by decide +kernel
theorem dX10_tell_36 : decode cX10_tell 36 = .ok (.invokevirtual 186, 3) := by decide +kernel
theorem dX10_tell_39 : decode cX10_tell 39 = .ok (.return_, 1) := by decide +kernel
theorem dJ9_floorMod_7cf53_0 : decode cJ9_floorMod_7cf53 0 = .ok (.iload_n 0, 1) := by decide +kernel
theorem dJ9_floorMod_7cf53_1 : decode cJ9_floorMod_7cf53 1 = .ok (.iload_n 1, 1) := by decide +kernel
theorem dJ9_floorMod_7cf53_2 : decode cJ9_floorMod_7cf53 2 = .ok (.irem, 1) := by decide +kernel
theorem dJ9_floorMod_7cf53_3 : decode cJ9_floorMod_7cf53 3 = .ok (.istore_n 2, 1) := by decide +kernel
theorem dJ9_floorMod_7cf53_4 : decode cJ9_floorMod_7cf53 4 = .ok (.iload_n 0, 1) := by decide +kernel
theorem dJ9_floorMod_7cf53_5 : decode cJ9_floorMod_7cf53 5 = .ok (.iload_n 1, 1) := by decide +kernel
theorem dJ9_floorMod_7cf53_6 : decode cJ9_floorMod_7cf53 6 = .ok (.ixor, 1) := by decide +kernel
theorem dJ9_floorMod_7cf53_7 : decode cJ9_floorMod_7cf53 7 = .ok (.ifCond .ge 11, 3) := by decide +kernel
theorem dJ9_floorMod_7cf53_10 : decode cJ9_floorMod_7cf53 10 = .ok (.iload_n 2, 1) := by decide +kernel
theorem dJ9_floorMod_7cf53_11 : decode cJ9_floorMod_7cf53 11 = .ok (.ifCond .eq 7, 3) := by decide +kernel
theorem dJ9_floorMod_7cf53_14 : decode cJ9_floorMod_7cf53 14 = .ok (.iload_n 2, 1) := by decide +kernel
theorem dJ9_floorMod_7cf53_15 : decode cJ9_floorMod_7cf53 15 = .ok (.iload_n 1, 1) := by decide +kernel
theorem dJ9_floorMod_7cf53_16 : decode cJ9_floorMod_7cf53 16 = .ok (.iadd, 1) := by decide +kernel
theorem dJ9_floorMod_7cf53_17 : decode cJ9_floorMod_7cf53 17 = .ok (.ireturn, 1) := by decide +kernel
theorem dJ9_floorMod_7cf53_18 : decode cJ9_floorMod_7cf53 18 = .ok (.iload_n 2, 1) := by decide +kernel
theorem dJ9_floorMod_7cf53_19 : decode cJ9_floorMod_7cf53 19 = .ok (.ireturn, 1) := by decide +kernel
theorem dJ9_max_7cf53_0 : decode cJ9_max_7cf53 0 = .ok (.iload_n 0, 1) := by decide +kernel
theorem dJ9_max_7cf53_1 : decode cJ9_max_7cf53 1 = .ok (.iload_n 1, 1) := by decide +kernel
theorem dJ9_max_7cf53_2 : decode cJ9_max_7cf53 2 = .ok (.if_icmp .lt 7, 3) := by decide +kernel
theorem dJ9_max_7cf53_5 : decode cJ9_max_7cf53 5 = .ok (.iload_n 0, 1) := by decide +kernel
theorem dJ9_max_7cf53_6 : decode cJ9_max_7cf53 6 = .ok (.goto 4, 3) := by decide +kernel
theorem dJ9_max_7cf53_9 : decode cJ9_max_7cf53 9 = .ok (.iload_n 1, 1) := by decide +kernel
theorem dJ9_max_7cf53_10 : decode cJ9_max_7cf53 10 = .ok (.ireturn, 1) := by decide +kernel
theorem dJ9_min_7cf53_0 : decode cJ9_min_7cf53 0 = .ok (.iload_n 0, 1) := by decide +kernel
theorem dJ9_min_7cf53_1 : decode cJ9_min_7cf53 1 = .ok (.iload_n 1, 1) := by decide +kernel
theorem dJ9_min_7cf53_2 : decode cJ9_min_7cf53 2 = .ok (.if_icmp .gt 7, 3) := by decide +kernel
theorem dJ9_min_7cf53_5 : decode cJ9_min_7cf53 5 = .ok (.iload_n 0, 1) := by decide +kernel
theorem dJ9_min_7cf53_6 : decode cJ9_min_7cf53 6 = .ok (.goto 4, 3) := by decide +kernel
theorem dJ9_min_7cf53_9 : decode cJ9_min_7cf53 9 = .ok (.iload_n 1, 1) := by decide +kernel
theorem dJ9_min_7cf53_10 : decode cJ9_min_7cf53 10 = .ok (.ireturn, 1) := by decide +kernel
end
section
theorem wm_max : Cond.static Lib.Math.max.name ∈ wsL_law ∧ Cond.initialized "java/lang/Math" ∈ wsL_law ∧ Cond.code Lib.Math.max.name Lib.Math.max.code 2 (some .int) ∈ wsL_law := ⟨u_r30 _ (List.mem_of_getElem? (i := 22) rfl), u_r18 _ (List.mem_of_getElem? (i := 10) rfl), u_r30 _ (List.mem_of_getElem? (i := 23) rfl)⟩
theorem wm_min : Cond.static Lib.Math.min.name ∈ wsL_law ∧ Cond.initialized "java/lang/Math" ∈ wsL_law ∧ Cond.code Lib.Math.min.name Lib.Math.min.code 2 (some .int) ∈ wsL_law := ⟨u_r18 _ (List.mem_of_getElem? (i := 9) rfl), u_r18 _ (List.mem_of_getElem? (i := 10) rfl), u_r18 _ (List.mem_of_getElem? (i := 11) rfl)⟩
theorem wi_RX0 : Cond.initialized RX0 ∈ wsL_law := u_r2 _ (List.mem_of_getElem? (i := 12) rfl)
theorem wc_X0_init : Cond.code yX0_init cX0_init 1 none ∈ wsL_law := u_r3 _ (List.mem_of_getElem? (i := 21) rfl)
theorem e_X0_init : u_me yX0_init cX0_init 1 none 0 := ⟨⟨by decide, by decide, by decide +kernel⟩, wi_RX0, wc_X0_init⟩
theorem wv_X0_init : Cond.instanceMethod yX0_init ∈ wsL_law := u_r3 _ (List.mem_of_getElem? (i := 20) rfl)
theorem wc_X0_begin : Cond.code yX0_begin cX0_begin 1 none ∈ wsL_law := u_r29 _ (List.mem_of_getElem? (i := 8) rfl)
theorem e_X0_begin : u_me yX0_begin cX0_begin 1 none 0 := ⟨⟨by decide, by decide, by decide +kernel⟩, wi_RX0, wc_X0_begin⟩
theorem wv_X0_begin : Cond.instanceMethod yX0_begin ∈ wsL_law := u_r29 _ (List.mem_of_getElem? (i := 6) rfl)
theorem wl_X0_begin : Cond.selects RX0 yX0_begin yX0_begin ∈ wsL_law := u_r29 _ (List.mem_of_getElem? (i := 7) rfl)
theorem ev_X0_begin : u_mev yX0_begin cX0_begin 1 none 0 := ⟨e_X0_begin, wv_X0_begin, wl_X0_begin⟩
theorem wc_X0_look : Cond.code yX0_look cX0_look 5 none ∈ wsL_law := u_r19 _ (List.mem_of_getElem? (i := 10) rfl)
theorem e_X0_look : u_me yX0_look cX0_look 5 none 2 := ⟨⟨by decide, by decide, by decide +kernel⟩, wi_RX0, wc_X0_look⟩
theorem wv_X0_look : Cond.instanceMethod yX0_look ∈ wsL_law := u_r19 _ (List.mem_of_getElem? (i := 8) rfl)
theorem wl_X0_look : Cond.selects RX0 yX0_look yX0_look ∈ wsL_law := u_r19 _ (List.mem_of_getElem? (i := 9) rfl)
theorem ev_X0_look : u_mev yX0_look cX0_look 5 none 2 := ⟨e_X0_look, wv_X0_look, wl_X0_look⟩
theorem wc_X0_answer : Cond.code yX0_answer cX0_answer 3 (some .int) ∈ wsL_law := u_r31 _ (List.mem_of_getElem? (i := 23) rfl)
theorem e_X0_answer : u_me yX0_answer cX0_answer 3 (some .int) 2 := ⟨⟨by decide, by decide, by decide +kernel⟩, wi_RX0, wc_X0_answer⟩
theorem wv_X0_answer : Cond.instanceMethod yX0_answer ∈ wsL_law := u_r31 _ (List.mem_of_getElem? (i := 21) rfl)
theorem wl_X0_answer : Cond.selects RX0 yX0_answer yX0_answer ∈ wsL_law := u_r31 _ (List.mem_of_getElem? (i := 22) rfl)
theorem ev_X0_answer : u_mev yX0_answer cX0_answer 3 (some .int) 2 := ⟨e_X0_answer, wv_X0_answer, wl_X0_answer⟩
theorem wi_RX1 : Cond.initialized RX1 ∈ wsL_law := u_r2 _ (List.mem_of_getElem? (i := 22) rfl)
theorem wc_X1_init : Cond.code yX1_init cX1_init 1 none ∈ wsL_law := u_r4 _ (List.mem_of_getElem? (i := 18) rfl)
theorem e_X1_init : u_me yX1_init cX1_init 1 none 0 := ⟨⟨by decide, by decide, by decide +kernel⟩, wi_RX1, wc_X1_init⟩
theorem wv_X1_init : Cond.instanceMethod yX1_init ∈ wsL_law := u_r4 _ (List.mem_of_getElem? (i := 17) rfl)
theorem wc_X1_begin : Cond.code yX1_begin cX1_begin 6 none ∈ wsL_law := u_r9 _ (List.mem_of_getElem? (i := 23) rfl)
theorem e_X1_begin : u_me yX1_begin cX1_begin 6 none 5 := ⟨⟨by decide, by decide, by decide +kernel⟩, wi_RX1, wc_X1_begin⟩
theorem wv_X1_begin : Cond.instanceMethod yX1_begin ∈ wsL_law := u_r9 _ (List.mem_of_getElem? (i := 21) rfl)
theorem wl_X1_begin : Cond.selects RX1 yX1_begin yX1_begin ∈ wsL_law := u_r9 _ (List.mem_of_getElem? (i := 22) rfl)
theorem ev_X1_begin : u_mev yX1_begin cX1_begin 6 none 5 := ⟨e_X1_begin, wv_X1_begin, wl_X1_begin⟩
theorem wc_X1_take : Cond.code yX1_take cX1_take 5 none ∈ wsL_law := u_r23 _ (List.mem_of_getElem? (i := 1) rfl)
theorem e_X1_take : u_me yX1_take cX1_take 5 none 2 := ⟨⟨by decide, by decide, by decide +kernel⟩, wi_RX1, wc_X1_take⟩
theorem wv_X1_take : Cond.instanceMethod yX1_take ∈ wsL_law := u_r22 _ (List.mem_of_getElem? (i := 23) rfl)
theorem wl_X1_take : Cond.selects RX1 yX1_take yX1_take ∈ wsL_law := u_r23 _ (List.mem_of_getElem? (i := 0) rfl)
theorem ev_X1_take : u_mev yX1_take cX1_take 5 none 2 := ⟨e_X1_take, wv_X1_take, wl_X1_take⟩
theorem wc_X1_supply : Cond.code yX1_supply cX1_supply 2 none ∈ wsL_law := u_r23 _ (List.mem_of_getElem? (i := 9) rfl)
theorem e_X1_supply : u_me yX1_supply cX1_supply 2 none 0 := ⟨⟨by decide, by decide, by decide +kernel⟩, wi_RX1, wc_X1_supply⟩
theorem wv_X1_supply : Cond.instanceMethod yX1_supply ∈ wsL_law := u_r23 _ (List.mem_of_getElem? (i := 7) rfl)
theorem wl_X1_supply : Cond.selects RX1 yX1_supply yX1_supply ∈ wsL_law := u_r23 _ (List.mem_of_getElem? (i := 8) rfl)
theorem ev_X1_supply : u_mev yX1_supply cX1_supply 2 none 0 := ⟨e_X1_supply, wv_X1_supply, wl_X1_supply⟩
theorem wc_X1_answer : Cond.code yX1_answer cX1_answer 2 (some .int) ∈ wsL_law := u_r30 _ (List.mem_of_getElem? (i := 5) rfl)
theorem e_X1_answer : u_me yX1_answer cX1_answer 2 (some .int) 1 := ⟨⟨by decide, by decide, by decide +kernel⟩, wi_RX1, wc_X1_answer⟩
theorem wv_X1_answer : Cond.instanceMethod yX1_answer ∈ wsL_law := u_r30 _ (List.mem_of_getElem? (i := 3) rfl)
theorem wl_X1_answer : Cond.selects RX1 yX1_answer yX1_answer ∈ wsL_law := u_r30 _ (List.mem_of_getElem? (i := 4) rfl)
theorem ev_X1_answer : u_mev yX1_answer cX1_answer 2 (some .int) 1 := ⟨e_X1_answer, wv_X1_answer, wl_X1_answer⟩
theorem wi_RX2 : Cond.initialized RX2 ∈ wsL_law := u_r4 _ (List.mem_of_getElem? (i := 9) rfl)
theorem wc_X2_init : Cond.code yX2_init cX2_init 1 none ∈ wsL_law := u_r4 _ (List.mem_of_getElem? (i := 15) rfl)
theorem e_X2_init : u_me yX2_init cX2_init 1 none 0 := ⟨⟨by decide, by decide, by decide +kernel⟩, wi_RX2, wc_X2_init⟩
theorem wv_X2_init : Cond.instanceMethod yX2_init ∈ wsL_law := u_r4 _ (List.mem_of_getElem? (i := 14) rfl)
theorem wc_X2_begin : Cond.code yX2_begin cX2_begin 2 none ∈ wsL_law := u_r9 _ (List.mem_of_getElem? (i := 12) rfl)
theorem e_X2_begin : u_me yX2_begin cX2_begin 2 none 1 := ⟨⟨by decide, by decide, by decide +kernel⟩, wi_RX2, wc_X2_begin⟩
theorem wv_X2_begin : Cond.instanceMethod yX2_begin ∈ wsL_law := u_r9 _ (List.mem_of_getElem? (i := 10) rfl)
theorem wl_X2_begin : Cond.selects RX2 yX2_begin yX2_begin ∈ wsL_law := u_r9 _ (List.mem_of_getElem? (i := 11) rfl)
theorem ev_X2_begin : u_mev yX2_begin cX2_begin 2 none 1 := ⟨e_X2_begin, wv_X2_begin, wl_X2_begin⟩
theorem wc_X2_salinity : Cond.code yX2_salinity cX2_salinity 1 (some .int) ∈ wsL_law := u_r22 _ (List.mem_of_getElem? (i := 2) rfl)
theorem e_X2_salinity : u_me yX2_salinity cX2_salinity 1 (some .int) 0 := ⟨⟨by decide, by decide, by decide +kernel⟩, wi_RX2, wc_X2_salinity⟩
theorem wv_X2_salinity : Cond.instanceMethod yX2_salinity ∈ wsL_law := u_r22 _ (List.mem_of_getElem? (i := 0) rfl)
theorem wl_X2_salinity : Cond.selects RX2 yX2_salinity yX2_salinity ∈ wsL_law := u_r22 _ (List.mem_of_getElem? (i := 1) rfl)
theorem ev_X2_salinity : u_mev yX2_salinity cX2_salinity 1 (some .int) 0 := ⟨e_X2_salinity, wv_X2_salinity, wl_X2_salinity⟩
theorem wc_X2_saltWith : Cond.code yX2_saltWith cX2_saltWith 2 (some .int) ∈ wsL_law := u_r22 _ (List.mem_of_getElem? (i := 12) rfl)
theorem e_X2_saltWith : u_me yX2_saltWith cX2_saltWith 2 (some .int) 1 := ⟨⟨by decide, by decide, by decide +kernel⟩, wi_RX2, wc_X2_saltWith⟩
theorem wv_X2_saltWith : Cond.instanceMethod yX2_saltWith ∈ wsL_law := u_r22 _ (List.mem_of_getElem? (i := 10) rfl)
theorem wl_X2_saltWith : Cond.selects RX2 yX2_saltWith yX2_saltWith ∈ wsL_law := u_r22 _ (List.mem_of_getElem? (i := 11) rfl)
theorem ev_X2_saltWith : u_mev yX2_saltWith cX2_saltWith 2 (some .int) 1 := ⟨e_X2_saltWith, wv_X2_saltWith, wl_X2_saltWith⟩
theorem wc_X2_giveOut : Cond.code yX2_giveOut cX2_giveOut 3 (some .int) ∈ wsL_law := u_r21 _ (List.mem_of_getElem? (i := 2) rfl)
theorem e_X2_giveOut : u_me yX2_giveOut cX2_giveOut 3 (some .int) 1 := ⟨⟨by decide, by decide, by decide +kernel⟩, wi_RX2, wc_X2_giveOut⟩
theorem wv_X2_giveOut : Cond.instanceMethod yX2_giveOut ∈ wsL_law := u_r21 _ (List.mem_of_getElem? (i := 0) rfl)
theorem wl_X2_giveOut : Cond.selects RX2 yX2_giveOut yX2_giveOut ∈ wsL_law := u_r21 _ (List.mem_of_getElem? (i := 1) rfl)
theorem ev_X2_giveOut : u_mev yX2_giveOut cX2_giveOut 3 (some .int) 1 := ⟨e_X2_giveOut, wv_X2_giveOut, wl_X2_giveOut⟩
theorem wc_X2_takeIn : Cond.code yX2_takeIn cX2_takeIn 3 none ∈ wsL_law := u_r20 _ (List.mem_of_getElem? (i := 16) rfl)
theorem e_X2_takeIn : u_me yX2_takeIn cX2_takeIn 3 none 2 := ⟨⟨by decide, by decide, by decide +kernel⟩, wi_RX2, wc_X2_takeIn⟩
theorem wv_X2_takeIn : Cond.instanceMethod yX2_takeIn ∈ wsL_law := u_r20 _ (List.mem_of_getElem? (i := 14) rfl)
theorem wl_X2_takeIn : Cond.selects RX2 yX2_takeIn yX2_takeIn ∈ wsL_law := u_r20 _ (List.mem_of_getElem? (i := 15) rfl)
theorem ev_X2_takeIn : u_mev yX2_takeIn cX2_takeIn 3 none 2 := ⟨e_X2_takeIn, wv_X2_takeIn, wl_X2_takeIn⟩
theorem wi_RX3 : Cond.initialized RX3 ∈ wsL_law := u_r1 _ (List.mem_of_getElem? (i := 15) rfl)
theorem wc_X3_init : Cond.code yX3_init cX3_init 2 none ∈ wsL_law := u_r2 _ (List.mem_of_getElem? (i := 4) rfl)
theorem e_X3_init : u_me yX3_init cX3_init 2 none 0 := ⟨⟨by decide, by decide, by decide +kernel⟩, wi_RX3, wc_X3_init⟩
theorem wv_X3_init : Cond.instanceMethod yX3_init ∈ wsL_law := u_r2 _ (List.mem_of_getElem? (i := 3) rfl)
theorem wc_X3_begin : Cond.code yX3_begin cX3_begin 2 none ∈ wsL_law := u_r29 _ (List.mem_of_getElem? (i := 0) rfl)
theorem e_X3_begin : u_me yX3_begin cX3_begin 2 none 0 := ⟨⟨by decide, by decide, by decide +kernel⟩, wi_RX3, wc_X3_begin⟩
theorem wv_X3_begin : Cond.instanceMethod yX3_begin ∈ wsL_law := u_r28 _ (List.mem_of_getElem? (i := 22) rfl)
theorem wl_X3_begin : Cond.selects RX3 yX3_begin yX3_begin ∈ wsL_law := u_r28 _ (List.mem_of_getElem? (i := 23) rfl)
theorem ev_X3_begin : u_mev yX3_begin cX3_begin 2 none 0 := ⟨e_X3_begin, wv_X3_begin, wl_X3_begin⟩
theorem wc_X3_hasSection : Cond.code yX3_hasSection cX3_hasSection 2 (some .boolean) ∈ wsL_law := u_r10 _ (List.mem_of_getElem? (i := 18) rfl)
theorem e_X3_hasSection : u_me yX3_hasSection cX3_hasSection 2 (some .boolean) 1 := ⟨⟨by decide, by decide, by decide +kernel⟩, wi_RX3, wc_X3_hasSection⟩
theorem wv_X3_hasSection : Cond.instanceMethod yX3_hasSection ∈ wsL_law := u_r10 _ (List.mem_of_getElem? (i := 16) rfl)
theorem wl_X3_hasSection : Cond.selects RX3 yX3_hasSection yX3_hasSection ∈ wsL_law := u_r10 _ (List.mem_of_getElem? (i := 17) rfl)
theorem ev_X3_hasSection : u_mev yX3_hasSection cX3_hasSection 2 (some .boolean) 1 := ⟨e_X3_hasSection, wv_X3_hasSection, wl_X3_hasSection⟩
theorem wc_X3_hear : Cond.code yX3_hear cX3_hear 7 none ∈ wsL_law := u_r7 _ (List.mem_of_getElem? (i := 21) rfl)
theorem e_X3_hear : u_me yX3_hear cX3_hear 7 none 6 := ⟨⟨by decide, by decide, by decide +kernel⟩, wi_RX3, wc_X3_hear⟩
theorem wv_X3_hear : Cond.instanceMethod yX3_hear ∈ wsL_law := u_r7 _ (List.mem_of_getElem? (i := 19) rfl)
theorem wl_X3_hear : Cond.selects RX3 yX3_hear yX3_hear ∈ wsL_law := u_r7 _ (List.mem_of_getElem? (i := 20) rfl)
theorem ev_X3_hear : u_mev yX3_hear cX3_hear 7 none 6 := ⟨e_X3_hear, wv_X3_hear, wl_X3_hear⟩
theorem wc_X3_addSection : Cond.code yX3_addSection cX3_addSection 5 none ∈ wsL_law := u_r8 _ (List.mem_of_getElem? (i := 23) rfl)
theorem e_X3_addSection : u_me yX3_addSection cX3_addSection 5 none 4 := ⟨⟨by decide, by decide, by decide +kernel⟩, wi_RX3, wc_X3_addSection⟩
theorem wv_X3_addSection : Cond.instanceMethod yX3_addSection ∈ wsL_law := u_r8 _ (List.mem_of_getElem? (i := 21) rfl)
theorem wl_X3_addSection : Cond.selects RX3 yX3_addSection yX3_addSection ∈ wsL_law := u_r8 _ (List.mem_of_getElem? (i := 22) rfl)
theorem ev_X3_addSection : u_mev yX3_addSection cX3_addSection 5 none 4 := ⟨e_X3_addSection, wv_X3_addSection, wl_X3_addSection⟩
theorem wc_X3_addIntake : Cond.code yX3_addIntake cX3_addIntake 6 none ∈ wsL_law := u_r9 _ (List.mem_of_getElem? (i := 18) rfl)
theorem e_X3_addIntake : u_me yX3_addIntake cX3_addIntake 6 none 5 := ⟨⟨by decide, by decide, by decide +kernel⟩, wi_RX3, wc_X3_addIntake⟩
theorem wv_X3_addIntake : Cond.instanceMethod yX3_addIntake ∈ wsL_law := u_r9 _ (List.mem_of_getElem? (i := 16) rfl)
theorem wl_X3_addIntake : Cond.selects RX3 yX3_addIntake yX3_addIntake ∈ wsL_law := u_r9 _ (List.mem_of_getElem? (i := 17) rfl)
theorem ev_X3_addIntake : u_mev yX3_addIntake cX3_addIntake 6 none 5 := ⟨e_X3_addIntake, wv_X3_addIntake, wl_X3_addIntake⟩
theorem wc_X3_setPermit : Cond.code yX3_setPermit cX3_setPermit 3 none ∈ wsL_law := u_r10 _ (List.mem_of_getElem? (i := 13) rfl)
theorem e_X3_setPermit : u_me yX3_setPermit cX3_setPermit 3 none 2 := ⟨⟨by decide, by decide, by decide +kernel⟩, wi_RX3, wc_X3_setPermit⟩
theorem wv_X3_setPermit : Cond.instanceMethod yX3_setPermit ∈ wsL_law := u_r10 _ (List.mem_of_getElem? (i := 11) rfl)
theorem wl_X3_setPermit : Cond.selects RX3 yX3_setPermit yX3_setPermit ∈ wsL_law := u_r10 _ (List.mem_of_getElem? (i := 12) rfl)
theorem ev_X3_setPermit : u_mev yX3_setPermit cX3_setPermit 3 none 2 := ⟨e_X3_setPermit, wv_X3_setPermit, wl_X3_setPermit⟩
theorem wc_X3_moveMud : Cond.code yX3_moveMud cX3_moveMud 4 none ∈ wsL_law := u_r10 _ (List.mem_of_getElem? (i := 22) rfl)
theorem e_X3_moveMud : u_me yX3_moveMud cX3_moveMud 4 none 3 := ⟨⟨by decide, by decide, by decide +kernel⟩, wi_RX3, wc_X3_moveMud⟩
theorem wv_X3_moveMud : Cond.instanceMethod yX3_moveMud ∈ wsL_law := u_r10 _ (List.mem_of_getElem? (i := 20) rfl)
theorem wl_X3_moveMud : Cond.selects RX3 yX3_moveMud yX3_moveMud ∈ wsL_law := u_r10 _ (List.mem_of_getElem? (i := 21) rfl)
theorem ev_X3_moveMud : u_mev yX3_moveMud cX3_moveMud 4 none 3 := ⟨e_X3_moveMud, wv_X3_moveMud, wl_X3_moveMud⟩
theorem wc_X3_seaOf : Cond.code yX3_seaOf cX3_seaOf 2 (some .int) ∈ wsL_law := u_r27 _ (List.mem_of_getElem? (i := 15) rfl)
theorem e_X3_seaOf : u_me yX3_seaOf cX3_seaOf 2 (some .int) 1 := ⟨⟨by decide, by decide, by decide +kernel⟩, wi_RX3, wc_X3_seaOf⟩
theorem wv_X3_seaOf : Cond.instanceMethod yX3_seaOf ∈ wsL_law := u_r27 _ (List.mem_of_getElem? (i := 13) rfl)
theorem wl_X3_seaOf : Cond.selects RX3 yX3_seaOf yX3_seaOf ∈ wsL_law := u_r27 _ (List.mem_of_getElem? (i := 14) rfl)
theorem ev_X3_seaOf : u_mev yX3_seaOf cX3_seaOf 2 (some .int) 1 := ⟨e_X3_seaOf, wv_X3_seaOf, wl_X3_seaOf⟩
theorem wc_X3_firstHourAt : Cond.code yX3_firstHourAt cX3_firstHourAt 5 (some .int) ∈ wsL_law := u_r33 _ (List.mem_of_getElem? (i := 4) rfl)
theorem e_X3_firstHourAt : u_me yX3_firstHourAt cX3_firstHourAt 5 (some .int) 2 := ⟨⟨by decide, by decide, by decide +kernel⟩, wi_RX3, wc_X3_firstHourAt⟩
theorem wv_X3_firstHourAt : Cond.instanceMethod yX3_firstHourAt ∈ wsL_law := u_r33 _ (List.mem_of_getElem? (i := 2) rfl)
theorem wl_X3_firstHourAt : Cond.selects RX3 yX3_firstHourAt yX3_firstHourAt ∈ wsL_law := u_r33 _ (List.mem_of_getElem? (i := 3) rfl)
theorem ev_X3_firstHourAt : u_mev yX3_firstHourAt cX3_firstHourAt 5 (some .int) 2 := ⟨e_X3_firstHourAt, wv_X3_firstHourAt, wl_X3_firstHourAt⟩
theorem wc_X3_goOnTo : Cond.code yX3_goOnTo cX3_goOnTo 3 none ∈ wsL_law := u_r18 _ (List.mem_of_getElem? (i := 7) rfl)
theorem e_X3_goOnTo : u_me yX3_goOnTo cX3_goOnTo 3 none 1 := ⟨⟨by decide, by decide, by decide +kernel⟩, wi_RX3, wc_X3_goOnTo⟩
theorem wv_X3_goOnTo : Cond.instanceMethod yX3_goOnTo ∈ wsL_law := u_r18 _ (List.mem_of_getElem? (i := 5) rfl)
theorem wl_X3_goOnTo : Cond.selects RX3 yX3_goOnTo yX3_goOnTo ∈ wsL_law := u_r18 _ (List.mem_of_getElem? (i := 6) rfl)
theorem ev_X3_goOnTo : u_mev yX3_goOnTo cX3_goOnTo 3 none 1 := ⟨e_X3_goOnTo, wv_X3_goOnTo, wl_X3_goOnTo⟩
theorem wc_X3_letHourGoBy : Cond.code yX3_letHourGoBy cX3_letHourGoBy 3 none ∈ wsL_law := u_r18 _ (List.mem_of_getElem? (i := 16) rfl)
theorem e_X3_letHourGoBy : u_me yX3_letHourGoBy cX3_letHourGoBy 3 none 0 := ⟨⟨by decide, by decide, by decide +kernel⟩, wi_RX3, wc_X3_letHourGoBy⟩
theorem wv_X3_letHourGoBy : Cond.instanceMethod yX3_letHourGoBy ∈ wsL_law := u_r18 _ (List.mem_of_getElem? (i := 14) rfl)
theorem wl_X3_letHourGoBy : Cond.selects RX3 yX3_letHourGoBy yX3_letHourGoBy ∈ wsL_law := u_r18 _ (List.mem_of_getElem? (i := 15) rfl)
theorem ev_X3_letHourGoBy : u_mev yX3_letHourGoBy cX3_letHourGoBy 3 none 0 := ⟨e_X3_letHourGoBy, wv_X3_letHourGoBy, wl_X3_letHourGoBy⟩
theorem wc_X3_meetSea : Cond.code yX3_meetSea cX3_meetSea 5 none ∈ wsL_law := u_r19 _ (List.mem_of_getElem? (i := 23) rfl)
theorem e_X3_meetSea : u_me yX3_meetSea cX3_meetSea 5 none 2 := ⟨⟨by decide, by decide, by decide +kernel⟩, wi_RX3, wc_X3_meetSea⟩
theorem wv_X3_meetSea : Cond.instanceMethod yX3_meetSea ∈ wsL_law := u_r19 _ (List.mem_of_getElem? (i := 21) rfl)
theorem wl_X3_meetSea : Cond.selects RX3 yX3_meetSea yX3_meetSea ∈ wsL_law := u_r19 _ (List.mem_of_getElem? (i := 22) rfl)
theorem ev_X3_meetSea : u_mev yX3_meetSea cX3_meetSea 5 none 2 := ⟨e_X3_meetSea, wv_X3_meetSea, wl_X3_meetSea⟩
theorem wc_X3_meetRiver : Cond.code yX3_meetRiver cX3_meetRiver 2 none ∈ wsL_law := u_r21 _ (List.mem_of_getElem? (i := 6) rfl)
theorem e_X3_meetRiver : u_me yX3_meetRiver cX3_meetRiver 2 none 1 := ⟨⟨by decide, by decide, by decide +kernel⟩, wi_RX3, wc_X3_meetRiver⟩
theorem wv_X3_meetRiver : Cond.instanceMethod yX3_meetRiver ∈ wsL_law := u_r21 _ (List.mem_of_getElem? (i := 4) rfl)
theorem wl_X3_meetRiver : Cond.selects RX3 yX3_meetRiver yX3_meetRiver ∈ wsL_law := u_r21 _ (List.mem_of_getElem? (i := 5) rfl)
theorem ev_X3_meetRiver : u_mev yX3_meetRiver cX3_meetRiver 2 none 1 := ⟨e_X3_meetRiver, wv_X3_meetRiver, wl_X3_meetRiver⟩
theorem wc_X3_level : Cond.code yX3_level cX3_level 6 none ∈ wsL_law := u_r21 _ (List.mem_of_getElem? (i := 10) rfl)
theorem e_X3_level : u_me yX3_level cX3_level 6 none 2 := ⟨⟨by decide, by decide, by decide +kernel⟩, wi_RX3, wc_X3_level⟩
theorem wv_X3_level : Cond.instanceMethod yX3_level ∈ wsL_law := u_r21 _ (List.mem_of_getElem? (i := 8) rfl)
theorem wl_X3_level : Cond.selects RX3 yX3_level yX3_level ∈ wsL_law := u_r21 _ (List.mem_of_getElem? (i := 9) rfl)
theorem ev_X3_level : u_mev yX3_level cX3_level 6 none 2 := ⟨e_X3_level, wv_X3_level, wl_X3_level⟩
theorem wc_X3_creep : Cond.code yX3_creep cX3_creep 4 none ∈ wsL_law := u_r21 _ (List.mem_of_getElem? (i := 22) rfl)
theorem e_X3_creep : u_me yX3_creep cX3_creep 4 none 2 := ⟨⟨by decide, by decide, by decide +kernel⟩, wi_RX3, wc_X3_creep⟩
theorem wv_X3_creep : Cond.instanceMethod yX3_creep ∈ wsL_law := u_r21 _ (List.mem_of_getElem? (i := 20) rfl)
theorem wl_X3_creep : Cond.selects RX3 yX3_creep yX3_creep ∈ wsL_law := u_r21 _ (List.mem_of_getElem? (i := 21) rfl)
theorem ev_X3_creep : u_mev yX3_creep cX3_creep 4 none 2 := ⟨e_X3_creep, wv_X3_creep, wl_X3_creep⟩
theorem wc_X3_flowInLow : Cond.code yX3_flowInLow cX3_flowInLow 5 none ∈ wsL_law := u_r21 _ (List.mem_of_getElem? (i := 14) rfl)
theorem e_X3_flowInLow : u_me yX3_flowInLow cX3_flowInLow 5 none 3 := ⟨⟨by decide, by decide, by decide +kernel⟩, wi_RX3, wc_X3_flowInLow⟩
theorem wv_X3_flowInLow : Cond.instanceMethod yX3_flowInLow ∈ wsL_law := u_r21 _ (List.mem_of_getElem? (i := 12) rfl)
theorem wl_X3_flowInLow : Cond.selects RX3 yX3_flowInLow yX3_flowInLow ∈ wsL_law := u_r21 _ (List.mem_of_getElem? (i := 13) rfl)
theorem ev_X3_flowInLow : u_mev yX3_flowInLow cX3_flowInLow 5 none 3 := ⟨e_X3_flowInLow, wv_X3_flowInLow, wl_X3_flowInLow⟩
theorem wc_X3_flowInUp : Cond.code yX3_flowInUp cX3_flowInUp 6 none ∈ wsL_law := u_r21 _ (List.mem_of_getElem? (i := 18) rfl)
theorem e_X3_flowInUp : u_me yX3_flowInUp cX3_flowInUp 6 none 3 := ⟨⟨by decide, by decide, by decide +kernel⟩, wi_RX3, wc_X3_flowInUp⟩
theorem wv_X3_flowInUp : Cond.instanceMethod yX3_flowInUp ∈ wsL_law := u_r21 _ (List.mem_of_getElem? (i := 16) rfl)
theorem wl_X3_flowInUp : Cond.selects RX3 yX3_flowInUp yX3_flowInUp ∈ wsL_law := u_r21 _ (List.mem_of_getElem? (i := 17) rfl)
theorem ev_X3_flowInUp : u_mev yX3_flowInUp cX3_flowInUp 6 none 3 := ⟨e_X3_flowInUp, wv_X3_flowInUp, wl_X3_flowInUp⟩
theorem wc_X3_serveIntakes : Cond.code yX3_serveIntakes cX3_serveIntakes 3 none ∈ wsL_law := u_r22 _ (List.mem_of_getElem? (i := 20) rfl)
theorem e_X3_serveIntakes : u_me yX3_serveIntakes cX3_serveIntakes 3 none 0 := ⟨⟨by decide, by decide, by decide +kernel⟩, wi_RX3, wc_X3_serveIntakes⟩
theorem wv_X3_serveIntakes : Cond.instanceMethod yX3_serveIntakes ∈ wsL_law := u_r22 _ (List.mem_of_getElem? (i := 18) rfl)
theorem wl_X3_serveIntakes : Cond.selects RX3 yX3_serveIntakes yX3_serveIntakes ∈ wsL_law := u_r22 _ (List.mem_of_getElem? (i := 19) rfl)
theorem ev_X3_serveIntakes : u_mev yX3_serveIntakes cX3_serveIntakes 3 none 0 := ⟨e_X3_serveIntakes, wv_X3_serveIntakes, wl_X3_serveIntakes⟩
theorem wi_RX4 : Cond.initialized RX4 ∈ wsL_law := u_r2 _ (List.mem_of_getElem? (i := 1) rfl)
theorem wc_X4_init : Cond.code yX4_init cX4_init 1 none ∈ wsL_law := u_r5 _ (List.mem_of_getElem? (i := 1) rfl)
theorem e_X4_init : u_me yX4_init cX4_init 1 none 0 := ⟨⟨by decide, by decide, by decide +kernel⟩, wi_RX4, wc_X4_init⟩
theorem wv_X4_init : Cond.instanceMethod yX4_init ∈ wsL_law := u_r5 _ (List.mem_of_getElem? (i := 0) rfl)
theorem wi_RX5 : Cond.initialized RX5 ∈ wsL_law := u_r2 _ (List.mem_of_getElem? (i := 8) rfl)
theorem wc_X5_init : Cond.code yX5_init cX5_init 2 none ∈ wsL_law := u_r3 _ (List.mem_of_getElem? (i := 1) rfl)
theorem e_X5_init : u_me yX5_init cX5_init 2 none 0 := ⟨⟨by decide, by decide, by decide +kernel⟩, wi_RX5, wc_X5_init⟩
theorem wv_X5_init : Cond.instanceMethod yX5_init ∈ wsL_law := u_r3 _ (List.mem_of_getElem? (i := 0) rfl)
theorem wc_X5_begin : Cond.code yX5_begin cX5_begin 1 none ∈ wsL_law := u_r29 _ (List.mem_of_getElem? (i := 4) rfl)
theorem e_X5_begin : u_me yX5_begin cX5_begin 1 none 0 := ⟨⟨by decide, by decide, by decide +kernel⟩, wi_RX5, wc_X5_begin⟩
theorem wv_X5_begin : Cond.instanceMethod yX5_begin ∈ wsL_law := u_r29 _ (List.mem_of_getElem? (i := 2) rfl)
theorem wl_X5_begin : Cond.selects RX5 yX5_begin yX5_begin ∈ wsL_law := u_r29 _ (List.mem_of_getElem? (i := 3) rfl)
theorem ev_X5_begin : u_mev yX5_begin cX5_begin 1 none 0 := ⟨e_X5_begin, wv_X5_begin, wl_X5_begin⟩
theorem wc_X5_addTurn : Cond.code yX5_addTurn cX5_addTurn 6 none ∈ wsL_law := u_r8 _ (List.mem_of_getElem? (i := 6) rfl)
theorem e_X5_addTurn : u_me yX5_addTurn cX5_addTurn 6 none 4 := ⟨⟨by decide, by decide, by decide +kernel⟩, wi_RX5, wc_X5_addTurn⟩
theorem wv_X5_addTurn : Cond.instanceMethod yX5_addTurn ∈ wsL_law := u_r8 _ (List.mem_of_getElem? (i := 4) rfl)
theorem wl_X5_addTurn : Cond.selects RX5 yX5_addTurn yX5_addTurn ∈ wsL_law := u_r8 _ (List.mem_of_getElem? (i := 5) rfl)
theorem ev_X5_addTurn : u_mev yX5_addTurn cX5_addTurn 6 none 4 := ⟨e_X5_addTurn, wv_X5_addTurn, wl_X5_addTurn⟩
theorem wc_X5_addSurge : Cond.code yX5_addSurge cX5_addSurge 5 none ∈ wsL_law := u_r8 _ (List.mem_of_getElem? (i := 15) rfl)
theorem e_X5_addSurge : u_me yX5_addSurge cX5_addSurge 5 none 3 := ⟨⟨by decide, by decide, by decide +kernel⟩, wi_RX5, wc_X5_addSurge⟩
theorem wv_X5_addSurge : Cond.instanceMethod yX5_addSurge ∈ wsL_law := u_r8 _ (List.mem_of_getElem? (i := 13) rfl)
theorem wl_X5_addSurge : Cond.selects RX5 yX5_addSurge yX5_addSurge ∈ wsL_law := u_r8 _ (List.mem_of_getElem? (i := 14) rfl)
theorem ev_X5_addSurge : u_mev yX5_addSurge cX5_addSurge 5 none 3 := ⟨e_X5_addSurge, wv_X5_addSurge, wl_X5_addSurge⟩
theorem wc_X5_foretold : Cond.code yX5_foretold cX5_foretold 4 (some .int) ∈ wsL_law := u_r18 _ (List.mem_of_getElem? (i := 22) rfl)
theorem e_X5_foretold : u_me yX5_foretold cX5_foretold 4 (some .int) 1 := ⟨⟨by decide, by decide, by decide +kernel⟩, wi_RX5, wc_X5_foretold⟩
theorem wv_X5_foretold : Cond.instanceMethod yX5_foretold ∈ wsL_law := u_r18 _ (List.mem_of_getElem? (i := 20) rfl)
theorem wl_X5_foretold : Cond.selects RX5 yX5_foretold yX5_foretold ∈ wsL_law := u_r18 _ (List.mem_of_getElem? (i := 21) rfl)
theorem ev_X5_foretold : u_mev yX5_foretold cX5_foretold 4 (some .int) 1 := ⟨e_X5_foretold, wv_X5_foretold, wl_X5_foretold⟩
theorem wc_X5_foretoldAbove : Cond.code yX5_foretoldAbove cX5_foretoldAbove 5 (some .boolean) ∈ wsL_law := u_r19 _ (List.mem_of_getElem? (i := 17) rfl)
theorem e_X5_foretoldAbove : u_me yX5_foretoldAbove cX5_foretoldAbove 5 (some .boolean) 3 := ⟨⟨by decide, by decide, by decide +kernel⟩, wi_RX5, wc_X5_foretoldAbove⟩
theorem wv_X5_foretoldAbove : Cond.instanceMethod yX5_foretoldAbove ∈ wsL_law := u_r19 _ (List.mem_of_getElem? (i := 15) rfl)
theorem wl_X5_foretoldAbove : Cond.selects RX5 yX5_foretoldAbove yX5_foretoldAbove ∈ wsL_law := u_r19 _ (List.mem_of_getElem? (i := 16) rfl)
theorem ev_X5_foretoldAbove : u_mev yX5_foretoldAbove cX5_foretoldAbove 5 (some .boolean) 3 := ⟨e_X5_foretoldAbove, wv_X5_foretoldAbove, wl_X5_foretoldAbove⟩
theorem wc_X5_keep : Cond.code yX5_keep cX5_keep 3 none ∈ wsL_law := u_r23 _ (List.mem_of_getElem? (i := 22) rfl)
theorem e_X5_keep : u_me yX5_keep cX5_keep 3 none 2 := ⟨⟨by decide, by decide, by decide +kernel⟩, wi_RX5, wc_X5_keep⟩
theorem wv_X5_keep : Cond.instanceMethod yX5_keep ∈ wsL_law := u_r23 _ (List.mem_of_getElem? (i := 20) rfl)
theorem wl_X5_keep : Cond.selects RX5 yX5_keep yX5_keep ∈ wsL_law := u_r23 _ (List.mem_of_getElem? (i := 21) rfl)
theorem ev_X5_keep : u_mev yX5_keep cX5_keep 3 none 2 := ⟨e_X5_keep, wv_X5_keep, wl_X5_keep⟩
theorem wi_RX6 : Cond.initialized RX6 ∈ wsL_law := u_r2 _ (List.mem_of_getElem? (i := 20) rfl)
theorem wc_X6_init : Cond.code yX6_init cX6_init 1 none ∈ wsL_law := u_r4 _ (List.mem_of_getElem? (i := 5) rfl)
theorem e_X6_init : u_me yX6_init cX6_init 1 none 0 := ⟨⟨by decide, by decide, by decide +kernel⟩, wi_RX6, wc_X6_init⟩
theorem wv_X6_init : Cond.instanceMethod yX6_init ∈ wsL_law := u_r4 _ (List.mem_of_getElem? (i := 4) rfl)
theorem wc_X6_begin : Cond.code yX6_begin cX6_begin 5 none ∈ wsL_law := u_r9 _ (List.mem_of_getElem? (i := 4) rfl)
theorem e_X6_begin : u_me yX6_begin cX6_begin 5 none 4 := ⟨⟨by decide, by decide, by decide +kernel⟩, wi_RX6, wc_X6_begin⟩
theorem wv_X6_begin : Cond.instanceMethod yX6_begin ∈ wsL_law := u_r9 _ (List.mem_of_getElem? (i := 2) rfl)
theorem wl_X6_begin : Cond.selects RX6 yX6_begin yX6_begin ∈ wsL_law := u_r9 _ (List.mem_of_getElem? (i := 3) rfl)
theorem ev_X6_begin : u_mev yX6_begin cX6_begin 5 none 4 := ⟨e_X6_begin, wv_X6_begin, wl_X6_begin⟩
theorem wc_X6_bed : Cond.code yX6_bed cX6_bed 1 (some .int) ∈ wsL_law := u_r20 _ (List.mem_of_getElem? (i := 12) rfl)
theorem e_X6_bed : u_me yX6_bed cX6_bed 1 (some .int) 0 := ⟨⟨by decide, by decide, by decide +kernel⟩, wi_RX6, wc_X6_bed⟩
theorem wv_X6_bed : Cond.instanceMethod yX6_bed ∈ wsL_law := u_r20 _ (List.mem_of_getElem? (i := 10) rfl)
theorem wl_X6_bed : Cond.selects RX6 yX6_bed yX6_bed ∈ wsL_law := u_r20 _ (List.mem_of_getElem? (i := 11) rfl)
theorem ev_X6_bed : u_mev yX6_bed cX6_bed 1 (some .int) 0 := ⟨e_X6_bed, wv_X6_bed, wl_X6_bed⟩
theorem wc_X6_level : Cond.code yX6_level cX6_level 1 (some .int) ∈ wsL_law := u_r20 _ (List.mem_of_getElem? (i := 7) rfl)
theorem e_X6_level : u_me yX6_level cX6_level 1 (some .int) 0 := ⟨⟨by decide, by decide, by decide +kernel⟩, wi_RX6, wc_X6_level⟩
theorem wv_X6_level : Cond.instanceMethod yX6_level ∈ wsL_law := u_r20 _ (List.mem_of_getElem? (i := 5) rfl)
theorem wl_X6_level : Cond.selects RX6 yX6_level yX6_level ∈ wsL_law := u_r20 _ (List.mem_of_getElem? (i := 6) rfl)
theorem ev_X6_level : u_mev yX6_level cX6_level 1 (some .int) 0 := ⟨e_X6_level, wv_X6_level, wl_X6_level⟩
theorem wc_X6_giveCloud : Cond.code yX6_giveCloud cX6_giveCloud 3 (some .int) ∈ wsL_law := u_r20 _ (List.mem_of_getElem? (i := 20) rfl)
theorem e_X6_giveCloud : u_me yX6_giveCloud cX6_giveCloud 3 (some .int) 1 := ⟨⟨by decide, by decide, by decide +kernel⟩, wi_RX6, wc_X6_giveCloud⟩
theorem wv_X6_giveCloud : Cond.instanceMethod yX6_giveCloud ∈ wsL_law := u_r20 _ (List.mem_of_getElem? (i := 18) rfl)
theorem wl_X6_giveCloud : Cond.selects RX6 yX6_giveCloud yX6_giveCloud ∈ wsL_law := u_r20 _ (List.mem_of_getElem? (i := 19) rfl)
theorem ev_X6_giveCloud : u_mev yX6_giveCloud cX6_giveCloud 3 (some .int) 1 := ⟨e_X6_giveCloud, wv_X6_giveCloud, wl_X6_giveCloud⟩
theorem wc_X6_refusal : Cond.code yX6_refusal cX6_refusal 2 (some .int) ∈ wsL_law := u_r17 _ (List.mem_of_getElem? (i := 1) rfl)
theorem e_X6_refusal : u_me yX6_refusal cX6_refusal 2 (some .int) 1 := ⟨⟨by decide, by decide, by decide +kernel⟩, wi_RX6, wc_X6_refusal⟩
theorem wv_X6_refusal : Cond.instanceMethod yX6_refusal ∈ wsL_law := u_r16 _ (List.mem_of_getElem? (i := 23) rfl)
theorem wl_X6_refusal : Cond.selects RX6 yX6_refusal yX6_refusal ∈ wsL_law := u_r17 _ (List.mem_of_getElem? (i := 0) rfl)
theorem ev_X6_refusal : u_mev yX6_refusal cX6_refusal 2 (some .int) 1 := ⟨e_X6_refusal, wv_X6_refusal, wl_X6_refusal⟩
theorem wc_X6_mix : Cond.code yX6_mix cX6_mix 3 none ∈ wsL_law := u_r22 _ (List.mem_of_getElem? (i := 6) rfl)
theorem e_X6_mix : u_me yX6_mix cX6_mix 3 none 0 := ⟨⟨by decide, by decide, by decide +kernel⟩, wi_RX6, wc_X6_mix⟩
theorem wv_X6_mix : Cond.instanceMethod yX6_mix ∈ wsL_law := u_r22 _ (List.mem_of_getElem? (i := 4) rfl)
theorem wl_X6_mix : Cond.selects RX6 yX6_mix yX6_mix ∈ wsL_law := u_r22 _ (List.mem_of_getElem? (i := 5) rfl)
theorem ev_X6_mix : u_mev yX6_mix cX6_mix 3 none 0 := ⟨e_X6_mix, wv_X6_mix, wl_X6_mix⟩
theorem wc_X6_settleOrLift : Cond.code yX6_settleOrLift cX6_settleOrLift 2 none ∈ wsL_law := u_r22 _ (List.mem_of_getElem? (i := 16) rfl)
theorem e_X6_settleOrLift : u_me yX6_settleOrLift cX6_settleOrLift 2 none 0 := ⟨⟨by decide, by decide, by decide +kernel⟩, wi_RX6, wc_X6_settleOrLift⟩
theorem wv_X6_settleOrLift : Cond.instanceMethod yX6_settleOrLift ∈ wsL_law := u_r22 _ (List.mem_of_getElem? (i := 14) rfl)
theorem wl_X6_settleOrLift : Cond.selects RX6 yX6_settleOrLift yX6_settleOrLift ∈ wsL_law := u_r22 _ (List.mem_of_getElem? (i := 15) rfl)
theorem ev_X6_settleOrLift : u_mev yX6_settleOrLift cX6_settleOrLift 2 none 0 := ⟨e_X6_settleOrLift, wv_X6_settleOrLift, wl_X6_settleOrLift⟩
theorem wc_X6_endHour : Cond.code yX6_endHour cX6_endHour 2 none ∈ wsL_law := u_r23 _ (List.mem_of_getElem? (i := 13) rfl)
theorem e_X6_endHour : u_me yX6_endHour cX6_endHour 2 none 1 := ⟨⟨by decide, by decide, by decide +kernel⟩, wi_RX6, wc_X6_endHour⟩
theorem wv_X6_endHour : Cond.instanceMethod yX6_endHour ∈ wsL_law := u_r23 _ (List.mem_of_getElem? (i := 11) rfl)
theorem wl_X6_endHour : Cond.selects RX6 yX6_endHour yX6_endHour ∈ wsL_law := u_r23 _ (List.mem_of_getElem? (i := 12) rfl)
theorem ev_X6_endHour : u_mev yX6_endHour cX6_endHour 2 none 1 := ⟨e_X6_endHour, wv_X6_endHour, wl_X6_endHour⟩
theorem wc_X6_wasFresher : Cond.code yX6_wasFresher cX6_wasFresher 5 (some .boolean) ∈ wsL_law := u_r30 _ (List.mem_of_getElem? (i := 20) rfl)
theorem e_X6_wasFresher : u_me yX6_wasFresher cX6_wasFresher 5 (some .boolean) 3 := ⟨⟨by decide, by decide, by decide +kernel⟩, wi_RX6, wc_X6_wasFresher⟩
theorem wv_X6_wasFresher : Cond.instanceMethod yX6_wasFresher ∈ wsL_law := u_r30 _ (List.mem_of_getElem? (i := 18) rfl)
theorem wl_X6_wasFresher : Cond.selects RX6 yX6_wasFresher yX6_wasFresher ∈ wsL_law := u_r30 _ (List.mem_of_getElem? (i := 19) rfl)
theorem ev_X6_wasFresher : u_mev yX6_wasFresher cX6_wasFresher 5 (some .boolean) 3 := ⟨e_X6_wasFresher, wv_X6_wasFresher, wl_X6_wasFresher⟩
theorem wc_X6_answer : Cond.code yX6_answer cX6_answer 2 (some .int) ∈ wsL_law := u_r28 _ (List.mem_of_getElem? (i := 7) rfl)
theorem e_X6_answer : u_me yX6_answer cX6_answer 2 (some .int) 1 := ⟨⟨by decide, by decide, by decide +kernel⟩, wi_RX6, wc_X6_answer⟩
theorem wv_X6_answer : Cond.instanceMethod yX6_answer ∈ wsL_law := u_r28 _ (List.mem_of_getElem? (i := 5) rfl)
theorem wl_X6_answer : Cond.selects RX6 yX6_answer yX6_answer ∈ wsL_law := u_r28 _ (List.mem_of_getElem? (i := 6) rfl)
theorem ev_X6_answer : u_mev yX6_answer cX6_answer 2 (some .int) 1 := ⟨e_X6_answer, wv_X6_answer, wl_X6_answer⟩
theorem wi_RX7 : Cond.initialized RX7 ∈ wsL_law := u_r3 _ (List.mem_of_getElem? (i := 13) rfl)
theorem wc_X7_init : Cond.code yX7_init cX7_init 1 none ∈ wsL_law := u_r3 _ (List.mem_of_getElem? (i := 18) rfl)
theorem e_X7_init : u_me yX7_init cX7_init 1 none 0 := ⟨⟨by decide, by decide, by decide +kernel⟩, wi_RX7, wc_X7_init⟩
theorem wv_X7_init : Cond.instanceMethod yX7_init ∈ wsL_law := u_r3 _ (List.mem_of_getElem? (i := 17) rfl)
theorem wi_RX8 : Cond.initialized RX8 ∈ wsL_law := u_r1 _ (List.mem_of_getElem? (i := 20) rfl)
theorem wc_X8_init : Cond.code yX8_init cX8_init 1 none ∈ wsL_law := u_r4 _ (List.mem_of_getElem? (i := 21) rfl)
theorem e_X8_init : u_me yX8_init cX8_init 1 none 0 := ⟨⟨by decide, by decide, by decide +kernel⟩, wi_RX8, wc_X8_init⟩
theorem wv_X8_init : Cond.instanceMethod yX8_init ∈ wsL_law := u_r4 _ (List.mem_of_getElem? (i := 20) rfl)
theorem wc_X8_keep : Cond.code yX8_keep cX8_keep 9 none ∈ wsL_law := u_r7 _ (List.mem_of_getElem? (i := 16) rfl)
theorem e_X8_keep : u_me yX8_keep cX8_keep 9 none 7 := ⟨⟨by decide, by decide, by decide +kernel⟩, wi_RX8, wc_X8_keep⟩
theorem wv_X8_keep : Cond.instanceMethod yX8_keep ∈ wsL_law := u_r7 _ (List.mem_of_getElem? (i := 14) rfl)
theorem wl_X8_keep : Cond.selects RX8 yX8_keep yX8_keep ∈ wsL_law := u_r7 _ (List.mem_of_getElem? (i := 15) rfl)
theorem ev_X8_keep : u_mev yX8_keep cX8_keep 9 none 7 := ⟨e_X8_keep, wv_X8_keep, wl_X8_keep⟩
theorem wc_X8_part : Cond.code yX8_part cX8_part 4 (some .int) ∈ wsL_law := u_r29 _ (List.mem_of_getElem? (i := 12) rfl)
theorem e_X8_part : u_me yX8_part cX8_part 4 (some .int) 2 := ⟨⟨by decide, by decide, by decide +kernel⟩, wi_RX8, wc_X8_part⟩
theorem wv_X8_part : Cond.instanceMethod yX8_part ∈ wsL_law := u_r29 _ (List.mem_of_getElem? (i := 10) rfl)
theorem wl_X8_part : Cond.selects RX8 yX8_part yX8_part ∈ wsL_law := u_r29 _ (List.mem_of_getElem? (i := 11) rfl)
theorem ev_X8_part : u_mev yX8_part cX8_part 4 (some .int) 2 := ⟨e_X8_part, wv_X8_part, wl_X8_part⟩
theorem wi_RX9 : Cond.initialized RX9 ∈ wsL_law := u_r3 _ (List.mem_of_getElem? (i := 11) rfl)
theorem wc_X9_init : Cond.code yX9_init cX9_init 1 none ∈ wsL_law := u_r3 _ (List.mem_of_getElem? (i := 15) rfl)
theorem e_X9_init : u_me yX9_init cX9_init 1 none 0 := ⟨⟨by decide, by decide, by decide +kernel⟩, wi_RX9, wc_X9_init⟩
theorem wv_X9_init : Cond.instanceMethod yX9_init ∈ wsL_law := u_r3 _ (List.mem_of_getElem? (i := 14) rfl)
theorem wc_X9_height : Cond.code yX9_height cX9_height 3 (some .int) ∈ wsL_law := u_r19 _ (List.mem_of_getElem? (i := 2) rfl)
theorem e_X9_height : u_me yX9_height cX9_height 3 (some .int) 1 := ⟨⟨by decide, by decide, by decide +kernel⟩, wi_RX9, wc_X9_height⟩
theorem wv_X9_height : Cond.instanceMethod yX9_height ∈ wsL_law := u_r19 _ (List.mem_of_getElem? (i := 0) rfl)
theorem wl_X9_height : Cond.selects RX9 yX9_height yX9_height ∈ wsL_law := u_r19 _ (List.mem_of_getElem? (i := 1) rfl)
theorem ev_X9_height : u_mev yX9_height cX9_height 3 (some .int) 1 := ⟨e_X9_height, wv_X9_height, wl_X9_height⟩
theorem wi_RX10 : Cond.initialized RX10 ∈ wsL_law := u_r1 _ (List.mem_of_getElem? (i := 2) rfl)
theorem wc_X10_init : Cond.code yX10_init cX10_init 2 none ∈ wsL_law := u_r1 _ (List.mem_of_getElem? (i := 9) rfl)
theorem e_X10_init : u_me yX10_init cX10_init 2 none 0 := ⟨⟨by decide, by decide, by decide +kernel⟩, wi_RX10, wc_X10_init⟩
theorem wv_X10_init : Cond.instanceMethod yX10_init ∈ wsL_law := u_r1 _ (List.mem_of_getElem? (i := 8) rfl)
theorem wc_X10_turn : Cond.code yX10_turn cX10_turn 6 (some .int) ∈ wsL_law := u_r6 _ (List.mem_of_getElem? (i := 22) rfl)
theorem e_X10_turn : u_me yX10_turn cX10_turn 6 (some .int) 4 := ⟨⟨by decide, by decide, by decide +kernel⟩, wi_RX10, wc_X10_turn⟩
theorem wv_X10_turn : Cond.instanceMethod yX10_turn ∈ wsL_law := u_r6 _ (List.mem_of_getElem? (i := 20) rfl)
theorem wl_X10_turn : Cond.selects RX10 yX10_turn yX10_turn ∈ wsL_law := u_r6 _ (List.mem_of_getElem? (i := 21) rfl)
theorem ev_X10_turn : u_mev yX10_turn cX10_turn 6 (some .int) 4 := ⟨e_X10_turn, wv_X10_turn, wl_X10_turn⟩
theorem wc_X10_mean : Cond.code yX10_mean cX10_mean 3 (some .int) ∈ wsL_law := u_r12 _ (List.mem_of_getElem? (i := 0) rfl)
theorem e_X10_mean : u_me yX10_mean cX10_mean 3 (some .int) 1 := ⟨⟨by decide, by decide, by decide +kernel⟩, wi_RX10, wc_X10_mean⟩
theorem wv_X10_mean : Cond.instanceMethod yX10_mean ∈ wsL_law := u_r11 _ (List.mem_of_getElem? (i := 22) rfl)
theorem wl_X10_mean : Cond.selects RX10 yX10_mean yX10_mean ∈ wsL_law := u_r11 _ (List.mem_of_getElem? (i := 23) rfl)
theorem ev_X10_mean : u_mev yX10_mean cX10_mean 3 (some .int) 1 := ⟨e_X10_mean, wv_X10_mean, wl_X10_mean⟩
theorem wc_X10_surge : Cond.code yX10_surge cX10_surge 4 (some .int) ∈ wsL_law := u_r12 _ (List.mem_of_getElem? (i := 12) rfl)
theorem e_X10_surge : u_me yX10_surge cX10_surge 4 (some .int) 3 := ⟨⟨by decide, by decide, by decide +kernel⟩, wi_RX10, wc_X10_surge⟩
theorem wv_X10_surge : Cond.instanceMethod yX10_surge ∈ wsL_law := u_r12 _ (List.mem_of_getElem? (i := 10) rfl)
theorem wl_X10_surge : Cond.selects RX10 yX10_surge yX10_surge ∈ wsL_law := u_r12 _ (List.mem_of_getElem? (i := 11) rfl)
theorem ev_X10_surge : u_mev yX10_surge cX10_surge 4 (some .int) 3 := ⟨e_X10_surge, wv_X10_surge, wl_X10_surge⟩
theorem wc_X10_river : Cond.code yX10_river cX10_river 4 (some .int) ∈ wsL_law := u_r13 _ (List.mem_of_getElem? (i := 2) rfl)
theorem e_X10_river : u_me yX10_river cX10_river 4 (some .int) 2 := ⟨⟨by decide, by decide, by decide +kernel⟩, wi_RX10, wc_X10_river⟩
theorem wv_X10_river : Cond.instanceMethod yX10_river ∈ wsL_law := u_r13 _ (List.mem_of_getElem? (i := 0) rfl)
theorem wl_X10_river : Cond.selects RX10 yX10_river yX10_river ∈ wsL_law := u_r13 _ (List.mem_of_getElem? (i := 1) rfl)
theorem ev_X10_river : u_mev yX10_river cX10_river 4 (some .int) 2 := ⟨e_X10_river, wv_X10_river, wl_X10_river⟩
theorem wc_X10_barrier : Cond.code yX10_barrier cX10_barrier 4 (some .int) ∈ wsL_law := u_r13 _ (List.mem_of_getElem? (i := 16) rfl)
theorem e_X10_barrier : u_me yX10_barrier cX10_barrier 4 (some .int) 2 := ⟨⟨by decide, by decide, by decide +kernel⟩, wi_RX10, wc_X10_barrier⟩
theorem wv_X10_barrier : Cond.instanceMethod yX10_barrier ∈ wsL_law := u_r13 _ (List.mem_of_getElem? (i := 14) rfl)
theorem wl_X10_barrier : Cond.selects RX10 yX10_barrier yX10_barrier ∈ wsL_law := u_r13 _ (List.mem_of_getElem? (i := 15) rfl)
theorem ev_X10_barrier : u_mev yX10_barrier cX10_barrier 4 (some .int) 2 := ⟨e_X10_barrier, wv_X10_barrier, wl_X10_barrier⟩
theorem wc_X10_section : Cond.code yX10_section cX10_section 6 (some .int) ∈ wsL_law := u_r14 _ (List.mem_of_getElem? (i := 6) rfl)
theorem e_X10_section : u_me yX10_section cX10_section 6 (some .int) 4 := ⟨⟨by decide, by decide, by decide +kernel⟩, wi_RX10, wc_X10_section⟩
theorem wv_X10_section : Cond.instanceMethod yX10_section ∈ wsL_law := u_r14 _ (List.mem_of_getElem? (i := 4) rfl)
theorem wl_X10_section : Cond.selects RX10 yX10_section yX10_section ∈ wsL_law := u_r14 _ (List.mem_of_getElem? (i := 5) rfl)
theorem ev_X10_section : u_mev yX10_section cX10_section 6 (some .int) 4 := ⟨e_X10_section, wv_X10_section, wl_X10_section⟩
theorem wc_X10_intake : Cond.code yX10_intake cX10_intake 7 (some .int) ∈ wsL_law := u_r14 _ (List.mem_of_getElem? (i := 20) rfl)
theorem e_X10_intake : u_me yX10_intake cX10_intake 7 (some .int) 5 := ⟨⟨by decide, by decide, by decide +kernel⟩, wi_RX10, wc_X10_intake⟩
theorem wv_X10_intake : Cond.instanceMethod yX10_intake ∈ wsL_law := u_r14 _ (List.mem_of_getElem? (i := 18) rfl)
theorem wl_X10_intake : Cond.selects RX10 yX10_intake yX10_intake ∈ wsL_law := u_r14 _ (List.mem_of_getElem? (i := 19) rfl)
theorem ev_X10_intake : u_mev yX10_intake cX10_intake 7 (some .int) 5 := ⟨e_X10_intake, wv_X10_intake, wl_X10_intake⟩
theorem wc_X10_oysters : Cond.code yX10_oysters cX10_oysters 5 (some .int) ∈ wsL_law := u_r15 _ (List.mem_of_getElem? (i := 16) rfl)
theorem e_X10_oysters : u_me yX10_oysters cX10_oysters 5 (some .int) 3 := ⟨⟨by decide, by decide, by decide +kernel⟩, wi_RX10, wc_X10_oysters⟩
theorem wv_X10_oysters : Cond.instanceMethod yX10_oysters ∈ wsL_law := u_r15 _ (List.mem_of_getElem? (i := 14) rfl)
theorem wl_X10_oysters : Cond.selects RX10 yX10_oysters yX10_oysters ∈ wsL_law := u_r15 _ (List.mem_of_getElem? (i := 15) rfl)
theorem ev_X10_oysters : u_mev yX10_oysters cX10_oysters 5 (some .int) 3 := ⟨e_X10_oysters, wv_X10_oysters, wl_X10_oysters⟩
theorem wc_X10_permit : Cond.code yX10_permit cX10_permit 4 (some .int) ∈ wsL_law := u_r16 _ (List.mem_of_getElem? (i := 8) rfl)
theorem e_X10_permit : u_me yX10_permit cX10_permit 4 (some .int) 2 := ⟨⟨by decide, by decide, by decide +kernel⟩, wi_RX10, wc_X10_permit⟩
theorem wv_X10_permit : Cond.instanceMethod yX10_permit ∈ wsL_law := u_r16 _ (List.mem_of_getElem? (i := 6) rfl)
theorem wl_X10_permit : Cond.selects RX10 yX10_permit yX10_permit ∈ wsL_law := u_r16 _ (List.mem_of_getElem? (i := 7) rfl)
theorem ev_X10_permit : u_mev yX10_permit cX10_permit 4 (some .int) 2 := ⟨e_X10_permit, wv_X10_permit, wl_X10_permit⟩
theorem wc_X10_whyNot : Cond.code yX10_whyNot cX10_whyNot 3 (some .int) ∈ wsL_law := u_r16 _ (List.mem_of_getElem? (i := 21) rfl)
theorem e_X10_whyNot : u_me yX10_whyNot cX10_whyNot 3 (some .int) 2 := ⟨⟨by decide, by decide, by decide +kernel⟩, wi_RX10, wc_X10_whyNot⟩
theorem wv_X10_whyNot : Cond.instanceMethod yX10_whyNot ∈ wsL_law := u_r16 _ (List.mem_of_getElem? (i := 19) rfl)
theorem wl_X10_whyNot : Cond.selects RX10 yX10_whyNot yX10_whyNot ∈ wsL_law := u_r16 _ (List.mem_of_getElem? (i := 20) rfl)
theorem ev_X10_whyNot : u_mev yX10_whyNot cX10_whyNot 3 (some .int) 2 := ⟨e_X10_whyNot, wv_X10_whyNot, wl_X10_whyNot⟩
theorem wc_X10_dredge : Cond.code yX10_dredge cX10_dredge 4 (some .int) ∈ wsL_law := u_r17 _ (List.mem_of_getElem? (i := 16) rfl)
theorem e_X10_dredge : u_me yX10_dredge cX10_dredge 4 (some .int) 3 := ⟨⟨by decide, by decide, by decide +kernel⟩, wi_RX10, wc_X10_dredge⟩
theorem wv_X10_dredge : Cond.instanceMethod yX10_dredge ∈ wsL_law := u_r17 _ (List.mem_of_getElem? (i := 14) rfl)
theorem wl_X10_dredge : Cond.selects RX10 yX10_dredge yX10_dredge ∈ wsL_law := u_r17 _ (List.mem_of_getElem? (i := 15) rfl)
theorem ev_X10_dredge : u_mev yX10_dredge cX10_dredge 4 (some .int) 3 := ⟨e_X10_dredge, wv_X10_dredge, wl_X10_dredge⟩
theorem wc_X10_pass : Cond.code yX10_pass cX10_pass 2 (some .int) ∈ wsL_law := u_r18 _ (List.mem_of_getElem? (i := 3) rfl)
theorem e_X10_pass : u_me yX10_pass cX10_pass 2 (some .int) 1 := ⟨⟨by decide, by decide, by decide +kernel⟩, wi_RX10, wc_X10_pass⟩
theorem wv_X10_pass : Cond.instanceMethod yX10_pass ∈ wsL_law := u_r18 _ (List.mem_of_getElem? (i := 1) rfl)
theorem wl_X10_pass : Cond.selects RX10 yX10_pass yX10_pass ∈ wsL_law := u_r18 _ (List.mem_of_getElem? (i := 2) rfl)
theorem ev_X10_pass : u_mev yX10_pass cX10_pass 2 (some .int) 1 := ⟨e_X10_pass, wv_X10_pass, wl_X10_pass⟩
theorem wc_X10_now : Cond.code yX10_now cX10_now 1 (some .int) ∈ wsL_law := u_r27 _ (List.mem_of_getElem? (i := 0) rfl)
theorem e_X10_now : u_me yX10_now cX10_now 1 (some .int) 0 := ⟨⟨by decide, by decide, by decide +kernel⟩, wi_RX10, wc_X10_now⟩
theorem wv_X10_now : Cond.instanceMethod yX10_now ∈ wsL_law := u_r26 _ (List.mem_of_getElem? (i := 22) rfl)
theorem wl_X10_now : Cond.selects RX10 yX10_now yX10_now ∈ wsL_law := u_r26 _ (List.mem_of_getElem? (i := 23) rfl)
theorem ev_X10_now : u_mev yX10_now cX10_now 1 (some .int) 0 := ⟨e_X10_now, wv_X10_now, wl_X10_now⟩
theorem wc_X10_sea : Cond.code yX10_sea cX10_sea 2 (some .int) ∈ wsL_law := u_r27 _ (List.mem_of_getElem? (i := 11) rfl)
theorem e_X10_sea : u_me yX10_sea cX10_sea 2 (some .int) 1 := ⟨⟨by decide, by decide, by decide +kernel⟩, wi_RX10, wc_X10_sea⟩
theorem wv_X10_sea : Cond.instanceMethod yX10_sea ∈ wsL_law := u_r27 _ (List.mem_of_getElem? (i := 9) rfl)
theorem wl_X10_sea : Cond.selects RX10 yX10_sea yX10_sea ∈ wsL_law := u_r27 _ (List.mem_of_getElem? (i := 10) rfl)
theorem ev_X10_sea : u_mev yX10_sea cX10_sea 2 (some .int) 1 := ⟨e_X10_sea, wv_X10_sea, wl_X10_sea⟩
theorem wc_X10_ofSection : Cond.code yX10_ofSection cX10_ofSection 3 (some .int) ∈ wsL_law := u_r28 _ (List.mem_of_getElem? (i := 3) rfl)
theorem e_X10_ofSection : u_me yX10_ofSection cX10_ofSection 3 (some .int) 2 := ⟨⟨by decide, by decide, by decide +kernel⟩, wi_RX10, wc_X10_ofSection⟩
theorem wv_X10_ofSection : Cond.instanceMethod yX10_ofSection ∈ wsL_law := u_r28 _ (List.mem_of_getElem? (i := 1) rfl)
theorem wl_X10_ofSection : Cond.selects RX10 yX10_ofSection yX10_ofSection ∈ wsL_law := u_r28 _ (List.mem_of_getElem? (i := 2) rfl)
theorem ev_X10_ofSection : u_mev yX10_ofSection cX10_ofSection 3 (some .int) 2 := ⟨e_X10_ofSection, wv_X10_ofSection, wl_X10_ofSection⟩
theorem wc_X10_ofSectionAnew : Cond.code yX10_ofSectionAnew cX10_ofSectionAnew 4 (some .int) ∈ wsL_law := u_r28 _ (List.mem_of_getElem? (i := 19) rfl)
theorem e_X10_ofSectionAnew : u_me yX10_ofSectionAnew cX10_ofSectionAnew 4 (some .int) 2 := ⟨⟨by decide, by decide, by decide +kernel⟩, wi_RX10, wc_X10_ofSectionAnew⟩
theorem wv_X10_ofSectionAnew : Cond.instanceMethod yX10_ofSectionAnew ∈ wsL_law := u_r28 _ (List.mem_of_getElem? (i := 17) rfl)
theorem wl_X10_ofSectionAnew : Cond.selects RX10 yX10_ofSectionAnew yX10_ofSectionAnew ∈ wsL_law := u_r28 _ (List.mem_of_getElem? (i := 18) rfl)
theorem ev_X10_ofSectionAnew : u_mev yX10_ofSectionAnew cX10_ofSectionAnew 4 (some .int) 2 := ⟨e_X10_ofSectionAnew, wv_X10_ofSectionAnew, wl_X10_ofSectionAnew⟩
theorem wc_X10_ofIntake : Cond.code yX10_ofIntake cX10_ofIntake 3 (some .int) ∈ wsL_law := u_r30 _ (List.mem_of_getElem? (i := 0) rfl)
theorem e_X10_ofIntake : u_me yX10_ofIntake cX10_ofIntake 3 (some .int) 2 := ⟨⟨by decide, by decide, by decide +kernel⟩, wi_RX10, wc_X10_ofIntake⟩
theorem wv_X10_ofIntake : Cond.instanceMethod yX10_ofIntake ∈ wsL_law := u_r29 _ (List.mem_of_getElem? (i := 22) rfl)
theorem wl_X10_ofIntake : Cond.selects RX10 yX10_ofIntake yX10_ofIntake ∈ wsL_law := u_r29 _ (List.mem_of_getElem? (i := 23) rfl)
theorem ev_X10_ofIntake : u_mev yX10_ofIntake cX10_ofIntake 3 (some .int) 2 := ⟨e_X10_ofIntake, wv_X10_ofIntake, wl_X10_ofIntake⟩
theorem wc_X10_isClosed : Cond.code yX10_isClosed cX10_isClosed 3 (some .boolean) ∈ wsL_law := u_r30 _ (List.mem_of_getElem? (i := 16) rfl)
theorem e_X10_isClosed : u_me yX10_isClosed cX10_isClosed 3 (some .boolean) 1 := ⟨⟨by decide, by decide, by decide +kernel⟩, wi_RX10, wc_X10_isClosed⟩
theorem wv_X10_isClosed : Cond.instanceMethod yX10_isClosed ∈ wsL_law := u_r30 _ (List.mem_of_getElem? (i := 14) rfl)
theorem wl_X10_isClosed : Cond.selects RX10 yX10_isClosed yX10_isClosed ∈ wsL_law := u_r30 _ (List.mem_of_getElem? (i := 15) rfl)
theorem ev_X10_isClosed : u_mev yX10_isClosed cX10_isClosed 3 (some .boolean) 1 := ⟨e_X10_isClosed, wv_X10_isClosed, wl_X10_isClosed⟩
theorem wc_X10_closures : Cond.code yX10_closures cX10_closures 1 (some .int) ∈ wsL_law := u_r31 _ (List.mem_of_getElem? (i := 7) rfl)
theorem e_X10_closures : u_me yX10_closures cX10_closures 1 (some .int) 0 := ⟨⟨by decide, by decide, by decide +kernel⟩, wi_RX10, wc_X10_closures⟩
theorem wv_X10_closures : Cond.instanceMethod yX10_closures ∈ wsL_law := u_r31 _ (List.mem_of_getElem? (i := 5) rfl)
theorem wl_X10_closures : Cond.selects RX10 yX10_closures yX10_closures ∈ wsL_law := u_r31 _ (List.mem_of_getElem? (i := 6) rfl)
theorem ev_X10_closures : u_mev yX10_closures cX10_closures 1 (some .int) 0 := ⟨e_X10_closures, wv_X10_closures, wl_X10_closures⟩
theorem wc_X10_closure : Cond.code yX10_closure cX10_closure 3 (some .int) ∈ wsL_law := u_r31 _ (List.mem_of_getElem? (i := 19) rfl)
theorem e_X10_closure : u_me yX10_closure cX10_closure 3 (some .int) 2 := ⟨⟨by decide, by decide, by decide +kernel⟩, wi_RX10, wc_X10_closure⟩
theorem wv_X10_closure : Cond.instanceMethod yX10_closure ∈ wsL_law := u_r31 _ (List.mem_of_getElem? (i := 17) rfl)
theorem wl_X10_closure : Cond.selects RX10 yX10_closure yX10_closure ∈ wsL_law := u_r31 _ (List.mem_of_getElem? (i := 18) rfl)
theorem ev_X10_closure : u_mev yX10_closure cX10_closure 3 (some .int) 2 := ⟨e_X10_closure, wv_X10_closure, wl_X10_closure⟩
theorem wc_X10_intrusion : Cond.code yX10_intrusion cX10_intrusion 3 (some .int) ∈ wsL_law := u_r32 _ (List.mem_of_getElem? (i := 10) rfl)
theorem e_X10_intrusion : u_me yX10_intrusion cX10_intrusion 3 (some .int) 1 := ⟨⟨by decide, by decide, by decide +kernel⟩, wi_RX10, wc_X10_intrusion⟩
theorem wv_X10_intrusion : Cond.instanceMethod yX10_intrusion ∈ wsL_law := u_r32 _ (List.mem_of_getElem? (i := 8) rfl)
theorem wl_X10_intrusion : Cond.selects RX10 yX10_intrusion yX10_intrusion ∈ wsL_law := u_r32 _ (List.mem_of_getElem? (i := 9) rfl)
theorem ev_X10_intrusion : u_mev yX10_intrusion cX10_intrusion 3 (some .int) 1 := ⟨e_X10_intrusion, wv_X10_intrusion, wl_X10_intrusion⟩
theorem wc_X10_window : Cond.code yX10_window cX10_window 3 (some .int) ∈ wsL_law := u_r32 _ (List.mem_of_getElem? (i := 23) rfl)
theorem e_X10_window : u_me yX10_window cX10_window 3 (some .int) 2 := ⟨⟨by decide, by decide, by decide +kernel⟩, wi_RX10, wc_X10_window⟩
theorem wv_X10_window : Cond.instanceMethod yX10_window ∈ wsL_law := u_r32 _ (List.mem_of_getElem? (i := 21) rfl)
theorem wl_X10_window : Cond.selects RX10 yX10_window yX10_window ∈ wsL_law := u_r32 _ (List.mem_of_getElem? (i := 22) rfl)
theorem ev_X10_window : u_mev yX10_window cX10_window 3 (some .int) 2 := ⟨e_X10_window, wv_X10_window, wl_X10_window⟩
theorem wc_X10_sum : Cond.code yX10_sum cX10_sum 2 (some .long) ∈ wsL_law := u_r33 _ (List.mem_of_getElem? (i := 15) rfl)
theorem e_X10_sum : u_me yX10_sum cX10_sum 2 (some .long) 1 := ⟨⟨by decide, by decide, by decide +kernel⟩, wi_RX10, wc_X10_sum⟩
theorem wv_X10_sum : Cond.instanceMethod yX10_sum ∈ wsL_law := u_r33 _ (List.mem_of_getElem? (i := 13) rfl)
theorem wl_X10_sum : Cond.selects RX10 yX10_sum yX10_sum ∈ wsL_law := u_r33 _ (List.mem_of_getElem? (i := 14) rfl)
theorem ev_X10_sum : u_mev yX10_sum cX10_sum 2 (some .long) 1 := ⟨e_X10_sum, wv_X10_sum, wl_X10_sum⟩
theorem wc_X10_within : Cond.code yX10_within cX10_within 3 (some .boolean) ∈ wsL_law := u_r7 _ (List.mem_of_getElem? (i := 7) rfl)
theorem e_X10_within : u_me yX10_within cX10_within 3 (some .boolean) 3 := ⟨⟨by decide, by decide, by decide +kernel⟩, wi_RX10, wc_X10_within⟩
theorem ws_X10_within : Cond.static yX10_within ∈ wsL_law := u_r7 _ (List.mem_of_getElem? (i := 6) rfl)
theorem es_X10_within : u_mes yX10_within cX10_within 3 (some .boolean) 3 := ⟨e_X10_within, ws_X10_within⟩
theorem wc_X10_goesWith : Cond.code yX10_goesWith cX10_goesWith 3 (some .int) ∈ wsL_law := u_r20 _ (List.mem_of_getElem? (i := 22) rfl)
theorem e_X10_goesWith : u_me yX10_goesWith cX10_goesWith 3 (some .int) 3 := ⟨⟨by decide, by decide, by decide +kernel⟩, wi_RX10, wc_X10_goesWith⟩
theorem ws_X10_goesWith : Cond.static yX10_goesWith ∈ wsL_law := u_r20 _ (List.mem_of_getElem? (i := 21) rfl)
theorem es_X10_goesWith : u_mes yX10_goesWith cX10_goesWith 3 (some .int) 3 := ⟨e_X10_goesWith, ws_X10_goesWith⟩
theorem wc_X10_tell : Cond.code yX10_tell cX10_tell 7 none ∈ wsL_law := u_r7 _ (List.mem_of_getElem? (i := 11) rfl)
theorem e_X10_tell : u_me yX10_tell cX10_tell 7 none 6 := ⟨⟨by decide, by decide, by decide +kernel⟩, wi_RX10, wc_X10_tell⟩
theorem wv_X10_tell : Cond.instanceMethod yX10_tell ∈ wsL_law := u_r7 _ (List.mem_of_getElem? (i := 9) rfl)
theorem wl_X10_tell : Cond.selects RX10 yX10_tell yX10_tell ∈ wsL_law := u_r7 _ (List.mem_of_getElem? (i := 10) rfl)
theorem ev_X10_tell : u_mev yX10_tell cX10_tell 7 none 6 := ⟨e_X10_tell, wv_X10_tell, wl_X10_tell⟩
theorem wi_RJ9 : Cond.initialized RJ9 ∈ wsL_law := u_r23 _ (List.mem_of_getElem? (i := 16) rfl)
theorem wc_J9_floorMod_7cf53 : Cond.code yJ9_floorMod_7cf53 cJ9_floorMod_7cf53 3 (some .int) ∈ wsL_law := u_r23 _ (List.mem_of_getElem? (i := 17) rfl)
theorem e_J9_floorMod_7cf53 : u_me yJ9_floorMod_7cf53 cJ9_floorMod_7cf53 3 (some .int) 2 := ⟨⟨by decide, by decide, by decide +kernel⟩, wi_RJ9, wc_J9_floorMod_7cf53⟩
theorem ws_J9_floorMod_7cf53 : Cond.static yJ9_floorMod_7cf53 ∈ wsL_law := u_r23 _ (List.mem_of_getElem? (i := 15) rfl)
theorem es_J9_floorMod_7cf53 : u_mes yJ9_floorMod_7cf53 cJ9_floorMod_7cf53 3 (some .int) 2 := ⟨e_J9_floorMod_7cf53, ws_J9_floorMod_7cf53⟩
theorem ml_RX0_3 : Cond.methodLink RX0 3 objectInit ∈ wsL_law := u_r3 _ (List.mem_of_getElem? (i := 22) rfl)
theorem mf_RX0_9 : Cond.fieldLink RX0 9 "Saltwedge$Barrier" "first" "[I" ∈ wsL_law := u_r3 _ (List.mem_of_getElem? (i := 23) rfl)
theorem pX0_init_10 : u_pf cX0_init RX0 10 0 0 true (.array (.int)) := ⟨9, RX0, TX0, 7, tyX0, dX0_init_10, rfl, inlX0, tyX0_ok, nmX0, by decide, mf_RX0_9, by decide, by decide, rfl, by decide +kernel, fun h => rfl⟩
theorem mf_RX0_15 : Cond.fieldLink RX0 15 "Saltwedge$Barrier" "last" "[I" ∈ wsL_law := u_r4 _ (List.mem_of_getElem? (i := 0) rfl)
theorem pX0_init_19 : u_pf cX0_init RX0 19 0 1 true (.array (.int)) := ⟨15, RX0, TX0, 7, tyX0, dX0_init_19, rfl, inlX0, tyX0_ok, nmX0, by decide, mf_RX0_15, by decide, by decide, rfl, by decide +kernel, fun h => rfl⟩
theorem mf_RX0_18 : Cond.fieldLink RX0 18 "Saltwedge$Barrier" "right" "[Z" ∈ wsL_law := u_r4 _ (List.mem_of_getElem? (i := 2) rfl)
theorem pX0_init_28 : u_pf cX0_init RX0 28 0 2 true (.array (.boolean)) := ⟨18, RX0, TX0, 7, tyX0, dX0_init_28, rfl, inlX0, tyX0_ok, nmX0, by decide, mf_RX0_18, by decide, by decide, rfl, by decide +kernel, fun h => rfl⟩
theorem mf_RX0_22 : Cond.fieldLink RX0 22 "Saltwedge$Barrier" "mark" "I" ∈ wsL_law := u_r4 _ (List.mem_of_getElem? (i := 3) rfl)
theorem pX0_init_33 : u_pf cX0_init RX0 33 0 4 false (.int) := ⟨22, RX0, TX0, 7, tyX0, dX0_init_33, rfl, inlX0, tyX0_ok, nmX0, by decide, mf_RX0_22, by decide, by decide, rfl, by decide +kernel, fun h => nomatch h⟩
theorem mf_RX0_26 : Cond.fieldLink RX0 26 "Saltwedge$Barrier" "closureCount" "I" ∈ wsL_law := u_r19 _ (List.mem_of_getElem? (i := 13) rfl)
theorem pX0_begin_2 : u_pf cX0_begin RX0 2 0 3 false (.int) := ⟨26, RX0, TX0, 7, tyX0, dX0_begin_2, rfl, inlX0, tyX0_ok, nmX0, by decide, mf_RX0_26, by decide, by decide, rfl, by decide +kernel, fun h => nomatch h⟩
theorem pX0_begin_7 : u_pf cX0_begin RX0 7 0 4 false (.int) := ⟨22, RX0, TX0, 7, tyX0, dX0_begin_7, rfl, inlX0, tyX0_ok, nmX0, by decide, mf_RX0_22, by decide, by decide, rfl, by decide +kernel, fun h => nomatch h⟩
theorem mf_RX0_29 : Cond.fieldLink RX0 29 "Saltwedge$Barrier" "lead" "I" ∈ wsL_law := u_r19 _ (List.mem_of_getElem? (i := 12) rfl)
theorem pX0_begin_12 : u_pf cX0_begin RX0 12 0 5 false (.int) := ⟨29, RX0, TX0, 7, tyX0, dX0_begin_12, rfl, inlX0, tyX0_ok, nmX0, by decide, mf_RX0_29, by decide, by decide, rfl, by decide +kernel, fun h => nomatch h⟩
theorem mf_RX0_32 : Cond.fieldLink RX0 32 "Saltwedge$Barrier" "closed" "Z" ∈ wsL_law := u_r19 _ (List.mem_of_getElem? (i := 11) rfl)
theorem pX0_begin_17 : u_pf cX0_begin RX0 17 0 6 false (.boolean) := ⟨32, RX0, TX0, 7, tyX0, dX0_begin_17, rfl, inlX0, tyX0_ok, nmX0, by decide, mf_RX0_32, by decide, by decide, rfl, by decide +kernel, fun h => nomatch h⟩
theorem gX0_look_1 : u_gf cX0_look RX0 1 0 6 := ⟨32, RX0, TX0, 7, dX0_look_1, rfl, inlX0, by decide, mf_RX0_32, by decide, by decide⟩
theorem gX0_look_7 : u_gf cX0_look RX0 7 0 4 := ⟨22, RX0, TX0, 7, dX0_look_7, rfl, inlX0, by decide, mf_RX0_22, by decide, by decide⟩
theorem gX0_look_16 : u_gf cX0_look RX0 16 0 4 := ⟨22, RX0, TX0, 7, dX0_look_16, rfl, inlX0, by decide, mf_RX0_22, by decide, by decide⟩
theorem gX0_look_22 : u_gf cX0_look RX0 22 0 5 := ⟨29, RX0, TX0, 7, dX0_look_22, rfl, inlX0, by decide, mf_RX0_29, by decide, by decide⟩
theorem ml_RX0_36 : Cond.methodLink RX0 36 yX5_foretoldAbove ∈ wsL_law := u_r19 _ (List.mem_of_getElem? (i := 14) rfl)
theorem pX0_look_37 : u_pf cX0_look RX0 37 0 6 false (.boolean) := ⟨32, RX0, TX0, 7, tyX0, dX0_look_37, rfl, inlX0, tyX0_ok, nmX0, by decide, mf_RX0_32, by decide, by decide, rfl, by decide +kernel, fun h => nomatch h⟩
theorem gX0_look_41 : u_gf cX0_look RX0 41 0 6 := ⟨32, RX0, TX0, 7, dX0_look_41, rfl, inlX0, by decide, mf_RX0_32, by decide, by decide⟩
theorem gX0_look_53 : u_gf cX0_look RX0 53 0 3 := ⟨26, RX0, TX0, 7, dX0_look_53, rfl, inlX0, by decide, mf_RX0_26, by decide, by decide⟩
theorem gX0_look_57 : u_gf cX0_look RX0 57 0 0 := ⟨9, RX0, TX0, 7, dX0_look_57, rfl, inlX0, by decide, mf_RX0_9, by decide, by decide⟩
theorem gX0_look_65 : u_gf cX0_look RX0 65 0 0 := ⟨9, RX0, TX0, 7, dX0_look_65, rfl, inlX0, by decide, mf_RX0_9, by decide, by decide⟩
theorem gX0_look_69 : u_gf cX0_look RX0 69 0 3 := ⟨26, RX0, TX0, 7, dX0_look_69, rfl, inlX0, by decide, mf_RX0_26, by decide, by decide⟩
theorem gX0_look_75 : u_gf cX0_look RX0 75 0 2 := ⟨18, RX0, TX0, 7, dX0_look_75, rfl, inlX0, by decide, mf_RX0_18, by decide, by decide⟩
theorem gX0_look_79 : u_gf cX0_look RX0 79 0 3 := ⟨26, RX0, TX0, 7, dX0_look_79, rfl, inlX0, by decide, mf_RX0_26, by decide, by decide⟩
theorem gX0_look_86 : u_gf cX0_look RX0 86 0 3 := ⟨26, RX0, TX0, 7, dX0_look_86, rfl, inlX0, by decide, mf_RX0_26, by decide, by decide⟩
theorem pX0_look_91 : u_pf cX0_look RX0 91 0 3 false (.int) := ⟨26, RX0, TX0, 7, tyX0, dX0_look_91, rfl, inlX0, tyX0_ok, nmX0, by decide, mf_RX0_26, by decide, by decide, rfl, by decide +kernel, fun h => nomatch h⟩
theorem gX0_look_95 : u_gf cX0_look RX0 95 0 3 := ⟨26, RX0, TX0, 7, dX0_look_95, rfl, inlX0, by decide, mf_RX0_26, by decide, by decide⟩
theorem gX0_look_108 : u_gf cX0_look RX0 108 0 1 := ⟨15, RX0, TX0, 7, dX0_look_108, rfl, inlX0, by decide, mf_RX0_15, by decide, by decide⟩
theorem gX0_look_116 : u_gf cX0_look RX0 116 0 2 := ⟨18, RX0, TX0, 7, dX0_look_116, rfl, inlX0, by decide, mf_RX0_18, by decide, by decide⟩
theorem gX0_look_122 : u_gf cX0_look RX0 122 0 2 := ⟨18, RX0, TX0, 7, dX0_look_122, rfl, inlX0, by decide, mf_RX0_18, by decide, by decide⟩
theorem ml_RX0_42 : Cond.methodLink RX0 42 yX5_foretold ∈ wsL_law := u_r19 _ (List.mem_of_getElem? (i := 19) rfl)
theorem gX0_look_137 : u_gf cX0_look RX0 137 0 4 := ⟨22, RX0, TX0, 7, dX0_look_137, rfl, inlX0, by decide, mf_RX0_22, by decide, by decide⟩
theorem gX0_answer_29 : u_gf cX0_answer RX0 29 0 0 := ⟨9, RX0, TX0, 7, dX0_answer_29, rfl, inlX0, by decide, mf_RX0_9, by decide, by decide⟩
theorem gX0_answer_36 : u_gf cX0_answer RX0 36 0 1 := ⟨15, RX0, TX0, 7, dX0_answer_36, rfl, inlX0, by decide, mf_RX0_15, by decide, by decide⟩
theorem gX0_answer_43 : u_gf cX0_answer RX0 43 0 2 := ⟨18, RX0, TX0, 7, dX0_answer_43, rfl, inlX0, by decide, mf_RX0_18, by decide, by decide⟩
theorem ml_RX1_3 : Cond.methodLink RX1 3 objectInit ∈ wsL_law := u_r4 _ (List.mem_of_getElem? (i := 19) rfl)
theorem mf_RX1_9 : Cond.fieldLink RX1 9 "Saltwedge$Intake" "section" "I" ∈ wsL_law := u_r10 _ (List.mem_of_getElem? (i := 0) rfl)
theorem pX1_begin_2 : u_pf cX1_begin RX1 2 1 0 false (.int) := ⟨9, RX1, TX1, 10, tyX1, dX1_begin_2, rfl, inlX1, tyX1_ok, nmX1, by decide, mf_RX1_9, by decide, by decide, rfl, by decide +kernel, fun h => nomatch h⟩
theorem mf_RX1_15 : Cond.fieldLink RX1 15 "Saltwedge$Intake" "rate" "I" ∈ wsL_law := u_r10 _ (List.mem_of_getElem? (i := 1) rfl)
theorem pX1_begin_7 : u_pf cX1_begin RX1 7 1 1 false (.int) := ⟨15, RX1, TX1, 10, tyX1, dX1_begin_7, rfl, inlX1, tyX1_ok, nmX1, by decide, mf_RX1_15, by decide, by decide, rfl, by decide +kernel, fun h => nomatch h⟩
theorem mf_RX1_18 : Cond.fieldLink RX1 18 "Saltwedge$Intake" "grain" "I" ∈ wsL_law := u_r10 _ (List.mem_of_getElem? (i := 2) rfl)
theorem pX1_begin_12 : u_pf cX1_begin RX1 12 1 2 false (.int) := ⟨18, RX1, TX1, 10, tyX1, dX1_begin_12, rfl, inlX1, tyX1_ok, nmX1, by decide, mf_RX1_18, by decide, by decide, rfl, by decide +kernel, fun h => nomatch h⟩
theorem mf_RX1_21 : Cond.fieldLink RX1 21 "Saltwedge$Intake" "room" "I" ∈ wsL_law := u_r10 _ (List.mem_of_getElem? (i := 3) rfl)
theorem pX1_begin_18 : u_pf cX1_begin RX1 18 1 3 false (.int) := ⟨21, RX1, TX1, 10, tyX1, dX1_begin_18, rfl, inlX1, tyX1_ok, nmX1, by decide, mf_RX1_21, by decide, by decide, rfl, by decide +kernel, fun h => nomatch h⟩
theorem mf_RX1_24 : Cond.fieldLink RX1 24 "Saltwedge$Intake" "use" "I" ∈ wsL_law := u_r10 _ (List.mem_of_getElem? (i := 4) rfl)
theorem pX1_begin_24 : u_pf cX1_begin RX1 24 1 4 false (.int) := ⟨24, RX1, TX1, 10, tyX1, dX1_begin_24, rfl, inlX1, tyX1_ok, nmX1, by decide, mf_RX1_24, by decide, by decide, rfl, by decide +kernel, fun h => nomatch h⟩
theorem mf_RX1_27 : Cond.fieldLink RX1 27 "Saltwedge$Intake" "held" "I" ∈ wsL_law := u_r10 _ (List.mem_of_getElem? (i := 5) rfl)
theorem pX1_begin_29 : u_pf cX1_begin RX1 29 1 5 false (.int) := ⟨27, RX1, TX1, 10, tyX1, dX1_begin_29, rfl, inlX1, tyX1_ok, nmX1, by decide, mf_RX1_27, by decide, by decide, rfl, by decide +kernel, fun h => nomatch h⟩
theorem mf_RX1_30 : Cond.fieldLink RX1 30 "Saltwedge$Intake" "taken" "I" ∈ wsL_law := u_r10 _ (List.mem_of_getElem? (i := 6) rfl)
theorem pX1_begin_34 : u_pf cX1_begin RX1 34 1 6 false (.int) := ⟨30, RX1, TX1, 10, tyX1, dX1_begin_34, rfl, inlX1, tyX1_ok, nmX1, by decide, mf_RX1_30, by decide, by decide, rfl, by decide +kernel, fun h => nomatch h⟩
theorem mf_RX1_33 : Cond.fieldLink RX1 33 "Saltwedge$Intake" "lacking" "I" ∈ wsL_law := u_r10 _ (List.mem_of_getElem? (i := 7) rfl)
theorem pX1_begin_39 : u_pf cX1_begin RX1 39 1 7 false (.int) := ⟨33, RX1, TX1, 10, tyX1, dX1_begin_39, rfl, inlX1, tyX1_ok, nmX1, by decide, mf_RX1_33, by decide, by decide, rfl, by decide +kernel, fun h => nomatch h⟩
theorem mf_RX1_36 : Cond.fieldLink RX1 36 "Saltwedge$Intake" "stoppedHours" "I" ∈ wsL_law := u_r10 _ (List.mem_of_getElem? (i := 8) rfl)
theorem pX1_begin_44 : u_pf cX1_begin RX1 44 1 8 false (.int) := ⟨36, RX1, TX1, 10, tyX1, dX1_begin_44, rfl, inlX1, tyX1_ok, nmX1, by decide, mf_RX1_36, by decide, by decide, rfl, by decide +kernel, fun h => nomatch h⟩
theorem mf_RX1_39 : Cond.fieldLink RX1 39 "Saltwedge$Intake" "stopped" "Z" ∈ wsL_law := u_r10 _ (List.mem_of_getElem? (i := 9) rfl)
theorem pX1_begin_49 : u_pf cX1_begin RX1 49 1 9 false (.boolean) := ⟨39, RX1, TX1, 10, tyX1, dX1_begin_49, rfl, inlX1, tyX1_ok, nmX1, by decide, mf_RX1_39, by decide, by decide, rfl, by decide +kernel, fun h => nomatch h⟩
theorem mf_RX1_43 : Cond.fieldLink RX1 43 "Saltwedge$Layer" "water" "I" ∈ wsL_law := u_r23 _ (List.mem_of_getElem? (i := 2) rfl)
theorem gX1_take_2 : u_gf cX1_take RX1 2 2 0 := ⟨43, RX2, TX2, 2, dX1_take_2, rfl, inlX2, by decide, mf_RX1_43, by decide, by decide⟩
theorem ml_RX1_48 : Cond.methodLink RX1 48 yX2_salinity ∈ wsL_law := u_r23 _ (List.mem_of_getElem? (i := 4) rfl)
theorem gX1_take_13 : u_gf cX1_take RX1 13 1 2 := ⟨18, RX1, TX1, 10, dX1_take_13, rfl, inlX1, by decide, mf_RX1_18, by decide, by decide⟩
theorem pX1_take_24 : u_pf cX1_take RX1 24 1 9 false (.boolean) := ⟨39, RX1, TX1, 10, tyX1, dX1_take_24, rfl, inlX1, tyX1_ok, nmX1, by decide, mf_RX1_39, by decide, by decide, rfl, by decide +kernel, fun h => nomatch h⟩
theorem gX1_take_28 : u_gf cX1_take RX1 28 1 9 := ⟨39, RX1, TX1, 10, dX1_take_28, rfl, inlX1, by decide, mf_RX1_39, by decide, by decide⟩
theorem gX1_take_36 : u_gf cX1_take RX1 36 1 8 := ⟨36, RX1, TX1, 10, dX1_take_36, rfl, inlX1, by decide, mf_RX1_36, by decide, by decide⟩
theorem pX1_take_41 : u_pf cX1_take RX1 41 1 8 false (.int) := ⟨36, RX1, TX1, 10, tyX1, dX1_take_41, rfl, inlX1, tyX1_ok, nmX1, by decide, mf_RX1_36, by decide, by decide, rfl, by decide +kernel, fun h => nomatch h⟩
theorem gX1_take_46 : u_gf cX1_take RX1 46 1 1 := ⟨15, RX1, TX1, 10, dX1_take_46, rfl, inlX1, by decide, mf_RX1_15, by decide, by decide⟩
theorem gX1_take_50 : u_gf cX1_take RX1 50 2 0 := ⟨43, RX2, TX2, 2, dX1_take_50, rfl, inlX2, by decide, mf_RX1_43, by decide, by decide⟩
theorem ml_RX1_52 : Cond.methodLink RX1 52 Lib.Math.min.name ∈ wsL_law := u_r23 _ (List.mem_of_getElem? (i := 3) rfl)
theorem gX1_take_57 : u_gf cX1_take RX1 57 1 3 := ⟨21, RX1, TX1, 10, dX1_take_57, rfl, inlX1, by decide, mf_RX1_21, by decide, by decide⟩
theorem gX1_take_61 : u_gf cX1_take RX1 61 1 5 := ⟨27, RX1, TX1, 10, dX1_take_61, rfl, inlX1, by decide, mf_RX1_27, by decide, by decide⟩
theorem ml_RX1_58 : Cond.methodLink RX1 58 yX2_giveOut ∈ wsL_law := u_r23 _ (List.mem_of_getElem? (i := 5) rfl)
theorem gX1_take_78 : u_gf cX1_take RX1 78 1 5 := ⟨27, RX1, TX1, 10, dX1_take_78, rfl, inlX1, by decide, mf_RX1_27, by decide, by decide⟩
theorem pX1_take_83 : u_pf cX1_take RX1 83 1 5 false (.int) := ⟨27, RX1, TX1, 10, tyX1, dX1_take_83, rfl, inlX1, tyX1_ok, nmX1, by decide, mf_RX1_27, by decide, by decide, rfl, by decide +kernel, fun h => nomatch h⟩
theorem gX1_take_88 : u_gf cX1_take RX1 88 1 6 := ⟨30, RX1, TX1, 10, dX1_take_88, rfl, inlX1, by decide, mf_RX1_30, by decide, by decide⟩
theorem pX1_take_93 : u_pf cX1_take RX1 93 1 6 false (.int) := ⟨30, RX1, TX1, 10, tyX1, dX1_take_93, rfl, inlX1, tyX1_ok, nmX1, by decide, mf_RX1_30, by decide, by decide, rfl, by decide +kernel, fun h => nomatch h⟩
theorem gX1_supply_1 : u_gf cX1_supply RX1 1 1 4 := ⟨24, RX1, TX1, 10, dX1_supply_1, rfl, inlX1, by decide, mf_RX1_24, by decide, by decide⟩
theorem gX1_supply_5 : u_gf cX1_supply RX1 5 1 5 := ⟨27, RX1, TX1, 10, dX1_supply_5, rfl, inlX1, by decide, mf_RX1_27, by decide, by decide⟩
theorem gX1_supply_14 : u_gf cX1_supply RX1 14 1 5 := ⟨27, RX1, TX1, 10, dX1_supply_14, rfl, inlX1, by decide, mf_RX1_27, by decide, by decide⟩
theorem pX1_supply_19 : u_pf cX1_supply RX1 19 1 5 false (.int) := ⟨27, RX1, TX1, 10, tyX1, dX1_supply_19, rfl, inlX1, tyX1_ok, nmX1, by decide, mf_RX1_27, by decide, by decide, rfl, by decide +kernel, fun h => nomatch h⟩
theorem gX1_supply_24 : u_gf cX1_supply RX1 24 1 7 := ⟨33, RX1, TX1, 10, dX1_supply_24, rfl, inlX1, by decide, mf_RX1_33, by decide, by decide⟩
theorem gX1_supply_28 : u_gf cX1_supply RX1 28 1 4 := ⟨24, RX1, TX1, 10, dX1_supply_28, rfl, inlX1, by decide, mf_RX1_24, by decide, by decide⟩
theorem pX1_supply_34 : u_pf cX1_supply RX1 34 1 7 false (.int) := ⟨33, RX1, TX1, 10, tyX1, dX1_supply_34, rfl, inlX1, tyX1_ok, nmX1, by decide, mf_RX1_33, by decide, by decide, rfl, by decide +kernel, fun h => nomatch h⟩
theorem gX1_answer_33 : u_gf cX1_answer RX1 33 1 5 := ⟨27, RX1, TX1, 10, dX1_answer_33, rfl, inlX1, by decide, mf_RX1_27, by decide, by decide⟩
theorem gX1_answer_38 : u_gf cX1_answer RX1 38 1 6 := ⟨30, RX1, TX1, 10, dX1_answer_38, rfl, inlX1, by decide, mf_RX1_30, by decide, by decide⟩
theorem gX1_answer_43 : u_gf cX1_answer RX1 43 1 7 := ⟨33, RX1, TX1, 10, dX1_answer_43, rfl, inlX1, by decide, mf_RX1_33, by decide, by decide⟩
theorem gX1_answer_48 : u_gf cX1_answer RX1 48 1 9 := ⟨39, RX1, TX1, 10, dX1_answer_48, rfl, inlX1, by decide, mf_RX1_39, by decide, by decide⟩
theorem gX1_answer_61 : u_gf cX1_answer RX1 61 1 8 := ⟨36, RX1, TX1, 10, dX1_answer_61, rfl, inlX1, by decide, mf_RX1_36, by decide, by decide⟩
theorem ml_RX2_1 : Cond.methodLink RX2 1 objectInit ∈ wsL_law := u_r4 _ (List.mem_of_getElem? (i := 16) rfl)
theorem mf_RX2_7 : Cond.fieldLink RX2 7 "Saltwedge$Layer" "water" "I" ∈ wsL_law := u_r9 _ (List.mem_of_getElem? (i := 13) rfl)
theorem pX2_begin_2 : u_pf cX2_begin RX2 2 2 0 false (.int) := ⟨7, RX2, TX2, 2, tyX2, dX2_begin_2, rfl, inlX2, tyX2_ok, nmX2, by decide, mf_RX2_7, by decide, by decide, rfl, by decide +kernel, fun h => nomatch h⟩
theorem mf_RX2_13 : Cond.fieldLink RX2 13 "Saltwedge$Layer" "salt" "I" ∈ wsL_law := u_r9 _ (List.mem_of_getElem? (i := 14) rfl)
theorem pX2_begin_7 : u_pf cX2_begin RX2 7 2 1 false (.int) := ⟨13, RX2, TX2, 2, tyX2, dX2_begin_7, rfl, inlX2, tyX2_ok, nmX2, by decide, mf_RX2_13, by decide, by decide, rfl, by decide +kernel, fun h => nomatch h⟩
theorem gX2_salinity_1 : u_gf cX2_salinity RX2 1 2 0 := ⟨7, RX2, TX2, 2, dX2_salinity_1, rfl, inlX2, by decide, mf_RX2_7, by decide, by decide⟩
theorem gX2_salinity_12 : u_gf cX2_salinity RX2 12 2 1 := ⟨13, RX2, TX2, 2, dX2_salinity_12, rfl, inlX2, by decide, mf_RX2_13, by decide, by decide⟩
theorem gX2_salinity_16 : u_gf cX2_salinity RX2 16 2 0 := ⟨7, RX2, TX2, 2, dX2_salinity_16, rfl, inlX2, by decide, mf_RX2_7, by decide, by decide⟩
theorem gX2_saltWith_2 : u_gf cX2_saltWith RX2 2 2 1 := ⟨13, RX2, TX2, 2, dX2_saltWith_2, rfl, inlX2, by decide, mf_RX2_13, by decide, by decide⟩
theorem gX2_saltWith_6 : u_gf cX2_saltWith RX2 6 2 0 := ⟨7, RX2, TX2, 2, dX2_saltWith_6, rfl, inlX2, by decide, mf_RX2_7, by decide, by decide⟩
theorem gX2_giveOut_2 : u_gf cX2_giveOut RX2 2 2 1 := ⟨13, RX2, TX2, 2, dX2_giveOut_2, rfl, inlX2, by decide, mf_RX2_13, by decide, by decide⟩
theorem gX2_giveOut_6 : u_gf cX2_giveOut RX2 6 2 0 := ⟨7, RX2, TX2, 2, dX2_giveOut_6, rfl, inlX2, by decide, mf_RX2_7, by decide, by decide⟩
theorem gX2_giveOut_15 : u_gf cX2_giveOut RX2 15 2 0 := ⟨7, RX2, TX2, 2, dX2_giveOut_15, rfl, inlX2, by decide, mf_RX2_7, by decide, by decide⟩
theorem pX2_giveOut_20 : u_pf cX2_giveOut RX2 20 2 0 false (.int) := ⟨7, RX2, TX2, 2, tyX2, dX2_giveOut_20, rfl, inlX2, tyX2_ok, nmX2, by decide, mf_RX2_7, by decide, by decide, rfl, by decide +kernel, fun h => nomatch h⟩
theorem gX2_giveOut_25 : u_gf cX2_giveOut RX2 25 2 1 := ⟨13, RX2, TX2, 2, dX2_giveOut_25, rfl, inlX2, by decide, mf_RX2_13, by decide, by decide⟩
theorem pX2_giveOut_30 : u_pf cX2_giveOut RX2 30 2 1 false (.int) := ⟨13, RX2, TX2, 2, tyX2, dX2_giveOut_30, rfl, inlX2, tyX2_ok, nmX2, by decide, mf_RX2_13, by decide, by decide, rfl, by decide +kernel, fun h => nomatch h⟩
theorem gX2_takeIn_2 : u_gf cX2_takeIn RX2 2 2 0 := ⟨7, RX2, TX2, 2, dX2_takeIn_2, rfl, inlX2, by decide, mf_RX2_7, by decide, by decide⟩
theorem pX2_takeIn_7 : u_pf cX2_takeIn RX2 7 2 0 false (.int) := ⟨7, RX2, TX2, 2, tyX2, dX2_takeIn_7, rfl, inlX2, tyX2_ok, nmX2, by decide, mf_RX2_7, by decide, by decide, rfl, by decide +kernel, fun h => nomatch h⟩
theorem gX2_takeIn_12 : u_gf cX2_takeIn RX2 12 2 1 := ⟨13, RX2, TX2, 2, dX2_takeIn_12, rfl, inlX2, by decide, mf_RX2_13, by decide, by decide⟩
theorem pX2_takeIn_17 : u_pf cX2_takeIn RX2 17 2 1 false (.int) := ⟨13, RX2, TX2, 2, tyX2, dX2_takeIn_17, rfl, inlX2, tyX2_ok, nmX2, by decide, mf_RX2_13, by decide, by decide, rfl, by decide +kernel, fun h => nomatch h⟩
theorem ml_RX3_3 : Cond.methodLink RX3 3 objectInit ∈ wsL_law := u_r2 _ (List.mem_of_getElem? (i := 5) rfl)
theorem ml_RX3_11 : Cond.methodLink RX3 11 yX5_init ∈ wsL_law := u_r2 _ (List.mem_of_getElem? (i := 23) rfl)
theorem mf_RX3_12 : Cond.fieldLink RX3 12 "Saltwedge$Mouth" "sea" "LSaltwedge$Sea;" ∈ wsL_law := u_r2 _ (List.mem_of_getElem? (i := 9) rfl)
theorem pX3_init_12 : u_pf cX3_init RX3 12 3 0 true (.object "Saltwedge$Sea") := ⟨12, RX3, TX3, 10, tyX3, dX3_init_12, rfl, inlX3, tyX3_ok, nmX3, by decide, mf_RX3_12, by decide, by decide, rfl, by decide +kernel, fun h => rfl⟩
theorem mf_RX3_21 : Cond.fieldLink RX3 21 "Saltwedge$Mouth" "barrier" "LSaltwedge$Barrier;" ∈ wsL_law := u_r2 _ (List.mem_of_getElem? (i := 13) rfl)
theorem pX3_init_23 : u_pf cX3_init RX3 23 3 1 true (.object "Saltwedge$Barrier") := ⟨21, RX3, TX3, 10, tyX3, dX3_init_23, rfl, inlX3, tyX3_ok, nmX3, by decide, mf_RX3_21, by decide, by decide, rfl, by decide +kernel, fun h => rfl⟩
theorem mf_RX3_27 : Cond.fieldLink RX3 27 "Saltwedge$Mouth" "sections" "[LSaltwedge$Section;" ∈ wsL_law := u_r2 _ (List.mem_of_getElem? (i := 15) rfl)
theorem pX3_init_32 : u_pf cX3_init RX3 32 3 2 true (.array (.object "Saltwedge$Section")) := ⟨27, RX3, TX3, 10, tyX3, dX3_init_32, rfl, inlX3, tyX3_ok, nmX3, by decide, mf_RX3_27, by decide, by decide, rfl, by decide +kernel, fun h => rfl⟩
theorem mf_RX3_33 : Cond.fieldLink RX3 33 "Saltwedge$Mouth" "intakes" "[LSaltwedge$Intake;" ∈ wsL_law := u_r2 _ (List.mem_of_getElem? (i := 17) rfl)
theorem pX3_init_41 : u_pf cX3_init RX3 41 3 3 true (.array (.object "Saltwedge$Intake")) := ⟨33, RX3, TX3, 10, tyX3, dX3_init_41, rfl, inlX3, tyX3_ok, nmX3, by decide, mf_RX3_33, by decide, by decide, rfl, by decide +kernel, fun h => rfl⟩
theorem mf_RX3_37 : Cond.fieldLink RX3 37 "Saltwedge$Mouth" "sums" "[J" ∈ wsL_law := u_r2 _ (List.mem_of_getElem? (i := 18) rfl)
theorem pX3_init_49 : u_pf cX3_init RX3 49 3 4 true (.array (.long)) := ⟨37, RX3, TX3, 10, tyX3, dX3_init_49, rfl, inlX3, tyX3_ok, nmX3, by decide, mf_RX3_37, by decide, by decide, rfl, by decide +kernel, fun h => rfl⟩
theorem gX3_init_56 : u_gf cX3_init RX3 56 3 2 := ⟨27, RX3, TX3, 10, dX3_init_56, rfl, inlX3, by decide, mf_RX3_27, by decide, by decide⟩
theorem gX3_init_64 : u_gf cX3_init RX3 64 3 2 := ⟨27, RX3, TX3, 10, dX3_init_64, rfl, inlX3, by decide, mf_RX3_27, by decide, by decide⟩
theorem gX3_init_86 : u_gf cX3_init RX3 86 3 3 := ⟨33, RX3, TX3, 10, dX3_init_86, rfl, inlX3, by decide, mf_RX3_33, by decide, by decide⟩
theorem gX3_init_94 : u_gf cX3_init RX3 94 3 3 := ⟨33, RX3, TX3, 10, dX3_init_94, rfl, inlX3, by decide, mf_RX3_33, by decide, by decide⟩
theorem gX3_begin_1 : u_gf cX3_begin RX3 1 3 0 := ⟨12, RX3, TX3, 10, dX3_begin_1, rfl, inlX3, by decide, mf_RX3_12, by decide, by decide⟩
theorem ml_RX3_43 : Cond.methodLink RX3 43 yX5_begin ∈ wsL_law := u_r29 _ (List.mem_of_getElem? (i := 1) rfl)
theorem gX3_begin_8 : u_gf cX3_begin RX3 8 3 1 := ⟨21, RX3, TX3, 10, dX3_begin_8, rfl, inlX3, by decide, mf_RX3_21, by decide, by decide⟩
theorem ml_RX3_46 : Cond.methodLink RX3 46 yX0_begin ∈ wsL_law := u_r29 _ (List.mem_of_getElem? (i := 5) rfl)
theorem gX3_begin_18 : u_gf cX3_begin RX3 18 3 4 := ⟨37, RX3, TX3, 10, dX3_begin_18, rfl, inlX3, by decide, mf_RX3_37, by decide, by decide⟩
theorem gX3_begin_26 : u_gf cX3_begin RX3 26 3 4 := ⟨37, RX3, TX3, 10, dX3_begin_26, rfl, inlX3, by decide, mf_RX3_37, by decide, by decide⟩
theorem mf_RX3_47 : Cond.fieldLink RX3 47 "Saltwedge$Mouth" "sectionCount" "I" ∈ wsL_law := u_r9 _ (List.mem_of_getElem? (i := 0) rfl)
theorem pX3_begin_40 : u_pf cX3_begin RX3 40 3 5 false (.int) := ⟨47, RX3, TX3, 10, tyX3, dX3_begin_40, rfl, inlX3, tyX3_ok, nmX3, by decide, mf_RX3_47, by decide, by decide, rfl, by decide +kernel, fun h => nomatch h⟩
theorem mf_RX3_51 : Cond.fieldLink RX3 51 "Saltwedge$Mouth" "intakeCount" "I" ∈ wsL_law := u_r9 _ (List.mem_of_getElem? (i := 19) rfl)
theorem pX3_begin_45 : u_pf cX3_begin RX3 45 3 6 false (.int) := ⟨51, RX3, TX3, 10, tyX3, dX3_begin_45, rfl, inlX3, tyX3_ok, nmX3, by decide, mf_RX3_51, by decide, by decide, rfl, by decide +kernel, fun h => nomatch h⟩
theorem mf_RX3_54 : Cond.fieldLink RX3 54 "Saltwedge$Mouth" "riverWater" "I" ∈ wsL_law := u_r7 _ (List.mem_of_getElem? (i := 23) rfl)
theorem pX3_begin_50 : u_pf cX3_begin RX3 50 3 7 false (.int) := ⟨54, RX3, TX3, 10, tyX3, dX3_begin_50, rfl, inlX3, tyX3_ok, nmX3, by decide, mf_RX3_54, by decide, by decide, rfl, by decide +kernel, fun h => nomatch h⟩
theorem mf_RX3_57 : Cond.fieldLink RX3 57 "Saltwedge$Mouth" "riverSilt" "I" ∈ wsL_law := u_r8 _ (List.mem_of_getElem? (i := 0) rfl)
theorem pX3_begin_55 : u_pf cX3_begin RX3 55 3 8 false (.int) := ⟨57, RX3, TX3, 10, tyX3, dX3_begin_55, rfl, inlX3, tyX3_ok, nmX3, by decide, mf_RX3_57, by decide, by decide, rfl, by decide +kernel, fun h => nomatch h⟩
theorem mf_RX3_60 : Cond.fieldLink RX3 60 "Saltwedge$Mouth" "now" "I" ∈ wsL_law := u_r18 _ (List.mem_of_getElem? (i := 12) rfl)
theorem pX3_begin_60 : u_pf cX3_begin RX3 60 3 9 false (.int) := ⟨60, RX3, TX3, 10, tyX3, dX3_begin_60, rfl, inlX3, tyX3_ok, nmX3, by decide, mf_RX3_60, by decide, by decide, rfl, by decide +kernel, fun h => nomatch h⟩
theorem gX3_hasSection_6 : u_gf cX3_hasSection RX3 6 3 5 := ⟨47, RX3, TX3, 10, dX3_hasSection_6, rfl, inlX3, by decide, mf_RX3_47, by decide, by decide⟩
theorem gX3_hear_53 : u_gf cX3_hear RX3 53 3 0 := ⟨12, RX3, TX3, 10, dX3_hear_53, rfl, inlX3, by decide, mf_RX3_12, by decide, by decide⟩
theorem ml_RX3_63 : Cond.methodLink RX3 63 yX5_addTurn ∈ wsL_law := u_r8 _ (List.mem_of_getElem? (i := 3) rfl)
theorem gX3_hear_69 : u_gf cX3_hear RX3 69 3 0 := ⟨12, RX3, TX3, 10, dX3_hear_69, rfl, inlX3, by decide, mf_RX3_12, by decide, by decide⟩
theorem mf_RX3_67 : Cond.fieldLink RX3 67 "Saltwedge$Sea" "mean" "I" ∈ wsL_law := u_r7 _ (List.mem_of_getElem? (i := 22) rfl)
theorem pX3_hear_73 : u_pf cX3_hear RX3 73 5 5 false (.int) := ⟨67, RX5, TX5, 6, tyX5, dX3_hear_73, rfl, inlX5, tyX5_ok, nmX5, by decide, mf_RX3_67, by decide, by decide, rfl, by decide +kernel, fun h => nomatch h⟩
theorem gX3_hear_80 : u_gf cX3_hear RX3 80 3 0 := ⟨12, RX3, TX3, 10, dX3_hear_80, rfl, inlX3, by decide, mf_RX3_12, by decide, by decide⟩
theorem ml_RX3_70 : Cond.methodLink RX3 70 yX5_addSurge ∈ wsL_law := u_r8 _ (List.mem_of_getElem? (i := 12) rfl)
theorem pX3_hear_95 : u_pf cX3_hear RX3 95 3 7 false (.int) := ⟨54, RX3, TX3, 10, tyX3, dX3_hear_95, rfl, inlX3, tyX3_ok, nmX3, by decide, mf_RX3_54, by decide, by decide, rfl, by decide +kernel, fun h => nomatch h⟩
theorem pX3_hear_100 : u_pf cX3_hear RX3 100 3 8 false (.int) := ⟨57, RX3, TX3, 10, tyX3, dX3_hear_100, rfl, inlX3, tyX3_ok, nmX3, by decide, mf_RX3_57, by decide, by decide, rfl, by decide +kernel, fun h => nomatch h⟩
theorem gX3_hear_107 : u_gf cX3_hear RX3 107 3 1 := ⟨21, RX3, TX3, 10, dX3_hear_107, rfl, inlX3, by decide, mf_RX3_21, by decide, by decide⟩
theorem mf_RX3_74 : Cond.fieldLink RX3 74 "Saltwedge$Barrier" "mark" "I" ∈ wsL_law := u_r8 _ (List.mem_of_getElem? (i := 1) rfl)
theorem pX3_hear_111 : u_pf cX3_hear RX3 111 0 4 false (.int) := ⟨74, RX0, TX0, 7, tyX0, dX3_hear_111, rfl, inlX0, tyX0_ok, nmX0, by decide, mf_RX3_74, by decide, by decide, rfl, by decide +kernel, fun h => nomatch h⟩
theorem gX3_hear_115 : u_gf cX3_hear RX3 115 3 1 := ⟨21, RX3, TX3, 10, dX3_hear_115, rfl, inlX3, by decide, mf_RX3_21, by decide, by decide⟩
theorem mf_RX3_77 : Cond.fieldLink RX3 77 "Saltwedge$Barrier" "lead" "I" ∈ wsL_law := u_r8 _ (List.mem_of_getElem? (i := 2) rfl)
theorem pX3_hear_119 : u_pf cX3_hear RX3 119 0 5 false (.int) := ⟨77, RX0, TX0, 7, tyX0, dX3_hear_119, rfl, inlX0, tyX0_ok, nmX0, by decide, mf_RX3_77, by decide, by decide, rfl, by decide +kernel, fun h => nomatch h⟩
theorem ml_RX3_80 : Cond.methodLink RX3 80 yX3_addSection ∈ wsL_law := u_r8 _ (List.mem_of_getElem? (i := 20) rfl)
theorem ml_RX3_83 : Cond.methodLink RX3 83 yX3_addIntake ∈ wsL_law := u_r9 _ (List.mem_of_getElem? (i := 15) rfl)
theorem ml_RX3_87 : Cond.methodLink RX3 87 yX3_setPermit ∈ wsL_law := u_r10 _ (List.mem_of_getElem? (i := 10) rfl)
theorem ml_RX3_91 : Cond.methodLink RX3 91 yX3_moveMud ∈ wsL_law := u_r10 _ (List.mem_of_getElem? (i := 19) rfl)
theorem gX3_addSection_1 : u_gf cX3_addSection RX3 1 3 5 := ⟨47, RX3, TX3, 10, dX3_addSection_1, rfl, inlX3, by decide, mf_RX3_47, by decide, by decide⟩
theorem gX3_addSection_5 : u_gf cX3_addSection RX3 5 3 2 := ⟨27, RX3, TX3, 10, dX3_addSection_5, rfl, inlX3, by decide, mf_RX3_27, by decide, by decide⟩
theorem gX3_addSection_13 : u_gf cX3_addSection RX3 13 3 2 := ⟨27, RX3, TX3, 10, dX3_addSection_13, rfl, inlX3, by decide, mf_RX3_27, by decide, by decide⟩
theorem gX3_addSection_17 : u_gf cX3_addSection RX3 17 3 5 := ⟨47, RX3, TX3, 10, dX3_addSection_17, rfl, inlX3, by decide, mf_RX3_47, by decide, by decide⟩
theorem ml_RX3_94 : Cond.methodLink RX3 94 yX6_begin ∈ wsL_law := u_r9 _ (List.mem_of_getElem? (i := 1) rfl)
theorem gX3_addSection_31 : u_gf cX3_addSection RX3 31 3 5 := ⟨47, RX3, TX3, 10, dX3_addSection_31, rfl, inlX3, by decide, mf_RX3_47, by decide, by decide⟩
theorem pX3_addSection_36 : u_pf cX3_addSection RX3 36 3 5 false (.int) := ⟨47, RX3, TX3, 10, tyX3, dX3_addSection_36, rfl, inlX3, tyX3_ok, nmX3, by decide, mf_RX3_47, by decide, by decide, rfl, by decide +kernel, fun h => nomatch h⟩
theorem gX3_addIntake_1 : u_gf cX3_addIntake RX3 1 3 6 := ⟨51, RX3, TX3, 10, dX3_addIntake_1, rfl, inlX3, by decide, mf_RX3_51, by decide, by decide⟩
theorem gX3_addIntake_5 : u_gf cX3_addIntake RX3 5 3 3 := ⟨33, RX3, TX3, 10, dX3_addIntake_5, rfl, inlX3, by decide, mf_RX3_33, by decide, by decide⟩
theorem gX3_addIntake_13 : u_gf cX3_addIntake RX3 13 3 3 := ⟨33, RX3, TX3, 10, dX3_addIntake_13, rfl, inlX3, by decide, mf_RX3_33, by decide, by decide⟩
theorem gX3_addIntake_17 : u_gf cX3_addIntake RX3 17 3 6 := ⟨51, RX3, TX3, 10, dX3_addIntake_17, rfl, inlX3, by decide, mf_RX3_51, by decide, by decide⟩
theorem ml_RX3_96 : Cond.methodLink RX3 96 yX1_begin ∈ wsL_law := u_r9 _ (List.mem_of_getElem? (i := 20) rfl)
theorem gX3_addIntake_33 : u_gf cX3_addIntake RX3 33 3 6 := ⟨51, RX3, TX3, 10, dX3_addIntake_33, rfl, inlX3, by decide, mf_RX3_51, by decide, by decide⟩
theorem pX3_addIntake_38 : u_pf cX3_addIntake RX3 38 3 6 false (.int) := ⟨51, RX3, TX3, 10, tyX3, dX3_addIntake_38, rfl, inlX3, tyX3_ok, nmX3, by decide, mf_RX3_51, by decide, by decide, rfl, by decide +kernel, fun h => nomatch h⟩
theorem ml_RX3_98 : Cond.methodLink RX3 98 yX3_hasSection ∈ wsL_law := u_r10 _ (List.mem_of_getElem? (i := 15) rfl)
theorem gX3_setPermit_9 : u_gf cX3_setPermit RX3 9 3 2 := ⟨27, RX3, TX3, 10, dX3_setPermit_9, rfl, inlX3, by decide, mf_RX3_27, by decide, by decide⟩
theorem mf_RX3_102 : Cond.fieldLink RX3 102 "Saltwedge$Section" "permit" "I" ∈ wsL_law := u_r10 _ (List.mem_of_getElem? (i := 14) rfl)
theorem pX3_setPermit_15 : u_pf cX3_setPermit RX3 15 6 7 false (.int) := ⟨102, RX6, TX6, 8, tyX6, dX3_setPermit_15, rfl, inlX6, tyX6_ok, nmX6, by decide, mf_RX3_102, by decide, by decide, rfl, by decide +kernel, fun h => nomatch h⟩
theorem gX3_moveMud_10 : u_gf cX3_moveMud RX3 10 3 2 := ⟨27, RX3, TX3, 10, dX3_moveMud_10, rfl, inlX3, by decide, mf_RX3_27, by decide, by decide⟩
theorem gX3_moveMud_16 : u_gf cX3_moveMud RX3 16 6 7 := ⟨102, RX6, TX6, 8, dX3_moveMud_16, rfl, inlX6, by decide, mf_RX3_102, by decide, by decide⟩
theorem pX3_moveMud_21 : u_pf cX3_moveMud RX3 21 6 7 false (.int) := ⟨102, RX6, TX6, 8, tyX6, dX3_moveMud_21, rfl, inlX6, tyX6_ok, nmX6, by decide, mf_RX3_102, by decide, by decide, rfl, by decide +kernel, fun h => nomatch h⟩
theorem gX3_moveMud_25 : u_gf cX3_moveMud RX3 25 3 2 := ⟨27, RX3, TX3, 10, dX3_moveMud_25, rfl, inlX3, by decide, mf_RX3_27, by decide, by decide⟩
theorem mf_RX3_105 : Cond.fieldLink RX3 105 "Saltwedge$Section" "mud" "I" ∈ wsL_law := u_r10 _ (List.mem_of_getElem? (i := 23) rfl)
theorem gX3_moveMud_31 : u_gf cX3_moveMud RX3 31 6 4 := ⟨105, RX6, TX6, 8, dX3_moveMud_31, rfl, inlX6, by decide, mf_RX3_105, by decide, by decide⟩
theorem pX3_moveMud_36 : u_pf cX3_moveMud RX3 36 6 4 false (.int) := ⟨105, RX6, TX6, 8, tyX6, dX3_moveMud_36, rfl, inlX6, tyX6_ok, nmX6, by decide, mf_RX3_105, by decide, by decide, rfl, by decide +kernel, fun h => nomatch h⟩
theorem gX3_moveMud_48 : u_gf cX3_moveMud RX3 48 3 2 := ⟨27, RX3, TX3, 10, dX3_moveMud_48, rfl, inlX3, by decide, mf_RX3_27, by decide, by decide⟩
theorem mf_RX3_108 : Cond.fieldLink RX3 108 "Saltwedge$Section" "cloud" "I" ∈ wsL_law := u_r11 _ (List.mem_of_getElem? (i := 0) rfl)
theorem gX3_moveMud_54 : u_gf cX3_moveMud RX3 54 6 5 := ⟨108, RX6, TX6, 8, dX3_moveMud_54, rfl, inlX6, by decide, mf_RX3_108, by decide, by decide⟩
theorem pX3_moveMud_59 : u_pf cX3_moveMud RX3 59 6 5 false (.int) := ⟨108, RX6, TX6, 8, tyX6, dX3_moveMud_59, rfl, inlX6, tyX6_ok, nmX6, by decide, mf_RX3_108, by decide, by decide, rfl, by decide +kernel, fun h => nomatch h⟩
theorem gX3_moveMud_66 : u_gf cX3_moveMud RX3 66 3 4 := ⟨37, RX3, TX3, 10, dX3_moveMud_66, rfl, inlX3, by decide, mf_RX3_37, by decide, by decide⟩
theorem gX3_seaOf_6 : u_gf cX3_seaOf RX3 6 3 9 := ⟨60, RX3, TX3, 10, dX3_seaOf_6, rfl, inlX3, by decide, mf_RX3_60, by decide, by decide⟩
theorem gX3_seaOf_20 : u_gf cX3_seaOf RX3 20 3 0 := ⟨12, RX3, TX3, 10, dX3_seaOf_20, rfl, inlX3, by decide, mf_RX3_12, by decide, by decide⟩
theorem mf_RX3_111 : Cond.fieldLink RX3 111 "Saltwedge$Sea" "past" "[I" ∈ wsL_law := u_r27 _ (List.mem_of_getElem? (i := 16) rfl)
theorem gX3_seaOf_23 : u_gf cX3_seaOf RX3 23 5 2 := ⟨111, RX5, TX5, 6, dX3_seaOf_23, rfl, inlX5, by decide, mf_RX3_111, by decide, by decide⟩
theorem gX3_seaOf_30 : u_gf cX3_seaOf RX3 30 3 0 := ⟨12, RX3, TX3, 10, dX3_seaOf_30, rfl, inlX3, by decide, mf_RX3_12, by decide, by decide⟩
theorem ml_RX3_115 : Cond.methodLink RX3 115 yX5_foretold ∈ wsL_law := u_r18 _ (List.mem_of_getElem? (i := 19) rfl)
theorem gX3_firstHourAt_3 : u_gf cX3_firstHourAt RX3 3 3 9 := ⟨60, RX3, TX3, 10, dX3_firstHourAt_3, rfl, inlX3, by decide, mf_RX3_60, by decide, by decide⟩
theorem gX3_firstHourAt_11 : u_gf cX3_firstHourAt RX3 11 3 9 := ⟨60, RX3, TX3, 10, dX3_firstHourAt_11, rfl, inlX3, by decide, mf_RX3_60, by decide, by decide⟩
theorem gX3_firstHourAt_23 : u_gf cX3_firstHourAt RX3 23 3 0 := ⟨12, RX3, TX3, 10, dX3_firstHourAt_23, rfl, inlX3, by decide, mf_RX3_12, by decide, by decide⟩
theorem ml_RX3_119 : Cond.methodLink RX3 119 Lib.Math.min.name ∈ wsL_law := u_r18 _ (List.mem_of_getElem? (i := 8) rfl)
theorem gX3_goOnTo_9 : u_gf cX3_goOnTo RX3 9 3 9 := ⟨60, RX3, TX3, 10, dX3_goOnTo_9, rfl, inlX3, by decide, mf_RX3_60, by decide, by decide⟩
theorem ml_RX3_125 : Cond.methodLink RX3 125 yX3_letHourGoBy ∈ wsL_law := u_r18 _ (List.mem_of_getElem? (i := 13) rfl)
theorem gX3_goOnTo_22 : u_gf cX3_goOnTo RX3 22 3 9 := ⟨60, RX3, TX3, 10, dX3_goOnTo_22, rfl, inlX3, by decide, mf_RX3_60, by decide, by decide⟩
theorem pX3_goOnTo_27 : u_pf cX3_goOnTo RX3 27 3 9 false (.int) := ⟨60, RX3, TX3, 10, tyX3, dX3_goOnTo_27, rfl, inlX3, tyX3_ok, nmX3, by decide, mf_RX3_60, by decide, by decide, rfl, by decide +kernel, fun h => nomatch h⟩
theorem gX3_letHourGoBy_1 : u_gf cX3_letHourGoBy RX3 1 3 0 := ⟨12, RX3, TX3, 10, dX3_letHourGoBy_1, rfl, inlX3, by decide, mf_RX3_12, by decide, by decide⟩
theorem gX3_letHourGoBy_5 : u_gf cX3_letHourGoBy RX3 5 3 9 := ⟨60, RX3, TX3, 10, dX3_letHourGoBy_5, rfl, inlX3, by decide, mf_RX3_60, by decide, by decide⟩
theorem gX3_letHourGoBy_16 : u_gf cX3_letHourGoBy RX3 16 3 5 := ⟨47, RX3, TX3, 10, dX3_letHourGoBy_16, rfl, inlX3, by decide, mf_RX3_47, by decide, by decide⟩
theorem gX3_letHourGoBy_23 : u_gf cX3_letHourGoBy RX3 23 3 2 := ⟨27, RX3, TX3, 10, dX3_letHourGoBy_23, rfl, inlX3, by decide, mf_RX3_27, by decide, by decide⟩
theorem mf_RX3_128 : Cond.fieldLink RX3 128 "Saltwedge$Section" "run" "I" ∈ wsL_law := u_r18 _ (List.mem_of_getElem? (i := 17) rfl)
theorem pX3_letHourGoBy_29 : u_pf cX3_letHourGoBy RX3 29 6 6 false (.int) := ⟨128, RX6, TX6, 8, tyX6, dX3_letHourGoBy_29, rfl, inlX6, tyX6_ok, nmX6, by decide, mf_RX3_128, by decide, by decide, rfl, by decide +kernel, fun h => nomatch h⟩
theorem gX3_letHourGoBy_39 : u_gf cX3_letHourGoBy RX3 39 3 1 := ⟨21, RX3, TX3, 10, dX3_letHourGoBy_39, rfl, inlX3, by decide, mf_RX3_21, by decide, by decide⟩
theorem gX3_letHourGoBy_43 : u_gf cX3_letHourGoBy RX3 43 3 0 := ⟨12, RX3, TX3, 10, dX3_letHourGoBy_43, rfl, inlX3, by decide, mf_RX3_12, by decide, by decide⟩
theorem gX3_letHourGoBy_47 : u_gf cX3_letHourGoBy RX3 47 3 9 := ⟨60, RX3, TX3, 10, dX3_letHourGoBy_47, rfl, inlX3, by decide, mf_RX3_60, by decide, by decide⟩
theorem ml_RX3_131 : Cond.methodLink RX3 131 yX0_look ∈ wsL_law := u_r19 _ (List.mem_of_getElem? (i := 7) rfl)
theorem gX3_letHourGoBy_54 : u_gf cX3_letHourGoBy RX3 54 3 5 := ⟨47, RX3, TX3, 10, dX3_letHourGoBy_54, rfl, inlX3, by decide, mf_RX3_47, by decide, by decide⟩
theorem gX3_letHourGoBy_61 : u_gf cX3_letHourGoBy RX3 61 3 1 := ⟨21, RX3, TX3, 10, dX3_letHourGoBy_61, rfl, inlX3, by decide, mf_RX3_21, by decide, by decide⟩
theorem mf_RX3_135 : Cond.fieldLink RX3 135 "Saltwedge$Barrier" "closed" "Z" ∈ wsL_law := u_r18 _ (List.mem_of_getElem? (i := 18) rfl)
theorem gX3_letHourGoBy_64 : u_gf cX3_letHourGoBy RX3 64 0 6 := ⟨135, RX0, TX0, 7, dX3_letHourGoBy_64, rfl, inlX0, by decide, mf_RX3_135, by decide, by decide⟩
theorem gX3_letHourGoBy_72 : u_gf cX3_letHourGoBy RX3 72 3 2 := ⟨27, RX3, TX3, 10, dX3_letHourGoBy_72, rfl, inlX3, by decide, mf_RX3_27, by decide, by decide⟩
theorem ml_RX3_139 : Cond.methodLink RX3 139 yX3_meetSea ∈ wsL_law := u_r19 _ (List.mem_of_getElem? (i := 20) rfl)
theorem gX3_letHourGoBy_83 : u_gf cX3_letHourGoBy RX3 83 3 2 := ⟨27, RX3, TX3, 10, dX3_letHourGoBy_83, rfl, inlX3, by decide, mf_RX3_27, by decide, by decide⟩
theorem gX3_letHourGoBy_87 : u_gf cX3_letHourGoBy RX3 87 3 5 := ⟨47, RX3, TX3, 10, dX3_letHourGoBy_87, rfl, inlX3, by decide, mf_RX3_47, by decide, by decide⟩
theorem ml_RX3_143 : Cond.methodLink RX3 143 yX3_meetRiver ∈ wsL_law := u_r21 _ (List.mem_of_getElem? (i := 3) rfl)
theorem gX3_letHourGoBy_102 : u_gf cX3_letHourGoBy RX3 102 3 5 := ⟨47, RX3, TX3, 10, dX3_letHourGoBy_102, rfl, inlX3, by decide, mf_RX3_47, by decide, by decide⟩
theorem gX3_letHourGoBy_110 : u_gf cX3_letHourGoBy RX3 110 3 2 := ⟨27, RX3, TX3, 10, dX3_letHourGoBy_110, rfl, inlX3, by decide, mf_RX3_27, by decide, by decide⟩
theorem gX3_letHourGoBy_116 : u_gf cX3_letHourGoBy RX3 116 3 2 := ⟨27, RX3, TX3, 10, dX3_letHourGoBy_116, rfl, inlX3, by decide, mf_RX3_27, by decide, by decide⟩
theorem ml_RX3_147 : Cond.methodLink RX3 147 yX3_level ∈ wsL_law := u_r21 _ (List.mem_of_getElem? (i := 7) rfl)
theorem gX3_letHourGoBy_128 : u_gf cX3_letHourGoBy RX3 128 3 2 := ⟨27, RX3, TX3, 10, dX3_letHourGoBy_128, rfl, inlX3, by decide, mf_RX3_27, by decide, by decide⟩
theorem gX3_letHourGoBy_134 : u_gf cX3_letHourGoBy RX3 134 3 2 := ⟨27, RX3, TX3, 10, dX3_letHourGoBy_134, rfl, inlX3, by decide, mf_RX3_27, by decide, by decide⟩
theorem ml_RX3_151 : Cond.methodLink RX3 151 yX3_creep ∈ wsL_law := u_r21 _ (List.mem_of_getElem? (i := 19) rfl)
theorem gX3_letHourGoBy_154 : u_gf cX3_letHourGoBy RX3 154 3 5 := ⟨47, RX3, TX3, 10, dX3_letHourGoBy_154, rfl, inlX3, by decide, mf_RX3_47, by decide, by decide⟩
theorem gX3_letHourGoBy_161 : u_gf cX3_letHourGoBy RX3 161 3 2 := ⟨27, RX3, TX3, 10, dX3_letHourGoBy_161, rfl, inlX3, by decide, mf_RX3_27, by decide, by decide⟩
theorem ml_RX3_154 : Cond.methodLink RX3 154 yX6_mix ∈ wsL_law := u_r22 _ (List.mem_of_getElem? (i := 3) rfl)
theorem gX3_letHourGoBy_170 : u_gf cX3_letHourGoBy RX3 170 3 2 := ⟨27, RX3, TX3, 10, dX3_letHourGoBy_170, rfl, inlX3, by decide, mf_RX3_27, by decide, by decide⟩
theorem ml_RX3_157 : Cond.methodLink RX3 157 yX6_settleOrLift ∈ wsL_law := u_r22 _ (List.mem_of_getElem? (i := 13) rfl)
theorem ml_RX3_160 : Cond.methodLink RX3 160 yX3_serveIntakes ∈ wsL_law := u_r22 _ (List.mem_of_getElem? (i := 17) rfl)
theorem gX3_letHourGoBy_192 : u_gf cX3_letHourGoBy RX3 192 3 5 := ⟨47, RX3, TX3, 10, dX3_letHourGoBy_192, rfl, inlX3, by decide, mf_RX3_47, by decide, by decide⟩
theorem gX3_letHourGoBy_199 : u_gf cX3_letHourGoBy RX3 199 3 2 := ⟨27, RX3, TX3, 10, dX3_letHourGoBy_199, rfl, inlX3, by decide, mf_RX3_27, by decide, by decide⟩
theorem gX3_letHourGoBy_205 : u_gf cX3_letHourGoBy RX3 205 3 9 := ⟨60, RX3, TX3, 10, dX3_letHourGoBy_205, rfl, inlX3, by decide, mf_RX3_60, by decide, by decide⟩
theorem ml_RX3_163 : Cond.methodLink RX3 163 yX6_endHour ∈ wsL_law := u_r23 _ (List.mem_of_getElem? (i := 10) rfl)
theorem gX3_letHourGoBy_218 : u_gf cX3_letHourGoBy RX3 218 3 0 := ⟨12, RX3, TX3, 10, dX3_letHourGoBy_218, rfl, inlX3, by decide, mf_RX3_12, by decide, by decide⟩
theorem gX3_letHourGoBy_222 : u_gf cX3_letHourGoBy RX3 222 3 9 := ⟨60, RX3, TX3, 10, dX3_letHourGoBy_222, rfl, inlX3, by decide, mf_RX3_60, by decide, by decide⟩
theorem ml_RX3_167 : Cond.methodLink RX3 167 yX5_keep ∈ wsL_law := u_r23 _ (List.mem_of_getElem? (i := 19) rfl)
theorem ml_RX3_170 : Cond.methodLink RX3 170 yX6_level ∈ wsL_law := u_r20 _ (List.mem_of_getElem? (i := 4) rfl)
theorem mf_RX3_173 : Cond.fieldLink RX3 173 "Saltwedge$Section" "area" "I" ∈ wsL_law := u_r20 _ (List.mem_of_getElem? (i := 0) rfl)
theorem gX3_meetSea_13 : u_gf cX3_meetSea RX3 13 6 3 := ⟨173, RX6, TX6, 8, dX3_meetSea_13, rfl, inlX6, by decide, mf_RX3_173, by decide, by decide⟩
theorem mf_RX3_176 : Cond.fieldLink RX3 176 "Saltwedge$Section" "low" "LSaltwedge$Layer;" ∈ wsL_law := u_r20 _ (List.mem_of_getElem? (i := 1) rfl)
theorem gX3_meetSea_22 : u_gf cX3_meetSea RX3 22 6 1 := ⟨176, RX6, TX6, 8, dX3_meetSea_22, rfl, inlX6, by decide, mf_RX3_176, by decide, by decide⟩
theorem ml_RX3_180 : Cond.methodLink RX3 180 yX2_takeIn ∈ wsL_law := u_r20 _ (List.mem_of_getElem? (i := 13) rfl)
theorem gX3_meetSea_36 : u_gf cX3_meetSea RX3 36 3 4 := ⟨37, RX3, TX3, 10, dX3_meetSea_36, rfl, inlX3, by decide, mf_RX3_37, by decide, by decide⟩
theorem gX3_meetSea_48 : u_gf cX3_meetSea RX3 48 3 4 := ⟨37, RX3, TX3, 10, dX3_meetSea_48, rfl, inlX3, by decide, mf_RX3_37, by decide, by decide⟩
theorem gX3_meetSea_72 : u_gf cX3_meetSea RX3 72 6 3 := ⟨173, RX6, TX6, 8, dX3_meetSea_72, rfl, inlX6, by decide, mf_RX3_173, by decide, by decide⟩
theorem mf_RX3_185 : Cond.fieldLink RX3 185 "Saltwedge$Section" "up" "LSaltwedge$Layer;" ∈ wsL_law := u_r20 _ (List.mem_of_getElem? (i := 2) rfl)
theorem gX3_meetSea_79 : u_gf cX3_meetSea RX3 79 6 0 := ⟨185, RX6, TX6, 8, dX3_meetSea_79, rfl, inlX6, by decide, mf_RX3_185, by decide, by decide⟩
theorem mf_RX3_188 : Cond.fieldLink RX3 188 "Saltwedge$Layer" "water" "I" ∈ wsL_law := u_r20 _ (List.mem_of_getElem? (i := 3) rfl)
theorem gX3_meetSea_82 : u_gf cX3_meetSea RX3 82 2 0 := ⟨188, RX2, TX2, 2, dX3_meetSea_82, rfl, inlX2, by decide, mf_RX3_188, by decide, by decide⟩
theorem gX3_meetSea_91 : u_gf cX3_meetSea RX3 91 3 4 := ⟨37, RX3, TX3, 10, dX3_meetSea_91, rfl, inlX3, by decide, mf_RX3_37, by decide, by decide⟩
theorem ml_RX3_191 : Cond.methodLink RX3 191 yX6_giveCloud ∈ wsL_law := u_r20 _ (List.mem_of_getElem? (i := 17) rfl)
theorem gX3_meetSea_108 : u_gf cX3_meetSea RX3 108 3 4 := ⟨37, RX3, TX3, 10, dX3_meetSea_108, rfl, inlX3, by decide, mf_RX3_37, by decide, by decide⟩
theorem gX3_meetSea_115 : u_gf cX3_meetSea RX3 115 6 0 := ⟨185, RX6, TX6, 8, dX3_meetSea_115, rfl, inlX6, by decide, mf_RX3_185, by decide, by decide⟩
theorem ml_RX3_194 : Cond.methodLink RX3 194 yX2_giveOut ∈ wsL_law := u_r20 _ (List.mem_of_getElem? (i := 23) rfl)
theorem gX3_meetSea_127 : u_gf cX3_meetSea RX3 127 3 4 := ⟨37, RX3, TX3, 10, dX3_meetSea_127, rfl, inlX3, by decide, mf_RX3_37, by decide, by decide⟩
theorem gX3_meetRiver_1 : u_gf cX3_meetRiver RX3 1 6 0 := ⟨185, RX6, TX6, 8, dX3_meetRiver_1, rfl, inlX6, by decide, mf_RX3_185, by decide, by decide⟩
theorem gX3_meetRiver_5 : u_gf cX3_meetRiver RX3 5 3 7 := ⟨54, RX3, TX3, 10, dX3_meetRiver_5, rfl, inlX3, by decide, mf_RX3_54, by decide, by decide⟩
theorem gX3_meetRiver_14 : u_gf cX3_meetRiver RX3 14 6 5 := ⟨108, RX6, TX6, 8, dX3_meetRiver_14, rfl, inlX6, by decide, mf_RX3_108, by decide, by decide⟩
theorem gX3_meetRiver_18 : u_gf cX3_meetRiver RX3 18 3 8 := ⟨57, RX3, TX3, 10, dX3_meetRiver_18, rfl, inlX3, by decide, mf_RX3_57, by decide, by decide⟩
theorem pX3_meetRiver_22 : u_pf cX3_meetRiver RX3 22 6 5 false (.int) := ⟨108, RX6, TX6, 8, tyX6, dX3_meetRiver_22, rfl, inlX6, tyX6_ok, nmX6, by decide, mf_RX3_108, by decide, by decide, rfl, by decide +kernel, fun h => nomatch h⟩
theorem gX3_meetRiver_26 : u_gf cX3_meetRiver RX3 26 3 4 := ⟨37, RX3, TX3, 10, dX3_meetRiver_26, rfl, inlX3, by decide, mf_RX3_37, by decide, by decide⟩
theorem gX3_meetRiver_33 : u_gf cX3_meetRiver RX3 33 3 7 := ⟨54, RX3, TX3, 10, dX3_meetRiver_33, rfl, inlX3, by decide, mf_RX3_54, by decide, by decide⟩
theorem gX3_meetRiver_40 : u_gf cX3_meetRiver RX3 40 3 4 := ⟨37, RX3, TX3, 10, dX3_meetRiver_40, rfl, inlX3, by decide, mf_RX3_37, by decide, by decide⟩
theorem gX3_meetRiver_48 : u_gf cX3_meetRiver RX3 48 3 8 := ⟨57, RX3, TX3, 10, dX3_meetRiver_48, rfl, inlX3, by decide, mf_RX3_57, by decide, by decide⟩
theorem gX3_level_11 : u_gf cX3_level RX3 11 6 3 := ⟨173, RX6, TX6, 8, dX3_level_11, rfl, inlX6, by decide, mf_RX3_173, by decide, by decide⟩
theorem gX3_level_15 : u_gf cX3_level RX3 15 6 3 := ⟨173, RX6, TX6, 8, dX3_level_15, rfl, inlX6, by decide, mf_RX3_173, by decide, by decide⟩
theorem gX3_level_37 : u_gf cX3_level RX3 37 6 1 := ⟨176, RX6, TX6, 8, dX3_level_37, rfl, inlX6, by decide, mf_RX3_176, by decide, by decide⟩
theorem gX3_level_40 : u_gf cX3_level RX3 40 2 0 := ⟨188, RX2, TX2, 2, dX3_level_40, rfl, inlX2, by decide, mf_RX3_188, by decide, by decide⟩
theorem ml_RX3_197 : Cond.methodLink RX3 197 yX3_flowInLow ∈ wsL_law := u_r21 _ (List.mem_of_getElem? (i := 11) rfl)
theorem gX3_level_71 : u_gf cX3_level RX3 71 6 0 := ⟨185, RX6, TX6, 8, dX3_level_71, rfl, inlX6, by decide, mf_RX3_185, by decide, by decide⟩
theorem gX3_level_74 : u_gf cX3_level RX3 74 2 0 := ⟨188, RX2, TX2, 2, dX3_level_74, rfl, inlX2, by decide, mf_RX3_188, by decide, by decide⟩
theorem ml_RX3_201 : Cond.methodLink RX3 201 yX3_flowInUp ∈ wsL_law := u_r21 _ (List.mem_of_getElem? (i := 15) rfl)
theorem gX3_level_92 : u_gf cX3_level RX3 92 6 6 := ⟨128, RX6, TX6, 8, dX3_level_92, rfl, inlX6, by decide, mf_RX3_128, by decide, by decide⟩
theorem pX3_level_98 : u_pf cX3_level RX3 98 6 6 false (.int) := ⟨128, RX6, TX6, 8, tyX6, dX3_level_98, rfl, inlX6, tyX6_ok, nmX6, by decide, mf_RX3_128, by decide, by decide, rfl, by decide +kernel, fun h => nomatch h⟩
theorem gX3_level_103 : u_gf cX3_level RX3 103 6 6 := ⟨128, RX6, TX6, 8, dX3_level_103, rfl, inlX6, by decide, mf_RX3_128, by decide, by decide⟩
theorem pX3_level_109 : u_pf cX3_level RX3 109 6 6 false (.int) := ⟨128, RX6, TX6, 8, tyX6, dX3_level_109, rfl, inlX6, tyX6_ok, nmX6, by decide, mf_RX3_128, by decide, by decide, rfl, by decide +kernel, fun h => nomatch h⟩
theorem gX3_creep_1 : u_gf cX3_creep RX3 1 6 1 := ⟨176, RX6, TX6, 8, dX3_creep_1, rfl, inlX6, by decide, mf_RX3_176, by decide, by decide⟩
theorem ml_RX3_204 : Cond.methodLink RX3 204 yX2_salinity ∈ wsL_law := u_r21 _ (List.mem_of_getElem? (i := 23) rfl)
theorem gX3_creep_8 : u_gf cX3_creep RX3 8 6 1 := ⟨176, RX6, TX6, 8, dX3_creep_8, rfl, inlX6, by decide, mf_RX3_176, by decide, by decide⟩
theorem gX3_creep_18 : u_gf cX3_creep RX3 18 6 1 := ⟨176, RX6, TX6, 8, dX3_creep_18, rfl, inlX6, by decide, mf_RX3_176, by decide, by decide⟩
theorem gX3_creep_21 : u_gf cX3_creep RX3 21 2 0 := ⟨188, RX2, TX2, 2, dX3_creep_21, rfl, inlX2, by decide, mf_RX3_188, by decide, by decide⟩
theorem gX3_creep_25 : u_gf cX3_creep RX3 25 6 0 := ⟨185, RX6, TX6, 8, dX3_creep_25, rfl, inlX6, by decide, mf_RX3_185, by decide, by decide⟩
theorem gX3_creep_28 : u_gf cX3_creep RX3 28 2 0 := ⟨188, RX2, TX2, 2, dX3_creep_28, rfl, inlX2, by decide, mf_RX3_188, by decide, by decide⟩
theorem gX3_flowInLow_1 : u_gf cX3_flowInLow RX3 1 6 1 := ⟨176, RX6, TX6, 8, dX3_flowInLow_1, rfl, inlX6, by decide, mf_RX3_176, by decide, by decide⟩
theorem gX3_flowInLow_11 : u_gf cX3_flowInLow RX3 11 6 1 := ⟨176, RX6, TX6, 8, dX3_flowInLow_11, rfl, inlX6, by decide, mf_RX3_176, by decide, by decide⟩
theorem gX3_flowInUp_8 : u_gf cX3_flowInUp RX3 8 6 0 := ⟨185, RX6, TX6, 8, dX3_flowInUp_8, rfl, inlX6, by decide, mf_RX3_185, by decide, by decide⟩
theorem gX3_flowInUp_19 : u_gf cX3_flowInUp RX3 19 6 5 := ⟨108, RX6, TX6, 8, dX3_flowInUp_19, rfl, inlX6, by decide, mf_RX3_108, by decide, by decide⟩
theorem pX3_flowInUp_25 : u_pf cX3_flowInUp RX3 25 6 5 false (.int) := ⟨108, RX6, TX6, 8, tyX6, dX3_flowInUp_25, rfl, inlX6, tyX6_ok, nmX6, by decide, mf_RX3_108, by decide, by decide, rfl, by decide +kernel, fun h => nomatch h⟩
theorem gX3_flowInUp_29 : u_gf cX3_flowInUp RX3 29 6 0 := ⟨185, RX6, TX6, 8, dX3_flowInUp_29, rfl, inlX6, by decide, mf_RX3_185, by decide, by decide⟩
theorem gX3_serveIntakes_4 : u_gf cX3_serveIntakes RX3 4 3 6 := ⟨51, RX3, TX3, 10, dX3_serveIntakes_4, rfl, inlX3, by decide, mf_RX3_51, by decide, by decide⟩
theorem gX3_serveIntakes_11 : u_gf cX3_serveIntakes RX3 11 3 3 := ⟨33, RX3, TX3, 10, dX3_serveIntakes_11, rfl, inlX3, by decide, mf_RX3_33, by decide, by decide⟩
theorem mf_RX3_207 : Cond.fieldLink RX3 207 "Saltwedge$Intake" "section" "I" ∈ wsL_law := u_r22 _ (List.mem_of_getElem? (i := 21) rfl)
theorem gX3_serveIntakes_19 : u_gf cX3_serveIntakes RX3 19 1 0 := ⟨207, RX1, TX1, 10, dX3_serveIntakes_19, rfl, inlX1, by decide, mf_RX3_207, by decide, by decide⟩
theorem gX3_serveIntakes_30 : u_gf cX3_serveIntakes RX3 30 3 2 := ⟨27, RX3, TX3, 10, dX3_serveIntakes_30, rfl, inlX3, by decide, mf_RX3_27, by decide, by decide⟩
theorem gX3_serveIntakes_34 : u_gf cX3_serveIntakes RX3 34 1 0 := ⟨207, RX1, TX1, 10, dX3_serveIntakes_34, rfl, inlX1, by decide, mf_RX3_207, by decide, by decide⟩
theorem gX3_serveIntakes_38 : u_gf cX3_serveIntakes RX3 38 6 0 := ⟨185, RX6, TX6, 8, dX3_serveIntakes_38, rfl, inlX6, by decide, mf_RX3_185, by decide, by decide⟩
theorem gX3_serveIntakes_42 : u_gf cX3_serveIntakes RX3 42 3 4 := ⟨37, RX3, TX3, 10, dX3_serveIntakes_42, rfl, inlX3, by decide, mf_RX3_37, by decide, by decide⟩
theorem ml_RX3_210 : Cond.methodLink RX3 210 yX1_take ∈ wsL_law := u_r22 _ (List.mem_of_getElem? (i := 22) rfl)
theorem ml_RX3_214 : Cond.methodLink RX3 214 yX1_supply ∈ wsL_law := u_r23 _ (List.mem_of_getElem? (i := 6) rfl)
theorem ml_RX4_1 : Cond.methodLink RX4 1 objectInit ∈ wsL_law := u_r5 _ (List.mem_of_getElem? (i := 2) rfl)
theorem ml_RX5_3 : Cond.methodLink RX5 3 objectInit ∈ wsL_law := u_r3 _ (List.mem_of_getElem? (i := 2) rfl)
theorem mf_RX5_11 : Cond.fieldLink RX5 11 "Saltwedge$Sea" "turns" "[LSaltwedge$Turn;" ∈ wsL_law := u_r3 _ (List.mem_of_getElem? (i := 4) rfl)
theorem pX5_init_10 : u_pf cX5_init RX5 10 5 0 true (.array (.object "Saltwedge$Turn")) := ⟨11, RX5, TX5, 6, tyX5, dX5_init_10, rfl, inlX5, tyX5_ok, nmX5, by decide, mf_RX5_11, by decide, by decide, rfl, by decide +kernel, fun h => rfl⟩
theorem mf_RX5_19 : Cond.fieldLink RX5 19 "Saltwedge$Sea" "surges" "[LSaltwedge$Surge;" ∈ wsL_law := u_r3 _ (List.mem_of_getElem? (i := 6) rfl)
theorem pX5_init_19 : u_pf cX5_init RX5 19 5 1 true (.array (.object "Saltwedge$Surge")) := ⟨19, RX5, TX5, 6, tyX5, dX5_init_19, rfl, inlX5, tyX5_ok, nmX5, by decide, mf_RX5_19, by decide, by decide, rfl, by decide +kernel, fun h => rfl⟩
theorem mf_RX5_23 : Cond.fieldLink RX5 23 "Saltwedge$Sea" "past" "[I" ∈ wsL_law := u_r3 _ (List.mem_of_getElem? (i := 8) rfl)
theorem pX5_init_28 : u_pf cX5_init RX5 28 5 2 true (.array (.int)) := ⟨23, RX5, TX5, 6, tyX5, dX5_init_28, rfl, inlX5, tyX5_ok, nmX5, by decide, mf_RX5_23, by decide, by decide, rfl, by decide +kernel, fun h => rfl⟩
theorem mf_RX5_27 : Cond.fieldLink RX5 27 "Saltwedge$Sea" "mean" "I" ∈ wsL_law := u_r3 _ (List.mem_of_getElem? (i := 9) rfl)
theorem pX5_init_34 : u_pf cX5_init RX5 34 5 5 false (.int) := ⟨27, RX5, TX5, 6, tyX5, dX5_init_34, rfl, inlX5, tyX5_ok, nmX5, by decide, mf_RX5_27, by decide, by decide, rfl, by decide +kernel, fun h => nomatch h⟩
theorem gX5_init_41 : u_gf cX5_init RX5 41 5 0 := ⟨11, RX5, TX5, 6, dX5_init_41, rfl, inlX5, by decide, mf_RX5_11, by decide, by decide⟩
theorem gX5_init_49 : u_gf cX5_init RX5 49 5 0 := ⟨11, RX5, TX5, 6, dX5_init_49, rfl, inlX5, by decide, mf_RX5_11, by decide, by decide⟩
theorem gX5_init_71 : u_gf cX5_init RX5 71 5 1 := ⟨19, RX5, TX5, 6, dX5_init_71, rfl, inlX5, by decide, mf_RX5_19, by decide, by decide⟩
theorem gX5_init_79 : u_gf cX5_init RX5 79 5 1 := ⟨19, RX5, TX5, 6, dX5_init_79, rfl, inlX5, by decide, mf_RX5_19, by decide, by decide⟩
theorem mf_RX5_33 : Cond.fieldLink RX5 33 "Saltwedge$Sea" "turnCount" "I" ∈ wsL_law := u_r8 _ (List.mem_of_getElem? (i := 7) rfl)
theorem pX5_begin_2 : u_pf cX5_begin RX5 2 5 3 false (.int) := ⟨33, RX5, TX5, 6, tyX5, dX5_begin_2, rfl, inlX5, tyX5_ok, nmX5, by decide, mf_RX5_33, by decide, by decide, rfl, by decide +kernel, fun h => nomatch h⟩
theorem mf_RX5_36 : Cond.fieldLink RX5 36 "Saltwedge$Sea" "surgeCount" "I" ∈ wsL_law := u_r8 _ (List.mem_of_getElem? (i := 16) rfl)
theorem pX5_begin_7 : u_pf cX5_begin RX5 7 5 4 false (.int) := ⟨36, RX5, TX5, 6, tyX5, dX5_begin_7, rfl, inlX5, tyX5_ok, nmX5, by decide, mf_RX5_36, by decide, by decide, rfl, by decide +kernel, fun h => nomatch h⟩
theorem pX5_begin_13 : u_pf cX5_begin RX5 13 5 5 false (.int) := ⟨27, RX5, TX5, 6, tyX5, dX5_begin_13, rfl, inlX5, tyX5_ok, nmX5, by decide, mf_RX5_27, by decide, by decide, rfl, by decide +kernel, fun h => nomatch h⟩
theorem gX5_addTurn_1 : u_gf cX5_addTurn RX5 1 5 3 := ⟨33, RX5, TX5, 6, dX5_addTurn_1, rfl, inlX5, by decide, mf_RX5_33, by decide, by decide⟩
theorem gX5_addTurn_5 : u_gf cX5_addTurn RX5 5 5 0 := ⟨11, RX5, TX5, 6, dX5_addTurn_5, rfl, inlX5, by decide, mf_RX5_11, by decide, by decide⟩
theorem gX5_addTurn_14 : u_gf cX5_addTurn RX5 14 5 0 := ⟨11, RX5, TX5, 6, dX5_addTurn_14, rfl, inlX5, by decide, mf_RX5_11, by decide, by decide⟩
theorem gX5_addTurn_18 : u_gf cX5_addTurn RX5 18 5 3 := ⟨33, RX5, TX5, 6, dX5_addTurn_18, rfl, inlX5, by decide, mf_RX5_33, by decide, by decide⟩
theorem mf_RX5_39 : Cond.fieldLink RX5 39 "Saltwedge$Turn" "period" "I" ∈ wsL_law := u_r8 _ (List.mem_of_getElem? (i := 8) rfl)
theorem pX5_addTurn_27 : u_pf cX5_addTurn RX5 27 9 0 false (.int) := ⟨39, RX9, TX9, 4, tyX9, dX5_addTurn_27, rfl, inlX9, tyX9_ok, nmX9, by decide, mf_RX5_39, by decide, by decide, rfl, by decide +kernel, fun h => nomatch h⟩
theorem mf_RX5_42 : Cond.fieldLink RX5 42 "Saltwedge$Turn" "rise" "I" ∈ wsL_law := u_r8 _ (List.mem_of_getElem? (i := 9) rfl)
theorem pX5_addTurn_33 : u_pf cX5_addTurn RX5 33 9 1 false (.int) := ⟨42, RX9, TX9, 4, tyX9, dX5_addTurn_33, rfl, inlX9, tyX9_ok, nmX9, by decide, mf_RX5_42, by decide, by decide, rfl, by decide +kernel, fun h => nomatch h⟩
theorem mf_RX5_45 : Cond.fieldLink RX5 45 "Saltwedge$Turn" "range" "I" ∈ wsL_law := u_r8 _ (List.mem_of_getElem? (i := 10) rfl)
theorem pX5_addTurn_39 : u_pf cX5_addTurn RX5 39 9 2 false (.int) := ⟨45, RX9, TX9, 4, tyX9, dX5_addTurn_39, rfl, inlX9, tyX9_ok, nmX9, by decide, mf_RX5_45, by decide, by decide, rfl, by decide +kernel, fun h => nomatch h⟩
theorem mf_RX5_48 : Cond.fieldLink RX5 48 "Saltwedge$Turn" "phase" "I" ∈ wsL_law := u_r8 _ (List.mem_of_getElem? (i := 11) rfl)
theorem pX5_addTurn_46 : u_pf cX5_addTurn RX5 46 9 3 false (.int) := ⟨48, RX9, TX9, 4, tyX9, dX5_addTurn_46, rfl, inlX9, tyX9_ok, nmX9, by decide, mf_RX5_48, by decide, by decide, rfl, by decide +kernel, fun h => nomatch h⟩
theorem gX5_addTurn_51 : u_gf cX5_addTurn RX5 51 5 3 := ⟨33, RX5, TX5, 6, dX5_addTurn_51, rfl, inlX5, by decide, mf_RX5_33, by decide, by decide⟩
theorem pX5_addTurn_56 : u_pf cX5_addTurn RX5 56 5 3 false (.int) := ⟨33, RX5, TX5, 6, tyX5, dX5_addTurn_56, rfl, inlX5, tyX5_ok, nmX5, by decide, mf_RX5_33, by decide, by decide, rfl, by decide +kernel, fun h => nomatch h⟩
theorem gX5_addSurge_1 : u_gf cX5_addSurge RX5 1 5 4 := ⟨36, RX5, TX5, 6, dX5_addSurge_1, rfl, inlX5, by decide, mf_RX5_36, by decide, by decide⟩
theorem gX5_addSurge_5 : u_gf cX5_addSurge RX5 5 5 1 := ⟨19, RX5, TX5, 6, dX5_addSurge_5, rfl, inlX5, by decide, mf_RX5_19, by decide, by decide⟩
theorem gX5_addSurge_14 : u_gf cX5_addSurge RX5 14 5 1 := ⟨19, RX5, TX5, 6, dX5_addSurge_14, rfl, inlX5, by decide, mf_RX5_19, by decide, by decide⟩
theorem gX5_addSurge_18 : u_gf cX5_addSurge RX5 18 5 4 := ⟨36, RX5, TX5, 6, dX5_addSurge_18, rfl, inlX5, by decide, mf_RX5_36, by decide, by decide⟩
theorem mf_RX5_51 : Cond.fieldLink RX5 51 "Saltwedge$Surge" "from" "I" ∈ wsL_law := u_r8 _ (List.mem_of_getElem? (i := 17) rfl)
theorem pX5_addSurge_27 : u_pf cX5_addSurge RX5 27 7 0 false (.int) := ⟨51, RX7, TX7, 3, tyX7, dX5_addSurge_27, rfl, inlX7, tyX7_ok, nmX7, by decide, mf_RX5_51, by decide, by decide, rfl, by decide +kernel, fun h => nomatch h⟩
theorem mf_RX5_54 : Cond.fieldLink RX5 54 "Saltwedge$Surge" "to" "I" ∈ wsL_law := u_r8 _ (List.mem_of_getElem? (i := 18) rfl)
theorem pX5_addSurge_33 : u_pf cX5_addSurge RX5 33 7 1 false (.int) := ⟨54, RX7, TX7, 3, tyX7, dX5_addSurge_33, rfl, inlX7, tyX7_ok, nmX7, by decide, mf_RX5_54, by decide, by decide, rfl, by decide +kernel, fun h => nomatch h⟩
theorem mf_RX5_57 : Cond.fieldLink RX5 57 "Saltwedge$Surge" "height" "I" ∈ wsL_law := u_r8 _ (List.mem_of_getElem? (i := 19) rfl)
theorem pX5_addSurge_39 : u_pf cX5_addSurge RX5 39 7 2 false (.int) := ⟨57, RX7, TX7, 3, tyX7, dX5_addSurge_39, rfl, inlX7, tyX7_ok, nmX7, by decide, mf_RX5_57, by decide, by decide, rfl, by decide +kernel, fun h => nomatch h⟩
theorem gX5_addSurge_44 : u_gf cX5_addSurge RX5 44 5 4 := ⟨36, RX5, TX5, 6, dX5_addSurge_44, rfl, inlX5, by decide, mf_RX5_36, by decide, by decide⟩
theorem pX5_addSurge_49 : u_pf cX5_addSurge RX5 49 5 4 false (.int) := ⟨36, RX5, TX5, 6, tyX5, dX5_addSurge_49, rfl, inlX5, tyX5_ok, nmX5, by decide, mf_RX5_36, by decide, by decide, rfl, by decide +kernel, fun h => nomatch h⟩
theorem gX5_foretold_1 : u_gf cX5_foretold RX5 1 5 5 := ⟨27, RX5, TX5, 6, dX5_foretold_1, rfl, inlX5, by decide, mf_RX5_27, by decide, by decide⟩
theorem gX5_foretold_9 : u_gf cX5_foretold RX5 9 5 3 := ⟨33, RX5, TX5, 6, dX5_foretold_9, rfl, inlX5, by decide, mf_RX5_33, by decide, by decide⟩
theorem gX5_foretold_17 : u_gf cX5_foretold RX5 17 5 0 := ⟨11, RX5, TX5, 6, dX5_foretold_17, rfl, inlX5, by decide, mf_RX5_11, by decide, by decide⟩
theorem ml_RX5_60 : Cond.methodLink RX5 60 yX9_height ∈ wsL_law := u_r18 _ (List.mem_of_getElem? (i := 23) rfl)
theorem gX5_foretold_38 : u_gf cX5_foretold RX5 38 5 4 := ⟨36, RX5, TX5, 6, dX5_foretold_38, rfl, inlX5, by decide, mf_RX5_36, by decide, by decide⟩
theorem gX5_foretold_45 : u_gf cX5_foretold RX5 45 5 1 := ⟨19, RX5, TX5, 6, dX5_foretold_45, rfl, inlX5, by decide, mf_RX5_19, by decide, by decide⟩
theorem gX5_foretold_50 : u_gf cX5_foretold RX5 50 7 0 := ⟨51, RX7, TX7, 3, dX5_foretold_50, rfl, inlX7, by decide, mf_RX5_51, by decide, by decide⟩
theorem gX5_foretold_59 : u_gf cX5_foretold RX5 59 5 1 := ⟨19, RX5, TX5, 6, dX5_foretold_59, rfl, inlX5, by decide, mf_RX5_19, by decide, by decide⟩
theorem gX5_foretold_64 : u_gf cX5_foretold RX5 64 7 1 := ⟨54, RX7, TX7, 3, dX5_foretold_64, rfl, inlX7, by decide, mf_RX5_54, by decide, by decide⟩
theorem gX5_foretold_72 : u_gf cX5_foretold RX5 72 5 1 := ⟨19, RX5, TX5, 6, dX5_foretold_72, rfl, inlX5, by decide, mf_RX5_19, by decide, by decide⟩
theorem gX5_foretold_77 : u_gf cX5_foretold RX5 77 7 2 := ⟨57, RX7, TX7, 3, dX5_foretold_77, rfl, inlX7, by decide, mf_RX5_57, by decide, by decide⟩
theorem ml_RX5_63 : Cond.methodLink RX5 63 yX5_foretold ∈ wsL_law := u_r19 _ (List.mem_of_getElem? (i := 18) rfl)
theorem gX5_keep_6 : u_gf cX5_keep RX5 6 5 2 := ⟨23, RX5, TX5, 6, dX5_keep_6, rfl, inlX5, by decide, mf_RX5_23, by decide, by decide⟩
theorem gX5_keep_14 : u_gf cX5_keep RX5 14 5 2 := ⟨23, RX5, TX5, 6, dX5_keep_14, rfl, inlX5, by decide, mf_RX5_23, by decide, by decide⟩
theorem ml_RX6_3 : Cond.methodLink RX6 3 objectInit ∈ wsL_law := u_r4 _ (List.mem_of_getElem? (i := 6) rfl)
theorem mf_RX6_12 : Cond.fieldLink RX6 12 "Saltwedge$Section" "up" "LSaltwedge$Layer;" ∈ wsL_law := u_r4 _ (List.mem_of_getElem? (i := 10) rfl)
theorem pX6_init_12 : u_pf cX6_init RX6 12 6 0 true (.object "Saltwedge$Layer") := ⟨12, RX6, TX6, 8, tyX6, dX6_init_12, rfl, inlX6, tyX6_ok, nmX6, by decide, mf_RX6_12, by decide, by decide, rfl, by decide +kernel, fun h => rfl⟩
theorem mf_RX6_18 : Cond.fieldLink RX6 18 "Saltwedge$Section" "low" "LSaltwedge$Layer;" ∈ wsL_law := u_r4 _ (List.mem_of_getElem? (i := 11) rfl)
theorem pX6_init_23 : u_pf cX6_init RX6 23 6 1 true (.object "Saltwedge$Layer") := ⟨18, RX6, TX6, 8, tyX6, dX6_init_23, rfl, inlX6, tyX6_ok, nmX6, by decide, mf_RX6_18, by decide, by decide, rfl, by decide +kernel, fun h => rfl⟩
theorem mf_RX6_21 : Cond.fieldLink RX6 21 "Saltwedge$Section" "lowAtEnd" "[I" ∈ wsL_law := u_r4 _ (List.mem_of_getElem? (i := 12) rfl)
theorem pX6_init_31 : u_pf cX6_init RX6 31 6 2 true (.array (.int)) := ⟨21, RX6, TX6, 8, tyX6, dX6_init_31, rfl, inlX6, tyX6_ok, nmX6, by decide, mf_RX6_21, by decide, by decide, rfl, by decide +kernel, fun h => rfl⟩
theorem mf_RX6_25 : Cond.fieldLink RX6 25 "Saltwedge$Section" "area" "I" ∈ wsL_law := u_r4 _ (List.mem_of_getElem? (i := 13) rfl)
theorem pX6_init_36 : u_pf cX6_init RX6 36 6 3 false (.int) := ⟨25, RX6, TX6, 8, tyX6, dX6_init_36, rfl, inlX6, tyX6_ok, nmX6, by decide, mf_RX6_25, by decide, by decide, rfl, by decide +kernel, fun h => nomatch h⟩
theorem pX6_begin_2 : u_pf cX6_begin RX6 2 6 3 false (.int) := ⟨25, RX6, TX6, 8, tyX6, dX6_begin_2, rfl, inlX6, tyX6_ok, nmX6, by decide, mf_RX6_25, by decide, by decide, rfl, by decide +kernel, fun h => nomatch h⟩
theorem mf_RX6_29 : Cond.fieldLink RX6 29 "Saltwedge$Section" "mud" "I" ∈ wsL_law := u_r9 _ (List.mem_of_getElem? (i := 5) rfl)
theorem pX6_begin_8 : u_pf cX6_begin RX6 8 6 4 false (.int) := ⟨29, RX6, TX6, 8, tyX6, dX6_begin_8, rfl, inlX6, tyX6_ok, nmX6, by decide, mf_RX6_29, by decide, by decide, rfl, by decide +kernel, fun h => nomatch h⟩
theorem gX6_begin_12 : u_gf cX6_begin RX6 12 6 0 := ⟨12, RX6, TX6, 8, dX6_begin_12, rfl, inlX6, by decide, mf_RX6_12, by decide, by decide⟩
theorem ml_RX6_32 : Cond.methodLink RX6 32 yX2_begin ∈ wsL_law := u_r9 _ (List.mem_of_getElem? (i := 9) rfl)
theorem gX6_begin_20 : u_gf cX6_begin RX6 20 6 1 := ⟨18, RX6, TX6, 8, dX6_begin_20, rfl, inlX6, by decide, mf_RX6_18, by decide, by decide⟩
theorem mf_RX6_36 : Cond.fieldLink RX6 36 "Saltwedge$Section" "cloud" "I" ∈ wsL_law := u_r9 _ (List.mem_of_getElem? (i := 6) rfl)
theorem pX6_begin_29 : u_pf cX6_begin RX6 29 6 5 false (.int) := ⟨36, RX6, TX6, 8, tyX6, dX6_begin_29, rfl, inlX6, tyX6_ok, nmX6, by decide, mf_RX6_36, by decide, by decide, rfl, by decide +kernel, fun h => nomatch h⟩
theorem mf_RX6_39 : Cond.fieldLink RX6 39 "Saltwedge$Section" "run" "I" ∈ wsL_law := u_r9 _ (List.mem_of_getElem? (i := 7) rfl)
theorem pX6_begin_34 : u_pf cX6_begin RX6 34 6 6 false (.int) := ⟨39, RX6, TX6, 8, tyX6, dX6_begin_34, rfl, inlX6, tyX6_ok, nmX6, by decide, mf_RX6_39, by decide, by decide, rfl, by decide +kernel, fun h => nomatch h⟩
theorem mf_RX6_42 : Cond.fieldLink RX6 42 "Saltwedge$Section" "permit" "I" ∈ wsL_law := u_r9 _ (List.mem_of_getElem? (i := 8) rfl)
theorem pX6_begin_39 : u_pf cX6_begin RX6 39 6 7 false (.int) := ⟨42, RX6, TX6, 8, tyX6, dX6_begin_39, rfl, inlX6, tyX6_ok, nmX6, by decide, mf_RX6_42, by decide, by decide, rfl, by decide +kernel, fun h => nomatch h⟩
theorem gX6_bed_1 : u_gf cX6_bed RX6 1 6 3 := ⟨25, RX6, TX6, 8, dX6_bed_1, rfl, inlX6, by decide, mf_RX6_25, by decide, by decide⟩
theorem gX6_bed_12 : u_gf cX6_bed RX6 12 6 4 := ⟨29, RX6, TX6, 8, dX6_bed_12, rfl, inlX6, by decide, mf_RX6_29, by decide, by decide⟩
theorem gX6_bed_16 : u_gf cX6_bed RX6 16 6 3 := ⟨25, RX6, TX6, 8, dX6_bed_16, rfl, inlX6, by decide, mf_RX6_25, by decide, by decide⟩
theorem gX6_level_1 : u_gf cX6_level RX6 1 6 3 := ⟨25, RX6, TX6, 8, dX6_level_1, rfl, inlX6, by decide, mf_RX6_25, by decide, by decide⟩
theorem ml_RX6_45 : Cond.methodLink RX6 45 yX6_bed ∈ wsL_law := u_r20 _ (List.mem_of_getElem? (i := 9) rfl)
theorem gX6_level_16 : u_gf cX6_level RX6 16 6 0 := ⟨12, RX6, TX6, 8, dX6_level_16, rfl, inlX6, by decide, mf_RX6_12, by decide, by decide⟩
theorem mf_RX6_49 : Cond.fieldLink RX6 49 "Saltwedge$Layer" "water" "I" ∈ wsL_law := u_r20 _ (List.mem_of_getElem? (i := 8) rfl)
theorem gX6_level_19 : u_gf cX6_level RX6 19 2 0 := ⟨49, RX2, TX2, 2, dX6_level_19, rfl, inlX2, by decide, mf_RX6_49, by decide, by decide⟩
theorem gX6_level_23 : u_gf cX6_level RX6 23 6 1 := ⟨18, RX6, TX6, 8, dX6_level_23, rfl, inlX6, by decide, mf_RX6_18, by decide, by decide⟩
theorem gX6_level_26 : u_gf cX6_level RX6 26 2 0 := ⟨49, RX2, TX2, 2, dX6_level_26, rfl, inlX2, by decide, mf_RX6_49, by decide, by decide⟩
theorem gX6_level_31 : u_gf cX6_level RX6 31 6 3 := ⟨25, RX6, TX6, 8, dX6_level_31, rfl, inlX6, by decide, mf_RX6_25, by decide, by decide⟩
theorem gX6_giveCloud_2 : u_gf cX6_giveCloud RX6 2 6 5 := ⟨36, RX6, TX6, 8, dX6_giveCloud_2, rfl, inlX6, by decide, mf_RX6_36, by decide, by decide⟩
theorem gX6_giveCloud_6 : u_gf cX6_giveCloud RX6 6 6 0 := ⟨12, RX6, TX6, 8, dX6_giveCloud_6, rfl, inlX6, by decide, mf_RX6_12, by decide, by decide⟩
theorem gX6_giveCloud_9 : u_gf cX6_giveCloud RX6 9 2 0 := ⟨49, RX2, TX2, 2, dX6_giveCloud_9, rfl, inlX2, by decide, mf_RX6_49, by decide, by decide⟩
theorem gX6_giveCloud_18 : u_gf cX6_giveCloud RX6 18 6 5 := ⟨36, RX6, TX6, 8, dX6_giveCloud_18, rfl, inlX6, by decide, mf_RX6_36, by decide, by decide⟩
theorem pX6_giveCloud_23 : u_pf cX6_giveCloud RX6 23 6 5 false (.int) := ⟨36, RX6, TX6, 8, tyX6, dX6_giveCloud_23, rfl, inlX6, tyX6_ok, nmX6, by decide, mf_RX6_36, by decide, by decide, rfl, by decide +kernel, fun h => nomatch h⟩
theorem gX6_refusal_1 : u_gf cX6_refusal RX6 1 6 7 := ⟨42, RX6, TX6, 8, dX6_refusal_1, rfl, inlX6, by decide, mf_RX6_42, by decide, by decide⟩
theorem gX6_refusal_11 : u_gf cX6_refusal RX6 11 6 7 := ⟨42, RX6, TX6, 8, dX6_refusal_11, rfl, inlX6, by decide, mf_RX6_42, by decide, by decide⟩
theorem gX6_refusal_20 : u_gf cX6_refusal RX6 20 6 4 := ⟨29, RX6, TX6, 8, dX6_refusal_20, rfl, inlX6, by decide, mf_RX6_29, by decide, by decide⟩
theorem gX6_mix_1 : u_gf cX6_mix RX6 1 6 6 := ⟨39, RX6, TX6, 8, dX6_mix_1, rfl, inlX6, by decide, mf_RX6_39, by decide, by decide⟩
theorem gX6_mix_11 : u_gf cX6_mix RX6 11 6 0 := ⟨12, RX6, TX6, 8, dX6_mix_11, rfl, inlX6, by decide, mf_RX6_12, by decide, by decide⟩
theorem gX6_mix_14 : u_gf cX6_mix RX6 14 2 0 := ⟨49, RX2, TX2, 2, dX6_mix_14, rfl, inlX2, by decide, mf_RX6_49, by decide, by decide⟩
theorem gX6_mix_18 : u_gf cX6_mix RX6 18 6 1 := ⟨18, RX6, TX6, 8, dX6_mix_18, rfl, inlX6, by decide, mf_RX6_18, by decide, by decide⟩
theorem gX6_mix_21 : u_gf cX6_mix RX6 21 2 0 := ⟨49, RX2, TX2, 2, dX6_mix_21, rfl, inlX2, by decide, mf_RX6_49, by decide, by decide⟩
theorem ml_RX6_56 : Cond.methodLink RX6 56 Lib.Math.min.name ∈ wsL_law := u_r22 _ (List.mem_of_getElem? (i := 7) rfl)
theorem gX6_mix_31 : u_gf cX6_mix RX6 31 6 1 := ⟨18, RX6, TX6, 8, dX6_mix_31, rfl, inlX6, by decide, mf_RX6_18, by decide, by decide⟩
theorem ml_RX6_62 : Cond.methodLink RX6 62 yX2_saltWith ∈ wsL_law := u_r22 _ (List.mem_of_getElem? (i := 9) rfl)
theorem gX6_mix_39 : u_gf cX6_mix RX6 39 6 0 := ⟨12, RX6, TX6, 8, dX6_mix_39, rfl, inlX6, by decide, mf_RX6_12, by decide, by decide⟩
theorem gX6_mix_53 : u_gf cX6_mix RX6 53 6 1 := ⟨18, RX6, TX6, 8, dX6_mix_53, rfl, inlX6, by decide, mf_RX6_18, by decide, by decide⟩
theorem mf_RX6_66 : Cond.fieldLink RX6 66 "Saltwedge$Layer" "salt" "I" ∈ wsL_law := u_r22 _ (List.mem_of_getElem? (i := 8) rfl)
theorem gX6_mix_57 : u_gf cX6_mix RX6 57 2 1 := ⟨66, RX2, TX2, 2, dX6_mix_57, rfl, inlX2, by decide, mf_RX6_66, by decide, by decide⟩
theorem pX6_mix_62 : u_pf cX6_mix RX6 62 2 1 false (.int) := ⟨66, RX2, TX2, 2, tyX2, dX6_mix_62, rfl, inlX2, tyX2_ok, nmX2, by decide, mf_RX6_66, by decide, by decide, rfl, by decide +kernel, fun h => nomatch h⟩
theorem gX6_mix_66 : u_gf cX6_mix RX6 66 6 0 := ⟨12, RX6, TX6, 8, dX6_mix_66, rfl, inlX6, by decide, mf_RX6_12, by decide, by decide⟩
theorem gX6_mix_70 : u_gf cX6_mix RX6 70 2 1 := ⟨66, RX2, TX2, 2, dX6_mix_70, rfl, inlX2, by decide, mf_RX6_66, by decide, by decide⟩
theorem pX6_mix_75 : u_pf cX6_mix RX6 75 2 1 false (.int) := ⟨66, RX2, TX2, 2, tyX2, dX6_mix_75, rfl, inlX2, tyX2_ok, nmX2, by decide, mf_RX6_66, by decide, by decide, rfl, by decide +kernel, fun h => nomatch h⟩
theorem gX6_settleOrLift_1 : u_gf cX6_settleOrLift RX6 1 6 6 := ⟨39, RX6, TX6, 8, dX6_settleOrLift_1, rfl, inlX6, by decide, mf_RX6_39, by decide, by decide⟩
theorem gX6_settleOrLift_10 : u_gf cX6_settleOrLift RX6 10 6 5 := ⟨36, RX6, TX6, 8, dX6_settleOrLift_10, rfl, inlX6, by decide, mf_RX6_36, by decide, by decide⟩
theorem gX6_settleOrLift_14 : u_gf cX6_settleOrLift RX6 14 6 5 := ⟨36, RX6, TX6, 8, dX6_settleOrLift_14, rfl, inlX6, by decide, mf_RX6_36, by decide, by decide⟩
theorem gX6_settleOrLift_23 : u_gf cX6_settleOrLift RX6 23 6 5 := ⟨36, RX6, TX6, 8, dX6_settleOrLift_23, rfl, inlX6, by decide, mf_RX6_36, by decide, by decide⟩
theorem pX6_settleOrLift_28 : u_pf cX6_settleOrLift RX6 28 6 5 false (.int) := ⟨36, RX6, TX6, 8, tyX6, dX6_settleOrLift_28, rfl, inlX6, tyX6_ok, nmX6, by decide, mf_RX6_36, by decide, by decide, rfl, by decide +kernel, fun h => nomatch h⟩
theorem gX6_settleOrLift_33 : u_gf cX6_settleOrLift RX6 33 6 4 := ⟨29, RX6, TX6, 8, dX6_settleOrLift_33, rfl, inlX6, by decide, mf_RX6_29, by decide, by decide⟩
theorem pX6_settleOrLift_38 : u_pf cX6_settleOrLift RX6 38 6 4 false (.int) := ⟨29, RX6, TX6, 8, tyX6, dX6_settleOrLift_38, rfl, inlX6, tyX6_ok, nmX6, by decide, mf_RX6_29, by decide, by decide, rfl, by decide +kernel, fun h => nomatch h⟩
theorem gX6_settleOrLift_45 : u_gf cX6_settleOrLift RX6 45 6 6 := ⟨39, RX6, TX6, 8, dX6_settleOrLift_45, rfl, inlX6, by decide, mf_RX6_39, by decide, by decide⟩
theorem gX6_settleOrLift_54 : u_gf cX6_settleOrLift RX6 54 6 6 := ⟨39, RX6, TX6, 8, dX6_settleOrLift_54, rfl, inlX6, by decide, mf_RX6_39, by decide, by decide⟩
theorem gX6_settleOrLift_61 : u_gf cX6_settleOrLift RX6 61 6 4 := ⟨29, RX6, TX6, 8, dX6_settleOrLift_61, rfl, inlX6, by decide, mf_RX6_29, by decide, by decide⟩
theorem gX6_settleOrLift_70 : u_gf cX6_settleOrLift RX6 70 6 4 := ⟨29, RX6, TX6, 8, dX6_settleOrLift_70, rfl, inlX6, by decide, mf_RX6_29, by decide, by decide⟩
theorem pX6_settleOrLift_75 : u_pf cX6_settleOrLift RX6 75 6 4 false (.int) := ⟨29, RX6, TX6, 8, tyX6, dX6_settleOrLift_75, rfl, inlX6, tyX6_ok, nmX6, by decide, mf_RX6_29, by decide, by decide, rfl, by decide +kernel, fun h => nomatch h⟩
theorem gX6_settleOrLift_80 : u_gf cX6_settleOrLift RX6 80 6 5 := ⟨36, RX6, TX6, 8, dX6_settleOrLift_80, rfl, inlX6, by decide, mf_RX6_36, by decide, by decide⟩
theorem pX6_settleOrLift_85 : u_pf cX6_settleOrLift RX6 85 6 5 false (.int) := ⟨36, RX6, TX6, 8, tyX6, dX6_settleOrLift_85, rfl, inlX6, tyX6_ok, nmX6, by decide, mf_RX6_36, by decide, by decide, rfl, by decide +kernel, fun h => nomatch h⟩
theorem gX6_endHour_1 : u_gf cX6_endHour RX6 1 6 2 := ⟨21, RX6, TX6, 8, dX6_endHour_1, rfl, inlX6, by decide, mf_RX6_21, by decide, by decide⟩
theorem ml_RX6_69 : Cond.methodLink RX6 69 yJ9_floorMod_7cf53 ∈ wsL_law := u_r23 _ (List.mem_of_getElem? (i := 14) rfl)
theorem gX6_endHour_11 : u_gf cX6_endHour RX6 11 6 1 := ⟨18, RX6, TX6, 8, dX6_endHour_11, rfl, inlX6, by decide, mf_RX6_18, by decide, by decide⟩
theorem ml_RX6_72 : Cond.methodLink RX6 72 yX2_salinity ∈ wsL_law := u_r23 _ (List.mem_of_getElem? (i := 18) rfl)
theorem ml_RX6_75 : Cond.methodLink RX6 75 Lib.Math.max.name ∈ wsL_law := u_r30 _ (List.mem_of_getElem? (i := 21) rfl)
theorem gX6_wasFresher_16 : u_gf cX6_wasFresher RX6 16 6 2 := ⟨21, RX6, TX6, 8, dX6_wasFresher_16, rfl, inlX6, by decide, mf_RX6_21, by decide, by decide⟩
theorem gX6_answer_53 : u_gf cX6_answer RX6 53 6 0 := ⟨12, RX6, TX6, 8, dX6_answer_53, rfl, inlX6, by decide, mf_RX6_12, by decide, by decide⟩
theorem gX6_answer_56 : u_gf cX6_answer RX6 56 2 0 := ⟨49, RX2, TX2, 2, dX6_answer_56, rfl, inlX2, by decide, mf_RX6_49, by decide, by decide⟩
theorem gX6_answer_61 : u_gf cX6_answer RX6 61 6 0 := ⟨12, RX6, TX6, 8, dX6_answer_61, rfl, inlX6, by decide, mf_RX6_12, by decide, by decide⟩
theorem gX6_answer_64 : u_gf cX6_answer RX6 64 2 1 := ⟨66, RX2, TX2, 2, dX6_answer_64, rfl, inlX2, by decide, mf_RX6_66, by decide, by decide⟩
theorem gX6_answer_69 : u_gf cX6_answer RX6 69 6 1 := ⟨18, RX6, TX6, 8, dX6_answer_69, rfl, inlX6, by decide, mf_RX6_18, by decide, by decide⟩
theorem gX6_answer_72 : u_gf cX6_answer RX6 72 2 0 := ⟨49, RX2, TX2, 2, dX6_answer_72, rfl, inlX2, by decide, mf_RX6_49, by decide, by decide⟩
theorem gX6_answer_77 : u_gf cX6_answer RX6 77 6 1 := ⟨18, RX6, TX6, 8, dX6_answer_77, rfl, inlX6, by decide, mf_RX6_18, by decide, by decide⟩
theorem gX6_answer_80 : u_gf cX6_answer RX6 80 2 1 := ⟨66, RX2, TX2, 2, dX6_answer_80, rfl, inlX2, by decide, mf_RX6_66, by decide, by decide⟩
theorem gX6_answer_85 : u_gf cX6_answer RX6 85 6 5 := ⟨36, RX6, TX6, 8, dX6_answer_85, rfl, inlX6, by decide, mf_RX6_36, by decide, by decide⟩
theorem gX6_answer_90 : u_gf cX6_answer RX6 90 6 4 := ⟨29, RX6, TX6, 8, dX6_answer_90, rfl, inlX6, by decide, mf_RX6_29, by decide, by decide⟩
theorem ml_RX6_78 : Cond.methodLink RX6 78 yX6_level ∈ wsL_law := u_r28 _ (List.mem_of_getElem? (i := 8) rfl)
theorem gX6_answer_100 : u_gf cX6_answer RX6 100 6 0 := ⟨12, RX6, TX6, 8, dX6_answer_100, rfl, inlX6, by decide, mf_RX6_12, by decide, by decide⟩
theorem gX6_answer_108 : u_gf cX6_answer RX6 108 6 1 := ⟨18, RX6, TX6, 8, dX6_answer_108, rfl, inlX6, by decide, mf_RX6_18, by decide, by decide⟩
theorem gX6_answer_116 : u_gf cX6_answer RX6 116 6 6 := ⟨39, RX6, TX6, 8, dX6_answer_116, rfl, inlX6, by decide, mf_RX6_39, by decide, by decide⟩
theorem ml_RX7_1 : Cond.methodLink RX7 1 objectInit ∈ wsL_law := u_r3 _ (List.mem_of_getElem? (i := 19) rfl)
theorem ml_RX8_3 : Cond.methodLink RX8 3 objectInit ∈ wsL_law := u_r4 _ (List.mem_of_getElem? (i := 22) rfl)
theorem mf_RX8_11 : Cond.fieldLink RX8 11 "Saltwedge$Told" "rows" "[I" ∈ wsL_law := u_r4 _ (List.mem_of_getElem? (i := 23) rfl)
theorem pX8_init_10 : u_pf cX8_init RX8 10 8 0 true (.array (.int)) := ⟨11, RX8, TX8, 2, tyX8, dX8_init_10, rfl, inlX8, tyX8_ok, nmX8, by decide, mf_RX8_11, by decide, by decide, rfl, by decide +kernel, fun h => rfl⟩
theorem mf_RX8_15 : Cond.fieldLink RX8 15 "Saltwedge$Told" "count" "I" ∈ wsL_law := u_r7 _ (List.mem_of_getElem? (i := 17) rfl)
theorem gX8_keep_1 : u_gf cX8_keep RX8 1 8 1 := ⟨15, RX8, TX8, 2, dX8_keep_1, rfl, inlX8, by decide, mf_RX8_15, by decide, by decide⟩
theorem gX8_keep_12 : u_gf cX8_keep RX8 12 8 1 := ⟨15, RX8, TX8, 2, dX8_keep_12, rfl, inlX8, by decide, mf_RX8_15, by decide, by decide⟩
theorem gX8_keep_21 : u_gf cX8_keep RX8 21 8 0 := ⟨11, RX8, TX8, 2, dX8_keep_21, rfl, inlX8, by decide, mf_RX8_11, by decide, by decide⟩
theorem gX8_keep_31 : u_gf cX8_keep RX8 31 8 0 := ⟨11, RX8, TX8, 2, dX8_keep_31, rfl, inlX8, by decide, mf_RX8_11, by decide, by decide⟩
theorem gX8_keep_41 : u_gf cX8_keep RX8 41 8 0 := ⟨11, RX8, TX8, 2, dX8_keep_41, rfl, inlX8, by decide, mf_RX8_11, by decide, by decide⟩
theorem gX8_keep_51 : u_gf cX8_keep RX8 51 8 0 := ⟨11, RX8, TX8, 2, dX8_keep_51, rfl, inlX8, by decide, mf_RX8_11, by decide, by decide⟩
theorem gX8_keep_64 : u_gf cX8_keep RX8 64 8 0 := ⟨11, RX8, TX8, 2, dX8_keep_64, rfl, inlX8, by decide, mf_RX8_11, by decide, by decide⟩
theorem gX8_keep_77 : u_gf cX8_keep RX8 77 8 0 := ⟨11, RX8, TX8, 2, dX8_keep_77, rfl, inlX8, by decide, mf_RX8_11, by decide, by decide⟩
theorem gX8_keep_90 : u_gf cX8_keep RX8 90 8 0 := ⟨11, RX8, TX8, 2, dX8_keep_90, rfl, inlX8, by decide, mf_RX8_11, by decide, by decide⟩
theorem gX8_keep_104 : u_gf cX8_keep RX8 104 8 1 := ⟨15, RX8, TX8, 2, dX8_keep_104, rfl, inlX8, by decide, mf_RX8_15, by decide, by decide⟩
theorem pX8_keep_109 : u_pf cX8_keep RX8 109 8 1 false (.int) := ⟨15, RX8, TX8, 2, tyX8, dX8_keep_109, rfl, inlX8, tyX8_ok, nmX8, by decide, mf_RX8_15, by decide, by decide, rfl, by decide +kernel, fun h => nomatch h⟩
theorem gX8_part_13 : u_gf cX8_part RX8 13 8 0 := ⟨11, RX8, TX8, 2, dX8_part_13, rfl, inlX8, by decide, mf_RX8_11, by decide, by decide⟩
theorem gX8_part_21 : u_gf cX8_part RX8 21 8 0 := ⟨11, RX8, TX8, 2, dX8_part_21, rfl, inlX8, by decide, mf_RX8_11, by decide, by decide⟩
theorem ml_RX9_1 : Cond.methodLink RX9 1 objectInit ∈ wsL_law := u_r3 _ (List.mem_of_getElem? (i := 16) rfl)
theorem mf_RX9_7 : Cond.fieldLink RX9 7 "Saltwedge$Turn" "rise" "I" ∈ wsL_law := u_r19 _ (List.mem_of_getElem? (i := 3) rfl)
theorem gX9_height_1 : u_gf cX9_height RX9 1 9 1 := ⟨7, RX9, TX9, 4, dX9_height_1, rfl, inlX9, by decide, mf_RX9_7, by decide, by decide⟩
theorem mf_RX9_13 : Cond.fieldLink RX9 13 "Saltwedge$Turn" "period" "I" ∈ wsL_law := u_r19 _ (List.mem_of_getElem? (i := 4) rfl)
theorem gX9_height_8 : u_gf cX9_height RX9 8 9 0 := ⟨13, RX9, TX9, 4, dX9_height_8, rfl, inlX9, by decide, mf_RX9_13, by decide, by decide⟩
theorem gX9_height_12 : u_gf cX9_height RX9 12 9 1 := ⟨7, RX9, TX9, 4, dX9_height_12, rfl, inlX9, by decide, mf_RX9_7, by decide, by decide⟩
theorem mf_RX9_16 : Cond.fieldLink RX9 16 "Saltwedge$Turn" "phase" "I" ∈ wsL_law := u_r19 _ (List.mem_of_getElem? (i := 5) rfl)
theorem gX9_height_22 : u_gf cX9_height RX9 22 9 3 := ⟨16, RX9, TX9, 4, dX9_height_22, rfl, inlX9, by decide, mf_RX9_16, by decide, by decide⟩
theorem gX9_height_27 : u_gf cX9_height RX9 27 9 0 := ⟨13, RX9, TX9, 4, dX9_height_27, rfl, inlX9, by decide, mf_RX9_13, by decide, by decide⟩
theorem gX9_height_34 : u_gf cX9_height RX9 34 9 1 := ⟨7, RX9, TX9, 4, dX9_height_34, rfl, inlX9, by decide, mf_RX9_7, by decide, by decide⟩
theorem mf_RX9_19 : Cond.fieldLink RX9 19 "Saltwedge$Turn" "range" "I" ∈ wsL_law := u_r19 _ (List.mem_of_getElem? (i := 6) rfl)
theorem gX9_height_41 : u_gf cX9_height RX9 41 9 2 := ⟨19, RX9, TX9, 4, dX9_height_41, rfl, inlX9, by decide, mf_RX9_19, by decide, by decide⟩
theorem gX9_height_47 : u_gf cX9_height RX9 47 9 1 := ⟨7, RX9, TX9, 4, dX9_height_47, rfl, inlX9, by decide, mf_RX9_7, by decide, by decide⟩
theorem gX9_height_55 : u_gf cX9_height RX9 55 9 2 := ⟨19, RX9, TX9, 4, dX9_height_55, rfl, inlX9, by decide, mf_RX9_19, by decide, by decide⟩
theorem gX9_height_59 : u_gf cX9_height RX9 59 9 0 := ⟨13, RX9, TX9, 4, dX9_height_59, rfl, inlX9, by decide, mf_RX9_13, by decide, by decide⟩
theorem gX9_height_66 : u_gf cX9_height RX9 66 9 0 := ⟨13, RX9, TX9, 4, dX9_height_66, rfl, inlX9, by decide, mf_RX9_13, by decide, by decide⟩
theorem gX9_height_70 : u_gf cX9_height RX9 70 9 1 := ⟨7, RX9, TX9, 4, dX9_height_70, rfl, inlX9, by decide, mf_RX9_7, by decide, by decide⟩
theorem ml_RX10_1 : Cond.methodLink RX10 1 objectInit ∈ wsL_law := u_r1 _ (List.mem_of_getElem? (i := 10) rfl)
theorem ml_RX10_9 : Cond.methodLink RX10 9 yX3_init ∈ wsL_law := u_r2 _ (List.mem_of_getElem? (i := 2) rfl)
theorem mf_RX10_10 : Cond.fieldLink RX10 10 "Saltwedge" "live" "LSaltwedge$Mouth;" ∈ wsL_law := u_r1 _ (List.mem_of_getElem? (i := 16) rfl)
theorem pX10_init_12 : u_pf cX10_init RX10 12 10 0 true (.object "Saltwedge$Mouth") := ⟨10, RX10, TX10, 5, tyX10, dX10_init_12, rfl, inlX10, tyX10_ok, nmX10, by decide, mf_RX10_10, by decide, by decide, rfl, by decide +kernel, fun h => rfl⟩
theorem mf_RX10_16 : Cond.fieldLink RX10 16 "Saltwedge" "anew" "LSaltwedge$Mouth;" ∈ wsL_law := u_r1 _ (List.mem_of_getElem? (i := 17) rfl)
theorem pX10_init_23 : u_pf cX10_init RX10 23 10 1 true (.object "Saltwedge$Mouth") := ⟨16, RX10, TX10, 5, tyX10, dX10_init_23, rfl, inlX10, tyX10_ok, nmX10, by decide, mf_RX10_16, by decide, by decide, rfl, by decide +kernel, fun h => rfl⟩
theorem mf_RX10_22 : Cond.fieldLink RX10 22 "Saltwedge" "told" "LSaltwedge$Told;" ∈ wsL_law := u_r1 _ (List.mem_of_getElem? (i := 21) rfl)
theorem pX10_init_34 : u_pf cX10_init RX10 34 10 2 true (.object "Saltwedge$Told") := ⟨22, RX10, TX10, 5, tyX10, dX10_init_34, rfl, inlX10, tyX10_ok, nmX10, by decide, mf_RX10_22, by decide, by decide, rfl, by decide +kernel, fun h => rfl⟩
theorem mf_RX10_28 : Cond.fieldLink RX10 28 "Saltwedge" "oysters" "[LSaltwedge$Oysters;" ∈ wsL_law := u_r1 _ (List.mem_of_getElem? (i := 23) rfl)
theorem pX10_init_43 : u_pf cX10_init RX10 43 10 3 true (.array (.object "Saltwedge$Oysters")) := ⟨28, RX10, TX10, 5, tyX10, dX10_init_43, rfl, inlX10, tyX10_ok, nmX10, by decide, mf_RX10_28, by decide, by decide, rfl, by decide +kernel, fun h => rfl⟩
theorem gX10_init_50 : u_gf cX10_init RX10 50 10 3 := ⟨28, RX10, TX10, 5, dX10_init_50, rfl, inlX10, by decide, mf_RX10_28, by decide, by decide⟩
theorem gX10_init_58 : u_gf cX10_init RX10 58 10 3 := ⟨28, RX10, TX10, 5, dX10_init_58, rfl, inlX10, by decide, mf_RX10_28, by decide, by decide⟩
theorem ml_RX10_33 : Cond.methodLink RX10 33 yX10_within ∈ wsL_law := u_r7 _ (List.mem_of_getElem? (i := 5) rfl)
theorem gX10_turn_63 : u_gf cX10_turn RX10 63 10 0 := ⟨10, RX10, TX10, 5, dX10_turn_63, rfl, inlX10, by decide, mf_RX10_10, by decide, by decide⟩
theorem mf_RX10_46 : Cond.fieldLink RX10 46 "Saltwedge$Mouth" "sea" "LSaltwedge$Sea;" ∈ wsL_law := u_r7 _ (List.mem_of_getElem? (i := 3) rfl)
theorem gX10_turn_66 : u_gf cX10_turn RX10 66 3 0 := ⟨46, RX3, TX3, 10, dX10_turn_66, rfl, inlX3, by decide, mf_RX10_46, by decide, by decide⟩
theorem mf_RX10_50 : Cond.fieldLink RX10 50 "Saltwedge$Sea" "turnCount" "I" ∈ wsL_law := u_r7 _ (List.mem_of_getElem? (i := 4) rfl)
theorem gX10_turn_69 : u_gf cX10_turn RX10 69 5 3 := ⟨50, RX5, TX5, 6, dX10_turn_69, rfl, inlX5, by decide, mf_RX10_50, by decide, by decide⟩
theorem gX10_turn_88 : u_gf cX10_turn RX10 88 10 0 := ⟨10, RX10, TX10, 5, dX10_turn_88, rfl, inlX10, by decide, mf_RX10_10, by decide, by decide⟩
theorem gX10_turn_91 : u_gf cX10_turn RX10 91 3 0 := ⟨46, RX3, TX3, 10, dX10_turn_91, rfl, inlX3, by decide, mf_RX10_46, by decide, by decide⟩
theorem gX10_turn_94 : u_gf cX10_turn RX10 94 5 3 := ⟨50, RX5, TX5, 6, dX10_turn_94, rfl, inlX5, by decide, mf_RX10_50, by decide, by decide⟩
theorem ml_RX10_61 : Cond.methodLink RX10 61 yX10_tell ∈ wsL_law := u_r7 _ (List.mem_of_getElem? (i := 8) rfl)
theorem gX10_mean_21 : u_gf cX10_mean RX10 21 10 0 := ⟨10, RX10, TX10, 5, dX10_mean_21, rfl, inlX10, by decide, mf_RX10_10, by decide, by decide⟩
theorem gX10_mean_24 : u_gf cX10_mean RX10 24 3 0 := ⟨46, RX3, TX3, 10, dX10_mean_24, rfl, inlX3, by decide, mf_RX10_46, by decide, by decide⟩
theorem mf_RX10_67 : Cond.fieldLink RX10 67 "Saltwedge$Sea" "mean" "I" ∈ wsL_law := u_r12 _ (List.mem_of_getElem? (i := 1) rfl)
theorem gX10_mean_27 : u_gf cX10_mean RX10 27 5 5 := ⟨67, RX5, TX5, 6, dX10_mean_27, rfl, inlX5, by decide, mf_RX10_67, by decide, by decide⟩
theorem gX10_surge_2 : u_gf cX10_surge RX10 2 10 0 := ⟨10, RX10, TX10, 5, dX10_surge_2, rfl, inlX10, by decide, mf_RX10_10, by decide, by decide⟩
theorem mf_RX10_70 : Cond.fieldLink RX10 70 "Saltwedge$Mouth" "now" "I" ∈ wsL_law := u_r7 _ (List.mem_of_getElem? (i := 12) rfl)
theorem gX10_surge_5 : u_gf cX10_surge RX10 5 3 9 := ⟨70, RX3, TX3, 10, dX10_surge_5, rfl, inlX3, by decide, mf_RX10_70, by decide, by decide⟩
theorem gX10_surge_50 : u_gf cX10_surge RX10 50 10 0 := ⟨10, RX10, TX10, 5, dX10_surge_50, rfl, inlX10, by decide, mf_RX10_10, by decide, by decide⟩
theorem gX10_surge_53 : u_gf cX10_surge RX10 53 3 0 := ⟨46, RX3, TX3, 10, dX10_surge_53, rfl, inlX3, by decide, mf_RX10_46, by decide, by decide⟩
theorem mf_RX10_75 : Cond.fieldLink RX10 75 "Saltwedge$Sea" "surgeCount" "I" ∈ wsL_law := u_r12 _ (List.mem_of_getElem? (i := 13) rfl)
theorem gX10_surge_56 : u_gf cX10_surge RX10 56 5 4 := ⟨75, RX5, TX5, 6, dX10_surge_56, rfl, inlX5, by decide, mf_RX10_75, by decide, by decide⟩
theorem gX10_surge_85 : u_gf cX10_surge RX10 85 10 0 := ⟨10, RX10, TX10, 5, dX10_surge_85, rfl, inlX10, by decide, mf_RX10_10, by decide, by decide⟩
theorem gX10_surge_88 : u_gf cX10_surge RX10 88 3 0 := ⟨46, RX3, TX3, 10, dX10_surge_88, rfl, inlX3, by decide, mf_RX10_46, by decide, by decide⟩
theorem gX10_surge_91 : u_gf cX10_surge RX10 91 5 4 := ⟨75, RX5, TX5, 6, dX10_surge_91, rfl, inlX5, by decide, mf_RX10_75, by decide, by decide⟩
theorem gX10_river_33 : u_gf cX10_river RX10 33 10 0 := ⟨10, RX10, TX10, 5, dX10_river_33, rfl, inlX10, by decide, mf_RX10_10, by decide, by decide⟩
theorem mf_RX10_82 : Cond.fieldLink RX10 82 "Saltwedge$Mouth" "riverWater" "I" ∈ wsL_law := u_r13 _ (List.mem_of_getElem? (i := 3) rfl)
theorem gX10_river_36 : u_gf cX10_river RX10 36 3 7 := ⟨82, RX3, TX3, 10, dX10_river_36, rfl, inlX3, by decide, mf_RX10_82, by decide, by decide⟩
theorem gX10_barrier_37 : u_gf cX10_barrier RX10 37 10 0 := ⟨10, RX10, TX10, 5, dX10_barrier_37, rfl, inlX10, by decide, mf_RX10_10, by decide, by decide⟩
theorem mf_RX10_87 : Cond.fieldLink RX10 87 "Saltwedge$Mouth" "barrier" "LSaltwedge$Barrier;" ∈ wsL_law := u_r13 _ (List.mem_of_getElem? (i := 17) rfl)
theorem gX10_barrier_40 : u_gf cX10_barrier RX10 40 3 1 := ⟨87, RX3, TX3, 10, dX10_barrier_40, rfl, inlX3, by decide, mf_RX10_87, by decide, by decide⟩
theorem mf_RX10_91 : Cond.fieldLink RX10 91 "Saltwedge$Barrier" "mark" "I" ∈ wsL_law := u_r13 _ (List.mem_of_getElem? (i := 18) rfl)
theorem gX10_barrier_43 : u_gf cX10_barrier RX10 43 0 4 := ⟨91, RX0, TX0, 7, dX10_barrier_43, rfl, inlX0, by decide, mf_RX10_91, by decide, by decide⟩
theorem gX10_section_65 : u_gf cX10_section RX10 65 10 0 := ⟨10, RX10, TX10, 5, dX10_section_65, rfl, inlX10, by decide, mf_RX10_10, by decide, by decide⟩
theorem mf_RX10_100 : Cond.fieldLink RX10 100 "Saltwedge$Mouth" "sectionCount" "I" ∈ wsL_law := u_r14 _ (List.mem_of_getElem? (i := 7) rfl)
theorem gX10_section_68 : u_gf cX10_section RX10 68 3 5 := ⟨100, RX3, TX3, 10, dX10_section_68, rfl, inlX3, by decide, mf_RX10_100, by decide, by decide⟩
theorem gX10_section_77 : u_gf cX10_section RX10 77 10 0 := ⟨10, RX10, TX10, 5, dX10_section_77, rfl, inlX10, by decide, mf_RX10_10, by decide, by decide⟩
theorem gX10_section_80 : u_gf cX10_section RX10 80 3 9 := ⟨70, RX3, TX3, 10, dX10_section_80, rfl, inlX3, by decide, mf_RX10_70, by decide, by decide⟩
theorem gX10_section_97 : u_gf cX10_section RX10 97 10 0 := ⟨10, RX10, TX10, 5, dX10_section_97, rfl, inlX10, by decide, mf_RX10_10, by decide, by decide⟩
theorem gX10_section_100 : u_gf cX10_section RX10 100 3 5 := ⟨100, RX3, TX3, 10, dX10_section_100, rfl, inlX3, by decide, mf_RX10_100, by decide, by decide⟩
theorem gX10_intake_1 : u_gf cX10_intake RX10 1 10 0 := ⟨10, RX10, TX10, 5, dX10_intake_1, rfl, inlX10, by decide, mf_RX10_10, by decide, by decide⟩
theorem ml_RX10_105 : Cond.methodLink RX10 105 yX3_hasSection ∈ wsL_law := u_r15 _ (List.mem_of_getElem? (i := 0) rfl)
theorem gX10_intake_87 : u_gf cX10_intake RX10 87 10 0 := ⟨10, RX10, TX10, 5, dX10_intake_87, rfl, inlX10, by decide, mf_RX10_10, by decide, by decide⟩
theorem mf_RX10_118 : Cond.fieldLink RX10 118 "Saltwedge$Mouth" "intakeCount" "I" ∈ wsL_law := u_r14 _ (List.mem_of_getElem? (i := 23) rfl)
theorem gX10_intake_90 : u_gf cX10_intake RX10 90 3 6 := ⟨118, RX3, TX3, 10, dX10_intake_90, rfl, inlX3, by decide, mf_RX10_118, by decide, by decide⟩
theorem gX10_intake_109 : u_gf cX10_intake RX10 109 10 0 := ⟨10, RX10, TX10, 5, dX10_intake_109, rfl, inlX10, by decide, mf_RX10_10, by decide, by decide⟩
theorem gX10_intake_112 : u_gf cX10_intake RX10 112 3 6 := ⟨118, RX3, TX3, 10, dX10_intake_112, rfl, inlX3, by decide, mf_RX10_118, by decide, by decide⟩
theorem gX10_oysters_1 : u_gf cX10_oysters RX10 1 10 0 := ⟨10, RX10, TX10, 5, dX10_oysters_1, rfl, inlX10, by decide, mf_RX10_10, by decide, by decide⟩
theorem mf_RX10_125 : Cond.fieldLink RX10 125 "Saltwedge" "oysterCount" "I" ∈ wsL_law := u_r15 _ (List.mem_of_getElem? (i := 17) rfl)
theorem gX10_oysters_52 : u_gf cX10_oysters RX10 52 10 4 := ⟨125, RX10, TX10, 5, dX10_oysters_52, rfl, inlX10, by decide, mf_RX10_125, by decide, by decide⟩
theorem gX10_oysters_71 : u_gf cX10_oysters RX10 71 10 4 := ⟨125, RX10, TX10, 5, dX10_oysters_71, rfl, inlX10, by decide, mf_RX10_125, by decide, by decide⟩
theorem gX10_oysters_77 : u_gf cX10_oysters RX10 77 10 3 := ⟨28, RX10, TX10, 5, dX10_oysters_77, rfl, inlX10, by decide, mf_RX10_28, by decide, by decide⟩
theorem mf_RX10_130 : Cond.fieldLink RX10 130 "Saltwedge$Oysters" "section" "I" ∈ wsL_law := u_r15 _ (List.mem_of_getElem? (i := 18) rfl)
theorem pX10_oysters_84 : u_pf cX10_oysters RX10 84 4 0 false (.int) := ⟨130, RX4, TX4, 3, tyX4, dX10_oysters_84, rfl, inlX4, tyX4_ok, nmX4, by decide, mf_RX10_130, by decide, by decide, rfl, by decide +kernel, fun h => nomatch h⟩
theorem gX10_oysters_88 : u_gf cX10_oysters RX10 88 10 3 := ⟨28, RX10, TX10, 5, dX10_oysters_88, rfl, inlX10, by decide, mf_RX10_28, by decide, by decide⟩
theorem mf_RX10_133 : Cond.fieldLink RX10 133 "Saltwedge$Oysters" "grain" "I" ∈ wsL_law := u_r15 _ (List.mem_of_getElem? (i := 19) rfl)
theorem pX10_oysters_95 : u_pf cX10_oysters RX10 95 4 1 false (.int) := ⟨133, RX4, TX4, 3, tyX4, dX10_oysters_95, rfl, inlX4, tyX4_ok, nmX4, by decide, mf_RX10_133, by decide, by decide, rfl, by decide +kernel, fun h => nomatch h⟩
theorem gX10_oysters_99 : u_gf cX10_oysters RX10 99 10 3 := ⟨28, RX10, TX10, 5, dX10_oysters_99, rfl, inlX10, by decide, mf_RX10_28, by decide, by decide⟩
theorem mf_RX10_136 : Cond.fieldLink RX10 136 "Saltwedge$Oysters" "hours" "I" ∈ wsL_law := u_r15 _ (List.mem_of_getElem? (i := 20) rfl)
theorem pX10_oysters_106 : u_pf cX10_oysters RX10 106 4 2 false (.int) := ⟨136, RX4, TX4, 3, tyX4, dX10_oysters_106, rfl, inlX4, tyX4_ok, nmX4, by decide, mf_RX10_136, by decide, by decide, rfl, by decide +kernel, fun h => nomatch h⟩
theorem pX10_oysters_114 : u_pf cX10_oysters RX10 114 10 4 false (.int) := ⟨125, RX10, TX10, 5, tyX10, dX10_oysters_114, rfl, inlX10, tyX10_ok, nmX10, by decide, mf_RX10_125, by decide, by decide, rfl, by decide +kernel, fun h => nomatch h⟩
theorem gX10_permit_1 : u_gf cX10_permit RX10 1 10 0 := ⟨10, RX10, TX10, 5, dX10_permit_1, rfl, inlX10, by decide, mf_RX10_10, by decide, by decide⟩
theorem gX10_permit_43 : u_gf cX10_permit RX10 43 10 0 := ⟨10, RX10, TX10, 5, dX10_permit_43, rfl, inlX10, by decide, mf_RX10_10, by decide, by decide⟩
theorem mf_RX10_141 : Cond.fieldLink RX10 141 "Saltwedge$Mouth" "sections" "[LSaltwedge$Section;" ∈ wsL_law := u_r16 _ (List.mem_of_getElem? (i := 9) rfl)
theorem gX10_permit_46 : u_gf cX10_permit RX10 46 3 2 := ⟨141, RX3, TX3, 10, dX10_permit_46, rfl, inlX3, by decide, mf_RX10_141, by decide, by decide⟩
theorem mf_RX10_145 : Cond.fieldLink RX10 145 "Saltwedge$Section" "permit" "I" ∈ wsL_law := u_r16 _ (List.mem_of_getElem? (i := 10) rfl)
theorem gX10_permit_51 : u_gf cX10_permit RX10 51 6 7 := ⟨145, RX6, TX6, 8, dX10_permit_51, rfl, inlX6, by decide, mf_RX10_145, by decide, by decide⟩
theorem gX10_whyNot_1 : u_gf cX10_whyNot RX10 1 10 0 := ⟨10, RX10, TX10, 5, dX10_whyNot_1, rfl, inlX10, by decide, mf_RX10_10, by decide, by decide⟩
theorem gX10_whyNot_43 : u_gf cX10_whyNot RX10 43 10 0 := ⟨10, RX10, TX10, 5, dX10_whyNot_43, rfl, inlX10, by decide, mf_RX10_10, by decide, by decide⟩
theorem gX10_whyNot_46 : u_gf cX10_whyNot RX10 46 3 2 := ⟨141, RX3, TX3, 10, dX10_whyNot_46, rfl, inlX3, by decide, mf_RX10_141, by decide, by decide⟩
theorem ml_RX10_150 : Cond.methodLink RX10 150 yX6_refusal ∈ wsL_law := u_r16 _ (List.mem_of_getElem? (i := 22) rfl)
theorem gX10_dredge_1 : u_gf cX10_dredge RX10 1 10 0 := ⟨10, RX10, TX10, 5, dX10_dredge_1, rfl, inlX10, by decide, mf_RX10_10, by decide, by decide⟩
theorem gX10_dredge_17 : u_gf cX10_dredge RX10 17 10 0 := ⟨10, RX10, TX10, 5, dX10_dredge_17, rfl, inlX10, by decide, mf_RX10_10, by decide, by decide⟩
theorem gX10_dredge_64 : u_gf cX10_dredge RX10 64 10 0 := ⟨10, RX10, TX10, 5, dX10_dredge_64, rfl, inlX10, by decide, mf_RX10_10, by decide, by decide⟩
theorem gX10_dredge_67 : u_gf cX10_dredge RX10 67 3 2 := ⟨141, RX3, TX3, 10, dX10_dredge_67, rfl, inlX3, by decide, mf_RX10_141, by decide, by decide⟩
theorem gX10_dredge_101 : u_gf cX10_dredge RX10 101 10 0 := ⟨10, RX10, TX10, 5, dX10_dredge_101, rfl, inlX10, by decide, mf_RX10_10, by decide, by decide⟩
theorem gX10_dredge_104 : u_gf cX10_dredge RX10 104 3 2 := ⟨141, RX3, TX3, 10, dX10_dredge_104, rfl, inlX3, by decide, mf_RX10_141, by decide, by decide⟩
theorem gX10_dredge_109 : u_gf cX10_dredge RX10 109 6 7 := ⟨145, RX6, TX6, 8, dX10_dredge_109, rfl, inlX6, by decide, mf_RX10_145, by decide, by decide⟩
theorem gX10_pass_21 : u_gf cX10_pass RX10 21 10 0 := ⟨10, RX10, TX10, 5, dX10_pass_21, rfl, inlX10, by decide, mf_RX10_10, by decide, by decide⟩
theorem gX10_pass_24 : u_gf cX10_pass RX10 24 3 9 := ⟨70, RX3, TX3, 10, dX10_pass_24, rfl, inlX3, by decide, mf_RX10_70, by decide, by decide⟩
theorem gX10_pass_46 : u_gf cX10_pass RX10 46 10 0 := ⟨10, RX10, TX10, 5, dX10_pass_46, rfl, inlX10, by decide, mf_RX10_10, by decide, by decide⟩
theorem gX10_pass_50 : u_gf cX10_pass RX10 50 10 0 := ⟨10, RX10, TX10, 5, dX10_pass_50, rfl, inlX10, by decide, mf_RX10_10, by decide, by decide⟩
theorem gX10_pass_53 : u_gf cX10_pass RX10 53 3 9 := ⟨70, RX3, TX3, 10, dX10_pass_53, rfl, inlX3, by decide, mf_RX10_70, by decide, by decide⟩
theorem ml_RX10_162 : Cond.methodLink RX10 162 yX3_goOnTo ∈ wsL_law := u_r18 _ (List.mem_of_getElem? (i := 4) rfl)
theorem gX10_pass_62 : u_gf cX10_pass RX10 62 10 0 := ⟨10, RX10, TX10, 5, dX10_pass_62, rfl, inlX10, by decide, mf_RX10_10, by decide, by decide⟩
theorem gX10_pass_65 : u_gf cX10_pass RX10 65 3 9 := ⟨70, RX3, TX3, 10, dX10_pass_65, rfl, inlX3, by decide, mf_RX10_70, by decide, by decide⟩
theorem gX10_now_1 : u_gf cX10_now RX10 1 10 0 := ⟨10, RX10, TX10, 5, dX10_now_1, rfl, inlX10, by decide, mf_RX10_10, by decide, by decide⟩
theorem gX10_now_4 : u_gf cX10_now RX10 4 3 9 := ⟨70, RX3, TX3, 10, dX10_now_4, rfl, inlX3, by decide, mf_RX10_70, by decide, by decide⟩
theorem gX10_sea_22 : u_gf cX10_sea RX10 22 10 0 := ⟨10, RX10, TX10, 5, dX10_sea_22, rfl, inlX10, by decide, mf_RX10_10, by decide, by decide⟩
theorem ml_RX10_168 : Cond.methodLink RX10 168 yX3_seaOf ∈ wsL_law := u_r27 _ (List.mem_of_getElem? (i := 12) rfl)
theorem gX10_ofSection_1 : u_gf cX10_ofSection RX10 1 10 0 := ⟨10, RX10, TX10, 5, dX10_ofSection_1, rfl, inlX10, by decide, mf_RX10_10, by decide, by decide⟩
theorem gX10_ofSection_42 : u_gf cX10_ofSection RX10 42 10 0 := ⟨10, RX10, TX10, 5, dX10_ofSection_42, rfl, inlX10, by decide, mf_RX10_10, by decide, by decide⟩
theorem gX10_ofSection_45 : u_gf cX10_ofSection RX10 45 3 2 := ⟨141, RX3, TX3, 10, dX10_ofSection_45, rfl, inlX3, by decide, mf_RX10_141, by decide, by decide⟩
theorem ml_RX10_173 : Cond.methodLink RX10 173 yX6_answer ∈ wsL_law := u_r28 _ (List.mem_of_getElem? (i := 4) rfl)
theorem gX10_ofSectionAnew_1 : u_gf cX10_ofSectionAnew RX10 1 10 0 := ⟨10, RX10, TX10, 5, dX10_ofSectionAnew_1, rfl, inlX10, by decide, mf_RX10_10, by decide, by decide⟩
theorem gX10_ofSectionAnew_42 : u_gf cX10_ofSectionAnew RX10 42 10 1 := ⟨16, RX10, TX10, 5, dX10_ofSectionAnew_42, rfl, inlX10, by decide, mf_RX10_16, by decide, by decide⟩
theorem ml_RX10_176 : Cond.methodLink RX10 176 yX3_begin ∈ wsL_law := u_r28 _ (List.mem_of_getElem? (i := 21) rfl)
theorem gX10_ofSectionAnew_52 : u_gf cX10_ofSectionAnew RX10 52 10 2 := ⟨22, RX10, TX10, 5, dX10_ofSectionAnew_52, rfl, inlX10, by decide, mf_RX10_22, by decide, by decide⟩
theorem mf_RX10_179 : Cond.fieldLink RX10 179 "Saltwedge$Told" "count" "I" ∈ wsL_law := u_r28 _ (List.mem_of_getElem? (i := 20) rfl)
theorem gX10_ofSectionAnew_55 : u_gf cX10_ofSectionAnew RX10 55 8 1 := ⟨179, RX8, TX8, 2, dX10_ofSectionAnew_55, rfl, inlX8, by decide, mf_RX10_179, by decide, by decide⟩
theorem gX10_ofSectionAnew_62 : u_gf cX10_ofSectionAnew RX10 62 10 1 := ⟨16, RX10, TX10, 5, dX10_ofSectionAnew_62, rfl, inlX10, by decide, mf_RX10_16, by decide, by decide⟩
theorem gX10_ofSectionAnew_66 : u_gf cX10_ofSectionAnew RX10 66 10 2 := ⟨22, RX10, TX10, 5, dX10_ofSectionAnew_66, rfl, inlX10, by decide, mf_RX10_22, by decide, by decide⟩
theorem ml_RX10_182 : Cond.methodLink RX10 182 yX8_part ∈ wsL_law := u_r29 _ (List.mem_of_getElem? (i := 9) rfl)
theorem gX10_ofSectionAnew_78 : u_gf cX10_ofSectionAnew RX10 78 10 1 := ⟨16, RX10, TX10, 5, dX10_ofSectionAnew_78, rfl, inlX10, by decide, mf_RX10_16, by decide, by decide⟩
theorem gX10_ofSectionAnew_82 : u_gf cX10_ofSectionAnew RX10 82 10 2 := ⟨22, RX10, TX10, 5, dX10_ofSectionAnew_82, rfl, inlX10, by decide, mf_RX10_22, by decide, by decide⟩
theorem gX10_ofSectionAnew_91 : u_gf cX10_ofSectionAnew RX10 91 10 2 := ⟨22, RX10, TX10, 5, dX10_ofSectionAnew_91, rfl, inlX10, by decide, mf_RX10_22, by decide, by decide⟩
theorem gX10_ofSectionAnew_100 : u_gf cX10_ofSectionAnew RX10 100 10 2 := ⟨22, RX10, TX10, 5, dX10_ofSectionAnew_100, rfl, inlX10, by decide, mf_RX10_22, by decide, by decide⟩
theorem gX10_ofSectionAnew_109 : u_gf cX10_ofSectionAnew RX10 109 10 2 := ⟨22, RX10, TX10, 5, dX10_ofSectionAnew_109, rfl, inlX10, by decide, mf_RX10_22, by decide, by decide⟩
theorem gX10_ofSectionAnew_118 : u_gf cX10_ofSectionAnew RX10 118 10 2 := ⟨22, RX10, TX10, 5, dX10_ofSectionAnew_118, rfl, inlX10, by decide, mf_RX10_22, by decide, by decide⟩
theorem gX10_ofSectionAnew_127 : u_gf cX10_ofSectionAnew RX10 127 10 2 := ⟨22, RX10, TX10, 5, dX10_ofSectionAnew_127, rfl, inlX10, by decide, mf_RX10_22, by decide, by decide⟩
theorem ml_RX10_186 : Cond.methodLink RX10 186 yX3_hear ∈ wsL_law := u_r7 _ (List.mem_of_getElem? (i := 18) rfl)
theorem gX10_ofSectionAnew_146 : u_gf cX10_ofSectionAnew RX10 146 10 1 := ⟨16, RX10, TX10, 5, dX10_ofSectionAnew_146, rfl, inlX10, by decide, mf_RX10_16, by decide, by decide⟩
theorem gX10_ofSectionAnew_150 : u_gf cX10_ofSectionAnew RX10 150 10 0 := ⟨10, RX10, TX10, 5, dX10_ofSectionAnew_150, rfl, inlX10, by decide, mf_RX10_10, by decide, by decide⟩
theorem gX10_ofSectionAnew_153 : u_gf cX10_ofSectionAnew RX10 153 3 9 := ⟨70, RX3, TX3, 10, dX10_ofSectionAnew_153, rfl, inlX3, by decide, mf_RX10_70, by decide, by decide⟩
theorem gX10_ofSectionAnew_160 : u_gf cX10_ofSectionAnew RX10 160 10 1 := ⟨16, RX10, TX10, 5, dX10_ofSectionAnew_160, rfl, inlX10, by decide, mf_RX10_16, by decide, by decide⟩
theorem gX10_ofSectionAnew_163 : u_gf cX10_ofSectionAnew RX10 163 3 2 := ⟨141, RX3, TX3, 10, dX10_ofSectionAnew_163, rfl, inlX3, by decide, mf_RX10_141, by decide, by decide⟩
theorem gX10_ofIntake_6 : u_gf cX10_ofIntake RX10 6 10 0 := ⟨10, RX10, TX10, 5, dX10_ofIntake_6, rfl, inlX10, by decide, mf_RX10_10, by decide, by decide⟩
theorem gX10_ofIntake_9 : u_gf cX10_ofIntake RX10 9 3 6 := ⟨118, RX3, TX3, 10, dX10_ofIntake_9, rfl, inlX3, by decide, mf_RX10_118, by decide, by decide⟩
theorem gX10_ofIntake_45 : u_gf cX10_ofIntake RX10 45 10 0 := ⟨10, RX10, TX10, 5, dX10_ofIntake_45, rfl, inlX10, by decide, mf_RX10_10, by decide, by decide⟩
theorem mf_RX10_191 : Cond.fieldLink RX10 191 "Saltwedge$Mouth" "intakes" "[LSaltwedge$Intake;" ∈ wsL_law := u_r30 _ (List.mem_of_getElem? (i := 1) rfl)
theorem gX10_ofIntake_48 : u_gf cX10_ofIntake RX10 48 3 3 := ⟨191, RX3, TX3, 10, dX10_ofIntake_48, rfl, inlX3, by decide, mf_RX10_191, by decide, by decide⟩
theorem ml_RX10_195 : Cond.methodLink RX10 195 yX1_answer ∈ wsL_law := u_r30 _ (List.mem_of_getElem? (i := 2) rfl)
theorem gX10_isClosed_6 : u_gf cX10_isClosed RX10 6 10 4 := ⟨125, RX10, TX10, 5, dX10_isClosed_6, rfl, inlX10, by decide, mf_RX10_125, by decide, by decide⟩
theorem gX10_isClosed_23 : u_gf cX10_isClosed RX10 23 10 3 := ⟨28, RX10, TX10, 5, dX10_isClosed_23, rfl, inlX10, by decide, mf_RX10_28, by decide, by decide⟩
theorem gX10_isClosed_30 : u_gf cX10_isClosed RX10 30 10 0 := ⟨10, RX10, TX10, 5, dX10_isClosed_30, rfl, inlX10, by decide, mf_RX10_10, by decide, by decide⟩
theorem gX10_isClosed_33 : u_gf cX10_isClosed RX10 33 3 2 := ⟨141, RX3, TX3, 10, dX10_isClosed_33, rfl, inlX3, by decide, mf_RX10_141, by decide, by decide⟩
theorem gX10_isClosed_37 : u_gf cX10_isClosed RX10 37 4 0 := ⟨130, RX4, TX4, 3, dX10_isClosed_37, rfl, inlX4, by decide, mf_RX10_130, by decide, by decide⟩
theorem gX10_isClosed_42 : u_gf cX10_isClosed RX10 42 4 1 := ⟨133, RX4, TX4, 3, dX10_isClosed_42, rfl, inlX4, by decide, mf_RX10_133, by decide, by decide⟩
theorem gX10_isClosed_46 : u_gf cX10_isClosed RX10 46 4 2 := ⟨136, RX4, TX4, 3, dX10_isClosed_46, rfl, inlX4, by decide, mf_RX10_136, by decide, by decide⟩
theorem gX10_isClosed_50 : u_gf cX10_isClosed RX10 50 10 0 := ⟨10, RX10, TX10, 5, dX10_isClosed_50, rfl, inlX10, by decide, mf_RX10_10, by decide, by decide⟩
theorem gX10_isClosed_53 : u_gf cX10_isClosed RX10 53 3 9 := ⟨70, RX3, TX3, 10, dX10_isClosed_53, rfl, inlX3, by decide, mf_RX10_70, by decide, by decide⟩
theorem ml_RX10_200 : Cond.methodLink RX10 200 yX6_wasFresher ∈ wsL_law := u_r30 _ (List.mem_of_getElem? (i := 17) rfl)
theorem gX10_closures_1 : u_gf cX10_closures RX10 1 10 0 := ⟨10, RX10, TX10, 5, dX10_closures_1, rfl, inlX10, by decide, mf_RX10_10, by decide, by decide⟩
theorem gX10_closures_4 : u_gf cX10_closures RX10 4 3 1 := ⟨87, RX3, TX3, 10, dX10_closures_4, rfl, inlX3, by decide, mf_RX10_87, by decide, by decide⟩
theorem mf_RX10_203 : Cond.fieldLink RX10 203 "Saltwedge$Barrier" "closureCount" "I" ∈ wsL_law := u_r31 _ (List.mem_of_getElem? (i := 8) rfl)
theorem gX10_closures_7 : u_gf cX10_closures RX10 7 0 3 := ⟨203, RX0, TX0, 7, dX10_closures_7, rfl, inlX0, by decide, mf_RX10_203, by decide, by decide⟩
theorem gX10_closure_6 : u_gf cX10_closure RX10 6 10 0 := ⟨10, RX10, TX10, 5, dX10_closure_6, rfl, inlX10, by decide, mf_RX10_10, by decide, by decide⟩
theorem gX10_closure_9 : u_gf cX10_closure RX10 9 3 1 := ⟨87, RX3, TX3, 10, dX10_closure_9, rfl, inlX3, by decide, mf_RX10_87, by decide, by decide⟩
theorem gX10_closure_12 : u_gf cX10_closure RX10 12 0 3 := ⟨203, RX0, TX0, 7, dX10_closure_12, rfl, inlX0, by decide, mf_RX10_203, by decide, by decide⟩
theorem gX10_closure_48 : u_gf cX10_closure RX10 48 10 0 := ⟨10, RX10, TX10, 5, dX10_closure_48, rfl, inlX10, by decide, mf_RX10_10, by decide, by decide⟩
theorem gX10_closure_51 : u_gf cX10_closure RX10 51 3 1 := ⟨87, RX3, TX3, 10, dX10_closure_51, rfl, inlX3, by decide, mf_RX10_87, by decide, by decide⟩
theorem ml_RX10_208 : Cond.methodLink RX10 208 yX0_answer ∈ wsL_law := u_r31 _ (List.mem_of_getElem? (i := 20) rfl)
theorem gX10_intrusion_24 : u_gf cX10_intrusion RX10 24 10 0 := ⟨10, RX10, TX10, 5, dX10_intrusion_24, rfl, inlX10, by decide, mf_RX10_10, by decide, by decide⟩
theorem gX10_intrusion_27 : u_gf cX10_intrusion RX10 27 3 5 := ⟨100, RX3, TX3, 10, dX10_intrusion_27, rfl, inlX3, by decide, mf_RX10_100, by decide, by decide⟩
theorem gX10_intrusion_34 : u_gf cX10_intrusion RX10 34 10 0 := ⟨10, RX10, TX10, 5, dX10_intrusion_34, rfl, inlX10, by decide, mf_RX10_10, by decide, by decide⟩
theorem gX10_intrusion_37 : u_gf cX10_intrusion RX10 37 3 2 := ⟨141, RX3, TX3, 10, dX10_intrusion_37, rfl, inlX3, by decide, mf_RX10_141, by decide, by decide⟩
theorem mf_RX10_212 : Cond.fieldLink RX10 212 "Saltwedge$Section" "low" "LSaltwedge$Layer;" ∈ wsL_law := u_r32 _ (List.mem_of_getElem? (i := 11) rfl)
theorem gX10_intrusion_42 : u_gf cX10_intrusion RX10 42 6 1 := ⟨212, RX6, TX6, 8, dX10_intrusion_42, rfl, inlX6, by decide, mf_RX10_212, by decide, by decide⟩
theorem ml_RX10_216 : Cond.methodLink RX10 216 yX2_salinity ∈ wsL_law := u_r32 _ (List.mem_of_getElem? (i := 12) rfl)
theorem gX10_window_32 : u_gf cX10_window RX10 32 10 0 := ⟨10, RX10, TX10, 5, dX10_window_32, rfl, inlX10, by decide, mf_RX10_10, by decide, by decide⟩
theorem gX10_window_35 : u_gf cX10_window RX10 35 3 5 := ⟨100, RX3, TX3, 10, dX10_window_35, rfl, inlX3, by decide, mf_RX10_100, by decide, by decide⟩
theorem gX10_window_52 : u_gf cX10_window RX10 52 10 0 := ⟨10, RX10, TX10, 5, dX10_window_52, rfl, inlX10, by decide, mf_RX10_10, by decide, by decide⟩
theorem gX10_window_56 : u_gf cX10_window RX10 56 10 0 := ⟨10, RX10, TX10, 5, dX10_window_56, rfl, inlX10, by decide, mf_RX10_10, by decide, by decide⟩
theorem gX10_window_59 : u_gf cX10_window RX10 59 3 2 := ⟨141, RX3, TX3, 10, dX10_window_59, rfl, inlX3, by decide, mf_RX10_141, by decide, by decide⟩
theorem ml_RX10_226 : Cond.methodLink RX10 226 yX6_bed ∈ wsL_law := u_r33 _ (List.mem_of_getElem? (i := 0) rfl)
theorem ml_RX10_229 : Cond.methodLink RX10 229 yX3_firstHourAt ∈ wsL_law := u_r33 _ (List.mem_of_getElem? (i := 1) rfl)
theorem gX10_sum_21 : u_gf cX10_sum RX10 21 10 0 := ⟨10, RX10, TX10, 5, dX10_sum_21, rfl, inlX10, by decide, mf_RX10_10, by decide, by decide⟩
theorem mf_RX10_232 : Cond.fieldLink RX10 232 "Saltwedge$Mouth" "sums" "[J" ∈ wsL_law := u_r33 _ (List.mem_of_getElem? (i := 16) rfl)
theorem gX10_sum_24 : u_gf cX10_sum RX10 24 3 4 := ⟨232, RX3, TX3, 10, dX10_sum_24, rfl, inlX3, by decide, mf_RX10_232, by decide, by decide⟩
theorem gX10_tell_1 : u_gf cX10_tell RX10 1 10 2 := ⟨22, RX10, TX10, 5, dX10_tell_1, rfl, inlX10, by decide, mf_RX10_22, by decide, by decide⟩
theorem gX10_tell_5 : u_gf cX10_tell RX10 5 10 0 := ⟨10, RX10, TX10, 5, dX10_tell_5, rfl, inlX10, by decide, mf_RX10_10, by decide, by decide⟩
theorem gX10_tell_8 : u_gf cX10_tell RX10 8 3 9 := ⟨70, RX3, TX3, 10, dX10_tell_8, rfl, inlX3, by decide, mf_RX10_70, by decide, by decide⟩
theorem ml_RX10_236 : Cond.methodLink RX10 236 yX8_keep ∈ wsL_law := u_r7 _ (List.mem_of_getElem? (i := 13) rfl)
theorem gX10_tell_24 : u_gf cX10_tell RX10 24 10 0 := ⟨10, RX10, TX10, 5, dX10_tell_24, rfl, inlX10, by decide, mf_RX10_10, by decide, by decide⟩
end
section
/-! where the cells stand: logical numbers -/
def L_lay (G : w_G) (k : Nat) : Prop := u_is G k 2
theorem lay_is {G : w_G} {k : Nat} (h : L_lay G k) : u_is G k 2 := h
def L_trn (G : w_G) (k : Nat) : Prop := u_is G k 9
theorem trn_is {G : w_G} {k : Nat} (h : L_trn G k) : u_is G k 9 := h
def L_srg (G : w_G) (k : Nat) : Prop := u_is G k 7
theorem srg_is {G : w_G} {k : Nat} (h : L_srg G k) : u_is G k 7 := h
def L_int (G : w_G) (k : Nat) : Prop := u_is G k 1
theorem int_is {G : w_G} {k : Nat} (h : L_int G k) : u_is G k 1 := h
def L_oys (G : w_G) (k : Nat) : Prop := u_is G k 4
theorem oys_is {G : w_G} {k : Nat} (h : L_oys G k) : u_is G k 4 := h
def L_a24 (G : w_G) (k : Nat) : Prop := u_is G k 12 ∧ gN G k = 24
theorem a24_is {G : w_G} {k : Nat} (h : L_a24 G k) : u_is G k 12 := h.1
theorem a24_n {G : w_G} {k : Nat} (h : L_a24 G k) : gN G k = 24 := h.2
def L_a1000 (G : w_G) (k : Nat) : Prop := u_is G k 12 ∧ gN G k = 1000
theorem a1000_is {G : w_G} {k : Nat} (h : L_a1000 G k) : u_is G k 12 := h.1
theorem a1000_n {G : w_G} {k : Nat} (h : L_a1000 G k) : gN G k = 1000 := h.2
def L_a500 (G : w_G) (k : Nat) : Prop := u_is G k 12 ∧ gN G k = 500
theorem a500_is {G : w_G} {k : Nat} (h : L_a500 G k) : u_is G k 12 := h.1
theorem a500_n {G : w_G} {k : Nat} (h : L_a500 G k) : gN G k = 500 := h.2
def L_z500 (G : w_G) (k : Nat) : Prop := u_is G k 14 ∧ gN G k = 500
theorem z500_is {G : w_G} {k : Nat} (h : L_z500 G k) : u_is G k 14 := h.1
theorem z500_n {G : w_G} {k : Nat} (h : L_z500 G k) : gN G k = 500 := h.2
def L_j10 (G : w_G) (k : Nat) : Prop := u_is G k 13 ∧ gN G k = 10
theorem j10_is {G : w_G} {k : Nat} (h : L_j10 G k) : u_is G k 13 := h.1
theorem j10_n {G : w_G} {k : Nat} (h : L_j10 G k) : gN G k = 10 := h.2
def L_a3584 (G : w_G) (k : Nat) : Prop := u_is G k 12 ∧ gN G k = 3584
theorem a3584_is {G : w_G} {k : Nat} (h : L_a3584 G k) : u_is G k 12 := h.1
theorem a3584_n {G : w_G} {k : Nat} (h : L_a3584 G k) : gN G k = 3584 := h.2
def L_sec (G : w_G) (k : Nat) : Prop := u_is G k 6 ∧ (gF G k 0 = some (k + 20) ∧ L_lay G (k + 20)) ∧ (gF G k 1 = some (k + 30) ∧ L_lay G (k + 30)) ∧ (gF G k 2 = some (k + 40) ∧ L_a24 G (k + 40))
theorem sec_is {G : w_G} {k : Nat} (h : L_sec G k) : u_is G k 6 := h.1
theorem sec_f0 {G : w_G} {k : Nat} (h : L_sec G k) : gF G k 0 = some (k + 20) := h.2.1.1
theorem sec_p0 {G : w_G} {k : Nat} (h : L_sec G k) : L_lay G (k + 20) := h.2.1.2
theorem sec_f1 {G : w_G} {k : Nat} (h : L_sec G k) : gF G k 1 = some (k + 30) := h.2.2.1.1
theorem sec_p1 {G : w_G} {k : Nat} (h : L_sec G k) : L_lay G (k + 30) := h.2.2.1.2
theorem sec_f2 {G : w_G} {k : Nat} (h : L_sec G k) : gF G k 2 = some (k + 40) := h.2.2.2.1
theorem sec_p2 {G : w_G} {k : Nat} (h : L_sec G k) : L_a24 G (k + 40) := h.2.2.2.2
def L_aTrn (G : w_G) (k : Nat) : Prop := u_is G k 19 ∧ gN G k = 6 ∧ ∀ i, i < 6 → gF G k i = some (k + 14 + i) ∧ L_trn G (k + 14 + i)
theorem aTrn_is {G : w_G} {k : Nat} (h : L_aTrn G k) : u_is G k 19 := h.1
theorem aTrn_n {G : w_G} {k : Nat} (h : L_aTrn G k) : gN G k = 6 := h.2.1
theorem aTrn_f {G : w_G} {k i : Nat} (h : L_aTrn G k) (hi : i < 6) : gF G k i = some (k + 14 + i) := (h.2.2 i hi).1
theorem aTrn_p {G : w_G} {k i : Nat} (h : L_aTrn G k) (hi : i < 6) : L_trn G (k + 14 + i) := (h.2.2 i hi).2
def L_aSrg (G : w_G) (k : Nat) : Prop := u_is G k 18 ∧ gN G k = 20 ∧ ∀ i, i < 20 → gF G k i = some (k + 23 + i) ∧ L_srg G (k + 23 + i)
theorem aSrg_is {G : w_G} {k : Nat} (h : L_aSrg G k) : u_is G k 18 := h.1
theorem aSrg_n {G : w_G} {k : Nat} (h : L_aSrg G k) : gN G k = 20 := h.2.1
theorem aSrg_f {G : w_G} {k i : Nat} (h : L_aSrg G k) (hi : i < 20) : gF G k i = some (k + 23 + i) := (h.2.2 i hi).1
theorem aSrg_p {G : w_G} {k i : Nat} (h : L_aSrg G k) (hi : i < 20) : L_srg G (k + 23 + i) := (h.2.2 i hi).2
def L_aSec (G : w_G) (k : Nat) : Prop := u_is G k 17 ∧ gN G k = 8 ∧ ∀ i, i < 8 → gF G k i = some (k + 97 + i) ∧ L_sec G (k + 97 + i)
theorem aSec_is {G : w_G} {k : Nat} (h : L_aSec G k) : u_is G k 17 := h.1
theorem aSec_n {G : w_G} {k : Nat} (h : L_aSec G k) : gN G k = 8 := h.2.1
theorem aSec_f {G : w_G} {k i : Nat} (h : L_aSec G k) (hi : i < 8) : gF G k i = some (k + 97 + i) := (h.2.2 i hi).1
theorem aSec_p {G : w_G} {k i : Nat} (h : L_aSec G k) (hi : i < 8) : L_sec G (k + 97 + i) := (h.2.2 i hi).2
def L_aInt (G : w_G) (k : Nat) : Prop := u_is G k 15 ∧ gN G k = 6 ∧ ∀ i, i < 6 → gF G k i = some (k + 146 + i) ∧ L_int G (k + 146 + i)
theorem aInt_is {G : w_G} {k : Nat} (h : L_aInt G k) : u_is G k 15 := h.1
theorem aInt_n {G : w_G} {k : Nat} (h : L_aInt G k) : gN G k = 6 := h.2.1
theorem aInt_f {G : w_G} {k i : Nat} (h : L_aInt G k) (hi : i < 6) : gF G k i = some (k + 146 + i) := (h.2.2 i hi).1
theorem aInt_p {G : w_G} {k i : Nat} (h : L_aInt G k) (hi : i < 6) : L_int G (k + 146 + i) := (h.2.2 i hi).2
def L_aOys (G : w_G) (k : Nat) : Prop := u_is G k 16 ∧ gN G k = 6 ∧ ∀ i, i < 6 → gF G k i = some (k + 7 + i) ∧ L_oys G (k + 7 + i)
theorem aOys_is {G : w_G} {k : Nat} (h : L_aOys G k) : u_is G k 16 := h.1
theorem aOys_n {G : w_G} {k : Nat} (h : L_aOys G k) : gN G k = 6 := h.2.1
theorem aOys_f {G : w_G} {k i : Nat} (h : L_aOys G k) (hi : i < 6) : gF G k i = some (k + 7 + i) := (h.2.2 i hi).1
theorem aOys_p {G : w_G} {k i : Nat} (h : L_aOys G k) (hi : i < 6) : L_oys G (k + 7 + i) := (h.2.2 i hi).2
def L_sea (G : w_G) (k : Nat) : Prop := u_is G k 5 ∧ (gF G k 0 = some (k + 5) ∧ L_aTrn G (k + 5)) ∧ (gF G k 1 = some (k + 6) ∧ L_aSrg G (k + 6)) ∧ (gF G k 2 = some (k + 7) ∧ L_a1000 G (k + 7))
theorem sea_is {G : w_G} {k : Nat} (h : L_sea G k) : u_is G k 5 := h.1
theorem sea_f0 {G : w_G} {k : Nat} (h : L_sea G k) : gF G k 0 = some (k + 5) := h.2.1.1
theorem sea_p0 {G : w_G} {k : Nat} (h : L_sea G k) : L_aTrn G (k + 5) := h.2.1.2
theorem sea_f1 {G : w_G} {k : Nat} (h : L_sea G k) : gF G k 1 = some (k + 6) := h.2.2.1.1
theorem sea_p1 {G : w_G} {k : Nat} (h : L_sea G k) : L_aSrg G (k + 6) := h.2.2.1.2
theorem sea_f2 {G : w_G} {k : Nat} (h : L_sea G k) : gF G k 2 = some (k + 7) := h.2.2.2.1
theorem sea_p2 {G : w_G} {k : Nat} (h : L_sea G k) : L_a1000 G (k + 7) := h.2.2.2.2
def L_bar (G : w_G) (k : Nat) : Prop := u_is G k 0 ∧ (gF G k 0 = some (k + 7) ∧ L_a500 G (k + 7)) ∧ (gF G k 1 = some (k + 8) ∧ L_a500 G (k + 8)) ∧ (gF G k 2 = some (k + 9) ∧ L_z500 G (k + 9))
theorem bar_is {G : w_G} {k : Nat} (h : L_bar G k) : u_is G k 0 := h.1
theorem bar_f0 {G : w_G} {k : Nat} (h : L_bar G k) : gF G k 0 = some (k + 7) := h.2.1.1
theorem bar_p0 {G : w_G} {k : Nat} (h : L_bar G k) : L_a500 G (k + 7) := h.2.1.2
theorem bar_f1 {G : w_G} {k : Nat} (h : L_bar G k) : gF G k 1 = some (k + 8) := h.2.2.1.1
theorem bar_p1 {G : w_G} {k : Nat} (h : L_bar G k) : L_a500 G (k + 8) := h.2.2.1.2
theorem bar_f2 {G : w_G} {k : Nat} (h : L_bar G k) : gF G k 2 = some (k + 9) := h.2.2.2.1
theorem bar_p2 {G : w_G} {k : Nat} (h : L_bar G k) : L_z500 G (k + 9) := h.2.2.2.2
def L_mou (G : w_G) (k : Nat) : Prop := u_is G k 3 ∧ (gF G k 0 = some (k + 1) ∧ L_sea G (k + 1)) ∧ (gF G k 1 = some (k + 2) ∧ L_bar G (k + 2)) ∧ (gF G k 2 = some (k + 3) ∧ L_aSec G (k + 3)) ∧ (gF G k 3 = some (k + 4) ∧ L_aInt G (k + 4)) ∧ (gF G k 4 = some (k + 5) ∧ L_j10 G (k + 5))
theorem mou_is {G : w_G} {k : Nat} (h : L_mou G k) : u_is G k 3 := h.1
theorem mou_f0 {G : w_G} {k : Nat} (h : L_mou G k) : gF G k 0 = some (k + 1) := h.2.1.1
theorem mou_p0 {G : w_G} {k : Nat} (h : L_mou G k) : L_sea G (k + 1) := h.2.1.2
theorem mou_f1 {G : w_G} {k : Nat} (h : L_mou G k) : gF G k 1 = some (k + 2) := h.2.2.1.1
theorem mou_p1 {G : w_G} {k : Nat} (h : L_mou G k) : L_bar G (k + 2) := h.2.2.1.2
theorem mou_f2 {G : w_G} {k : Nat} (h : L_mou G k) : gF G k 2 = some (k + 3) := h.2.2.2.1.1
theorem mou_p2 {G : w_G} {k : Nat} (h : L_mou G k) : L_aSec G (k + 3) := h.2.2.2.1.2
theorem mou_f3 {G : w_G} {k : Nat} (h : L_mou G k) : gF G k 3 = some (k + 4) := h.2.2.2.2.1.1
theorem mou_p3 {G : w_G} {k : Nat} (h : L_mou G k) : L_aInt G (k + 4) := h.2.2.2.2.1.2
theorem mou_f4 {G : w_G} {k : Nat} (h : L_mou G k) : gF G k 4 = some (k + 5) := h.2.2.2.2.2.1
theorem mou_p4 {G : w_G} {k : Nat} (h : L_mou G k) : L_j10 G (k + 5) := h.2.2.2.2.2.2
def L_tld (G : w_G) (k : Nat) : Prop := u_is G k 8 ∧ (gF G k 0 = some (k + 1) ∧ L_a3584 G (k + 1))
theorem tld_is {G : w_G} {k : Nat} (h : L_tld G k) : u_is G k 8 := h.1
theorem tld_f0 {G : w_G} {k : Nat} (h : L_tld G k) : gF G k 0 = some (k + 1) := h.2.1
theorem tld_p0 {G : w_G} {k : Nat} (h : L_tld G k) : L_a3584 G (k + 1) := h.2.2
def L_sal (G : w_G) (k : Nat) : Prop := u_is G k 10 ∧ (gF G k 0 = some (k + 1000) ∧ L_mou G (k + 1000)) ∧ (gF G k 1 = some (k + 2000) ∧ L_mou G (k + 2000)) ∧ (gF G k 2 = some (k + 1) ∧ L_tld G (k + 1)) ∧ (gF G k 3 = some (k + 3) ∧ L_aOys G (k + 3))
theorem sal_is {G : w_G} {k : Nat} (h : L_sal G k) : u_is G k 10 := h.1
theorem sal_f0 {G : w_G} {k : Nat} (h : L_sal G k) : gF G k 0 = some (k + 1000) := h.2.1.1
theorem sal_p0 {G : w_G} {k : Nat} (h : L_sal G k) : L_mou G (k + 1000) := h.2.1.2
theorem sal_f1 {G : w_G} {k : Nat} (h : L_sal G k) : gF G k 1 = some (k + 2000) := h.2.2.1.1
theorem sal_p1 {G : w_G} {k : Nat} (h : L_sal G k) : L_mou G (k + 2000) := h.2.2.1.2
theorem sal_f2 {G : w_G} {k : Nat} (h : L_sal G k) : gF G k 2 = some (k + 1) := h.2.2.2.1.1
theorem sal_p2 {G : w_G} {k : Nat} (h : L_sal G k) : L_tld G (k + 1) := h.2.2.2.1.2
theorem sal_f3 {G : w_G} {k : Nat} (h : L_sal G k) : gF G k 3 = some (k + 3) := h.2.2.2.2.1
theorem sal_p3 {G : w_G} {k : Nat} (h : L_sal G k) : L_aOys G (k + 3) := h.2.2.2.2.2

theorem u_le (a b : Int32) : (a ≤ b) = ¬ (b < a) := propext Int32.not_lt.symm
theorem u_l0 {x : Int32} (h : ¬ x = 0) : ¬ x.toInt64 = 0 := fun e => h (by rw [← Int32.toInt_inj, Int32.toInt_zero, ← Int32.toInt_toInt64, e]; rfl)
theorem u_ne0 {x : Int32} (h : ¬ x ≤ 0) : ¬ x = 0 := fun e => h (by rw [e]; exact Int32.le_refl 0)
theorem u_nz1 {r p : Int32} (h1 : 0 < r) (h2 : r < p) : ¬ p = 0 := fun e => by
  rw [e] at h2
  rw [Int32.lt_iff_toInt_lt] at h1 h2
  omega
theorem u_nz2 {r p : Int32} (h2 : r < p) : ¬ p - r = 0 := fun e => by
  have e2 : p = r := calc p = p - r + r := (Int32.sub_add_cancel p r).symm
    _ = 0 + r := by rw [e]
    _ = r := Int32.zero_add r
  rw [e2] at h2
  exact Int32.lt_irrefl h2
def f_goes (flow stuff water : Int32) : Int32 := if water ≤ 0 then 0 else (stuff.toInt64 * flow.toInt64 / water.toInt64).toInt32
def f_sal (w s : Int32) : Int32 := if w ≤ 0 then 0 else s / w
def f_bed (ar mud : Int32) : Int32 := if ar ≤ 0 then 0 else mud / ar
def f_lev (ar mud up low : Int32) : Int32 := if ar ≤ 0 then 0 else f_bed ar mud + (up + low) / ar
def m_out (M : w_M) (k : Nat) (flow : Int32) : w_M := wi (wi M k 0 (iv M k 0 - flow)) k 1 (iv M k 1 - f_goes flow (iv M k 1) (iv M k 0))
def m_in (M : w_M) (k : Nat) (a b : Int32) : w_M := wi (wi M k 0 (iv M k 0 + a)) k 1 (iv M k 1 + b)
def s_lev (M : w_M) (k : Nat) : Int32 := f_lev (iv M k 3) (iv M k 4) (iv M (k + 20) 0) (iv M (k + 30) 0)
def m_gc (M : w_M) (k : Nat) (flow : Int32) : w_M := wi M k 5 (iv M k 5 - f_goes flow (iv M k 5) (iv M (k + 20) 0))
def f_ref (amount permit mud : Int32) : Int32 := if permit = 0 then 1 else if permit < amount then 2 else if mud < amount then 3 else 0
def f_min (x y : Int32) : Int32 := if y < x then y else x
def f_max (x y : Int32) : Int32 := if x < y then y else x
def m_mix (M : w_M) (k : Nat) : w_M := if iv M k 6 < 20 then M else if 0 < f_goes (f_min (iv M (k + 20) 0) (iv M (k + 30) 0) / 4) (iv M (k + 30) 1) (iv M (k + 30) 0) - f_goes (f_min (iv M (k + 20) 0) (iv M (k + 30) 0) / 4) (iv M (k + 20) 1) (iv M (k + 20) 0) then
  wi (wi M (k + 30) 1 (iv M (k + 30) 1 - (f_goes (f_min (iv M (k + 20) 0) (iv M (k + 30) 0) / 4) (iv M (k + 30) 1) (iv M (k + 30) 0) - f_goes (f_min (iv M (k + 20) 0) (iv M (k + 30) 0) / 4) (iv M (k + 20) 1) (iv M (k + 20) 0)))) (k + 20) 1 (iv M (k + 20) 1 + (f_goes (f_min (iv M (k + 20) 0) (iv M (k + 30) 0) / 4) (iv M (k + 30) 1) (iv M (k + 30) 0) - f_goes (f_min (iv M (k + 20) 0) (iv M (k + 30) 0) / 4) (iv M (k + 20) 1) (iv M (k + 20) 0))) else M
def m_set (M : w_M) (k : Nat) : w_M := if iv M k 6 < 10 then wi (wi M k 5 (iv M k 5 - (iv M k 5 - iv M k 5 / 2))) k 4 (iv M k 4 + (iv M k 5 - iv M k 5 / 2)) else if 40 < iv M k 6 then wi (wi M k 4 (iv M k 4 - f_min (iv M k 6 / 8) (iv M k 4))) k 5 (iv M k 5 + f_min (iv M k 6 / 8) (iv M k 4)) else M
def m_sbeg (M : w_M) (k : Nat) (ar up low mud : Int32) : w_M := wi (wi (wi (wi (wi (wi (wi (wi (wi M k 3 ar) k 4 mud) (k + 20) 0 up) (k + 20) 1 0) (k + 30) 0 low) (k + 30) 1 0) k 5 0) k 6 0) k 7 0
def f_hgt (p r g f h : Int32) : Int32 := if r ≤ 0 ∨ p ≤ r then 0 else if (h + f) - (h + f) / p * p < r then g * ((h + f) - (h + f) / p * p) / r else g * (p - ((h + f) - (h + f) / p * p)) / (p - r)
set_option maxHeartbeats 4000000 in
set_option maxRecDepth 100000 in
theorem c_X10_within (l : Launch) (D : va_G) (G : w_G) (M : w_M) (v : Int32) (least : Int32) (most : Int32)   : u_Mi l D G yX10_within cX10_within 3 (some .boolean) 0 0 [.int v, .int least, .int most] M (fun r M' => r = (if least ≤ v ∧ v ≤ most then 1 else 0) ∧ M' = M) := by
  refine u_bodyz (by decide +kernel) (Nat.le_of_ble_eq_true rfl) rfl (fun p e s m args below meth c A H0 Q C ret => ?_)
  refine u_iload_n C dX10_within_0 rfl ?_
  refine u_iload_n C dX10_within_1 rfl ?_
  refine u_icmp_lt (tgt := 14) C dX10_within_2 (by decide) (fun c_2 => ?_) (fun c_2 => ?_)
  · refine u_iconst (v := 0) C dX10_within_14 (by decide) ?_
    exact ret _ _ _ _ dX10_within_15 (by simp) (by (try simp only [u_le, Decidable.not_not] at c_2); refine ⟨?_, ?_⟩ <;> simp [-Int32.not_lt, -Int32.not_le, u_le, c_2])
  · refine u_iload_n C dX10_within_5 rfl ?_
    refine u_iload_n C dX10_within_6 rfl ?_
    refine u_icmp_gt (tgt := 14) C dX10_within_7 (by decide) (fun c_7 => ?_) (fun c_7 => ?_)
    · refine u_iconst (v := 0) C dX10_within_14 (by decide) ?_
      exact ret _ _ _ _ dX10_within_15 (by simp) (by (try simp only [u_le, Decidable.not_not] at c_2 c_7); refine ⟨?_, ?_⟩ <;> simp [-Int32.not_lt, -Int32.not_le, u_le, c_2, c_7])
    · refine u_iconst (v := 1) C dX10_within_10 (by decide) ?_
      refine u_goto (tgt := 15) C dX10_within_11 (by decide) ?_
      exact ret _ _ _ _ dX10_within_15 (by simp) (by (try simp only [u_le, Decidable.not_not] at c_2 c_7); refine ⟨?_, ?_⟩ <;> simp [-Int32.not_lt, -Int32.not_le, u_le, c_2, c_7])
set_option maxHeartbeats 4000000 in
set_option maxRecDepth 100000 in
theorem c_X10_goesWith (l : Launch) (D : va_G) (G : w_G) (M : w_M) (flow : Int32) (stuff : Int32) (water : Int32)   : u_Mi l D G yX10_goesWith cX10_goesWith 3 (some .int) 0 0 [.int flow, .int stuff, .int water] M (fun r M' => r = f_goes flow stuff water ∧ M' = M) := by
  refine u_bodyi (by decide +kernel) (Nat.le_of_ble_eq_true rfl) rfl (fun p e s m args below meth c A H0 Q C ret => ?_)
  refine u_iload_n C dX10_goesWith_0 rfl ?_
  refine u_if_gt (tgt := 6) C dX10_goesWith_1 (by decide) (fun c_1 => ?_) (fun c_1 => ?_)
  · refine u_iload_n C dX10_goesWith_6 rfl ?_
    refine u_i2l C dX10_goesWith_7 ?_
    refine u_iload_n C dX10_goesWith_8 rfl ?_
    refine u_i2l C dX10_goesWith_9 ?_
    refine u_lmul C dX10_goesWith_10 ?_
    refine u_iload_n C dX10_goesWith_11 rfl ?_
    refine u_i2l C dX10_goesWith_12 ?_
    refine u_ldiv C dX10_goesWith_13 (u_l0 (by rintro rfl; (try simp only [u_le, Decidable.not_not] at c_1); simp at c_1)) ?_
    refine u_l2i C dX10_goesWith_14 ?_
    exact ret _ _ _ _ dX10_goesWith_15  (by (try simp only [u_le, Decidable.not_not] at c_1); refine ⟨?_, ?_⟩ <;> simp [-Int32.not_lt, -Int32.not_le, iv_wi, iv_wj, jv_wi, u_le, f_goes, c_1])
  · refine u_iconst (v := 0) C dX10_goesWith_4 (by decide) ?_
    exact ret _ _ _ _ dX10_goesWith_5  (by (try simp only [u_le, Decidable.not_not] at c_1); refine ⟨?_, ?_⟩ <;> simp [-Int32.not_lt, -Int32.not_le, iv_wi, iv_wj, jv_wi, u_le, f_goes, c_1])
set_option maxHeartbeats 4000000 in
set_option maxRecDepth 100000 in
theorem c_X2_begin (l : Launch) (D : va_G) (G : w_G) (M : w_M) (k : Nat) (w : Int32) (hk : L_lay G (k))  : u_Mv l D G yX2_begin cX2_begin 2 none 0 0 [.ref (gP G k), .int w] M (fun M' => M' = wi (wi M k 0 w) k 1 0) := by
  refine u_bodyv (by decide +kernel) (Nat.le_of_ble_eq_true rfl) rfl (fun p e s m args below meth c A H0 Q C ret => ?_)
  refine u_aload_n C dX2_begin_0 rfl ?_
  refine u_iload_n C dX2_begin_1 rfl ?_
  refine u_putI C pX2_begin_2 rfl (lay_is hk) ?_
  refine u_aload_n C dX2_begin_5 rfl ?_
  refine u_iconst (v := 0) C dX2_begin_6 (by decide) ?_
  refine u_putI C pX2_begin_7 rfl (lay_is hk) ?_
  exact ret _ _  _ dX2_begin_10  (rfl)
set_option maxHeartbeats 4000000 in
set_option maxRecDepth 100000 in
theorem c_X2_salinity (l : Launch) (D : va_G) (G : w_G) (M : w_M) (k : Nat) (hk : L_lay G (k))  : u_Mi l D G yX2_salinity cX2_salinity 1 (some .int) 0 0 [.ref (gP G k)] M (fun r M' => r = f_sal (iv M k 0) (iv M k 1) ∧ M' = M) := by
  refine u_bodyi (by decide +kernel) (Nat.le_of_ble_eq_true rfl) rfl (fun p e s m args below meth c A H0 Q C ret => ?_)
  refine u_aload_n C dX2_salinity_0 rfl ?_
  refine u_getI C gX2_salinity_1 rfl (lay_is hk) ?_
  refine u_if_gt (tgt := 11) C dX2_salinity_4 (by decide) (fun c_4 => ?_) (fun c_4 => ?_)
  · refine u_aload_n C dX2_salinity_11 rfl ?_
    refine u_getI C gX2_salinity_12 rfl (lay_is hk) ?_
    refine u_aload_n C dX2_salinity_15 rfl ?_
    refine u_getI C gX2_salinity_16 rfl (lay_is hk) ?_
    refine u_idiv C dX2_salinity_19 (by intro e; (try simp only [u_le, Decidable.not_not] at c_4); simp_all) ?_
    exact ret _ _ _ _ dX2_salinity_20  (by (try simp only [u_le, Decidable.not_not] at c_4); refine ⟨?_, ?_⟩ <;> simp [-Int32.not_lt, -Int32.not_le, iv_wi, iv_wj, jv_wi, u_le, f_sal, c_4])
  · refine u_iconst (v := 0) C dX2_salinity_7 (by decide) ?_
    refine u_goto (tgt := 20) C dX2_salinity_8 (by decide) ?_
    exact ret _ _ _ _ dX2_salinity_20  (by (try simp only [u_le, Decidable.not_not] at c_4); refine ⟨?_, ?_⟩ <;> simp [-Int32.not_lt, -Int32.not_le, iv_wi, iv_wj, jv_wi, u_le, f_sal, c_4])
set_option maxHeartbeats 4000000 in
set_option maxRecDepth 100000 in
theorem c_X2_saltWith (l : Launch) (D : va_G) (G : w_G) (M : w_M) (k : Nat) (flow : Int32) (hk : L_lay G (k))  : u_Mi l D G yX2_saltWith cX2_saltWith 2 (some .int) 1 22 [.ref (gP G k), .int flow] M (fun r M' => r = f_goes flow (iv M k 1) (iv M k 0) ∧ M' = M) := by
  refine u_bodyi (by decide +kernel) (Nat.le_of_ble_eq_true rfl) rfl (fun p e s m args below meth c A H0 Q C ret => ?_)
  refine u_iload_n C dX2_saltWith_0 rfl ?_
  refine u_aload_n C dX2_saltWith_1 rfl ?_
  refine u_getI C gX2_saltWith_2 rfl (lay_is hk) ?_
  refine u_aload_n C dX2_saltWith_5 rfl ?_
  refine u_getI C gX2_saltWith_6 rfl (lay_is hk) ?_
  refine u_calliN3 C es_X10_goesWith dX2_saltWith_9 (by decide +kernel) (c_X10_goesWith l D G _ _ _ _  ) (by decide) (Nat.le_of_ble_eq_true rfl) (fun r_9 M_9 q_9 => ?_)
  obtain ⟨rfl, e_9⟩ := q_9
  subst M_9
  exact ret _ _ _ _ dX2_saltWith_12  (⟨rfl, rfl⟩)
set_option maxHeartbeats 4000000 in
set_option maxRecDepth 100000 in
theorem c_X2_giveOut (l : Launch) (D : va_G) (G : w_G) (M : w_M) (k : Nat) (flow : Int32) (hk : L_lay G (k))  : u_Mi l D G yX2_giveOut cX2_giveOut 3 (some .int) 1 22 [.ref (gP G k), .int flow] M (fun r M' => r = f_goes flow (iv M k 1) (iv M k 0) ∧ M' = m_out M k flow) := by
  refine u_bodyi (by decide +kernel) (Nat.le_of_ble_eq_true rfl) rfl (fun p e s m args below meth c A H0 Q C ret => ?_)
  refine u_iload_n C dX2_giveOut_0 rfl ?_
  refine u_aload_n C dX2_giveOut_1 rfl ?_
  refine u_getI C gX2_giveOut_2 rfl (lay_is hk) ?_
  refine u_aload_n C dX2_giveOut_5 rfl ?_
  refine u_getI C gX2_giveOut_6 rfl (lay_is hk) ?_
  refine u_calliN3 C es_X10_goesWith dX2_giveOut_9 (by decide +kernel) (c_X10_goesWith l D G _ _ _ _  ) (by decide) (Nat.le_of_ble_eq_true rfl) (fun r_9 M_9 q_9 => ?_)
  obtain ⟨rfl, e_9⟩ := q_9
  subst M_9
  refine u_istore_n C dX2_giveOut_12 (by decide) ?_
  refine u_aload_n C dX2_giveOut_13 rfl ?_
  refine u_dup C dX2_giveOut_14 rfl ?_
  refine u_getI C gX2_giveOut_15 rfl (lay_is hk) ?_
  refine u_iload_n C dX2_giveOut_18 rfl ?_
  refine u_isub C dX2_giveOut_19 ?_
  refine u_putI C pX2_giveOut_20 rfl (lay_is hk) ?_
  refine u_aload_n C dX2_giveOut_23 rfl ?_
  refine u_dup C dX2_giveOut_24 rfl ?_
  refine u_getI C gX2_giveOut_25 rfl (lay_is hk) ?_
  refine u_iload_n C dX2_giveOut_28 rfl ?_
  refine u_isub C dX2_giveOut_29 ?_
  refine u_putI C pX2_giveOut_30 rfl (lay_is hk) ?_
  refine u_iload_n C dX2_giveOut_33 rfl ?_
  exact ret _ _ _ _ dX2_giveOut_34  (by skip; refine ⟨?_, ?_⟩ <;> simp [-Int32.not_lt, -Int32.not_le, iv_wi, iv_wj, jv_wi, u_le, m_out, u_le])
set_option maxHeartbeats 4000000 in
set_option maxRecDepth 100000 in
theorem c_X2_takeIn (l : Launch) (D : va_G) (G : w_G) (M : w_M) (k : Nat) (a : Int32) (b : Int32) (hk : L_lay G (k))  : u_Mv l D G yX2_takeIn cX2_takeIn 3 none 0 0 [.ref (gP G k), .int a, .int b] M (fun M' => M' = m_in M k a b) := by
  refine u_bodyv (by decide +kernel) (Nat.le_of_ble_eq_true rfl) rfl (fun p e s m args below meth c A H0 Q C ret => ?_)
  refine u_aload_n C dX2_takeIn_0 rfl ?_
  refine u_dup C dX2_takeIn_1 rfl ?_
  refine u_getI C gX2_takeIn_2 rfl (lay_is hk) ?_
  refine u_iload_n C dX2_takeIn_5 rfl ?_
  refine u_iadd C dX2_takeIn_6 ?_
  refine u_putI C pX2_takeIn_7 rfl (lay_is hk) ?_
  refine u_aload_n C dX2_takeIn_10 rfl ?_
  refine u_dup C dX2_takeIn_11 rfl ?_
  refine u_getI C gX2_takeIn_12 rfl (lay_is hk) ?_
  refine u_iload_n C dX2_takeIn_15 rfl ?_
  refine u_iadd C dX2_takeIn_16 ?_
  refine u_putI C pX2_takeIn_17 rfl (lay_is hk) ?_
  exact ret _ _  _ dX2_takeIn_20  (by skip; simp [-Int32.not_lt, -Int32.not_le, iv_wi, iv_wj, jv_wi, u_le, m_in, u_le])
set_option maxHeartbeats 4000000 in
set_option maxRecDepth 100000 in
theorem c_X6_begin (l : Launch) (D : va_G) (G : w_G) (M : w_M) (k : Nat) (ar : Int32) (up : Int32) (low : Int32) (mud : Int32) (hk : L_sec G (k))  : u_Mv l D G yX6_begin cX6_begin 5 none 1 21 [.ref (gP G k), .int ar, .int up, .int low, .int mud] M (fun M' => M' = m_sbeg M k ar up low mud) := by
  refine u_bodyv (by decide +kernel) (Nat.le_of_ble_eq_true rfl) rfl (fun p e s m args below meth c A H0 Q C ret => ?_)
  refine u_aload_n C dX6_begin_0 rfl ?_
  refine u_iload_n C dX6_begin_1 rfl ?_
  refine u_putI C pX6_begin_2 rfl (sec_is hk) ?_
  refine u_aload_n C dX6_begin_5 rfl ?_
  refine u_iload C dX6_begin_6 rfl ?_
  refine u_putI C pX6_begin_8 rfl (sec_is hk) ?_
  refine u_aload_n C dX6_begin_11 rfl ?_
  refine u_getR (k2 := (k + 20)) C gX6_begin_12 rfl (sec_is hk) (sec_f0 hk) ?_
  refine u_iload_n C dX6_begin_15 rfl ?_
  refine u_callvV1 C ev_X2_begin dX6_begin_16 ml_RX6_32 (lay_is (sec_p0 hk)) rfl (by decide) (c_X2_begin l D G _ _ _ (sec_p0 hk) ) (by decide) (Nat.le_of_ble_eq_true rfl) (fun M_16 q_16 => ?_)
  obtain rfl := q_16
  refine u_aload_n C dX6_begin_19 rfl ?_
  refine u_getR (k2 := (k + 30)) C gX6_begin_20 rfl (sec_is hk) (sec_f1 hk) ?_
  refine u_iload_n C dX6_begin_23 rfl ?_
  refine u_callvV1 C ev_X2_begin dX6_begin_24 ml_RX6_32 (lay_is (sec_p1 hk)) rfl (by decide) (c_X2_begin l D G _ _ _ (sec_p1 hk) ) (by decide) (Nat.le_of_ble_eq_true rfl) (fun M_24 q_24 => ?_)
  obtain rfl := q_24
  refine u_aload_n C dX6_begin_27 rfl ?_
  refine u_iconst (v := 0) C dX6_begin_28 (by decide) ?_
  refine u_putI C pX6_begin_29 rfl (sec_is hk) ?_
  refine u_aload_n C dX6_begin_32 rfl ?_
  refine u_iconst (v := 0) C dX6_begin_33 (by decide) ?_
  refine u_putI C pX6_begin_34 rfl (sec_is hk) ?_
  refine u_aload_n C dX6_begin_37 rfl ?_
  refine u_iconst (v := 0) C dX6_begin_38 (by decide) ?_
  refine u_putI C pX6_begin_39 rfl (sec_is hk) ?_
  exact ret _ _  _ dX6_begin_42  (rfl)
set_option maxHeartbeats 4000000 in
set_option maxRecDepth 100000 in
theorem c_X6_bed (l : Launch) (D : va_G) (G : w_G) (M : w_M) (k : Nat) (hk : L_sec G (k))  : u_Mi l D G yX6_bed cX6_bed 1 (some .int) 0 0 [.ref (gP G k)] M (fun r M' => r = f_bed (iv M k 3) (iv M k 4) ∧ M' = M) := by
  refine u_bodyi (by decide +kernel) (Nat.le_of_ble_eq_true rfl) rfl (fun p e s m args below meth c A H0 Q C ret => ?_)
  refine u_aload_n C dX6_bed_0 rfl ?_
  refine u_getI C gX6_bed_1 rfl (sec_is hk) ?_
  refine u_if_gt (tgt := 11) C dX6_bed_4 (by decide) (fun c_4 => ?_) (fun c_4 => ?_)
  · refine u_aload_n C dX6_bed_11 rfl ?_
    refine u_getI C gX6_bed_12 rfl (sec_is hk) ?_
    refine u_aload_n C dX6_bed_15 rfl ?_
    refine u_getI C gX6_bed_16 rfl (sec_is hk) ?_
    refine u_idiv C dX6_bed_19 (by intro e; (try simp only [u_le, Decidable.not_not] at c_4); simp_all) ?_
    exact ret _ _ _ _ dX6_bed_20  (by (try simp only [u_le, Decidable.not_not] at c_4); refine ⟨?_, ?_⟩ <;> simp [-Int32.not_lt, -Int32.not_le, iv_wi, iv_wj, jv_wi, u_le, f_bed, c_4])
  · refine u_iconst (v := 0) C dX6_bed_7 (by decide) ?_
    refine u_goto (tgt := 20) C dX6_bed_8 (by decide) ?_
    exact ret _ _ _ _ dX6_bed_20  (by (try simp only [u_le, Decidable.not_not] at c_4); refine ⟨?_, ?_⟩ <;> simp [-Int32.not_lt, -Int32.not_le, iv_wi, iv_wj, jv_wi, u_le, f_bed, c_4])
set_option maxHeartbeats 4000000 in
set_option maxRecDepth 100000 in
theorem c_X6_level (l : Launch) (D : va_G) (G : w_G) (M : w_M) (k : Nat) (hk : L_sec G (k))  : u_Mi l D G yX6_level cX6_level 1 (some .int) 1 20 [.ref (gP G k)] M (fun r M' => r = s_lev M k ∧ M' = M) := by
  refine u_bodyi (by decide +kernel) (Nat.le_of_ble_eq_true rfl) rfl (fun p e s m args below meth c A H0 Q C ret => ?_)
  refine u_aload_n C dX6_level_0 rfl ?_
  refine u_getI C gX6_level_1 rfl (sec_is hk) ?_
  refine u_if_gt (tgt := 11) C dX6_level_4 (by decide) (fun c_4 => ?_) (fun c_4 => ?_)
  · refine u_aload_n C dX6_level_11 rfl ?_
    refine u_calliV0 C ev_X6_bed dX6_level_12 ml_RX6_45 (sec_is hk) rfl (by decide) (c_X6_bed l D G _ _ hk ) (by decide) (Nat.le_of_ble_eq_true rfl) (fun r_12 M_12 q_12 => ?_)
    obtain ⟨rfl, e_12⟩ := q_12
    subst M_12
    refine u_aload_n C dX6_level_15 rfl ?_
    refine u_getR (k2 := (k + 20)) C gX6_level_16 rfl (sec_is hk) (sec_f0 hk) ?_
    refine u_getI C gX6_level_19 rfl (lay_is (sec_p0 hk)) ?_
    refine u_aload_n C dX6_level_22 rfl ?_
    refine u_getR (k2 := (k + 30)) C gX6_level_23 rfl (sec_is hk) (sec_f1 hk) ?_
    refine u_getI C gX6_level_26 rfl (lay_is (sec_p1 hk)) ?_
    refine u_iadd C dX6_level_29 ?_
    refine u_aload_n C dX6_level_30 rfl ?_
    refine u_getI C gX6_level_31 rfl (sec_is hk) ?_
    refine u_idiv C dX6_level_34 (by intro e; (try simp only [u_le, Decidable.not_not] at c_4); simp_all) ?_
    refine u_iadd C dX6_level_35 ?_
    exact ret _ _ _ _ dX6_level_36  (by (try simp only [u_le, Decidable.not_not] at c_4); refine ⟨?_, ?_⟩ <;> simp [-Int32.not_lt, -Int32.not_le, iv_wi, iv_wj, jv_wi, u_le, s_lev, f_lev, c_4])
  · refine u_iconst (v := 0) C dX6_level_7 (by decide) ?_
    refine u_goto (tgt := 36) C dX6_level_8 (by decide) ?_
    exact ret _ _ _ _ dX6_level_36  (by (try simp only [u_le, Decidable.not_not] at c_4); refine ⟨?_, ?_⟩ <;> simp [-Int32.not_lt, -Int32.not_le, iv_wi, iv_wj, jv_wi, u_le, s_lev, f_lev, c_4])
set_option maxHeartbeats 4000000 in
set_option maxRecDepth 100000 in
theorem c_X6_giveCloud (l : Launch) (D : va_G) (G : w_G) (M : w_M) (k : Nat) (flow : Int32) (hk : L_sec G (k))  : u_Mi l D G yX6_giveCloud cX6_giveCloud 3 (some .int) 1 22 [.ref (gP G k), .int flow] M (fun r M' => r = f_goes flow (iv M k 5) (iv M (k + 20) 0) ∧ M' = m_gc M k flow) := by
  refine u_bodyi (by decide +kernel) (Nat.le_of_ble_eq_true rfl) rfl (fun p e s m args below meth c A H0 Q C ret => ?_)
  refine u_iload_n C dX6_giveCloud_0 rfl ?_
  refine u_aload_n C dX6_giveCloud_1 rfl ?_
  refine u_getI C gX6_giveCloud_2 rfl (sec_is hk) ?_
  refine u_aload_n C dX6_giveCloud_5 rfl ?_
  refine u_getR (k2 := (k + 20)) C gX6_giveCloud_6 rfl (sec_is hk) (sec_f0 hk) ?_
  refine u_getI C gX6_giveCloud_9 rfl (lay_is (sec_p0 hk)) ?_
  refine u_calliN3 C es_X10_goesWith dX6_giveCloud_12 (by decide +kernel) (c_X10_goesWith l D G _ _ _ _  ) (by decide) (Nat.le_of_ble_eq_true rfl) (fun r_12 M_12 q_12 => ?_)
  obtain ⟨rfl, e_12⟩ := q_12
  subst M_12
  refine u_istore_n C dX6_giveCloud_15 (by decide) ?_
  refine u_aload_n C dX6_giveCloud_16 rfl ?_
  refine u_dup C dX6_giveCloud_17 rfl ?_
  refine u_getI C gX6_giveCloud_18 rfl (sec_is hk) ?_
  refine u_iload_n C dX6_giveCloud_21 rfl ?_
  refine u_isub C dX6_giveCloud_22 ?_
  refine u_putI C pX6_giveCloud_23 rfl (sec_is hk) ?_
  refine u_iload_n C dX6_giveCloud_26 rfl ?_
  exact ret _ _ _ _ dX6_giveCloud_27  (by skip; refine ⟨?_, ?_⟩ <;> simp [-Int32.not_lt, -Int32.not_le, iv_wi, iv_wj, jv_wi, u_le, m_gc, u_le])
set_option maxHeartbeats 4000000 in
set_option maxRecDepth 100000 in
theorem c_X6_refusal (l : Launch) (D : va_G) (G : w_G) (M : w_M) (k : Nat) (a : Int32) (hk : L_sec G (k))  : u_Mi l D G yX6_refusal cX6_refusal 2 (some .int) 0 0 [.ref (gP G k), .int a] M (fun r M' => r = f_ref a (iv M k 7) (iv M k 4) ∧ M' = M) := by
  refine u_bodyi (by decide +kernel) (Nat.le_of_ble_eq_true rfl) rfl (fun p e s m args below meth c A H0 Q C ret => ?_)
  refine u_aload_n C dX6_refusal_0 rfl ?_
  refine u_getI C gX6_refusal_1 rfl (sec_is hk) ?_
  refine u_if_ne (tgt := 9) C dX6_refusal_4 (by decide) (fun c_4 => ?_) (fun c_4 => ?_)
  · refine u_iload_n C dX6_refusal_9 rfl ?_
    refine u_aload_n C dX6_refusal_10 rfl ?_
    refine u_getI C gX6_refusal_11 rfl (sec_is hk) ?_
    refine u_icmp_le (tgt := 19) C dX6_refusal_14 (by decide) (fun c_14 => ?_) (fun c_14 => ?_)
    · refine u_aload_n C dX6_refusal_19 rfl ?_
      refine u_getI C gX6_refusal_20 rfl (sec_is hk) ?_
      refine u_iload_n C dX6_refusal_23 rfl ?_
      refine u_icmp_ge (tgt := 31) C dX6_refusal_24 (by decide) (fun c_24 => ?_) (fun c_24 => ?_)
      · refine u_iconst (v := 0) C dX6_refusal_31 (by decide) ?_
        exact ret _ _ _ _ dX6_refusal_32  (by (try simp only [u_le, Decidable.not_not] at c_4 c_14 c_24); refine ⟨?_, ?_⟩ <;> simp [-Int32.not_lt, -Int32.not_le, iv_wi, iv_wj, jv_wi, u_le, f_ref, c_4, c_14, c_24])
      · refine u_iconst (v := 3) C dX6_refusal_27 (by decide) ?_
        refine u_goto (tgt := 32) C dX6_refusal_28 (by decide) ?_
        exact ret _ _ _ _ dX6_refusal_32  (by (try simp only [u_le, Decidable.not_not] at c_4 c_14 c_24); refine ⟨?_, ?_⟩ <;> simp [-Int32.not_lt, -Int32.not_le, iv_wi, iv_wj, jv_wi, u_le, f_ref, c_4, c_14, c_24])
    · refine u_iconst (v := 2) C dX6_refusal_17 (by decide) ?_
      exact ret _ _ _ _ dX6_refusal_18  (by (try simp only [u_le, Decidable.not_not] at c_4 c_14); refine ⟨?_, ?_⟩ <;> simp [-Int32.not_lt, -Int32.not_le, iv_wi, iv_wj, jv_wi, u_le, f_ref, c_4, c_14])
  · refine u_iconst (v := 1) C dX6_refusal_7 (by decide) ?_
    exact ret _ _ _ _ dX6_refusal_8  (by (try simp only [u_le, Decidable.not_not] at c_4); refine ⟨?_, ?_⟩ <;> simp [-Int32.not_lt, -Int32.not_le, iv_wi, iv_wj, jv_wi, u_le, f_ref, c_4])
set_option maxHeartbeats 4000000 in
set_option maxRecDepth 100000 in
theorem c_X6_mix (l : Launch) (D : va_G) (G : w_G) (M : w_M) (k : Nat) (hk : L_sec G (k))  : u_Mv l D G yX6_mix cX6_mix 3 none 2 43 [.ref (gP G k)] M (fun M' => M' = m_mix M k) := by
  refine u_bodyv (by decide +kernel) (Nat.le_of_ble_eq_true rfl) rfl (fun p e s m args below meth c A H0 Q C ret => ?_)
  refine u_aload_n C dX6_mix_0 rfl ?_
  refine u_getI C gX6_mix_1 rfl (sec_is hk) ?_
  refine u_bipush (v := 20) C dX6_mix_4 (by decide) ?_
  refine u_icmp_ge (tgt := 10) C dX6_mix_6 (by decide) (fun c_6 => ?_) (fun c_6 => ?_)
  · refine u_aload_n C dX6_mix_10 rfl ?_
    refine u_getR (k2 := (k + 20)) C gX6_mix_11 rfl (sec_is hk) (sec_f0 hk) ?_
    refine u_getI C gX6_mix_14 rfl (lay_is (sec_p0 hk)) ?_
    refine u_aload_n C dX6_mix_17 rfl ?_
    refine u_getR (k2 := (k + 30)) C gX6_mix_18 rfl (sec_is hk) (sec_f1 hk) ?_
    refine u_getI C gX6_mix_21 rfl (lay_is (sec_p1 hk)) ?_
    refine u_mmin C dX6_mix_24 ml_RX6_56 wm_min (by decide) (Nat.le_of_ble_eq_true rfl) ?_
    refine u_iconst (v := 4) C dX6_mix_27 (by decide) ?_
    refine u_idiv C dX6_mix_28 (by decide) ?_
    refine u_istore_n C dX6_mix_29 (by decide) ?_
    refine u_aload_n C dX6_mix_30 rfl ?_
    refine u_getR (k2 := (k + 30)) C gX6_mix_31 rfl (sec_is hk) (sec_f1 hk) ?_
    refine u_iload_n C dX6_mix_34 rfl ?_
    refine u_calliV1 C ev_X2_saltWith dX6_mix_35 ml_RX6_62 (lay_is (sec_p1 hk)) rfl (by decide) (c_X2_saltWith l D G _ _ _ (sec_p1 hk) ) (by decide) (Nat.le_of_ble_eq_true rfl) (fun r_35 M_35 q_35 => ?_)
    obtain ⟨rfl, e_35⟩ := q_35
    subst M_35
    refine u_aload_n C dX6_mix_38 rfl ?_
    refine u_getR (k2 := (k + 20)) C gX6_mix_39 rfl (sec_is hk) (sec_f0 hk) ?_
    refine u_iload_n C dX6_mix_42 rfl ?_
    refine u_calliV1 C ev_X2_saltWith dX6_mix_43 ml_RX6_62 (lay_is (sec_p0 hk)) rfl (by decide) (c_X2_saltWith l D G _ _ _ (sec_p0 hk) ) (by decide) (Nat.le_of_ble_eq_true rfl) (fun r_43 M_43 q_43 => ?_)
    obtain ⟨rfl, e_43⟩ := q_43
    subst M_43
    refine u_isub C dX6_mix_46 ?_
    refine u_istore_n C dX6_mix_47 (by decide) ?_
    refine u_iload_n C dX6_mix_48 rfl ?_
    refine u_if_le (tgt := 78) C dX6_mix_49 (by decide) (fun c_49 => ?_) (fun c_49 => ?_)
    · exact ret _ _  _ dX6_mix_78  (by (try simp only [u_le, Decidable.not_not] at c_6 c_49); simp [-Int32.not_lt, -Int32.not_le, iv_wi, iv_wj, jv_wi, u_le, m_mix, f_min, c_6, c_49])
    · refine u_aload_n C dX6_mix_52 rfl ?_
      refine u_getR (k2 := (k + 30)) C gX6_mix_53 rfl (sec_is hk) (sec_f1 hk) ?_
      refine u_dup C dX6_mix_56 rfl ?_
      refine u_getI C gX6_mix_57 rfl (lay_is (sec_p1 hk)) ?_
      refine u_iload_n C dX6_mix_60 rfl ?_
      refine u_isub C dX6_mix_61 ?_
      refine u_putI C pX6_mix_62 rfl (lay_is (sec_p1 hk)) ?_
      refine u_aload_n C dX6_mix_65 rfl ?_
      refine u_getR (k2 := (k + 20)) C gX6_mix_66 rfl (sec_is hk) (sec_f0 hk) ?_
      refine u_dup C dX6_mix_69 rfl ?_
      refine u_getI C gX6_mix_70 rfl (lay_is (sec_p0 hk)) ?_
      refine u_iload_n C dX6_mix_73 rfl ?_
      refine u_iadd C dX6_mix_74 ?_
      refine u_putI C pX6_mix_75 rfl (lay_is (sec_p0 hk)) ?_
      exact ret _ _  _ dX6_mix_78  (by (try simp only [u_le, Decidable.not_not] at c_6 c_49); simp [-Int32.not_lt, -Int32.not_le, iv_wi, iv_wj, jv_wi, u_le, m_mix, f_min, c_6, c_49])
  · exact ret _ _  _ dX6_mix_9  (by (try simp only [u_le, Decidable.not_not] at c_6); simp [-Int32.not_lt, -Int32.not_le, iv_wi, iv_wj, jv_wi, u_le, m_mix, f_min, c_6])
set_option maxHeartbeats 4000000 in
set_option maxRecDepth 100000 in
theorem c_X6_settleOrLift (l : Launch) (D : va_G) (G : w_G) (M : w_M) (k : Nat) (hk : L_sec G (k))  : u_Mv l D G yX6_settleOrLift cX6_settleOrLift 2 none 1 21 [.ref (gP G k)] M (fun M' => M' = m_set M k) := by
  refine u_bodyv (by decide +kernel) (Nat.le_of_ble_eq_true rfl) rfl (fun p e s m args below meth c A H0 Q C ret => ?_)
  refine u_aload_n C dX6_settleOrLift_0 rfl ?_
  refine u_getI C gX6_settleOrLift_1 rfl (sec_is hk) ?_
  refine u_bipush (v := 10) C dX6_settleOrLift_4 (by decide) ?_
  refine u_icmp_ge (tgt := 44) C dX6_settleOrLift_6 (by decide) (fun c_6 => ?_) (fun c_6 => ?_)
  · refine u_aload_n C dX6_settleOrLift_44 rfl ?_
    refine u_getI C gX6_settleOrLift_45 rfl (sec_is hk) ?_
    refine u_bipush (v := 40) C dX6_settleOrLift_48 (by decide) ?_
    refine u_icmp_le (tgt := 88) C dX6_settleOrLift_50 (by decide) (fun c_50 => ?_) (fun c_50 => ?_)
    · exact ret _ _  _ dX6_settleOrLift_88  (by (try simp only [u_le, Decidable.not_not] at c_6 c_50); simp [-Int32.not_lt, -Int32.not_le, iv_wi, iv_wj, jv_wi, u_le, m_set, f_min, c_6, c_50])
    · refine u_aload_n C dX6_settleOrLift_53 rfl ?_
      refine u_getI C gX6_settleOrLift_54 rfl (sec_is hk) ?_
      refine u_bipush (v := 8) C dX6_settleOrLift_57 (by decide) ?_
      refine u_idiv C dX6_settleOrLift_59 (by decide) ?_
      refine u_aload_n C dX6_settleOrLift_60 rfl ?_
      refine u_getI C gX6_settleOrLift_61 rfl (sec_is hk) ?_
      refine u_mmin C dX6_settleOrLift_64 ml_RX6_56 wm_min (by decide) (Nat.le_of_ble_eq_true rfl) ?_
      refine u_istore_n C dX6_settleOrLift_67 (by decide) ?_
      refine u_aload_n C dX6_settleOrLift_68 rfl ?_
      refine u_dup C dX6_settleOrLift_69 rfl ?_
      refine u_getI C gX6_settleOrLift_70 rfl (sec_is hk) ?_
      refine u_iload_n C dX6_settleOrLift_73 rfl ?_
      refine u_isub C dX6_settleOrLift_74 ?_
      refine u_putI C pX6_settleOrLift_75 rfl (sec_is hk) ?_
      refine u_aload_n C dX6_settleOrLift_78 rfl ?_
      refine u_dup C dX6_settleOrLift_79 rfl ?_
      refine u_getI C gX6_settleOrLift_80 rfl (sec_is hk) ?_
      refine u_iload_n C dX6_settleOrLift_83 rfl ?_
      refine u_iadd C dX6_settleOrLift_84 ?_
      refine u_putI C pX6_settleOrLift_85 rfl (sec_is hk) ?_
      exact ret _ _  _ dX6_settleOrLift_88  (by (try simp only [u_le, Decidable.not_not] at c_6 c_50); simp [-Int32.not_lt, -Int32.not_le, iv_wi, iv_wj, jv_wi, u_le, m_set, f_min, c_6, c_50])
  · refine u_aload_n C dX6_settleOrLift_9 rfl ?_
    refine u_getI C gX6_settleOrLift_10 rfl (sec_is hk) ?_
    refine u_aload_n C dX6_settleOrLift_13 rfl ?_
    refine u_getI C gX6_settleOrLift_14 rfl (sec_is hk) ?_
    refine u_iconst (v := 2) C dX6_settleOrLift_17 (by decide) ?_
    refine u_idiv C dX6_settleOrLift_18 (by decide) ?_
    refine u_isub C dX6_settleOrLift_19 ?_
    refine u_istore_n C dX6_settleOrLift_20 (by decide) ?_
    refine u_aload_n C dX6_settleOrLift_21 rfl ?_
    refine u_dup C dX6_settleOrLift_22 rfl ?_
    refine u_getI C gX6_settleOrLift_23 rfl (sec_is hk) ?_
    refine u_iload_n C dX6_settleOrLift_26 rfl ?_
    refine u_isub C dX6_settleOrLift_27 ?_
    refine u_putI C pX6_settleOrLift_28 rfl (sec_is hk) ?_
    refine u_aload_n C dX6_settleOrLift_31 rfl ?_
    refine u_dup C dX6_settleOrLift_32 rfl ?_
    refine u_getI C gX6_settleOrLift_33 rfl (sec_is hk) ?_
    refine u_iload_n C dX6_settleOrLift_36 rfl ?_
    refine u_iadd C dX6_settleOrLift_37 ?_
    refine u_putI C pX6_settleOrLift_38 rfl (sec_is hk) ?_
    refine u_goto (tgt := 88) C dX6_settleOrLift_41 (by decide) ?_
    exact ret _ _  _ dX6_settleOrLift_88  (by (try simp only [u_le, Decidable.not_not] at c_6); simp [-Int32.not_lt, -Int32.not_le, iv_wi, iv_wj, jv_wi, u_le, m_set, f_min, c_6])
set_option maxHeartbeats 4000000 in
set_option maxRecDepth 100000 in
theorem c_X9_height (l : Launch) (D : va_G) (G : w_G) (M : w_M) (k : Nat) (h : Int32) (hk : L_trn G (k))  : u_Mi l D G yX9_height cX9_height 3 (some .int) 0 0 [.ref (gP G k), .int h] M (fun r M' => r = f_hgt (iv M k 0) (iv M k 1) (iv M k 2) (iv M k 3) h ∧ M' = M) := by
  refine u_bodyi (by decide +kernel) (Nat.le_of_ble_eq_true rfl) rfl (fun p e s m args below meth c A H0 Q C ret => ?_)
  refine u_aload_n C dX9_height_0 rfl ?_
  refine u_getI C gX9_height_1 rfl (trn_is hk) ?_
  refine u_if_le (tgt := 18) C dX9_height_4 (by decide) (fun c_4 => ?_) (fun c_4 => ?_)
  · refine u_iconst (v := 0) C dX9_height_18 (by decide) ?_
    exact ret _ _ _ _ dX9_height_19  (by (try simp only [u_le, Decidable.not_not] at c_4); refine ⟨?_, ?_⟩ <;> simp [-Int32.not_lt, -Int32.not_le, iv_wi, iv_wj, jv_wi, u_le, f_hgt, c_4])
  · refine u_aload_n C dX9_height_7 rfl ?_
    refine u_getI C gX9_height_8 rfl (trn_is hk) ?_
    refine u_aload_n C dX9_height_11 rfl ?_
    refine u_getI C gX9_height_12 rfl (trn_is hk) ?_
    refine u_icmp_gt (tgt := 20) C dX9_height_15 (by decide) (fun c_15 => ?_) (fun c_15 => ?_)
    · refine u_iload_n C dX9_height_20 rfl ?_
      refine u_aload_n C dX9_height_21 rfl ?_
      refine u_getI C gX9_height_22 rfl (trn_is hk) ?_
      refine u_iadd C dX9_height_25 ?_
      refine u_aload_n C dX9_height_26 rfl ?_
      refine u_getI C gX9_height_27 rfl (trn_is hk) ?_
      refine u_irem C dX9_height_30 (by (try simp only [u_le, Decidable.not_not] at c_4 c_15); exact u_nz1 c_4 c_15) ?_
      refine u_istore_n C dX9_height_31 (by decide) ?_
      refine u_iload_n C dX9_height_32 rfl ?_
      refine u_aload_n C dX9_height_33 rfl ?_
      refine u_getI C gX9_height_34 rfl (trn_is hk) ?_
      refine u_icmp_ge (tgt := 54) C dX9_height_37 (by decide) (fun c_37 => ?_) (fun c_37 => ?_)
      · refine u_aload_n C dX9_height_54 rfl ?_
        refine u_getI C gX9_height_55 rfl (trn_is hk) ?_
        refine u_aload_n C dX9_height_58 rfl ?_
        refine u_getI C gX9_height_59 rfl (trn_is hk) ?_
        refine u_iload_n C dX9_height_62 rfl ?_
        refine u_isub C dX9_height_63 ?_
        refine u_imul C dX9_height_64 ?_
        refine u_aload_n C dX9_height_65 rfl ?_
        refine u_getI C gX9_height_66 rfl (trn_is hk) ?_
        refine u_aload_n C dX9_height_69 rfl ?_
        refine u_getI C gX9_height_70 rfl (trn_is hk) ?_
        refine u_isub C dX9_height_73 ?_
        refine u_idiv C dX9_height_74 (by (try simp only [u_le, Decidable.not_not] at c_4 c_15 c_37); exact u_nz2 c_15) ?_
        exact ret _ _ _ _ dX9_height_75  (by (try simp only [u_le, Decidable.not_not] at c_4 c_15 c_37); refine ⟨?_, ?_⟩ <;> simp [-Int32.not_lt, -Int32.not_le, iv_wi, iv_wj, jv_wi, u_le, f_hgt, c_4, c_15, c_37])
      · refine u_aload_n C dX9_height_40 rfl ?_
        refine u_getI C gX9_height_41 rfl (trn_is hk) ?_
        refine u_iload_n C dX9_height_44 rfl ?_
        refine u_imul C dX9_height_45 ?_
        refine u_aload_n C dX9_height_46 rfl ?_
        refine u_getI C gX9_height_47 rfl (trn_is hk) ?_
        refine u_idiv C dX9_height_50 (by intro e; (try simp only [u_le, Decidable.not_not] at c_4 c_15 c_37); simp_all) ?_
        refine u_goto (tgt := 75) C dX9_height_51 (by decide) ?_
        exact ret _ _ _ _ dX9_height_75  (by (try simp only [u_le, Decidable.not_not] at c_4 c_15 c_37); refine ⟨?_, ?_⟩ <;> simp [-Int32.not_lt, -Int32.not_le, iv_wi, iv_wj, jv_wi, u_le, f_hgt, c_4, c_15, c_37])
    · refine u_iconst (v := 0) C dX9_height_18 (by decide) ?_
      exact ret _ _ _ _ dX9_height_19  (by (try simp only [u_le, Decidable.not_not] at c_4 c_15); refine ⟨?_, ?_⟩ <;> simp [-Int32.not_lt, -Int32.not_le, iv_wi, iv_wj, jv_wi, u_le, f_hgt, c_4, c_15])
end
section
theorem u_is_ne {G : w_G} {a b i j : Nat} (h1 : u_is G a i) (h2 : u_is G b j) (hij : i ≠ j) : a ≠ b := fun e => hij (by rw [← h1.2, ← h2.2, e])
def s_t (M : w_M) (k : Nat) (h : Int32) : Nat → Int32
  | 0 => iv M k 5
  | i + 1 => s_t M k h i + f_hgt (iv M (k + 19 + i) 0) (iv M (k + 19 + i) 1) (iv M (k + 19 + i) 2) (iv M (k + 19 + i) 3) h
def s_s (M : w_M) (k : Nat) (h : Int32) (n : Nat) : Nat → Int32
  | 0 => s_t M k h n
  | j + 1 => if h < iv M (k + 29 + j) 0 then s_s M k h n j else if iv M (k + 29 + j) 1 < h then s_s M k h n j else s_s M k h n j + iv M (k + 29 + j) 2
def s_for (M : w_M) (k : Nat) (h : Int32) : Int32 := s_s M k h (cN (iv M k 3)) (cN (iv M k 4))
def s_abv (M : w_M) (k : Nat) (mark : Int32) : Nat → Nat → Bool
  | 0, _ => false
  | c + 1, j => if mark < s_for M k (nI j) then true else s_abv M k mark c (j + 1)
def m_addT (M : w_M) (k : Nat) (p r g f : Int32) : w_M := if cN (iv M k 3) < 6 then wi (wi (wi (wi (wi M (k + 19 + cN (iv M k 3)) 0 p) (k + 19 + cN (iv M k 3)) 1 r) (k + 19 + cN (iv M k 3)) 2 g) (k + 19 + cN (iv M k 3)) 3 f) k 3 (iv M k 3 + 1) else M
def m_addS (M : w_M) (k : Nat) (a b x : Int32) : w_M := if cN (iv M k 4) < 20 then wi (wi (wi (wi M (k + 29 + cN (iv M k 4)) 0 a) (k + 29 + cN (iv M k 4)) 1 b) (k + 29 + cN (iv M k 4)) 2 x) k 4 (iv M k 4 + 1) else M
theorem u_xor24 : ∀ t, t < 1024 → 0 ≤ nI t ^^^ 24 := by decide +kernel
def s_fr (M : w_M) (k : Nat) (grain : Int32) : Nat → Nat → Bool
  | 0, _ => false
  | c + 1, j => if iv M (k + 40) (j % 24) < grain then true else s_fr M k grain c (j + 1)
theorem u_max0 {a b : Nat} (ha : a < 2 ^ 30) (hb : b < 2 ^ 30) : (if (0 : Int32) < nI a - nI b then nI a - nI b else 0) = nI (a - b) := by
  rcases Nat.lt_or_ge b a with q | q
  · rw [pk_sub (Nat.le_of_lt q), if_pos (by rw [← nI_0]; exact nI_lt (by omega) (by omega))]
  · rw [if_neg, Nat.sub_eq_zero_of_le q, nI_0]
    rw [Int32.lt_iff_toInt_lt, pk_sub_toInt ha hb]
    show ¬ (0 : Int) < _
    omega
def s_ans (M : w_M) (k : Nat) (w : Nat) : Int32 := match w with
  | 0 => iv M (k + 20) 0 | 1 => iv M (k + 20) 1 | 2 => iv M (k + 30) 0 | 3 => iv M (k + 30) 1 | 4 => iv M k 5 | 5 => iv M k 4 | 6 => s_lev M k
  | 7 => f_sal (iv M (k + 20) 0) (iv M (k + 20) 1) | 8 => f_sal (iv M (k + 30) 0) (iv M (k + 30) 1) | _ => iv M k 6
def m_keep (M : w_M) (k : Nat) (h kd a b c d e : Int32) : w_M := wi (wi (wi (wi (wi (wi (wi (wi M (k + 1) (7 * cN (iv M k 1)) h) (k + 1) (7 * cN (iv M k 1) + 1) kd) (k + 1) (7 * cN (iv M k 1) + 2) a) (k + 1) (7 * cN (iv M k 1) + 3) b) (k + 1) (7 * cN (iv M k 1) + 4) c) (k + 1) (7 * cN (iv M k 1) + 5) d) (k + 1) (7 * cN (iv M k 1) + 6) e) k 1 (iv M k 1 + 1)
def t_flow (M : w_M) (k u : Nat) : Int32 := f_min (f_min (iv M k 1) (iv M u 0)) (iv M k 3 - iv M k 5)
def t_stop (M : w_M) (k u : Nat) : Int32 := if iv M u 0 ≤ 0 then 1 else if f_sal (iv M u 0) (iv M u 1) ≤ iv M k 2 then 0 else 1
def m_take (M : w_M) (k u j : Nat) : w_M := if t_stop M k u = 0 then wj (wj (wi (wi (m_out (wi M k 9 0) u (t_flow M k u)) k 5 (iv M k 5 + t_flow M k u)) k 6 (iv M k 6 + t_flow M k u)) j 3 (jv M j 3 + (t_flow M k u).toInt64)) j 6 (jv M j 6 + (f_goes (t_flow M k u) (iv M u 1) (iv M u 0)).toInt64) else wi (wi M k 9 1) k 8 (iv M k 8 + 1)
def m_sup (M : w_M) (k : Nat) : w_M := wi (wi M k 5 (iv M k 5 - f_min (iv M k 4) (iv M k 5))) k 7 (iv M k 7 + (iv M k 4 - f_min (iv M k 4) (iv M k 5)))
def i_ans (M : w_M) (k : Nat) (w : Nat) : Int32 := match w with
  | 0 => iv M k 5 | 1 => iv M k 6 | 2 => iv M k 7 | 3 => if iv M k 9 = 0 then 0 else 1 | _ => iv M k 8
def b_ans (M : w_M) (k i : Nat) (w : Nat) : Int32 := match w with
  | 0 => iv M (k + 7) i | 1 => iv M (k + 8) i | _ => if iv M (k + 9) i = 0 then 0 else 1
def m_ibeg (M : w_M) (k : Nat) (a b c d e : Int32) : w_M := wi (wi (wi (wi (wi (wi (wi (wi (wi (wi M k 0 a) k 1 b) k 2 c) k 3 d) k 4 e) k 5 0) k 6 0) k 7 0) k 8 0) k 9 0
def b_clo (M : w_M) (k s0 t : Nat) : Bool := if iv M k 4 = -1 then false else s_abv M s0 (iv M k 4) (cN (iv M k 5) + 1) t
def m_lk2 (M : w_M) (k t : Nat) : w_M := wi (wi (wi M (k + 7) (cN (iv M k 3)) (nI t)) (k + 9) (cN (iv M k 3)) 0) k 3 (iv M k 3 + 1)
def m_lk3 (M : w_M) (k s0 t : Nat) : w_M := if cN (iv M k 3) = 0 then M else wi (wi M (k + 8) (cN (iv M k 3) - 1) (nI t)) (k + 9) (cN (iv M k 3) - 1) (if iv M (k + 9) (cN (iv M k 3) - 1) = 0 then (if iv M k 4 < s_for (wi M (k + 8) (cN (iv M k 3) - 1) (nI t)) s0 (nI t) then 1 else 0) else 1)
def m_look (M : w_M) (k s0 t : Nat) : w_M := if b_clo M k s0 t = true then m_lk3 (if iv M k 6 = 0 ∧ cN (iv M k 3) < 500 then m_lk2 (wi M k 6 1) k t else wi M k 6 1) k s0 t else wi M k 6 0
theorem u_i0 (n : Nat) : nI n + 0 = nI n := Int32.add_zero _
theorem u_i1 (n : Nat) : nI n + 1 = nI (n + 1) := nI_1 n
theorem u_i2 (n : Nat) : nI n + 2 = nI (n + 2) := nI_add n 2
theorem u_i3 (n : Nat) : nI n + 3 = nI (n + 3) := nI_add n 3
theorem u_i4 (n : Nat) : nI n + 4 = nI (n + 4) := nI_add n 4
set_option maxHeartbeats 4000000 in
set_option maxRecDepth 100000 in
theorem c_X5_begin (l : Launch) (D : va_G) (G : w_G) (M : w_M) (k : Nat) (hk : L_sea G (k))  : u_Mv l D G yX5_begin cX5_begin 1 none 0 0 [.ref (gP G k)] M (fun M' => M' = wi (wi (wi M k 3 0) k 4 0) k 5 50) := by
  refine u_bodyv (by decide +kernel) (Nat.le_of_ble_eq_true rfl) rfl (fun p e s m args below meth c A H0 Q C ret => ?_)
  refine u_aload_n C dX5_begin_0 rfl ?_
  refine u_iconst (v := 0) C dX5_begin_1 (by decide) ?_
  refine u_putI C pX5_begin_2 rfl (sea_is hk) ?_
  refine u_aload_n C dX5_begin_5 rfl ?_
  refine u_iconst (v := 0) C dX5_begin_6 (by decide) ?_
  refine u_putI C pX5_begin_7 rfl (sea_is hk) ?_
  refine u_aload_n C dX5_begin_10 rfl ?_
  refine u_bipush (v := 50) C dX5_begin_11 (by decide) ?_
  refine u_putI C pX5_begin_13 rfl (sea_is hk) ?_
  exact ret _ _  _ dX5_begin_16  (rfl)
set_option maxHeartbeats 4000000 in
set_option maxRecDepth 100000 in
theorem c_X5_addTurn (l : Launch) (D : va_G) (G : w_G) (M : w_M) (k : Nat) (p : Int32) (r : Int32) (g : Int32) (f : Int32) (hk : L_sea G (k)) (hn : cB (iv M k 3) 6) : u_Mv l D G yX5_addTurn cX5_addTurn 6 none 0 0 [.ref (gP G k), .int p, .int r, .int g, .int f] M (fun M' => M' = m_addT M k p r g f) := by
  obtain ⟨n, hn6, hn⟩ := hn
  have en : cN (iv M k 3) = n := by rw [hn]; exact cN_nI (by omega)
  refine u_bodyv (by decide +kernel) (Nat.le_of_ble_eq_true rfl) rfl (fun p e s m args below meth c A H0 Q C ret => ?_)
  refine u_aload_n C dX5_addTurn_0 rfl ?_
  refine u_getI C gX5_addTurn_1 rfl (sea_is hk) ?_
  refine u_aload_n C dX5_addTurn_4 rfl ?_
  refine u_getR (k2 := (k + 5)) C gX5_addTurn_5 rfl (sea_is hk) (sea_f0 hk) ?_
  refine u_alenR C dX5_addTurn_8 (aTrn_is (sea_p0 hk)) (by decide) ?_
  rw [aTrn_n (sea_p0 hk)]
  rw [hn]
  refine u_icmp_lt (tgt := 13) C dX5_addTurn_9 (by decide) (fun c_9 => ?_) (fun c_9 => ?_)
  · have hi : n < 6 := by rw [Int32.lt_iff_toInt_lt, nI_toInt (by omega)] at c_9; exact Int.ofNat_lt.mp c_9
    refine u_aload_n C dX5_addTurn_13 rfl ?_
    refine u_getR (k2 := (k + 5)) C gX5_addTurn_14 rfl (sea_is hk) (sea_f0 hk) ?_
    refine u_aload_n C dX5_addTurn_17 rfl ?_
    refine u_getI C gX5_addTurn_18 rfl (sea_is hk) ?_
    rw [hn]
    refine u_aaldN (k2 := (k + 19 + n)) (i := n) C dX5_addTurn_21 (aTrn_is (sea_p0 hk)) (by decide) (aTrn_n (sea_p0 hk)) hi (by decide) (aTrn_f (i := n) (sea_p0 hk) hi) ?_
    refine u_astore C dX5_addTurn_22 (by decide) ?_
    refine u_aload C dX5_addTurn_24 rfl ?_
    refine u_iload_n C dX5_addTurn_26 rfl ?_
    refine u_putI C pX5_addTurn_27 rfl (trn_is (aTrn_p (i := n) (sea_p0 hk) hi)) ?_
    refine u_aload C dX5_addTurn_30 rfl ?_
    refine u_iload_n C dX5_addTurn_32 rfl ?_
    refine u_putI C pX5_addTurn_33 rfl (trn_is (aTrn_p (i := n) (sea_p0 hk) hi)) ?_
    refine u_aload C dX5_addTurn_36 rfl ?_
    refine u_iload_n C dX5_addTurn_38 rfl ?_
    refine u_putI C pX5_addTurn_39 rfl (trn_is (aTrn_p (i := n) (sea_p0 hk) hi)) ?_
    refine u_aload C dX5_addTurn_42 rfl ?_
    refine u_iload C dX5_addTurn_44 rfl ?_
    refine u_putI C pX5_addTurn_46 rfl (trn_is (aTrn_p (i := n) (sea_p0 hk) hi)) ?_
    refine u_aload_n C dX5_addTurn_49 rfl ?_
    refine u_dup C dX5_addTurn_50 rfl ?_
    refine u_getI C gX5_addTurn_51 rfl (sea_is hk) ?_
    refine u_iconst (v := 1) C dX5_addTurn_54 (by decide) ?_
    refine u_iadd C dX5_addTurn_55 ?_
    refine u_putI C pX5_addTurn_56 rfl (sea_is hk) ?_
    exact ret _ _  _ dX5_addTurn_59  (by have e9 : ¬ k = k + 19 + n := (by omega); simp [m_addT, en, hi, iv_wi, e9])
  · exact ret _ _  _ dX5_addTurn_12  (by have : ¬ n < 6 := fun q => c_9 (nI_lt q (by decide)); simp [m_addT, en, this])
set_option maxHeartbeats 4000000 in
set_option maxRecDepth 100000 in
theorem c_X5_addSurge (l : Launch) (D : va_G) (G : w_G) (M : w_M) (k : Nat) (a : Int32) (b : Int32) (x : Int32) (hk : L_sea G (k)) (hn : cB (iv M k 4) 20) : u_Mv l D G yX5_addSurge cX5_addSurge 5 none 0 0 [.ref (gP G k), .int a, .int b, .int x] M (fun M' => M' = m_addS M k a b x) := by
  obtain ⟨n, hn6, hn⟩ := hn
  have en : cN (iv M k 4) = n := by rw [hn]; exact cN_nI (by omega)
  refine u_bodyv (by decide +kernel) (Nat.le_of_ble_eq_true rfl) rfl (fun p e s m args below meth c A H0 Q C ret => ?_)
  refine u_aload_n C dX5_addSurge_0 rfl ?_
  refine u_getI C gX5_addSurge_1 rfl (sea_is hk) ?_
  refine u_aload_n C dX5_addSurge_4 rfl ?_
  refine u_getR (k2 := (k + 6)) C gX5_addSurge_5 rfl (sea_is hk) (sea_f1 hk) ?_
  refine u_alenR C dX5_addSurge_8 (aSrg_is (sea_p1 hk)) (by decide) ?_
  rw [aSrg_n (sea_p1 hk)]
  rw [hn]
  refine u_icmp_lt (tgt := 13) C dX5_addSurge_9 (by decide) (fun c_9 => ?_) (fun c_9 => ?_)
  · have hi : n < 20 := by rw [Int32.lt_iff_toInt_lt, nI_toInt (by omega)] at c_9; exact Int.ofNat_lt.mp c_9
    refine u_aload_n C dX5_addSurge_13 rfl ?_
    refine u_getR (k2 := (k + 6)) C gX5_addSurge_14 rfl (sea_is hk) (sea_f1 hk) ?_
    refine u_aload_n C dX5_addSurge_17 rfl ?_
    refine u_getI C gX5_addSurge_18 rfl (sea_is hk) ?_
    rw [hn]
    refine u_aaldN (k2 := (k + 29 + n)) (i := n) C dX5_addSurge_21 (aSrg_is (sea_p1 hk)) (by decide) (aSrg_n (sea_p1 hk)) hi (by decide) (aSrg_f (i := n) (sea_p1 hk) hi) ?_
    refine u_astore C dX5_addSurge_22 (by decide) ?_
    refine u_aload C dX5_addSurge_24 rfl ?_
    refine u_iload_n C dX5_addSurge_26 rfl ?_
    refine u_putI C pX5_addSurge_27 rfl (srg_is (aSrg_p (i := n) (sea_p1 hk) hi)) ?_
    refine u_aload C dX5_addSurge_30 rfl ?_
    refine u_iload_n C dX5_addSurge_32 rfl ?_
    refine u_putI C pX5_addSurge_33 rfl (srg_is (aSrg_p (i := n) (sea_p1 hk) hi)) ?_
    refine u_aload C dX5_addSurge_36 rfl ?_
    refine u_iload_n C dX5_addSurge_38 rfl ?_
    refine u_putI C pX5_addSurge_39 rfl (srg_is (aSrg_p (i := n) (sea_p1 hk) hi)) ?_
    refine u_aload_n C dX5_addSurge_42 rfl ?_
    refine u_dup C dX5_addSurge_43 rfl ?_
    refine u_getI C gX5_addSurge_44 rfl (sea_is hk) ?_
    refine u_iconst (v := 1) C dX5_addSurge_47 (by decide) ?_
    refine u_iadd C dX5_addSurge_48 ?_
    refine u_putI C pX5_addSurge_49 rfl (sea_is hk) ?_
    exact ret _ _  _ dX5_addSurge_52  (by have e9 : ¬ k = k + 29 + n := (by omega); simp [m_addS, en, hi, iv_wi, e9])
  · exact ret _ _  _ dX5_addSurge_12  (by have : ¬ n < 20 := fun q => c_9 (nI_lt q (by decide)); simp [m_addS, en, this])
set_option maxHeartbeats 4000000 in
set_option maxRecDepth 100000 in
theorem c_X5_foretold (l : Launch) (D : va_G) (G : w_G) (M : w_M) (k : Nat) (h : Int32) (hk : L_sea G (k)) (hn : cB (iv M k 3) 6) (hm : cB (iv M k 4) 20) : u_Mi l D G yX5_foretold cX5_foretold 4 (some .int) 1 22 [.ref (gP G k), .int h] M (fun r M' => r = s_for M k h ∧ M' = M) := by
  obtain ⟨n, hn6, hn⟩ := hn
  obtain ⟨m9, hm20, hm⟩ := hm
  have en : cN (iv M k 3) = n := by rw [hn]; exact cN_nI (by omega)
  have em : cN (iv M k 4) = m9 := by rw [hm]; exact cN_nI (by omega)
  refine u_bodyi (by decide +kernel) (Nat.le_of_ble_eq_true rfl) rfl (fun p e s m args below meth c A H0 Q C ret => ?_)
  have loop2 : ∀ (d j : Nat) (x2 x3 : Int32), j ≤ m9 → m9 - j < d → x3 = nI j → x2 = s_s M k h n j → u_S p l e (u_rm 1 22) s m args below meth c 4 D A H0 0 0 Q 36 [(0, .ref (gP G k)), (1, .int h), (2, .int x2), (3, .int x3)] [] G M := by
    intro d
    induction d with
    | zero => intro j x2 x3 hj hd; omega
    | succ d ih =>
      intro j x2 x3 hj hd h3 h2
      subst h3
      refine u_iload_n C dX5_foretold_36 rfl ?_
      refine u_aload_n C dX5_foretold_37 rfl ?_
      refine u_getI C gX5_foretold_38 rfl (sea_is hk) ?_
      rw [hm]
      refine u_icmp_ge (tgt := 88) C dX5_foretold_41 (by decide) (fun c_41 => ?_) (fun c_41 => ?_)
      · obtain rfl : j = m9 := by have := u_gei c_41 (by omega) (by omega); omega
        refine u_iload_n C dX5_foretold_88 rfl ?_
        exact ret _ _ _ _ dX5_foretold_89  (⟨by rw [h2, s_for, en, em], rfl⟩)
      · have hj2 : j < m9 := u_lt c_41 (by omega)
        refine u_aload_n C dX5_foretold_44 rfl ?_
        refine u_getR (k2 := (k + 6)) C gX5_foretold_45 rfl (sea_is hk) (sea_f1 hk) ?_
        refine u_iload_n C dX5_foretold_48 rfl ?_
        refine u_aaldN (k2 := (k + 29 + j)) (i := j) C dX5_foretold_49 (aSrg_is (sea_p1 hk)) (by decide) (aSrg_n (sea_p1 hk)) (by omega) (by decide) (aSrg_f (i := j) (sea_p1 hk) (by omega)) ?_
        refine u_getI C gX5_foretold_50 rfl (srg_is (aSrg_p (i := j) (sea_p1 hk) (by omega))) ?_
        refine u_iload_n C dX5_foretold_53 rfl ?_
        refine u_icmp_gt (tgt := 82) C dX5_foretold_54 (by decide) (fun c_54 => ?_) (fun c_54 => ?_)
        · refine u_iinc C dX5_foretold_82 (by decide) rfl ?_
          refine u_goto (tgt := 36) C dX5_foretold_85 (by decide) ?_
          exact u_loc [0, 1, 2, 3] rfl (ih (j + 1) _ _ (by omega) (by omega) (nI_1 j) (by rw [h2]; simp [s_s, c_41, c_54]))
        · refine u_iload_n C dX5_foretold_57 rfl ?_
          refine u_aload_n C dX5_foretold_58 rfl ?_
          refine u_getR (k2 := (k + 6)) C gX5_foretold_59 rfl (sea_is hk) (sea_f1 hk) ?_
          refine u_iload_n C dX5_foretold_62 rfl ?_
          refine u_aaldN (k2 := (k + 29 + j)) (i := j) C dX5_foretold_63 (aSrg_is (sea_p1 hk)) (by decide) (aSrg_n (sea_p1 hk)) (by omega) (by decide) (aSrg_f (i := j) (sea_p1 hk) (by omega)) ?_
          refine u_getI C gX5_foretold_64 rfl (srg_is (aSrg_p (i := j) (sea_p1 hk) (by omega))) ?_
          refine u_icmp_gt (tgt := 82) C dX5_foretold_67 (by decide) (fun c_67 => ?_) (fun c_67 => ?_)
          · refine u_iinc C dX5_foretold_82 (by decide) rfl ?_
            refine u_goto (tgt := 36) C dX5_foretold_85 (by decide) ?_
            exact u_loc [0, 1, 2, 3] rfl (ih (j + 1) _ _ (by omega) (by omega) (nI_1 j) (by rw [h2]; simp [s_s, c_41, c_54, c_67]))
          · refine u_iload_n C dX5_foretold_70 rfl ?_
            refine u_aload_n C dX5_foretold_71 rfl ?_
            refine u_getR (k2 := (k + 6)) C gX5_foretold_72 rfl (sea_is hk) (sea_f1 hk) ?_
            refine u_iload_n C dX5_foretold_75 rfl ?_
            refine u_aaldN (k2 := (k + 29 + j)) (i := j) C dX5_foretold_76 (aSrg_is (sea_p1 hk)) (by decide) (aSrg_n (sea_p1 hk)) (by omega) (by decide) (aSrg_f (i := j) (sea_p1 hk) (by omega)) ?_
            refine u_getI C gX5_foretold_77 rfl (srg_is (aSrg_p (i := j) (sea_p1 hk) (by omega))) ?_
            refine u_iadd C dX5_foretold_80 ?_
            refine u_istore_n C dX5_foretold_81 (by decide) ?_
            refine u_iinc C dX5_foretold_82 (by decide) rfl ?_
            refine u_goto (tgt := 36) C dX5_foretold_85 (by decide) ?_
            exact u_loc [0, 1, 2, 3] rfl (ih (j + 1) _ _ (by omega) (by omega) (nI_1 j) (by rw [h2]; simp [s_s, c_41, c_54, c_67]))
  have loop1 : ∀ (d i : Nat) (x2 x3 : Int32), i ≤ n → n - i < d → x3 = nI i → x2 = s_t M k h i → u_S p l e (u_rm 1 22) s m args below meth c 4 D A H0 0 0 Q 7 [(0, .ref (gP G k)), (1, .int h), (2, .int x2), (3, .int x3)] [] G M := by
    intro d
    induction d with
    | zero => intro i x2 x3 hj hd; omega
    | succ d ih =>
      intro i x2 x3 hj hd h3 h2
      subst h3
      refine u_iload_n C dX5_foretold_7 rfl ?_
      refine u_aload_n C dX5_foretold_8 rfl ?_
      refine u_getI C gX5_foretold_9 rfl (sea_is hk) ?_
      rw [hn]
      refine u_icmp_ge (tgt := 34) C dX5_foretold_12 (by decide) (fun c_12 => ?_) (fun c_12 => ?_)
      · obtain rfl : i = n := by have := u_gei c_12 (by omega) (by omega); omega
        refine u_iconst (v := 0) C dX5_foretold_34 (by decide) ?_
        refine u_istore_n C dX5_foretold_35 (by decide) ?_
        exact u_loc [0, 1, 2, 3] rfl (loop2 (m9 + 1) 0 _ _ (by omega) (by omega) nI_0.symm h2)
      · have hi : i < n := u_lt c_12 (by omega)
        refine u_iload_n C dX5_foretold_15 rfl ?_
        refine u_aload_n C dX5_foretold_16 rfl ?_
        refine u_getR (k2 := (k + 5)) C gX5_foretold_17 rfl (sea_is hk) (sea_f0 hk) ?_
        refine u_iload_n C dX5_foretold_20 rfl ?_
        refine u_aaldN (k2 := (k + 19 + i)) (i := i) C dX5_foretold_21 (aTrn_is (sea_p0 hk)) (by decide) (aTrn_n (sea_p0 hk)) (by omega) (by decide) (aTrn_f (i := i) (sea_p0 hk) (by omega)) ?_
        refine u_iload_n C dX5_foretold_22 rfl ?_
        refine u_calliV1 C ev_X9_height dX5_foretold_23 ml_RX5_60 (trn_is (aTrn_p (i := i) (sea_p0 hk) (by omega))) rfl (by decide) (c_X9_height l D G _ _ _ (aTrn_p (i := i) (sea_p0 hk) (by omega)) ) (by decide) (Nat.le_of_ble_eq_true rfl) (fun r_23 M_23 q_23 => ?_)
        obtain ⟨rfl, e_23⟩ := q_23
        subst M_23
        refine u_iadd C dX5_foretold_26 ?_
        refine u_istore_n C dX5_foretold_27 (by decide) ?_
        refine u_iinc C dX5_foretold_28 (by decide) rfl ?_
        refine u_goto (tgt := 7) C dX5_foretold_31 (by decide) ?_
        exact u_loc [0, 1, 2, 3] rfl (ih (i + 1) _ _ (by omega) (by omega) (nI_1 i) (by rw [h2]; rfl))
  refine u_aload_n C dX5_foretold_0 rfl ?_
  refine u_getI C gX5_foretold_1 rfl (sea_is hk) ?_
  refine u_istore_n C dX5_foretold_4 (by decide) ?_
  refine u_iconst (v := 0) C dX5_foretold_5 (by decide) ?_
  refine u_istore_n C dX5_foretold_6 (by decide) ?_
  exact u_loc [0, 1, 2, 3] rfl (loop1 (n + 1) 0 _ _ (by omega) (by omega) nI_0.symm rfl)
set_option maxHeartbeats 4000000 in
set_option maxRecDepth 100000 in
theorem c_X5_foretoldAbove (l : Launch) (D : va_G) (G : w_G) (M : w_M) (k : Nat) (mark : Int32) (t : Nat) (u : Nat) (hk : L_sea G (k)) (hn : cB (iv M k 3) 6) (hm : cB (iv M k 4) 20) (htu : t ≤ u + 1) (hu : u < 4000) : u_Mi l D G yX5_foretoldAbove cX5_foretoldAbove 5 (some .boolean) 2 45 [.ref (gP G k), .int mark, .int (nI t), .int (nI u)] M (fun r M' => r = (if s_abv M k mark (u + 1 - t) t = true then 1 else 0) ∧ M' = M) := by
  refine u_bodyz (by decide +kernel) (Nat.le_of_ble_eq_true rfl) rfl (fun p e s m args below meth c A H0 Q C ret => ?_)
  have loop1 : ∀ (d j : Nat) (x4 : Int32), j ≤ u + 1 → u + 1 - j < d → x4 = nI j → s_abv M k mark (u + 1 - t) t = s_abv M k mark (u + 1 - j) j → u_S p l e (u_rm 2 45) s m args below meth c 5 D A H0 0 0 Q 3 [(0, .ref (gP G k)), (1, .int mark), (2, .int (nI t)), (3, .int (nI u)), (4, .int x4)] [] G M := by
    intro d
    induction d with
    | zero => intro j x4 hj hd; omega
    | succ d ih =>
      intro j x4 hj hd h4 hres
      subst h4
      refine u_iload C dX5_foretoldAbove_3 rfl ?_
      refine u_iload_n C dX5_foretoldAbove_5 rfl ?_
      refine u_icmp_gt (tgt := 27) C dX5_foretoldAbove_6 (by decide) (fun c_6 => ?_) (fun c_6 => ?_)
      · have hj2 : u < j := (nI_ltI (by omega) (by omega)).mp c_6
        refine u_iconst (v := 0) C dX5_foretoldAbove_27 (by decide) ?_
        exact ret _ _ _ _ dX5_foretoldAbove_28 (by simp) (by rw [hres, show u + 1 - j = 0 by omega]; simp [s_abv])
      · have hj2 : ¬ u < j := fun q => c_6 ((nI_ltI (by omega) (by omega)).mpr q)
        obtain ⟨c9, hc⟩ : ∃ c9, u + 1 - j = c9 + 1 := ⟨u - j, by omega⟩
        refine u_aload_n C dX5_foretoldAbove_9 rfl ?_
        refine u_iload C dX5_foretoldAbove_10 rfl ?_
        refine u_calliV1 C ev_X5_foretold dX5_foretoldAbove_12 ml_RX5_63 (sea_is hk) rfl (by decide) (c_X5_foretold l D G _ _ _ hk hn hm) (by decide) (Nat.le_of_ble_eq_true rfl) (fun r_12 M_12 q_12 => ?_)
        obtain ⟨rfl, e_12⟩ := q_12
        subst M_12
        refine u_iload_n C dX5_foretoldAbove_15 rfl ?_
        refine u_icmp_le (tgt := 21) C dX5_foretoldAbove_16 (by decide) (fun c_16 => ?_) (fun c_16 => ?_)
        · refine u_iinc C dX5_foretoldAbove_21 (by decide) rfl ?_
          refine u_goto (tgt := 3) C dX5_foretoldAbove_24 (by decide) ?_
          exact u_loc [0, 1, 2, 3, 4] rfl (ih (j + 1) _ (by omega) (by omega) (nI_1 j) (by (try simp only [u_le, Decidable.not_not] at c_6 c_16); rw [hres, hc, show u + 1 - (j + 1) = c9 by omega]; simp [s_abv, c_6, c_16]))
        · refine u_iconst (v := 1) C dX5_foretoldAbove_19 (by decide) ?_
          exact ret _ _ _ _ dX5_foretoldAbove_20 (by simp) (by (try simp only [u_le, Decidable.not_not] at c_6 c_16); rw [hres, hc]; simp [s_abv, c_6, c_16])
  refine u_iload_n C dX5_foretoldAbove_0 rfl ?_
  refine u_istore C dX5_foretoldAbove_1 (by decide) ?_
  exact u_loc [0, 1, 2, 3, 4] rfl (loop1 (u + 2) t _ (by omega) (by omega) rfl rfl)
set_option maxHeartbeats 4000000 in
set_option maxRecDepth 100000 in
theorem c_X5_keep (l : Launch) (D : va_G) (G : w_G) (M : w_M) (k : Nat) (t : Nat) (h : Int32) (hk : L_sea G (k)) (ht : t < 1000) : u_Mv l D G yX5_keep cX5_keep 3 none 0 0 [.ref (gP G k), .int (nI t), .int h] M (fun M' => M' = wi M (k + 7) t h) := by
  refine u_bodyv (by decide +kernel) (Nat.le_of_ble_eq_true rfl) rfl (fun p e s m args below meth c A H0 Q C ret => ?_)
  refine u_iload_n C dX5_keep_0 rfl ?_
  refine u_if_lt (tgt := 20) C dX5_keep_1 (by decide) (fun c_1 => ?_) (fun c_1 => ?_)
  · exact absurd c_1 (nI_pos (by omega))
  · refine u_iload_n C dX5_keep_4 rfl ?_
    refine u_aload_n C dX5_keep_5 rfl ?_
    refine u_getR (k2 := (k + 7)) C gX5_keep_6 rfl (sea_is hk) (sea_f2 hk) ?_
    refine u_alenI C dX5_keep_9 (a1000_is (sea_p2 hk)) ?_
    rw [a1000_n (sea_p2 hk)]
    refine u_icmp_ge (tgt := 20) C dX5_keep_10 (by decide) (fun c_10 => ?_) (fun c_10 => ?_)
    · exact absurd c_10 (nI_ge (by omega) (by decide))
    · refine u_aload_n C dX5_keep_13 rfl ?_
      refine u_getR (k2 := (k + 7)) C gX5_keep_14 rfl (sea_is hk) (sea_f2 hk) ?_
      refine u_iload_n C dX5_keep_17 rfl ?_
      refine u_iload_n C dX5_keep_18 rfl ?_
      refine u_iastN (i := t) C dX5_keep_19 (a1000_is (sea_p2 hk)) (a1000_n (sea_p2 hk)) ht (by decide) ?_
      exact ret _ _  _ dX5_keep_20  (rfl)
set_option maxHeartbeats 4000000 in
set_option maxRecDepth 100000 in
theorem c_J9_floorMod_7cf53 (l : Launch) (D : va_G) (G : w_G) (M : w_M) (t : Nat)  (ht : t < 1000) : u_Mi l D G yJ9_floorMod_7cf53 cJ9_floorMod_7cf53 3 (some .int) 0 0 [.int (nI t), .int 24] M (fun r M' => r = nI (t % 24) ∧ M' = M) := by
  refine u_bodyi (by decide +kernel) (Nat.le_of_ble_eq_true rfl) rfl (fun p e s m args below meth c A H0 Q C ret => ?_)
  refine u_iload_n C dJ9_floorMod_7cf53_0 rfl ?_
  refine u_iload_n C dJ9_floorMod_7cf53_1 rfl ?_
  refine u_irem C dJ9_floorMod_7cf53_2 (by decide) ?_
  refine u_istore_n C dJ9_floorMod_7cf53_3 (by decide) ?_
  refine u_iload_n C dJ9_floorMod_7cf53_4 rfl ?_
  refine u_iload_n C dJ9_floorMod_7cf53_5 rfl ?_
  refine u_ixor C dJ9_floorMod_7cf53_6 ?_
  refine u_if_ge (tgt := 18) C dJ9_floorMod_7cf53_7 (by decide) (fun c_7 => ?_) (fun c_7 => ?_)
  · refine u_iload_n C dJ9_floorMod_7cf53_18 rfl ?_
    exact ret _ _ _ _ dJ9_floorMod_7cf53_19  (⟨pk_rem (d := 24) (by omega) (by decide) (by decide), rfl⟩)
  · exact absurd (u_xor24 t (by omega)) c_7
set_option maxHeartbeats 4000000 in
set_option maxRecDepth 100000 in
theorem c_X6_endHour (l : Launch) (D : va_G) (G : w_G) (M : w_M) (k : Nat) (t : Nat) (hk : L_sec G (k)) (ht : t < 1000) : u_Mv l D G yX6_endHour cX6_endHour 2 none 1 22 [.ref (gP G k), .int (nI t)] M (fun M' => M' = wi M (k + 40) (t % 24) (f_sal (iv M (k + 30) 0) (iv M (k + 30) 1))) := by
  refine u_bodyv (by decide +kernel) (Nat.le_of_ble_eq_true rfl) rfl (fun p e s m args below meth c A H0 Q C ret => ?_)
  refine u_aload_n C dX6_endHour_0 rfl ?_
  refine u_getR (k2 := (k + 40)) C gX6_endHour_1 rfl (sec_is hk) (sec_f2 hk) ?_
  refine u_iload_n C dX6_endHour_4 rfl ?_
  refine u_bipush (v := 24) C dX6_endHour_5 (by decide) ?_
  refine u_calliS2 C es_J9_floorMod_7cf53 dX6_endHour_7 ml_RX6_69 (c_J9_floorMod_7cf53 l D G _ _  ht) (by decide) (Nat.le_of_ble_eq_true rfl) (fun r_7 M_7 q_7 => ?_)
  obtain ⟨rfl, e_7⟩ := q_7
  subst M_7
  refine u_aload_n C dX6_endHour_10 rfl ?_
  refine u_getR (k2 := (k + 30)) C gX6_endHour_11 rfl (sec_is hk) (sec_f1 hk) ?_
  refine u_calliV0 C ev_X2_salinity dX6_endHour_14 ml_RX6_72 (lay_is (sec_p1 hk)) rfl (by decide) (c_X2_salinity l D G _ _ (sec_p1 hk) ) (by decide) (Nat.le_of_ble_eq_true rfl) (fun r_14 M_14 q_14 => ?_)
  obtain ⟨rfl, e_14⟩ := q_14
  subst M_14
  refine u_iastN (i := t % 24) C dX6_endHour_17 (a24_is (sec_p2 hk)) (a24_n (sec_p2 hk)) (by omega) (by decide) ?_
  exact ret _ _  _ dX6_endHour_18  (rfl)
set_option maxHeartbeats 4000000 in
set_option maxRecDepth 100000 in
theorem c_X6_wasFresher (l : Launch) (D : va_G) (G : w_G) (M : w_M) (k : Nat) (grain : Int32) (hs : Nat) (t : Nat) (hk : L_sec G (k)) (ht : t ≤ 1000) (hh : hs ≤ 24) : u_Mi l D G yX6_wasFresher cX6_wasFresher 5 (some .boolean) 1 22 [.ref (gP G k), .int grain, .int (nI hs), .int (nI t)] M (fun r M' => r = (if s_fr M k grain (t - (t - hs)) (t - hs) = true then 1 else 0) ∧ M' = M) := by
  refine u_bodyz (by decide +kernel) (Nat.le_of_ble_eq_true rfl) rfl (fun p e s m args below meth c A H0 Q C ret => ?_)
  have loop1 : ∀ (d j : Nat) (x4 : Int32), j ≤ t → t - j < d → x4 = nI j → s_fr M k grain (t - (t - hs)) (t - hs) = s_fr M k grain (t - j) j → u_S p l e (u_rm 1 22) s m args below meth c 5 D A H0 0 0 Q 9 [(0, .ref (gP G k)), (1, .int grain), (2, .int (nI hs)), (3, .int (nI t)), (4, .int x4)] [] G M := by
    intro d
    induction d with
    | zero => intro j x4 hj hd; omega
    | succ d ih =>
      intro j x4 hj hd h4 hres
      subst h4
      refine u_iload C dX6_wasFresher_9 rfl ?_
      refine u_iload_n C dX6_wasFresher_11 rfl ?_
      refine u_icmp_ge (tgt := 39) C dX6_wasFresher_12 (by decide) (fun c_12 => ?_) (fun c_12 => ?_)
      · have hj2 : t ≤ j := u_gei c_12 (by omega) (by omega)
        refine u_iconst (v := 0) C dX6_wasFresher_39 (by decide) ?_
        exact ret _ _ _ _ dX6_wasFresher_40 (by simp) (by rw [hres, show t - j = 0 by omega]; simp [s_fr])
      · have hj2 : j < t := u_lt c_12 (by omega)
        obtain ⟨c9, hc⟩ : ∃ c9, t - j = c9 + 1 := ⟨t - j - 1, by omega⟩
        refine u_aload_n C dX6_wasFresher_15 rfl ?_
        refine u_getR (k2 := (k + 40)) C gX6_wasFresher_16 rfl (sec_is hk) (sec_f2 hk) ?_
        refine u_iload C dX6_wasFresher_19 rfl ?_
        refine u_bipush (v := 24) C dX6_wasFresher_21 (by decide) ?_
        refine u_calliS2 C es_J9_floorMod_7cf53 dX6_wasFresher_23 ml_RX6_69 (c_J9_floorMod_7cf53 l D G _ _  (by omega)) (by decide) (Nat.le_of_ble_eq_true rfl) (fun r_23 M_23 q_23 => ?_)
        obtain ⟨rfl, e_23⟩ := q_23
        subst M_23
        refine u_ialdN (i := j % 24) C dX6_wasFresher_26 (a24_is (sec_p2 hk)) (a24_n (sec_p2 hk)) (by omega) (by decide) ?_
        refine u_iload_n C dX6_wasFresher_27 rfl ?_
        refine u_icmp_ge (tgt := 33) C dX6_wasFresher_28 (by decide) (fun c_28 => ?_) (fun c_28 => ?_)
        · refine u_iinc C dX6_wasFresher_33 (by decide) rfl ?_
          refine u_goto (tgt := 9) C dX6_wasFresher_36 (by decide) ?_
          exact u_loc [0, 1, 2, 3, 4] rfl (ih (j + 1) _ (by omega) (by omega) (nI_1 j) (by (try simp only [u_le, Decidable.not_not] at c_12 c_28); rw [hres, hc, show t - (j + 1) = c9 by omega]; simp [s_fr, c_12, c_28]))
        · refine u_iconst (v := 1) C dX6_wasFresher_31 (by decide) ?_
          exact ret _ _ _ _ dX6_wasFresher_32 (by simp) (by (try simp only [u_le, Decidable.not_not] at c_12 c_28); rw [hres, hc]; simp [s_fr, c_12, c_28])
  refine u_iconst (v := 0) C dX6_wasFresher_0 (by decide) ?_
  refine u_iload_n C dX6_wasFresher_1 rfl ?_
  refine u_iload_n C dX6_wasFresher_2 rfl ?_
  refine u_isub C dX6_wasFresher_3 ?_
  refine u_mmax C dX6_wasFresher_4 ml_RX6_75 wm_max (by decide) (Nat.le_of_ble_eq_true rfl) ?_
  refine u_istore C dX6_wasFresher_7 (by decide) ?_
  exact u_loc [0, 1, 2, 3, 4] rfl (loop1 (t + 1) (t - hs) _ (by omega) (by omega) (u_max0 (by omega) (by omega)) rfl)
set_option maxHeartbeats 4000000 in
set_option maxRecDepth 100000 in
theorem c_X6_answer (l : Launch) (D : va_G) (G : w_G) (M : w_M) (k : Nat) (w : Nat) (hk : L_sec G (k)) (hw : w < 10) : u_Mi l D G yX6_answer cX6_answer 2 (some .int) 2 40 [.ref (gP G k), .int (nI w)] M (fun r M' => r = s_ans M k w ∧ M' = M) := by
  refine u_bodyi (by decide +kernel) (Nat.le_of_ble_eq_true rfl) rfl (fun p e s m args below meth c A H0 Q C ret => ?_)
  refine u_iload_n C dX6_answer_0 rfl ?_
  rcases (show w = 0 ∨ w = 1 ∨ w = 2 ∨ w = 3 ∨ w = 4 ∨ w = 5 ∨ w = 6 ∨ w = 7 ∨ w = 8 ∨ w = 9 by omega) with rfl | rfl | rfl | rfl | rfl | rfl | rfl | rfl | rfl | rfl
  · refine u_tin (off := 51) (tgt := 52) C dX6_answer_1 (by decide) (by decide) (by decide) (by decide) ?_
    refine u_aload_n C dX6_answer_52 rfl ?_
    refine u_getR (k2 := (k + 20)) C gX6_answer_53 rfl (sec_is hk) (sec_f0 hk) ?_
    refine u_getI C gX6_answer_56 rfl (lay_is (sec_p0 hk)) ?_
    exact ret _ _ _ _ dX6_answer_59  (⟨rfl, rfl⟩)
  · refine u_tin (off := 59) (tgt := 60) C dX6_answer_1 (by decide) (by decide) (by decide) (by decide) ?_
    refine u_aload_n C dX6_answer_60 rfl ?_
    refine u_getR (k2 := (k + 20)) C gX6_answer_61 rfl (sec_is hk) (sec_f0 hk) ?_
    refine u_getI C gX6_answer_64 rfl (lay_is (sec_p0 hk)) ?_
    exact ret _ _ _ _ dX6_answer_67  (⟨rfl, rfl⟩)
  · refine u_tin (off := 67) (tgt := 68) C dX6_answer_1 (by decide) (by decide) (by decide) (by decide) ?_
    refine u_aload_n C dX6_answer_68 rfl ?_
    refine u_getR (k2 := (k + 30)) C gX6_answer_69 rfl (sec_is hk) (sec_f1 hk) ?_
    refine u_getI C gX6_answer_72 rfl (lay_is (sec_p1 hk)) ?_
    exact ret _ _ _ _ dX6_answer_75  (⟨rfl, rfl⟩)
  · refine u_tin (off := 75) (tgt := 76) C dX6_answer_1 (by decide) (by decide) (by decide) (by decide) ?_
    refine u_aload_n C dX6_answer_76 rfl ?_
    refine u_getR (k2 := (k + 30)) C gX6_answer_77 rfl (sec_is hk) (sec_f1 hk) ?_
    refine u_getI C gX6_answer_80 rfl (lay_is (sec_p1 hk)) ?_
    exact ret _ _ _ _ dX6_answer_83  (⟨rfl, rfl⟩)
  · refine u_tin (off := 83) (tgt := 84) C dX6_answer_1 (by decide) (by decide) (by decide) (by decide) ?_
    refine u_aload_n C dX6_answer_84 rfl ?_
    refine u_getI C gX6_answer_85 rfl (sec_is hk) ?_
    exact ret _ _ _ _ dX6_answer_88  (⟨rfl, rfl⟩)
  · refine u_tin (off := 88) (tgt := 89) C dX6_answer_1 (by decide) (by decide) (by decide) (by decide) ?_
    refine u_aload_n C dX6_answer_89 rfl ?_
    refine u_getI C gX6_answer_90 rfl (sec_is hk) ?_
    exact ret _ _ _ _ dX6_answer_93  (⟨rfl, rfl⟩)
  · refine u_tin (off := 93) (tgt := 94) C dX6_answer_1 (by decide) (by decide) (by decide) (by decide) ?_
    refine u_aload_n C dX6_answer_94 rfl ?_
    refine u_calliV0 C ev_X6_level dX6_answer_95 ml_RX6_78 (sec_is hk) rfl (by decide) (c_X6_level l D G _ _ hk ) (by decide) (Nat.le_of_ble_eq_true rfl) (fun r_95 M_95 q_95 => ?_)
    obtain ⟨rfl, e_95⟩ := q_95
    subst M_95
    exact ret _ _ _ _ dX6_answer_98  (⟨rfl, rfl⟩)
  · refine u_tin (off := 98) (tgt := 99) C dX6_answer_1 (by decide) (by decide) (by decide) (by decide) ?_
    refine u_aload_n C dX6_answer_99 rfl ?_
    refine u_getR (k2 := (k + 20)) C gX6_answer_100 rfl (sec_is hk) (sec_f0 hk) ?_
    refine u_calliV0 C ev_X2_salinity dX6_answer_103 ml_RX6_72 (lay_is (sec_p0 hk)) rfl (by decide) (c_X2_salinity l D G _ _ (sec_p0 hk) ) (by decide) (Nat.le_of_ble_eq_true rfl) (fun r_103 M_103 q_103 => ?_)
    obtain ⟨rfl, e_103⟩ := q_103
    subst M_103
    exact ret _ _ _ _ dX6_answer_106  (⟨rfl, rfl⟩)
  · refine u_tin (off := 106) (tgt := 107) C dX6_answer_1 (by decide) (by decide) (by decide) (by decide) ?_
    refine u_aload_n C dX6_answer_107 rfl ?_
    refine u_getR (k2 := (k + 30)) C gX6_answer_108 rfl (sec_is hk) (sec_f1 hk) ?_
    refine u_calliV0 C ev_X2_salinity dX6_answer_111 ml_RX6_72 (lay_is (sec_p1 hk)) rfl (by decide) (c_X2_salinity l D G _ _ (sec_p1 hk) ) (by decide) (Nat.le_of_ble_eq_true rfl) (fun r_111 M_111 q_111 => ?_)
    obtain ⟨rfl, e_111⟩ := q_111
    subst M_111
    exact ret _ _ _ _ dX6_answer_114  (⟨rfl, rfl⟩)
  · refine u_tout (tgt := 115) C dX6_answer_1 (by decide) (by decide) ?_
    refine u_aload_n C dX6_answer_115 rfl ?_
    refine u_getI C gX6_answer_116 rfl (sec_is hk) ?_
    exact ret _ _ _ _ dX6_answer_119  (⟨rfl, rfl⟩)
set_option maxHeartbeats 4000000 in
set_option maxRecDepth 100000 in
theorem c_X8_keep (l : Launch) (D : va_G) (G : w_G) (M : w_M) (k : Nat) (h : Int32) (kd : Int32) (a : Int32) (b : Int32) (c1 : Int32) (d1 : Int32) (e1 : Int32) (hk : L_tld G (k)) (hn : ∃ n : Nat, n < 512 ∧ iv M k 1 = nI n) : u_Mv l D G yX8_keep cX8_keep 9 none 0 0 [.ref (gP G k), .int h, .int kd, .int a, .int b, .int c1, .int d1, .int e1] M (fun M' => M' = m_keep M k h kd a b c1 d1 e1) := by
  obtain ⟨n, hn5, hn⟩ := hn
  have en : cN (iv M k 1) = n := by rw [hn]; exact cN_nI (by omega)
  refine u_bodyv (by decide +kernel) (Nat.le_of_ble_eq_true rfl) rfl (fun p e s m args below meth c A H0 Q C ret => ?_)
  refine u_aload_n C dX8_keep_0 rfl ?_
  refine u_getI C gX8_keep_1 rfl (tld_is hk) ?_
  refine u_sipush (v := 512) C dX8_keep_4 (by decide) ?_
  rw [hn]
  refine u_icmp_lt (tgt := 11) C dX8_keep_7 (by decide) (fun c_7 => ?_) (fun c_7 => ?_)
  · refine u_aload_n C dX8_keep_11 rfl ?_
    refine u_getI C gX8_keep_12 rfl (tld_is hk) ?_
    refine u_bipush (v := 7) C dX8_keep_15 (by decide) ?_
    refine u_imul C dX8_keep_17 ?_
    rw [hn, show nI n * 7 = nI (7 * n) from by rw [show (7 : Int32) = nI 7 from rfl, pk_mul, Nat.mul_comm]]
    refine u_istore C dX8_keep_18 (by decide) ?_
    refine u_aload_n C dX8_keep_20 rfl ?_
    refine u_getR (k2 := (k + 1)) C gX8_keep_21 rfl (tld_is hk) (tld_f0 hk) ?_
    refine u_iload C dX8_keep_24 rfl ?_
    refine u_iconst (v := 0) C dX8_keep_26 (by decide) ?_
    refine u_iadd C dX8_keep_27 ?_
    simp only [u_i0, u_i1, u_i2, u_i3, u_i4, nI_add, Nat.add_zero, Nat.add_assoc, Nat.reduceAdd]
    refine u_iload_n C dX8_keep_28 rfl ?_
    refine u_iastN (i := 7 * n) C dX8_keep_29 (a3584_is (tld_p0 hk)) (a3584_n (tld_p0 hk)) (by omega) (by decide) ?_
    refine u_aload_n C dX8_keep_30 rfl ?_
    refine u_getR (k2 := (k + 1)) C gX8_keep_31 rfl (tld_is hk) (tld_f0 hk) ?_
    refine u_iload C dX8_keep_34 rfl ?_
    refine u_iconst (v := 1) C dX8_keep_36 (by decide) ?_
    refine u_iadd C dX8_keep_37 ?_
    simp only [u_i0, u_i1, u_i2, u_i3, u_i4, nI_add, Nat.add_zero, Nat.add_assoc, Nat.reduceAdd]
    refine u_iload_n C dX8_keep_38 rfl ?_
    refine u_iastN (i := 7 * n + 1) C dX8_keep_39 (a3584_is (tld_p0 hk)) (a3584_n (tld_p0 hk)) (by omega) (by decide) ?_
    refine u_aload_n C dX8_keep_40 rfl ?_
    refine u_getR (k2 := (k + 1)) C gX8_keep_41 rfl (tld_is hk) (tld_f0 hk) ?_
    refine u_iload C dX8_keep_44 rfl ?_
    refine u_iconst (v := 2) C dX8_keep_46 (by decide) ?_
    refine u_iadd C dX8_keep_47 ?_
    simp only [u_i0, u_i1, u_i2, u_i3, u_i4, nI_add, Nat.add_zero, Nat.add_assoc, Nat.reduceAdd]
    refine u_iload_n C dX8_keep_48 rfl ?_
    refine u_iastN (i := 7 * n + 2) C dX8_keep_49 (a3584_is (tld_p0 hk)) (a3584_n (tld_p0 hk)) (by omega) (by decide) ?_
    refine u_aload_n C dX8_keep_50 rfl ?_
    refine u_getR (k2 := (k + 1)) C gX8_keep_51 rfl (tld_is hk) (tld_f0 hk) ?_
    refine u_iload C dX8_keep_54 rfl ?_
    refine u_iconst (v := 2) C dX8_keep_56 (by decide) ?_
    refine u_iadd C dX8_keep_57 ?_
    refine u_iconst (v := 1) C dX8_keep_58 (by decide) ?_
    refine u_iadd C dX8_keep_59 ?_
    simp only [u_i0, u_i1, u_i2, u_i3, u_i4, nI_add, Nat.add_zero, Nat.add_assoc, Nat.reduceAdd]
    refine u_iload C dX8_keep_60 rfl ?_
    refine u_iastN (i := 7 * n + 3) C dX8_keep_62 (a3584_is (tld_p0 hk)) (a3584_n (tld_p0 hk)) (by omega) (by decide) ?_
    refine u_aload_n C dX8_keep_63 rfl ?_
    refine u_getR (k2 := (k + 1)) C gX8_keep_64 rfl (tld_is hk) (tld_f0 hk) ?_
    refine u_iload C dX8_keep_67 rfl ?_
    refine u_iconst (v := 2) C dX8_keep_69 (by decide) ?_
    refine u_iadd C dX8_keep_70 ?_
    refine u_iconst (v := 2) C dX8_keep_71 (by decide) ?_
    refine u_iadd C dX8_keep_72 ?_
    simp only [u_i0, u_i1, u_i2, u_i3, u_i4, nI_add, Nat.add_zero, Nat.add_assoc, Nat.reduceAdd]
    refine u_iload C dX8_keep_73 rfl ?_
    refine u_iastN (i := 7 * n + 4) C dX8_keep_75 (a3584_is (tld_p0 hk)) (a3584_n (tld_p0 hk)) (by omega) (by decide) ?_
    refine u_aload_n C dX8_keep_76 rfl ?_
    refine u_getR (k2 := (k + 1)) C gX8_keep_77 rfl (tld_is hk) (tld_f0 hk) ?_
    refine u_iload C dX8_keep_80 rfl ?_
    refine u_iconst (v := 2) C dX8_keep_82 (by decide) ?_
    refine u_iadd C dX8_keep_83 ?_
    refine u_iconst (v := 3) C dX8_keep_84 (by decide) ?_
    refine u_iadd C dX8_keep_85 ?_
    simp only [u_i0, u_i1, u_i2, u_i3, u_i4, nI_add, Nat.add_zero, Nat.add_assoc, Nat.reduceAdd]
    refine u_iload C dX8_keep_86 rfl ?_
    refine u_iastN (i := 7 * n + 5) C dX8_keep_88 (a3584_is (tld_p0 hk)) (a3584_n (tld_p0 hk)) (by omega) (by decide) ?_
    refine u_aload_n C dX8_keep_89 rfl ?_
    refine u_getR (k2 := (k + 1)) C gX8_keep_90 rfl (tld_is hk) (tld_f0 hk) ?_
    refine u_iload C dX8_keep_93 rfl ?_
    refine u_iconst (v := 2) C dX8_keep_95 (by decide) ?_
    refine u_iadd C dX8_keep_96 ?_
    refine u_iconst (v := 4) C dX8_keep_97 (by decide) ?_
    refine u_iadd C dX8_keep_98 ?_
    simp only [u_i0, u_i1, u_i2, u_i3, u_i4, nI_add, Nat.add_zero, Nat.add_assoc, Nat.reduceAdd]
    refine u_iload C dX8_keep_99 rfl ?_
    refine u_iastN (i := 7 * n + 6) C dX8_keep_101 (a3584_is (tld_p0 hk)) (a3584_n (tld_p0 hk)) (by omega) (by decide) ?_
    refine u_aload_n C dX8_keep_102 rfl ?_
    refine u_dup C dX8_keep_103 rfl ?_
    refine u_getI C gX8_keep_104 rfl (tld_is hk) ?_
    refine u_iconst (v := 1) C dX8_keep_107 (by decide) ?_
    refine u_iadd C dX8_keep_108 ?_
    refine u_putI C pX8_keep_109 rfl (tld_is hk) ?_
    exact ret _ _  _ dX8_keep_112  (by simp [m_keep, en, iv_wi])
  · exact absurd (nI_lt hn5 (by decide)) c_7
set_option maxHeartbeats 4000000 in
set_option maxRecDepth 100000 in
theorem c_X8_part (l : Launch) (D : va_G) (G : w_G) (M : w_M) (k : Nat) (i : Nat) (j : Nat) (hk : L_tld G (k)) (hi : i < 512) (hj : j < 7) : u_Mi l D G yX8_part cX8_part 4 (some .int) 0 0 [.ref (gP G k), .int (nI i), .int (nI j)] M (fun r M' => r = iv M (k + 1) (7 * i + j) ∧ M' = M) := by
  refine u_bodyi (by decide +kernel) (Nat.le_of_ble_eq_true rfl) rfl (fun p e s m args below meth c A H0 Q C ret => ?_)
  refine u_iload_n C dX8_part_0 rfl ?_
  refine u_bipush (v := 7) C dX8_part_1 (by decide) ?_
  refine u_imul C dX8_part_3 ?_
  refine u_iload_n C dX8_part_4 rfl ?_
  refine u_iadd C dX8_part_5 ?_
  rw [show nI i * 7 + nI j = nI (7 * i + j) from by rw [show (7 : Int32) = nI 7 from rfl, pk_mul, nI_add, Nat.mul_comm]]
  refine u_istore_n C dX8_part_6 (by decide) ?_
  refine u_iload_n C dX8_part_7 rfl ?_
  refine u_if_lt (tgt := 29) C dX8_part_8 (by decide) (fun c_8 => ?_) (fun c_8 => ?_)
  · exact absurd c_8 (nI_pos (by omega))
  · refine u_iload_n C dX8_part_11 rfl ?_
    refine u_aload_n C dX8_part_12 rfl ?_
    refine u_getR (k2 := (k + 1)) C gX8_part_13 rfl (tld_is hk) (tld_f0 hk) ?_
    refine u_alenI C dX8_part_16 (a3584_is (tld_p0 hk)) ?_
    rw [a3584_n (tld_p0 hk)]
    refine u_icmp_ge (tgt := 29) C dX8_part_17 (by decide) (fun c_17 => ?_) (fun c_17 => ?_)
    · exact absurd c_17 (nI_ge (by omega) (by decide))
    · refine u_aload_n C dX8_part_20 rfl ?_
      refine u_getR (k2 := (k + 1)) C gX8_part_21 rfl (tld_is hk) (tld_f0 hk) ?_
      refine u_iload_n C dX8_part_24 rfl ?_
      refine u_ialdN (i := 7 * i + j) C dX8_part_25 (a3584_is (tld_p0 hk)) (a3584_n (tld_p0 hk)) (by omega) (by decide) ?_
      refine u_goto (tgt := 30) C dX8_part_26 (by decide) ?_
      exact ret _ _ _ _ dX8_part_30  (⟨rfl, rfl⟩)
set_option maxHeartbeats 4000000 in
set_option maxRecDepth 100000 in
theorem c_X1_begin (l : Launch) (D : va_G) (G : w_G) (M : w_M) (k : Nat) (a : Int32) (b : Int32) (c1 : Int32) (d1 : Int32) (e1 : Int32) (hk : L_int G (k))  : u_Mv l D G yX1_begin cX1_begin 6 none 0 0 [.ref (gP G k), .int a, .int b, .int c1, .int d1, .int e1] M (fun M' => M' = m_ibeg M k a b c1 d1 e1) := by
  refine u_bodyv (by decide +kernel) (Nat.le_of_ble_eq_true rfl) rfl (fun p e s m args below meth c A H0 Q C ret => ?_)
  refine u_aload_n C dX1_begin_0 rfl ?_
  refine u_iload_n C dX1_begin_1 rfl ?_
  refine u_putI C pX1_begin_2 rfl (int_is hk) ?_
  refine u_aload_n C dX1_begin_5 rfl ?_
  refine u_iload_n C dX1_begin_6 rfl ?_
  refine u_putI C pX1_begin_7 rfl (int_is hk) ?_
  refine u_aload_n C dX1_begin_10 rfl ?_
  refine u_iload_n C dX1_begin_11 rfl ?_
  refine u_putI C pX1_begin_12 rfl (int_is hk) ?_
  refine u_aload_n C dX1_begin_15 rfl ?_
  refine u_iload C dX1_begin_16 rfl ?_
  refine u_putI C pX1_begin_18 rfl (int_is hk) ?_
  refine u_aload_n C dX1_begin_21 rfl ?_
  refine u_iload C dX1_begin_22 rfl ?_
  refine u_putI C pX1_begin_24 rfl (int_is hk) ?_
  refine u_aload_n C dX1_begin_27 rfl ?_
  refine u_iconst (v := 0) C dX1_begin_28 (by decide) ?_
  refine u_putI C pX1_begin_29 rfl (int_is hk) ?_
  refine u_aload_n C dX1_begin_32 rfl ?_
  refine u_iconst (v := 0) C dX1_begin_33 (by decide) ?_
  refine u_putI C pX1_begin_34 rfl (int_is hk) ?_
  refine u_aload_n C dX1_begin_37 rfl ?_
  refine u_iconst (v := 0) C dX1_begin_38 (by decide) ?_
  refine u_putI C pX1_begin_39 rfl (int_is hk) ?_
  refine u_aload_n C dX1_begin_42 rfl ?_
  refine u_iconst (v := 0) C dX1_begin_43 (by decide) ?_
  refine u_putI C pX1_begin_44 rfl (int_is hk) ?_
  refine u_aload_n C dX1_begin_47 rfl ?_
  refine u_iconst (v := 0) C dX1_begin_48 (by decide) ?_
  refine u_putZ C pX1_begin_49 rfl (int_is hk) (by simp) ?_
  exact ret _ _  _ dX1_begin_52  (rfl)
set_option maxHeartbeats 4000000 in
set_option maxRecDepth 100000 in
theorem c_X1_take (l : Launch) (D : va_G) (G : w_G) (M : w_M) (k : Nat) (u : Nat) (j : Nat) (hk : L_int G (k)) (hu : L_lay G (u)) (hj : L_j10 G (j))  : u_Mv l D G yX1_take cX1_take 5 none 2 44 [.ref (gP G k), .ref (gP G u), .ref (gP G j)] M (fun M' => M' = m_take M k u j) := by
  have hku : k ≠ u := u_is_ne (int_is hk) (lay_is hu) (by decide)
  have huk : u ≠ k := fun z => hku z.symm
  refine u_bodyv (by decide +kernel) (Nat.le_of_ble_eq_true rfl) rfl (fun p e s m args below meth c A H0 Q C ret => ?_)
  refine u_aload_n C dX1_take_0 rfl ?_
  refine u_aload_n C dX1_take_1 rfl ?_
  refine u_getI C gX1_take_2 rfl (lay_is hu) ?_
  refine u_if_le (tgt := 19) C dX1_take_5 (by decide) (fun c_5 => ?_) (fun c_5 => ?_)
  · refine u_iconst (v := 1) C dX1_take_19 (by decide) ?_
    refine u_goto (tgt := 24) C dX1_take_20 (by decide) ?_
    refine u_putZ C pX1_take_24 rfl (int_is hk) (by simp) ?_
    refine u_aload_n C dX1_take_27 rfl ?_
    refine u_getI C gX1_take_28 rfl (int_is hk) ?_
    refine u_if_eq (tgt := 45) C dX1_take_31 (by decide) (fun c_31 => ?_) (fun c_31 => ?_)
    · refine u_aload_n C dX1_take_45 rfl ?_
      refine u_getI C gX1_take_46 rfl (int_is hk) ?_
      refine u_aload_n C dX1_take_49 rfl ?_
      refine u_getI C gX1_take_50 rfl (lay_is hu) ?_
      refine u_mmin C dX1_take_53 ml_RX1_52 wm_min (by decide) (Nat.le_of_ble_eq_true rfl) ?_
      refine u_aload_n C dX1_take_56 rfl ?_
      refine u_getI C gX1_take_57 rfl (int_is hk) ?_
      refine u_aload_n C dX1_take_60 rfl ?_
      refine u_getI C gX1_take_61 rfl (int_is hk) ?_
      refine u_isub C dX1_take_64 ?_
      refine u_mmin C dX1_take_65 ml_RX1_52 wm_min (by decide) (Nat.le_of_ble_eq_true rfl) ?_
      refine u_istore_n C dX1_take_68 (by decide) ?_
      refine u_aload_n C dX1_take_69 rfl ?_
      refine u_iload_n C dX1_take_70 rfl ?_
      refine u_calliV1 C ev_X2_giveOut dX1_take_71 ml_RX1_58 (lay_is hu) rfl (by decide) (c_X2_giveOut l D G _ _ _ hu ) (by decide) (Nat.le_of_ble_eq_true rfl) (fun r_71 M_71 q_71 => ?_)
      obtain ⟨rfl, e_71⟩ := q_71
      subst M_71
      refine u_istore C dX1_take_74 (by decide) ?_
      refine u_aload_n C dX1_take_76 rfl ?_
      refine u_dup C dX1_take_77 rfl ?_
      refine u_getI C gX1_take_78 rfl (int_is hk) ?_
      refine u_iload_n C dX1_take_81 rfl ?_
      refine u_iadd C dX1_take_82 ?_
      refine u_putI C pX1_take_83 rfl (int_is hk) ?_
      refine u_aload_n C dX1_take_86 rfl ?_
      refine u_dup C dX1_take_87 rfl ?_
      refine u_getI C gX1_take_88 rfl (int_is hk) ?_
      refine u_iload_n C dX1_take_91 rfl ?_
      refine u_iadd C dX1_take_92 ?_
      refine u_putI C pX1_take_93 rfl (int_is hk) ?_
      refine u_aload_n C dX1_take_96 rfl ?_
      refine u_iconst (v := 3) C dX1_take_97 (by decide) ?_
      refine u_dup2 C dX1_take_98 rfl rfl ?_
      refine u_laldN (i := 3) C dX1_take_99 (j10_is hj) (j10_n hj) (by decide) (by decide) ?_
      refine u_iload_n C dX1_take_100 rfl ?_
      refine u_i2l C dX1_take_101 ?_
      refine u_ladd C dX1_take_102 ?_
      refine u_lastN (i := 3) C dX1_take_103 (j10_is hj) (j10_n hj) (by decide) (by decide) ?_
      refine u_aload_n C dX1_take_104 rfl ?_
      refine u_bipush (v := 6) C dX1_take_105 (by decide) ?_
      refine u_dup2 C dX1_take_107 rfl rfl ?_
      refine u_laldN (i := 6) C dX1_take_108 (j10_is hj) (j10_n hj) (by decide) (by decide) ?_
      refine u_iload C dX1_take_109 rfl ?_
      refine u_i2l C dX1_take_111 ?_
      refine u_ladd C dX1_take_112 ?_
      refine u_lastN (i := 6) C dX1_take_113 (j10_is hj) (j10_n hj) (by decide) (by decide) ?_
      exact ret _ _  _ dX1_take_114  (by (try simp only [u_le, Decidable.not_not] at c_5 c_31); first | (exfalso; revert c_31; simp [iv_wi]; done) | (simp [-Int32.not_lt, -Int32.not_le, iv_wi, iv_wj, jv_wi, jv_wj, u_le, m_take, t_stop, t_flow, f_min, m_out, hku, huk, c_5, c_31]; done) | (simp [-Int32.not_lt, -Int32.not_le, iv_wi, iv_wj, jv_wi, jv_wj, u_le, m_take, t_stop, t_flow, f_min, m_out, hku, huk, c_5, c_31]; rfl))
    · refine u_aload_n C dX1_take_34 rfl ?_
      refine u_dup C dX1_take_35 rfl ?_
      refine u_getI C gX1_take_36 rfl (int_is hk) ?_
      refine u_iconst (v := 1) C dX1_take_39 (by decide) ?_
      refine u_iadd C dX1_take_40 ?_
      refine u_putI C pX1_take_41 rfl (int_is hk) ?_
      exact ret _ _  _ dX1_take_44  (by (try simp only [u_le, Decidable.not_not] at c_5 c_31); first | (exfalso; revert c_31; simp [iv_wi]; done) | (simp [-Int32.not_lt, -Int32.not_le, iv_wi, iv_wj, jv_wi, jv_wj, u_le, m_take, t_stop, t_flow, f_min, m_out, hku, huk, c_5, c_31]; done) | (simp [-Int32.not_lt, -Int32.not_le, iv_wi, iv_wj, jv_wi, jv_wj, u_le, m_take, t_stop, t_flow, f_min, m_out, hku, huk, c_5, c_31]; rfl))
  · refine u_aload_n C dX1_take_8 rfl ?_
    refine u_calliV0 C ev_X2_salinity dX1_take_9 ml_RX1_48 (lay_is hu) rfl (by decide) (c_X2_salinity l D G _ _ hu ) (by decide) (Nat.le_of_ble_eq_true rfl) (fun r_9 M_9 q_9 => ?_)
    obtain ⟨rfl, e_9⟩ := q_9
    subst M_9
    refine u_aload_n C dX1_take_12 rfl ?_
    refine u_getI C gX1_take_13 rfl (int_is hk) ?_
    refine u_icmp_le (tgt := 23) C dX1_take_16 (by decide) (fun c_16 => ?_) (fun c_16 => ?_)
    · refine u_iconst (v := 0) C dX1_take_23 (by decide) ?_
      refine u_putZ C pX1_take_24 rfl (int_is hk) (by simp) ?_
      refine u_aload_n C dX1_take_27 rfl ?_
      refine u_getI C gX1_take_28 rfl (int_is hk) ?_
      refine u_if_eq (tgt := 45) C dX1_take_31 (by decide) (fun c_31 => ?_) (fun c_31 => ?_)
      · refine u_aload_n C dX1_take_45 rfl ?_
        refine u_getI C gX1_take_46 rfl (int_is hk) ?_
        refine u_aload_n C dX1_take_49 rfl ?_
        refine u_getI C gX1_take_50 rfl (lay_is hu) ?_
        refine u_mmin C dX1_take_53 ml_RX1_52 wm_min (by decide) (Nat.le_of_ble_eq_true rfl) ?_
        refine u_aload_n C dX1_take_56 rfl ?_
        refine u_getI C gX1_take_57 rfl (int_is hk) ?_
        refine u_aload_n C dX1_take_60 rfl ?_
        refine u_getI C gX1_take_61 rfl (int_is hk) ?_
        refine u_isub C dX1_take_64 ?_
        refine u_mmin C dX1_take_65 ml_RX1_52 wm_min (by decide) (Nat.le_of_ble_eq_true rfl) ?_
        refine u_istore_n C dX1_take_68 (by decide) ?_
        refine u_aload_n C dX1_take_69 rfl ?_
        refine u_iload_n C dX1_take_70 rfl ?_
        refine u_calliV1 C ev_X2_giveOut dX1_take_71 ml_RX1_58 (lay_is hu) rfl (by decide) (c_X2_giveOut l D G _ _ _ hu ) (by decide) (Nat.le_of_ble_eq_true rfl) (fun r_71 M_71 q_71 => ?_)
        obtain ⟨rfl, e_71⟩ := q_71
        subst M_71
        refine u_istore C dX1_take_74 (by decide) ?_
        refine u_aload_n C dX1_take_76 rfl ?_
        refine u_dup C dX1_take_77 rfl ?_
        refine u_getI C gX1_take_78 rfl (int_is hk) ?_
        refine u_iload_n C dX1_take_81 rfl ?_
        refine u_iadd C dX1_take_82 ?_
        refine u_putI C pX1_take_83 rfl (int_is hk) ?_
        refine u_aload_n C dX1_take_86 rfl ?_
        refine u_dup C dX1_take_87 rfl ?_
        refine u_getI C gX1_take_88 rfl (int_is hk) ?_
        refine u_iload_n C dX1_take_91 rfl ?_
        refine u_iadd C dX1_take_92 ?_
        refine u_putI C pX1_take_93 rfl (int_is hk) ?_
        refine u_aload_n C dX1_take_96 rfl ?_
        refine u_iconst (v := 3) C dX1_take_97 (by decide) ?_
        refine u_dup2 C dX1_take_98 rfl rfl ?_
        refine u_laldN (i := 3) C dX1_take_99 (j10_is hj) (j10_n hj) (by decide) (by decide) ?_
        refine u_iload_n C dX1_take_100 rfl ?_
        refine u_i2l C dX1_take_101 ?_
        refine u_ladd C dX1_take_102 ?_
        refine u_lastN (i := 3) C dX1_take_103 (j10_is hj) (j10_n hj) (by decide) (by decide) ?_
        refine u_aload_n C dX1_take_104 rfl ?_
        refine u_bipush (v := 6) C dX1_take_105 (by decide) ?_
        refine u_dup2 C dX1_take_107 rfl rfl ?_
        refine u_laldN (i := 6) C dX1_take_108 (j10_is hj) (j10_n hj) (by decide) (by decide) ?_
        refine u_iload C dX1_take_109 rfl ?_
        refine u_i2l C dX1_take_111 ?_
        refine u_ladd C dX1_take_112 ?_
        refine u_lastN (i := 6) C dX1_take_113 (j10_is hj) (j10_n hj) (by decide) (by decide) ?_
        exact ret _ _  _ dX1_take_114  (by (try simp only [u_le, Decidable.not_not] at c_5 c_16 c_31); first | (exfalso; revert c_31; simp [iv_wi]; done) | (simp [-Int32.not_lt, -Int32.not_le, iv_wi, iv_wj, jv_wi, jv_wj, u_le, m_take, t_stop, t_flow, f_min, m_out, hku, huk, c_5, c_16, c_31]; done) | (simp [-Int32.not_lt, -Int32.not_le, iv_wi, iv_wj, jv_wi, jv_wj, u_le, m_take, t_stop, t_flow, f_min, m_out, hku, huk, c_5, c_16, c_31]; rfl))
      · refine u_aload_n C dX1_take_34 rfl ?_
        refine u_dup C dX1_take_35 rfl ?_
        refine u_getI C gX1_take_36 rfl (int_is hk) ?_
        refine u_iconst (v := 1) C dX1_take_39 (by decide) ?_
        refine u_iadd C dX1_take_40 ?_
        refine u_putI C pX1_take_41 rfl (int_is hk) ?_
        exact ret _ _  _ dX1_take_44  (by (try simp only [u_le, Decidable.not_not] at c_5 c_16 c_31); first | (exfalso; revert c_31; simp [iv_wi]; done) | (simp [-Int32.not_lt, -Int32.not_le, iv_wi, iv_wj, jv_wi, jv_wj, u_le, m_take, t_stop, t_flow, f_min, m_out, hku, huk, c_5, c_16, c_31]; done) | (simp [-Int32.not_lt, -Int32.not_le, iv_wi, iv_wj, jv_wi, jv_wj, u_le, m_take, t_stop, t_flow, f_min, m_out, hku, huk, c_5, c_16, c_31]; rfl))
    · refine u_iconst (v := 1) C dX1_take_19 (by decide) ?_
      refine u_goto (tgt := 24) C dX1_take_20 (by decide) ?_
      refine u_putZ C pX1_take_24 rfl (int_is hk) (by simp) ?_
      refine u_aload_n C dX1_take_27 rfl ?_
      refine u_getI C gX1_take_28 rfl (int_is hk) ?_
      refine u_if_eq (tgt := 45) C dX1_take_31 (by decide) (fun c_31 => ?_) (fun c_31 => ?_)
      · refine u_aload_n C dX1_take_45 rfl ?_
        refine u_getI C gX1_take_46 rfl (int_is hk) ?_
        refine u_aload_n C dX1_take_49 rfl ?_
        refine u_getI C gX1_take_50 rfl (lay_is hu) ?_
        refine u_mmin C dX1_take_53 ml_RX1_52 wm_min (by decide) (Nat.le_of_ble_eq_true rfl) ?_
        refine u_aload_n C dX1_take_56 rfl ?_
        refine u_getI C gX1_take_57 rfl (int_is hk) ?_
        refine u_aload_n C dX1_take_60 rfl ?_
        refine u_getI C gX1_take_61 rfl (int_is hk) ?_
        refine u_isub C dX1_take_64 ?_
        refine u_mmin C dX1_take_65 ml_RX1_52 wm_min (by decide) (Nat.le_of_ble_eq_true rfl) ?_
        refine u_istore_n C dX1_take_68 (by decide) ?_
        refine u_aload_n C dX1_take_69 rfl ?_
        refine u_iload_n C dX1_take_70 rfl ?_
        refine u_calliV1 C ev_X2_giveOut dX1_take_71 ml_RX1_58 (lay_is hu) rfl (by decide) (c_X2_giveOut l D G _ _ _ hu ) (by decide) (Nat.le_of_ble_eq_true rfl) (fun r_71 M_71 q_71 => ?_)
        obtain ⟨rfl, e_71⟩ := q_71
        subst M_71
        refine u_istore C dX1_take_74 (by decide) ?_
        refine u_aload_n C dX1_take_76 rfl ?_
        refine u_dup C dX1_take_77 rfl ?_
        refine u_getI C gX1_take_78 rfl (int_is hk) ?_
        refine u_iload_n C dX1_take_81 rfl ?_
        refine u_iadd C dX1_take_82 ?_
        refine u_putI C pX1_take_83 rfl (int_is hk) ?_
        refine u_aload_n C dX1_take_86 rfl ?_
        refine u_dup C dX1_take_87 rfl ?_
        refine u_getI C gX1_take_88 rfl (int_is hk) ?_
        refine u_iload_n C dX1_take_91 rfl ?_
        refine u_iadd C dX1_take_92 ?_
        refine u_putI C pX1_take_93 rfl (int_is hk) ?_
        refine u_aload_n C dX1_take_96 rfl ?_
        refine u_iconst (v := 3) C dX1_take_97 (by decide) ?_
        refine u_dup2 C dX1_take_98 rfl rfl ?_
        refine u_laldN (i := 3) C dX1_take_99 (j10_is hj) (j10_n hj) (by decide) (by decide) ?_
        refine u_iload_n C dX1_take_100 rfl ?_
        refine u_i2l C dX1_take_101 ?_
        refine u_ladd C dX1_take_102 ?_
        refine u_lastN (i := 3) C dX1_take_103 (j10_is hj) (j10_n hj) (by decide) (by decide) ?_
        refine u_aload_n C dX1_take_104 rfl ?_
        refine u_bipush (v := 6) C dX1_take_105 (by decide) ?_
        refine u_dup2 C dX1_take_107 rfl rfl ?_
        refine u_laldN (i := 6) C dX1_take_108 (j10_is hj) (j10_n hj) (by decide) (by decide) ?_
        refine u_iload C dX1_take_109 rfl ?_
        refine u_i2l C dX1_take_111 ?_
        refine u_ladd C dX1_take_112 ?_
        refine u_lastN (i := 6) C dX1_take_113 (j10_is hj) (j10_n hj) (by decide) (by decide) ?_
        exact ret _ _  _ dX1_take_114  (by (try simp only [u_le, Decidable.not_not] at c_5 c_16 c_31); first | (exfalso; revert c_31; simp [iv_wi]; done) | (simp [-Int32.not_lt, -Int32.not_le, iv_wi, iv_wj, jv_wi, jv_wj, u_le, m_take, t_stop, t_flow, f_min, m_out, hku, huk, c_5, c_16, c_31]; done) | (simp [-Int32.not_lt, -Int32.not_le, iv_wi, iv_wj, jv_wi, jv_wj, u_le, m_take, t_stop, t_flow, f_min, m_out, hku, huk, c_5, c_16, c_31]; rfl))
      · refine u_aload_n C dX1_take_34 rfl ?_
        refine u_dup C dX1_take_35 rfl ?_
        refine u_getI C gX1_take_36 rfl (int_is hk) ?_
        refine u_iconst (v := 1) C dX1_take_39 (by decide) ?_
        refine u_iadd C dX1_take_40 ?_
        refine u_putI C pX1_take_41 rfl (int_is hk) ?_
        exact ret _ _  _ dX1_take_44  (by (try simp only [u_le, Decidable.not_not] at c_5 c_16 c_31); first | (exfalso; revert c_31; simp [iv_wi]; done) | (simp [-Int32.not_lt, -Int32.not_le, iv_wi, iv_wj, jv_wi, jv_wj, u_le, m_take, t_stop, t_flow, f_min, m_out, hku, huk, c_5, c_16, c_31]; done) | (simp [-Int32.not_lt, -Int32.not_le, iv_wi, iv_wj, jv_wi, jv_wj, u_le, m_take, t_stop, t_flow, f_min, m_out, hku, huk, c_5, c_16, c_31]; rfl))
set_option maxHeartbeats 4000000 in
set_option maxRecDepth 100000 in
theorem c_X1_supply (l : Launch) (D : va_G) (G : w_G) (M : w_M) (k : Nat) (hk : L_int G (k))  : u_Mv l D G yX1_supply cX1_supply 2 none 1 21 [.ref (gP G k)] M (fun M' => M' = m_sup M k) := by
  refine u_bodyv (by decide +kernel) (Nat.le_of_ble_eq_true rfl) rfl (fun p e s m args below meth c A H0 Q C ret => ?_)
  refine u_aload_n C dX1_supply_0 rfl ?_
  refine u_getI C gX1_supply_1 rfl (int_is hk) ?_
  refine u_aload_n C dX1_supply_4 rfl ?_
  refine u_getI C gX1_supply_5 rfl (int_is hk) ?_
  refine u_mmin C dX1_supply_8 ml_RX1_52 wm_min (by decide) (Nat.le_of_ble_eq_true rfl) ?_
  refine u_istore_n C dX1_supply_11 (by decide) ?_
  refine u_aload_n C dX1_supply_12 rfl ?_
  refine u_dup C dX1_supply_13 rfl ?_
  refine u_getI C gX1_supply_14 rfl (int_is hk) ?_
  refine u_iload_n C dX1_supply_17 rfl ?_
  refine u_isub C dX1_supply_18 ?_
  refine u_putI C pX1_supply_19 rfl (int_is hk) ?_
  refine u_aload_n C dX1_supply_22 rfl ?_
  refine u_dup C dX1_supply_23 rfl ?_
  refine u_getI C gX1_supply_24 rfl (int_is hk) ?_
  refine u_aload_n C dX1_supply_27 rfl ?_
  refine u_getI C gX1_supply_28 rfl (int_is hk) ?_
  refine u_iload_n C dX1_supply_31 rfl ?_
  refine u_isub C dX1_supply_32 ?_
  refine u_iadd C dX1_supply_33 ?_
  refine u_putI C pX1_supply_34 rfl (int_is hk) ?_
  exact ret _ _  _ dX1_supply_37  (by skip; simp [-Int32.not_lt, -Int32.not_le, iv_wi, iv_wj, jv_wi, jv_wj, u_le, m_sup, f_min, u_le])
set_option maxHeartbeats 4000000 in
set_option maxRecDepth 100000 in
theorem c_X1_answer (l : Launch) (D : va_G) (G : w_G) (M : w_M) (k : Nat) (w : Nat) (hk : L_int G (k)) (hw : w < 5) : u_Mi l D G yX1_answer cX1_answer 2 (some .int) 0 0 [.ref (gP G k), .int (nI w)] M (fun r M' => r = i_ans M k w ∧ M' = M) := by
  refine u_bodyi (by decide +kernel) (Nat.le_of_ble_eq_true rfl) rfl (fun p e s m args below meth c A H0 Q C ret => ?_)
  refine u_iload_n C dX1_answer_0 rfl ?_
  rcases (show w = 0 ∨ w = 1 ∨ w = 2 ∨ w = 3 ∨ w = 4 by omega) with rfl | rfl | rfl | rfl | rfl
  · refine u_tin (off := 31) (tgt := 32) C dX1_answer_1 (by decide) (by decide) (by decide) (by decide) ?_
    refine u_aload_n C dX1_answer_32 rfl ?_
    refine u_getI C gX1_answer_33 rfl (int_is hk) ?_
    exact ret _ _ _ _ dX1_answer_36  (by simp [i_ans, u_le])
  · refine u_tin (off := 36) (tgt := 37) C dX1_answer_1 (by decide) (by decide) (by decide) (by decide) ?_
    refine u_aload_n C dX1_answer_37 rfl ?_
    refine u_getI C gX1_answer_38 rfl (int_is hk) ?_
    exact ret _ _ _ _ dX1_answer_41  (by simp [i_ans, u_le])
  · refine u_tin (off := 41) (tgt := 42) C dX1_answer_1 (by decide) (by decide) (by decide) (by decide) ?_
    refine u_aload_n C dX1_answer_42 rfl ?_
    refine u_getI C gX1_answer_43 rfl (int_is hk) ?_
    exact ret _ _ _ _ dX1_answer_46  (by simp [i_ans, u_le])
  · refine u_tin (off := 46) (tgt := 47) C dX1_answer_1 (by decide) (by decide) (by decide) (by decide) ?_
    refine u_aload_n C dX1_answer_47 rfl ?_
    refine u_getI C gX1_answer_48 rfl (int_is hk) ?_
    refine u_if_eq (tgt := 58) C dX1_answer_51 (by decide) (fun c_51 => ?_) (fun c_51 => ?_)
    · refine u_iconst (v := 0) C dX1_answer_58 (by decide) ?_
      exact ret _ _ _ _ dX1_answer_59  (by simp [i_ans, c_51])
    · refine u_iconst (v := 1) C dX1_answer_54 (by decide) ?_
      refine u_goto (tgt := 59) C dX1_answer_55 (by decide) ?_
      exact ret _ _ _ _ dX1_answer_59  (by simp [i_ans, c_51])
  · refine u_tout (tgt := 60) C dX1_answer_1 (by decide) (by decide) ?_
    refine u_aload_n C dX1_answer_60 rfl ?_
    refine u_getI C gX1_answer_61 rfl (int_is hk) ?_
    exact ret _ _ _ _ dX1_answer_64  (by simp [i_ans, u_le])
set_option maxHeartbeats 4000000 in
set_option maxRecDepth 100000 in
theorem c_X0_begin (l : Launch) (D : va_G) (G : w_G) (M : w_M) (k : Nat) (hk : L_bar G (k))  : u_Mv l D G yX0_begin cX0_begin 1 none 0 0 [.ref (gP G k)] M (fun M' => M' = wi (wi (wi (wi M k 3 0) k 4 (-1)) k 5 0) k 6 0) := by
  refine u_bodyv (by decide +kernel) (Nat.le_of_ble_eq_true rfl) rfl (fun p e s m args below meth c A H0 Q C ret => ?_)
  refine u_aload_n C dX0_begin_0 rfl ?_
  refine u_iconst (v := 0) C dX0_begin_1 (by decide) ?_
  refine u_putI C pX0_begin_2 rfl (bar_is hk) ?_
  refine u_aload_n C dX0_begin_5 rfl ?_
  refine u_iconst (v := (-1)) C dX0_begin_6 (by decide) ?_
  refine u_putI C pX0_begin_7 rfl (bar_is hk) ?_
  refine u_aload_n C dX0_begin_10 rfl ?_
  refine u_iconst (v := 0) C dX0_begin_11 (by decide) ?_
  refine u_putI C pX0_begin_12 rfl (bar_is hk) ?_
  refine u_aload_n C dX0_begin_15 rfl ?_
  refine u_iconst (v := 0) C dX0_begin_16 (by decide) ?_
  refine u_putZ C pX0_begin_17 rfl (bar_is hk) (by simp) ?_
  exact ret _ _  _ dX0_begin_20  (rfl)
set_option maxHeartbeats 4000000 in
set_option maxRecDepth 100000 in
theorem c_X0_answer (l : Launch) (D : va_G) (G : w_G) (M : w_M) (k : Nat) (i : Nat) (w : Nat) (hk : L_bar G (k)) (hi : i < 500) (hw : w < 3) : u_Mi l D G yX0_answer cX0_answer 3 (some .int) 0 0 [.ref (gP G k), .int (nI i), .int (nI w)] M (fun r M' => r = b_ans M k i w ∧ M' = M) := by
  refine u_bodyi (by decide +kernel) (Nat.le_of_ble_eq_true rfl) rfl (fun p e s m args below meth c A H0 Q C ret => ?_)
  refine u_iload_n C dX0_answer_0 rfl ?_
  rcases (show w = 0 ∨ w = 1 ∨ w = 2 by omega) with rfl | rfl | rfl
  · refine u_look (tgt := 28) C dX0_answer_1 (by decide) rfl (by decide) ?_
    refine u_aload_n C dX0_answer_28 rfl ?_
    refine u_getR (k2 := (k + 7)) C gX0_answer_29 rfl (bar_is hk) (bar_f0 hk) ?_
    refine u_iload_n C dX0_answer_32 rfl ?_
    refine u_ialdN (i := i) C dX0_answer_33 (a500_is (bar_p0 hk)) (a500_n (bar_p0 hk)) hi (by decide) ?_
    exact ret _ _ _ _ dX0_answer_34  (by simp [b_ans, u_le])
  · refine u_look (tgt := 35) C dX0_answer_1 (by decide) rfl (by decide) ?_
    refine u_aload_n C dX0_answer_35 rfl ?_
    refine u_getR (k2 := (k + 8)) C gX0_answer_36 rfl (bar_is hk) (bar_f1 hk) ?_
    refine u_iload_n C dX0_answer_39 rfl ?_
    refine u_ialdN (i := i) C dX0_answer_40 (a500_is (bar_p1 hk)) (a500_n (bar_p1 hk)) hi (by decide) ?_
    exact ret _ _ _ _ dX0_answer_41  (by simp [b_ans, u_le])
  · refine u_look (tgt := 42) C dX0_answer_1 (by decide) rfl (by decide) ?_
    refine u_aload_n C dX0_answer_42 rfl ?_
    refine u_getR (k2 := (k + 9)) C gX0_answer_43 rfl (bar_is hk) (bar_f2 hk) ?_
    refine u_iload_n C dX0_answer_46 rfl ?_
    refine u_zaldN (i := i) C dX0_answer_47 (z500_is (bar_p2 hk)) (z500_n (bar_p2 hk)) hi (by decide) ?_
    refine u_if_eq (tgt := 55) C dX0_answer_48 (by decide) (fun c_48 => ?_) (fun c_48 => ?_)
    · refine u_iconst (v := 0) C dX0_answer_55 (by decide) ?_
      exact ret _ _ _ _ dX0_answer_56  (by simp [b_ans, c_48])
    · refine u_iconst (v := 1) C dX0_answer_51 (by decide) ?_
      refine u_goto (tgt := 56) C dX0_answer_52 (by decide) ?_
      exact ret _ _ _ _ dX0_answer_56  (by simp [b_ans, c_48])
set_option maxHeartbeats 4000000 in
set_option maxRecDepth 100000 in
theorem c_X0_look (l : Launch) (D : va_G) (G : w_G) (M : w_M) (s0 : Nat) (t : Nat) (h_bar : L_bar G (s0 + 1)) (hs0 : L_sea G (s0)) (hn : cB (iv M s0 3) 6) (hm : cB (iv M s0 4) 20) (hl : cB (iv M (s0 + 1) 5) 12) (hc : cB (iv M (s0 + 1) 3) 500) (ht : t < 1000) : u_Mv l D G yX0_look cX0_look 5 none 3 69 [.ref (gP G (s0 + 1)), .ref (gP G s0), .int (nI t)] M (fun M' => M' = m_look M (s0 + 1) s0 t) := by
  obtain ⟨ld, hl12, hl⟩ := hl
  obtain ⟨n, hn5, hc⟩ := hc
  have en : cN (iv M (s0 + 1) 3) = n := by rw [hc]; exact cN_nI (by omega)
  have el : cN (iv M (s0 + 1) 5) = ld := by rw [hl]; exact cN_nI (by omega)
  refine u_bodyv (by decide +kernel) (Nat.le_of_ble_eq_true rfl) rfl (fun p e s m args below meth c A H0 Q C ret => ?_)
  have J2 : ∀ (M2 : w_M) (n2 : Nat), n2 ≤ 500 → iv M2 (s0 + 1) 3 = nI n2 → cB (iv M2 s0 3) 6 → cB (iv M2 s0 4) 20 → m_look M (s0 + 1) s0 t = m_lk3 M2 (s0 + 1) s0 t → u_S p l e (u_rm 3 69) s m args below meth c 5 D A H0 0 0 Q 94 [(0, .ref (gP G (s0 + 1))), (1, .ref (gP G s0)), (2, .int (nI t))] [] G M2 := by
    intro M2 n2 hn2 e2 hs3 hs4 hM
    have en2 : cN (iv M2 (s0 + 1) 3) = n2 := by rw [e2]; exact cN_nI (by omega)
    refine u_aload_n C dX0_look_94 rfl ?_
    refine u_getI C gX0_look_95 rfl (bar_is h_bar) ?_
    rw [e2]
    refine u_iconst (v := 1) C dX0_look_98 (by decide) ?_
    refine u_isub C dX0_look_99 ?_
    refine u_istore C dX0_look_100 (by decide) ?_
    refine u_iload C dX0_look_102 rfl ?_
    refine u_if_lt (tgt := 149) C dX0_look_104 (by decide) (fun c_104 => ?_) (fun c_104 => ?_)
    · exact ret _ _  _ dX0_look_149  (by (try simp only [u_le, Decidable.not_not] at c_104); (try simp [iv_wi, -Int32.not_lt, -Int32.not_le] at c_128); (try simp [iv_wi, -Int32.not_lt, -Int32.not_le] at c_140); rw [hM, m_lk3, en2]; first | (rw [if_pos (by rcases n2 with _ | i; rfl; exact absurd c_104 (by rw [nI_pred]; exact nI_pos (by omega)))]; done) | (simp [iv_wi, -Int32.not_lt, -Int32.not_le, Nat.add_assoc, c_104]; done) | (simp [iv_wi, -Int32.not_lt, -Int32.not_le, Nat.add_assoc, c_104]; rfl))
    · obtain ⟨i, rfl⟩ : ∃ i, n2 = i + 1 := by rcases n2 with _ | i; exact absurd (by decide) c_104; exact ⟨i, rfl⟩
      rw [nI_pred]
      refine u_aload_n C dX0_look_107 rfl ?_
      refine u_getR (k2 := (s0 + 9)) C gX0_look_108 rfl (bar_is h_bar) (bar_f1 h_bar) ?_
      refine u_iload C dX0_look_111 rfl ?_
      refine u_iload_n C dX0_look_113 rfl ?_
      refine u_iastN (i := i) C dX0_look_114 (a500_is (bar_p1 h_bar)) (a500_n (bar_p1 h_bar)) (by omega) (by decide) ?_
      refine u_aload_n C dX0_look_115 rfl ?_
      refine u_getR (k2 := (s0 + 10)) C gX0_look_116 rfl (bar_is h_bar) (bar_f2 h_bar) ?_
      refine u_iload C dX0_look_119 rfl ?_
      refine u_aload_n C dX0_look_121 rfl ?_
      refine u_getR (k2 := (s0 + 10)) C gX0_look_122 rfl (bar_is h_bar) (bar_f2 h_bar) ?_
      refine u_iload C dX0_look_125 rfl ?_
      refine u_zaldN (i := i) C dX0_look_127 (z500_is (bar_p2 h_bar)) (z500_n (bar_p2 h_bar)) (by omega) (by decide) ?_
      refine u_if_ne (tgt := 143) C dX0_look_128 (by decide) (fun c_128 => ?_) (fun c_128 => ?_)
      · refine u_iconst (v := 1) C dX0_look_143 (by decide) ?_
        refine u_goto (tgt := 148) C dX0_look_144 (by decide) ?_
        refine u_zastN (i := i) C dX0_look_148 (z500_is (bar_p2 h_bar)) (z500_n (bar_p2 h_bar)) (by omega) (by decide) (by simp) ?_
        exact ret _ _  _ dX0_look_149  (by (try simp only [u_le, Decidable.not_not] at c_104 c_128); (try simp [iv_wi, -Int32.not_lt, -Int32.not_le] at c_128); (try simp [iv_wi, -Int32.not_lt, -Int32.not_le] at c_140); rw [hM, m_lk3, en2]; first | (rw [if_pos (by rcases n2 with _ | i; rfl; exact absurd c_104 (by rw [nI_pred]; exact nI_pos (by omega)))]; done) | (simp [iv_wi, -Int32.not_lt, -Int32.not_le, Nat.add_assoc, c_104, c_128]; done) | (simp [iv_wi, -Int32.not_lt, -Int32.not_le, Nat.add_assoc, c_104, c_128]; rfl))
      · refine u_aload_n C dX0_look_131 rfl ?_
        refine u_iload_n C dX0_look_132 rfl ?_
        refine u_calliV1 C ev_X5_foretold dX0_look_133 ml_RX0_42 (sea_is hs0) rfl (by decide) (c_X5_foretold l D G _ _ _ hs0 (by simpa [iv_wi] using hs3) (by simpa [iv_wi] using hs4)) (by decide) (Nat.le_of_ble_eq_true rfl) (fun r_133 M_133 q_133 => ?_)
        obtain ⟨rfl, e_133⟩ := q_133
        subst M_133
        refine u_aload_n C dX0_look_136 rfl ?_
        refine u_getI C gX0_look_137 rfl (bar_is h_bar) ?_
        refine u_icmp_le (tgt := 147) C dX0_look_140 (by decide) (fun c_140 => ?_) (fun c_140 => ?_)
        · refine u_iconst (v := 0) C dX0_look_147 (by decide) ?_
          refine u_zastN (i := i) C dX0_look_148 (z500_is (bar_p2 h_bar)) (z500_n (bar_p2 h_bar)) (by omega) (by decide) (by simp) ?_
          exact ret _ _  _ dX0_look_149  (by (try simp only [u_le, Decidable.not_not] at c_104 c_128 c_140); (try simp [iv_wi, -Int32.not_lt, -Int32.not_le] at c_128); (try simp [iv_wi, -Int32.not_lt, -Int32.not_le] at c_140); rw [hM, m_lk3, en2]; first | (rw [if_pos (by rcases n2 with _ | i; rfl; exact absurd c_104 (by rw [nI_pred]; exact nI_pos (by omega)))]; done) | (simp [iv_wi, -Int32.not_lt, -Int32.not_le, Nat.add_assoc, c_104, c_128, c_140]; done) | (simp [iv_wi, -Int32.not_lt, -Int32.not_le, Nat.add_assoc, c_104, c_128, c_140]; rfl))
        · refine u_iconst (v := 1) C dX0_look_143 (by decide) ?_
          refine u_goto (tgt := 148) C dX0_look_144 (by decide) ?_
          refine u_zastN (i := i) C dX0_look_148 (z500_is (bar_p2 h_bar)) (z500_n (bar_p2 h_bar)) (by omega) (by decide) (by simp) ?_
          exact ret _ _  _ dX0_look_149  (by (try simp only [u_le, Decidable.not_not] at c_104 c_128 c_140); (try simp [iv_wi, -Int32.not_lt, -Int32.not_le] at c_128); (try simp [iv_wi, -Int32.not_lt, -Int32.not_le] at c_140); rw [hM, m_lk3, en2]; first | (rw [if_pos (by rcases n2 with _ | i; rfl; exact absurd c_104 (by rw [nI_pred]; exact nI_pos (by omega)))]; done) | (simp [iv_wi, -Int32.not_lt, -Int32.not_le, Nat.add_assoc, c_104, c_128, c_140]; done) | (simp [iv_wi, -Int32.not_lt, -Int32.not_le, Nat.add_assoc, c_104, c_128, c_140]; rfl))
  have J1 : ∀ (b : Int32), b = (if b_clo M (s0 + 1) s0 t = true then 1 else 0) → u_S p l e (u_rm 3 69) s m args below meth c 5 D A H0 0 0 Q 37 [(0, .ref (gP G (s0 + 1))), (1, .ref (gP G s0)), (2, .int (nI t)), (3, .int (iv M (s0 + 1) 6))] [.int b, .ref (gP G (s0 + 1))] G M := by
    intro b hb9
    refine u_putZ C pX0_look_37 rfl (bar_is h_bar) (by rw [hb9]; split <;> simp) ?_
    refine u_aload_n C dX0_look_40 rfl ?_
    refine u_getI C gX0_look_41 rfl (bar_is h_bar) ?_
    rw [show iv (wi M (s0 + 1) 6 b) (s0 + 1) 6 = b from by simp [iv_wi]]
    refine u_if_ne (tgt := 48) C dX0_look_44 (by decide) (fun c_44 => ?_) (fun c_44 => ?_)
    · have hcl : b_clo M (s0 + 1) s0 t = true := by cases hq : b_clo M (s0 + 1) s0 t <;> simp_all
      obtain rfl : b = 1 := by rw [hb9, if_pos hcl]
      refine u_iload_n C dX0_look_48 rfl ?_
      refine u_if_ne (tgt := 94) C dX0_look_49 (by decide) (fun c_49 => ?_) (fun c_49 => ?_)
      · exact u_loc [0, 1, 2] rfl (J2 _ n hn5 (by simp [iv_wi, hc]) (by simpa [iv_wi] using hn) (by simpa [iv_wi] using hm) (by simp [m_look, hcl, en, c_49]))
      · refine u_aload_n C dX0_look_52 rfl ?_
        refine u_getI C gX0_look_53 rfl (bar_is h_bar) ?_
        rw [show iv (wi M (s0 + 1) 6 1) (s0 + 1) 3 = nI n from by simp [iv_wi, hc]]
        refine u_aload_n C dX0_look_56 rfl ?_
        refine u_getR (k2 := (s0 + 8)) C gX0_look_57 rfl (bar_is h_bar) (bar_f0 h_bar) ?_
        refine u_alenI C dX0_look_60 (a500_is (bar_p0 h_bar)) ?_
        rw [a500_n (bar_p0 h_bar)]
        refine u_icmp_ge (tgt := 94) C dX0_look_61 (by decide) (fun c_61 => ?_) (fun c_61 => ?_)
        · have h9 : ¬ n < 500 := fun q => absurd c_61 (nI_ge q (by decide))
          exact u_loc [0, 1, 2] rfl (J2 _ n hn5 (by simp [iv_wi, hc]) (by simpa [iv_wi] using hn) (by simpa [iv_wi] using hm) (by simp [m_look, hcl, en, h9]))
        · have hn9 : n < 500 := u_lt c_61 (by omega)
          refine u_aload_n C dX0_look_64 rfl ?_
          refine u_getR (k2 := (s0 + 8)) C gX0_look_65 rfl (bar_is h_bar) (bar_f0 h_bar) ?_
          refine u_aload_n C dX0_look_68 rfl ?_
          refine u_getI C gX0_look_69 rfl (bar_is h_bar) ?_
          rw [show iv (wi M (s0 + 1) 6 1) (s0 + 1) 3 = nI n from by simp [iv_wi, hc]]
          refine u_iload_n C dX0_look_72 rfl ?_
          refine u_iastN (i := n) C dX0_look_73 (a500_is (bar_p0 h_bar)) (a500_n (bar_p0 h_bar)) (by omega) (by decide) ?_
          refine u_aload_n C dX0_look_74 rfl ?_
          refine u_getR (k2 := (s0 + 10)) C gX0_look_75 rfl (bar_is h_bar) (bar_f2 h_bar) ?_
          refine u_aload_n C dX0_look_78 rfl ?_
          refine u_getI C gX0_look_79 rfl (bar_is h_bar) ?_
          rw [show iv (wi (wi M (s0 + 1) 6 1) (s0 + 8) n (nI t)) (s0 + 1) 3 = nI n from by simp [iv_wi, hc]]
          refine u_iconst (v := 0) C dX0_look_82 (by decide) ?_
          refine u_zastN (i := n) C dX0_look_83 (z500_is (bar_p2 h_bar)) (z500_n (bar_p2 h_bar)) (by omega) (by decide) (by decide) ?_
          refine u_aload_n C dX0_look_84 rfl ?_
          refine u_dup C dX0_look_85 rfl ?_
          refine u_getI C gX0_look_86 rfl (bar_is h_bar) ?_
          refine u_iconst (v := 1) C dX0_look_89 (by decide) ?_
          refine u_iadd C dX0_look_90 ?_
          refine u_putI C pX0_look_91 rfl (bar_is h_bar) ?_
          exact u_loc [0, 1, 2] rfl (J2 _ (n + 1) (by omega) (by simp [iv_wi, hc, nI_1]) (by simpa [iv_wi] using hn) (by simpa [iv_wi] using hm) (by simp [m_look, hcl, show cN (nI n) = n from cN_nI (by omega), m_lk2, c_49, hn9, iv_wi, Nat.add_assoc, hc]))
    · exact ret _ _  _ dX0_look_47  (by have hq : b_clo M (s0 + 1) s0 t = false := (by cases hq : b_clo M (s0 + 1) s0 t <;> simp_all); simp [m_look, hq, c_44])
  refine u_aload_n C dX0_look_0 rfl ?_
  refine u_getI C gX0_look_1 rfl (bar_is h_bar) ?_
  refine u_istore_n C dX0_look_4 (by decide) ?_
  refine u_aload_n C dX0_look_5 rfl ?_
  refine u_aload_n C dX0_look_6 rfl ?_
  refine u_getI C gX0_look_7 rfl (bar_is h_bar) ?_
  refine u_iconst (v := (-1)) C dX0_look_10 (by decide) ?_
  refine u_icmp_eq (tgt := 36) C dX0_look_11 (by decide) (fun c_11 => ?_) (fun c_11 => ?_)
  · refine u_iconst (v := 0) C dX0_look_36 (by decide) ?_
    exact u_loc [0, 1, 2, 3] rfl (J1 _ (by first | (rw [show t + ld + 1 - t = ld + 1 by omega] at c_29; simp [b_clo, el, c_11] at c_29 ⊢; simp [c_29]; done) | (simp [b_clo, c_11]; done)))
  · refine u_aload_n C dX0_look_14 rfl ?_
    refine u_aload_n C dX0_look_15 rfl ?_
    refine u_getI C gX0_look_16 rfl (bar_is h_bar) ?_
    refine u_iload_n C dX0_look_19 rfl ?_
    refine u_iload_n C dX0_look_20 rfl ?_
    refine u_aload_n C dX0_look_21 rfl ?_
    refine u_getI C gX0_look_22 rfl (bar_is h_bar) ?_
    rw [hl]
    refine u_iadd C dX0_look_25 ?_
    rw [nI_add]
    refine u_calliV3 C ev_X5_foretoldAbove dX0_look_26 ml_RX0_36 (sea_is hs0) rfl (by decide) (c_X5_foretoldAbove l D G _ _ _ _ _ hs0 hn hm (by omega) (by omega)) (by decide) (Nat.le_of_ble_eq_true rfl) (fun r_26 M_26 q_26 => ?_)
    obtain ⟨rfl, e_26⟩ := q_26
    subst M_26
    refine u_if_eq (tgt := 36) C dX0_look_29 (by decide) (fun c_29 => ?_) (fun c_29 => ?_)
    · refine u_iconst (v := 0) C dX0_look_36 (by decide) ?_
      exact u_loc [0, 1, 2, 3] rfl (J1 _ (by first | (rw [show t + ld + 1 - t = ld + 1 by omega] at c_29; simp [b_clo, el, c_11] at c_29 ⊢; simp [c_29]; done) | (simp [b_clo, c_11]; done)))
    · refine u_iconst (v := 1) C dX0_look_32 (by decide) ?_
      refine u_goto (tgt := 37) C dX0_look_33 (by decide) ?_
      exact u_loc [0, 1, 2, 3] rfl (J1 _ (by first | (rw [show t + ld + 1 - t = ld + 1 by omega] at c_29; simp [b_clo, el, c_11] at c_29 ⊢; simp [c_29]; done) | (simp [b_clo, c_11]; done)))
end
section
def sadd (M : w_M) (B i : Nat) (x : Int64) : w_M := wj M (B + 5) i (jv M (B + 5) i + x)
theorem iv_sadd (M : w_M) (B i : Nat) (x : Int64) (a j : Nat) : iv (sadd M B i x) a j = iv M a j := rfl
def m_ms1 (M : w_M) (B k : Nat) (f : Int32) : w_M := sadd (sadd (m_in M (k + 30) f (30 * f)) B 0 f.toInt64) B 4 (30 * f).toInt64
def m_ms2 (M : w_M) (B k : Nat) (f : Int32) : w_M := sadd (sadd (m_out (sadd (m_gc M k f) B 8 (f_goes f (iv M k 5) (iv M (k + 20) 0)).toInt64) (k + 20) f) B 5 (f_goes f (iv M (k + 20) 1) (iv M (k + 20) 0)).toInt64) B 1 f.toInt64
def m_sea (M : w_M) (B k : Nat) (h : Int32) : w_M := if 0 < h - s_lev M k then m_ms1 M B k ((h - s_lev M k) * iv M k 3 / 2) else if h - s_lev M k < 0 then m_ms2 M B k (f_min (-(h - s_lev M k) * iv M k 3 / 2) (iv M (k + 20) 0)) else M
def m_riv (M : w_M) (B k : Nat) : w_M := sadd (sadd (wi (m_in M (k + 20) (iv M B 7) 0) k 5 (iv M k 5 + iv M B 8)) B 2 (iv M B 7).toInt64) B 7 (iv M B 8).toInt64
def m_fl (M : w_M) (k1 k2 : Nat) (f : Int32) : w_M := m_in (m_out M (k1 + 30) f) (k2 + 30) f (f_goes f (iv M (k1 + 30) 1) (iv M (k1 + 30) 0))
def m_fu1 (M : w_M) (k1 : Nat) (f : Int32) : w_M := m_out (m_gc M k1 f) (k1 + 20) f
def m_fu (M : w_M) (k1 k2 : Nat) (f : Int32) : w_M := m_in (wi (m_fu1 M k1 f) k2 5 (iv (m_fu1 M k1 f) k2 5 + f_goes f (iv M k1 5) (iv M (k1 + 20) 0))) (k2 + 20) f (f_goes f (iv (m_gc M k1 f) (k1 + 20) 1) (iv (m_gc M k1 f) (k1 + 20) 0))
def m_runs (M : w_M) (k1 k2 : Nat) (f : Int32) : w_M := wi (wi M k1 6 (iv M k1 6 + f)) k2 6 (iv (wi M k1 6 (iv M k1 6 + f)) k2 6 + f)
def s_d (M : w_M) (k1 k2 : Nat) : Int32 := s_lev M k1 - s_lev M k2
def m_level (M : w_M) (k1 k2 : Nat) : w_M := if 0 < s_d M k1 k2 then m_runs (m_fl M k1 k2 (f_min (s_d M k1 k2 * f_min (iv M k1 3) (iv M k2 3) / 4) (iv M (k1 + 30) 0))) k1 k2 (f_min (s_d M k1 k2 * f_min (iv M k1 3) (iv M k2 3) / 4) (iv M (k1 + 30) 0))
  else if s_d M k1 k2 < 0 then m_runs (m_fu M k2 k1 (f_min (-s_d M k1 k2 * f_min (iv M k1 3) (iv M k2 3) / 4) (iv M (k2 + 20) 0))) k1 k2 (f_min (-s_d M k1 k2 * f_min (iv M k1 3) (iv M k2 3) / 4) (iv M (k2 + 20) 0))
  else m_runs M k1 k2 0
def m_creep (M : w_M) (k1 k2 : Nat) : w_M := if f_sal (iv M (k2 + 30) 0) (iv M (k2 + 30) 1) < f_sal (iv M (k1 + 30) 0) (iv M (k1 + 30) 1) then m_fu (m_fl M k1 k2 (f_min (iv M (k1 + 30) 0) (iv M (k2 + 20) 0) / 8)) k2 k1 (f_min (iv M (k1 + 30) 0) (iv M (k2 + 20) 0) / 8) else M
def m_z (M : w_M) (B : Nat) : Nat → w_M
  | 0 => M
  | i + 1 => wj (m_z M B i) (B + 5) i 0
def m_sb (M : w_M) (k : Nat) : w_M := wi (wi (wi M k 3 0) k 4 0) k 5 50
def m_bb (M : w_M) (k : Nat) : w_M := wi (wi (wi (wi M k 3 0) k 4 (-1)) k 5 0) k 6 0
def m_mbeg (M : w_M) (B : Nat) : w_M := wi (wi (wi (wi (wi (m_z (m_bb (m_sb M (B + 1)) (B + 2)) B 10) B 5 0) B 6 0) B 7 0) B 8 0) B 9 0
def s_has (M : w_M) (B : Nat) (v : Int32) : Int32 := if v < 0 then 0 else if iv M B 5 ≤ v then 0 else 1
def m_asec (M : w_M) (B : Nat) (ar up low mud : Int32) : w_M := wi (m_sbeg M (B + 100 + cN (iv M B 5)) ar up low mud) B 5 (iv M B 5 + 1)
def m_aint (M : w_M) (B : Nat) (a b c d e : Int32) : w_M := wi (m_ibeg M (B + 150 + cN (iv M B 6)) a b c d e) B 6 (iv M B 6 + 1)
def m_mud1 (M : w_M) (k : Nat) (a : Int32) : w_M := wi (wi M k 7 (iv M k 7 - a)) k 4 (iv M k 4 - a)
def m_mudS (M : w_M) (B i : Nat) (a : Int32) : w_M := sadd (m_mud1 M (B + 100 + i) a) B 9 a.toInt64
def m_mudC (M : w_M) (B i j : Nat) (a : Int32) : w_M := wi (m_mud1 M (B + 100 + i) a) (B + 100 + j) 5 (iv (m_mud1 M (B + 100 + i) a) (B + 100 + j) 5 + a)
theorem u_ltI {i n : Nat} (h : nI i < nI n) (hn : n < 2 ^ 31) (hi : i < 2 ^ 31) : i < n := (nI_ltI hi hn).mp h
theorem u_has {M : w_M} {B i n : Nat} (hn8 : n ≤ 8) (hn : iv M B 5 = nI n) (hi : i < n) : s_has M B (nI i) = 1 := by
  rw [s_has, if_neg (nI_pos (by omega)), hn, if_neg (nI_ge hi (by omega))]
set_option maxHeartbeats 4000000 in
set_option maxRecDepth 100000 in
theorem c_X3_meetSea (l : Launch) (D : va_G) (G : w_G) (M : w_M) (B : Nat) (k : Nat) (h : Int32) (hB : L_mou G (B)) (hk : L_sec G (k))  : u_Mv l D G yX3_meetSea cX3_meetSea 5 none 2 44 [.ref (gP G B), .ref (gP G k), .int h] M (fun M' => M' = m_sea M B k h) := by
  refine u_bodyv (by decide +kernel) (Nat.le_of_ble_eq_true rfl) rfl (fun p e s m args below meth c A H0 Q C ret => ?_)
  refine u_iload_n C dX3_meetSea_0 rfl ?_
  refine u_aload_n C dX3_meetSea_1 rfl ?_
  refine u_calliV0 C ev_X6_level dX3_meetSea_2 ml_RX3_170 (sec_is hk) rfl (by decide) (c_X6_level l D G _ _ hk ) (by decide) (Nat.le_of_ble_eq_true rfl) (fun r_2 M_2 q_2 => ?_)
  obtain ⟨rfl, e_2⟩ := q_2
  subst M_2
  refine u_isub C dX3_meetSea_5 ?_
  refine u_istore_n C dX3_meetSea_6 (by decide) ?_
  refine u_iload_n C dX3_meetSea_7 rfl ?_
  refine u_if_le (tgt := 65) C dX3_meetSea_8 (by decide) (fun c_8 => ?_) (fun c_8 => ?_)
  · refine u_iload_n C dX3_meetSea_65 rfl ?_
    refine u_if_ge (tgt := 138) C dX3_meetSea_66 (by decide) (fun c_66 => ?_) (fun c_66 => ?_)
    · exact ret _ _  _ dX3_meetSea_138  (by (try simp only [u_le, Decidable.not_not] at c_8 c_66); first | (simp [-Int32.not_lt, -Int32.not_le, m_sea, iv_wi, iv_wj, jv_wi, jv_wj, m_ms1, m_ms2, sadd, m_in, m_out, m_gc, f_min, c_8, c_66]; done) | (simp [-Int32.not_lt, -Int32.not_le, m_sea, iv_wi, iv_wj, jv_wi, jv_wj, m_ms1, m_ms2, sadd, m_in, m_out, m_gc, f_min, c_8, c_66]; rfl))
    · refine u_iload_n C dX3_meetSea_69 rfl ?_
      refine u_ineg C dX3_meetSea_70 ?_
      refine u_aload_n C dX3_meetSea_71 rfl ?_
      refine u_getI C gX3_meetSea_72 rfl (sec_is hk) ?_
      refine u_imul C dX3_meetSea_75 ?_
      refine u_iconst (v := 2) C dX3_meetSea_76 (by decide) ?_
      refine u_idiv C dX3_meetSea_77 (by decide) ?_
      refine u_aload_n C dX3_meetSea_78 rfl ?_
      refine u_getR (k2 := (k + 20)) C gX3_meetSea_79 rfl (sec_is hk) (sec_f0 hk) ?_
      refine u_getI C gX3_meetSea_82 rfl (lay_is (sec_p0 hk)) ?_
      refine u_mmin C dX3_meetSea_85 ml_RX3_119 wm_min (by decide) (Nat.le_of_ble_eq_true rfl) ?_
      refine u_istore C dX3_meetSea_88 (by decide) ?_
      refine u_aload_n C dX3_meetSea_90 rfl ?_
      refine u_getR (k2 := (B + 5)) C gX3_meetSea_91 rfl (mou_is hB) (mou_f4 hB) ?_
      refine u_bipush (v := 8) C dX3_meetSea_94 (by decide) ?_
      refine u_dup2 C dX3_meetSea_96 rfl rfl ?_
      refine u_laldN (i := 8) C dX3_meetSea_97 (j10_is (mou_p4 hB)) (j10_n (mou_p4 hB)) (by decide) (by decide) ?_
      refine u_aload_n C dX3_meetSea_98 rfl ?_
      refine u_iload C dX3_meetSea_99 rfl ?_
      refine u_calliV1 C ev_X6_giveCloud dX3_meetSea_101 ml_RX3_191 (sec_is hk) rfl (by decide) (c_X6_giveCloud l D G _ _ _ hk ) (by decide) (Nat.le_of_ble_eq_true rfl) (fun r_101 M_101 q_101 => ?_)
      obtain ⟨rfl, e_101⟩ := q_101
      subst M_101
      refine u_i2l C dX3_meetSea_104 ?_
      refine u_ladd C dX3_meetSea_105 ?_
      refine u_lastN (i := 8) C dX3_meetSea_106 (j10_is (mou_p4 hB)) (j10_n (mou_p4 hB)) (by decide) (by decide) ?_
      refine u_aload_n C dX3_meetSea_107 rfl ?_
      refine u_getR (k2 := (B + 5)) C gX3_meetSea_108 rfl (mou_is hB) (mou_f4 hB) ?_
      refine u_iconst (v := 5) C dX3_meetSea_111 (by decide) ?_
      refine u_dup2 C dX3_meetSea_112 rfl rfl ?_
      refine u_laldN (i := 5) C dX3_meetSea_113 (j10_is (mou_p4 hB)) (j10_n (mou_p4 hB)) (by decide) (by decide) ?_
      refine u_aload_n C dX3_meetSea_114 rfl ?_
      refine u_getR (k2 := (k + 20)) C gX3_meetSea_115 rfl (sec_is hk) (sec_f0 hk) ?_
      refine u_iload C dX3_meetSea_118 rfl ?_
      refine u_calliV1 C ev_X2_giveOut dX3_meetSea_120 ml_RX3_194 (lay_is (sec_p0 hk)) rfl (by decide) (c_X2_giveOut l D G _ _ _ (sec_p0 hk) ) (by decide) (Nat.le_of_ble_eq_true rfl) (fun r_120 M_120 q_120 => ?_)
      obtain ⟨rfl, e_120⟩ := q_120
      subst M_120
      refine u_i2l C dX3_meetSea_123 ?_
      refine u_ladd C dX3_meetSea_124 ?_
      refine u_lastN (i := 5) C dX3_meetSea_125 (j10_is (mou_p4 hB)) (j10_n (mou_p4 hB)) (by decide) (by decide) ?_
      refine u_aload_n C dX3_meetSea_126 rfl ?_
      refine u_getR (k2 := (B + 5)) C gX3_meetSea_127 rfl (mou_is hB) (mou_f4 hB) ?_
      refine u_iconst (v := 1) C dX3_meetSea_130 (by decide) ?_
      refine u_dup2 C dX3_meetSea_131 rfl rfl ?_
      refine u_laldN (i := 1) C dX3_meetSea_132 (j10_is (mou_p4 hB)) (j10_n (mou_p4 hB)) (by decide) (by decide) ?_
      refine u_iload C dX3_meetSea_133 rfl ?_
      refine u_i2l C dX3_meetSea_135 ?_
      refine u_ladd C dX3_meetSea_136 ?_
      refine u_lastN (i := 1) C dX3_meetSea_137 (j10_is (mou_p4 hB)) (j10_n (mou_p4 hB)) (by decide) (by decide) ?_
      exact ret _ _  _ dX3_meetSea_138  (by (try simp only [u_le, Decidable.not_not] at c_8 c_66); first | (simp [-Int32.not_lt, -Int32.not_le, m_sea, iv_wi, iv_wj, jv_wi, jv_wj, m_ms1, m_ms2, sadd, m_in, m_out, m_gc, f_min, c_8, c_66]; done) | (simp [-Int32.not_lt, -Int32.not_le, m_sea, iv_wi, iv_wj, jv_wi, jv_wj, m_ms1, m_ms2, sadd, m_in, m_out, m_gc, f_min, c_8, c_66]; rfl))
  · refine u_iload_n C dX3_meetSea_11 rfl ?_
    refine u_aload_n C dX3_meetSea_12 rfl ?_
    refine u_getI C gX3_meetSea_13 rfl (sec_is hk) ?_
    refine u_imul C dX3_meetSea_16 ?_
    refine u_iconst (v := 2) C dX3_meetSea_17 (by decide) ?_
    refine u_idiv C dX3_meetSea_18 (by decide) ?_
    refine u_istore C dX3_meetSea_19 (by decide) ?_
    refine u_aload_n C dX3_meetSea_21 rfl ?_
    refine u_getR (k2 := (k + 30)) C gX3_meetSea_22 rfl (sec_is hk) (sec_f1 hk) ?_
    refine u_iload C dX3_meetSea_25 rfl ?_
    refine u_bipush (v := 30) C dX3_meetSea_27 (by decide) ?_
    refine u_iload C dX3_meetSea_29 rfl ?_
    refine u_imul C dX3_meetSea_31 ?_
    refine u_callvV2 C ev_X2_takeIn dX3_meetSea_32 ml_RX3_180 (lay_is (sec_p1 hk)) rfl (by decide) (c_X2_takeIn l D G _ _ _ _ (sec_p1 hk) ) (by decide) (Nat.le_of_ble_eq_true rfl) (fun M_32 q_32 => ?_)
    obtain rfl := q_32
    refine u_aload_n C dX3_meetSea_35 rfl ?_
    refine u_getR (k2 := (B + 5)) C gX3_meetSea_36 rfl (mou_is hB) (mou_f4 hB) ?_
    refine u_iconst (v := 0) C dX3_meetSea_39 (by decide) ?_
    refine u_dup2 C dX3_meetSea_40 rfl rfl ?_
    refine u_laldN (i := 0) C dX3_meetSea_41 (j10_is (mou_p4 hB)) (j10_n (mou_p4 hB)) (by decide) (by decide) ?_
    refine u_iload C dX3_meetSea_42 rfl ?_
    refine u_i2l C dX3_meetSea_44 ?_
    refine u_ladd C dX3_meetSea_45 ?_
    refine u_lastN (i := 0) C dX3_meetSea_46 (j10_is (mou_p4 hB)) (j10_n (mou_p4 hB)) (by decide) (by decide) ?_
    refine u_aload_n C dX3_meetSea_47 rfl ?_
    refine u_getR (k2 := (B + 5)) C gX3_meetSea_48 rfl (mou_is hB) (mou_f4 hB) ?_
    refine u_iconst (v := 4) C dX3_meetSea_51 (by decide) ?_
    refine u_dup2 C dX3_meetSea_52 rfl rfl ?_
    refine u_laldN (i := 4) C dX3_meetSea_53 (j10_is (mou_p4 hB)) (j10_n (mou_p4 hB)) (by decide) (by decide) ?_
    refine u_bipush (v := 30) C dX3_meetSea_54 (by decide) ?_
    refine u_iload C dX3_meetSea_56 rfl ?_
    refine u_imul C dX3_meetSea_58 ?_
    refine u_i2l C dX3_meetSea_59 ?_
    refine u_ladd C dX3_meetSea_60 ?_
    refine u_lastN (i := 4) C dX3_meetSea_61 (j10_is (mou_p4 hB)) (j10_n (mou_p4 hB)) (by decide) (by decide) ?_
    refine u_goto (tgt := 138) C dX3_meetSea_62 (by decide) ?_
    exact ret _ _  _ dX3_meetSea_138  (by (try simp only [u_le, Decidable.not_not] at c_8); first | (simp [-Int32.not_lt, -Int32.not_le, m_sea, iv_wi, iv_wj, jv_wi, jv_wj, m_ms1, m_ms2, sadd, m_in, m_out, m_gc, f_min, c_8]; done) | (simp [-Int32.not_lt, -Int32.not_le, m_sea, iv_wi, iv_wj, jv_wi, jv_wj, m_ms1, m_ms2, sadd, m_in, m_out, m_gc, f_min, c_8]; rfl))
set_option maxHeartbeats 4000000 in
set_option maxRecDepth 100000 in
theorem c_X3_meetRiver (l : Launch) (D : va_G) (G : w_G) (M : w_M) (B : Nat) (k : Nat) (hB : L_mou G (B)) (hk : L_sec G (k))  : u_Mv l D G yX3_meetRiver cX3_meetRiver 2 none 1 22 [.ref (gP G B), .ref (gP G k)] M (fun M' => M' = m_riv M B k) := by
  have hkB : B ≠ k := u_is_ne (mou_is hB) (sec_is hk) (by decide)
  have hkB2 : B ≠ k + 20 := u_is_ne (mou_is hB) (lay_is (sec_p0 hk)) (by decide)
  refine u_bodyv (by decide +kernel) (Nat.le_of_ble_eq_true rfl) rfl (fun p e s m args below meth c A H0 Q C ret => ?_)
  refine u_aload_n C dX3_meetRiver_0 rfl ?_
  refine u_getR (k2 := (k + 20)) C gX3_meetRiver_1 rfl (sec_is hk) (sec_f0 hk) ?_
  refine u_aload_n C dX3_meetRiver_4 rfl ?_
  refine u_getI C gX3_meetRiver_5 rfl (mou_is hB) ?_
  refine u_iconst (v := 0) C dX3_meetRiver_8 (by decide) ?_
  refine u_callvV2 C ev_X2_takeIn dX3_meetRiver_9 ml_RX3_180 (lay_is (sec_p0 hk)) rfl (by decide) (c_X2_takeIn l D G _ _ _ _ (sec_p0 hk) ) (by decide) (Nat.le_of_ble_eq_true rfl) (fun M_9 q_9 => ?_)
  obtain rfl := q_9
  refine u_aload_n C dX3_meetRiver_12 rfl ?_
  refine u_dup C dX3_meetRiver_13 rfl ?_
  refine u_getI C gX3_meetRiver_14 rfl (sec_is hk) ?_
  refine u_aload_n C dX3_meetRiver_17 rfl ?_
  refine u_getI C gX3_meetRiver_18 rfl (mou_is hB) ?_
  refine u_iadd C dX3_meetRiver_21 ?_
  refine u_putI C pX3_meetRiver_22 rfl (sec_is hk) ?_
  refine u_aload_n C dX3_meetRiver_25 rfl ?_
  refine u_getR (k2 := (B + 5)) C gX3_meetRiver_26 rfl (mou_is hB) (mou_f4 hB) ?_
  refine u_iconst (v := 2) C dX3_meetRiver_29 (by decide) ?_
  refine u_dup2 C dX3_meetRiver_30 rfl rfl ?_
  refine u_laldN (i := 2) C dX3_meetRiver_31 (j10_is (mou_p4 hB)) (j10_n (mou_p4 hB)) (by decide) (by decide) ?_
  refine u_aload_n C dX3_meetRiver_32 rfl ?_
  refine u_getI C gX3_meetRiver_33 rfl (mou_is hB) ?_
  refine u_i2l C dX3_meetRiver_36 ?_
  refine u_ladd C dX3_meetRiver_37 ?_
  refine u_lastN (i := 2) C dX3_meetRiver_38 (j10_is (mou_p4 hB)) (j10_n (mou_p4 hB)) (by decide) (by decide) ?_
  refine u_aload_n C dX3_meetRiver_39 rfl ?_
  refine u_getR (k2 := (B + 5)) C gX3_meetRiver_40 rfl (mou_is hB) (mou_f4 hB) ?_
  refine u_bipush (v := 7) C dX3_meetRiver_43 (by decide) ?_
  refine u_dup2 C dX3_meetRiver_45 rfl rfl ?_
  refine u_laldN (i := 7) C dX3_meetRiver_46 (j10_is (mou_p4 hB)) (j10_n (mou_p4 hB)) (by decide) (by decide) ?_
  refine u_aload_n C dX3_meetRiver_47 rfl ?_
  refine u_getI C gX3_meetRiver_48 rfl (mou_is hB) ?_
  refine u_i2l C dX3_meetRiver_51 ?_
  refine u_ladd C dX3_meetRiver_52 ?_
  refine u_lastN (i := 7) C dX3_meetRiver_53 (j10_is (mou_p4 hB)) (j10_n (mou_p4 hB)) (by decide) (by decide) ?_
  exact ret _ _  _ dX3_meetRiver_54  (by simp [m_riv, sadd, m_in, iv_wi, iv_wj, jv_wi, jv_wj, hkB, hkB2])
set_option maxHeartbeats 4000000 in
set_option maxRecDepth 100000 in
theorem c_X3_flowInLow (l : Launch) (D : va_G) (G : w_G) (M : w_M) (B : Nat) (k1 : Nat) (k2 : Nat) (f : Int32) (hB : L_mou G (B)) (hk1 : L_sec G (k1)) (hk2 : L_sec G (k2))  : u_Mv l D G yX3_flowInLow cX3_flowInLow 5 none 2 44 [.ref (gP G B), .ref (gP G k1), .ref (gP G k2), .int f] M (fun M' => M' = m_fl M k1 k2 f) := by
  refine u_bodyv (by decide +kernel) (Nat.le_of_ble_eq_true rfl) rfl (fun p e s m args below meth c A H0 Q C ret => ?_)
  refine u_aload_n C dX3_flowInLow_0 rfl ?_
  refine u_getR (k2 := (k1 + 30)) C gX3_flowInLow_1 rfl (sec_is hk1) (sec_f1 hk1) ?_
  refine u_iload_n C dX3_flowInLow_4 rfl ?_
  refine u_calliV1 C ev_X2_giveOut dX3_flowInLow_5 ml_RX3_194 (lay_is (sec_p1 hk1)) rfl (by decide) (c_X2_giveOut l D G _ _ _ (sec_p1 hk1) ) (by decide) (Nat.le_of_ble_eq_true rfl) (fun r_5 M_5 q_5 => ?_)
  obtain ⟨rfl, e_5⟩ := q_5
  subst M_5
  refine u_istore C dX3_flowInLow_8 (by decide) ?_
  refine u_aload_n C dX3_flowInLow_10 rfl ?_
  refine u_getR (k2 := (k2 + 30)) C gX3_flowInLow_11 rfl (sec_is hk2) (sec_f1 hk2) ?_
  refine u_iload_n C dX3_flowInLow_14 rfl ?_
  refine u_iload C dX3_flowInLow_15 rfl ?_
  refine u_callvV2 C ev_X2_takeIn dX3_flowInLow_17 ml_RX3_180 (lay_is (sec_p1 hk2)) rfl (by decide) (c_X2_takeIn l D G _ _ _ _ (sec_p1 hk2) ) (by decide) (Nat.le_of_ble_eq_true rfl) (fun M_17 q_17 => ?_)
  obtain rfl := q_17
  exact ret _ _  _ dX3_flowInLow_20  (rfl)
set_option maxHeartbeats 4000000 in
set_option maxRecDepth 100000 in
theorem c_X3_flowInUp (l : Launch) (D : va_G) (G : w_G) (M : w_M) (B : Nat) (k1 : Nat) (k2 : Nat) (f : Int32) (hB : L_mou G (B)) (hk1 : L_sec G (k1)) (hk2 : L_sec G (k2))  : u_Mv l D G yX3_flowInUp cX3_flowInUp 6 none 2 44 [.ref (gP G B), .ref (gP G k1), .ref (gP G k2), .int f] M (fun M' => M' = m_fu M k1 k2 f) := by
  refine u_bodyv (by decide +kernel) (Nat.le_of_ble_eq_true rfl) rfl (fun p e s m args below meth c A H0 Q C ret => ?_)
  refine u_aload_n C dX3_flowInUp_0 rfl ?_
  refine u_iload_n C dX3_flowInUp_1 rfl ?_
  refine u_calliV1 C ev_X6_giveCloud dX3_flowInUp_2 ml_RX3_191 (sec_is hk1) rfl (by decide) (c_X6_giveCloud l D G _ _ _ hk1 ) (by decide) (Nat.le_of_ble_eq_true rfl) (fun r_2 M_2 q_2 => ?_)
  obtain ⟨rfl, e_2⟩ := q_2
  subst M_2
  refine u_istore C dX3_flowInUp_5 (by decide) ?_
  refine u_aload_n C dX3_flowInUp_7 rfl ?_
  refine u_getR (k2 := (k1 + 20)) C gX3_flowInUp_8 rfl (sec_is hk1) (sec_f0 hk1) ?_
  refine u_iload_n C dX3_flowInUp_11 rfl ?_
  refine u_calliV1 C ev_X2_giveOut dX3_flowInUp_12 ml_RX3_194 (lay_is (sec_p0 hk1)) rfl (by decide) (c_X2_giveOut l D G _ _ _ (sec_p0 hk1) ) (by decide) (Nat.le_of_ble_eq_true rfl) (fun r_12 M_12 q_12 => ?_)
  obtain ⟨rfl, e_12⟩ := q_12
  subst M_12
  refine u_istore C dX3_flowInUp_15 (by decide) ?_
  refine u_aload_n C dX3_flowInUp_17 rfl ?_
  refine u_dup C dX3_flowInUp_18 rfl ?_
  refine u_getI C gX3_flowInUp_19 rfl (sec_is hk2) ?_
  refine u_iload C dX3_flowInUp_22 rfl ?_
  refine u_iadd C dX3_flowInUp_24 ?_
  refine u_putI C pX3_flowInUp_25 rfl (sec_is hk2) ?_
  refine u_aload_n C dX3_flowInUp_28 rfl ?_
  refine u_getR (k2 := (k2 + 20)) C gX3_flowInUp_29 rfl (sec_is hk2) (sec_f0 hk2) ?_
  refine u_iload_n C dX3_flowInUp_32 rfl ?_
  refine u_iload C dX3_flowInUp_33 rfl ?_
  refine u_callvV2 C ev_X2_takeIn dX3_flowInUp_35 ml_RX3_180 (lay_is (sec_p0 hk2)) rfl (by decide) (c_X2_takeIn l D G _ _ _ _ (sec_p0 hk2) ) (by decide) (Nat.le_of_ble_eq_true rfl) (fun M_35 q_35 => ?_)
  obtain rfl := q_35
  exact ret _ _  _ dX3_flowInUp_38  (rfl)
set_option maxHeartbeats 4000000 in
set_option maxRecDepth 100000 in
theorem c_X3_level (l : Launch) (D : va_G) (G : w_G) (M : w_M) (B : Nat) (k1 : Nat) (k2 : Nat) (hB : L_mou G (B)) (hk1 : L_sec G (k1)) (hk2 : L_sec G (k2))  : u_Mv l D G yX3_level cX3_level 6 none 3 69 [.ref (gP G B), .ref (gP G k1), .ref (gP G k2)] M (fun M' => M' = m_level M k1 k2) := by
  refine u_bodyv (by decide +kernel) (Nat.le_of_ble_eq_true rfl) rfl (fun p e s m args below meth c A H0 Q C ret => ?_)
  refine u_aload_n C dX3_level_0 rfl ?_
  refine u_calliV0 C ev_X6_level dX3_level_1 ml_RX3_170 (sec_is hk1) rfl (by decide) (c_X6_level l D G _ _ hk1 ) (by decide) (Nat.le_of_ble_eq_true rfl) (fun r_1 M_1 q_1 => ?_)
  obtain ⟨rfl, e_1⟩ := q_1
  subst M_1
  refine u_aload_n C dX3_level_4 rfl ?_
  refine u_calliV0 C ev_X6_level dX3_level_5 ml_RX3_170 (sec_is hk2) rfl (by decide) (c_X6_level l D G _ _ hk2 ) (by decide) (Nat.le_of_ble_eq_true rfl) (fun r_5 M_5 q_5 => ?_)
  obtain ⟨rfl, e_5⟩ := q_5
  subst M_5
  refine u_isub C dX3_level_8 ?_
  refine u_istore_n C dX3_level_9 (by decide) ?_
  refine u_aload_n C dX3_level_10 rfl ?_
  refine u_getI C gX3_level_11 rfl (sec_is hk1) ?_
  refine u_aload_n C dX3_level_14 rfl ?_
  refine u_getI C gX3_level_15 rfl (sec_is hk2) ?_
  refine u_mmin C dX3_level_18 ml_RX3_119 wm_min (by decide) (Nat.le_of_ble_eq_true rfl) ?_
  refine u_istore C dX3_level_21 (by decide) ?_
  refine u_iconst (v := 0) C dX3_level_23 (by decide) ?_
  refine u_istore C dX3_level_24 (by decide) ?_
  refine u_iload_n C dX3_level_26 rfl ?_
  refine u_if_le (tgt := 59) C dX3_level_27 (by decide) (fun c_27 => ?_) (fun c_27 => ?_)
  · refine u_iload_n C dX3_level_59 rfl ?_
    refine u_if_ge (tgt := 90) C dX3_level_60 (by decide) (fun c_60 => ?_) (fun c_60 => ?_)
    · refine u_aload_n C dX3_level_90 rfl ?_
      refine u_dup C dX3_level_91 rfl ?_
      refine u_getI C gX3_level_92 rfl (sec_is hk1) ?_
      refine u_iload C dX3_level_95 rfl ?_
      refine u_iadd C dX3_level_97 ?_
      refine u_putI C pX3_level_98 rfl (sec_is hk1) ?_
      refine u_aload_n C dX3_level_101 rfl ?_
      refine u_dup C dX3_level_102 rfl ?_
      refine u_getI C gX3_level_103 rfl (sec_is hk2) ?_
      refine u_iload C dX3_level_106 rfl ?_
      refine u_iadd C dX3_level_108 ?_
      refine u_putI C pX3_level_109 rfl (sec_is hk2) ?_
      exact ret _ _  _ dX3_level_112  (by (try simp only [u_le, Decidable.not_not] at c_27 c_60); first | (simp only [m_level, s_d]; rw [if_neg c_27, if_neg c_60]; rfl) | (simp [-Int32.not_lt, -Int32.not_le, m_level, s_d, m_runs, c_27, c_60]; done) | (simp [-Int32.not_lt, -Int32.not_le, m_level, s_d, c_27, c_60]; rfl))
    · refine u_iload_n C dX3_level_63 rfl ?_
      refine u_ineg C dX3_level_64 ?_
      refine u_iload C dX3_level_65 rfl ?_
      refine u_imul C dX3_level_67 ?_
      refine u_iconst (v := 4) C dX3_level_68 (by decide) ?_
      refine u_idiv C dX3_level_69 (by decide) ?_
      refine u_aload_n C dX3_level_70 rfl ?_
      refine u_getR (k2 := (k2 + 20)) C gX3_level_71 rfl (sec_is hk2) (sec_f0 hk2) ?_
      refine u_getI C gX3_level_74 rfl (lay_is (sec_p0 hk2)) ?_
      refine u_mmin C dX3_level_77 ml_RX3_119 wm_min (by decide) (Nat.le_of_ble_eq_true rfl) ?_
      refine u_istore C dX3_level_80 (by decide) ?_
      refine u_aload_n C dX3_level_82 rfl ?_
      refine u_aload_n C dX3_level_83 rfl ?_
      refine u_aload_n C dX3_level_84 rfl ?_
      refine u_iload C dX3_level_85 rfl ?_
      refine u_callvV3 C ev_X3_flowInUp dX3_level_87 ml_RX3_201 (mou_is hB) rfl (by decide) (c_X3_flowInUp l D G _ _ _ _ _ hB hk2 hk1 ) (by decide) (Nat.le_of_ble_eq_true rfl) (fun M_87 q_87 => ?_)
      obtain rfl := q_87
      refine u_aload_n C dX3_level_90 rfl ?_
      refine u_dup C dX3_level_91 rfl ?_
      refine u_getI C gX3_level_92 rfl (sec_is hk1) ?_
      refine u_iload C dX3_level_95 rfl ?_
      refine u_iadd C dX3_level_97 ?_
      refine u_putI C pX3_level_98 rfl (sec_is hk1) ?_
      refine u_aload_n C dX3_level_101 rfl ?_
      refine u_dup C dX3_level_102 rfl ?_
      refine u_getI C gX3_level_103 rfl (sec_is hk2) ?_
      refine u_iload C dX3_level_106 rfl ?_
      refine u_iadd C dX3_level_108 ?_
      refine u_putI C pX3_level_109 rfl (sec_is hk2) ?_
      exact ret _ _  _ dX3_level_112  (by (try simp only [u_le, Decidable.not_not] at c_27 c_60); first | (simp only [m_level, s_d]; rw [if_neg c_27, if_neg c_60]; rfl) | (simp [-Int32.not_lt, -Int32.not_le, m_level, s_d, m_runs, c_27, c_60]; done) | (simp [-Int32.not_lt, -Int32.not_le, m_level, s_d, c_27, c_60]; rfl))
  · refine u_iload_n C dX3_level_30 rfl ?_
    refine u_iload C dX3_level_31 rfl ?_
    refine u_imul C dX3_level_33 ?_
    refine u_iconst (v := 4) C dX3_level_34 (by decide) ?_
    refine u_idiv C dX3_level_35 (by decide) ?_
    refine u_aload_n C dX3_level_36 rfl ?_
    refine u_getR (k2 := (k1 + 30)) C gX3_level_37 rfl (sec_is hk1) (sec_f1 hk1) ?_
    refine u_getI C gX3_level_40 rfl (lay_is (sec_p1 hk1)) ?_
    refine u_mmin C dX3_level_43 ml_RX3_119 wm_min (by decide) (Nat.le_of_ble_eq_true rfl) ?_
    refine u_istore C dX3_level_46 (by decide) ?_
    refine u_aload_n C dX3_level_48 rfl ?_
    refine u_aload_n C dX3_level_49 rfl ?_
    refine u_aload_n C dX3_level_50 rfl ?_
    refine u_iload C dX3_level_51 rfl ?_
    refine u_callvV3 C ev_X3_flowInLow dX3_level_53 ml_RX3_197 (mou_is hB) rfl (by decide) (c_X3_flowInLow l D G _ _ _ _ _ hB hk1 hk2 ) (by decide) (Nat.le_of_ble_eq_true rfl) (fun M_53 q_53 => ?_)
    obtain rfl := q_53
    refine u_goto (tgt := 90) C dX3_level_56 (by decide) ?_
    refine u_aload_n C dX3_level_90 rfl ?_
    refine u_dup C dX3_level_91 rfl ?_
    refine u_getI C gX3_level_92 rfl (sec_is hk1) ?_
    refine u_iload C dX3_level_95 rfl ?_
    refine u_iadd C dX3_level_97 ?_
    refine u_putI C pX3_level_98 rfl (sec_is hk1) ?_
    refine u_aload_n C dX3_level_101 rfl ?_
    refine u_dup C dX3_level_102 rfl ?_
    refine u_getI C gX3_level_103 rfl (sec_is hk2) ?_
    refine u_iload C dX3_level_106 rfl ?_
    refine u_iadd C dX3_level_108 ?_
    refine u_putI C pX3_level_109 rfl (sec_is hk2) ?_
    exact ret _ _  _ dX3_level_112  (by (try simp only [u_le, Decidable.not_not] at c_27); first | (simp only [m_level, s_d]; rw [if_neg c_27, if_neg c_60]; rfl) | (simp [-Int32.not_lt, -Int32.not_le, m_level, s_d, m_runs, c_27]; done) | (simp [-Int32.not_lt, -Int32.not_le, m_level, s_d, c_27]; rfl))
set_option maxHeartbeats 4000000 in
set_option maxRecDepth 100000 in
theorem c_X3_creep (l : Launch) (D : va_G) (G : w_G) (M : w_M) (B : Nat) (k1 : Nat) (k2 : Nat) (hB : L_mou G (B)) (hk1 : L_sec G (k1)) (hk2 : L_sec G (k2))  : u_Mv l D G yX3_creep cX3_creep 4 none 3 69 [.ref (gP G B), .ref (gP G k1), .ref (gP G k2)] M (fun M' => M' = m_creep M k1 k2) := by
  refine u_bodyv (by decide +kernel) (Nat.le_of_ble_eq_true rfl) rfl (fun p e s m args below meth c A H0 Q C ret => ?_)
  refine u_aload_n C dX3_creep_0 rfl ?_
  refine u_getR (k2 := (k1 + 30)) C gX3_creep_1 rfl (sec_is hk1) (sec_f1 hk1) ?_
  refine u_calliV0 C ev_X2_salinity dX3_creep_4 ml_RX3_204 (lay_is (sec_p1 hk1)) rfl (by decide) (c_X2_salinity l D G _ _ (sec_p1 hk1) ) (by decide) (Nat.le_of_ble_eq_true rfl) (fun r_4 M_4 q_4 => ?_)
  obtain ⟨rfl, e_4⟩ := q_4
  subst M_4
  refine u_aload_n C dX3_creep_7 rfl ?_
  refine u_getR (k2 := (k2 + 30)) C gX3_creep_8 rfl (sec_is hk2) (sec_f1 hk2) ?_
  refine u_calliV0 C ev_X2_salinity dX3_creep_11 ml_RX3_204 (lay_is (sec_p1 hk2)) rfl (by decide) (c_X2_salinity l D G _ _ (sec_p1 hk2) ) (by decide) (Nat.le_of_ble_eq_true rfl) (fun r_11 M_11 q_11 => ?_)
  obtain ⟨rfl, e_11⟩ := q_11
  subst M_11
  refine u_icmp_le (tgt := 52) C dX3_creep_14 (by decide) (fun c_14 => ?_) (fun c_14 => ?_)
  · exact ret _ _  _ dX3_creep_52  (by (try simp only [u_le, Decidable.not_not] at c_14); first | (rw [m_creep, if_pos c_14]; rfl) | (rw [m_creep, if_neg c_14]))
  · refine u_aload_n C dX3_creep_17 rfl ?_
    refine u_getR (k2 := (k1 + 30)) C gX3_creep_18 rfl (sec_is hk1) (sec_f1 hk1) ?_
    refine u_getI C gX3_creep_21 rfl (lay_is (sec_p1 hk1)) ?_
    refine u_aload_n C dX3_creep_24 rfl ?_
    refine u_getR (k2 := (k2 + 20)) C gX3_creep_25 rfl (sec_is hk2) (sec_f0 hk2) ?_
    refine u_getI C gX3_creep_28 rfl (lay_is (sec_p0 hk2)) ?_
    refine u_mmin C dX3_creep_31 ml_RX3_119 wm_min (by decide) (Nat.le_of_ble_eq_true rfl) ?_
    refine u_bipush (v := 8) C dX3_creep_34 (by decide) ?_
    refine u_idiv C dX3_creep_36 (by decide) ?_
    refine u_istore_n C dX3_creep_37 (by decide) ?_
    refine u_aload_n C dX3_creep_38 rfl ?_
    refine u_aload_n C dX3_creep_39 rfl ?_
    refine u_aload_n C dX3_creep_40 rfl ?_
    refine u_iload_n C dX3_creep_41 rfl ?_
    refine u_callvV3 C ev_X3_flowInLow dX3_creep_42 ml_RX3_197 (mou_is hB) rfl (by decide) (c_X3_flowInLow l D G _ _ _ _ _ hB hk1 hk2 ) (by decide) (Nat.le_of_ble_eq_true rfl) (fun M_42 q_42 => ?_)
    obtain rfl := q_42
    refine u_aload_n C dX3_creep_45 rfl ?_
    refine u_aload_n C dX3_creep_46 rfl ?_
    refine u_aload_n C dX3_creep_47 rfl ?_
    refine u_iload_n C dX3_creep_48 rfl ?_
    refine u_callvV3 C ev_X3_flowInUp dX3_creep_49 ml_RX3_201 (mou_is hB) rfl (by decide) (c_X3_flowInUp l D G _ _ _ _ _ hB hk2 hk1 ) (by decide) (Nat.le_of_ble_eq_true rfl) (fun M_49 q_49 => ?_)
    obtain rfl := q_49
    exact ret _ _  _ dX3_creep_52  (by (try simp only [u_le, Decidable.not_not] at c_14); first | (rw [m_creep, if_pos c_14]; rfl) | (rw [m_creep, if_neg c_14]))
set_option maxHeartbeats 4000000 in
set_option maxRecDepth 100000 in
theorem c_X3_begin (l : Launch) (D : va_G) (G : w_G) (M : w_M) (B : Nat) (hB : L_mou G (B))  : u_Mv l D G yX3_begin cX3_begin 2 none 1 20 [.ref (gP G B)] M (fun M' => M' = m_mbeg M B) := by
  refine u_bodyv (by decide +kernel) (Nat.le_of_ble_eq_true rfl) rfl (fun p e s m args below meth c A H0 Q C ret => ?_)
  have loop1 : ∀ (d i : Nat) (x1 : Int32), i ≤ 10 → 10 - i < d → x1 = nI i → u_S p l e (u_rm 1 20) s m args below meth c 2 D A H0 0 0 Q 16 [(0, .ref (gP G B)), (1, .int x1)] [] G (m_z (m_bb (m_sb M (B + 1)) (B + 2)) B i) := by
    intro d
    induction d with
    | zero => intro i x1 hj hd; omega
    | succ d ih =>
      intro i x1 hj hd h1
      subst h1
      refine u_iload_n C dX3_begin_16 rfl ?_
      refine u_aload_n C dX3_begin_17 rfl ?_
      refine u_getR (k2 := (B + 5)) C gX3_begin_18 rfl (mou_is hB) (mou_f4 hB) ?_
      refine u_alenJ C dX3_begin_21 (j10_is (mou_p4 hB)) ?_
      rw [j10_n (mou_p4 hB)]
      refine u_icmp_ge (tgt := 38) C dX3_begin_22 (by decide) (fun c_22 => ?_) (fun c_22 => ?_)
      · obtain rfl : i = 10 := by have := u_gei (n := 10) c_22 (by omega) (by omega); omega
        refine u_aload_n C dX3_begin_38 rfl ?_
        refine u_iconst (v := 0) C dX3_begin_39 (by decide) ?_
        refine u_putI C pX3_begin_40 rfl (mou_is hB) ?_
        refine u_aload_n C dX3_begin_43 rfl ?_
        refine u_iconst (v := 0) C dX3_begin_44 (by decide) ?_
        refine u_putI C pX3_begin_45 rfl (mou_is hB) ?_
        refine u_aload_n C dX3_begin_48 rfl ?_
        refine u_iconst (v := 0) C dX3_begin_49 (by decide) ?_
        refine u_putI C pX3_begin_50 rfl (mou_is hB) ?_
        refine u_aload_n C dX3_begin_53 rfl ?_
        refine u_iconst (v := 0) C dX3_begin_54 (by decide) ?_
        refine u_putI C pX3_begin_55 rfl (mou_is hB) ?_
        refine u_aload_n C dX3_begin_58 rfl ?_
        refine u_iconst (v := 0) C dX3_begin_59 (by decide) ?_
        refine u_putI C pX3_begin_60 rfl (mou_is hB) ?_
        exact ret _ _  _ dX3_begin_63  (rfl)
      · have hi : i < 10 := u_lt (n := 10) c_22 (by omega)
        refine u_aload_n C dX3_begin_25 rfl ?_
        refine u_getR (k2 := (B + 5)) C gX3_begin_26 rfl (mou_is hB) (mou_f4 hB) ?_
        refine u_iload_n C dX3_begin_29 rfl ?_
        refine u_lconst (v := 0) C dX3_begin_30 (by decide) ?_
        refine u_lastN (i := i) C dX3_begin_31 (j10_is (mou_p4 hB)) (j10_n (mou_p4 hB)) (by omega) (by decide) ?_
        refine u_iinc C dX3_begin_32 (by decide) rfl ?_
        refine u_goto (tgt := 16) C dX3_begin_35 (by decide) ?_
        exact u_loc [0, 1] rfl (ih (i + 1) _ (by omega) (by omega) (nI_1 i))
  refine u_aload_n C dX3_begin_0 rfl ?_
  refine u_getR (k2 := (B + 1)) C gX3_begin_1 rfl (mou_is hB) (mou_f0 hB) ?_
  refine u_callvV0 C ev_X5_begin dX3_begin_4 ml_RX3_43 (sea_is (mou_p0 hB)) rfl (by decide) (c_X5_begin l D G _ _ (mou_p0 hB) ) (by decide) (Nat.le_of_ble_eq_true rfl) (fun M_4 q_4 => ?_)
  obtain rfl := q_4
  refine u_aload_n C dX3_begin_7 rfl ?_
  refine u_getR (k2 := (B + 2)) C gX3_begin_8 rfl (mou_is hB) (mou_f1 hB) ?_
  refine u_callvV0 C ev_X0_begin dX3_begin_11 ml_RX3_46 (bar_is (mou_p1 hB)) rfl (by decide) (c_X0_begin l D G _ _ (mou_p1 hB) ) (by decide) (Nat.le_of_ble_eq_true rfl) (fun M_11 q_11 => ?_)
  obtain rfl := q_11
  refine u_iconst (v := 0) C dX3_begin_14 (by decide) ?_
  refine u_istore_n C dX3_begin_15 (by decide) ?_
  exact u_loc [0, 1] rfl (loop1 11 0 _ (by omega) (by omega) nI_0.symm)
set_option maxHeartbeats 4000000 in
set_option maxRecDepth 100000 in
theorem c_X3_hasSection (l : Launch) (D : va_G) (G : w_G) (M : w_M) (B : Nat) (v : Int32) (hB : L_mou G (B))  : u_Mi l D G yX3_hasSection cX3_hasSection 2 (some .boolean) 0 0 [.ref (gP G B), .int v] M (fun r M' => r = s_has M B v ∧ M' = M) := by
  refine u_bodyz (by decide +kernel) (Nat.le_of_ble_eq_true rfl) rfl (fun p e s m args below meth c A H0 Q C ret => ?_)
  refine u_iload_n C dX3_hasSection_0 rfl ?_
  refine u_if_lt (tgt := 16) C dX3_hasSection_1 (by decide) (fun c_1 => ?_) (fun c_1 => ?_)
  · refine u_iconst (v := 0) C dX3_hasSection_16 (by decide) ?_
    exact ret _ _ _ _ dX3_hasSection_17 (by simp) (by (try simp only [u_le, Decidable.not_not] at c_1); refine ⟨?_, rfl⟩; simp [-Int32.not_lt, -Int32.not_le, s_has, u_le, c_1])
  · refine u_iload_n C dX3_hasSection_4 rfl ?_
    refine u_aload_n C dX3_hasSection_5 rfl ?_
    refine u_getI C gX3_hasSection_6 rfl (mou_is hB) ?_
    refine u_icmp_ge (tgt := 16) C dX3_hasSection_9 (by decide) (fun c_9 => ?_) (fun c_9 => ?_)
    · refine u_iconst (v := 0) C dX3_hasSection_16 (by decide) ?_
      exact ret _ _ _ _ dX3_hasSection_17 (by simp) (by (try simp only [u_le, Decidable.not_not] at c_1 c_9); refine ⟨?_, rfl⟩; simp [-Int32.not_lt, -Int32.not_le, s_has, u_le, c_1, c_9])
    · refine u_iconst (v := 1) C dX3_hasSection_12 (by decide) ?_
      refine u_goto (tgt := 17) C dX3_hasSection_13 (by decide) ?_
      exact ret _ _ _ _ dX3_hasSection_17 (by simp) (by (try simp only [u_le, Decidable.not_not] at c_1 c_9); refine ⟨?_, rfl⟩; simp [-Int32.not_lt, -Int32.not_le, s_has, u_le, c_1, c_9])
set_option maxHeartbeats 4000000 in
set_option maxRecDepth 100000 in
theorem c_X3_addSection (l : Launch) (D : va_G) (G : w_G) (M : w_M) (B : Nat) (ar : Int32) (up : Int32) (low : Int32) (mud : Int32) (hB : L_mou G (B)) (n : Nat) (hn8 : n < 8) (hn : iv M B 5 = nI n) : u_Mv l D G yX3_addSection cX3_addSection 5 none 2 45 [.ref (gP G B), .int ar, .int up, .int low, .int mud] M (fun M' => M' = m_asec M B ar up low mud) := by
  have en : cN (iv M B 5) = n := by rw [hn]; exact cN_nI (by omega)
  refine u_bodyv (by decide +kernel) (Nat.le_of_ble_eq_true rfl) rfl (fun p e s m args below meth c A H0 Q C ret => ?_)
  refine u_aload_n C dX3_addSection_0 rfl ?_
  refine u_getI C gX3_addSection_1 rfl (mou_is hB) ?_
  refine u_aload_n C dX3_addSection_4 rfl ?_
  refine u_getR (k2 := (B + 3)) C gX3_addSection_5 rfl (mou_is hB) (mou_f2 hB) ?_
  refine u_alenR C dX3_addSection_8 (aSec_is (mou_p2 hB)) (by decide) ?_
  rw [aSec_n (mou_p2 hB)]
  rw [hn]
  refine u_icmp_ge (tgt := 39) C dX3_addSection_9 (by decide) (fun c_9 => ?_) (fun c_9 => ?_)
  · exact absurd c_9 (nI_ge hn8 (by decide))
  · refine u_aload_n C dX3_addSection_12 rfl ?_
    refine u_getR (k2 := (B + 3)) C gX3_addSection_13 rfl (mou_is hB) (mou_f2 hB) ?_
    refine u_aload_n C dX3_addSection_16 rfl ?_
    refine u_getI C gX3_addSection_17 rfl (mou_is hB) ?_
    rw [hn]
    refine u_aaldN (k2 := (B + 100 + n)) (i := n) C dX3_addSection_20 (aSec_is (mou_p2 hB)) (by decide) (aSec_n (mou_p2 hB)) hn8 (by decide) (aSec_f (i := n) (mou_p2 hB) hn8) ?_
    refine u_iload_n C dX3_addSection_21 rfl ?_
    refine u_iload_n C dX3_addSection_22 rfl ?_
    refine u_iload_n C dX3_addSection_23 rfl ?_
    refine u_iload C dX3_addSection_24 rfl ?_
    refine u_callvV4 C ev_X6_begin dX3_addSection_26 ml_RX3_94 (sec_is (aSec_p (i := n) (mou_p2 hB) hn8)) rfl (by decide) (c_X6_begin l D G _ _ _ _ _ _ (aSec_p (i := n) (mou_p2 hB) hn8) ) (by decide) (Nat.le_of_ble_eq_true rfl) (fun M_26 q_26 => ?_)
    obtain rfl := q_26
    refine u_aload_n C dX3_addSection_29 rfl ?_
    refine u_dup C dX3_addSection_30 rfl ?_
    refine u_getI C gX3_addSection_31 rfl (mou_is hB) ?_
    refine u_iconst (v := 1) C dX3_addSection_34 (by decide) ?_
    refine u_iadd C dX3_addSection_35 ?_
    refine u_putI C pX3_addSection_36 rfl (mou_is hB) ?_
    exact ret _ _  _ dX3_addSection_39  (by have e1 : ¬ B = B + 100 + n := (by omega); have e2 : ¬ B = B + 100 + n + 20 := (by omega); have e3 : ¬ B = B + 100 + n + 30 := (by omega); simp [m_asec, en, m_sbeg, iv_wi, e1, e2, e3])
set_option maxHeartbeats 4000000 in
set_option maxRecDepth 100000 in
theorem c_X3_addIntake (l : Launch) (D : va_G) (G : w_G) (M : w_M) (B : Nat) (a : Int32) (b : Int32) (c1 : Int32) (d1 : Int32) (e1 : Int32) (hB : L_mou G (B)) (n : Nat) (hn8 : n < 6) (hn : iv M B 6 = nI n) : u_Mv l D G yX3_addIntake cX3_addIntake 6 none 1 25 [.ref (gP G B), .int a, .int b, .int c1, .int d1, .int e1] M (fun M' => M' = m_aint M B a b c1 d1 e1) := by
  have en : cN (iv M B 6) = n := by rw [hn]; exact cN_nI (by omega)
  refine u_bodyv (by decide +kernel) (Nat.le_of_ble_eq_true rfl) rfl (fun p e s m args below meth c A H0 Q C ret => ?_)
  refine u_aload_n C dX3_addIntake_0 rfl ?_
  refine u_getI C gX3_addIntake_1 rfl (mou_is hB) ?_
  refine u_aload_n C dX3_addIntake_4 rfl ?_
  refine u_getR (k2 := (B + 4)) C gX3_addIntake_5 rfl (mou_is hB) (mou_f3 hB) ?_
  refine u_alenR C dX3_addIntake_8 (aInt_is (mou_p3 hB)) (by decide) ?_
  rw [aInt_n (mou_p3 hB)]
  rw [hn]
  refine u_icmp_ge (tgt := 41) C dX3_addIntake_9 (by decide) (fun c_9 => ?_) (fun c_9 => ?_)
  · exact absurd c_9 (nI_ge hn8 (by decide))
  · refine u_aload_n C dX3_addIntake_12 rfl ?_
    refine u_getR (k2 := (B + 4)) C gX3_addIntake_13 rfl (mou_is hB) (mou_f3 hB) ?_
    refine u_aload_n C dX3_addIntake_16 rfl ?_
    refine u_getI C gX3_addIntake_17 rfl (mou_is hB) ?_
    rw [hn]
    refine u_aaldN (k2 := (B + 150 + n)) (i := n) C dX3_addIntake_20 (aInt_is (mou_p3 hB)) (by decide) (aInt_n (mou_p3 hB)) hn8 (by decide) (aInt_f (i := n) (mou_p3 hB) hn8) ?_
    refine u_iload_n C dX3_addIntake_21 rfl ?_
    refine u_iload_n C dX3_addIntake_22 rfl ?_
    refine u_iload_n C dX3_addIntake_23 rfl ?_
    refine u_iload C dX3_addIntake_24 rfl ?_
    refine u_iload C dX3_addIntake_26 rfl ?_
    refine u_callvV5 C ev_X1_begin dX3_addIntake_28 ml_RX3_96 (int_is (aInt_p (i := n) (mou_p3 hB) hn8)) rfl (by decide) (c_X1_begin l D G _ _ _ _ _ _ _ (aInt_p (i := n) (mou_p3 hB) hn8) ) (by decide) (Nat.le_of_ble_eq_true rfl) (fun M_28 q_28 => ?_)
    obtain rfl := q_28
    refine u_aload_n C dX3_addIntake_31 rfl ?_
    refine u_dup C dX3_addIntake_32 rfl ?_
    refine u_getI C gX3_addIntake_33 rfl (mou_is hB) ?_
    refine u_iconst (v := 1) C dX3_addIntake_36 (by decide) ?_
    refine u_iadd C dX3_addIntake_37 ?_
    refine u_putI C pX3_addIntake_38 rfl (mou_is hB) ?_
    exact ret _ _  _ dX3_addIntake_41  (by have e1 : ¬ B = B + 150 + n := (by omega); simp [m_aint, en, m_ibeg, iv_wi, e1])
set_option maxHeartbeats 4000000 in
set_option maxRecDepth 100000 in
theorem c_X3_setPermit (l : Launch) (D : va_G) (G : w_G) (M : w_M) (B : Nat) (i : Nat) (a : Int32) (hB : L_mou G (B)) (n : Nat) (hn8 : n ≤ 8) (hn : iv M B 5 = nI n) (hi : i < n) : u_Mv l D G yX3_setPermit cX3_setPermit 3 none 1 21 [.ref (gP G B), .int (nI i), .int a] M (fun M' => M' = wi M (B + 100 + i) 7 a) := by
  refine u_bodyv (by decide +kernel) (Nat.le_of_ble_eq_true rfl) rfl (fun p e s m args below meth c A H0 Q C ret => ?_)
  refine u_aload_n C dX3_setPermit_0 rfl ?_
  refine u_iload_n C dX3_setPermit_1 rfl ?_
  refine u_calliV1 C ev_X3_hasSection dX3_setPermit_2 ml_RX3_98 (mou_is hB) rfl (by decide) (c_X3_hasSection l D G _ _ _ hB ) (by decide) (Nat.le_of_ble_eq_true rfl) (fun r_2 M_2 q_2 => ?_)
  obtain ⟨rfl, e_2⟩ := q_2
  subst M_2
  rw [u_has hn8 hn hi]
  refine u_if_eq (tgt := 18) C dX3_setPermit_5 (by decide) (fun c_5 => ?_) (fun c_5 => ?_)
  · exact absurd c_5 (by decide)
  · refine u_aload_n C dX3_setPermit_8 rfl ?_
    refine u_getR (k2 := (B + 3)) C gX3_setPermit_9 rfl (mou_is hB) (mou_f2 hB) ?_
    refine u_iload_n C dX3_setPermit_12 rfl ?_
    refine u_aaldN (k2 := (B + 100 + i)) (i := i) C dX3_setPermit_13 (aSec_is (mou_p2 hB)) (by decide) (aSec_n (mou_p2 hB)) (by omega) (by decide) (aSec_f (i := i) (mou_p2 hB) (by omega)) ?_
    refine u_iload_n C dX3_setPermit_14 rfl ?_
    refine u_putI C pX3_setPermit_15 rfl (sec_is (aSec_p (i := i) (mou_p2 hB) (by omega))) ?_
    exact ret _ _  _ dX3_setPermit_18  (rfl)
set_option maxHeartbeats 4000000 in
set_option maxRecDepth 100000 in
theorem c_X3_moveMudS (l : Launch) (D : va_G) (G : w_G) (M : w_M) (B : Nat) (i : Nat) (a : Int32) (hB : L_mou G (B)) (n : Nat) (hn8 : n ≤ 8) (hn : iv M B 5 = nI n) (hi : i < n) : u_Mv l D G yX3_moveMud cX3_moveMud 4 none 1 21 [.ref (gP G B), .int (nI i), .int a, .int (-1)] M (fun M' => M' = m_mudS M B i a) := by
  refine u_bodyv (by decide +kernel) (Nat.le_of_ble_eq_true rfl) rfl (fun p e s m args below meth c A H0 Q C ret => ?_)
  refine u_aload_n C dX3_moveMud_0 rfl ?_
  refine u_iload_n C dX3_moveMud_1 rfl ?_
  refine u_calliV1 C ev_X3_hasSection dX3_moveMud_2 ml_RX3_98 (mou_is hB) rfl (by decide) (c_X3_hasSection l D G _ _ _ hB ) (by decide) (Nat.le_of_ble_eq_true rfl) (fun r_2 M_2 q_2 => ?_)
  obtain ⟨rfl, e_2⟩ := q_2
  subst M_2
  rw [u_has hn8 hn hi]
  refine u_if_ne (tgt := 9) C dX3_moveMud_5 (by decide) (fun c_5 => ?_) (fun c_5 => ?_)
  · refine u_aload_n C dX3_moveMud_9 rfl ?_
    refine u_getR (k2 := (B + 3)) C gX3_moveMud_10 rfl (mou_is hB) (mou_f2 hB) ?_
    refine u_iload_n C dX3_moveMud_13 rfl ?_
    refine u_aaldN (k2 := (B + 100 + i)) (i := i) C dX3_moveMud_14 (aSec_is (mou_p2 hB)) (by decide) (aSec_n (mou_p2 hB)) (by omega) (by decide) (aSec_f (i := i) (mou_p2 hB) (by omega)) ?_
    refine u_dup C dX3_moveMud_15 rfl ?_
    refine u_getI C gX3_moveMud_16 rfl (sec_is (aSec_p (i := i) (mou_p2 hB) (by omega))) ?_
    refine u_iload_n C dX3_moveMud_19 rfl ?_
    refine u_isub C dX3_moveMud_20 ?_
    refine u_putI C pX3_moveMud_21 rfl (sec_is (aSec_p (i := i) (mou_p2 hB) (by omega))) ?_
    refine u_aload_n C dX3_moveMud_24 rfl ?_
    refine u_getR (k2 := (B + 3)) C gX3_moveMud_25 rfl (mou_is hB) (mou_f2 hB) ?_
    refine u_iload_n C dX3_moveMud_28 rfl ?_
    refine u_aaldN (k2 := (B + 100 + i)) (i := i) C dX3_moveMud_29 (aSec_is (mou_p2 hB)) (by decide) (aSec_n (mou_p2 hB)) (by omega) (by decide) (aSec_f (i := i) (mou_p2 hB) (by omega)) ?_
    refine u_dup C dX3_moveMud_30 rfl ?_
    refine u_getI C gX3_moveMud_31 rfl (sec_is (aSec_p (i := i) (mou_p2 hB) (by omega))) ?_
    refine u_iload_n C dX3_moveMud_34 rfl ?_
    refine u_isub C dX3_moveMud_35 ?_
    refine u_putI C pX3_moveMud_36 rfl (sec_is (aSec_p (i := i) (mou_p2 hB) (by omega))) ?_
    refine u_aload_n C dX3_moveMud_39 rfl ?_
    refine u_iload_n C dX3_moveMud_40 rfl ?_
    refine u_calliV1 C ev_X3_hasSection dX3_moveMud_41 ml_RX3_98 (mou_is hB) rfl (by decide) (c_X3_hasSection l D G _ _ _ hB ) (by decide) (Nat.le_of_ble_eq_true rfl) (fun r_41 M_41 q_41 => ?_)
    obtain ⟨rfl, e_41⟩ := q_41
    subst M_41
    rw [show s_has (wi (wi M (B + 100 + i) 7 (iv M (B + 100 + i) 7 - a)) (B + 100 + i) 4 (iv (wi M (B + 100 + i) 7 (iv M (B + 100 + i) 7 - a)) (B + 100 + i) 4 - a)) B (-1) = 0 from by rw [s_has, if_pos (by decide)]]
    refine u_if_eq (tgt := 65) C dX3_moveMud_44 (by decide) (fun c_44 => ?_) (fun c_44 => ?_)
    · refine u_aload_n C dX3_moveMud_65 rfl ?_
      refine u_getR (k2 := (B + 5)) C gX3_moveMud_66 rfl (mou_is hB) (mou_f4 hB) ?_
      refine u_bipush (v := 9) C dX3_moveMud_69 (by decide) ?_
      refine u_dup2 C dX3_moveMud_71 rfl rfl ?_
      refine u_laldN (i := 9) C dX3_moveMud_72 (j10_is (mou_p4 hB)) (j10_n (mou_p4 hB)) (by decide) (by decide) ?_
      refine u_iload_n C dX3_moveMud_73 rfl ?_
      refine u_i2l C dX3_moveMud_74 ?_
      refine u_ladd C dX3_moveMud_75 ?_
      refine u_lastN (i := 9) C dX3_moveMud_76 (j10_is (mou_p4 hB)) (j10_n (mou_p4 hB)) (by decide) (by decide) ?_
      exact ret _ _  _ dX3_moveMud_77  (by simp [m_mudS, m_mud1, sadd, iv_wi])
    · exact absurd rfl c_44
  · exact absurd c_5 (by decide)
set_option maxHeartbeats 4000000 in
set_option maxRecDepth 100000 in
theorem c_X3_moveMudC (l : Launch) (D : va_G) (G : w_G) (M : w_M) (B : Nat) (i : Nat) (a : Int32) (j : Nat) (hB : L_mou G (B)) (n : Nat) (hn8 : n ≤ 8) (hn : iv M B 5 = nI n) (hi : i < n) (hj : j < n) : u_Mv l D G yX3_moveMud cX3_moveMud 4 none 1 21 [.ref (gP G B), .int (nI i), .int a, .int (nI j)] M (fun M' => M' = m_mudC M B i j a) := by
  refine u_bodyv (by decide +kernel) (Nat.le_of_ble_eq_true rfl) rfl (fun p e s m args below meth c A H0 Q C ret => ?_)
  refine u_aload_n C dX3_moveMud_0 rfl ?_
  refine u_iload_n C dX3_moveMud_1 rfl ?_
  refine u_calliV1 C ev_X3_hasSection dX3_moveMud_2 ml_RX3_98 (mou_is hB) rfl (by decide) (c_X3_hasSection l D G _ _ _ hB ) (by decide) (Nat.le_of_ble_eq_true rfl) (fun r_2 M_2 q_2 => ?_)
  obtain ⟨rfl, e_2⟩ := q_2
  subst M_2
  rw [u_has hn8 hn hi]
  refine u_if_ne (tgt := 9) C dX3_moveMud_5 (by decide) (fun c_5 => ?_) (fun c_5 => ?_)
  · refine u_aload_n C dX3_moveMud_9 rfl ?_
    refine u_getR (k2 := (B + 3)) C gX3_moveMud_10 rfl (mou_is hB) (mou_f2 hB) ?_
    refine u_iload_n C dX3_moveMud_13 rfl ?_
    refine u_aaldN (k2 := (B + 100 + i)) (i := i) C dX3_moveMud_14 (aSec_is (mou_p2 hB)) (by decide) (aSec_n (mou_p2 hB)) (by omega) (by decide) (aSec_f (i := i) (mou_p2 hB) (by omega)) ?_
    refine u_dup C dX3_moveMud_15 rfl ?_
    refine u_getI C gX3_moveMud_16 rfl (sec_is (aSec_p (i := i) (mou_p2 hB) (by omega))) ?_
    refine u_iload_n C dX3_moveMud_19 rfl ?_
    refine u_isub C dX3_moveMud_20 ?_
    refine u_putI C pX3_moveMud_21 rfl (sec_is (aSec_p (i := i) (mou_p2 hB) (by omega))) ?_
    refine u_aload_n C dX3_moveMud_24 rfl ?_
    refine u_getR (k2 := (B + 3)) C gX3_moveMud_25 rfl (mou_is hB) (mou_f2 hB) ?_
    refine u_iload_n C dX3_moveMud_28 rfl ?_
    refine u_aaldN (k2 := (B + 100 + i)) (i := i) C dX3_moveMud_29 (aSec_is (mou_p2 hB)) (by decide) (aSec_n (mou_p2 hB)) (by omega) (by decide) (aSec_f (i := i) (mou_p2 hB) (by omega)) ?_
    refine u_dup C dX3_moveMud_30 rfl ?_
    refine u_getI C gX3_moveMud_31 rfl (sec_is (aSec_p (i := i) (mou_p2 hB) (by omega))) ?_
    refine u_iload_n C dX3_moveMud_34 rfl ?_
    refine u_isub C dX3_moveMud_35 ?_
    refine u_putI C pX3_moveMud_36 rfl (sec_is (aSec_p (i := i) (mou_p2 hB) (by omega))) ?_
    refine u_aload_n C dX3_moveMud_39 rfl ?_
    refine u_iload_n C dX3_moveMud_40 rfl ?_
    refine u_calliV1 C ev_X3_hasSection dX3_moveMud_41 ml_RX3_98 (mou_is hB) rfl (by decide) (c_X3_hasSection l D G _ _ _ hB ) (by decide) (Nat.le_of_ble_eq_true rfl) (fun r_41 M_41 q_41 => ?_)
    obtain ⟨rfl, e_41⟩ := q_41
    subst M_41
    rw [u_has hn8 (by have e1 : ¬ B = B + 100 + i := (by omega); simp [iv_wi, e1, hn]) hj]
    refine u_if_eq (tgt := 65) C dX3_moveMud_44 (by decide) (fun c_44 => ?_) (fun c_44 => ?_)
    · exact absurd c_44 (by decide)
    · refine u_aload_n C dX3_moveMud_47 rfl ?_
      refine u_getR (k2 := (B + 3)) C gX3_moveMud_48 rfl (mou_is hB) (mou_f2 hB) ?_
      refine u_iload_n C dX3_moveMud_51 rfl ?_
      refine u_aaldN (k2 := (B + 100 + j)) (i := j) C dX3_moveMud_52 (aSec_is (mou_p2 hB)) (by decide) (aSec_n (mou_p2 hB)) (by omega) (by decide) (aSec_f (i := j) (mou_p2 hB) (by omega)) ?_
      refine u_dup C dX3_moveMud_53 rfl ?_
      refine u_getI C gX3_moveMud_54 rfl (sec_is (aSec_p (i := j) (mou_p2 hB) (by omega))) ?_
      refine u_iload_n C dX3_moveMud_57 rfl ?_
      refine u_iadd C dX3_moveMud_58 ?_
      refine u_putI C pX3_moveMud_59 rfl (sec_is (aSec_p (i := j) (mou_p2 hB) (by omega))) ?_
      refine u_goto (tgt := 77) C dX3_moveMud_62 (by decide) ?_
      exact ret _ _  _ dX3_moveMud_77  (by simp [m_mudC, m_mud1, iv_wi])
  · exact absurd c_5 (by decide)
end
section
/-- nothing below a number changes -/
def lo (b : Nat) (M M' : w_M) : Prop := ∀ a, a < b → ∀ j, iv M' a j = iv M a j
theorem lo.rf {b : Nat} {M : w_M} : lo b M M := fun _ _ _ => rfl
theorem lo.tr {b : Nat} {M M1 M2 : w_M} (h1 : lo b M M1) (h2 : lo b M1 M2) : lo b M M2 := fun a ha j => (h2 a ha j).trans (h1 a ha j)
theorem lo.le {b b' : Nat} {M M' : w_M} (h : lo b M M') (hb : b' ≤ b) : lo b' M M' := fun a ha j => h a (Nat.lt_of_lt_of_le ha hb) j
theorem lo_wi {b : Nat} {M : w_M} {a j : Nat} {x : Int32} (h : b ≤ a) : lo b M (wi M a j x) := fun c hc k => by rw [iv_wi, if_neg]; intro z; omega
theorem lo_wj {b : Nat} {M : w_M} {a j : Nat} {x : Int64} : lo b M (wj M a j x) := fun _ _ _ => rfl
theorem lo_sadd {b : Nat} {M : w_M} {B i : Nat} {x : Int64} : lo b M (sadd M B i x) := fun _ _ _ => rfl
theorem lo_out {b : Nat} {M : w_M} {k : Nat} {f : Int32} (h : b ≤ k) : lo b M (m_out M k f) := (lo_wi h).tr (lo_wi h)
theorem lo_in {b : Nat} {M : w_M} {k : Nat} {x y : Int32} (h : b ≤ k) : lo b M (m_in M k x y) := (lo_wi h).tr (lo_wi h)
theorem lo_gc {b : Nat} {M : w_M} {k : Nat} {f : Int32} (h : b ≤ k) : lo b M (m_gc M k f) := lo_wi h
theorem lo_ms1 {b : Nat} {M : w_M} {B k : Nat} {f : Int32} (h : b ≤ k) : lo b M (m_ms1 M B k f) := ((lo_in (by omega)).tr lo_sadd).tr lo_sadd
theorem lo_ms2 {b : Nat} {M : w_M} {B k : Nat} {f : Int32} (h : b ≤ k) : lo b M (m_ms2 M B k f) := ((((lo_gc h).tr lo_sadd).tr (lo_out (by omega))).tr lo_sadd).tr lo_sadd
theorem lo_sea {b : Nat} {M : w_M} {B k : Nat} {x : Int32} (h : b ≤ k) : lo b M (m_sea M B k x) := by
  unfold m_sea
  split
  · exact lo_ms1 h
  · split
    · exact lo_ms2 h
    · exact lo.rf
theorem lo_riv {b : Nat} {M : w_M} {B k : Nat} (h : b ≤ k) : lo b M (m_riv M B k) := (((lo_in (by omega)).tr (lo_wi h)).tr lo_sadd).tr lo_sadd
theorem lo_fl {b : Nat} {M : w_M} {k1 k2 : Nat} {f : Int32} (h1 : b ≤ k1) (h2 : b ≤ k2) : lo b M (m_fl M k1 k2 f) := (lo_out (by omega)).tr (lo_in (by omega))
theorem lo_fu {b : Nat} {M : w_M} {k1 k2 : Nat} {f : Int32} (h1 : b ≤ k1) (h2 : b ≤ k2) : lo b M (m_fu M k1 k2 f) := (((lo_gc h1).tr (lo_out (by omega))).tr (lo_wi h2)).tr (lo_in (by omega))
theorem lo_runs {b : Nat} {M : w_M} {k1 k2 : Nat} {f : Int32} (h1 : b ≤ k1) (h2 : b ≤ k2) : lo b M (m_runs M k1 k2 f) := (lo_wi h1).tr (lo_wi h2)
theorem lo_level {b : Nat} {M : w_M} {k1 k2 : Nat} (h1 : b ≤ k1) (h2 : b ≤ k2) : lo b M (m_level M k1 k2) := by
  unfold m_level
  split
  · exact (lo_fl h1 h2).tr (lo_runs h1 h2)
  · split
    · exact (lo_fu h2 h1).tr (lo_runs h1 h2)
    · exact lo_runs h1 h2
theorem lo_creep {b : Nat} {M : w_M} {k1 k2 : Nat} (h1 : b ≤ k1) (h2 : b ≤ k2) : lo b M (m_creep M k1 k2) := by
  unfold m_creep
  split
  · exact (lo_fl h1 h2).tr (lo_fu h2 h1)
  · exact lo.rf
theorem lo_mix {b : Nat} {M : w_M} {k : Nat} (h : b ≤ k) : lo b M (m_mix M k) := by
  unfold m_mix
  split
  · exact lo.rf
  · split
    · exact (lo_wi (by omega)).tr (lo_wi (by omega))
    · exact lo.rf
theorem lo_set {b : Nat} {M : w_M} {k : Nat} (h : b ≤ k) : lo b M (m_set M k) := by
  unfold m_set
  split
  · exact (lo_wi h).tr (lo_wi h)
  · split
    · exact (lo_wi h).tr (lo_wi h)
    · exact lo.rf
theorem lo_take {b : Nat} {M : w_M} {k u j : Nat} (h : b ≤ k) (hu : b ≤ u) : lo b M (m_take M k u j) := by
  unfold m_take
  split
  · exact (((((lo_wi h).tr (lo_out hu)).tr (lo_wi h)).tr (lo_wi h)).tr lo_wj).tr lo_wj
  · exact (lo_wi h).tr (lo_wi h)
theorem lo_sup {b : Nat} {M : w_M} {k : Nat} (h : b ≤ k) : lo b M (m_sup M k) := (lo_wi h).tr (lo_wi h)
def m_tk (M : w_M) (B i : Nat) : w_M := m_sup (if s_has M B (iv M (B + 150 + i) 0) = 0 then M else m_take M (B + 150 + i) (B + 100 + cN (iv M (B + 150 + i) 0) + 20) (B + 5)) (B + 150 + i)
def m_srv (M : w_M) (B : Nat) : Nat → w_M
  | 0 => M
  | i + 1 => m_tk (m_srv M B i) B i
theorem lo_tk {M : w_M} {B i : Nat} : lo (B + 100) M (m_tk M B i) := by
  unfold m_tk
  split
  · exact lo_sup (by omega)
  · exact (lo_take (by omega) (by omega)).tr (lo_sup (by omega))
theorem lo_srv {M : w_M} {B : Nat} : ∀ i, lo (B + 100) M (m_srv M B i)
  | 0 => lo.rf
  | i + 1 => (lo_srv i).tr lo_tk
def m_r0 (M : w_M) (B : Nat) : Nat → w_M
  | 0 => M
  | i + 1 => wi (m_r0 M B i) (B + 100 + i) 6 0
theorem lo_r0 {M : w_M} {B : Nat} : ∀ i, lo (B + 100) M (m_r0 M B i)
  | 0 => lo.rf
  | i + 1 => (lo_r0 i).tr (lo_wi (by omega))
def m_lv (M : w_M) (B : Nat) : Nat → w_M
  | 0 => M
  | i + 1 => m_creep (m_level (m_lv M B i) (B + 100 + i) (B + 100 + (i + 1))) (B + 100 + i) (B + 100 + (i + 1))
theorem lo_lv {M : w_M} {B : Nat} : ∀ i, lo (B + 100) M (m_lv M B i)
  | 0 => lo.rf
  | i + 1 => ((lo_lv i).tr (lo_level (by omega) (by omega))).tr (lo_creep (by omega) (by omega))
def m_mx (M : w_M) (B : Nat) : Nat → w_M
  | 0 => M
  | i + 1 => m_set (m_mix (m_mx M B i) (B + 100 + i)) (B + 100 + i)
theorem lo_mx {M : w_M} {B : Nat} : ∀ i, lo (B + 100) M (m_mx M B i)
  | 0 => lo.rf
  | i + 1 => ((lo_mx i).tr (lo_mix (by omega))).tr (lo_set (by omega))
def m_eh (M : w_M) (B t : Nat) : Nat → w_M
  | 0 => M
  | i + 1 => wi (m_eh M B t i) (B + 100 + i + 40) (t % 24) (f_sal (iv (m_eh M B t i) (B + 100 + i + 30) 0) (iv (m_eh M B t i) (B + 100 + i + 30) 1))
theorem lo_eh {M : w_M} {B t : Nat} : ∀ i, lo (B + 100) M (m_eh M B t i)
  | 0 => lo.rf
  | i + 1 => (lo_eh i).tr (lo_wi (by omega))
def m_ab (M : w_M) (B n : Nat) (h : Int32) : w_M := if n = 0 then M else m_riv (if iv M (B + 2) 6 = 0 then m_sea M B (B + 100) h else M) B (B + 100 + (n - 1))
theorem lo_ab {M : w_M} {B n : Nat} {h : Int32} : lo (B + 100) M (m_ab M B n h) := by
  unfold m_ab
  split
  · exact lo.rf
  · refine lo.tr ?_ (lo_riv (by omega))
    split
    · exact lo_sea (by omega)
    · exact lo.rf
def m_hour (M : w_M) (B n ic t : Nat) (h : Int32) : w_M := wi (m_eh (m_srv (m_mx (m_lv (m_ab (m_look (m_r0 M B n) (B + 2) (B + 1) t) B n h) B (n - 1)) B n) B ic) B t n) (B + 8) t h
theorem s_t_lo {M M' : w_M} {k : Nat} {h : Int32} (e : lo (k + 49) M M') : ∀ i, i ≤ 6 → s_t M' k h i = s_t M k h i := by
  intro i
  induction i with
  | zero => intro _; exact e _ (by omega) _
  | succ i ih => intro hi; simp only [s_t]; rw [ih (by omega), e _ (by omega), e _ (by omega), e _ (by omega), e _ (by omega)]
theorem s_s_lo {M M' : w_M} {k n : Nat} {h : Int32} (e : lo (k + 49) M M') (hn : n ≤ 6) : ∀ j, j ≤ 20 → s_s M' k h n j = s_s M k h n j := by
  intro j
  induction j with
  | zero => intro _; exact s_t_lo e n hn
  | succ j ih => intro hj; simp only [s_s]; rw [ih (by omega), e _ (by omega), e _ (by omega), e _ (by omega)]
theorem s_for_lo {M M' : w_M} {k : Nat} {h : Int32} (e : lo (k + 49) M M') (hn : cB (iv M k 3) 6) (hm : cB (iv M k 4) 20) : s_for M' k h = s_for M k h := by
  obtain ⟨n, h1, h2⟩ := hn
  obtain ⟨m, h3, h4⟩ := hm
  unfold s_for
  rw [e k (by omega), e k (by omega), h2, h4, cN_nI (by omega), cN_nI (by omega)]
  exact s_s_lo e h1 m h3
/-- the counts are in their bounds -/
def okC (M : w_M) (B : Nat) : Prop := cB (iv M B 5) 8 ∧ cB (iv M B 6) 6 ∧ cB (iv M B 9) 1000 ∧ cB (iv M (B + 1) 3) 6 ∧ cB (iv M (B + 1) 4) 20 ∧ cB (iv M (B + 2) 3) 500 ∧ cB (iv M (B + 2) 5) 12
theorem u_nsub1 {n : Nat} (h : 0 < n) : nI n - 1 = nI (n - 1) := by
  obtain ⟨k, rfl⟩ : ∃ k, n = k + 1 := ⟨n - 1, by omega⟩
  exact nI_pred k
theorem u_hasN {M : w_M} {B n : Nat} {v : Int32} (hn8 : n ≤ 8) (hn : iv M B 5 = nI n) (h : ¬ s_has M B v = 0) : ∃ j, j < n ∧ v = nI j := by
  unfold s_has at h
  by_cases h1 : v < 0
  · rw [if_pos h1] at h; exact absurd rfl h
  · rw [if_neg h1] at h
    obtain ⟨j, hj, rfl⟩ := nI_of h1
    by_cases h2 : iv M B 5 ≤ nI j
    · rw [if_pos h2] at h; exact absurd rfl h
    · rw [hn] at h2
      exact ⟨j, u_lt h2 hj, rfl⟩
theorem lo_lk2 {M : w_M} {k t b : Nat} (hb : b ≤ k) : lo b M (m_lk2 M k t) := ((lo_wi (by omega)).tr (lo_wi (by omega))).tr (lo_wi hb)
theorem lo_lk3 {M : w_M} {k s0 t b : Nat} (hb : b ≤ k) : lo b M (m_lk3 M k s0 t) := by
  unfold m_lk3
  split
  · exact lo.rf
  · exact (lo_wi (by omega)).tr (lo_wi (by omega))
theorem lo_look {M : w_M} {k s0 t b : Nat} (hb : b ≤ k) : lo b M (m_look M k s0 t) := by
  unfold m_look
  split
  · refine lo.tr ?_ (lo_lk3 hb)
    split
    · exact (lo_wi hb).tr (lo_lk2 hb)
    · exact lo_wi hb
  · exact lo_wi hb
theorem lw1 {M : w_M} {B n t : Nat} : lo (B + 2) M (m_look (m_r0 M B n) (B + 2) (B + 1) t) := ((lo_r0 n).le (by omega)).tr (lo_look (by omega))
theorem lw2 {M : w_M} {B n t : Nat} {h : Int32} : lo (B + 2) M (m_ab (m_look (m_r0 M B n) (B + 2) (B + 1) t) B n h) := lw1.tr (lo_ab.le (by omega))
theorem lw3 {M : w_M} {B n t : Nat} {h : Int32} (i : Nat) : lo (B + 2) M (m_lv (m_ab (m_look (m_r0 M B n) (B + 2) (B + 1) t) B n h) B i) := lw2.tr ((lo_lv i).le (by omega))
theorem lw4 {M : w_M} {B n t i0 : Nat} {h : Int32} (i : Nat) : lo (B + 2) M (m_mx (m_lv (m_ab (m_look (m_r0 M B n) (B + 2) (B + 1) t) B n h) B i0) B i) := (lw3 i0).tr ((lo_mx i).le (by omega))
theorem lw5 {M : w_M} {B n t i0 i1 : Nat} {h : Int32} (i : Nat) : lo (B + 2) M (m_srv (m_mx (m_lv (m_ab (m_look (m_r0 M B n) (B + 2) (B + 1) t) B n h) B i0) B i1) B i) := (lw4 i1).tr ((lo_srv i).le (by omega))
theorem lw6 {M : w_M} {B n t i0 i1 i2 : Nat} {h : Int32} (i : Nat) : lo (B + 2) M (m_eh (m_srv (m_mx (m_lv (m_ab (m_look (m_r0 M B n) (B + 2) (B + 1) t) B n h) B i0) B i1) B i2) B t i) := (lw5 i2).tr ((lo_eh i).le (by omega))
set_option maxHeartbeats 4000000 in
set_option maxRecDepth 100000 in
theorem c_X3_serveIntakes (l : Launch) (D : va_G) (G : w_G) (M : w_M) (B : Nat) (hB : L_mou G (B)) (n ic : Nat) (hn8 : n ≤ 8) (hn : iv M B 5 = nI n) (hi6 : ic ≤ 6) (hic : iv M B 6 = nI ic) : u_Mv l D G yX3_serveIntakes cX3_serveIntakes 3 none 3 68 [.ref (gP G B)] M (fun M' => M' = m_srv M B ic) := by
  refine u_bodyv (by decide +kernel) (Nat.le_of_ble_eq_true rfl) rfl (fun p e s m args below meth c A H0 Q C ret => ?_)
  have loop1 : ∀ (d i : Nat) (x1 : Int32), i ≤ ic → ic - i < d → x1 = nI i → u_S p l e (u_rm 3 68) s m args below meth c 3 D A H0 0 0 Q 2 [(0, .ref (gP G B)), (1, .int x1)] [] G (m_srv M B i) := by
    intro d
    induction d with
    | zero => intro i x1 hj hd; omega
    | succ d ih =>
      intro i x1 hj hd h1
      subst h1
      have l5 : iv (m_srv M B i) B 5 = nI n := by rw [lo_srv i B (by omega)]; exact hn
      have l6 : iv (m_srv M B i) B 6 = nI ic := by rw [lo_srv i B (by omega)]; exact hic
      refine u_iload_n C dX3_serveIntakes_2 rfl ?_
      refine u_aload_n C dX3_serveIntakes_3 rfl ?_
      refine u_getI C gX3_serveIntakes_4 rfl (mou_is hB) ?_
      rw [l6]
      refine u_icmp_ge (tgt := 58) C dX3_serveIntakes_7 (by decide) (fun c_7 => ?_) (fun c_7 => ?_)
      · obtain rfl : ic = i := by have := u_gei c_7 (by omega) (by omega); omega
        exact ret _ _  _ dX3_serveIntakes_58  (rfl)
      · have hi : i < ic := u_lt c_7 (by omega)
        refine u_aload_n C dX3_serveIntakes_10 rfl ?_
        refine u_getR (k2 := (B + 4)) C gX3_serveIntakes_11 rfl (mou_is hB) (mou_f3 hB) ?_
        refine u_iload_n C dX3_serveIntakes_14 rfl ?_
        refine u_aaldN (k2 := (B + 150 + i)) (i := i) C dX3_serveIntakes_15 (aInt_is (mou_p3 hB)) (by decide) (aInt_n (mou_p3 hB)) (by omega) (by decide) (aInt_f (i := i) (mou_p3 hB) (by omega)) ?_
        refine u_astore_n C dX3_serveIntakes_16 (by decide) ?_
        refine u_aload_n C dX3_serveIntakes_17 rfl ?_
        refine u_aload_n C dX3_serveIntakes_18 rfl ?_
        refine u_getI C gX3_serveIntakes_19 rfl (int_is (aInt_p (i := i) (mou_p3 hB) (by omega))) ?_
        refine u_calliV1 C ev_X3_hasSection dX3_serveIntakes_22 ml_RX3_98 (mou_is hB) rfl (by decide) (c_X3_hasSection l D G _ _ _ hB ) (by decide) (Nat.le_of_ble_eq_true rfl) (fun r_22 M_22 q_22 => ?_)
        obtain ⟨rfl, e_22⟩ := q_22
        subst M_22
        refine u_if_eq (tgt := 48) C dX3_serveIntakes_25 (by decide) (fun c_25 => ?_) (fun c_25 => ?_)
        · refine u_aload_n C dX3_serveIntakes_48 rfl ?_
          refine u_callvV0 C ev_X1_supply dX3_serveIntakes_49 ml_RX3_214 (int_is (aInt_p (i := i) (mou_p3 hB) (by omega))) rfl (by decide) (c_X1_supply l D G _ _ (aInt_p (i := i) (mou_p3 hB) (by omega)) ) (by decide) (Nat.le_of_ble_eq_true rfl) (fun M_49 q_49 => ?_)
          obtain rfl := q_49
          refine u_iinc C dX3_serveIntakes_52 (by decide) rfl ?_
          refine u_goto (tgt := 2) C dX3_serveIntakes_55 (by decide) ?_
          exact u_loc [0, 1] rfl (u_eq (ih (i + 1) _ (by omega) (by omega) (nI_1 i)) rfl rfl (by simp only [m_srv, m_tk]; first | rw [if_pos c_25] | (rw [if_neg c_25, hej, cN_nI (by omega)])))
        · obtain ⟨j, hjn, hej⟩ := u_hasN hn8 l5 c_25
          refine u_aload_n C dX3_serveIntakes_28 rfl ?_
          refine u_aload_n C dX3_serveIntakes_29 rfl ?_
          refine u_getR (k2 := (B + 3)) C gX3_serveIntakes_30 rfl (mou_is hB) (mou_f2 hB) ?_
          refine u_aload_n C dX3_serveIntakes_33 rfl ?_
          refine u_getI C gX3_serveIntakes_34 rfl (int_is (aInt_p (i := i) (mou_p3 hB) (by omega))) ?_
          rw [hej]
          refine u_aaldN (k2 := (B + 100 + j)) (i := j) C dX3_serveIntakes_37 (aSec_is (mou_p2 hB)) (by decide) (aSec_n (mou_p2 hB)) (by omega) (by decide) (aSec_f (i := j) (mou_p2 hB) (by omega)) ?_
          refine u_getR (k2 := (B + 100 + j + 20)) C gX3_serveIntakes_38 rfl (sec_is (aSec_p (i := j) (mou_p2 hB) (by omega))) (sec_f0 (aSec_p (i := j) (mou_p2 hB) (by omega))) ?_
          refine u_aload_n C dX3_serveIntakes_41 rfl ?_
          refine u_getR (k2 := (B + 5)) C gX3_serveIntakes_42 rfl (mou_is hB) (mou_f4 hB) ?_
          refine u_callvV2 C ev_X1_take dX3_serveIntakes_45 ml_RX3_210 (int_is (aInt_p (i := i) (mou_p3 hB) (by omega))) rfl (by decide) (c_X1_take l D G _ _ _ _ (aInt_p (i := i) (mou_p3 hB) (by omega)) (sec_p0 (aSec_p (i := j) (mou_p2 hB) (by omega))) (mou_p4 hB) ) (by decide) (Nat.le_of_ble_eq_true rfl) (fun M_45 q_45 => ?_)
          obtain rfl := q_45
          refine u_aload_n C dX3_serveIntakes_48 rfl ?_
          refine u_callvV0 C ev_X1_supply dX3_serveIntakes_49 ml_RX3_214 (int_is (aInt_p (i := i) (mou_p3 hB) (by omega))) rfl (by decide) (c_X1_supply l D G _ _ (aInt_p (i := i) (mou_p3 hB) (by omega)) ) (by decide) (Nat.le_of_ble_eq_true rfl) (fun M_49 q_49 => ?_)
          obtain rfl := q_49
          refine u_iinc C dX3_serveIntakes_52 (by decide) rfl ?_
          refine u_goto (tgt := 2) C dX3_serveIntakes_55 (by decide) ?_
          exact u_loc [0, 1] rfl (u_eq (ih (i + 1) _ (by omega) (by omega) (nI_1 i)) rfl rfl (by simp only [m_srv, m_tk]; first | rw [if_pos c_25] | (rw [if_neg c_25, hej, cN_nI (by omega)])))
  refine u_iconst (v := 0) C dX3_serveIntakes_0 (by decide) ?_
  refine u_istore_n C dX3_serveIntakes_1 (by decide) ?_
  exact u_loc [0, 1] rfl (loop1 (ic + 1) 0 _ (by omega) (by omega) nI_0.symm)
set_option maxHeartbeats 4000000 in
set_option maxRecDepth 100000 in
theorem c_X3_letHourGoBy (l : Launch) (D : va_G) (G : w_G) (M : w_M) (B : Nat) (hB : L_mou G (B)) (n ic t : Nat) (hn8 : n ≤ 8) (hn : iv M B 5 = nI n) (hi6 : ic ≤ 6) (hic : iv M B 6 = nI ic) (ht : t < 1000) (ht9 : iv M B 9 = nI t) (h1 : cB (iv M (B + 1) 3) 6) (h2 : cB (iv M (B + 1) 4) 20) (h3 : cB (iv M (B + 2) 3) 500) (h4 : cB (iv M (B + 2) 5) 12) : u_Mv l D G yX3_letHourGoBy cX3_letHourGoBy 3 none 4 94 [.ref (gP G B)] M (fun M' => M' = m_hour M B n ic t (s_for M (B + 1) (nI t))) := by
  refine u_bodyv (by decide +kernel) (Nat.le_of_ble_eq_true rfl) rfl (fun p e s m args below meth c A H0 Q C ret => ?_)
  have loop5 : ∀ (d i : Nat) (x2 : Int32), i ≤ n → n - i < d → x2 = nI i → u_S p l e (u_rm 4 94) s m args below meth c 3 D A H0 0 0 Q 190 [(0, .ref (gP G B)), (1, .int (s_for M (B + 1) (nI t))), (2, .int x2)] [] G (m_eh (m_srv (m_mx (m_lv (m_ab (m_look (m_r0 M B n) (B + 2) (B + 1) t) B n (s_for M (B + 1) (nI t))) B (n - 1)) B n) B ic) B t i) := by
    intro d
    induction d with
    | zero => intro i x2 hj hd; omega
    | succ d ih =>
      intro i x2 hj hd h1
      subst h1
      have l5 : iv (m_eh (m_srv (m_mx (m_lv (m_ab (m_look (m_r0 M B n) (B + 2) (B + 1) t) B n (s_for M (B + 1) (nI t))) B (n - 1)) B n) B ic) B t i) B 5 = nI n := by rw [lw6 i B (by omega)]; exact hn
      have l9 : iv (m_eh (m_srv (m_mx (m_lv (m_ab (m_look (m_r0 M B n) (B + 2) (B + 1) t) B n (s_for M (B + 1) (nI t))) B (n - 1)) B n) B ic) B t i) B 9 = nI t := by rw [lw6 i B (by omega)]; exact ht9
      refine u_iload_n C dX3_letHourGoBy_190 rfl ?_
      refine u_aload_n C dX3_letHourGoBy_191 rfl ?_
      refine u_getI C gX3_letHourGoBy_192 rfl (mou_is hB) ?_
      rw [l5]
      refine u_icmp_ge (tgt := 217) C dX3_letHourGoBy_195 (by decide) (fun c_195 => ?_) (fun c_195 => ?_)
      · obtain rfl : n = i := by have := u_gei c_195 (by omega) (by omega); omega
        refine u_aload_n C dX3_letHourGoBy_217 rfl ?_
        refine u_getR (k2 := (B + 1)) C gX3_letHourGoBy_218 rfl (mou_is hB) (mou_f0 hB) ?_
        refine u_aload_n C dX3_letHourGoBy_221 rfl ?_
        refine u_getI C gX3_letHourGoBy_222 rfl (mou_is hB) ?_
        rw [l9]
        refine u_iload_n C dX3_letHourGoBy_225 rfl ?_
        refine u_callvV2 C ev_X5_keep dX3_letHourGoBy_226 ml_RX3_167 (sea_is (mou_p0 hB)) rfl (by decide) (c_X5_keep l D G _ _ _ _ (mou_p0 hB) ht) (by decide) (Nat.le_of_ble_eq_true rfl) (fun M_226 q_226 => ?_)
        obtain rfl := q_226
        exact ret _ _  _ dX3_letHourGoBy_229  (rfl)
      · have hi : i < n := u_lt c_195 (by omega)
        refine u_aload_n C dX3_letHourGoBy_198 rfl ?_
        refine u_getR (k2 := (B + 3)) C gX3_letHourGoBy_199 rfl (mou_is hB) (mou_f2 hB) ?_
        refine u_iload_n C dX3_letHourGoBy_202 rfl ?_
        refine u_aaldN (k2 := (B + 100 + i)) (i := i) C dX3_letHourGoBy_203 (aSec_is (mou_p2 hB)) (by decide) (aSec_n (mou_p2 hB)) (by omega) (by decide) (aSec_f (i := i) (mou_p2 hB) (by omega)) ?_
        refine u_aload_n C dX3_letHourGoBy_204 rfl ?_
        refine u_getI C gX3_letHourGoBy_205 rfl (mou_is hB) ?_
        rw [l9]
        refine u_callvV1 C ev_X6_endHour dX3_letHourGoBy_208 ml_RX3_163 (sec_is (aSec_p (i := i) (mou_p2 hB) (by omega))) rfl (by decide) (c_X6_endHour l D G _ _ _ (aSec_p (i := i) (mou_p2 hB) (by omega)) ht) (by decide) (Nat.le_of_ble_eq_true rfl) (fun M_208 q_208 => ?_)
        obtain rfl := q_208
        refine u_iinc C dX3_letHourGoBy_211 (by decide) rfl ?_
        refine u_goto (tgt := 190) C dX3_letHourGoBy_214 (by decide) ?_
        exact u_loc [0, 1, 2] rfl (ih (i + 1) _ (by omega) (by omega) (nI_1 i))
  have loop4 : ∀ (d i : Nat) (x2 : Int32), i ≤ n → n - i < d → x2 = nI i → u_S p l e (u_rm 4 94) s m args below meth c 3 D A H0 0 0 Q 152 [(0, .ref (gP G B)), (1, .int (s_for M (B + 1) (nI t))), (2, .int x2)] [] G (m_mx (m_lv (m_ab (m_look (m_r0 M B n) (B + 2) (B + 1) t) B n (s_for M (B + 1) (nI t))) B (n - 1)) B i) := by
    intro d
    induction d with
    | zero => intro i x2 hj hd; omega
    | succ d ih =>
      intro i x2 hj hd h1
      subst h1
      have l5 : iv (m_mx (m_lv (m_ab (m_look (m_r0 M B n) (B + 2) (B + 1) t) B n (s_for M (B + 1) (nI t))) B (n - 1)) B i) B 5 = nI n := by rw [lw4 i B (by omega)]; exact hn
      refine u_iload_n C dX3_letHourGoBy_152 rfl ?_
      refine u_aload_n C dX3_letHourGoBy_153 rfl ?_
      refine u_getI C gX3_letHourGoBy_154 rfl (mou_is hB) ?_
      rw [l5]
      refine u_icmp_ge (tgt := 184) C dX3_letHourGoBy_157 (by decide) (fun c_157 => ?_) (fun c_157 => ?_)
      · obtain rfl : n = i := by have := u_gei c_157 (by omega) (by omega); omega
        refine u_aload_n C dX3_letHourGoBy_184 rfl ?_
        refine u_callvV0 C ev_X3_serveIntakes dX3_letHourGoBy_185 ml_RX3_160 (mou_is hB) rfl (by decide) (c_X3_serveIntakes l D G _ _ hB n ic hn8 (by rw [lw4 n B (by omega)]; exact hn) hi6 (by rw [lw4 n B (by omega)]; exact hic)) (by decide) (Nat.le_of_ble_eq_true rfl) (fun M_185 q_185 => ?_)
        obtain rfl := q_185
        refine u_iconst (v := 0) C dX3_letHourGoBy_188 (by decide) ?_
        refine u_istore_n C dX3_letHourGoBy_189 (by decide) ?_
        exact u_loc [0, 1, 2] rfl (loop5 (n + 1) 0 _ (by omega) (by omega) nI_0.symm)
      · have hi : i < n := u_lt c_157 (by omega)
        refine u_aload_n C dX3_letHourGoBy_160 rfl ?_
        refine u_getR (k2 := (B + 3)) C gX3_letHourGoBy_161 rfl (mou_is hB) (mou_f2 hB) ?_
        refine u_iload_n C dX3_letHourGoBy_164 rfl ?_
        refine u_aaldN (k2 := (B + 100 + i)) (i := i) C dX3_letHourGoBy_165 (aSec_is (mou_p2 hB)) (by decide) (aSec_n (mou_p2 hB)) (by omega) (by decide) (aSec_f (i := i) (mou_p2 hB) (by omega)) ?_
        refine u_callvV0 C ev_X6_mix dX3_letHourGoBy_166 ml_RX3_154 (sec_is (aSec_p (i := i) (mou_p2 hB) (by omega))) rfl (by decide) (c_X6_mix l D G _ _ (aSec_p (i := i) (mou_p2 hB) (by omega)) ) (by decide) (Nat.le_of_ble_eq_true rfl) (fun M_166 q_166 => ?_)
        obtain rfl := q_166
        refine u_aload_n C dX3_letHourGoBy_169 rfl ?_
        refine u_getR (k2 := (B + 3)) C gX3_letHourGoBy_170 rfl (mou_is hB) (mou_f2 hB) ?_
        refine u_iload_n C dX3_letHourGoBy_173 rfl ?_
        refine u_aaldN (k2 := (B + 100 + i)) (i := i) C dX3_letHourGoBy_174 (aSec_is (mou_p2 hB)) (by decide) (aSec_n (mou_p2 hB)) (by omega) (by decide) (aSec_f (i := i) (mou_p2 hB) (by omega)) ?_
        refine u_callvV0 C ev_X6_settleOrLift dX3_letHourGoBy_175 ml_RX3_157 (sec_is (aSec_p (i := i) (mou_p2 hB) (by omega))) rfl (by decide) (c_X6_settleOrLift l D G _ _ (aSec_p (i := i) (mou_p2 hB) (by omega)) ) (by decide) (Nat.le_of_ble_eq_true rfl) (fun M_175 q_175 => ?_)
        obtain rfl := q_175
        refine u_iinc C dX3_letHourGoBy_178 (by decide) rfl ?_
        refine u_goto (tgt := 152) C dX3_letHourGoBy_181 (by decide) ?_
        exact u_loc [0, 1, 2] rfl (ih (i + 1) _ (by omega) (by omega) (nI_1 i))
  have loop3 : ∀ (d i : Nat) (x2 : Int32), i ≤ (n - 1) → (n - 1) - i < d → x2 = nI i → u_S p l e (u_rm 4 94) s m args below meth c 3 D A H0 0 0 Q 98 [(0, .ref (gP G B)), (1, .int (s_for M (B + 1) (nI t))), (2, .int x2)] [] G (m_lv (m_ab (m_look (m_r0 M B n) (B + 2) (B + 1) t) B n (s_for M (B + 1) (nI t))) B i) := by
    intro d
    induction d with
    | zero => intro i x2 hj hd; omega
    | succ d ih =>
      intro i x2 hj hd h1
      subst h1
      have l5 : iv (m_lv (m_ab (m_look (m_r0 M B n) (B + 2) (B + 1) t) B n (s_for M (B + 1) (nI t))) B i) B 5 = nI n := by rw [lw3 i B (by omega)]; exact hn
      refine u_iload_n C dX3_letHourGoBy_98 rfl ?_
      refine u_iconst (v := 1) C dX3_letHourGoBy_99 (by decide) ?_
      refine u_iadd C dX3_letHourGoBy_100 ?_
      refine u_aload_n C dX3_letHourGoBy_101 rfl ?_
      refine u_getI C gX3_letHourGoBy_102 rfl (mou_is hB) ?_
      rw [l5, show nI i + 1 = nI (i + 1) from nI_1 i]
      refine u_icmp_ge (tgt := 150) C dX3_letHourGoBy_105 (by decide) (fun c_105 => ?_) (fun c_105 => ?_)
      · obtain rfl : i = n - 1 := by have := u_gei c_105 (by omega) (by omega); omega
        refine u_iconst (v := 0) C dX3_letHourGoBy_150 (by decide) ?_
        refine u_istore_n C dX3_letHourGoBy_151 (by decide) ?_
        exact u_loc [0, 1, 2] rfl (loop4 (n + 1) 0 _ (by omega) (by omega) nI_0.symm)
      · have hi : i + 1 < n := u_lt c_105 (by omega)
        refine u_aload_n C dX3_letHourGoBy_108 rfl ?_
        refine u_aload_n C dX3_letHourGoBy_109 rfl ?_
        refine u_getR (k2 := (B + 3)) C gX3_letHourGoBy_110 rfl (mou_is hB) (mou_f2 hB) ?_
        refine u_iload_n C dX3_letHourGoBy_113 rfl ?_
        refine u_aaldN (k2 := (B + 100 + i)) (i := i) C dX3_letHourGoBy_114 (aSec_is (mou_p2 hB)) (by decide) (aSec_n (mou_p2 hB)) (by omega) (by decide) (aSec_f (i := i) (mou_p2 hB) (by omega)) ?_
        refine u_aload_n C dX3_letHourGoBy_115 rfl ?_
        refine u_getR (k2 := (B + 3)) C gX3_letHourGoBy_116 rfl (mou_is hB) (mou_f2 hB) ?_
        refine u_iload_n C dX3_letHourGoBy_119 rfl ?_
        refine u_iconst (v := 1) C dX3_letHourGoBy_120 (by decide) ?_
        refine u_iadd C dX3_letHourGoBy_121 ?_
        rw [show nI i + 1 = nI (i + 1) from nI_1 i]
        refine u_aaldN (k2 := (B + 100 + (i + 1))) (i := i + 1) C dX3_letHourGoBy_122 (aSec_is (mou_p2 hB)) (by decide) (aSec_n (mou_p2 hB)) (by omega) (by decide) (aSec_f (i := i + 1) (mou_p2 hB) (by omega)) ?_
        refine u_callvV2 C ev_X3_level dX3_letHourGoBy_123 ml_RX3_147 (mou_is hB) rfl (by decide) (c_X3_level l D G _ _ _ _ hB (aSec_p (i := i) (mou_p2 hB) (by omega)) (aSec_p (i := i + 1) (mou_p2 hB) (by omega)) ) (by decide) (Nat.le_of_ble_eq_true rfl) (fun M_123 q_123 => ?_)
        obtain rfl := q_123
        refine u_aload_n C dX3_letHourGoBy_126 rfl ?_
        refine u_aload_n C dX3_letHourGoBy_127 rfl ?_
        refine u_getR (k2 := (B + 3)) C gX3_letHourGoBy_128 rfl (mou_is hB) (mou_f2 hB) ?_
        refine u_iload_n C dX3_letHourGoBy_131 rfl ?_
        refine u_aaldN (k2 := (B + 100 + i)) (i := i) C dX3_letHourGoBy_132 (aSec_is (mou_p2 hB)) (by decide) (aSec_n (mou_p2 hB)) (by omega) (by decide) (aSec_f (i := i) (mou_p2 hB) (by omega)) ?_
        refine u_aload_n C dX3_letHourGoBy_133 rfl ?_
        refine u_getR (k2 := (B + 3)) C gX3_letHourGoBy_134 rfl (mou_is hB) (mou_f2 hB) ?_
        refine u_iload_n C dX3_letHourGoBy_137 rfl ?_
        refine u_iconst (v := 1) C dX3_letHourGoBy_138 (by decide) ?_
        refine u_iadd C dX3_letHourGoBy_139 ?_
        rw [show nI i + 1 = nI (i + 1) from nI_1 i]
        refine u_aaldN (k2 := (B + 100 + (i + 1))) (i := i + 1) C dX3_letHourGoBy_140 (aSec_is (mou_p2 hB)) (by decide) (aSec_n (mou_p2 hB)) (by omega) (by decide) (aSec_f (i := i + 1) (mou_p2 hB) (by omega)) ?_
        refine u_callvV2 C ev_X3_creep dX3_letHourGoBy_141 ml_RX3_151 (mou_is hB) rfl (by decide) (c_X3_creep l D G _ _ _ _ hB (aSec_p (i := i) (mou_p2 hB) (by omega)) (aSec_p (i := i + 1) (mou_p2 hB) (by omega)) ) (by decide) (Nat.le_of_ble_eq_true rfl) (fun M_141 q_141 => ?_)
        obtain rfl := q_141
        refine u_iinc C dX3_letHourGoBy_144 (by decide) rfl ?_
        refine u_goto (tgt := 98) C dX3_letHourGoBy_147 (by decide) ?_
        exact u_loc [0, 1, 2] rfl (ih (i + 1) _ (by omega) (by omega) (nI_1 i))
  have loop1 : ∀ (d i : Nat) (x2 : Int32), i ≤ n → n - i < d → x2 = nI i → u_S p l e (u_rm 4 94) s m args below meth c 3 D A H0 0 0 Q 14 [(0, .ref (gP G B)), (1, .int (s_for M (B + 1) (nI t))), (2, .int x2)] [] G (m_r0 M B i) := by
    intro d
    induction d with
    | zero => intro i x2 hj hd; omega
    | succ d ih =>
      intro i x2 hj hd h1
      subst h1
      have l5 : iv (m_r0 M B i) B 5 = nI n := by rw [lo_r0 i B (by omega)]; exact hn
      refine u_iload_n C dX3_letHourGoBy_14 rfl ?_
      refine u_aload_n C dX3_letHourGoBy_15 rfl ?_
      refine u_getI C gX3_letHourGoBy_16 rfl (mou_is hB) ?_
      rw [l5]
      refine u_icmp_ge (tgt := 38) C dX3_letHourGoBy_19 (by decide) (fun c_19 => ?_) (fun c_19 => ?_)
      · obtain rfl : n = i := by have := u_gei c_19 (by omega) (by omega); omega
        refine u_aload_n C dX3_letHourGoBy_38 rfl ?_
        refine u_getR (k2 := (B + 2)) C gX3_letHourGoBy_39 rfl (mou_is hB) (mou_f1 hB) ?_
        refine u_aload_n C dX3_letHourGoBy_42 rfl ?_
        refine u_getR (k2 := (B + 1)) C gX3_letHourGoBy_43 rfl (mou_is hB) (mou_f0 hB) ?_
        refine u_aload_n C dX3_letHourGoBy_46 rfl ?_
        refine u_getI C gX3_letHourGoBy_47 rfl (mou_is hB) ?_
        rw [show iv (m_r0 M B n) B 9 = nI t from by rw [lo_r0 n B (by omega)]; exact ht9]
        refine u_callvV2 C ev_X0_look dX3_letHourGoBy_50 ml_RX3_131 (bar_is (mou_p1 hB)) rfl (by decide) (c_X0_look l D G _ _ _ (mou_p1 hB) (mou_p0 hB) (by rw [lo_r0 n (B + 1) (by omega)]; exact h1) (by rw [lo_r0 n (B + 1) (by omega)]; exact h2) (by rw [lo_r0 n (B + 1 + 1) (by omega)]; exact h4) (by rw [lo_r0 n (B + 1 + 1) (by omega)]; exact h3) ht) (by decide) (Nat.le_of_ble_eq_true rfl) (fun M_50 q_50 => ?_)
        obtain rfl := q_50
        refine u_aload_n C dX3_letHourGoBy_53 rfl ?_
        refine u_getI C gX3_letHourGoBy_54 rfl (mou_is hB) ?_
        have l5b : iv (m_look (m_r0 M B n) (B + 2) (B + 1) t) B 5 = nI n := by rw [lw1 B (by omega)]; exact hn
        rw [l5b]
        refine u_if_le (tgt := 96) C dX3_letHourGoBy_57 (by decide) (fun c_57 => ?_) (fun c_57 => ?_)
        · refine u_iconst (v := 0) C dX3_letHourGoBy_96 (by decide) ?_
          refine u_istore_n C dX3_letHourGoBy_97 (by decide) ?_
          have hn0 : n = 0 := by rcases n with _ | n; rfl; exact absurd c_57 (nI_nle (by omega) (by omega))
          exact u_loc [0, 1, 2] rfl (u_eq (loop3 ((n - 1) + 1) 0 _ (by omega) (by omega) nI_0.symm) rfl rfl (by simp [m_lv, m_ab, hn0]))
        · have hpos : 0 < n := by rcases n with _ | n; exact absurd (by decide) c_57; omega
          refine u_aload_n C dX3_letHourGoBy_60 rfl ?_
          refine u_getR (k2 := (B + 2)) C gX3_letHourGoBy_61 rfl (mou_is hB) (mou_f1 hB) ?_
          refine u_getI C gX3_letHourGoBy_64 rfl (bar_is (mou_p1 hB)) ?_
          refine u_if_ne (tgt := 81) C dX3_letHourGoBy_67 (by decide) (fun c_67 => ?_) (fun c_67 => ?_)
          · have l5c : iv (m_sea (m_look (m_r0 M B n) (B + 2) (B + 1) t) B (B + 100 + 0) (s_for M (B + 1) (nI t))) B 5 = nI n := by rw [lo_sea (b := B + 100) (by omega) B (by omega)]; exact l5b
            refine u_aload_n C dX3_letHourGoBy_81 rfl ?_
            refine u_aload_n C dX3_letHourGoBy_82 rfl ?_
            refine u_getR (k2 := (B + 3)) C gX3_letHourGoBy_83 rfl (mou_is hB) (mou_f2 hB) ?_
            refine u_aload_n C dX3_letHourGoBy_86 rfl ?_
            refine u_getI C gX3_letHourGoBy_87 rfl (mou_is hB) ?_
            first | rw [l5b] | rw [l5c]
            refine u_iconst (v := 1) C dX3_letHourGoBy_90 (by decide) ?_
            refine u_isub C dX3_letHourGoBy_91 ?_
            rw [u_nsub1 hpos]
            refine u_aaldN (k2 := (B + 100 + (n - 1))) (i := n - 1) C dX3_letHourGoBy_92 (aSec_is (mou_p2 hB)) (by decide) (aSec_n (mou_p2 hB)) (by omega) (by decide) (aSec_f (i := n - 1) (mou_p2 hB) (by omega)) ?_
            refine u_callvV1 C ev_X3_meetRiver dX3_letHourGoBy_93 ml_RX3_143 (mou_is hB) rfl (by decide) (c_X3_meetRiver l D G _ _ _ hB (aSec_p (i := n - 1) (mou_p2 hB) (by omega)) ) (by decide) (Nat.le_of_ble_eq_true rfl) (fun M_93 q_93 => ?_)
            obtain rfl := q_93
            refine u_iconst (v := 0) C dX3_letHourGoBy_96 (by decide) ?_
            refine u_istore_n C dX3_letHourGoBy_97 (by decide) ?_
            exact u_loc [0, 1, 2] rfl (u_eq (loop3 ((n - 1) + 1) 0 _ (by omega) (by omega) nI_0.symm) rfl rfl (by simp only [m_lv, m_ab]; rw [if_neg (by omega)]; first | rw [if_neg c_67] | rw [if_pos c_67]))
          · refine u_aload_n C dX3_letHourGoBy_70 rfl ?_
            refine u_aload_n C dX3_letHourGoBy_71 rfl ?_
            refine u_getR (k2 := (B + 3)) C gX3_letHourGoBy_72 rfl (mou_is hB) (mou_f2 hB) ?_
            refine u_iconst (v := 0) C dX3_letHourGoBy_75 (by decide) ?_
            refine u_aaldN (k2 := (B + 100)) (i := 0) C dX3_letHourGoBy_76 (aSec_is (mou_p2 hB)) (by decide) (aSec_n (mou_p2 hB)) (by omega) (by decide) (aSec_f (i := 0) (mou_p2 hB) (by omega)) ?_
            refine u_iload_n C dX3_letHourGoBy_77 rfl ?_
            refine u_callvV2 C ev_X3_meetSea dX3_letHourGoBy_78 ml_RX3_139 (mou_is hB) rfl (by decide) (c_X3_meetSea l D G _ _ _ _ hB (aSec_p (i := 0) (mou_p2 hB) (by omega)) ) (by decide) (Nat.le_of_ble_eq_true rfl) (fun M_78 q_78 => ?_)
            obtain rfl := q_78
            have l5c : iv (m_sea (m_look (m_r0 M B n) (B + 2) (B + 1) t) B (B + 100 + 0) (s_for M (B + 1) (nI t))) B 5 = nI n := by rw [lo_sea (b := B + 100) (by omega) B (by omega)]; exact l5b
            refine u_aload_n C dX3_letHourGoBy_81 rfl ?_
            refine u_aload_n C dX3_letHourGoBy_82 rfl ?_
            refine u_getR (k2 := (B + 3)) C gX3_letHourGoBy_83 rfl (mou_is hB) (mou_f2 hB) ?_
            refine u_aload_n C dX3_letHourGoBy_86 rfl ?_
            refine u_getI C gX3_letHourGoBy_87 rfl (mou_is hB) ?_
            first | rw [l5b] | rw [l5c]
            refine u_iconst (v := 1) C dX3_letHourGoBy_90 (by decide) ?_
            refine u_isub C dX3_letHourGoBy_91 ?_
            rw [u_nsub1 hpos]
            refine u_aaldN (k2 := (B + 100 + (n - 1))) (i := n - 1) C dX3_letHourGoBy_92 (aSec_is (mou_p2 hB)) (by decide) (aSec_n (mou_p2 hB)) (by omega) (by decide) (aSec_f (i := n - 1) (mou_p2 hB) (by omega)) ?_
            refine u_callvV1 C ev_X3_meetRiver dX3_letHourGoBy_93 ml_RX3_143 (mou_is hB) rfl (by decide) (c_X3_meetRiver l D G _ _ _ hB (aSec_p (i := n - 1) (mou_p2 hB) (by omega)) ) (by decide) (Nat.le_of_ble_eq_true rfl) (fun M_93 q_93 => ?_)
            obtain rfl := q_93
            refine u_iconst (v := 0) C dX3_letHourGoBy_96 (by decide) ?_
            refine u_istore_n C dX3_letHourGoBy_97 (by decide) ?_
            exact u_loc [0, 1, 2] rfl (u_eq (loop3 ((n - 1) + 1) 0 _ (by omega) (by omega) nI_0.symm) rfl rfl (by simp only [m_lv, m_ab]; rw [if_neg (by omega)]; first | rw [if_neg c_67] | rw [if_pos c_67]))
      · have hi : i < n := u_lt c_19 (by omega)
        refine u_aload_n C dX3_letHourGoBy_22 rfl ?_
        refine u_getR (k2 := (B + 3)) C gX3_letHourGoBy_23 rfl (mou_is hB) (mou_f2 hB) ?_
        refine u_iload_n C dX3_letHourGoBy_26 rfl ?_
        refine u_aaldN (k2 := (B + 100 + i)) (i := i) C dX3_letHourGoBy_27 (aSec_is (mou_p2 hB)) (by decide) (aSec_n (mou_p2 hB)) (by omega) (by decide) (aSec_f (i := i) (mou_p2 hB) (by omega)) ?_
        refine u_iconst (v := 0) C dX3_letHourGoBy_28 (by decide) ?_
        refine u_putI C pX3_letHourGoBy_29 rfl (sec_is (aSec_p (i := i) (mou_p2 hB) (by omega))) ?_
        refine u_iinc C dX3_letHourGoBy_32 (by decide) rfl ?_
        refine u_goto (tgt := 14) C dX3_letHourGoBy_35 (by decide) ?_
        exact u_loc [0, 1, 2] rfl (ih (i + 1) _ (by omega) (by omega) (nI_1 i))
  refine u_aload_n C dX3_letHourGoBy_0 rfl ?_
  refine u_getR (k2 := (B + 1)) C gX3_letHourGoBy_1 rfl (mou_is hB) (mou_f0 hB) ?_
  refine u_aload_n C dX3_letHourGoBy_4 rfl ?_
  refine u_getI C gX3_letHourGoBy_5 rfl (mou_is hB) ?_
  rw [ht9]
  refine u_calliV1 C ev_X5_foretold dX3_letHourGoBy_8 ml_RX3_115 (sea_is (mou_p0 hB)) rfl (by decide) (c_X5_foretold l D G _ _ _ (mou_p0 hB) h1 h2) (by decide) (Nat.le_of_ble_eq_true rfl) (fun r_8 M_8 q_8 => ?_)
  obtain ⟨rfl, e_8⟩ := q_8
  subst M_8
  refine u_istore_n C dX3_letHourGoBy_11 (by decide) ?_
  refine u_iconst (v := 0) C dX3_letHourGoBy_12 (by decide) ?_
  refine u_istore_n C dX3_letHourGoBy_13 (by decide) ?_
  exact u_loc [0, 1, 2] rfl (loop1 (n + 1) 0 _ (by omega) (by omega) nI_0.symm)
end
section
theorem cB_le {x : Int32} {b : Nat} (h : cB x b) (hb : b < 2 ^ 31) : x = nI (cN x) ∧ cN x ≤ b := by
  obtain ⟨n, h1, rfl⟩ := h
  rw [cN_nI (by omega)]
  exact ⟨rfl, h1⟩
theorem ne_look {M : w_M} {k s0 t a j : Nat} (h0 : a ≠ k) (h1 : a ≠ k + 7) (h2 : a ≠ k + 8) (h3 : a ≠ k + 9) : iv (m_look M k s0 t) a j = iv M a j := by
  have e1 : ∀ x : Int32, iv (wi M k 6 x) a j = iv M a j := fun x => by rw [iv_wi, if_neg (fun z => h0 z.1)]
  have e2 : iv (m_lk2 (wi M k 6 1) k t) a j = iv M a j := by
    simp only [m_lk2]
    rw [iv_wi, if_neg (fun z => h0 z.1), iv_wi, if_neg (fun z => h3 z.1), iv_wi, if_neg (fun z => h1 z.1), e1]
  have e3 : ∀ M2 : w_M, iv (m_lk3 M2 k s0 t) a j = iv M2 a j := by
    intro M2
    simp only [m_lk3]
    split
    · rfl
    · rw [iv_wi, if_neg (fun z => h3 z.1), iv_wi, if_neg (fun z => h2 z.1)]
  unfold m_look
  split
  · rw [e3]
    split
    · exact e2
    · exact e1 1
  · exact e1 0
theorem look_f {M : w_M} {k s0 t j : Nat} (h3 : j ≠ 3) (h6 : j ≠ 6) : iv (m_look M k s0 t) k j = iv M k j := by
  have e1 : ∀ x : Int32, iv (wi M k 6 x) k j = iv M k j := fun x => by rw [iv_wi, if_neg (fun z => h6 z.2)]
  have e2 : iv (m_lk2 (wi M k 6 1) k t) k j = iv M k j := by
    simp only [m_lk2]
    rw [iv_wi, if_neg (fun z => h3 z.2), iv_wi, if_neg (by omega), iv_wi, if_neg (by omega), e1]
  have e3 : ∀ M2 : w_M, iv (m_lk3 M2 k s0 t) k j = iv M2 k j := by
    intro M2
    simp only [m_lk3]
    split
    · rfl
    · rw [iv_wi, if_neg (by omega), iv_wi, if_neg (by omega)]
  unfold m_look
  split
  · rw [e3]
    split
    · exact e2
    · exact e1 1
  · exact e1 0
theorem look_c {M : w_M} {k s0 t : Nat} : iv (m_look M k s0 t) k 3 = if b_clo M k s0 t = true ∧ iv M k 6 = 0 ∧ cN (iv M k 3) < 500 then iv M k 3 + 1 else iv M k 3 := by
  have e1 : ∀ x : Int32, iv (wi M k 6 x) k 3 = iv M k 3 := fun x => by rw [iv_wi, if_neg (fun z => absurd z.2 (by decide))]
  have e2 : iv (m_lk2 (wi M k 6 1) k t) k 3 = iv M k 3 + 1 := by
    simp only [m_lk2]
    rw [iv_wi, if_pos ⟨rfl, rfl⟩, e1]
  have e3 : ∀ M2 : w_M, iv (m_lk3 M2 k s0 t) k 3 = iv M2 k 3 := by
    intro M2
    simp only [m_lk3]
    split
    · rfl
    · rw [iv_wi, if_neg (by omega), iv_wi, if_neg (by omega)]
  unfold m_look
  by_cases hb : b_clo M k s0 t = true
  · rw [if_pos hb, e3]
    by_cases h2 : iv M k 6 = 0 ∧ cN (iv M k 3) < 500
    · rw [if_pos h2, if_pos ⟨hb, h2⟩, e2]
    · rw [if_neg h2, if_neg (fun z => h2 z.2), e1]
  · rw [if_neg hb, if_neg (fun z => hb z.1), e1]
theorem look_cB {M : w_M} {k s0 t : Nat} (h : cB (iv M k 3) 500) : cB (iv (m_look M k s0 t) k 3) 500 := by
  rw [look_c]
  obtain ⟨h1, h2⟩ := cB_le h (by decide)
  split
  · next q => exact ⟨cN (iv M k 3) + 1, by omega, by have e := nI_1 (cN (iv M k 3)); rw [← h1] at e; exact e⟩
  · exact h
/-- what an hour leaves as it is -/
theorem hour_lo {M : w_M} {B n ic t : Nat} {h : Int32} : lo (B + 2) M (m_hour M B n ic t h) := (lw6 n).tr (lo_wi (by omega))
theorem hour_mid {M : w_M} {B n ic t : Nat} {h : Int32} {a j : Nat} (h1 : a ≠ B + 2) (h2 : a < B + 100) (h3 : a ≠ B + 8) (h4 : a ≠ B + 9) (h5 : a ≠ B + 10) (h6 : a ≠ B + 11) : iv (m_hour M B n ic t h) a j = iv M a j := by
  unfold m_hour
  rw [iv_wi, if_neg (by omega), lo_eh n a h2, lo_srv ic a h2, lo_mx n a h2, lo_lv (n - 1) a h2, lo_ab a h2, ne_look h1 (by omega) (by omega) (by omega), lo_r0 n a h2]
theorem hour_bar {M : w_M} {B n ic t : Nat} {h : Int32} {j : Nat} : iv (m_hour M B n ic t h) (B + 2) j = iv (m_look (m_r0 M B n) (B + 2) (B + 1) t) (B + 2) j := by
  unfold m_hour
  rw [iv_wi, if_neg (by omega), lo_eh n _ (by omega), lo_srv ic _ (by omega), lo_mx n _ (by omega), lo_lv (n - 1) _ (by omega), lo_ab _ (by omega)]
/-- the class's hour, with the counts read off -/
def m_hr (M : w_M) (B : Nat) : w_M := wi (m_hour M B (cN (iv M B 5)) (cN (iv M B 6)) (cN (iv M B 9)) (s_for M (B + 1) (nI (cN (iv M B 9))))) B 9 (nI (cN (iv M B 9) + 1))
def m_go (M : w_M) (B : Nat) : Nat → w_M
  | 0 => M
  | c + 1 => m_go (m_hr M B) B c
theorem hr_B {M : w_M} {B j : Nat} (hj : j ≠ 9) : iv (m_hr M B) B j = iv M B j := by
  unfold m_hr
  rw [iv_wi, if_neg (fun z => hj z.2), hour_lo B (by omega)]
theorem hr_9 {M : w_M} {B : Nat} : iv (m_hr M B) B 9 = nI (cN (iv M B 9) + 1) := by
  unfold m_hr
  rw [iv_wi, if_pos ⟨rfl, rfl⟩]
theorem hr_o {M : w_M} {B a j : Nat} (h : a ≠ B) : iv (m_hr M B) a j = iv (m_hour M B (cN (iv M B 5)) (cN (iv M B 6)) (cN (iv M B 9)) (s_for M (B + 1) (nI (cN (iv M B 9))))) a j := by
  unfold m_hr
  rw [iv_wi, if_neg (fun z => h z.1)]
theorem hr_ok {M : w_M} {B : Nat} (h : okC M B) (ht : cN (iv M B 9) < 1000) : okC (m_hr M B) B := by
  obtain ⟨h1, h2, h3, h4, h5, h6, h7⟩ := h
  refine ⟨by rw [hr_B (by decide)]; exact h1, by rw [hr_B (by decide)]; exact h2, by rw [hr_9]; exact ⟨_, by omega, rfl⟩, ?_, ?_, ?_, ?_⟩
  · rw [hr_o (by omega), hour_lo _ (by omega)]; exact h4
  · rw [hr_o (by omega), hour_lo _ (by omega)]; exact h5
  · rw [hr_o (by omega), hour_bar]
    refine look_cB ?_
    rw [lo_r0 _ _ (by omega)]
    exact h6
  · rw [hr_o (by omega), hour_bar, look_f (by decide) (by decide), lo_r0 _ _ (by omega)]
    exact h7
theorem u_min1000 {t : Nat} (h : t ≤ 1000) : (if (1000 : Int32) < nI t then 1000 else nI t) = nI t := by
  rw [if_neg]
  rw [show (1000 : Int32) = nI 1000 from rfl]
  exact nI_nlt h (by omega)
def s_win (M : w_M) (k : Nat) (ht hs : Int32) : Nat → Nat → Int32 → Int32
  | 0, _, _ => -1
  | c + 1, j, g => if (if s_for M k (nI j) < ht then 0 else g + 1) = hs then nI j - hs + 1 else s_win M k ht hs c (j + 1) (if s_for M k (nI j) < ht then 0 else g + 1)
def s_sea (M : w_M) (B t : Nat) : Int32 := if t < cN (iv M B 9) then iv M (B + 8) t else s_for M (B + 1) (nI t)
theorem hi_keep {M : w_M} {k : Nat} {h kd a b c d e : Int32} {x j : Nat} (hx : k + 1 < x) : iv (m_keep M k h kd a b c d e) x j = iv M x j := by
  simp only [m_keep, iv_wi]
  have e1 : ¬ x = k + 1 := by omega
  have e2 : ¬ x = k := by omega
  simp only [e1, e2, false_and, if_false]
set_option maxHeartbeats 4000000 in
set_option maxRecDepth 100000 in
theorem c_X3_goOnTo (l : Launch) (D : va_G) (G : w_G) (M : w_M) (B : Nat) (t : Nat) (hB : L_mou G (B)) (ok : okC M B) (ht : t ≤ 1000) : u_Mv l D G yX3_goOnTo cX3_goOnTo 3 none 5 116 [.ref (gP G B), .int (nI t)] M (fun M' => M' = m_go M B (t - cN (iv M B 9))) := by
  refine u_bodyv (by decide +kernel) (Nat.le_of_ble_eq_true rfl) rfl (fun p e s m args below meth c A H0 Q C ret => ?_)
  have loop1 : ∀ (d : Nat) (M2 : w_M), okC M2 B → t - cN (iv M2 B 9) < d → m_go M B (t - cN (iv M B 9)) = m_go M2 B (t - cN (iv M2 B 9)) → u_S p l e (u_rm 5 116) s m args below meth c 3 D A H0 0 0 Q 8 [(0, .ref (gP G B)), (1, .int (nI t)), (2, .int (nI t))] [] G M2 := by
    intro d
    induction d with
    | zero => intro M2 ok2 hd; omega
    | succ d ih =>
      intro M2 ok2 hd hM
      obtain ⟨o1, o2, o3, o4, o5, o6, o7⟩ := id ok2
      obtain ⟨o1a, o1b⟩ := cB_le o1 (by decide)
      obtain ⟨o2a, o2b⟩ := cB_le o2 (by decide)
      obtain ⟨o3a, o3b⟩ := cB_le o3 (by decide)
      refine u_aload_n C dX3_goOnTo_8 rfl ?_
      refine u_getI C gX3_goOnTo_9 rfl (mou_is hB) ?_
      refine u_iload_n C dX3_goOnTo_12 rfl ?_
      rw [o3a]
      refine u_icmp_ge (tgt := 33) C dX3_goOnTo_13 (by decide) (fun c_13 => ?_) (fun c_13 => ?_)
      · have hge : t ≤ cN (iv M2 B 9) := u_gei c_13 (by omega) (by omega)
        exact ret _ _  _ dX3_goOnTo_33  (by rw [hM, show t - cN (iv M2 B 9) = 0 by omega]; rfl)
      · have hlt : cN (iv M2 B 9) < t := u_lt c_13 (by omega)
        refine u_aload_n C dX3_goOnTo_16 rfl ?_
        refine u_callvV0 C ev_X3_letHourGoBy dX3_goOnTo_17 ml_RX3_125 (mou_is hB) rfl (by decide) (c_X3_letHourGoBy l D G _ _ hB _ _ _ o1b o1a o2b o2a (by omega) o3a o4 o5 o6 o7) (by decide) (Nat.le_of_ble_eq_true rfl) (fun M_17 q_17 => ?_)
        obtain rfl := q_17
        refine u_aload_n C dX3_goOnTo_20 rfl ?_
        refine u_dup C dX3_goOnTo_21 rfl ?_
        refine u_getI C gX3_goOnTo_22 rfl (mou_is hB) ?_
        refine u_iconst (v := 1) C dX3_goOnTo_25 (by decide) ?_
        refine u_iadd C dX3_goOnTo_26 ?_
        refine u_putI C pX3_goOnTo_27 rfl (mou_is hB) ?_
        refine u_goto (tgt := 8) C dX3_goOnTo_30 (by decide) ?_
        exact u_loc [0, 1, 2] rfl (u_eq (ih (m_hr M2 B) (hr_ok ok2 (by omega)) (by rw [hr_9, cN_nI (by omega)]; omega) (by rw [hM, hr_9, cN_nI (by omega), show t - cN (iv M2 B 9) = (t - (cN (iv M2 B 9) + 1)) + 1 by omega]; rfl)) rfl rfl (by rw [m_hr, ← nI_1, hour_lo B (by omega), ← o3a]))
  refine u_iload_n C dX3_goOnTo_0 rfl ?_
  refine u_sipush (v := 1000) C dX3_goOnTo_1 (by decide) ?_
  refine u_mmin C dX3_goOnTo_4 ml_RX3_119 wm_min (by decide) (Nat.le_of_ble_eq_true rfl) ?_
  refine u_istore_n C dX3_goOnTo_7 (by decide) ?_
  rw [u_min1000 ht]
  exact u_loc [0, 1, 2] rfl (loop1 (t + 1) M ok (by omega) rfl)
set_option maxHeartbeats 4000000 in
set_option maxRecDepth 100000 in
theorem c_X3_seaOf (l : Launch) (D : va_G) (G : w_G) (M : w_M) (B : Nat) (t : Nat) (hB : L_mou G (B)) (ok : okC M B) (ht : t < 2100) : u_Mi l D G yX3_seaOf cX3_seaOf 2 (some .int) 2 45 [.ref (gP G B), .int (nI t)] M (fun r M' => r = s_sea M B t ∧ M' = M) := by
  obtain ⟨o1, o2, o3, o4, o5, o6, o7⟩ := id ok
  obtain ⟨o3a, o3b⟩ := cB_le o3 (by decide)
  refine u_bodyi (by decide +kernel) (Nat.le_of_ble_eq_true rfl) rfl (fun p e s m args below meth c A H0 Q C ret => ?_)
  refine u_iload_n C dX3_seaOf_0 rfl ?_
  refine u_if_lt (tgt := 29) C dX3_seaOf_1 (by decide) (fun c_1 => ?_) (fun c_1 => ?_)
  · exact absurd c_1 (nI_pos (by omega))
  · refine u_iload_n C dX3_seaOf_4 rfl ?_
    refine u_aload_n C dX3_seaOf_5 rfl ?_
    refine u_getI C gX3_seaOf_6 rfl (mou_is hB) ?_
    rw [o3a]
    refine u_icmp_ge (tgt := 29) C dX3_seaOf_9 (by decide) (fun c_9 => ?_) (fun c_9 => ?_)
    · refine u_aload_n C dX3_seaOf_29 rfl ?_
      refine u_getR (k2 := (B + 1)) C gX3_seaOf_30 rfl (mou_is hB) (mou_f0 hB) ?_
      refine u_iload_n C dX3_seaOf_33 rfl ?_
      refine u_calliV1 C ev_X5_foretold dX3_seaOf_34 ml_RX3_115 (sea_is (mou_p0 hB)) rfl (by decide) (c_X5_foretold l D G _ _ _ (mou_p0 hB) o4 o5) (by decide) (Nat.le_of_ble_eq_true rfl) (fun r_34 M_34 q_34 => ?_)
      obtain ⟨rfl, e_34⟩ := q_34
      subst M_34
      exact ret _ _ _ _ dX3_seaOf_37  (by first | (rw [s_sea, if_neg (by have := u_gei c_9 (by omega) (by omega); omega)]; exact ⟨rfl, rfl⟩) | (exfalso; have := u_gei c_16 (by omega) (by omega); omega))
    · have hlt : t < cN (iv M B 9) := u_lt c_9 (by omega)
      refine u_iload_n C dX3_seaOf_12 rfl ?_
      refine u_sipush (v := 1000) C dX3_seaOf_13 (by decide) ?_
      rw [show (1000 : Int32) = nI 1000 from rfl]
      refine u_icmp_ge (tgt := 29) C dX3_seaOf_16 (by decide) (fun c_16 => ?_) (fun c_16 => ?_)
      · refine u_aload_n C dX3_seaOf_29 rfl ?_
        refine u_getR (k2 := (B + 1)) C gX3_seaOf_30 rfl (mou_is hB) (mou_f0 hB) ?_
        refine u_iload_n C dX3_seaOf_33 rfl ?_
        refine u_calliV1 C ev_X5_foretold dX3_seaOf_34 ml_RX3_115 (sea_is (mou_p0 hB)) rfl (by decide) (c_X5_foretold l D G _ _ _ (mou_p0 hB) o4 o5) (by decide) (Nat.le_of_ble_eq_true rfl) (fun r_34 M_34 q_34 => ?_)
        obtain ⟨rfl, e_34⟩ := q_34
        subst M_34
        exact ret _ _ _ _ dX3_seaOf_37  (by first | (rw [s_sea, if_neg (by have := u_gei c_9 (by omega) (by omega); omega)]; exact ⟨rfl, rfl⟩) | (exfalso; have := u_gei c_16 (by omega) (by omega); omega))
      · have hlt2 : t < 1000 := u_lt c_16 (by omega)
        refine u_aload_n C dX3_seaOf_19 rfl ?_
        refine u_getR (k2 := (B + 1)) C gX3_seaOf_20 rfl (mou_is hB) (mou_f0 hB) ?_
        refine u_getR (k2 := (B + 8)) C gX3_seaOf_23 rfl (sea_is (mou_p0 hB)) (sea_f2 (mou_p0 hB)) ?_
        refine u_iload_n C dX3_seaOf_26 rfl ?_
        refine u_ialdN (i := t) C dX3_seaOf_27 (a1000_is (sea_p2 (mou_p0 hB))) (a1000_n (sea_p2 (mou_p0 hB))) (by omega) (by decide) ?_
        exact ret _ _ _ _ dX3_seaOf_28  (by rw [s_sea, if_pos hlt]; exact ⟨rfl, rfl⟩)
set_option maxHeartbeats 4000000 in
set_option maxRecDepth 100000 in
theorem c_X3_firstHourAt (l : Launch) (D : va_G) (G : w_G) (M : w_M) (B : Nat) (ht : Int32) (hs : Nat) (hB : L_mou G (B)) (ok : okC M B) (hh : hs ≤ 24) : u_Mi l D G yX3_firstHourAt cX3_firstHourAt 5 (some .int) 2 45 [.ref (gP G B), .int ht, .int (nI hs)] M (fun r M' => r = s_win M (B + 1) ht (nI hs) (100 + hs) (cN (iv M B 9)) 0 ∧ M' = M) := by
  obtain ⟨o1, o2, o3, o4, o5, o6, o7⟩ := id ok
  obtain ⟨o3a, o3b⟩ := cB_le o3 (by decide)
  refine u_bodyi (by decide +kernel) (Nat.le_of_ble_eq_true rfl) rfl (fun p e s m args below meth c A H0 Q C ret => ?_)
  have loop1 : ∀ (d j : Nat) (x3 x4 : Int32), j ≤ cN (iv M B 9) + 100 + hs → cN (iv M B 9) + 100 + hs - j < d → x4 = nI j → s_win M (B + 1) ht (nI hs) (100 + hs) (cN (iv M B 9)) 0 = s_win M (B + 1) ht (nI hs) (cN (iv M B 9) + 100 + hs - j) j x3 → u_S p l e (u_rm 2 45) s m args below meth c 5 D A H0 0 0 Q 8 [(0, .ref (gP G B)), (1, .int ht), (2, .int (nI hs)), (3, .int x3), (4, .int x4)] [] G M := by
    intro d
    induction d with
    | zero => intro j x3 x4 hj hd; omega
    | succ d ih =>
      intro j x3 x4 hj hd h4 hres
      subst h4
      refine u_iload C dX3_firstHourAt_8 rfl ?_
      refine u_aload_n C dX3_firstHourAt_10 rfl ?_
      refine u_getI C gX3_firstHourAt_11 rfl (mou_is hB) ?_
      rw [o3a]
      refine u_bipush (v := 100) C dX3_firstHourAt_14 (by decide) ?_
      refine u_iadd C dX3_firstHourAt_16 ?_
      refine u_iload_n C dX3_firstHourAt_17 rfl ?_
      refine u_iadd C dX3_firstHourAt_18 ?_
      rw [show nI (cN (iv M B 9)) + 100 + nI hs = nI (cN (iv M B 9) + 100 + hs) from by rw [show (100 : Int32) = nI 100 from rfl, nI_add, nI_add]]
      refine u_icmp_ge (tgt := 61) C dX3_firstHourAt_19 (by decide) (fun c_19 => ?_) (fun c_19 => ?_)
      · have hge : cN (iv M B 9) + 100 + hs ≤ j := u_gei c_19 (by omega) (by omega)
        refine u_iconst (v := (-1)) C dX3_firstHourAt_61 (by decide) ?_
        exact ret _ _ _ _ dX3_firstHourAt_62  (by rw [hres, show cN (iv M B 9) + 100 + hs - j = 0 by omega]; simp [s_win])
      · have hlt : j < cN (iv M B 9) + 100 + hs := u_lt c_19 (by omega)
        obtain ⟨c9, hc⟩ : ∃ c9, cN (iv M B 9) + 100 + hs - j = c9 + 1 := ⟨cN (iv M B 9) + 100 + hs - j - 1, by omega⟩
        refine u_aload_n C dX3_firstHourAt_22 rfl ?_
        refine u_getR (k2 := (B + 1)) C gX3_firstHourAt_23 rfl (mou_is hB) (mou_f0 hB) ?_
        refine u_iload C dX3_firstHourAt_26 rfl ?_
        refine u_calliV1 C ev_X5_foretold dX3_firstHourAt_28 ml_RX3_115 (sea_is (mou_p0 hB)) rfl (by decide) (c_X5_foretold l D G _ _ _ (mou_p0 hB) o4 o5) (by decide) (Nat.le_of_ble_eq_true rfl) (fun r_28 M_28 q_28 => ?_)
        obtain ⟨rfl, e_28⟩ := q_28
        subst M_28
        refine u_iload_n C dX3_firstHourAt_31 rfl ?_
        refine u_icmp_lt (tgt := 41) C dX3_firstHourAt_32 (by decide) (fun c_32 => ?_) (fun c_32 => ?_)
        · refine u_iconst (v := 0) C dX3_firstHourAt_41 (by decide) ?_
          refine u_istore_n C dX3_firstHourAt_42 (by decide) ?_
          refine u_iload_n C dX3_firstHourAt_43 rfl ?_
          refine u_iload_n C dX3_firstHourAt_44 rfl ?_
          refine u_icmp_ne (tgt := 55) C dX3_firstHourAt_45 (by decide) (fun c_45 => ?_) (fun c_45 => ?_)
          · refine u_iinc C dX3_firstHourAt_55 (by decide) rfl ?_
            refine u_goto (tgt := 8) C dX3_firstHourAt_58 (by decide) ?_
            exact u_loc [0, 1, 2, 3, 4] rfl (ih (j + 1) _ _ (by omega) (by omega) (nI_1 j) (by (try simp only [u_le, Decidable.not_not] at c_19 c_32 c_45); rw [hres, hc, show cN (iv M B 9) + 100 + hs - (j + 1) = c9 by omega]; simp [-Int32.not_lt, -Int32.not_le, s_win, c_19, c_32, c_45]))
          · refine u_iload C dX3_firstHourAt_48 rfl ?_
            refine u_iload_n C dX3_firstHourAt_50 rfl ?_
            refine u_isub C dX3_firstHourAt_51 ?_
            refine u_iconst (v := 1) C dX3_firstHourAt_52 (by decide) ?_
            refine u_iadd C dX3_firstHourAt_53 ?_
            exact ret _ _ _ _ dX3_firstHourAt_54  (by (try simp only [u_le, Decidable.not_not] at c_19 c_32 c_45); rw [hres, hc]; simp [-Int32.not_lt, -Int32.not_le, s_win, c_19, c_32, c_45])
        · refine u_iload_n C dX3_firstHourAt_35 rfl ?_
          refine u_iconst (v := 1) C dX3_firstHourAt_36 (by decide) ?_
          refine u_iadd C dX3_firstHourAt_37 ?_
          refine u_goto (tgt := 42) C dX3_firstHourAt_38 (by decide) ?_
          refine u_istore_n C dX3_firstHourAt_42 (by decide) ?_
          refine u_iload_n C dX3_firstHourAt_43 rfl ?_
          refine u_iload_n C dX3_firstHourAt_44 rfl ?_
          refine u_icmp_ne (tgt := 55) C dX3_firstHourAt_45 (by decide) (fun c_45 => ?_) (fun c_45 => ?_)
          · refine u_iinc C dX3_firstHourAt_55 (by decide) rfl ?_
            refine u_goto (tgt := 8) C dX3_firstHourAt_58 (by decide) ?_
            exact u_loc [0, 1, 2, 3, 4] rfl (ih (j + 1) _ _ (by omega) (by omega) (nI_1 j) (by (try simp only [u_le, Decidable.not_not] at c_19 c_32 c_45); rw [hres, hc, show cN (iv M B 9) + 100 + hs - (j + 1) = c9 by omega]; simp [-Int32.not_lt, -Int32.not_le, s_win, c_19, c_32, c_45]))
          · refine u_iload C dX3_firstHourAt_48 rfl ?_
            refine u_iload_n C dX3_firstHourAt_50 rfl ?_
            refine u_isub C dX3_firstHourAt_51 ?_
            refine u_iconst (v := 1) C dX3_firstHourAt_52 (by decide) ?_
            refine u_iadd C dX3_firstHourAt_53 ?_
            exact ret _ _ _ _ dX3_firstHourAt_54  (by (try simp only [u_le, Decidable.not_not] at c_19 c_32 c_45); rw [hres, hc]; simp [-Int32.not_lt, -Int32.not_le, s_win, c_19, c_32, c_45])
  refine u_iconst (v := 0) C dX3_firstHourAt_0 (by decide) ?_
  refine u_istore_n C dX3_firstHourAt_1 (by decide) ?_
  refine u_aload_n C dX3_firstHourAt_2 rfl ?_
  refine u_getI C gX3_firstHourAt_3 rfl (mou_is hB) ?_
  refine u_istore C dX3_firstHourAt_6 (by decide) ?_
  rw [o3a]
  exact u_loc [0, 1, 2, 3, 4] rfl (loop1 (101 + hs) _ _ _ (by omega) (by omega) rfl (by congr 1; omega))
set_option maxHeartbeats 4000000 in
set_option maxRecDepth 100000 in
theorem c_X3_hear_0 (l : Launch) (D : va_G) (G : w_G) (M : w_M) (B : Nat) (a : Int32) (b : Int32) (c1 : Int32) (d1 : Int32) (e1 : Int32) (hB : L_mou G (B)) (hn : cB (iv M (B + 1) 3) 6) : u_Mv l D G yX3_hear cX3_hear 7 none 3 69 [.ref (gP G B), .int 0, .int a, .int b, .int c1, .int d1, .int e1] M (fun M' => M' = m_addT M (B + 1) a b c1 d1) := by
  refine u_bodyv (by decide +kernel) (Nat.le_of_ble_eq_true rfl) rfl (fun p e s m args below meth c A H0 Q C ret => ?_)
  refine u_iload_n C dX3_hear_0 rfl ?_
  refine u_tin (off := 51) (tgt := 52) C dX3_hear_1 (by decide) (by decide) (by decide) (by decide) ?_
  refine u_aload_n C dX3_hear_52 rfl ?_
  refine u_getR (k2 := (B + 1)) C gX3_hear_53 rfl (mou_is hB) (mou_f0 hB) ?_
  refine u_iload_n C dX3_hear_56 rfl ?_
  refine u_iload_n C dX3_hear_57 rfl ?_
  refine u_iload C dX3_hear_58 rfl ?_
  refine u_iload C dX3_hear_60 rfl ?_
  refine u_callvV4 C ev_X5_addTurn dX3_hear_62 ml_RX3_63 (sea_is (mou_p0 hB)) rfl (by decide) (c_X5_addTurn l D G _ _ _ _ _ _ (mou_p0 hB) hn) (by decide) (Nat.le_of_ble_eq_true rfl) (fun M_62 q_62 => ?_)
  obtain rfl := q_62
  refine u_goto (tgt := 173) C dX3_hear_65 (by decide) ?_
  exact ret _ _  _ dX3_hear_173  (rfl)
set_option maxHeartbeats 4000000 in
set_option maxRecDepth 100000 in
theorem c_X3_hear_1 (l : Launch) (D : va_G) (G : w_G) (M : w_M) (B : Nat) (a : Int32) (b : Int32) (c1 : Int32) (d1 : Int32) (e1 : Int32) (hB : L_mou G (B))  : u_Mv l D G yX3_hear cX3_hear 7 none 3 69 [.ref (gP G B), .int 1, .int a, .int b, .int c1, .int d1, .int e1] M (fun M' => M' = wi M (B + 1) 5 a) := by
  refine u_bodyv (by decide +kernel) (Nat.le_of_ble_eq_true rfl) rfl (fun p e s m args below meth c A H0 Q C ret => ?_)
  refine u_iload_n C dX3_hear_0 rfl ?_
  refine u_tin (off := 67) (tgt := 68) C dX3_hear_1 (by decide) (by decide) (by decide) (by decide) ?_
  refine u_aload_n C dX3_hear_68 rfl ?_
  refine u_getR (k2 := (B + 1)) C gX3_hear_69 rfl (mou_is hB) (mou_f0 hB) ?_
  refine u_iload_n C dX3_hear_72 rfl ?_
  refine u_putI C pX3_hear_73 rfl (sea_is (mou_p0 hB)) ?_
  refine u_goto (tgt := 173) C dX3_hear_76 (by decide) ?_
  exact ret _ _  _ dX3_hear_173  (rfl)
set_option maxHeartbeats 4000000 in
set_option maxRecDepth 100000 in
theorem c_X3_hear_2 (l : Launch) (D : va_G) (G : w_G) (M : w_M) (B : Nat) (a : Int32) (b : Int32) (c1 : Int32) (d1 : Int32) (e1 : Int32) (hB : L_mou G (B)) (hn : cB (iv M (B + 1) 4) 20) : u_Mv l D G yX3_hear cX3_hear 7 none 3 69 [.ref (gP G B), .int 2, .int a, .int b, .int c1, .int d1, .int e1] M (fun M' => M' = m_addS M (B + 1) a b c1) := by
  refine u_bodyv (by decide +kernel) (Nat.le_of_ble_eq_true rfl) rfl (fun p e s m args below meth c A H0 Q C ret => ?_)
  refine u_iload_n C dX3_hear_0 rfl ?_
  refine u_tin (off := 78) (tgt := 79) C dX3_hear_1 (by decide) (by decide) (by decide) (by decide) ?_
  refine u_aload_n C dX3_hear_79 rfl ?_
  refine u_getR (k2 := (B + 1)) C gX3_hear_80 rfl (mou_is hB) (mou_f0 hB) ?_
  refine u_iload_n C dX3_hear_83 rfl ?_
  refine u_iload_n C dX3_hear_84 rfl ?_
  refine u_iload C dX3_hear_85 rfl ?_
  refine u_callvV3 C ev_X5_addSurge dX3_hear_87 ml_RX3_70 (sea_is (mou_p0 hB)) rfl (by decide) (c_X5_addSurge l D G _ _ _ _ _ (mou_p0 hB) hn) (by decide) (Nat.le_of_ble_eq_true rfl) (fun M_87 q_87 => ?_)
  obtain rfl := q_87
  refine u_goto (tgt := 173) C dX3_hear_90 (by decide) ?_
  exact ret _ _  _ dX3_hear_173  (rfl)
set_option maxHeartbeats 4000000 in
set_option maxRecDepth 100000 in
theorem c_X3_hear_3 (l : Launch) (D : va_G) (G : w_G) (M : w_M) (B : Nat) (a : Int32) (b : Int32) (c1 : Int32) (d1 : Int32) (e1 : Int32) (hB : L_mou G (B))  : u_Mv l D G yX3_hear cX3_hear 7 none 3 69 [.ref (gP G B), .int 3, .int a, .int b, .int c1, .int d1, .int e1] M (fun M' => M' = wi (wi M B 7 a) B 8 b) := by
  refine u_bodyv (by decide +kernel) (Nat.le_of_ble_eq_true rfl) rfl (fun p e s m args below meth c A H0 Q C ret => ?_)
  refine u_iload_n C dX3_hear_0 rfl ?_
  refine u_tin (off := 92) (tgt := 93) C dX3_hear_1 (by decide) (by decide) (by decide) (by decide) ?_
  refine u_aload_n C dX3_hear_93 rfl ?_
  refine u_iload_n C dX3_hear_94 rfl ?_
  refine u_putI C pX3_hear_95 rfl (mou_is hB) ?_
  refine u_aload_n C dX3_hear_98 rfl ?_
  refine u_iload_n C dX3_hear_99 rfl ?_
  refine u_putI C pX3_hear_100 rfl (mou_is hB) ?_
  refine u_goto (tgt := 173) C dX3_hear_103 (by decide) ?_
  exact ret _ _  _ dX3_hear_173  (rfl)
set_option maxHeartbeats 4000000 in
set_option maxRecDepth 100000 in
theorem c_X3_hear_4 (l : Launch) (D : va_G) (G : w_G) (M : w_M) (B : Nat) (a : Int32) (b : Int32) (c1 : Int32) (d1 : Int32) (e1 : Int32) (hB : L_mou G (B))  : u_Mv l D G yX3_hear cX3_hear 7 none 3 69 [.ref (gP G B), .int 4, .int a, .int b, .int c1, .int d1, .int e1] M (fun M' => M' = wi (wi M (B + 2) 4 a) (B + 2) 5 b) := by
  refine u_bodyv (by decide +kernel) (Nat.le_of_ble_eq_true rfl) rfl (fun p e s m args below meth c A H0 Q C ret => ?_)
  refine u_iload_n C dX3_hear_0 rfl ?_
  refine u_tin (off := 105) (tgt := 106) C dX3_hear_1 (by decide) (by decide) (by decide) (by decide) ?_
  refine u_aload_n C dX3_hear_106 rfl ?_
  refine u_getR (k2 := (B + 2)) C gX3_hear_107 rfl (mou_is hB) (mou_f1 hB) ?_
  refine u_iload_n C dX3_hear_110 rfl ?_
  refine u_putI C pX3_hear_111 rfl (bar_is (mou_p1 hB)) ?_
  refine u_aload_n C dX3_hear_114 rfl ?_
  refine u_getR (k2 := (B + 2)) C gX3_hear_115 rfl (mou_is hB) (mou_f1 hB) ?_
  refine u_iload_n C dX3_hear_118 rfl ?_
  refine u_putI C pX3_hear_119 rfl (bar_is (mou_p1 hB)) ?_
  refine u_goto (tgt := 173) C dX3_hear_122 (by decide) ?_
  exact ret _ _  _ dX3_hear_173  (rfl)
set_option maxHeartbeats 4000000 in
set_option maxRecDepth 100000 in
theorem c_X3_hear_5 (l : Launch) (D : va_G) (G : w_G) (M : w_M) (B : Nat) (a : Int32) (b : Int32) (c1 : Int32) (d1 : Int32) (e1 : Int32) (hB : L_mou G (B)) (n : Nat) (hn8 : n < 8) (hn : iv M B 5 = nI n) : u_Mv l D G yX3_hear cX3_hear 7 none 3 69 [.ref (gP G B), .int 5, .int a, .int b, .int c1, .int d1, .int e1] M (fun M' => M' = m_asec M B a b c1 d1) := by
  refine u_bodyv (by decide +kernel) (Nat.le_of_ble_eq_true rfl) rfl (fun p e s m args below meth c A H0 Q C ret => ?_)
  refine u_iload_n C dX3_hear_0 rfl ?_
  refine u_tin (off := 124) (tgt := 125) C dX3_hear_1 (by decide) (by decide) (by decide) (by decide) ?_
  refine u_aload_n C dX3_hear_125 rfl ?_
  refine u_iload_n C dX3_hear_126 rfl ?_
  refine u_iload_n C dX3_hear_127 rfl ?_
  refine u_iload C dX3_hear_128 rfl ?_
  refine u_iload C dX3_hear_130 rfl ?_
  refine u_callvV4 C ev_X3_addSection dX3_hear_132 ml_RX3_80 (mou_is hB) rfl (by decide) (c_X3_addSection l D G _ _ _ _ _ _ hB n hn8 hn) (by decide) (Nat.le_of_ble_eq_true rfl) (fun M_132 q_132 => ?_)
  obtain rfl := q_132
  refine u_goto (tgt := 173) C dX3_hear_135 (by decide) ?_
  exact ret _ _  _ dX3_hear_173  (rfl)
set_option maxHeartbeats 4000000 in
set_option maxRecDepth 100000 in
theorem c_X3_hear_6 (l : Launch) (D : va_G) (G : w_G) (M : w_M) (B : Nat) (a : Int32) (b : Int32) (c1 : Int32) (d1 : Int32) (e1 : Int32) (hB : L_mou G (B)) (n : Nat) (hn8 : n < 6) (hn : iv M B 6 = nI n) : u_Mv l D G yX3_hear cX3_hear 7 none 3 69 [.ref (gP G B), .int 6, .int a, .int b, .int c1, .int d1, .int e1] M (fun M' => M' = m_aint M B a b c1 d1 e1) := by
  refine u_bodyv (by decide +kernel) (Nat.le_of_ble_eq_true rfl) rfl (fun p e s m args below meth c A H0 Q C ret => ?_)
  refine u_iload_n C dX3_hear_0 rfl ?_
  refine u_tin (off := 137) (tgt := 138) C dX3_hear_1 (by decide) (by decide) (by decide) (by decide) ?_
  refine u_aload_n C dX3_hear_138 rfl ?_
  refine u_iload_n C dX3_hear_139 rfl ?_
  refine u_iload_n C dX3_hear_140 rfl ?_
  refine u_iload C dX3_hear_141 rfl ?_
  refine u_iload C dX3_hear_143 rfl ?_
  refine u_iload C dX3_hear_145 rfl ?_
  refine u_callvV5 C ev_X3_addIntake dX3_hear_147 ml_RX3_83 (mou_is hB) rfl (by decide) (c_X3_addIntake l D G _ _ _ _ _ _ _ hB n hn8 hn) (by decide) (Nat.le_of_ble_eq_true rfl) (fun M_147 q_147 => ?_)
  obtain rfl := q_147
  refine u_goto (tgt := 173) C dX3_hear_150 (by decide) ?_
  exact ret _ _  _ dX3_hear_173  (rfl)
set_option maxHeartbeats 4000000 in
set_option maxRecDepth 100000 in
theorem c_X3_hear_7 (l : Launch) (D : va_G) (G : w_G) (M : w_M) (B : Nat) (i : Nat) (b : Int32) (c1 : Int32) (d1 : Int32) (e1 : Int32) (hB : L_mou G (B)) (n : Nat) (hn8 : n ≤ 8) (hn : iv M B 5 = nI n) (hi : i < n) : u_Mv l D G yX3_hear cX3_hear 7 none 3 69 [.ref (gP G B), .int 7, .int (nI i), .int b, .int c1, .int d1, .int e1] M (fun M' => M' = wi M (B + 100 + i) 7 b) := by
  refine u_bodyv (by decide +kernel) (Nat.le_of_ble_eq_true rfl) rfl (fun p e s m args below meth c A H0 Q C ret => ?_)
  refine u_iload_n C dX3_hear_0 rfl ?_
  refine u_tin (off := 152) (tgt := 153) C dX3_hear_1 (by decide) (by decide) (by decide) (by decide) ?_
  refine u_aload_n C dX3_hear_153 rfl ?_
  refine u_iload_n C dX3_hear_154 rfl ?_
  refine u_iload_n C dX3_hear_155 rfl ?_
  refine u_callvV2 C ev_X3_setPermit dX3_hear_156 ml_RX3_87 (mou_is hB) rfl (by decide) (c_X3_setPermit l D G _ _ _ _ hB n hn8 hn hi) (by decide) (Nat.le_of_ble_eq_true rfl) (fun M_156 q_156 => ?_)
  obtain rfl := q_156
  refine u_goto (tgt := 173) C dX3_hear_159 (by decide) ?_
  exact ret _ _  _ dX3_hear_173  (rfl)
set_option maxHeartbeats 4000000 in
set_option maxRecDepth 100000 in
theorem c_X3_hear_8S (l : Launch) (D : va_G) (G : w_G) (M : w_M) (B : Nat) (i : Nat) (b : Int32) (d1 : Int32) (e1 : Int32) (hB : L_mou G (B)) (n : Nat) (hn8 : n ≤ 8) (hn : iv M B 5 = nI n) (hi : i < n) : u_Mv l D G yX3_hear cX3_hear 7 none 3 69 [.ref (gP G B), .int 8, .int (nI i), .int b, .int (-1), .int d1, .int e1] M (fun M' => M' = m_mudS M B i b) := by
  refine u_bodyv (by decide +kernel) (Nat.le_of_ble_eq_true rfl) rfl (fun p e s m args below meth c A H0 Q C ret => ?_)
  refine u_iload_n C dX3_hear_0 rfl ?_
  refine u_tin (off := 161) (tgt := 162) C dX3_hear_1 (by decide) (by decide) (by decide) (by decide) ?_
  refine u_aload_n C dX3_hear_162 rfl ?_
  refine u_iload_n C dX3_hear_163 rfl ?_
  refine u_iload_n C dX3_hear_164 rfl ?_
  refine u_iload C dX3_hear_165 rfl ?_
  refine u_callvV3 C ev_X3_moveMud dX3_hear_167 ml_RX3_91 (mou_is hB) rfl (by decide) (c_X3_moveMudS l D G _ _ _ _ hB n hn8 hn hi) (by decide) (Nat.le_of_ble_eq_true rfl) (fun M_167 q_167 => ?_)
  obtain rfl := q_167
  refine u_goto (tgt := 173) C dX3_hear_170 (by decide) ?_
  exact ret _ _  _ dX3_hear_173  (rfl)
set_option maxHeartbeats 4000000 in
set_option maxRecDepth 100000 in
theorem c_X3_hear_8C (l : Launch) (D : va_G) (G : w_G) (M : w_M) (B : Nat) (i : Nat) (b : Int32) (j : Nat) (d1 : Int32) (e1 : Int32) (hB : L_mou G (B)) (n : Nat) (hn8 : n ≤ 8) (hn : iv M B 5 = nI n) (hi : i < n) (hj : j < n) : u_Mv l D G yX3_hear cX3_hear 7 none 3 69 [.ref (gP G B), .int 8, .int (nI i), .int b, .int (nI j), .int d1, .int e1] M (fun M' => M' = m_mudC M B i j b) := by
  refine u_bodyv (by decide +kernel) (Nat.le_of_ble_eq_true rfl) rfl (fun p e s m args below meth c A H0 Q C ret => ?_)
  refine u_iload_n C dX3_hear_0 rfl ?_
  refine u_tin (off := 161) (tgt := 162) C dX3_hear_1 (by decide) (by decide) (by decide) (by decide) ?_
  refine u_aload_n C dX3_hear_162 rfl ?_
  refine u_iload_n C dX3_hear_163 rfl ?_
  refine u_iload_n C dX3_hear_164 rfl ?_
  refine u_iload C dX3_hear_165 rfl ?_
  refine u_callvV3 C ev_X3_moveMud dX3_hear_167 ml_RX3_91 (mou_is hB) rfl (by decide) (c_X3_moveMudC l D G _ _ _ _ _ hB n hn8 hn hi hj) (by decide) (Nat.le_of_ble_eq_true rfl) (fun M_167 q_167 => ?_)
  obtain rfl := q_167
  refine u_goto (tgt := 173) C dX3_hear_170 (by decide) ?_
  exact ret _ _  _ dX3_hear_173  (rfl)
set_option maxHeartbeats 4000000 in
set_option maxRecDepth 100000 in
theorem c_X10_tell_0 (l : Launch) (D : va_G) (G : w_G) (M : w_M) (X : Nat) (a : Int32) (b : Int32) (c1 : Int32) (d1 : Int32) (e1 : Int32) (hX : L_sal G (X)) (hk : ∃ n9 : Nat, n9 < 512 ∧ iv M (X + 1) 1 = nI n9) (hn : cB (iv M (X + 1001) 3) 6) : u_Mv l D G yX10_tell cX10_tell 7 none 4 95 [.ref (gP G X), .int 0, .int a, .int b, .int c1, .int d1, .int e1] M (fun M' => M' = m_addT (m_keep M (X + 1) (iv M (X + 1000) 9) 0 a b c1 d1 e1) (X + 1001) a b c1 d1) := by
  refine u_bodyv (by decide +kernel) (Nat.le_of_ble_eq_true rfl) rfl (fun p e s m args below meth c A H0 Q C ret => ?_)
  refine u_aload_n C dX10_tell_0 rfl ?_
  refine u_getR (k2 := (X + 1)) C gX10_tell_1 rfl (sal_is hX) (sal_f2 hX) ?_
  refine u_aload_n C dX10_tell_4 rfl ?_
  refine u_getR (k2 := (X + 1000)) C gX10_tell_5 rfl (sal_is hX) (sal_f0 hX) ?_
  refine u_getI C gX10_tell_8 rfl (mou_is (sal_p0 hX)) ?_
  refine u_iload_n C dX10_tell_11 rfl ?_
  refine u_iload_n C dX10_tell_12 rfl ?_
  refine u_iload_n C dX10_tell_13 rfl ?_
  refine u_iload C dX10_tell_14 rfl ?_
  refine u_iload C dX10_tell_16 rfl ?_
  refine u_iload C dX10_tell_18 rfl ?_
  refine u_callvV7 C ev_X8_keep dX10_tell_20 ml_RX10_236 (tld_is (sal_p2 hX)) rfl (by decide) (c_X8_keep l D G _ _ _ _ _ _ _ _ _ (sal_p2 hX) hk) (by decide) (Nat.le_of_ble_eq_true rfl) (fun M_20 q_20 => ?_)
  obtain rfl := q_20
  refine u_aload_n C dX10_tell_23 rfl ?_
  refine u_getR (k2 := (X + 1000)) C gX10_tell_24 rfl (sal_is hX) (sal_f0 hX) ?_
  refine u_iload_n C dX10_tell_27 rfl ?_
  refine u_iload_n C dX10_tell_28 rfl ?_
  refine u_iload_n C dX10_tell_29 rfl ?_
  refine u_iload C dX10_tell_30 rfl ?_
  refine u_iload C dX10_tell_32 rfl ?_
  refine u_iload C dX10_tell_34 rfl ?_
  refine u_callvV6 C ev_X3_hear dX10_tell_36 ml_RX10_186 (mou_is (sal_p0 hX)) rfl (by decide) (c_X3_hear_0 l D G _ _ _ _ _ _ _ (sal_p0 hX) (by rw [hi_keep (by omega)]; exact hn)) (by decide) (Nat.le_of_ble_eq_true rfl) (fun M_36 q_36 => ?_)
  obtain rfl := q_36
  exact ret _ _  _ dX10_tell_39  (rfl)
set_option maxHeartbeats 4000000 in
set_option maxRecDepth 100000 in
theorem c_X10_tell_1 (l : Launch) (D : va_G) (G : w_G) (M : w_M) (X : Nat) (a : Int32) (b : Int32) (c1 : Int32) (d1 : Int32) (e1 : Int32) (hX : L_sal G (X)) (hk : ∃ n9 : Nat, n9 < 512 ∧ iv M (X + 1) 1 = nI n9)  : u_Mv l D G yX10_tell cX10_tell 7 none 4 95 [.ref (gP G X), .int 1, .int a, .int b, .int c1, .int d1, .int e1] M (fun M' => M' = wi (m_keep M (X + 1) (iv M (X + 1000) 9) 1 a b c1 d1 e1) (X + 1001) 5 a) := by
  refine u_bodyv (by decide +kernel) (Nat.le_of_ble_eq_true rfl) rfl (fun p e s m args below meth c A H0 Q C ret => ?_)
  refine u_aload_n C dX10_tell_0 rfl ?_
  refine u_getR (k2 := (X + 1)) C gX10_tell_1 rfl (sal_is hX) (sal_f2 hX) ?_
  refine u_aload_n C dX10_tell_4 rfl ?_
  refine u_getR (k2 := (X + 1000)) C gX10_tell_5 rfl (sal_is hX) (sal_f0 hX) ?_
  refine u_getI C gX10_tell_8 rfl (mou_is (sal_p0 hX)) ?_
  refine u_iload_n C dX10_tell_11 rfl ?_
  refine u_iload_n C dX10_tell_12 rfl ?_
  refine u_iload_n C dX10_tell_13 rfl ?_
  refine u_iload C dX10_tell_14 rfl ?_
  refine u_iload C dX10_tell_16 rfl ?_
  refine u_iload C dX10_tell_18 rfl ?_
  refine u_callvV7 C ev_X8_keep dX10_tell_20 ml_RX10_236 (tld_is (sal_p2 hX)) rfl (by decide) (c_X8_keep l D G _ _ _ _ _ _ _ _ _ (sal_p2 hX) hk) (by decide) (Nat.le_of_ble_eq_true rfl) (fun M_20 q_20 => ?_)
  obtain rfl := q_20
  refine u_aload_n C dX10_tell_23 rfl ?_
  refine u_getR (k2 := (X + 1000)) C gX10_tell_24 rfl (sal_is hX) (sal_f0 hX) ?_
  refine u_iload_n C dX10_tell_27 rfl ?_
  refine u_iload_n C dX10_tell_28 rfl ?_
  refine u_iload_n C dX10_tell_29 rfl ?_
  refine u_iload C dX10_tell_30 rfl ?_
  refine u_iload C dX10_tell_32 rfl ?_
  refine u_iload C dX10_tell_34 rfl ?_
  refine u_callvV6 C ev_X3_hear dX10_tell_36 ml_RX10_186 (mou_is (sal_p0 hX)) rfl (by decide) (c_X3_hear_1 l D G _ _ _ _ _ _ _ (sal_p0 hX) ) (by decide) (Nat.le_of_ble_eq_true rfl) (fun M_36 q_36 => ?_)
  obtain rfl := q_36
  exact ret _ _  _ dX10_tell_39  (rfl)
set_option maxHeartbeats 4000000 in
set_option maxRecDepth 100000 in
theorem c_X10_tell_2 (l : Launch) (D : va_G) (G : w_G) (M : w_M) (X : Nat) (a : Int32) (b : Int32) (c1 : Int32) (d1 : Int32) (e1 : Int32) (hX : L_sal G (X)) (hk : ∃ n9 : Nat, n9 < 512 ∧ iv M (X + 1) 1 = nI n9) (hn : cB (iv M (X + 1001) 4) 20) : u_Mv l D G yX10_tell cX10_tell 7 none 4 95 [.ref (gP G X), .int 2, .int a, .int b, .int c1, .int d1, .int e1] M (fun M' => M' = m_addS (m_keep M (X + 1) (iv M (X + 1000) 9) 2 a b c1 d1 e1) (X + 1001) a b c1) := by
  refine u_bodyv (by decide +kernel) (Nat.le_of_ble_eq_true rfl) rfl (fun p e s m args below meth c A H0 Q C ret => ?_)
  refine u_aload_n C dX10_tell_0 rfl ?_
  refine u_getR (k2 := (X + 1)) C gX10_tell_1 rfl (sal_is hX) (sal_f2 hX) ?_
  refine u_aload_n C dX10_tell_4 rfl ?_
  refine u_getR (k2 := (X + 1000)) C gX10_tell_5 rfl (sal_is hX) (sal_f0 hX) ?_
  refine u_getI C gX10_tell_8 rfl (mou_is (sal_p0 hX)) ?_
  refine u_iload_n C dX10_tell_11 rfl ?_
  refine u_iload_n C dX10_tell_12 rfl ?_
  refine u_iload_n C dX10_tell_13 rfl ?_
  refine u_iload C dX10_tell_14 rfl ?_
  refine u_iload C dX10_tell_16 rfl ?_
  refine u_iload C dX10_tell_18 rfl ?_
  refine u_callvV7 C ev_X8_keep dX10_tell_20 ml_RX10_236 (tld_is (sal_p2 hX)) rfl (by decide) (c_X8_keep l D G _ _ _ _ _ _ _ _ _ (sal_p2 hX) hk) (by decide) (Nat.le_of_ble_eq_true rfl) (fun M_20 q_20 => ?_)
  obtain rfl := q_20
  refine u_aload_n C dX10_tell_23 rfl ?_
  refine u_getR (k2 := (X + 1000)) C gX10_tell_24 rfl (sal_is hX) (sal_f0 hX) ?_
  refine u_iload_n C dX10_tell_27 rfl ?_
  refine u_iload_n C dX10_tell_28 rfl ?_
  refine u_iload_n C dX10_tell_29 rfl ?_
  refine u_iload C dX10_tell_30 rfl ?_
  refine u_iload C dX10_tell_32 rfl ?_
  refine u_iload C dX10_tell_34 rfl ?_
  refine u_callvV6 C ev_X3_hear dX10_tell_36 ml_RX10_186 (mou_is (sal_p0 hX)) rfl (by decide) (c_X3_hear_2 l D G _ _ _ _ _ _ _ (sal_p0 hX) (by rw [hi_keep (by omega)]; exact hn)) (by decide) (Nat.le_of_ble_eq_true rfl) (fun M_36 q_36 => ?_)
  obtain rfl := q_36
  exact ret _ _  _ dX10_tell_39  (rfl)
set_option maxHeartbeats 4000000 in
set_option maxRecDepth 100000 in
theorem c_X10_tell_3 (l : Launch) (D : va_G) (G : w_G) (M : w_M) (X : Nat) (a : Int32) (b : Int32) (c1 : Int32) (d1 : Int32) (e1 : Int32) (hX : L_sal G (X)) (hk : ∃ n9 : Nat, n9 < 512 ∧ iv M (X + 1) 1 = nI n9)  : u_Mv l D G yX10_tell cX10_tell 7 none 4 95 [.ref (gP G X), .int 3, .int a, .int b, .int c1, .int d1, .int e1] M (fun M' => M' = wi (wi (m_keep M (X + 1) (iv M (X + 1000) 9) 3 a b c1 d1 e1) (X + 1000) 7 a) (X + 1000) 8 b) := by
  refine u_bodyv (by decide +kernel) (Nat.le_of_ble_eq_true rfl) rfl (fun p e s m args below meth c A H0 Q C ret => ?_)
  refine u_aload_n C dX10_tell_0 rfl ?_
  refine u_getR (k2 := (X + 1)) C gX10_tell_1 rfl (sal_is hX) (sal_f2 hX) ?_
  refine u_aload_n C dX10_tell_4 rfl ?_
  refine u_getR (k2 := (X + 1000)) C gX10_tell_5 rfl (sal_is hX) (sal_f0 hX) ?_
  refine u_getI C gX10_tell_8 rfl (mou_is (sal_p0 hX)) ?_
  refine u_iload_n C dX10_tell_11 rfl ?_
  refine u_iload_n C dX10_tell_12 rfl ?_
  refine u_iload_n C dX10_tell_13 rfl ?_
  refine u_iload C dX10_tell_14 rfl ?_
  refine u_iload C dX10_tell_16 rfl ?_
  refine u_iload C dX10_tell_18 rfl ?_
  refine u_callvV7 C ev_X8_keep dX10_tell_20 ml_RX10_236 (tld_is (sal_p2 hX)) rfl (by decide) (c_X8_keep l D G _ _ _ _ _ _ _ _ _ (sal_p2 hX) hk) (by decide) (Nat.le_of_ble_eq_true rfl) (fun M_20 q_20 => ?_)
  obtain rfl := q_20
  refine u_aload_n C dX10_tell_23 rfl ?_
  refine u_getR (k2 := (X + 1000)) C gX10_tell_24 rfl (sal_is hX) (sal_f0 hX) ?_
  refine u_iload_n C dX10_tell_27 rfl ?_
  refine u_iload_n C dX10_tell_28 rfl ?_
  refine u_iload_n C dX10_tell_29 rfl ?_
  refine u_iload C dX10_tell_30 rfl ?_
  refine u_iload C dX10_tell_32 rfl ?_
  refine u_iload C dX10_tell_34 rfl ?_
  refine u_callvV6 C ev_X3_hear dX10_tell_36 ml_RX10_186 (mou_is (sal_p0 hX)) rfl (by decide) (c_X3_hear_3 l D G _ _ _ _ _ _ _ (sal_p0 hX) ) (by decide) (Nat.le_of_ble_eq_true rfl) (fun M_36 q_36 => ?_)
  obtain rfl := q_36
  exact ret _ _  _ dX10_tell_39  (rfl)
set_option maxHeartbeats 4000000 in
set_option maxRecDepth 100000 in
theorem c_X10_tell_4 (l : Launch) (D : va_G) (G : w_G) (M : w_M) (X : Nat) (a : Int32) (b : Int32) (c1 : Int32) (d1 : Int32) (e1 : Int32) (hX : L_sal G (X)) (hk : ∃ n9 : Nat, n9 < 512 ∧ iv M (X + 1) 1 = nI n9)  : u_Mv l D G yX10_tell cX10_tell 7 none 4 95 [.ref (gP G X), .int 4, .int a, .int b, .int c1, .int d1, .int e1] M (fun M' => M' = wi (wi (m_keep M (X + 1) (iv M (X + 1000) 9) 4 a b c1 d1 e1) (X + 1002) 4 a) (X + 1002) 5 b) := by
  refine u_bodyv (by decide +kernel) (Nat.le_of_ble_eq_true rfl) rfl (fun p e s m args below meth c A H0 Q C ret => ?_)
  refine u_aload_n C dX10_tell_0 rfl ?_
  refine u_getR (k2 := (X + 1)) C gX10_tell_1 rfl (sal_is hX) (sal_f2 hX) ?_
  refine u_aload_n C dX10_tell_4 rfl ?_
  refine u_getR (k2 := (X + 1000)) C gX10_tell_5 rfl (sal_is hX) (sal_f0 hX) ?_
  refine u_getI C gX10_tell_8 rfl (mou_is (sal_p0 hX)) ?_
  refine u_iload_n C dX10_tell_11 rfl ?_
  refine u_iload_n C dX10_tell_12 rfl ?_
  refine u_iload_n C dX10_tell_13 rfl ?_
  refine u_iload C dX10_tell_14 rfl ?_
  refine u_iload C dX10_tell_16 rfl ?_
  refine u_iload C dX10_tell_18 rfl ?_
  refine u_callvV7 C ev_X8_keep dX10_tell_20 ml_RX10_236 (tld_is (sal_p2 hX)) rfl (by decide) (c_X8_keep l D G _ _ _ _ _ _ _ _ _ (sal_p2 hX) hk) (by decide) (Nat.le_of_ble_eq_true rfl) (fun M_20 q_20 => ?_)
  obtain rfl := q_20
  refine u_aload_n C dX10_tell_23 rfl ?_
  refine u_getR (k2 := (X + 1000)) C gX10_tell_24 rfl (sal_is hX) (sal_f0 hX) ?_
  refine u_iload_n C dX10_tell_27 rfl ?_
  refine u_iload_n C dX10_tell_28 rfl ?_
  refine u_iload_n C dX10_tell_29 rfl ?_
  refine u_iload C dX10_tell_30 rfl ?_
  refine u_iload C dX10_tell_32 rfl ?_
  refine u_iload C dX10_tell_34 rfl ?_
  refine u_callvV6 C ev_X3_hear dX10_tell_36 ml_RX10_186 (mou_is (sal_p0 hX)) rfl (by decide) (c_X3_hear_4 l D G _ _ _ _ _ _ _ (sal_p0 hX) ) (by decide) (Nat.le_of_ble_eq_true rfl) (fun M_36 q_36 => ?_)
  obtain rfl := q_36
  exact ret _ _  _ dX10_tell_39  (rfl)
set_option maxHeartbeats 4000000 in
set_option maxRecDepth 100000 in
theorem c_X10_tell_5 (l : Launch) (D : va_G) (G : w_G) (M : w_M) (X : Nat) (a : Int32) (b : Int32) (c1 : Int32) (d1 : Int32) (e1 : Int32) (hX : L_sal G (X)) (hk : ∃ n9 : Nat, n9 < 512 ∧ iv M (X + 1) 1 = nI n9) (n : Nat) (hn8 : n < 8) (hn : iv M (X + 1000) 5 = nI n) : u_Mv l D G yX10_tell cX10_tell 7 none 4 95 [.ref (gP G X), .int 5, .int a, .int b, .int c1, .int d1, .int e1] M (fun M' => M' = m_asec (m_keep M (X + 1) (iv M (X + 1000) 9) 5 a b c1 d1 e1) (X + 1000) a b c1 d1) := by
  refine u_bodyv (by decide +kernel) (Nat.le_of_ble_eq_true rfl) rfl (fun p e s m args below meth c A H0 Q C ret => ?_)
  refine u_aload_n C dX10_tell_0 rfl ?_
  refine u_getR (k2 := (X + 1)) C gX10_tell_1 rfl (sal_is hX) (sal_f2 hX) ?_
  refine u_aload_n C dX10_tell_4 rfl ?_
  refine u_getR (k2 := (X + 1000)) C gX10_tell_5 rfl (sal_is hX) (sal_f0 hX) ?_
  refine u_getI C gX10_tell_8 rfl (mou_is (sal_p0 hX)) ?_
  refine u_iload_n C dX10_tell_11 rfl ?_
  refine u_iload_n C dX10_tell_12 rfl ?_
  refine u_iload_n C dX10_tell_13 rfl ?_
  refine u_iload C dX10_tell_14 rfl ?_
  refine u_iload C dX10_tell_16 rfl ?_
  refine u_iload C dX10_tell_18 rfl ?_
  refine u_callvV7 C ev_X8_keep dX10_tell_20 ml_RX10_236 (tld_is (sal_p2 hX)) rfl (by decide) (c_X8_keep l D G _ _ _ _ _ _ _ _ _ (sal_p2 hX) hk) (by decide) (Nat.le_of_ble_eq_true rfl) (fun M_20 q_20 => ?_)
  obtain rfl := q_20
  refine u_aload_n C dX10_tell_23 rfl ?_
  refine u_getR (k2 := (X + 1000)) C gX10_tell_24 rfl (sal_is hX) (sal_f0 hX) ?_
  refine u_iload_n C dX10_tell_27 rfl ?_
  refine u_iload_n C dX10_tell_28 rfl ?_
  refine u_iload_n C dX10_tell_29 rfl ?_
  refine u_iload C dX10_tell_30 rfl ?_
  refine u_iload C dX10_tell_32 rfl ?_
  refine u_iload C dX10_tell_34 rfl ?_
  refine u_callvV6 C ev_X3_hear dX10_tell_36 ml_RX10_186 (mou_is (sal_p0 hX)) rfl (by decide) (c_X3_hear_5 l D G _ _ _ _ _ _ _ (sal_p0 hX) n hn8 (by rw [hi_keep (by omega)]; exact hn)) (by decide) (Nat.le_of_ble_eq_true rfl) (fun M_36 q_36 => ?_)
  obtain rfl := q_36
  exact ret _ _  _ dX10_tell_39  (rfl)
set_option maxHeartbeats 4000000 in
set_option maxRecDepth 100000 in
theorem c_X10_tell_6 (l : Launch) (D : va_G) (G : w_G) (M : w_M) (X : Nat) (a : Int32) (b : Int32) (c1 : Int32) (d1 : Int32) (e1 : Int32) (hX : L_sal G (X)) (hk : ∃ n9 : Nat, n9 < 512 ∧ iv M (X + 1) 1 = nI n9) (n : Nat) (hn8 : n < 6) (hn : iv M (X + 1000) 6 = nI n) : u_Mv l D G yX10_tell cX10_tell 7 none 4 95 [.ref (gP G X), .int 6, .int a, .int b, .int c1, .int d1, .int e1] M (fun M' => M' = m_aint (m_keep M (X + 1) (iv M (X + 1000) 9) 6 a b c1 d1 e1) (X + 1000) a b c1 d1 e1) := by
  refine u_bodyv (by decide +kernel) (Nat.le_of_ble_eq_true rfl) rfl (fun p e s m args below meth c A H0 Q C ret => ?_)
  refine u_aload_n C dX10_tell_0 rfl ?_
  refine u_getR (k2 := (X + 1)) C gX10_tell_1 rfl (sal_is hX) (sal_f2 hX) ?_
  refine u_aload_n C dX10_tell_4 rfl ?_
  refine u_getR (k2 := (X + 1000)) C gX10_tell_5 rfl (sal_is hX) (sal_f0 hX) ?_
  refine u_getI C gX10_tell_8 rfl (mou_is (sal_p0 hX)) ?_
  refine u_iload_n C dX10_tell_11 rfl ?_
  refine u_iload_n C dX10_tell_12 rfl ?_
  refine u_iload_n C dX10_tell_13 rfl ?_
  refine u_iload C dX10_tell_14 rfl ?_
  refine u_iload C dX10_tell_16 rfl ?_
  refine u_iload C dX10_tell_18 rfl ?_
  refine u_callvV7 C ev_X8_keep dX10_tell_20 ml_RX10_236 (tld_is (sal_p2 hX)) rfl (by decide) (c_X8_keep l D G _ _ _ _ _ _ _ _ _ (sal_p2 hX) hk) (by decide) (Nat.le_of_ble_eq_true rfl) (fun M_20 q_20 => ?_)
  obtain rfl := q_20
  refine u_aload_n C dX10_tell_23 rfl ?_
  refine u_getR (k2 := (X + 1000)) C gX10_tell_24 rfl (sal_is hX) (sal_f0 hX) ?_
  refine u_iload_n C dX10_tell_27 rfl ?_
  refine u_iload_n C dX10_tell_28 rfl ?_
  refine u_iload_n C dX10_tell_29 rfl ?_
  refine u_iload C dX10_tell_30 rfl ?_
  refine u_iload C dX10_tell_32 rfl ?_
  refine u_iload C dX10_tell_34 rfl ?_
  refine u_callvV6 C ev_X3_hear dX10_tell_36 ml_RX10_186 (mou_is (sal_p0 hX)) rfl (by decide) (c_X3_hear_6 l D G _ _ _ _ _ _ _ (sal_p0 hX) n hn8 (by rw [hi_keep (by omega)]; exact hn)) (by decide) (Nat.le_of_ble_eq_true rfl) (fun M_36 q_36 => ?_)
  obtain rfl := q_36
  exact ret _ _  _ dX10_tell_39  (rfl)
set_option maxHeartbeats 4000000 in
set_option maxRecDepth 100000 in
theorem c_X10_tell_7 (l : Launch) (D : va_G) (G : w_G) (M : w_M) (X : Nat) (i : Nat) (b : Int32) (c1 : Int32) (d1 : Int32) (e1 : Int32) (hX : L_sal G (X)) (hk : ∃ n9 : Nat, n9 < 512 ∧ iv M (X + 1) 1 = nI n9) (n : Nat) (hn8 : n ≤ 8) (hn : iv M (X + 1000) 5 = nI n) (hi : i < n) : u_Mv l D G yX10_tell cX10_tell 7 none 4 95 [.ref (gP G X), .int 7, .int (nI i), .int b, .int c1, .int d1, .int e1] M (fun M' => M' = wi (m_keep M (X + 1) (iv M (X + 1000) 9) 7 (nI i) b c1 d1 e1) (X + 1000 + 100 + i) 7 b) := by
  refine u_bodyv (by decide +kernel) (Nat.le_of_ble_eq_true rfl) rfl (fun p e s m args below meth c A H0 Q C ret => ?_)
  refine u_aload_n C dX10_tell_0 rfl ?_
  refine u_getR (k2 := (X + 1)) C gX10_tell_1 rfl (sal_is hX) (sal_f2 hX) ?_
  refine u_aload_n C dX10_tell_4 rfl ?_
  refine u_getR (k2 := (X + 1000)) C gX10_tell_5 rfl (sal_is hX) (sal_f0 hX) ?_
  refine u_getI C gX10_tell_8 rfl (mou_is (sal_p0 hX)) ?_
  refine u_iload_n C dX10_tell_11 rfl ?_
  refine u_iload_n C dX10_tell_12 rfl ?_
  refine u_iload_n C dX10_tell_13 rfl ?_
  refine u_iload C dX10_tell_14 rfl ?_
  refine u_iload C dX10_tell_16 rfl ?_
  refine u_iload C dX10_tell_18 rfl ?_
  refine u_callvV7 C ev_X8_keep dX10_tell_20 ml_RX10_236 (tld_is (sal_p2 hX)) rfl (by decide) (c_X8_keep l D G _ _ _ _ _ _ _ _ _ (sal_p2 hX) hk) (by decide) (Nat.le_of_ble_eq_true rfl) (fun M_20 q_20 => ?_)
  obtain rfl := q_20
  refine u_aload_n C dX10_tell_23 rfl ?_
  refine u_getR (k2 := (X + 1000)) C gX10_tell_24 rfl (sal_is hX) (sal_f0 hX) ?_
  refine u_iload_n C dX10_tell_27 rfl ?_
  refine u_iload_n C dX10_tell_28 rfl ?_
  refine u_iload_n C dX10_tell_29 rfl ?_
  refine u_iload C dX10_tell_30 rfl ?_
  refine u_iload C dX10_tell_32 rfl ?_
  refine u_iload C dX10_tell_34 rfl ?_
  refine u_callvV6 C ev_X3_hear dX10_tell_36 ml_RX10_186 (mou_is (sal_p0 hX)) rfl (by decide) (c_X3_hear_7 l D G _ _ _ _ _ _ _ (sal_p0 hX) n hn8 (by rw [hi_keep (by omega)]; exact hn) hi) (by decide) (Nat.le_of_ble_eq_true rfl) (fun M_36 q_36 => ?_)
  obtain rfl := q_36
  exact ret _ _  _ dX10_tell_39  (rfl)
set_option maxHeartbeats 4000000 in
set_option maxRecDepth 100000 in
theorem c_X10_tell_8S (l : Launch) (D : va_G) (G : w_G) (M : w_M) (X : Nat) (i : Nat) (b : Int32) (d1 : Int32) (e1 : Int32) (hX : L_sal G (X)) (hk : ∃ n9 : Nat, n9 < 512 ∧ iv M (X + 1) 1 = nI n9) (n : Nat) (hn8 : n ≤ 8) (hn : iv M (X + 1000) 5 = nI n) (hi : i < n) : u_Mv l D G yX10_tell cX10_tell 7 none 4 95 [.ref (gP G X), .int 8, .int (nI i), .int b, .int (-1), .int d1, .int e1] M (fun M' => M' = m_mudS (m_keep M (X + 1) (iv M (X + 1000) 9) 8 (nI i) b ((-1)) d1 e1) (X + 1000) i b) := by
  refine u_bodyv (by decide +kernel) (Nat.le_of_ble_eq_true rfl) rfl (fun p e s m args below meth c A H0 Q C ret => ?_)
  refine u_aload_n C dX10_tell_0 rfl ?_
  refine u_getR (k2 := (X + 1)) C gX10_tell_1 rfl (sal_is hX) (sal_f2 hX) ?_
  refine u_aload_n C dX10_tell_4 rfl ?_
  refine u_getR (k2 := (X + 1000)) C gX10_tell_5 rfl (sal_is hX) (sal_f0 hX) ?_
  refine u_getI C gX10_tell_8 rfl (mou_is (sal_p0 hX)) ?_
  refine u_iload_n C dX10_tell_11 rfl ?_
  refine u_iload_n C dX10_tell_12 rfl ?_
  refine u_iload_n C dX10_tell_13 rfl ?_
  refine u_iload C dX10_tell_14 rfl ?_
  refine u_iload C dX10_tell_16 rfl ?_
  refine u_iload C dX10_tell_18 rfl ?_
  refine u_callvV7 C ev_X8_keep dX10_tell_20 ml_RX10_236 (tld_is (sal_p2 hX)) rfl (by decide) (c_X8_keep l D G _ _ _ _ _ _ _ _ _ (sal_p2 hX) hk) (by decide) (Nat.le_of_ble_eq_true rfl) (fun M_20 q_20 => ?_)
  obtain rfl := q_20
  refine u_aload_n C dX10_tell_23 rfl ?_
  refine u_getR (k2 := (X + 1000)) C gX10_tell_24 rfl (sal_is hX) (sal_f0 hX) ?_
  refine u_iload_n C dX10_tell_27 rfl ?_
  refine u_iload_n C dX10_tell_28 rfl ?_
  refine u_iload_n C dX10_tell_29 rfl ?_
  refine u_iload C dX10_tell_30 rfl ?_
  refine u_iload C dX10_tell_32 rfl ?_
  refine u_iload C dX10_tell_34 rfl ?_
  refine u_callvV6 C ev_X3_hear dX10_tell_36 ml_RX10_186 (mou_is (sal_p0 hX)) rfl (by decide) (c_X3_hear_8S l D G _ _ _ _ _ _ (sal_p0 hX) n hn8 (by rw [hi_keep (by omega)]; exact hn) hi) (by decide) (Nat.le_of_ble_eq_true rfl) (fun M_36 q_36 => ?_)
  obtain rfl := q_36
  exact ret _ _  _ dX10_tell_39  (rfl)
set_option maxHeartbeats 4000000 in
set_option maxRecDepth 100000 in
theorem c_X10_tell_8C (l : Launch) (D : va_G) (G : w_G) (M : w_M) (X : Nat) (i : Nat) (b : Int32) (j : Nat) (d1 : Int32) (e1 : Int32) (hX : L_sal G (X)) (hk : ∃ n9 : Nat, n9 < 512 ∧ iv M (X + 1) 1 = nI n9) (n : Nat) (hn8 : n ≤ 8) (hn : iv M (X + 1000) 5 = nI n) (hi : i < n) (hj : j < n) : u_Mv l D G yX10_tell cX10_tell 7 none 4 95 [.ref (gP G X), .int 8, .int (nI i), .int b, .int (nI j), .int d1, .int e1] M (fun M' => M' = m_mudC (m_keep M (X + 1) (iv M (X + 1000) 9) 8 (nI i) b (nI j) d1 e1) (X + 1000) i j b) := by
  refine u_bodyv (by decide +kernel) (Nat.le_of_ble_eq_true rfl) rfl (fun p e s m args below meth c A H0 Q C ret => ?_)
  refine u_aload_n C dX10_tell_0 rfl ?_
  refine u_getR (k2 := (X + 1)) C gX10_tell_1 rfl (sal_is hX) (sal_f2 hX) ?_
  refine u_aload_n C dX10_tell_4 rfl ?_
  refine u_getR (k2 := (X + 1000)) C gX10_tell_5 rfl (sal_is hX) (sal_f0 hX) ?_
  refine u_getI C gX10_tell_8 rfl (mou_is (sal_p0 hX)) ?_
  refine u_iload_n C dX10_tell_11 rfl ?_
  refine u_iload_n C dX10_tell_12 rfl ?_
  refine u_iload_n C dX10_tell_13 rfl ?_
  refine u_iload C dX10_tell_14 rfl ?_
  refine u_iload C dX10_tell_16 rfl ?_
  refine u_iload C dX10_tell_18 rfl ?_
  refine u_callvV7 C ev_X8_keep dX10_tell_20 ml_RX10_236 (tld_is (sal_p2 hX)) rfl (by decide) (c_X8_keep l D G _ _ _ _ _ _ _ _ _ (sal_p2 hX) hk) (by decide) (Nat.le_of_ble_eq_true rfl) (fun M_20 q_20 => ?_)
  obtain rfl := q_20
  refine u_aload_n C dX10_tell_23 rfl ?_
  refine u_getR (k2 := (X + 1000)) C gX10_tell_24 rfl (sal_is hX) (sal_f0 hX) ?_
  refine u_iload_n C dX10_tell_27 rfl ?_
  refine u_iload_n C dX10_tell_28 rfl ?_
  refine u_iload_n C dX10_tell_29 rfl ?_
  refine u_iload C dX10_tell_30 rfl ?_
  refine u_iload C dX10_tell_32 rfl ?_
  refine u_iload C dX10_tell_34 rfl ?_
  refine u_callvV6 C ev_X3_hear dX10_tell_36 ml_RX10_186 (mou_is (sal_p0 hX)) rfl (by decide) (c_X3_hear_8C l D G _ _ _ _ _ _ _ (sal_p0 hX) n hn8 (by rw [hi_keep (by omega)]; exact hn) hi hj) (by decide) (Nat.le_of_ble_eq_true rfl) (fun M_36 q_36 => ?_)
  obtain rfl := q_36
  exact ret _ _  _ dX10_tell_39  (rfl)
end
