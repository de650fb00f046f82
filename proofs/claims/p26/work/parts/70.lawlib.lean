/-! the law's methods: contracts with room for cells, and calls -/
def u_rk (f n k : Nat) : Room := { frames := f, cells := k, slots := 6 * k, locals := n }
def u_Gm (l : Launch) (D : va_G) (G : w_G) (y : MethodName) (cc : ByteArray) (maxL : Nat) (ret : Option FieldType) (f n k : Nat) (av : List Value) (M : w_M) (post : Int32 → w_M → Prop) : Prop := ∀ sz : Nat, Met l y (u_ws2 y cc maxL ret) (u_rk f n k) (u_PreX D G M sz av) (va_Qi post (u_Bx D G) (va_A (u_W G M) sz)) k (6 * k) (va_A (u_W G M) sz)
section UGB
variable {l : Launch} {D : va_G} {G : w_G} {y : MethodName} {cc : ByteArray} {maxL f n k : Nat} {av : List Value} {M : w_M}
theorem u_bodyGz {ret : Option FieldType} {post : Int32 → w_M → Prop} (hy : plainFor y = true) (hav : (lg_sl av).length ≤ maxL) (hret : ret = some .boolean) (body : ∀ (p : Program) (e : Env) (s : State) (m : MethodId) (args : Array Value) (below : List Frame) (meth : Method) (c : Code) (A : Nat → Prop) (H0 : Heap) (Q : State → Prop), (∀ cells slots, cells ≤ k → slots ≤ 6 * k → u_C p (u_rk f n k) s m args c cc y.cls maxL D A H0 cells slots G) → u_XT s → u_XH A s H0 → (∀ (pc : Nat) (lv : List (Nat × Value)) (r : Int32) (M2 : w_M) (cells slots : Nat), cells ≤ k → slots ≤ 6 * k → decode cc pc = .ok (.ireturn, 1) → r = 0 ∨ r = 1 → post r M2 → u_S p l e (u_rk f n k) s m args below meth c maxL D A H0 cells slots Q pc lv [.int r] G M2) → u_S p l e (u_rk f n k) s m args below meth c maxL D A H0 0 0 Q 0 (lv_args 0 av) [] G M) : u_Gm l D G y cc maxL ret f n k av M post := by
  intro sz
  refine u_ofW (cc := cc) (maxL := maxL) (ret := ret) hy rfl ?_
  intro p e s m args below meth c s₁ B hml hv
  obtain ⟨rfl, hsz, hP, hK, hD0, hXT, hXH⟩ := hv
  have hx := B.exec
  have hb := B.bytes
  have hr := B.returns
  have hts := atoms_spec (ws := u_ws2 y cc maxL ret) B.pre
  have hown : s.vm.findClass y.cls = some m.cls := findClass_of_methodNamed B.named
  have hlocks := B.notSynchronized
  subst hsz
  have hD := hD0.self (sz := s.heap.size)
  have hA : ∀ q : Nat, s.heap.size ≤ q → va_A (u_W G M) s.heap.size q := fun q h => Or.inr h
  have hS : va_S (va_A (u_W G M) s.heap.size) s.heap s.heap [] := va_S.rf
  have hl := lv_entry av (n := maxL) hav
  rw [lg_entry_eq]
  refine body p e s m av.toArray below meth c _ s.heap _ (fun cells slots h1 h2 => ⟨⟨hx, hb, hml, hown, fun w hw => hts w (List.mem_cons_of_mem _ hw)⟩, hK, hA, h1, h2⟩) hXT hXH ?_ s.heap [] _ hP hD hS hl
  intro pc lv r M2 cells slots h1 h2 hd h01 hq H locs ls hP hD hS hl
  subst hret
  refine W.widen h1 h2 ?_
  exact W.zret hx hb hr (by rcases h01 with rfl | rfl <;> rfl) (fun t ht hW => ⟨⟨r, M2, rfl, hq, by rw [u_Bx, ht]; exact hP⟩, hS.F ht⟩) hS.2.2 hd
end UGB
section ULC
variable {p : Program} {l : Launch} {e : Env} {R : Room} {s : State} {m : MethodId} {args : Array Value} {below : List Frame} {meth : Method} {c : Code} {Q : State → Prop} {cells slots : Nat}
variable {cc : ByteArray} {own : String} {nL : Nat} {D : va_G} {A : Nat → Prop} {H0 : Heap} {G : w_G} {M : w_M} {pc : Nat} {lv : List (Nat × Value)} {st st0 : List Value}
variable {y : MethodName} {bytes : ByteArray} {maxL f n na index : Nat} {As : List Value} {hh : List (Nat × Nat × Nat × Nat)}
theorem u_goodH {own : String} {index : Nat} {y : MethodName} {cc : ByteArray} {maxL : Nat} {hh : List (Nat × Nat × Nat × Nat)} (h1 : Cond.codeWith y cc maxL (some .int) hh ∈ wsL_law) (h2 : Cond.methodLink own index y ∈ wsL_law) (h3 : Cond.static y ∈ wsL_law) (h4 : Cond.initialized y.cls ∈ wsL_law) : GoodIn wsL_law (va_wsS own index y (u_wsH y cc maxL hh)) := by
  intro w hw
  have hm : w ∈ wsL_law := by
    unfold va_wsS u_wsH at hw
    rcases List.mem_append.mp hw with hw | hw
    · simp only [List.mem_cons, List.not_mem_nil, or_false] at hw
      rcases hw with rfl | rfl | rfl
      · exact h2
      · exact h3
      · exact h4
    · rcases List.mem_cons.mp hw with rfl | hw
      · exact h1
      · exact hw
  exact ⟨hm, good_of_word (List.all_eq_true.mp u_good w hm)⟩
theorem u_callHm {post : Int32 → w_M → Prop} (C : u_C p R s m args c cc own nL D A H0 cells slots G) (hXT : u_XT s) (hXH : u_XH A s H0) (hw : Cond.codeWith y bytes maxL (some .int) hh ∈ wsL_law) (hs : Cond.static y ∈ wsL_law) (hini : Cond.initialized y.cls ∈ wsL_law) (hd9 : y.cls ≠ "java/lang/invoke/MethodHandle" ∧ y.cls ≠ "java/lang/invoke/VarHandle" ∧ (parseMethodDescriptor y.desc).map (fun d => d.parameters.length) = some na) (hd : decode cc pc = .ok (.invokestatic index, 3)) (hlk : Cond.methodLink own index y ∈ wsL_law) (hM : u_Hm l D G y bytes maxL hh f n As M post) (hR : f + 1 ≤ R.frames ∧ 8 + (maxL + 11) + n ≤ R.locals) (hn : As.length = na) (hst : st0 = As.reverse ++ st) (hcat : (st.map fun v => v.category).sum ≤ 8) (hcs : cells + 1 ≤ R.cells ∧ slots + 6 ≤ R.slots)
    (kk : ∀ (r : Int32) (M2 : w_M), post r M2 → u_S p l e R s m args below meth c nL D A H0 (cells + 1) (slots + 6) Q (pc + 3) lv (.int r :: st) G M2) : u_S p l e R s m args below meth c nL D A H0 cells slots Q pc lv st0 G M := by
  intro H locs ls hP hD hS hl
  obtain ⟨⟨hx, hb, hml, hown, hts⟩, ⟨hK, hN⟩, hA, -⟩ := id C
  have hf := u_hf hA hD hS
  refine va_calli (vx_runSW (hh := hh) (As := As) (rest := st) ⟨hx, hb, hml, hown, hts⟩ (hM H.size) (vx_cwSW na hts (u_goodH hw hlk hs hini) rfl rfl rfl hd9 hR) (u_presX C hXT hXH hP hD hS _) rfl hn hl.1 hst (lv_room hcat) hd hcs) hS (fun q _ h => hf q h) hf (fun r u t H1 locs ht hvm hw hB hz1 hk1 hS => ?_)
  have hP1 : va_P D vwCl (u_W G u) t.heap := hB
  rw [ht] at hP1
  exact kk r u hw H1 locs ls hP1 (u_DM u hD) hS hl
/-- a static method of the law's own, without a table -/
theorem u_callGm {ret : Option FieldType} {k : Nat} {post : Int32 → w_M → Prop} (C : u_C p R s m args c cc own nL D A H0 cells slots G) (hXT : u_XT s) (hXH : u_XH A s H0) (hm : u_mes y bytes maxL ret na) (hd : decode cc pc = .ok (.invokestatic index, 3)) (hlk : Cond.methodLink own index y ∈ wsL_law) (hM : u_Gm l D G y bytes maxL ret f n k As M post) (hR : f + 1 ≤ R.frames ∧ 8 + (maxL + 11) + n ≤ R.locals) (hn : As.length = na) (hst : st0 = As.reverse ++ st) (hcat : (st.map fun v => v.category).sum ≤ 8) (hcs : cells + k ≤ R.cells ∧ slots + 6 * k ≤ R.slots)
    (kk : ∀ (r : Int32) (M2 : w_M), post r M2 → u_S p l e R s m args below meth c nL D A H0 (cells + k) (slots + 6 * k) Q (pc + 3) lv (.int r :: st) G M2) : u_S p l e R s m args below meth c nL D A H0 cells slots Q pc lv st0 G M := by
  intro H locs ls hP hD hS hl
  obtain ⟨⟨hx, hb, hml, hown, hts⟩, ⟨hK, hN⟩, hA, -⟩ := id C
  have hf := u_hf hA hD hS
  have hcb : CallB R s args own index y bytes maxL ret (u_ws2 y bytes maxL ret) (u_rk f n k) k (6 * k) na := callB_of na hts (u_goodIn hm.1.2.2) rfl rfl rfl (hts _ hm.1.2.1) (hts _ hlk) hm.1.1 hR
  refine va_calli (va_runS (As := As) (rest := st) ⟨hx, hb, hml, hown, hts⟩ (hM H.size) ⟨hcb, hts _ hm.2⟩ (u_presX C hXT hXH hP hD hS _) rfl hn hl.1 hst (lv_room hcat) hd hcs) hS (fun q _ h => hf q h) hf (fun r u t H1 locs ht hvm hw hB hz1 hk1 hS => ?_)
  have hP1 : va_P D vwCl (u_W G u) t.heap := hB
  rw [ht] at hP1
  exact kk r u hw H1 locs ls hP1 (u_DM u hD) hS hl
/-- the script's ints -/
theorem u_sld (C : u_C p R s m args c cc own nL D A H0 cells slots G) {b L : Nat} {xs : Nat → Int32} (hX : va_X b L xs s H0) (hbl : b < H0.size) (hbA : ¬ A b) (hd : decode cc pc = .ok (.iaload, 1)) {i : Nat} (hi : i < L) (hL : L < 10000) (kk : u_S p l e R s m args below meth c nL D A H0 cells slots Q (pc + 1) lv (.int (xs i) :: st) G M) : u_S p l e R s m args below meth c nL D A H0 cells slots Q pc lv (.int (nI i) :: .ref b :: st) G M := by
  intro H locs ls hP hD hS hl
  obtain ⟨⟨hx, hb, hml, hown, hts⟩, ⟨hK, hN⟩, hA, -⟩ := C
  exact va_sld hx hb hX hbl hbA hS (nI_in hi (by omega)) hd (by rw [nI_clamp (by omega)]; exact kk H locs ls hP hD hS hl)
theorem u_slen (C : u_C p R s m args c cc own nL D A H0 cells slots G) {b L : Nat} {xs : Nat → Int32} (hX : va_X b L xs s H0) (hbl : b < H0.size) (hbA : ¬ A b) (hd : decode cc pc = .ok (.arraylength, 1)) (kk : u_S p l e R s m args below meth c nL D A H0 cells slots Q (pc + 1) lv (.int (nI L) :: st) G M) : u_S p l e R s m args below meth c nL D A H0 cells slots Q pc lv (.ref b :: st) G M := by
  intro H locs ls hP hD hS hl
  obtain ⟨⟨hx, hb, hml, hown, hts⟩, ⟨hK, hN⟩, hA, -⟩ := C
  exact va_slen hx hb hX hbl hbA hS hd (kk H locs ls hP hD hS hl)
theorem u_ldc (C : u_C p R s m args c cc own nL D A H0 cells slots G) {index : Nat} {v : Int32} (hw : Cond.constant own index v ∈ wsL_law) (hd : decode cc pc = .ok (.ldc index, 2)) (kk : u_S p l e R s m args below meth c nL D A H0 cells slots Q (pc + 2) lv (.int v :: st) G M) : u_S p l e R s m args below meth c nL D A H0 cells slots Q pc lv st G M := by
  intro H locs ls hP hD hS hl
  obtain ⟨⟨hx, hb, hml, hown, hts⟩, ⟨hK, hN⟩, hA, -⟩ := C
  exact lv_ldc hx hb hown (hts _ hw) hd (kk H locs ls hP hD hS hl)
theorem u_ldc2 (C : u_C p R s m args c cc own nL D A H0 cells slots G) {index : Nat} {v : Int64} (hw : Cond.constantLong own index v ∈ wsL_law) (hd : decode cc pc = .ok (.ldc2_w index, 3)) (kk : u_S p l e R s m args below meth c nL D A H0 cells slots Q (pc + 3) lv (.long v :: st) G M) : u_S p l e R s m args below meth c nL D A H0 cells slots Q pc lv st G M := by
  intro H locs ls hP hD hS hl
  obtain ⟨⟨hx, hb, hml, hown, hts⟩, ⟨hK, hN⟩, hA, -⟩ := C
  exact lv_ldc2 hx hb hown (hts _ hw) hd (kk H locs ls hP hD hS hl)
theorem u_lsub (C : u_C p R s m args c cc own nL D A H0 cells slots G) {x y : Int64} (hd : decode cc pc = .ok (.lsub, 1)) (k : u_S p l e R s m args below meth c nL D A H0 cells slots Q (pc + 1) lv (.long (x - y) :: st) G M) : u_S p l e R s m args below meth c nL D A H0 cells slots Q pc lv (.long y :: .long x :: st) G M := by
  intro H locs ls hP hD hS hl
  obtain ⟨⟨hx, hb, hml, hown, hts⟩, ⟨hK, hN⟩, hA, hcs⟩ := C
  exact lv_lsub hx hb hd (k H locs ls hP hD hS hl)
theorem u_lload_n (C : u_C p R s m args c cc own nL D A H0 cells slots G) {n : Fin 4} {x : Int64} (hd : decode cc pc = .ok (.lload_n n, 1)) (hv : lv_get lv (n : Nat) = some (.long x)) (k : u_S p l e R s m args below meth c nL D A H0 cells slots Q (pc + 1) lv (.long x :: st) G M) : u_S p l e R s m args below meth c nL D A H0 cells slots Q pc lv (st) G M := by
  intro H locs ls hP hD hS hl
  obtain ⟨⟨hx, hb, hml, hown, hts⟩, ⟨hK, hN⟩, hA, hcs⟩ := C
  exact lv_lload_n hx hb hd rfl (lv_gat hl hv) (k H locs ls hP hD hS hl)
theorem u_lstore_n (C : u_C p R s m args c cc own nL D A H0 cells slots G) {n : Fin 4} {x : Int64} (hd : decode cc pc = .ok (.lstore_n n, 1)) (hn : (n : Nat) + 1 < nL) (k : u_S p l e R s m args below meth c nL D A H0 cells slots Q (pc + 1) (lv_put2 lv n (.long x)) st G M) : u_S p l e R s m args below meth c nL D A H0 cells slots Q pc lv (.long x :: st) G M := by
  intro H locs ls hP hD hS hl
  obtain ⟨⟨hx, hb, hml, hown, hts⟩, ⟨hK, hN⟩, hA, hcs⟩ := C
  exact lv_lstore_n hx hb hd rfl hl hn rfl (fun ls hl => k H locs ls hP hD hS hl)
/-! numbers that are not below 0 -/
theorem nI_dv {a b : Nat} (ha : a < 2 ^ 31) (hb : 0 < b) (hb2 : b < 2 ^ 31) : nI a / nI b = nI (a / b) := by
  have h := Nat.div_le_self a b
  refine i_ext ?_
  rw [i_div (by rw [i_N ha]; omega) (by rw [i_N hb2]; omega), i_N ha, i_N hb2, i_N (by omega)]
  exact (Int.natCast_ediv a b).symm
theorem nI_sb {a b : Nat} (h : b ≤ a) (ha : a < 2 ^ 31) : nI a - nI b = nI (a - b) := by
  refine i_ext ?_
  rw [i_sub (by rw [i_N ha, i_N (by omega)]; omega) (by rw [i_N ha, i_N (by omega)]; omega), i_N ha, i_N (by omega), i_N (by omega)]
  omega
theorem nI_mu (a b : Nat) : nI a * nI b = nI (a * b) := (Int32.ofNat_mul a b).symm
theorem nI_rm {a b : Nat} (ha : a < 2 ^ 31) (hb : 0 < b) (hb2 : b < 2 ^ 31) : nI a - nI a / nI b * nI b = nI (a % b) := by
  have h := Nat.div_mul_le_self a b
  rw [nI_dv ha hb hb2, nI_mu, nI_sb h ha]
  congr 1
  have := Nat.mod_add_div a b
  rw [Nat.mul_comm] at this
  omega
theorem u_iaddK (C : u_C p R s m args c cc own nL D A H0 cells slots G) {a b : Nat} (hd : decode cc pc = .ok (.iadd, 1)) (k : u_S p l e R s m args below meth c nL D A H0 cells slots Q (pc + 1) lv (.int (nI (a + b)) :: st) G M) : u_S p l e R s m args below meth c nL D A H0 cells slots Q pc lv (.int (nI b) :: .int (nI a) :: st) G M := u_iadd C hd (by rw [nI_add]; exact k)
theorem u_isubK (C : u_C p R s m args c cc own nL D A H0 cells slots G) {a b : Nat} (hd : decode cc pc = .ok (.isub, 1)) (h : b ≤ a) (ha : a < 2 ^ 31) (k : u_S p l e R s m args below meth c nL D A H0 cells slots Q (pc + 1) lv (.int (nI (a - b)) :: st) G M) : u_S p l e R s m args below meth c nL D A H0 cells slots Q pc lv (.int (nI b) :: .int (nI a) :: st) G M := u_isub C hd (by rw [nI_sb h ha]; exact k)
theorem u_imulK (C : u_C p R s m args c cc own nL D A H0 cells slots G) {a b : Nat} (hd : decode cc pc = .ok (.imul, 1)) (k : u_S p l e R s m args below meth c nL D A H0 cells slots Q (pc + 1) lv (.int (nI (a * b)) :: st) G M) : u_S p l e R s m args below meth c nL D A H0 cells slots Q pc lv (.int (nI b) :: .int (nI a) :: st) G M := u_imul C hd (by rw [nI_mu]; exact k)
theorem u_idivK (C : u_C p R s m args c cc own nL D A H0 cells slots G) {a b : Nat} (hd : decode cc pc = .ok (.idiv, 1)) (ha : a < 2 ^ 31) (hb : 0 < b) (hb2 : b < 2 ^ 31) (k : u_S p l e R s m args below meth c nL D A H0 cells slots Q (pc + 1) lv (.int (nI (a / b)) :: st) G M) : u_S p l e R s m args below meth c nL D A H0 cells slots Q pc lv (.int (nI b) :: .int (nI a) :: st) G M := u_idiv C hd (nI_ne0 hb hb2) (by rw [nI_dv ha hb hb2]; exact k)
theorem u_iremK (C : u_C p R s m args c cc own nL D A H0 cells slots G) {a b : Nat} (hd : decode cc pc = .ok (.irem, 1)) (ha : a < 2 ^ 31) (hb : 0 < b) (hb2 : b < 2 ^ 31) (k : u_S p l e R s m args below meth c nL D A H0 cells slots Q (pc + 1) lv (.int (nI (a % b)) :: st) G M) : u_S p l e R s m args below meth c nL D A H0 cells slots Q pc lv (.int (nI b) :: .int (nI a) :: st) G M := u_irem C hd (nI_ne0 hb hb2) (by rw [nI_rm ha hb hb2]; exact k)
theorem u_iincK (C : u_C p R s m args c cc own nL D A H0 cells slots G) {i a b : Nat} (hd : decode cc pc = .ok (.iinc i (b : Int), 3)) (hn : i < nL) (hv : lv_get lv i = some (.int (nI a))) (k : u_S p l e R s m args below meth c nL D A H0 cells slots Q (pc + 3) (lv_put lv i (.int (nI (a + b)))) st G M) : u_S p l e R s m args below meth c nL D A H0 cells slots Q pc lv st G M := u_iinc C hd hn hv (by rw [show Int32.ofInt (b : Int) = nI b from rfl, nI_add]; exact k)
section CMP
variable {a b : Nat} {off : Int} {tgt : Nat}
theorem u_icmp_eqK (C : u_C p R s m args c cc own nL D A H0 cells slots G) (hd : decode cc pc = .ok (.if_icmp .eq off, 3)) (ht : (pc : Int) + off = (tgt : Int)) (ha : a < 2 ^ 31) (hb : b < 2 ^ 31) (kt : a = b → u_S p l e R s m args below meth c nL D A H0 cells slots Q tgt lv st G M) (kf : ¬ a = b → u_S p l e R s m args below meth c nL D A H0 cells slots Q (pc + 3) lv st G M) : u_S p l e R s m args below meth c nL D A H0 cells slots Q pc lv (.int (nI b) :: .int (nI a) :: st) G M := u_icmp_eq C hd ht (fun h => kt ((nI_eq ha hb).mp h)) (fun h => kf (fun z => h (by rw [z])))
theorem u_icmp_neK (C : u_C p R s m args c cc own nL D A H0 cells slots G) (hd : decode cc pc = .ok (.if_icmp .ne off, 3)) (ht : (pc : Int) + off = (tgt : Int)) (ha : a < 2 ^ 31) (hb : b < 2 ^ 31) (kt : ¬ a = b → u_S p l e R s m args below meth c nL D A H0 cells slots Q tgt lv st G M) (kf : a = b → u_S p l e R s m args below meth c nL D A H0 cells slots Q (pc + 3) lv st G M) : u_S p l e R s m args below meth c nL D A H0 cells slots Q pc lv (.int (nI b) :: .int (nI a) :: st) G M := u_icmp_ne C hd ht (fun h => kt (fun z => h (by rw [z]))) (fun h => kf ((nI_eq ha hb).mp h))
theorem u_icmp_ltK (C : u_C p R s m args c cc own nL D A H0 cells slots G) (hd : decode cc pc = .ok (.if_icmp .lt off, 3)) (ht : (pc : Int) + off = (tgt : Int)) (ha : a < 2 ^ 31) (hb : b < 2 ^ 31) (kt : a < b → u_S p l e R s m args below meth c nL D A H0 cells slots Q tgt lv st G M) (kf : ¬ a < b → u_S p l e R s m args below meth c nL D A H0 cells slots Q (pc + 3) lv st G M) : u_S p l e R s m args below meth c nL D A H0 cells slots Q pc lv (.int (nI b) :: .int (nI a) :: st) G M := u_icmp_lt C hd ht (fun h => kt (by rw [i_lt, i_N ha, i_N hb] at h; omega)) (fun h => kf (by rw [i_lt, i_N ha, i_N hb] at h; omega))
theorem u_icmp_geK (C : u_C p R s m args c cc own nL D A H0 cells slots G) (hd : decode cc pc = .ok (.if_icmp .ge off, 3)) (ht : (pc : Int) + off = (tgt : Int)) (ha : a < 2 ^ 31) (hb : b < 2 ^ 31) (kt : b ≤ a → u_S p l e R s m args below meth c nL D A H0 cells slots Q tgt lv st G M) (kf : ¬ b ≤ a → u_S p l e R s m args below meth c nL D A H0 cells slots Q (pc + 3) lv st G M) : u_S p l e R s m args below meth c nL D A H0 cells slots Q pc lv (.int (nI b) :: .int (nI a) :: st) G M := u_icmp_ge C hd ht (fun h => kt (by rw [i_le, i_N ha, i_N hb] at h; omega)) (fun h => kf (by rw [i_le, i_N ha, i_N hb] at h; omega))
theorem u_icmp_gtK (C : u_C p R s m args c cc own nL D A H0 cells slots G) (hd : decode cc pc = .ok (.if_icmp .gt off, 3)) (ht : (pc : Int) + off = (tgt : Int)) (ha : a < 2 ^ 31) (hb : b < 2 ^ 31) (kt : b < a → u_S p l e R s m args below meth c nL D A H0 cells slots Q tgt lv st G M) (kf : ¬ b < a → u_S p l e R s m args below meth c nL D A H0 cells slots Q (pc + 3) lv st G M) : u_S p l e R s m args below meth c nL D A H0 cells slots Q pc lv (.int (nI b) :: .int (nI a) :: st) G M := u_icmp_gt C hd ht (fun h => kt (by rw [i_lt, i_N ha, i_N hb] at h; omega)) (fun h => kf (by rw [i_lt, i_N ha, i_N hb] at h; omega))
theorem u_icmp_leK (C : u_C p R s m args c cc own nL D A H0 cells slots G) (hd : decode cc pc = .ok (.if_icmp .le off, 3)) (ht : (pc : Int) + off = (tgt : Int)) (ha : a < 2 ^ 31) (hb : b < 2 ^ 31) (kt : a ≤ b → u_S p l e R s m args below meth c nL D A H0 cells slots Q tgt lv st G M) (kf : ¬ a ≤ b → u_S p l e R s m args below meth c nL D A H0 cells slots Q (pc + 3) lv st G M) : u_S p l e R s m args below meth c nL D A H0 cells slots Q pc lv (.int (nI b) :: .int (nI a) :: st) G M := u_icmp_le C hd ht (fun h => kt (by rw [i_le, i_N ha, i_N hb] at h; omega)) (fun h => kf (by rw [i_le, i_N ha, i_N hb] at h; omega))
theorem u_if_eqK (C : u_C p R s m args c cc own nL D A H0 cells slots G) (hd : decode cc pc = .ok (.ifCond .eq off, 3)) (ht : (pc : Int) + off = (tgt : Int)) (ha : a < 2 ^ 31) (kt : a = 0 → u_S p l e R s m args below meth c nL D A H0 cells slots Q tgt lv st G M) (kf : ¬ a = 0 → u_S p l e R s m args below meth c nL D A H0 cells slots Q (pc + 3) lv st G M) : u_S p l e R s m args below meth c nL D A H0 cells slots Q pc lv (.int (nI a) :: st) G M := u_if_eq C hd ht (fun h => kt (by rw [i_eq, i_N ha, i_0] at h; omega)) (fun h => kf (by rw [i_eq, i_N ha, i_0] at h; omega))
theorem u_if_neK (C : u_C p R s m args c cc own nL D A H0 cells slots G) (hd : decode cc pc = .ok (.ifCond .ne off, 3)) (ht : (pc : Int) + off = (tgt : Int)) (ha : a < 2 ^ 31) (kt : ¬ a = 0 → u_S p l e R s m args below meth c nL D A H0 cells slots Q tgt lv st G M) (kf : a = 0 → u_S p l e R s m args below meth c nL D A H0 cells slots Q (pc + 3) lv st G M) : u_S p l e R s m args below meth c nL D A H0 cells slots Q pc lv (.int (nI a) :: st) G M := u_if_ne C hd ht (fun h => kt (by rw [i_eq, i_N ha, i_0] at h; omega)) (fun h => kf (by rw [i_eq, i_N ha, i_0] at h; omega))
theorem u_if_ltK (C : u_C p R s m args c cc own nL D A H0 cells slots G) (hd : decode cc pc = .ok (.ifCond .lt off, 3)) (ht : (pc : Int) + off = (tgt : Int)) (ha : a < 2 ^ 31) (kf : u_S p l e R s m args below meth c nL D A H0 cells slots Q (pc + 3) lv st G M) : u_S p l e R s m args below meth c nL D A H0 cells slots Q pc lv (.int (nI a) :: st) G M := u_if_lt C hd ht (fun h => absurd h (nI_pos ha)) (fun _ => kf)
theorem u_if_geK (C : u_C p R s m args c cc own nL D A H0 cells slots G) (hd : decode cc pc = .ok (.ifCond .ge off, 3)) (ht : (pc : Int) + off = (tgt : Int)) (ha : a < 2 ^ 31) (kt : u_S p l e R s m args below meth c nL D A H0 cells slots Q tgt lv st G M) : u_S p l e R s m args below meth c nL D A H0 cells slots Q pc lv (.int (nI a) :: st) G M := u_if_ge C hd ht (fun _ => kt) (fun h => absurd (nI_pos' ha) h)
theorem u_if_gtK (C : u_C p R s m args c cc own nL D A H0 cells slots G) (hd : decode cc pc = .ok (.ifCond .gt off, 3)) (ht : (pc : Int) + off = (tgt : Int)) (ha : a < 2 ^ 31) (kt : 0 < a → u_S p l e R s m args below meth c nL D A H0 cells slots Q tgt lv st G M) (kf : ¬ 0 < a → u_S p l e R s m args below meth c nL D A H0 cells slots Q (pc + 3) lv st G M) : u_S p l e R s m args below meth c nL D A H0 cells slots Q pc lv (.int (nI a) :: st) G M := u_if_gt C hd ht (fun h => kt (by rw [i_lt, i_N ha, i_0] at h; omega)) (fun h => kf (by rw [i_lt, i_N ha, i_0] at h; omega))
theorem u_if_leK (C : u_C p R s m args c cc own nL D A H0 cells slots G) (hd : decode cc pc = .ok (.ifCond .le off, 3)) (ht : (pc : Int) + off = (tgt : Int)) (ha : a < 2 ^ 31) (kt : a = 0 → u_S p l e R s m args below meth c nL D A H0 cells slots Q tgt lv st G M) (kf : ¬ a = 0 → u_S p l e R s m args below meth c nL D A H0 cells slots Q (pc + 3) lv st G M) : u_S p l e R s m args below meth c nL D A H0 cells slots Q pc lv (.int (nI a) :: st) G M := u_if_le C hd ht (fun h => kt (by rw [i_le, i_N ha, i_0] at h; omega)) (fun h => kf (by rw [i_le, i_N ha, i_0] at h; omega))
end CMP
/-- an element, by what it is -/
theorem u_ialdNv (C : u_C p R s m args c cc own nL D A H0 cells slots G) {k i N : Nat} {x : Int32} (hd : decode cc pc = .ok (.iaload, 1)) (hk : u_is G k 12) (hn : gN G k = N) (hi : i < N) (hN : N < 2 ^ 31) (hv : iv M k i = x) (kk : u_S p l e R s m args below meth c nL D A H0 cells slots Q (pc + 1) lv (.int x :: st) G M) : u_S p l e R s m args below meth c nL D A H0 cells slots Q pc lv (.int (nI i) :: .ref (gP G k) :: st) G M := u_ialdN C hd hk hn hi hN (hv.symm ▸ kk)
end ULC
