/-! the law's calls of its helpers -/
section ULC
variable {p : Program} {l : Launch} {e : Env} {R : Room} {s : State} {m : MethodId} {args : Array Value} {below : List Frame} {meth : Method} {c : Code} {Q : State → Prop} {cells slots : Nat}
variable {cc : ByteArray} {own : String} {nL : Nat} {D : va_G} {A : Nat → Prop} {H0 : Heap} {G : w_G} {M : w_M} {pc : Nat} {lv : List (Nat × Value)} {st st0 : List Value}
variable {y : MethodName} {bytes : ByteArray} {maxL f n na index : Nat} {As : List Value} {hh : List (Nat × Nat × Nat × Nat)}
theorem u_goodH {own : String} {index : Nat} {y : MethodName} {cc : ByteArray} {maxL : Nat} {hh : List (Nat × Nat × Nat × Nat)} (h1 : Cond.codeWith y cc maxL (some .int) hh ∈ wsL_law) (h2 : Cond.methodLink own index y ∈ wsL_law) (h3 : Cond.static y ∈ wsL_law) (h4 : Cond.initialized y.cls ∈ wsL_law) : GoodIn wsL_law (va_wsS own index y (u_wsH y cc maxL hh)) := by
  intro w hw
  have hm : w ∈ wsL_law := by
    unfold va_wsS u_wsH at hw
    rcases List.mem_append.mp hw with hw | hw
    · simp only [List.mem_cons, List.not_mem_nil, or_false] at hw
      rcases hw with rfl | rfl | rfl
      · exact h2
      · exact h3
      · exact h4
    · rcases List.mem_cons.mp hw with rfl | hw
      · exact h1
      · exact hw
  exact ⟨hm, good_of_word (List.all_eq_true.mp u_good w hm)⟩
theorem u_callHm {post : Int32 → w_M → Prop} (C : u_C p R s m args c cc own nL D A H0 cells slots G) (hXT : u_XT s) (hXH : u_XH A s H0) (hw : Cond.codeWith y bytes maxL (some .int) hh ∈ wsL_law) (hs : Cond.static y ∈ wsL_law) (hini : Cond.initialized y.cls ∈ wsL_law) (hd9 : y.cls ≠ "java/lang/invoke/MethodHandle" ∧ y.cls ≠ "java/lang/invoke/VarHandle" ∧ (parseMethodDescriptor y.desc).map (fun d => d.parameters.length) = some na) (hd : decode cc pc = .ok (.invokestatic index, 3)) (hlk : Cond.methodLink own index y ∈ wsL_law) (hM : u_Hm l D G y bytes maxL hh f n As M post) (hR : f + 1 ≤ R.frames ∧ 8 + (maxL + 11) + n ≤ R.locals) (hn : As.length = na) (hst : st0 = As.reverse ++ st) (hcat : (st.map fun v => v.category).sum ≤ 8) (hcs : cells + 1 ≤ R.cells ∧ slots + 6 ≤ R.slots)
    (kk : ∀ (r : Int32) (M2 : w_M), post r M2 → u_S p l e R s m args below meth c nL D A H0 (cells + 1) (slots + 6) Q (pc + 3) lv (.int r :: st) G M2) : u_S p l e R s m args below meth c nL D A H0 cells slots Q pc lv st0 G M := by
  intro H locs ls hP hD hS hl
  obtain ⟨⟨hx, hb, hml, hown, hts⟩, ⟨hK, hN⟩, hA, -⟩ := id C
  have hf := u_hf hA hD hS
  refine va_calli (vx_runSW (hh := hh) (As := As) (rest := st) ⟨hx, hb, hml, hown, hts⟩ (hM H.size) (vx_cwSW na hts (u_goodH hw hlk hs hini) rfl rfl rfl hd9 hR) (u_presX C hXT hXH hP hD hS _) rfl hn hl.1 hst (lv_room hcat) hd hcs) hS (fun q _ h => hf q h) hf (fun r u t H1 locs ht hvm hw hB hz1 hk1 hS => ?_)
  have hP1 : va_P D vwCl (u_W G u) t.heap := hB
  rw [ht] at hP1
  exact kk r u hw H1 locs ls hP1 (u_DM u hD) hS hl
/-- the script's ints -/
theorem u_sld (C : u_C p R s m args c cc own nL D A H0 cells slots G) {b L : Nat} {xs : Nat → Int32} (hX : va_X b L xs s H0) (hbl : b < H0.size) (hbA : ¬ A b) (hd : decode cc pc = .ok (.iaload, 1)) {i : Nat} (hi : i < L) (hL : L < 10000) (kk : u_S p l e R s m args below meth c nL D A H0 cells slots Q (pc + 1) lv (.int (xs i) :: st) G M) : u_S p l e R s m args below meth c nL D A H0 cells slots Q pc lv (.int (nI i) :: .ref b :: st) G M := by
  intro H locs ls hP hD hS hl
  obtain ⟨⟨hx, hb, hml, hown, hts⟩, ⟨hK, hN⟩, hA, -⟩ := C
  exact va_sld hx hb hX hbl hbA hS (nI_in hi (by omega)) hd (by rw [nI_clamp (by omega)]; exact kk H locs ls hP hD hS hl)
theorem u_slen (C : u_C p R s m args c cc own nL D A H0 cells slots G) {b L : Nat} {xs : Nat → Int32} (hX : va_X b L xs s H0) (hbl : b < H0.size) (hbA : ¬ A b) (hd : decode cc pc = .ok (.arraylength, 1)) (kk : u_S p l e R s m args below meth c nL D A H0 cells slots Q (pc + 1) lv (.int (nI L) :: st) G M) : u_S p l e R s m args below meth c nL D A H0 cells slots Q pc lv (.ref b :: st) G M := by
  intro H locs ls hP hD hS hl
  obtain ⟨⟨hx, hb, hml, hown, hts⟩, ⟨hK, hN⟩, hA, -⟩ := C
  exact va_slen hx hb hX hbl hbA hS hd (kk H locs ls hP hD hS hl)
end ULC
