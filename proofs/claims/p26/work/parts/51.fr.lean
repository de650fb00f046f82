/-! what a mouth's steps leave: all outside of its 200 numbers -/
def fr (B : Nat) (M M' : w_M) : Prop := ∀ a, (a < B ∨ B + 200 ≤ a) → ∀ j, iv M' a j = iv M a j ∧ jv M' a j = jv M a j
theorem fr.rf {B : Nat} {M : w_M} : fr B M M := fun _ _ _ => ⟨rfl, rfl⟩
theorem fr.tr {B : Nat} {M M1 M2 : w_M} (h : fr B M M1) (h2 : fr B M1 M2) : fr B M M2 := fun a ha j => ⟨(h2 a ha j).1.trans (h a ha j).1, (h2 a ha j).2.trans (h a ha j).2⟩
theorem fr_wi {B a j : Nat} {M : w_M} {x : Int32} (h : B ≤ a) (h2 : a < B + 200) : fr B M (wi M a j x) := fun b hb k => ⟨iv_n (by omega), rfl⟩
theorem fr_wj {B a j : Nat} {M : w_M} {x : Int64} (h : B ≤ a) (h2 : a < B + 200) : fr B M (wj M a j x) := fun b hb k => ⟨rfl, jv_n (by omega)⟩
theorem fr_sadd {B i : Nat} {M : w_M} {x : Int64} : fr B M (sadd M B i x) := fr_wj (by omega) (by omega)
theorem fr_gsadd {Y i : Nat} {M : w_M} {x : Int64} : fr Y M (gsadd M Y i x) := fr_wj (by omega) (by omega)
theorem fr_out {B k : Nat} {M : w_M} {f : Int32} (h : B ≤ k) (h2 : k < B + 200) : fr B M (m_out M k f) := (fr_wi h h2).tr (fr_wi h h2)
theorem fr_in {B k : Nat} {M : w_M} {x y : Int32} (h : B ≤ k) (h2 : k < B + 200) : fr B M (m_in M k x y) := (fr_wi h h2).tr (fr_wi h h2)
theorem fr_gc {B k : Nat} {M : w_M} {f : Int32} (h : B ≤ k) (h2 : k < B + 200) : fr B M (m_gc M k f) := fr_wi h h2
theorem fr_sea {B k : Nat} {M : w_M} {x : Int32} (h : B ≤ k) (h2 : k < B + 150) : fr B M (m_sea M B k x) := by
  unfold m_sea; split
  · exact ((fr_in (by omega) (by omega)).tr fr_sadd).tr fr_sadd
  · split
    · exact ((((fr_gc (by omega) (by omega)).tr fr_sadd).tr (fr_out (by omega) (by omega))).tr fr_sadd).tr fr_sadd
    · exact fr.rf
theorem fr_riv {B k : Nat} {M : w_M} (h : B ≤ k) (h2 : k < B + 150) : fr B M (m_riv M B k) := (((fr_in (by omega) (by omega)).tr (fr_wi h (by omega))).tr fr_sadd).tr fr_sadd
theorem fr_fl {B k1 k2 : Nat} {M : w_M} {f : Int32} (h1 : B ≤ k1) (h2 : k1 < B + 150) (h3 : B ≤ k2) (h4 : k2 < B + 150) : fr B M (m_fl M k1 k2 f) := (fr_out (by omega) (by omega)).tr (fr_in (by omega) (by omega))
theorem fr_fu {B k1 k2 : Nat} {M : w_M} {f : Int32} (h1 : B ≤ k1) (h2 : k1 < B + 150) (h3 : B ≤ k2) (h4 : k2 < B + 150) : fr B M (m_fu M k1 k2 f) := (((fr_gc h1 (by omega)).tr (fr_out (by omega) (by omega))).tr (fr_wi h3 (by omega))).tr (fr_in (by omega) (by omega))
theorem fr_runs {B k1 k2 : Nat} {M : w_M} {f : Int32} (h1 : B ≤ k1) (h2 : k1 < B + 150) (h3 : B ≤ k2) (h4 : k2 < B + 150) : fr B M (m_runs M k1 k2 f) := (fr_wi h1 (by omega)).tr (fr_wi h3 (by omega))
theorem fr_level {B k1 k2 : Nat} {M : w_M} (h1 : B ≤ k1) (h2 : k1 < B + 150) (h3 : B ≤ k2) (h4 : k2 < B + 150) : fr B M (m_level M k1 k2) := by
  unfold m_level; split
  · exact (fr_fl h1 h2 h3 h4).tr (fr_runs h1 h2 h3 h4)
  · split
    · exact (fr_fu h3 h4 h1 h2).tr (fr_runs h1 h2 h3 h4)
    · exact fr_runs h1 h2 h3 h4
theorem fr_creep {B k1 k2 : Nat} {M : w_M} (h1 : B ≤ k1) (h2 : k1 < B + 150) (h3 : B ≤ k2) (h4 : k2 < B + 150) : fr B M (m_creep M k1 k2) := by
  unfold m_creep; split
  · exact (fr_fl h1 h2 h3 h4).tr (fr_fu h3 h4 h1 h2)
  · exact fr.rf
theorem fr_mix {B k : Nat} {M : w_M} (h : B ≤ k) (h2 : k < B + 150) : fr B M (m_mix M k) := by
  unfold m_mix; split
  · exact fr.rf
  · split
    · exact (fr_wi (by omega) (by omega)).tr (fr_wi (by omega) (by omega))
    · exact fr.rf
theorem fr_set {B k : Nat} {M : w_M} (h : B ≤ k) (h2 : k < B + 150) : fr B M (m_set M k) := by
  unfold m_set; split
  · exact (fr_wi h (by omega)).tr (fr_wi h (by omega))
  · split
    · exact (fr_wi h (by omega)).tr (fr_wi h (by omega))
    · exact fr.rf
theorem fr_take {B k u : Nat} {M : w_M} (h : B ≤ k) (h2 : k < B + 200) (h3 : B ≤ u) (h4 : u < B + 200) : fr B M (m_take M k u (B + 5)) := by
  unfold m_take; split
  · exact (((((fr_wi h h2).tr (fr_out h3 h4)).tr (fr_wi h h2)).tr (fr_wi h h2)).tr (fr_wj (by omega) (by omega))).tr (fr_wj (by omega) (by omega))
  · exact (fr_wi h h2).tr (fr_wi h h2)
theorem fr_sup {B k : Nat} {M : w_M} (h : B ≤ k) (h2 : k < B + 200) : fr B M (m_sup M k) := (fr_wi h h2).tr (fr_wi h h2)
theorem fr_srv {B n : Nat} {M : w_M} (hn : n ≤ 8) (h5 : iv M B 5 = nI n) : ∀ i, i ≤ 6 → fr B M (m_srv M B i)
  | 0, _ => fr.rf
  | i + 1, hi => by
    have z := fr_srv hn h5 i (by omega)
    have e5 : iv (m_srv M B i) B 5 = nI n := by rw [lo_srv i B (by omega)]; exact h5
    refine z.tr ?_
    show fr B (m_srv M B i) (m_tk (m_srv M B i) B i)
    unfold m_tk
    by_cases q : s_has (m_srv M B i) B (iv (m_srv M B i) (B + 150 + i) 0) = 0
    · rw [if_pos q]; exact fr_sup (by omega) (by omega)
    · rw [if_neg q]
      obtain ⟨j, hj, ej⟩ := u_hasN hn e5 q
      have : cN (iv (m_srv M B i) (B + 150 + i) 0) = j := by rw [ej]; exact cN_nI (by omega)
      rw [this]
      exact (fr_take (by omega) (by omega) (by omega) (by omega)).tr (fr_sup (by omega) (by omega))
theorem fr_r0 {B : Nat} {M : w_M} : ∀ i, i ≤ 8 → fr B M (m_r0 M B i)
  | 0, _ => fr.rf
  | i + 1, hi => (fr_r0 i (by omega)).tr (fr_wi (by omega) (by omega))
theorem fr_lv {B : Nat} {M : w_M} : ∀ i, i ≤ 8 → fr B M (m_lv M B i)
  | 0, _ => fr.rf
  | i + 1, hi => ((fr_lv i (by omega)).tr (fr_level (by omega) (by omega) (by omega) (by omega))).tr (fr_creep (by omega) (by omega) (by omega) (by omega))
theorem fr_mx {B : Nat} {M : w_M} : ∀ i, i ≤ 8 → fr B M (m_mx M B i)
  | 0, _ => fr.rf
  | i + 1, hi => ((fr_mx i (by omega)).tr (fr_mix (by omega) (by omega))).tr (fr_set (by omega) (by omega))
theorem fr_eh {B t : Nat} {M : w_M} : ∀ i, i ≤ 8 → fr B M (m_eh M B t i)
  | 0, _ => fr.rf
  | i + 1, hi => (fr_eh i (by omega)).tr (fr_wi (by omega) (by omega))
theorem fr_ab {B n : Nat} {M : w_M} {x : Int32} (hn : n ≤ 8) : fr B M (m_ab M B n x) := by
  unfold m_ab; split
  · exact fr.rf
  · split
    · exact (fr_sea (by omega) (by omega)).tr (fr_riv (by omega) (by omega))
    · exact fr_riv (by omega) (by omega)
theorem fr_lk3 {B t : Nat} {M : w_M} : fr B M (m_lk3 M (B + 2) (B + 1) t) := by
  unfold m_lk3; split
  · exact fr.rf
  · exact (fr_wi (by omega) (by omega)).tr (fr_wi (by omega) (by omega))
theorem fr_look {B t : Nat} {M : w_M} : fr B M (m_look M (B + 2) (B + 1) t) := by
  unfold m_look; split
  · split
    · exact ((fr_wi (by omega) (by omega)).tr (((fr_wi (by omega) (by omega)).tr (fr_wi (by omega) (by omega))).tr (fr_wi (by omega) (by omega)))).tr fr_lk3
    · exact (fr_wi (by omega) (by omega)).tr fr_lk3
  · exact fr_wi (by omega) (by omega)
theorem fr_hr {B n ic : Nat} {M : w_M} (hn : n ≤ 8) (hi : ic ≤ 6) (h5 : iv M B 5 = nI n) (h6 : iv M B 6 = nI ic) : fr B M (m_hr M B) := by
  unfold m_hr
  rw [h5, h6, cN_nI (show n < 2 ^ 31 by omega), cN_nI (show ic < 2 ^ 31 by omega)]
  generalize s_for M (B + 1) (nI (cN (iv M B 9))) = x
  generalize cN (iv M B 9) = t
  refine fr.tr ?_ (fr_wi (by omega) (by omega))
  unfold m_hour
  refine fr.tr ?_ (fr_wi (by omega) (by omega))
  have e5 : iv (m_mx (m_lv (m_ab (m_look (m_r0 M B n) (B + 2) (B + 1) t) B n x) B (n - 1)) B n) B 5 = nI n := by
    rw [lo_mx n B (by omega), lo_lv (n - 1) B (by omega), lo_ab B (by omega), ne_look (by omega) (by omega) (by omega) (by omega), lo_r0 n B (by omega)]; exact h5
  exact ((((((fr_r0 n hn).tr fr_look).tr (fr_ab hn)).tr (fr_lv (n - 1) (by omega))).tr (fr_mx n hn)).tr (fr_srv hn e5 ic hi)).tr (fr_eh n hn)
theorem fr_go {B n ic : Nat} (hn : n ≤ 8) (hi : ic ≤ 6) : ∀ (c : Nat) {M : w_M}, iv M B 5 = nI n → iv M B 6 = nI ic → fr B M (m_go M B c)
  | 0, _, _, _ => fr.rf
  | c + 1, M, h5, h6 => (fr_hr hn hi h5 h6).tr (fr_go hn hi c (by rw [hr_B (by omega)]; exact h5) (by rw [hr_B (by omega)]; exact h6))
/-! the reference's -/
theorem fg_lv {Y a s : Nat} {M : w_M} {f : Int32} : fr Y M (g_lv M Y a s f) := ((((fr_wi (by omega) (by omega)).tr (fr_wi (by omega) (by omega))).tr (fr_wi (by omega) (by omega))).tr (fr_wi (by omega) (by omega))).tr (fr_wi (by omega) (by omega))
theorem fg_fl {Y a s t : Nat} {M : w_M} {f : Int32} : fr Y M (g_fl M Y a s t f) := ((fg_lv.tr (fr_wi (by omega) (by omega))).tr (fr_wi (by omega) (by omega))).tr (fr_wi (by omega) (by omega))
theorem fg_a {Y a j : Nat} {M : w_M} {x : Int32} (h : Y ≤ a) (h2 : a < Y + 200) : fr Y M (g_a M a j x) := fr_wi h h2
theorem fg_b {Y a j : Nat} {M : w_M} {x : Int32} (h : Y ≤ a) (h2 : a < Y + 200) : fr Y M (g_b M a j x) := fr_wi h h2
theorem fg_mo {Y : Nat} {M : w_M} {x : Int32} : fr Y M (g_mo M Y x) := by
  unfold g_mo; split
  · exact (((fg_a (by omega) (by omega)).tr (fg_a (by omega) (by omega))).tr fr_gsadd).tr fr_gsadd
  · exact ((fg_lv.tr fr_gsadd).tr fr_gsadd).tr fr_gsadd
theorem fg_nr {Y k : Nat} {M : w_M} {f : Int32} : fr Y M (g_nr M Y k f) := (fg_a (by omega) (by omega)).tr (fg_a (by omega) (by omega))
theorem fg_n1 {Y k : Nat} {M : w_M} : fr Y M (g_n1 M Y k) := by
  unfold g_n1; split
  · exact fg_fl.tr fg_nr
  · exact fg_fl.tr fg_nr
theorem fg_n2 {Y k : Nat} {M : w_M} : fr Y M (g_n2 M Y k) := by
  unfold g_n2; split
  · exact fg_fl.tr fg_fl
  · exact fr.rf
theorem fg_nbs {Y : Nat} {M : w_M} : ∀ i, fr Y M (g_nbs M Y i)
  | 0 => fr.rf
  | i + 1 => ((fg_nbs i).tr fg_n1).tr fg_n2
theorem fg_mx {Y s : Nat} {M : w_M} : fr Y M (g_mx M Y s) := by
  unfold g_mx; split
  · exact fr.rf
  · split
    · exact (fr_wi (by omega) (by omega)).tr (fr_wi (by omega) (by omega))
    · exact fr.rf
theorem fg_mxs {Y : Nat} {M : w_M} : ∀ i, fr Y M (g_mxs M Y i)
  | 0 => fr.rf
  | i + 1 => (fg_mxs i).tr fg_mx
theorem fg_s1 {Y s : Nat} {M : w_M} : fr Y M (g_s1 M Y s) := by
  unfold g_s1; split
  · exact (fr_wi (by omega) (by omega)).tr (fr_wi (by omega) (by omega))
  · exact fr.rf
theorem fg_s2 {Y s : Nat} {M : w_M} : fr Y M (g_s2 M Y s) := by
  unfold g_s2; split
  · exact (fr_wi (by omega) (by omega)).tr (fr_wi (by omega) (by omega))
  · exact fr.rf
theorem fg_sts {Y : Nat} {M : w_M} : ∀ i, fr Y M (g_sts M Y i)
  | 0 => fr.rf
  | i + 1 => ((fg_sts i).tr fg_s1).tr fg_s2
theorem fg_d1 {Y k : Nat} {M : w_M} {x : Int32} : fr Y M (g_d1 M Y k x) := (fr_wi (by omega) (by omega)).tr (fg_a (by omega) (by omega))
theorem fg_d2 {Y k s : Nat} {M : w_M} {f : Int32} : fr Y M (g_d2 M Y k s f) := ((((fg_lv.tr (fr_wi (by omega) (by omega))).tr (fg_a (by omega) (by omega))).tr (fg_a (by omega) (by omega))).tr fr_gsadd).tr fr_gsadd
theorem fg_d3 {Y k : Nat} {M : w_M} : fr Y M (g_d3 M Y k) := (fg_b (by omega) (by omega)).tr (fg_a (by omega) (by omega))
theorem fg_dr {Y k s : Nat} {M : w_M} : fr Y M (g_dr M Y k s) := by
  unfold g_dr; split
  · exact (fg_d1.tr fg_d2).tr fg_d3
  · exact fg_d1.tr fg_d3
theorem fg_drs {Y : Nat} {M : w_M} : ∀ i, fr Y M (g_drs M Y i)
  | 0 => fr.rf
  | i + 1 => (fg_drs i).tr fg_dr
theorem fg_r0 {Y : Nat} {M : w_M} : ∀ i, fr Y M (g_r0 M Y i)
  | 0 => fr.rf
  | i + 1 => (fg_r0 i).tr (fr_wi (by omega) (by omega))
theorem fg_ts {Y t : Nat} {M : w_M} : ∀ i, fr Y M (g_ts M Y t i)
  | 0 => fr.rf
  | i + 1 => (fg_ts i).tr (fr_wi (by omega) (by omega))
theorem fg_rv {Y n : Nat} {M : w_M} : fr Y M (g_rv M Y n) := (((fg_a (by omega) (by omega)).tr (fg_a (by omega) (by omega))).tr fr_gsadd).tr fr_gsadd
theorem fg_ab {Y n : Nat} {M : w_M} {sh : Bool} {x : Int32} : fr Y M (g_ab M Y n sh x) := by
  unfold g_ab; split
  · exact fr.rf
  · split
    · exact fg_rv
    · exact fg_mo.tr fg_rv
theorem fg_c0 {Y : Nat} {M : w_M} {x : Int32} : fr Y M (g_c0 M Y x) := by
  unfold g_c0; split
  · unfold g_cl
    refine fr.tr (M1 := g_c1 M Y) ?_ ((fr_wi (by omega) (by omega)).tr (fr_wi (by omega) (by omega)))
    unfold g_c1; split
    · exact fr.rf
    · exact (fr_wi (by omega) (by omega)).tr (fr_wi (by omega) (by omega))
  · exact fr.rf
theorem fg_hour {Y : Nat} {M : w_M} : fr Y M (g_hour M Y) := by
  unfold g_hour g_hrn g_e1 g_e2 g_e3 g_e4 g_e5
  exact (((((((((fg_r0 _).tr fg_c0).tr fg_ab).tr (fg_nbs _)).tr (fg_mxs _)).tr (fg_sts _)).tr (fg_drs _)).tr (fg_ts _)).tr (fr_wi (by omega) (by omega))).tr (fr_wi (by omega) (by omega))
theorem fg_gos {Y : Nat} : ∀ (c : Nat) {M : w_M}, fr Y M (g_gos M Y c)
  | 0, _ => fr.rf
  | c + 1, _ => fg_hour.tr (fg_gos c)
/-! the relation, under other memories -/
theorem RR.cM {M M' : w_M} {B : Nat} {N : w_M} {Y n ic t : Nat} (h : RR M B N Y n ic t) (e : ∀ a, B ≤ a → a < B + 200 → ∀ j, iv M' a j = iv M a j) (ej : ∀ j, jv M' (B + 5) j = jv M (B + 5) j) : RR M' B N Y n ic t := by
  have hn := h.n8; have hi := h.i6
  have c5 := (cB_le h.gt.tc (by decide)).2
  refine ⟨h.n8, h.i6, h.t1, ?_, ?_, ?_, h.Nn, h.Ni, h.Nt, ?_, ?_, h.b, h.gi, ?_, h.gt, h.w0, h.w1, h.s0, h.s1, ?_, ?_, h.ld, h.zs, h.zi⟩
  · rw [e _ (by omega) (by omega)]; exact h.Mn
  · rw [e _ (by omega) (by omega)]; exact h.Mi
  · rw [e _ (by omega) (by omega)]; exact h.Mt
  · have c := h.rc
    exact ⟨fun i hi => by rw [e _ (by omega) (by omega)]; exact c.ar i hi, fun i hi => by rw [e _ (by omega) (by omega)]; exact c.mu i hi, fun i hi => by rw [e _ (by omega) (by omega)]; exact c.cl i hi, fun i hi => by rw [e _ (by omega) (by omega)]; exact c.ru i hi, fun i hi => by rw [e _ (by omega) (by omega)]; exact c.pe i hi, fun i hi => by rw [e _ (by omega) (by omega)]; exact c.wu i hi, fun i hi => by rw [e _ (by omega) (by omega)]; exact c.su i hi, fun i hi => by rw [e _ (by omega) (by omega)]; exact c.wl i hi, fun i hi => by rw [e _ (by omega) (by omega)]; exact c.sl i hi, fun i hi => by rw [ej]; exact c.sm i hi, fun k hk j hj => by rw [e _ (by omega) (by omega)]; exact c.it k hk j hj, by rw [e _ (by omega) (by omega)]; exact c.rw, by rw [e _ (by omega) (by omega)]; exact c.rs, fun i hi j => rfl⟩
  · intro s hs τ hτ h24; rw [e _ (by omega) (by omega)]; exact h.ta s hs τ hτ h24
  · exact h.rt.M h.gt (fun a ha j => e _ (by omega) (by omega) j)
  · intro τ hτ; rw [e _ (by omega) (by omega)]; exact h.pa τ hτ
  · have r := h.rb
    refine ⟨?_, ?_, ?_, r.c5, ?_, ?_, ?_, r.z, ?_, r.v⟩
    · rw [e _ (by omega) (by omega)]; exact r.mk9
    · rw [e _ (by omega) (by omega)]; exact r.ld
    · rw [e _ (by omega) (by omega)]; exact r.cc
    · intro i hi; rw [e _ (by omega) (by omega)]; exact r.fi i hi
    · intro i hi; rw [e _ (by omega) (by omega)]; exact r.la i hi
    · intro i hi; rw [e _ (by omega) (by omega)]; exact r.ri i hi
    · rw [e _ (by omega) (by omega)]; exact r.go
theorem RR.cN36 {M : w_M} {B : Nat} {N N' : w_M} {Y n ic t : Nat} (h : RR M B N Y n ic t) (e : ∀ a, Y ≤ a → a < Y + 36 → ∀ j, (a ≠ Y ∨ (j ≠ 0 ∧ j ≠ 36)) → iv N' a j = iv N a j) (ej : ∀ j, jv N' (Y + 40) j = jv N (Y + 40) j) : RR M B N' Y n ic t := by
  refine ⟨h.n8, h.i6, h.t1, h.Mn, h.Mi, h.Mt, ?_, ?_, ?_, ?_, ?_, ?_, ?_, ?_, ?_, ?_, ?_, ?_, ?_, ?_, ?_, ?_, ?_, ?_⟩
  · rw [e _ (by omega) (by omega) _ (by omega)]; exact h.Nn
  · rw [e _ (by omega) (by omega) _ (by omega)]; exact h.Ni
  · rw [e _ (by omega) (by omega) _ (by omega)]; exact h.Nt
  · exact h.rc.N2 (fun a j q => e _ (by omega) (by omega) _ (by omega)) ej
  · intro s hs τ hτ h24; rw [e _ (by omega) (by omega) _ (by omega)]; exact h.ta s hs τ hτ h24
  · exact h.b.same (fun i => e _ (by omega) (by omega) _ (by omega)) (fun i => e _ (by omega) (by omega) _ (by omega)) (fun i => e _ (by omega) (by omega) _ (by omega)) (fun i => e _ (by omega) (by omega) _ (by omega))
  · exact h.gi.same (fun a a1 a2 k => e _ (by omega) (by omega) _ (by omega))
  · exact h.rt.N (e _ (by omega) (by omega) _ (by omega)) (e _ (by omega) (by omega) _ (by omega)) (e _ (by omega) (by omega) _ (by omega)) (fun j => e _ (by omega) (by omega) _ (by omega)) (fun j => e _ (by omega) (by omega) _ (by omega))
  · exact h.gt.e (e _ (by omega) (by omega) _ (by omega)) (e _ (by omega) (by omega) _ (by omega)) (e _ (by omega) (by omega) _ (by omega)) (fun j => e _ (by omega) (by omega) _ (by omega)) (fun j => e _ (by omega) (by omega) _ (by omega))
  · rw [e _ (by omega) (by omega) _ (by omega)]; exact h.w0
  · rw [e _ (by omega) (by omega) _ (by omega)]; exact h.w1
  · rw [e _ (by omega) (by omega) _ (by omega)]; exact h.s0
  · rw [e _ (by omega) (by omega) _ (by omega)]; exact h.s1
  · intro τ hτ; rw [e _ (by omega) (by omega) _ (by omega)]; exact h.pa τ hτ
  · have r := h.rb
    have e12 : iv N' Y 12 = iv N Y 12 := e _ (by omega) (by omega) _ (by omega)
    have ego : g_go N' Y = g_go N Y := by unfold g_go; rw [e12, e _ (by omega) (by omega) _ (by omega), e _ (by omega) (by omega) _ (by omega)]
    refine ⟨?_, ?_, ?_, ?_, ?_, ?_, ?_, ?_, ?_, ?_⟩
    · rw [e _ (by omega) (by omega) _ (by omega)]; exact r.mk9
    · rw [e _ (by omega) (by omega) _ (by omega)]; exact r.ld
    · rw [e12]; exact r.cc
    · rw [e12]; exact r.c5
    · rw [e12]; intro i hi; rw [e _ (by omega) (by omega) _ (by omega)]; exact r.fi i hi
    · rw [e12]; intro i hi; rw [e _ (by omega) (by omega) _ (by omega)]; exact r.la i hi
    · rw [e12]; intro i hi; rw [e _ (by omega) (by omega) _ (by omega)]; exact r.ri i hi
    · rw [e12]; intro i hi; rw [e _ (by omega) (by omega) _ (by omega)]; exact r.z i hi
    · rw [ego]; exact r.go
    · rw [e12, e _ (by omega) (by omega) _ (by omega)]; exact r.v
  · rw [e _ (by omega) (by omega) _ (by omega)]; exact h.ld
  · intro q s hs hs8
    rw [e _ (by omega) (by omega) _ (by omega), e _ (by omega) (by omega) _ (by omega), e _ (by omega) (by omega) _ (by omega), e _ (by omega) (by omega) _ (by omega), e _ (by omega) (by omega) _ (by omega)]
    exact h.zs q s hs hs8
  · intro k hk a a1 a2; rw [e _ (by omega) (by omega) _ (by omega)]; exact h.zi k hk a a1 a2
theorem RR.kN {M : w_M} {B : Nat} {N N' : w_M} {Y n ic t : Nat} (h : RR M B N Y n ic t) (e : ∀ a, Y ≤ a → a < Y + 36 → ∀ j, (a ≠ Y ∨ j ≠ 0) → iv N' a j = iv N a j) (ej : ∀ j, jv N' (Y + 40) j = jv N (Y + 40) j) : RR M B N' Y n ic t :=
  h.cN36 (fun a a1 a2 j q => e a a1 a2 j (by omega)) ej
