/-! THE LAW: its script, its own look, its calls with cells left -/
def op_sx (N : Nat) (xs : Nat → Int32) (a : Nat) (i : Int32) : Option Int32 := if a = 2000000 then (op_ix i N).map xs else none
def op_sn (N : Nat) (a : Nat) : Option Int32 := if a = 2000000 then some (Int32.ofNat N) else none
section
variable {G : ah_G} {mi mi' : ah_M} {dp kc ks pc : Nat} {lv : List (Nat × Value)} {rest : List Value} {σ : ah_H} {Q : ah_Z}
theorem ow_sx {N a : Nat} {xs : Nat → Int32} {i v : Int32} (hN : ah_sn G = N) (hx : ah_xs G = xs) (h : op_sx N xs a i = some v) (hd : decode mi.2.1 pc = .ok (.iaload, 1)) (k : AW G mi dp kc ks (pc + 1) lv (.int v :: rest) σ Q) : AW G mi dp kc ks pc lv (.int i :: .ref a :: rest) σ Q := by
  obtain ⟨rfl, h⟩ := op_if h
  obtain ⟨q, h1, rfl⟩ := op_mp h
  obtain ⟨h2, rfl⟩ := op_ix_in h1
  subst hN
  subst hx
  intro p e R s m args below meth c H locs cells slots ls hC u1 u2 hR hS hl
  obtain ⟨cell, g1, g2, g3, g4, g5, g6, g7⟩ := hC.2.2.2.2.2.2.2.2.1.2.2.2.2.2.2.2.2.2.2.2.kept (ah_now hR)
  have hlt : i.toNatClampNeg < ah_sn G := Nat.not_le.mp fun q => h2 (Or.inr q)
  refine W.iald (a := G.2.2.2.1 2000000) (v := .int (ah_xs G i.toNatClampNeg)) hC.1 hC.2.1 g1 g2 g3 (fun z => h2 (z.imp id (fun z => Nat.le_trans g4 z))) (g6 _ hlt) rfl ?_ hd (k p e R s m args below meth c H locs cells slots ls hC u1 u2 hR hS hl)
  show _ :: Value.ref (ah_rho G _) :: _ = _
  rw [ah_rho_t G _ (by omega)]
  rfl
theorem ow_sn {N a : Nat} {v : Int32} (hN : ah_sn G = N) (h : op_sn N a = some v) (hd : decode mi.2.1 pc = .ok (.arraylength, 1)) (k : AW G mi dp kc ks (pc + 1) lv (.int v :: rest) σ Q) : AW G mi dp kc ks pc lv (.ref a :: rest) σ Q := by
  obtain ⟨rfl, h⟩ := op_if h
  cases h
  subst hN
  intro p e R s m args below meth c H locs cells slots ls hC u1 u2 hR hS hl
  obtain ⟨cell, g1, g2, g3, g4, g5, g6, g7⟩ := hC.2.2.2.2.2.2.2.2.1.2.2.2.2.2.2.2.2.2.2.2.kept (ah_now hR)
  refine W.alen (a := G.2.2.2.1 2000000) (n := Int32.ofNat (ah_sn G)) hC.1 hC.2.1 g1 g2 g5 rfl ?_ hd (k p e R s m args below meth c H locs cells slots ls hC u1 u2 hR hS hl)
  show Value.ref (ah_rho G _) :: _ = _
  rw [ah_rho_t G _ (by omega)]
theorem ow_cViK {idx ci n b : Nat} {st : List Value} {r : Int32 × ah_H} (As : List Value) (hM : AM G mi' dp 0 0 (.ref b :: As) σ (ah_ri r)) (hs : (ah_S σ)[b]? = some (.inr ci)) (hst : st = As.reverse ++ .ref b :: rest) (hd : decode mi.2.1 pc = .ok (.invokevirtual idx, 3)) (hw : ah_Cv mi.1.cls idx ci mi' n) (hn : As.length = n) (hr : (rest.map fun v => v.category).sum ≤ 8) (k : AW G mi (dp + 1) kc ks (pc + 3) lv (.int r.1 :: rest) r.2 Q) : AW G mi (dp + 1) kc ks pc lv st σ Q := by
  subst hst
  have := aw_callV (ka := 0) (kb := 0) (kc := kc) (ks := ks) (Q := Q) As hd hw hs hn hr hM (fun v τ q => by obtain ⟨rfl, rfl⟩ := q; exact k)
  rwa [Nat.zero_add, Nat.zero_add] at this
theorem ow_cVlK {idx ci n b : Nat} {st : List Value} {r : Int64 × ah_H} (As : List Value) (hM : AM G mi' dp 0 0 (.ref b :: As) σ (ah_rl r)) (hs : (ah_S σ)[b]? = some (.inr ci)) (hst : st = As.reverse ++ .ref b :: rest) (hd : decode mi.2.1 pc = .ok (.invokevirtual idx, 3)) (hw : ah_Cv mi.1.cls idx ci mi' n) (hn : As.length = n) (hr : (rest.map fun v => v.category).sum ≤ 8) (k : AW G mi (dp + 1) kc ks (pc + 3) lv (.long r.1 :: rest) r.2 Q) : AW G mi (dp + 1) kc ks pc lv st σ Q := by
  subst hst
  have := aw_callV (ka := 0) (kb := 0) (kc := kc) (ks := ks) (Q := Q) As hd hw hs hn hr hM (fun v τ q => by obtain ⟨rfl, rfl⟩ := q; exact k)
  rwa [Nat.zero_add, Nat.zero_add] at this
end
/-- the law's own look: 0 with the number in the row, or 1 or 2 for the exception -/
def f_L_look (x : Nat) (p0 p1 : Int32) (out : Nat) (σ : ah_H) : Option (Int32 × ah_H) := (lk_g x p0 p1 σ).bind fun g => if g.1 = 0 then (op_sL σ out 0 (Int32.toInt64 g.2)).map fun τ => ((0 : Int32), τ) else some (g.1, σ)
abbrev m_L_look : ah_M := (yL_look, cL_look, 5, some .int)
abbrev m_L_law : ah_M := (yL_law, cL_law, 7, some .boolean)
def ll_hh : List (Nat × Nat × Nat × Nat) := [(0, 10, 13, 13), (0, 10, 17, 15)]
def ll_ws : List Cond := Cond.codeWith yL_look cL_look 5 (some .int) ll_hh :: ah_TW
theorem ll_cw : ∀ w ∈ [Cond.codeWith yL_look cL_look 5 (some .int) ll_hh, Cond.classLink RL 13 lk_1, Cond.classLink RL 15 lk_2, Cond.methodLink RL 39 yL_look, Cond.static yL_look, Cond.initialized RL], w ∈ ah_TW := by decide +kernel
def ll_Z (G : ah_G) (r : Int32 × ah_H) : ah_Z := fun below args s R c t => (lk_W s ∧ c.exceptionTable.toList = tableOf ll_hh) → vx_MQ below (ah_Q G (ah_ri r)) (fun _ _ _ => False) args s R.cells R.slots (ah_A G) t
theorem ll_ret {G : ah_G} {mi : ah_M} {dp kc ks pc : Nat} {lv : List (Nat × Value)} {rest : List Value} {σ : ah_H} {r : Int32 × ah_H} (k : AW G mi dp kc ks pc lv rest σ (ah_N G (ah_ri r))) : AW G mi dp kc ks pc lv rest σ (ll_Z G r) := by
  intro p e R s m args below meth c H locs cells slots ls hC u1 u2 hR hS hl T hT X
  obtain ⟨t, a1, o, b1, b2, b3, b4⟩ := k p e R s m args below meth c H locs cells slots ls hC u1 u2 hR hS hl T hT X
  exact ⟨t, a1, fun _ => ⟨o, b1, b2, Or.inl ⟨b3, b4⟩⟩⟩
set_option maxRecDepth 100000 in
set_option maxHeartbeats 4000000 in
theorem ll_body {G : ah_G} (hne : ¬ ah_ex G) (x : Nat) (p0 p1 : Int32) (out : Nat) (σ : ah_H) (r : Int32 × ah_H) (h : f_L_look x p0 p1 out σ = some r) : AW G m_L_look 12 1 6 0 [(0, .ref x), (1, .int p0), (2, .int p1), (3, .ref out)] [] σ (ll_Z G r) := by
  obtain ⟨g, e1, h⟩ := op_bd h
  refine aw_aload_n (pc := 0) 3 dL_look_0 rfl ?_
  refine aw_iconst (pc := 1) (v := (0 : Int32)) dL_look_1 (by decide) ?_
  refine aw_aload_n (pc := 2) 0 dL_look_2 rfl ?_
  refine aw_iload_n (pc := 3) 1 dL_look_3 rfl ?_
  refine aw_iload_n (pc := 4) 2 dL_look_4 rfl ?_
  intro p e R s m args below meth c H locs cells slots ls hC u1 u2 hR hS hl
  by_cases hP : lk_W s ∧ c.exceptionTable.toList = tableOf ll_hh
  · have hts := hC.2.2.2.2.1
    obtain ⟨rr, h3, cel, q1, q2, q3, q4⟩ := hR.2.2.1 x _ (op_ck_sh e1)
    have hrr : rr = (RX11, TX11, 9) := Option.some.inj (h3.symm.trans rfl)
    subst hrr
    have hfc := (hC.2.2.2.2.2.2.2.2.1.1.1 11 _ rfl).2.1
    have hrun := vx_runV (As := [.int p0, .int p1]) (b := ah_rho G x) (C := RX11) (cc := m_L_look.2.1) (nL := m_L_look.2.2.1) (Ts := ah_TW) (n := 2) (p := p) (l := G.1) (e := e) (below := below) (meth := meth) (H := H) (locs := locs) (cells := cells) (slots := slots) (g := F0 m 5 ls [.int p1, .int p0, .ref (ah_rho G x), .int 0, .ref (ah_rho G out)]) (rest := [.int 0, .ref (ah_rho G out)]) ⟨hC.1, hC.2.1, hC.2.2.1, hC.2.2.2.1, hts⟩ (lk_met hne x p0 p1 σ g e1 (ah_rm 11 1 6) (by decide) (by decide) rfl rfl)
      ⟨ah_cB (dp := 11) (kc := 1) (ks := 6) hC cw_L_7.1, hts _ cw_L_7.2.1, by obtain ⟨C9, T9, N9, hc9, hw9⟩ := cw_L_7.2.2; cases hc9; exact hts _ hw9⟩ ⟨fun a U g mk h => ⟨ah_blind a U g mk h.1, h.2.same rfl⟩, ⟨cel, q1, by rw [q3]; rfl, by rw [q2]; exact hfc⟩, fun U hU hW => ⟨⟨rfl, by rw [hU]; exact hR, ah_K.warm hW hC.2.2.2.2.2.2.2.2.1⟩, hP.1.warm hW⟩⟩ rfl rfl hl.1 rfl (lv_room (Nat.le_of_ble_eq_true rfl)) dL_look_5 ⟨by omega, by omega⟩
    intro T hT X
    rcases hrun T hT X with ⟨v, st₀, t, T', L, z0, X', hL, f1, f2, ⟨v', τ, hv, ⟨hg, hv', hτ⟩, hRel, hz, hk⟩, st⟩ | ⟨q, st₀, t, T', L, E, ce, z0, X', hL, f1, f2, ⟨hgE, hRel, hz, hk⟩, hce, hcv, hcl, st⟩
    · cases hv
      subst hv'
      subst hτ
      rw [z0] at hz hk
      have hS' : va_S (ah_A G) s.heap T'.heap (locs ++ L) := ⟨Nat.le_trans hS.1 (by rw [f1]; exact hz), fun q g1 g2 => by rw [f1, hk q (Nat.lt_of_lt_of_le g1 hS.1) g2]; exact hS.2.1 q g1 g2, fun q hq => by
        rcases List.mem_append.mp hq with h | h
        · exact hS.2.2 q h
        · exact hL q h⟩
      replace h := (if_pos hg).symm.trans h
      obtain ⟨τ1, e2, h⟩ := op_mp h
      subst h
      have kk : AW G m_L_look 12 0 0 8 [(0, .ref x), (1, .int p0), (2, .int p1), (3, .ref out)] [.int g.2, .int 0, .ref out] τ (ll_Z G (0, τ1)) := by
        refine ll_ret ?_
        refine aw_i2l (pc := 8) dL_look_8 ?_
        refine ow_sL (pc := 9) e2 dL_look_9 ?_
        refine aw_goto (pc := 10) 21 dL_look_10 (by decide) ?_
        refine aw_iconst (pc := 21) (v := (0 : Int32)) dL_look_21 (by decide) ?_
        exact aw_iret (pc := 22) dL_look_22 rfl ⟨rfl, rfl⟩
      obtain ⟨t2, a1, b1⟩ := kk p e R s m args below meth c T'.heap (locs ++ L) (cells + 1) (slots + 6) ls hC (by omega) (by omega) (by rw [f1]; exact hRel) hS' hl T' rfl X'
      exact ⟨t2, st t2 a1, b1⟩
    · rw [z0] at hz hk
      have hS' : va_S (ah_A G) s.heap T'.heap (locs ++ L) := ⟨Nat.le_trans hS.1 (by rw [f1]; exact hz), fun q g1 g2 => by rw [f1, hk q (Nat.lt_of_lt_of_le g1 hS.1) g2]; exact hS.2.1 q g1 g2, fun q hq => by
        rcases List.mem_append.mp hq with h | h
        · exact hS.2.2 q h
        · exact hL q h⟩
      have hR' : ah_Rel G σ T'.heap := by rw [f1]; exact hRel
      have hne0 : ¬ g.1 = 0 := by
        rcases hgE with ⟨z, -⟩ | ⟨z, -⟩ <;> (rw [z]; decide)
      replace h := (if_neg hne0).symm.trans h
      cases h
      have hend : ∀ (hpc : Nat) (k : Int32), g.1 = k → decode m_L_look.2.1 (hpc + 3) = .ok (.ireturn, 1) → W p G.1 e R s m args below meth c T'.heap (locs ++ L) (cells + 1) (slots + 6) (vx_MQ below (ah_Q G (ah_ri (g.1, σ))) (fun _ _ _ => False) args s R.cells R.slots (ah_A G)) (F0 m (hpc + 3) ls [.int k]) → True := fun _ _ _ _ _ => trivial
      have fin : ∀ (pc9 : Nat) (k : Int32) (ls' : Array Slot), g.1 = k → decode m_L_look.2.1 pc9 = .ok (.ireturn, 1) → W p G.1 e R s m args below meth c T'.heap (locs ++ L) (cells + 1) (slots + 6) (vx_MQ below (ah_Q G (ah_ri (g.1, σ))) (fun _ _ _ => False) args s R.cells R.slots (ah_A G)) (F0 m pc9 ls' [.int k]) := by
        intro pc9 k ls' hk9 hd9
        refine vx_ret ?_
        rw [u1, u2]
        exact W.iret (Qc := ah_Q G (ah_ri (g.1, σ))) (free := ah_A G) hC.1 hC.2.1 hC.2.2.2.2.2.2.1 (fun t ht _ => ⟨some (.int k), σ, rfl, ⟨by rw [hk9], rfl⟩, by rw [ht]; exact hR', hS'.F ht⟩) hS'.2.2 hd9 hC.2.2.2.2.2.1.1
      have hcell : T'.heap[q]? = some ce := by rw [f1]; exact hce
      have hl2 := hl
      have key : vx_W p G.1 e R s m args below meth c T'.heap (locs ++ L) (cells + 1) (slots + 6) (vx_MQ below (ah_Q G (ah_ri (g.1, σ))) (fun _ _ _ => False) args s R.cells R.slots (ah_A G)) (F0 m 5 ls [.int 0, .ref (ah_rho G out)]) q := by
        rcases hgE with ⟨z, rfl⟩ | ⟨z, rfl⟩
        · refine vx_catch (own := RL) (name := lk_1) hC.2.2.2.1 [] ⟨0, 10, 13, 13⟩ [⟨0, 10, 17, 15⟩] (by rw [hP.2]; rfl) (fun z hz => by cases hz) (by decide) (by decide) (hts _ (ll_cw _ (by decide))) (va_Nw.use rfl hP.1.1) hcell hcv hcl ?_
          refine lv_astore (i := 4) (lv' := _) hC.1 hC.2.1 dL_look_13 hl (by decide) rfl (fun ls' _ => ?_)
          refine lv_iconst (v := 1) hC.1 hC.2.1 dL_look_15 (by decide) ?_
          exact fin 16 1 ls' z dL_look_16
        · refine vx_catch (own := RL) (name := lk_2) hC.2.2.2.1 [⟨0, 10, 13, 13⟩] ⟨0, 10, 17, 15⟩ [] (by rw [hP.2]; rfl) (fun z hz => by
            rw [List.mem_singleton] at hz
            subst hz
            exact Or.inr ⟨by decide, lk_1, hts _ (ll_cw _ (by decide)), hP.1.2.2.1⟩) (by decide) (by decide) (hts _ (ll_cw _ (by decide))) (va_Nw.use rfl hP.1.2.1) hcell hcv hcl ?_
          refine lv_astore (i := 4) (lv' := _) hC.1 hC.2.1 dL_look_17 hl (by decide) rfl (fun ls' _ => ?_)
          refine lv_iconst (v := 2) hC.1 hC.2.1 dL_look_19 (by decide) ?_
          exact fin 20 2 ls' z dL_look_20
      obtain ⟨t2, a1, b1⟩ := key T' rfl X'
      exact ⟨t2, st.trans a1, fun _ => b1⟩
  · intro T hT X
    exact ⟨_, Steps.refl _, fun h => absurd h hP⟩
/-- the law's look as the law sees it -/
theorem ll_met {G : ah_G} (hne : ¬ ah_ex G) (x : Nat) (p0 p1 : Int32) (out : Nat) (σ : ah_H) (r : Int32 × ah_H) (h : f_L_look x p0 p1 out σ = some r) (rm : Room) (h1 : 12 ≤ rm.frames) (h2 : 720 ≤ rm.locals) (h3 : rm.cells = 1) (h4 : rm.slots = 6) : vx_Met G.1 m_L_look.1 ll_ws rm (lk_P G [.ref x, .int p0, .int p1, .ref out] σ) (ah_Q G (ah_ri r)) (fun _ _ _ => False) 1 6 (ah_A G) := by
  refine vx_ofWH (cc := m_L_look.2.1) (maxL := m_L_look.2.2.1) (ret := m_L_look.2.2.2) (hh := ll_hh) (by decide) rfl ?_
  intro p e s m args below meth c s₁ B hml hv
  obtain ⟨⟨rfl, hR, hK⟩, hW⟩ := hv
  have hts := atoms_spec (ws := ll_ws) B.pre
  have hown : s.vm.findClass m_L_look.1.cls = some m.cls := findClass_of_methodNamed B.named
  have htab : c.exceptionTable.toList = tableOf ll_hh := vx_table (x := m_L_look.1) B (hts _ List.mem_cons_self)
  rw [lg_entry_eq]
  have hl := lv_entry ([.ref x, .int p0, .int p1, .ref out].map (ah_up G)) (n := m_L_look.2.2.1) (by rw [ah_sl_up]; exact Nat.le_of_ble_eq_true rfl)
  rw [ah_args_up] at hl
  have hh := ll_body hne x p0 p1 out σ r h p e (headSpec ll_ws rm).room s m _ below meth c s.heap [] 0 0 _ ⟨B.exec, B.bytes, hml, hown, fun w hw => hts w (List.mem_cons_of_mem _ hw), ⟨B.notSynchronized, Nat.le_trans (Nat.le_add_right _ _) hR.1.1, hR.2.2.2⟩, B.returns, fun hi => (name_of_methodNamed B.named B.method).1.trans hi, hK, h1, h2⟩ (by rw [Nat.zero_add]; exact h3) (by rw [Nat.zero_add]; exact h4) hR va_S.rf hl
  intro T hT X
  obtain ⟨t, a1, b1⟩ := hh T hT X
  have b2 := b1 ⟨hW, htab⟩
  rw [show (headSpec ll_ws rm).room.cells = 1 from h3, show (headSpec ll_ws rm).room.slots = 6 from h4] at b2
  exact ⟨t, a1, b2⟩
/-- what the law's walk is to reach, where the machine knows the two exceptions -/
def ah_NL (G : ah_G) (Q : Option Value → ah_H → Prop) : ah_Z := fun below args s R c t => lk_W s → ah_N G Q below args s R c t
section
variable {G : ah_G} {mi mi' : ah_M} {dp kc ks pc : Nat} {lv : List (Nat × Value)} {rest : List Value} {σ : ah_H} {Q : Option Value → ah_H → Prop}
theorem ah_nl {st : List Value} (k : AW G mi dp kc ks pc lv st σ (ah_N G Q)) : AW G mi dp kc ks pc lv st σ (ah_NL G Q) := by
  intro p e R s m args below meth c H locs cells slots ls hC u1 u2 hR hS hl T hT X
  obtain ⟨t, a1, b1⟩ := k p e R s m args below meth c H locs cells slots ls hC u1 u2 hR hS hl T hT X
  exact ⟨t, a1, fun _ => b1⟩
theorem ow_look {x out : Nat} {p0 p1 : Int32} {r : Int32 × ah_H} (hne : ¬ ah_ex G) (h : f_L_look x p0 p1 out σ = some r) (hmi : mi.1.cls = RL) (hd : decode mi.2.1 pc = .ok (.invokestatic 39, 3)) (hr : (rest.map fun v => v.category).sum ≤ 8) (k : AW G mi (dp + 13) kc ks (pc + 3) lv (.int r.1 :: rest) r.2 (ah_NL G Q)) : AW G mi (dp + 13) (kc + 1) (ks + 6) pc lv (.ref out :: .int p1 :: .int p0 :: .ref x :: rest) σ (ah_NL G Q) := by
  intro p e R s m args below meth c H locs cells slots ls hC u1 u2 hR hS hl
  by_cases hP : lk_W s
  · have hts := hC.2.2.2.2.1
    have hf := hC.2.2.2.2.2.2.2.2.2
    have hrun := vx_runSX (hh := ll_hh) (As := [.ref (ah_rho G x), .int p0, .int p1, .ref (ah_rho G out)]) (cc := mi.2.1) (nL := mi.2.2.1) (Ts := ah_TW) (n := 4) (own := RL) (p := p) (l := G.1) (e := e) (below := below) (meth := meth) (H := H) (locs := locs) (cells := cells) (slots := slots) (g := F0 m pc ls (.ref (ah_rho G out) :: .int p1 :: .int p0 :: .ref (ah_rho G x) :: rest.map (ah_up G))) (rest := rest.map (ah_up G)) ⟨hC.1, hC.2.1, hC.2.2.1, by rw [← hmi]; exact hC.2.2.2.1, hts⟩ (ll_met hne x p0 p1 out σ r h (ah_rm (dp + 12) 1 6) (by show 12 ≤ dp + 12; omega) (by show 720 ≤ 60 * (dp + 12); omega) rfl rfl)
      ⟨⟨rfl, rfl, by show dp + 12 + 1 ≤ R.frames; omega, by show 8 + (5 + 11) + 60 * (dp + 12) ≤ R.locals; omega, pay_in hts (fun w hw => by
        rcases List.mem_cons.mp hw with rfl | hw
        · exact ah_good _ (ll_cw _ (by decide))
        · exact ah_good _ hw), List.mem_cons_self⟩, hts _ (ll_cw _ (by decide)), hts _ (ll_cw _ (by decide)), ⟨by decide, by decide⟩, fun sig hsig => by
        have h9 : (parseMethodDescriptor yL_look.desc).map (fun d => d.parameters.length) = some 4 := by decide +kernel
        rw [hsig] at h9
        exact (Option.some.inj h9).symm, hts _ (ll_cw _ (by decide)), hts _ (ll_cw _ (by decide))⟩
      ⟨fun a U g mk h => ⟨ah_blind a U g mk h.1, h.2.same rfl⟩, fun U hU hW => ⟨⟨rfl, by rw [hU]; exact hR, ah_K.warm hW hC.2.2.2.2.2.2.2.2.1⟩, hP.warm hW⟩⟩ rfl rfl hl.1 rfl (lv_room (ah_cats hr)) hd ⟨by omega, by omega⟩
    intro T hT X
    rcases hrun T hT X with ⟨v, st₀, t, T', L, z0, X', hL, f1, f2, ⟨v', τ, hv, ⟨hv', hτ⟩, hRel, hz, hk⟩, st⟩ | ⟨q, st₀, t, T', L, E, ce, z0, X', hL, f1, f2, hfalse, -⟩
    · cases hv
      subst hv'
      subst hτ
      rw [z0] at hz hk
      obtain ⟨t2, a1, b1⟩ := k p e R s m args below meth c T'.heap (locs ++ L) (cells + 1) (slots + 6) ls hC (by omega) (by omega) (by rw [f1]; exact hRel) ⟨Nat.le_trans hS.1 (by rw [f1]; exact hz), fun q g1 g2 => by rw [f1, hk q (Nat.lt_of_lt_of_le g1 hS.1) g2]; exact hS.2.1 q g1 g2, fun q hq => by
        rcases List.mem_append.mp hq with h | h
        · exact hS.2.2 q h
        · exact hL q h⟩ hl T' rfl X'
      exact ⟨t2, st t2 a1, b1⟩
    · exact hfalse.elim
  · intro T hT X
    exact ⟨_, Steps.refl _, fun h => absurd h hP⟩
end
