/-! look: it returns, or throws one of two exceptions; the law's own look catches them -/
def lk_1 : String := "java/lang/IndexOutOfBoundsException"
def lk_2 : String := "java/util/NoSuchElementException"
def lk_ns : List String := ["java/lang/RuntimeException", "java/lang/Exception"]
/-- what an answer of look is: 0 and the number, or 1 or 2 for the exception -/
def lk_g (x : Nat) (p0 p1 : Int32) (σ : ah_H) : Option (Int32 × Int32) := op_ck 11 σ x ((op_gR 11 2 σ x).bind fun t => (f_X9_isCorner t p0 σ).bind fun r => if r.1 = 0 then some (1, 0) else if p1 < 0 then some (2, 0) else if p1 ≤ 2 then (op_gR 9 1 σ t).bind fun c => (op_aR .int σ c p0).bind fun w => (op_aI σ w p1).bind fun v => some (0, v) else some (2, 0))
def lk_d1 : Cond := .declares (Bundle.init0 "java/lang/RuntimeException")
def lk_d2 : Cond := .declares (Bundle.init0 "java/lang/Exception")
def lk_d3 : Cond := .declares (Bundle.init0 Bundle.tN)
def lk_W (U : State) : Prop := va_Nw (.castable lk_1 lk_1) U ∧ va_Nw (.castable lk_2 lk_2) U ∧ va_Nc lk_2 lk_1 U ∧ va_Nw lk_d1 U ∧ va_Nw lk_d2 U ∧ va_Nw lk_d3 U
theorem lk_W.warm {s U : State} (hW : s.WarmedH U.vm) (h : lk_W s) : lk_W U := ⟨va_Nw.warmC hW h.1, va_Nw.warmC hW h.2.1, h.2.2.1.moved hW.alike, va_Nw.warmD hW h.2.2.2.1, va_Nw.warmD hW h.2.2.2.2.1, va_Nw.warmD hW h.2.2.2.2.2⟩
theorem lk_W.same {s U : State} (hv : s.vm = U.vm) (h : lk_W s) : lk_W U := ⟨va_Nw.same rfl hv h.1, va_Nw.same rfl hv h.2.1, h.2.2.1.moved (by rw [hv]; exact Vm.Alike.refl _), va_Nw.same rfl hv h.2.2.2.1, va_Nw.same rfl hv h.2.2.2.2.1, va_Nw.same rfl hv h.2.2.2.2.2⟩
theorem lk_ng1 : ∀ w ∈ (vx_at0 RX11 99 lk_1 lk_ns).filter (fun w => !goodWord w), w ∈ [Cond.castable lk_1 lk_1, lk_d1, lk_d2, lk_d3] := by decide +kernel
theorem lk_ng2 : ∀ w ∈ (vx_at0 RX11 102 lk_2 lk_ns).filter (fun w => !goodWord w), w ∈ [Cond.castable lk_2 lk_2, lk_d1, lk_d2, lk_d3] := by decide +kernel
theorem lk_gd1 : ∀ w ∈ (vx_at0 RX11 99 lk_1 lk_ns).filter goodWord, w ∈ ah_TW := by decide +kernel
theorem lk_gd2 : ∀ w ∈ (vx_at0 RX11 102 lk_2 lk_ns).filter goodWord, w ∈ ah_TW := by decide +kernel
theorem lk_ot1 : ∀ w ∈ Cond.classLink RX11 97 lk_1 :: Cond.initialized lk_1 :: vx_at0 RX11 99 lk_1 lk_ns, vx_ot w = true := by decide +kernel
theorem lk_ot2 : ∀ w ∈ Cond.classLink RX11 100 lk_2 :: Cond.initialized lk_2 :: vx_at0 RX11 102 lk_2 lk_ns, vx_ot w = true := by decide +kernel
theorem lk_cl : (∀ w ∈ [Cond.classLink RX11 97 lk_1, Cond.initialized lk_1, Cond.classLink RX11 100 lk_2, Cond.initialized lk_2], w ∈ ah_TW) := by decide +kernel
def lk_X (G : ah_G) (g : Int32 × Int32) (σ : ah_H) : String → State → State → Prop := fun E st t => ((g.1 = 1 ∧ E = lk_1) ∨ (g.1 = 2 ∧ E = lk_2)) ∧ ah_Rel G σ t.heap ∧ va_F (ah_A G) st t
def lk_Q (g : Int32 × Int32) (σ : ah_H) : Option Value → ah_H → Prop := fun v τ => g.1 = 0 ∧ v = some (.int g.2) ∧ τ = σ
def lk_Z (G : ah_G) (g : Int32 × Int32) (σ : ah_H) : ah_Z := fun below args s R c t => (lk_W s ∧ ∀ x ∈ c.exceptionTable.toList, False) → vx_MQ below (ah_Q G (lk_Q g σ)) (lk_X G g σ) args s R.cells R.slots (ah_A G) t
section
variable {G : ah_G} {mi : ah_M} {dp kc ks pc : Nat} {lv : List (Nat × Value)} {rest : List Value} {σ : ah_H} {g : Int32 × Int32}
theorem lk_ret (k : AW G mi dp kc ks pc lv rest σ (ah_N G (lk_Q g σ))) : AW G mi dp kc ks pc lv rest σ (lk_Z G g σ) := by
  intro p e R s m args below meth c H locs cells slots ls hC u1 u2 hR hS hl T hT X
  obtain ⟨t, a1, o, b1, b2, b3, b4⟩ := k p e R s m args below meth c H locs cells slots ls hC u1 u2 hR hS hl T hT X
  exact ⟨t, a1, fun _ => ⟨o, b1, b2, Or.inl ⟨b3, b4⟩⟩⟩
theorem lk_throw {ik ic : Nat} {cls : String} (hmi : mi.1.cls = RX11) (hne : ¬ ah_ex G) (hg : (g.1 = 1 ∧ cls = lk_1) ∨ (g.1 = 2 ∧ cls = lk_2)) (hfit : Bundle.fit cls = true) (hns : ∀ n ∈ lk_ns, Bundle.fit n = true) (hk : Cond.classLink RX11 ik cls ∈ ah_TW) (hini : Cond.initialized cls ∈ ah_TW)
    (hgd : ∀ w ∈ (vx_at0 RX11 ic cls lk_ns).filter goodWord, w ∈ ah_TW) (hng : ∀ w ∈ (vx_at0 RX11 ic cls lk_ns).filter (fun w => !goodWord w), w ∈ [Cond.castable cls cls, lk_d1, lk_d2, lk_d3]) (hot : ∀ w ∈ Cond.classLink RX11 ik cls :: Cond.initialized cls :: vx_at0 RX11 ic cls lk_ns, vx_ot w = true)
    (d0 : decode mi.2.1 pc = .ok (.new ik, 3)) (d3 : decode mi.2.1 (pc + 3) = .ok (.dup, 1)) (d4 : decode mi.2.1 (pc + 4) = .ok (.invokespecial ic, 3)) (d7 : decode mi.2.1 (pc + 7) = .ok (.athrow, 1)) : AW G mi (dp + 10) (kc + 1) (ks + 6) pc lv [] σ (lk_Z G g σ) := by
  intro p e R s m args below meth c H locs cells slots ls hC u1 u2 hR hS hl
  by_cases hP : lk_W s ∧ ∀ x ∈ c.exceptionTable.toList, False
  · have hts := hC.2.2.2.2.1
    have hX := hC.2.2.2.2.2.2.2.2.1.2
    have hfr := hC.2.2.2.2.2.2.2.2.2
    have hbase : ∀ a : Nat, a < G.2.2.2.2.size → ¬ ah_A G a → s.heap[a]? = G.2.2.2.2[a]? := fun a ha _ => hC.2.2.2.2.2.1.2.2 a ha
    have hcast : ∀ w ∈ [Cond.castable cls cls, lk_d1, lk_d2, lk_d3], w.before args s = true := by
      intro w hw
      simp only [List.mem_cons, List.not_mem_nil, or_false] at hw
      rcases hw with rfl | rfl | rfl | rfl
      · rcases hg with ⟨-, rfl⟩ | ⟨-, rfl⟩
        · exact va_Nw.use rfl hP.1.1
        · exact va_Nw.use rfl hP.1.2.1
      · exact va_Nw.use rfl hP.1.2.2.2.1
      · exact va_Nw.use rfl hP.1.2.2.2.2.1
      · exact va_Nw.use rfl hP.1.2.2.2.2.2
    have key := vx_throw0 (p := p) (l := G.1) (e := e) (R := R) (s := s) (m := m) (args := args) (below := below) (meth := meth) (c := c) (H := H) (locs := locs) (cells := cells) (slots := slots) (ls := ls) (rest := []) (Qc := ah_Q G (lk_Q g σ)) (XC := lk_X G g σ) (free := ah_A G) (cc := mi.2.1) (pc := pc) (own := RX11) (cls := cls) (names := lk_ns) (ik := ik) (ic := ic) (mc := R.cells) (ms := R.slots) (A := ah_A G) hC.1 hC.2.1 hX.2.2.2.2.2.2.2.2.1 (by rw [← hmi]; exact hC.2.2.2.1) hfit hns (hts _ hk) (hts _ hini)
      (vx_hat (fun w hw => hts w (hgd w hw)) hng hcast) hot (hX.2.2.2.2.2.2.1.kept hbase) (hX.2.2.2.2.2.2.2.1.kept hbase) hS (hl.1.trans hC.2.2.1.symm) d0 d3 d4 d7 (fun x hx => absurd hx (hP.2 x)) (by show 2 + 3 < R.frames; omega) (by show 0 + (13 * (2 + 1) + 42) ≤ R.locals; omega) (by omega) (by omega) hC.2.2.2.2.2.1.1
      (fun t _ hz ho => ⟨hg, ⟨⟨Nat.le_trans hR.1.1 hz, fun z => absurd z hne⟩, hR.2.1, fun a sh ha => (hR.2.2.1 a sh ha).kept (fun _ _ => rfl) (ho _ (by rw [hR.rho ha]; have := (List.getElem?_eq_some_iff.mp ha).1; have := hR.1.1; omega)), fun q hq => (ho q (by have := hR.1.1; omega)).trans (hR.2.2.2 q hq)⟩, ⟨Nat.le_trans hS.1 hz, fun q g1 g2 => (ho q (Nat.lt_of_lt_of_le g1 hS.1)).trans (hS.2.1 q g1 g2)⟩⟩) hS.2.2 (by omega) (by omega)
    intro T hT X
    obtain ⟨t, a1, b1⟩ := key T hT X
    exact ⟨t, a1, fun _ => b1⟩
  · intro T hT X
    exact ⟨_, Steps.refl _, fun h => absurd h hP⟩
end
theorem lk_isC {t : Nat} {p0 : Int32} {σ : ah_H} {r : Int32 × ah_H} (h : f_X9_isCorner t p0 σ = some r) : r.2 = σ := by
  have h := op_ck_k h
  unfold f_X9_isCorner_0 at h
  have key : ∀ x : Int32, ((op_rz x).map fun q => (q, σ)) = some r → r.2 = σ := fun x h => by
    obtain ⟨q, -, h2⟩ := op_mp h
    rw [← h2]
  split at h
  · exact key _ h
  · obtain ⟨v, -, h⟩ := op_bd h
    split at h
    · exact key _ h
    · exact key _ h
set_option maxRecDepth 100000 in
set_option maxHeartbeats 4000000 in
theorem lk_body {G : ah_G} (hne : ¬ ah_ex G) (x : Nat) (p0 p1 : Int32) (σ : ah_H) (g : Int32 × Int32) (h : lk_g x p0 p1 σ = some g) : AW G m_X11_look 10 1 6 0 [(0, .ref x), (1, .int p0), (2, .int p1)] [] σ (lk_Z G g σ) := by
  have hns : ∀ n ∈ lk_ns, Bundle.fit n = true := by decide
  have h := op_ck_k h
  refine aw_aload_n (pc := 0) 0 dX11_look_0 rfl ?_
  obtain ⟨t, e1, h⟩ := op_bd h
  refine ow_gR (pc := 1) e1 dX11_look_1 fd_X11_20 rfl ?_
  refine aw_iload_n (pc := 4) 1 dX11_look_4 rfl ?_
  obtain ⟨r, e2, h⟩ := op_bd h
  have e3 := lk_isC e2
  have hcall := aw_callV (G := G) (mi := m_X11_look) (dp := 9) (ka := 0) (kb := 0) (kc := 1) (ks := 6) (pc := 5) (lv := [(0, .ref x), (1, .int p0), (2, .int p1)]) (rest := []) (σ := σ) (Q := lk_Z G g σ) [.int p0] dX11_look_5 cw_X11_93 (op_ck_sh e2) rfl (Nat.le_of_ble_eq_true rfl) ((c_X9_isCorner _ _ _ _ e2).mono (by decide))
  refine hcall (fun v τ q => ?_)
  obtain ⟨rfl, rfl⟩ := q
  rw [e3]
  refine aw_if_ne (pc := 8) 19 dX11_look_8 (by decide) (fun z => ?_) (fun z => ?_)
  · replace h := (if_neg z).symm.trans h
    refine aw_iload_n (pc := 19) 2 dX11_look_19 rfl ?_
    refine aw_if_lt (pc := 20) 28 dX11_look_20 (by decide) (fun z => ?_) (fun z => ?_)
    · replace h := (if_pos z).symm.trans h
      cases h
      exact lk_throw (dp := 0) (kc := 0) (ks := 0) (pc := 28) rfl hne (Or.inr ⟨rfl, rfl⟩) (by decide) hns (lk_cl _ (by decide)) (lk_cl _ (by decide)) lk_gd2 lk_ng2 lk_ot2 dX11_look_28 dX11_look_31 dX11_look_32 dX11_look_35
    · replace h := (if_neg z).symm.trans h
      refine aw_iload_n (pc := 23) 2 dX11_look_23 rfl ?_
      refine aw_iconst (pc := 24) (v := (2 : Int32)) dX11_look_24 (by decide) ?_
      refine aw_icmp_le (pc := 25) 36 dX11_look_25 (by decide) (fun z => ?_) (fun z => ?_)
      · replace h := (if_pos z).symm.trans h
        refine aw_wide (Nat.zero_le 1) (Nat.zero_le 6) (lk_ret ?_)
        refine aw_aload_n (pc := 36) 0 dX11_look_36 rfl ?_
        refine ow_gR (pc := 37) e1 dX11_look_37 fd_X11_20 rfl ?_
        obtain ⟨c, e4, h⟩ := op_bd h
        refine ow_gR (pc := 40) e4 dX11_look_40 fd_X11_103 rfl ?_
        refine aw_iload_n (pc := 43) 1 dX11_look_43 rfl ?_
        obtain ⟨w, e5, h⟩ := op_bd h
        refine ow_aR (pc := 44) e5 dX11_look_44 (by decide) ?_
        refine aw_iload_n (pc := 45) 2 dX11_look_45 rfl ?_
        obtain ⟨v, e6, h⟩ := op_bd h
        refine ow_aI (pc := 46) e6 dX11_look_46 ?_
        cases h
        exact aw_iret (pc := 47) dX11_look_47 rfl ⟨rfl, rfl, rfl⟩
      · replace h := (if_neg z).symm.trans h
        cases h
        exact lk_throw (dp := 0) (kc := 0) (ks := 0) (pc := 28) rfl hne (Or.inr ⟨rfl, rfl⟩) (by decide) hns (lk_cl _ (by decide)) (lk_cl _ (by decide)) lk_gd2 lk_ng2 lk_ot2 dX11_look_28 dX11_look_31 dX11_look_32 dX11_look_35
  · replace h := (if_pos z).symm.trans h
    cases h
    exact lk_throw (dp := 0) (kc := 0) (ks := 0) (pc := 11) rfl hne (Or.inl ⟨rfl, rfl⟩) (by decide) hns (lk_cl _ (by decide)) (lk_cl _ (by decide)) lk_gd1 lk_ng1 lk_ot1 dX11_look_11 dX11_look_14 dX11_look_15 dX11_look_18
def lk_P (G : ah_G) (as : List Value) (σ : ah_H) : Array Value → State → Prop := fun a U => ah_P G as σ a U ∧ lk_W U
/-- RiverDrains.look as its callers see it -/
theorem lk_met {G : ah_G} (hne : ¬ ah_ex G) (x : Nat) (p0 p1 : Int32) (σ : ah_H) (g : Int32 × Int32) (h : lk_g x p0 p1 σ = some g) (rm : Room) (h1 : 10 ≤ rm.frames) (h2 : 600 ≤ rm.locals) (h3 : rm.cells = 1) (h4 : rm.slots = 6) : vx_Met G.1 m_X11_look.1 (ah_ws m_X11_look) rm (lk_P G [.ref x, .int p0, .int p1] σ) (ah_Q G (lk_Q g σ)) (lk_X G g σ) 1 6 (ah_A G) := by
  refine vx_ofW (cc := m_X11_look.2.1) (maxL := m_X11_look.2.2.1) (ret := m_X11_look.2.2.2) (by decide) rfl ?_
  intro p e s m args below meth c s₁ B hml hex hv
  obtain ⟨⟨rfl, hR, hK⟩, hW⟩ := hv
  have hts := atoms_spec (ws := ah_ws m_X11_look) B.pre
  have hown : s.vm.findClass m_X11_look.1.cls = some m.cls := findClass_of_methodNamed B.named
  rw [lg_entry_eq]
  have hl := lv_entry ([.ref x, .int p0, .int p1].map (ah_up G)) (n := m_X11_look.2.2.1) (by rw [ah_sl_up]; exact Nat.le_of_ble_eq_true rfl)
  rw [ah_args_up] at hl
  have hh := lk_body hne x p0 p1 σ g h p e (headSpec (ah_ws m_X11_look) rm).room s m _ below meth c s.heap [] 0 0 _ ⟨B.exec, B.bytes, hml, hown, fun w hw => hts w (List.mem_cons_of_mem _ hw), ⟨B.notSynchronized, Nat.le_trans (Nat.le_add_right _ _) hR.1.1, hR.2.2.2⟩, B.returns, fun hi => (name_of_methodNamed B.named B.method).1.trans hi, hK, h1, h2⟩ (by rw [Nat.zero_add]; exact h3) (by rw [Nat.zero_add]; exact h4) hR va_S.rf hl
  intro T hT X
  obtain ⟨t, a1, b1⟩ := hh T hT X
  have b2 := b1 ⟨hW, hex⟩
  rw [show (headSpec (ah_ws m_X11_look) rm).room.cells = 1 from h3, show (headSpec (ah_ws m_X11_look) rm).room.slots = 6 from h4] at b2
  exact ⟨t, a1, b2⟩
