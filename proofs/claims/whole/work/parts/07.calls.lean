/-! ROWS OF AW: calls. What a call of mi' by 'own' at pool index idx needs of the words; n arguments behind the receiver. -/
theorem ah_gw {mi' : ah_M} (h : Cond.code mi'.1 mi'.2.1 mi'.2.2.1 mi'.2.2.2 ∈ ah_TW) : GoodIn ah_TW (ah_ws mi') := by
  intro w hw
  rcases List.mem_cons.mp hw with rfl | hw
  · exact ah_good _ h
  · exact ah_good _ hw
theorem ah_cB {G : ah_G} {mi mi' : ah_M} {dp idx n kc ks : Nat} {p : Program} {R : Room} {s : State} {m : MethodId} {args : Array Value} {meth : Method} {c : Code} (hC : ah_Cx G mi (dp + 1) p R s m args meth c) (h : ah_Cb mi.1.cls idx mi' n) : CallB R s args mi.1.cls idx mi'.1 mi'.2.1 mi'.2.2.1 mi'.2.2.2 (ah_ws mi') (ah_rm dp kc ks) kc ks n := by
  obtain ⟨c1, c2, c3, c4, c5, c6⟩ := h
  have hts := hC.2.2.2.2.1
  have hf := hC.2.2.2.2.2.2.2.2.2
  refine ⟨rfl, rfl, hf.1, ?_, pay_in hts (ah_gw c3), List.mem_cons_self, hts _ c3, hts _ c2, c4, fun sig hsig => ?_, hts _ c1⟩
  · have := hf.2
    show 8 + (mi'.2.2.1 + 11) + 60 * dp ≤ R.locals
    omega
  · rw [hsig] at c5
    exact (Option.some.inj c5).symm
theorem ah_blind {G : ah_G} {as : List Value} {σ : ah_H} : FrameBlind (ah_P G as σ) := fun a U g mk h => ⟨h.1, h.2.1, ah_K.same (u := U) (U := U.calling g mk a) rfl h.2.2⟩
section
variable {G : ah_G} {mi mi' : ah_M} {dp kc ks ka kb pc : Nat} {lv : List (Nat × Value)} {rest : List Value} {σ : ah_H} {Q' : Option Value → ah_H → Prop} {Q : ah_Z}
theorem ah_go {p : Program} {e : Env} {R : Room} {s : State} {m : MethodId} {args : Array Value} {below : List Frame} {meth : Method} {c : Code} {H : Heap} {locs : List Loc} {cells slots : Nat} {ls : Array Slot} {st0 : List Value} {aa : Array Value}
    (hC : ah_Cx G mi (dp + 1) p R s m args meth c) (h1 : R.cells = cells + (ka + kc)) (h2 : R.slots = slots + (kb + ks)) (hS : va_S (ah_A G) s.heap H locs) (hl : lv_has ls mi.2.2.1 (lv.map (ah_uq G)))
    (hr : va_Run p G.1 e R s m args below meth c H locs cells slots ka kb (F0 m pc ls st0) (rest.map (ah_up G)) (ah_Q G Q' aa) (ah_A G))
    (k : ∀ v τ, Q' v τ → AW G mi (dp + 1) kc ks (pc + 3) lv (v.toList ++ rest) τ Q) : W p G.1 e R s m args below meth c H locs cells slots (Q below args s R c) (F0 m pc ls st0) := by
  intro T hT X
  obtain ⟨v, st₀, t, T', L, z0, X', hL, e1, e2, ⟨v', τ, hv, hq, hRel, hz, hk⟩, st⟩ := hr T hT X
  cases hv
  rw [z0] at hz hk
  have kk := k v' τ hq p e R s m args below meth c T'.heap (locs ++ L) (cells + ka) (slots + kb) ls hC (by omega) (by omega) (by rw [e1]; exact hRel)
    ⟨Nat.le_trans hS.1 (by rw [e1]; exact hz), fun q g1 g2 => by rw [e1, hk q (Nat.lt_of_lt_of_le g1 hS.1) g2]; exact hS.2.1 q g1 g2, fun q hq => by
      rcases List.mem_append.mp hq with h | h
      · exact hS.2.2 q h
      · exact hL q h⟩ hl
  have es : (v'.toList ++ rest).map (ah_up G) = (v'.map (ah_up G)).toList ++ rest.map (ah_up G) := by cases v' <;> rfl
  rw [es] at kk
  obtain ⟨t2, a1, b1⟩ := kk T' rfl X'
  exact ⟨t2, st t2 a1, b1⟩
theorem aw_callV {idx ci n b : Nat} (As : List Value) (hd : decode mi.2.1 pc = .ok (.invokevirtual idx, 3)) (hw : ah_Cv mi.1.cls idx ci mi' n) (hs : (ah_S σ)[b]? = some (.inr ci)) (hn : As.length = n) (hr : (rest.map fun v => v.category).sum ≤ 8) (hM : AM G mi' dp ka kb (.ref b :: As) σ Q')
    (k : ∀ v τ, Q' v τ → AW G mi (dp + 1) kc ks (pc + 3) lv (v.toList ++ rest) τ Q) : AW G mi (dp + 1) (ka + kc) (kb + ks) pc lv (As.reverse ++ .ref b :: rest) σ Q := by
  intro p e R s m args below meth c H locs cells slots ls hC h1 h2 hR hS hl
  obtain ⟨w1, w2, C, T, N, hc, w3⟩ := hw
  have hts := hC.2.2.2.2.1
  obtain ⟨r, h3, cell, q1, q2, q3, q4⟩ := hR.2.2.1 b _ hs
  have hr' : r = (C, T, N) := Option.some.inj (h3.symm.trans hc)
  subst hr'
  have hfc := (hC.2.2.2.2.2.2.2.2.1.1.1 ci _ hc).2.1
  refine ah_go (ka := ka) (kb := kb) (Q' := Q') (aa := (Value.ref (ah_rho G b) :: As.map (ah_up G)).toArray) hC h1 h2 hS hl ?_ k
  refine va_runV (As := As.map (ah_up G)) (b := ah_rho G b) (C := C) (cc := mi.2.1) (nL := mi.2.2.1) (Ts := ah_TW) (n := n) ⟨hC.1, hC.2.1, hC.2.2.1, hC.2.2.2.1, hts⟩ (hM (ah_rm dp ka kb) (Nat.le_refl _) (Nat.le_refl _) rfl rfl) ⟨ah_cB hC w1, hts _ w2, hts _ w3⟩ ⟨ah_blind, ⟨cell, q1, by rw [q3]; rfl, by rw [q2]; exact hfc⟩, fun U hU hW => ⟨rfl, by rw [hU]; exact hR, ah_K.warm hW hC.2.2.2.2.2.2.2.2.1⟩⟩ rfl (by rw [List.length_map]; exact hn) hl.1 ?_ (lv_room ?_) hd ⟨by omega, by omega⟩
  · show List.map (ah_up G) (As.reverse ++ .ref b :: rest) = _
    rw [List.map_append, List.map_reverse]
    rfl
  · rw [List.map_map]
    refine Nat.le_trans (Nat.le_of_eq ?_) hr
    congr 1
    exact List.map_congr_left (fun v _ => ah_up_cat G v)
theorem aw_callS {idx n : Nat} (As : List Value) (hd : decode mi.2.1 pc = .ok (.invokestatic idx, 3)) (hw : ah_Cs mi.1.cls idx mi' n) (hn : As.length = n) (hr : (rest.map fun v => v.category).sum ≤ 8) (hM : AM G mi' dp ka kb As σ Q')
    (k : ∀ v τ, Q' v τ → AW G mi (dp + 1) kc ks (pc + 3) lv (v.toList ++ rest) τ Q) : AW G mi (dp + 1) (ka + kc) (kb + ks) pc lv (As.reverse ++ rest) σ Q := by
  intro p e R s m args below meth c H locs cells slots ls hC h1 h2 hR hS hl
  obtain ⟨w1, w2⟩ := hw
  have hts := hC.2.2.2.2.1
  refine ah_go (ka := ka) (kb := kb) (Q' := Q') (aa := (As.map (ah_up G)).toArray) hC h1 h2 hS hl ?_ k
  refine va_runS (As := As.map (ah_up G)) (cc := mi.2.1) (nL := mi.2.2.1) (Ts := ah_TW) (n := n) ⟨hC.1, hC.2.1, hC.2.2.1, hC.2.2.2.1, hts⟩ (hM (ah_rm dp ka kb) (Nat.le_refl _) (Nat.le_refl _) rfl rfl) ⟨ah_cB hC w1, hts _ w2⟩ ⟨ah_blind, fun U hU hW => ⟨rfl, by rw [hU]; exact hR, ah_K.warm hW hC.2.2.2.2.2.2.2.2.1⟩⟩ rfl (by rw [List.length_map]; exact hn) hl.1 ?_ (lv_room ?_) hd ⟨by omega, by omega⟩
  · show List.map (ah_up G) (As.reverse ++ rest) = _
    rw [List.map_append, List.map_reverse]
  · rw [List.map_map]
    refine Nat.le_trans (Nat.le_of_eq ?_) hr
    congr 1
    exact List.map_congr_left (fun v _ => ah_up_cat G v)
theorem aw_callI {idx n b : Nat} (As : List Value) (hd : decode mi.2.1 pc = .ok (.invokespecial idx, 3)) (hw : ah_Ci mi.1.cls idx mi' n) (hn : As.length = n) (hr : (rest.map fun v => v.category).sum ≤ 8) (hM : AM G mi' dp ka kb (.ref b :: As) σ Q')
    (k : ∀ v τ, Q' v τ → AW G mi (dp + 1) kc ks (pc + 3) lv (v.toList ++ rest) τ Q) : AW G mi (dp + 1) (ka + kc) (kb + ks) pc lv (As.reverse ++ .ref b :: rest) σ Q := by
  intro p e R s m args below meth c H locs cells slots ls hC h1 h2 hR hS hl
  obtain ⟨w1, w2, w3, w4⟩ := hw
  have hts := hC.2.2.2.2.1
  have cB := ah_cB (kc := ka) (ks := kb) hC w1
  rw [w4] at cB
  refine ah_go (ka := ka) (kb := kb) (Q' := Q') (aa := (Value.ref (ah_rho G b) :: As.map (ah_up G)).toArray) hC h1 h2 hS hl ?_ k
  refine va_runI (As := As.map (ah_up G)) (b := ah_rho G b) (cc := mi.2.1) (nL := mi.2.2.1) (Ts := ah_TW) (n := n) ⟨hC.1, hC.2.1, hC.2.2.1, hC.2.2.2.1, hts⟩ (hM (ah_rm dp ka kb) (Nat.le_refl _) (Nat.le_refl _) rfl rfl) ⟨cB, w3, hts _ w2⟩ ⟨ah_blind, fun U hU hW => ⟨rfl, by rw [hU]; exact hR, ah_K.warm hW hC.2.2.2.2.2.2.2.2.1⟩⟩ rfl (by rw [List.length_map]; exact hn) hl.1 ?_ (lv_room ?_) hd ⟨by omega, by omega⟩
  · show List.map (ah_up G) (As.reverse ++ .ref b :: rest) = _
    rw [List.map_append, List.map_reverse]
    rfl
  · rw [List.map_map]
    refine Nat.le_trans (Nat.le_of_eq ?_) hr
    congr 1
    exact List.map_congr_left (fun v _ => ah_up_cat G v)
end
