/-! BOTH OBJECTS ARE NEW -/
def iniM (σ : ah_H) : Bool := (List.range 12).all (fun j => decide (ah_I σ 227 j = dfv j)) && (List.range 3).all (fun j => decide (ah_I σ 242 j = nI 0) && decide (ah_I σ 243 j = nI 0)) && (List.range 7).all (fun j => decide (ah_I σ 248 j = mI 1)) && decide (ah_I σ 225 2 = nI 0) && decide (ah_I σ 225 52 = nI 0) && decide (ah_I σ 225 57 = nI 0) && (List.range 700).all (fun j => decide (ah_I σ 226 j = nI 0))
def iniT (σ : ah_H) : Bool := decide (ah_I σ 2 0 = nI 0) && decide (ah_I σ 2 2 = mI 1) && decide (ah_I σ 2 3 = mI 1) && decide (ah_I σ 2 4 = nI 0) && decide (ah_I σ 2 6 = nI 0) && decide (ah_I σ 2 8 = nI 0) && decide (ah_I σ 2 13 = nI 1) && decide (ah_I σ 33 0 = nI 1) && decide (ah_I σ 33 1 = nI 9) && decide (ah_I σ 34 0 = nI 2) && decide (ah_I σ 34 1 = nI 8) && decide (ah_I σ 35 0 = nI 0) && (List.range 3).all (fun j => decide (ah_I σ 38 j = nI 0) && decide (ah_I σ 39 j = nI 0))
def iniC (σ : ah_H) : Bool := (List.range 7).all (fun j => decide (ah_I σ 91 j = mI 1) && decide (ah_I σ 167 j = mI 1) && decide (ah_L σ 135 j = iL 9223372036854775807) && decide (ah_L σ 218 j = iL 9223372036854775807)) && decide (ah_I σ 117 2 = nI 0) && decide (ah_I σ 90 4 = nI 0) && decide (ah_I σ 90 7 = nI 0) && decide (ah_I σ 90 5 = nI 0) && decide (ah_I σ 0 1 = nI 0) && decide (ah_I σ 82 3 = ah_I σ 225 31) && decide (ah_I σ 82 4 = ah_I σ 225 32) && (List.range 24).all (fun j => decide (ah_I σ 84 j = kyv j)) && decide (ah_I σ 163 16 = nI 0) && decide (ah_L σ 161 0 = iL (-9)) && decide (ah_I σ 160 7 = nI 0)
def iniR (σ : ah_H) : Bool := decide (ah_R σ 117 6 = some 2) && decide (ah_R σ 0 2 = some 2) && decide (ah_R σ 0 3 = some 42) && decide (ah_R σ 160 6 = some 2) && decide (ah_R σ 163 17 = some 2)
theorem ini_ok : law_0.map (fun σ => iniM σ && iniT σ && iniC σ && iniR σ) = some true := by decide +kernel
theorem law_a : ((op_nwO 11 law_e).bind fun r1 => (f_X11_init r1.1 r1.2).bind fun σ1 => (op_nwO 12 σ1).bind fun r2 => (f_X12_init r2.1 r2.2).bind fun σ2 => (op_nwA .long 1 σ2).map fun r3 => (r1.1, r2.1, r3.1)) = some (0, 225, 271) := by decide +kernel
theorem ini_I {σ : ah_H} (hW : Wf σ) (h : (iniM σ && iniT σ && iniC σ && iniR σ) = true) : Inv σ := by
  simp only [Bool.and_eq_true] at h
  obtain ⟨⟨⟨hM, hT⟩, hC⟩, hR⟩ := h
  unfold iniM at hM
  unfold iniT at hT
  unfold iniC at hC
  unfold iniR at hR
  simp only [Bool.and_eq_true, decide_eq_true_eq, List.all_eq_true, List.mem_range] at hM hT hC hR
  obtain ⟨⟨⟨⟨⟨⟨m1, m2⟩, m3⟩, m4⟩, m5⟩, m6⟩, m7⟩ := hM
  obtain ⟨⟨⟨⟨⟨⟨⟨⟨⟨⟨⟨⟨t1, t2⟩, t3⟩, t4⟩, t5⟩, t6⟩, t7⟩, t8⟩, t9⟩, t10⟩, t11⟩, t12⟩, t13⟩ := hT
  obtain ⟨⟨⟨⟨⟨⟨⟨⟨⟨⟨⟨c1, c2⟩, c3⟩, c4⟩, c5⟩, c6⟩, c7⟩, c8⟩, c9⟩, c10⟩, c11⟩, c12⟩ := hC
  obtain ⟨⟨⟨⟨r1, r2⟩, r3⟩, r4⟩, r5⟩ := hR
  have hE : IsE0 (fun a j => ah_I σ a j) := ⟨m1, m2⟩
  obtain ⟨n0, n1, n2, n3, n4, n5, n6, n7, n8, n9⟩ := hE.nn
  have hMT := hE.ln.1
  have hMN : MN (fun a j => ah_I σ a j) := by
    refine ⟨fun c hc => Or.inl (m3 c hc), ?_, ?_, Or.inl m6, ?_⟩
    · show Nn (ah_I σ 225 52) 20
      rw [m5]; exact ⟨by decide, by decide⟩
    · intro i hi
      have hi : i < ix (ah_I σ 225 52) := hi
      rw [m5] at hi
      exact absurd hi (Nat.not_lt_zero i)
    · intro z
      have z : ah_I σ 225 57 = nI 1 := z
      rw [m6] at z
      exact absurd z (by decide)
  refine ⟨2, fun a j => ah_I σ a j, ⟨hW, ⟨hMT, hMN, ?_, fun j hj => ?_⟩, fun a j _ => rfl⟩, ⟨⟨⟨Or.inl rfl, hW, hMT, ?_, ?_⟩, hMN, r1, fun c hc => ⟨(c1 c hc).1.1.1.trans (m3 c hc).symm, fun z => absurd (m3 c hc) z⟩, fun c hc => (c1 c hc).1.2, Or.inl c2⟩, ⟨c3.trans m5.symm, ⟨0, by omega, c4, fun i hi => ?_⟩, c5.trans m6.symm, fun z => ?_⟩, r2, r3, ⟨c6.trans m4.symm, fun j hj => ?_⟩, ⟨c7, c8⟩, c9⟩, ⟨r4, r5, Or.inl c10, fun c hc => by omega, fun c hc => (c1 c hc).2, fun m hm => Or.inl ?_⟩, Or.inl c12⟩
  · show Nn (ah_I σ 225 2) 700
    rw [m4]; exact ⟨by decide, by decide⟩
  · show Nn (ah_I σ 226 j) 255
    rw [m7 j hj]; exact ⟨by decide, by decide⟩
  · unfold TF
    rw [n0, n1, n2, n3, n4, n5, n6, n7, n8, n9]
    exact ⟨t1, t2.trans (m1 4 (by omega)).symm, t3.trans (m1 5 (by omega)).symm, t4, t5, t6, t7, t8, t9, t10, t11, t12⟩
  · refine ⟨fun c hc => by omega, fun c hc => by omega, fun c hc => by omega, fun c hc => by omega, fun k hk => ?_, fun c hc => by omega⟩
    unfold lfr lto
    show ah_I σ 38 k = nI (ix (ah_I σ 242 k)) ∧ ah_I σ 39 k = nI (ix (ah_I σ 243 k))
    rw [(m2 k hk).1, (m2 k hk).2, (t13 k hk).1, (t13 k hk).2]
    exact ⟨rfl, rfl⟩
  · have hi : i < ix (ah_I σ 225 52) := hi
    rw [m5] at hi
    exact absurd hi (Nat.not_lt_zero i)
  · have z : ah_I σ 225 57 = nI 1 := z
    rw [m6] at z
    exact absurd z (by decide)
  · have hj : j < ix (ah_I σ 225 2) := hj
    rw [m4] at hj
    exact absurd hj (Nat.not_lt_zero j)
  · rw [n1] at hm
    obtain rfl : m = 0 := by omega
    exact c11
theorem law_all (N : Nat) (hN : N ≤ 384) (xs : Nat → Int32) : ∃ τ, f_law N xs = some (1, τ) := by
  obtain ⟨σ, e, hW⟩ := law_ok
  have hi := ini_ok
  rw [e] at hi
  have hI : Inv σ := ini_I hW (Option.some.inj hi)
  have ha := law_a
  unfold f_law
  unfold law_0 at e
  cases h1 : op_nwO 11 law_e with
  | none => rw [h1] at e; cases e
  | some r1 =>
    rw [h1, bd_s] at e ha
    rw [bd_s]
    cases h2 : f_X11_init r1.1 r1.2 with
    | none => rw [h2] at e; cases e
    | some σ1 =>
      rw [h2, bd_s] at e ha
      rw [bd_s]
      cases h3 : op_nwO 12 σ1 with
      | none => rw [h3] at e; cases e
      | some r2 =>
        rw [h3, bd_s] at e ha
        rw [bd_s]
        cases h4 : f_X12_init r2.1 r2.2 with
        | none => rw [h4] at e; cases e
        | some σ2 =>
          rw [h4, bd_s] at e ha
          rw [bd_s]
          cases h5 : op_nwA .long 1 σ2 with
          | none => rw [h5] at e; cases e
          | some r3 =>
            rw [h5] at e ha
            rw [bd_s]
            have e : r3.2 = σ := Option.some.inj e
            have ha : (r1.1, r2.1, r3.1) = (0, 225, 271) := Option.some.inj ha
            obtain ⟨a1, a2⟩ := Prod.mk.inj ha
            obtain ⟨a2, a3⟩ := Prod.mk.inj a2
            rw [a1, a2, a3, e]
            exact law_loop hN 384 0 5000 σ (by omega) (by omega) (by omega) hI
