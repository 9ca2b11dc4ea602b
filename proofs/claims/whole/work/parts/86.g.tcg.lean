/-! TREES rest on the town alone -/
def eqT (D' D : DD) : Prop := ∀ a, 227 ≤ a → a ≤ 245 → D' a = D a
theorem SameT.eq {D' D : DD} (h : SameT D' D) : eqT D' D := fun a h1 h2 => h a (by omega) h2
section
variable {D D' : DD}
theorem lawv_cg (e : eqT D' D) (k : Nat) (nm : Nat → Int) (er : Int) : lawv D' k nm er = lawv D k nm er := by
  obtain ⟨r1, r2, r3, r4, r5, r6, r7, r8, r9, r10, r11, r12, r13, r14, r15, r16, r17, r18, r19, r20, r21, r22, r23, r24, r25⟩ := TM_cg e
  unfold lawv
  rw [r23, r24, evl_cg (e 244 (by omega) (by omega)) (e 245 (by omega) (by omega))]
theorem carvF (e : eqT D' D) : carv D' = carv D := funext fun w => funext fun f => carv_cg e w f
theorem digvF (e : eqT D' D) : digv D' = digv D := by
  funext w d r
  have ht := told_cg e 1
  unfold digv
  by_cases q : told D 1
  · rw [if_pos q, if_pos (ht.mpr q), lawv_cg e]
  · rw [if_neg q, if_neg (fun z => q (ht.mp z))]
theorem pumpvF (e : eqT D' D) : pumpv D' = pumpv D := by
  funext l f
  have ht := told_cg e 2
  unfold pumpv
  by_cases q : told D 2
  · rw [if_pos q, if_pos (ht.mpr q), lawv_cg e]
  · rw [if_neg q, if_neg (fun z => q (ht.mp z))]
theorem costvF (e : eqT D' D) : costv D' = costv D := by
  obtain ⟨r1, r2, r3, r4, r5, r6, r7, r8, r9, r10, r11, r12, r13, r14, r15, r16, r17, r18, r19, r20, r21, r22, r23, r24, r25⟩ := TM_cg e
  funext c p s a b
  unfold costv
  rw [r16, r20, r19, r13, digvF e]
theorem rivF (e : eqT D' D) : riv D' = riv D := by unfold riv; rw [e 227 (by omega) (by omega)]
theorem levF (e : eqT D' D) : lev D' = lev D := by unfold lev; rw [e 227 (by omega) (by omega)]
theorem nxF (e : eqT D' D) : nx D' = nx D := by
  funext st c
  unfold nx
  rw [(TM_cg e).2.2.2.2.2.2.2.2.2.2.2.2.2.2.2.2.2.2.2.2.2.2.2.2]
theorem FFF (e : eqT D' D) : FF D' = FF D := by
  obtain ⟨r1, r2, r3, r4, r5, r6, r7, r8, r9, r10, r11, r12, r13, r14, r15, r16, r17, r18, r19, r20, r21, r22, r23, r24, r25⟩ := TM_cg e
  funext st cp r c u
  have q2 : hr D' st = hr D st := by funext c; unfold hr; rw [r17]
  have q3 : ra D' r = ra D r := by funext c u; unfold ra; rw [r21, r12, r22]
  unfold FF
  rw [r1, nxF e, q2, q3]
theorem gmxF (e : eqT D' D) : gmx D' = gmx D := by
  obtain ⟨r1, r2, r3, r4, r5, r6, r7, r8, r9, r10, r11, r12, r13, r14, r15, r16, r17, r18, r19, r20, r21, r22, r23, r24, r25⟩ := TM_cg e
  funext st cp c
  have q1 : fq D' st cp c = fq D st cp c := by
    funext j
    unfold fq flw
    rw [r1, nxF e, FFF e]
  unfold gmx pkD
  rw [r4, q1]
theorem gqF (e : eqT D' D) : gq D' = gq D := by
  funext st c
  unfold gq
  rw [gmxF e]
theorem fallvF (e : eqT D' D) : fallv D' = fallv D := by
  obtain ⟨r1, r2, r3, r4, r5, r6, r7, r8, r9, r10, r11, r12, r13, r14, r15, r16, r17, r18, r19, r20, r21, r22, r23, r24, r25⟩ := TM_cg e
  funext c s a b
  unfold fallv
  rw [r11, r25]
theorem kyDF (e : eqT D' D) : kyD D' = kyD D := by
  funext c w a b
  unfold kyD
  rw [rivF e]
theorem ownF (e : eqT D' D) : own D' = own D := by
  obtain ⟨r1, r2, r3, r4, r5, r6, r7, r8, r9, r10, r11, r12, r13, r14, r15, r16, r17, r18, r19, r20, r21, r22, r23, r24, r25⟩ := TM_cg e
  funext st Q F1 F2 F3 ky c w a b
  unfold own
  rw [r3, r7, r8, r16, r5, r6, fallvF e, carvF e, r19, costvF e]
theorem pmvF (e : eqT D' D) : pmv D' = pmv D := by
  funext Q c k
  have ht := told_cg e 2
  unfold pmv
  by_cases q : told D 2
  · rw [if_pos q, if_pos (ht.mpr q), pumpvF e]
  · rw [if_neg q, if_neg (fun z => q (ht.mp z))]
theorem dpDF (e : eqT D' D) : dpD D' = dpD D := by
  obtain ⟨r1, r2, r3, r4, r5, r6, r7, r8, r9, r10, r11, r12, r13, r14, r15, r16, r17, r18, r19, r20, r21, r22, r23, r24, r25⟩ := TM_cg e
  funext st F1 F2 F3
  unfold dpD
  rw [r1, r8, nxF e, ownF e, gqF e, kyDF e, pmvF e]
theorem ownCF (e : eqT D' D) : ownC D' = ownC D := by
  obtain ⟨r1, r2, r3, r4, r5, r6, r7, r8, r9, r10, r11, r12, r13, r14, r15, r16, r17, r18, r19, r20, r21, r22, r23, r24, r25⟩ := TM_cg e
  funext st Q c w a b
  unfold ownC
  rw [nxF e, rivF e, levF e, r11, ownF e, kyDF e]
theorem dpCF (e : eqT D' D) : dpC D' = dpC D := by
  obtain ⟨r1, r2, r3, r4, r5, r6, r7, r8, r9, r10, r11, r12, r13, r14, r15, r16, r17, r18, r19, r20, r21, r22, r23, r24, r25⟩ := TM_cg e
  funext st
  unfold dpC
  rw [r1, r8, nxF e, ownCF e, gqF e, pmvF e]
theorem tchF (e : eqT D' D) : tch D' = tch D := by
  obtain ⟨r1, r2, r3, r4, r5, r6, r7, r8, r9, r10, r11, r12, r13, r14, r15, -⟩ := TM_cg e
  funext s c
  unfold tch
  rw [r14, r15]
theorem UjF (e : eqT D' D) (m x : Nat) : ∀ k c, Uj D' m x k c ↔ Uj D m x k c := by
  obtain ⟨r1, r2, r3, r4, r5, r6, r7, r8, r9, r10, r11, r12, r13, r14, r15, r16, r17, r18, r19, r20, r21, r22, r23, r24, r25⟩ := TM_cg e
  intro k
  induction k with
  | zero => intro c; exact Iff.rfl
  | succ k ih =>
    intro c
    show (Uj D' m x k c ∨ ∃ s, s < nS D' ∧ m.testBit s = true ∧ tch D' s c ∧ Uj D' m x k (oth D' s c)) ↔ (Uj D m x k c ∨ ∃ s, s < nS D ∧ m.testBit s = true ∧ tch D s c ∧ Uj D m x k (oth D s c))
    rw [r2, tchF e, r25]
    simp only [ih]
theorem TrQF (e : eqT D' D) : TrQ D' = TrQ D := by
  obtain ⟨r1, r2, -⟩ := TM_cg e
  funext m
  unfold TrQ Ujn
  rw [r1, r2]
  simp only [UjF e]
theorem OrSF (e : eqT D' D) : OrS D' = OrS D := by
  obtain ⟨r1, r2, -⟩ := TM_cg e
  funext m st
  unfold OrS OrP
  rw [r1, r2, tchF e, nxF e, rivF e]
noncomputable def ostP (P : (Nat → Option Nat) → Prop) : Nat → Option Nat := @dite _ (∃ st, P st) (Classical.propDecidable _) (fun h => Classical.choose h) (fun _ => fun _ => none)
theorem ostF (e : eqT D' D) : ost D' = ost D := by
  funext m
  show ostP (OrS D' m) = ostP (OrS D m)
  rw [OrSF e]
theorem cpvF (e : eqT D' D) : cpv D' = cpv D := by
  obtain ⟨r1, r2, r3, r4, r5, r6, r7, r8, r9, r10, r11, r12, r13, r14, r15, r16, r17, r18, r19, r20, r21, r22, r23, r24, r25⟩ := TM_cg e
  funext m
  unfold cpv topT Tw
  rw [r1, r8, r11, rivF e, levF e, ostF e, dpDF e, e 227 (by omega) (by omega)]
theorem TCF (e : eqT D' D) : TC D' = TC D := by
  funext st
  unfold TC
  rw [dpCF e, (TM_cg e).1]
theorem ltFF (e : eqT D' D) (w : Nat) : ∀ k, ltF D' w k = ltF D w k := by
  intro k
  induction k with
  | zero => rfl
  | succ k ih =>
    unfold ltF
    rw [ih, TrQF e, cpvF e]
theorem cstF (e : eqT D' D) : cst D' = cst D := by
  funext m
  unfold cst
  rw [TrQF e, cpvF e]
theorem TI.cg {σ : ah_H} {t : Nat} (h : TI σ t D) (e : eqT D' D) : TI σ t D' := by
  obtain ⟨r1, r2, r3, r4, r5, r6, r7, r8, r9, r10, r11, r12, r13, r14, r15, r16, r17, r18, r19, r20, r21, r22, r23, r24, r25⟩ := TM_cg e
  have pr : PrT σ D' = PrT σ D := by
    unfold PrT
    rw [r1, r3, r5, r6, r7, r8, r13, r19, carvF e, digvF e]
  have ck : CkR σ D' = CkR σ D := by
    funext m
    unfold CkR
    rw [cstF e, TrQF e, cpvF e]
  have ft : FT σ D' = FT σ D := by
    unfold FT FT1 CRow InB
    rw [r1, r2, r3, r7, r8, TrQF e, OrSF e, ostF e, nxF e, TCF e]
  have sl : StL σ D' = StL σ D := by
    unfold StL
    rw [r2, ck, ltFF e]
  unfold TI TI0
  rw [pr, ft, r2, ck, sl]
  exact h
end
