def f_X8_goesOn_0   (x0 : Nat) (x1 : Int32) (σ : ah_H) : Option (Int32 × ah_H) :=
  (op_gI 8 6 σ x0).bind fun v1 => (op_gI 8 5 σ x0).bind fun v2 => if v2 ≤ v1 then ((op_rz (0 : Int32)).map fun q => (q, σ)) else ((op_gR 8 0 σ x0).bind fun v3 => (op_gI 8 6 σ x0).bind fun v4 => (op_aB σ v3 v4).bind fun v5 => if v5 = x1 then ((op_gI 8 6 σ x0).bind fun v6 => (op_pI 8 6 σ x0 (v6 + (1 : Int32))).bind fun σ7 => (op_rz (1 : Int32)).map fun q => (q, σ7)) else ((op_rz (0 : Int32)).map fun q => (q, σ)))
def f_X8_goesOn  (x0 : Nat) (x1 : Int32) (σ : ah_H) : Option (Int32 × ah_H) := op_ck 8 σ x0 (f_X8_goesOn_0 x0 x1 σ)
set_option maxRecDepth 100000 in
set_option maxHeartbeats 4000000 in
theorem c_X8_goesOn_0 {G : ah_G}   : ∀ (x0 : Nat) (x1 : Int32) (σ : ah_H) (r : Int32 × ah_H), f_X8_goesOn_0   x0 x1 σ = some r → AW G m_X8_goesOn 0 0 0 0 [(0, .ref x0), (1, .int x1)] [] σ (ah_N G (ah_ri r)) := by
  intro x0 x1 σ r h
  unfold f_X8_goesOn_0 at h
  refine aw_aload_n (pc := 0) 0 dX8_goesOn_0 rfl ?_
  obtain ⟨v1, e, h⟩ := op_bd h
  refine ow_gI (pc := 1) e dX8_goesOn_1 fd_X8_59 rfl ?_
  refine aw_aload_n (pc := 4) 0 dX8_goesOn_4 rfl ?_
  obtain ⟨v2, e, h⟩ := op_bd h
  refine ow_gI (pc := 5) e dX8_goesOn_5 fd_X8_56 rfl ?_
  refine aw_icmp_ge (pc := 8) 24 dX8_goesOn_8 (by decide) (fun z => ?_) (fun z => ?_)
  · replace h := (if_pos z).symm.trans h
    refine aw_iconst (pc := 24) (v := (0 : Int32)) dX8_goesOn_24 (by decide) ?_
    exact ow_zret (pc := 25) h dX8_goesOn_25 rfl
  · replace h := (if_neg z).symm.trans h
    refine aw_aload_n (pc := 11) 0 dX8_goesOn_11 rfl ?_
    obtain ⟨v3, e, h⟩ := op_bd h
    refine ow_gR (pc := 12) e dX8_goesOn_12 fd_X8_24 rfl ?_
    refine aw_aload_n (pc := 15) 0 dX8_goesOn_15 rfl ?_
    obtain ⟨v4, e, h⟩ := op_bd h
    refine ow_gI (pc := 16) e dX8_goesOn_16 fd_X8_59 rfl ?_
    obtain ⟨v5, e, h⟩ := op_bd h
    refine ow_aB (pc := 19) e dX8_goesOn_19 ?_
    refine aw_iload_n (pc := 20) 1 dX8_goesOn_20 rfl ?_
    refine aw_icmp_eq (pc := 21) 26 dX8_goesOn_21 (by decide) (fun z => ?_) (fun z => ?_)
    · replace h := (if_pos z).symm.trans h
      refine aw_aload_n (pc := 26) 0 dX8_goesOn_26 rfl ?_
      refine aw_dup (pc := 27) dX8_goesOn_27 rfl ?_
      obtain ⟨v6, e, h⟩ := op_bd h
      refine ow_gI (pc := 28) e dX8_goesOn_28 fd_X8_59 rfl ?_
      refine aw_iconst (pc := 31) (v := (1 : Int32)) dX8_goesOn_31 (by decide) ?_
      refine aw_iadd (pc := 32) dX8_goesOn_32 ?_
      obtain ⟨σ7, e, h⟩ := op_bd h
      refine ow_pI (pc := 33) e dX8_goesOn_33 fd_X8_59 ?_
      refine aw_iconst (pc := 36) (v := (1 : Int32)) dX8_goesOn_36 (by decide) ?_
      exact ow_zret (pc := 37) h dX8_goesOn_37 rfl
    · replace h := (if_neg z).symm.trans h
      refine aw_iconst (pc := 24) (v := (0 : Int32)) dX8_goesOn_24 (by decide) ?_
      exact ow_zret (pc := 25) h dX8_goesOn_25 rfl
theorem c_X8_goesOn {G : ah_G}   (x0 : Nat) (x1 : Int32) (σ : ah_H) (r : Int32 × ah_H) (h : f_X8_goesOn  x0 x1 σ = some r) : AM G m_X8_goesOn 0 0 0 [.ref x0, .int x1] σ (ah_ri r) := aw_enter (by decide) (Nat.le_of_ble_eq_true rfl) (c_X8_goesOn_0 _ _ _ _ (op_ck_k h))
def f_X8_cutSign_234   (s0 : Nat) (s1 : Int32) (σ : ah_H) : Option (ah_H) :=
  (op_pI 8 9 σ s0 s1).bind fun σ1 => some σ1
def f_X8_cutSign_257   (s0 : Nat) (s1 : Int32) (σ : ah_H) : Option (ah_H) :=
  (op_pI 8 9 σ s0 s1).bind fun σ1 => some σ1
def f_X8_cutSign_0   (x0 : Nat) (σ : ah_H) : Option (ah_H) :=
  (op_gR 8 0 σ x0).bind fun v1 => (op_gI 8 6 σ x0).bind fun v2 => (op_aB σ v1 v2).bind fun v3 => (op_gI 8 6 σ x0).bind fun v4 => (op_pI 8 6 σ x0 (v4 + (1 : Int32))).bind fun σ5 => (op_pI 8 8 σ5 x0 (4 : Int32)).bind fun σ6 => if v3 = (40 : Int32) then ((op_pI 8 9 σ6 x0 (31 : Int32)).bind fun σ7 => some σ7) else (if v3 = (41 : Int32) then ((op_pI 8 9 σ6 x0 (32 : Int32)).bind fun σ8 => some σ8) else (if v3 = (42 : Int32) then ((op_pI 8 9 σ6 x0 (13 : Int32)).bind fun σ9 => some σ9) else (if v3 = (43 : Int32) then ((op_pI 8 9 σ6 x0 (11 : Int32)).bind fun σ10 => some σ10) else (if v3 = (44 : Int32) then ((op_pI 8 8 σ6 x0 (5 : Int32)).bind fun σ11 => some σ11) else (if v3 = (45 : Int32) then ((op_pI 8 9 σ6 x0 (12 : Int32)).bind fun σ12 => some σ12) else (if v3 = (46 : Int32) then ((op_pI 8 8 σ6 x0 (5 : Int32)).bind fun σ13 => some σ13) else (if v3 = (47 : Int32) then ((op_pI 8 9 σ6 x0 (14 : Int32)).bind fun σ14 => some σ14) else (if v3 = (48 : Int32) then ((op_pI 8 8 σ6 x0 (5 : Int32)).bind fun σ15 => some σ15) else (if v3 = (49 : Int32) then ((op_pI 8 8 σ6 x0 (5 : Int32)).bind fun σ16 => some σ16) else (if v3 = (50 : Int32) then ((op_pI 8 8 σ6 x0 (5 : Int32)).bind fun σ17 => some σ17) else (if v3 = (51 : Int32) then ((op_pI 8 8 σ6 x0 (5 : Int32)).bind fun σ18 => some σ18) else (if v3 = (52 : Int32) then ((op_pI 8 8 σ6 x0 (5 : Int32)).bind fun σ19 => some σ19) else (if v3 = (53 : Int32) then ((op_pI 8 8 σ6 x0 (5 : Int32)).bind fun σ20 => some σ20) else (if v3 = (54 : Int32) then ((op_pI 8 8 σ6 x0 (5 : Int32)).bind fun σ21 => some σ21) else (if v3 = (55 : Int32) then ((op_pI 8 8 σ6 x0 (5 : Int32)).bind fun σ22 => some σ22) else (if v3 = (56 : Int32) then ((op_pI 8 8 σ6 x0 (5 : Int32)).bind fun σ23 => some σ23) else (if v3 = (57 : Int32) then ((op_pI 8 8 σ6 x0 (5 : Int32)).bind fun σ24 => some σ24) else (if v3 = (58 : Int32) then ((op_pI 8 8 σ6 x0 (5 : Int32)).bind fun σ25 => some σ25) else (if v3 = (59 : Int32) then ((op_pI 8 9 σ6 x0 (30 : Int32)).bind fun σ26 => some σ26) else (if v3 = (60 : Int32) then ((f_X8_goesOn x0 (61 : Int32) σ6).bind fun r27 => if r27.1 = 0 then ((f_X8_goesOn x0 (62 : Int32) r27.2).bind fun r28 => if r28.1 = 0 then (f_X8_cutSign_234 x0 (5 : Int32) r28.2) else (f_X8_cutSign_234 x0 (8 : Int32) r28.2)) else (f_X8_cutSign_234 x0 (6 : Int32) r27.2)) else (if v3 = (61 : Int32) then ((op_pI 8 9 σ6 x0 (7 : Int32)).bind fun σ29 => some σ29) else (if v3 = (62 : Int32) then ((f_X8_goesOn x0 (61 : Int32) σ6).bind fun r30 => if r30.1 = 0 then (f_X8_cutSign_257 x0 (10 : Int32) r30.2) else (f_X8_cutSign_257 x0 (9 : Int32) r30.2)) else ((op_pI 8 8 σ6 x0 (5 : Int32)).bind fun σ31 => some σ31)))))))))))))))))))))))
def f_X8_cutSign  (x0 : Nat) (σ : ah_H) : Option (ah_H) := op_ck 8 σ x0 (f_X8_cutSign_0 x0 σ)
set_option maxRecDepth 100000 in
set_option maxHeartbeats 4000000 in
theorem c_X8_cutSign_234 {G : ah_G}   : ∀ (s0 : Nat) (s1 : Int32) (σ : ah_H) (r : ah_H), f_X8_cutSign_234   s0 s1 σ = some r → AW G m_X8_cutSign 1 0 0 234 [] [.int s1, .ref s0] σ (ah_N G (ah_rv r)) := by
  intro s0 s1 σ r h
  unfold f_X8_cutSign_234 at h
  obtain ⟨σ1, e, h⟩ := op_bd h
  refine ow_pI (pc := 234) e dX8_cutSign_234 fd_X8_68 ?_
  refine aw_goto (pc := 237) 268 dX8_cutSign_237 (by decide) ?_
  exact ow_vret (pc := 268) h dX8_cutSign_268 rfl
set_option maxRecDepth 100000 in
set_option maxHeartbeats 4000000 in
theorem c_X8_cutSign_257 {G : ah_G}   : ∀ (s0 : Nat) (s1 : Int32) (σ : ah_H) (r : ah_H), f_X8_cutSign_257   s0 s1 σ = some r → AW G m_X8_cutSign 1 0 0 257 [] [.int s1, .ref s0] σ (ah_N G (ah_rv r)) := by
  intro s0 s1 σ r h
  unfold f_X8_cutSign_257 at h
  obtain ⟨σ1, e, h⟩ := op_bd h
  refine ow_pI (pc := 257) e dX8_cutSign_257 fd_X8_68 ?_
  refine aw_goto (pc := 260) 268 dX8_cutSign_260 (by decide) ?_
  exact ow_vret (pc := 268) h dX8_cutSign_268 rfl
set_option maxRecDepth 100000 in
set_option maxHeartbeats 4000000 in
theorem c_X8_cutSign_0 {G : ah_G}   : ∀ (x0 : Nat) (σ : ah_H) (r : ah_H), f_X8_cutSign_0   x0 σ = some r → AW G m_X8_cutSign 1 0 0 0 [(0, .ref x0)] [] σ (ah_N G (ah_rv r)) := by
  intro x0 σ r h
  unfold f_X8_cutSign_0 at h
  refine aw_aload_n (pc := 0) 0 dX8_cutSign_0 rfl ?_
  obtain ⟨v1, e, h⟩ := op_bd h
  refine ow_gR (pc := 1) e dX8_cutSign_1 fd_X8_24 rfl ?_
  refine aw_aload_n (pc := 4) 0 dX8_cutSign_4 rfl ?_
  obtain ⟨v2, e, h⟩ := op_bd h
  refine ow_gI (pc := 5) e dX8_cutSign_5 fd_X8_59 rfl ?_
  obtain ⟨v3, e, h⟩ := op_bd h
  refine ow_aB (pc := 8) e dX8_cutSign_8 ?_
  refine aw_istore_n (pc := 9) [(1, .int v3), (0, .ref x0)] dX8_cutSign_9 rfl (by decide) rfl ?_
  refine aw_aload_n (pc := 10) 1 dX8_cutSign_10 rfl ?_
  refine aw_dup (pc := 11) dX8_cutSign_11 rfl ?_
  obtain ⟨v4, e, h⟩ := op_bd h
  refine ow_gI (pc := 12) e dX8_cutSign_12 fd_X8_59 rfl ?_
  refine aw_iconst (pc := 15) (v := (1 : Int32)) dX8_cutSign_15 (by decide) ?_
  refine aw_iadd (pc := 16) dX8_cutSign_16 ?_
  obtain ⟨σ5, e, h⟩ := op_bd h
  refine ow_pI (pc := 17) e dX8_cutSign_17 fd_X8_59 ?_
  refine aw_aload_n (pc := 20) 1 dX8_cutSign_20 rfl ?_
  refine aw_iconst (pc := 21) (v := (4 : Int32)) dX8_cutSign_21 (by decide) ?_
  obtain ⟨σ6, e, h⟩ := op_bd h
  refine ow_pI (pc := 22) e dX8_cutSign_22 fd_X8_62 ?_
  refine aw_iload_n (pc := 25) 0 dX8_cutSign_25 rfl ?_
  by_cases z0 : v3 = (40 : Int32)
  · replace h := (if_pos z0).symm.trans h
    refine aw_tableIn (pc := 26) (off := 115) 141 dX8_cutSign_26 (by rw [z0]; decide) (by rw [z0]; decide) (by rw [z0]; decide) (by decide) ?_
    refine aw_aload_n (pc := 141) 1 dX8_cutSign_141 rfl ?_
    refine aw_bipush (pc := 142) (v := (31 : Int32)) dX8_cutSign_142 (by decide) ?_
    obtain ⟨σ7, e, h⟩ := op_bd h
    refine ow_pI (pc := 144) e dX8_cutSign_144 fd_X8_68 ?_
    refine aw_goto (pc := 147) 268 dX8_cutSign_147 (by decide) ?_
    exact ow_vret (pc := 268) h dX8_cutSign_268 rfl
  · replace h := (if_neg z0).symm.trans h
    by_cases z1 : v3 = (41 : Int32)
    · replace h := (if_pos z1).symm.trans h
      refine aw_tableIn (pc := 26) (off := 124) 150 dX8_cutSign_26 (by rw [z1]; decide) (by rw [z1]; decide) (by rw [z1]; decide) (by decide) ?_
      refine aw_aload_n (pc := 150) 1 dX8_cutSign_150 rfl ?_
      refine aw_bipush (pc := 151) (v := (32 : Int32)) dX8_cutSign_151 (by decide) ?_
      obtain ⟨σ8, e, h⟩ := op_bd h
      refine ow_pI (pc := 153) e dX8_cutSign_153 fd_X8_68 ?_
      refine aw_goto (pc := 156) 268 dX8_cutSign_156 (by decide) ?_
      exact ow_vret (pc := 268) h dX8_cutSign_268 rfl
    · replace h := (if_neg z1).symm.trans h
      by_cases z2 : v3 = (42 : Int32)
      · replace h := (if_pos z2).symm.trans h
        refine aw_tableIn (pc := 26) (off := 151) 177 dX8_cutSign_26 (by rw [z2]; decide) (by rw [z2]; decide) (by rw [z2]; decide) (by decide) ?_
        refine aw_aload_n (pc := 177) 1 dX8_cutSign_177 rfl ?_
        refine aw_bipush (pc := 178) (v := (13 : Int32)) dX8_cutSign_178 (by decide) ?_
        obtain ⟨σ9, e, h⟩ := op_bd h
        refine ow_pI (pc := 180) e dX8_cutSign_180 fd_X8_68 ?_
        refine aw_goto (pc := 183) 268 dX8_cutSign_183 (by decide) ?_
        exact ow_vret (pc := 268) h dX8_cutSign_268 rfl
      · replace h := (if_neg z2).symm.trans h
        by_cases z3 : v3 = (43 : Int32)
        · replace h := (if_pos z3).symm.trans h
          refine aw_tableIn (pc := 26) (off := 133) 159 dX8_cutSign_26 (by rw [z3]; decide) (by rw [z3]; decide) (by rw [z3]; decide) (by decide) ?_
          refine aw_aload_n (pc := 159) 1 dX8_cutSign_159 rfl ?_
          refine aw_bipush (pc := 160) (v := (11 : Int32)) dX8_cutSign_160 (by decide) ?_
          obtain ⟨σ10, e, h⟩ := op_bd h
          refine ow_pI (pc := 162) e dX8_cutSign_162 fd_X8_68 ?_
          refine aw_goto (pc := 165) 268 dX8_cutSign_165 (by decide) ?_
          exact ow_vret (pc := 268) h dX8_cutSign_268 rfl
        · replace h := (if_neg z3).symm.trans h
          by_cases z4 : v3 = (44 : Int32)
          · replace h := (if_pos z4).symm.trans h
            refine aw_tableIn (pc := 26) (off := 237) 263 dX8_cutSign_26 (by rw [z4]; decide) (by rw [z4]; decide) (by rw [z4]; decide) (by decide) ?_
            refine aw_aload_n (pc := 263) 1 dX8_cutSign_263 rfl ?_
            refine aw_iconst (pc := 264) (v := (5 : Int32)) dX8_cutSign_264 (by decide) ?_
            obtain ⟨σ11, e, h⟩ := op_bd h
            refine ow_pI (pc := 265) e dX8_cutSign_265 fd_X8_62 ?_
            exact ow_vret (pc := 268) h dX8_cutSign_268 rfl
          · replace h := (if_neg z4).symm.trans h
            by_cases z5 : v3 = (45 : Int32)
            · replace h := (if_pos z5).symm.trans h
              refine aw_tableIn (pc := 26) (off := 142) 168 dX8_cutSign_26 (by rw [z5]; decide) (by rw [z5]; decide) (by rw [z5]; decide) (by decide) ?_
              refine aw_aload_n (pc := 168) 1 dX8_cutSign_168 rfl ?_
              refine aw_bipush (pc := 169) (v := (12 : Int32)) dX8_cutSign_169 (by decide) ?_
              obtain ⟨σ12, e, h⟩ := op_bd h
              refine ow_pI (pc := 171) e dX8_cutSign_171 fd_X8_68 ?_
              refine aw_goto (pc := 174) 268 dX8_cutSign_174 (by decide) ?_
              exact ow_vret (pc := 268) h dX8_cutSign_268 rfl
            · replace h := (if_neg z5).symm.trans h
              by_cases z6 : v3 = (46 : Int32)
              · replace h := (if_pos z6).symm.trans h
                refine aw_tableIn (pc := 26) (off := 237) 263 dX8_cutSign_26 (by rw [z6]; decide) (by rw [z6]; decide) (by rw [z6]; decide) (by decide) ?_
                refine aw_aload_n (pc := 263) 1 dX8_cutSign_263 rfl ?_
                refine aw_iconst (pc := 264) (v := (5 : Int32)) dX8_cutSign_264 (by decide) ?_
                obtain ⟨σ13, e, h⟩ := op_bd h
                refine ow_pI (pc := 265) e dX8_cutSign_265 fd_X8_62 ?_
                exact ow_vret (pc := 268) h dX8_cutSign_268 rfl
              · replace h := (if_neg z6).symm.trans h
                by_cases z7 : v3 = (47 : Int32)
                · replace h := (if_pos z7).symm.trans h
                  refine aw_tableIn (pc := 26) (off := 160) 186 dX8_cutSign_26 (by rw [z7]; decide) (by rw [z7]; decide) (by rw [z7]; decide) (by decide) ?_
                  refine aw_aload_n (pc := 186) 1 dX8_cutSign_186 rfl ?_
                  refine aw_bipush (pc := 187) (v := (14 : Int32)) dX8_cutSign_187 (by decide) ?_
                  obtain ⟨σ14, e, h⟩ := op_bd h
                  refine ow_pI (pc := 189) e dX8_cutSign_189 fd_X8_68 ?_
                  refine aw_goto (pc := 192) 268 dX8_cutSign_192 (by decide) ?_
                  exact ow_vret (pc := 268) h dX8_cutSign_268 rfl
                · replace h := (if_neg z7).symm.trans h
                  by_cases z8 : v3 = (48 : Int32)
                  · replace h := (if_pos z8).symm.trans h
                    refine aw_tableIn (pc := 26) (off := 237) 263 dX8_cutSign_26 (by rw [z8]; decide) (by rw [z8]; decide) (by rw [z8]; decide) (by decide) ?_
                    refine aw_aload_n (pc := 263) 1 dX8_cutSign_263 rfl ?_
                    refine aw_iconst (pc := 264) (v := (5 : Int32)) dX8_cutSign_264 (by decide) ?_
                    obtain ⟨σ15, e, h⟩ := op_bd h
                    refine ow_pI (pc := 265) e dX8_cutSign_265 fd_X8_62 ?_
                    exact ow_vret (pc := 268) h dX8_cutSign_268 rfl
                  · replace h := (if_neg z8).symm.trans h
                    by_cases z9 : v3 = (49 : Int32)
                    · replace h := (if_pos z9).symm.trans h
                      refine aw_tableIn (pc := 26) (off := 237) 263 dX8_cutSign_26 (by rw [z9]; decide) (by rw [z9]; decide) (by rw [z9]; decide) (by decide) ?_
                      refine aw_aload_n (pc := 263) 1 dX8_cutSign_263 rfl ?_
                      refine aw_iconst (pc := 264) (v := (5 : Int32)) dX8_cutSign_264 (by decide) ?_
                      obtain ⟨σ16, e, h⟩ := op_bd h
                      refine ow_pI (pc := 265) e dX8_cutSign_265 fd_X8_62 ?_
                      exact ow_vret (pc := 268) h dX8_cutSign_268 rfl
                    · replace h := (if_neg z9).symm.trans h
                      by_cases z10 : v3 = (50 : Int32)
                      · replace h := (if_pos z10).symm.trans h
                        refine aw_tableIn (pc := 26) (off := 237) 263 dX8_cutSign_26 (by rw [z10]; decide) (by rw [z10]; decide) (by rw [z10]; decide) (by decide) ?_
                        refine aw_aload_n (pc := 263) 1 dX8_cutSign_263 rfl ?_
                        refine aw_iconst (pc := 264) (v := (5 : Int32)) dX8_cutSign_264 (by decide) ?_
                        obtain ⟨σ17, e, h⟩ := op_bd h
                        refine ow_pI (pc := 265) e dX8_cutSign_265 fd_X8_62 ?_
                        exact ow_vret (pc := 268) h dX8_cutSign_268 rfl
                      · replace h := (if_neg z10).symm.trans h
                        by_cases z11 : v3 = (51 : Int32)
                        · replace h := (if_pos z11).symm.trans h
                          refine aw_tableIn (pc := 26) (off := 237) 263 dX8_cutSign_26 (by rw [z11]; decide) (by rw [z11]; decide) (by rw [z11]; decide) (by decide) ?_
                          refine aw_aload_n (pc := 263) 1 dX8_cutSign_263 rfl ?_
                          refine aw_iconst (pc := 264) (v := (5 : Int32)) dX8_cutSign_264 (by decide) ?_
                          obtain ⟨σ18, e, h⟩ := op_bd h
                          refine ow_pI (pc := 265) e dX8_cutSign_265 fd_X8_62 ?_
                          exact ow_vret (pc := 268) h dX8_cutSign_268 rfl
                        · replace h := (if_neg z11).symm.trans h
                          by_cases z12 : v3 = (52 : Int32)
                          · replace h := (if_pos z12).symm.trans h
                            refine aw_tableIn (pc := 26) (off := 237) 263 dX8_cutSign_26 (by rw [z12]; decide) (by rw [z12]; decide) (by rw [z12]; decide) (by decide) ?_
                            refine aw_aload_n (pc := 263) 1 dX8_cutSign_263 rfl ?_
                            refine aw_iconst (pc := 264) (v := (5 : Int32)) dX8_cutSign_264 (by decide) ?_
                            obtain ⟨σ19, e, h⟩ := op_bd h
                            refine ow_pI (pc := 265) e dX8_cutSign_265 fd_X8_62 ?_
                            exact ow_vret (pc := 268) h dX8_cutSign_268 rfl
                          · replace h := (if_neg z12).symm.trans h
                            by_cases z13 : v3 = (53 : Int32)
                            · replace h := (if_pos z13).symm.trans h
                              refine aw_tableIn (pc := 26) (off := 237) 263 dX8_cutSign_26 (by rw [z13]; decide) (by rw [z13]; decide) (by rw [z13]; decide) (by decide) ?_
                              refine aw_aload_n (pc := 263) 1 dX8_cutSign_263 rfl ?_
                              refine aw_iconst (pc := 264) (v := (5 : Int32)) dX8_cutSign_264 (by decide) ?_
                              obtain ⟨σ20, e, h⟩ := op_bd h
                              refine ow_pI (pc := 265) e dX8_cutSign_265 fd_X8_62 ?_
                              exact ow_vret (pc := 268) h dX8_cutSign_268 rfl
                            · replace h := (if_neg z13).symm.trans h
                              by_cases z14 : v3 = (54 : Int32)
                              · replace h := (if_pos z14).symm.trans h
                                refine aw_tableIn (pc := 26) (off := 237) 263 dX8_cutSign_26 (by rw [z14]; decide) (by rw [z14]; decide) (by rw [z14]; decide) (by decide) ?_
                                refine aw_aload_n (pc := 263) 1 dX8_cutSign_263 rfl ?_
                                refine aw_iconst (pc := 264) (v := (5 : Int32)) dX8_cutSign_264 (by decide) ?_
                                obtain ⟨σ21, e, h⟩ := op_bd h
                                refine ow_pI (pc := 265) e dX8_cutSign_265 fd_X8_62 ?_
                                exact ow_vret (pc := 268) h dX8_cutSign_268 rfl
                              · replace h := (if_neg z14).symm.trans h
                                by_cases z15 : v3 = (55 : Int32)
                                · replace h := (if_pos z15).symm.trans h
                                  refine aw_tableIn (pc := 26) (off := 237) 263 dX8_cutSign_26 (by rw [z15]; decide) (by rw [z15]; decide) (by rw [z15]; decide) (by decide) ?_
                                  refine aw_aload_n (pc := 263) 1 dX8_cutSign_263 rfl ?_
                                  refine aw_iconst (pc := 264) (v := (5 : Int32)) dX8_cutSign_264 (by decide) ?_
                                  obtain ⟨σ22, e, h⟩ := op_bd h
                                  refine ow_pI (pc := 265) e dX8_cutSign_265 fd_X8_62 ?_
                                  exact ow_vret (pc := 268) h dX8_cutSign_268 rfl
                                · replace h := (if_neg z15).symm.trans h
                                  by_cases z16 : v3 = (56 : Int32)
                                  · replace h := (if_pos z16).symm.trans h
                                    refine aw_tableIn (pc := 26) (off := 237) 263 dX8_cutSign_26 (by rw [z16]; decide) (by rw [z16]; decide) (by rw [z16]; decide) (by decide) ?_
                                    refine aw_aload_n (pc := 263) 1 dX8_cutSign_263 rfl ?_
                                    refine aw_iconst (pc := 264) (v := (5 : Int32)) dX8_cutSign_264 (by decide) ?_
                                    obtain ⟨σ23, e, h⟩ := op_bd h
                                    refine ow_pI (pc := 265) e dX8_cutSign_265 fd_X8_62 ?_
                                    exact ow_vret (pc := 268) h dX8_cutSign_268 rfl
                                  · replace h := (if_neg z16).symm.trans h
                                    by_cases z17 : v3 = (57 : Int32)
                                    · replace h := (if_pos z17).symm.trans h
                                      refine aw_tableIn (pc := 26) (off := 237) 263 dX8_cutSign_26 (by rw [z17]; decide) (by rw [z17]; decide) (by rw [z17]; decide) (by decide) ?_
                                      refine aw_aload_n (pc := 263) 1 dX8_cutSign_263 rfl ?_
                                      refine aw_iconst (pc := 264) (v := (5 : Int32)) dX8_cutSign_264 (by decide) ?_
                                      obtain ⟨σ24, e, h⟩ := op_bd h
                                      refine ow_pI (pc := 265) e dX8_cutSign_265 fd_X8_62 ?_
                                      exact ow_vret (pc := 268) h dX8_cutSign_268 rfl
                                    · replace h := (if_neg z17).symm.trans h
                                      by_cases z18 : v3 = (58 : Int32)
                                      · replace h := (if_pos z18).symm.trans h
                                        refine aw_tableIn (pc := 26) (off := 237) 263 dX8_cutSign_26 (by rw [z18]; decide) (by rw [z18]; decide) (by rw [z18]; decide) (by decide) ?_
                                        refine aw_aload_n (pc := 263) 1 dX8_cutSign_263 rfl ?_
                                        refine aw_iconst (pc := 264) (v := (5 : Int32)) dX8_cutSign_264 (by decide) ?_
                                        obtain ⟨σ25, e, h⟩ := op_bd h
                                        refine ow_pI (pc := 265) e dX8_cutSign_265 fd_X8_62 ?_
                                        exact ow_vret (pc := 268) h dX8_cutSign_268 rfl
                                      · replace h := (if_neg z18).symm.trans h
                                        by_cases z19 : v3 = (59 : Int32)
                                        · replace h := (if_pos z19).symm.trans h
                                          refine aw_tableIn (pc := 26) (off := 106) 132 dX8_cutSign_26 (by rw [z19]; decide) (by rw [z19]; decide) (by rw [z19]; decide) (by decide) ?_
                                          refine aw_aload_n (pc := 132) 1 dX8_cutSign_132 rfl ?_
                                          refine aw_bipush (pc := 133) (v := (30 : Int32)) dX8_cutSign_133 (by decide) ?_
                                          obtain ⟨σ26, e, h⟩ := op_bd h
                                          refine ow_pI (pc := 135) e dX8_cutSign_135 fd_X8_68 ?_
                                          refine aw_goto (pc := 138) 268 dX8_cutSign_138 (by decide) ?_
                                          exact ow_vret (pc := 268) h dX8_cutSign_268 rfl
                                        · replace h := (if_neg z19).symm.trans h
                                          by_cases z20 : v3 = (60 : Int32)
                                          · replace h := (if_pos z20).symm.trans h
                                            refine aw_tableIn (pc := 26) (off := 178) 204 dX8_cutSign_26 (by rw [z20]; decide) (by rw [z20]; decide) (by rw [z20]; decide) (by decide) ?_
                                            refine aw_aload_n (pc := 204) 1 dX8_cutSign_204 rfl ?_
                                            refine aw_aload_n (pc := 205) 1 dX8_cutSign_205 rfl ?_
                                            refine aw_bipush (pc := 206) (v := (61 : Int32)) dX8_cutSign_206 (by decide) ?_
                                            obtain ⟨r27, e, h⟩ := op_bd h
                                            refine ow_cVi (pc := 208) [.int (61 : Int32)] ((c_X8_goesOn _ _ _ _ e).mono (by decide)) (op_ck_sh e) rfl dX8_cutSign_208 cw_X8_95 rfl (Nat.le_of_ble_eq_true rfl) ?_
                                            refine aw_if_eq (pc := 211) 219 dX8_cutSign_211 (by decide) (fun z => ?_) (fun z => ?_)
                                            · replace h := (if_pos z).symm.trans h
                                              refine aw_aload_n (pc := 219) 1 dX8_cutSign_219 rfl ?_
                                              refine aw_bipush (pc := 220) (v := (62 : Int32)) dX8_cutSign_220 (by decide) ?_
                                              obtain ⟨r28, e, h⟩ := op_bd h
                                              refine ow_cVi (pc := 222) [.int (62 : Int32)] ((c_X8_goesOn _ _ _ _ e).mono (by decide)) (op_ck_sh e) rfl dX8_cutSign_222 cw_X8_95 rfl (Nat.le_of_ble_eq_true rfl) ?_
                                              refine aw_if_eq (pc := 225) 233 dX8_cutSign_225 (by decide) (fun z => ?_) (fun z => ?_)
                                              · replace h := (if_pos z).symm.trans h
                                                refine aw_iconst (pc := 233) (v := (5 : Int32)) dX8_cutSign_233 (by decide) ?_
                                                refine aw_sub [] rfl ?_
                                                exact c_X8_cutSign_234  _ _ _ _ h
                                              · replace h := (if_neg z).symm.trans h
                                                refine aw_bipush (pc := 228) (v := (8 : Int32)) dX8_cutSign_228 (by decide) ?_
                                                refine aw_goto (pc := 230) 234 dX8_cutSign_230 (by decide) ?_
                                                refine aw_sub [] rfl ?_
                                                exact c_X8_cutSign_234  _ _ _ _ h
                                            · replace h := (if_neg z).symm.trans h
                                              refine aw_bipush (pc := 214) (v := (6 : Int32)) dX8_cutSign_214 (by decide) ?_
                                              refine aw_goto (pc := 216) 234 dX8_cutSign_216 (by decide) ?_
                                              refine aw_sub [] rfl ?_
                                              exact c_X8_cutSign_234  _ _ _ _ h
                                          · replace h := (if_neg z20).symm.trans h
                                            by_cases z21 : v3 = (61 : Int32)
                                            · replace h := (if_pos z21).symm.trans h
                                              refine aw_tableIn (pc := 26) (off := 169) 195 dX8_cutSign_26 (by rw [z21]; decide) (by rw [z21]; decide) (by rw [z21]; decide) (by decide) ?_
                                              refine aw_aload_n (pc := 195) 1 dX8_cutSign_195 rfl ?_
                                              refine aw_bipush (pc := 196) (v := (7 : Int32)) dX8_cutSign_196 (by decide) ?_
                                              obtain ⟨σ29, e, h⟩ := op_bd h
                                              refine ow_pI (pc := 198) e dX8_cutSign_198 fd_X8_68 ?_
                                              refine aw_goto (pc := 201) 268 dX8_cutSign_201 (by decide) ?_
                                              exact ow_vret (pc := 268) h dX8_cutSign_268 rfl
                                            · replace h := (if_neg z21).symm.trans h
                                              by_cases z22 : v3 = (62 : Int32)
                                              · replace h := (if_pos z22).symm.trans h
                                                refine aw_tableIn (pc := 26) (off := 214) 240 dX8_cutSign_26 (by rw [z22]; decide) (by rw [z22]; decide) (by rw [z22]; decide) (by decide) ?_
                                                refine aw_aload_n (pc := 240) 1 dX8_cutSign_240 rfl ?_
                                                refine aw_aload_n (pc := 241) 1 dX8_cutSign_241 rfl ?_
                                                refine aw_bipush (pc := 242) (v := (61 : Int32)) dX8_cutSign_242 (by decide) ?_
                                                obtain ⟨r30, e, h⟩ := op_bd h
                                                refine ow_cVi (pc := 244) [.int (61 : Int32)] ((c_X8_goesOn _ _ _ _ e).mono (by decide)) (op_ck_sh e) rfl dX8_cutSign_244 cw_X8_95 rfl (Nat.le_of_ble_eq_true rfl) ?_
                                                refine aw_if_eq (pc := 247) 255 dX8_cutSign_247 (by decide) (fun z => ?_) (fun z => ?_)
                                                · replace h := (if_pos z).symm.trans h
                                                  refine aw_bipush (pc := 255) (v := (10 : Int32)) dX8_cutSign_255 (by decide) ?_
                                                  refine aw_sub [] rfl ?_
                                                  exact c_X8_cutSign_257  _ _ _ _ h
                                                · replace h := (if_neg z).symm.trans h
                                                  refine aw_bipush (pc := 250) (v := (9 : Int32)) dX8_cutSign_250 (by decide) ?_
                                                  refine aw_goto (pc := 252) 257 dX8_cutSign_252 (by decide) ?_
                                                  refine aw_sub [] rfl ?_
                                                  exact c_X8_cutSign_257  _ _ _ _ h
                                              · replace h := (if_neg z22).symm.trans h
                                                have wz0 : ¬ (v3).toInt = 40 := fun q => z0 (Int32.toInt_inj.mp q)
                                                have wz1 : ¬ (v3).toInt = 41 := fun q => z1 (Int32.toInt_inj.mp q)
                                                have wz2 : ¬ (v3).toInt = 42 := fun q => z2 (Int32.toInt_inj.mp q)
                                                have wz3 : ¬ (v3).toInt = 43 := fun q => z3 (Int32.toInt_inj.mp q)
                                                have wz4 : ¬ (v3).toInt = 44 := fun q => z4 (Int32.toInt_inj.mp q)
                                                have wz5 : ¬ (v3).toInt = 45 := fun q => z5 (Int32.toInt_inj.mp q)
                                                have wz6 : ¬ (v3).toInt = 46 := fun q => z6 (Int32.toInt_inj.mp q)
                                                have wz7 : ¬ (v3).toInt = 47 := fun q => z7 (Int32.toInt_inj.mp q)
                                                have wz8 : ¬ (v3).toInt = 48 := fun q => z8 (Int32.toInt_inj.mp q)
                                                have wz9 : ¬ (v3).toInt = 49 := fun q => z9 (Int32.toInt_inj.mp q)
                                                have wz10 : ¬ (v3).toInt = 50 := fun q => z10 (Int32.toInt_inj.mp q)
                                                have wz11 : ¬ (v3).toInt = 51 := fun q => z11 (Int32.toInt_inj.mp q)
                                                have wz12 : ¬ (v3).toInt = 52 := fun q => z12 (Int32.toInt_inj.mp q)
                                                have wz13 : ¬ (v3).toInt = 53 := fun q => z13 (Int32.toInt_inj.mp q)
                                                have wz14 : ¬ (v3).toInt = 54 := fun q => z14 (Int32.toInt_inj.mp q)
                                                have wz15 : ¬ (v3).toInt = 55 := fun q => z15 (Int32.toInt_inj.mp q)
                                                have wz16 : ¬ (v3).toInt = 56 := fun q => z16 (Int32.toInt_inj.mp q)
                                                have wz17 : ¬ (v3).toInt = 57 := fun q => z17 (Int32.toInt_inj.mp q)
                                                have wz18 : ¬ (v3).toInt = 58 := fun q => z18 (Int32.toInt_inj.mp q)
                                                have wz19 : ¬ (v3).toInt = 59 := fun q => z19 (Int32.toInt_inj.mp q)
                                                have wz20 : ¬ (v3).toInt = 60 := fun q => z20 (Int32.toInt_inj.mp q)
                                                have wz21 : ¬ (v3).toInt = 61 := fun q => z21 (Int32.toInt_inj.mp q)
                                                have wz22 : ¬ (v3).toInt = 62 := fun q => z22 (Int32.toInt_inj.mp q)
                                                refine aw_tableOut (pc := 26) 263 dX8_cutSign_26 (by omega) (by decide) ?_
                                                refine aw_aload_n (pc := 263) 1 dX8_cutSign_263 rfl ?_
                                                refine aw_iconst (pc := 264) (v := (5 : Int32)) dX8_cutSign_264 (by decide) ?_
                                                obtain ⟨σ31, e, h⟩ := op_bd h
                                                refine ow_pI (pc := 265) e dX8_cutSign_265 fd_X8_62 ?_
                                                exact ow_vret (pc := 268) h dX8_cutSign_268 rfl
theorem c_X8_cutSign {G : ah_G}   (x0 : Nat) (σ : ah_H) (r : ah_H) (h : f_X8_cutSign  x0 σ = some r) : AM G m_X8_cutSign 1 0 0 [.ref x0] σ (ah_rv r) := aw_enter (by decide) (Nat.le_of_ble_eq_true rfl) (c_X8_cutSign_0 _ _ _ (op_ck_k h))
def f_X8_cutWord_68  (K7 : Nat → Int32 → ah_H → Option (ah_H)) (x0 : Nat) (x1 : Int32) (σ : ah_H) : Option (ah_H) :=
  (op_gI 8 6 σ x0).bind fun v1 => (op_pI 8 6 σ x0 (v1 + (1 : Int32))).bind fun σ2 => K7 x0 (x1 + (1 : Int32)) σ2
def f_X8_cutWord_138  (K101 : Nat → Int32 → ah_H → Option (ah_H)) (x0 : Nat) (x2 : Int32) (σ : ah_H) : Option (ah_H) :=
  K101 x0 (x2 + (1 : Int32)) σ
def f_X8_cutWord_101_b  (K101 : Nat → Int32 → ah_H → Option (ah_H)) (x0 : Nat) (x2 : Int32) (σ : ah_H) : Option (ah_H) :=
  (op_gI 8 8 σ x0).bind fun v1 => if v1 = (1 : Int32) then (if (24 : Int32) ≤ x2 then (some σ) else ((op_gR 8 1 σ x0).bind fun v2 => (op_aI σ v2 x2).bind fun v3 => (op_gI 8 9 σ x0).bind fun v4 => if v3 = v4 then ((op_pI 8 8 σ x0 (2 : Int32)).bind fun σ5 => (op_pI 8 9 σ5 x0 x2).bind fun σ6 => f_X8_cutWord_138 K101 x0 x2 σ6) else (f_X8_cutWord_138 K101 x0 x2 σ))) else (some σ)
def f_X8_cutWord_101   : Nat → Nat → Int32 → ah_H → Option (ah_H)
  | 0, _, _, _ => none
  | n + 1, x0, x2, σ => f_X8_cutWord_101_b (f_X8_cutWord_101 n) x0 x2 σ
def f_X8_cutWord_96   (x0 : Nat) (s0 : Nat) (s1 : Int32) (σ : ah_H) : Option (ah_H) :=
  (op_pI 8 8 σ s0 s1).bind fun σ1 => f_X8_cutWord_101 5000 x0 (0 : Int32) σ1
def f_X8_cutWord_84   (x0 : Nat) (x1 : Int32) (σ : ah_H) : Option (ah_H) :=
  if x1 ≤ (6 : Int32) then (f_X8_cutWord_96 x0 x0 (1 : Int32) σ) else (f_X8_cutWord_96 x0 x0 (5 : Int32) σ)
def f_X8_cutWord_7_b  (K7 : Nat → Int32 → ah_H → Option (ah_H)) (x0 : Nat) (x1 : Int32) (σ : ah_H) : Option (ah_H) :=
  (op_gI 8 6 σ x0).bind fun v1 => (op_gI 8 5 σ x0).bind fun v2 => if v2 ≤ v1 then (f_X8_cutWord_84 x0 x1 σ) else ((op_gR 8 0 σ x0).bind fun v3 => (op_gI 8 6 σ x0).bind fun v4 => (op_aB σ v3 v4).bind fun v5 => (f_X8_isLetter v5 σ).bind fun r6 => if r6.1 = 0 then (f_X8_cutWord_84 x0 x1 r6.2) else (if (6 : Int32) ≤ x1 then (f_X8_cutWord_68 K7 x0 x1 r6.2) else ((op_gI 8 9 r6.2 x0).bind fun v7 => (op_gR 8 0 r6.2 x0).bind fun v8 => (op_gI 8 6 r6.2 x0).bind fun v9 => (op_aB r6.2 v8 v9).bind fun v10 => (op_pI 8 9 r6.2 x0 (v7 ||| (((v10 - (97 : Int32)) + (1 : Int32)) <<< (((5 : Int32) * ((5 : Int32) - x1)) &&& 31)))).bind fun σ11 => f_X8_cutWord_68 K7 x0 x1 σ11)))
def f_X8_cutWord_7   : Nat → Nat → Int32 → ah_H → Option (ah_H)
  | 0, _, _, _ => none
  | n + 1, x0, x1, σ => f_X8_cutWord_7_b (f_X8_cutWord_7 n) x0 x1 σ
def f_X8_cutWord_0   (x0 : Nat) (σ : ah_H) : Option (ah_H) :=
  (op_pI 8 9 σ x0 (0 : Int32)).bind fun σ1 => f_X8_cutWord_7 5000 x0 (0 : Int32) σ1
def f_X8_cutWord  (x0 : Nat) (σ : ah_H) : Option (ah_H) := op_ck 8 σ x0 (f_X8_cutWord_0 x0 σ)
set_option maxRecDepth 100000 in
set_option maxHeartbeats 4000000 in
theorem c_X8_cutWord_68 {G : ah_G}  (K7 : Nat → Int32 → ah_H → Option (ah_H)) (hK7 : ∀ (x0 : Nat) (x1 : Int32) (σ : ah_H) (r : ah_H), K7 x0 x1 σ = some r → AW G m_X8_cutWord 1 0 0 7 [(0, .ref x0), (1, .int x1)] [] σ (ah_N G (ah_rv r))) : ∀ (x0 : Nat) (x1 : Int32) (σ : ah_H) (r : ah_H), f_X8_cutWord_68  K7 x0 x1 σ = some r → AW G m_X8_cutWord 1 0 0 68 [(0, .ref x0), (1, .int x1)] [] σ (ah_N G (ah_rv r)) := by
  intro x0 x1 σ r h
  unfold f_X8_cutWord_68 at h
  refine aw_iinc (pc := 68) 1 [(1, .int (x1 + (1 : Int32))), (0, .ref x0)] (x1 + (1 : Int32)) dX8_cutWord_68 rfl rfl (by decide) rfl ?_
  refine aw_aload_n (pc := 71) 1 dX8_cutWord_71 rfl ?_
  refine aw_dup (pc := 72) dX8_cutWord_72 rfl ?_
  obtain ⟨v1, e, h⟩ := op_bd h
  refine ow_gI (pc := 73) e dX8_cutWord_73 fd_X8_59 rfl ?_
  refine aw_iconst (pc := 76) (v := (1 : Int32)) dX8_cutWord_76 (by decide) ?_
  refine aw_iadd (pc := 77) dX8_cutWord_77 ?_
  obtain ⟨σ2, e, h⟩ := op_bd h
  refine ow_pI (pc := 78) e dX8_cutWord_78 fd_X8_59 ?_
  refine aw_goto (pc := 81) 7 dX8_cutWord_81 (by decide) ?_
  refine aw_sub [1, 0] rfl ?_
  exact hK7 _ _ _ _ h
set_option maxRecDepth 100000 in
set_option maxHeartbeats 4000000 in
theorem c_X8_cutWord_138 {G : ah_G}  (K101 : Nat → Int32 → ah_H → Option (ah_H)) (hK101 : ∀ (x0 : Nat) (x2 : Int32) (σ : ah_H) (r : ah_H), K101 x0 x2 σ = some r → AW G m_X8_cutWord 1 0 0 101 [(0, .ref x0), (2, .int x2)] [] σ (ah_N G (ah_rv r))) : ∀ (x0 : Nat) (x2 : Int32) (σ : ah_H) (r : ah_H), f_X8_cutWord_138  K101 x0 x2 σ = some r → AW G m_X8_cutWord 1 0 0 138 [(0, .ref x0), (2, .int x2)] [] σ (ah_N G (ah_rv r)) := by
  intro x0 x2 σ r h
  unfold f_X8_cutWord_138 at h
  refine aw_iinc (pc := 138) 1 [(2, .int (x2 + (1 : Int32))), (0, .ref x0)] (x2 + (1 : Int32)) dX8_cutWord_138 rfl rfl (by decide) rfl ?_
  refine aw_goto (pc := 141) 101 dX8_cutWord_141 (by decide) ?_
  refine aw_sub [1, 0] rfl ?_
  exact hK101 _ _ _ _ h
set_option maxRecDepth 100000 in
set_option maxHeartbeats 4000000 in
theorem c_X8_cutWord_101_b {G : ah_G}  (K101 : Nat → Int32 → ah_H → Option (ah_H)) (hK101 : ∀ (x0 : Nat) (x2 : Int32) (σ : ah_H) (r : ah_H), K101 x0 x2 σ = some r → AW G m_X8_cutWord 1 0 0 101 [(0, .ref x0), (2, .int x2)] [] σ (ah_N G (ah_rv r))) : ∀ (x0 : Nat) (x2 : Int32) (σ : ah_H) (r : ah_H), f_X8_cutWord_101_b  K101 x0 x2 σ = some r → AW G m_X8_cutWord 1 0 0 101 [(0, .ref x0), (2, .int x2)] [] σ (ah_N G (ah_rv r)) := by
  intro x0 x2 σ r h
  unfold f_X8_cutWord_101_b at h
  refine aw_aload_n (pc := 101) 0 dX8_cutWord_101 rfl ?_
  obtain ⟨v1, e, h⟩ := op_bd h
  refine ow_gI (pc := 102) e dX8_cutWord_102 fd_X8_62 rfl ?_
  refine aw_iconst (pc := 105) (v := (1 : Int32)) dX8_cutWord_105 (by decide) ?_
  refine aw_icmp_ne (pc := 106) 144 dX8_cutWord_106 (by decide) (fun z => ?_) (fun z => ?_)
  · replace h := (if_neg z).symm.trans h
    exact ow_vret (pc := 144) h dX8_cutWord_144 rfl
  · replace h := (if_pos z).symm.trans h
    refine aw_iload_n (pc := 109) 1 dX8_cutWord_109 rfl ?_
    refine aw_bipush (pc := 110) (v := (24 : Int32)) dX8_cutWord_110 (by decide) ?_
    refine aw_icmp_ge (pc := 112) 144 dX8_cutWord_112 (by decide) (fun z => ?_) (fun z => ?_)
    · replace h := (if_pos z).symm.trans h
      exact ow_vret (pc := 144) h dX8_cutWord_144 rfl
    · replace h := (if_neg z).symm.trans h
      refine aw_aload_n (pc := 115) 0 dX8_cutWord_115 rfl ?_
      obtain ⟨v2, e, h⟩ := op_bd h
      refine ow_gR (pc := 116) e dX8_cutWord_116 fd_X8_11 rfl ?_
      refine aw_iload_n (pc := 119) 1 dX8_cutWord_119 rfl ?_
      obtain ⟨v3, e, h⟩ := op_bd h
      refine ow_aI (pc := 120) e dX8_cutWord_120 ?_
      refine aw_aload_n (pc := 121) 0 dX8_cutWord_121 rfl ?_
      obtain ⟨v4, e, h⟩ := op_bd h
      refine ow_gI (pc := 122) e dX8_cutWord_122 fd_X8_68 rfl ?_
      refine aw_icmp_ne (pc := 125) 138 dX8_cutWord_125 (by decide) (fun z => ?_) (fun z => ?_)
      · replace h := (if_neg z).symm.trans h
        exact c_X8_cutWord_138 K101 hK101 _ _ _ _ h
      · replace h := (if_pos z).symm.trans h
        refine aw_aload_n (pc := 128) 0 dX8_cutWord_128 rfl ?_
        refine aw_iconst (pc := 129) (v := (2 : Int32)) dX8_cutWord_129 (by decide) ?_
        obtain ⟨σ5, e, h⟩ := op_bd h
        refine ow_pI (pc := 130) e dX8_cutWord_130 fd_X8_62 ?_
        refine aw_aload_n (pc := 133) 0 dX8_cutWord_133 rfl ?_
        refine aw_iload_n (pc := 134) 1 dX8_cutWord_134 rfl ?_
        obtain ⟨σ6, e, h⟩ := op_bd h
        refine ow_pI (pc := 135) e dX8_cutWord_135 fd_X8_68 ?_
        exact c_X8_cutWord_138 K101 hK101 _ _ _ _ h
theorem c_X8_cutWord_101 {G : ah_G}   : ∀ (n : Nat) (x0 : Nat) (x2 : Int32) (σ : ah_H) (r : ah_H), f_X8_cutWord_101   n x0 x2 σ = some r → AW G m_X8_cutWord 1 0 0 101 [(0, .ref x0), (2, .int x2)] [] σ (ah_N G (ah_rv r)) := by
  intro n
  induction n with
  | zero => intro x0 x2 σ r h; cases h
  | succ n ih => intro x0 x2 σ r h; exact c_X8_cutWord_101_b   _ ih x0 x2 σ r h
set_option maxRecDepth 100000 in
set_option maxHeartbeats 4000000 in
theorem c_X8_cutWord_96 {G : ah_G}   : ∀ (x0 : Nat) (s0 : Nat) (s1 : Int32) (σ : ah_H) (r : ah_H), f_X8_cutWord_96   x0 s0 s1 σ = some r → AW G m_X8_cutWord 1 0 0 96 [(0, .ref x0)] [.int s1, .ref s0] σ (ah_N G (ah_rv r)) := by
  intro x0 s0 s1 σ r h
  unfold f_X8_cutWord_96 at h
  obtain ⟨σ1, e, h⟩ := op_bd h
  refine ow_pI (pc := 96) e dX8_cutWord_96 fd_X8_62 ?_
  refine aw_iconst (pc := 99) (v := (0 : Int32)) dX8_cutWord_99 (by decide) ?_
  refine aw_istore_n (pc := 100) [(2, .int (0 : Int32)), (0, .ref x0)] dX8_cutWord_100 rfl (by decide) rfl ?_
  refine aw_sub [1, 0] rfl ?_
  exact c_X8_cutWord_101  _ _ _ _ _ h
set_option maxRecDepth 100000 in
set_option maxHeartbeats 4000000 in
theorem c_X8_cutWord_84 {G : ah_G}   : ∀ (x0 : Nat) (x1 : Int32) (σ : ah_H) (r : ah_H), f_X8_cutWord_84   x0 x1 σ = some r → AW G m_X8_cutWord 1 0 0 84 [(0, .ref x0), (1, .int x1)] [] σ (ah_N G (ah_rv r)) := by
  intro x0 x1 σ r h
  unfold f_X8_cutWord_84 at h
  refine aw_aload_n (pc := 84) 0 dX8_cutWord_84 rfl ?_
  refine aw_iload_n (pc := 85) 1 dX8_cutWord_85 rfl ?_
  refine aw_bipush (pc := 86) (v := (6 : Int32)) dX8_cutWord_86 (by decide) ?_
  refine aw_icmp_le (pc := 88) 95 dX8_cutWord_88 (by decide) (fun z => ?_) (fun z => ?_)
  · replace h := (if_pos z).symm.trans h
    refine aw_iconst (pc := 95) (v := (1 : Int32)) dX8_cutWord_95 (by decide) ?_
    refine aw_sub [0] rfl ?_
    exact c_X8_cutWord_96  _ _ _ _ _ h
  · replace h := (if_neg z).symm.trans h
    refine aw_iconst (pc := 91) (v := (5 : Int32)) dX8_cutWord_91 (by decide) ?_
    refine aw_goto (pc := 92) 96 dX8_cutWord_92 (by decide) ?_
    refine aw_sub [0] rfl ?_
    exact c_X8_cutWord_96  _ _ _ _ _ h
set_option maxRecDepth 100000 in
set_option maxHeartbeats 4000000 in
theorem c_X8_cutWord_7_b {G : ah_G}  (K7 : Nat → Int32 → ah_H → Option (ah_H)) (hK7 : ∀ (x0 : Nat) (x1 : Int32) (σ : ah_H) (r : ah_H), K7 x0 x1 σ = some r → AW G m_X8_cutWord 1 0 0 7 [(0, .ref x0), (1, .int x1)] [] σ (ah_N G (ah_rv r))) : ∀ (x0 : Nat) (x1 : Int32) (σ : ah_H) (r : ah_H), f_X8_cutWord_7_b  K7 x0 x1 σ = some r → AW G m_X8_cutWord 1 0 0 7 [(0, .ref x0), (1, .int x1)] [] σ (ah_N G (ah_rv r)) := by
  intro x0 x1 σ r h
  unfold f_X8_cutWord_7_b at h
  refine aw_aload_n (pc := 7) 0 dX8_cutWord_7 rfl ?_
  obtain ⟨v1, e, h⟩ := op_bd h
  refine ow_gI (pc := 8) e dX8_cutWord_8 fd_X8_59 rfl ?_
  refine aw_aload_n (pc := 11) 0 dX8_cutWord_11 rfl ?_
  obtain ⟨v2, e, h⟩ := op_bd h
  refine ow_gI (pc := 12) e dX8_cutWord_12 fd_X8_56 rfl ?_
  refine aw_icmp_ge (pc := 15) 84 dX8_cutWord_15 (by decide) (fun z => ?_) (fun z => ?_)
  · replace h := (if_pos z).symm.trans h
    exact c_X8_cutWord_84  _ _ _ _ h
  · replace h := (if_neg z).symm.trans h
    refine aw_aload_n (pc := 18) 0 dX8_cutWord_18 rfl ?_
    obtain ⟨v3, e, h⟩ := op_bd h
    refine ow_gR (pc := 19) e dX8_cutWord_19 fd_X8_24 rfl ?_
    refine aw_aload_n (pc := 22) 0 dX8_cutWord_22 rfl ?_
    obtain ⟨v4, e, h⟩ := op_bd h
    refine ow_gI (pc := 23) e dX8_cutWord_23 fd_X8_59 rfl ?_
    obtain ⟨v5, e, h⟩ := op_bd h
    refine ow_aB (pc := 26) e dX8_cutWord_26 ?_
    obtain ⟨r6, e, h⟩ := op_bd h
    refine ow_cSi (pc := 27) [.int v5] ((c_X8_isLetter _ _ _ e).mono (by decide)) rfl dX8_cutWord_27 cw_X8_46 rfl (Nat.le_of_ble_eq_true rfl) ?_
    refine aw_if_eq (pc := 30) 84 dX8_cutWord_30 (by decide) (fun z => ?_) (fun z => ?_)
    · replace h := (if_pos z).symm.trans h
      exact c_X8_cutWord_84  _ _ _ _ h
    · replace h := (if_neg z).symm.trans h
      refine aw_iload_n (pc := 33) 1 dX8_cutWord_33 rfl ?_
      refine aw_bipush (pc := 34) (v := (6 : Int32)) dX8_cutWord_34 (by decide) ?_
      refine aw_icmp_ge (pc := 36) 68 dX8_cutWord_36 (by decide) (fun z => ?_) (fun z => ?_)
      · replace h := (if_pos z).symm.trans h
        exact c_X8_cutWord_68 K7 hK7 _ _ _ _ h
      · replace h := (if_neg z).symm.trans h
        refine aw_aload_n (pc := 39) 0 dX8_cutWord_39 rfl ?_
        refine aw_dup (pc := 40) dX8_cutWord_40 rfl ?_
        obtain ⟨v7, e, h⟩ := op_bd h
        refine ow_gI (pc := 41) e dX8_cutWord_41 fd_X8_68 rfl ?_
        refine aw_aload_n (pc := 44) 0 dX8_cutWord_44 rfl ?_
        obtain ⟨v8, e, h⟩ := op_bd h
        refine ow_gR (pc := 45) e dX8_cutWord_45 fd_X8_24 rfl ?_
        refine aw_aload_n (pc := 48) 0 dX8_cutWord_48 rfl ?_
        obtain ⟨v9, e, h⟩ := op_bd h
        refine ow_gI (pc := 49) e dX8_cutWord_49 fd_X8_59 rfl ?_
        obtain ⟨v10, e, h⟩ := op_bd h
        refine ow_aB (pc := 52) e dX8_cutWord_52 ?_
        refine aw_bipush (pc := 53) (v := (97 : Int32)) dX8_cutWord_53 (by decide) ?_
        refine aw_isub (pc := 55) dX8_cutWord_55 ?_
        refine aw_iconst (pc := 56) (v := (1 : Int32)) dX8_cutWord_56 (by decide) ?_
        refine aw_iadd (pc := 57) dX8_cutWord_57 ?_
        refine aw_iconst (pc := 58) (v := (5 : Int32)) dX8_cutWord_58 (by decide) ?_
        refine aw_iconst (pc := 59) (v := (5 : Int32)) dX8_cutWord_59 (by decide) ?_
        refine aw_iload_n (pc := 60) 1 dX8_cutWord_60 rfl ?_
        refine aw_isub (pc := 61) dX8_cutWord_61 ?_
        refine aw_imul (pc := 62) dX8_cutWord_62 ?_
        refine aw_ishl (pc := 63) dX8_cutWord_63 ?_
        refine aw_ior (pc := 64) dX8_cutWord_64 ?_
        obtain ⟨σ11, e, h⟩ := op_bd h
        refine ow_pI (pc := 65) e dX8_cutWord_65 fd_X8_68 ?_
        exact c_X8_cutWord_68 K7 hK7 _ _ _ _ h
theorem c_X8_cutWord_7 {G : ah_G}   : ∀ (n : Nat) (x0 : Nat) (x1 : Int32) (σ : ah_H) (r : ah_H), f_X8_cutWord_7   n x0 x1 σ = some r → AW G m_X8_cutWord 1 0 0 7 [(0, .ref x0), (1, .int x1)] [] σ (ah_N G (ah_rv r)) := by
  intro n
  induction n with
  | zero => intro x0 x1 σ r h; cases h
  | succ n ih => intro x0 x1 σ r h; exact c_X8_cutWord_7_b   _ ih x0 x1 σ r h
set_option maxRecDepth 100000 in
set_option maxHeartbeats 4000000 in
theorem c_X8_cutWord_0 {G : ah_G}   : ∀ (x0 : Nat) (σ : ah_H) (r : ah_H), f_X8_cutWord_0   x0 σ = some r → AW G m_X8_cutWord 1 0 0 0 [(0, .ref x0)] [] σ (ah_N G (ah_rv r)) := by
  intro x0 σ r h
  unfold f_X8_cutWord_0 at h
  refine aw_iconst (pc := 0) (v := (0 : Int32)) dX8_cutWord_0 (by decide) ?_
  refine aw_istore_n (pc := 1) [(1, .int (0 : Int32)), (0, .ref x0)] dX8_cutWord_1 rfl (by decide) rfl ?_
  refine aw_aload_n (pc := 2) 1 dX8_cutWord_2 rfl ?_
  refine aw_iconst (pc := 3) (v := (0 : Int32)) dX8_cutWord_3 (by decide) ?_
  obtain ⟨σ1, e, h⟩ := op_bd h
  refine ow_pI (pc := 4) e dX8_cutWord_4 fd_X8_68 ?_
  refine aw_sub [1, 0] rfl ?_
  exact c_X8_cutWord_7  _ _ _ _ _ h
theorem c_X8_cutWord {G : ah_G}   (x0 : Nat) (σ : ah_H) (r : ah_H) (h : f_X8_cutWord  x0 σ = some r) : AM G m_X8_cutWord 1 0 0 [.ref x0] σ (ah_rv r) := aw_enter (by decide) (Nat.le_of_ble_eq_true rfl) (c_X8_cutWord_0 _ _ _ (op_ck_k h))
def f_X8_cut_39  (K0 : Nat → ah_H → Option (ah_H)) (x0 : Nat) (σ : ah_H) : Option (ah_H) :=
  (op_gI 8 6 σ x0).bind fun v1 => (op_pI 8 6 σ x0 (v1 + (1 : Int32))).bind fun σ2 => K0 x0 σ2
def f_X8_cut_52   (x0 : Nat) (σ : ah_H) : Option (ah_H) :=
  (op_gI 8 6 σ x0).bind fun v1 => (op_pI 8 10 σ x0 v1).bind fun σ2 => (op_gI 8 6 σ2 x0).bind fun v3 => (op_gI 8 5 σ2 x0).bind fun v4 => if v3 < v4 then ((op_gR 8 0 σ2 x0).bind fun v5 => (op_gI 8 6 σ2 x0).bind fun v6 => (op_aB σ2 v5 v6).bind fun v7 => (f_X8_isLetter v7 σ2).bind fun r8 => if r8.1 = 0 then ((op_gR 8 0 r8.2 x0).bind fun v9 => (op_gI 8 6 r8.2 x0).bind fun v10 => (op_aB r8.2 v9 v10).bind fun v11 => (f_X8_isDigit v11 r8.2).bind fun r12 => if r12.1 = 0 then ((f_X8_cutSign x0 r12.2).bind fun r13 => some r13) else ((f_X8_cutNumber x0 r12.2).bind fun r14 => some r14)) else ((f_X8_cutWord x0 r8.2).bind fun r15 => some r15)) else ((op_pI 8 8 σ2 x0 (0 : Int32)).bind fun σ16 => some σ16)
def f_X8_cut_0_b  (K0 : Nat → ah_H → Option (ah_H)) (x0 : Nat) (σ : ah_H) : Option (ah_H) :=
  (op_gI 8 6 σ x0).bind fun v1 => (op_gI 8 5 σ x0).bind fun v2 => if v2 ≤ v1 then (f_X8_cut_52 x0 σ) else ((op_gR 8 0 σ x0).bind fun v3 => (op_gI 8 6 σ x0).bind fun v4 => (op_aB σ v3 v4).bind fun v5 => if v5 = (10 : Int32) then (f_X8_cut_39 K0 x0 σ) else ((op_gR 8 0 σ x0).bind fun v6 => (op_gI 8 6 σ x0).bind fun v7 => (op_aB σ v6 v7).bind fun v8 => if v8 = (32 : Int32) then (f_X8_cut_39 K0 x0 σ) else (f_X8_cut_52 x0 σ)))
def f_X8_cut_0   : Nat → Nat → ah_H → Option (ah_H)
  | 0, _, _ => none
  | n + 1, x0, σ => f_X8_cut_0_b (f_X8_cut_0 n) x0 σ
def f_X8_cut  (x0 : Nat) (σ : ah_H) : Option (ah_H) := op_ck 8 σ x0 (f_X8_cut_0 5000 x0 σ)
set_option maxRecDepth 100000 in
set_option maxHeartbeats 4000000 in
theorem c_X8_cut_39 {G : ah_G}  (K0 : Nat → ah_H → Option (ah_H)) (hK0 : ∀ (x0 : Nat) (σ : ah_H) (r : ah_H), K0 x0 σ = some r → AW G m_X8_cut 2 0 0 0 [(0, .ref x0)] [] σ (ah_N G (ah_rv r))) : ∀ (x0 : Nat) (σ : ah_H) (r : ah_H), f_X8_cut_39  K0 x0 σ = some r → AW G m_X8_cut 2 0 0 39 [(0, .ref x0)] [] σ (ah_N G (ah_rv r)) := by
  intro x0 σ r h
  unfold f_X8_cut_39 at h
  refine aw_aload_n (pc := 39) 0 dX8_cut_39 rfl ?_
  refine aw_dup (pc := 40) dX8_cut_40 rfl ?_
  obtain ⟨v1, e, h⟩ := op_bd h
  refine ow_gI (pc := 41) e dX8_cut_41 fd_X8_59 rfl ?_
  refine aw_iconst (pc := 44) (v := (1 : Int32)) dX8_cut_44 (by decide) ?_
  refine aw_iadd (pc := 45) dX8_cut_45 ?_
  obtain ⟨σ2, e, h⟩ := op_bd h
  refine ow_pI (pc := 46) e dX8_cut_46 fd_X8_59 ?_
  refine aw_goto (pc := 49) 0 dX8_cut_49 (by decide) ?_
  exact hK0 _ _ _ h
set_option maxRecDepth 100000 in
set_option maxHeartbeats 4000000 in
theorem c_X8_cut_52 {G : ah_G}   : ∀ (x0 : Nat) (σ : ah_H) (r : ah_H), f_X8_cut_52   x0 σ = some r → AW G m_X8_cut 2 0 0 52 [(0, .ref x0)] [] σ (ah_N G (ah_rv r)) := by
  intro x0 σ r h
  unfold f_X8_cut_52 at h
  refine aw_aload_n (pc := 52) 0 dX8_cut_52 rfl ?_
  refine aw_aload_n (pc := 53) 0 dX8_cut_53 rfl ?_
  obtain ⟨v1, e, h⟩ := op_bd h
  refine ow_gI (pc := 54) e dX8_cut_54 fd_X8_59 rfl ?_
  obtain ⟨σ2, e, h⟩ := op_bd h
  refine ow_pI (pc := 57) e dX8_cut_57 fd_X8_71 ?_
  refine aw_aload_n (pc := 60) 0 dX8_cut_60 rfl ?_
  obtain ⟨v3, e, h⟩ := op_bd h
  refine ow_gI (pc := 61) e dX8_cut_61 fd_X8_59 rfl ?_
  refine aw_aload_n (pc := 64) 0 dX8_cut_64 rfl ?_
  obtain ⟨v4, e, h⟩ := op_bd h
  refine ow_gI (pc := 65) e dX8_cut_65 fd_X8_56 rfl ?_
  refine aw_icmp_lt (pc := 68) 79 dX8_cut_68 (by decide) (fun z => ?_) (fun z => ?_)
  · replace h := (if_pos z).symm.trans h
    refine aw_aload_n (pc := 79) 0 dX8_cut_79 rfl ?_
    obtain ⟨v5, e, h⟩ := op_bd h
    refine ow_gR (pc := 80) e dX8_cut_80 fd_X8_24 rfl ?_
    refine aw_aload_n (pc := 83) 0 dX8_cut_83 rfl ?_
    obtain ⟨v6, e, h⟩ := op_bd h
    refine ow_gI (pc := 84) e dX8_cut_84 fd_X8_59 rfl ?_
    obtain ⟨v7, e, h⟩ := op_bd h
    refine ow_aB (pc := 87) e dX8_cut_87 ?_
    obtain ⟨r8, e, h⟩ := op_bd h
    refine ow_cSi (pc := 88) [.int v7] ((c_X8_isLetter _ _ _ e).mono (by decide)) rfl dX8_cut_88 cw_X8_46 rfl (Nat.le_of_ble_eq_true rfl) ?_
    refine aw_if_eq (pc := 91) 101 dX8_cut_91 (by decide) (fun z => ?_) (fun z => ?_)
    · replace h := (if_pos z).symm.trans h
      refine aw_aload_n (pc := 101) 0 dX8_cut_101 rfl ?_
      obtain ⟨v9, e, h⟩ := op_bd h
      refine ow_gR (pc := 102) e dX8_cut_102 fd_X8_24 rfl ?_
      refine aw_aload_n (pc := 105) 0 dX8_cut_105 rfl ?_
      obtain ⟨v10, e, h⟩ := op_bd h
      refine ow_gI (pc := 106) e dX8_cut_106 fd_X8_59 rfl ?_
      obtain ⟨v11, e, h⟩ := op_bd h
      refine ow_aB (pc := 109) e dX8_cut_109 ?_
      obtain ⟨r12, e, h⟩ := op_bd h
      refine ow_cSi (pc := 110) [.int v11] ((c_X8_isDigit _ _ _ e).mono (by decide)) rfl dX8_cut_110 cw_X8_83 rfl (Nat.le_of_ble_eq_true rfl) ?_
      refine aw_if_eq (pc := 113) 123 dX8_cut_113 (by decide) (fun z => ?_) (fun z => ?_)
      · replace h := (if_pos z).symm.trans h
        refine aw_aload_n (pc := 123) 0 dX8_cut_123 rfl ?_
        obtain ⟨r13, e, h⟩ := op_bd h
        refine ow_cVv (pc := 124) [] ((c_X8_cutSign _ _ _ e).mono (by decide)) (op_ck_sh e) rfl dX8_cut_124 cw_X8_89 rfl (Nat.le_of_ble_eq_true rfl) ?_
        exact ow_vret (pc := 127) h dX8_cut_127 rfl
      · replace h := (if_neg z).symm.trans h
        refine aw_aload_n (pc := 116) 0 dX8_cut_116 rfl ?_
        obtain ⟨r14, e, h⟩ := op_bd h
        refine ow_cVv (pc := 117) [] ((c_X8_cutNumber _ _ _ e).mono (by decide)) (op_ck_sh e) rfl dX8_cut_117 cw_X8_86 rfl (Nat.le_of_ble_eq_true rfl) ?_
        refine aw_goto (pc := 120) 127 dX8_cut_120 (by decide) ?_
        exact ow_vret (pc := 127) h dX8_cut_127 rfl
    · replace h := (if_neg z).symm.trans h
      refine aw_aload_n (pc := 94) 0 dX8_cut_94 rfl ?_
      obtain ⟨r15, e, h⟩ := op_bd h
      refine ow_cVv (pc := 95) [] ((c_X8_cutWord _ _ _ e).mono (by decide)) (op_ck_sh e) rfl dX8_cut_95 cw_X8_80 rfl (Nat.le_of_ble_eq_true rfl) ?_
      refine aw_goto (pc := 98) 127 dX8_cut_98 (by decide) ?_
      exact ow_vret (pc := 127) h dX8_cut_127 rfl
  · replace h := (if_neg z).symm.trans h
    refine aw_aload_n (pc := 71) 0 dX8_cut_71 rfl ?_
    refine aw_iconst (pc := 72) (v := (0 : Int32)) dX8_cut_72 (by decide) ?_
    obtain ⟨σ16, e, h⟩ := op_bd h
    refine ow_pI (pc := 73) e dX8_cut_73 fd_X8_62 ?_
    refine aw_goto (pc := 76) 127 dX8_cut_76 (by decide) ?_
    exact ow_vret (pc := 127) h dX8_cut_127 rfl
set_option maxRecDepth 100000 in
set_option maxHeartbeats 4000000 in
theorem c_X8_cut_0_b {G : ah_G}  (K0 : Nat → ah_H → Option (ah_H)) (hK0 : ∀ (x0 : Nat) (σ : ah_H) (r : ah_H), K0 x0 σ = some r → AW G m_X8_cut 2 0 0 0 [(0, .ref x0)] [] σ (ah_N G (ah_rv r))) : ∀ (x0 : Nat) (σ : ah_H) (r : ah_H), f_X8_cut_0_b  K0 x0 σ = some r → AW G m_X8_cut 2 0 0 0 [(0, .ref x0)] [] σ (ah_N G (ah_rv r)) := by
  intro x0 σ r h
  unfold f_X8_cut_0_b at h
  refine aw_aload_n (pc := 0) 0 dX8_cut_0 rfl ?_
  obtain ⟨v1, e, h⟩ := op_bd h
  refine ow_gI (pc := 1) e dX8_cut_1 fd_X8_59 rfl ?_
  refine aw_aload_n (pc := 4) 0 dX8_cut_4 rfl ?_
  obtain ⟨v2, e, h⟩ := op_bd h
  refine ow_gI (pc := 5) e dX8_cut_5 fd_X8_56 rfl ?_
  refine aw_icmp_ge (pc := 8) 52 dX8_cut_8 (by decide) (fun z => ?_) (fun z => ?_)
  · replace h := (if_pos z).symm.trans h
    exact c_X8_cut_52  _ _ _ h
  · replace h := (if_neg z).symm.trans h
    refine aw_aload_n (pc := 11) 0 dX8_cut_11 rfl ?_
    obtain ⟨v3, e, h⟩ := op_bd h
    refine ow_gR (pc := 12) e dX8_cut_12 fd_X8_24 rfl ?_
    refine aw_aload_n (pc := 15) 0 dX8_cut_15 rfl ?_
    obtain ⟨v4, e, h⟩ := op_bd h
    refine ow_gI (pc := 16) e dX8_cut_16 fd_X8_59 rfl ?_
    obtain ⟨v5, e, h⟩ := op_bd h
    refine ow_aB (pc := 19) e dX8_cut_19 ?_
    refine aw_bipush (pc := 20) (v := (10 : Int32)) dX8_cut_20 (by decide) ?_
    refine aw_icmp_eq (pc := 22) 39 dX8_cut_22 (by decide) (fun z => ?_) (fun z => ?_)
    · replace h := (if_pos z).symm.trans h
      exact c_X8_cut_39 K0 hK0 _ _ _ h
    · replace h := (if_neg z).symm.trans h
      refine aw_aload_n (pc := 25) 0 dX8_cut_25 rfl ?_
      obtain ⟨v6, e, h⟩ := op_bd h
      refine ow_gR (pc := 26) e dX8_cut_26 fd_X8_24 rfl ?_
      refine aw_aload_n (pc := 29) 0 dX8_cut_29 rfl ?_
      obtain ⟨v7, e, h⟩ := op_bd h
      refine ow_gI (pc := 30) e dX8_cut_30 fd_X8_59 rfl ?_
      obtain ⟨v8, e, h⟩ := op_bd h
      refine ow_aB (pc := 33) e dX8_cut_33 ?_
      refine aw_bipush (pc := 34) (v := (32 : Int32)) dX8_cut_34 (by decide) ?_
      refine aw_icmp_ne (pc := 36) 52 dX8_cut_36 (by decide) (fun z => ?_) (fun z => ?_)
      · replace h := (if_neg z).symm.trans h
        exact c_X8_cut_52  _ _ _ h
      · replace h := (if_pos z).symm.trans h
        exact c_X8_cut_39 K0 hK0 _ _ _ h
theorem c_X8_cut_0 {G : ah_G}   : ∀ (n : Nat) (x0 : Nat) (σ : ah_H) (r : ah_H), f_X8_cut_0   n x0 σ = some r → AW G m_X8_cut 2 0 0 0 [(0, .ref x0)] [] σ (ah_N G (ah_rv r)) := by
  intro n
  induction n with
  | zero => intro x0 σ r h; cases h
  | succ n ih => intro x0 σ r h; exact c_X8_cut_0_b   _ ih x0 σ r h
theorem c_X8_cut {G : ah_G}   (x0 : Nat) (σ : ah_H) (r : ah_H) (h : f_X8_cut  x0 σ = some r) : AM G m_X8_cut 2 0 0 [.ref x0] σ (ah_rv r) := aw_enter (by decide) (Nat.le_of_ble_eq_true rfl) (c_X8_cut_0 _ _ _ _ (op_ck_k h))
def f_X8_start_79   (x0 : Nat) (σ : ah_H) : Option (ah_H) :=
  (op_pI 8 7 σ x0 (-1 : Int32)).bind fun σ1 => (f_X8_step x0 σ1).bind fun r2 => some r2
def f_X8_start_25_b  (K25 : Nat → Int32 → ah_H → Option (ah_H)) (x0 : Nat) (x2 : Int32) (σ : ah_H) : Option (ah_H) :=
  if (700 : Int32) < x2 then (f_X8_start_79 x0 σ) else ((op_gI 8 8 σ x0).bind fun v1 => if v1 = 0 then (f_X8_start_79 x0 σ) else ((f_X8_cut x0 σ).bind fun r2 => (op_gR 8 2 r2 x0).bind fun v3 => (op_gI 8 8 r2 x0).bind fun v4 => (op_sI r2 v3 x2 v4).bind fun σ5 => (op_gR 8 3 σ5 x0).bind fun v6 => (op_gI 8 9 σ5 x0).bind fun v7 => (op_sI σ5 v6 x2 v7).bind fun σ8 => (op_gR 8 4 σ8 x0).bind fun v9 => (op_gI 8 10 σ8 x0).bind fun v10 => (op_sI σ8 v9 x2 v10).bind fun σ11 => K25 x0 (x2 + (1 : Int32)) σ11))
def f_X8_start_25   : Nat → Nat → Int32 → ah_H → Option (ah_H)
  | 0, _, _, _ => none
  | n + 1, x0, x2, σ => f_X8_start_25_b (f_X8_start_25 n) x0 x2 σ
def f_X8_start_0   (x0 : Nat) (x1 : Int32) (σ : ah_H) : Option (ah_H) :=
  (op_gR 8 0 σ x0).bind fun v1 => (op_len .byte σ v1).bind fun n2 => (op_pI 8 5 σ x0 (op_mini x1 (Int32.ofNat n2))).bind fun σ3 => (op_pI 8 6 σ3 x0 (0 : Int32)).bind fun σ4 => (op_pI 8 8 σ4 x0 (3 : Int32)).bind fun σ5 => f_X8_start_25 5000 x0 (0 : Int32) σ5
def f_X8_start  (x0 : Nat) (x1 : Int32) (σ : ah_H) : Option (ah_H) := op_ck 8 σ x0 (f_X8_start_0 x0 x1 σ)
set_option maxRecDepth 100000 in
set_option maxHeartbeats 4000000 in
theorem c_X8_start_79 {G : ah_G}   : ∀ (x0 : Nat) (σ : ah_H) (r : ah_H), f_X8_start_79   x0 σ = some r → AW G m_X8_start 3 0 0 79 [(0, .ref x0)] [] σ (ah_N G (ah_rv r)) := by
  intro x0 σ r h
  unfold f_X8_start_79 at h
  refine aw_aload_n (pc := 79) 0 dX8_start_79 rfl ?_
  refine aw_iconst (pc := 80) (v := (-1 : Int32)) dX8_start_80 (by decide) ?_
  obtain ⟨σ1, e, h⟩ := op_bd h
  refine ow_pI (pc := 81) e dX8_start_81 fd_X8_74 ?_
  refine aw_aload_n (pc := 84) 0 dX8_start_84 rfl ?_
  obtain ⟨r2, e, h⟩ := op_bd h
  refine ow_cVv (pc := 85) [] ((c_X8_step _ _ _ e).mono (by decide)) (op_ck_sh e) rfl dX8_start_85 cw_X8_77 rfl (Nat.le_of_ble_eq_true rfl) ?_
  exact ow_vret (pc := 88) h dX8_start_88 rfl
set_option maxRecDepth 100000 in
set_option maxHeartbeats 4000000 in
theorem c_X8_start_25_b {G : ah_G}  (K25 : Nat → Int32 → ah_H → Option (ah_H)) (hK25 : ∀ (x0 : Nat) (x2 : Int32) (σ : ah_H) (r : ah_H), K25 x0 x2 σ = some r → AW G m_X8_start 3 0 0 25 [(0, .ref x0), (2, .int x2)] [] σ (ah_N G (ah_rv r))) : ∀ (x0 : Nat) (x2 : Int32) (σ : ah_H) (r : ah_H), f_X8_start_25_b  K25 x0 x2 σ = some r → AW G m_X8_start 3 0 0 25 [(0, .ref x0), (2, .int x2)] [] σ (ah_N G (ah_rv r)) := by
  intro x0 x2 σ r h
  unfold f_X8_start_25_b at h
  refine aw_iload_n (pc := 25) 1 dX8_start_25 rfl ?_
  refine aw_sipush (pc := 26) (v := (700 : Int32)) dX8_start_26 (by decide) ?_
  refine aw_icmp_gt (pc := 29) 79 dX8_start_29 (by decide) (fun z => ?_) (fun z => ?_)
  · replace h := (if_pos z).symm.trans h
    refine aw_sub [0] rfl ?_
    exact c_X8_start_79  _ _ _ h
  · replace h := (if_neg z).symm.trans h
    refine aw_aload_n (pc := 32) 0 dX8_start_32 rfl ?_
    obtain ⟨v1, e, h⟩ := op_bd h
    refine ow_gI (pc := 33) e dX8_start_33 fd_X8_62 rfl ?_
    refine aw_if_eq (pc := 36) 79 dX8_start_36 (by decide) (fun z => ?_) (fun z => ?_)
    · replace h := (if_pos z).symm.trans h
      refine aw_sub [0] rfl ?_
      exact c_X8_start_79  _ _ _ h
    · replace h := (if_neg z).symm.trans h
      refine aw_aload_n (pc := 39) 0 dX8_start_39 rfl ?_
      obtain ⟨r2, e, h⟩ := op_bd h
      refine ow_cVv (pc := 40) [] ((c_X8_cut _ _ _ e).mono (by decide)) (op_ck_sh e) rfl dX8_start_40 cw_X8_65 rfl (Nat.le_of_ble_eq_true rfl) ?_
      refine aw_aload_n (pc := 43) 0 dX8_start_43 rfl ?_
      obtain ⟨v3, e, h⟩ := op_bd h
      refine ow_gR (pc := 44) e dX8_start_44 fd_X8_15 rfl ?_
      refine aw_iload_n (pc := 47) 1 dX8_start_47 rfl ?_
      refine aw_aload_n (pc := 48) 0 dX8_start_48 rfl ?_
      obtain ⟨v4, e, h⟩ := op_bd h
      refine ow_gI (pc := 49) e dX8_start_49 fd_X8_62 rfl ?_
      obtain ⟨σ5, e, h⟩ := op_bd h
      refine ow_sI (pc := 52) e dX8_start_52 ?_
      refine aw_aload_n (pc := 53) 0 dX8_start_53 rfl ?_
      obtain ⟨v6, e, h⟩ := op_bd h
      refine ow_gR (pc := 54) e dX8_start_54 fd_X8_18 rfl ?_
      refine aw_iload_n (pc := 57) 1 dX8_start_57 rfl ?_
      refine aw_aload_n (pc := 58) 0 dX8_start_58 rfl ?_
      obtain ⟨v7, e, h⟩ := op_bd h
      refine ow_gI (pc := 59) e dX8_start_59 fd_X8_68 rfl ?_
      obtain ⟨σ8, e, h⟩ := op_bd h
      refine ow_sI (pc := 62) e dX8_start_62 ?_
      refine aw_aload_n (pc := 63) 0 dX8_start_63 rfl ?_
      obtain ⟨v9, e, h⟩ := op_bd h
      refine ow_gR (pc := 64) e dX8_start_64 fd_X8_21 rfl ?_
      refine aw_iload_n (pc := 67) 1 dX8_start_67 rfl ?_
      refine aw_aload_n (pc := 68) 0 dX8_start_68 rfl ?_
      obtain ⟨v10, e, h⟩ := op_bd h
      refine ow_gI (pc := 69) e dX8_start_69 fd_X8_71 rfl ?_
      obtain ⟨σ11, e, h⟩ := op_bd h
      refine ow_sI (pc := 72) e dX8_start_72 ?_
      refine aw_iinc (pc := 73) 1 [(2, .int (x2 + (1 : Int32))), (0, .ref x0)] (x2 + (1 : Int32)) dX8_start_73 rfl rfl (by decide) rfl ?_
      refine aw_goto (pc := 76) 25 dX8_start_76 (by decide) ?_
      refine aw_sub [1, 0] rfl ?_
      exact hK25 _ _ _ _ h
theorem c_X8_start_25 {G : ah_G}   : ∀ (n : Nat) (x0 : Nat) (x2 : Int32) (σ : ah_H) (r : ah_H), f_X8_start_25   n x0 x2 σ = some r → AW G m_X8_start 3 0 0 25 [(0, .ref x0), (2, .int x2)] [] σ (ah_N G (ah_rv r)) := by
  intro n
  induction n with
  | zero => intro x0 x2 σ r h; cases h
  | succ n ih => intro x0 x2 σ r h; exact c_X8_start_25_b   _ ih x0 x2 σ r h
set_option maxRecDepth 100000 in
set_option maxHeartbeats 4000000 in
theorem c_X8_start_0 {G : ah_G}   : ∀ (x0 : Nat) (x1 : Int32) (σ : ah_H) (r : ah_H), f_X8_start_0   x0 x1 σ = some r → AW G m_X8_start 3 0 0 0 [(0, .ref x0), (1, .int x1)] [] σ (ah_N G (ah_rv r)) := by
  intro x0 x1 σ r h
  unfold f_X8_start_0 at h
  refine aw_aload_n (pc := 0) 0 dX8_start_0 rfl ?_
  refine aw_iload_n (pc := 1) 1 dX8_start_1 rfl ?_
  refine aw_aload_n (pc := 2) 0 dX8_start_2 rfl ?_
  obtain ⟨v1, e, h⟩ := op_bd h
  refine ow_gR (pc := 3) e dX8_start_3 fd_X8_24 rfl ?_
  obtain ⟨n2, e, h⟩ := op_bd h
  refine ow_alen (pc := 6) e dX8_start_6 (by decide) ?_
  refine ow_mini (pc := 7) dX8_start_7 mt_X8_50 (Nat.le_of_ble_eq_true rfl) ?_
  obtain ⟨σ3, e, h⟩ := op_bd h
  refine ow_pI (pc := 10) e dX8_start_10 fd_X8_56 ?_
  refine aw_aload_n (pc := 13) 0 dX8_start_13 rfl ?_
  refine aw_iconst (pc := 14) (v := (0 : Int32)) dX8_start_14 (by decide) ?_
  obtain ⟨σ4, e, h⟩ := op_bd h
  refine ow_pI (pc := 15) e dX8_start_15 fd_X8_59 ?_
  refine aw_aload_n (pc := 18) 0 dX8_start_18 rfl ?_
  refine aw_iconst (pc := 19) (v := (3 : Int32)) dX8_start_19 (by decide) ?_
  obtain ⟨σ5, e, h⟩ := op_bd h
  refine ow_pI (pc := 20) e dX8_start_20 fd_X8_62 ?_
  refine aw_iconst (pc := 23) (v := (0 : Int32)) dX8_start_23 (by decide) ?_
  refine aw_istore_n (pc := 24) [(2, .int (0 : Int32)), (0, .ref x0), (1, .int x1)] dX8_start_24 rfl (by decide) rfl ?_
  refine aw_sub [1, 0] rfl ?_
  exact c_X8_start_25  _ _ _ _ _ h
theorem c_X8_start {G : ah_G}   (x0 : Nat) (x1 : Int32) (σ : ah_H) (r : ah_H) (h : f_X8_start  x0 x1 σ = some r) : AM G m_X8_start 3 0 0 [.ref x0, .int x1] σ (ah_rv r) := aw_enter (by decide) (Nat.le_of_ble_eq_true rfl) (c_X8_start_0 _ _ _ _ (op_ck_k h))
def f_X7_read_70   (x0 : Nat) (σ : ah_H) : Option (Int32 × ah_H) :=
  (f_X7_fail x0 (1 : Int32) σ).bind fun r1 => some ((-1 : Int32), r1.2)
def f_X7_read_32_b  (K32 : Nat → Int32 → ah_H → Option (Int32 × ah_H)) (x0 : Nat) (x3 : Int32) (σ : ah_H) : Option (Int32 × ah_H) :=
  if (700 : Int32) ≤ x3 then (some (x3, σ)) else ((op_gR 7 0 σ x0).bind fun v1 => (op_gI 8 8 σ v1).bind fun v2 => if v2 = 0 then (some (x3, σ)) else ((f_X7_readLine x0 σ).bind fun r3 => if r3.1 = 0 then (some ((-1 : Int32), r3.2)) else ((op_gR 7 0 r3.2 x0).bind fun v4 => (f_X8_isSign v4 (30 : Int32) r3.2).bind fun r5 => if r5.1 = 0 then (f_X7_read_70 x0 r5.2) else ((op_gR 7 0 r5.2 x0).bind fun v6 => (f_X8_step v6 r5.2).bind fun r7 => K32 x0 (x3 + (1 : Int32)) r7))))
def f_X7_read_32   : Nat → Nat → Int32 → ah_H → Option (Int32 × ah_H)
  | 0, _, _, _ => none
  | n + 1, x0, x3, σ => f_X7_read_32_b (f_X7_read_32 n) x0 x3 σ
def f_X7_read_0   (x0 : Nat) (x1 : Nat) (x2 : Int32) (σ : ah_H) : Option (Int32 × ah_H) :=
  (op_pR 7 2 σ x0 x1).bind fun σ1 => (op_gR 7 2 σ1 x0).bind fun v2 => (f_X9_clear v2 σ1).bind fun r3 => (op_pI 7 3 r3 x0 (0 : Int32)).bind fun σ4 => (op_pI 7 4 σ4 x0 (-1 : Int32)).bind fun σ5 => (op_gR 7 0 σ5 x0).bind fun v6 => (f_X8_start v6 x2 σ5).bind fun r7 => f_X7_read_32 5000 x0 (0 : Int32) r7
def f_X7_read  (x0 : Nat) (x1 : Nat) (x2 : Int32) (σ : ah_H) : Option (Int32 × ah_H) := op_ck 7 σ x0 (f_X7_read_0 x0 x1 x2 σ)
set_option maxRecDepth 100000 in
set_option maxHeartbeats 4000000 in
theorem c_X7_read_70 {G : ah_G}   : ∀ (x0 : Nat) (σ : ah_H) (r : Int32 × ah_H), f_X7_read_70   x0 σ = some r → AW G m_X7_read 6 0 0 70 [(0, .ref x0)] [] σ (ah_N G (ah_ri r)) := by
  intro x0 σ r h
  unfold f_X7_read_70 at h
  refine aw_aload_n (pc := 70) 0 dX7_read_70 rfl ?_
  refine aw_iconst (pc := 71) (v := (1 : Int32)) dX7_read_71 (by decide) ?_
  obtain ⟨r1, e, h⟩ := op_bd h
  refine ow_cVi (pc := 72) [.int (1 : Int32)] ((c_X7_fail _ _ _ _ e).mono (by decide)) (op_ck_sh e) rfl dX7_read_72 cw_X7_64 rfl (Nat.le_of_ble_eq_true rfl) ?_
  refine aw_pop (pc := 75) dX7_read_75 rfl ?_
  refine aw_iconst (pc := 76) (v := (-1 : Int32)) dX7_read_76 (by decide) ?_
  exact ow_iret (pc := 77) h dX7_read_77 rfl
set_option maxRecDepth 100000 in
set_option maxHeartbeats 4000000 in
theorem c_X7_read_32_b {G : ah_G}  (K32 : Nat → Int32 → ah_H → Option (Int32 × ah_H)) (hK32 : ∀ (x0 : Nat) (x3 : Int32) (σ : ah_H) (r : Int32 × ah_H), K32 x0 x3 σ = some r → AW G m_X7_read 6 0 0 32 [(0, .ref x0), (3, .int x3)] [] σ (ah_N G (ah_ri r))) : ∀ (x0 : Nat) (x3 : Int32) (σ : ah_H) (r : Int32 × ah_H), f_X7_read_32_b  K32 x0 x3 σ = some r → AW G m_X7_read 6 0 0 32 [(0, .ref x0), (3, .int x3)] [] σ (ah_N G (ah_ri r)) := by
  intro x0 x3 σ r h
  unfold f_X7_read_32_b at h
  refine aw_iload_n (pc := 32) 1 dX7_read_32 rfl ?_
  refine aw_sipush (pc := 33) (v := (700 : Int32)) dX7_read_33 (by decide) ?_
  refine aw_icmp_ge (pc := 36) 91 dX7_read_36 (by decide) (fun z => ?_) (fun z => ?_)
  · replace h := (if_pos z).symm.trans h
    refine aw_iload_n (pc := 91) 1 dX7_read_91 rfl ?_
    exact ow_iret (pc := 92) h dX7_read_92 rfl
  · replace h := (if_neg z).symm.trans h
    refine aw_aload_n (pc := 39) 0 dX7_read_39 rfl ?_
    obtain ⟨v1, e, h⟩ := op_bd h
    refine ow_gR (pc := 40) e dX7_read_40 fd_X7_23 rfl ?_
    obtain ⟨v2, e, h⟩ := op_bd h
    refine ow_gI (pc := 43) e dX7_read_43 fd_X7_53 rfl ?_
    refine aw_if_eq (pc := 46) 91 dX7_read_46 (by decide) (fun z => ?_) (fun z => ?_)
    · replace h := (if_pos z).symm.trans h
      refine aw_iload_n (pc := 91) 1 dX7_read_91 rfl ?_
      exact ow_iret (pc := 92) h dX7_read_92 rfl
    · replace h := (if_neg z).symm.trans h
      refine aw_aload_n (pc := 49) 0 dX7_read_49 rfl ?_
      obtain ⟨r3, e, h⟩ := op_bd h
      refine ow_cVi (pc := 50) [] ((c_X7_readLine _ _ _ e).mono (by decide)) (op_ck_sh e) rfl dX7_read_50 cw_X7_56 rfl (Nat.le_of_ble_eq_true rfl) ?_
      refine aw_if_ne (pc := 53) 58 dX7_read_53 (by decide) (fun z => ?_) (fun z => ?_)
      · replace h := (if_neg z).symm.trans h
        refine aw_aload_n (pc := 58) 0 dX7_read_58 rfl ?_
        obtain ⟨v4, e, h⟩ := op_bd h
        refine ow_gR (pc := 59) e dX7_read_59 fd_X7_23 rfl ?_
        refine aw_bipush (pc := 62) (v := (30 : Int32)) dX7_read_62 (by decide) ?_
        obtain ⟨r5, e, h⟩ := op_bd h
        refine ow_cVi (pc := 64) [.int (30 : Int32)] ((c_X8_isSign _ _ _ _ e).mono (by decide)) (op_ck_sh e) rfl dX7_read_64 cw_X7_60 rfl (Nat.le_of_ble_eq_true rfl) ?_
        refine aw_if_ne (pc := 67) 78 dX7_read_67 (by decide) (fun z => ?_) (fun z => ?_)
        · replace h := (if_neg z).symm.trans h
          refine aw_aload_n (pc := 78) 0 dX7_read_78 rfl ?_
          obtain ⟨v6, e, h⟩ := op_bd h
          refine ow_gR (pc := 79) e dX7_read_79 fd_X7_23 rfl ?_
          obtain ⟨r7, e, h⟩ := op_bd h
          refine ow_cVv (pc := 82) [] ((c_X8_step _ _ _ e).mono (by decide)) (op_ck_sh e) rfl dX7_read_82 cw_X7_67 rfl (Nat.le_of_ble_eq_true rfl) ?_
          refine aw_iinc (pc := 85) 1 [(3, .int (x3 + (1 : Int32))), (0, .ref x0)] (x3 + (1 : Int32)) dX7_read_85 rfl rfl (by decide) rfl ?_
          refine aw_goto (pc := 88) 32 dX7_read_88 (by decide) ?_
          refine aw_sub [1, 0] rfl ?_
          exact hK32 _ _ _ _ h
        · replace h := (if_pos z).symm.trans h
          refine aw_sub [0] rfl ?_
          exact c_X7_read_70  _ _ _ h
      · replace h := (if_pos z).symm.trans h
        refine aw_iconst (pc := 56) (v := (-1 : Int32)) dX7_read_56 (by decide) ?_
        exact ow_iret (pc := 57) h dX7_read_57 rfl
theorem c_X7_read_32 {G : ah_G}   : ∀ (n : Nat) (x0 : Nat) (x3 : Int32) (σ : ah_H) (r : Int32 × ah_H), f_X7_read_32   n x0 x3 σ = some r → AW G m_X7_read 6 0 0 32 [(0, .ref x0), (3, .int x3)] [] σ (ah_N G (ah_ri r)) := by
  intro n
  induction n with
  | zero => intro x0 x3 σ r h; cases h
  | succ n ih => intro x0 x3 σ r h; exact c_X7_read_32_b   _ ih x0 x3 σ r h
set_option maxRecDepth 100000 in
set_option maxHeartbeats 4000000 in
theorem c_X7_read_0 {G : ah_G}   : ∀ (x0 : Nat) (x1 : Nat) (x2 : Int32) (σ : ah_H) (r : Int32 × ah_H), f_X7_read_0   x0 x1 x2 σ = some r → AW G m_X7_read 6 0 0 0 [(0, .ref x0), (1, .ref x1), (2, .int x2)] [] σ (ah_N G (ah_ri r)) := by
  intro x0 x1 x2 σ r h
  unfold f_X7_read_0 at h
  refine aw_aload_n (pc := 0) 0 dX7_read_0 rfl ?_
  refine aw_aload_n (pc := 1) 1 dX7_read_1 rfl ?_
  obtain ⟨σ1, e, h⟩ := op_bd h
  refine ow_pR (pc := 2) e dX7_read_2 fd_X7_42 rfl ?_
  refine aw_aload_n (pc := 5) 0 dX7_read_5 rfl ?_
  obtain ⟨v2, e, h⟩ := op_bd h
  refine ow_gR (pc := 6) e dX7_read_6 fd_X7_42 rfl ?_
  obtain ⟨r3, e, h⟩ := op_bd h
  refine ow_cVv (pc := 9) [] ((c_X9_clear _ _ _ e).mono (by decide)) (op_ck_sh e) rfl dX7_read_9 cw_X7_46 rfl (Nat.le_of_ble_eq_true rfl) ?_
  refine aw_aload_n (pc := 12) 0 dX7_read_12 rfl ?_
  refine aw_iconst (pc := 13) (v := (0 : Int32)) dX7_read_13 (by decide) ?_
  obtain ⟨σ4, e, h⟩ := op_bd h
  refine ow_pI (pc := 14) e dX7_read_14 fd_X7_9 ?_
  refine aw_aload_n (pc := 17) 0 dX7_read_17 rfl ?_
  refine aw_iconst (pc := 18) (v := (-1 : Int32)) dX7_read_18 (by decide) ?_
  obtain ⟨σ5, e, h⟩ := op_bd h
  refine ow_pI (pc := 19) e dX7_read_19 fd_X7_15 ?_
  refine aw_aload_n (pc := 22) 0 dX7_read_22 rfl ?_
  obtain ⟨v6, e, h⟩ := op_bd h
  refine ow_gR (pc := 23) e dX7_read_23 fd_X7_23 rfl ?_
  refine aw_iload_n (pc := 26) 2 dX7_read_26 rfl ?_
  obtain ⟨r7, e, h⟩ := op_bd h
  refine ow_cVv (pc := 27) [.int x2] ((c_X8_start _ _ _ _ e).mono (by decide)) (op_ck_sh e) rfl dX7_read_27 cw_X7_49 rfl (Nat.le_of_ble_eq_true rfl) ?_
  refine aw_iconst (pc := 30) (v := (0 : Int32)) dX7_read_30 (by decide) ?_
  refine aw_istore_n (pc := 31) [(3, .int (0 : Int32)), (0, .ref x0), (1, .ref x1), (2, .int x2)] dX7_read_31 rfl (by decide) rfl ?_
  refine aw_sub [1, 0] rfl ?_
  exact c_X7_read_32  _ _ _ _ _ h
theorem c_X7_read {G : ah_G}   (x0 : Nat) (x1 : Nat) (x2 : Int32) (σ : ah_H) (r : Int32 × ah_H) (h : f_X7_read  x0 x1 x2 σ = some r) : AM G m_X7_read 6 0 0 [.ref x0, .ref x1, .int x2] σ (ah_ri r) := aw_enter (by decide) (Nat.le_of_ble_eq_true rfl) (c_X7_read_0 _ _ _ _ _ (op_ck_k h))
def f_X11_text_0   (x0 : Nat) (x1 : Int32) (σ : ah_H) : Option (Int32 × ah_H) :=
  if x1 < 0 then (some ((-2 : Int32), σ)) else ((op_gI 11 1 σ x0).bind fun v1 => if x1 ≤ v1 then ((op_pI 11 1 σ x0 (0 : Int32)).bind fun σ2 => (op_gR 11 4 σ2 x0).bind fun v3 => (op_gR 11 3 σ2 x0).bind fun v4 => (f_X7_read v3 v4 x1 σ2).bind fun r5 => if r5.1 = (-1 : Int32) then (some (r5.1, r5.2)) else ((op_gR 11 3 r5.2 x0).bind fun v6 => (op_gR 11 2 r5.2 x0).bind fun v7 => (op_pR 11 3 r5.2 x0 v7).bind fun σ8 => (op_pR 11 2 σ8 x0 v6).bind fun σ9 => (op_gR 11 5 σ9 x0).bind fun v10 => (f_X5_clear v10 σ9).bind fun r11 => (op_gR 11 6 r11 x0).bind fun v12 => (op_gR 11 2 r11 x0).bind fun v13 => (f_X3_serve v12 v13 r11).bind fun r14 => (op_gR 11 7 r14 x0).bind fun v15 => (op_gR 11 2 r14 x0).bind fun v16 => (f_X10_serve v15 v16 r14).bind fun r17 => some (r5.1, r17))) else (some ((-2 : Int32), σ)))
def f_X11_text  (x0 : Nat) (x1 : Int32) (σ : ah_H) : Option (Int32 × ah_H) := op_ck 11 σ x0 (f_X11_text_0 x0 x1 σ)
set_option maxRecDepth 100000 in
set_option maxHeartbeats 4000000 in
theorem c_X11_text_0 {G : ah_G}   : ∀ (x0 : Nat) (x1 : Int32) (σ : ah_H) (r : Int32 × ah_H), f_X11_text_0   x0 x1 σ = some r → AW G m_X11_text 7 0 0 0 [(0, .ref x0), (1, .int x1)] [] σ (ah_N G (ah_ri r)) := by
  intro x0 x1 σ r h
  unfold f_X11_text_0 at h
  refine aw_iload_n (pc := 0) 1 dX11_text_0 rfl ?_
  refine aw_if_lt (pc := 1) 12 dX11_text_1 (by decide) (fun z => ?_) (fun z => ?_)
  · replace h := (if_pos z).symm.trans h
    refine aw_bipush (pc := 12) (v := (-2 : Int32)) dX11_text_12 (by decide) ?_
    exact ow_iret (pc := 14) h dX11_text_14 rfl
  · replace h := (if_neg z).symm.trans h
    refine aw_iload_n (pc := 4) 1 dX11_text_4 rfl ?_
    refine aw_aload_n (pc := 5) 0 dX11_text_5 rfl ?_
    obtain ⟨v1, e, h⟩ := op_bd h
    refine ow_gI (pc := 6) e dX11_text_6 fd_X11_13 rfl ?_
    refine aw_icmp_le (pc := 9) 15 dX11_text_9 (by decide) (fun z => ?_) (fun z => ?_)
    · replace h := (if_pos z).symm.trans h
      refine aw_aload_n (pc := 15) 0 dX11_text_15 rfl ?_
      refine aw_iconst (pc := 16) (v := (0 : Int32)) dX11_text_16 (by decide) ?_
      obtain ⟨σ2, e, h⟩ := op_bd h
      refine ow_pI (pc := 17) e dX11_text_17 fd_X11_13 ?_
      refine aw_aload_n (pc := 20) 0 dX11_text_20 rfl ?_
      obtain ⟨v3, e, h⟩ := op_bd h
      refine ow_gR (pc := 21) e dX11_text_21 fd_X11_32 rfl ?_
      refine aw_aload_n (pc := 24) 0 dX11_text_24 rfl ?_
      obtain ⟨v4, e, h⟩ := op_bd h
      refine ow_gR (pc := 25) e dX11_text_25 fd_X11_24 rfl ?_
      refine aw_iload_n (pc := 28) 1 dX11_text_28 rfl ?_
      obtain ⟨r5, e, h⟩ := op_bd h
      refine ow_cVi (pc := 29) [.ref v4, .int x1] ((c_X7_read _ _ _ _ _ e).mono (by decide)) (op_ck_sh e) rfl dX11_text_29 cw_X11_72 rfl (Nat.le_of_ble_eq_true rfl) ?_
      refine aw_istore_n (pc := 32) [(2, .int r5.1), (0, .ref x0), (1, .int x1)] dX11_text_32 rfl (by decide) rfl ?_
      refine aw_iload_n (pc := 33) 0 dX11_text_33 rfl ?_
      refine aw_iconst (pc := 34) (v := (-1 : Int32)) dX11_text_34 (by decide) ?_
      refine aw_icmp_eq (pc := 35) 85 dX11_text_35 (by decide) (fun z => ?_) (fun z => ?_)
      · replace h := (if_pos z).symm.trans h
        refine aw_iload_n (pc := 85) 0 dX11_text_85 rfl ?_
        exact ow_iret (pc := 86) h dX11_text_86 rfl
      · replace h := (if_neg z).symm.trans h
        refine aw_aload_n (pc := 38) 1 dX11_text_38 rfl ?_
        obtain ⟨v6, e, h⟩ := op_bd h
        refine ow_gR (pc := 39) e dX11_text_39 fd_X11_24 rfl ?_
        refine aw_astore_n (pc := 42) [(3, .ref v6), (2, .int r5.1), (0, .ref x0), (1, .int x1)] dX11_text_42 rfl (by decide) rfl ?_
        refine aw_aload_n (pc := 43) 2 dX11_text_43 rfl ?_
        refine aw_aload_n (pc := 44) 2 dX11_text_44 rfl ?_
        obtain ⟨v7, e, h⟩ := op_bd h
        refine ow_gR (pc := 45) e dX11_text_45 fd_X11_20 rfl ?_
        obtain ⟨σ8, e, h⟩ := op_bd h
        refine ow_pR (pc := 48) e dX11_text_48 fd_X11_24 rfl ?_
        refine aw_aload_n (pc := 51) 2 dX11_text_51 rfl ?_
        refine aw_aload_n (pc := 52) 0 dX11_text_52 rfl ?_
        obtain ⟨σ9, e, h⟩ := op_bd h
        refine ow_pR (pc := 53) e dX11_text_53 fd_X11_20 rfl ?_
        refine aw_aload_n (pc := 56) 2 dX11_text_56 rfl ?_
        obtain ⟨v10, e, h⟩ := op_bd h
        refine ow_gR (pc := 57) e dX11_text_57 fd_X11_39 rfl ?_
        obtain ⟨r11, e, h⟩ := op_bd h
        refine ow_cVv (pc := 60) [] ((c_X5_clear _ _ _ e).mono (by decide)) (op_ck_sh e) rfl dX11_text_60 cw_X11_76 rfl (Nat.le_of_ble_eq_true rfl) ?_
        refine aw_aload_n (pc := 63) 2 dX11_text_63 rfl ?_
        obtain ⟨v12, e, h⟩ := op_bd h
        refine ow_gR (pc := 64) e dX11_text_64 fd_X11_48 rfl ?_
        refine aw_aload_n (pc := 67) 2 dX11_text_67 rfl ?_
        obtain ⟨v13, e, h⟩ := op_bd h
        refine ow_gR (pc := 68) e dX11_text_68 fd_X11_20 rfl ?_
        obtain ⟨r14, e, h⟩ := op_bd h
        refine ow_cVv (pc := 71) [.ref v13] ((c_X3_serve _ _ _ _ e).mono (by decide)) (op_ck_sh e) rfl dX11_text_71 cw_X11_79 rfl (Nat.le_of_ble_eq_true rfl) ?_
        refine aw_aload_n (pc := 74) 2 dX11_text_74 rfl ?_
        obtain ⟨v15, e, h⟩ := op_bd h
        refine ow_gR (pc := 75) e dX11_text_75 fd_X11_57 rfl ?_
        refine aw_aload_n (pc := 78) 2 dX11_text_78 rfl ?_
        obtain ⟨v16, e, h⟩ := op_bd h
        refine ow_gR (pc := 79) e dX11_text_79 fd_X11_20 rfl ?_
        obtain ⟨r17, e, h⟩ := op_bd h
        refine ow_cVv (pc := 82) [.ref v16] ((c_X10_serve _ _ _ _ e).mono (by decide)) (op_ck_sh e) rfl dX11_text_82 cw_X11_82 rfl (Nat.le_of_ble_eq_true rfl) ?_
        refine aw_iload_n (pc := 85) 1 dX11_text_85 rfl ?_
        exact ow_iret (pc := 86) h dX11_text_86 rfl
    · replace h := (if_neg z).symm.trans h
      refine aw_bipush (pc := 12) (v := (-2 : Int32)) dX11_text_12 (by decide) ?_
      exact ow_iret (pc := 14) h dX11_text_14 rfl
theorem c_X11_text {G : ah_G}   (x0 : Nat) (x1 : Int32) (σ : ah_H) (r : Int32 × ah_H) (h : f_X11_text  x0 x1 σ = some r) : AM G m_X11_text 7 0 0 [.ref x0, .int x1] σ (ah_ri r) := aw_enter (by decide) (Nat.le_of_ble_eq_true rfl) (c_X11_text_0 _ _ _ _ (op_ck_k h))
def f_X11_fault_0   (x0 : Nat) (x1 : Int32) (σ : ah_H) : Option (Int32 × ah_H) :=
  if x1 = 0 then ((op_gR 11 4 σ x0).bind fun v3 => (op_gI 7 3 σ v3).bind fun v4 => some (v4, σ)) else (if x1 = (1 : Int32) then ((op_gR 11 4 σ x0).bind fun v1 => (op_gI 7 4 σ v1).bind fun v2 => some (v2, σ)) else (some ((-1 : Int32), σ)))
def f_X11_fault  (x0 : Nat) (x1 : Int32) (σ : ah_H) : Option (Int32 × ah_H) := op_ck 11 σ x0 (f_X11_fault_0 x0 x1 σ)
set_option maxRecDepth 100000 in
set_option maxHeartbeats 4000000 in
theorem c_X11_fault_0 {G : ah_G}   : ∀ (x0 : Nat) (x1 : Int32) (σ : ah_H) (r : Int32 × ah_H), f_X11_fault_0   x0 x1 σ = some r → AW G m_X11_fault 0 0 0 0 [(0, .ref x0), (1, .int x1)] [] σ (ah_N G (ah_ri r)) := by
  intro x0 x1 σ r h
  unfold f_X11_fault_0 at h
  refine aw_iload_n (pc := 0) 1 dX11_fault_0 rfl ?_
  refine aw_if_ne (pc := 1) 12 dX11_fault_1 (by decide) (fun z => ?_) (fun z => ?_)
  · replace h := (if_neg z).symm.trans h
    refine aw_iload_n (pc := 12) 1 dX11_fault_12 rfl ?_
    refine aw_iconst (pc := 13) (v := (1 : Int32)) dX11_fault_13 (by decide) ?_
    refine aw_icmp_ne (pc := 14) 27 dX11_fault_14 (by decide) (fun z => ?_) (fun z => ?_)
    · replace h := (if_neg z).symm.trans h
      refine aw_iconst (pc := 27) (v := (-1 : Int32)) dX11_fault_27 (by decide) ?_
      exact ow_iret (pc := 28) h dX11_fault_28 rfl
    · replace h := (if_pos z).symm.trans h
      refine aw_aload_n (pc := 17) 0 dX11_fault_17 rfl ?_
      obtain ⟨v1, e, h⟩ := op_bd h
      refine ow_gR (pc := 18) e dX11_fault_18 fd_X11_32 rfl ?_
      obtain ⟨v2, e, h⟩ := op_bd h
      refine ow_gI (pc := 21) e dX11_fault_21 fd_X11_86 rfl ?_
      refine aw_goto (pc := 24) 28 dX11_fault_24 (by decide) ?_
      exact ow_iret (pc := 28) h dX11_fault_28 rfl
  · replace h := (if_pos z).symm.trans h
    refine aw_aload_n (pc := 4) 0 dX11_fault_4 rfl ?_
    obtain ⟨v3, e, h⟩ := op_bd h
    refine ow_gR (pc := 5) e dX11_fault_5 fd_X11_32 rfl ?_
    obtain ⟨v4, e, h⟩ := op_bd h
    refine ow_gI (pc := 8) e dX11_fault_8 fd_X11_83 rfl ?_
    exact ow_iret (pc := 11) h dX11_fault_11 rfl
theorem c_X11_fault {G : ah_G}   (x0 : Nat) (x1 : Int32) (σ : ah_H) (r : Int32 × ah_H) (h : f_X11_fault  x0 x1 σ = some r) : AM G m_X11_fault 0 0 0 [.ref x0, .int x1] σ (ah_ri r) := aw_enter (by decide) (Nat.le_of_ble_eq_true rfl) (c_X11_fault_0 _ _ _ _ (op_ck_k h))
def f_X11_named_0   (x0 : Nat) (x1 : Int32) (x2 : Int32) (σ : ah_H) : Option (Int32 × ah_H) :=
  (op_gR 11 2 σ x0).bind fun v1 => (f_X9_find v1 x1 x2 σ).bind fun r2 => some (r2.1, r2.2)
def f_X11_named  (x0 : Nat) (x1 : Int32) (x2 : Int32) (σ : ah_H) : Option (Int32 × ah_H) := op_ck 11 σ x0 (f_X11_named_0 x0 x1 x2 σ)
set_option maxRecDepth 100000 in
set_option maxHeartbeats 4000000 in
theorem c_X11_named_0 {G : ah_G}   : ∀ (x0 : Nat) (x1 : Int32) (x2 : Int32) (σ : ah_H) (r : Int32 × ah_H), f_X11_named_0   x0 x1 x2 σ = some r → AW G m_X11_named 1 0 0 0 [(0, .ref x0), (1, .int x1), (2, .int x2)] [] σ (ah_N G (ah_ri r)) := by
  intro x0 x1 x2 σ r h
  unfold f_X11_named_0 at h
  refine aw_aload_n (pc := 0) 0 dX11_named_0 rfl ?_
  obtain ⟨v1, e, h⟩ := op_bd h
  refine ow_gR (pc := 1) e dX11_named_1 fd_X11_20 rfl ?_
  refine aw_iload_n (pc := 4) 1 dX11_named_4 rfl ?_
  refine aw_iload_n (pc := 5) 2 dX11_named_5 rfl ?_
  obtain ⟨r2, e, h⟩ := op_bd h
  refine ow_cVi (pc := 6) [.int x1, .int x2] ((c_X9_find _ _ _ _ _ e).mono (by decide)) (op_ck_sh e) rfl dX11_named_6 cw_X11_89 rfl (Nat.le_of_ble_eq_true rfl) ?_
  exact ow_iret (pc := 9) h dX11_named_9 rfl
theorem c_X11_named {G : ah_G}   (x0 : Nat) (x1 : Int32) (x2 : Int32) (σ : ah_H) (r : Int32 × ah_H) (h : f_X11_named  x0 x1 x2 σ = some r) : AM G m_X11_named 1 0 0 [.ref x0, .int x1, .int x2] σ (ah_ri r) := aw_enter (by decide) (Nat.le_of_ble_eq_true rfl) (c_X11_named_0 _ _ _ _ _ (op_ck_k h))
def f_X9_isStreet_0   (x0 : Nat) (x1 : Int32) (σ : ah_H) : Option (Int32 × ah_H) :=
  if x1 < 0 then ((op_rz (0 : Int32)).map fun q => (q, σ)) else ((op_gI 9 4 σ x0).bind fun v1 => if v1 ≤ x1 then ((op_rz (0 : Int32)).map fun q => (q, σ)) else ((op_rz (1 : Int32)).map fun q => (q, σ)))
def f_X9_isStreet  (x0 : Nat) (x1 : Int32) (σ : ah_H) : Option (Int32 × ah_H) := op_ck 9 σ x0 (f_X9_isStreet_0 x0 x1 σ)
set_option maxRecDepth 100000 in
set_option maxHeartbeats 4000000 in
theorem c_X9_isStreet_0 {G : ah_G}   : ∀ (x0 : Nat) (x1 : Int32) (σ : ah_H) (r : Int32 × ah_H), f_X9_isStreet_0   x0 x1 σ = some r → AW G m_X9_isStreet 0 0 0 0 [(0, .ref x0), (1, .int x1)] [] σ (ah_N G (ah_ri r)) := by
  intro x0 x1 σ r h
  unfold f_X9_isStreet_0 at h
  refine aw_iload_n (pc := 0) 1 dX9_isStreet_0 rfl ?_
  refine aw_if_lt (pc := 1) 16 dX9_isStreet_1 (by decide) (fun z => ?_) (fun z => ?_)
  · replace h := (if_pos z).symm.trans h
    refine aw_iconst (pc := 16) (v := (0 : Int32)) dX9_isStreet_16 (by decide) ?_
    exact ow_zret (pc := 17) h dX9_isStreet_17 rfl
  · replace h := (if_neg z).symm.trans h
    refine aw_iload_n (pc := 4) 1 dX9_isStreet_4 rfl ?_
    refine aw_aload_n (pc := 5) 0 dX9_isStreet_5 rfl ?_
    obtain ⟨v1, e, h⟩ := op_bd h
    refine ow_gI (pc := 6) e dX9_isStreet_6 fd_X9_55 rfl ?_
    refine aw_icmp_ge (pc := 9) 16 dX9_isStreet_9 (by decide) (fun z => ?_) (fun z => ?_)
    · replace h := (if_pos z).symm.trans h
      refine aw_iconst (pc := 16) (v := (0 : Int32)) dX9_isStreet_16 (by decide) ?_
      exact ow_zret (pc := 17) h dX9_isStreet_17 rfl
    · replace h := (if_neg z).symm.trans h
      refine aw_iconst (pc := 12) (v := (1 : Int32)) dX9_isStreet_12 (by decide) ?_
      refine aw_goto (pc := 13) 17 dX9_isStreet_13 (by decide) ?_
      exact ow_zret (pc := 17) h dX9_isStreet_17 rfl
theorem c_X9_isStreet {G : ah_G}   (x0 : Nat) (x1 : Int32) (σ : ah_H) (r : Int32 × ah_H) (h : f_X9_isStreet  x0 x1 σ = some r) : AM G m_X9_isStreet 0 0 0 [.ref x0, .int x1] σ (ah_ri r) := aw_enter (by decide) (Nat.le_of_ble_eq_true rfl) (c_X9_isStreet_0 _ _ _ _ (op_ck_k h))
def f_X11_street_0   (x0 : Nat) (x1 : Int32) (x2 : Int32) (σ : ah_H) : Option (Int32 × ah_H) :=
  (op_gR 11 2 σ x0).bind fun v1 => (f_X9_isStreet v1 x1 σ).bind fun r2 => if r2.1 = 0 then (some ((-1 : Int32), r2.2)) else (if x2 < 0 then (some ((-1 : Int32), r2.2)) else (if x2 ≤ (4 : Int32) then ((op_gR 11 2 r2.2 x0).bind fun v3 => (op_gR 9 5 r2.2 v3).bind fun v4 => (op_aR .int r2.2 v4 x1).bind fun v5 => (op_aI r2.2 v5 x2).bind fun v6 => some (v6, r2.2)) else (some ((-1 : Int32), r2.2))))
def f_X11_street  (x0 : Nat) (x1 : Int32) (x2 : Int32) (σ : ah_H) : Option (Int32 × ah_H) := op_ck 11 σ x0 (f_X11_street_0 x0 x1 x2 σ)
set_option maxRecDepth 100000 in
set_option maxHeartbeats 4000000 in
theorem c_X11_street_0 {G : ah_G}   : ∀ (x0 : Nat) (x1 : Int32) (x2 : Int32) (σ : ah_H) (r : Int32 × ah_H), f_X11_street_0   x0 x1 x2 σ = some r → AW G m_X11_street 1 0 0 0 [(0, .ref x0), (1, .int x1), (2, .int x2)] [] σ (ah_N G (ah_ri r)) := by
  intro x0 x1 x2 σ r h
  unfold f_X11_street_0 at h
  refine aw_aload_n (pc := 0) 0 dX11_street_0 rfl ?_
  obtain ⟨v1, e, h⟩ := op_bd h
  refine ow_gR (pc := 1) e dX11_street_1 fd_X11_20 rfl ?_
  refine aw_iload_n (pc := 4) 1 dX11_street_4 rfl ?_
  obtain ⟨r2, e, h⟩ := op_bd h
  refine ow_cVi (pc := 5) [.int x1] ((c_X9_isStreet _ _ _ _ e).mono (by decide)) (op_ck_sh e) rfl dX11_street_5 cw_X11_107 rfl (Nat.le_of_ble_eq_true rfl) ?_
  refine aw_if_eq (pc := 8) 20 dX11_street_8 (by decide) (fun z => ?_) (fun z => ?_)
  · replace h := (if_pos z).symm.trans h
    refine aw_iconst (pc := 20) (v := (-1 : Int32)) dX11_street_20 (by decide) ?_
    exact ow_iret (pc := 21) h dX11_street_21 rfl
  · replace h := (if_neg z).symm.trans h
    refine aw_iload_n (pc := 11) 2 dX11_street_11 rfl ?_
    refine aw_if_lt (pc := 12) 20 dX11_street_12 (by decide) (fun z => ?_) (fun z => ?_)
    · replace h := (if_pos z).symm.trans h
      refine aw_iconst (pc := 20) (v := (-1 : Int32)) dX11_street_20 (by decide) ?_
      exact ow_iret (pc := 21) h dX11_street_21 rfl
    · replace h := (if_neg z).symm.trans h
      refine aw_iload_n (pc := 15) 2 dX11_street_15 rfl ?_
      refine aw_iconst (pc := 16) (v := (4 : Int32)) dX11_street_16 (by decide) ?_
      refine aw_icmp_le (pc := 17) 22 dX11_street_17 (by decide) (fun z => ?_) (fun z => ?_)
      · replace h := (if_pos z).symm.trans h
        refine aw_aload_n (pc := 22) 0 dX11_street_22 rfl ?_
        obtain ⟨v3, e, h⟩ := op_bd h
        refine ow_gR (pc := 23) e dX11_street_23 fd_X11_20 rfl ?_
        obtain ⟨v4, e, h⟩ := op_bd h
        refine ow_gR (pc := 26) e dX11_street_26 fd_X11_110 rfl ?_
        refine aw_iload_n (pc := 29) 1 dX11_street_29 rfl ?_
        obtain ⟨v5, e, h⟩ := op_bd h
        refine ow_aR (pc := 30) e dX11_street_30 (by decide) ?_
        refine aw_iload_n (pc := 31) 2 dX11_street_31 rfl ?_
        obtain ⟨v6, e, h⟩ := op_bd h
        refine ow_aI (pc := 32) e dX11_street_32 ?_
        exact ow_iret (pc := 33) h dX11_street_33 rfl
      · replace h := (if_neg z).symm.trans h
        refine aw_iconst (pc := 20) (v := (-1 : Int32)) dX11_street_20 (by decide) ?_
        exact ow_iret (pc := 21) h dX11_street_21 rfl
theorem c_X11_street {G : ah_G}   (x0 : Nat) (x1 : Int32) (x2 : Int32) (σ : ah_H) (r : Int32 × ah_H) (h : f_X11_street  x0 x1 x2 σ = some r) : AM G m_X11_street 1 0 0 [.ref x0, .int x1, .int x2] σ (ah_ri r) := aw_enter (by decide) (Nat.le_of_ble_eq_true rfl) (c_X11_street_0 _ _ _ _ _ (op_ck_k h))
def f_X9_isPipe_0   (x0 : Nat) (x1 : Int32) (σ : ah_H) : Option (Int32 × ah_H) :=
  if x1 < 0 then ((op_rz (0 : Int32)).map fun q => (q, σ)) else ((op_gI 9 6 σ x0).bind fun v1 => if v1 ≤ x1 then ((op_rz (0 : Int32)).map fun q => (q, σ)) else ((op_rz (1 : Int32)).map fun q => (q, σ)))
def f_X9_isPipe  (x0 : Nat) (x1 : Int32) (σ : ah_H) : Option (Int32 × ah_H) := op_ck 9 σ x0 (f_X9_isPipe_0 x0 x1 σ)
set_option maxRecDepth 100000 in
set_option maxHeartbeats 4000000 in
theorem c_X9_isPipe_0 {G : ah_G}   : ∀ (x0 : Nat) (x1 : Int32) (σ : ah_H) (r : Int32 × ah_H), f_X9_isPipe_0   x0 x1 σ = some r → AW G m_X9_isPipe 0 0 0 0 [(0, .ref x0), (1, .int x1)] [] σ (ah_N G (ah_ri r)) := by
  intro x0 x1 σ r h
  unfold f_X9_isPipe_0 at h
  refine aw_iload_n (pc := 0) 1 dX9_isPipe_0 rfl ?_
  refine aw_if_lt (pc := 1) 16 dX9_isPipe_1 (by decide) (fun z => ?_) (fun z => ?_)
  · replace h := (if_pos z).symm.trans h
    refine aw_iconst (pc := 16) (v := (0 : Int32)) dX9_isPipe_16 (by decide) ?_
    exact ow_zret (pc := 17) h dX9_isPipe_17 rfl
  · replace h := (if_neg z).symm.trans h
    refine aw_iload_n (pc := 4) 1 dX9_isPipe_4 rfl ?_
    refine aw_aload_n (pc := 5) 0 dX9_isPipe_5 rfl ?_
    obtain ⟨v1, e, h⟩ := op_bd h
    refine ow_gI (pc := 6) e dX9_isPipe_6 fd_X9_58 rfl ?_
    refine aw_icmp_ge (pc := 9) 16 dX9_isPipe_9 (by decide) (fun z => ?_) (fun z => ?_)
    · replace h := (if_pos z).symm.trans h
      refine aw_iconst (pc := 16) (v := (0 : Int32)) dX9_isPipe_16 (by decide) ?_
      exact ow_zret (pc := 17) h dX9_isPipe_17 rfl
    · replace h := (if_neg z).symm.trans h
      refine aw_iconst (pc := 12) (v := (1 : Int32)) dX9_isPipe_12 (by decide) ?_
      refine aw_goto (pc := 13) 17 dX9_isPipe_13 (by decide) ?_
      exact ow_zret (pc := 17) h dX9_isPipe_17 rfl
theorem c_X9_isPipe {G : ah_G}   (x0 : Nat) (x1 : Int32) (σ : ah_H) (r : Int32 × ah_H) (h : f_X9_isPipe  x0 x1 σ = some r) : AM G m_X9_isPipe 0 0 0 [.ref x0, .int x1] σ (ah_ri r) := aw_enter (by decide) (Nat.le_of_ble_eq_true rfl) (c_X9_isPipe_0 _ _ _ _ (op_ck_k h))
def f_X11_pipe_0   (x0 : Nat) (x1 : Int32) (x2 : Int32) (σ : ah_H) : Option (Int32 × ah_H) :=
  (op_gR 11 2 σ x0).bind fun v1 => (f_X9_isPipe v1 x1 σ).bind fun r2 => if r2.1 = 0 then (some ((-1 : Int32), r2.2)) else (if x2 < 0 then (some ((-1 : Int32), r2.2)) else (if x2 ≤ (1 : Int32) then ((op_gR 11 2 r2.2 x0).bind fun v3 => (op_gR 9 7 r2.2 v3).bind fun v4 => (op_aR .int r2.2 v4 x1).bind fun v5 => (op_aI r2.2 v5 x2).bind fun v6 => some (v6, r2.2)) else (some ((-1 : Int32), r2.2))))
def f_X11_pipe  (x0 : Nat) (x1 : Int32) (x2 : Int32) (σ : ah_H) : Option (Int32 × ah_H) := op_ck 11 σ x0 (f_X11_pipe_0 x0 x1 x2 σ)
set_option maxRecDepth 100000 in
set_option maxHeartbeats 4000000 in
theorem c_X11_pipe_0 {G : ah_G}   : ∀ (x0 : Nat) (x1 : Int32) (x2 : Int32) (σ : ah_H) (r : Int32 × ah_H), f_X11_pipe_0   x0 x1 x2 σ = some r → AW G m_X11_pipe 1 0 0 0 [(0, .ref x0), (1, .int x1), (2, .int x2)] [] σ (ah_N G (ah_ri r)) := by
  intro x0 x1 x2 σ r h
  unfold f_X11_pipe_0 at h
  refine aw_aload_n (pc := 0) 0 dX11_pipe_0 rfl ?_
  obtain ⟨v1, e, h⟩ := op_bd h
  refine ow_gR (pc := 1) e dX11_pipe_1 fd_X11_20 rfl ?_
  refine aw_iload_n (pc := 4) 1 dX11_pipe_4 rfl ?_
  obtain ⟨r2, e, h⟩ := op_bd h
  refine ow_cVi (pc := 5) [.int x1] ((c_X9_isPipe _ _ _ _ e).mono (by decide)) (op_ck_sh e) rfl dX11_pipe_5 cw_X11_113 rfl (Nat.le_of_ble_eq_true rfl) ?_
  refine aw_if_eq (pc := 8) 20 dX11_pipe_8 (by decide) (fun z => ?_) (fun z => ?_)
  · replace h := (if_pos z).symm.trans h
    refine aw_iconst (pc := 20) (v := (-1 : Int32)) dX11_pipe_20 (by decide) ?_
    exact ow_iret (pc := 21) h dX11_pipe_21 rfl
  · replace h := (if_neg z).symm.trans h
    refine aw_iload_n (pc := 11) 2 dX11_pipe_11 rfl ?_
    refine aw_if_lt (pc := 12) 20 dX11_pipe_12 (by decide) (fun z => ?_) (fun z => ?_)
    · replace h := (if_pos z).symm.trans h
      refine aw_iconst (pc := 20) (v := (-1 : Int32)) dX11_pipe_20 (by decide) ?_
      exact ow_iret (pc := 21) h dX11_pipe_21 rfl
    · replace h := (if_neg z).symm.trans h
      refine aw_iload_n (pc := 15) 2 dX11_pipe_15 rfl ?_
      refine aw_iconst (pc := 16) (v := (1 : Int32)) dX11_pipe_16 (by decide) ?_
      refine aw_icmp_le (pc := 17) 22 dX11_pipe_17 (by decide) (fun z => ?_) (fun z => ?_)
      · replace h := (if_pos z).symm.trans h
        refine aw_aload_n (pc := 22) 0 dX11_pipe_22 rfl ?_
        obtain ⟨v3, e, h⟩ := op_bd h
        refine ow_gR (pc := 23) e dX11_pipe_23 fd_X11_20 rfl ?_
        obtain ⟨v4, e, h⟩ := op_bd h
        refine ow_gR (pc := 26) e dX11_pipe_26 fd_X11_116 rfl ?_
        refine aw_iload_n (pc := 29) 1 dX11_pipe_29 rfl ?_
        obtain ⟨v5, e, h⟩ := op_bd h
        refine ow_aR (pc := 30) e dX11_pipe_30 (by decide) ?_
        refine aw_iload_n (pc := 31) 2 dX11_pipe_31 rfl ?_
        obtain ⟨v6, e, h⟩ := op_bd h
        refine ow_aI (pc := 32) e dX11_pipe_32 ?_
        exact ow_iret (pc := 33) h dX11_pipe_33 rfl
      · replace h := (if_neg z).symm.trans h
        refine aw_iconst (pc := 20) (v := (-1 : Int32)) dX11_pipe_20 (by decide) ?_
        exact ow_iret (pc := 21) h dX11_pipe_21 rfl
theorem c_X11_pipe {G : ah_G}   (x0 : Nat) (x1 : Int32) (x2 : Int32) (σ : ah_H) (r : Int32 × ah_H) (h : f_X11_pipe  x0 x1 x2 σ = some r) : AM G m_X11_pipe 1 0 0 [.ref x0, .int x1, .int x2] σ (ah_ri r) := aw_enter (by decide) (Nat.le_of_ble_eq_true rfl) (c_X11_pipe_0 _ _ _ _ _ (op_ck_k h))
def f_X5_writeTo_0   (x0 : Nat) (x1 : Nat) (σ : ah_H) : Option (ah_H) :=
  (op_gR 5 0 σ x0).bind fun v1 => (op_cp σ v1 (0 : Int32) x1 (0 : Int32) (7 : Int32)).bind fun σ2 => (op_gR 5 1 σ2 x0).bind fun v3 => (op_cp σ2 v3 (0 : Int32) x1 (7 : Int32) (7 : Int32)).bind fun σ4 => (op_gR 5 2 σ4 x0).bind fun v5 => (op_cp σ4 v5 (0 : Int32) x1 (14 : Int32) (7 : Int32)).bind fun σ6 => (op_gR 5 3 σ6 x0).bind fun v7 => (op_cp σ6 v7 (0 : Int32) x1 (21 : Int32) (7 : Int32)).bind fun σ8 => some σ8
def f_X5_writeTo  (x0 : Nat) (x1 : Nat) (σ : ah_H) : Option (ah_H) := op_ck 5 σ x0 (f_X5_writeTo_0 x0 x1 σ)
set_option maxRecDepth 100000 in
set_option maxHeartbeats 4000000 in
theorem c_X5_writeTo_0 {G : ah_G}   : ∀ (x0 : Nat) (x1 : Nat) (σ : ah_H) (r : ah_H), f_X5_writeTo_0   x0 x1 σ = some r → AW G m_X5_writeTo 3 0 0 0 [(0, .ref x0), (1, .ref x1)] [] σ (ah_N G (ah_rv r)) := by
  intro x0 x1 σ r h
  unfold f_X5_writeTo_0 at h
  refine aw_aload_n (pc := 0) 0 dX5_writeTo_0 rfl ?_
  obtain ⟨v1, e, h⟩ := op_bd h
  refine ow_gR (pc := 1) e dX5_writeTo_1 fd_X5_9 rfl ?_
  refine aw_iconst (pc := 4) (v := (0 : Int32)) dX5_writeTo_4 (by decide) ?_
  refine aw_aload_n (pc := 5) 1 dX5_writeTo_5 rfl ?_
  refine aw_iconst (pc := 6) (v := (0 : Int32)) dX5_writeTo_6 (by decide) ?_
  refine aw_bipush (pc := 7) (v := (7 : Int32)) dX5_writeTo_7 (by decide) ?_
  obtain ⟨σ2, e, h⟩ := op_bd h
  refine ow_cp (pc := 9) e dX5_writeTo_9 cp_X5_59 (Nat.le_of_ble_eq_true rfl) ?_
  refine aw_aload_n (pc := 12) 0 dX5_writeTo_12 rfl ?_
  obtain ⟨v3, e, h⟩ := op_bd h
  refine ow_gR (pc := 13) e dX5_writeTo_13 fd_X5_15 rfl ?_
  refine aw_iconst (pc := 16) (v := (0 : Int32)) dX5_writeTo_16 (by decide) ?_
  refine aw_aload_n (pc := 17) 1 dX5_writeTo_17 rfl ?_
  refine aw_bipush (pc := 18) (v := (7 : Int32)) dX5_writeTo_18 (by decide) ?_
  refine aw_bipush (pc := 20) (v := (7 : Int32)) dX5_writeTo_20 (by decide) ?_
  obtain ⟨σ4, e, h⟩ := op_bd h
  refine ow_cp (pc := 22) e dX5_writeTo_22 cp_X5_59 (Nat.le_of_ble_eq_true rfl) ?_
  refine aw_aload_n (pc := 25) 0 dX5_writeTo_25 rfl ?_
  obtain ⟨v5, e, h⟩ := op_bd h
  refine ow_gR (pc := 26) e dX5_writeTo_26 fd_X5_18 rfl ?_
  refine aw_iconst (pc := 29) (v := (0 : Int32)) dX5_writeTo_29 (by decide) ?_
  refine aw_aload_n (pc := 30) 1 dX5_writeTo_30 rfl ?_
  refine aw_bipush (pc := 31) (v := (14 : Int32)) dX5_writeTo_31 (by decide) ?_
  refine aw_bipush (pc := 33) (v := (7 : Int32)) dX5_writeTo_33 (by decide) ?_
  obtain ⟨σ6, e, h⟩ := op_bd h
  refine ow_cp (pc := 35) e dX5_writeTo_35 cp_X5_59 (Nat.le_of_ble_eq_true rfl) ?_
  refine aw_aload_n (pc := 38) 0 dX5_writeTo_38 rfl ?_
  obtain ⟨v7, e, h⟩ := op_bd h
  refine ow_gR (pc := 39) e dX5_writeTo_39 fd_X5_21 rfl ?_
  refine aw_iconst (pc := 42) (v := (0 : Int32)) dX5_writeTo_42 (by decide) ?_
  refine aw_aload_n (pc := 43) 1 dX5_writeTo_43 rfl ?_
  refine aw_bipush (pc := 44) (v := (21 : Int32)) dX5_writeTo_44 (by decide) ?_
  refine aw_bipush (pc := 46) (v := (7 : Int32)) dX5_writeTo_46 (by decide) ?_
  obtain ⟨σ8, e, h⟩ := op_bd h
  refine ow_cp (pc := 48) e dX5_writeTo_48 cp_X5_59 (Nat.le_of_ble_eq_true rfl) ?_
  exact ow_vret (pc := 51) h dX5_writeTo_51 rfl
theorem c_X5_writeTo {G : ah_G}   (x0 : Nat) (x1 : Nat) (σ : ah_H) (r : ah_H) (h : f_X5_writeTo  x0 x1 σ = some r) : AM G m_X5_writeTo 3 0 0 [.ref x0, .ref x1] σ (ah_rv r) := aw_enter (by decide) (Nat.le_of_ble_eq_true rfl) (c_X5_writeTo_0 _ _ _ _ (op_ck_k h))
def f_X5_remember_0   (x0 : Nat) (σ : ah_H) : Option (ah_H) :=
  (op_gR 5 6 σ x0).bind fun v1 => (op_gI 5 7 σ x0).bind fun v2 => (op_gI 5 4 σ x0).bind fun v3 => (op_rem (v2 + v3) (20 : Int32)).bind fun v4 => (op_aR .int σ v1 v4).bind fun v5 => (f_X5_writeTo x0 v5 σ).bind fun r6 => (op_gI 5 4 r6 x0).bind fun v7 => if (20 : Int32) ≤ v7 then ((op_gI 5 7 r6 x0).bind fun v8 => (op_rem (v8 + (1 : Int32)) (20 : Int32)).bind fun v9 => (op_pI 5 7 r6 x0 v9).bind fun σ10 => some σ10) else ((op_gI 5 4 r6 x0).bind fun v11 => (op_pI 5 4 r6 x0 (v11 + (1 : Int32))).bind fun σ12 => some σ12)
def f_X5_remember  (x0 : Nat) (σ : ah_H) : Option (ah_H) := op_ck 5 σ x0 (f_X5_remember_0 x0 σ)
set_option maxRecDepth 100000 in
set_option maxHeartbeats 4000000 in
theorem c_X5_remember_0 {G : ah_G}   : ∀ (x0 : Nat) (σ : ah_H) (r : ah_H), f_X5_remember_0   x0 σ = some r → AW G m_X5_remember 4 0 0 0 [(0, .ref x0)] [] σ (ah_N G (ah_rv r)) := by
  intro x0 σ r h
  unfold f_X5_remember_0 at h
  refine aw_aload_n (pc := 0) 0 dX5_remember_0 rfl ?_
  refine aw_aload_n (pc := 1) 0 dX5_remember_1 rfl ?_
  obtain ⟨v1, e, h⟩ := op_bd h
  refine ow_gR (pc := 2) e dX5_remember_2 fd_X5_26 rfl ?_
  refine aw_aload_n (pc := 5) 0 dX5_remember_5 rfl ?_
  obtain ⟨v2, e, h⟩ := op_bd h
  refine ow_gI (pc := 6) e dX5_remember_6 fd_X5_45 rfl ?_
  refine aw_aload_n (pc := 9) 0 dX5_remember_9 rfl ?_
  obtain ⟨v3, e, h⟩ := op_bd h
  refine ow_gI (pc := 10) e dX5_remember_10 fd_X5_41 rfl ?_
  refine aw_iadd (pc := 13) dX5_remember_13 ?_
  refine aw_bipush (pc := 14) (v := (20 : Int32)) dX5_remember_14 (by decide) ?_
  obtain ⟨v4, e, h⟩ := op_bd h
  refine ow_rem (pc := 16) e dX5_remember_16 ?_
  obtain ⟨v5, e, h⟩ := op_bd h
  refine ow_aR (pc := 17) e dX5_remember_17 (by decide) ?_
  obtain ⟨r6, e, h⟩ := op_bd h
  refine ow_cVv (pc := 18) [.ref v5] ((c_X5_writeTo _ _ _ _ e).mono (by decide)) (op_ck_sh e) rfl dX5_remember_18 cw_X5_52 rfl (Nat.le_of_ble_eq_true rfl) ?_
  refine aw_aload_n (pc := 21) 0 dX5_remember_21 rfl ?_
  obtain ⟨v7, e, h⟩ := op_bd h
  refine ow_gI (pc := 22) e dX5_remember_22 fd_X5_41 rfl ?_
  refine aw_bipush (pc := 25) (v := (20 : Int32)) dX5_remember_25 (by decide) ?_
  refine aw_icmp_ge (pc := 27) 43 dX5_remember_27 (by decide) (fun z => ?_) (fun z => ?_)
  · replace h := (if_pos z).symm.trans h
    refine aw_aload_n (pc := 43) 0 dX5_remember_43 rfl ?_
    refine aw_aload_n (pc := 44) 0 dX5_remember_44 rfl ?_
    obtain ⟨v8, e, h⟩ := op_bd h
    refine ow_gI (pc := 45) e dX5_remember_45 fd_X5_45 rfl ?_
    refine aw_iconst (pc := 48) (v := (1 : Int32)) dX5_remember_48 (by decide) ?_
    refine aw_iadd (pc := 49) dX5_remember_49 ?_
    refine aw_bipush (pc := 50) (v := (20 : Int32)) dX5_remember_50 (by decide) ?_
    obtain ⟨v9, e, h⟩ := op_bd h
    refine ow_rem (pc := 52) e dX5_remember_52 ?_
    obtain ⟨σ10, e, h⟩ := op_bd h
    refine ow_pI (pc := 53) e dX5_remember_53 fd_X5_45 ?_
    exact ow_vret (pc := 56) h dX5_remember_56 rfl
  · replace h := (if_neg z).symm.trans h
    refine aw_aload_n (pc := 30) 0 dX5_remember_30 rfl ?_
    refine aw_dup (pc := 31) dX5_remember_31 rfl ?_
    obtain ⟨v11, e, h⟩ := op_bd h
    refine ow_gI (pc := 32) e dX5_remember_32 fd_X5_41 rfl ?_
    refine aw_iconst (pc := 35) (v := (1 : Int32)) dX5_remember_35 (by decide) ?_
    refine aw_iadd (pc := 36) dX5_remember_36 ?_
    obtain ⟨σ12, e, h⟩ := op_bd h
    refine ow_pI (pc := 37) e dX5_remember_37 fd_X5_41 ?_
    refine aw_goto (pc := 40) 56 dX5_remember_40 (by decide) ?_
    exact ow_vret (pc := 56) h dX5_remember_56 rfl
theorem c_X5_remember {G : ah_G}   (x0 : Nat) (σ : ah_H) (r : ah_H) (h : f_X5_remember  x0 σ = some r) : AM G m_X5_remember 4 0 0 [.ref x0] σ (ah_rv r) := aw_enter (by decide) (Nat.le_of_ble_eq_true rfl) (c_X5_remember_0 _ _ _ (op_ck_k h))
def f_X9_isCorner_0   (x0 : Nat) (x1 : Int32) (σ : ah_H) : Option (Int32 × ah_H) :=
  if x1 < 0 then ((op_rz (0 : Int32)).map fun q => (q, σ)) else ((op_gI 9 0 σ x0).bind fun v1 => if v1 ≤ x1 then ((op_rz (0 : Int32)).map fun q => (q, σ)) else ((op_rz (1 : Int32)).map fun q => (q, σ)))
def f_X9_isCorner  (x0 : Nat) (x1 : Int32) (σ : ah_H) : Option (Int32 × ah_H) := op_ck 9 σ x0 (f_X9_isCorner_0 x0 x1 σ)
set_option maxRecDepth 100000 in
set_option maxHeartbeats 4000000 in
theorem c_X9_isCorner_0 {G : ah_G}   : ∀ (x0 : Nat) (x1 : Int32) (σ : ah_H) (r : Int32 × ah_H), f_X9_isCorner_0   x0 x1 σ = some r → AW G m_X9_isCorner 0 0 0 0 [(0, .ref x0), (1, .int x1)] [] σ (ah_N G (ah_ri r)) := by
  intro x0 x1 σ r h
  unfold f_X9_isCorner_0 at h
  refine aw_iload_n (pc := 0) 1 dX9_isCorner_0 rfl ?_
  refine aw_if_lt (pc := 1) 16 dX9_isCorner_1 (by decide) (fun z => ?_) (fun z => ?_)
  · replace h := (if_pos z).symm.trans h
    refine aw_iconst (pc := 16) (v := (0 : Int32)) dX9_isCorner_16 (by decide) ?_
    exact ow_zret (pc := 17) h dX9_isCorner_17 rfl
  · replace h := (if_neg z).symm.trans h
    refine aw_iload_n (pc := 4) 1 dX9_isCorner_4 rfl ?_
    refine aw_aload_n (pc := 5) 0 dX9_isCorner_5 rfl ?_
    obtain ⟨v1, e, h⟩ := op_bd h
    refine ow_gI (pc := 6) e dX9_isCorner_6 fd_X9_45 rfl ?_
    refine aw_icmp_ge (pc := 9) 16 dX9_isCorner_9 (by decide) (fun z => ?_) (fun z => ?_)
    · replace h := (if_pos z).symm.trans h
      refine aw_iconst (pc := 16) (v := (0 : Int32)) dX9_isCorner_16 (by decide) ?_
      exact ow_zret (pc := 17) h dX9_isCorner_17 rfl
    · replace h := (if_neg z).symm.trans h
      refine aw_iconst (pc := 12) (v := (1 : Int32)) dX9_isCorner_12 (by decide) ?_
      refine aw_goto (pc := 13) 17 dX9_isCorner_13 (by decide) ?_
      exact ow_zret (pc := 17) h dX9_isCorner_17 rfl
theorem c_X9_isCorner {G : ah_G}   (x0 : Nat) (x1 : Int32) (σ : ah_H) (r : Int32 × ah_H) (h : f_X9_isCorner  x0 x1 σ = some r) : AM G m_X9_isCorner 0 0 0 [.ref x0, .int x1] σ (ah_ri r) := aw_enter (by decide) (Nat.le_of_ble_eq_true rfl) (c_X9_isCorner_0 _ _ _ _ (op_ck_k h))
def f_X11_lay_0   (x0 : Nat) (x1 : Int32) (x2 : Int32) (x3 : Int32) (x4 : Int32) (x5 : Int32) (σ : ah_H) : Option (Int32 × ah_H) :=
  (op_gR 11 2 σ x0).bind fun v1 => (f_X9_isCorner v1 x1 σ).bind fun r2 => if r2.1 = 0 then ((op_rz (0 : Int32)).map fun q => (q, r2.2)) else ((op_gR 11 2 r2.2 x0).bind fun v3 => (op_gI 9 2 r2.2 v3).bind fun v4 => if x1 = v4 then ((op_rz (0 : Int32)).map fun q => (q, r2.2)) else ((op_gR 11 2 r2.2 x0).bind fun v5 => (f_X9_isStreet v5 x2 r2.2).bind fun r6 => if r6.1 = 0 then ((op_rz (0 : Int32)).map fun q => (q, r6.2)) else ((op_gR 11 2 r6.2 x0).bind fun v7 => (f_X9_isPipe v7 x3 r6.2).bind fun r8 => if r8.1 = 0 then ((op_rz (0 : Int32)).map fun q => (q, r8.2)) else ((op_gR 11 2 r8.2 x0).bind fun v9 => (f_X9_touches v9 x2 x1 r8.2).bind fun r10 => if r10.1 = 0 then ((op_rz (0 : Int32)).map fun q => (q, r10.2)) else (if x4 < 0 then ((op_rz (0 : Int32)).map fun q => (q, r10.2)) else (if (12 : Int32) < x4 then ((op_rz (0 : Int32)).map fun q => (q, r10.2)) else (if x5 < 0 then ((op_rz (0 : Int32)).map fun q => (q, r10.2)) else (if x5 ≤ (12 : Int32) then ((op_gR 11 5 r10.2 x0).bind fun v11 => (f_X5_remember v11 r10.2).bind fun r12 => (op_gR 11 5 r12 x0).bind fun v13 => (f_X5_put v13 x1 x2 x3 x4 x5 r12).bind fun r14 => (op_gR 11 6 r14 x0).bind fun v15 => (op_pZ 3 2 r14 v15 (0 : Int32)).bind fun σ16 => (op_rz (1 : Int32)).map fun q => (q, σ16)) else ((op_rz (0 : Int32)).map fun q => (q, r10.2))))))))))
def f_X11_lay  (x0 : Nat) (x1 : Int32) (x2 : Int32) (x3 : Int32) (x4 : Int32) (x5 : Int32) (σ : ah_H) : Option (Int32 × ah_H) := op_ck 11 σ x0 (f_X11_lay_0 x0 x1 x2 x3 x4 x5 σ)
set_option maxRecDepth 100000 in
set_option maxHeartbeats 4000000 in
theorem c_X11_lay_0 {G : ah_G}   : ∀ (x0 : Nat) (x1 : Int32) (x2 : Int32) (x3 : Int32) (x4 : Int32) (x5 : Int32) (σ : ah_H) (r : Int32 × ah_H), f_X11_lay_0   x0 x1 x2 x3 x4 x5 σ = some r → AW G m_X11_lay 5 0 0 0 [(0, .ref x0), (1, .int x1), (2, .int x2), (3, .int x3), (4, .int x4), (5, .int x5)] [] σ (ah_N G (ah_ri r)) := by
  intro x0 x1 x2 x3 x4 x5 σ r h
  unfold f_X11_lay_0 at h
  refine aw_aload_n (pc := 0) 0 dX11_lay_0 rfl ?_
  obtain ⟨v1, e, h⟩ := op_bd h
  refine ow_gR (pc := 1) e dX11_lay_1 fd_X11_20 rfl ?_
  refine aw_iload_n (pc := 4) 1 dX11_lay_4 rfl ?_
  obtain ⟨r2, e, h⟩ := op_bd h
  refine ow_cVi (pc := 5) [.int x1] ((c_X9_isCorner _ _ _ _ e).mono (by decide)) (op_ck_sh e) rfl dX11_lay_5 cw_X11_93 rfl (Nat.le_of_ble_eq_true rfl) ?_
  refine aw_if_eq (pc := 8) 44 dX11_lay_8 (by decide) (fun z => ?_) (fun z => ?_)
  · replace h := (if_pos z).symm.trans h
    refine aw_iconst (pc := 44) (v := (0 : Int32)) dX11_lay_44 (by decide) ?_
    exact ow_zret (pc := 45) h dX11_lay_45 rfl
  · replace h := (if_neg z).symm.trans h
    refine aw_iload_n (pc := 11) 1 dX11_lay_11 rfl ?_
    refine aw_aload_n (pc := 12) 0 dX11_lay_12 rfl ?_
    obtain ⟨v3, e, h⟩ := op_bd h
    refine ow_gR (pc := 13) e dX11_lay_13 fd_X11_20 rfl ?_
    obtain ⟨v4, e, h⟩ := op_bd h
    refine ow_gI (pc := 16) e dX11_lay_16 fd_X11_119 rfl ?_
    refine aw_icmp_eq (pc := 19) 44 dX11_lay_19 (by decide) (fun z => ?_) (fun z => ?_)
    · replace h := (if_pos z).symm.trans h
      refine aw_iconst (pc := 44) (v := (0 : Int32)) dX11_lay_44 (by decide) ?_
      exact ow_zret (pc := 45) h dX11_lay_45 rfl
    · replace h := (if_neg z).symm.trans h
      refine aw_aload_n (pc := 22) 0 dX11_lay_22 rfl ?_
      obtain ⟨v5, e, h⟩ := op_bd h
      refine ow_gR (pc := 23) e dX11_lay_23 fd_X11_20 rfl ?_
      refine aw_iload_n (pc := 26) 2 dX11_lay_26 rfl ?_
      obtain ⟨r6, e, h⟩ := op_bd h
      refine ow_cVi (pc := 27) [.int x2] ((c_X9_isStreet _ _ _ _ e).mono (by decide)) (op_ck_sh e) rfl dX11_lay_27 cw_X11_107 rfl (Nat.le_of_ble_eq_true rfl) ?_
      refine aw_if_eq (pc := 30) 44 dX11_lay_30 (by decide) (fun z => ?_) (fun z => ?_)
      · replace h := (if_pos z).symm.trans h
        refine aw_iconst (pc := 44) (v := (0 : Int32)) dX11_lay_44 (by decide) ?_
        exact ow_zret (pc := 45) h dX11_lay_45 rfl
      · replace h := (if_neg z).symm.trans h
        refine aw_aload_n (pc := 33) 0 dX11_lay_33 rfl ?_
        obtain ⟨v7, e, h⟩ := op_bd h
        refine ow_gR (pc := 34) e dX11_lay_34 fd_X11_20 rfl ?_
        refine aw_iload_n (pc := 37) 3 dX11_lay_37 rfl ?_
        obtain ⟨r8, e, h⟩ := op_bd h
        refine ow_cVi (pc := 38) [.int x3] ((c_X9_isPipe _ _ _ _ e).mono (by decide)) (op_ck_sh e) rfl dX11_lay_38 cw_X11_113 rfl (Nat.le_of_ble_eq_true rfl) ?_
        refine aw_if_ne (pc := 41) 46 dX11_lay_41 (by decide) (fun z => ?_) (fun z => ?_)
        · replace h := (if_neg z).symm.trans h
          refine aw_aload_n (pc := 46) 0 dX11_lay_46 rfl ?_
          obtain ⟨v9, e, h⟩ := op_bd h
          refine ow_gR (pc := 47) e dX11_lay_47 fd_X11_20 rfl ?_
          refine aw_iload_n (pc := 50) 2 dX11_lay_50 rfl ?_
          refine aw_iload_n (pc := 51) 1 dX11_lay_51 rfl ?_
          obtain ⟨r10, e, h⟩ := op_bd h
          refine ow_cVi (pc := 52) [.int x2, .int x1] ((c_X9_touches _ _ _ _ _ e).mono (by decide)) (op_ck_sh e) rfl dX11_lay_52 cw_X11_122 rfl (Nat.le_of_ble_eq_true rfl) ?_
          refine aw_if_eq (pc := 55) 82 dX11_lay_55 (by decide) (fun z => ?_) (fun z => ?_)
          · replace h := (if_pos z).symm.trans h
            refine aw_iconst (pc := 82) (v := (0 : Int32)) dX11_lay_82 (by decide) ?_
            exact ow_zret (pc := 83) h dX11_lay_83 rfl
          · replace h := (if_neg z).symm.trans h
            refine aw_iload (pc := 58) 4 dX11_lay_58 rfl ?_
            refine aw_if_lt (pc := 60) 82 dX11_lay_60 (by decide) (fun z => ?_) (fun z => ?_)
            · replace h := (if_pos z).symm.trans h
              refine aw_iconst (pc := 82) (v := (0 : Int32)) dX11_lay_82 (by decide) ?_
              exact ow_zret (pc := 83) h dX11_lay_83 rfl
            · replace h := (if_neg z).symm.trans h
              refine aw_iload (pc := 63) 4 dX11_lay_63 rfl ?_
              refine aw_bipush (pc := 65) (v := (12 : Int32)) dX11_lay_65 (by decide) ?_
              refine aw_icmp_gt (pc := 67) 82 dX11_lay_67 (by decide) (fun z => ?_) (fun z => ?_)
              · replace h := (if_pos z).symm.trans h
                refine aw_iconst (pc := 82) (v := (0 : Int32)) dX11_lay_82 (by decide) ?_
                exact ow_zret (pc := 83) h dX11_lay_83 rfl
              · replace h := (if_neg z).symm.trans h
                refine aw_iload (pc := 70) 5 dX11_lay_70 rfl ?_
                refine aw_if_lt (pc := 72) 82 dX11_lay_72 (by decide) (fun z => ?_) (fun z => ?_)
                · replace h := (if_pos z).symm.trans h
                  refine aw_iconst (pc := 82) (v := (0 : Int32)) dX11_lay_82 (by decide) ?_
                  exact ow_zret (pc := 83) h dX11_lay_83 rfl
                · replace h := (if_neg z).symm.trans h
                  refine aw_iload (pc := 75) 5 dX11_lay_75 rfl ?_
                  refine aw_bipush (pc := 77) (v := (12 : Int32)) dX11_lay_77 (by decide) ?_
                  refine aw_icmp_le (pc := 79) 84 dX11_lay_79 (by decide) (fun z => ?_) (fun z => ?_)
                  · replace h := (if_pos z).symm.trans h
                    refine aw_aload_n (pc := 84) 0 dX11_lay_84 rfl ?_
                    obtain ⟨v11, e, h⟩ := op_bd h
                    refine ow_gR (pc := 85) e dX11_lay_85 fd_X11_39 rfl ?_
                    obtain ⟨r12, e, h⟩ := op_bd h
                    refine ow_cVv (pc := 88) [] ((c_X5_remember _ _ _ e).mono (by decide)) (op_ck_sh e) rfl dX11_lay_88 cw_X11_126 rfl (Nat.le_of_ble_eq_true rfl) ?_
                    refine aw_aload_n (pc := 91) 0 dX11_lay_91 rfl ?_
                    obtain ⟨v13, e, h⟩ := op_bd h
                    refine ow_gR (pc := 92) e dX11_lay_92 fd_X11_39 rfl ?_
                    refine aw_iload_n (pc := 95) 1 dX11_lay_95 rfl ?_
                    refine aw_iload_n (pc := 96) 2 dX11_lay_96 rfl ?_
                    refine aw_iload_n (pc := 97) 3 dX11_lay_97 rfl ?_
                    refine aw_iload (pc := 98) 4 dX11_lay_98 rfl ?_
                    refine aw_iload (pc := 100) 5 dX11_lay_100 rfl ?_
                    obtain ⟨r14, e, h⟩ := op_bd h
                    refine ow_cVv (pc := 102) [.int x1, .int x2, .int x3, .int x4, .int x5] ((c_X5_put _ _ _ _ _ _ _ _ e).mono (by decide)) (op_ck_sh e) rfl dX11_lay_102 cw_X11_129 rfl (Nat.le_of_ble_eq_true rfl) ?_
                    refine aw_aload_n (pc := 105) 0 dX11_lay_105 rfl ?_
                    obtain ⟨v15, e, h⟩ := op_bd h
                    refine ow_gR (pc := 106) e dX11_lay_106 fd_X11_48 rfl ?_
                    refine aw_iconst (pc := 109) (v := (0 : Int32)) dX11_lay_109 (by decide) ?_
                    obtain ⟨σ16, e, h⟩ := op_bd h
                    refine ow_pZ (pc := 110) e dX11_lay_110 fd_X11_133 ?_
                    refine aw_iconst (pc := 113) (v := (1 : Int32)) dX11_lay_113 (by decide) ?_
                    exact ow_zret (pc := 114) h dX11_lay_114 rfl
                  · replace h := (if_neg z).symm.trans h
                    refine aw_iconst (pc := 82) (v := (0 : Int32)) dX11_lay_82 (by decide) ?_
                    exact ow_zret (pc := 83) h dX11_lay_83 rfl
        · replace h := (if_pos z).symm.trans h
          refine aw_iconst (pc := 44) (v := (0 : Int32)) dX11_lay_44 (by decide) ?_
          exact ow_zret (pc := 45) h dX11_lay_45 rfl
theorem c_X11_lay {G : ah_G}   (x0 : Nat) (x1 : Int32) (x2 : Int32) (x3 : Int32) (x4 : Int32) (x5 : Int32) (σ : ah_H) (r : Int32 × ah_H) (h : f_X11_lay  x0 x1 x2 x3 x4 x5 σ = some r) : AM G m_X11_lay 5 0 0 [.ref x0, .int x1, .int x2, .int x3, .int x4, .int x5] σ (ah_ri r) := aw_enter (by decide) (Nat.le_of_ble_eq_true rfl) (c_X11_lay_0 _ _ _ _ _ _ _ _ (op_ck_k h))
def f_X11_hasPipe_0   (x0 : Nat) (x1 : Int32) (σ : ah_H) : Option (Int32 × ah_H) :=
  (op_gR 11 2 σ x0).bind fun v1 => (f_X9_isCorner v1 x1 σ).bind fun r2 => if r2.1 = 0 then ((op_rz (0 : Int32)).map fun q => (q, r2.2)) else ((op_gR 11 5 r2.2 x0).bind fun v3 => (op_gR 5 0 r2.2 v3).bind fun v4 => (op_aI r2.2 v4 x1).bind fun v5 => if v5 = (-1 : Int32) then ((op_rz (0 : Int32)).map fun q => (q, r2.2)) else ((op_rz (1 : Int32)).map fun q => (q, r2.2)))
def f_X11_hasPipe  (x0 : Nat) (x1 : Int32) (σ : ah_H) : Option (Int32 × ah_H) := op_ck 11 σ x0 (f_X11_hasPipe_0 x0 x1 σ)
set_option maxRecDepth 100000 in
set_option maxHeartbeats 4000000 in
theorem c_X11_hasPipe_0 {G : ah_G}   : ∀ (x0 : Nat) (x1 : Int32) (σ : ah_H) (r : Int32 × ah_H), f_X11_hasPipe_0   x0 x1 σ = some r → AW G m_X11_hasPipe 1 0 0 0 [(0, .ref x0), (1, .int x1)] [] σ (ah_N G (ah_ri r)) := by
  intro x0 x1 σ r h
  unfold f_X11_hasPipe_0 at h
  refine aw_aload_n (pc := 0) 0 dX11_hasPipe_0 rfl ?_
  obtain ⟨v1, e, h⟩ := op_bd h
  refine ow_gR (pc := 1) e dX11_hasPipe_1 fd_X11_20 rfl ?_
  refine aw_iload_n (pc := 4) 1 dX11_hasPipe_4 rfl ?_
  obtain ⟨r2, e, h⟩ := op_bd h
  refine ow_cVi (pc := 5) [.int x1] ((c_X9_isCorner _ _ _ _ e).mono (by decide)) (op_ck_sh e) rfl dX11_hasPipe_5 cw_X11_93 rfl (Nat.le_of_ble_eq_true rfl) ?_
  refine aw_if_eq (pc := 8) 28 dX11_hasPipe_8 (by decide) (fun z => ?_) (fun z => ?_)
  · replace h := (if_pos z).symm.trans h
    refine aw_iconst (pc := 28) (v := (0 : Int32)) dX11_hasPipe_28 (by decide) ?_
    exact ow_zret (pc := 29) h dX11_hasPipe_29 rfl
  · replace h := (if_neg z).symm.trans h
    refine aw_aload_n (pc := 11) 0 dX11_hasPipe_11 rfl ?_
    obtain ⟨v3, e, h⟩ := op_bd h
    refine ow_gR (pc := 12) e dX11_hasPipe_12 fd_X11_39 rfl ?_
    obtain ⟨v4, e, h⟩ := op_bd h
    refine ow_gR (pc := 15) e dX11_hasPipe_15 fd_X11_140 rfl ?_
    refine aw_iload_n (pc := 18) 1 dX11_hasPipe_18 rfl ?_
    obtain ⟨v5, e, h⟩ := op_bd h
    refine ow_aI (pc := 19) e dX11_hasPipe_19 ?_
    refine aw_iconst (pc := 20) (v := (-1 : Int32)) dX11_hasPipe_20 (by decide) ?_
    refine aw_icmp_eq (pc := 21) 28 dX11_hasPipe_21 (by decide) (fun z => ?_) (fun z => ?_)
    · replace h := (if_pos z).symm.trans h
      refine aw_iconst (pc := 28) (v := (0 : Int32)) dX11_hasPipe_28 (by decide) ?_
      exact ow_zret (pc := 29) h dX11_hasPipe_29 rfl
    · replace h := (if_neg z).symm.trans h
      refine aw_iconst (pc := 24) (v := (1 : Int32)) dX11_hasPipe_24 (by decide) ?_
      refine aw_goto (pc := 25) 29 dX11_hasPipe_25 (by decide) ?_
      exact ow_zret (pc := 29) h dX11_hasPipe_29 rfl
theorem c_X11_hasPipe {G : ah_G}   (x0 : Nat) (x1 : Int32) (σ : ah_H) (r : Int32 × ah_H) (h : f_X11_hasPipe  x0 x1 σ = some r) : AM G m_X11_hasPipe 1 0 0 [.ref x0, .int x1] σ (ah_ri r) := aw_enter (by decide) (Nat.le_of_ble_eq_true rfl) (c_X11_hasPipe_0 _ _ _ _ (op_ck_k h))
def f_X11_take_0   (x0 : Nat) (x1 : Int32) (σ : ah_H) : Option (Int32 × ah_H) :=
  (f_X11_hasPipe x0 x1 σ).bind fun r1 => if r1.1 = 0 then ((op_rz (0 : Int32)).map fun q => (q, r1.2)) else ((op_gR 11 5 r1.2 x0).bind fun v2 => (f_X5_remember v2 r1.2).bind fun r3 => (op_gR 11 5 r3 x0).bind fun v4 => (op_gR 5 0 r3 v4).bind fun v5 => (op_sI r3 v5 x1 (-1 : Int32)).bind fun σ6 => (op_gR 11 6 σ6 x0).bind fun v7 => (op_pZ 3 2 σ6 v7 (0 : Int32)).bind fun σ8 => (op_rz (1 : Int32)).map fun q => (q, σ8))
def f_X11_take  (x0 : Nat) (x1 : Int32) (σ : ah_H) : Option (Int32 × ah_H) := op_ck 11 σ x0 (f_X11_take_0 x0 x1 σ)
set_option maxRecDepth 100000 in
set_option maxHeartbeats 4000000 in
theorem c_X11_take_0 {G : ah_G}   : ∀ (x0 : Nat) (x1 : Int32) (σ : ah_H) (r : Int32 × ah_H), f_X11_take_0   x0 x1 σ = some r → AW G m_X11_take 5 0 0 0 [(0, .ref x0), (1, .int x1)] [] σ (ah_N G (ah_ri r)) := by
  intro x0 x1 σ r h
  unfold f_X11_take_0 at h
  refine aw_aload_n (pc := 0) 0 dX11_take_0 rfl ?_
  refine aw_iload_n (pc := 1) 1 dX11_take_1 rfl ?_
  obtain ⟨r1, e, h⟩ := op_bd h
  refine ow_cVi (pc := 2) [.int x1] ((c_X11_hasPipe _ _ _ _ e).mono (by decide)) (op_ck_sh e) rfl dX11_take_2 cw_X11_137 rfl (Nat.le_of_ble_eq_true rfl) ?_
  refine aw_if_ne (pc := 5) 10 dX11_take_5 (by decide) (fun z => ?_) (fun z => ?_)
  · replace h := (if_neg z).symm.trans h
    refine aw_aload_n (pc := 10) 0 dX11_take_10 rfl ?_
    obtain ⟨v2, e, h⟩ := op_bd h
    refine ow_gR (pc := 11) e dX11_take_11 fd_X11_39 rfl ?_
    obtain ⟨r3, e, h⟩ := op_bd h
    refine ow_cVv (pc := 14) [] ((c_X5_remember _ _ _ e).mono (by decide)) (op_ck_sh e) rfl dX11_take_14 cw_X11_126 rfl (Nat.le_of_ble_eq_true rfl) ?_
    refine aw_aload_n (pc := 17) 0 dX11_take_17 rfl ?_
    obtain ⟨v4, e, h⟩ := op_bd h
    refine ow_gR (pc := 18) e dX11_take_18 fd_X11_39 rfl ?_
    obtain ⟨v5, e, h⟩ := op_bd h
    refine ow_gR (pc := 21) e dX11_take_21 fd_X11_140 rfl ?_
    refine aw_iload_n (pc := 24) 1 dX11_take_24 rfl ?_
    refine aw_iconst (pc := 25) (v := (-1 : Int32)) dX11_take_25 (by decide) ?_
    obtain ⟨σ6, e, h⟩ := op_bd h
    refine ow_sI (pc := 26) e dX11_take_26 ?_
    refine aw_aload_n (pc := 27) 0 dX11_take_27 rfl ?_
    obtain ⟨v7, e, h⟩ := op_bd h
    refine ow_gR (pc := 28) e dX11_take_28 fd_X11_48 rfl ?_
    refine aw_iconst (pc := 31) (v := (0 : Int32)) dX11_take_31 (by decide) ?_
    obtain ⟨σ8, e, h⟩ := op_bd h
    refine ow_pZ (pc := 32) e dX11_take_32 fd_X11_133 ?_
    refine aw_iconst (pc := 35) (v := (1 : Int32)) dX11_take_35 (by decide) ?_
    exact ow_zret (pc := 36) h dX11_take_36 rfl
  · replace h := (if_pos z).symm.trans h
    refine aw_iconst (pc := 8) (v := (0 : Int32)) dX11_take_8 (by decide) ?_
    exact ow_zret (pc := 9) h dX11_take_9 rfl
theorem c_X11_take {G : ah_G}   (x0 : Nat) (x1 : Int32) (σ : ah_H) (r : Int32 × ah_H) (h : f_X11_take  x0 x1 σ = some r) : AM G m_X11_take 5 0 0 [.ref x0, .int x1] σ (ah_ri r) := aw_enter (by decide) (Nat.le_of_ble_eq_true rfl) (c_X11_take_0 _ _ _ _ (op_ck_k h))
def f_X3_fallOf_0   (x0 : Nat) (x1 : Int32) (σ : ah_H) : Option (Int32 × ah_H) :=
  (op_gR 3 6 σ x0).bind fun v1 => (op_gR 3 5 σ x0).bind fun v2 => (op_gR 5 0 σ v2).bind fun v3 => (op_aI σ v3 x1).bind fun v4 => (f_X9_otherEnd v1 v4 x1 σ).bind fun r5 => (op_gR 3 6 r5.2 x0).bind fun v6 => (op_gR 9 1 r5.2 v6).bind fun v7 => (op_aR .int r5.2 v7 x1).bind fun v8 => (op_aI r5.2 v8 (0 : Int32)).bind fun v9 => (op_gR 3 5 r5.2 x0).bind fun v10 => (op_gR 5 2 r5.2 v10).bind fun v11 => (op_aI r5.2 v11 x1).bind fun v12 => (op_gR 3 6 r5.2 x0).bind fun v13 => (op_gR 9 1 r5.2 v13).bind fun v14 => (op_aR .int r5.2 v14 r5.1).bind fun v15 => (op_aI r5.2 v15 (0 : Int32)).bind fun v16 => (op_gR 3 5 r5.2 x0).bind fun v17 => (op_gR 5 3 r5.2 v17).bind fun v18 => (op_aI r5.2 v18 x1).bind fun v19 => some (((v9 - v12) - (v16 - v19)), r5.2)
def f_X3_fallOf  (x0 : Nat) (x1 : Int32) (σ : ah_H) : Option (Int32 × ah_H) := op_ck 3 σ x0 (f_X3_fallOf_0 x0 x1 σ)
set_option maxRecDepth 100000 in
set_option maxHeartbeats 4000000 in
theorem c_X3_fallOf_0 {G : ah_G}   : ∀ (x0 : Nat) (x1 : Int32) (σ : ah_H) (r : Int32 × ah_H), f_X3_fallOf_0   x0 x1 σ = some r → AW G m_X3_fallOf 1 0 0 0 [(0, .ref x0), (1, .int x1)] [] σ (ah_N G (ah_ri r)) := by
  intro x0 x1 σ r h
  unfold f_X3_fallOf_0 at h
  refine aw_aload_n (pc := 0) 0 dX3_fallOf_0 rfl ?_
  obtain ⟨v1, e, h⟩ := op_bd h
  refine ow_gR (pc := 1) e dX3_fallOf_1 fd_X3_37 rfl ?_
  refine aw_aload_n (pc := 4) 0 dX3_fallOf_4 rfl ?_
  obtain ⟨v2, e, h⟩ := op_bd h
  refine ow_gR (pc := 5) e dX3_fallOf_5 fd_X3_9 rfl ?_
  obtain ⟨v3, e, h⟩ := op_bd h
  refine ow_gR (pc := 8) e dX3_fallOf_8 fd_X3_17 rfl ?_
  refine aw_iload_n (pc := 11) 1 dX3_fallOf_11 rfl ?_
  obtain ⟨v4, e, h⟩ := op_bd h
  refine ow_aI (pc := 12) e dX3_fallOf_12 ?_
  refine aw_iload_n (pc := 13) 1 dX3_fallOf_13 rfl ?_
  obtain ⟨r5, e, h⟩ := op_bd h
  refine ow_cVi (pc := 14) [.int v4, .int x1] ((c_X9_otherEnd _ _ _ _ _ e).mono (by decide)) (op_ck_sh e) rfl dX3_fallOf_14 cw_X3_62 rfl (Nat.le_of_ble_eq_true rfl) ?_
  refine aw_istore_n (pc := 17) [(2, .int r5.1), (0, .ref x0), (1, .int x1)] dX3_fallOf_17 rfl (by decide) rfl ?_
  refine aw_aload_n (pc := 18) 1 dX3_fallOf_18 rfl ?_
  obtain ⟨v6, e, h⟩ := op_bd h
  refine ow_gR (pc := 19) e dX3_fallOf_19 fd_X3_37 rfl ?_
  obtain ⟨v7, e, h⟩ := op_bd h
  refine ow_gR (pc := 22) e dX3_fallOf_22 fd_X3_66 rfl ?_
  refine aw_iload_n (pc := 25) 2 dX3_fallOf_25 rfl ?_
  obtain ⟨v8, e, h⟩ := op_bd h
  refine ow_aR (pc := 26) e dX3_fallOf_26 (by decide) ?_
  refine aw_iconst (pc := 27) (v := (0 : Int32)) dX3_fallOf_27 (by decide) ?_
  obtain ⟨v9, e, h⟩ := op_bd h
  refine ow_aI (pc := 28) e dX3_fallOf_28 ?_
  refine aw_aload_n (pc := 29) 1 dX3_fallOf_29 rfl ?_
  obtain ⟨v10, e, h⟩ := op_bd h
  refine ow_gR (pc := 30) e dX3_fallOf_30 fd_X3_9 rfl ?_
  obtain ⟨v11, e, h⟩ := op_bd h
  refine ow_gR (pc := 33) e dX3_fallOf_33 fd_X3_70 rfl ?_
  refine aw_iload_n (pc := 36) 2 dX3_fallOf_36 rfl ?_
  obtain ⟨v12, e, h⟩ := op_bd h
  refine ow_aI (pc := 37) e dX3_fallOf_37 ?_
  refine aw_isub (pc := 38) dX3_fallOf_38 ?_
  refine aw_istore_n (pc := 39) [(3, .int (v9 - v12)), (2, .int r5.1), (0, .ref x0), (1, .int x1)] dX3_fallOf_39 rfl (by decide) rfl ?_
  refine aw_iload_n (pc := 40) 0 dX3_fallOf_40 rfl ?_
  refine aw_aload_n (pc := 41) 2 dX3_fallOf_41 rfl ?_
  obtain ⟨v13, e, h⟩ := op_bd h
  refine ow_gR (pc := 42) e dX3_fallOf_42 fd_X3_37 rfl ?_
  obtain ⟨v14, e, h⟩ := op_bd h
  refine ow_gR (pc := 45) e dX3_fallOf_45 fd_X3_66 rfl ?_
  refine aw_iload_n (pc := 48) 1 dX3_fallOf_48 rfl ?_
  obtain ⟨v15, e, h⟩ := op_bd h
  refine ow_aR (pc := 49) e dX3_fallOf_49 (by decide) ?_
  refine aw_iconst (pc := 50) (v := (0 : Int32)) dX3_fallOf_50 (by decide) ?_
  obtain ⟨v16, e, h⟩ := op_bd h
  refine ow_aI (pc := 51) e dX3_fallOf_51 ?_
  refine aw_aload_n (pc := 52) 2 dX3_fallOf_52 rfl ?_
  obtain ⟨v17, e, h⟩ := op_bd h
  refine ow_gR (pc := 53) e dX3_fallOf_53 fd_X3_9 rfl ?_
  obtain ⟨v18, e, h⟩ := op_bd h
  refine ow_gR (pc := 56) e dX3_fallOf_56 fd_X3_73 rfl ?_
  refine aw_iload_n (pc := 59) 3 dX3_fallOf_59 rfl ?_
  obtain ⟨v19, e, h⟩ := op_bd h
  refine ow_aI (pc := 60) e dX3_fallOf_60 ?_
  refine aw_isub (pc := 61) dX3_fallOf_61 ?_
  refine aw_isub (pc := 62) dX3_fallOf_62 ?_
  exact ow_iret (pc := 63) h dX3_fallOf_63 rfl
theorem c_X3_fallOf {G : ah_G}   (x0 : Nat) (x1 : Int32) (σ : ah_H) (r : Int32 × ah_H) (h : f_X3_fallOf  x0 x1 σ = some r) : AM G m_X3_fallOf 1 0 0 [.ref x0, .int x1] σ (ah_ri r) := aw_enter (by decide) (Nat.le_of_ble_eq_true rfl) (c_X3_fallOf_0 _ _ _ _ (op_ck_k h))
def f_X11_net_0   (x0 : Nat) (x1 : Int32) (x2 : Int32) (σ : ah_H) : Option (Int32 × ah_H) :=
  (op_gR 11 2 σ x0).bind fun v1 => (f_X9_isCorner v1 x1 σ).bind fun r2 => if r2.1 = 0 then (some ((-1 : Int32), r2.2)) else (if x2 < 0 then (some ((-1 : Int32), r2.2)) else (if x2 ≤ (5 : Int32) then ((op_gR 11 5 r2.2 x0).bind fun v3 => (op_gR 5 0 r2.2 v3).bind fun v4 => (op_aI r2.2 v4 x1).bind fun v5 => if v5 = (-1 : Int32) then (if x2 = (5 : Int32) then (some ((-2147483648 : Int32), r2.2)) else (some ((-2 : Int32), r2.2))) else (if x2 = (0 : Int32) then ((op_gR 11 5 r2.2 x0).bind fun v6 => (op_gR 5 0 r2.2 v6).bind fun v7 => (op_aI r2.2 v7 x1).bind fun v8 => some (v8, r2.2)) else (if x2 = (1 : Int32) then ((op_gR 11 5 r2.2 x0).bind fun v9 => (op_gR 5 1 r2.2 v9).bind fun v10 => (op_aI r2.2 v10 x1).bind fun v11 => some (v11, r2.2)) else (if x2 = (2 : Int32) then ((op_gR 11 5 r2.2 x0).bind fun v12 => (op_gR 5 2 r2.2 v12).bind fun v13 => (op_aI r2.2 v13 x1).bind fun v14 => some (v14, r2.2)) else (if x2 = (3 : Int32) then ((op_gR 11 5 r2.2 x0).bind fun v15 => (op_gR 5 3 r2.2 v15).bind fun v16 => (op_aI r2.2 v16 x1).bind fun v17 => some (v17, r2.2)) else (if x2 = (4 : Int32) then ((op_gR 11 2 r2.2 x0).bind fun v18 => (op_gR 11 5 r2.2 x0).bind fun v19 => (op_gR 5 0 r2.2 v19).bind fun v20 => (op_aI r2.2 v20 x1).bind fun v21 => (f_X9_otherEnd v18 v21 x1 r2.2).bind fun r22 => some (r22.1, r22.2)) else ((op_gR 11 6 r2.2 x0).bind fun v23 => (f_X3_fallOf v23 x1 r2.2).bind fun r24 => some (r24.1, r24.2)))))))) else (some ((-1 : Int32), r2.2))))
def f_X11_net  (x0 : Nat) (x1 : Int32) (x2 : Int32) (σ : ah_H) : Option (Int32 × ah_H) := op_ck 11 σ x0 (f_X11_net_0 x0 x1 x2 σ)
set_option maxRecDepth 100000 in
set_option maxHeartbeats 4000000 in
theorem c_X11_net_0 {G : ah_G}   : ∀ (x0 : Nat) (x1 : Int32) (x2 : Int32) (σ : ah_H) (r : Int32 × ah_H), f_X11_net_0   x0 x1 x2 σ = some r → AW G m_X11_net 2 0 0 0 [(0, .ref x0), (1, .int x1), (2, .int x2)] [] σ (ah_N G (ah_ri r)) := by
  intro x0 x1 x2 σ r h
  unfold f_X11_net_0 at h
  refine aw_aload_n (pc := 0) 0 dX11_net_0 rfl ?_
  obtain ⟨v1, e, h⟩ := op_bd h
  refine ow_gR (pc := 1) e dX11_net_1 fd_X11_20 rfl ?_
  refine aw_iload_n (pc := 4) 1 dX11_net_4 rfl ?_
  obtain ⟨r2, e, h⟩ := op_bd h
  refine ow_cVi (pc := 5) [.int x1] ((c_X9_isCorner _ _ _ _ e).mono (by decide)) (op_ck_sh e) rfl dX11_net_5 cw_X11_93 rfl (Nat.le_of_ble_eq_true rfl) ?_
  refine aw_if_eq (pc := 8) 20 dX11_net_8 (by decide) (fun z => ?_) (fun z => ?_)
  · replace h := (if_pos z).symm.trans h
    refine aw_iconst (pc := 20) (v := (-1 : Int32)) dX11_net_20 (by decide) ?_
    exact ow_iret (pc := 21) h dX11_net_21 rfl
  · replace h := (if_neg z).symm.trans h
    refine aw_iload_n (pc := 11) 2 dX11_net_11 rfl ?_
    refine aw_if_lt (pc := 12) 20 dX11_net_12 (by decide) (fun z => ?_) (fun z => ?_)
    · replace h := (if_pos z).symm.trans h
      refine aw_iconst (pc := 20) (v := (-1 : Int32)) dX11_net_20 (by decide) ?_
      exact ow_iret (pc := 21) h dX11_net_21 rfl
    · replace h := (if_neg z).symm.trans h
      refine aw_iload_n (pc := 15) 2 dX11_net_15 rfl ?_
      refine aw_iconst (pc := 16) (v := (5 : Int32)) dX11_net_16 (by decide) ?_
      refine aw_icmp_le (pc := 17) 22 dX11_net_17 (by decide) (fun z => ?_) (fun z => ?_)
      · replace h := (if_pos z).symm.trans h
        refine aw_aload_n (pc := 22) 0 dX11_net_22 rfl ?_
        obtain ⟨v3, e, h⟩ := op_bd h
        refine ow_gR (pc := 23) e dX11_net_23 fd_X11_39 rfl ?_
        obtain ⟨v4, e, h⟩ := op_bd h
        refine ow_gR (pc := 26) e dX11_net_26 fd_X11_140 rfl ?_
        refine aw_iload_n (pc := 29) 1 dX11_net_29 rfl ?_
        obtain ⟨v5, e, h⟩ := op_bd h
        refine ow_aI (pc := 30) e dX11_net_30 ?_
        refine aw_iconst (pc := 31) (v := (-1 : Int32)) dX11_net_31 (by decide) ?_
        refine aw_icmp_ne (pc := 32) 48 dX11_net_32 (by decide) (fun z => ?_) (fun z => ?_)
        · replace h := (if_neg z).symm.trans h
          refine aw_iload_n (pc := 48) 2 dX11_net_48 rfl ?_
          by_cases z0 : x2 = (0 : Int32)
          · replace h := (if_pos z0).symm.trans h
            refine aw_tableIn (pc := 49) (off := 35) 84 dX11_net_49 (by rw [z0]; decide) (by rw [z0]; decide) (by rw [z0]; decide) (by decide) ?_
            refine aw_aload_n (pc := 84) 0 dX11_net_84 rfl ?_
            obtain ⟨v6, e, h⟩ := op_bd h
            refine ow_gR (pc := 85) e dX11_net_85 fd_X11_39 rfl ?_
            obtain ⟨v7, e, h⟩ := op_bd h
            refine ow_gR (pc := 88) e dX11_net_88 fd_X11_140 rfl ?_
            refine aw_iload_n (pc := 91) 1 dX11_net_91 rfl ?_
            obtain ⟨v8, e, h⟩ := op_bd h
            refine ow_aI (pc := 92) e dX11_net_92 ?_
            exact ow_iret (pc := 93) h dX11_net_93 rfl
          · replace h := (if_neg z0).symm.trans h
            by_cases z1 : x2 = (1 : Int32)
            · replace h := (if_pos z1).symm.trans h
              refine aw_tableIn (pc := 49) (off := 45) 94 dX11_net_49 (by rw [z1]; decide) (by rw [z1]; decide) (by rw [z1]; decide) (by decide) ?_
              refine aw_aload_n (pc := 94) 0 dX11_net_94 rfl ?_
              obtain ⟨v9, e, h⟩ := op_bd h
              refine ow_gR (pc := 95) e dX11_net_95 fd_X11_39 rfl ?_
              obtain ⟨v10, e, h⟩ := op_bd h
              refine ow_gR (pc := 98) e dX11_net_98 fd_X11_146 rfl ?_
              refine aw_iload_n (pc := 101) 1 dX11_net_101 rfl ?_
              obtain ⟨v11, e, h⟩ := op_bd h
              refine ow_aI (pc := 102) e dX11_net_102 ?_
              exact ow_iret (pc := 103) h dX11_net_103 rfl
            · replace h := (if_neg z1).symm.trans h
              by_cases z2 : x2 = (2 : Int32)
              · replace h := (if_pos z2).symm.trans h
                refine aw_tableIn (pc := 49) (off := 55) 104 dX11_net_49 (by rw [z2]; decide) (by rw [z2]; decide) (by rw [z2]; decide) (by decide) ?_
                refine aw_aload_n (pc := 104) 0 dX11_net_104 rfl ?_
                obtain ⟨v12, e, h⟩ := op_bd h
                refine ow_gR (pc := 105) e dX11_net_105 fd_X11_39 rfl ?_
                obtain ⟨v13, e, h⟩ := op_bd h
                refine ow_gR (pc := 108) e dX11_net_108 fd_X11_149 rfl ?_
                refine aw_iload_n (pc := 111) 1 dX11_net_111 rfl ?_
                obtain ⟨v14, e, h⟩ := op_bd h
                refine ow_aI (pc := 112) e dX11_net_112 ?_
                exact ow_iret (pc := 113) h dX11_net_113 rfl
              · replace h := (if_neg z2).symm.trans h
                by_cases z3 : x2 = (3 : Int32)
                · replace h := (if_pos z3).symm.trans h
                  refine aw_tableIn (pc := 49) (off := 65) 114 dX11_net_49 (by rw [z3]; decide) (by rw [z3]; decide) (by rw [z3]; decide) (by decide) ?_
                  refine aw_aload_n (pc := 114) 0 dX11_net_114 rfl ?_
                  obtain ⟨v15, e, h⟩ := op_bd h
                  refine ow_gR (pc := 115) e dX11_net_115 fd_X11_39 rfl ?_
                  obtain ⟨v16, e, h⟩ := op_bd h
                  refine ow_gR (pc := 118) e dX11_net_118 fd_X11_152 rfl ?_
                  refine aw_iload_n (pc := 121) 1 dX11_net_121 rfl ?_
                  obtain ⟨v17, e, h⟩ := op_bd h
                  refine ow_aI (pc := 122) e dX11_net_122 ?_
                  exact ow_iret (pc := 123) h dX11_net_123 rfl
                · replace h := (if_neg z3).symm.trans h
                  by_cases z4 : x2 = (4 : Int32)
                  · replace h := (if_pos z4).symm.trans h
                    refine aw_tableIn (pc := 49) (off := 75) 124 dX11_net_49 (by rw [z4]; decide) (by rw [z4]; decide) (by rw [z4]; decide) (by decide) ?_
                    refine aw_aload_n (pc := 124) 0 dX11_net_124 rfl ?_
                    obtain ⟨v18, e, h⟩ := op_bd h
                    refine ow_gR (pc := 125) e dX11_net_125 fd_X11_20 rfl ?_
                    refine aw_aload_n (pc := 128) 0 dX11_net_128 rfl ?_
                    obtain ⟨v19, e, h⟩ := op_bd h
                    refine ow_gR (pc := 129) e dX11_net_129 fd_X11_39 rfl ?_
                    obtain ⟨v20, e, h⟩ := op_bd h
                    refine ow_gR (pc := 132) e dX11_net_132 fd_X11_140 rfl ?_
                    refine aw_iload_n (pc := 135) 1 dX11_net_135 rfl ?_
                    obtain ⟨v21, e, h⟩ := op_bd h
                    refine ow_aI (pc := 136) e dX11_net_136 ?_
                    refine aw_iload_n (pc := 137) 1 dX11_net_137 rfl ?_
                    obtain ⟨r22, e, h⟩ := op_bd h
                    refine ow_cVi (pc := 138) [.int v21, .int x1] ((c_X9_otherEnd _ _ _ _ _ e).mono (by decide)) (op_ck_sh e) rfl dX11_net_138 cw_X11_155 rfl (Nat.le_of_ble_eq_true rfl) ?_
                    exact ow_iret (pc := 141) h dX11_net_141 rfl
                  · replace h := (if_neg z4).symm.trans h
                    have wz0 : ¬ (x2).toInt = 0 := fun q => z0 (Int32.toInt_inj.mp q)
                    have wz1 : ¬ (x2).toInt = 1 := fun q => z1 (Int32.toInt_inj.mp q)
                    have wz2 : ¬ (x2).toInt = 2 := fun q => z2 (Int32.toInt_inj.mp q)
                    have wz3 : ¬ (x2).toInt = 3 := fun q => z3 (Int32.toInt_inj.mp q)
                    have wz4 : ¬ (x2).toInt = 4 := fun q => z4 (Int32.toInt_inj.mp q)
                    refine aw_tableOut (pc := 49) 142 dX11_net_49 (by omega) (by decide) ?_
                    refine aw_aload_n (pc := 142) 0 dX11_net_142 rfl ?_
                    obtain ⟨v23, e, h⟩ := op_bd h
                    refine ow_gR (pc := 143) e dX11_net_143 fd_X11_48 rfl ?_
                    refine aw_iload_n (pc := 146) 1 dX11_net_146 rfl ?_
                    obtain ⟨r24, e, h⟩ := op_bd h
                    refine ow_cVi (pc := 147) [.int x1] ((c_X3_fallOf _ _ _ _ e).mono (by decide)) (op_ck_sh e) rfl dX11_net_147 cw_X11_158 rfl (Nat.le_of_ble_eq_true rfl) ?_
                    exact ow_iret (pc := 150) h dX11_net_150 rfl
        · replace h := (if_pos z).symm.trans h
          refine aw_iload_n (pc := 35) 2 dX11_net_35 rfl ?_
          refine aw_iconst (pc := 36) (v := (5 : Int32)) dX11_net_36 (by decide) ?_
          refine aw_icmp_ne (pc := 37) 45 dX11_net_37 (by decide) (fun z => ?_) (fun z => ?_)
          · replace h := (if_neg z).symm.trans h
            refine aw_bipush (pc := 45) (v := (-2 : Int32)) dX11_net_45 (by decide) ?_
            exact ow_iret (pc := 47) h dX11_net_47 rfl
          · replace h := (if_pos z).symm.trans h
            refine aw_ldc (pc := 40) dX11_net_40 kc_X11_145 ?_
            refine aw_goto (pc := 42) 47 dX11_net_42 (by decide) ?_
            exact ow_iret (pc := 47) h dX11_net_47 rfl
      · replace h := (if_neg z).symm.trans h
        refine aw_iconst (pc := 20) (v := (-1 : Int32)) dX11_net_20 (by decide) ?_
        exact ow_iret (pc := 21) h dX11_net_21 rfl
theorem c_X11_net {G : ah_G}   (x0 : Nat) (x1 : Int32) (x2 : Int32) (σ : ah_H) (r : Int32 × ah_H) (h : f_X11_net  x0 x1 x2 σ = some r) : AM G m_X11_net 2 0 0 [.ref x0, .int x1, .int x2] σ (ah_ri r) := aw_enter (by decide) (Nat.le_of_ble_eq_true rfl) (c_X11_net_0 _ _ _ _ _ (op_ck_k h))
def f_X3_carriedBy_0   (x0 : Nat) (x1 : Int32) (σ : ah_H) : Option (Int64 × ah_H) :=
  (op_gR 3 6 σ x0).bind fun v1 => (op_gR 9 7 σ v1).bind fun v2 => (op_gR 3 5 σ x0).bind fun v3 => (op_gR 5 1 σ v3).bind fun v4 => (op_aI σ v4 x1).bind fun v5 => (op_aR .int σ v2 v5).bind fun v6 => (op_aI σ v6 (0 : Int32)).bind fun v7 => (op_gR 3 6 σ x0).bind fun v8 => (op_gR 9 15 σ v8).bind fun v9 => (op_gR 3 6 σ x0).bind fun v10 => (op_gR 3 5 σ x0).bind fun v11 => (op_gR 5 0 σ v11).bind fun v12 => (op_aI σ v12 x1).bind fun v13 => (f_X3_fallOf x0 x1 σ).bind fun r14 => (f_X9_fallByLength v10 v13 r14.1 r14.2).bind fun r15 => (f_X4_carried v9 v7 r15.1 r15.2).bind fun r16 => some (r16.1, r16.2)
def f_X3_carriedBy  (x0 : Nat) (x1 : Int32) (σ : ah_H) : Option (Int64 × ah_H) := op_ck 3 σ x0 (f_X3_carriedBy_0 x0 x1 σ)
set_option maxRecDepth 100000 in
set_option maxHeartbeats 4000000 in
theorem c_X3_carriedBy_0 {G : ah_G}   : ∀ (x0 : Nat) (x1 : Int32) (σ : ah_H) (r : Int64 × ah_H), f_X3_carriedBy_0   x0 x1 σ = some r → AW G m_X3_carriedBy 3 0 0 0 [(0, .ref x0), (1, .int x1)] [] σ (ah_N G (ah_rl r)) := by
  intro x0 x1 σ r h
  unfold f_X3_carriedBy_0 at h
  refine aw_aload_n (pc := 0) 0 dX3_carriedBy_0 rfl ?_
  obtain ⟨v1, e, h⟩ := op_bd h
  refine ow_gR (pc := 1) e dX3_carriedBy_1 fd_X3_37 rfl ?_
  obtain ⟨v2, e, h⟩ := op_bd h
  refine ow_gR (pc := 4) e dX3_carriedBy_4 fd_X3_76 rfl ?_
  refine aw_aload_n (pc := 7) 0 dX3_carriedBy_7 rfl ?_
  obtain ⟨v3, e, h⟩ := op_bd h
  refine ow_gR (pc := 8) e dX3_carriedBy_8 fd_X3_9 rfl ?_
  obtain ⟨v4, e, h⟩ := op_bd h
  refine ow_gR (pc := 11) e dX3_carriedBy_11 fd_X3_79 rfl ?_
  refine aw_iload_n (pc := 14) 1 dX3_carriedBy_14 rfl ?_
  obtain ⟨v5, e, h⟩ := op_bd h
  refine ow_aI (pc := 15) e dX3_carriedBy_15 ?_
  obtain ⟨v6, e, h⟩ := op_bd h
  refine ow_aR (pc := 16) e dX3_carriedBy_16 (by decide) ?_
  refine aw_iconst (pc := 17) (v := (0 : Int32)) dX3_carriedBy_17 (by decide) ?_
  obtain ⟨v7, e, h⟩ := op_bd h
  refine ow_aI (pc := 18) e dX3_carriedBy_18 ?_
  refine aw_istore_n (pc := 19) [(2, .int v7), (0, .ref x0), (1, .int x1)] dX3_carriedBy_19 rfl (by decide) rfl ?_
  refine aw_aload_n (pc := 20) 1 dX3_carriedBy_20 rfl ?_
  obtain ⟨v8, e, h⟩ := op_bd h
  refine ow_gR (pc := 21) e dX3_carriedBy_21 fd_X3_37 rfl ?_
  obtain ⟨v9, e, h⟩ := op_bd h
  refine ow_gR (pc := 24) e dX3_carriedBy_24 fd_X3_82 rfl ?_
  refine aw_iload_n (pc := 27) 0 dX3_carriedBy_27 rfl ?_
  refine aw_aload_n (pc := 28) 1 dX3_carriedBy_28 rfl ?_
  obtain ⟨v10, e, h⟩ := op_bd h
  refine ow_gR (pc := 29) e dX3_carriedBy_29 fd_X3_37 rfl ?_
  refine aw_aload_n (pc := 32) 1 dX3_carriedBy_32 rfl ?_
  obtain ⟨v11, e, h⟩ := op_bd h
  refine ow_gR (pc := 33) e dX3_carriedBy_33 fd_X3_9 rfl ?_
  obtain ⟨v12, e, h⟩ := op_bd h
  refine ow_gR (pc := 36) e dX3_carriedBy_36 fd_X3_17 rfl ?_
  refine aw_iload_n (pc := 39) 2 dX3_carriedBy_39 rfl ?_
  obtain ⟨v13, e, h⟩ := op_bd h
  refine ow_aI (pc := 40) e dX3_carriedBy_40 ?_
  refine aw_aload_n (pc := 41) 1 dX3_carriedBy_41 rfl ?_
  refine aw_iload_n (pc := 42) 2 dX3_carriedBy_42 rfl ?_
  obtain ⟨r14, e, h⟩ := op_bd h
  refine ow_cVi (pc := 43) [.int x1] ((c_X3_fallOf _ _ _ _ e).mono (by decide)) (op_ck_sh e) rfl dX3_carriedBy_43 cw_X3_86 rfl (Nat.le_of_ble_eq_true rfl) ?_
  obtain ⟨r15, e, h⟩ := op_bd h
  refine ow_cVi (pc := 46) [.int v13, .int r14.1] ((c_X9_fallByLength _ _ _ _ _ e).mono (by decide)) (op_ck_sh e) rfl dX3_carriedBy_46 cw_X3_90 rfl (Nat.le_of_ble_eq_true rfl) ?_
  obtain ⟨r16, e, h⟩ := op_bd h
  refine ow_cVl (pc := 49) [.int v7, .int r15.1] ((c_X4_carried _ _ _ _ _ e).mono (by decide)) (op_ck_sh e) rfl dX3_carriedBy_49 cw_X3_93 rfl (Nat.le_of_ble_eq_true rfl) ?_
  exact ow_lret (pc := 52) h dX3_carriedBy_52 rfl
theorem c_X3_carriedBy {G : ah_G}   (x0 : Nat) (x1 : Int32) (σ : ah_H) (r : Int64 × ah_H) (h : f_X3_carriedBy  x0 x1 σ = some r) : AM G m_X3_carriedBy 3 0 0 [.ref x0, .int x1] σ (ah_rl r) := aw_enter (by decide) (Nat.le_of_ble_eq_true rfl) (c_X3_carriedBy_0 _ _ _ _ (op_ck_k h))
def f_X11_carries_0   (x0 : Nat) (x1 : Int32) (σ : ah_H) : Option (Int64 × ah_H) :=
  (f_X11_hasPipe x0 x1 σ).bind fun r1 => if r1.1 = 0 then (some ((-1 : Int64), r1.2)) else ((op_gR 11 6 r1.2 x0).bind fun v2 => (f_X3_carriedBy v2 x1 r1.2).bind fun r3 => some (r3.1, r3.2))
def f_X11_carries  (x0 : Nat) (x1 : Int32) (σ : ah_H) : Option (Int64 × ah_H) := op_ck 11 σ x0 (f_X11_carries_0 x0 x1 σ)
set_option maxRecDepth 100000 in
set_option maxHeartbeats 4000000 in
theorem c_X11_carries_0 {G : ah_G}   : ∀ (x0 : Nat) (x1 : Int32) (σ : ah_H) (r : Int64 × ah_H), f_X11_carries_0   x0 x1 σ = some r → AW G m_X11_carries 4 0 0 0 [(0, .ref x0), (1, .int x1)] [] σ (ah_N G (ah_rl r)) := by
  intro x0 x1 σ r h
  unfold f_X11_carries_0 at h
  refine aw_aload_n (pc := 0) 0 dX11_carries_0 rfl ?_
  refine aw_iload_n (pc := 1) 1 dX11_carries_1 rfl ?_
  obtain ⟨r1, e, h⟩ := op_bd h
  refine ow_cVi (pc := 2) [.int x1] ((c_X11_hasPipe _ _ _ _ e).mono (by decide)) (op_ck_sh e) rfl dX11_carries_2 cw_X11_137 rfl (Nat.le_of_ble_eq_true rfl) ?_
  refine aw_if_eq (pc := 5) 19 dX11_carries_5 (by decide) (fun z => ?_) (fun z => ?_)
  · replace h := (if_pos z).symm.trans h
    refine aw_ldc2 (pc := 19) dX11_carries_19 kl_X11_166 ?_
    exact ow_lret (pc := 22) h dX11_carries_22 rfl
  · replace h := (if_neg z).symm.trans h
    refine aw_aload_n (pc := 8) 0 dX11_carries_8 rfl ?_
    obtain ⟨v2, e, h⟩ := op_bd h
    refine ow_gR (pc := 9) e dX11_carries_9 fd_X11_48 rfl ?_
    refine aw_iload_n (pc := 12) 1 dX11_carries_12 rfl ?_
    obtain ⟨r3, e, h⟩ := op_bd h
    refine ow_cVl (pc := 13) [.int x1] ((c_X3_carriedBy _ _ _ _ e).mono (by decide)) (op_ck_sh e) rfl dX11_carries_13 cw_X11_162 rfl (Nat.le_of_ble_eq_true rfl) ?_
    refine aw_goto (pc := 16) 22 dX11_carries_16 (by decide) ?_
    exact ow_lret (pc := 22) h dX11_carries_22 rfl
theorem c_X11_carries {G : ah_G}   (x0 : Nat) (x1 : Int32) (σ : ah_H) (r : Int64 × ah_H) (h : f_X11_carries  x0 x1 σ = some r) : AM G m_X11_carries 4 0 0 [.ref x0, .int x1] σ (ah_rl r) := aw_enter (by decide) (Nat.le_of_ble_eq_true rfl) (c_X11_carries_0 _ _ _ _ (op_ck_k h))
def f_X3_pipeCost_0   (x0 : Nat) (x1 : Int32) (σ : ah_H) : Option (Int64 × ah_H) :=
  (op_gR 3 6 σ x0).bind fun v1 => (op_gR 9 7 σ v1).bind fun v2 => (op_gR 3 5 σ x0).bind fun v3 => (op_gR 5 1 σ v3).bind fun v4 => (op_aI σ v4 x1).bind fun v5 => (op_aR .int σ v2 v5).bind fun v6 => (op_gR 3 5 σ x0).bind fun v7 => (op_gR 5 2 σ v7).bind fun v8 => (op_aI σ v8 x1).bind fun v9 => (op_gR 3 5 σ x0).bind fun v10 => (op_gR 5 3 σ v10).bind fun v11 => (op_aI σ v11 x1).bind fun v12 => (op_div (v9 + v12) (2 : Int32)).bind fun v13 => (op_gR 3 6 σ x0).bind fun v14 => (op_gR 9 15 σ v14).bind fun v15 => (op_aI σ v6 (0 : Int32)).bind fun v16 => (op_gR 3 6 σ x0).bind fun v17 => (f_X9_rockyAt v17 x1 v13 σ).bind fun r18 => (f_X4_digs v15 v16 v13 r18.1 r18.2).bind fun r19 => (op_gR 3 6 r19.2 x0).bind fun v20 => (op_gR 9 5 r19.2 v20).bind fun v21 => (op_gR 3 5 r19.2 x0).bind fun v22 => (op_gR 5 0 r19.2 v22).bind fun v23 => (op_aI r19.2 v23 x1).bind fun v24 => (op_aR .int r19.2 v21 v24).bind fun v25 => (op_aI r19.2 v25 (2 : Int32)).bind fun v26 => (op_aI r19.2 v6 (1 : Int32)).bind fun v27 => some (((Int32.toInt64 v26) * ((Int32.toInt64 v27) + r19.1)), r19.2)
def f_X3_pipeCost  (x0 : Nat) (x1 : Int32) (σ : ah_H) : Option (Int64 × ah_H) := op_ck 3 σ x0 (f_X3_pipeCost_0 x0 x1 σ)
set_option maxRecDepth 100000 in
set_option maxHeartbeats 4000000 in
theorem c_X3_pipeCost_0 {G : ah_G}   : ∀ (x0 : Nat) (x1 : Int32) (σ : ah_H) (r : Int64 × ah_H), f_X3_pipeCost_0   x0 x1 σ = some r → AW G m_X3_pipeCost 3 0 0 0 [(0, .ref x0), (1, .int x1)] [] σ (ah_N G (ah_rl r)) := by
  intro x0 x1 σ r h
  unfold f_X3_pipeCost_0 at h
  refine aw_aload_n (pc := 0) 0 dX3_pipeCost_0 rfl ?_
  obtain ⟨v1, e, h⟩ := op_bd h
  refine ow_gR (pc := 1) e dX3_pipeCost_1 fd_X3_37 rfl ?_
  obtain ⟨v2, e, h⟩ := op_bd h
  refine ow_gR (pc := 4) e dX3_pipeCost_4 fd_X3_76 rfl ?_
  refine aw_aload_n (pc := 7) 0 dX3_pipeCost_7 rfl ?_
  obtain ⟨v3, e, h⟩ := op_bd h
  refine ow_gR (pc := 8) e dX3_pipeCost_8 fd_X3_9 rfl ?_
  obtain ⟨v4, e, h⟩ := op_bd h
  refine ow_gR (pc := 11) e dX3_pipeCost_11 fd_X3_79 rfl ?_
  refine aw_iload_n (pc := 14) 1 dX3_pipeCost_14 rfl ?_
  obtain ⟨v5, e, h⟩ := op_bd h
  refine ow_aI (pc := 15) e dX3_pipeCost_15 ?_
  obtain ⟨v6, e, h⟩ := op_bd h
  refine ow_aR (pc := 16) e dX3_pipeCost_16 (by decide) ?_
  refine aw_astore_n (pc := 17) [(2, .ref v6), (0, .ref x0), (1, .int x1)] dX3_pipeCost_17 rfl (by decide) rfl ?_
  refine aw_aload_n (pc := 18) 1 dX3_pipeCost_18 rfl ?_
  obtain ⟨v7, e, h⟩ := op_bd h
  refine ow_gR (pc := 19) e dX3_pipeCost_19 fd_X3_9 rfl ?_
  obtain ⟨v8, e, h⟩ := op_bd h
  refine ow_gR (pc := 22) e dX3_pipeCost_22 fd_X3_70 rfl ?_
  refine aw_iload_n (pc := 25) 2 dX3_pipeCost_25 rfl ?_
  obtain ⟨v9, e, h⟩ := op_bd h
  refine ow_aI (pc := 26) e dX3_pipeCost_26 ?_
  refine aw_aload_n (pc := 27) 1 dX3_pipeCost_27 rfl ?_
  obtain ⟨v10, e, h⟩ := op_bd h
  refine ow_gR (pc := 28) e dX3_pipeCost_28 fd_X3_9 rfl ?_
  obtain ⟨v11, e, h⟩ := op_bd h
  refine ow_gR (pc := 31) e dX3_pipeCost_31 fd_X3_73 rfl ?_
  refine aw_iload_n (pc := 34) 2 dX3_pipeCost_34 rfl ?_
  obtain ⟨v12, e, h⟩ := op_bd h
  refine ow_aI (pc := 35) e dX3_pipeCost_35 ?_
  refine aw_iadd (pc := 36) dX3_pipeCost_36 ?_
  refine aw_iconst (pc := 37) (v := (2 : Int32)) dX3_pipeCost_37 (by decide) ?_
  obtain ⟨v13, e, h⟩ := op_bd h
  refine ow_div (pc := 38) e dX3_pipeCost_38 ?_
  refine aw_istore_n (pc := 39) [(3, .int v13), (2, .ref v6), (0, .ref x0), (1, .int x1)] dX3_pipeCost_39 rfl (by decide) rfl ?_
  refine aw_aload_n (pc := 40) 2 dX3_pipeCost_40 rfl ?_
  obtain ⟨v14, e, h⟩ := op_bd h
  refine ow_gR (pc := 41) e dX3_pipeCost_41 fd_X3_37 rfl ?_
  obtain ⟨v15, e, h⟩ := op_bd h
  refine ow_gR (pc := 44) e dX3_pipeCost_44 fd_X3_82 rfl ?_
  refine aw_aload_n (pc := 47) 1 dX3_pipeCost_47 rfl ?_
  refine aw_iconst (pc := 48) (v := (0 : Int32)) dX3_pipeCost_48 (by decide) ?_
  obtain ⟨v16, e, h⟩ := op_bd h
  refine ow_aI (pc := 49) e dX3_pipeCost_49 ?_
  refine aw_iload_n (pc := 50) 0 dX3_pipeCost_50 rfl ?_
  refine aw_aload_n (pc := 51) 2 dX3_pipeCost_51 rfl ?_
  obtain ⟨v17, e, h⟩ := op_bd h
  refine ow_gR (pc := 52) e dX3_pipeCost_52 fd_X3_37 rfl ?_
  refine aw_iload_n (pc := 55) 3 dX3_pipeCost_55 rfl ?_
  refine aw_iload_n (pc := 56) 0 dX3_pipeCost_56 rfl ?_
  obtain ⟨r18, e, h⟩ := op_bd h
  refine ow_cVi (pc := 57) [.int x1, .int v13] ((c_X9_rockyAt _ _ _ _ _ e).mono (by decide)) (op_ck_sh e) rfl dX3_pipeCost_57 cw_X3_99 rfl (Nat.le_of_ble_eq_true rfl) ?_
  obtain ⟨r19, e, h⟩ := op_bd h
  refine ow_cVl (pc := 60) [.int v16, .int v13, .int r18.1] ((c_X4_digs _ _ _ _ _ _ e).mono (by decide)) (op_ck_sh e) rfl dX3_pipeCost_60 cw_X3_102 rfl (Nat.le_of_ble_eq_true rfl) ?_
  refine aw_lstore (pc := 63) [(4, .long r19.1), (3, .int v13), (2, .ref v6), (0, .ref x0), (1, .int x1)] dX3_pipeCost_63 (by decide) rfl ?_
  refine aw_aload_n (pc := 65) 3 dX3_pipeCost_65 rfl ?_
  obtain ⟨v20, e, h⟩ := op_bd h
  refine ow_gR (pc := 66) e dX3_pipeCost_66 fd_X3_37 rfl ?_
  obtain ⟨v21, e, h⟩ := op_bd h
  refine ow_gR (pc := 69) e dX3_pipeCost_69 fd_X3_106 rfl ?_
  refine aw_aload_n (pc := 72) 3 dX3_pipeCost_72 rfl ?_
  obtain ⟨v22, e, h⟩ := op_bd h
  refine ow_gR (pc := 73) e dX3_pipeCost_73 fd_X3_9 rfl ?_
  obtain ⟨v23, e, h⟩ := op_bd h
  refine ow_gR (pc := 76) e dX3_pipeCost_76 fd_X3_17 rfl ?_
  refine aw_iload_n (pc := 79) 4 dX3_pipeCost_79 rfl ?_
  obtain ⟨v24, e, h⟩ := op_bd h
  refine ow_aI (pc := 80) e dX3_pipeCost_80 ?_
  obtain ⟨v25, e, h⟩ := op_bd h
  refine ow_aR (pc := 81) e dX3_pipeCost_81 (by decide) ?_
  refine aw_iconst (pc := 82) (v := (2 : Int32)) dX3_pipeCost_82 (by decide) ?_
  obtain ⟨v26, e, h⟩ := op_bd h
  refine ow_aI (pc := 83) e dX3_pipeCost_83 ?_
  refine aw_i2l (pc := 84) dX3_pipeCost_84 ?_
  refine aw_aload_n (pc := 85) 2 dX3_pipeCost_85 rfl ?_
  refine aw_iconst (pc := 86) (v := (1 : Int32)) dX3_pipeCost_86 (by decide) ?_
  obtain ⟨v27, e, h⟩ := op_bd h
  refine ow_aI (pc := 87) e dX3_pipeCost_87 ?_
  refine aw_i2l (pc := 88) dX3_pipeCost_88 ?_
  refine aw_lload (pc := 89) 0 dX3_pipeCost_89 rfl ?_
  refine aw_ladd (pc := 91) dX3_pipeCost_91 ?_
  refine aw_lmul (pc := 92) dX3_pipeCost_92 ?_
  exact ow_lret (pc := 93) h dX3_pipeCost_93 rfl
theorem c_X3_pipeCost {G : ah_G}   (x0 : Nat) (x1 : Int32) (σ : ah_H) (r : Int64 × ah_H) (h : f_X3_pipeCost  x0 x1 σ = some r) : AM G m_X3_pipeCost 3 0 0 [.ref x0, .int x1] σ (ah_rl r) := aw_enter (by decide) (Nat.le_of_ble_eq_true rfl) (c_X3_pipeCost_0 _ _ _ _ (op_ck_k h))
def f_X3_runsTo_0   (x0 : Nat) (x1 : Int32) (x2 : Int32) (σ : ah_H) : Option (Int32 × ah_H) :=
  (op_gR 3 5 σ x0).bind fun v1 => (op_gR 5 0 σ v1).bind fun v2 => (op_aI σ v2 x1).bind fun v3 => if v3 = (-1 : Int32) then ((op_rz (0 : Int32)).map fun q => (q, σ)) else ((op_gR 3 6 σ x0).bind fun v4 => (op_gR 3 5 σ x0).bind fun v5 => (op_gR 5 0 σ v5).bind fun v6 => (op_aI σ v6 x1).bind fun v7 => (f_X9_otherEnd v4 v7 x1 σ).bind fun r8 => if r8.1 = x2 then ((op_rz (1 : Int32)).map fun q => (q, r8.2)) else ((op_rz (0 : Int32)).map fun q => (q, r8.2)))
def f_X3_runsTo  (x0 : Nat) (x1 : Int32) (x2 : Int32) (σ : ah_H) : Option (Int32 × ah_H) := op_ck 3 σ x0 (f_X3_runsTo_0 x0 x1 x2 σ)
set_option maxRecDepth 100000 in
set_option maxHeartbeats 4000000 in
theorem c_X3_runsTo_0 {G : ah_G}   : ∀ (x0 : Nat) (x1 : Int32) (x2 : Int32) (σ : ah_H) (r : Int32 × ah_H), f_X3_runsTo_0   x0 x1 x2 σ = some r → AW G m_X3_runsTo 1 0 0 0 [(0, .ref x0), (1, .int x1), (2, .int x2)] [] σ (ah_N G (ah_ri r)) := by
  intro x0 x1 x2 σ r h
  unfold f_X3_runsTo_0 at h
  refine aw_aload_n (pc := 0) 0 dX3_runsTo_0 rfl ?_
  obtain ⟨v1, e, h⟩ := op_bd h
  refine ow_gR (pc := 1) e dX3_runsTo_1 fd_X3_9 rfl ?_
  obtain ⟨v2, e, h⟩ := op_bd h
  refine ow_gR (pc := 4) e dX3_runsTo_4 fd_X3_17 rfl ?_
  refine aw_iload_n (pc := 7) 1 dX3_runsTo_7 rfl ?_
  obtain ⟨v3, e, h⟩ := op_bd h
  refine ow_aI (pc := 8) e dX3_runsTo_8 ?_
  refine aw_iconst (pc := 9) (v := (-1 : Int32)) dX3_runsTo_9 (by decide) ?_
  refine aw_icmp_eq (pc := 10) 38 dX3_runsTo_10 (by decide) (fun z => ?_) (fun z => ?_)
  · replace h := (if_pos z).symm.trans h
    refine aw_iconst (pc := 38) (v := (0 : Int32)) dX3_runsTo_38 (by decide) ?_
    exact ow_zret (pc := 39) h dX3_runsTo_39 rfl
  · replace h := (if_neg z).symm.trans h
    refine aw_aload_n (pc := 13) 0 dX3_runsTo_13 rfl ?_
    obtain ⟨v4, e, h⟩ := op_bd h
    refine ow_gR (pc := 14) e dX3_runsTo_14 fd_X3_37 rfl ?_
    refine aw_aload_n (pc := 17) 0 dX3_runsTo_17 rfl ?_
    obtain ⟨v5, e, h⟩ := op_bd h
    refine ow_gR (pc := 18) e dX3_runsTo_18 fd_X3_9 rfl ?_
    obtain ⟨v6, e, h⟩ := op_bd h
    refine ow_gR (pc := 21) e dX3_runsTo_21 fd_X3_17 rfl ?_
    refine aw_iload_n (pc := 24) 1 dX3_runsTo_24 rfl ?_
    obtain ⟨v7, e, h⟩ := op_bd h
    refine ow_aI (pc := 25) e dX3_runsTo_25 ?_
    refine aw_iload_n (pc := 26) 1 dX3_runsTo_26 rfl ?_
    obtain ⟨r8, e, h⟩ := op_bd h
    refine ow_cVi (pc := 27) [.int v7, .int x1] ((c_X9_otherEnd _ _ _ _ _ e).mono (by decide)) (op_ck_sh e) rfl dX3_runsTo_27 cw_X3_62 rfl (Nat.le_of_ble_eq_true rfl) ?_
    refine aw_iload_n (pc := 30) 2 dX3_runsTo_30 rfl ?_
    refine aw_icmp_ne (pc := 31) 38 dX3_runsTo_31 (by decide) (fun z => ?_) (fun z => ?_)
    · replace h := (if_neg z).symm.trans h
      refine aw_iconst (pc := 38) (v := (0 : Int32)) dX3_runsTo_38 (by decide) ?_
      exact ow_zret (pc := 39) h dX3_runsTo_39 rfl
    · replace h := (if_pos z).symm.trans h
      refine aw_iconst (pc := 34) (v := (1 : Int32)) dX3_runsTo_34 (by decide) ?_
      refine aw_goto (pc := 35) 39 dX3_runsTo_35 (by decide) ?_
      exact ow_zret (pc := 39) h dX3_runsTo_39 rfl
theorem c_X3_runsTo {G : ah_G}   (x0 : Nat) (x1 : Int32) (x2 : Int32) (σ : ah_H) (r : Int32 × ah_H) (h : f_X3_runsTo  x0 x1 x2 σ = some r) : AM G m_X3_runsTo 1 0 0 [.ref x0, .int x1, .int x2] σ (ah_ri r) := aw_enter (by decide) (Nat.le_of_ble_eq_true rfl) (c_X3_runsTo_0 _ _ _ _ _ (op_ck_k h))
