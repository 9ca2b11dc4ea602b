def f_X2_bindingOf_0   (x0 : Int32) (σ : ah_H) : Option (Int32 × ah_H) :=
  if x0 = (2 : Int32) then (some ((1 : Int32), σ)) else (if x0 = (3 : Int32) then (some ((2 : Int32), σ)) else (if x0 = (4 : Int32) then (some ((3 : Int32), σ)) else (if x0 = (5 : Int32) then (some ((4 : Int32), σ)) else (if x0 = (6 : Int32) then (some ((4 : Int32), σ)) else (if x0 = (7 : Int32) then (some ((4 : Int32), σ)) else (if x0 = (8 : Int32) then (some ((4 : Int32), σ)) else (if x0 = (9 : Int32) then (some ((4 : Int32), σ)) else (if x0 = (10 : Int32) then (some ((4 : Int32), σ)) else (if x0 = (11 : Int32) then (some ((5 : Int32), σ)) else (if x0 = (12 : Int32) then (some ((5 : Int32), σ)) else (if x0 = (13 : Int32) then (some ((6 : Int32), σ)) else (if x0 = (14 : Int32) then (some ((6 : Int32), σ)) else (some ((0 : Int32), σ))))))))))))))
def f_X2_bindingOf  (x0 : Int32) (σ : ah_H) : Option (Int32 × ah_H) := f_X2_bindingOf_0 x0 σ
set_option maxRecDepth 100000 in
set_option maxHeartbeats 4000000 in
theorem c_X2_bindingOf_0 {G : ah_G}   : ∀ (x0 : Int32) (σ : ah_H) (r : Int32 × ah_H), f_X2_bindingOf_0   x0 σ = some r → AW G m_X2_bindingOf 0 0 0 0 [(0, .int x0)] [] σ (ah_N G (ah_ri r)) := by
  intro x0 σ r h
  unfold f_X2_bindingOf_0 at h
  refine aw_iload_n (pc := 0) 0 dX2_bindingOf_0 rfl ?_
  by_cases z0 : x0 = (2 : Int32)
  · replace h := (if_pos z0).symm.trans h
    refine aw_tableIn (pc := 1) (off := 67) 68 dX2_bindingOf_1 (by rw [z0]; decide) (by rw [z0]; decide) (by rw [z0]; decide) (by decide) ?_
    refine aw_iconst (pc := 68) (v := (1 : Int32)) dX2_bindingOf_68 (by decide) ?_
    exact ow_iret (pc := 69) h dX2_bindingOf_69 rfl
  · replace h := (if_neg z0).symm.trans h
    by_cases z1 : x0 = (3 : Int32)
    · replace h := (if_pos z1).symm.trans h
      refine aw_tableIn (pc := 1) (off := 69) 70 dX2_bindingOf_1 (by rw [z1]; decide) (by rw [z1]; decide) (by rw [z1]; decide) (by decide) ?_
      refine aw_iconst (pc := 70) (v := (2 : Int32)) dX2_bindingOf_70 (by decide) ?_
      exact ow_iret (pc := 71) h dX2_bindingOf_71 rfl
    · replace h := (if_neg z1).symm.trans h
      by_cases z2 : x0 = (4 : Int32)
      · replace h := (if_pos z2).symm.trans h
        refine aw_tableIn (pc := 1) (off := 71) 72 dX2_bindingOf_1 (by rw [z2]; decide) (by rw [z2]; decide) (by rw [z2]; decide) (by decide) ?_
        refine aw_iconst (pc := 72) (v := (3 : Int32)) dX2_bindingOf_72 (by decide) ?_
        exact ow_iret (pc := 73) h dX2_bindingOf_73 rfl
      · replace h := (if_neg z2).symm.trans h
        by_cases z3 : x0 = (5 : Int32)
        · replace h := (if_pos z3).symm.trans h
          refine aw_tableIn (pc := 1) (off := 73) 74 dX2_bindingOf_1 (by rw [z3]; decide) (by rw [z3]; decide) (by rw [z3]; decide) (by decide) ?_
          refine aw_iconst (pc := 74) (v := (4 : Int32)) dX2_bindingOf_74 (by decide) ?_
          exact ow_iret (pc := 75) h dX2_bindingOf_75 rfl
        · replace h := (if_neg z3).symm.trans h
          by_cases z4 : x0 = (6 : Int32)
          · replace h := (if_pos z4).symm.trans h
            refine aw_tableIn (pc := 1) (off := 73) 74 dX2_bindingOf_1 (by rw [z4]; decide) (by rw [z4]; decide) (by rw [z4]; decide) (by decide) ?_
            refine aw_iconst (pc := 74) (v := (4 : Int32)) dX2_bindingOf_74 (by decide) ?_
            exact ow_iret (pc := 75) h dX2_bindingOf_75 rfl
          · replace h := (if_neg z4).symm.trans h
            by_cases z5 : x0 = (7 : Int32)
            · replace h := (if_pos z5).symm.trans h
              refine aw_tableIn (pc := 1) (off := 73) 74 dX2_bindingOf_1 (by rw [z5]; decide) (by rw [z5]; decide) (by rw [z5]; decide) (by decide) ?_
              refine aw_iconst (pc := 74) (v := (4 : Int32)) dX2_bindingOf_74 (by decide) ?_
              exact ow_iret (pc := 75) h dX2_bindingOf_75 rfl
            · replace h := (if_neg z5).symm.trans h
              by_cases z6 : x0 = (8 : Int32)
              · replace h := (if_pos z6).symm.trans h
                refine aw_tableIn (pc := 1) (off := 73) 74 dX2_bindingOf_1 (by rw [z6]; decide) (by rw [z6]; decide) (by rw [z6]; decide) (by decide) ?_
                refine aw_iconst (pc := 74) (v := (4 : Int32)) dX2_bindingOf_74 (by decide) ?_
                exact ow_iret (pc := 75) h dX2_bindingOf_75 rfl
              · replace h := (if_neg z6).symm.trans h
                by_cases z7 : x0 = (9 : Int32)
                · replace h := (if_pos z7).symm.trans h
                  refine aw_tableIn (pc := 1) (off := 73) 74 dX2_bindingOf_1 (by rw [z7]; decide) (by rw [z7]; decide) (by rw [z7]; decide) (by decide) ?_
                  refine aw_iconst (pc := 74) (v := (4 : Int32)) dX2_bindingOf_74 (by decide) ?_
                  exact ow_iret (pc := 75) h dX2_bindingOf_75 rfl
                · replace h := (if_neg z7).symm.trans h
                  by_cases z8 : x0 = (10 : Int32)
                  · replace h := (if_pos z8).symm.trans h
                    refine aw_tableIn (pc := 1) (off := 73) 74 dX2_bindingOf_1 (by rw [z8]; decide) (by rw [z8]; decide) (by rw [z8]; decide) (by decide) ?_
                    refine aw_iconst (pc := 74) (v := (4 : Int32)) dX2_bindingOf_74 (by decide) ?_
                    exact ow_iret (pc := 75) h dX2_bindingOf_75 rfl
                  · replace h := (if_neg z8).symm.trans h
                    by_cases z9 : x0 = (11 : Int32)
                    · replace h := (if_pos z9).symm.trans h
                      refine aw_tableIn (pc := 1) (off := 75) 76 dX2_bindingOf_1 (by rw [z9]; decide) (by rw [z9]; decide) (by rw [z9]; decide) (by decide) ?_
                      refine aw_iconst (pc := 76) (v := (5 : Int32)) dX2_bindingOf_76 (by decide) ?_
                      exact ow_iret (pc := 77) h dX2_bindingOf_77 rfl
                    · replace h := (if_neg z9).symm.trans h
                      by_cases z10 : x0 = (12 : Int32)
                      · replace h := (if_pos z10).symm.trans h
                        refine aw_tableIn (pc := 1) (off := 75) 76 dX2_bindingOf_1 (by rw [z10]; decide) (by rw [z10]; decide) (by rw [z10]; decide) (by decide) ?_
                        refine aw_iconst (pc := 76) (v := (5 : Int32)) dX2_bindingOf_76 (by decide) ?_
                        exact ow_iret (pc := 77) h dX2_bindingOf_77 rfl
                      · replace h := (if_neg z10).symm.trans h
                        by_cases z11 : x0 = (13 : Int32)
                        · replace h := (if_pos z11).symm.trans h
                          refine aw_tableIn (pc := 1) (off := 77) 78 dX2_bindingOf_1 (by rw [z11]; decide) (by rw [z11]; decide) (by rw [z11]; decide) (by decide) ?_
                          refine aw_bipush (pc := 78) (v := (6 : Int32)) dX2_bindingOf_78 (by decide) ?_
                          exact ow_iret (pc := 80) h dX2_bindingOf_80 rfl
                        · replace h := (if_neg z11).symm.trans h
                          by_cases z12 : x0 = (14 : Int32)
                          · replace h := (if_pos z12).symm.trans h
                            refine aw_tableIn (pc := 1) (off := 77) 78 dX2_bindingOf_1 (by rw [z12]; decide) (by rw [z12]; decide) (by rw [z12]; decide) (by decide) ?_
                            refine aw_bipush (pc := 78) (v := (6 : Int32)) dX2_bindingOf_78 (by decide) ?_
                            exact ow_iret (pc := 80) h dX2_bindingOf_80 rfl
                          · replace h := (if_neg z12).symm.trans h
                            have wz0 : ¬ (x0).toInt = 2 := fun q => z0 (Int32.toInt_inj.mp q)
                            have wz1 : ¬ (x0).toInt = 3 := fun q => z1 (Int32.toInt_inj.mp q)
                            have wz2 : ¬ (x0).toInt = 4 := fun q => z2 (Int32.toInt_inj.mp q)
                            have wz3 : ¬ (x0).toInt = 5 := fun q => z3 (Int32.toInt_inj.mp q)
                            have wz4 : ¬ (x0).toInt = 6 := fun q => z4 (Int32.toInt_inj.mp q)
                            have wz5 : ¬ (x0).toInt = 7 := fun q => z5 (Int32.toInt_inj.mp q)
                            have wz6 : ¬ (x0).toInt = 8 := fun q => z6 (Int32.toInt_inj.mp q)
                            have wz7 : ¬ (x0).toInt = 9 := fun q => z7 (Int32.toInt_inj.mp q)
                            have wz8 : ¬ (x0).toInt = 10 := fun q => z8 (Int32.toInt_inj.mp q)
                            have wz9 : ¬ (x0).toInt = 11 := fun q => z9 (Int32.toInt_inj.mp q)
                            have wz10 : ¬ (x0).toInt = 12 := fun q => z10 (Int32.toInt_inj.mp q)
                            have wz11 : ¬ (x0).toInt = 13 := fun q => z11 (Int32.toInt_inj.mp q)
                            have wz12 : ¬ (x0).toInt = 14 := fun q => z12 (Int32.toInt_inj.mp q)
                            refine aw_tableOut (pc := 1) 81 dX2_bindingOf_1 (by omega) (by decide) ?_
                            refine aw_iconst (pc := 81) (v := (0 : Int32)) dX2_bindingOf_81 (by decide) ?_
                            exact ow_iret (pc := 82) h dX2_bindingOf_82 rfl
theorem c_X2_bindingOf {G : ah_G}   (x0 : Int32) (σ : ah_H) (r : Int32 × ah_H) (h : f_X2_bindingOf  x0 σ = some r) : AM G m_X2_bindingOf 0 0 0 [.int x0] σ (ah_ri r) := aw_enter (by decide) (Nat.le_of_ble_eq_true rfl) (c_X2_bindingOf_0 _ _ _ h)
def f_X2_mayNegate_0   (x0 : Nat) (σ : ah_H) : Option (Int32 × ah_H) :=
  (op_gI 2 3 σ x0).bind fun v1 => if v1 = 0 then ((op_rz (1 : Int32)).map fun q => (q, σ)) else ((op_gR 2 1 σ x0).bind fun v2 => (op_gI 2 3 σ x0).bind fun v3 => (op_aI σ v2 (v3 - (1 : Int32))).bind fun v4 => (f_X2_bindingOf v4 σ).bind fun r5 => (f_X2_bindingOf (4 : Int32) r5.2).bind fun r6 => if r6.1 < r5.1 then ((op_rz (0 : Int32)).map fun q => (q, r6.2)) else ((op_rz (1 : Int32)).map fun q => (q, r6.2)))
def f_X2_mayNegate  (x0 : Nat) (σ : ah_H) : Option (Int32 × ah_H) := op_ck 2 σ x0 (f_X2_mayNegate_0 x0 σ)
set_option maxRecDepth 100000 in
set_option maxHeartbeats 4000000 in
theorem c_X2_mayNegate_0 {G : ah_G}   : ∀ (x0 : Nat) (σ : ah_H) (r : Int32 × ah_H), f_X2_mayNegate_0   x0 σ = some r → AW G m_X2_mayNegate 1 0 0 0 [(0, .ref x0)] [] σ (ah_N G (ah_ri r)) := by
  intro x0 σ r h
  unfold f_X2_mayNegate_0 at h
  refine aw_aload_n (pc := 0) 0 dX2_mayNegate_0 rfl ?_
  obtain ⟨v1, e, h⟩ := op_bd h
  refine ow_gI (pc := 1) e dX2_mayNegate_1 fd_X2_25 rfl ?_
  refine aw_if_eq (pc := 4) 28 dX2_mayNegate_4 (by decide) (fun z => ?_) (fun z => ?_)
  · replace h := (if_pos z).symm.trans h
    refine aw_iconst (pc := 28) (v := (1 : Int32)) dX2_mayNegate_28 (by decide) ?_
    refine aw_goto (pc := 29) 33 dX2_mayNegate_29 (by decide) ?_
    exact ow_zret (pc := 33) h dX2_mayNegate_33 rfl
  · replace h := (if_neg z).symm.trans h
    refine aw_aload_n (pc := 7) 0 dX2_mayNegate_7 rfl ?_
    obtain ⟨v2, e, h⟩ := op_bd h
    refine ow_gR (pc := 8) e dX2_mayNegate_8 fd_X2_13 rfl ?_
    refine aw_aload_n (pc := 11) 0 dX2_mayNegate_11 rfl ?_
    obtain ⟨v3, e, h⟩ := op_bd h
    refine ow_gI (pc := 12) e dX2_mayNegate_12 fd_X2_25 rfl ?_
    refine aw_iconst (pc := 15) (v := (1 : Int32)) dX2_mayNegate_15 (by decide) ?_
    refine aw_isub (pc := 16) dX2_mayNegate_16 ?_
    obtain ⟨v4, e, h⟩ := op_bd h
    refine ow_aI (pc := 17) e dX2_mayNegate_17 ?_
    obtain ⟨r5, e, h⟩ := op_bd h
    refine ow_cSi (pc := 18) [.int v4] ((c_X2_bindingOf _ _ _ e).mono (by decide)) rfl dX2_mayNegate_18 cw_X2_95 rfl (Nat.le_of_ble_eq_true rfl) ?_
    refine aw_iconst (pc := 21) (v := (4 : Int32)) dX2_mayNegate_21 (by decide) ?_
    obtain ⟨r6, e, h⟩ := op_bd h
    refine ow_cSi (pc := 22) [.int (4 : Int32)] ((c_X2_bindingOf _ _ _ e).mono (by decide)) rfl dX2_mayNegate_22 cw_X2_95 rfl (Nat.le_of_ble_eq_true rfl) ?_
    refine aw_icmp_gt (pc := 25) 32 dX2_mayNegate_25 (by decide) (fun z => ?_) (fun z => ?_)
    · replace h := (if_pos z).symm.trans h
      refine aw_iconst (pc := 32) (v := (0 : Int32)) dX2_mayNegate_32 (by decide) ?_
      exact ow_zret (pc := 33) h dX2_mayNegate_33 rfl
    · replace h := (if_neg z).symm.trans h
      refine aw_iconst (pc := 28) (v := (1 : Int32)) dX2_mayNegate_28 (by decide) ?_
      refine aw_goto (pc := 29) 33 dX2_mayNegate_29 (by decide) ?_
      exact ow_zret (pc := 33) h dX2_mayNegate_33 rfl
theorem c_X2_mayNegate {G : ah_G}   (x0 : Nat) (σ : ah_H) (r : Int32 × ah_H) (h : f_X2_mayNegate  x0 σ = some r) : AM G m_X2_mayNegate 1 0 0 [.ref x0] σ (ah_ri r) := aw_enter (by decide) (Nat.le_of_ble_eq_true rfl) (c_X2_mayNegate_0 _ _ _ (op_ck_k h))
def f_X2_openBracket_0   (x0 : Nat) (σ : ah_H) : Option (Int32 × ah_H) :=
  (op_gI 2 4 σ x0).bind fun v1 => if (8 : Int32) ≤ v1 then (some ((2 : Int32), σ)) else ((op_gI 2 3 σ x0).bind fun v2 => if v2 < (72 : Int32) then ((op_gR 2 1 σ x0).bind fun v3 => (op_gI 2 3 σ x0).bind fun v4 => (op_sI σ v3 v4 (31 : Int32)).bind fun σ5 => (op_gI 2 3 σ5 x0).bind fun v6 => (op_pI 2 3 σ5 x0 (v6 + (1 : Int32))).bind fun σ7 => (op_gI 2 4 σ7 x0).bind fun v8 => (op_pI 2 4 σ7 x0 (v8 + (1 : Int32))).bind fun σ9 => some ((0 : Int32), σ9)) else (some ((2 : Int32), σ)))
def f_X2_openBracket  (x0 : Nat) (σ : ah_H) : Option (Int32 × ah_H) := op_ck 2 σ x0 (f_X2_openBracket_0 x0 σ)
set_option maxRecDepth 100000 in
set_option maxHeartbeats 4000000 in
theorem c_X2_openBracket_0 {G : ah_G}   : ∀ (x0 : Nat) (σ : ah_H) (r : Int32 × ah_H), f_X2_openBracket_0   x0 σ = some r → AW G m_X2_openBracket 0 0 0 0 [(0, .ref x0)] [] σ (ah_N G (ah_ri r)) := by
  intro x0 σ r h
  unfold f_X2_openBracket_0 at h
  refine aw_aload_n (pc := 0) 0 dX2_openBracket_0 rfl ?_
  obtain ⟨v1, e, h⟩ := op_bd h
  refine ow_gI (pc := 1) e dX2_openBracket_1 fd_X2_29 rfl ?_
  refine aw_bipush (pc := 4) (v := (8 : Int32)) dX2_openBracket_4 (by decide) ?_
  refine aw_icmp_ge (pc := 6) 18 dX2_openBracket_6 (by decide) (fun z => ?_) (fun z => ?_)
  · replace h := (if_pos z).symm.trans h
    refine aw_iconst (pc := 18) (v := (2 : Int32)) dX2_openBracket_18 (by decide) ?_
    exact ow_iret (pc := 19) h dX2_openBracket_19 rfl
  · replace h := (if_neg z).symm.trans h
    refine aw_aload_n (pc := 9) 0 dX2_openBracket_9 rfl ?_
    obtain ⟨v2, e, h⟩ := op_bd h
    refine ow_gI (pc := 10) e dX2_openBracket_10 fd_X2_25 rfl ?_
    refine aw_bipush (pc := 13) (v := (72 : Int32)) dX2_openBracket_13 (by decide) ?_
    refine aw_icmp_lt (pc := 15) 20 dX2_openBracket_15 (by decide) (fun z => ?_) (fun z => ?_)
    · replace h := (if_pos z).symm.trans h
      refine aw_aload_n (pc := 20) 0 dX2_openBracket_20 rfl ?_
      obtain ⟨v3, e, h⟩ := op_bd h
      refine ow_gR (pc := 21) e dX2_openBracket_21 fd_X2_13 rfl ?_
      refine aw_aload_n (pc := 24) 0 dX2_openBracket_24 rfl ?_
      obtain ⟨v4, e, h⟩ := op_bd h
      refine ow_gI (pc := 25) e dX2_openBracket_25 fd_X2_25 rfl ?_
      refine aw_bipush (pc := 28) (v := (31 : Int32)) dX2_openBracket_28 (by decide) ?_
      obtain ⟨σ5, e, h⟩ := op_bd h
      refine ow_sI (pc := 30) e dX2_openBracket_30 ?_
      refine aw_aload_n (pc := 31) 0 dX2_openBracket_31 rfl ?_
      refine aw_dup (pc := 32) dX2_openBracket_32 rfl ?_
      obtain ⟨v6, e, h⟩ := op_bd h
      refine ow_gI (pc := 33) e dX2_openBracket_33 fd_X2_25 rfl ?_
      refine aw_iconst (pc := 36) (v := (1 : Int32)) dX2_openBracket_36 (by decide) ?_
      refine aw_iadd (pc := 37) dX2_openBracket_37 ?_
      obtain ⟨σ7, e, h⟩ := op_bd h
      refine ow_pI (pc := 38) e dX2_openBracket_38 fd_X2_25 ?_
      refine aw_aload_n (pc := 41) 0 dX2_openBracket_41 rfl ?_
      refine aw_dup (pc := 42) dX2_openBracket_42 rfl ?_
      obtain ⟨v8, e, h⟩ := op_bd h
      refine ow_gI (pc := 43) e dX2_openBracket_43 fd_X2_29 rfl ?_
      refine aw_iconst (pc := 46) (v := (1 : Int32)) dX2_openBracket_46 (by decide) ?_
      refine aw_iadd (pc := 47) dX2_openBracket_47 ?_
      obtain ⟨σ9, e, h⟩ := op_bd h
      refine ow_pI (pc := 48) e dX2_openBracket_48 fd_X2_29 ?_
      refine aw_iconst (pc := 51) (v := (0 : Int32)) dX2_openBracket_51 (by decide) ?_
      exact ow_iret (pc := 52) h dX2_openBracket_52 rfl
    · replace h := (if_neg z).symm.trans h
      refine aw_iconst (pc := 18) (v := (2 : Int32)) dX2_openBracket_18 (by decide) ?_
      exact ow_iret (pc := 19) h dX2_openBracket_19 rfl
theorem c_X2_openBracket {G : ah_G}   (x0 : Nat) (σ : ah_H) (r : Int32 × ah_H) (h : f_X2_openBracket  x0 σ = some r) : AM G m_X2_openBracket 0 0 0 [.ref x0] σ (ah_ri r) := aw_enter (by decide) (Nat.le_of_ble_eq_true rfl) (c_X2_openBracket_0 _ _ _ (op_ck_k h))
def f_X8_isSign_0   (x0 : Nat) (x1 : Int32) (σ : ah_H) : Option (Int32 × ah_H) :=
  (op_gI 8 8 σ x0).bind fun v1 => if v1 = (4 : Int32) then ((op_gI 8 9 σ x0).bind fun v2 => if v2 = x1 then ((op_rz (1 : Int32)).map fun q => (q, σ)) else ((op_rz (0 : Int32)).map fun q => (q, σ))) else ((op_rz (0 : Int32)).map fun q => (q, σ))
def f_X8_isSign  (x0 : Nat) (x1 : Int32) (σ : ah_H) : Option (Int32 × ah_H) := op_ck 8 σ x0 (f_X8_isSign_0 x0 x1 σ)
set_option maxRecDepth 100000 in
set_option maxHeartbeats 4000000 in
theorem c_X8_isSign_0 {G : ah_G}   : ∀ (x0 : Nat) (x1 : Int32) (σ : ah_H) (r : Int32 × ah_H), f_X8_isSign_0   x0 x1 σ = some r → AW G m_X8_isSign 0 0 0 0 [(0, .ref x0), (1, .int x1)] [] σ (ah_N G (ah_ri r)) := by
  intro x0 x1 σ r h
  unfold f_X8_isSign_0 at h
  refine aw_aload_n (pc := 0) 0 dX8_isSign_0 rfl ?_
  obtain ⟨v1, e, h⟩ := op_bd h
  refine ow_gI (pc := 1) e dX8_isSign_1 fd_X8_62 rfl ?_
  refine aw_iconst (pc := 4) (v := (4 : Int32)) dX8_isSign_4 (by decide) ?_
  refine aw_icmp_ne (pc := 5) 20 dX8_isSign_5 (by decide) (fun z => ?_) (fun z => ?_)
  · replace h := (if_neg z).symm.trans h
    refine aw_iconst (pc := 20) (v := (0 : Int32)) dX8_isSign_20 (by decide) ?_
    exact ow_zret (pc := 21) h dX8_isSign_21 rfl
  · replace h := (if_pos z).symm.trans h
    refine aw_aload_n (pc := 8) 0 dX8_isSign_8 rfl ?_
    obtain ⟨v2, e, h⟩ := op_bd h
    refine ow_gI (pc := 9) e dX8_isSign_9 fd_X8_68 rfl ?_
    refine aw_iload_n (pc := 12) 1 dX8_isSign_12 rfl ?_
    refine aw_icmp_ne (pc := 13) 20 dX8_isSign_13 (by decide) (fun z => ?_) (fun z => ?_)
    · replace h := (if_neg z).symm.trans h
      refine aw_iconst (pc := 20) (v := (0 : Int32)) dX8_isSign_20 (by decide) ?_
      exact ow_zret (pc := 21) h dX8_isSign_21 rfl
    · replace h := (if_pos z).symm.trans h
      refine aw_iconst (pc := 16) (v := (1 : Int32)) dX8_isSign_16 (by decide) ?_
      refine aw_goto (pc := 17) 21 dX8_isSign_17 (by decide) ?_
      exact ow_zret (pc := 21) h dX8_isSign_21 rfl
theorem c_X8_isSign {G : ah_G}   (x0 : Nat) (x1 : Int32) (σ : ah_H) (r : Int32 × ah_H) (h : f_X8_isSign  x0 x1 σ = some r) : AM G m_X8_isSign 0 0 0 [.ref x0, .int x1] σ (ah_ri r) := aw_enter (by decide) (Nat.le_of_ble_eq_true rfl) (c_X8_isSign_0 _ _ _ _ (op_ck_k h))
def f_X2_readSide_83   (x0 : Nat) (σ : ah_H) : Option (Int32 × ah_H) :=
  (op_gR 2 0 σ x0).bind fun v1 => (op_gI 8 8 σ v1).bind fun v2 => if v2 = (2 : Int32) then ((op_gR 2 0 σ x0).bind fun v3 => (op_gI 8 9 σ v3).bind fun v4 => if v4 < (15 : Int32) then (some ((1 : Int32), σ)) else ((op_gR 2 0 σ x0).bind fun v5 => (op_gI 8 9 σ v5).bind fun v6 => if (20 : Int32) < v6 then (some ((1 : Int32), σ)) else ((op_gR 2 0 σ x0).bind fun v7 => (op_gI 8 9 σ v7).bind fun v8 => (f_X2_addLeaf x0 (1 : Int32) (v8 - (15 : Int32)) σ).bind fun r9 => some (r9.1, r9.2)))) else (some ((1 : Int32), σ))
def f_X2_readSide_0   (x0 : Nat) (σ : ah_H) : Option (Int32 × ah_H) :=
  (op_gR 2 0 σ x0).bind fun v1 => (op_gI 8 8 σ v1).bind fun v2 => if v2 = (3 : Int32) then ((op_gR 2 0 σ x0).bind fun v10 => (op_gI 8 9 σ v10).bind fun v11 => if v11 ≤ (9999 : Int32) then ((op_gR 2 0 σ x0).bind fun v12 => (op_gI 8 9 σ v12).bind fun v13 => (f_X2_addLeaf x0 (0 : Int32) v13 σ).bind fun r14 => some (r14.1, r14.2)) else (some ((2 : Int32), σ))) else ((op_gR 2 0 σ x0).bind fun v3 => (f_X8_isSign v3 (31 : Int32) σ).bind fun r4 => if r4.1 = 0 then ((op_gR 2 0 r4.2 x0).bind fun v5 => (f_X8_isKey v5 (23 : Int32) r4.2).bind fun r6 => if r6.1 = 0 then (f_X2_readSide_83 x0 r6.2) else ((f_X2_mayNegate x0 r6.2).bind fun r7 => if r7.1 = 0 then (f_X2_readSide_83 x0 r7.2) else ((f_X2_addWaiting x0 (4 : Int32) r7.2).bind fun r8 => some (r8.1, r8.2)))) else ((f_X2_openBracket x0 r4.2).bind fun r9 => some (r9.1, r9.2)))
def f_X2_readSide  (x0 : Nat) (σ : ah_H) : Option (Int32 × ah_H) := op_ck 2 σ x0 (f_X2_readSide_0 x0 σ)
set_option maxRecDepth 100000 in
set_option maxHeartbeats 4000000 in
theorem c_X2_readSide_83 {G : ah_G}   : ∀ (x0 : Nat) (σ : ah_H) (r : Int32 × ah_H), f_X2_readSide_83   x0 σ = some r → AW G m_X2_readSide 2 0 0 83 [(0, .ref x0)] [] σ (ah_N G (ah_ri r)) := by
  intro x0 σ r h
  unfold f_X2_readSide_83 at h
  refine aw_aload_n (pc := 83) 0 dX2_readSide_83 rfl ?_
  obtain ⟨v1, e, h⟩ := op_bd h
  refine ow_gR (pc := 84) e dX2_readSide_84 fd_X2_17 rfl ?_
  obtain ⟨v2, e, h⟩ := op_bd h
  refine ow_gI (pc := 87) e dX2_readSide_87 fd_X2_58 rfl ?_
  refine aw_iconst (pc := 90) (v := (2 : Int32)) dX2_readSide_90 (by decide) ?_
  refine aw_icmp_ne (pc := 91) 134 dX2_readSide_91 (by decide) (fun z => ?_) (fun z => ?_)
  · replace h := (if_neg z).symm.trans h
    refine aw_iconst (pc := 134) (v := (1 : Int32)) dX2_readSide_134 (by decide) ?_
    exact ow_iret (pc := 135) h dX2_readSide_135 rfl
  · replace h := (if_pos z).symm.trans h
    refine aw_aload_n (pc := 94) 0 dX2_readSide_94 rfl ?_
    obtain ⟨v3, e, h⟩ := op_bd h
    refine ow_gR (pc := 95) e dX2_readSide_95 fd_X2_17 rfl ?_
    obtain ⟨v4, e, h⟩ := op_bd h
    refine ow_gI (pc := 98) e dX2_readSide_98 fd_X2_61 rfl ?_
    refine aw_bipush (pc := 101) (v := (15 : Int32)) dX2_readSide_101 (by decide) ?_
    refine aw_icmp_lt (pc := 103) 134 dX2_readSide_103 (by decide) (fun z => ?_) (fun z => ?_)
    · replace h := (if_pos z).symm.trans h
      refine aw_iconst (pc := 134) (v := (1 : Int32)) dX2_readSide_134 (by decide) ?_
      exact ow_iret (pc := 135) h dX2_readSide_135 rfl
    · replace h := (if_neg z).symm.trans h
      refine aw_aload_n (pc := 106) 0 dX2_readSide_106 rfl ?_
      obtain ⟨v5, e, h⟩ := op_bd h
      refine ow_gR (pc := 107) e dX2_readSide_107 fd_X2_17 rfl ?_
      obtain ⟨v6, e, h⟩ := op_bd h
      refine ow_gI (pc := 110) e dX2_readSide_110 fd_X2_61 rfl ?_
      refine aw_bipush (pc := 113) (v := (20 : Int32)) dX2_readSide_113 (by decide) ?_
      refine aw_icmp_gt (pc := 115) 134 dX2_readSide_115 (by decide) (fun z => ?_) (fun z => ?_)
      · replace h := (if_pos z).symm.trans h
        refine aw_iconst (pc := 134) (v := (1 : Int32)) dX2_readSide_134 (by decide) ?_
        exact ow_iret (pc := 135) h dX2_readSide_135 rfl
      · replace h := (if_neg z).symm.trans h
        refine aw_aload_n (pc := 118) 0 dX2_readSide_118 rfl ?_
        refine aw_iconst (pc := 119) (v := (1 : Int32)) dX2_readSide_119 (by decide) ?_
        refine aw_aload_n (pc := 120) 0 dX2_readSide_120 rfl ?_
        obtain ⟨v7, e, h⟩ := op_bd h
        refine ow_gR (pc := 121) e dX2_readSide_121 fd_X2_17 rfl ?_
        obtain ⟨v8, e, h⟩ := op_bd h
        refine ow_gI (pc := 124) e dX2_readSide_124 fd_X2_61 rfl ?_
        refine aw_bipush (pc := 127) (v := (15 : Int32)) dX2_readSide_127 (by decide) ?_
        refine aw_isub (pc := 129) dX2_readSide_129 ?_
        obtain ⟨r9, e, h⟩ := op_bd h
        refine ow_cVi (pc := 130) [.int (1 : Int32), .int (v8 - (15 : Int32))] ((c_X2_addLeaf _ _ _ _ _ e).mono (by decide)) (op_ck_sh e) rfl dX2_readSide_130 cw_X2_66 rfl (Nat.le_of_ble_eq_true rfl) ?_
        exact ow_iret (pc := 133) h dX2_readSide_133 rfl
set_option maxRecDepth 100000 in
set_option maxHeartbeats 4000000 in
theorem c_X2_readSide_0 {G : ah_G}   : ∀ (x0 : Nat) (σ : ah_H) (r : Int32 × ah_H), f_X2_readSide_0   x0 σ = some r → AW G m_X2_readSide 2 0 0 0 [(0, .ref x0)] [] σ (ah_N G (ah_ri r)) := by
  intro x0 σ r h
  unfold f_X2_readSide_0 at h
  refine aw_aload_n (pc := 0) 0 dX2_readSide_0 rfl ?_
  obtain ⟨v1, e, h⟩ := op_bd h
  refine ow_gR (pc := 1) e dX2_readSide_1 fd_X2_17 rfl ?_
  obtain ⟨v2, e, h⟩ := op_bd h
  refine ow_gI (pc := 4) e dX2_readSide_4 fd_X2_58 rfl ?_
  refine aw_iconst (pc := 7) (v := (3 : Int32)) dX2_readSide_7 (by decide) ?_
  refine aw_icmp_ne (pc := 8) 41 dX2_readSide_8 (by decide) (fun z => ?_) (fun z => ?_)
  · replace h := (if_neg z).symm.trans h
    refine aw_aload_n (pc := 41) 0 dX2_readSide_41 rfl ?_
    obtain ⟨v3, e, h⟩ := op_bd h
    refine ow_gR (pc := 42) e dX2_readSide_42 fd_X2_17 rfl ?_
    refine aw_bipush (pc := 45) (v := (31 : Int32)) dX2_readSide_45 (by decide) ?_
    obtain ⟨r4, e, h⟩ := op_bd h
    refine ow_cVi (pc := 47) [.int (31 : Int32)] ((c_X8_isSign _ _ _ _ e).mono (by decide)) (op_ck_sh e) rfl dX2_readSide_47 cw_X2_70 rfl (Nat.le_of_ble_eq_true rfl) ?_
    refine aw_if_eq (pc := 50) 58 dX2_readSide_50 (by decide) (fun z => ?_) (fun z => ?_)
    · replace h := (if_pos z).symm.trans h
      refine aw_aload_n (pc := 58) 0 dX2_readSide_58 rfl ?_
      obtain ⟨v5, e, h⟩ := op_bd h
      refine ow_gR (pc := 59) e dX2_readSide_59 fd_X2_17 rfl ?_
      refine aw_bipush (pc := 62) (v := (23 : Int32)) dX2_readSide_62 (by decide) ?_
      obtain ⟨r6, e, h⟩ := op_bd h
      refine ow_cVi (pc := 64) [.int (23 : Int32)] ((c_X8_isKey _ _ _ _ e).mono (by decide)) (op_ck_sh e) rfl dX2_readSide_64 cw_X2_77 rfl (Nat.le_of_ble_eq_true rfl) ?_
      refine aw_if_eq (pc := 67) 83 dX2_readSide_67 (by decide) (fun z => ?_) (fun z => ?_)
      · replace h := (if_pos z).symm.trans h
        exact c_X2_readSide_83  _ _ _ h
      · replace h := (if_neg z).symm.trans h
        refine aw_aload_n (pc := 70) 0 dX2_readSide_70 rfl ?_
        obtain ⟨r7, e, h⟩ := op_bd h
        refine ow_cVi (pc := 71) [] ((c_X2_mayNegate _ _ _ e).mono (by decide)) (op_ck_sh e) rfl dX2_readSide_71 cw_X2_80 rfl (Nat.le_of_ble_eq_true rfl) ?_
        refine aw_if_eq (pc := 74) 83 dX2_readSide_74 (by decide) (fun z => ?_) (fun z => ?_)
        · replace h := (if_pos z).symm.trans h
          exact c_X2_readSide_83  _ _ _ h
        · replace h := (if_neg z).symm.trans h
          refine aw_aload_n (pc := 77) 0 dX2_readSide_77 rfl ?_
          refine aw_iconst (pc := 78) (v := (4 : Int32)) dX2_readSide_78 (by decide) ?_
          obtain ⟨r8, e, h⟩ := op_bd h
          refine ow_cVi (pc := 79) [.int (4 : Int32)] ((c_X2_addWaiting _ _ _ _ e).mono (by decide)) (op_ck_sh e) rfl dX2_readSide_79 cw_X2_84 rfl (Nat.le_of_ble_eq_true rfl) ?_
          exact ow_iret (pc := 82) h dX2_readSide_82 rfl
    · replace h := (if_neg z).symm.trans h
      refine aw_aload_n (pc := 53) 0 dX2_readSide_53 rfl ?_
      obtain ⟨r9, e, h⟩ := op_bd h
      refine ow_cVi (pc := 54) [] ((c_X2_openBracket _ _ _ e).mono (by decide)) (op_ck_sh e) rfl dX2_readSide_54 cw_X2_74 rfl (Nat.le_of_ble_eq_true rfl) ?_
      exact ow_iret (pc := 57) h dX2_readSide_57 rfl
  · replace h := (if_pos z).symm.trans h
    refine aw_aload_n (pc := 11) 0 dX2_readSide_11 rfl ?_
    obtain ⟨v10, e, h⟩ := op_bd h
    refine ow_gR (pc := 12) e dX2_readSide_12 fd_X2_17 rfl ?_
    obtain ⟨v11, e, h⟩ := op_bd h
    refine ow_gI (pc := 15) e dX2_readSide_15 fd_X2_61 rfl ?_
    refine aw_sipush (pc := 18) (v := (9999 : Int32)) dX2_readSide_18 (by decide) ?_
    refine aw_icmp_le (pc := 21) 28 dX2_readSide_21 (by decide) (fun z => ?_) (fun z => ?_)
    · replace h := (if_pos z).symm.trans h
      refine aw_aload_n (pc := 28) 0 dX2_readSide_28 rfl ?_
      refine aw_iconst (pc := 29) (v := (0 : Int32)) dX2_readSide_29 (by decide) ?_
      refine aw_aload_n (pc := 30) 0 dX2_readSide_30 rfl ?_
      obtain ⟨v12, e, h⟩ := op_bd h
      refine ow_gR (pc := 31) e dX2_readSide_31 fd_X2_17 rfl ?_
      obtain ⟨v13, e, h⟩ := op_bd h
      refine ow_gI (pc := 34) e dX2_readSide_34 fd_X2_61 rfl ?_
      obtain ⟨r14, e, h⟩ := op_bd h
      refine ow_cVi (pc := 37) [.int (0 : Int32), .int v13] ((c_X2_addLeaf _ _ _ _ _ e).mono (by decide)) (op_ck_sh e) rfl dX2_readSide_37 cw_X2_66 rfl (Nat.le_of_ble_eq_true rfl) ?_
      exact ow_iret (pc := 40) h dX2_readSide_40 rfl
    · replace h := (if_neg z).symm.trans h
      refine aw_iconst (pc := 24) (v := (2 : Int32)) dX2_readSide_24 (by decide) ?_
      refine aw_goto (pc := 25) 40 dX2_readSide_25 (by decide) ?_
      exact ow_iret (pc := 40) h dX2_readSide_40 rfl
theorem c_X2_readSide {G : ah_G}   (x0 : Nat) (σ : ah_H) (r : Int32 × ah_H) (h : f_X2_readSide  x0 σ = some r) : AM G m_X2_readSide 2 0 0 [.ref x0] σ (ah_ri r) := aw_enter (by decide) (Nat.le_of_ble_eq_true rfl) (c_X2_readSide_0 _ _ _ (op_ck_k h))
def f_X2_joiningSign_0   (x0 : Nat) (σ : ah_H) : Option (Int32 × ah_H) :=
  (op_gR 2 0 σ x0).bind fun v1 => (f_X8_isKey v1 (21 : Int32) σ).bind fun r2 => if r2.1 = 0 then ((op_gR 2 0 r2.2 x0).bind fun v3 => (f_X8_isKey v3 (22 : Int32) r2.2).bind fun r4 => if r4.1 = 0 then ((op_gR 2 0 r4.2 x0).bind fun v5 => (op_gI 8 8 r4.2 v5).bind fun v6 => if v6 = (4 : Int32) then ((op_gR 2 0 r4.2 x0).bind fun v7 => (op_gI 8 9 r4.2 v7).bind fun v8 => some (v8, r4.2)) else (some ((-1 : Int32), r4.2))) else (some ((3 : Int32), r4.2))) else (some ((2 : Int32), r2.2))
def f_X2_joiningSign  (x0 : Nat) (σ : ah_H) : Option (Int32 × ah_H) := op_ck 2 σ x0 (f_X2_joiningSign_0 x0 σ)
set_option maxRecDepth 100000 in
set_option maxHeartbeats 4000000 in
theorem c_X2_joiningSign_0 {G : ah_G}   : ∀ (x0 : Nat) (σ : ah_H) (r : Int32 × ah_H), f_X2_joiningSign_0   x0 σ = some r → AW G m_X2_joiningSign 1 0 0 0 [(0, .ref x0)] [] σ (ah_N G (ah_ri r)) := by
  intro x0 σ r h
  unfold f_X2_joiningSign_0 at h
  refine aw_aload_n (pc := 0) 0 dX2_joiningSign_0 rfl ?_
  obtain ⟨v1, e, h⟩ := op_bd h
  refine ow_gR (pc := 1) e dX2_joiningSign_1 fd_X2_17 rfl ?_
  refine aw_bipush (pc := 4) (v := (21 : Int32)) dX2_joiningSign_4 (by decide) ?_
  obtain ⟨r2, e, h⟩ := op_bd h
  refine ow_cVi (pc := 6) [.int (21 : Int32)] ((c_X8_isKey _ _ _ _ e).mono (by decide)) (op_ck_sh e) rfl dX2_joiningSign_6 cw_X2_77 rfl (Nat.le_of_ble_eq_true rfl) ?_
  refine aw_if_eq (pc := 9) 14 dX2_joiningSign_9 (by decide) (fun z => ?_) (fun z => ?_)
  · replace h := (if_pos z).symm.trans h
    refine aw_aload_n (pc := 14) 0 dX2_joiningSign_14 rfl ?_
    obtain ⟨v3, e, h⟩ := op_bd h
    refine ow_gR (pc := 15) e dX2_joiningSign_15 fd_X2_17 rfl ?_
    refine aw_bipush (pc := 18) (v := (22 : Int32)) dX2_joiningSign_18 (by decide) ?_
    obtain ⟨r4, e, h⟩ := op_bd h
    refine ow_cVi (pc := 20) [.int (22 : Int32)] ((c_X8_isKey _ _ _ _ e).mono (by decide)) (op_ck_sh e) rfl dX2_joiningSign_20 cw_X2_77 rfl (Nat.le_of_ble_eq_true rfl) ?_
    refine aw_if_eq (pc := 23) 28 dX2_joiningSign_23 (by decide) (fun z => ?_) (fun z => ?_)
    · replace h := (if_pos z).symm.trans h
      refine aw_aload_n (pc := 28) 0 dX2_joiningSign_28 rfl ?_
      obtain ⟨v5, e, h⟩ := op_bd h
      refine ow_gR (pc := 29) e dX2_joiningSign_29 fd_X2_17 rfl ?_
      obtain ⟨v6, e, h⟩ := op_bd h
      refine ow_gI (pc := 32) e dX2_joiningSign_32 fd_X2_58 rfl ?_
      refine aw_iconst (pc := 35) (v := (4 : Int32)) dX2_joiningSign_35 (by decide) ?_
      refine aw_icmp_ne (pc := 36) 49 dX2_joiningSign_36 (by decide) (fun z => ?_) (fun z => ?_)
      · replace h := (if_neg z).symm.trans h
        refine aw_iconst (pc := 49) (v := (-1 : Int32)) dX2_joiningSign_49 (by decide) ?_
        exact ow_iret (pc := 50) h dX2_joiningSign_50 rfl
      · replace h := (if_pos z).symm.trans h
        refine aw_aload_n (pc := 39) 0 dX2_joiningSign_39 rfl ?_
        obtain ⟨v7, e, h⟩ := op_bd h
        refine ow_gR (pc := 40) e dX2_joiningSign_40 fd_X2_17 rfl ?_
        obtain ⟨v8, e, h⟩ := op_bd h
        refine ow_gI (pc := 43) e dX2_joiningSign_43 fd_X2_61 rfl ?_
        refine aw_goto (pc := 46) 50 dX2_joiningSign_46 (by decide) ?_
        exact ow_iret (pc := 50) h dX2_joiningSign_50 rfl
    · replace h := (if_neg z).symm.trans h
      refine aw_iconst (pc := 26) (v := (3 : Int32)) dX2_joiningSign_26 (by decide) ?_
      exact ow_iret (pc := 27) h dX2_joiningSign_27 rfl
  · replace h := (if_neg z).symm.trans h
    refine aw_iconst (pc := 12) (v := (2 : Int32)) dX2_joiningSign_12 (by decide) ?_
    exact ow_iret (pc := 13) h dX2_joiningSign_13 rfl
theorem c_X2_joiningSign {G : ah_G}   (x0 : Nat) (σ : ah_H) (r : Int32 × ah_H) (h : f_X2_joiningSign  x0 σ = some r) : AM G m_X2_joiningSign 1 0 0 [.ref x0] σ (ah_ri r) := aw_enter (by decide) (Nat.le_of_ble_eq_true rfl) (c_X2_joiningSign_0 _ _ _ (op_ck_k h))
def f_X2_release_0_b  (K0 : Nat → Int32 → ah_H → Option (ah_H)) (x0 : Nat) (x1 : Int32) (σ : ah_H) : Option (ah_H) :=
  (op_gI 2 3 σ x0).bind fun v1 => if v1 ≤ 0 then (some σ) else ((op_gR 2 1 σ x0).bind fun v2 => (op_gI 2 3 σ x0).bind fun v3 => (op_aI σ v2 (v3 - (1 : Int32))).bind fun v4 => (f_X2_bindingOf v4 σ).bind fun r5 => if r5.1 < x1 then (some r5.2) else ((op_gI 2 3 r5.2 x0).bind fun v6 => (op_pI 2 3 r5.2 x0 (v6 - (1 : Int32))).bind fun σ7 => (op_gR 2 2 σ7 x0).bind fun v8 => (op_gR 2 1 σ7 x0).bind fun v9 => (op_gI 2 3 σ7 x0).bind fun v10 => (op_aI σ7 v9 v10).bind fun v11 => (f_X4_append v8 v11 (0 : Int32) σ7).bind fun r12 => K0 x0 x1 r12))
def f_X2_release_0   : Nat → Nat → Int32 → ah_H → Option (ah_H)
  | 0, _, _, _ => none
  | n + 1, x0, x1, σ => f_X2_release_0_b (f_X2_release_0 n) x0 x1 σ
def f_X2_release  (x0 : Nat) (x1 : Int32) (σ : ah_H) : Option (ah_H) := op_ck 2 σ x0 (f_X2_release_0 5000 x0 x1 σ)
set_option maxRecDepth 100000 in
set_option maxHeartbeats 4000000 in
theorem c_X2_release_0_b {G : ah_G}  (K0 : Nat → Int32 → ah_H → Option (ah_H)) (hK0 : ∀ (x0 : Nat) (x1 : Int32) (σ : ah_H) (r : ah_H), K0 x0 x1 σ = some r → AW G m_X2_release 1 0 0 0 [(0, .ref x0), (1, .int x1)] [] σ (ah_N G (ah_rv r))) : ∀ (x0 : Nat) (x1 : Int32) (σ : ah_H) (r : ah_H), f_X2_release_0_b  K0 x0 x1 σ = some r → AW G m_X2_release 1 0 0 0 [(0, .ref x0), (1, .int x1)] [] σ (ah_N G (ah_rv r)) := by
  intro x0 x1 σ r h
  unfold f_X2_release_0_b at h
  refine aw_aload_n (pc := 0) 0 dX2_release_0 rfl ?_
  obtain ⟨v1, e, h⟩ := op_bd h
  refine ow_gI (pc := 1) e dX2_release_1 fd_X2_25 rfl ?_
  refine aw_if_le (pc := 4) 55 dX2_release_4 (by decide) (fun z => ?_) (fun z => ?_)
  · replace h := (if_pos z).symm.trans h
    exact ow_vret (pc := 55) h dX2_release_55 rfl
  · replace h := (if_neg z).symm.trans h
    refine aw_aload_n (pc := 7) 0 dX2_release_7 rfl ?_
    obtain ⟨v2, e, h⟩ := op_bd h
    refine ow_gR (pc := 8) e dX2_release_8 fd_X2_13 rfl ?_
    refine aw_aload_n (pc := 11) 0 dX2_release_11 rfl ?_
    obtain ⟨v3, e, h⟩ := op_bd h
    refine ow_gI (pc := 12) e dX2_release_12 fd_X2_25 rfl ?_
    refine aw_iconst (pc := 15) (v := (1 : Int32)) dX2_release_15 (by decide) ?_
    refine aw_isub (pc := 16) dX2_release_16 ?_
    obtain ⟨v4, e, h⟩ := op_bd h
    refine ow_aI (pc := 17) e dX2_release_17 ?_
    obtain ⟨r5, e, h⟩ := op_bd h
    refine ow_cSi (pc := 18) [.int v4] ((c_X2_bindingOf _ _ _ e).mono (by decide)) rfl dX2_release_18 cw_X2_95 rfl (Nat.le_of_ble_eq_true rfl) ?_
    refine aw_iload_n (pc := 21) 1 dX2_release_21 rfl ?_
    refine aw_icmp_lt (pc := 22) 55 dX2_release_22 (by decide) (fun z => ?_) (fun z => ?_)
    · replace h := (if_pos z).symm.trans h
      exact ow_vret (pc := 55) h dX2_release_55 rfl
    · replace h := (if_neg z).symm.trans h
      refine aw_aload_n (pc := 25) 0 dX2_release_25 rfl ?_
      refine aw_dup (pc := 26) dX2_release_26 rfl ?_
      obtain ⟨v6, e, h⟩ := op_bd h
      refine ow_gI (pc := 27) e dX2_release_27 fd_X2_25 rfl ?_
      refine aw_iconst (pc := 30) (v := (1 : Int32)) dX2_release_30 (by decide) ?_
      refine aw_isub (pc := 31) dX2_release_31 ?_
      obtain ⟨σ7, e, h⟩ := op_bd h
      refine ow_pI (pc := 32) e dX2_release_32 fd_X2_25 ?_
      refine aw_aload_n (pc := 35) 0 dX2_release_35 rfl ?_
      obtain ⟨v8, e, h⟩ := op_bd h
      refine ow_gR (pc := 36) e dX2_release_36 fd_X2_21 rfl ?_
      refine aw_aload_n (pc := 39) 0 dX2_release_39 rfl ?_
      obtain ⟨v9, e, h⟩ := op_bd h
      refine ow_gR (pc := 40) e dX2_release_40 fd_X2_13 rfl ?_
      refine aw_aload_n (pc := 43) 0 dX2_release_43 rfl ?_
      obtain ⟨v10, e, h⟩ := op_bd h
      refine ow_gI (pc := 44) e dX2_release_44 fd_X2_25 rfl ?_
      obtain ⟨v11, e, h⟩ := op_bd h
      refine ow_aI (pc := 47) e dX2_release_47 ?_
      refine aw_iconst (pc := 48) (v := (0 : Int32)) dX2_release_48 (by decide) ?_
      obtain ⟨r12, e, h⟩ := op_bd h
      refine ow_cVv (pc := 49) [.int v11, .int (0 : Int32)] ((c_X4_append _ _ _ _ _ e).mono (by decide)) (op_ck_sh e) rfl dX2_release_49 cw_X2_91 rfl (Nat.le_of_ble_eq_true rfl) ?_
      refine aw_goto (pc := 52) 0 dX2_release_52 (by decide) ?_
      exact hK0 _ _ _ _ h
theorem c_X2_release_0 {G : ah_G}   : ∀ (n : Nat) (x0 : Nat) (x1 : Int32) (σ : ah_H) (r : ah_H), f_X2_release_0   n x0 x1 σ = some r → AW G m_X2_release 1 0 0 0 [(0, .ref x0), (1, .int x1)] [] σ (ah_N G (ah_rv r)) := by
  intro n
  induction n with
  | zero => intro x0 x1 σ r h; cases h
  | succ n ih => intro x0 x1 σ r h; exact c_X2_release_0_b   _ ih x0 x1 σ r h
theorem c_X2_release {G : ah_G}   (x0 : Nat) (x1 : Int32) (σ : ah_H) (r : ah_H) (h : f_X2_release  x0 x1 σ = some r) : AM G m_X2_release 1 0 0 [.ref x0, .int x1] σ (ah_rv r) := aw_enter (by decide) (Nat.le_of_ble_eq_true rfl) (c_X2_release_0 _ _ _ _ _ (op_ck_k h))
def f_X2_readSign_130   (x0 : Nat) (x1 : Int32) (x2 : Int32) (σ : ah_H) : Option (Int32 × ah_H) :=
  (f_X2_release x0 x2 σ).bind fun r1 => (f_X2_addWaiting x0 x1 r1).bind fun r2 => some (r2.1, r2.2)
def f_X2_readSign_77   (x0 : Nat) (σ : ah_H) : Option (Int32 × ah_H) :=
  (f_X2_joiningSign x0 σ).bind fun r1 => (f_X2_bindingOf r1.1 r1.2).bind fun r2 => if r2.1 = 0 then (some ((1 : Int32), r2.2)) else (if r2.1 = (4 : Int32) then ((f_X2_release x0 (5 : Int32) r2.2).bind fun r3 => (op_gI 2 3 r3 x0).bind fun v4 => if v4 ≤ 0 then (f_X2_readSign_130 x0 r1.1 r2.1 r3) else ((op_gR 2 1 r3 x0).bind fun v5 => (op_gI 2 3 r3 x0).bind fun v6 => (op_aI r3 v5 (v6 - (1 : Int32))).bind fun v7 => (f_X2_bindingOf v7 r3).bind fun r8 => if r8.1 = (4 : Int32) then (some ((1 : Int32), r8.2)) else (f_X2_readSign_130 x0 r1.1 r2.1 r8.2))) else (f_X2_readSign_130 x0 r1.1 r2.1 r2.2))
def f_X2_readSign_31   (x0 : Nat) (σ : ah_H) : Option (Int32 × ah_H) :=
  (op_gR 2 0 σ x0).bind fun v1 => (f_X8_isSign v1 (32 : Int32) σ).bind fun r2 => if r2.1 = 0 then (f_X2_readSign_77 x0 r2.2) else ((op_gI 2 4 r2.2 x0).bind fun v3 => if v3 ≤ 0 then (f_X2_readSign_77 x0 r2.2) else ((f_X2_release x0 (1 : Int32) r2.2).bind fun r4 => (op_gI 2 3 r4 x0).bind fun v5 => (op_pI 2 3 r4 x0 (v5 - (1 : Int32))).bind fun σ6 => (op_gI 2 4 σ6 x0).bind fun v7 => (op_pI 2 4 σ6 x0 (v7 - (1 : Int32))).bind fun σ8 => some ((0 : Int32), σ8)))
def f_X2_readSign_0   (x0 : Nat) (σ : ah_H) : Option (Int32 × ah_H) :=
  (op_gR 2 0 σ x0).bind fun v1 => (f_X8_isSign v1 (30 : Int32) σ).bind fun r2 => if r2.1 = 0 then (f_X2_readSign_31 x0 r2.2) else ((op_gI 2 4 r2.2 x0).bind fun v3 => if v3 = 0 then ((f_X2_release x0 (1 : Int32) r2.2).bind fun r4 => (op_pZ 2 6 r4 x0 (1 : Int32)).bind fun σ5 => some ((0 : Int32), σ5)) else (f_X2_readSign_31 x0 r2.2))
def f_X2_readSign  (x0 : Nat) (σ : ah_H) : Option (Int32 × ah_H) := op_ck 2 σ x0 (f_X2_readSign_0 x0 σ)
set_option maxRecDepth 100000 in
set_option maxHeartbeats 4000000 in
theorem c_X2_readSign_130 {G : ah_G}   : ∀ (x0 : Nat) (x1 : Int32) (x2 : Int32) (σ : ah_H) (r : Int32 × ah_H), f_X2_readSign_130   x0 x1 x2 σ = some r → AW G m_X2_readSign 2 0 0 130 [(0, .ref x0), (1, .int x1), (2, .int x2)] [] σ (ah_N G (ah_ri r)) := by
  intro x0 x1 x2 σ r h
  unfold f_X2_readSign_130 at h
  refine aw_aload_n (pc := 130) 0 dX2_readSign_130 rfl ?_
  refine aw_iload_n (pc := 131) 2 dX2_readSign_131 rfl ?_
  obtain ⟨r1, e, h⟩ := op_bd h
  refine ow_cVv (pc := 132) [.int x2] ((c_X2_release _ _ _ _ e).mono (by decide)) (op_ck_sh e) rfl dX2_readSign_132 cw_X2_98 rfl (Nat.le_of_ble_eq_true rfl) ?_
  refine aw_aload_n (pc := 135) 0 dX2_readSign_135 rfl ?_
  refine aw_iload_n (pc := 136) 1 dX2_readSign_136 rfl ?_
  obtain ⟨r2, e, h⟩ := op_bd h
  refine ow_cVi (pc := 137) [.int x1] ((c_X2_addWaiting _ _ _ _ e).mono (by decide)) (op_ck_sh e) rfl dX2_readSign_137 cw_X2_84 rfl (Nat.le_of_ble_eq_true rfl) ?_
  exact ow_iret (pc := 140) h dX2_readSign_140 rfl
set_option maxRecDepth 100000 in
set_option maxHeartbeats 4000000 in
theorem c_X2_readSign_77 {G : ah_G}   : ∀ (x0 : Nat) (σ : ah_H) (r : Int32 × ah_H), f_X2_readSign_77   x0 σ = some r → AW G m_X2_readSign 2 0 0 77 [(0, .ref x0)] [] σ (ah_N G (ah_ri r)) := by
  intro x0 σ r h
  unfold f_X2_readSign_77 at h
  refine aw_aload_n (pc := 77) 0 dX2_readSign_77 rfl ?_
  obtain ⟨r1, e, h⟩ := op_bd h
  refine ow_cVi (pc := 78) [] ((c_X2_joiningSign _ _ _ e).mono (by decide)) (op_ck_sh e) rfl dX2_readSign_78 cw_X2_101 rfl (Nat.le_of_ble_eq_true rfl) ?_
  refine aw_istore_n (pc := 81) [(1, .int r1.1), (0, .ref x0)] dX2_readSign_81 rfl (by decide) rfl ?_
  refine aw_iload_n (pc := 82) 0 dX2_readSign_82 rfl ?_
  obtain ⟨r2, e, h⟩ := op_bd h
  refine ow_cSi (pc := 83) [.int r1.1] ((c_X2_bindingOf _ _ _ e).mono (by decide)) rfl dX2_readSign_83 cw_X2_95 rfl (Nat.le_of_ble_eq_true rfl) ?_
  refine aw_istore_n (pc := 86) [(2, .int r2.1), (1, .int r1.1), (0, .ref x0)] dX2_readSign_86 rfl (by decide) rfl ?_
  refine aw_iload_n (pc := 87) 0 dX2_readSign_87 rfl ?_
  refine aw_if_ne (pc := 88) 93 dX2_readSign_88 (by decide) (fun z => ?_) (fun z => ?_)
  · replace h := (if_neg z).symm.trans h
    refine aw_iload_n (pc := 93) 0 dX2_readSign_93 rfl ?_
    refine aw_iconst (pc := 94) (v := (4 : Int32)) dX2_readSign_94 (by decide) ?_
    refine aw_icmp_ne (pc := 95) 130 dX2_readSign_95 (by decide) (fun z => ?_) (fun z => ?_)
    · replace h := (if_neg z).symm.trans h
      refine aw_sub [2, 1, 0] rfl ?_
      exact c_X2_readSign_130  _ _ _ _ _ h
    · replace h := (if_pos z).symm.trans h
      refine aw_aload_n (pc := 98) 2 dX2_readSign_98 rfl ?_
      refine aw_iconst (pc := 99) (v := (5 : Int32)) dX2_readSign_99 (by decide) ?_
      obtain ⟨r3, e, h⟩ := op_bd h
      refine ow_cVv (pc := 100) [.int (5 : Int32)] ((c_X2_release _ _ _ _ e).mono (by decide)) (op_ck_sh e) rfl dX2_readSign_100 cw_X2_98 rfl (Nat.le_of_ble_eq_true rfl) ?_
      refine aw_aload_n (pc := 103) 2 dX2_readSign_103 rfl ?_
      obtain ⟨v4, e, h⟩ := op_bd h
      refine ow_gI (pc := 104) e dX2_readSign_104 fd_X2_25 rfl ?_
      refine aw_if_le (pc := 107) 130 dX2_readSign_107 (by decide) (fun z => ?_) (fun z => ?_)
      · replace h := (if_pos z).symm.trans h
        refine aw_sub [2, 1, 0] rfl ?_
        exact c_X2_readSign_130  _ _ _ _ _ h
      · replace h := (if_neg z).symm.trans h
        refine aw_aload_n (pc := 110) 2 dX2_readSign_110 rfl ?_
        obtain ⟨v5, e, h⟩ := op_bd h
        refine ow_gR (pc := 111) e dX2_readSign_111 fd_X2_13 rfl ?_
        refine aw_aload_n (pc := 114) 2 dX2_readSign_114 rfl ?_
        obtain ⟨v6, e, h⟩ := op_bd h
        refine ow_gI (pc := 115) e dX2_readSign_115 fd_X2_25 rfl ?_
        refine aw_iconst (pc := 118) (v := (1 : Int32)) dX2_readSign_118 (by decide) ?_
        refine aw_isub (pc := 119) dX2_readSign_119 ?_
        obtain ⟨v7, e, h⟩ := op_bd h
        refine ow_aI (pc := 120) e dX2_readSign_120 ?_
        obtain ⟨r8, e, h⟩ := op_bd h
        refine ow_cSi (pc := 121) [.int v7] ((c_X2_bindingOf _ _ _ e).mono (by decide)) rfl dX2_readSign_121 cw_X2_95 rfl (Nat.le_of_ble_eq_true rfl) ?_
        refine aw_iconst (pc := 124) (v := (4 : Int32)) dX2_readSign_124 (by decide) ?_
        refine aw_icmp_ne (pc := 125) 130 dX2_readSign_125 (by decide) (fun z => ?_) (fun z => ?_)
        · replace h := (if_neg z).symm.trans h
          refine aw_sub [2, 1, 0] rfl ?_
          exact c_X2_readSign_130  _ _ _ _ _ h
        · replace h := (if_pos z).symm.trans h
          refine aw_iconst (pc := 128) (v := (1 : Int32)) dX2_readSign_128 (by decide) ?_
          exact ow_iret (pc := 129) h dX2_readSign_129 rfl
  · replace h := (if_pos z).symm.trans h
    refine aw_iconst (pc := 91) (v := (1 : Int32)) dX2_readSign_91 (by decide) ?_
    exact ow_iret (pc := 92) h dX2_readSign_92 rfl
set_option maxRecDepth 100000 in
set_option maxHeartbeats 4000000 in
theorem c_X2_readSign_31 {G : ah_G}   : ∀ (x0 : Nat) (σ : ah_H) (r : Int32 × ah_H), f_X2_readSign_31   x0 σ = some r → AW G m_X2_readSign 2 0 0 31 [(0, .ref x0)] [] σ (ah_N G (ah_ri r)) := by
  intro x0 σ r h
  unfold f_X2_readSign_31 at h
  refine aw_aload_n (pc := 31) 0 dX2_readSign_31 rfl ?_
  obtain ⟨v1, e, h⟩ := op_bd h
  refine ow_gR (pc := 32) e dX2_readSign_32 fd_X2_17 rfl ?_
  refine aw_bipush (pc := 35) (v := (32 : Int32)) dX2_readSign_35 (by decide) ?_
  obtain ⟨r2, e, h⟩ := op_bd h
  refine ow_cVi (pc := 37) [.int (32 : Int32)] ((c_X8_isSign _ _ _ _ e).mono (by decide)) (op_ck_sh e) rfl dX2_readSign_37 cw_X2_70 rfl (Nat.le_of_ble_eq_true rfl) ?_
  refine aw_if_eq (pc := 40) 77 dX2_readSign_40 (by decide) (fun z => ?_) (fun z => ?_)
  · replace h := (if_pos z).symm.trans h
    exact c_X2_readSign_77  _ _ _ h
  · replace h := (if_neg z).symm.trans h
    refine aw_aload_n (pc := 43) 0 dX2_readSign_43 rfl ?_
    obtain ⟨v3, e, h⟩ := op_bd h
    refine ow_gI (pc := 44) e dX2_readSign_44 fd_X2_29 rfl ?_
    refine aw_if_le (pc := 47) 77 dX2_readSign_47 (by decide) (fun z => ?_) (fun z => ?_)
    · replace h := (if_pos z).symm.trans h
      exact c_X2_readSign_77  _ _ _ h
    · replace h := (if_neg z).symm.trans h
      refine aw_aload_n (pc := 50) 0 dX2_readSign_50 rfl ?_
      refine aw_iconst (pc := 51) (v := (1 : Int32)) dX2_readSign_51 (by decide) ?_
      obtain ⟨r4, e, h⟩ := op_bd h
      refine ow_cVv (pc := 52) [.int (1 : Int32)] ((c_X2_release _ _ _ _ e).mono (by decide)) (op_ck_sh e) rfl dX2_readSign_52 cw_X2_98 rfl (Nat.le_of_ble_eq_true rfl) ?_
      refine aw_aload_n (pc := 55) 0 dX2_readSign_55 rfl ?_
      refine aw_dup (pc := 56) dX2_readSign_56 rfl ?_
      obtain ⟨v5, e, h⟩ := op_bd h
      refine ow_gI (pc := 57) e dX2_readSign_57 fd_X2_25 rfl ?_
      refine aw_iconst (pc := 60) (v := (1 : Int32)) dX2_readSign_60 (by decide) ?_
      refine aw_isub (pc := 61) dX2_readSign_61 ?_
      obtain ⟨σ6, e, h⟩ := op_bd h
      refine ow_pI (pc := 62) e dX2_readSign_62 fd_X2_25 ?_
      refine aw_aload_n (pc := 65) 0 dX2_readSign_65 rfl ?_
      refine aw_dup (pc := 66) dX2_readSign_66 rfl ?_
      obtain ⟨v7, e, h⟩ := op_bd h
      refine ow_gI (pc := 67) e dX2_readSign_67 fd_X2_29 rfl ?_
      refine aw_iconst (pc := 70) (v := (1 : Int32)) dX2_readSign_70 (by decide) ?_
      refine aw_isub (pc := 71) dX2_readSign_71 ?_
      obtain ⟨σ8, e, h⟩ := op_bd h
      refine ow_pI (pc := 72) e dX2_readSign_72 fd_X2_29 ?_
      refine aw_iconst (pc := 75) (v := (0 : Int32)) dX2_readSign_75 (by decide) ?_
      exact ow_iret (pc := 76) h dX2_readSign_76 rfl
set_option maxRecDepth 100000 in
set_option maxHeartbeats 4000000 in
theorem c_X2_readSign_0 {G : ah_G}   : ∀ (x0 : Nat) (σ : ah_H) (r : Int32 × ah_H), f_X2_readSign_0   x0 σ = some r → AW G m_X2_readSign 2 0 0 0 [(0, .ref x0)] [] σ (ah_N G (ah_ri r)) := by
  intro x0 σ r h
  unfold f_X2_readSign_0 at h
  refine aw_aload_n (pc := 0) 0 dX2_readSign_0 rfl ?_
  obtain ⟨v1, e, h⟩ := op_bd h
  refine ow_gR (pc := 1) e dX2_readSign_1 fd_X2_17 rfl ?_
  refine aw_bipush (pc := 4) (v := (30 : Int32)) dX2_readSign_4 (by decide) ?_
  obtain ⟨r2, e, h⟩ := op_bd h
  refine ow_cVi (pc := 6) [.int (30 : Int32)] ((c_X8_isSign _ _ _ _ e).mono (by decide)) (op_ck_sh e) rfl dX2_readSign_6 cw_X2_70 rfl (Nat.le_of_ble_eq_true rfl) ?_
  refine aw_if_eq (pc := 9) 31 dX2_readSign_9 (by decide) (fun z => ?_) (fun z => ?_)
  · replace h := (if_pos z).symm.trans h
    exact c_X2_readSign_31  _ _ _ h
  · replace h := (if_neg z).symm.trans h
    refine aw_aload_n (pc := 12) 0 dX2_readSign_12 rfl ?_
    obtain ⟨v3, e, h⟩ := op_bd h
    refine ow_gI (pc := 13) e dX2_readSign_13 fd_X2_29 rfl ?_
    refine aw_if_ne (pc := 16) 31 dX2_readSign_16 (by decide) (fun z => ?_) (fun z => ?_)
    · replace h := (if_neg z).symm.trans h
      exact c_X2_readSign_31  _ _ _ h
    · replace h := (if_pos z).symm.trans h
      refine aw_aload_n (pc := 19) 0 dX2_readSign_19 rfl ?_
      refine aw_iconst (pc := 20) (v := (1 : Int32)) dX2_readSign_20 (by decide) ?_
      obtain ⟨r4, e, h⟩ := op_bd h
      refine ow_cVv (pc := 21) [.int (1 : Int32)] ((c_X2_release _ _ _ _ e).mono (by decide)) (op_ck_sh e) rfl dX2_readSign_21 cw_X2_98 rfl (Nat.le_of_ble_eq_true rfl) ?_
      refine aw_aload_n (pc := 24) 0 dX2_readSign_24 rfl ?_
      refine aw_iconst (pc := 25) (v := (1 : Int32)) dX2_readSign_25 (by decide) ?_
      obtain ⟨σ5, e, h⟩ := op_bd h
      refine ow_pZ (pc := 26) e dX2_readSign_26 fd_X2_36 ?_
      refine aw_iconst (pc := 29) (v := (0 : Int32)) dX2_readSign_29 (by decide) ?_
      exact ow_iret (pc := 30) h dX2_readSign_30 rfl
theorem c_X2_readSign {G : ah_G}   (x0 : Nat) (σ : ah_H) (r : Int32 × ah_H) (h : f_X2_readSign  x0 σ = some r) : AM G m_X2_readSign 2 0 0 [.ref x0] σ (ah_ri r) := aw_enter (by decide) (Nat.le_of_ble_eq_true rfl) (c_X2_readSign_0 _ _ _ (op_ck_k h))
def f_X4_finish_0   (x0 : Nat) (x1 : Int32) (σ : ah_H) : Option (ah_H) :=
  (op_gR 4 5 σ x0).bind fun v1 => (op_gI 4 1 σ x0).bind fun v2 => (op_sI σ v1 x1 v2).bind fun σ3 => some σ3
def f_X4_finish  (x0 : Nat) (x1 : Int32) (σ : ah_H) : Option (ah_H) := op_ck 4 σ x0 (f_X4_finish_0 x0 x1 σ)
set_option maxRecDepth 100000 in
set_option maxHeartbeats 4000000 in
theorem c_X4_finish_0 {G : ah_G}   : ∀ (x0 : Nat) (x1 : Int32) (σ : ah_H) (r : ah_H), f_X4_finish_0   x0 x1 σ = some r → AW G m_X4_finish 0 0 0 0 [(0, .ref x0), (1, .int x1)] [] σ (ah_N G (ah_rv r)) := by
  intro x0 x1 σ r h
  unfold f_X4_finish_0 at h
  refine aw_aload_n (pc := 0) 0 dX4_finish_0 rfl ?_
  obtain ⟨v1, e, h⟩ := op_bd h
  refine ow_gR (pc := 1) e dX4_finish_1 fd_X4_21 rfl ?_
  refine aw_iload_n (pc := 4) 1 dX4_finish_4 rfl ?_
  refine aw_aload_n (pc := 5) 0 dX4_finish_5 rfl ?_
  obtain ⟨v2, e, h⟩ := op_bd h
  refine ow_gI (pc := 6) e dX4_finish_6 fd_X4_35 rfl ?_
  obtain ⟨σ3, e, h⟩ := op_bd h
  refine ow_sI (pc := 9) e dX4_finish_9 ?_
  exact ow_vret (pc := 10) h dX4_finish_10 rfl
theorem c_X4_finish {G : ah_G}   (x0 : Nat) (x1 : Int32) (σ : ah_H) (r : ah_H) (h : f_X4_finish  x0 x1 σ = some r) : AM G m_X4_finish 0 0 0 [.ref x0, .int x1] σ (ah_rv r) := aw_enter (by decide) (Nat.le_of_ble_eq_true rfl) (c_X4_finish_0 _ _ _ _ (op_ck_k h))
def f_X4_start_0   (x0 : Nat) (x1 : Int32) (σ : ah_H) : Option (ah_H) :=
  (op_gR 4 4 σ x0).bind fun v1 => (op_gI 4 1 σ x0).bind fun v2 => (op_sI σ v1 x1 v2).bind fun σ3 => some σ3
def f_X4_start  (x0 : Nat) (x1 : Int32) (σ : ah_H) : Option (ah_H) := op_ck 4 σ x0 (f_X4_start_0 x0 x1 σ)
set_option maxRecDepth 100000 in
set_option maxHeartbeats 4000000 in
theorem c_X4_start_0 {G : ah_G}   : ∀ (x0 : Nat) (x1 : Int32) (σ : ah_H) (r : ah_H), f_X4_start_0   x0 x1 σ = some r → AW G m_X4_start 0 0 0 0 [(0, .ref x0), (1, .int x1)] [] σ (ah_N G (ah_rv r)) := by
  intro x0 x1 σ r h
  unfold f_X4_start_0 at h
  refine aw_aload_n (pc := 0) 0 dX4_start_0 rfl ?_
  obtain ⟨v1, e, h⟩ := op_bd h
  refine ow_gR (pc := 1) e dX4_start_1 fd_X4_18 rfl ?_
  refine aw_iload_n (pc := 4) 1 dX4_start_4 rfl ?_
  refine aw_aload_n (pc := 5) 0 dX4_start_5 rfl ?_
  obtain ⟨v2, e, h⟩ := op_bd h
  refine ow_gI (pc := 6) e dX4_start_6 fd_X4_35 rfl ?_
  obtain ⟨σ3, e, h⟩ := op_bd h
  refine ow_sI (pc := 9) e dX4_start_9 ?_
  exact ow_vret (pc := 10) h dX4_start_10 rfl
theorem c_X4_start {G : ah_G}   (x0 : Nat) (x1 : Int32) (σ : ah_H) (r : ah_H) (h : f_X4_start  x0 x1 σ = some r) : AM G m_X4_start 0 0 0 [.ref x0, .int x1] σ (ah_rv r) := aw_enter (by decide) (Nat.le_of_ble_eq_true rfl) (c_X4_start_0 _ _ _ _ (op_ck_k h))
def f_X2_readLaw_91  (K35 : Nat → Int32 → Int32 → ah_H → Option (Int32 × ah_H)) (x0 : Nat) (x2 : Int32) (x3 : Int32) (σ : ah_H) : Option (Int32 × ah_H) :=
  K35 x0 x2 (x3 + (1 : Int32)) σ
def f_X2_readLaw_67  (K35 : Nat → Int32 → Int32 → ah_H → Option (Int32 × ah_H)) (x0 : Nat) (x2 : Int32) (x3 : Int32) (s0 : Int32) (σ : ah_H) : Option (Int32 × ah_H) :=
  if s0 = 0 then ((op_gI 2 6 σ x0).bind fun v1 => if v1 = 0 then ((op_gR 2 0 σ x0).bind fun v2 => (f_X8_step v2 σ).bind fun r3 => f_X2_readLaw_91 K35 x0 x2 x3 r3) else (f_X2_readLaw_91 K35 x0 x2 x3 σ)) else (some (s0, σ))
def f_X2_readLaw_97   (x0 : Nat) (x2 : Int32) (σ : ah_H) : Option (Int32 × ah_H) :=
  (op_gR 2 2 σ x0).bind fun v1 => (f_X4_finish v1 x2 σ).bind fun r2 => some ((0 : Int32), r2)
def f_X2_readLaw_35_b  (K35 : Nat → Int32 → Int32 → ah_H → Option (Int32 × ah_H)) (x0 : Nat) (x2 : Int32) (x3 : Int32) (σ : ah_H) : Option (Int32 × ah_H) :=
  if (700 : Int32) < x3 then (f_X2_readLaw_97 x0 x2 σ) else ((op_gI 2 6 σ x0).bind fun v1 => if v1 = 0 then ((op_gI 2 5 σ x0).bind fun v2 => if v2 = 0 then ((f_X2_readSign x0 σ).bind fun r3 => f_X2_readLaw_67 K35 x0 x2 x3 r3.1 r3.2) else ((f_X2_readSide x0 σ).bind fun r4 => f_X2_readLaw_67 K35 x0 x2 x3 r4.1 r4.2)) else (f_X2_readLaw_97 x0 x2 σ))
def f_X2_readLaw_35   : Nat → Nat → Int32 → Int32 → ah_H → Option (Int32 × ah_H)
  | 0, _, _, _, _ => none
  | n + 1, x0, x2, x3, σ => f_X2_readLaw_35_b (f_X2_readLaw_35 n) x0 x2 x3 σ
def f_X2_readLaw_0   (x0 : Nat) (x1 : Nat) (x2 : Int32) (σ : ah_H) : Option (Int32 × ah_H) :=
  (op_pR 2 2 σ x0 x1).bind fun σ1 => (op_pI 2 3 σ1 x0 (0 : Int32)).bind fun σ2 => (op_pI 2 4 σ2 x0 (0 : Int32)).bind fun σ3 => (op_pZ 2 5 σ3 x0 (1 : Int32)).bind fun σ4 => (op_pZ 2 6 σ4 x0 (0 : Int32)).bind fun σ5 => (op_gR 2 2 σ5 x0).bind fun v6 => (f_X4_start v6 x2 σ5).bind fun r7 => f_X2_readLaw_35 5000 x0 x2 (0 : Int32) r7
def f_X2_readLaw  (x0 : Nat) (x1 : Nat) (x2 : Int32) (σ : ah_H) : Option (Int32 × ah_H) := op_ck 2 σ x0 (f_X2_readLaw_0 x0 x1 x2 σ)
set_option maxRecDepth 100000 in
set_option maxHeartbeats 4000000 in
theorem c_X2_readLaw_91 {G : ah_G}  (K35 : Nat → Int32 → Int32 → ah_H → Option (Int32 × ah_H)) (hK35 : ∀ (x0 : Nat) (x2 : Int32) (x3 : Int32) (σ : ah_H) (r : Int32 × ah_H), K35 x0 x2 x3 σ = some r → AW G m_X2_readLaw 3 0 0 35 [(0, .ref x0), (2, .int x2), (3, .int x3)] [] σ (ah_N G (ah_ri r))) : ∀ (x0 : Nat) (x2 : Int32) (x3 : Int32) (σ : ah_H) (r : Int32 × ah_H), f_X2_readLaw_91  K35 x0 x2 x3 σ = some r → AW G m_X2_readLaw 3 0 0 91 [(0, .ref x0), (2, .int x2), (3, .int x3)] [] σ (ah_N G (ah_ri r)) := by
  intro x0 x2 x3 σ r h
  unfold f_X2_readLaw_91 at h
  refine aw_iinc (pc := 91) 2 [(3, .int (x3 + (1 : Int32))), (0, .ref x0), (2, .int x2)] (x3 + (1 : Int32)) dX2_readLaw_91 rfl rfl (by decide) rfl ?_
  refine aw_goto (pc := 94) 35 dX2_readLaw_94 (by decide) ?_
  refine aw_sub [1, 2, 0] rfl ?_
  exact hK35 _ _ _ _ _ h
set_option maxRecDepth 100000 in
set_option maxHeartbeats 4000000 in
theorem c_X2_readLaw_67 {G : ah_G}  (K35 : Nat → Int32 → Int32 → ah_H → Option (Int32 × ah_H)) (hK35 : ∀ (x0 : Nat) (x2 : Int32) (x3 : Int32) (σ : ah_H) (r : Int32 × ah_H), K35 x0 x2 x3 σ = some r → AW G m_X2_readLaw 3 0 0 35 [(0, .ref x0), (2, .int x2), (3, .int x3)] [] σ (ah_N G (ah_ri r))) : ∀ (x0 : Nat) (x2 : Int32) (x3 : Int32) (s0 : Int32) (σ : ah_H) (r : Int32 × ah_H), f_X2_readLaw_67  K35 x0 x2 x3 s0 σ = some r → AW G m_X2_readLaw 3 0 0 67 [(0, .ref x0), (2, .int x2), (3, .int x3)] [.int s0] σ (ah_N G (ah_ri r)) := by
  intro x0 x2 x3 s0 σ r h
  unfold f_X2_readLaw_67 at h
  refine aw_istore (pc := 67) [(4, .int s0), (0, .ref x0), (2, .int x2), (3, .int x3)] dX2_readLaw_67 (by decide) rfl ?_
  refine aw_iload (pc := 69) 0 dX2_readLaw_69 rfl ?_
  refine aw_if_eq (pc := 71) 77 dX2_readLaw_71 (by decide) (fun z => ?_) (fun z => ?_)
  · replace h := (if_pos z).symm.trans h
    refine aw_aload_n (pc := 77) 1 dX2_readLaw_77 rfl ?_
    obtain ⟨v1, e, h⟩ := op_bd h
    refine ow_gI (pc := 78) e dX2_readLaw_78 fd_X2_36 rfl ?_
    refine aw_if_ne (pc := 81) 91 dX2_readLaw_81 (by decide) (fun z => ?_) (fun z => ?_)
    · replace h := (if_neg z).symm.trans h
      refine aw_sub [1, 2, 3] rfl ?_
      exact c_X2_readLaw_91 K35 hK35 _ _ _ _ _ h
    · replace h := (if_pos z).symm.trans h
      refine aw_aload_n (pc := 84) 1 dX2_readLaw_84 rfl ?_
      obtain ⟨v2, e, h⟩ := op_bd h
      refine ow_gR (pc := 85) e dX2_readLaw_85 fd_X2_17 rfl ?_
      obtain ⟨r3, e, h⟩ := op_bd h
      refine ow_cVv (pc := 88) [] ((c_X8_step _ _ _ e).mono (by decide)) (op_ck_sh e) rfl dX2_readLaw_88 cw_X2_50 rfl (Nat.le_of_ble_eq_true rfl) ?_
      refine aw_sub [1, 2, 3] rfl ?_
      exact c_X2_readLaw_91 K35 hK35 _ _ _ _ _ h
  · replace h := (if_neg z).symm.trans h
    refine aw_iload (pc := 74) 0 dX2_readLaw_74 rfl ?_
    exact ow_iret (pc := 76) h dX2_readLaw_76 rfl
set_option maxRecDepth 100000 in
set_option maxHeartbeats 4000000 in
theorem c_X2_readLaw_97 {G : ah_G}   : ∀ (x0 : Nat) (x2 : Int32) (σ : ah_H) (r : Int32 × ah_H), f_X2_readLaw_97   x0 x2 σ = some r → AW G m_X2_readLaw 3 0 0 97 [(0, .ref x0), (2, .int x2)] [] σ (ah_N G (ah_ri r)) := by
  intro x0 x2 σ r h
  unfold f_X2_readLaw_97 at h
  refine aw_aload_n (pc := 97) 0 dX2_readLaw_97 rfl ?_
  obtain ⟨v1, e, h⟩ := op_bd h
  refine ow_gR (pc := 98) e dX2_readLaw_98 fd_X2_21 rfl ?_
  refine aw_iload_n (pc := 101) 1 dX2_readLaw_101 rfl ?_
  obtain ⟨r2, e, h⟩ := op_bd h
  refine ow_cVv (pc := 102) [.int x2] ((c_X4_finish _ _ _ _ e).mono (by decide)) (op_ck_sh e) rfl dX2_readLaw_102 cw_X2_55 rfl (Nat.le_of_ble_eq_true rfl) ?_
  refine aw_iconst (pc := 105) (v := (0 : Int32)) dX2_readLaw_105 (by decide) ?_
  exact ow_iret (pc := 106) h dX2_readLaw_106 rfl
set_option maxRecDepth 100000 in
set_option maxHeartbeats 4000000 in
theorem c_X2_readLaw_35_b {G : ah_G}  (K35 : Nat → Int32 → Int32 → ah_H → Option (Int32 × ah_H)) (hK35 : ∀ (x0 : Nat) (x2 : Int32) (x3 : Int32) (σ : ah_H) (r : Int32 × ah_H), K35 x0 x2 x3 σ = some r → AW G m_X2_readLaw 3 0 0 35 [(0, .ref x0), (2, .int x2), (3, .int x3)] [] σ (ah_N G (ah_ri r))) : ∀ (x0 : Nat) (x2 : Int32) (x3 : Int32) (σ : ah_H) (r : Int32 × ah_H), f_X2_readLaw_35_b  K35 x0 x2 x3 σ = some r → AW G m_X2_readLaw 3 0 0 35 [(0, .ref x0), (2, .int x2), (3, .int x3)] [] σ (ah_N G (ah_ri r)) := by
  intro x0 x2 x3 σ r h
  unfold f_X2_readLaw_35_b at h
  refine aw_iload_n (pc := 35) 2 dX2_readLaw_35 rfl ?_
  refine aw_sipush (pc := 36) (v := (700 : Int32)) dX2_readLaw_36 (by decide) ?_
  refine aw_icmp_gt (pc := 39) 97 dX2_readLaw_39 (by decide) (fun z => ?_) (fun z => ?_)
  · replace h := (if_pos z).symm.trans h
    refine aw_sub [0, 1] rfl ?_
    exact c_X2_readLaw_97  _ _ _ _ h
  · replace h := (if_neg z).symm.trans h
    refine aw_aload_n (pc := 42) 0 dX2_readLaw_42 rfl ?_
    obtain ⟨v1, e, h⟩ := op_bd h
    refine ow_gI (pc := 43) e dX2_readLaw_43 fd_X2_36 rfl ?_
    refine aw_if_ne (pc := 46) 97 dX2_readLaw_46 (by decide) (fun z => ?_) (fun z => ?_)
    · replace h := (if_neg z).symm.trans h
      refine aw_sub [0, 1] rfl ?_
      exact c_X2_readLaw_97  _ _ _ _ h
    · replace h := (if_pos z).symm.trans h
      refine aw_aload_n (pc := 49) 0 dX2_readLaw_49 rfl ?_
      obtain ⟨v2, e, h⟩ := op_bd h
      refine ow_gI (pc := 50) e dX2_readLaw_50 fd_X2_32 rfl ?_
      refine aw_if_eq (pc := 53) 63 dX2_readLaw_53 (by decide) (fun z => ?_) (fun z => ?_)
      · replace h := (if_pos z).symm.trans h
        refine aw_aload_n (pc := 63) 0 dX2_readLaw_63 rfl ?_
        obtain ⟨r3, e, h⟩ := op_bd h
        refine ow_cVi (pc := 64) [] ((c_X2_readSign _ _ _ e).mono (by decide)) (op_ck_sh e) rfl dX2_readLaw_64 cw_X2_47 rfl (Nat.le_of_ble_eq_true rfl) ?_
        exact c_X2_readLaw_67 K35 hK35 _ _ _ _ _ _ h
      · replace h := (if_neg z).symm.trans h
        refine aw_aload_n (pc := 56) 0 dX2_readLaw_56 rfl ?_
        obtain ⟨r4, e, h⟩ := op_bd h
        refine ow_cVi (pc := 57) [] ((c_X2_readSide _ _ _ e).mono (by decide)) (op_ck_sh e) rfl dX2_readLaw_57 cw_X2_43 rfl (Nat.le_of_ble_eq_true rfl) ?_
        refine aw_goto (pc := 60) 67 dX2_readLaw_60 (by decide) ?_
        exact c_X2_readLaw_67 K35 hK35 _ _ _ _ _ _ h
theorem c_X2_readLaw_35 {G : ah_G}   : ∀ (n : Nat) (x0 : Nat) (x2 : Int32) (x3 : Int32) (σ : ah_H) (r : Int32 × ah_H), f_X2_readLaw_35   n x0 x2 x3 σ = some r → AW G m_X2_readLaw 3 0 0 35 [(0, .ref x0), (2, .int x2), (3, .int x3)] [] σ (ah_N G (ah_ri r)) := by
  intro n
  induction n with
  | zero => intro x0 x2 x3 σ r h; cases h
  | succ n ih => intro x0 x2 x3 σ r h; exact c_X2_readLaw_35_b   _ ih x0 x2 x3 σ r h
set_option maxRecDepth 100000 in
set_option maxHeartbeats 4000000 in
theorem c_X2_readLaw_0 {G : ah_G}   : ∀ (x0 : Nat) (x1 : Nat) (x2 : Int32) (σ : ah_H) (r : Int32 × ah_H), f_X2_readLaw_0   x0 x1 x2 σ = some r → AW G m_X2_readLaw 3 0 0 0 [(0, .ref x0), (1, .ref x1), (2, .int x2)] [] σ (ah_N G (ah_ri r)) := by
  intro x0 x1 x2 σ r h
  unfold f_X2_readLaw_0 at h
  refine aw_aload_n (pc := 0) 0 dX2_readLaw_0 rfl ?_
  refine aw_aload_n (pc := 1) 1 dX2_readLaw_1 rfl ?_
  obtain ⟨σ1, e, h⟩ := op_bd h
  refine ow_pR (pc := 2) e dX2_readLaw_2 fd_X2_21 rfl ?_
  refine aw_aload_n (pc := 5) 0 dX2_readLaw_5 rfl ?_
  refine aw_iconst (pc := 6) (v := (0 : Int32)) dX2_readLaw_6 (by decide) ?_
  obtain ⟨σ2, e, h⟩ := op_bd h
  refine ow_pI (pc := 7) e dX2_readLaw_7 fd_X2_25 ?_
  refine aw_aload_n (pc := 10) 0 dX2_readLaw_10 rfl ?_
  refine aw_iconst (pc := 11) (v := (0 : Int32)) dX2_readLaw_11 (by decide) ?_
  obtain ⟨σ3, e, h⟩ := op_bd h
  refine ow_pI (pc := 12) e dX2_readLaw_12 fd_X2_29 ?_
  refine aw_aload_n (pc := 15) 0 dX2_readLaw_15 rfl ?_
  refine aw_iconst (pc := 16) (v := (1 : Int32)) dX2_readLaw_16 (by decide) ?_
  obtain ⟨σ4, e, h⟩ := op_bd h
  refine ow_pZ (pc := 17) e dX2_readLaw_17 fd_X2_32 ?_
  refine aw_aload_n (pc := 20) 0 dX2_readLaw_20 rfl ?_
  refine aw_iconst (pc := 21) (v := (0 : Int32)) dX2_readLaw_21 (by decide) ?_
  obtain ⟨σ5, e, h⟩ := op_bd h
  refine ow_pZ (pc := 22) e dX2_readLaw_22 fd_X2_36 ?_
  refine aw_aload_n (pc := 25) 0 dX2_readLaw_25 rfl ?_
  obtain ⟨v6, e, h⟩ := op_bd h
  refine ow_gR (pc := 26) e dX2_readLaw_26 fd_X2_21 rfl ?_
  refine aw_iload_n (pc := 29) 2 dX2_readLaw_29 rfl ?_
  obtain ⟨r7, e, h⟩ := op_bd h
  refine ow_cVv (pc := 30) [.int x2] ((c_X4_start _ _ _ _ e).mono (by decide)) (op_ck_sh e) rfl dX2_readLaw_30 cw_X2_39 rfl (Nat.le_of_ble_eq_true rfl) ?_
  refine aw_iconst (pc := 33) (v := (0 : Int32)) dX2_readLaw_33 (by decide) ?_
  refine aw_istore_n (pc := 34) [(3, .int (0 : Int32)), (0, .ref x0), (1, .ref x1), (2, .int x2)] dX2_readLaw_34 rfl (by decide) rfl ?_
  refine aw_sub [1, 3, 0] rfl ?_
  exact c_X2_readLaw_35  _ _ _ _ _ _ h
theorem c_X2_readLaw {G : ah_G}   (x0 : Nat) (x1 : Nat) (x2 : Int32) (σ : ah_H) (r : Int32 × ah_H) (h : f_X2_readLaw  x0 x1 x2 σ = some r) : AM G m_X2_readLaw 3 0 0 [.ref x0, .ref x1, .int x2] σ (ah_ri r) := aw_enter (by decide) (Nat.le_of_ble_eq_true rfl) (c_X2_readLaw_0 _ _ _ _ _ (op_ck_k h))
def f_X7_readLaw_42   (x0 : Nat) (σ : ah_H) : Option (Int32 × ah_H) :=
  (f_X7_fail x0 (1 : Int32) σ).bind fun r1 => (op_rz r1.1).map fun q => (q, r1.2)
def f_X7_readLaw_0   (x0 : Nat) (σ : ah_H) : Option (Int32 × ah_H) :=
  (op_gR 7 0 σ x0).bind fun v1 => (f_X8_step v1 σ).bind fun r2 => (op_gR 7 0 r2 x0).bind fun v3 => (op_gI 8 8 r2 v3).bind fun v4 => if v4 = (2 : Int32) then ((op_gR 7 0 r2 x0).bind fun v5 => (op_gI 8 9 r2 v5).bind fun v6 => if v6 < (12 : Int32) then (f_X7_readLaw_42 x0 r2) else ((op_gR 7 0 r2 x0).bind fun v7 => (op_gI 8 9 r2 v7).bind fun v8 => if v8 ≤ (14 : Int32) then ((op_gR 7 0 r2 x0).bind fun v9 => (op_gI 8 9 r2 v9).bind fun v10 => (op_gR 7 2 r2 x0).bind fun v11 => (op_gR 9 15 r2 v11).bind fun v12 => (f_X4_isTold v12 (v10 - (12 : Int32)) r2).bind fun r13 => if r13.1 = 0 then ((op_gR 7 0 r13.2 x0).bind fun v14 => (f_X8_step v14 r13.2).bind fun r15 => (op_gR 7 1 r15 x0).bind fun v16 => (op_gR 7 2 r15 x0).bind fun v17 => (op_gR 9 15 r15 v17).bind fun v18 => (f_X2_readLaw v16 v18 (v10 - (12 : Int32)) r15).bind fun r19 => if r19.1 = 0 then ((op_rz (1 : Int32)).map fun q => (q, r19.2)) else ((f_X7_fail x0 r19.1 r19.2).bind fun r20 => if r20.1 = 0 then ((op_rz (0 : Int32)).map fun q => (q, r20.2)) else ((op_rz (1 : Int32)).map fun q => (q, r20.2)))) else ((f_X7_fail x0 (3 : Int32) r13.2).bind fun r21 => (op_rz r21.1).map fun q => (q, r21.2))) else (f_X7_readLaw_42 x0 r2))) else (f_X7_readLaw_42 x0 r2)
def f_X7_readLaw  (x0 : Nat) (σ : ah_H) : Option (Int32 × ah_H) := op_ck 7 σ x0 (f_X7_readLaw_0 x0 σ)
set_option maxRecDepth 100000 in
set_option maxHeartbeats 4000000 in
theorem c_X7_readLaw_42 {G : ah_G}   : ∀ (x0 : Nat) (σ : ah_H) (r : Int32 × ah_H), f_X7_readLaw_42   x0 σ = some r → AW G m_X7_readLaw 4 0 0 42 [(0, .ref x0)] [] σ (ah_N G (ah_ri r)) := by
  intro x0 σ r h
  unfold f_X7_readLaw_42 at h
  refine aw_aload_n (pc := 42) 0 dX7_readLaw_42 rfl ?_
  refine aw_iconst (pc := 43) (v := (1 : Int32)) dX7_readLaw_43 (by decide) ?_
  obtain ⟨r1, e, h⟩ := op_bd h
  refine ow_cVi (pc := 44) [.int (1 : Int32)] ((c_X7_fail _ _ _ _ e).mono (by decide)) (op_ck_sh e) rfl dX7_readLaw_44 cw_X7_64 rfl (Nat.le_of_ble_eq_true rfl) ?_
  exact ow_zret (pc := 47) h dX7_readLaw_47 rfl
set_option maxRecDepth 100000 in
set_option maxHeartbeats 4000000 in
theorem c_X7_readLaw_0 {G : ah_G}   : ∀ (x0 : Nat) (σ : ah_H) (r : Int32 × ah_H), f_X7_readLaw_0   x0 σ = some r → AW G m_X7_readLaw 4 0 0 0 [(0, .ref x0)] [] σ (ah_N G (ah_ri r)) := by
  intro x0 σ r h
  unfold f_X7_readLaw_0 at h
  refine aw_aload_n (pc := 0) 0 dX7_readLaw_0 rfl ?_
  obtain ⟨v1, e, h⟩ := op_bd h
  refine ow_gR (pc := 1) e dX7_readLaw_1 fd_X7_23 rfl ?_
  obtain ⟨r2, e, h⟩ := op_bd h
  refine ow_cVv (pc := 4) [] ((c_X8_step _ _ _ e).mono (by decide)) (op_ck_sh e) rfl dX7_readLaw_4 cw_X7_67 rfl (Nat.le_of_ble_eq_true rfl) ?_
  refine aw_aload_n (pc := 7) 0 dX7_readLaw_7 rfl ?_
  obtain ⟨v3, e, h⟩ := op_bd h
  refine ow_gR (pc := 8) e dX7_readLaw_8 fd_X7_23 rfl ?_
  obtain ⟨v4, e, h⟩ := op_bd h
  refine ow_gI (pc := 11) e dX7_readLaw_11 fd_X7_53 rfl ?_
  refine aw_iconst (pc := 14) (v := (2 : Int32)) dX7_readLaw_14 (by decide) ?_
  refine aw_icmp_ne (pc := 15) 42 dX7_readLaw_15 (by decide) (fun z => ?_) (fun z => ?_)
  · replace h := (if_neg z).symm.trans h
    exact c_X7_readLaw_42  _ _ _ h
  · replace h := (if_pos z).symm.trans h
    refine aw_aload_n (pc := 18) 0 dX7_readLaw_18 rfl ?_
    obtain ⟨v5, e, h⟩ := op_bd h
    refine ow_gR (pc := 19) e dX7_readLaw_19 fd_X7_23 rfl ?_
    obtain ⟨v6, e, h⟩ := op_bd h
    refine ow_gI (pc := 22) e dX7_readLaw_22 fd_X7_71 rfl ?_
    refine aw_bipush (pc := 25) (v := (12 : Int32)) dX7_readLaw_25 (by decide) ?_
    refine aw_icmp_lt (pc := 27) 42 dX7_readLaw_27 (by decide) (fun z => ?_) (fun z => ?_)
    · replace h := (if_pos z).symm.trans h
      exact c_X7_readLaw_42  _ _ _ h
    · replace h := (if_neg z).symm.trans h
      refine aw_aload_n (pc := 30) 0 dX7_readLaw_30 rfl ?_
      obtain ⟨v7, e, h⟩ := op_bd h
      refine ow_gR (pc := 31) e dX7_readLaw_31 fd_X7_23 rfl ?_
      obtain ⟨v8, e, h⟩ := op_bd h
      refine ow_gI (pc := 34) e dX7_readLaw_34 fd_X7_71 rfl ?_
      refine aw_bipush (pc := 37) (v := (14 : Int32)) dX7_readLaw_37 (by decide) ?_
      refine aw_icmp_le (pc := 39) 48 dX7_readLaw_39 (by decide) (fun z => ?_) (fun z => ?_)
      · replace h := (if_pos z).symm.trans h
        refine aw_aload_n (pc := 48) 0 dX7_readLaw_48 rfl ?_
        obtain ⟨v9, e, h⟩ := op_bd h
        refine ow_gR (pc := 49) e dX7_readLaw_49 fd_X7_23 rfl ?_
        obtain ⟨v10, e, h⟩ := op_bd h
        refine ow_gI (pc := 52) e dX7_readLaw_52 fd_X7_71 rfl ?_
        refine aw_bipush (pc := 55) (v := (12 : Int32)) dX7_readLaw_55 (by decide) ?_
        refine aw_isub (pc := 57) dX7_readLaw_57 ?_
        refine aw_istore_n (pc := 58) [(1, .int (v10 - (12 : Int32))), (0, .ref x0)] dX7_readLaw_58 rfl (by decide) rfl ?_
        refine aw_aload_n (pc := 59) 1 dX7_readLaw_59 rfl ?_
        obtain ⟨v11, e, h⟩ := op_bd h
        refine ow_gR (pc := 60) e dX7_readLaw_60 fd_X7_42 rfl ?_
        obtain ⟨v12, e, h⟩ := op_bd h
        refine ow_gR (pc := 63) e dX7_readLaw_63 fd_X7_29 rfl ?_
        refine aw_iload_n (pc := 66) 0 dX7_readLaw_66 rfl ?_
        obtain ⟨r13, e, h⟩ := op_bd h
        refine ow_cVi (pc := 67) [.int (v10 - (12 : Int32))] ((c_X4_isTold _ _ _ _ e).mono (by decide)) (op_ck_sh e) rfl dX7_readLaw_67 cw_X7_180 rfl (Nat.le_of_ble_eq_true rfl) ?_
        refine aw_if_eq (pc := 70) 79 dX7_readLaw_70 (by decide) (fun z => ?_) (fun z => ?_)
        · replace h := (if_pos z).symm.trans h
          refine aw_aload_n (pc := 79) 1 dX7_readLaw_79 rfl ?_
          obtain ⟨v14, e, h⟩ := op_bd h
          refine ow_gR (pc := 80) e dX7_readLaw_80 fd_X7_23 rfl ?_
          obtain ⟨r15, e, h⟩ := op_bd h
          refine ow_cVv (pc := 83) [] ((c_X8_step _ _ _ e).mono (by decide)) (op_ck_sh e) rfl dX7_readLaw_83 cw_X7_67 rfl (Nat.le_of_ble_eq_true rfl) ?_
          refine aw_aload_n (pc := 86) 1 dX7_readLaw_86 rfl ?_
          obtain ⟨v16, e, h⟩ := op_bd h
          refine ow_gR (pc := 87) e dX7_readLaw_87 fd_X7_38 rfl ?_
          refine aw_aload_n (pc := 90) 1 dX7_readLaw_90 rfl ?_
          obtain ⟨v17, e, h⟩ := op_bd h
          refine ow_gR (pc := 91) e dX7_readLaw_91 fd_X7_42 rfl ?_
          obtain ⟨v18, e, h⟩ := op_bd h
          refine ow_gR (pc := 94) e dX7_readLaw_94 fd_X7_29 rfl ?_
          refine aw_iload_n (pc := 97) 0 dX7_readLaw_97 rfl ?_
          obtain ⟨r19, e, h⟩ := op_bd h
          refine ow_cVi (pc := 98) [.ref v18, .int (v10 - (12 : Int32))] ((c_X2_readLaw _ _ _ _ _ e).mono (by decide)) (op_ck_sh e) rfl dX7_readLaw_98 cw_X7_185 rfl (Nat.le_of_ble_eq_true rfl) ?_
          refine aw_istore_n (pc := 101) [(2, .int r19.1), (1, .int (v10 - (12 : Int32))), (0, .ref x0)] dX7_readLaw_101 rfl (by decide) rfl ?_
          refine aw_iload_n (pc := 102) 0 dX7_readLaw_102 rfl ?_
          refine aw_if_eq (pc := 103) 114 dX7_readLaw_103 (by decide) (fun z => ?_) (fun z => ?_)
          · replace h := (if_pos z).symm.trans h
            refine aw_iconst (pc := 114) (v := (1 : Int32)) dX7_readLaw_114 (by decide) ?_
            refine aw_goto (pc := 115) 119 dX7_readLaw_115 (by decide) ?_
            exact ow_zret (pc := 119) h dX7_readLaw_119 rfl
          · replace h := (if_neg z).symm.trans h
            refine aw_aload_n (pc := 106) 2 dX7_readLaw_106 rfl ?_
            refine aw_iload_n (pc := 107) 0 dX7_readLaw_107 rfl ?_
            obtain ⟨r20, e, h⟩ := op_bd h
            refine ow_cVi (pc := 108) [.int r19.1] ((c_X7_fail _ _ _ _ e).mono (by decide)) (op_ck_sh e) rfl dX7_readLaw_108 cw_X7_64 rfl (Nat.le_of_ble_eq_true rfl) ?_
            refine aw_if_eq (pc := 111) 118 dX7_readLaw_111 (by decide) (fun z => ?_) (fun z => ?_)
            · replace h := (if_pos z).symm.trans h
              refine aw_iconst (pc := 118) (v := (0 : Int32)) dX7_readLaw_118 (by decide) ?_
              exact ow_zret (pc := 119) h dX7_readLaw_119 rfl
            · replace h := (if_neg z).symm.trans h
              refine aw_iconst (pc := 114) (v := (1 : Int32)) dX7_readLaw_114 (by decide) ?_
              refine aw_goto (pc := 115) 119 dX7_readLaw_115 (by decide) ?_
              exact ow_zret (pc := 119) h dX7_readLaw_119 rfl
        · replace h := (if_neg z).symm.trans h
          refine aw_aload_n (pc := 73) 1 dX7_readLaw_73 rfl ?_
          refine aw_iconst (pc := 74) (v := (3 : Int32)) dX7_readLaw_74 (by decide) ?_
          obtain ⟨r21, e, h⟩ := op_bd h
          refine ow_cVi (pc := 75) [.int (3 : Int32)] ((c_X7_fail _ _ _ _ e).mono (by decide)) (op_ck_sh e) rfl dX7_readLaw_75 cw_X7_64 rfl (Nat.le_of_ble_eq_true rfl) ?_
          exact ow_zret (pc := 78) h dX7_readLaw_78 rfl
      · replace h := (if_neg z).symm.trans h
        exact c_X7_readLaw_42  _ _ _ h
theorem c_X7_readLaw {G : ah_G}   (x0 : Nat) (σ : ah_H) (r : Int32 × ah_H) (h : f_X7_readLaw  x0 σ = some r) : AM G m_X7_readLaw 4 0 0 [.ref x0] σ (ah_ri r) := aw_enter (by decide) (Nat.le_of_ble_eq_true rfl) (c_X7_readLaw_0 _ _ _ (op_ck_k h))
def f_X7_readLimits_0   (x0 : Nat) (x1 : Nat) (x2 : Int32) (σ : ah_H) : Option (Int32 × ah_H) :=
  (op_gR 7 0 σ x0).bind fun v1 => (op_gI 8 9 σ v1).bind fun v2 => (f_X7_tellOnce x0 v2 σ).bind fun r3 => if r3.1 = 0 then ((op_rz (0 : Int32)).map fun q => (q, r3.2)) else ((f_X7_readInto x0 x1 (0 : Int32) (0 : Int32) x2 r3.2).bind fun r4 => if r4.1 = 0 then ((op_rz (0 : Int32)).map fun q => (q, r4.2)) else ((op_aI r4.2 x1 (0 : Int32)).bind fun v5 => (f_X7_readInto x0 x1 (1 : Int32) v5 x2 r4.2).bind fun r6 => if r6.1 = 0 then ((op_rz (0 : Int32)).map fun q => (q, r6.2)) else ((op_rz (1 : Int32)).map fun q => (q, r6.2))))
def f_X7_readLimits  (x0 : Nat) (x1 : Nat) (x2 : Int32) (σ : ah_H) : Option (Int32 × ah_H) := op_ck 7 σ x0 (f_X7_readLimits_0 x0 x1 x2 σ)
set_option maxRecDepth 100000 in
set_option maxHeartbeats 4000000 in
theorem c_X7_readLimits_0 {G : ah_G}   : ∀ (x0 : Nat) (x1 : Nat) (x2 : Int32) (σ : ah_H) (r : Int32 × ah_H), f_X7_readLimits_0   x0 x1 x2 σ = some r → AW G m_X7_readLimits 3 0 0 0 [(0, .ref x0), (1, .ref x1), (2, .int x2)] [] σ (ah_N G (ah_ri r)) := by
  intro x0 x1 x2 σ r h
  unfold f_X7_readLimits_0 at h
  refine aw_aload_n (pc := 0) 0 dX7_readLimits_0 rfl ?_
  refine aw_aload_n (pc := 1) 0 dX7_readLimits_1 rfl ?_
  obtain ⟨v1, e, h⟩ := op_bd h
  refine ow_gR (pc := 2) e dX7_readLimits_2 fd_X7_23 rfl ?_
  obtain ⟨v2, e, h⟩ := op_bd h
  refine ow_gI (pc := 5) e dX7_readLimits_5 fd_X7_71 rfl ?_
  obtain ⟨r3, e, h⟩ := op_bd h
  refine ow_cVi (pc := 8) [.int v2] ((c_X7_tellOnce _ _ _ _ e).mono (by decide)) (op_ck_sh e) rfl dX7_readLimits_8 cw_X7_125 rfl (Nat.le_of_ble_eq_true rfl) ?_
  refine aw_if_eq (pc := 11) 42 dX7_readLimits_11 (by decide) (fun z => ?_) (fun z => ?_)
  · replace h := (if_pos z).symm.trans h
    refine aw_iconst (pc := 42) (v := (0 : Int32)) dX7_readLimits_42 (by decide) ?_
    exact ow_zret (pc := 43) h dX7_readLimits_43 rfl
  · replace h := (if_neg z).symm.trans h
    refine aw_aload_n (pc := 14) 0 dX7_readLimits_14 rfl ?_
    refine aw_aload_n (pc := 15) 1 dX7_readLimits_15 rfl ?_
    refine aw_iconst (pc := 16) (v := (0 : Int32)) dX7_readLimits_16 (by decide) ?_
    refine aw_iconst (pc := 17) (v := (0 : Int32)) dX7_readLimits_17 (by decide) ?_
    refine aw_iload_n (pc := 18) 2 dX7_readLimits_18 rfl ?_
    obtain ⟨r4, e, h⟩ := op_bd h
    refine ow_cVi (pc := 19) [.ref x1, .int (0 : Int32), .int (0 : Int32), .int x2] ((c_X7_readInto _ _ _ _ _ _ _ e).mono (by decide)) (op_ck_sh e) rfl dX7_readLimits_19 cw_X7_117 rfl (Nat.le_of_ble_eq_true rfl) ?_
    refine aw_if_eq (pc := 22) 42 dX7_readLimits_22 (by decide) (fun z => ?_) (fun z => ?_)
    · replace h := (if_pos z).symm.trans h
      refine aw_iconst (pc := 42) (v := (0 : Int32)) dX7_readLimits_42 (by decide) ?_
      exact ow_zret (pc := 43) h dX7_readLimits_43 rfl
    · replace h := (if_neg z).symm.trans h
      refine aw_aload_n (pc := 25) 0 dX7_readLimits_25 rfl ?_
      refine aw_aload_n (pc := 26) 1 dX7_readLimits_26 rfl ?_
      refine aw_iconst (pc := 27) (v := (1 : Int32)) dX7_readLimits_27 (by decide) ?_
      refine aw_aload_n (pc := 28) 1 dX7_readLimits_28 rfl ?_
      refine aw_iconst (pc := 29) (v := (0 : Int32)) dX7_readLimits_29 (by decide) ?_
      obtain ⟨v5, e, h⟩ := op_bd h
      refine ow_aI (pc := 30) e dX7_readLimits_30 ?_
      refine aw_iload_n (pc := 31) 2 dX7_readLimits_31 rfl ?_
      obtain ⟨r6, e, h⟩ := op_bd h
      refine ow_cVi (pc := 32) [.ref x1, .int (1 : Int32), .int v5, .int x2] ((c_X7_readInto _ _ _ _ _ _ _ e).mono (by decide)) (op_ck_sh e) rfl dX7_readLimits_32 cw_X7_117 rfl (Nat.le_of_ble_eq_true rfl) ?_
      refine aw_if_eq (pc := 35) 42 dX7_readLimits_35 (by decide) (fun z => ?_) (fun z => ?_)
      · replace h := (if_pos z).symm.trans h
        refine aw_iconst (pc := 42) (v := (0 : Int32)) dX7_readLimits_42 (by decide) ?_
        exact ow_zret (pc := 43) h dX7_readLimits_43 rfl
      · replace h := (if_neg z).symm.trans h
        refine aw_iconst (pc := 38) (v := (1 : Int32)) dX7_readLimits_38 (by decide) ?_
        refine aw_goto (pc := 39) 43 dX7_readLimits_39 (by decide) ?_
        exact ow_zret (pc := 43) h dX7_readLimits_43 rfl
theorem c_X7_readLimits {G : ah_G}   (x0 : Nat) (x1 : Nat) (x2 : Int32) (σ : ah_H) (r : Int32 × ah_H) (h : f_X7_readLimits  x0 x1 x2 σ = some r) : AM G m_X7_readLimits 3 0 0 [.ref x0, .ref x1, .int x2] σ (ah_ri r) := aw_enter (by decide) (Nat.le_of_ble_eq_true rfl) (c_X7_readLimits_0 _ _ _ _ _ (op_ck_k h))
def f_X7_readPipe_59   (x0 : Nat) (s0 : Int32) (σ : ah_H) : Option (Int32 × ah_H) :=
  (op_gR 7 2 σ x0).bind fun v1 => (op_gR 9 7 σ v1).bind fun v2 => (op_gR 7 2 σ x0).bind fun v3 => (op_gI 9 6 σ v3).bind fun v4 => (op_aR .int σ v2 v4).bind fun v5 => (f_X7_readInto x0 v5 (0 : Int32) s0 (99 : Int32) σ).bind fun r6 => if r6.1 = 0 then ((op_rz (0 : Int32)).map fun q => (q, r6.2)) else ((f_X7_readInto x0 v5 (1 : Int32) (0 : Int32) (99 : Int32) r6.2).bind fun r7 => if r7.1 = 0 then ((op_rz (0 : Int32)).map fun q => (q, r7.2)) else ((op_gR 7 2 r7.2 x0).bind fun v8 => (op_gI 9 6 r7.2 v8).bind fun v9 => (op_pI 9 6 r7.2 v8 (v9 + (1 : Int32))).bind fun σ10 => (op_rz (1 : Int32)).map fun q => (q, σ10)))
def f_X7_readPipe_0   (x0 : Nat) (σ : ah_H) : Option (Int32 × ah_H) :=
  (op_gR 7 2 σ x0).bind fun v1 => (op_gI 9 6 σ v1).bind fun v2 => if v2 < (4 : Int32) then ((op_gR 7 0 σ x0).bind fun v3 => (f_X8_step v3 σ).bind fun r4 => (op_gR 7 2 r4 x0).bind fun v5 => (op_gI 9 6 r4 v5).bind fun v6 => if v6 = 0 then (f_X7_readPipe_59 x0 (1 : Int32) r4) else ((op_gR 7 2 r4 x0).bind fun v7 => (op_gR 9 7 r4 v7).bind fun v8 => (op_gR 7 2 r4 x0).bind fun v9 => (op_gI 9 6 r4 v9).bind fun v10 => (op_aR .int r4 v8 (v10 - (1 : Int32))).bind fun v11 => (op_aI r4 v11 (0 : Int32)).bind fun v12 => f_X7_readPipe_59 x0 (v12 + (1 : Int32)) r4)) else ((f_X7_fail x0 (2 : Int32) σ).bind fun r13 => (op_rz r13.1).map fun q => (q, r13.2))
def f_X7_readPipe  (x0 : Nat) (σ : ah_H) : Option (Int32 × ah_H) := op_ck 7 σ x0 (f_X7_readPipe_0 x0 σ)
set_option maxRecDepth 100000 in
set_option maxHeartbeats 4000000 in
theorem c_X7_readPipe_59 {G : ah_G}   : ∀ (x0 : Nat) (s0 : Int32) (σ : ah_H) (r : Int32 × ah_H), f_X7_readPipe_59   x0 s0 σ = some r → AW G m_X7_readPipe 3 0 0 59 [(0, .ref x0)] [.int s0] σ (ah_N G (ah_ri r)) := by
  intro x0 s0 σ r h
  unfold f_X7_readPipe_59 at h
  refine aw_istore_n (pc := 59) [(1, .int s0), (0, .ref x0)] dX7_readPipe_59 rfl (by decide) rfl ?_
  refine aw_aload_n (pc := 60) 1 dX7_readPipe_60 rfl ?_
  obtain ⟨v1, e, h⟩ := op_bd h
  refine ow_gR (pc := 61) e dX7_readPipe_61 fd_X7_42 rfl ?_
  obtain ⟨v2, e, h⟩ := op_bd h
  refine ow_gR (pc := 64) e dX7_readPipe_64 fd_X7_162 rfl ?_
  refine aw_aload_n (pc := 67) 1 dX7_readPipe_67 rfl ?_
  obtain ⟨v3, e, h⟩ := op_bd h
  refine ow_gR (pc := 68) e dX7_readPipe_68 fd_X7_42 rfl ?_
  obtain ⟨v4, e, h⟩ := op_bd h
  refine ow_gI (pc := 71) e dX7_readPipe_71 fd_X7_159 rfl ?_
  obtain ⟨v5, e, h⟩ := op_bd h
  refine ow_aR (pc := 74) e dX7_readPipe_74 (by decide) ?_
  refine aw_astore_n (pc := 75) [(2, .ref v5), (1, .int s0), (0, .ref x0)] dX7_readPipe_75 rfl (by decide) rfl ?_
  refine aw_aload_n (pc := 76) 2 dX7_readPipe_76 rfl ?_
  refine aw_aload_n (pc := 77) 0 dX7_readPipe_77 rfl ?_
  refine aw_iconst (pc := 78) (v := (0 : Int32)) dX7_readPipe_78 (by decide) ?_
  refine aw_iload_n (pc := 79) 1 dX7_readPipe_79 rfl ?_
  refine aw_bipush (pc := 80) (v := (99 : Int32)) dX7_readPipe_80 (by decide) ?_
  obtain ⟨r6, e, h⟩ := op_bd h
  refine ow_cVi (pc := 82) [.ref v5, .int (0 : Int32), .int s0, .int (99 : Int32)] ((c_X7_readInto _ _ _ _ _ _ _ e).mono (by decide)) (op_ck_sh e) rfl dX7_readPipe_82 cw_X7_117 rfl (Nat.le_of_ble_eq_true rfl) ?_
  refine aw_if_eq (pc := 85) 100 dX7_readPipe_85 (by decide) (fun z => ?_) (fun z => ?_)
  · replace h := (if_pos z).symm.trans h
    refine aw_iconst (pc := 100) (v := (0 : Int32)) dX7_readPipe_100 (by decide) ?_
    exact ow_zret (pc := 101) h dX7_readPipe_101 rfl
  · replace h := (if_neg z).symm.trans h
    refine aw_aload_n (pc := 88) 2 dX7_readPipe_88 rfl ?_
    refine aw_aload_n (pc := 89) 0 dX7_readPipe_89 rfl ?_
    refine aw_iconst (pc := 90) (v := (1 : Int32)) dX7_readPipe_90 (by decide) ?_
    refine aw_iconst (pc := 91) (v := (0 : Int32)) dX7_readPipe_91 (by decide) ?_
    refine aw_bipush (pc := 92) (v := (99 : Int32)) dX7_readPipe_92 (by decide) ?_
    obtain ⟨r7, e, h⟩ := op_bd h
    refine ow_cVi (pc := 94) [.ref v5, .int (1 : Int32), .int (0 : Int32), .int (99 : Int32)] ((c_X7_readInto _ _ _ _ _ _ _ e).mono (by decide)) (op_ck_sh e) rfl dX7_readPipe_94 cw_X7_117 rfl (Nat.le_of_ble_eq_true rfl) ?_
    refine aw_if_ne (pc := 97) 102 dX7_readPipe_97 (by decide) (fun z => ?_) (fun z => ?_)
    · replace h := (if_neg z).symm.trans h
      refine aw_aload_n (pc := 102) 2 dX7_readPipe_102 rfl ?_
      obtain ⟨v8, e, h⟩ := op_bd h
      refine ow_gR (pc := 103) e dX7_readPipe_103 fd_X7_42 rfl ?_
      refine aw_dup (pc := 106) dX7_readPipe_106 rfl ?_
      obtain ⟨v9, e, h⟩ := op_bd h
      refine ow_gI (pc := 107) e dX7_readPipe_107 fd_X7_159 rfl ?_
      refine aw_iconst (pc := 110) (v := (1 : Int32)) dX7_readPipe_110 (by decide) ?_
      refine aw_iadd (pc := 111) dX7_readPipe_111 ?_
      obtain ⟨σ10, e, h⟩ := op_bd h
      refine ow_pI (pc := 112) e dX7_readPipe_112 fd_X7_159 ?_
      refine aw_iconst (pc := 115) (v := (1 : Int32)) dX7_readPipe_115 (by decide) ?_
      exact ow_zret (pc := 116) h dX7_readPipe_116 rfl
    · replace h := (if_pos z).symm.trans h
      refine aw_iconst (pc := 100) (v := (0 : Int32)) dX7_readPipe_100 (by decide) ?_
      exact ow_zret (pc := 101) h dX7_readPipe_101 rfl
set_option maxRecDepth 100000 in
set_option maxHeartbeats 4000000 in
theorem c_X7_readPipe_0 {G : ah_G}   : ∀ (x0 : Nat) (σ : ah_H) (r : Int32 × ah_H), f_X7_readPipe_0   x0 σ = some r → AW G m_X7_readPipe 3 0 0 0 [(0, .ref x0)] [] σ (ah_N G (ah_ri r)) := by
  intro x0 σ r h
  unfold f_X7_readPipe_0 at h
  refine aw_aload_n (pc := 0) 0 dX7_readPipe_0 rfl ?_
  obtain ⟨v1, e, h⟩ := op_bd h
  refine ow_gR (pc := 1) e dX7_readPipe_1 fd_X7_42 rfl ?_
  obtain ⟨v2, e, h⟩ := op_bd h
  refine ow_gI (pc := 4) e dX7_readPipe_4 fd_X7_159 rfl ?_
  refine aw_iconst (pc := 7) (v := (4 : Int32)) dX7_readPipe_7 (by decide) ?_
  refine aw_icmp_lt (pc := 8) 17 dX7_readPipe_8 (by decide) (fun z => ?_) (fun z => ?_)
  · replace h := (if_pos z).symm.trans h
    refine aw_aload_n (pc := 17) 0 dX7_readPipe_17 rfl ?_
    obtain ⟨v3, e, h⟩ := op_bd h
    refine ow_gR (pc := 18) e dX7_readPipe_18 fd_X7_23 rfl ?_
    obtain ⟨r4, e, h⟩ := op_bd h
    refine ow_cVv (pc := 21) [] ((c_X8_step _ _ _ e).mono (by decide)) (op_ck_sh e) rfl dX7_readPipe_21 cw_X7_67 rfl (Nat.le_of_ble_eq_true rfl) ?_
    refine aw_aload_n (pc := 24) 0 dX7_readPipe_24 rfl ?_
    obtain ⟨v5, e, h⟩ := op_bd h
    refine ow_gR (pc := 25) e dX7_readPipe_25 fd_X7_42 rfl ?_
    obtain ⟨v6, e, h⟩ := op_bd h
    refine ow_gI (pc := 28) e dX7_readPipe_28 fd_X7_159 rfl ?_
    refine aw_if_ne (pc := 31) 38 dX7_readPipe_31 (by decide) (fun z => ?_) (fun z => ?_)
    · replace h := (if_neg z).symm.trans h
      refine aw_aload_n (pc := 38) 0 dX7_readPipe_38 rfl ?_
      obtain ⟨v7, e, h⟩ := op_bd h
      refine ow_gR (pc := 39) e dX7_readPipe_39 fd_X7_42 rfl ?_
      obtain ⟨v8, e, h⟩ := op_bd h
      refine ow_gR (pc := 42) e dX7_readPipe_42 fd_X7_162 rfl ?_
      refine aw_aload_n (pc := 45) 0 dX7_readPipe_45 rfl ?_
      obtain ⟨v9, e, h⟩ := op_bd h
      refine ow_gR (pc := 46) e dX7_readPipe_46 fd_X7_42 rfl ?_
      obtain ⟨v10, e, h⟩ := op_bd h
      refine ow_gI (pc := 49) e dX7_readPipe_49 fd_X7_159 rfl ?_
      refine aw_iconst (pc := 52) (v := (1 : Int32)) dX7_readPipe_52 (by decide) ?_
      refine aw_isub (pc := 53) dX7_readPipe_53 ?_
      obtain ⟨v11, e, h⟩ := op_bd h
      refine ow_aR (pc := 54) e dX7_readPipe_54 (by decide) ?_
      refine aw_iconst (pc := 55) (v := (0 : Int32)) dX7_readPipe_55 (by decide) ?_
      obtain ⟨v12, e, h⟩ := op_bd h
      refine ow_aI (pc := 56) e dX7_readPipe_56 ?_
      refine aw_iconst (pc := 57) (v := (1 : Int32)) dX7_readPipe_57 (by decide) ?_
      refine aw_iadd (pc := 58) dX7_readPipe_58 ?_
      exact c_X7_readPipe_59  _ _ _ _ h
    · replace h := (if_pos z).symm.trans h
      refine aw_iconst (pc := 34) (v := (1 : Int32)) dX7_readPipe_34 (by decide) ?_
      refine aw_goto (pc := 35) 59 dX7_readPipe_35 (by decide) ?_
      exact c_X7_readPipe_59  _ _ _ _ h
  · replace h := (if_neg z).symm.trans h
    refine aw_aload_n (pc := 11) 0 dX7_readPipe_11 rfl ?_
    refine aw_iconst (pc := 12) (v := (2 : Int32)) dX7_readPipe_12 (by decide) ?_
    obtain ⟨r13, e, h⟩ := op_bd h
    refine ow_cVi (pc := 13) [.int (2 : Int32)] ((c_X7_fail _ _ _ _ e).mono (by decide)) (op_ck_sh e) rfl dX7_readPipe_13 cw_X7_64 rfl (Nat.le_of_ble_eq_true rfl) ?_
    exact ow_zret (pc := 16) h dX7_readPipe_16 rfl
theorem c_X7_readPipe {G : ah_G}   (x0 : Nat) (σ : ah_H) (r : Int32 × ah_H) (h : f_X7_readPipe  x0 σ = some r) : AM G m_X7_readPipe 3 0 0 [.ref x0] σ (ah_ri r) := aw_enter (by decide) (Nat.le_of_ble_eq_true rfl) (c_X7_readPipe_0 _ _ _ (op_ck_k h))
def f_X7_readRain_111   (x0 : Nat) (x1 : Int32) (σ : ah_H) : Option (Int32 × ah_H) :=
  (op_gR 7 0 σ x0).bind fun v1 => (op_gI 8 8 σ v1).bind fun v2 => if v2 = (3 : Int32) then ((f_X7_fail x0 (2 : Int32) σ).bind fun r11 => (op_rz r11.1).map fun q => (q, r11.2)) else ((op_gR 7 2 σ x0).bind fun v3 => (op_gR 9 9 σ v3).bind fun v4 => (op_gR 7 2 σ x0).bind fun v5 => (op_gI 9 8 σ v5).bind fun v6 => (op_sI σ v4 v6 x1).bind fun σ7 => (op_gR 7 2 σ7 x0).bind fun v8 => (op_gI 9 8 σ7 v8).bind fun v9 => (op_pI 9 8 σ7 v8 (v9 + (1 : Int32))).bind fun σ10 => (op_rz (1 : Int32)).map fun q => (q, σ10))
def f_X7_readRain_74_b  (K74 : Nat → Int32 → Nat → Int32 → ah_H → Option (Int32 × ah_H)) (x0 : Nat) (x1 : Int32) (x2 : Nat) (x3 : Int32) (σ : ah_H) : Option (Int32 × ah_H) :=
  if (6 : Int32) ≤ x3 then (f_X7_readRain_111 x0 x1 σ) else ((op_gR 7 0 σ x0).bind fun v1 => (op_gI 8 8 σ v1).bind fun v2 => if v2 = (3 : Int32) then ((f_X7_readInto x0 x2 x3 (0 : Int32) (99 : Int32) σ).bind fun r3 => if r3.1 = 0 then ((op_rz (0 : Int32)).map fun q => (q, r3.2)) else (K74 x0 x1 x2 (x3 + (1 : Int32)) r3.2)) else (f_X7_readRain_111 x0 x1 σ))
def f_X7_readRain_74   : Nat → Nat → Int32 → Nat → Int32 → ah_H → Option (Int32 × ah_H)
  | 0, _, _, _, _, _ => none
  | n + 1, x0, x1, x2, x3, σ => f_X7_readRain_74_b (f_X7_readRain_74 n) x0 x1 x2 x3 σ
def f_X7_readRain_0   (x0 : Nat) (σ : ah_H) : Option (Int32 × ah_H) :=
  (op_gR 7 2 σ x0).bind fun v1 => (op_gI 9 8 σ v1).bind fun v2 => if v2 < (4 : Int32) then ((op_gR 7 0 σ x0).bind fun v3 => (f_X8_step v3 σ).bind fun r4 => (f_X7_readNewName x0 (1 : Int32) r4).bind fun r5 => if r5.1 = (-1 : Int32) then ((op_rz (0 : Int32)).map fun q => (q, r5.2)) else ((op_gR 7 2 r5.2 x0).bind fun v6 => (op_gR 9 10 r5.2 v6).bind fun v7 => (op_gR 7 2 r5.2 x0).bind fun v8 => (op_gI 9 8 r5.2 v8).bind fun v9 => (op_aR .int r5.2 v7 v9).bind fun v10 => (f_J7_fill_53178 v10 (0 : Int32) r5.2).bind fun r11 => (f_X7_readInto x0 v10 (0 : Int32) (0 : Int32) (99 : Int32) r11).bind fun r12 => if r12.1 = 0 then ((op_rz (0 : Int32)).map fun q => (q, r12.2)) else (f_X7_readRain_74 5000 x0 r5.1 v10 (1 : Int32) r12.2))) else ((f_X7_fail x0 (2 : Int32) σ).bind fun r13 => (op_rz r13.1).map fun q => (q, r13.2))
def f_X7_readRain  (x0 : Nat) (σ : ah_H) : Option (Int32 × ah_H) := op_ck 7 σ x0 (f_X7_readRain_0 x0 σ)
set_option maxRecDepth 100000 in
set_option maxHeartbeats 4000000 in
theorem c_X7_readRain_111 {G : ah_G}   : ∀ (x0 : Nat) (x1 : Int32) (σ : ah_H) (r : Int32 × ah_H), f_X7_readRain_111   x0 x1 σ = some r → AW G m_X7_readRain 3 0 0 111 [(0, .ref x0), (1, .int x1)] [] σ (ah_N G (ah_ri r)) := by
  intro x0 x1 σ r h
  unfold f_X7_readRain_111 at h
  refine aw_aload_n (pc := 111) 0 dX7_readRain_111 rfl ?_
  obtain ⟨v1, e, h⟩ := op_bd h
  refine ow_gR (pc := 112) e dX7_readRain_112 fd_X7_23 rfl ?_
  obtain ⟨v2, e, h⟩ := op_bd h
  refine ow_gI (pc := 115) e dX7_readRain_115 fd_X7_53 rfl ?_
  refine aw_iconst (pc := 118) (v := (3 : Int32)) dX7_readRain_118 (by decide) ?_
  refine aw_icmp_ne (pc := 119) 128 dX7_readRain_119 (by decide) (fun z => ?_) (fun z => ?_)
  · replace h := (if_neg z).symm.trans h
    refine aw_aload_n (pc := 128) 0 dX7_readRain_128 rfl ?_
    obtain ⟨v3, e, h⟩ := op_bd h
    refine ow_gR (pc := 129) e dX7_readRain_129 fd_X7_42 rfl ?_
    obtain ⟨v4, e, h⟩ := op_bd h
    refine ow_gR (pc := 132) e dX7_readRain_132 fd_X7_177 rfl ?_
    refine aw_aload_n (pc := 135) 0 dX7_readRain_135 rfl ?_
    obtain ⟨v5, e, h⟩ := op_bd h
    refine ow_gR (pc := 136) e dX7_readRain_136 fd_X7_42 rfl ?_
    obtain ⟨v6, e, h⟩ := op_bd h
    refine ow_gI (pc := 139) e dX7_readRain_139 fd_X7_165 rfl ?_
    refine aw_iload_n (pc := 142) 1 dX7_readRain_142 rfl ?_
    obtain ⟨σ7, e, h⟩ := op_bd h
    refine ow_sI (pc := 143) e dX7_readRain_143 ?_
    refine aw_aload_n (pc := 144) 0 dX7_readRain_144 rfl ?_
    obtain ⟨v8, e, h⟩ := op_bd h
    refine ow_gR (pc := 145) e dX7_readRain_145 fd_X7_42 rfl ?_
    refine aw_dup (pc := 148) dX7_readRain_148 rfl ?_
    obtain ⟨v9, e, h⟩ := op_bd h
    refine ow_gI (pc := 149) e dX7_readRain_149 fd_X7_165 rfl ?_
    refine aw_iconst (pc := 152) (v := (1 : Int32)) dX7_readRain_152 (by decide) ?_
    refine aw_iadd (pc := 153) dX7_readRain_153 ?_
    obtain ⟨σ10, e, h⟩ := op_bd h
    refine ow_pI (pc := 154) e dX7_readRain_154 fd_X7_165 ?_
    refine aw_iconst (pc := 157) (v := (1 : Int32)) dX7_readRain_157 (by decide) ?_
    exact ow_zret (pc := 158) h dX7_readRain_158 rfl
  · replace h := (if_pos z).symm.trans h
    refine aw_aload_n (pc := 122) 0 dX7_readRain_122 rfl ?_
    refine aw_iconst (pc := 123) (v := (2 : Int32)) dX7_readRain_123 (by decide) ?_
    obtain ⟨r11, e, h⟩ := op_bd h
    refine ow_cVi (pc := 124) [.int (2 : Int32)] ((c_X7_fail _ _ _ _ e).mono (by decide)) (op_ck_sh e) rfl dX7_readRain_124 cw_X7_64 rfl (Nat.le_of_ble_eq_true rfl) ?_
    exact ow_zret (pc := 127) h dX7_readRain_127 rfl
set_option maxRecDepth 100000 in
set_option maxHeartbeats 4000000 in
theorem c_X7_readRain_74_b {G : ah_G}  (K74 : Nat → Int32 → Nat → Int32 → ah_H → Option (Int32 × ah_H)) (hK74 : ∀ (x0 : Nat) (x1 : Int32) (x2 : Nat) (x3 : Int32) (σ : ah_H) (r : Int32 × ah_H), K74 x0 x1 x2 x3 σ = some r → AW G m_X7_readRain 3 0 0 74 [(0, .ref x0), (1, .int x1), (2, .ref x2), (3, .int x3)] [] σ (ah_N G (ah_ri r))) : ∀ (x0 : Nat) (x1 : Int32) (x2 : Nat) (x3 : Int32) (σ : ah_H) (r : Int32 × ah_H), f_X7_readRain_74_b  K74 x0 x1 x2 x3 σ = some r → AW G m_X7_readRain 3 0 0 74 [(0, .ref x0), (1, .int x1), (2, .ref x2), (3, .int x3)] [] σ (ah_N G (ah_ri r)) := by
  intro x0 x1 x2 x3 σ r h
  unfold f_X7_readRain_74_b at h
  refine aw_iload_n (pc := 74) 3 dX7_readRain_74 rfl ?_
  refine aw_bipush (pc := 75) (v := (6 : Int32)) dX7_readRain_75 (by decide) ?_
  refine aw_icmp_ge (pc := 77) 111 dX7_readRain_77 (by decide) (fun z => ?_) (fun z => ?_)
  · replace h := (if_pos z).symm.trans h
    refine aw_sub [0, 1] rfl ?_
    exact c_X7_readRain_111  _ _ _ _ h
  · replace h := (if_neg z).symm.trans h
    refine aw_aload_n (pc := 80) 0 dX7_readRain_80 rfl ?_
    obtain ⟨v1, e, h⟩ := op_bd h
    refine ow_gR (pc := 81) e dX7_readRain_81 fd_X7_23 rfl ?_
    obtain ⟨v2, e, h⟩ := op_bd h
    refine ow_gI (pc := 84) e dX7_readRain_84 fd_X7_53 rfl ?_
    refine aw_iconst (pc := 87) (v := (3 : Int32)) dX7_readRain_87 (by decide) ?_
    refine aw_icmp_ne (pc := 88) 111 dX7_readRain_88 (by decide) (fun z => ?_) (fun z => ?_)
    · replace h := (if_neg z).symm.trans h
      refine aw_sub [0, 1] rfl ?_
      exact c_X7_readRain_111  _ _ _ _ h
    · replace h := (if_pos z).symm.trans h
      refine aw_aload_n (pc := 91) 0 dX7_readRain_91 rfl ?_
      refine aw_aload_n (pc := 92) 2 dX7_readRain_92 rfl ?_
      refine aw_iload_n (pc := 93) 3 dX7_readRain_93 rfl ?_
      refine aw_iconst (pc := 94) (v := (0 : Int32)) dX7_readRain_94 (by decide) ?_
      refine aw_bipush (pc := 95) (v := (99 : Int32)) dX7_readRain_95 (by decide) ?_
      obtain ⟨r3, e, h⟩ := op_bd h
      refine ow_cVi (pc := 97) [.ref x2, .int x3, .int (0 : Int32), .int (99 : Int32)] ((c_X7_readInto _ _ _ _ _ _ _ e).mono (by decide)) (op_ck_sh e) rfl dX7_readRain_97 cw_X7_117 rfl (Nat.le_of_ble_eq_true rfl) ?_
      refine aw_if_ne (pc := 100) 105 dX7_readRain_100 (by decide) (fun z => ?_) (fun z => ?_)
      · replace h := (if_neg z).symm.trans h
        refine aw_iinc (pc := 105) 3 [(3, .int (x3 + (1 : Int32))), (0, .ref x0), (1, .int x1), (2, .ref x2)] (x3 + (1 : Int32)) dX7_readRain_105 rfl rfl (by decide) rfl ?_
        refine aw_goto (pc := 108) 74 dX7_readRain_108 (by decide) ?_
        refine aw_sub [1, 2, 3, 0] rfl ?_
        exact hK74 _ _ _ _ _ _ h
      · replace h := (if_pos z).symm.trans h
        refine aw_iconst (pc := 103) (v := (0 : Int32)) dX7_readRain_103 (by decide) ?_
        exact ow_zret (pc := 104) h dX7_readRain_104 rfl
theorem c_X7_readRain_74 {G : ah_G}   : ∀ (n : Nat) (x0 : Nat) (x1 : Int32) (x2 : Nat) (x3 : Int32) (σ : ah_H) (r : Int32 × ah_H), f_X7_readRain_74   n x0 x1 x2 x3 σ = some r → AW G m_X7_readRain 3 0 0 74 [(0, .ref x0), (1, .int x1), (2, .ref x2), (3, .int x3)] [] σ (ah_N G (ah_ri r)) := by
  intro n
  induction n with
  | zero => intro x0 x1 x2 x3 σ r h; cases h
  | succ n ih => intro x0 x1 x2 x3 σ r h; exact c_X7_readRain_74_b   _ ih x0 x1 x2 x3 σ r h
set_option maxRecDepth 100000 in
set_option maxHeartbeats 4000000 in
theorem c_X7_readRain_0 {G : ah_G}   : ∀ (x0 : Nat) (σ : ah_H) (r : Int32 × ah_H), f_X7_readRain_0   x0 σ = some r → AW G m_X7_readRain 3 0 0 0 [(0, .ref x0)] [] σ (ah_N G (ah_ri r)) := by
  intro x0 σ r h
  unfold f_X7_readRain_0 at h
  refine aw_aload_n (pc := 0) 0 dX7_readRain_0 rfl ?_
  obtain ⟨v1, e, h⟩ := op_bd h
  refine ow_gR (pc := 1) e dX7_readRain_1 fd_X7_42 rfl ?_
  obtain ⟨v2, e, h⟩ := op_bd h
  refine ow_gI (pc := 4) e dX7_readRain_4 fd_X7_165 rfl ?_
  refine aw_iconst (pc := 7) (v := (4 : Int32)) dX7_readRain_7 (by decide) ?_
  refine aw_icmp_lt (pc := 8) 17 dX7_readRain_8 (by decide) (fun z => ?_) (fun z => ?_)
  · replace h := (if_pos z).symm.trans h
    refine aw_aload_n (pc := 17) 0 dX7_readRain_17 rfl ?_
    obtain ⟨v3, e, h⟩ := op_bd h
    refine ow_gR (pc := 18) e dX7_readRain_18 fd_X7_23 rfl ?_
    obtain ⟨r4, e, h⟩ := op_bd h
    refine ow_cVv (pc := 21) [] ((c_X8_step _ _ _ e).mono (by decide)) (op_ck_sh e) rfl dX7_readRain_21 cw_X7_67 rfl (Nat.le_of_ble_eq_true rfl) ?_
    refine aw_aload_n (pc := 24) 0 dX7_readRain_24 rfl ?_
    refine aw_iconst (pc := 25) (v := (1 : Int32)) dX7_readRain_25 (by decide) ?_
    obtain ⟨r5, e, h⟩ := op_bd h
    refine ow_cVi (pc := 26) [.int (1 : Int32)] ((c_X7_readNewName _ _ _ _ e).mono (by decide)) (op_ck_sh e) rfl dX7_readRain_26 cw_X7_113 rfl (Nat.le_of_ble_eq_true rfl) ?_
    refine aw_istore_n (pc := 29) [(1, .int r5.1), (0, .ref x0)] dX7_readRain_29 rfl (by decide) rfl ?_
    refine aw_iload_n (pc := 30) 0 dX7_readRain_30 rfl ?_
    refine aw_iconst (pc := 31) (v := (-1 : Int32)) dX7_readRain_31 (by decide) ?_
    refine aw_icmp_ne (pc := 32) 37 dX7_readRain_32 (by decide) (fun z => ?_) (fun z => ?_)
    · replace h := (if_neg z).symm.trans h
      refine aw_aload_n (pc := 37) 1 dX7_readRain_37 rfl ?_
      obtain ⟨v6, e, h⟩ := op_bd h
      refine ow_gR (pc := 38) e dX7_readRain_38 fd_X7_42 rfl ?_
      obtain ⟨v7, e, h⟩ := op_bd h
      refine ow_gR (pc := 41) e dX7_readRain_41 fd_X7_168 rfl ?_
      refine aw_aload_n (pc := 44) 1 dX7_readRain_44 rfl ?_
      obtain ⟨v8, e, h⟩ := op_bd h
      refine ow_gR (pc := 45) e dX7_readRain_45 fd_X7_42 rfl ?_
      obtain ⟨v9, e, h⟩ := op_bd h
      refine ow_gI (pc := 48) e dX7_readRain_48 fd_X7_165 rfl ?_
      obtain ⟨v10, e, h⟩ := op_bd h
      refine ow_aR (pc := 51) e dX7_readRain_51 (by decide) ?_
      refine aw_astore_n (pc := 52) [(2, .ref v10), (1, .int r5.1), (0, .ref x0)] dX7_readRain_52 rfl (by decide) rfl ?_
      refine aw_aload_n (pc := 53) 0 dX7_readRain_53 rfl ?_
      refine aw_iconst (pc := 54) (v := (0 : Int32)) dX7_readRain_54 (by decide) ?_
      obtain ⟨r11, e, h⟩ := op_bd h
      refine ow_cSv (pc := 55) [.ref v10, .int (0 : Int32)] ((c_J7_fill_53178 _ _ _ _ e).mono (by decide)) rfl dX7_readRain_55 cw_X7_171 rfl (Nat.le_of_ble_eq_true rfl) ?_
      refine aw_aload_n (pc := 58) 2 dX7_readRain_58 rfl ?_
      refine aw_aload_n (pc := 59) 0 dX7_readRain_59 rfl ?_
      refine aw_iconst (pc := 60) (v := (0 : Int32)) dX7_readRain_60 (by decide) ?_
      refine aw_iconst (pc := 61) (v := (0 : Int32)) dX7_readRain_61 (by decide) ?_
      refine aw_bipush (pc := 62) (v := (99 : Int32)) dX7_readRain_62 (by decide) ?_
      obtain ⟨r12, e, h⟩ := op_bd h
      refine ow_cVi (pc := 64) [.ref v10, .int (0 : Int32), .int (0 : Int32), .int (99 : Int32)] ((c_X7_readInto _ _ _ _ _ _ _ e).mono (by decide)) (op_ck_sh e) rfl dX7_readRain_64 cw_X7_117 rfl (Nat.le_of_ble_eq_true rfl) ?_
      refine aw_if_ne (pc := 67) 72 dX7_readRain_67 (by decide) (fun z => ?_) (fun z => ?_)
      · replace h := (if_neg z).symm.trans h
        refine aw_iconst (pc := 72) (v := (1 : Int32)) dX7_readRain_72 (by decide) ?_
        refine aw_istore_n (pc := 73) [(3, .int (1 : Int32)), (2, .ref v10), (1, .int r5.1), (0, .ref x0)] dX7_readRain_73 rfl (by decide) rfl ?_
        refine aw_sub [3, 2, 1, 0] rfl ?_
        exact c_X7_readRain_74  _ _ _ _ _ _ _ h
      · replace h := (if_pos z).symm.trans h
        refine aw_iconst (pc := 70) (v := (0 : Int32)) dX7_readRain_70 (by decide) ?_
        exact ow_zret (pc := 71) h dX7_readRain_71 rfl
    · replace h := (if_pos z).symm.trans h
      refine aw_iconst (pc := 35) (v := (0 : Int32)) dX7_readRain_35 (by decide) ?_
      exact ow_zret (pc := 36) h dX7_readRain_36 rfl
  · replace h := (if_neg z).symm.trans h
    refine aw_aload_n (pc := 11) 0 dX7_readRain_11 rfl ?_
    refine aw_iconst (pc := 12) (v := (2 : Int32)) dX7_readRain_12 (by decide) ?_
    obtain ⟨r13, e, h⟩ := op_bd h
    refine ow_cVi (pc := 13) [.int (2 : Int32)] ((c_X7_fail _ _ _ _ e).mono (by decide)) (op_ck_sh e) rfl dX7_readRain_13 cw_X7_64 rfl (Nat.le_of_ble_eq_true rfl) ?_
    exact ow_zret (pc := 16) h dX7_readRain_16 rfl
theorem c_X7_readRain {G : ah_G}   (x0 : Nat) (σ : ah_H) (r : Int32 × ah_H) (h : f_X7_readRain  x0 σ = some r) : AM G m_X7_readRain 3 0 0 [.ref x0] σ (ah_ri r) := aw_enter (by decide) (Nat.le_of_ble_eq_true rfl) (c_X7_readRain_0 _ _ _ (op_ck_k h))
def f_X7_findCorner_0   (x0 : Nat) (σ : ah_H) : Option (Int32 × ah_H) :=
  (op_gR 7 0 σ x0).bind fun v1 => (op_gI 8 8 σ v1).bind fun v2 => if v2 = (1 : Int32) then ((op_gR 7 2 σ x0).bind fun v3 => (op_gR 7 0 σ x0).bind fun v4 => (op_gI 8 9 σ v4).bind fun v5 => (f_X9_find v3 (0 : Int32) v5 σ).bind fun r6 => if r6.1 = (-1 : Int32) then ((f_X7_fail x0 (4 : Int32) r6.2).bind fun r7 => some (r6.1, r7.2)) else (some (r6.1, r6.2))) else ((f_X7_fail x0 (1 : Int32) σ).bind fun r8 => some ((-1 : Int32), r8.2))
def f_X7_findCorner  (x0 : Nat) (σ : ah_H) : Option (Int32 × ah_H) := op_ck 7 σ x0 (f_X7_findCorner_0 x0 σ)
set_option maxRecDepth 100000 in
set_option maxHeartbeats 4000000 in
theorem c_X7_findCorner_0 {G : ah_G}   : ∀ (x0 : Nat) (σ : ah_H) (r : Int32 × ah_H), f_X7_findCorner_0   x0 σ = some r → AW G m_X7_findCorner 1 0 0 0 [(0, .ref x0)] [] σ (ah_N G (ah_ri r)) := by
  intro x0 σ r h
  unfold f_X7_findCorner_0 at h
  refine aw_aload_n (pc := 0) 0 dX7_findCorner_0 rfl ?_
  obtain ⟨v1, e, h⟩ := op_bd h
  refine ow_gR (pc := 1) e dX7_findCorner_1 fd_X7_23 rfl ?_
  obtain ⟨v2, e, h⟩ := op_bd h
  refine ow_gI (pc := 4) e dX7_findCorner_4 fd_X7_53 rfl ?_
  refine aw_iconst (pc := 7) (v := (1 : Int32)) dX7_findCorner_7 (by decide) ?_
  refine aw_icmp_eq (pc := 8) 19 dX7_findCorner_8 (by decide) (fun z => ?_) (fun z => ?_)
  · replace h := (if_pos z).symm.trans h
    refine aw_aload_n (pc := 19) 0 dX7_findCorner_19 rfl ?_
    obtain ⟨v3, e, h⟩ := op_bd h
    refine ow_gR (pc := 20) e dX7_findCorner_20 fd_X7_42 rfl ?_
    refine aw_iconst (pc := 23) (v := (0 : Int32)) dX7_findCorner_23 (by decide) ?_
    refine aw_aload_n (pc := 24) 0 dX7_findCorner_24 rfl ?_
    obtain ⟨v4, e, h⟩ := op_bd h
    refine ow_gR (pc := 25) e dX7_findCorner_25 fd_X7_23 rfl ?_
    obtain ⟨v5, e, h⟩ := op_bd h
    refine ow_gI (pc := 28) e dX7_findCorner_28 fd_X7_71 rfl ?_
    obtain ⟨r6, e, h⟩ := op_bd h
    refine ow_cVi (pc := 31) [.int (0 : Int32), .int v5] ((c_X9_find _ _ _ _ _ e).mono (by decide)) (op_ck_sh e) rfl dX7_findCorner_31 cw_X7_194 rfl (Nat.le_of_ble_eq_true rfl) ?_
    refine aw_istore_n (pc := 34) [(1, .int r6.1), (0, .ref x0)] dX7_findCorner_34 rfl (by decide) rfl ?_
    refine aw_iload_n (pc := 35) 0 dX7_findCorner_35 rfl ?_
    refine aw_iconst (pc := 36) (v := (-1 : Int32)) dX7_findCorner_36 (by decide) ?_
    refine aw_icmp_ne (pc := 37) 46 dX7_findCorner_37 (by decide) (fun z => ?_) (fun z => ?_)
    · replace h := (if_neg z).symm.trans h
      refine aw_iload_n (pc := 46) 0 dX7_findCorner_46 rfl ?_
      exact ow_iret (pc := 47) h dX7_findCorner_47 rfl
    · replace h := (if_pos z).symm.trans h
      refine aw_aload_n (pc := 40) 1 dX7_findCorner_40 rfl ?_
      refine aw_iconst (pc := 41) (v := (4 : Int32)) dX7_findCorner_41 (by decide) ?_
      obtain ⟨r7, e, h⟩ := op_bd h
      refine ow_cVi (pc := 42) [.int (4 : Int32)] ((c_X7_fail _ _ _ _ e).mono (by decide)) (op_ck_sh e) rfl dX7_findCorner_42 cw_X7_64 rfl (Nat.le_of_ble_eq_true rfl) ?_
      refine aw_pop (pc := 45) dX7_findCorner_45 rfl ?_
      refine aw_iload_n (pc := 46) 0 dX7_findCorner_46 rfl ?_
      exact ow_iret (pc := 47) h dX7_findCorner_47 rfl
  · replace h := (if_neg z).symm.trans h
    refine aw_aload_n (pc := 11) 0 dX7_findCorner_11 rfl ?_
    refine aw_iconst (pc := 12) (v := (1 : Int32)) dX7_findCorner_12 (by decide) ?_
    obtain ⟨r8, e, h⟩ := op_bd h
    refine ow_cVi (pc := 13) [.int (1 : Int32)] ((c_X7_fail _ _ _ _ e).mono (by decide)) (op_ck_sh e) rfl dX7_findCorner_13 cw_X7_64 rfl (Nat.le_of_ble_eq_true rfl) ?_
    refine aw_pop (pc := 16) dX7_findCorner_16 rfl ?_
    refine aw_iconst (pc := 17) (v := (-1 : Int32)) dX7_findCorner_17 (by decide) ?_
    exact ow_iret (pc := 18) h dX7_findCorner_18 rfl
theorem c_X7_findCorner {G : ah_G}   (x0 : Nat) (σ : ah_H) (r : Int32 × ah_H) (h : f_X7_findCorner  x0 σ = some r) : AM G m_X7_findCorner 1 0 0 [.ref x0] σ (ah_ri r) := aw_enter (by decide) (Nat.le_of_ble_eq_true rfl) (c_X7_findCorner_0 _ _ _ (op_ck_k h))
def f_X7_readCornerName_0   (x0 : Nat) (σ : ah_H) : Option (Int32 × ah_H) :=
  (f_X7_findCorner x0 σ).bind fun r1 => if r1.1 = (-1 : Int32) then (some (r1.1, r1.2)) else ((op_gR 7 0 r1.2 x0).bind fun v2 => (f_X8_step v2 r1.2).bind fun r3 => some (r1.1, r3))
def f_X7_readCornerName  (x0 : Nat) (σ : ah_H) : Option (Int32 × ah_H) := op_ck 7 σ x0 (f_X7_readCornerName_0 x0 σ)
set_option maxRecDepth 100000 in
set_option maxHeartbeats 4000000 in
theorem c_X7_readCornerName_0 {G : ah_G}   : ∀ (x0 : Nat) (σ : ah_H) (r : Int32 × ah_H), f_X7_readCornerName_0   x0 σ = some r → AW G m_X7_readCornerName 2 0 0 0 [(0, .ref x0)] [] σ (ah_N G (ah_ri r)) := by
  intro x0 σ r h
  unfold f_X7_readCornerName_0 at h
  refine aw_aload_n (pc := 0) 0 dX7_readCornerName_0 rfl ?_
  obtain ⟨r1, e, h⟩ := op_bd h
  refine ow_cVi (pc := 1) [] ((c_X7_findCorner _ _ _ e).mono (by decide)) (op_ck_sh e) rfl dX7_readCornerName_1 cw_X7_152 rfl (Nat.le_of_ble_eq_true rfl) ?_
  refine aw_istore_n (pc := 4) [(1, .int r1.1), (0, .ref x0)] dX7_readCornerName_4 rfl (by decide) rfl ?_
  refine aw_iload_n (pc := 5) 0 dX7_readCornerName_5 rfl ?_
  refine aw_iconst (pc := 6) (v := (-1 : Int32)) dX7_readCornerName_6 (by decide) ?_
  refine aw_icmp_eq (pc := 7) 17 dX7_readCornerName_7 (by decide) (fun z => ?_) (fun z => ?_)
  · replace h := (if_pos z).symm.trans h
    refine aw_iload_n (pc := 17) 0 dX7_readCornerName_17 rfl ?_
    exact ow_iret (pc := 18) h dX7_readCornerName_18 rfl
  · replace h := (if_neg z).symm.trans h
    refine aw_aload_n (pc := 10) 1 dX7_readCornerName_10 rfl ?_
    obtain ⟨v2, e, h⟩ := op_bd h
    refine ow_gR (pc := 11) e dX7_readCornerName_11 fd_X7_23 rfl ?_
    obtain ⟨r3, e, h⟩ := op_bd h
    refine ow_cVv (pc := 14) [] ((c_X8_step _ _ _ e).mono (by decide)) (op_ck_sh e) rfl dX7_readCornerName_14 cw_X7_67 rfl (Nat.le_of_ble_eq_true rfl) ?_
    refine aw_iload_n (pc := 17) 0 dX7_readCornerName_17 rfl ?_
    exact ow_iret (pc := 18) h dX7_readCornerName_18 rfl
theorem c_X7_readCornerName {G : ah_G}   (x0 : Nat) (σ : ah_H) (r : Int32 × ah_H) (h : f_X7_readCornerName  x0 σ = some r) : AM G m_X7_readCornerName 2 0 0 [.ref x0] σ (ah_ri r) := aw_enter (by decide) (Nat.le_of_ble_eq_true rfl) (c_X7_readCornerName_0 _ _ _ (op_ck_k h))
def f_X7_readRiver_0   (x0 : Nat) (σ : ah_H) : Option (Int32 × ah_H) :=
  (f_X7_tellOnce x0 (1 : Int32) σ).bind fun r1 => if r1.1 = 0 then ((op_rz (0 : Int32)).map fun q => (q, r1.2)) else ((op_gR 7 2 r1.2 x0).bind fun v2 => (f_X7_readCornerName x0 r1.2).bind fun r3 => (op_pI 9 2 r3.2 v2 r3.1).bind fun σ4 => (op_gR 7 2 σ4 x0).bind fun v5 => (op_gI 9 2 σ4 v5).bind fun v6 => if v6 = (-1 : Int32) then ((op_rz (0 : Int32)).map fun q => (q, σ4)) else ((op_gR 7 2 σ4 x0).bind fun v7 => (f_X7_readNumber x0 (0 : Int32) (999 : Int32) σ4).bind fun r8 => (op_pI 9 3 r8.2 v7 r8.1).bind fun σ9 => (op_gR 7 2 σ9 x0).bind fun v10 => (op_gI 9 3 σ9 v10).bind fun v11 => if v11 = (-1 : Int32) then ((op_rz (0 : Int32)).map fun q => (q, σ9)) else ((op_rz (1 : Int32)).map fun q => (q, σ9))))
def f_X7_readRiver  (x0 : Nat) (σ : ah_H) : Option (Int32 × ah_H) := op_ck 7 σ x0 (f_X7_readRiver_0 x0 σ)
set_option maxRecDepth 100000 in
set_option maxHeartbeats 4000000 in
theorem c_X7_readRiver_0 {G : ah_G}   : ∀ (x0 : Nat) (σ : ah_H) (r : Int32 × ah_H), f_X7_readRiver_0   x0 σ = some r → AW G m_X7_readRiver 3 0 0 0 [(0, .ref x0)] [] σ (ah_N G (ah_ri r)) := by
  intro x0 σ r h
  unfold f_X7_readRiver_0 at h
  refine aw_aload_n (pc := 0) 0 dX7_readRiver_0 rfl ?_
  refine aw_iconst (pc := 1) (v := (1 : Int32)) dX7_readRiver_1 (by decide) ?_
  obtain ⟨r1, e, h⟩ := op_bd h
  refine ow_cVi (pc := 2) [.int (1 : Int32)] ((c_X7_tellOnce _ _ _ _ e).mono (by decide)) (op_ck_sh e) rfl dX7_readRiver_2 cw_X7_125 rfl (Nat.le_of_ble_eq_true rfl) ?_
  refine aw_if_ne (pc := 5) 10 dX7_readRiver_5 (by decide) (fun z => ?_) (fun z => ?_)
  · replace h := (if_neg z).symm.trans h
    refine aw_aload_n (pc := 10) 0 dX7_readRiver_10 rfl ?_
    obtain ⟨v2, e, h⟩ := op_bd h
    refine ow_gR (pc := 11) e dX7_readRiver_11 fd_X7_42 rfl ?_
    refine aw_aload_n (pc := 14) 0 dX7_readRiver_14 rfl ?_
    obtain ⟨r3, e, h⟩ := op_bd h
    refine ow_cVi (pc := 15) [] ((c_X7_readCornerName _ _ _ e).mono (by decide)) (op_ck_sh e) rfl dX7_readRiver_15 cw_X7_128 rfl (Nat.le_of_ble_eq_true rfl) ?_
    obtain ⟨σ4, e, h⟩ := op_bd h
    refine ow_pI (pc := 18) e dX7_readRiver_18 fd_X7_132 ?_
    refine aw_aload_n (pc := 21) 0 dX7_readRiver_21 rfl ?_
    obtain ⟨v5, e, h⟩ := op_bd h
    refine ow_gR (pc := 22) e dX7_readRiver_22 fd_X7_42 rfl ?_
    obtain ⟨v6, e, h⟩ := op_bd h
    refine ow_gI (pc := 25) e dX7_readRiver_25 fd_X7_132 rfl ?_
    refine aw_iconst (pc := 28) (v := (-1 : Int32)) dX7_readRiver_28 (by decide) ?_
    refine aw_icmp_ne (pc := 29) 34 dX7_readRiver_29 (by decide) (fun z => ?_) (fun z => ?_)
    · replace h := (if_neg z).symm.trans h
      refine aw_aload_n (pc := 34) 0 dX7_readRiver_34 rfl ?_
      obtain ⟨v7, e, h⟩ := op_bd h
      refine ow_gR (pc := 35) e dX7_readRiver_35 fd_X7_42 rfl ?_
      refine aw_aload_n (pc := 38) 0 dX7_readRiver_38 rfl ?_
      refine aw_iconst (pc := 39) (v := (0 : Int32)) dX7_readRiver_39 (by decide) ?_
      refine aw_sipush (pc := 40) (v := (999 : Int32)) dX7_readRiver_40 (by decide) ?_
      obtain ⟨r8, e, h⟩ := op_bd h
      refine ow_cVi (pc := 43) [.int (0 : Int32), .int (999 : Int32)] ((c_X7_readNumber _ _ _ _ _ e).mono (by decide)) (op_ck_sh e) rfl dX7_readRiver_43 cw_X7_135 rfl (Nat.le_of_ble_eq_true rfl) ?_
      obtain ⟨σ9, e, h⟩ := op_bd h
      refine ow_pI (pc := 46) e dX7_readRiver_46 fd_X7_139 ?_
      refine aw_aload_n (pc := 49) 0 dX7_readRiver_49 rfl ?_
      obtain ⟨v10, e, h⟩ := op_bd h
      refine ow_gR (pc := 50) e dX7_readRiver_50 fd_X7_42 rfl ?_
      obtain ⟨v11, e, h⟩ := op_bd h
      refine ow_gI (pc := 53) e dX7_readRiver_53 fd_X7_139 rfl ?_
      refine aw_iconst (pc := 56) (v := (-1 : Int32)) dX7_readRiver_56 (by decide) ?_
      refine aw_icmp_eq (pc := 57) 64 dX7_readRiver_57 (by decide) (fun z => ?_) (fun z => ?_)
      · replace h := (if_pos z).symm.trans h
        refine aw_iconst (pc := 64) (v := (0 : Int32)) dX7_readRiver_64 (by decide) ?_
        exact ow_zret (pc := 65) h dX7_readRiver_65 rfl
      · replace h := (if_neg z).symm.trans h
        refine aw_iconst (pc := 60) (v := (1 : Int32)) dX7_readRiver_60 (by decide) ?_
        refine aw_goto (pc := 61) 65 dX7_readRiver_61 (by decide) ?_
        exact ow_zret (pc := 65) h dX7_readRiver_65 rfl
    · replace h := (if_pos z).symm.trans h
      refine aw_iconst (pc := 32) (v := (0 : Int32)) dX7_readRiver_32 (by decide) ?_
      exact ow_zret (pc := 33) h dX7_readRiver_33 rfl
  · replace h := (if_pos z).symm.trans h
    refine aw_iconst (pc := 8) (v := (0 : Int32)) dX7_readRiver_8 (by decide) ?_
    exact ow_zret (pc := 9) h dX7_readRiver_9 rfl
theorem c_X7_readRiver {G : ah_G}   (x0 : Nat) (σ : ah_H) (r : Int32 × ah_H) (h : f_X7_readRiver  x0 σ = some r) : AM G m_X7_readRiver 3 0 0 [.ref x0] σ (ah_ri r) := aw_enter (by decide) (Nat.le_of_ble_eq_true rfl) (c_X7_readRiver_0 _ _ _ (op_ck_k h))
def f_X9_isJoined_2_b  (K2 : Nat → Int32 → Int32 → Int32 → ah_H → Option (Int32 × ah_H)) (x0 : Nat) (x1 : Int32) (x2 : Int32) (x3 : Int32) (σ : ah_H) : Option (Int32 × ah_H) :=
  (op_gI 9 4 σ x0).bind fun v1 => if v1 ≤ x3 then ((op_rz (0 : Int32)).map fun q => (q, σ)) else ((f_X9_endBits x0 x3 σ).bind fun r2 => if r2.1 = (((1 : Int32) <<< (x1 &&& 31)) ||| ((1 : Int32) <<< (x2 &&& 31))) then ((op_rz (1 : Int32)).map fun q => (q, r2.2)) else (K2 x0 x1 x2 (x3 + (1 : Int32)) r2.2))
def f_X9_isJoined_2   : Nat → Nat → Int32 → Int32 → Int32 → ah_H → Option (Int32 × ah_H)
  | 0, _, _, _, _, _ => none
  | n + 1, x0, x1, x2, x3, σ => f_X9_isJoined_2_b (f_X9_isJoined_2 n) x0 x1 x2 x3 σ
def f_X9_isJoined_0   (x0 : Nat) (x1 : Int32) (x2 : Int32) (σ : ah_H) : Option (Int32 × ah_H) :=
  f_X9_isJoined_2 5000 x0 x1 x2 (0 : Int32) σ
def f_X9_isJoined  (x0 : Nat) (x1 : Int32) (x2 : Int32) (σ : ah_H) : Option (Int32 × ah_H) := op_ck 9 σ x0 (f_X9_isJoined_0 x0 x1 x2 σ)
set_option maxRecDepth 100000 in
set_option maxHeartbeats 4000000 in
theorem c_X9_isJoined_2_b {G : ah_G}  (K2 : Nat → Int32 → Int32 → Int32 → ah_H → Option (Int32 × ah_H)) (hK2 : ∀ (x0 : Nat) (x1 : Int32) (x2 : Int32) (x3 : Int32) (σ : ah_H) (r : Int32 × ah_H), K2 x0 x1 x2 x3 σ = some r → AW G m_X9_isJoined 1 0 0 2 [(0, .ref x0), (1, .int x1), (2, .int x2), (3, .int x3)] [] σ (ah_N G (ah_ri r))) : ∀ (x0 : Nat) (x1 : Int32) (x2 : Int32) (x3 : Int32) (σ : ah_H) (r : Int32 × ah_H), f_X9_isJoined_2_b  K2 x0 x1 x2 x3 σ = some r → AW G m_X9_isJoined 1 0 0 2 [(0, .ref x0), (1, .int x1), (2, .int x2), (3, .int x3)] [] σ (ah_N G (ah_ri r)) := by
  intro x0 x1 x2 x3 σ r h
  unfold f_X9_isJoined_2_b at h
  refine aw_iload_n (pc := 2) 3 dX9_isJoined_2 rfl ?_
  refine aw_aload_n (pc := 3) 0 dX9_isJoined_3 rfl ?_
  obtain ⟨v1, e, h⟩ := op_bd h
  refine ow_gI (pc := 4) e dX9_isJoined_4 fd_X9_55 rfl ?_
  refine aw_icmp_ge (pc := 7) 33 dX9_isJoined_7 (by decide) (fun z => ?_) (fun z => ?_)
  · replace h := (if_pos z).symm.trans h
    refine aw_iconst (pc := 33) (v := (0 : Int32)) dX9_isJoined_33 (by decide) ?_
    exact ow_zret (pc := 34) h dX9_isJoined_34 rfl
  · replace h := (if_neg z).symm.trans h
    refine aw_aload_n (pc := 10) 0 dX9_isJoined_10 rfl ?_
    refine aw_iload_n (pc := 11) 3 dX9_isJoined_11 rfl ?_
    obtain ⟨r2, e, h⟩ := op_bd h
    refine ow_cVi (pc := 12) [.int x3] ((c_X9_endBits _ _ _ _ e).mono (by decide)) (op_ck_sh e) rfl dX9_isJoined_12 cw_X9_71 rfl (Nat.le_of_ble_eq_true rfl) ?_
    refine aw_iconst (pc := 15) (v := (1 : Int32)) dX9_isJoined_15 (by decide) ?_
    refine aw_iload_n (pc := 16) 1 dX9_isJoined_16 rfl ?_
    refine aw_ishl (pc := 17) dX9_isJoined_17 ?_
    refine aw_iconst (pc := 18) (v := (1 : Int32)) dX9_isJoined_18 (by decide) ?_
    refine aw_iload_n (pc := 19) 2 dX9_isJoined_19 rfl ?_
    refine aw_ishl (pc := 20) dX9_isJoined_20 ?_
    refine aw_ior (pc := 21) dX9_isJoined_21 ?_
    refine aw_icmp_ne (pc := 22) 27 dX9_isJoined_22 (by decide) (fun z => ?_) (fun z => ?_)
    · replace h := (if_neg z).symm.trans h
      refine aw_iinc (pc := 27) 3 [(3, .int (x3 + (1 : Int32))), (0, .ref x0), (1, .int x1), (2, .int x2)] (x3 + (1 : Int32)) dX9_isJoined_27 rfl rfl (by decide) rfl ?_
      refine aw_goto (pc := 30) 2 dX9_isJoined_30 (by decide) ?_
      refine aw_sub [1, 2, 3, 0] rfl ?_
      exact hK2 _ _ _ _ _ _ h
    · replace h := (if_pos z).symm.trans h
      refine aw_iconst (pc := 25) (v := (1 : Int32)) dX9_isJoined_25 (by decide) ?_
      exact ow_zret (pc := 26) h dX9_isJoined_26 rfl
theorem c_X9_isJoined_2 {G : ah_G}   : ∀ (n : Nat) (x0 : Nat) (x1 : Int32) (x2 : Int32) (x3 : Int32) (σ : ah_H) (r : Int32 × ah_H), f_X9_isJoined_2   n x0 x1 x2 x3 σ = some r → AW G m_X9_isJoined 1 0 0 2 [(0, .ref x0), (1, .int x1), (2, .int x2), (3, .int x3)] [] σ (ah_N G (ah_ri r)) := by
  intro n
  induction n with
  | zero => intro x0 x1 x2 x3 σ r h; cases h
  | succ n ih => intro x0 x1 x2 x3 σ r h; exact c_X9_isJoined_2_b   _ ih x0 x1 x2 x3 σ r h
set_option maxRecDepth 100000 in
set_option maxHeartbeats 4000000 in
theorem c_X9_isJoined_0 {G : ah_G}   : ∀ (x0 : Nat) (x1 : Int32) (x2 : Int32) (σ : ah_H) (r : Int32 × ah_H), f_X9_isJoined_0   x0 x1 x2 σ = some r → AW G m_X9_isJoined 1 0 0 0 [(0, .ref x0), (1, .int x1), (2, .int x2)] [] σ (ah_N G (ah_ri r)) := by
  intro x0 x1 x2 σ r h
  unfold f_X9_isJoined_0 at h
  refine aw_iconst (pc := 0) (v := (0 : Int32)) dX9_isJoined_0 (by decide) ?_
  refine aw_istore_n (pc := 1) [(3, .int (0 : Int32)), (0, .ref x0), (1, .int x1), (2, .int x2)] dX9_isJoined_1 rfl (by decide) rfl ?_
  refine aw_sub [1, 2, 3, 0] rfl ?_
  exact c_X9_isJoined_2  _ _ _ _ _ _ _ h
theorem c_X9_isJoined {G : ah_G}   (x0 : Nat) (x1 : Int32) (x2 : Int32) (σ : ah_H) (r : Int32 × ah_H) (h : f_X9_isJoined  x0 x1 x2 σ = some r) : AM G m_X9_isJoined 1 0 0 [.ref x0, .int x1, .int x2] σ (ah_ri r) := aw_enter (by decide) (Nat.le_of_ble_eq_true rfl) (c_X9_isJoined_0 _ _ _ _ _ (op_ck_k h))
def f_X7_readOtherEnd_0   (x0 : Nat) (x1 : Nat) (σ : ah_H) : Option (Int32 × ah_H) :=
  (f_X7_findCorner x0 σ).bind fun r1 => if r1.1 = (-1 : Int32) then ((op_rz (0 : Int32)).map fun q => (q, r1.2)) else ((op_aI r1.2 x1 (0 : Int32)).bind fun v2 => if r1.1 = v2 then ((f_X7_fail x0 (5 : Int32) r1.2).bind fun r10 => (op_rz r10.1).map fun q => (q, r10.2)) else ((op_gR 7 2 r1.2 x0).bind fun v3 => (op_aI r1.2 x1 (0 : Int32)).bind fun v4 => (f_X9_isJoined v3 v4 r1.1 r1.2).bind fun r5 => if r5.1 = 0 then ((op_sI r5.2 x1 (1 : Int32) r1.1).bind fun σ6 => (op_gR 7 0 σ6 x0).bind fun v7 => (f_X8_step v7 σ6).bind fun r8 => (op_rz (1 : Int32)).map fun q => (q, r8)) else ((f_X7_fail x0 (3 : Int32) r5.2).bind fun r9 => (op_rz r9.1).map fun q => (q, r9.2))))
def f_X7_readOtherEnd  (x0 : Nat) (x1 : Nat) (σ : ah_H) : Option (Int32 × ah_H) := op_ck 7 σ x0 (f_X7_readOtherEnd_0 x0 x1 σ)
set_option maxRecDepth 100000 in
set_option maxHeartbeats 4000000 in
theorem c_X7_readOtherEnd_0 {G : ah_G}   : ∀ (x0 : Nat) (x1 : Nat) (σ : ah_H) (r : Int32 × ah_H), f_X7_readOtherEnd_0   x0 x1 σ = some r → AW G m_X7_readOtherEnd 2 0 0 0 [(0, .ref x0), (1, .ref x1)] [] σ (ah_N G (ah_ri r)) := by
  intro x0 x1 σ r h
  unfold f_X7_readOtherEnd_0 at h
  refine aw_aload_n (pc := 0) 0 dX7_readOtherEnd_0 rfl ?_
  obtain ⟨r1, e, h⟩ := op_bd h
  refine ow_cVi (pc := 1) [] ((c_X7_findCorner _ _ _ e).mono (by decide)) (op_ck_sh e) rfl dX7_readOtherEnd_1 cw_X7_152 rfl (Nat.le_of_ble_eq_true rfl) ?_
  refine aw_istore_n (pc := 4) [(2, .int r1.1), (0, .ref x0), (1, .ref x1)] dX7_readOtherEnd_4 rfl (by decide) rfl ?_
  refine aw_iload_n (pc := 5) 0 dX7_readOtherEnd_5 rfl ?_
  refine aw_iconst (pc := 6) (v := (-1 : Int32)) dX7_readOtherEnd_6 (by decide) ?_
  refine aw_icmp_ne (pc := 7) 12 dX7_readOtherEnd_7 (by decide) (fun z => ?_) (fun z => ?_)
  · replace h := (if_neg z).symm.trans h
    refine aw_iload_n (pc := 12) 0 dX7_readOtherEnd_12 rfl ?_
    refine aw_aload_n (pc := 13) 2 dX7_readOtherEnd_13 rfl ?_
    refine aw_iconst (pc := 14) (v := (0 : Int32)) dX7_readOtherEnd_14 (by decide) ?_
    obtain ⟨v2, e, h⟩ := op_bd h
    refine ow_aI (pc := 15) e dX7_readOtherEnd_15 ?_
    refine aw_icmp_ne (pc := 16) 25 dX7_readOtherEnd_16 (by decide) (fun z => ?_) (fun z => ?_)
    · replace h := (if_neg z).symm.trans h
      refine aw_aload_n (pc := 25) 1 dX7_readOtherEnd_25 rfl ?_
      obtain ⟨v3, e, h⟩ := op_bd h
      refine ow_gR (pc := 26) e dX7_readOtherEnd_26 fd_X7_42 rfl ?_
      refine aw_aload_n (pc := 29) 2 dX7_readOtherEnd_29 rfl ?_
      refine aw_iconst (pc := 30) (v := (0 : Int32)) dX7_readOtherEnd_30 (by decide) ?_
      obtain ⟨v4, e, h⟩ := op_bd h
      refine ow_aI (pc := 31) e dX7_readOtherEnd_31 ?_
      refine aw_iload_n (pc := 32) 0 dX7_readOtherEnd_32 rfl ?_
      obtain ⟨r5, e, h⟩ := op_bd h
      refine ow_cVi (pc := 33) [.int v4, .int r1.1] ((c_X9_isJoined _ _ _ _ _ e).mono (by decide)) (op_ck_sh e) rfl dX7_readOtherEnd_33 cw_X7_155 rfl (Nat.le_of_ble_eq_true rfl) ?_
      refine aw_if_eq (pc := 36) 45 dX7_readOtherEnd_36 (by decide) (fun z => ?_) (fun z => ?_)
      · replace h := (if_pos z).symm.trans h
        refine aw_aload_n (pc := 45) 2 dX7_readOtherEnd_45 rfl ?_
        refine aw_iconst (pc := 46) (v := (1 : Int32)) dX7_readOtherEnd_46 (by decide) ?_
        refine aw_iload_n (pc := 47) 0 dX7_readOtherEnd_47 rfl ?_
        obtain ⟨σ6, e, h⟩ := op_bd h
        refine ow_sI (pc := 48) e dX7_readOtherEnd_48 ?_
        refine aw_aload_n (pc := 49) 1 dX7_readOtherEnd_49 rfl ?_
        obtain ⟨v7, e, h⟩ := op_bd h
        refine ow_gR (pc := 50) e dX7_readOtherEnd_50 fd_X7_23 rfl ?_
        obtain ⟨r8, e, h⟩ := op_bd h
        refine ow_cVv (pc := 53) [] ((c_X8_step _ _ _ e).mono (by decide)) (op_ck_sh e) rfl dX7_readOtherEnd_53 cw_X7_67 rfl (Nat.le_of_ble_eq_true rfl) ?_
        refine aw_iconst (pc := 56) (v := (1 : Int32)) dX7_readOtherEnd_56 (by decide) ?_
        exact ow_zret (pc := 57) h dX7_readOtherEnd_57 rfl
      · replace h := (if_neg z).symm.trans h
        refine aw_aload_n (pc := 39) 1 dX7_readOtherEnd_39 rfl ?_
        refine aw_iconst (pc := 40) (v := (3 : Int32)) dX7_readOtherEnd_40 (by decide) ?_
        obtain ⟨r9, e, h⟩ := op_bd h
        refine ow_cVi (pc := 41) [.int (3 : Int32)] ((c_X7_fail _ _ _ _ e).mono (by decide)) (op_ck_sh e) rfl dX7_readOtherEnd_41 cw_X7_64 rfl (Nat.le_of_ble_eq_true rfl) ?_
        exact ow_zret (pc := 44) h dX7_readOtherEnd_44 rfl
    · replace h := (if_pos z).symm.trans h
      refine aw_aload_n (pc := 19) 1 dX7_readOtherEnd_19 rfl ?_
      refine aw_iconst (pc := 20) (v := (5 : Int32)) dX7_readOtherEnd_20 (by decide) ?_
      obtain ⟨r10, e, h⟩ := op_bd h
      refine ow_cVi (pc := 21) [.int (5 : Int32)] ((c_X7_fail _ _ _ _ e).mono (by decide)) (op_ck_sh e) rfl dX7_readOtherEnd_21 cw_X7_64 rfl (Nat.le_of_ble_eq_true rfl) ?_
      exact ow_zret (pc := 24) h dX7_readOtherEnd_24 rfl
  · replace h := (if_pos z).symm.trans h
    refine aw_iconst (pc := 10) (v := (0 : Int32)) dX7_readOtherEnd_10 (by decide) ?_
    exact ow_zret (pc := 11) h dX7_readOtherEnd_11 rfl
theorem c_X7_readOtherEnd {G : ah_G}   (x0 : Nat) (x1 : Nat) (σ : ah_H) (r : Int32 × ah_H) (h : f_X7_readOtherEnd  x0 x1 σ = some r) : AM G m_X7_readOtherEnd 2 0 0 [.ref x0, .ref x1] σ (ah_ri r) := aw_enter (by decide) (Nat.le_of_ble_eq_true rfl) (c_X7_readOtherEnd_0 _ _ _ _ (op_ck_k h))
def f_X7_readStreet_107   (x0 : Nat) (s0 : Int32) (σ : ah_H) : Option (Int32 × ah_H) :=
  if s0 = 0 then ((op_rz s0).map fun q => (q, σ)) else ((op_gR 7 2 σ x0).bind fun v1 => (op_gI 9 4 σ v1).bind fun v2 => (op_pI 9 4 σ v1 (v2 + (1 : Int32))).bind fun σ3 => (op_rz s0).map fun q => (q, σ3))
def f_X7_readStreet_106   (x0 : Nat) (σ : ah_H) : Option (Int32 × ah_H) :=
  f_X7_readStreet_107 x0 (0 : Int32) σ
def f_X7_readStreet_0   (x0 : Nat) (σ : ah_H) : Option (Int32 × ah_H) :=
  (op_gR 7 2 σ x0).bind fun v1 => (op_gI 9 4 σ v1).bind fun v2 => if v2 < (10 : Int32) then ((op_gR 7 0 σ x0).bind fun v3 => (f_X8_step v3 σ).bind fun r4 => (op_gR 7 2 r4 x0).bind fun v5 => (op_gR 9 5 r4 v5).bind fun v6 => (op_gR 7 2 r4 x0).bind fun v7 => (op_gI 9 4 r4 v7).bind fun v8 => (op_aR .int r4 v6 v8).bind fun v9 => (f_X7_readCornerName x0 r4).bind fun r10 => (op_sI r10.2 v9 (0 : Int32) r10.1).bind fun σ11 => (op_aI σ11 v9 (0 : Int32)).bind fun v12 => if v12 = (-1 : Int32) then (f_X7_readStreet_106 x0 σ11) else ((f_X7_readOtherEnd x0 v9 σ11).bind fun r13 => if r13.1 = 0 then (f_X7_readStreet_106 x0 r13.2) else ((f_X7_readInto x0 v9 (2 : Int32) (1 : Int32) (99 : Int32) r13.2).bind fun r14 => if r14.1 = 0 then (f_X7_readStreet_106 x0 r14.2) else ((f_X7_readOption x0 (10 : Int32) v9 (3 : Int32) (3 : Int32) (0 : Int32) r14.2).bind fun r15 => if r15.1 = 0 then (f_X7_readStreet_106 x0 r15.2) else ((f_X7_readOption x0 (11 : Int32) v9 (4 : Int32) (99 : Int32) (1 : Int32) r15.2).bind fun r16 => if r16.1 = 0 then (f_X7_readStreet_106 x0 r16.2) else (f_X7_readStreet_107 x0 (1 : Int32) r16.2)))))) else ((f_X7_fail x0 (2 : Int32) σ).bind fun r17 => (op_rz r17.1).map fun q => (q, r17.2))
def f_X7_readStreet  (x0 : Nat) (σ : ah_H) : Option (Int32 × ah_H) := op_ck 7 σ x0 (f_X7_readStreet_0 x0 σ)
set_option maxRecDepth 100000 in
set_option maxHeartbeats 4000000 in
theorem c_X7_readStreet_107 {G : ah_G}   : ∀ (x0 : Nat) (s0 : Int32) (σ : ah_H) (r : Int32 × ah_H), f_X7_readStreet_107   x0 s0 σ = some r → AW G m_X7_readStreet 4 0 0 107 [(0, .ref x0)] [.int s0] σ (ah_N G (ah_ri r)) := by
  intro x0 s0 σ r h
  unfold f_X7_readStreet_107 at h
  refine aw_istore_n (pc := 107) [(2, .int s0), (0, .ref x0)] dX7_readStreet_107 rfl (by decide) rfl ?_
  refine aw_iload_n (pc := 108) 0 dX7_readStreet_108 rfl ?_
  refine aw_if_eq (pc := 109) 125 dX7_readStreet_109 (by decide) (fun z => ?_) (fun z => ?_)
  · replace h := (if_pos z).symm.trans h
    refine aw_iload_n (pc := 125) 0 dX7_readStreet_125 rfl ?_
    exact ow_zret (pc := 126) h dX7_readStreet_126 rfl
  · replace h := (if_neg z).symm.trans h
    refine aw_aload_n (pc := 112) 1 dX7_readStreet_112 rfl ?_
    obtain ⟨v1, e, h⟩ := op_bd h
    refine ow_gR (pc := 113) e dX7_readStreet_113 fd_X7_42 rfl ?_
    refine aw_dup (pc := 116) dX7_readStreet_116 rfl ?_
    obtain ⟨v2, e, h⟩ := op_bd h
    refine ow_gI (pc := 117) e dX7_readStreet_117 fd_X7_142 rfl ?_
    refine aw_iconst (pc := 120) (v := (1 : Int32)) dX7_readStreet_120 (by decide) ?_
    refine aw_iadd (pc := 121) dX7_readStreet_121 ?_
    obtain ⟨σ3, e, h⟩ := op_bd h
    refine ow_pI (pc := 122) e dX7_readStreet_122 fd_X7_142 ?_
    refine aw_iload_n (pc := 125) 0 dX7_readStreet_125 rfl ?_
    exact ow_zret (pc := 126) h dX7_readStreet_126 rfl
set_option maxRecDepth 100000 in
set_option maxHeartbeats 4000000 in
theorem c_X7_readStreet_106 {G : ah_G}   : ∀ (x0 : Nat) (σ : ah_H) (r : Int32 × ah_H), f_X7_readStreet_106   x0 σ = some r → AW G m_X7_readStreet 4 0 0 106 [(0, .ref x0)] [] σ (ah_N G (ah_ri r)) := by
  intro x0 σ r h
  unfold f_X7_readStreet_106 at h
  refine aw_iconst (pc := 106) (v := (0 : Int32)) dX7_readStreet_106 (by decide) ?_
  exact c_X7_readStreet_107  _ _ _ _ h
set_option maxRecDepth 100000 in
set_option maxHeartbeats 4000000 in
theorem c_X7_readStreet_0 {G : ah_G}   : ∀ (x0 : Nat) (σ : ah_H) (r : Int32 × ah_H), f_X7_readStreet_0   x0 σ = some r → AW G m_X7_readStreet 4 0 0 0 [(0, .ref x0)] [] σ (ah_N G (ah_ri r)) := by
  intro x0 σ r h
  unfold f_X7_readStreet_0 at h
  refine aw_aload_n (pc := 0) 0 dX7_readStreet_0 rfl ?_
  obtain ⟨v1, e, h⟩ := op_bd h
  refine ow_gR (pc := 1) e dX7_readStreet_1 fd_X7_42 rfl ?_
  obtain ⟨v2, e, h⟩ := op_bd h
  refine ow_gI (pc := 4) e dX7_readStreet_4 fd_X7_142 rfl ?_
  refine aw_bipush (pc := 7) (v := (10 : Int32)) dX7_readStreet_7 (by decide) ?_
  refine aw_icmp_lt (pc := 9) 18 dX7_readStreet_9 (by decide) (fun z => ?_) (fun z => ?_)
  · replace h := (if_pos z).symm.trans h
    refine aw_aload_n (pc := 18) 0 dX7_readStreet_18 rfl ?_
    obtain ⟨v3, e, h⟩ := op_bd h
    refine ow_gR (pc := 19) e dX7_readStreet_19 fd_X7_23 rfl ?_
    obtain ⟨r4, e, h⟩ := op_bd h
    refine ow_cVv (pc := 22) [] ((c_X8_step _ _ _ e).mono (by decide)) (op_ck_sh e) rfl dX7_readStreet_22 cw_X7_67 rfl (Nat.le_of_ble_eq_true rfl) ?_
    refine aw_aload_n (pc := 25) 0 dX7_readStreet_25 rfl ?_
    obtain ⟨v5, e, h⟩ := op_bd h
    refine ow_gR (pc := 26) e dX7_readStreet_26 fd_X7_42 rfl ?_
    obtain ⟨v6, e, h⟩ := op_bd h
    refine ow_gR (pc := 29) e dX7_readStreet_29 fd_X7_145 rfl ?_
    refine aw_aload_n (pc := 32) 0 dX7_readStreet_32 rfl ?_
    obtain ⟨v7, e, h⟩ := op_bd h
    refine ow_gR (pc := 33) e dX7_readStreet_33 fd_X7_42 rfl ?_
    obtain ⟨v8, e, h⟩ := op_bd h
    refine ow_gI (pc := 36) e dX7_readStreet_36 fd_X7_142 rfl ?_
    obtain ⟨v9, e, h⟩ := op_bd h
    refine ow_aR (pc := 39) e dX7_readStreet_39 (by decide) ?_
    refine aw_astore_n (pc := 40) [(1, .ref v9), (0, .ref x0)] dX7_readStreet_40 rfl (by decide) rfl ?_
    refine aw_aload_n (pc := 41) 0 dX7_readStreet_41 rfl ?_
    refine aw_iconst (pc := 42) (v := (0 : Int32)) dX7_readStreet_42 (by decide) ?_
    refine aw_aload_n (pc := 43) 1 dX7_readStreet_43 rfl ?_
    obtain ⟨r10, e, h⟩ := op_bd h
    refine ow_cVi (pc := 44) [] ((c_X7_readCornerName _ _ _ e).mono (by decide)) (op_ck_sh e) rfl dX7_readStreet_44 cw_X7_128 rfl (Nat.le_of_ble_eq_true rfl) ?_
    obtain ⟨σ11, e, h⟩ := op_bd h
    refine ow_sI (pc := 47) e dX7_readStreet_47 ?_
    refine aw_aload_n (pc := 48) 0 dX7_readStreet_48 rfl ?_
    refine aw_iconst (pc := 49) (v := (0 : Int32)) dX7_readStreet_49 (by decide) ?_
    obtain ⟨v12, e, h⟩ := op_bd h
    refine ow_aI (pc := 50) e dX7_readStreet_50 ?_
    refine aw_iconst (pc := 51) (v := (-1 : Int32)) dX7_readStreet_51 (by decide) ?_
    refine aw_icmp_eq (pc := 52) 106 dX7_readStreet_52 (by decide) (fun z => ?_) (fun z => ?_)
    · replace h := (if_pos z).symm.trans h
      refine aw_sub [1] rfl ?_
      exact c_X7_readStreet_106  _ _ _ h
    · replace h := (if_neg z).symm.trans h
      refine aw_aload_n (pc := 55) 1 dX7_readStreet_55 rfl ?_
      refine aw_aload_n (pc := 56) 0 dX7_readStreet_56 rfl ?_
      obtain ⟨r13, e, h⟩ := op_bd h
      refine ow_cVi (pc := 57) [.ref v9] ((c_X7_readOtherEnd _ _ _ _ e).mono (by decide)) (op_ck_sh e) rfl dX7_readStreet_57 cw_X7_148 rfl (Nat.le_of_ble_eq_true rfl) ?_
      refine aw_if_eq (pc := 60) 106 dX7_readStreet_60 (by decide) (fun z => ?_) (fun z => ?_)
      · replace h := (if_pos z).symm.trans h
        refine aw_sub [1] rfl ?_
        exact c_X7_readStreet_106  _ _ _ h
      · replace h := (if_neg z).symm.trans h
        refine aw_aload_n (pc := 63) 1 dX7_readStreet_63 rfl ?_
        refine aw_aload_n (pc := 64) 0 dX7_readStreet_64 rfl ?_
        refine aw_iconst (pc := 65) (v := (2 : Int32)) dX7_readStreet_65 (by decide) ?_
        refine aw_iconst (pc := 66) (v := (1 : Int32)) dX7_readStreet_66 (by decide) ?_
        refine aw_bipush (pc := 67) (v := (99 : Int32)) dX7_readStreet_67 (by decide) ?_
        obtain ⟨r14, e, h⟩ := op_bd h
        refine ow_cVi (pc := 69) [.ref v9, .int (2 : Int32), .int (1 : Int32), .int (99 : Int32)] ((c_X7_readInto _ _ _ _ _ _ _ e).mono (by decide)) (op_ck_sh e) rfl dX7_readStreet_69 cw_X7_117 rfl (Nat.le_of_ble_eq_true rfl) ?_
        refine aw_if_eq (pc := 72) 106 dX7_readStreet_72 (by decide) (fun z => ?_) (fun z => ?_)
        · replace h := (if_pos z).symm.trans h
          refine aw_sub [1] rfl ?_
          exact c_X7_readStreet_106  _ _ _ h
        · replace h := (if_neg z).symm.trans h
          refine aw_aload_n (pc := 75) 1 dX7_readStreet_75 rfl ?_
          refine aw_bipush (pc := 76) (v := (10 : Int32)) dX7_readStreet_76 (by decide) ?_
          refine aw_aload_n (pc := 78) 0 dX7_readStreet_78 rfl ?_
          refine aw_iconst (pc := 79) (v := (3 : Int32)) dX7_readStreet_79 (by decide) ?_
          refine aw_iconst (pc := 80) (v := (3 : Int32)) dX7_readStreet_80 (by decide) ?_
          refine aw_iconst (pc := 81) (v := (0 : Int32)) dX7_readStreet_81 (by decide) ?_
          obtain ⟨r15, e, h⟩ := op_bd h
          refine ow_cVi (pc := 82) [.int (10 : Int32), .ref v9, .int (3 : Int32), .int (3 : Int32), .int (0 : Int32)] ((c_X7_readOption _ _ _ _ _ _ _ _ e).mono (by decide)) (op_ck_sh e) rfl dX7_readStreet_82 cw_X7_121 rfl (Nat.le_of_ble_eq_true rfl) ?_
          refine aw_if_eq (pc := 85) 106 dX7_readStreet_85 (by decide) (fun z => ?_) (fun z => ?_)
          · replace h := (if_pos z).symm.trans h
            refine aw_sub [1] rfl ?_
            exact c_X7_readStreet_106  _ _ _ h
          · replace h := (if_neg z).symm.trans h
            refine aw_aload_n (pc := 88) 1 dX7_readStreet_88 rfl ?_
            refine aw_bipush (pc := 89) (v := (11 : Int32)) dX7_readStreet_89 (by decide) ?_
            refine aw_aload_n (pc := 91) 0 dX7_readStreet_91 rfl ?_
            refine aw_iconst (pc := 92) (v := (4 : Int32)) dX7_readStreet_92 (by decide) ?_
            refine aw_bipush (pc := 93) (v := (99 : Int32)) dX7_readStreet_93 (by decide) ?_
            refine aw_iconst (pc := 95) (v := (1 : Int32)) dX7_readStreet_95 (by decide) ?_
            obtain ⟨r16, e, h⟩ := op_bd h
            refine ow_cVi (pc := 96) [.int (11 : Int32), .ref v9, .int (4 : Int32), .int (99 : Int32), .int (1 : Int32)] ((c_X7_readOption _ _ _ _ _ _ _ _ e).mono (by decide)) (op_ck_sh e) rfl dX7_readStreet_96 cw_X7_121 rfl (Nat.le_of_ble_eq_true rfl) ?_
            refine aw_if_eq (pc := 99) 106 dX7_readStreet_99 (by decide) (fun z => ?_) (fun z => ?_)
            · replace h := (if_pos z).symm.trans h
              refine aw_sub [1] rfl ?_
              exact c_X7_readStreet_106  _ _ _ h
            · replace h := (if_neg z).symm.trans h
              refine aw_iconst (pc := 102) (v := (1 : Int32)) dX7_readStreet_102 (by decide) ?_
              refine aw_goto (pc := 103) 107 dX7_readStreet_103 (by decide) ?_
              refine aw_sub [1] rfl ?_
              exact c_X7_readStreet_107  _ _ _ _ h
  · replace h := (if_neg z).symm.trans h
    refine aw_aload_n (pc := 12) 0 dX7_readStreet_12 rfl ?_
    refine aw_iconst (pc := 13) (v := (2 : Int32)) dX7_readStreet_13 (by decide) ?_
    obtain ⟨r17, e, h⟩ := op_bd h
    refine ow_cVi (pc := 14) [.int (2 : Int32)] ((c_X7_fail _ _ _ _ e).mono (by decide)) (op_ck_sh e) rfl dX7_readStreet_14 cw_X7_64 rfl (Nat.le_of_ble_eq_true rfl) ?_
    exact ow_zret (pc := 17) h dX7_readStreet_17 rfl
theorem c_X7_readStreet {G : ah_G}   (x0 : Nat) (σ : ah_H) (r : Int32 × ah_H) (h : f_X7_readStreet  x0 σ = some r) : AM G m_X7_readStreet 4 0 0 [.ref x0] σ (ah_ri r) := aw_enter (by decide) (Nat.le_of_ble_eq_true rfl) (c_X7_readStreet_0 _ _ _ (op_ck_k h))
def f_X7_readLine_0   (x0 : Nat) (σ : ah_H) : Option (Int32 × ah_H) :=
  (op_gR 7 0 σ x0).bind fun v1 => (op_gI 8 8 σ v1).bind fun v2 => if v2 = (2 : Int32) then ((op_gR 7 0 σ x0).bind fun v3 => (op_gI 8 9 σ v3).bind fun v4 => if v4 = (0 : Int32) then ((f_X7_readCorner x0 σ).bind fun r5 => (op_rz r5.1).map fun q => (q, r5.2)) else (if v4 = (1 : Int32) then ((f_X7_readRiver x0 σ).bind fun r6 => (op_rz r6.1).map fun q => (q, r6.2)) else (if v4 = (2 : Int32) then ((f_X7_readStreet x0 σ).bind fun r7 => (op_rz r7.1).map fun q => (q, r7.2)) else (if v4 = (3 : Int32) then ((f_X7_readPipe x0 σ).bind fun r8 => (op_rz r8.1).map fun q => (q, r8.2)) else (if v4 = (4 : Int32) then ((op_gR 7 2 σ x0).bind fun v9 => (op_gR 9 11 σ v9).bind fun v10 => (f_X7_readLimits x0 v10 (99 : Int32) σ).bind fun r11 => (op_rz r11.1).map fun q => (q, r11.2)) else (if v4 = (5 : Int32) then ((op_gR 7 2 σ x0).bind fun v12 => (op_gR 9 12 σ v12).bind fun v13 => (f_X7_readLimits x0 v13 (12 : Int32) σ).bind fun r14 => (op_rz r14.1).map fun q => (q, r14.2)) else (if v4 = (6 : Int32) then ((f_X7_readRain x0 σ).bind fun r15 => (op_rz r15.1).map fun q => (q, r15.2)) else (if v4 = (7 : Int32) then ((f_X7_readLaw x0 σ).bind fun r16 => (op_rz r16.1).map fun q => (q, r16.2)) else (if v4 = (8 : Int32) then ((f_X7_readCart x0 σ).bind fun r17 => (op_rz r17.1).map fun q => (q, r17.2)) else ((f_X7_fail x0 (1 : Int32) σ).bind fun r18 => (op_rz r18.1).map fun q => (q, r18.2))))))))))) else ((f_X7_fail x0 (1 : Int32) σ).bind fun r19 => (op_rz r19.1).map fun q => (q, r19.2))
def f_X7_readLine  (x0 : Nat) (σ : ah_H) : Option (Int32 × ah_H) := op_ck 7 σ x0 (f_X7_readLine_0 x0 σ)
set_option maxRecDepth 100000 in
set_option maxHeartbeats 4000000 in
theorem c_X7_readLine_0 {G : ah_G}   : ∀ (x0 : Nat) (σ : ah_H) (r : Int32 × ah_H), f_X7_readLine_0   x0 σ = some r → AW G m_X7_readLine 5 0 0 0 [(0, .ref x0)] [] σ (ah_N G (ah_ri r)) := by
  intro x0 σ r h
  unfold f_X7_readLine_0 at h
  refine aw_aload_n (pc := 0) 0 dX7_readLine_0 rfl ?_
  obtain ⟨v1, e, h⟩ := op_bd h
  refine ow_gR (pc := 1) e dX7_readLine_1 fd_X7_23 rfl ?_
  obtain ⟨v2, e, h⟩ := op_bd h
  refine ow_gI (pc := 4) e dX7_readLine_4 fd_X7_53 rfl ?_
  refine aw_iconst (pc := 7) (v := (2 : Int32)) dX7_readLine_7 (by decide) ?_
  refine aw_icmp_eq (pc := 8) 17 dX7_readLine_8 (by decide) (fun z => ?_) (fun z => ?_)
  · replace h := (if_pos z).symm.trans h
    refine aw_aload_n (pc := 17) 0 dX7_readLine_17 rfl ?_
    obtain ⟨v3, e, h⟩ := op_bd h
    refine ow_gR (pc := 18) e dX7_readLine_18 fd_X7_23 rfl ?_
    obtain ⟨v4, e, h⟩ := op_bd h
    refine ow_gI (pc := 21) e dX7_readLine_21 fd_X7_71 rfl ?_
    by_cases z0 : v4 = (0 : Int32)
    · replace h := (if_pos z0).symm.trans h
      refine aw_tableIn (pc := 24) (off := 52) 76 dX7_readLine_24 (by rw [z0]; decide) (by rw [z0]; decide) (by rw [z0]; decide) (by decide) ?_
      refine aw_aload_n (pc := 76) 0 dX7_readLine_76 rfl ?_
      obtain ⟨r5, e, h⟩ := op_bd h
      refine ow_cVi (pc := 77) [] ((c_X7_readCorner _ _ _ e).mono (by decide)) (op_ck_sh e) rfl dX7_readLine_77 cw_X7_74 rfl (Nat.le_of_ble_eq_true rfl) ?_
      exact ow_zret (pc := 80) h dX7_readLine_80 rfl
    · replace h := (if_neg z0).symm.trans h
      by_cases z1 : v4 = (1 : Int32)
      · replace h := (if_pos z1).symm.trans h
        refine aw_tableIn (pc := 24) (off := 57) 81 dX7_readLine_24 (by rw [z1]; decide) (by rw [z1]; decide) (by rw [z1]; decide) (by decide) ?_
        refine aw_aload_n (pc := 81) 0 dX7_readLine_81 rfl ?_
        obtain ⟨r6, e, h⟩ := op_bd h
        refine ow_cVi (pc := 82) [] ((c_X7_readRiver _ _ _ e).mono (by decide)) (op_ck_sh e) rfl dX7_readLine_82 cw_X7_77 rfl (Nat.le_of_ble_eq_true rfl) ?_
        exact ow_zret (pc := 85) h dX7_readLine_85 rfl
      · replace h := (if_neg z1).symm.trans h
        by_cases z2 : v4 = (2 : Int32)
        · replace h := (if_pos z2).symm.trans h
          refine aw_tableIn (pc := 24) (off := 62) 86 dX7_readLine_24 (by rw [z2]; decide) (by rw [z2]; decide) (by rw [z2]; decide) (by decide) ?_
          refine aw_aload_n (pc := 86) 0 dX7_readLine_86 rfl ?_
          obtain ⟨r7, e, h⟩ := op_bd h
          refine ow_cVi (pc := 87) [] ((c_X7_readStreet _ _ _ e).mono (by decide)) (op_ck_sh e) rfl dX7_readLine_87 cw_X7_80 rfl (Nat.le_of_ble_eq_true rfl) ?_
          exact ow_zret (pc := 90) h dX7_readLine_90 rfl
        · replace h := (if_neg z2).symm.trans h
          by_cases z3 : v4 = (3 : Int32)
          · replace h := (if_pos z3).symm.trans h
            refine aw_tableIn (pc := 24) (off := 67) 91 dX7_readLine_24 (by rw [z3]; decide) (by rw [z3]; decide) (by rw [z3]; decide) (by decide) ?_
            refine aw_aload_n (pc := 91) 0 dX7_readLine_91 rfl ?_
            obtain ⟨r8, e, h⟩ := op_bd h
            refine ow_cVi (pc := 92) [] ((c_X7_readPipe _ _ _ e).mono (by decide)) (op_ck_sh e) rfl dX7_readLine_92 cw_X7_83 rfl (Nat.le_of_ble_eq_true rfl) ?_
            exact ow_zret (pc := 95) h dX7_readLine_95 rfl
          · replace h := (if_neg z3).symm.trans h
            by_cases z4 : v4 = (4 : Int32)
            · replace h := (if_pos z4).symm.trans h
              refine aw_tableIn (pc := 24) (off := 72) 96 dX7_readLine_24 (by rw [z4]; decide) (by rw [z4]; decide) (by rw [z4]; decide) (by decide) ?_
              refine aw_aload_n (pc := 96) 0 dX7_readLine_96 rfl ?_
              refine aw_aload_n (pc := 97) 0 dX7_readLine_97 rfl ?_
              obtain ⟨v9, e, h⟩ := op_bd h
              refine ow_gR (pc := 98) e dX7_readLine_98 fd_X7_42 rfl ?_
              obtain ⟨v10, e, h⟩ := op_bd h
              refine ow_gR (pc := 101) e dX7_readLine_101 fd_X7_86 rfl ?_
              refine aw_bipush (pc := 104) (v := (99 : Int32)) dX7_readLine_104 (by decide) ?_
              obtain ⟨r11, e, h⟩ := op_bd h
              refine ow_cVi (pc := 106) [.ref v10, .int (99 : Int32)] ((c_X7_readLimits _ _ _ _ _ e).mono (by decide)) (op_ck_sh e) rfl dX7_readLine_106 cw_X7_90 rfl (Nat.le_of_ble_eq_true rfl) ?_
              exact ow_zret (pc := 109) h dX7_readLine_109 rfl
            · replace h := (if_neg z4).symm.trans h
              by_cases z5 : v4 = (5 : Int32)
              · replace h := (if_pos z5).symm.trans h
                refine aw_tableIn (pc := 24) (off := 86) 110 dX7_readLine_24 (by rw [z5]; decide) (by rw [z5]; decide) (by rw [z5]; decide) (by decide) ?_
                refine aw_aload_n (pc := 110) 0 dX7_readLine_110 rfl ?_
                refine aw_aload_n (pc := 111) 0 dX7_readLine_111 rfl ?_
                obtain ⟨v12, e, h⟩ := op_bd h
                refine ow_gR (pc := 112) e dX7_readLine_112 fd_X7_42 rfl ?_
                obtain ⟨v13, e, h⟩ := op_bd h
                refine ow_gR (pc := 115) e dX7_readLine_115 fd_X7_94 rfl ?_
                refine aw_bipush (pc := 118) (v := (12 : Int32)) dX7_readLine_118 (by decide) ?_
                obtain ⟨r14, e, h⟩ := op_bd h
                refine ow_cVi (pc := 120) [.ref v13, .int (12 : Int32)] ((c_X7_readLimits _ _ _ _ _ e).mono (by decide)) (op_ck_sh e) rfl dX7_readLine_120 cw_X7_90 rfl (Nat.le_of_ble_eq_true rfl) ?_
                exact ow_zret (pc := 123) h dX7_readLine_123 rfl
              · replace h := (if_neg z5).symm.trans h
                by_cases z6 : v4 = (6 : Int32)
                · replace h := (if_pos z6).symm.trans h
                  refine aw_tableIn (pc := 24) (off := 100) 124 dX7_readLine_24 (by rw [z6]; decide) (by rw [z6]; decide) (by rw [z6]; decide) (by decide) ?_
                  refine aw_aload_n (pc := 124) 0 dX7_readLine_124 rfl ?_
                  obtain ⟨r15, e, h⟩ := op_bd h
                  refine ow_cVi (pc := 125) [] ((c_X7_readRain _ _ _ e).mono (by decide)) (op_ck_sh e) rfl dX7_readLine_125 cw_X7_97 rfl (Nat.le_of_ble_eq_true rfl) ?_
                  exact ow_zret (pc := 128) h dX7_readLine_128 rfl
                · replace h := (if_neg z6).symm.trans h
                  by_cases z7 : v4 = (7 : Int32)
                  · replace h := (if_pos z7).symm.trans h
                    refine aw_tableIn (pc := 24) (off := 105) 129 dX7_readLine_24 (by rw [z7]; decide) (by rw [z7]; decide) (by rw [z7]; decide) (by decide) ?_
                    refine aw_aload_n (pc := 129) 0 dX7_readLine_129 rfl ?_
                    obtain ⟨r16, e, h⟩ := op_bd h
                    refine ow_cVi (pc := 130) [] ((c_X7_readLaw _ _ _ e).mono (by decide)) (op_ck_sh e) rfl dX7_readLine_130 cw_X7_100 rfl (Nat.le_of_ble_eq_true rfl) ?_
                    exact ow_zret (pc := 133) h dX7_readLine_133 rfl
                  · replace h := (if_neg z7).symm.trans h
                    by_cases z8 : v4 = (8 : Int32)
                    · replace h := (if_pos z8).symm.trans h
                      refine aw_tableIn (pc := 24) (off := 110) 134 dX7_readLine_24 (by rw [z8]; decide) (by rw [z8]; decide) (by rw [z8]; decide) (by decide) ?_
                      refine aw_aload_n (pc := 134) 0 dX7_readLine_134 rfl ?_
                      obtain ⟨r17, e, h⟩ := op_bd h
                      refine ow_cVi (pc := 135) [] ((c_X7_readCart _ _ _ e).mono (by decide)) (op_ck_sh e) rfl dX7_readLine_135 cw_X7_103 rfl (Nat.le_of_ble_eq_true rfl) ?_
                      exact ow_zret (pc := 138) h dX7_readLine_138 rfl
                    · replace h := (if_neg z8).symm.trans h
                      have wz0 : ¬ (v4).toInt = 0 := fun q => z0 (Int32.toInt_inj.mp q)
                      have wz1 : ¬ (v4).toInt = 1 := fun q => z1 (Int32.toInt_inj.mp q)
                      have wz2 : ¬ (v4).toInt = 2 := fun q => z2 (Int32.toInt_inj.mp q)
                      have wz3 : ¬ (v4).toInt = 3 := fun q => z3 (Int32.toInt_inj.mp q)
                      have wz4 : ¬ (v4).toInt = 4 := fun q => z4 (Int32.toInt_inj.mp q)
                      have wz5 : ¬ (v4).toInt = 5 := fun q => z5 (Int32.toInt_inj.mp q)
                      have wz6 : ¬ (v4).toInt = 6 := fun q => z6 (Int32.toInt_inj.mp q)
                      have wz7 : ¬ (v4).toInt = 7 := fun q => z7 (Int32.toInt_inj.mp q)
                      have wz8 : ¬ (v4).toInt = 8 := fun q => z8 (Int32.toInt_inj.mp q)
                      refine aw_tableOut (pc := 24) 139 dX7_readLine_24 (by omega) (by decide) ?_
                      refine aw_aload_n (pc := 139) 0 dX7_readLine_139 rfl ?_
                      refine aw_iconst (pc := 140) (v := (1 : Int32)) dX7_readLine_140 (by decide) ?_
                      obtain ⟨r18, e, h⟩ := op_bd h
                      refine ow_cVi (pc := 141) [.int (1 : Int32)] ((c_X7_fail _ _ _ _ e).mono (by decide)) (op_ck_sh e) rfl dX7_readLine_141 cw_X7_64 rfl (Nat.le_of_ble_eq_true rfl) ?_
                      exact ow_zret (pc := 144) h dX7_readLine_144 rfl
  · replace h := (if_neg z).symm.trans h
    refine aw_aload_n (pc := 11) 0 dX7_readLine_11 rfl ?_
    refine aw_iconst (pc := 12) (v := (1 : Int32)) dX7_readLine_12 (by decide) ?_
    obtain ⟨r19, e, h⟩ := op_bd h
    refine ow_cVi (pc := 13) [.int (1 : Int32)] ((c_X7_fail _ _ _ _ e).mono (by decide)) (op_ck_sh e) rfl dX7_readLine_13 cw_X7_64 rfl (Nat.le_of_ble_eq_true rfl) ?_
    exact ow_zret (pc := 16) h dX7_readLine_16 rfl
theorem c_X7_readLine {G : ah_G}   (x0 : Nat) (σ : ah_H) (r : Int32 × ah_H) (h : f_X7_readLine  x0 σ = some r) : AM G m_X7_readLine 5 0 0 [.ref x0] σ (ah_ri r) := aw_enter (by decide) (Nat.le_of_ble_eq_true rfl) (c_X7_readLine_0 _ _ _ (op_ck_k h))
def f_X8_isDigit_0   (x0 : Int32) (σ : ah_H) : Option (Int32 × ah_H) :=
  if x0 < (48 : Int32) then ((op_rz (0 : Int32)).map fun q => (q, σ)) else (if (57 : Int32) < x0 then ((op_rz (0 : Int32)).map fun q => (q, σ)) else ((op_rz (1 : Int32)).map fun q => (q, σ)))
def f_X8_isDigit  (x0 : Int32) (σ : ah_H) : Option (Int32 × ah_H) := f_X8_isDigit_0 x0 σ
set_option maxRecDepth 100000 in
set_option maxHeartbeats 4000000 in
theorem c_X8_isDigit_0 {G : ah_G}   : ∀ (x0 : Int32) (σ : ah_H) (r : Int32 × ah_H), f_X8_isDigit_0   x0 σ = some r → AW G m_X8_isDigit 0 0 0 0 [(0, .int x0)] [] σ (ah_N G (ah_ri r)) := by
  intro x0 σ r h
  unfold f_X8_isDigit_0 at h
  refine aw_iload_n (pc := 0) 0 dX8_isDigit_0 rfl ?_
  refine aw_bipush (pc := 1) (v := (48 : Int32)) dX8_isDigit_1 (by decide) ?_
  refine aw_icmp_lt (pc := 3) 16 dX8_isDigit_3 (by decide) (fun z => ?_) (fun z => ?_)
  · replace h := (if_pos z).symm.trans h
    refine aw_iconst (pc := 16) (v := (0 : Int32)) dX8_isDigit_16 (by decide) ?_
    exact ow_zret (pc := 17) h dX8_isDigit_17 rfl
  · replace h := (if_neg z).symm.trans h
    refine aw_iload_n (pc := 6) 0 dX8_isDigit_6 rfl ?_
    refine aw_bipush (pc := 7) (v := (57 : Int32)) dX8_isDigit_7 (by decide) ?_
    refine aw_icmp_gt (pc := 9) 16 dX8_isDigit_9 (by decide) (fun z => ?_) (fun z => ?_)
    · replace h := (if_pos z).symm.trans h
      refine aw_iconst (pc := 16) (v := (0 : Int32)) dX8_isDigit_16 (by decide) ?_
      exact ow_zret (pc := 17) h dX8_isDigit_17 rfl
    · replace h := (if_neg z).symm.trans h
      refine aw_iconst (pc := 12) (v := (1 : Int32)) dX8_isDigit_12 (by decide) ?_
      refine aw_goto (pc := 13) 17 dX8_isDigit_13 (by decide) ?_
      exact ow_zret (pc := 17) h dX8_isDigit_17 rfl
theorem c_X8_isDigit {G : ah_G}   (x0 : Int32) (σ : ah_H) (r : Int32 × ah_H) (h : f_X8_isDigit  x0 σ = some r) : AM G m_X8_isDigit 0 0 0 [.int x0] σ (ah_ri r) := aw_enter (by decide) (Nat.le_of_ble_eq_true rfl) (c_X8_isDigit_0 _ _ _ h)
def f_X8_cutNumber_10_b  (K10 : Nat → ah_H → Option (ah_H)) (x0 : Nat) (σ : ah_H) : Option (ah_H) :=
  (op_gI 8 6 σ x0).bind fun v1 => (op_gI 8 5 σ x0).bind fun v2 => if v2 ≤ v1 then (some σ) else ((op_gR 8 0 σ x0).bind fun v3 => (op_gI 8 6 σ x0).bind fun v4 => (op_aB σ v3 v4).bind fun v5 => (f_X8_isDigit v5 σ).bind fun r6 => if r6.1 = 0 then (some r6.2) else ((op_gI 8 9 r6.2 x0).bind fun v7 => (op_gR 8 0 r6.2 x0).bind fun v8 => (op_gI 8 6 r6.2 x0).bind fun v9 => (op_aB r6.2 v8 v9).bind fun v10 => (op_pI 8 9 r6.2 x0 (op_mini (1000000 : Int32) (((v7 * (10 : Int32)) + v10) - (48 : Int32)))).bind fun σ11 => (op_gI 8 6 σ11 x0).bind fun v12 => (op_pI 8 6 σ11 x0 (v12 + (1 : Int32))).bind fun σ13 => K10 x0 σ13))
def f_X8_cutNumber_10   : Nat → Nat → ah_H → Option (ah_H)
  | 0, _, _ => none
  | n + 1, x0, σ => f_X8_cutNumber_10_b (f_X8_cutNumber_10 n) x0 σ
def f_X8_cutNumber_0   (x0 : Nat) (σ : ah_H) : Option (ah_H) :=
  (op_pI 8 8 σ x0 (3 : Int32)).bind fun σ1 => (op_pI 8 9 σ1 x0 (0 : Int32)).bind fun σ2 => f_X8_cutNumber_10 5000 x0 σ2
def f_X8_cutNumber  (x0 : Nat) (σ : ah_H) : Option (ah_H) := op_ck 8 σ x0 (f_X8_cutNumber_0 x0 σ)
set_option maxRecDepth 100000 in
set_option maxHeartbeats 4000000 in
theorem c_X8_cutNumber_10_b {G : ah_G}  (K10 : Nat → ah_H → Option (ah_H)) (hK10 : ∀ (x0 : Nat) (σ : ah_H) (r : ah_H), K10 x0 σ = some r → AW G m_X8_cutNumber 1 0 0 10 [(0, .ref x0)] [] σ (ah_N G (ah_rv r))) : ∀ (x0 : Nat) (σ : ah_H) (r : ah_H), f_X8_cutNumber_10_b  K10 x0 σ = some r → AW G m_X8_cutNumber 1 0 0 10 [(0, .ref x0)] [] σ (ah_N G (ah_rv r)) := by
  intro x0 σ r h
  unfold f_X8_cutNumber_10_b at h
  refine aw_aload_n (pc := 10) 0 dX8_cutNumber_10 rfl ?_
  obtain ⟨v1, e, h⟩ := op_bd h
  refine ow_gI (pc := 11) e dX8_cutNumber_11 fd_X8_59 rfl ?_
  refine aw_aload_n (pc := 14) 0 dX8_cutNumber_14 rfl ?_
  obtain ⟨v2, e, h⟩ := op_bd h
  refine ow_gI (pc := 15) e dX8_cutNumber_15 fd_X8_56 rfl ?_
  refine aw_icmp_ge (pc := 18) 78 dX8_cutNumber_18 (by decide) (fun z => ?_) (fun z => ?_)
  · replace h := (if_pos z).symm.trans h
    exact ow_vret (pc := 78) h dX8_cutNumber_78 rfl
  · replace h := (if_neg z).symm.trans h
    refine aw_aload_n (pc := 21) 0 dX8_cutNumber_21 rfl ?_
    obtain ⟨v3, e, h⟩ := op_bd h
    refine ow_gR (pc := 22) e dX8_cutNumber_22 fd_X8_24 rfl ?_
    refine aw_aload_n (pc := 25) 0 dX8_cutNumber_25 rfl ?_
    obtain ⟨v4, e, h⟩ := op_bd h
    refine ow_gI (pc := 26) e dX8_cutNumber_26 fd_X8_59 rfl ?_
    obtain ⟨v5, e, h⟩ := op_bd h
    refine ow_aB (pc := 29) e dX8_cutNumber_29 ?_
    obtain ⟨r6, e, h⟩ := op_bd h
    refine ow_cSi (pc := 30) [.int v5] ((c_X8_isDigit _ _ _ e).mono (by decide)) rfl dX8_cutNumber_30 cw_X8_83 rfl (Nat.le_of_ble_eq_true rfl) ?_
    refine aw_if_eq (pc := 33) 78 dX8_cutNumber_33 (by decide) (fun z => ?_) (fun z => ?_)
    · replace h := (if_pos z).symm.trans h
      exact ow_vret (pc := 78) h dX8_cutNumber_78 rfl
    · replace h := (if_neg z).symm.trans h
      refine aw_aload_n (pc := 36) 0 dX8_cutNumber_36 rfl ?_
      refine aw_ldc (pc := 37) dX8_cutNumber_37 kc_X8_92 ?_
      refine aw_aload_n (pc := 39) 0 dX8_cutNumber_39 rfl ?_
      obtain ⟨v7, e, h⟩ := op_bd h
      refine ow_gI (pc := 40) e dX8_cutNumber_40 fd_X8_68 rfl ?_
      refine aw_bipush (pc := 43) (v := (10 : Int32)) dX8_cutNumber_43 (by decide) ?_
      refine aw_imul (pc := 45) dX8_cutNumber_45 ?_
      refine aw_aload_n (pc := 46) 0 dX8_cutNumber_46 rfl ?_
      obtain ⟨v8, e, h⟩ := op_bd h
      refine ow_gR (pc := 47) e dX8_cutNumber_47 fd_X8_24 rfl ?_
      refine aw_aload_n (pc := 50) 0 dX8_cutNumber_50 rfl ?_
      obtain ⟨v9, e, h⟩ := op_bd h
      refine ow_gI (pc := 51) e dX8_cutNumber_51 fd_X8_59 rfl ?_
      obtain ⟨v10, e, h⟩ := op_bd h
      refine ow_aB (pc := 54) e dX8_cutNumber_54 ?_
      refine aw_iadd (pc := 55) dX8_cutNumber_55 ?_
      refine aw_bipush (pc := 56) (v := (48 : Int32)) dX8_cutNumber_56 (by decide) ?_
      refine aw_isub (pc := 58) dX8_cutNumber_58 ?_
      refine ow_mini (pc := 59) dX8_cutNumber_59 mt_X8_50 (Nat.le_of_ble_eq_true rfl) ?_
      obtain ⟨σ11, e, h⟩ := op_bd h
      refine ow_pI (pc := 62) e dX8_cutNumber_62 fd_X8_68 ?_
      refine aw_aload_n (pc := 65) 0 dX8_cutNumber_65 rfl ?_
      refine aw_dup (pc := 66) dX8_cutNumber_66 rfl ?_
      obtain ⟨v12, e, h⟩ := op_bd h
      refine ow_gI (pc := 67) e dX8_cutNumber_67 fd_X8_59 rfl ?_
      refine aw_iconst (pc := 70) (v := (1 : Int32)) dX8_cutNumber_70 (by decide) ?_
      refine aw_iadd (pc := 71) dX8_cutNumber_71 ?_
      obtain ⟨σ13, e, h⟩ := op_bd h
      refine ow_pI (pc := 72) e dX8_cutNumber_72 fd_X8_59 ?_
      refine aw_goto (pc := 75) 10 dX8_cutNumber_75 (by decide) ?_
      exact hK10 _ _ _ h
theorem c_X8_cutNumber_10 {G : ah_G}   : ∀ (n : Nat) (x0 : Nat) (σ : ah_H) (r : ah_H), f_X8_cutNumber_10   n x0 σ = some r → AW G m_X8_cutNumber 1 0 0 10 [(0, .ref x0)] [] σ (ah_N G (ah_rv r)) := by
  intro n
  induction n with
  | zero => intro x0 σ r h; cases h
  | succ n ih => intro x0 σ r h; exact c_X8_cutNumber_10_b   _ ih x0 σ r h
set_option maxRecDepth 100000 in
set_option maxHeartbeats 4000000 in
theorem c_X8_cutNumber_0 {G : ah_G}   : ∀ (x0 : Nat) (σ : ah_H) (r : ah_H), f_X8_cutNumber_0   x0 σ = some r → AW G m_X8_cutNumber 1 0 0 0 [(0, .ref x0)] [] σ (ah_N G (ah_rv r)) := by
  intro x0 σ r h
  unfold f_X8_cutNumber_0 at h
  refine aw_aload_n (pc := 0) 0 dX8_cutNumber_0 rfl ?_
  refine aw_iconst (pc := 1) (v := (3 : Int32)) dX8_cutNumber_1 (by decide) ?_
  obtain ⟨σ1, e, h⟩ := op_bd h
  refine ow_pI (pc := 2) e dX8_cutNumber_2 fd_X8_62 ?_
  refine aw_aload_n (pc := 5) 0 dX8_cutNumber_5 rfl ?_
  refine aw_iconst (pc := 6) (v := (0 : Int32)) dX8_cutNumber_6 (by decide) ?_
  obtain ⟨σ2, e, h⟩ := op_bd h
  refine ow_pI (pc := 7) e dX8_cutNumber_7 fd_X8_68 ?_
  exact c_X8_cutNumber_10  _ _ _ _ h
theorem c_X8_cutNumber {G : ah_G}   (x0 : Nat) (σ : ah_H) (r : ah_H) (h : f_X8_cutNumber  x0 σ = some r) : AM G m_X8_cutNumber 1 0 0 [.ref x0] σ (ah_rv r) := aw_enter (by decide) (Nat.le_of_ble_eq_true rfl) (c_X8_cutNumber_0 _ _ _ (op_ck_k h))
