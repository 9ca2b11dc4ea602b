def f_X12_isFull_43   (x0 : Nat) (x1 : Int32) (σ : ah_H) : Option (Int32 × ah_H) :=
  if x1 = (6 : Int32) then ((f_X12_fresher x0 (3 : Int32) σ).bind fun r1 => if r1.1 = (4 : Int32) then ((op_rz (1 : Int32)).map fun q => (q, r1.2)) else ((op_rz (0 : Int32)).map fun q => (q, r1.2))) else ((op_rz (0 : Int32)).map fun q => (q, σ))
def f_X12_isFull_29   (x0 : Nat) (x1 : Int32) (σ : ah_H) : Option (Int32 × ah_H) :=
  if x1 = (3 : Int32) then ((f_X12_fresher x0 (2 : Int32) σ).bind fun r1 => if r1.1 = (4 : Int32) then ((op_rz (1 : Int32)).map fun q => (q, r1.2)) else (f_X12_isFull_43 x0 x1 r1.2)) else (f_X12_isFull_43 x0 x1 σ)
def f_X12_isFull_14   (x0 : Nat) (x1 : Int32) (σ : ah_H) : Option (Int32 × ah_H) :=
  if x1 = (2 : Int32) then ((f_X12_fresher x0 (1 : Int32) σ).bind fun r1 => if r1.1 = (10 : Int32) then ((op_rz (1 : Int32)).map fun q => (q, r1.2)) else (f_X12_isFull_29 x0 x1 r1.2)) else (f_X12_isFull_29 x0 x1 σ)
def f_X12_isFull_0   (x0 : Nat) (x1 : Int32) (σ : ah_H) : Option (Int32 × ah_H) :=
  if x1 = 0 then ((f_X12_fresher x0 (0 : Int32) σ).bind fun r1 => if r1.1 = (7 : Int32) then ((op_rz (1 : Int32)).map fun q => (q, r1.2)) else (f_X12_isFull_14 x0 x1 r1.2)) else (f_X12_isFull_14 x0 x1 σ)
def f_X12_isFull  (x0 : Nat) (x1 : Int32) (σ : ah_H) : Option (Int32 × ah_H) := op_ck 12 σ x0 (f_X12_isFull_0 x0 x1 σ)
set_option maxRecDepth 100000 in
set_option maxHeartbeats 4000000 in
theorem c_X12_isFull_43 {G : ah_G}   : ∀ (x0 : Nat) (x1 : Int32) (σ : ah_H) (r : Int32 × ah_H), f_X12_isFull_43   x0 x1 σ = some r → AW G m_X12_isFull 1 0 0 43 [(0, .ref x0), (1, .int x1)] [] σ (ah_N G (ah_ri r)) := by
  intro x0 x1 σ r h
  unfold f_X12_isFull_43 at h
  refine aw_iload_n (pc := 43) 1 dX12_isFull_43 rfl ?_
  refine aw_bipush (pc := 44) (v := (6 : Int32)) dX12_isFull_44 (by decide) ?_
  refine aw_icmp_ne (pc := 46) 62 dX12_isFull_46 (by decide) (fun z => ?_) (fun z => ?_)
  · replace h := (if_neg z).symm.trans h
    refine aw_iconst (pc := 62) (v := (0 : Int32)) dX12_isFull_62 (by decide) ?_
    exact ow_zret (pc := 63) h dX12_isFull_63 rfl
  · replace h := (if_pos z).symm.trans h
    refine aw_aload_n (pc := 49) 0 dX12_isFull_49 rfl ?_
    refine aw_iconst (pc := 50) (v := (3 : Int32)) dX12_isFull_50 (by decide) ?_
    obtain ⟨r1, e, h⟩ := op_bd h
    refine ow_cVi (pc := 51) [.int (3 : Int32)] ((c_X12_fresher _ _ _ _ e).mono (by decide)) (op_ck_sh e) rfl dX12_isFull_51 cw_X12_221 rfl (Nat.le_of_ble_eq_true rfl) ?_
    refine aw_iconst (pc := 54) (v := (4 : Int32)) dX12_isFull_54 (by decide) ?_
    refine aw_icmp_ne (pc := 55) 62 dX12_isFull_55 (by decide) (fun z => ?_) (fun z => ?_)
    · replace h := (if_neg z).symm.trans h
      refine aw_iconst (pc := 62) (v := (0 : Int32)) dX12_isFull_62 (by decide) ?_
      exact ow_zret (pc := 63) h dX12_isFull_63 rfl
    · replace h := (if_pos z).symm.trans h
      refine aw_iconst (pc := 58) (v := (1 : Int32)) dX12_isFull_58 (by decide) ?_
      refine aw_goto (pc := 59) 63 dX12_isFull_59 (by decide) ?_
      exact ow_zret (pc := 63) h dX12_isFull_63 rfl
set_option maxRecDepth 100000 in
set_option maxHeartbeats 4000000 in
theorem c_X12_isFull_29 {G : ah_G}   : ∀ (x0 : Nat) (x1 : Int32) (σ : ah_H) (r : Int32 × ah_H), f_X12_isFull_29   x0 x1 σ = some r → AW G m_X12_isFull 1 0 0 29 [(0, .ref x0), (1, .int x1)] [] σ (ah_N G (ah_ri r)) := by
  intro x0 x1 σ r h
  unfold f_X12_isFull_29 at h
  refine aw_iload_n (pc := 29) 1 dX12_isFull_29 rfl ?_
  refine aw_iconst (pc := 30) (v := (3 : Int32)) dX12_isFull_30 (by decide) ?_
  refine aw_icmp_ne (pc := 31) 43 dX12_isFull_31 (by decide) (fun z => ?_) (fun z => ?_)
  · replace h := (if_neg z).symm.trans h
    exact c_X12_isFull_43  _ _ _ _ h
  · replace h := (if_pos z).symm.trans h
    refine aw_aload_n (pc := 34) 0 dX12_isFull_34 rfl ?_
    refine aw_iconst (pc := 35) (v := (2 : Int32)) dX12_isFull_35 (by decide) ?_
    obtain ⟨r1, e, h⟩ := op_bd h
    refine ow_cVi (pc := 36) [.int (2 : Int32)] ((c_X12_fresher _ _ _ _ e).mono (by decide)) (op_ck_sh e) rfl dX12_isFull_36 cw_X12_221 rfl (Nat.le_of_ble_eq_true rfl) ?_
    refine aw_iconst (pc := 39) (v := (4 : Int32)) dX12_isFull_39 (by decide) ?_
    refine aw_icmp_eq (pc := 40) 58 dX12_isFull_40 (by decide) (fun z => ?_) (fun z => ?_)
    · replace h := (if_pos z).symm.trans h
      refine aw_iconst (pc := 58) (v := (1 : Int32)) dX12_isFull_58 (by decide) ?_
      refine aw_goto (pc := 59) 63 dX12_isFull_59 (by decide) ?_
      exact ow_zret (pc := 63) h dX12_isFull_63 rfl
    · replace h := (if_neg z).symm.trans h
      exact c_X12_isFull_43  _ _ _ _ h
set_option maxRecDepth 100000 in
set_option maxHeartbeats 4000000 in
theorem c_X12_isFull_14 {G : ah_G}   : ∀ (x0 : Nat) (x1 : Int32) (σ : ah_H) (r : Int32 × ah_H), f_X12_isFull_14   x0 x1 σ = some r → AW G m_X12_isFull 1 0 0 14 [(0, .ref x0), (1, .int x1)] [] σ (ah_N G (ah_ri r)) := by
  intro x0 x1 σ r h
  unfold f_X12_isFull_14 at h
  refine aw_iload_n (pc := 14) 1 dX12_isFull_14 rfl ?_
  refine aw_iconst (pc := 15) (v := (2 : Int32)) dX12_isFull_15 (by decide) ?_
  refine aw_icmp_ne (pc := 16) 29 dX12_isFull_16 (by decide) (fun z => ?_) (fun z => ?_)
  · replace h := (if_neg z).symm.trans h
    exact c_X12_isFull_29  _ _ _ _ h
  · replace h := (if_pos z).symm.trans h
    refine aw_aload_n (pc := 19) 0 dX12_isFull_19 rfl ?_
    refine aw_iconst (pc := 20) (v := (1 : Int32)) dX12_isFull_20 (by decide) ?_
    obtain ⟨r1, e, h⟩ := op_bd h
    refine ow_cVi (pc := 21) [.int (1 : Int32)] ((c_X12_fresher _ _ _ _ e).mono (by decide)) (op_ck_sh e) rfl dX12_isFull_21 cw_X12_221 rfl (Nat.le_of_ble_eq_true rfl) ?_
    refine aw_bipush (pc := 24) (v := (10 : Int32)) dX12_isFull_24 (by decide) ?_
    refine aw_icmp_eq (pc := 26) 58 dX12_isFull_26 (by decide) (fun z => ?_) (fun z => ?_)
    · replace h := (if_pos z).symm.trans h
      refine aw_iconst (pc := 58) (v := (1 : Int32)) dX12_isFull_58 (by decide) ?_
      refine aw_goto (pc := 59) 63 dX12_isFull_59 (by decide) ?_
      exact ow_zret (pc := 63) h dX12_isFull_63 rfl
    · replace h := (if_neg z).symm.trans h
      exact c_X12_isFull_29  _ _ _ _ h
set_option maxRecDepth 100000 in
set_option maxHeartbeats 4000000 in
theorem c_X12_isFull_0 {G : ah_G}   : ∀ (x0 : Nat) (x1 : Int32) (σ : ah_H) (r : Int32 × ah_H), f_X12_isFull_0   x0 x1 σ = some r → AW G m_X12_isFull 1 0 0 0 [(0, .ref x0), (1, .int x1)] [] σ (ah_N G (ah_ri r)) := by
  intro x0 x1 σ r h
  unfold f_X12_isFull_0 at h
  refine aw_iload_n (pc := 0) 1 dX12_isFull_0 rfl ?_
  refine aw_if_ne (pc := 1) 14 dX12_isFull_1 (by decide) (fun z => ?_) (fun z => ?_)
  · replace h := (if_neg z).symm.trans h
    exact c_X12_isFull_14  _ _ _ _ h
  · replace h := (if_pos z).symm.trans h
    refine aw_aload_n (pc := 4) 0 dX12_isFull_4 rfl ?_
    refine aw_iconst (pc := 5) (v := (0 : Int32)) dX12_isFull_5 (by decide) ?_
    obtain ⟨r1, e, h⟩ := op_bd h
    refine ow_cVi (pc := 6) [.int (0 : Int32)] ((c_X12_fresher _ _ _ _ e).mono (by decide)) (op_ck_sh e) rfl dX12_isFull_6 cw_X12_221 rfl (Nat.le_of_ble_eq_true rfl) ?_
    refine aw_bipush (pc := 9) (v := (7 : Int32)) dX12_isFull_9 (by decide) ?_
    refine aw_icmp_eq (pc := 11) 58 dX12_isFull_11 (by decide) (fun z => ?_) (fun z => ?_)
    · replace h := (if_pos z).symm.trans h
      refine aw_iconst (pc := 58) (v := (1 : Int32)) dX12_isFull_58 (by decide) ?_
      refine aw_goto (pc := 59) 63 dX12_isFull_59 (by decide) ?_
      exact ow_zret (pc := 63) h dX12_isFull_63 rfl
    · replace h := (if_neg z).symm.trans h
      exact c_X12_isFull_14  _ _ _ _ h
theorem c_X12_isFull {G : ah_G}   (x0 : Nat) (x1 : Int32) (σ : ah_H) (r : Int32 × ah_H) (h : f_X12_isFull  x0 x1 σ = some r) : AM G m_X12_isFull 1 0 0 [.ref x0, .int x1] σ (ah_ri r) := aw_enter (by decide) (Nat.le_of_ble_eq_true rfl) (c_X12_isFull_0 _ _ _ _ (op_ck_k h))
def f_X12_isOnce_0   (x0 : Int32) (σ : ah_H) : Option (Int32 × ah_H) :=
  if x0 = (1 : Int32) then ((op_rz (1 : Int32)).map fun q => (q, σ)) else (if x0 = (4 : Int32) then ((op_rz (1 : Int32)).map fun q => (q, σ)) else (if x0 = (5 : Int32) then ((op_rz (1 : Int32)).map fun q => (q, σ)) else (if x0 = (8 : Int32) then ((op_rz (1 : Int32)).map fun q => (q, σ)) else ((op_rz (0 : Int32)).map fun q => (q, σ)))))
def f_X12_isOnce  (x0 : Int32) (σ : ah_H) : Option (Int32 × ah_H) := f_X12_isOnce_0 x0 σ
set_option maxRecDepth 100000 in
set_option maxHeartbeats 4000000 in
theorem c_X12_isOnce_0 {G : ah_G}   : ∀ (x0 : Int32) (σ : ah_H) (r : Int32 × ah_H), f_X12_isOnce_0   x0 σ = some r → AW G m_X12_isOnce 0 0 0 0 [(0, .int x0)] [] σ (ah_N G (ah_ri r)) := by
  intro x0 σ r h
  unfold f_X12_isOnce_0 at h
  refine aw_iload_n (pc := 0) 0 dX12_isOnce_0 rfl ?_
  refine aw_iconst (pc := 1) (v := (1 : Int32)) dX12_isOnce_1 (by decide) ?_
  refine aw_icmp_eq (pc := 2) 21 dX12_isOnce_2 (by decide) (fun z => ?_) (fun z => ?_)
  · replace h := (if_pos z).symm.trans h
    refine aw_iconst (pc := 21) (v := (1 : Int32)) dX12_isOnce_21 (by decide) ?_
    refine aw_goto (pc := 22) 26 dX12_isOnce_22 (by decide) ?_
    exact ow_zret (pc := 26) h dX12_isOnce_26 rfl
  · replace h := (if_neg z).symm.trans h
    refine aw_iload_n (pc := 5) 0 dX12_isOnce_5 rfl ?_
    refine aw_iconst (pc := 6) (v := (4 : Int32)) dX12_isOnce_6 (by decide) ?_
    refine aw_icmp_eq (pc := 7) 21 dX12_isOnce_7 (by decide) (fun z => ?_) (fun z => ?_)
    · replace h := (if_pos z).symm.trans h
      refine aw_iconst (pc := 21) (v := (1 : Int32)) dX12_isOnce_21 (by decide) ?_
      refine aw_goto (pc := 22) 26 dX12_isOnce_22 (by decide) ?_
      exact ow_zret (pc := 26) h dX12_isOnce_26 rfl
    · replace h := (if_neg z).symm.trans h
      refine aw_iload_n (pc := 10) 0 dX12_isOnce_10 rfl ?_
      refine aw_iconst (pc := 11) (v := (5 : Int32)) dX12_isOnce_11 (by decide) ?_
      refine aw_icmp_eq (pc := 12) 21 dX12_isOnce_12 (by decide) (fun z => ?_) (fun z => ?_)
      · replace h := (if_pos z).symm.trans h
        refine aw_iconst (pc := 21) (v := (1 : Int32)) dX12_isOnce_21 (by decide) ?_
        refine aw_goto (pc := 22) 26 dX12_isOnce_22 (by decide) ?_
        exact ow_zret (pc := 26) h dX12_isOnce_26 rfl
      · replace h := (if_neg z).symm.trans h
        refine aw_iload_n (pc := 15) 0 dX12_isOnce_15 rfl ?_
        refine aw_bipush (pc := 16) (v := (8 : Int32)) dX12_isOnce_16 (by decide) ?_
        refine aw_icmp_ne (pc := 18) 25 dX12_isOnce_18 (by decide) (fun z => ?_) (fun z => ?_)
        · replace h := (if_neg z).symm.trans h
          refine aw_iconst (pc := 25) (v := (0 : Int32)) dX12_isOnce_25 (by decide) ?_
          exact ow_zret (pc := 26) h dX12_isOnce_26 rfl
        · replace h := (if_pos z).symm.trans h
          refine aw_iconst (pc := 21) (v := (1 : Int32)) dX12_isOnce_21 (by decide) ?_
          refine aw_goto (pc := 22) 26 dX12_isOnce_22 (by decide) ?_
          exact ow_zret (pc := 26) h dX12_isOnce_26 rfl
theorem c_X12_isOnce {G : ah_G}   (x0 : Int32) (σ : ah_H) (r : Int32 × ah_H) (h : f_X12_isOnce  x0 σ = some r) : AM G m_X12_isOnce 0 0 0 [.int x0] σ (ah_ri r) := aw_enter (by decide) (Nat.le_of_ble_eq_true rfl) (c_X12_isOnce_0 _ _ _ h)
def f_X12_cornerLine_82   (x0 : Nat) (σ : ah_H) : Option (ah_H) :=
  (f_X12_fresher x0 (0 : Int32) σ).bind fun r1 => (f_X12_reads x0 (0 : Int32) (r1.1 + (1 : Int32)) r1.2).bind fun r2 => some r2
def f_X12_cornerLine_0   (x0 : Nat) (x1 : Int32) (σ : ah_H) : Option (ah_H) :=
  (op_gR 12 4 σ x0).bind fun v1 => (op_gR 12 4 σ x0).bind fun v2 => (f_X12_fresher x0 (0 : Int32) σ).bind fun r3 => (f_X12_fresh x0 v2 (7 : Int32) r3.1 r3.2).bind fun r4 => (op_sI r4.2 v1 x1 r4.1).bind fun σ5 => (op_gR 12 5 σ5 x0).bind fun v6 => (f_X12_numeral x0 (0 : Int32) (999 : Int32) σ5).bind fun r7 => (op_sI r7.2 v6 x1 r7.1).bind fun σ8 => (op_gR 12 6 σ8 x0).bind fun v9 => (f_X12_numeral x0 (0 : Int32) (99 : Int32) σ8).bind fun r10 => (op_sI r10.2 v9 x1 r10.1).bind fun σ11 => (op_gR 12 7 σ11 x0).bind fun v12 => (op_sI σ11 v12 x1 (20 : Int32)).bind fun σ13 => (f_X12_isWord x0 (9 : Int32) σ13).bind fun r14 => if r14.1 = 0 then (f_X12_cornerLine_82 x0 r14.2) else ((f_X12_token x0 r14.2).bind fun r15 => (op_gR 12 7 r15 x0).bind fun v16 => (f_X12_numeral x0 (0 : Int32) (20 : Int32) r15).bind fun r17 => (op_sI r17.2 v16 x1 r17.1).bind fun σ18 => f_X12_cornerLine_82 x0 σ18)
def f_X12_cornerLine  (x0 : Nat) (x1 : Int32) (σ : ah_H) : Option (ah_H) := op_ck 12 σ x0 (f_X12_cornerLine_0 x0 x1 σ)
set_option maxRecDepth 100000 in
set_option maxHeartbeats 4000000 in
theorem c_X12_cornerLine_82 {G : ah_G}   : ∀ (x0 : Nat) (σ : ah_H) (r : ah_H), f_X12_cornerLine_82   x0 σ = some r → AW G m_X12_cornerLine 7 0 0 82 [(0, .ref x0)] [] σ (ah_N G (ah_rv r)) := by
  intro x0 σ r h
  unfold f_X12_cornerLine_82 at h
  refine aw_aload_n (pc := 82) 0 dX12_cornerLine_82 rfl ?_
  refine aw_iconst (pc := 83) (v := (0 : Int32)) dX12_cornerLine_83 (by decide) ?_
  refine aw_aload_n (pc := 84) 0 dX12_cornerLine_84 rfl ?_
  refine aw_iconst (pc := 85) (v := (0 : Int32)) dX12_cornerLine_85 (by decide) ?_
  obtain ⟨r1, e, h⟩ := op_bd h
  refine ow_cVi (pc := 86) [.int (0 : Int32)] ((c_X12_fresher _ _ _ _ e).mono (by decide)) (op_ck_sh e) rfl dX12_cornerLine_86 cw_X12_221 rfl (Nat.le_of_ble_eq_true rfl) ?_
  refine aw_iconst (pc := 89) (v := (1 : Int32)) dX12_cornerLine_89 (by decide) ?_
  refine aw_iadd (pc := 90) dX12_cornerLine_90 ?_
  obtain ⟨r2, e, h⟩ := op_bd h
  refine ow_cVv (pc := 91) [.int (0 : Int32), .int (r1.1 + (1 : Int32))] ((c_X12_reads _ _ _ _ _ e).mono (by decide)) (op_ck_sh e) rfl dX12_cornerLine_91 cw_X12_240 rfl (Nat.le_of_ble_eq_true rfl) ?_
  exact ow_vret (pc := 94) h dX12_cornerLine_94 rfl
set_option maxRecDepth 100000 in
set_option maxHeartbeats 4000000 in
theorem c_X12_cornerLine_0 {G : ah_G}   : ∀ (x0 : Nat) (x1 : Int32) (σ : ah_H) (r : ah_H), f_X12_cornerLine_0   x0 x1 σ = some r → AW G m_X12_cornerLine 7 0 0 0 [(0, .ref x0), (1, .int x1)] [] σ (ah_N G (ah_rv r)) := by
  intro x0 x1 σ r h
  unfold f_X12_cornerLine_0 at h
  refine aw_aload_n (pc := 0) 0 dX12_cornerLine_0 rfl ?_
  obtain ⟨v1, e, h⟩ := op_bd h
  refine ow_gR (pc := 1) e dX12_cornerLine_1 fd_X12_18 rfl ?_
  refine aw_iload_n (pc := 4) 1 dX12_cornerLine_4 rfl ?_
  refine aw_aload_n (pc := 5) 0 dX12_cornerLine_5 rfl ?_
  refine aw_aload_n (pc := 6) 0 dX12_cornerLine_6 rfl ?_
  obtain ⟨v2, e, h⟩ := op_bd h
  refine ow_gR (pc := 7) e dX12_cornerLine_7 fd_X12_18 rfl ?_
  refine aw_bipush (pc := 10) (v := (7 : Int32)) dX12_cornerLine_10 (by decide) ?_
  refine aw_aload_n (pc := 12) 0 dX12_cornerLine_12 rfl ?_
  refine aw_iconst (pc := 13) (v := (0 : Int32)) dX12_cornerLine_13 (by decide) ?_
  obtain ⟨r3, e, h⟩ := op_bd h
  refine ow_cVi (pc := 14) [.int (0 : Int32)] ((c_X12_fresher _ _ _ _ e).mono (by decide)) (op_ck_sh e) rfl dX12_cornerLine_14 cw_X12_221 rfl (Nat.le_of_ble_eq_true rfl) ?_
  obtain ⟨r4, e, h⟩ := op_bd h
  refine ow_cVi (pc := 17) [.ref v2, .int (7 : Int32), .int r3.1] ((c_X12_fresh _ _ _ _ _ _ e).mono (by decide)) (op_ck_sh e) rfl dX12_cornerLine_17 cw_X12_269 rfl (Nat.le_of_ble_eq_true rfl) ?_
  obtain ⟨σ5, e, h⟩ := op_bd h
  refine ow_sI (pc := 20) e dX12_cornerLine_20 ?_
  refine aw_aload_n (pc := 21) 0 dX12_cornerLine_21 rfl ?_
  obtain ⟨v6, e, h⟩ := op_bd h
  refine ow_gR (pc := 22) e dX12_cornerLine_22 fd_X12_21 rfl ?_
  refine aw_iload_n (pc := 25) 1 dX12_cornerLine_25 rfl ?_
  refine aw_aload_n (pc := 26) 0 dX12_cornerLine_26 rfl ?_
  refine aw_iconst (pc := 27) (v := (0 : Int32)) dX12_cornerLine_27 (by decide) ?_
  refine aw_sipush (pc := 28) (v := (999 : Int32)) dX12_cornerLine_28 (by decide) ?_
  obtain ⟨r7, e, h⟩ := op_bd h
  refine ow_cVi (pc := 31) [.int (0 : Int32), .int (999 : Int32)] ((c_X12_numeral _ _ _ _ _ e).mono (by decide)) (op_ck_sh e) rfl dX12_cornerLine_31 cw_X12_247 rfl (Nat.le_of_ble_eq_true rfl) ?_
  obtain ⟨σ8, e, h⟩ := op_bd h
  refine ow_sI (pc := 34) e dX12_cornerLine_34 ?_
  refine aw_aload_n (pc := 35) 0 dX12_cornerLine_35 rfl ?_
  obtain ⟨v9, e, h⟩ := op_bd h
  refine ow_gR (pc := 36) e dX12_cornerLine_36 fd_X12_24 rfl ?_
  refine aw_iload_n (pc := 39) 1 dX12_cornerLine_39 rfl ?_
  refine aw_aload_n (pc := 40) 0 dX12_cornerLine_40 rfl ?_
  refine aw_iconst (pc := 41) (v := (0 : Int32)) dX12_cornerLine_41 (by decide) ?_
  refine aw_bipush (pc := 42) (v := (99 : Int32)) dX12_cornerLine_42 (by decide) ?_
  obtain ⟨r10, e, h⟩ := op_bd h
  refine ow_cVi (pc := 44) [.int (0 : Int32), .int (99 : Int32)] ((c_X12_numeral _ _ _ _ _ e).mono (by decide)) (op_ck_sh e) rfl dX12_cornerLine_44 cw_X12_247 rfl (Nat.le_of_ble_eq_true rfl) ?_
  obtain ⟨σ11, e, h⟩ := op_bd h
  refine ow_sI (pc := 47) e dX12_cornerLine_47 ?_
  refine aw_aload_n (pc := 48) 0 dX12_cornerLine_48 rfl ?_
  obtain ⟨v12, e, h⟩ := op_bd h
  refine ow_gR (pc := 49) e dX12_cornerLine_49 fd_X12_27 rfl ?_
  refine aw_iload_n (pc := 52) 1 dX12_cornerLine_52 rfl ?_
  refine aw_bipush (pc := 53) (v := (20 : Int32)) dX12_cornerLine_53 (by decide) ?_
  obtain ⟨σ13, e, h⟩ := op_bd h
  refine ow_sI (pc := 55) e dX12_cornerLine_55 ?_
  refine aw_aload_n (pc := 56) 0 dX12_cornerLine_56 rfl ?_
  refine aw_bipush (pc := 57) (v := (9 : Int32)) dX12_cornerLine_57 (by decide) ?_
  obtain ⟨r14, e, h⟩ := op_bd h
  refine ow_cVi (pc := 59) [.int (9 : Int32)] ((c_X12_isWord _ _ _ _ e).mono (by decide)) (op_ck_sh e) rfl dX12_cornerLine_59 cw_X12_273 rfl (Nat.le_of_ble_eq_true rfl) ?_
  refine aw_if_eq (pc := 62) 82 dX12_cornerLine_62 (by decide) (fun z => ?_) (fun z => ?_)
  · replace h := (if_pos z).symm.trans h
    refine aw_sub [0] rfl ?_
    exact c_X12_cornerLine_82  _ _ _ h
  · replace h := (if_neg z).symm.trans h
    refine aw_aload_n (pc := 65) 0 dX12_cornerLine_65 rfl ?_
    obtain ⟨r15, e, h⟩ := op_bd h
    refine ow_cVv (pc := 66) [] ((c_X12_token _ _ _ e).mono (by decide)) (op_ck_sh e) rfl dX12_cornerLine_66 cw_X12_211 rfl (Nat.le_of_ble_eq_true rfl) ?_
    refine aw_aload_n (pc := 69) 0 dX12_cornerLine_69 rfl ?_
    obtain ⟨v16, e, h⟩ := op_bd h
    refine ow_gR (pc := 70) e dX12_cornerLine_70 fd_X12_27 rfl ?_
    refine aw_iload_n (pc := 73) 1 dX12_cornerLine_73 rfl ?_
    refine aw_aload_n (pc := 74) 0 dX12_cornerLine_74 rfl ?_
    refine aw_iconst (pc := 75) (v := (0 : Int32)) dX12_cornerLine_75 (by decide) ?_
    refine aw_bipush (pc := 76) (v := (20 : Int32)) dX12_cornerLine_76 (by decide) ?_
    obtain ⟨r17, e, h⟩ := op_bd h
    refine ow_cVi (pc := 78) [.int (0 : Int32), .int (20 : Int32)] ((c_X12_numeral _ _ _ _ _ e).mono (by decide)) (op_ck_sh e) rfl dX12_cornerLine_78 cw_X12_247 rfl (Nat.le_of_ble_eq_true rfl) ?_
    obtain ⟨σ18, e, h⟩ := op_bd h
    refine ow_sI (pc := 81) e dX12_cornerLine_81 ?_
    refine aw_sub [0] rfl ?_
    exact c_X12_cornerLine_82  _ _ _ h
theorem c_X12_cornerLine {G : ah_G}   (x0 : Nat) (x1 : Int32) (σ : ah_H) (r : ah_H) (h : f_X12_cornerLine  x0 x1 σ = some r) : AM G m_X12_cornerLine 7 0 0 [.ref x0, .int x1] σ (ah_rv r) := aw_enter (by decide) (Nat.le_of_ble_eq_true rfl) (c_X12_cornerLine_0 _ _ _ _ (op_ck_k h))
def f_X12_knot_0   (x0 : Nat) (σ : ah_H) : Option (ah_H) :=
  (op_gI 12 29 σ x0).bind fun v1 => if v1 = 0 then ((op_gI 12 34 σ x0).bind fun v2 => if v2 = (64 : Int32) then ((f_X12_wrong x0 (2 : Int32) σ).bind fun r5 => some r5) else ((op_gI 12 34 σ x0).bind fun v3 => (op_pI 12 34 σ x0 (v3 + (1 : Int32))).bind fun σ4 => some σ4)) else (some σ)
def f_X12_knot  (x0 : Nat) (σ : ah_H) : Option (ah_H) := op_ck 12 σ x0 (f_X12_knot_0 x0 σ)
set_option maxRecDepth 100000 in
set_option maxHeartbeats 4000000 in
theorem c_X12_knot_0 {G : ah_G}   : ∀ (x0 : Nat) (σ : ah_H) (r : ah_H), f_X12_knot_0   x0 σ = some r → AW G m_X12_knot 1 0 0 0 [(0, .ref x0)] [] σ (ah_N G (ah_rv r)) := by
  intro x0 σ r h
  unfold f_X12_knot_0 at h
  refine aw_aload_n (pc := 0) 0 dX12_knot_0 rfl ?_
  obtain ⟨v1, e, h⟩ := op_bd h
  refine ow_gI (pc := 1) e dX12_knot_1 fd_X12_205 rfl ?_
  refine aw_if_eq (pc := 4) 8 dX12_knot_4 (by decide) (fun z => ?_) (fun z => ?_)
  · replace h := (if_pos z).symm.trans h
    refine aw_aload_n (pc := 8) 0 dX12_knot_8 rfl ?_
    obtain ⟨v2, e, h⟩ := op_bd h
    refine ow_gI (pc := 9) e dX12_knot_9 fd_X12_283 rfl ?_
    refine aw_bipush (pc := 12) (v := (64 : Int32)) dX12_knot_12 (by decide) ?_
    refine aw_icmp_ne (pc := 14) 25 dX12_knot_14 (by decide) (fun z => ?_) (fun z => ?_)
    · replace h := (if_neg z).symm.trans h
      refine aw_aload_n (pc := 25) 0 dX12_knot_25 rfl ?_
      refine aw_dup (pc := 26) dX12_knot_26 rfl ?_
      obtain ⟨v3, e, h⟩ := op_bd h
      refine ow_gI (pc := 27) e dX12_knot_27 fd_X12_283 rfl ?_
      refine aw_iconst (pc := 30) (v := (1 : Int32)) dX12_knot_30 (by decide) ?_
      refine aw_iadd (pc := 31) dX12_knot_31 ?_
      obtain ⟨σ4, e, h⟩ := op_bd h
      refine ow_pI (pc := 32) e dX12_knot_32 fd_X12_283 ?_
      exact ow_vret (pc := 35) h dX12_knot_35 rfl
    · replace h := (if_pos z).symm.trans h
      refine aw_aload_n (pc := 17) 0 dX12_knot_17 rfl ?_
      refine aw_iconst (pc := 18) (v := (2 : Int32)) dX12_knot_18 (by decide) ?_
      obtain ⟨r5, e, h⟩ := op_bd h
      refine ow_cVv (pc := 19) [.int (2 : Int32)] ((c_X12_wrong _ _ _ _ e).mono (by decide)) (op_ck_sh e) rfl dX12_knot_19 cw_X12_214 rfl (Nat.le_of_ble_eq_true rfl) ?_
      refine aw_goto (pc := 22) 35 dX12_knot_22 (by decide) ?_
      exact ow_vret (pc := 35) h dX12_knot_35 rfl
  · replace h := (if_neg z).symm.trans h
    exact ow_vret (pc := 7) h dX12_knot_7 rfl
theorem c_X12_knot {G : ah_G}   (x0 : Nat) (σ : ah_H) (r : ah_H) (h : f_X12_knot  x0 σ = some r) : AM G m_X12_knot 1 0 0 [.ref x0] σ (ah_rv r) := aw_enter (by decide) (Nat.le_of_ble_eq_true rfl) (c_X12_knot_0 _ _ _ (op_ck_k h))
def f_X12_puts_0   (x0 : Nat) (x1 : Int32) (x2 : Int32) (σ : ah_H) : Option (ah_H) :=
  (op_gI 12 29 σ x0).bind fun v1 => if v1 = 0 then ((op_gR 12 20 σ x0).bind fun v2 => (f_X12_fresher x0 (11 : Int32) σ).bind fun r3 => (op_sI r3.2 v2 ((64 : Int32) + r3.1) x1).bind fun σ4 => (op_gR 12 21 σ4 x0).bind fun v5 => (f_X12_fresher x0 (11 : Int32) σ4).bind fun r6 => (op_sI r6.2 v5 ((64 : Int32) + r6.1) x2).bind fun σ7 => (f_X12_fresher x0 (11 : Int32) σ7).bind fun r8 => (f_X12_reads x0 (11 : Int32) (r8.1 + (1 : Int32)) r8.2).bind fun r9 => some r9) else (some σ)
def f_X12_puts  (x0 : Nat) (x1 : Int32) (x2 : Int32) (σ : ah_H) : Option (ah_H) := op_ck 12 σ x0 (f_X12_puts_0 x0 x1 x2 σ)
set_option maxRecDepth 100000 in
set_option maxHeartbeats 4000000 in
theorem c_X12_puts_0 {G : ah_G}   : ∀ (x0 : Nat) (x1 : Int32) (x2 : Int32) (σ : ah_H) (r : ah_H), f_X12_puts_0   x0 x1 x2 σ = some r → AW G m_X12_puts 1 0 0 0 [(0, .ref x0), (1, .int x1), (2, .int x2)] [] σ (ah_N G (ah_rv r)) := by
  intro x0 x1 x2 σ r h
  unfold f_X12_puts_0 at h
  refine aw_aload_n (pc := 0) 0 dX12_puts_0 rfl ?_
  obtain ⟨v1, e, h⟩ := op_bd h
  refine ow_gI (pc := 1) e dX12_puts_1 fd_X12_205 rfl ?_
  refine aw_if_eq (pc := 4) 8 dX12_puts_4 (by decide) (fun z => ?_) (fun z => ?_)
  · replace h := (if_pos z).symm.trans h
    refine aw_aload_n (pc := 8) 0 dX12_puts_8 rfl ?_
    obtain ⟨v2, e, h⟩ := op_bd h
    refine ow_gR (pc := 9) e dX12_puts_9 fd_X12_66 rfl ?_
    refine aw_bipush (pc := 12) (v := (64 : Int32)) dX12_puts_12 (by decide) ?_
    refine aw_aload_n (pc := 14) 0 dX12_puts_14 rfl ?_
    refine aw_bipush (pc := 15) (v := (11 : Int32)) dX12_puts_15 (by decide) ?_
    obtain ⟨r3, e, h⟩ := op_bd h
    refine ow_cVi (pc := 17) [.int (11 : Int32)] ((c_X12_fresher _ _ _ _ e).mono (by decide)) (op_ck_sh e) rfl dX12_puts_17 cw_X12_221 rfl (Nat.le_of_ble_eq_true rfl) ?_
    refine aw_iadd (pc := 20) dX12_puts_20 ?_
    refine aw_iload_n (pc := 21) 1 dX12_puts_21 rfl ?_
    obtain ⟨σ4, e, h⟩ := op_bd h
    refine ow_sI (pc := 22) e dX12_puts_22 ?_
    refine aw_aload_n (pc := 23) 0 dX12_puts_23 rfl ?_
    obtain ⟨v5, e, h⟩ := op_bd h
    refine ow_gR (pc := 24) e dX12_puts_24 fd_X12_69 rfl ?_
    refine aw_bipush (pc := 27) (v := (64 : Int32)) dX12_puts_27 (by decide) ?_
    refine aw_aload_n (pc := 29) 0 dX12_puts_29 rfl ?_
    refine aw_bipush (pc := 30) (v := (11 : Int32)) dX12_puts_30 (by decide) ?_
    obtain ⟨r6, e, h⟩ := op_bd h
    refine ow_cVi (pc := 32) [.int (11 : Int32)] ((c_X12_fresher _ _ _ _ e).mono (by decide)) (op_ck_sh e) rfl dX12_puts_32 cw_X12_221 rfl (Nat.le_of_ble_eq_true rfl) ?_
    refine aw_iadd (pc := 35) dX12_puts_35 ?_
    refine aw_iload_n (pc := 36) 2 dX12_puts_36 rfl ?_
    obtain ⟨σ7, e, h⟩ := op_bd h
    refine ow_sI (pc := 37) e dX12_puts_37 ?_
    refine aw_aload_n (pc := 38) 0 dX12_puts_38 rfl ?_
    refine aw_bipush (pc := 39) (v := (11 : Int32)) dX12_puts_39 (by decide) ?_
    refine aw_aload_n (pc := 41) 0 dX12_puts_41 rfl ?_
    refine aw_bipush (pc := 42) (v := (11 : Int32)) dX12_puts_42 (by decide) ?_
    obtain ⟨r8, e, h⟩ := op_bd h
    refine ow_cVi (pc := 44) [.int (11 : Int32)] ((c_X12_fresher _ _ _ _ e).mono (by decide)) (op_ck_sh e) rfl dX12_puts_44 cw_X12_221 rfl (Nat.le_of_ble_eq_true rfl) ?_
    refine aw_iconst (pc := 47) (v := (1 : Int32)) dX12_puts_47 (by decide) ?_
    refine aw_iadd (pc := 48) dX12_puts_48 ?_
    obtain ⟨r9, e, h⟩ := op_bd h
    refine ow_cVv (pc := 49) [.int (11 : Int32), .int (r8.1 + (1 : Int32))] ((c_X12_reads _ _ _ _ _ e).mono (by decide)) (op_ck_sh e) rfl dX12_puts_49 cw_X12_240 rfl (Nat.le_of_ble_eq_true rfl) ?_
    exact ow_vret (pc := 52) h dX12_puts_52 rfl
  · replace h := (if_neg z).symm.trans h
    exact ow_vret (pc := 7) h dX12_puts_7 rfl
theorem c_X12_puts {G : ah_G}   (x0 : Nat) (x1 : Int32) (x2 : Int32) (σ : ah_H) (r : ah_H) (h : f_X12_puts  x0 x1 x2 σ = some r) : AM G m_X12_puts 1 0 0 [.ref x0, .int x1, .int x2] σ (ah_rv r) := aw_enter (by decide) (Nat.le_of_ble_eq_true rfl) (c_X12_puts_0 _ _ _ _ _ (op_ck_k h))
def f_X12_expression_4_b (S : Nat → Nat → ah_H → Option ah_H) (K4 : Nat → ah_H → Option (ah_H)) (x0 : Nat) (σ : ah_H) : Option (ah_H) :=
  (f_X12_isWord x0 (15 : Int32) σ).bind fun r1 => if r1.1 = 0 then (some r1.2) else ((f_X12_knot x0 r1.2).bind fun r2 => (f_X12_goOn x0 r2).bind fun r3 => (S 1 x0 r3).bind fun r4 => (f_X12_puts x0 (2 : Int32) (262 : Int32) r4).bind fun r5 => K4 x0 r5)
def f_X12_expression_4 (S : Nat → Nat → ah_H → Option ah_H)  : Nat → Nat → ah_H → Option (ah_H)
  | 0, _, _ => none
  | n + 1, x0, σ => f_X12_expression_4_b S (f_X12_expression_4 S n) x0 σ
def f_X12_expression_0 (S : Nat → Nat → ah_H → Option ah_H)  (x0 : Nat) (σ : ah_H) : Option (ah_H) :=
  (S 1 x0 σ).bind fun r1 => f_X12_expression_4 S 5000 x0 r1
def b_X12_expression (S : Nat → Nat → ah_H → Option ah_H) (x0 : Nat) (σ : ah_H) : Option (ah_H) := op_ck 12 σ x0 (f_X12_expression_0 S x0 σ)
def f_X12_conjunction_4_b (S : Nat → Nat → ah_H → Option ah_H) (K4 : Nat → ah_H → Option (ah_H)) (x0 : Nat) (σ : ah_H) : Option (ah_H) :=
  (f_X12_isWord x0 (16 : Int32) σ).bind fun r1 => if r1.1 = 0 then (some r1.2) else ((f_X12_knot x0 r1.2).bind fun r2 => (f_X12_goOn x0 r2).bind fun r3 => (S 2 x0 r3).bind fun r4 => (f_X12_puts x0 (2 : Int32) (261 : Int32) r4).bind fun r5 => K4 x0 r5)
def f_X12_conjunction_4 (S : Nat → Nat → ah_H → Option ah_H)  : Nat → Nat → ah_H → Option (ah_H)
  | 0, _, _ => none
  | n + 1, x0, σ => f_X12_conjunction_4_b S (f_X12_conjunction_4 S n) x0 σ
def f_X12_conjunction_0 (S : Nat → Nat → ah_H → Option ah_H)  (x0 : Nat) (σ : ah_H) : Option (ah_H) :=
  (S 2 x0 σ).bind fun r1 => f_X12_conjunction_4 S 5000 x0 r1
def b_X12_conjunction (S : Nat → Nat → ah_H → Option ah_H) (x0 : Nat) (σ : ah_H) : Option (ah_H) := op_ck 12 σ x0 (f_X12_conjunction_0 S x0 σ)
def f_X12_negation_87 (S : Nat → Nat → ah_H → Option ah_H)  (x0 : Nat) (σ : ah_H) : Option (ah_H) :=
  (op_gI 12 28 σ x0).bind fun v1 => (f_X12_knot x0 σ).bind fun r2 => (f_X12_goOn x0 r2).bind fun r3 => (S 3 x0 r3).bind fun r4 => (f_X12_puts x0 (2 : Int32) v1 r4).bind fun r5 => some r5
def f_X12_negation_0 (S : Nat → Nat → ah_H → Option ah_H)  (x0 : Nat) (σ : ah_H) : Option (ah_H) :=
  (f_X12_isWord x0 (17 : Int32) σ).bind fun r1 => if r1.1 = 0 then ((S 3 x0 r1.2).bind fun r2 => (op_gI 12 29 r2 x0).bind fun v3 => if v3 = 0 then ((op_gI 12 27 r2 x0).bind fun v4 => if v4 = (3 : Int32) then ((op_gI 12 28 r2 x0).bind fun v5 => if v5 = (60 : Int32) then (f_X12_negation_87 S x0 r2) else ((op_gI 12 28 r2 x0).bind fun v6 => if v6 = (62 : Int32) then (f_X12_negation_87 S x0 r2) else ((op_gI 12 28 r2 x0).bind fun v7 => if v7 = (61 : Int32) then (f_X12_negation_87 S x0 r2) else ((op_gI 12 28 r2 x0).bind fun v8 => if (256 : Int32) ≤ v8 then (f_X12_negation_87 S x0 r2) else (some r2))))) else (some r2)) else (some r2)) else ((f_X12_knot x0 r1.2).bind fun r9 => (f_X12_goOn x0 r9).bind fun r10 => (S 2 x0 r10).bind fun r11 => (f_X12_puts x0 (2 : Int32) (260 : Int32) r11).bind fun r12 => some r12)
def b_X12_negation (S : Nat → Nat → ah_H → Option ah_H) (x0 : Nat) (σ : ah_H) : Option (ah_H) := op_ck 12 σ x0 (f_X12_negation_0 S x0 σ)
def f_X12_sum_22 (S : Nat → Nat → ah_H → Option ah_H) (K4 : Nat → ah_H → Option (ah_H)) (x0 : Nat) (σ : ah_H) : Option (ah_H) :=
  (op_gI 12 28 σ x0).bind fun v1 => (f_X12_knot x0 σ).bind fun r2 => (f_X12_goOn x0 r2).bind fun r3 => (S 4 x0 r3).bind fun r4 => (f_X12_puts x0 (2 : Int32) v1 r4).bind fun r5 => K4 x0 r5
def f_X12_sum_4_b (S : Nat → Nat → ah_H → Option ah_H) (K4 : Nat → ah_H → Option (ah_H)) (x0 : Nat) (σ : ah_H) : Option (ah_H) :=
  (f_X12_isSign x0 (43 : Int32) σ).bind fun r1 => if r1.1 = 0 then ((f_X12_isSign x0 (45 : Int32) r1.2).bind fun r2 => if r2.1 = 0 then (some r2.2) else (f_X12_sum_22 S K4 x0 r2.2)) else (f_X12_sum_22 S K4 x0 r1.2)
def f_X12_sum_4 (S : Nat → Nat → ah_H → Option ah_H)  : Nat → Nat → ah_H → Option (ah_H)
  | 0, _, _ => none
  | n + 1, x0, σ => f_X12_sum_4_b S (f_X12_sum_4 S n) x0 σ
def f_X12_sum_0 (S : Nat → Nat → ah_H → Option ah_H)  (x0 : Nat) (σ : ah_H) : Option (ah_H) :=
  (S 4 x0 σ).bind fun r1 => f_X12_sum_4 S 5000 x0 r1
def b_X12_sum (S : Nat → Nat → ah_H → Option ah_H) (x0 : Nat) (σ : ah_H) : Option (ah_H) := op_ck 12 σ x0 (f_X12_sum_0 S x0 σ)
def f_X12_product_22 (S : Nat → Nat → ah_H → Option ah_H) (K4 : Nat → ah_H → Option (ah_H)) (x0 : Nat) (σ : ah_H) : Option (ah_H) :=
  (op_gI 12 28 σ x0).bind fun v1 => (f_X12_knot x0 σ).bind fun r2 => (f_X12_goOn x0 r2).bind fun r3 => (S 5 x0 r3).bind fun r4 => (f_X12_puts x0 (2 : Int32) v1 r4).bind fun r5 => K4 x0 r5
def f_X12_product_4_b (S : Nat → Nat → ah_H → Option ah_H) (K4 : Nat → ah_H → Option (ah_H)) (x0 : Nat) (σ : ah_H) : Option (ah_H) :=
  (f_X12_isSign x0 (42 : Int32) σ).bind fun r1 => if r1.1 = 0 then ((f_X12_isSign x0 (47 : Int32) r1.2).bind fun r2 => if r2.1 = 0 then (some r2.2) else (f_X12_product_22 S K4 x0 r2.2)) else (f_X12_product_22 S K4 x0 r1.2)
def f_X12_product_4 (S : Nat → Nat → ah_H → Option ah_H)  : Nat → Nat → ah_H → Option (ah_H)
  | 0, _, _ => none
  | n + 1, x0, σ => f_X12_product_4_b S (f_X12_product_4 S n) x0 σ
def f_X12_product_0 (S : Nat → Nat → ah_H → Option ah_H)  (x0 : Nat) (σ : ah_H) : Option (ah_H) :=
  (S 5 x0 σ).bind fun r1 => f_X12_product_4 S 5000 x0 r1
def b_X12_product (S : Nat → Nat → ah_H → Option ah_H) (x0 : Nat) (σ : ah_H) : Option (ah_H) := op_ck 12 σ x0 (f_X12_product_0 S x0 σ)
def f_X12_primary_78 (S : Nat → Nat → ah_H → Option ah_H)  (x0 : Nat) (σ : ah_H) : Option (ah_H) :=
  (op_gI 12 29 σ x0).bind fun v1 => if v1 = 0 then ((op_gI 12 33 σ x0).bind fun v2 => (op_pI 12 33 σ x0 (v2 - (1 : Int32))).bind fun σ3 => (f_X12_token x0 σ3).bind fun r4 => some r4) else (some σ)
def f_X12_primary_31 (S : Nat → Nat → ah_H → Option ah_H)  (x0 : Nat) (σ : ah_H) : Option (ah_H) :=
  (op_gI 12 29 σ x0).bind fun v1 => if v1 = 0 then ((op_gI 12 33 σ x0).bind fun v2 => (op_pI 12 33 σ x0 (v2 + (1 : Int32))).bind fun σ3 => (f_X12_token x0 σ3).bind fun r4 => (S 0 x0 r4).bind fun r5 => (op_gI 12 29 r5 x0).bind fun v6 => if v6 = 0 then ((f_X12_isSign x0 (41 : Int32) r5).bind fun r7 => if r7.1 = 0 then ((f_X12_wrong x0 (1 : Int32) r7.2).bind fun r8 => f_X12_primary_78 S x0 r8) else (f_X12_primary_78 S x0 r7.2)) else (f_X12_primary_78 S x0 r5)) else (some σ)
def f_X12_primary_194 (S : Nat → Nat → ah_H → Option ah_H)  (x0 : Nat) (s0 : Nat) (s1 : Int32) (s2 : Int32) (σ : ah_H) : Option (ah_H) :=
  (f_X12_puts s0 s1 s2 σ).bind fun r1 => (f_X12_goOn x0 r1).bind fun r2 => some r2
def f_X12_primary_176 (S : Nat → Nat → ah_H → Option ah_H)  (x0 : Nat) (x1 : Int32) (s0 : Nat) (s1 : Int32) (σ : ah_H) : Option (ah_H) :=
  if x1 = 0 then ((op_gI 12 28 σ x0).bind fun v1 => f_X12_primary_194 S x0 s0 s1 (v1 - (18 : Int32)) σ) else ((op_gI 12 28 σ x0).bind fun v2 => f_X12_primary_194 S x0 s0 s1 v2 σ)
def f_X12_primary_162 (S : Nat → Nat → ah_H → Option ah_H)  (x0 : Nat) (x1 : Int32) (σ : ah_H) : Option (ah_H) :=
  (f_X12_knot x0 σ).bind fun r1 => if x1 = 0 then (f_X12_primary_176 S x0 x1 x0 (1 : Int32) r1) else (f_X12_primary_176 S x0 x1 x0 (0 : Int32) r1)
def f_X12_primary_157 (S : Nat → Nat → ah_H → Option ah_H)  (x0 : Nat) (x1 : Int32) (σ : ah_H) : Option (ah_H) :=
  (f_X12_wrong x0 (1 : Int32) σ).bind fun r1 => f_X12_primary_162 S x0 x1 r1
def f_X12_primary_137 (S : Nat → Nat → ah_H → Option ah_H)  (x0 : Nat) (x1 : Int32) (σ : ah_H) : Option (ah_H) :=
  if x1 = 0 then ((op_gI 12 27 σ x0).bind fun v1 => if v1 = 0 then ((op_gI 12 28 σ x0).bind fun v2 => if (18 : Int32) ≤ v2 then (f_X12_primary_162 S x0 x1 σ) else (f_X12_primary_157 S x0 x1 σ)) else (f_X12_primary_157 S x0 x1 σ)) else (f_X12_primary_162 S x0 x1 σ)
def f_X12_primary_114 (S : Nat → Nat → ah_H → Option ah_H)  (x0 : Nat) (s0 : Int32) (σ : ah_H) : Option (ah_H) :=
  if s0 = 0 then (f_X12_primary_137 S x0 s0 σ) else ((op_gI 12 28 σ x0).bind fun v1 => if v1 ≤ (9999 : Int32) then (f_X12_primary_137 S x0 s0 σ) else ((f_X12_wrong x0 (2 : Int32) σ).bind fun r2 => f_X12_primary_162 S x0 s0 r2))
def f_X12_primary_0 (S : Nat → Nat → ah_H → Option ah_H)  (x0 : Nat) (σ : ah_H) : Option (ah_H) :=
  (op_gI 12 29 σ x0).bind fun v1 => if v1 = 0 then ((f_X12_isSign x0 (40 : Int32) σ).bind fun r2 => if r2.1 = 0 then ((op_gI 12 27 r2.2 x0).bind fun v3 => if v3 = (2 : Int32) then (f_X12_primary_114 S x0 (1 : Int32) r2.2) else (f_X12_primary_114 S x0 (0 : Int32) r2.2)) else ((op_gI 12 33 r2.2 x0).bind fun v4 => if v4 = (8 : Int32) then ((f_X12_wrong x0 (2 : Int32) r2.2).bind fun r5 => f_X12_primary_31 S x0 r5) else (f_X12_primary_31 S x0 r2.2))) else (some σ)
def b_X12_primary (S : Nat → Nat → ah_H → Option ah_H) (x0 : Nat) (σ : ah_H) : Option (ah_H) := op_ck 12 σ x0 (f_X12_primary_0 S x0 σ)
def f_ex : Nat → Nat → Nat → ah_H → Option ah_H
  | 0, _, _, _ => none
  | d + 1, w, x0, σ => if w = 0 then b_X12_expression (f_ex d) x0 σ else if w = 1 then b_X12_conjunction (f_ex d) x0 σ else if w = 2 then b_X12_negation (f_ex d) x0 σ else if w = 3 then b_X12_sum (f_ex d) x0 σ else if w = 4 then b_X12_product (f_ex d) x0 σ else b_X12_primary (f_ex d) x0 σ
def f_X12_expression (x0 : Nat) (σ : ah_H) : Option ah_H := op_ck 12 σ x0 (f_ex 200 0 x0 σ)
def f_X12_conjunction (x0 : Nat) (σ : ah_H) : Option ah_H := op_ck 12 σ x0 (f_ex 200 1 x0 σ)
def f_X12_negation (x0 : Nat) (σ : ah_H) : Option ah_H := op_ck 12 σ x0 (f_ex 200 2 x0 σ)
def f_X12_sum (x0 : Nat) (σ : ah_H) : Option ah_H := op_ck 12 σ x0 (f_ex 200 3 x0 σ)
def f_X12_product (x0 : Nat) (σ : ah_H) : Option ah_H := op_ck 12 σ x0 (f_ex 200 4 x0 σ)
def f_X12_primary (x0 : Nat) (σ : ah_H) : Option ah_H := op_ck 12 σ x0 (f_ex 200 5 x0 σ)
set_option maxRecDepth 100000 in
set_option maxHeartbeats 4000000 in
theorem c_X12_expression_4_b {G : ah_G} {d : Nat} (S : Nat → Nat → ah_H → Option ah_H) (hS_0 : ∀ (x0 : Nat) (σ : ah_H) (r : ah_H), S 0 x0 σ = some r → AM G m_X12_expression (6 + d) 0 0 [.ref x0] σ (ah_rv r)) (hS_1 : ∀ (x0 : Nat) (σ : ah_H) (r : ah_H), S 1 x0 σ = some r → AM G m_X12_conjunction (6 + d) 0 0 [.ref x0] σ (ah_rv r)) (hS_2 : ∀ (x0 : Nat) (σ : ah_H) (r : ah_H), S 2 x0 σ = some r → AM G m_X12_negation (6 + d) 0 0 [.ref x0] σ (ah_rv r)) (hS_3 : ∀ (x0 : Nat) (σ : ah_H) (r : ah_H), S 3 x0 σ = some r → AM G m_X12_sum (6 + d) 0 0 [.ref x0] σ (ah_rv r)) (hS_4 : ∀ (x0 : Nat) (σ : ah_H) (r : ah_H), S 4 x0 σ = some r → AM G m_X12_product (6 + d) 0 0 [.ref x0] σ (ah_rv r)) (hS_5 : ∀ (x0 : Nat) (σ : ah_H) (r : ah_H), S 5 x0 σ = some r → AM G m_X12_primary (6 + d) 0 0 [.ref x0] σ (ah_rv r)) (hsh : ∀ w x0 (σ : ah_H) (r : ah_H), S w x0 σ = some r → (ah_S σ)[x0]? = some (.inr 12)) (K4 : Nat → ah_H → Option (ah_H)) (hK4 : ∀ (x0 : Nat) (σ : ah_H) (r : ah_H), K4 x0 σ = some r → AW G m_X12_expression (6 + (d + 1)) 0 0 4 [(0, .ref x0)] [] σ (ah_N G (ah_rv r))) : ∀ (x0 : Nat) (σ : ah_H) (r : ah_H), f_X12_expression_4_b S K4 x0 σ = some r → AW G m_X12_expression (6 + (d + 1)) 0 0 4 [(0, .ref x0)] [] σ (ah_N G (ah_rv r)) := by
  intro x0 σ r h
  unfold f_X12_expression_4_b at h
  refine aw_aload_n (pc := 4) 0 dX12_expression_4 rfl ?_
  refine aw_bipush (pc := 5) (v := (15 : Int32)) dX12_expression_5 (by decide) ?_
  obtain ⟨r1, e, h⟩ := op_bd h
  refine ow_cVi (pc := 7) (dp := 6 + d) [.int (15 : Int32)] ((c_X12_isWord _ _ _ _ e).mono (by omega)) (op_ck_sh e) rfl dX12_expression_7 cw_X12_273 rfl (Nat.le_of_ble_eq_true rfl) ?_
  refine aw_if_eq (pc := 10) 36 dX12_expression_10 (by decide) (fun z => ?_) (fun z => ?_)
  · replace h := (if_pos z).symm.trans h
    exact ow_vret (pc := 36) h dX12_expression_36 rfl
  · replace h := (if_neg z).symm.trans h
    refine aw_aload_n (pc := 13) 0 dX12_expression_13 rfl ?_
    obtain ⟨r2, e, h⟩ := op_bd h
    refine ow_cVv (pc := 14) (dp := 6 + d) [] ((c_X12_knot _ _ _ e).mono (by omega)) (op_ck_sh e) rfl dX12_expression_14 cw_X12_289 rfl (Nat.le_of_ble_eq_true rfl) ?_
    refine aw_aload_n (pc := 17) 0 dX12_expression_17 rfl ?_
    obtain ⟨r3, e, h⟩ := op_bd h
    refine ow_cVv (pc := 18) (dp := 6 + d) [] ((c_X12_goOn _ _ _ e).mono (by omega)) (op_ck_sh e) rfl dX12_expression_18 cw_X12_244 rfl (Nat.le_of_ble_eq_true rfl) ?_
    refine aw_aload_n (pc := 21) 0 dX12_expression_21 rfl ?_
    obtain ⟨r4, e, h⟩ := op_bd h
    refine ow_cVv (pc := 22) (dp := 6 + d) [] (hS_1 _ _ _ e) (hsh _ _ _ _ e) rfl dX12_expression_22 cw_X12_286 rfl (Nat.le_of_ble_eq_true rfl) ?_
    refine aw_aload_n (pc := 25) 0 dX12_expression_25 rfl ?_
    refine aw_iconst (pc := 26) (v := (2 : Int32)) dX12_expression_26 (by decide) ?_
    refine aw_sipush (pc := 27) (v := (262 : Int32)) dX12_expression_27 (by decide) ?_
    obtain ⟨r5, e, h⟩ := op_bd h
    refine ow_cVv (pc := 30) (dp := 6 + d) [.int (2 : Int32), .int (262 : Int32)] ((c_X12_puts _ _ _ _ _ e).mono (by omega)) (op_ck_sh e) rfl dX12_expression_30 cw_X12_292 rfl (Nat.le_of_ble_eq_true rfl) ?_
    refine aw_goto (pc := 33) 4 dX12_expression_33 (by decide) ?_
    exact hK4 _ _ _ h
theorem c_X12_expression_4 {G : ah_G} {d : Nat} (S : Nat → Nat → ah_H → Option ah_H) (hS_0 : ∀ (x0 : Nat) (σ : ah_H) (r : ah_H), S 0 x0 σ = some r → AM G m_X12_expression (6 + d) 0 0 [.ref x0] σ (ah_rv r)) (hS_1 : ∀ (x0 : Nat) (σ : ah_H) (r : ah_H), S 1 x0 σ = some r → AM G m_X12_conjunction (6 + d) 0 0 [.ref x0] σ (ah_rv r)) (hS_2 : ∀ (x0 : Nat) (σ : ah_H) (r : ah_H), S 2 x0 σ = some r → AM G m_X12_negation (6 + d) 0 0 [.ref x0] σ (ah_rv r)) (hS_3 : ∀ (x0 : Nat) (σ : ah_H) (r : ah_H), S 3 x0 σ = some r → AM G m_X12_sum (6 + d) 0 0 [.ref x0] σ (ah_rv r)) (hS_4 : ∀ (x0 : Nat) (σ : ah_H) (r : ah_H), S 4 x0 σ = some r → AM G m_X12_product (6 + d) 0 0 [.ref x0] σ (ah_rv r)) (hS_5 : ∀ (x0 : Nat) (σ : ah_H) (r : ah_H), S 5 x0 σ = some r → AM G m_X12_primary (6 + d) 0 0 [.ref x0] σ (ah_rv r)) (hsh : ∀ w x0 (σ : ah_H) (r : ah_H), S w x0 σ = some r → (ah_S σ)[x0]? = some (.inr 12))  : ∀ (n : Nat) (x0 : Nat) (σ : ah_H) (r : ah_H), f_X12_expression_4 S  n x0 σ = some r → AW G m_X12_expression (6 + (d + 1)) 0 0 4 [(0, .ref x0)] [] σ (ah_N G (ah_rv r)) := by
  intro n
  induction n with
  | zero => intro x0 σ r h; cases h
  | succ n ih => intro x0 σ r h; exact c_X12_expression_4_b S hS_0 hS_1 hS_2 hS_3 hS_4 hS_5 hsh  _ ih x0 σ r h
set_option maxRecDepth 100000 in
set_option maxHeartbeats 4000000 in
theorem c_X12_expression_0 {G : ah_G} {d : Nat} (S : Nat → Nat → ah_H → Option ah_H) (hS_0 : ∀ (x0 : Nat) (σ : ah_H) (r : ah_H), S 0 x0 σ = some r → AM G m_X12_expression (6 + d) 0 0 [.ref x0] σ (ah_rv r)) (hS_1 : ∀ (x0 : Nat) (σ : ah_H) (r : ah_H), S 1 x0 σ = some r → AM G m_X12_conjunction (6 + d) 0 0 [.ref x0] σ (ah_rv r)) (hS_2 : ∀ (x0 : Nat) (σ : ah_H) (r : ah_H), S 2 x0 σ = some r → AM G m_X12_negation (6 + d) 0 0 [.ref x0] σ (ah_rv r)) (hS_3 : ∀ (x0 : Nat) (σ : ah_H) (r : ah_H), S 3 x0 σ = some r → AM G m_X12_sum (6 + d) 0 0 [.ref x0] σ (ah_rv r)) (hS_4 : ∀ (x0 : Nat) (σ : ah_H) (r : ah_H), S 4 x0 σ = some r → AM G m_X12_product (6 + d) 0 0 [.ref x0] σ (ah_rv r)) (hS_5 : ∀ (x0 : Nat) (σ : ah_H) (r : ah_H), S 5 x0 σ = some r → AM G m_X12_primary (6 + d) 0 0 [.ref x0] σ (ah_rv r)) (hsh : ∀ w x0 (σ : ah_H) (r : ah_H), S w x0 σ = some r → (ah_S σ)[x0]? = some (.inr 12))  : ∀ (x0 : Nat) (σ : ah_H) (r : ah_H), f_X12_expression_0 S  x0 σ = some r → AW G m_X12_expression (6 + (d + 1)) 0 0 0 [(0, .ref x0)] [] σ (ah_N G (ah_rv r)) := by
  intro x0 σ r h
  unfold f_X12_expression_0 at h
  refine aw_aload_n (pc := 0) 0 dX12_expression_0 rfl ?_
  obtain ⟨r1, e, h⟩ := op_bd h
  refine ow_cVv (pc := 1) (dp := 6 + d) [] (hS_1 _ _ _ e) (hsh _ _ _ _ e) rfl dX12_expression_1 cw_X12_286 rfl (Nat.le_of_ble_eq_true rfl) ?_
  exact c_X12_expression_4 S hS_0 hS_1 hS_2 hS_3 hS_4 hS_5 hsh _ _ _ _ h
theorem cb_X12_expression {G : ah_G} {d : Nat} (S : Nat → Nat → ah_H → Option ah_H) (hS_0 : ∀ (x0 : Nat) (σ : ah_H) (r : ah_H), S 0 x0 σ = some r → AM G m_X12_expression (6 + d) 0 0 [.ref x0] σ (ah_rv r)) (hS_1 : ∀ (x0 : Nat) (σ : ah_H) (r : ah_H), S 1 x0 σ = some r → AM G m_X12_conjunction (6 + d) 0 0 [.ref x0] σ (ah_rv r)) (hS_2 : ∀ (x0 : Nat) (σ : ah_H) (r : ah_H), S 2 x0 σ = some r → AM G m_X12_negation (6 + d) 0 0 [.ref x0] σ (ah_rv r)) (hS_3 : ∀ (x0 : Nat) (σ : ah_H) (r : ah_H), S 3 x0 σ = some r → AM G m_X12_sum (6 + d) 0 0 [.ref x0] σ (ah_rv r)) (hS_4 : ∀ (x0 : Nat) (σ : ah_H) (r : ah_H), S 4 x0 σ = some r → AM G m_X12_product (6 + d) 0 0 [.ref x0] σ (ah_rv r)) (hS_5 : ∀ (x0 : Nat) (σ : ah_H) (r : ah_H), S 5 x0 σ = some r → AM G m_X12_primary (6 + d) 0 0 [.ref x0] σ (ah_rv r)) (hsh : ∀ w x0 (σ : ah_H) (r : ah_H), S w x0 σ = some r → (ah_S σ)[x0]? = some (.inr 12)) (x0 : Nat) (σ : ah_H) (r : ah_H) (h : b_X12_expression S x0 σ = some r) : AM G m_X12_expression (6 + (d + 1)) 0 0 [.ref x0] σ (ah_rv r) := aw_enter (by decide) (Nat.le_of_ble_eq_true rfl) (c_X12_expression_0 S hS_0 hS_1 hS_2 hS_3 hS_4 hS_5 hsh _ _ _ (op_ck_k h))
set_option maxRecDepth 100000 in
set_option maxHeartbeats 4000000 in
theorem c_X12_conjunction_4_b {G : ah_G} {d : Nat} (S : Nat → Nat → ah_H → Option ah_H) (hS_0 : ∀ (x0 : Nat) (σ : ah_H) (r : ah_H), S 0 x0 σ = some r → AM G m_X12_expression (6 + d) 0 0 [.ref x0] σ (ah_rv r)) (hS_1 : ∀ (x0 : Nat) (σ : ah_H) (r : ah_H), S 1 x0 σ = some r → AM G m_X12_conjunction (6 + d) 0 0 [.ref x0] σ (ah_rv r)) (hS_2 : ∀ (x0 : Nat) (σ : ah_H) (r : ah_H), S 2 x0 σ = some r → AM G m_X12_negation (6 + d) 0 0 [.ref x0] σ (ah_rv r)) (hS_3 : ∀ (x0 : Nat) (σ : ah_H) (r : ah_H), S 3 x0 σ = some r → AM G m_X12_sum (6 + d) 0 0 [.ref x0] σ (ah_rv r)) (hS_4 : ∀ (x0 : Nat) (σ : ah_H) (r : ah_H), S 4 x0 σ = some r → AM G m_X12_product (6 + d) 0 0 [.ref x0] σ (ah_rv r)) (hS_5 : ∀ (x0 : Nat) (σ : ah_H) (r : ah_H), S 5 x0 σ = some r → AM G m_X12_primary (6 + d) 0 0 [.ref x0] σ (ah_rv r)) (hsh : ∀ w x0 (σ : ah_H) (r : ah_H), S w x0 σ = some r → (ah_S σ)[x0]? = some (.inr 12)) (K4 : Nat → ah_H → Option (ah_H)) (hK4 : ∀ (x0 : Nat) (σ : ah_H) (r : ah_H), K4 x0 σ = some r → AW G m_X12_conjunction (6 + (d + 1)) 0 0 4 [(0, .ref x0)] [] σ (ah_N G (ah_rv r))) : ∀ (x0 : Nat) (σ : ah_H) (r : ah_H), f_X12_conjunction_4_b S K4 x0 σ = some r → AW G m_X12_conjunction (6 + (d + 1)) 0 0 4 [(0, .ref x0)] [] σ (ah_N G (ah_rv r)) := by
  intro x0 σ r h
  unfold f_X12_conjunction_4_b at h
  refine aw_aload_n (pc := 4) 0 dX12_conjunction_4 rfl ?_
  refine aw_bipush (pc := 5) (v := (16 : Int32)) dX12_conjunction_5 (by decide) ?_
  obtain ⟨r1, e, h⟩ := op_bd h
  refine ow_cVi (pc := 7) (dp := 6 + d) [.int (16 : Int32)] ((c_X12_isWord _ _ _ _ e).mono (by omega)) (op_ck_sh e) rfl dX12_conjunction_7 cw_X12_273 rfl (Nat.le_of_ble_eq_true rfl) ?_
  refine aw_if_eq (pc := 10) 36 dX12_conjunction_10 (by decide) (fun z => ?_) (fun z => ?_)
  · replace h := (if_pos z).symm.trans h
    exact ow_vret (pc := 36) h dX12_conjunction_36 rfl
  · replace h := (if_neg z).symm.trans h
    refine aw_aload_n (pc := 13) 0 dX12_conjunction_13 rfl ?_
    obtain ⟨r2, e, h⟩ := op_bd h
    refine ow_cVv (pc := 14) (dp := 6 + d) [] ((c_X12_knot _ _ _ e).mono (by omega)) (op_ck_sh e) rfl dX12_conjunction_14 cw_X12_289 rfl (Nat.le_of_ble_eq_true rfl) ?_
    refine aw_aload_n (pc := 17) 0 dX12_conjunction_17 rfl ?_
    obtain ⟨r3, e, h⟩ := op_bd h
    refine ow_cVv (pc := 18) (dp := 6 + d) [] ((c_X12_goOn _ _ _ e).mono (by omega)) (op_ck_sh e) rfl dX12_conjunction_18 cw_X12_244 rfl (Nat.le_of_ble_eq_true rfl) ?_
    refine aw_aload_n (pc := 21) 0 dX12_conjunction_21 rfl ?_
    obtain ⟨r4, e, h⟩ := op_bd h
    refine ow_cVv (pc := 22) (dp := 6 + d) [] (hS_2 _ _ _ e) (hsh _ _ _ _ e) rfl dX12_conjunction_22 cw_X12_295 rfl (Nat.le_of_ble_eq_true rfl) ?_
    refine aw_aload_n (pc := 25) 0 dX12_conjunction_25 rfl ?_
    refine aw_iconst (pc := 26) (v := (2 : Int32)) dX12_conjunction_26 (by decide) ?_
    refine aw_sipush (pc := 27) (v := (261 : Int32)) dX12_conjunction_27 (by decide) ?_
    obtain ⟨r5, e, h⟩ := op_bd h
    refine ow_cVv (pc := 30) (dp := 6 + d) [.int (2 : Int32), .int (261 : Int32)] ((c_X12_puts _ _ _ _ _ e).mono (by omega)) (op_ck_sh e) rfl dX12_conjunction_30 cw_X12_292 rfl (Nat.le_of_ble_eq_true rfl) ?_
    refine aw_goto (pc := 33) 4 dX12_conjunction_33 (by decide) ?_
    exact hK4 _ _ _ h
theorem c_X12_conjunction_4 {G : ah_G} {d : Nat} (S : Nat → Nat → ah_H → Option ah_H) (hS_0 : ∀ (x0 : Nat) (σ : ah_H) (r : ah_H), S 0 x0 σ = some r → AM G m_X12_expression (6 + d) 0 0 [.ref x0] σ (ah_rv r)) (hS_1 : ∀ (x0 : Nat) (σ : ah_H) (r : ah_H), S 1 x0 σ = some r → AM G m_X12_conjunction (6 + d) 0 0 [.ref x0] σ (ah_rv r)) (hS_2 : ∀ (x0 : Nat) (σ : ah_H) (r : ah_H), S 2 x0 σ = some r → AM G m_X12_negation (6 + d) 0 0 [.ref x0] σ (ah_rv r)) (hS_3 : ∀ (x0 : Nat) (σ : ah_H) (r : ah_H), S 3 x0 σ = some r → AM G m_X12_sum (6 + d) 0 0 [.ref x0] σ (ah_rv r)) (hS_4 : ∀ (x0 : Nat) (σ : ah_H) (r : ah_H), S 4 x0 σ = some r → AM G m_X12_product (6 + d) 0 0 [.ref x0] σ (ah_rv r)) (hS_5 : ∀ (x0 : Nat) (σ : ah_H) (r : ah_H), S 5 x0 σ = some r → AM G m_X12_primary (6 + d) 0 0 [.ref x0] σ (ah_rv r)) (hsh : ∀ w x0 (σ : ah_H) (r : ah_H), S w x0 σ = some r → (ah_S σ)[x0]? = some (.inr 12))  : ∀ (n : Nat) (x0 : Nat) (σ : ah_H) (r : ah_H), f_X12_conjunction_4 S  n x0 σ = some r → AW G m_X12_conjunction (6 + (d + 1)) 0 0 4 [(0, .ref x0)] [] σ (ah_N G (ah_rv r)) := by
  intro n
  induction n with
  | zero => intro x0 σ r h; cases h
  | succ n ih => intro x0 σ r h; exact c_X12_conjunction_4_b S hS_0 hS_1 hS_2 hS_3 hS_4 hS_5 hsh  _ ih x0 σ r h
set_option maxRecDepth 100000 in
set_option maxHeartbeats 4000000 in
theorem c_X12_conjunction_0 {G : ah_G} {d : Nat} (S : Nat → Nat → ah_H → Option ah_H) (hS_0 : ∀ (x0 : Nat) (σ : ah_H) (r : ah_H), S 0 x0 σ = some r → AM G m_X12_expression (6 + d) 0 0 [.ref x0] σ (ah_rv r)) (hS_1 : ∀ (x0 : Nat) (σ : ah_H) (r : ah_H), S 1 x0 σ = some r → AM G m_X12_conjunction (6 + d) 0 0 [.ref x0] σ (ah_rv r)) (hS_2 : ∀ (x0 : Nat) (σ : ah_H) (r : ah_H), S 2 x0 σ = some r → AM G m_X12_negation (6 + d) 0 0 [.ref x0] σ (ah_rv r)) (hS_3 : ∀ (x0 : Nat) (σ : ah_H) (r : ah_H), S 3 x0 σ = some r → AM G m_X12_sum (6 + d) 0 0 [.ref x0] σ (ah_rv r)) (hS_4 : ∀ (x0 : Nat) (σ : ah_H) (r : ah_H), S 4 x0 σ = some r → AM G m_X12_product (6 + d) 0 0 [.ref x0] σ (ah_rv r)) (hS_5 : ∀ (x0 : Nat) (σ : ah_H) (r : ah_H), S 5 x0 σ = some r → AM G m_X12_primary (6 + d) 0 0 [.ref x0] σ (ah_rv r)) (hsh : ∀ w x0 (σ : ah_H) (r : ah_H), S w x0 σ = some r → (ah_S σ)[x0]? = some (.inr 12))  : ∀ (x0 : Nat) (σ : ah_H) (r : ah_H), f_X12_conjunction_0 S  x0 σ = some r → AW G m_X12_conjunction (6 + (d + 1)) 0 0 0 [(0, .ref x0)] [] σ (ah_N G (ah_rv r)) := by
  intro x0 σ r h
  unfold f_X12_conjunction_0 at h
  refine aw_aload_n (pc := 0) 0 dX12_conjunction_0 rfl ?_
  obtain ⟨r1, e, h⟩ := op_bd h
  refine ow_cVv (pc := 1) (dp := 6 + d) [] (hS_2 _ _ _ e) (hsh _ _ _ _ e) rfl dX12_conjunction_1 cw_X12_295 rfl (Nat.le_of_ble_eq_true rfl) ?_
  exact c_X12_conjunction_4 S hS_0 hS_1 hS_2 hS_3 hS_4 hS_5 hsh _ _ _ _ h
theorem cb_X12_conjunction {G : ah_G} {d : Nat} (S : Nat → Nat → ah_H → Option ah_H) (hS_0 : ∀ (x0 : Nat) (σ : ah_H) (r : ah_H), S 0 x0 σ = some r → AM G m_X12_expression (6 + d) 0 0 [.ref x0] σ (ah_rv r)) (hS_1 : ∀ (x0 : Nat) (σ : ah_H) (r : ah_H), S 1 x0 σ = some r → AM G m_X12_conjunction (6 + d) 0 0 [.ref x0] σ (ah_rv r)) (hS_2 : ∀ (x0 : Nat) (σ : ah_H) (r : ah_H), S 2 x0 σ = some r → AM G m_X12_negation (6 + d) 0 0 [.ref x0] σ (ah_rv r)) (hS_3 : ∀ (x0 : Nat) (σ : ah_H) (r : ah_H), S 3 x0 σ = some r → AM G m_X12_sum (6 + d) 0 0 [.ref x0] σ (ah_rv r)) (hS_4 : ∀ (x0 : Nat) (σ : ah_H) (r : ah_H), S 4 x0 σ = some r → AM G m_X12_product (6 + d) 0 0 [.ref x0] σ (ah_rv r)) (hS_5 : ∀ (x0 : Nat) (σ : ah_H) (r : ah_H), S 5 x0 σ = some r → AM G m_X12_primary (6 + d) 0 0 [.ref x0] σ (ah_rv r)) (hsh : ∀ w x0 (σ : ah_H) (r : ah_H), S w x0 σ = some r → (ah_S σ)[x0]? = some (.inr 12)) (x0 : Nat) (σ : ah_H) (r : ah_H) (h : b_X12_conjunction S x0 σ = some r) : AM G m_X12_conjunction (6 + (d + 1)) 0 0 [.ref x0] σ (ah_rv r) := aw_enter (by decide) (Nat.le_of_ble_eq_true rfl) (c_X12_conjunction_0 S hS_0 hS_1 hS_2 hS_3 hS_4 hS_5 hsh _ _ _ (op_ck_k h))
set_option maxRecDepth 100000 in
set_option maxHeartbeats 4000000 in
theorem c_X12_negation_87 {G : ah_G} {d : Nat} (S : Nat → Nat → ah_H → Option ah_H) (hS_0 : ∀ (x0 : Nat) (σ : ah_H) (r : ah_H), S 0 x0 σ = some r → AM G m_X12_expression (6 + d) 0 0 [.ref x0] σ (ah_rv r)) (hS_1 : ∀ (x0 : Nat) (σ : ah_H) (r : ah_H), S 1 x0 σ = some r → AM G m_X12_conjunction (6 + d) 0 0 [.ref x0] σ (ah_rv r)) (hS_2 : ∀ (x0 : Nat) (σ : ah_H) (r : ah_H), S 2 x0 σ = some r → AM G m_X12_negation (6 + d) 0 0 [.ref x0] σ (ah_rv r)) (hS_3 : ∀ (x0 : Nat) (σ : ah_H) (r : ah_H), S 3 x0 σ = some r → AM G m_X12_sum (6 + d) 0 0 [.ref x0] σ (ah_rv r)) (hS_4 : ∀ (x0 : Nat) (σ : ah_H) (r : ah_H), S 4 x0 σ = some r → AM G m_X12_product (6 + d) 0 0 [.ref x0] σ (ah_rv r)) (hS_5 : ∀ (x0 : Nat) (σ : ah_H) (r : ah_H), S 5 x0 σ = some r → AM G m_X12_primary (6 + d) 0 0 [.ref x0] σ (ah_rv r)) (hsh : ∀ w x0 (σ : ah_H) (r : ah_H), S w x0 σ = some r → (ah_S σ)[x0]? = some (.inr 12))  : ∀ (x0 : Nat) (σ : ah_H) (r : ah_H), f_X12_negation_87 S  x0 σ = some r → AW G m_X12_negation (6 + (d + 1)) 0 0 87 [(0, .ref x0)] [] σ (ah_N G (ah_rv r)) := by
  intro x0 σ r h
  unfold f_X12_negation_87 at h
  refine aw_aload_n (pc := 87) 0 dX12_negation_87 rfl ?_
  obtain ⟨v1, e, h⟩ := op_bd h
  refine ow_gI (pc := 88) e dX12_negation_88 fd_X12_182 rfl ?_
  refine aw_istore_n (pc := 91) [(1, .int v1), (0, .ref x0)] dX12_negation_91 rfl (by decide) rfl ?_
  refine aw_aload_n (pc := 92) 1 dX12_negation_92 rfl ?_
  obtain ⟨r2, e, h⟩ := op_bd h
  refine ow_cVv (pc := 93) (dp := 6 + d) [] ((c_X12_knot _ _ _ e).mono (by omega)) (op_ck_sh e) rfl dX12_negation_93 cw_X12_289 rfl (Nat.le_of_ble_eq_true rfl) ?_
  refine aw_aload_n (pc := 96) 1 dX12_negation_96 rfl ?_
  obtain ⟨r3, e, h⟩ := op_bd h
  refine ow_cVv (pc := 97) (dp := 6 + d) [] ((c_X12_goOn _ _ _ e).mono (by omega)) (op_ck_sh e) rfl dX12_negation_97 cw_X12_244 rfl (Nat.le_of_ble_eq_true rfl) ?_
  refine aw_aload_n (pc := 100) 1 dX12_negation_100 rfl ?_
  obtain ⟨r4, e, h⟩ := op_bd h
  refine ow_cVv (pc := 101) (dp := 6 + d) [] (hS_3 _ _ _ e) (hsh _ _ _ _ e) rfl dX12_negation_101 cw_X12_298 rfl (Nat.le_of_ble_eq_true rfl) ?_
  refine aw_aload_n (pc := 104) 1 dX12_negation_104 rfl ?_
  refine aw_iconst (pc := 105) (v := (2 : Int32)) dX12_negation_105 (by decide) ?_
  refine aw_iload_n (pc := 106) 0 dX12_negation_106 rfl ?_
  obtain ⟨r5, e, h⟩ := op_bd h
  refine ow_cVv (pc := 107) (dp := 6 + d) [.int (2 : Int32), .int v1] ((c_X12_puts _ _ _ _ _ e).mono (by omega)) (op_ck_sh e) rfl dX12_negation_107 cw_X12_292 rfl (Nat.le_of_ble_eq_true rfl) ?_
  exact ow_vret (pc := 110) h dX12_negation_110 rfl
set_option maxRecDepth 100000 in
set_option maxHeartbeats 4000000 in
theorem c_X12_negation_0 {G : ah_G} {d : Nat} (S : Nat → Nat → ah_H → Option ah_H) (hS_0 : ∀ (x0 : Nat) (σ : ah_H) (r : ah_H), S 0 x0 σ = some r → AM G m_X12_expression (6 + d) 0 0 [.ref x0] σ (ah_rv r)) (hS_1 : ∀ (x0 : Nat) (σ : ah_H) (r : ah_H), S 1 x0 σ = some r → AM G m_X12_conjunction (6 + d) 0 0 [.ref x0] σ (ah_rv r)) (hS_2 : ∀ (x0 : Nat) (σ : ah_H) (r : ah_H), S 2 x0 σ = some r → AM G m_X12_negation (6 + d) 0 0 [.ref x0] σ (ah_rv r)) (hS_3 : ∀ (x0 : Nat) (σ : ah_H) (r : ah_H), S 3 x0 σ = some r → AM G m_X12_sum (6 + d) 0 0 [.ref x0] σ (ah_rv r)) (hS_4 : ∀ (x0 : Nat) (σ : ah_H) (r : ah_H), S 4 x0 σ = some r → AM G m_X12_product (6 + d) 0 0 [.ref x0] σ (ah_rv r)) (hS_5 : ∀ (x0 : Nat) (σ : ah_H) (r : ah_H), S 5 x0 σ = some r → AM G m_X12_primary (6 + d) 0 0 [.ref x0] σ (ah_rv r)) (hsh : ∀ w x0 (σ : ah_H) (r : ah_H), S w x0 σ = some r → (ah_S σ)[x0]? = some (.inr 12))  : ∀ (x0 : Nat) (σ : ah_H) (r : ah_H), f_X12_negation_0 S  x0 σ = some r → AW G m_X12_negation (6 + (d + 1)) 0 0 0 [(0, .ref x0)] [] σ (ah_N G (ah_rv r)) := by
  intro x0 σ r h
  unfold f_X12_negation_0 at h
  refine aw_aload_n (pc := 0) 0 dX12_negation_0 rfl ?_
  refine aw_bipush (pc := 1) (v := (17 : Int32)) dX12_negation_1 (by decide) ?_
  obtain ⟨r1, e, h⟩ := op_bd h
  refine ow_cVi (pc := 3) (dp := 6 + d) [.int (17 : Int32)] ((c_X12_isWord _ _ _ _ e).mono (by omega)) (op_ck_sh e) rfl dX12_negation_3 cw_X12_273 rfl (Nat.le_of_ble_eq_true rfl) ?_
  refine aw_if_eq (pc := 6) 30 dX12_negation_6 (by decide) (fun z => ?_) (fun z => ?_)
  · replace h := (if_pos z).symm.trans h
    refine aw_aload_n (pc := 30) 0 dX12_negation_30 rfl ?_
    obtain ⟨r2, e, h⟩ := op_bd h
    refine ow_cVv (pc := 31) (dp := 6 + d) [] (hS_3 _ _ _ e) (hsh _ _ _ _ e) rfl dX12_negation_31 cw_X12_298 rfl (Nat.le_of_ble_eq_true rfl) ?_
    refine aw_aload_n (pc := 34) 0 dX12_negation_34 rfl ?_
    obtain ⟨v3, e, h⟩ := op_bd h
    refine ow_gI (pc := 35) e dX12_negation_35 fd_X12_205 rfl ?_
    refine aw_if_ne (pc := 38) 86 dX12_negation_38 (by decide) (fun z => ?_) (fun z => ?_)
    · replace h := (if_neg z).symm.trans h
      exact ow_vret (pc := 86) h dX12_negation_86 rfl
    · replace h := (if_pos z).symm.trans h
      refine aw_aload_n (pc := 41) 0 dX12_negation_41 rfl ?_
      obtain ⟨v4, e, h⟩ := op_bd h
      refine ow_gI (pc := 42) e dX12_negation_42 fd_X12_172 rfl ?_
      refine aw_iconst (pc := 45) (v := (3 : Int32)) dX12_negation_45 (by decide) ?_
      refine aw_icmp_ne (pc := 46) 86 dX12_negation_46 (by decide) (fun z => ?_) (fun z => ?_)
      · replace h := (if_neg z).symm.trans h
        exact ow_vret (pc := 86) h dX12_negation_86 rfl
      · replace h := (if_pos z).symm.trans h
        refine aw_aload_n (pc := 49) 0 dX12_negation_49 rfl ?_
        obtain ⟨v5, e, h⟩ := op_bd h
        refine ow_gI (pc := 50) e dX12_negation_50 fd_X12_182 rfl ?_
        refine aw_bipush (pc := 53) (v := (60 : Int32)) dX12_negation_53 (by decide) ?_
        refine aw_icmp_eq (pc := 55) 87 dX12_negation_55 (by decide) (fun z => ?_) (fun z => ?_)
        · replace h := (if_pos z).symm.trans h
          exact c_X12_negation_87 S hS_0 hS_1 hS_2 hS_3 hS_4 hS_5 hsh _ _ _ h
        · replace h := (if_neg z).symm.trans h
          refine aw_aload_n (pc := 58) 0 dX12_negation_58 rfl ?_
          obtain ⟨v6, e, h⟩ := op_bd h
          refine ow_gI (pc := 59) e dX12_negation_59 fd_X12_182 rfl ?_
          refine aw_bipush (pc := 62) (v := (62 : Int32)) dX12_negation_62 (by decide) ?_
          refine aw_icmp_eq (pc := 64) 87 dX12_negation_64 (by decide) (fun z => ?_) (fun z => ?_)
          · replace h := (if_pos z).symm.trans h
            exact c_X12_negation_87 S hS_0 hS_1 hS_2 hS_3 hS_4 hS_5 hsh _ _ _ h
          · replace h := (if_neg z).symm.trans h
            refine aw_aload_n (pc := 67) 0 dX12_negation_67 rfl ?_
            obtain ⟨v7, e, h⟩ := op_bd h
            refine ow_gI (pc := 68) e dX12_negation_68 fd_X12_182 rfl ?_
            refine aw_bipush (pc := 71) (v := (61 : Int32)) dX12_negation_71 (by decide) ?_
            refine aw_icmp_eq (pc := 73) 87 dX12_negation_73 (by decide) (fun z => ?_) (fun z => ?_)
            · replace h := (if_pos z).symm.trans h
              exact c_X12_negation_87 S hS_0 hS_1 hS_2 hS_3 hS_4 hS_5 hsh _ _ _ h
            · replace h := (if_neg z).symm.trans h
              refine aw_aload_n (pc := 76) 0 dX12_negation_76 rfl ?_
              obtain ⟨v8, e, h⟩ := op_bd h
              refine ow_gI (pc := 77) e dX12_negation_77 fd_X12_182 rfl ?_
              refine aw_sipush (pc := 80) (v := (256 : Int32)) dX12_negation_80 (by decide) ?_
              refine aw_icmp_ge (pc := 83) 87 dX12_negation_83 (by decide) (fun z => ?_) (fun z => ?_)
              · replace h := (if_pos z).symm.trans h
                exact c_X12_negation_87 S hS_0 hS_1 hS_2 hS_3 hS_4 hS_5 hsh _ _ _ h
              · replace h := (if_neg z).symm.trans h
                exact ow_vret (pc := 86) h dX12_negation_86 rfl
  · replace h := (if_neg z).symm.trans h
    refine aw_aload_n (pc := 9) 0 dX12_negation_9 rfl ?_
    obtain ⟨r9, e, h⟩ := op_bd h
    refine ow_cVv (pc := 10) (dp := 6 + d) [] ((c_X12_knot _ _ _ e).mono (by omega)) (op_ck_sh e) rfl dX12_negation_10 cw_X12_289 rfl (Nat.le_of_ble_eq_true rfl) ?_
    refine aw_aload_n (pc := 13) 0 dX12_negation_13 rfl ?_
    obtain ⟨r10, e, h⟩ := op_bd h
    refine ow_cVv (pc := 14) (dp := 6 + d) [] ((c_X12_goOn _ _ _ e).mono (by omega)) (op_ck_sh e) rfl dX12_negation_14 cw_X12_244 rfl (Nat.le_of_ble_eq_true rfl) ?_
    refine aw_aload_n (pc := 17) 0 dX12_negation_17 rfl ?_
    obtain ⟨r11, e, h⟩ := op_bd h
    refine ow_cVv (pc := 18) (dp := 6 + d) [] (hS_2 _ _ _ e) (hsh _ _ _ _ e) rfl dX12_negation_18 cw_X12_295 rfl (Nat.le_of_ble_eq_true rfl) ?_
    refine aw_aload_n (pc := 21) 0 dX12_negation_21 rfl ?_
    refine aw_iconst (pc := 22) (v := (2 : Int32)) dX12_negation_22 (by decide) ?_
    refine aw_sipush (pc := 23) (v := (260 : Int32)) dX12_negation_23 (by decide) ?_
    obtain ⟨r12, e, h⟩ := op_bd h
    refine ow_cVv (pc := 26) (dp := 6 + d) [.int (2 : Int32), .int (260 : Int32)] ((c_X12_puts _ _ _ _ _ e).mono (by omega)) (op_ck_sh e) rfl dX12_negation_26 cw_X12_292 rfl (Nat.le_of_ble_eq_true rfl) ?_
    exact ow_vret (pc := 29) h dX12_negation_29 rfl
theorem cb_X12_negation {G : ah_G} {d : Nat} (S : Nat → Nat → ah_H → Option ah_H) (hS_0 : ∀ (x0 : Nat) (σ : ah_H) (r : ah_H), S 0 x0 σ = some r → AM G m_X12_expression (6 + d) 0 0 [.ref x0] σ (ah_rv r)) (hS_1 : ∀ (x0 : Nat) (σ : ah_H) (r : ah_H), S 1 x0 σ = some r → AM G m_X12_conjunction (6 + d) 0 0 [.ref x0] σ (ah_rv r)) (hS_2 : ∀ (x0 : Nat) (σ : ah_H) (r : ah_H), S 2 x0 σ = some r → AM G m_X12_negation (6 + d) 0 0 [.ref x0] σ (ah_rv r)) (hS_3 : ∀ (x0 : Nat) (σ : ah_H) (r : ah_H), S 3 x0 σ = some r → AM G m_X12_sum (6 + d) 0 0 [.ref x0] σ (ah_rv r)) (hS_4 : ∀ (x0 : Nat) (σ : ah_H) (r : ah_H), S 4 x0 σ = some r → AM G m_X12_product (6 + d) 0 0 [.ref x0] σ (ah_rv r)) (hS_5 : ∀ (x0 : Nat) (σ : ah_H) (r : ah_H), S 5 x0 σ = some r → AM G m_X12_primary (6 + d) 0 0 [.ref x0] σ (ah_rv r)) (hsh : ∀ w x0 (σ : ah_H) (r : ah_H), S w x0 σ = some r → (ah_S σ)[x0]? = some (.inr 12)) (x0 : Nat) (σ : ah_H) (r : ah_H) (h : b_X12_negation S x0 σ = some r) : AM G m_X12_negation (6 + (d + 1)) 0 0 [.ref x0] σ (ah_rv r) := aw_enter (by decide) (Nat.le_of_ble_eq_true rfl) (c_X12_negation_0 S hS_0 hS_1 hS_2 hS_3 hS_4 hS_5 hsh _ _ _ (op_ck_k h))
set_option maxRecDepth 100000 in
set_option maxHeartbeats 4000000 in
theorem c_X12_sum_22 {G : ah_G} {d : Nat} (S : Nat → Nat → ah_H → Option ah_H) (hS_0 : ∀ (x0 : Nat) (σ : ah_H) (r : ah_H), S 0 x0 σ = some r → AM G m_X12_expression (6 + d) 0 0 [.ref x0] σ (ah_rv r)) (hS_1 : ∀ (x0 : Nat) (σ : ah_H) (r : ah_H), S 1 x0 σ = some r → AM G m_X12_conjunction (6 + d) 0 0 [.ref x0] σ (ah_rv r)) (hS_2 : ∀ (x0 : Nat) (σ : ah_H) (r : ah_H), S 2 x0 σ = some r → AM G m_X12_negation (6 + d) 0 0 [.ref x0] σ (ah_rv r)) (hS_3 : ∀ (x0 : Nat) (σ : ah_H) (r : ah_H), S 3 x0 σ = some r → AM G m_X12_sum (6 + d) 0 0 [.ref x0] σ (ah_rv r)) (hS_4 : ∀ (x0 : Nat) (σ : ah_H) (r : ah_H), S 4 x0 σ = some r → AM G m_X12_product (6 + d) 0 0 [.ref x0] σ (ah_rv r)) (hS_5 : ∀ (x0 : Nat) (σ : ah_H) (r : ah_H), S 5 x0 σ = some r → AM G m_X12_primary (6 + d) 0 0 [.ref x0] σ (ah_rv r)) (hsh : ∀ w x0 (σ : ah_H) (r : ah_H), S w x0 σ = some r → (ah_S σ)[x0]? = some (.inr 12)) (K4 : Nat → ah_H → Option (ah_H)) (hK4 : ∀ (x0 : Nat) (σ : ah_H) (r : ah_H), K4 x0 σ = some r → AW G m_X12_sum (6 + (d + 1)) 0 0 4 [(0, .ref x0)] [] σ (ah_N G (ah_rv r))) : ∀ (x0 : Nat) (σ : ah_H) (r : ah_H), f_X12_sum_22 S K4 x0 σ = some r → AW G m_X12_sum (6 + (d + 1)) 0 0 22 [(0, .ref x0)] [] σ (ah_N G (ah_rv r)) := by
  intro x0 σ r h
  unfold f_X12_sum_22 at h
  refine aw_aload_n (pc := 22) 0 dX12_sum_22 rfl ?_
  obtain ⟨v1, e, h⟩ := op_bd h
  refine ow_gI (pc := 23) e dX12_sum_23 fd_X12_182 rfl ?_
  refine aw_istore_n (pc := 26) [(1, .int v1), (0, .ref x0)] dX12_sum_26 rfl (by decide) rfl ?_
  refine aw_aload_n (pc := 27) 1 dX12_sum_27 rfl ?_
  obtain ⟨r2, e, h⟩ := op_bd h
  refine ow_cVv (pc := 28) (dp := 6 + d) [] ((c_X12_knot _ _ _ e).mono (by omega)) (op_ck_sh e) rfl dX12_sum_28 cw_X12_289 rfl (Nat.le_of_ble_eq_true rfl) ?_
  refine aw_aload_n (pc := 31) 1 dX12_sum_31 rfl ?_
  obtain ⟨r3, e, h⟩ := op_bd h
  refine ow_cVv (pc := 32) (dp := 6 + d) [] ((c_X12_goOn _ _ _ e).mono (by omega)) (op_ck_sh e) rfl dX12_sum_32 cw_X12_244 rfl (Nat.le_of_ble_eq_true rfl) ?_
  refine aw_aload_n (pc := 35) 1 dX12_sum_35 rfl ?_
  obtain ⟨r4, e, h⟩ := op_bd h
  refine ow_cVv (pc := 36) (dp := 6 + d) [] (hS_4 _ _ _ e) (hsh _ _ _ _ e) rfl dX12_sum_36 cw_X12_301 rfl (Nat.le_of_ble_eq_true rfl) ?_
  refine aw_aload_n (pc := 39) 1 dX12_sum_39 rfl ?_
  refine aw_iconst (pc := 40) (v := (2 : Int32)) dX12_sum_40 (by decide) ?_
  refine aw_iload_n (pc := 41) 0 dX12_sum_41 rfl ?_
  obtain ⟨r5, e, h⟩ := op_bd h
  refine ow_cVv (pc := 42) (dp := 6 + d) [.int (2 : Int32), .int v1] ((c_X12_puts _ _ _ _ _ e).mono (by omega)) (op_ck_sh e) rfl dX12_sum_42 cw_X12_292 rfl (Nat.le_of_ble_eq_true rfl) ?_
  refine aw_goto (pc := 45) 4 dX12_sum_45 (by decide) ?_
  refine aw_sub [1] rfl ?_
  exact hK4 _ _ _ h
set_option maxRecDepth 100000 in
set_option maxHeartbeats 4000000 in
theorem c_X12_sum_4_b {G : ah_G} {d : Nat} (S : Nat → Nat → ah_H → Option ah_H) (hS_0 : ∀ (x0 : Nat) (σ : ah_H) (r : ah_H), S 0 x0 σ = some r → AM G m_X12_expression (6 + d) 0 0 [.ref x0] σ (ah_rv r)) (hS_1 : ∀ (x0 : Nat) (σ : ah_H) (r : ah_H), S 1 x0 σ = some r → AM G m_X12_conjunction (6 + d) 0 0 [.ref x0] σ (ah_rv r)) (hS_2 : ∀ (x0 : Nat) (σ : ah_H) (r : ah_H), S 2 x0 σ = some r → AM G m_X12_negation (6 + d) 0 0 [.ref x0] σ (ah_rv r)) (hS_3 : ∀ (x0 : Nat) (σ : ah_H) (r : ah_H), S 3 x0 σ = some r → AM G m_X12_sum (6 + d) 0 0 [.ref x0] σ (ah_rv r)) (hS_4 : ∀ (x0 : Nat) (σ : ah_H) (r : ah_H), S 4 x0 σ = some r → AM G m_X12_product (6 + d) 0 0 [.ref x0] σ (ah_rv r)) (hS_5 : ∀ (x0 : Nat) (σ : ah_H) (r : ah_H), S 5 x0 σ = some r → AM G m_X12_primary (6 + d) 0 0 [.ref x0] σ (ah_rv r)) (hsh : ∀ w x0 (σ : ah_H) (r : ah_H), S w x0 σ = some r → (ah_S σ)[x0]? = some (.inr 12)) (K4 : Nat → ah_H → Option (ah_H)) (hK4 : ∀ (x0 : Nat) (σ : ah_H) (r : ah_H), K4 x0 σ = some r → AW G m_X12_sum (6 + (d + 1)) 0 0 4 [(0, .ref x0)] [] σ (ah_N G (ah_rv r))) : ∀ (x0 : Nat) (σ : ah_H) (r : ah_H), f_X12_sum_4_b S K4 x0 σ = some r → AW G m_X12_sum (6 + (d + 1)) 0 0 4 [(0, .ref x0)] [] σ (ah_N G (ah_rv r)) := by
  intro x0 σ r h
  unfold f_X12_sum_4_b at h
  refine aw_aload_n (pc := 4) 0 dX12_sum_4 rfl ?_
  refine aw_bipush (pc := 5) (v := (43 : Int32)) dX12_sum_5 (by decide) ?_
  obtain ⟨r1, e, h⟩ := op_bd h
  refine ow_cVi (pc := 7) (dp := 6 + d) [.int (43 : Int32)] ((c_X12_isSign _ _ _ _ e).mono (by omega)) (op_ck_sh e) rfl dX12_sum_7 cw_X12_263 rfl (Nat.le_of_ble_eq_true rfl) ?_
  refine aw_if_ne (pc := 10) 22 dX12_sum_10 (by decide) (fun z => ?_) (fun z => ?_)
  · replace h := (if_neg z).symm.trans h
    exact c_X12_sum_22 S hS_0 hS_1 hS_2 hS_3 hS_4 hS_5 hsh K4 hK4 _ _ _ h
  · replace h := (if_pos z).symm.trans h
    refine aw_aload_n (pc := 13) 0 dX12_sum_13 rfl ?_
    refine aw_bipush (pc := 14) (v := (45 : Int32)) dX12_sum_14 (by decide) ?_
    obtain ⟨r2, e, h⟩ := op_bd h
    refine ow_cVi (pc := 16) (dp := 6 + d) [.int (45 : Int32)] ((c_X12_isSign _ _ _ _ e).mono (by omega)) (op_ck_sh e) rfl dX12_sum_16 cw_X12_263 rfl (Nat.le_of_ble_eq_true rfl) ?_
    refine aw_if_eq (pc := 19) 48 dX12_sum_19 (by decide) (fun z => ?_) (fun z => ?_)
    · replace h := (if_pos z).symm.trans h
      exact ow_vret (pc := 48) h dX12_sum_48 rfl
    · replace h := (if_neg z).symm.trans h
      exact c_X12_sum_22 S hS_0 hS_1 hS_2 hS_3 hS_4 hS_5 hsh K4 hK4 _ _ _ h
theorem c_X12_sum_4 {G : ah_G} {d : Nat} (S : Nat → Nat → ah_H → Option ah_H) (hS_0 : ∀ (x0 : Nat) (σ : ah_H) (r : ah_H), S 0 x0 σ = some r → AM G m_X12_expression (6 + d) 0 0 [.ref x0] σ (ah_rv r)) (hS_1 : ∀ (x0 : Nat) (σ : ah_H) (r : ah_H), S 1 x0 σ = some r → AM G m_X12_conjunction (6 + d) 0 0 [.ref x0] σ (ah_rv r)) (hS_2 : ∀ (x0 : Nat) (σ : ah_H) (r : ah_H), S 2 x0 σ = some r → AM G m_X12_negation (6 + d) 0 0 [.ref x0] σ (ah_rv r)) (hS_3 : ∀ (x0 : Nat) (σ : ah_H) (r : ah_H), S 3 x0 σ = some r → AM G m_X12_sum (6 + d) 0 0 [.ref x0] σ (ah_rv r)) (hS_4 : ∀ (x0 : Nat) (σ : ah_H) (r : ah_H), S 4 x0 σ = some r → AM G m_X12_product (6 + d) 0 0 [.ref x0] σ (ah_rv r)) (hS_5 : ∀ (x0 : Nat) (σ : ah_H) (r : ah_H), S 5 x0 σ = some r → AM G m_X12_primary (6 + d) 0 0 [.ref x0] σ (ah_rv r)) (hsh : ∀ w x0 (σ : ah_H) (r : ah_H), S w x0 σ = some r → (ah_S σ)[x0]? = some (.inr 12))  : ∀ (n : Nat) (x0 : Nat) (σ : ah_H) (r : ah_H), f_X12_sum_4 S  n x0 σ = some r → AW G m_X12_sum (6 + (d + 1)) 0 0 4 [(0, .ref x0)] [] σ (ah_N G (ah_rv r)) := by
  intro n
  induction n with
  | zero => intro x0 σ r h; cases h
  | succ n ih => intro x0 σ r h; exact c_X12_sum_4_b S hS_0 hS_1 hS_2 hS_3 hS_4 hS_5 hsh  _ ih x0 σ r h
set_option maxRecDepth 100000 in
set_option maxHeartbeats 4000000 in
theorem c_X12_sum_0 {G : ah_G} {d : Nat} (S : Nat → Nat → ah_H → Option ah_H) (hS_0 : ∀ (x0 : Nat) (σ : ah_H) (r : ah_H), S 0 x0 σ = some r → AM G m_X12_expression (6 + d) 0 0 [.ref x0] σ (ah_rv r)) (hS_1 : ∀ (x0 : Nat) (σ : ah_H) (r : ah_H), S 1 x0 σ = some r → AM G m_X12_conjunction (6 + d) 0 0 [.ref x0] σ (ah_rv r)) (hS_2 : ∀ (x0 : Nat) (σ : ah_H) (r : ah_H), S 2 x0 σ = some r → AM G m_X12_negation (6 + d) 0 0 [.ref x0] σ (ah_rv r)) (hS_3 : ∀ (x0 : Nat) (σ : ah_H) (r : ah_H), S 3 x0 σ = some r → AM G m_X12_sum (6 + d) 0 0 [.ref x0] σ (ah_rv r)) (hS_4 : ∀ (x0 : Nat) (σ : ah_H) (r : ah_H), S 4 x0 σ = some r → AM G m_X12_product (6 + d) 0 0 [.ref x0] σ (ah_rv r)) (hS_5 : ∀ (x0 : Nat) (σ : ah_H) (r : ah_H), S 5 x0 σ = some r → AM G m_X12_primary (6 + d) 0 0 [.ref x0] σ (ah_rv r)) (hsh : ∀ w x0 (σ : ah_H) (r : ah_H), S w x0 σ = some r → (ah_S σ)[x0]? = some (.inr 12))  : ∀ (x0 : Nat) (σ : ah_H) (r : ah_H), f_X12_sum_0 S  x0 σ = some r → AW G m_X12_sum (6 + (d + 1)) 0 0 0 [(0, .ref x0)] [] σ (ah_N G (ah_rv r)) := by
  intro x0 σ r h
  unfold f_X12_sum_0 at h
  refine aw_aload_n (pc := 0) 0 dX12_sum_0 rfl ?_
  obtain ⟨r1, e, h⟩ := op_bd h
  refine ow_cVv (pc := 1) (dp := 6 + d) [] (hS_4 _ _ _ e) (hsh _ _ _ _ e) rfl dX12_sum_1 cw_X12_301 rfl (Nat.le_of_ble_eq_true rfl) ?_
  exact c_X12_sum_4 S hS_0 hS_1 hS_2 hS_3 hS_4 hS_5 hsh _ _ _ _ h
theorem cb_X12_sum {G : ah_G} {d : Nat} (S : Nat → Nat → ah_H → Option ah_H) (hS_0 : ∀ (x0 : Nat) (σ : ah_H) (r : ah_H), S 0 x0 σ = some r → AM G m_X12_expression (6 + d) 0 0 [.ref x0] σ (ah_rv r)) (hS_1 : ∀ (x0 : Nat) (σ : ah_H) (r : ah_H), S 1 x0 σ = some r → AM G m_X12_conjunction (6 + d) 0 0 [.ref x0] σ (ah_rv r)) (hS_2 : ∀ (x0 : Nat) (σ : ah_H) (r : ah_H), S 2 x0 σ = some r → AM G m_X12_negation (6 + d) 0 0 [.ref x0] σ (ah_rv r)) (hS_3 : ∀ (x0 : Nat) (σ : ah_H) (r : ah_H), S 3 x0 σ = some r → AM G m_X12_sum (6 + d) 0 0 [.ref x0] σ (ah_rv r)) (hS_4 : ∀ (x0 : Nat) (σ : ah_H) (r : ah_H), S 4 x0 σ = some r → AM G m_X12_product (6 + d) 0 0 [.ref x0] σ (ah_rv r)) (hS_5 : ∀ (x0 : Nat) (σ : ah_H) (r : ah_H), S 5 x0 σ = some r → AM G m_X12_primary (6 + d) 0 0 [.ref x0] σ (ah_rv r)) (hsh : ∀ w x0 (σ : ah_H) (r : ah_H), S w x0 σ = some r → (ah_S σ)[x0]? = some (.inr 12)) (x0 : Nat) (σ : ah_H) (r : ah_H) (h : b_X12_sum S x0 σ = some r) : AM G m_X12_sum (6 + (d + 1)) 0 0 [.ref x0] σ (ah_rv r) := aw_enter (by decide) (Nat.le_of_ble_eq_true rfl) (c_X12_sum_0 S hS_0 hS_1 hS_2 hS_3 hS_4 hS_5 hsh _ _ _ (op_ck_k h))
set_option maxRecDepth 100000 in
set_option maxHeartbeats 4000000 in
theorem c_X12_product_22 {G : ah_G} {d : Nat} (S : Nat → Nat → ah_H → Option ah_H) (hS_0 : ∀ (x0 : Nat) (σ : ah_H) (r : ah_H), S 0 x0 σ = some r → AM G m_X12_expression (6 + d) 0 0 [.ref x0] σ (ah_rv r)) (hS_1 : ∀ (x0 : Nat) (σ : ah_H) (r : ah_H), S 1 x0 σ = some r → AM G m_X12_conjunction (6 + d) 0 0 [.ref x0] σ (ah_rv r)) (hS_2 : ∀ (x0 : Nat) (σ : ah_H) (r : ah_H), S 2 x0 σ = some r → AM G m_X12_negation (6 + d) 0 0 [.ref x0] σ (ah_rv r)) (hS_3 : ∀ (x0 : Nat) (σ : ah_H) (r : ah_H), S 3 x0 σ = some r → AM G m_X12_sum (6 + d) 0 0 [.ref x0] σ (ah_rv r)) (hS_4 : ∀ (x0 : Nat) (σ : ah_H) (r : ah_H), S 4 x0 σ = some r → AM G m_X12_product (6 + d) 0 0 [.ref x0] σ (ah_rv r)) (hS_5 : ∀ (x0 : Nat) (σ : ah_H) (r : ah_H), S 5 x0 σ = some r → AM G m_X12_primary (6 + d) 0 0 [.ref x0] σ (ah_rv r)) (hsh : ∀ w x0 (σ : ah_H) (r : ah_H), S w x0 σ = some r → (ah_S σ)[x0]? = some (.inr 12)) (K4 : Nat → ah_H → Option (ah_H)) (hK4 : ∀ (x0 : Nat) (σ : ah_H) (r : ah_H), K4 x0 σ = some r → AW G m_X12_product (6 + (d + 1)) 0 0 4 [(0, .ref x0)] [] σ (ah_N G (ah_rv r))) : ∀ (x0 : Nat) (σ : ah_H) (r : ah_H), f_X12_product_22 S K4 x0 σ = some r → AW G m_X12_product (6 + (d + 1)) 0 0 22 [(0, .ref x0)] [] σ (ah_N G (ah_rv r)) := by
  intro x0 σ r h
  unfold f_X12_product_22 at h
  refine aw_aload_n (pc := 22) 0 dX12_product_22 rfl ?_
  obtain ⟨v1, e, h⟩ := op_bd h
  refine ow_gI (pc := 23) e dX12_product_23 fd_X12_182 rfl ?_
  refine aw_istore_n (pc := 26) [(1, .int v1), (0, .ref x0)] dX12_product_26 rfl (by decide) rfl ?_
  refine aw_aload_n (pc := 27) 1 dX12_product_27 rfl ?_
  obtain ⟨r2, e, h⟩ := op_bd h
  refine ow_cVv (pc := 28) (dp := 6 + d) [] ((c_X12_knot _ _ _ e).mono (by omega)) (op_ck_sh e) rfl dX12_product_28 cw_X12_289 rfl (Nat.le_of_ble_eq_true rfl) ?_
  refine aw_aload_n (pc := 31) 1 dX12_product_31 rfl ?_
  obtain ⟨r3, e, h⟩ := op_bd h
  refine ow_cVv (pc := 32) (dp := 6 + d) [] ((c_X12_goOn _ _ _ e).mono (by omega)) (op_ck_sh e) rfl dX12_product_32 cw_X12_244 rfl (Nat.le_of_ble_eq_true rfl) ?_
  refine aw_aload_n (pc := 35) 1 dX12_product_35 rfl ?_
  obtain ⟨r4, e, h⟩ := op_bd h
  refine ow_cVv (pc := 36) (dp := 6 + d) [] (hS_5 _ _ _ e) (hsh _ _ _ _ e) rfl dX12_product_36 cw_X12_304 rfl (Nat.le_of_ble_eq_true rfl) ?_
  refine aw_aload_n (pc := 39) 1 dX12_product_39 rfl ?_
  refine aw_iconst (pc := 40) (v := (2 : Int32)) dX12_product_40 (by decide) ?_
  refine aw_iload_n (pc := 41) 0 dX12_product_41 rfl ?_
  obtain ⟨r5, e, h⟩ := op_bd h
  refine ow_cVv (pc := 42) (dp := 6 + d) [.int (2 : Int32), .int v1] ((c_X12_puts _ _ _ _ _ e).mono (by omega)) (op_ck_sh e) rfl dX12_product_42 cw_X12_292 rfl (Nat.le_of_ble_eq_true rfl) ?_
  refine aw_goto (pc := 45) 4 dX12_product_45 (by decide) ?_
  refine aw_sub [1] rfl ?_
  exact hK4 _ _ _ h
set_option maxRecDepth 100000 in
set_option maxHeartbeats 4000000 in
theorem c_X12_product_4_b {G : ah_G} {d : Nat} (S : Nat → Nat → ah_H → Option ah_H) (hS_0 : ∀ (x0 : Nat) (σ : ah_H) (r : ah_H), S 0 x0 σ = some r → AM G m_X12_expression (6 + d) 0 0 [.ref x0] σ (ah_rv r)) (hS_1 : ∀ (x0 : Nat) (σ : ah_H) (r : ah_H), S 1 x0 σ = some r → AM G m_X12_conjunction (6 + d) 0 0 [.ref x0] σ (ah_rv r)) (hS_2 : ∀ (x0 : Nat) (σ : ah_H) (r : ah_H), S 2 x0 σ = some r → AM G m_X12_negation (6 + d) 0 0 [.ref x0] σ (ah_rv r)) (hS_3 : ∀ (x0 : Nat) (σ : ah_H) (r : ah_H), S 3 x0 σ = some r → AM G m_X12_sum (6 + d) 0 0 [.ref x0] σ (ah_rv r)) (hS_4 : ∀ (x0 : Nat) (σ : ah_H) (r : ah_H), S 4 x0 σ = some r → AM G m_X12_product (6 + d) 0 0 [.ref x0] σ (ah_rv r)) (hS_5 : ∀ (x0 : Nat) (σ : ah_H) (r : ah_H), S 5 x0 σ = some r → AM G m_X12_primary (6 + d) 0 0 [.ref x0] σ (ah_rv r)) (hsh : ∀ w x0 (σ : ah_H) (r : ah_H), S w x0 σ = some r → (ah_S σ)[x0]? = some (.inr 12)) (K4 : Nat → ah_H → Option (ah_H)) (hK4 : ∀ (x0 : Nat) (σ : ah_H) (r : ah_H), K4 x0 σ = some r → AW G m_X12_product (6 + (d + 1)) 0 0 4 [(0, .ref x0)] [] σ (ah_N G (ah_rv r))) : ∀ (x0 : Nat) (σ : ah_H) (r : ah_H), f_X12_product_4_b S K4 x0 σ = some r → AW G m_X12_product (6 + (d + 1)) 0 0 4 [(0, .ref x0)] [] σ (ah_N G (ah_rv r)) := by
  intro x0 σ r h
  unfold f_X12_product_4_b at h
  refine aw_aload_n (pc := 4) 0 dX12_product_4 rfl ?_
  refine aw_bipush (pc := 5) (v := (42 : Int32)) dX12_product_5 (by decide) ?_
  obtain ⟨r1, e, h⟩ := op_bd h
  refine ow_cVi (pc := 7) (dp := 6 + d) [.int (42 : Int32)] ((c_X12_isSign _ _ _ _ e).mono (by omega)) (op_ck_sh e) rfl dX12_product_7 cw_X12_263 rfl (Nat.le_of_ble_eq_true rfl) ?_
  refine aw_if_ne (pc := 10) 22 dX12_product_10 (by decide) (fun z => ?_) (fun z => ?_)
  · replace h := (if_neg z).symm.trans h
    exact c_X12_product_22 S hS_0 hS_1 hS_2 hS_3 hS_4 hS_5 hsh K4 hK4 _ _ _ h
  · replace h := (if_pos z).symm.trans h
    refine aw_aload_n (pc := 13) 0 dX12_product_13 rfl ?_
    refine aw_bipush (pc := 14) (v := (47 : Int32)) dX12_product_14 (by decide) ?_
    obtain ⟨r2, e, h⟩ := op_bd h
    refine ow_cVi (pc := 16) (dp := 6 + d) [.int (47 : Int32)] ((c_X12_isSign _ _ _ _ e).mono (by omega)) (op_ck_sh e) rfl dX12_product_16 cw_X12_263 rfl (Nat.le_of_ble_eq_true rfl) ?_
    refine aw_if_eq (pc := 19) 48 dX12_product_19 (by decide) (fun z => ?_) (fun z => ?_)
    · replace h := (if_pos z).symm.trans h
      exact ow_vret (pc := 48) h dX12_product_48 rfl
    · replace h := (if_neg z).symm.trans h
      exact c_X12_product_22 S hS_0 hS_1 hS_2 hS_3 hS_4 hS_5 hsh K4 hK4 _ _ _ h
theorem c_X12_product_4 {G : ah_G} {d : Nat} (S : Nat → Nat → ah_H → Option ah_H) (hS_0 : ∀ (x0 : Nat) (σ : ah_H) (r : ah_H), S 0 x0 σ = some r → AM G m_X12_expression (6 + d) 0 0 [.ref x0] σ (ah_rv r)) (hS_1 : ∀ (x0 : Nat) (σ : ah_H) (r : ah_H), S 1 x0 σ = some r → AM G m_X12_conjunction (6 + d) 0 0 [.ref x0] σ (ah_rv r)) (hS_2 : ∀ (x0 : Nat) (σ : ah_H) (r : ah_H), S 2 x0 σ = some r → AM G m_X12_negation (6 + d) 0 0 [.ref x0] σ (ah_rv r)) (hS_3 : ∀ (x0 : Nat) (σ : ah_H) (r : ah_H), S 3 x0 σ = some r → AM G m_X12_sum (6 + d) 0 0 [.ref x0] σ (ah_rv r)) (hS_4 : ∀ (x0 : Nat) (σ : ah_H) (r : ah_H), S 4 x0 σ = some r → AM G m_X12_product (6 + d) 0 0 [.ref x0] σ (ah_rv r)) (hS_5 : ∀ (x0 : Nat) (σ : ah_H) (r : ah_H), S 5 x0 σ = some r → AM G m_X12_primary (6 + d) 0 0 [.ref x0] σ (ah_rv r)) (hsh : ∀ w x0 (σ : ah_H) (r : ah_H), S w x0 σ = some r → (ah_S σ)[x0]? = some (.inr 12))  : ∀ (n : Nat) (x0 : Nat) (σ : ah_H) (r : ah_H), f_X12_product_4 S  n x0 σ = some r → AW G m_X12_product (6 + (d + 1)) 0 0 4 [(0, .ref x0)] [] σ (ah_N G (ah_rv r)) := by
  intro n
  induction n with
  | zero => intro x0 σ r h; cases h
  | succ n ih => intro x0 σ r h; exact c_X12_product_4_b S hS_0 hS_1 hS_2 hS_3 hS_4 hS_5 hsh  _ ih x0 σ r h
set_option maxRecDepth 100000 in
set_option maxHeartbeats 4000000 in
theorem c_X12_product_0 {G : ah_G} {d : Nat} (S : Nat → Nat → ah_H → Option ah_H) (hS_0 : ∀ (x0 : Nat) (σ : ah_H) (r : ah_H), S 0 x0 σ = some r → AM G m_X12_expression (6 + d) 0 0 [.ref x0] σ (ah_rv r)) (hS_1 : ∀ (x0 : Nat) (σ : ah_H) (r : ah_H), S 1 x0 σ = some r → AM G m_X12_conjunction (6 + d) 0 0 [.ref x0] σ (ah_rv r)) (hS_2 : ∀ (x0 : Nat) (σ : ah_H) (r : ah_H), S 2 x0 σ = some r → AM G m_X12_negation (6 + d) 0 0 [.ref x0] σ (ah_rv r)) (hS_3 : ∀ (x0 : Nat) (σ : ah_H) (r : ah_H), S 3 x0 σ = some r → AM G m_X12_sum (6 + d) 0 0 [.ref x0] σ (ah_rv r)) (hS_4 : ∀ (x0 : Nat) (σ : ah_H) (r : ah_H), S 4 x0 σ = some r → AM G m_X12_product (6 + d) 0 0 [.ref x0] σ (ah_rv r)) (hS_5 : ∀ (x0 : Nat) (σ : ah_H) (r : ah_H), S 5 x0 σ = some r → AM G m_X12_primary (6 + d) 0 0 [.ref x0] σ (ah_rv r)) (hsh : ∀ w x0 (σ : ah_H) (r : ah_H), S w x0 σ = some r → (ah_S σ)[x0]? = some (.inr 12))  : ∀ (x0 : Nat) (σ : ah_H) (r : ah_H), f_X12_product_0 S  x0 σ = some r → AW G m_X12_product (6 + (d + 1)) 0 0 0 [(0, .ref x0)] [] σ (ah_N G (ah_rv r)) := by
  intro x0 σ r h
  unfold f_X12_product_0 at h
  refine aw_aload_n (pc := 0) 0 dX12_product_0 rfl ?_
  obtain ⟨r1, e, h⟩ := op_bd h
  refine ow_cVv (pc := 1) (dp := 6 + d) [] (hS_5 _ _ _ e) (hsh _ _ _ _ e) rfl dX12_product_1 cw_X12_304 rfl (Nat.le_of_ble_eq_true rfl) ?_
  exact c_X12_product_4 S hS_0 hS_1 hS_2 hS_3 hS_4 hS_5 hsh _ _ _ _ h
theorem cb_X12_product {G : ah_G} {d : Nat} (S : Nat → Nat → ah_H → Option ah_H) (hS_0 : ∀ (x0 : Nat) (σ : ah_H) (r : ah_H), S 0 x0 σ = some r → AM G m_X12_expression (6 + d) 0 0 [.ref x0] σ (ah_rv r)) (hS_1 : ∀ (x0 : Nat) (σ : ah_H) (r : ah_H), S 1 x0 σ = some r → AM G m_X12_conjunction (6 + d) 0 0 [.ref x0] σ (ah_rv r)) (hS_2 : ∀ (x0 : Nat) (σ : ah_H) (r : ah_H), S 2 x0 σ = some r → AM G m_X12_negation (6 + d) 0 0 [.ref x0] σ (ah_rv r)) (hS_3 : ∀ (x0 : Nat) (σ : ah_H) (r : ah_H), S 3 x0 σ = some r → AM G m_X12_sum (6 + d) 0 0 [.ref x0] σ (ah_rv r)) (hS_4 : ∀ (x0 : Nat) (σ : ah_H) (r : ah_H), S 4 x0 σ = some r → AM G m_X12_product (6 + d) 0 0 [.ref x0] σ (ah_rv r)) (hS_5 : ∀ (x0 : Nat) (σ : ah_H) (r : ah_H), S 5 x0 σ = some r → AM G m_X12_primary (6 + d) 0 0 [.ref x0] σ (ah_rv r)) (hsh : ∀ w x0 (σ : ah_H) (r : ah_H), S w x0 σ = some r → (ah_S σ)[x0]? = some (.inr 12)) (x0 : Nat) (σ : ah_H) (r : ah_H) (h : b_X12_product S x0 σ = some r) : AM G m_X12_product (6 + (d + 1)) 0 0 [.ref x0] σ (ah_rv r) := aw_enter (by decide) (Nat.le_of_ble_eq_true rfl) (c_X12_product_0 S hS_0 hS_1 hS_2 hS_3 hS_4 hS_5 hsh _ _ _ (op_ck_k h))
set_option maxRecDepth 100000 in
set_option maxHeartbeats 4000000 in
theorem c_X12_primary_78 {G : ah_G} {d : Nat} (S : Nat → Nat → ah_H → Option ah_H) (hS_0 : ∀ (x0 : Nat) (σ : ah_H) (r : ah_H), S 0 x0 σ = some r → AM G m_X12_expression (6 + d) 0 0 [.ref x0] σ (ah_rv r)) (hS_1 : ∀ (x0 : Nat) (σ : ah_H) (r : ah_H), S 1 x0 σ = some r → AM G m_X12_conjunction (6 + d) 0 0 [.ref x0] σ (ah_rv r)) (hS_2 : ∀ (x0 : Nat) (σ : ah_H) (r : ah_H), S 2 x0 σ = some r → AM G m_X12_negation (6 + d) 0 0 [.ref x0] σ (ah_rv r)) (hS_3 : ∀ (x0 : Nat) (σ : ah_H) (r : ah_H), S 3 x0 σ = some r → AM G m_X12_sum (6 + d) 0 0 [.ref x0] σ (ah_rv r)) (hS_4 : ∀ (x0 : Nat) (σ : ah_H) (r : ah_H), S 4 x0 σ = some r → AM G m_X12_product (6 + d) 0 0 [.ref x0] σ (ah_rv r)) (hS_5 : ∀ (x0 : Nat) (σ : ah_H) (r : ah_H), S 5 x0 σ = some r → AM G m_X12_primary (6 + d) 0 0 [.ref x0] σ (ah_rv r)) (hsh : ∀ w x0 (σ : ah_H) (r : ah_H), S w x0 σ = some r → (ah_S σ)[x0]? = some (.inr 12))  : ∀ (x0 : Nat) (σ : ah_H) (r : ah_H), f_X12_primary_78 S  x0 σ = some r → AW G m_X12_primary (6 + (d + 1)) 0 0 78 [(0, .ref x0)] [] σ (ah_N G (ah_rv r)) := by
  intro x0 σ r h
  unfold f_X12_primary_78 at h
  refine aw_aload_n (pc := 78) 0 dX12_primary_78 rfl ?_
  obtain ⟨v1, e, h⟩ := op_bd h
  refine ow_gI (pc := 79) e dX12_primary_79 fd_X12_205 rfl ?_
  refine aw_if_eq (pc := 82) 86 dX12_primary_82 (by decide) (fun z => ?_) (fun z => ?_)
  · replace h := (if_pos z).symm.trans h
    refine aw_aload_n (pc := 86) 0 dX12_primary_86 rfl ?_
    refine aw_dup (pc := 87) dX12_primary_87 rfl ?_
    obtain ⟨v2, e, h⟩ := op_bd h
    refine ow_gI (pc := 88) e dX12_primary_88 fd_X12_307 rfl ?_
    refine aw_iconst (pc := 91) (v := (1 : Int32)) dX12_primary_91 (by decide) ?_
    refine aw_isub (pc := 92) dX12_primary_92 ?_
    obtain ⟨σ3, e, h⟩ := op_bd h
    refine ow_pI (pc := 93) e dX12_primary_93 fd_X12_307 ?_
    refine aw_aload_n (pc := 96) 0 dX12_primary_96 rfl ?_
    obtain ⟨r4, e, h⟩ := op_bd h
    refine ow_cVv (pc := 97) (dp := 6 + d) [] ((c_X12_token _ _ _ e).mono (by omega)) (op_ck_sh e) rfl dX12_primary_97 cw_X12_211 rfl (Nat.le_of_ble_eq_true rfl) ?_
    exact ow_vret (pc := 100) h dX12_primary_100 rfl
  · replace h := (if_neg z).symm.trans h
    exact ow_vret (pc := 85) h dX12_primary_85 rfl
set_option maxRecDepth 100000 in
set_option maxHeartbeats 4000000 in
theorem c_X12_primary_31 {G : ah_G} {d : Nat} (S : Nat → Nat → ah_H → Option ah_H) (hS_0 : ∀ (x0 : Nat) (σ : ah_H) (r : ah_H), S 0 x0 σ = some r → AM G m_X12_expression (6 + d) 0 0 [.ref x0] σ (ah_rv r)) (hS_1 : ∀ (x0 : Nat) (σ : ah_H) (r : ah_H), S 1 x0 σ = some r → AM G m_X12_conjunction (6 + d) 0 0 [.ref x0] σ (ah_rv r)) (hS_2 : ∀ (x0 : Nat) (σ : ah_H) (r : ah_H), S 2 x0 σ = some r → AM G m_X12_negation (6 + d) 0 0 [.ref x0] σ (ah_rv r)) (hS_3 : ∀ (x0 : Nat) (σ : ah_H) (r : ah_H), S 3 x0 σ = some r → AM G m_X12_sum (6 + d) 0 0 [.ref x0] σ (ah_rv r)) (hS_4 : ∀ (x0 : Nat) (σ : ah_H) (r : ah_H), S 4 x0 σ = some r → AM G m_X12_product (6 + d) 0 0 [.ref x0] σ (ah_rv r)) (hS_5 : ∀ (x0 : Nat) (σ : ah_H) (r : ah_H), S 5 x0 σ = some r → AM G m_X12_primary (6 + d) 0 0 [.ref x0] σ (ah_rv r)) (hsh : ∀ w x0 (σ : ah_H) (r : ah_H), S w x0 σ = some r → (ah_S σ)[x0]? = some (.inr 12))  : ∀ (x0 : Nat) (σ : ah_H) (r : ah_H), f_X12_primary_31 S  x0 σ = some r → AW G m_X12_primary (6 + (d + 1)) 0 0 31 [(0, .ref x0)] [] σ (ah_N G (ah_rv r)) := by
  intro x0 σ r h
  unfold f_X12_primary_31 at h
  refine aw_aload_n (pc := 31) 0 dX12_primary_31 rfl ?_
  obtain ⟨v1, e, h⟩ := op_bd h
  refine ow_gI (pc := 32) e dX12_primary_32 fd_X12_205 rfl ?_
  refine aw_if_eq (pc := 35) 39 dX12_primary_35 (by decide) (fun z => ?_) (fun z => ?_)
  · replace h := (if_pos z).symm.trans h
    refine aw_aload_n (pc := 39) 0 dX12_primary_39 rfl ?_
    refine aw_dup (pc := 40) dX12_primary_40 rfl ?_
    obtain ⟨v2, e, h⟩ := op_bd h
    refine ow_gI (pc := 41) e dX12_primary_41 fd_X12_307 rfl ?_
    refine aw_iconst (pc := 44) (v := (1 : Int32)) dX12_primary_44 (by decide) ?_
    refine aw_iadd (pc := 45) dX12_primary_45 ?_
    obtain ⟨σ3, e, h⟩ := op_bd h
    refine ow_pI (pc := 46) e dX12_primary_46 fd_X12_307 ?_
    refine aw_aload_n (pc := 49) 0 dX12_primary_49 rfl ?_
    obtain ⟨r4, e, h⟩ := op_bd h
    refine ow_cVv (pc := 50) (dp := 6 + d) [] ((c_X12_token _ _ _ e).mono (by omega)) (op_ck_sh e) rfl dX12_primary_50 cw_X12_211 rfl (Nat.le_of_ble_eq_true rfl) ?_
    refine aw_aload_n (pc := 53) 0 dX12_primary_53 rfl ?_
    obtain ⟨r5, e, h⟩ := op_bd h
    refine ow_cVv (pc := 54) (dp := 6 + d) [] (hS_0 _ _ _ e) (hsh _ _ _ _ e) rfl dX12_primary_54 cw_X12_280 rfl (Nat.le_of_ble_eq_true rfl) ?_
    refine aw_aload_n (pc := 57) 0 dX12_primary_57 rfl ?_
    obtain ⟨v6, e, h⟩ := op_bd h
    refine ow_gI (pc := 58) e dX12_primary_58 fd_X12_205 rfl ?_
    refine aw_if_ne (pc := 61) 78 dX12_primary_61 (by decide) (fun z => ?_) (fun z => ?_)
    · replace h := (if_neg z).symm.trans h
      exact c_X12_primary_78 S hS_0 hS_1 hS_2 hS_3 hS_4 hS_5 hsh _ _ _ h
    · replace h := (if_pos z).symm.trans h
      refine aw_aload_n (pc := 64) 0 dX12_primary_64 rfl ?_
      refine aw_bipush (pc := 65) (v := (41 : Int32)) dX12_primary_65 (by decide) ?_
      obtain ⟨r7, e, h⟩ := op_bd h
      refine ow_cVi (pc := 67) (dp := 6 + d) [.int (41 : Int32)] ((c_X12_isSign _ _ _ _ e).mono (by omega)) (op_ck_sh e) rfl dX12_primary_67 cw_X12_263 rfl (Nat.le_of_ble_eq_true rfl) ?_
      refine aw_if_ne (pc := 70) 78 dX12_primary_70 (by decide) (fun z => ?_) (fun z => ?_)
      · replace h := (if_neg z).symm.trans h
        exact c_X12_primary_78 S hS_0 hS_1 hS_2 hS_3 hS_4 hS_5 hsh _ _ _ h
      · replace h := (if_pos z).symm.trans h
        refine aw_aload_n (pc := 73) 0 dX12_primary_73 rfl ?_
        refine aw_iconst (pc := 74) (v := (1 : Int32)) dX12_primary_74 (by decide) ?_
        obtain ⟨r8, e, h⟩ := op_bd h
        refine ow_cVv (pc := 75) (dp := 6 + d) [.int (1 : Int32)] ((c_X12_wrong _ _ _ _ e).mono (by omega)) (op_ck_sh e) rfl dX12_primary_75 cw_X12_214 rfl (Nat.le_of_ble_eq_true rfl) ?_
        exact c_X12_primary_78 S hS_0 hS_1 hS_2 hS_3 hS_4 hS_5 hsh _ _ _ h
  · replace h := (if_neg z).symm.trans h
    exact ow_vret (pc := 38) h dX12_primary_38 rfl
set_option maxRecDepth 100000 in
set_option maxHeartbeats 4000000 in
theorem c_X12_primary_194 {G : ah_G} {d : Nat} (S : Nat → Nat → ah_H → Option ah_H) (hS_0 : ∀ (x0 : Nat) (σ : ah_H) (r : ah_H), S 0 x0 σ = some r → AM G m_X12_expression (6 + d) 0 0 [.ref x0] σ (ah_rv r)) (hS_1 : ∀ (x0 : Nat) (σ : ah_H) (r : ah_H), S 1 x0 σ = some r → AM G m_X12_conjunction (6 + d) 0 0 [.ref x0] σ (ah_rv r)) (hS_2 : ∀ (x0 : Nat) (σ : ah_H) (r : ah_H), S 2 x0 σ = some r → AM G m_X12_negation (6 + d) 0 0 [.ref x0] σ (ah_rv r)) (hS_3 : ∀ (x0 : Nat) (σ : ah_H) (r : ah_H), S 3 x0 σ = some r → AM G m_X12_sum (6 + d) 0 0 [.ref x0] σ (ah_rv r)) (hS_4 : ∀ (x0 : Nat) (σ : ah_H) (r : ah_H), S 4 x0 σ = some r → AM G m_X12_product (6 + d) 0 0 [.ref x0] σ (ah_rv r)) (hS_5 : ∀ (x0 : Nat) (σ : ah_H) (r : ah_H), S 5 x0 σ = some r → AM G m_X12_primary (6 + d) 0 0 [.ref x0] σ (ah_rv r)) (hsh : ∀ w x0 (σ : ah_H) (r : ah_H), S w x0 σ = some r → (ah_S σ)[x0]? = some (.inr 12))  : ∀ (x0 : Nat) (s0 : Nat) (s1 : Int32) (s2 : Int32) (σ : ah_H) (r : ah_H), f_X12_primary_194 S  x0 s0 s1 s2 σ = some r → AW G m_X12_primary (6 + (d + 1)) 0 0 194 [(0, .ref x0)] [.int s2, .int s1, .ref s0] σ (ah_N G (ah_rv r)) := by
  intro x0 s0 s1 s2 σ r h
  unfold f_X12_primary_194 at h
  obtain ⟨r1, e, h⟩ := op_bd h
  refine ow_cVv (pc := 194) (dp := 6 + d) [.int s1, .int s2] ((c_X12_puts _ _ _ _ _ e).mono (by omega)) (op_ck_sh e) rfl dX12_primary_194 cw_X12_292 rfl (Nat.le_of_ble_eq_true rfl) ?_
  refine aw_aload_n (pc := 197) 0 dX12_primary_197 rfl ?_
  obtain ⟨r2, e, h⟩ := op_bd h
  refine ow_cVv (pc := 198) (dp := 6 + d) [] ((c_X12_goOn _ _ _ e).mono (by omega)) (op_ck_sh e) rfl dX12_primary_198 cw_X12_244 rfl (Nat.le_of_ble_eq_true rfl) ?_
  exact ow_vret (pc := 201) h dX12_primary_201 rfl
set_option maxRecDepth 100000 in
set_option maxHeartbeats 4000000 in
theorem c_X12_primary_176 {G : ah_G} {d : Nat} (S : Nat → Nat → ah_H → Option ah_H) (hS_0 : ∀ (x0 : Nat) (σ : ah_H) (r : ah_H), S 0 x0 σ = some r → AM G m_X12_expression (6 + d) 0 0 [.ref x0] σ (ah_rv r)) (hS_1 : ∀ (x0 : Nat) (σ : ah_H) (r : ah_H), S 1 x0 σ = some r → AM G m_X12_conjunction (6 + d) 0 0 [.ref x0] σ (ah_rv r)) (hS_2 : ∀ (x0 : Nat) (σ : ah_H) (r : ah_H), S 2 x0 σ = some r → AM G m_X12_negation (6 + d) 0 0 [.ref x0] σ (ah_rv r)) (hS_3 : ∀ (x0 : Nat) (σ : ah_H) (r : ah_H), S 3 x0 σ = some r → AM G m_X12_sum (6 + d) 0 0 [.ref x0] σ (ah_rv r)) (hS_4 : ∀ (x0 : Nat) (σ : ah_H) (r : ah_H), S 4 x0 σ = some r → AM G m_X12_product (6 + d) 0 0 [.ref x0] σ (ah_rv r)) (hS_5 : ∀ (x0 : Nat) (σ : ah_H) (r : ah_H), S 5 x0 σ = some r → AM G m_X12_primary (6 + d) 0 0 [.ref x0] σ (ah_rv r)) (hsh : ∀ w x0 (σ : ah_H) (r : ah_H), S w x0 σ = some r → (ah_S σ)[x0]? = some (.inr 12))  : ∀ (x0 : Nat) (x1 : Int32) (s0 : Nat) (s1 : Int32) (σ : ah_H) (r : ah_H), f_X12_primary_176 S  x0 x1 s0 s1 σ = some r → AW G m_X12_primary (6 + (d + 1)) 0 0 176 [(0, .ref x0), (1, .int x1)] [.int s1, .ref s0] σ (ah_N G (ah_rv r)) := by
  intro x0 x1 s0 s1 σ r h
  unfold f_X12_primary_176 at h
  refine aw_iload_n (pc := 176) 1 dX12_primary_176 rfl ?_
  refine aw_if_eq (pc := 177) 187 dX12_primary_177 (by decide) (fun z => ?_) (fun z => ?_)
  · replace h := (if_pos z).symm.trans h
    refine aw_aload_n (pc := 187) 0 dX12_primary_187 rfl ?_
    obtain ⟨v1, e, h⟩ := op_bd h
    refine ow_gI (pc := 188) e dX12_primary_188 fd_X12_182 rfl ?_
    refine aw_bipush (pc := 191) (v := (18 : Int32)) dX12_primary_191 (by decide) ?_
    refine aw_isub (pc := 193) dX12_primary_193 ?_
    refine aw_sub [0] rfl ?_
    exact c_X12_primary_194 S hS_0 hS_1 hS_2 hS_3 hS_4 hS_5 hsh _ _ _ _ _ _ h
  · replace h := (if_neg z).symm.trans h
    refine aw_aload_n (pc := 180) 0 dX12_primary_180 rfl ?_
    obtain ⟨v2, e, h⟩ := op_bd h
    refine ow_gI (pc := 181) e dX12_primary_181 fd_X12_182 rfl ?_
    refine aw_goto (pc := 184) 194 dX12_primary_184 (by decide) ?_
    refine aw_sub [0] rfl ?_
    exact c_X12_primary_194 S hS_0 hS_1 hS_2 hS_3 hS_4 hS_5 hsh _ _ _ _ _ _ h
set_option maxRecDepth 100000 in
set_option maxHeartbeats 4000000 in
theorem c_X12_primary_162 {G : ah_G} {d : Nat} (S : Nat → Nat → ah_H → Option ah_H) (hS_0 : ∀ (x0 : Nat) (σ : ah_H) (r : ah_H), S 0 x0 σ = some r → AM G m_X12_expression (6 + d) 0 0 [.ref x0] σ (ah_rv r)) (hS_1 : ∀ (x0 : Nat) (σ : ah_H) (r : ah_H), S 1 x0 σ = some r → AM G m_X12_conjunction (6 + d) 0 0 [.ref x0] σ (ah_rv r)) (hS_2 : ∀ (x0 : Nat) (σ : ah_H) (r : ah_H), S 2 x0 σ = some r → AM G m_X12_negation (6 + d) 0 0 [.ref x0] σ (ah_rv r)) (hS_3 : ∀ (x0 : Nat) (σ : ah_H) (r : ah_H), S 3 x0 σ = some r → AM G m_X12_sum (6 + d) 0 0 [.ref x0] σ (ah_rv r)) (hS_4 : ∀ (x0 : Nat) (σ : ah_H) (r : ah_H), S 4 x0 σ = some r → AM G m_X12_product (6 + d) 0 0 [.ref x0] σ (ah_rv r)) (hS_5 : ∀ (x0 : Nat) (σ : ah_H) (r : ah_H), S 5 x0 σ = some r → AM G m_X12_primary (6 + d) 0 0 [.ref x0] σ (ah_rv r)) (hsh : ∀ w x0 (σ : ah_H) (r : ah_H), S w x0 σ = some r → (ah_S σ)[x0]? = some (.inr 12))  : ∀ (x0 : Nat) (x1 : Int32) (σ : ah_H) (r : ah_H), f_X12_primary_162 S  x0 x1 σ = some r → AW G m_X12_primary (6 + (d + 1)) 0 0 162 [(0, .ref x0), (1, .int x1)] [] σ (ah_N G (ah_rv r)) := by
  intro x0 x1 σ r h
  unfold f_X12_primary_162 at h
  refine aw_aload_n (pc := 162) 0 dX12_primary_162 rfl ?_
  obtain ⟨r1, e, h⟩ := op_bd h
  refine ow_cVv (pc := 163) (dp := 6 + d) [] ((c_X12_knot _ _ _ e).mono (by omega)) (op_ck_sh e) rfl dX12_primary_163 cw_X12_289 rfl (Nat.le_of_ble_eq_true rfl) ?_
  refine aw_aload_n (pc := 166) 0 dX12_primary_166 rfl ?_
  refine aw_iload_n (pc := 167) 1 dX12_primary_167 rfl ?_
  refine aw_if_eq (pc := 168) 175 dX12_primary_168 (by decide) (fun z => ?_) (fun z => ?_)
  · replace h := (if_pos z).symm.trans h
    refine aw_iconst (pc := 175) (v := (1 : Int32)) dX12_primary_175 (by decide) ?_
    exact c_X12_primary_176 S hS_0 hS_1 hS_2 hS_3 hS_4 hS_5 hsh _ _ _ _ _ _ h
  · replace h := (if_neg z).symm.trans h
    refine aw_iconst (pc := 171) (v := (0 : Int32)) dX12_primary_171 (by decide) ?_
    refine aw_goto (pc := 172) 176 dX12_primary_172 (by decide) ?_
    exact c_X12_primary_176 S hS_0 hS_1 hS_2 hS_3 hS_4 hS_5 hsh _ _ _ _ _ _ h
set_option maxRecDepth 100000 in
set_option maxHeartbeats 4000000 in
theorem c_X12_primary_157 {G : ah_G} {d : Nat} (S : Nat → Nat → ah_H → Option ah_H) (hS_0 : ∀ (x0 : Nat) (σ : ah_H) (r : ah_H), S 0 x0 σ = some r → AM G m_X12_expression (6 + d) 0 0 [.ref x0] σ (ah_rv r)) (hS_1 : ∀ (x0 : Nat) (σ : ah_H) (r : ah_H), S 1 x0 σ = some r → AM G m_X12_conjunction (6 + d) 0 0 [.ref x0] σ (ah_rv r)) (hS_2 : ∀ (x0 : Nat) (σ : ah_H) (r : ah_H), S 2 x0 σ = some r → AM G m_X12_negation (6 + d) 0 0 [.ref x0] σ (ah_rv r)) (hS_3 : ∀ (x0 : Nat) (σ : ah_H) (r : ah_H), S 3 x0 σ = some r → AM G m_X12_sum (6 + d) 0 0 [.ref x0] σ (ah_rv r)) (hS_4 : ∀ (x0 : Nat) (σ : ah_H) (r : ah_H), S 4 x0 σ = some r → AM G m_X12_product (6 + d) 0 0 [.ref x0] σ (ah_rv r)) (hS_5 : ∀ (x0 : Nat) (σ : ah_H) (r : ah_H), S 5 x0 σ = some r → AM G m_X12_primary (6 + d) 0 0 [.ref x0] σ (ah_rv r)) (hsh : ∀ w x0 (σ : ah_H) (r : ah_H), S w x0 σ = some r → (ah_S σ)[x0]? = some (.inr 12))  : ∀ (x0 : Nat) (x1 : Int32) (σ : ah_H) (r : ah_H), f_X12_primary_157 S  x0 x1 σ = some r → AW G m_X12_primary (6 + (d + 1)) 0 0 157 [(0, .ref x0), (1, .int x1)] [] σ (ah_N G (ah_rv r)) := by
  intro x0 x1 σ r h
  unfold f_X12_primary_157 at h
  refine aw_aload_n (pc := 157) 0 dX12_primary_157 rfl ?_
  refine aw_iconst (pc := 158) (v := (1 : Int32)) dX12_primary_158 (by decide) ?_
  obtain ⟨r1, e, h⟩ := op_bd h
  refine ow_cVv (pc := 159) (dp := 6 + d) [.int (1 : Int32)] ((c_X12_wrong _ _ _ _ e).mono (by omega)) (op_ck_sh e) rfl dX12_primary_159 cw_X12_214 rfl (Nat.le_of_ble_eq_true rfl) ?_
  exact c_X12_primary_162 S hS_0 hS_1 hS_2 hS_3 hS_4 hS_5 hsh _ _ _ _ h
set_option maxRecDepth 100000 in
set_option maxHeartbeats 4000000 in
theorem c_X12_primary_137 {G : ah_G} {d : Nat} (S : Nat → Nat → ah_H → Option ah_H) (hS_0 : ∀ (x0 : Nat) (σ : ah_H) (r : ah_H), S 0 x0 σ = some r → AM G m_X12_expression (6 + d) 0 0 [.ref x0] σ (ah_rv r)) (hS_1 : ∀ (x0 : Nat) (σ : ah_H) (r : ah_H), S 1 x0 σ = some r → AM G m_X12_conjunction (6 + d) 0 0 [.ref x0] σ (ah_rv r)) (hS_2 : ∀ (x0 : Nat) (σ : ah_H) (r : ah_H), S 2 x0 σ = some r → AM G m_X12_negation (6 + d) 0 0 [.ref x0] σ (ah_rv r)) (hS_3 : ∀ (x0 : Nat) (σ : ah_H) (r : ah_H), S 3 x0 σ = some r → AM G m_X12_sum (6 + d) 0 0 [.ref x0] σ (ah_rv r)) (hS_4 : ∀ (x0 : Nat) (σ : ah_H) (r : ah_H), S 4 x0 σ = some r → AM G m_X12_product (6 + d) 0 0 [.ref x0] σ (ah_rv r)) (hS_5 : ∀ (x0 : Nat) (σ : ah_H) (r : ah_H), S 5 x0 σ = some r → AM G m_X12_primary (6 + d) 0 0 [.ref x0] σ (ah_rv r)) (hsh : ∀ w x0 (σ : ah_H) (r : ah_H), S w x0 σ = some r → (ah_S σ)[x0]? = some (.inr 12))  : ∀ (x0 : Nat) (x1 : Int32) (σ : ah_H) (r : ah_H), f_X12_primary_137 S  x0 x1 σ = some r → AW G m_X12_primary (6 + (d + 1)) 0 0 137 [(0, .ref x0), (1, .int x1)] [] σ (ah_N G (ah_rv r)) := by
  intro x0 x1 σ r h
  unfold f_X12_primary_137 at h
  refine aw_iload_n (pc := 137) 1 dX12_primary_137 rfl ?_
  refine aw_if_ne (pc := 138) 162 dX12_primary_138 (by decide) (fun z => ?_) (fun z => ?_)
  · replace h := (if_neg z).symm.trans h
    exact c_X12_primary_162 S hS_0 hS_1 hS_2 hS_3 hS_4 hS_5 hsh _ _ _ _ h
  · replace h := (if_pos z).symm.trans h
    refine aw_aload_n (pc := 141) 0 dX12_primary_141 rfl ?_
    obtain ⟨v1, e, h⟩ := op_bd h
    refine ow_gI (pc := 142) e dX12_primary_142 fd_X12_172 rfl ?_
    refine aw_if_ne (pc := 145) 157 dX12_primary_145 (by decide) (fun z => ?_) (fun z => ?_)
    · replace h := (if_neg z).symm.trans h
      exact c_X12_primary_157 S hS_0 hS_1 hS_2 hS_3 hS_4 hS_5 hsh _ _ _ _ h
    · replace h := (if_pos z).symm.trans h
      refine aw_aload_n (pc := 148) 0 dX12_primary_148 rfl ?_
      obtain ⟨v2, e, h⟩ := op_bd h
      refine ow_gI (pc := 149) e dX12_primary_149 fd_X12_182 rfl ?_
      refine aw_bipush (pc := 152) (v := (18 : Int32)) dX12_primary_152 (by decide) ?_
      refine aw_icmp_ge (pc := 154) 162 dX12_primary_154 (by decide) (fun z => ?_) (fun z => ?_)
      · replace h := (if_pos z).symm.trans h
        exact c_X12_primary_162 S hS_0 hS_1 hS_2 hS_3 hS_4 hS_5 hsh _ _ _ _ h
      · replace h := (if_neg z).symm.trans h
        exact c_X12_primary_157 S hS_0 hS_1 hS_2 hS_3 hS_4 hS_5 hsh _ _ _ _ h
set_option maxRecDepth 100000 in
set_option maxHeartbeats 4000000 in
theorem c_X12_primary_114 {G : ah_G} {d : Nat} (S : Nat → Nat → ah_H → Option ah_H) (hS_0 : ∀ (x0 : Nat) (σ : ah_H) (r : ah_H), S 0 x0 σ = some r → AM G m_X12_expression (6 + d) 0 0 [.ref x0] σ (ah_rv r)) (hS_1 : ∀ (x0 : Nat) (σ : ah_H) (r : ah_H), S 1 x0 σ = some r → AM G m_X12_conjunction (6 + d) 0 0 [.ref x0] σ (ah_rv r)) (hS_2 : ∀ (x0 : Nat) (σ : ah_H) (r : ah_H), S 2 x0 σ = some r → AM G m_X12_negation (6 + d) 0 0 [.ref x0] σ (ah_rv r)) (hS_3 : ∀ (x0 : Nat) (σ : ah_H) (r : ah_H), S 3 x0 σ = some r → AM G m_X12_sum (6 + d) 0 0 [.ref x0] σ (ah_rv r)) (hS_4 : ∀ (x0 : Nat) (σ : ah_H) (r : ah_H), S 4 x0 σ = some r → AM G m_X12_product (6 + d) 0 0 [.ref x0] σ (ah_rv r)) (hS_5 : ∀ (x0 : Nat) (σ : ah_H) (r : ah_H), S 5 x0 σ = some r → AM G m_X12_primary (6 + d) 0 0 [.ref x0] σ (ah_rv r)) (hsh : ∀ w x0 (σ : ah_H) (r : ah_H), S w x0 σ = some r → (ah_S σ)[x0]? = some (.inr 12))  : ∀ (x0 : Nat) (s0 : Int32) (σ : ah_H) (r : ah_H), f_X12_primary_114 S  x0 s0 σ = some r → AW G m_X12_primary (6 + (d + 1)) 0 0 114 [(0, .ref x0)] [.int s0] σ (ah_N G (ah_rv r)) := by
  intro x0 s0 σ r h
  unfold f_X12_primary_114 at h
  refine aw_istore_n (pc := 114) [(1, .int s0), (0, .ref x0)] dX12_primary_114 rfl (by decide) rfl ?_
  refine aw_iload_n (pc := 115) 0 dX12_primary_115 rfl ?_
  refine aw_if_eq (pc := 116) 137 dX12_primary_116 (by decide) (fun z => ?_) (fun z => ?_)
  · replace h := (if_pos z).symm.trans h
    refine aw_sub [1, 0] rfl ?_
    exact c_X12_primary_137 S hS_0 hS_1 hS_2 hS_3 hS_4 hS_5 hsh _ _ _ _ h
  · replace h := (if_neg z).symm.trans h
    refine aw_aload_n (pc := 119) 1 dX12_primary_119 rfl ?_
    obtain ⟨v1, e, h⟩ := op_bd h
    refine ow_gI (pc := 120) e dX12_primary_120 fd_X12_182 rfl ?_
    refine aw_sipush (pc := 123) (v := (9999 : Int32)) dX12_primary_123 (by decide) ?_
    refine aw_icmp_le (pc := 126) 137 dX12_primary_126 (by decide) (fun z => ?_) (fun z => ?_)
    · replace h := (if_pos z).symm.trans h
      refine aw_sub [1, 0] rfl ?_
      exact c_X12_primary_137 S hS_0 hS_1 hS_2 hS_3 hS_4 hS_5 hsh _ _ _ _ h
    · replace h := (if_neg z).symm.trans h
      refine aw_aload_n (pc := 129) 1 dX12_primary_129 rfl ?_
      refine aw_iconst (pc := 130) (v := (2 : Int32)) dX12_primary_130 (by decide) ?_
      obtain ⟨r2, e, h⟩ := op_bd h
      refine ow_cVv (pc := 131) (dp := 6 + d) [.int (2 : Int32)] ((c_X12_wrong _ _ _ _ e).mono (by omega)) (op_ck_sh e) rfl dX12_primary_131 cw_X12_214 rfl (Nat.le_of_ble_eq_true rfl) ?_
      refine aw_goto (pc := 134) 162 dX12_primary_134 (by decide) ?_
      refine aw_sub [1, 0] rfl ?_
      exact c_X12_primary_162 S hS_0 hS_1 hS_2 hS_3 hS_4 hS_5 hsh _ _ _ _ h
set_option maxRecDepth 100000 in
set_option maxHeartbeats 4000000 in
theorem c_X12_primary_0 {G : ah_G} {d : Nat} (S : Nat → Nat → ah_H → Option ah_H) (hS_0 : ∀ (x0 : Nat) (σ : ah_H) (r : ah_H), S 0 x0 σ = some r → AM G m_X12_expression (6 + d) 0 0 [.ref x0] σ (ah_rv r)) (hS_1 : ∀ (x0 : Nat) (σ : ah_H) (r : ah_H), S 1 x0 σ = some r → AM G m_X12_conjunction (6 + d) 0 0 [.ref x0] σ (ah_rv r)) (hS_2 : ∀ (x0 : Nat) (σ : ah_H) (r : ah_H), S 2 x0 σ = some r → AM G m_X12_negation (6 + d) 0 0 [.ref x0] σ (ah_rv r)) (hS_3 : ∀ (x0 : Nat) (σ : ah_H) (r : ah_H), S 3 x0 σ = some r → AM G m_X12_sum (6 + d) 0 0 [.ref x0] σ (ah_rv r)) (hS_4 : ∀ (x0 : Nat) (σ : ah_H) (r : ah_H), S 4 x0 σ = some r → AM G m_X12_product (6 + d) 0 0 [.ref x0] σ (ah_rv r)) (hS_5 : ∀ (x0 : Nat) (σ : ah_H) (r : ah_H), S 5 x0 σ = some r → AM G m_X12_primary (6 + d) 0 0 [.ref x0] σ (ah_rv r)) (hsh : ∀ w x0 (σ : ah_H) (r : ah_H), S w x0 σ = some r → (ah_S σ)[x0]? = some (.inr 12))  : ∀ (x0 : Nat) (σ : ah_H) (r : ah_H), f_X12_primary_0 S  x0 σ = some r → AW G m_X12_primary (6 + (d + 1)) 0 0 0 [(0, .ref x0)] [] σ (ah_N G (ah_rv r)) := by
  intro x0 σ r h
  unfold f_X12_primary_0 at h
  refine aw_aload_n (pc := 0) 0 dX12_primary_0 rfl ?_
  obtain ⟨v1, e, h⟩ := op_bd h
  refine ow_gI (pc := 1) e dX12_primary_1 fd_X12_205 rfl ?_
  refine aw_if_eq (pc := 4) 8 dX12_primary_4 (by decide) (fun z => ?_) (fun z => ?_)
  · replace h := (if_pos z).symm.trans h
    refine aw_aload_n (pc := 8) 0 dX12_primary_8 rfl ?_
    refine aw_bipush (pc := 9) (v := (40 : Int32)) dX12_primary_9 (by decide) ?_
    obtain ⟨r2, e, h⟩ := op_bd h
    refine ow_cVi (pc := 11) (dp := 6 + d) [.int (40 : Int32)] ((c_X12_isSign _ _ _ _ e).mono (by omega)) (op_ck_sh e) rfl dX12_primary_11 cw_X12_263 rfl (Nat.le_of_ble_eq_true rfl) ?_
    refine aw_if_eq (pc := 14) 101 dX12_primary_14 (by decide) (fun z => ?_) (fun z => ?_)
    · replace h := (if_pos z).symm.trans h
      refine aw_aload_n (pc := 101) 0 dX12_primary_101 rfl ?_
      obtain ⟨v3, e, h⟩ := op_bd h
      refine ow_gI (pc := 102) e dX12_primary_102 fd_X12_172 rfl ?_
      refine aw_iconst (pc := 105) (v := (2 : Int32)) dX12_primary_105 (by decide) ?_
      refine aw_icmp_ne (pc := 106) 113 dX12_primary_106 (by decide) (fun z => ?_) (fun z => ?_)
      · replace h := (if_neg z).symm.trans h
        refine aw_iconst (pc := 113) (v := (0 : Int32)) dX12_primary_113 (by decide) ?_
        exact c_X12_primary_114 S hS_0 hS_1 hS_2 hS_3 hS_4 hS_5 hsh _ _ _ _ h
      · replace h := (if_pos z).symm.trans h
        refine aw_iconst (pc := 109) (v := (1 : Int32)) dX12_primary_109 (by decide) ?_
        refine aw_goto (pc := 110) 114 dX12_primary_110 (by decide) ?_
        exact c_X12_primary_114 S hS_0 hS_1 hS_2 hS_3 hS_4 hS_5 hsh _ _ _ _ h
    · replace h := (if_neg z).symm.trans h
      refine aw_aload_n (pc := 17) 0 dX12_primary_17 rfl ?_
      obtain ⟨v4, e, h⟩ := op_bd h
      refine ow_gI (pc := 18) e dX12_primary_18 fd_X12_307 rfl ?_
      refine aw_bipush (pc := 21) (v := (8 : Int32)) dX12_primary_21 (by decide) ?_
      refine aw_icmp_ne (pc := 23) 31 dX12_primary_23 (by decide) (fun z => ?_) (fun z => ?_)
      · replace h := (if_neg z).symm.trans h
        exact c_X12_primary_31 S hS_0 hS_1 hS_2 hS_3 hS_4 hS_5 hsh _ _ _ h
      · replace h := (if_pos z).symm.trans h
        refine aw_aload_n (pc := 26) 0 dX12_primary_26 rfl ?_
        refine aw_iconst (pc := 27) (v := (2 : Int32)) dX12_primary_27 (by decide) ?_
        obtain ⟨r5, e, h⟩ := op_bd h
        refine ow_cVv (pc := 28) (dp := 6 + d) [.int (2 : Int32)] ((c_X12_wrong _ _ _ _ e).mono (by omega)) (op_ck_sh e) rfl dX12_primary_28 cw_X12_214 rfl (Nat.le_of_ble_eq_true rfl) ?_
        exact c_X12_primary_31 S hS_0 hS_1 hS_2 hS_3 hS_4 hS_5 hsh _ _ _ h
  · replace h := (if_neg z).symm.trans h
    exact ow_vret (pc := 7) h dX12_primary_7 rfl
theorem cb_X12_primary {G : ah_G} {d : Nat} (S : Nat → Nat → ah_H → Option ah_H) (hS_0 : ∀ (x0 : Nat) (σ : ah_H) (r : ah_H), S 0 x0 σ = some r → AM G m_X12_expression (6 + d) 0 0 [.ref x0] σ (ah_rv r)) (hS_1 : ∀ (x0 : Nat) (σ : ah_H) (r : ah_H), S 1 x0 σ = some r → AM G m_X12_conjunction (6 + d) 0 0 [.ref x0] σ (ah_rv r)) (hS_2 : ∀ (x0 : Nat) (σ : ah_H) (r : ah_H), S 2 x0 σ = some r → AM G m_X12_negation (6 + d) 0 0 [.ref x0] σ (ah_rv r)) (hS_3 : ∀ (x0 : Nat) (σ : ah_H) (r : ah_H), S 3 x0 σ = some r → AM G m_X12_sum (6 + d) 0 0 [.ref x0] σ (ah_rv r)) (hS_4 : ∀ (x0 : Nat) (σ : ah_H) (r : ah_H), S 4 x0 σ = some r → AM G m_X12_product (6 + d) 0 0 [.ref x0] σ (ah_rv r)) (hS_5 : ∀ (x0 : Nat) (σ : ah_H) (r : ah_H), S 5 x0 σ = some r → AM G m_X12_primary (6 + d) 0 0 [.ref x0] σ (ah_rv r)) (hsh : ∀ w x0 (σ : ah_H) (r : ah_H), S w x0 σ = some r → (ah_S σ)[x0]? = some (.inr 12)) (x0 : Nat) (σ : ah_H) (r : ah_H) (h : b_X12_primary S x0 σ = some r) : AM G m_X12_primary (6 + (d + 1)) 0 0 [.ref x0] σ (ah_rv r) := aw_enter (by decide) (Nat.le_of_ble_eq_true rfl) (c_X12_primary_0 S hS_0 hS_1 hS_2 hS_3 hS_4 hS_5 hsh _ _ _ (op_ck_k h))
theorem f_ex_sh : ∀ (d w x0 : Nat) (σ r : ah_H), f_ex d w x0 σ = some r → (ah_S σ)[x0]? = some (.inr 12) := by
  intro d w x0 σ r h
  cases d with
  | zero => cases h
  | succ d =>
    unfold f_ex at h
    split at h
    · exact op_ck_sh h
    split at h
    · exact op_ck_sh h
    split at h
    · exact op_ck_sh h
    split at h
    · exact op_ck_sh h
    split at h
    · exact op_ck_sh h
    · exact op_ck_sh h
theorem c_ex {G : ah_G} : ∀ d : Nat, (∀ (x0 : Nat) (σ r : ah_H), f_ex d 0 x0 σ = some r → AM G m_X12_expression (6 + d) 0 0 [.ref x0] σ (ah_rv r)) ∧ (∀ (x0 : Nat) (σ r : ah_H), f_ex d 1 x0 σ = some r → AM G m_X12_conjunction (6 + d) 0 0 [.ref x0] σ (ah_rv r)) ∧ (∀ (x0 : Nat) (σ r : ah_H), f_ex d 2 x0 σ = some r → AM G m_X12_negation (6 + d) 0 0 [.ref x0] σ (ah_rv r)) ∧ (∀ (x0 : Nat) (σ r : ah_H), f_ex d 3 x0 σ = some r → AM G m_X12_sum (6 + d) 0 0 [.ref x0] σ (ah_rv r)) ∧ (∀ (x0 : Nat) (σ r : ah_H), f_ex d 4 x0 σ = some r → AM G m_X12_product (6 + d) 0 0 [.ref x0] σ (ah_rv r)) ∧ (∀ (x0 : Nat) (σ r : ah_H), f_ex d 5 x0 σ = some r → AM G m_X12_primary (6 + d) 0 0 [.ref x0] σ (ah_rv r)) := by
  intro d
  induction d with
  | zero => exact ⟨(fun x0 σ r h => by cases h), (fun x0 σ r h => by cases h), (fun x0 σ r h => by cases h), (fun x0 σ r h => by cases h), (fun x0 σ r h => by cases h), (fun x0 σ r h => by cases h)⟩
  | succ d ih =>
    obtain ⟨h0, h1, h2, h3, h4, h5⟩ := ih
    exact ⟨(fun x0 σ r h => cb_X12_expression _ h0 h1 h2 h3 h4 h5 (f_ex_sh d) x0 σ r h), (fun x0 σ r h => cb_X12_conjunction _ h0 h1 h2 h3 h4 h5 (f_ex_sh d) x0 σ r h), (fun x0 σ r h => cb_X12_negation _ h0 h1 h2 h3 h4 h5 (f_ex_sh d) x0 σ r h), (fun x0 σ r h => cb_X12_sum _ h0 h1 h2 h3 h4 h5 (f_ex_sh d) x0 σ r h), (fun x0 σ r h => cb_X12_product _ h0 h1 h2 h3 h4 h5 (f_ex_sh d) x0 σ r h), (fun x0 σ r h => cb_X12_primary _ h0 h1 h2 h3 h4 h5 (f_ex_sh d) x0 σ r h)⟩
theorem c_X12_expression {G : ah_G} (x0 : Nat) (σ r : ah_H) (h : f_X12_expression x0 σ = some r) : AM G m_X12_expression 206 0 0 [.ref x0] σ (ah_rv r) := (c_ex 200).1 x0 σ r (op_ck_k h)
theorem c_X12_conjunction {G : ah_G} (x0 : Nat) (σ r : ah_H) (h : f_X12_conjunction x0 σ = some r) : AM G m_X12_conjunction 206 0 0 [.ref x0] σ (ah_rv r) := (c_ex 200).2.1 x0 σ r (op_ck_k h)
theorem c_X12_negation {G : ah_G} (x0 : Nat) (σ r : ah_H) (h : f_X12_negation x0 σ = some r) : AM G m_X12_negation 206 0 0 [.ref x0] σ (ah_rv r) := (c_ex 200).2.2.1 x0 σ r (op_ck_k h)
theorem c_X12_sum {G : ah_G} (x0 : Nat) (σ r : ah_H) (h : f_X12_sum x0 σ = some r) : AM G m_X12_sum 206 0 0 [.ref x0] σ (ah_rv r) := (c_ex 200).2.2.2.1 x0 σ r (op_ck_k h)
theorem c_X12_product {G : ah_G} (x0 : Nat) (σ r : ah_H) (h : f_X12_product x0 σ = some r) : AM G m_X12_product 206 0 0 [.ref x0] σ (ah_rv r) := (c_ex 200).2.2.2.2.1 x0 σ r (op_ck_k h)
theorem c_X12_primary {G : ah_G} (x0 : Nat) (σ r : ah_H) (h : f_X12_primary x0 σ = some r) : AM G m_X12_primary 206 0 0 [.ref x0] σ (ah_rv r) := (c_ex 200).2.2.2.2.2 x0 σ r (op_ck_k h)
def f_X12_lawLine_65   (x0 : Nat) (x1 : Int32) (σ : ah_H) : Option (ah_H) :=
  (op_gI 12 29 σ x0).bind fun v1 => if v1 = 0 then ((op_gI 12 22 σ x0).bind fun v2 => (op_pI 12 22 σ x0 (v2 ||| ((1 : Int32) <<< (((16 : Int32) + x1) &&& 31)))).bind fun σ3 => (f_X12_token x0 σ3).bind fun r4 => (op_gR 12 18 r4 x0).bind fun v5 => (f_X12_fresher x0 (11 : Int32) r4).bind fun r6 => (op_sI r6.2 v5 ((3 : Int32) + x1) r6.1).bind fun σ7 => (f_X12_expression x0 σ7).bind fun r8 => (op_gR 12 19 r8 x0).bind fun v9 => (f_X12_fresher x0 (11 : Int32) r8).bind fun r10 => (op_sI r10.2 v9 ((3 : Int32) + x1) r10.1).bind fun σ11 => some σ11) else (some σ)
def f_X12_lawLine_30   (x0 : Nat) (σ : ah_H) : Option (ah_H) :=
  (op_gI 12 28 σ x0).bind fun v1 => (op_gI 12 29 σ x0).bind fun v2 => if v2 = 0 then ((op_gI 12 22 σ x0).bind fun v3 => if ((v3 >>> (((16 : Int32) + (v1 - (12 : Int32))) &&& 31)) &&& (1 : Int32)) = (1 : Int32) then ((f_X12_wrong x0 (3 : Int32) σ).bind fun r4 => f_X12_lawLine_65 x0 (v1 - (12 : Int32)) r4) else (f_X12_lawLine_65 x0 (v1 - (12 : Int32)) σ)) else (f_X12_lawLine_65 x0 (v1 - (12 : Int32)) σ)
def f_X12_lawLine_25   (x0 : Nat) (σ : ah_H) : Option (ah_H) :=
  (f_X12_wrong x0 (1 : Int32) σ).bind fun r1 => f_X12_lawLine_30 x0 r1
def f_X12_lawLine_0   (x0 : Nat) (σ : ah_H) : Option (ah_H) :=
  (op_gI 12 27 σ x0).bind fun v1 => if v1 = 0 then ((op_gI 12 28 σ x0).bind fun v2 => if v2 < (12 : Int32) then (f_X12_lawLine_25 x0 σ) else ((op_gI 12 28 σ x0).bind fun v3 => if v3 ≤ (14 : Int32) then (f_X12_lawLine_30 x0 σ) else (f_X12_lawLine_25 x0 σ))) else (f_X12_lawLine_25 x0 σ)
def f_X12_lawLine  (x0 : Nat) (σ : ah_H) : Option (ah_H) := op_ck 12 σ x0 (f_X12_lawLine_0 x0 σ)
set_option maxRecDepth 100000 in
set_option maxHeartbeats 4000000 in
theorem c_X12_lawLine_65 {G : ah_G}   : ∀ (x0 : Nat) (x1 : Int32) (σ : ah_H) (r : ah_H), f_X12_lawLine_65   x0 x1 σ = some r → AW G m_X12_lawLine 207 0 0 65 [(0, .ref x0), (1, .int x1)] [] σ (ah_N G (ah_rv r)) := by
  intro x0 x1 σ r h
  unfold f_X12_lawLine_65 at h
  refine aw_aload_n (pc := 65) 0 dX12_lawLine_65 rfl ?_
  obtain ⟨v1, e, h⟩ := op_bd h
  refine ow_gI (pc := 66) e dX12_lawLine_66 fd_X12_205 rfl ?_
  refine aw_if_eq (pc := 69) 73 dX12_lawLine_69 (by decide) (fun z => ?_) (fun z => ?_)
  · replace h := (if_pos z).symm.trans h
    refine aw_aload_n (pc := 73) 0 dX12_lawLine_73 rfl ?_
    refine aw_dup (pc := 74) dX12_lawLine_74 rfl ?_
    obtain ⟨v2, e, h⟩ := op_bd h
    refine ow_gI (pc := 75) e dX12_lawLine_75 fd_X12_231 rfl ?_
    refine aw_iconst (pc := 78) (v := (1 : Int32)) dX12_lawLine_78 (by decide) ?_
    refine aw_bipush (pc := 79) (v := (16 : Int32)) dX12_lawLine_79 (by decide) ?_
    refine aw_iload_n (pc := 81) 1 dX12_lawLine_81 rfl ?_
    refine aw_iadd (pc := 82) dX12_lawLine_82 ?_
    refine aw_ishl (pc := 83) dX12_lawLine_83 ?_
    refine aw_ior (pc := 84) dX12_lawLine_84 ?_
    obtain ⟨σ3, e, h⟩ := op_bd h
    refine ow_pI (pc := 85) e dX12_lawLine_85 fd_X12_231 ?_
    refine aw_aload_n (pc := 88) 0 dX12_lawLine_88 rfl ?_
    obtain ⟨r4, e, h⟩ := op_bd h
    refine ow_cVv (pc := 89) [] ((c_X12_token _ _ _ e).mono (by decide)) (op_ck_sh e) rfl dX12_lawLine_89 cw_X12_211 rfl (Nat.le_of_ble_eq_true rfl) ?_
    refine aw_aload_n (pc := 92) 0 dX12_lawLine_92 rfl ?_
    obtain ⟨v5, e, h⟩ := op_bd h
    refine ow_gR (pc := 93) e dX12_lawLine_93 fd_X12_60 rfl ?_
    refine aw_iconst (pc := 96) (v := (3 : Int32)) dX12_lawLine_96 (by decide) ?_
    refine aw_iload_n (pc := 97) 1 dX12_lawLine_97 rfl ?_
    refine aw_iadd (pc := 98) dX12_lawLine_98 ?_
    refine aw_aload_n (pc := 99) 0 dX12_lawLine_99 rfl ?_
    refine aw_bipush (pc := 100) (v := (11 : Int32)) dX12_lawLine_100 (by decide) ?_
    obtain ⟨r6, e, h⟩ := op_bd h
    refine ow_cVi (pc := 102) [.int (11 : Int32)] ((c_X12_fresher _ _ _ _ e).mono (by decide)) (op_ck_sh e) rfl dX12_lawLine_102 cw_X12_221 rfl (Nat.le_of_ble_eq_true rfl) ?_
    obtain ⟨σ7, e, h⟩ := op_bd h
    refine ow_sI (pc := 105) e dX12_lawLine_105 ?_
    refine aw_aload_n (pc := 106) 0 dX12_lawLine_106 rfl ?_
    obtain ⟨r8, e, h⟩ := op_bd h
    refine ow_cVv (pc := 107) [] ((c_X12_expression _ _ _ e).mono (by decide)) (op_ck_sh e) rfl dX12_lawLine_107 cw_X12_280 rfl (Nat.le_of_ble_eq_true rfl) ?_
    refine aw_aload_n (pc := 110) 0 dX12_lawLine_110 rfl ?_
    obtain ⟨v9, e, h⟩ := op_bd h
    refine ow_gR (pc := 111) e dX12_lawLine_111 fd_X12_63 rfl ?_
    refine aw_iconst (pc := 114) (v := (3 : Int32)) dX12_lawLine_114 (by decide) ?_
    refine aw_iload_n (pc := 115) 1 dX12_lawLine_115 rfl ?_
    refine aw_iadd (pc := 116) dX12_lawLine_116 ?_
    refine aw_aload_n (pc := 117) 0 dX12_lawLine_117 rfl ?_
    refine aw_bipush (pc := 118) (v := (11 : Int32)) dX12_lawLine_118 (by decide) ?_
    obtain ⟨r10, e, h⟩ := op_bd h
    refine ow_cVi (pc := 120) [.int (11 : Int32)] ((c_X12_fresher _ _ _ _ e).mono (by decide)) (op_ck_sh e) rfl dX12_lawLine_120 cw_X12_221 rfl (Nat.le_of_ble_eq_true rfl) ?_
    obtain ⟨σ11, e, h⟩ := op_bd h
    refine ow_sI (pc := 123) e dX12_lawLine_123 ?_
    exact ow_vret (pc := 124) h dX12_lawLine_124 rfl
  · replace h := (if_neg z).symm.trans h
    exact ow_vret (pc := 72) h dX12_lawLine_72 rfl
set_option maxRecDepth 100000 in
set_option maxHeartbeats 4000000 in
theorem c_X12_lawLine_30 {G : ah_G}   : ∀ (x0 : Nat) (σ : ah_H) (r : ah_H), f_X12_lawLine_30   x0 σ = some r → AW G m_X12_lawLine 207 0 0 30 [(0, .ref x0)] [] σ (ah_N G (ah_rv r)) := by
  intro x0 σ r h
  unfold f_X12_lawLine_30 at h
  refine aw_aload_n (pc := 30) 0 dX12_lawLine_30 rfl ?_
  obtain ⟨v1, e, h⟩ := op_bd h
  refine ow_gI (pc := 31) e dX12_lawLine_31 fd_X12_182 rfl ?_
  refine aw_bipush (pc := 34) (v := (12 : Int32)) dX12_lawLine_34 (by decide) ?_
  refine aw_isub (pc := 36) dX12_lawLine_36 ?_
  refine aw_istore_n (pc := 37) [(1, .int (v1 - (12 : Int32))), (0, .ref x0)] dX12_lawLine_37 rfl (by decide) rfl ?_
  refine aw_aload_n (pc := 38) 1 dX12_lawLine_38 rfl ?_
  obtain ⟨v2, e, h⟩ := op_bd h
  refine ow_gI (pc := 39) e dX12_lawLine_39 fd_X12_205 rfl ?_
  refine aw_if_ne (pc := 42) 65 dX12_lawLine_42 (by decide) (fun z => ?_) (fun z => ?_)
  · replace h := (if_neg z).symm.trans h
    refine aw_sub [1, 0] rfl ?_
    exact c_X12_lawLine_65  _ _ _ _ h
  · replace h := (if_pos z).symm.trans h
    refine aw_aload_n (pc := 45) 1 dX12_lawLine_45 rfl ?_
    obtain ⟨v3, e, h⟩ := op_bd h
    refine ow_gI (pc := 46) e dX12_lawLine_46 fd_X12_231 rfl ?_
    refine aw_bipush (pc := 49) (v := (16 : Int32)) dX12_lawLine_49 (by decide) ?_
    refine aw_iload_n (pc := 51) 0 dX12_lawLine_51 rfl ?_
    refine aw_iadd (pc := 52) dX12_lawLine_52 ?_
    refine aw_ishr (pc := 53) dX12_lawLine_53 ?_
    refine aw_iconst (pc := 54) (v := (1 : Int32)) dX12_lawLine_54 (by decide) ?_
    refine aw_iand (pc := 55) dX12_lawLine_55 ?_
    refine aw_iconst (pc := 56) (v := (1 : Int32)) dX12_lawLine_56 (by decide) ?_
    refine aw_icmp_ne (pc := 57) 65 dX12_lawLine_57 (by decide) (fun z => ?_) (fun z => ?_)
    · replace h := (if_neg z).symm.trans h
      refine aw_sub [1, 0] rfl ?_
      exact c_X12_lawLine_65  _ _ _ _ h
    · replace h := (if_pos z).symm.trans h
      refine aw_aload_n (pc := 60) 1 dX12_lawLine_60 rfl ?_
      refine aw_iconst (pc := 61) (v := (3 : Int32)) dX12_lawLine_61 (by decide) ?_
      obtain ⟨r4, e, h⟩ := op_bd h
      refine ow_cVv (pc := 62) [.int (3 : Int32)] ((c_X12_wrong _ _ _ _ e).mono (by decide)) (op_ck_sh e) rfl dX12_lawLine_62 cw_X12_214 rfl (Nat.le_of_ble_eq_true rfl) ?_
      refine aw_sub [1, 0] rfl ?_
      exact c_X12_lawLine_65  _ _ _ _ h
set_option maxRecDepth 100000 in
set_option maxHeartbeats 4000000 in
theorem c_X12_lawLine_25 {G : ah_G}   : ∀ (x0 : Nat) (σ : ah_H) (r : ah_H), f_X12_lawLine_25   x0 σ = some r → AW G m_X12_lawLine 207 0 0 25 [(0, .ref x0)] [] σ (ah_N G (ah_rv r)) := by
  intro x0 σ r h
  unfold f_X12_lawLine_25 at h
  refine aw_aload_n (pc := 25) 0 dX12_lawLine_25 rfl ?_
  refine aw_iconst (pc := 26) (v := (1 : Int32)) dX12_lawLine_26 (by decide) ?_
  obtain ⟨r1, e, h⟩ := op_bd h
  refine ow_cVv (pc := 27) [.int (1 : Int32)] ((c_X12_wrong _ _ _ _ e).mono (by decide)) (op_ck_sh e) rfl dX12_lawLine_27 cw_X12_214 rfl (Nat.le_of_ble_eq_true rfl) ?_
  exact c_X12_lawLine_30  _ _ _ h
set_option maxRecDepth 100000 in
set_option maxHeartbeats 4000000 in
theorem c_X12_lawLine_0 {G : ah_G}   : ∀ (x0 : Nat) (σ : ah_H) (r : ah_H), f_X12_lawLine_0   x0 σ = some r → AW G m_X12_lawLine 207 0 0 0 [(0, .ref x0)] [] σ (ah_N G (ah_rv r)) := by
  intro x0 σ r h
  unfold f_X12_lawLine_0 at h
  refine aw_aload_n (pc := 0) 0 dX12_lawLine_0 rfl ?_
  obtain ⟨v1, e, h⟩ := op_bd h
  refine ow_gI (pc := 1) e dX12_lawLine_1 fd_X12_172 rfl ?_
  refine aw_if_ne (pc := 4) 25 dX12_lawLine_4 (by decide) (fun z => ?_) (fun z => ?_)
  · replace h := (if_neg z).symm.trans h
    exact c_X12_lawLine_25  _ _ _ h
  · replace h := (if_pos z).symm.trans h
    refine aw_aload_n (pc := 7) 0 dX12_lawLine_7 rfl ?_
    obtain ⟨v2, e, h⟩ := op_bd h
    refine ow_gI (pc := 8) e dX12_lawLine_8 fd_X12_182 rfl ?_
    refine aw_bipush (pc := 11) (v := (12 : Int32)) dX12_lawLine_11 (by decide) ?_
    refine aw_icmp_lt (pc := 13) 25 dX12_lawLine_13 (by decide) (fun z => ?_) (fun z => ?_)
    · replace h := (if_pos z).symm.trans h
      exact c_X12_lawLine_25  _ _ _ h
    · replace h := (if_neg z).symm.trans h
      refine aw_aload_n (pc := 16) 0 dX12_lawLine_16 rfl ?_
      obtain ⟨v3, e, h⟩ := op_bd h
      refine ow_gI (pc := 17) e dX12_lawLine_17 fd_X12_182 rfl ?_
      refine aw_bipush (pc := 20) (v := (14 : Int32)) dX12_lawLine_20 (by decide) ?_
      refine aw_icmp_le (pc := 22) 30 dX12_lawLine_22 (by decide) (fun z => ?_) (fun z => ?_)
      · replace h := (if_pos z).symm.trans h
        exact c_X12_lawLine_30  _ _ _ h
      · replace h := (if_neg z).symm.trans h
        exact c_X12_lawLine_25  _ _ _ h
theorem c_X12_lawLine {G : ah_G}   (x0 : Nat) (σ : ah_H) (r : ah_H) (h : f_X12_lawLine  x0 σ = some r) : AM G m_X12_lawLine 207 0 0 [.ref x0] σ (ah_rv r) := aw_enter (by decide) (Nat.le_of_ble_eq_true rfl) (c_X12_lawLine_0 _ _ _ (op_ck_k h))
def f_X12_pipeLine_28   (x0 : Nat) (x1 : Int32) (s0 : Nat) (s1 : Int32) (s2 : Nat) (s3 : Int32) (σ : ah_H) : Option (ah_H) :=
  (f_X12_numeral s2 s3 (99 : Int32) σ).bind fun r1 => (op_sI r1.2 s0 s1 r1.1).bind fun σ2 => (op_gR 12 14 σ2 x0).bind fun v3 => (f_X12_numeral x0 (0 : Int32) (99 : Int32) σ2).bind fun r4 => (op_sI r4.2 v3 x1 r4.1).bind fun σ5 => (f_X12_fresher x0 (2 : Int32) σ5).bind fun r6 => (f_X12_reads x0 (2 : Int32) (r6.1 + (1 : Int32)) r6.2).bind fun r7 => some r7
def f_X12_pipeLine_0   (x0 : Nat) (x1 : Int32) (σ : ah_H) : Option (ah_H) :=
  (op_gR 12 13 σ x0).bind fun v1 => (f_X12_fresher x0 (2 : Int32) σ).bind fun r2 => if r2.1 = 0 then (f_X12_pipeLine_28 x0 x1 v1 x1 x0 (1 : Int32) r2.2) else ((op_gR 12 13 r2.2 x0).bind fun v3 => (op_aI r2.2 v3 (x1 - (1 : Int32))).bind fun v4 => f_X12_pipeLine_28 x0 x1 v1 x1 x0 (v4 + (1 : Int32)) r2.2)
def f_X12_pipeLine  (x0 : Nat) (x1 : Int32) (σ : ah_H) : Option (ah_H) := op_ck 12 σ x0 (f_X12_pipeLine_0 x0 x1 σ)
set_option maxRecDepth 100000 in
set_option maxHeartbeats 4000000 in
theorem c_X12_pipeLine_28 {G : ah_G}   : ∀ (x0 : Nat) (x1 : Int32) (s0 : Nat) (s1 : Int32) (s2 : Nat) (s3 : Int32) (σ : ah_H) (r : ah_H), f_X12_pipeLine_28   x0 x1 s0 s1 s2 s3 σ = some r → AW G m_X12_pipeLine 7 0 0 28 [(0, .ref x0), (1, .int x1)] [.int s3, .ref s2, .int s1, .ref s0] σ (ah_N G (ah_rv r)) := by
  intro x0 x1 s0 s1 s2 s3 σ r h
  unfold f_X12_pipeLine_28 at h
  refine aw_bipush (pc := 28) (v := (99 : Int32)) dX12_pipeLine_28 (by decide) ?_
  obtain ⟨r1, e, h⟩ := op_bd h
  refine ow_cVi (pc := 30) [.int s3, .int (99 : Int32)] ((c_X12_numeral _ _ _ _ _ e).mono (by decide)) (op_ck_sh e) rfl dX12_pipeLine_30 cw_X12_247 rfl (Nat.le_of_ble_eq_true rfl) ?_
  obtain ⟨σ2, e, h⟩ := op_bd h
  refine ow_sI (pc := 33) e dX12_pipeLine_33 ?_
  refine aw_aload_n (pc := 34) 0 dX12_pipeLine_34 rfl ?_
  obtain ⟨v3, e, h⟩ := op_bd h
  refine ow_gR (pc := 35) e dX12_pipeLine_35 fd_X12_48 rfl ?_
  refine aw_iload_n (pc := 38) 1 dX12_pipeLine_38 rfl ?_
  refine aw_aload_n (pc := 39) 0 dX12_pipeLine_39 rfl ?_
  refine aw_iconst (pc := 40) (v := (0 : Int32)) dX12_pipeLine_40 (by decide) ?_
  refine aw_bipush (pc := 41) (v := (99 : Int32)) dX12_pipeLine_41 (by decide) ?_
  obtain ⟨r4, e, h⟩ := op_bd h
  refine ow_cVi (pc := 43) [.int (0 : Int32), .int (99 : Int32)] ((c_X12_numeral _ _ _ _ _ e).mono (by decide)) (op_ck_sh e) rfl dX12_pipeLine_43 cw_X12_247 rfl (Nat.le_of_ble_eq_true rfl) ?_
  obtain ⟨σ5, e, h⟩ := op_bd h
  refine ow_sI (pc := 46) e dX12_pipeLine_46 ?_
  refine aw_aload_n (pc := 47) 0 dX12_pipeLine_47 rfl ?_
  refine aw_iconst (pc := 48) (v := (2 : Int32)) dX12_pipeLine_48 (by decide) ?_
  refine aw_aload_n (pc := 49) 0 dX12_pipeLine_49 rfl ?_
  refine aw_iconst (pc := 50) (v := (2 : Int32)) dX12_pipeLine_50 (by decide) ?_
  obtain ⟨r6, e, h⟩ := op_bd h
  refine ow_cVi (pc := 51) [.int (2 : Int32)] ((c_X12_fresher _ _ _ _ e).mono (by decide)) (op_ck_sh e) rfl dX12_pipeLine_51 cw_X12_221 rfl (Nat.le_of_ble_eq_true rfl) ?_
  refine aw_iconst (pc := 54) (v := (1 : Int32)) dX12_pipeLine_54 (by decide) ?_
  refine aw_iadd (pc := 55) dX12_pipeLine_55 ?_
  obtain ⟨r7, e, h⟩ := op_bd h
  refine ow_cVv (pc := 56) [.int (2 : Int32), .int (r6.1 + (1 : Int32))] ((c_X12_reads _ _ _ _ _ e).mono (by decide)) (op_ck_sh e) rfl dX12_pipeLine_56 cw_X12_240 rfl (Nat.le_of_ble_eq_true rfl) ?_
  exact ow_vret (pc := 59) h dX12_pipeLine_59 rfl
set_option maxRecDepth 100000 in
set_option maxHeartbeats 4000000 in
theorem c_X12_pipeLine_0 {G : ah_G}   : ∀ (x0 : Nat) (x1 : Int32) (σ : ah_H) (r : ah_H), f_X12_pipeLine_0   x0 x1 σ = some r → AW G m_X12_pipeLine 7 0 0 0 [(0, .ref x0), (1, .int x1)] [] σ (ah_N G (ah_rv r)) := by
  intro x0 x1 σ r h
  unfold f_X12_pipeLine_0 at h
  refine aw_aload_n (pc := 0) 0 dX12_pipeLine_0 rfl ?_
  obtain ⟨v1, e, h⟩ := op_bd h
  refine ow_gR (pc := 1) e dX12_pipeLine_1 fd_X12_45 rfl ?_
  refine aw_iload_n (pc := 4) 1 dX12_pipeLine_4 rfl ?_
  refine aw_aload_n (pc := 5) 0 dX12_pipeLine_5 rfl ?_
  refine aw_aload_n (pc := 6) 0 dX12_pipeLine_6 rfl ?_
  refine aw_iconst (pc := 7) (v := (2 : Int32)) dX12_pipeLine_7 (by decide) ?_
  obtain ⟨r2, e, h⟩ := op_bd h
  refine ow_cVi (pc := 8) [.int (2 : Int32)] ((c_X12_fresher _ _ _ _ e).mono (by decide)) (op_ck_sh e) rfl dX12_pipeLine_8 cw_X12_221 rfl (Nat.le_of_ble_eq_true rfl) ?_
  refine aw_if_ne (pc := 11) 18 dX12_pipeLine_11 (by decide) (fun z => ?_) (fun z => ?_)
  · replace h := (if_neg z).symm.trans h
    refine aw_aload_n (pc := 18) 0 dX12_pipeLine_18 rfl ?_
    obtain ⟨v3, e, h⟩ := op_bd h
    refine ow_gR (pc := 19) e dX12_pipeLine_19 fd_X12_45 rfl ?_
    refine aw_iload_n (pc := 22) 1 dX12_pipeLine_22 rfl ?_
    refine aw_iconst (pc := 23) (v := (1 : Int32)) dX12_pipeLine_23 (by decide) ?_
    refine aw_isub (pc := 24) dX12_pipeLine_24 ?_
    obtain ⟨v4, e, h⟩ := op_bd h
    refine ow_aI (pc := 25) e dX12_pipeLine_25 ?_
    refine aw_iconst (pc := 26) (v := (1 : Int32)) dX12_pipeLine_26 (by decide) ?_
    refine aw_iadd (pc := 27) dX12_pipeLine_27 ?_
    exact c_X12_pipeLine_28  _ _ _ _ _ _ _ _ h
  · replace h := (if_pos z).symm.trans h
    refine aw_iconst (pc := 14) (v := (1 : Int32)) dX12_pipeLine_14 (by decide) ?_
    refine aw_goto (pc := 15) 28 dX12_pipeLine_15 (by decide) ?_
    exact c_X12_pipeLine_28  _ _ _ _ _ _ _ _ h
theorem c_X12_pipeLine {G : ah_G}   (x0 : Nat) (x1 : Int32) (σ : ah_H) (r : ah_H) (h : f_X12_pipeLine  x0 x1 σ = some r) : AM G m_X12_pipeLine 7 0 0 [.ref x0, .int x1] σ (ah_rv r) := aw_enter (by decide) (Nat.le_of_ble_eq_true rfl) (c_X12_pipeLine_0 _ _ _ _ (op_ck_k h))
def f_X12_rainLine_109   (x0 : Nat) (σ : ah_H) : Option (ah_H) :=
  (f_X12_fresher x0 (3 : Int32) σ).bind fun r1 => (f_X12_reads x0 (3 : Int32) (r1.1 + (1 : Int32)) r1.2).bind fun r2 => some r2
def f_X12_rainLine_58  (K27 : Nat → Int32 → ah_H → Option (ah_H)) (x0 : Nat) (x1 : Int32) (σ : ah_H) : Option (ah_H) :=
  (f_X12_numeral x0 (0 : Int32) (99 : Int32) σ).bind fun r1 => (op_gI 12 29 r1.2 x0).bind fun v2 => if v2 = 0 then ((op_gR 12 17 r1.2 x0).bind fun v3 => (op_gR 12 16 r1.2 x0).bind fun v4 => (op_aI r1.2 v4 x1).bind fun v5 => (op_sI r1.2 v3 (((6 : Int32) * x1) + v5) r1.1).bind fun σ6 => (op_gR 12 16 σ6 x0).bind fun v7 => (op_aI σ6 v7 x1).bind fun v8 => (op_sI σ6 v7 x1 (v8 + (1 : Int32))).bind fun σ9 => (op_gI 12 27 σ9 x0).bind fun v10 => if v10 = (2 : Int32) then (K27 x0 x1 σ9) else (f_X12_rainLine_109 x0 σ9)) else (some r1.2)
def f_X12_rainLine_27_b  (K27 : Nat → Int32 → ah_H → Option (ah_H)) (x0 : Nat) (x1 : Int32) (σ : ah_H) : Option (ah_H) :=
  (op_gI 12 29 σ x0).bind fun v1 => if v1 = 0 then ((op_gI 12 27 σ x0).bind fun v2 => if v2 = (2 : Int32) then ((op_gR 12 16 σ x0).bind fun v3 => (op_aI σ v3 x1).bind fun v4 => if v4 = (6 : Int32) then ((f_X12_wrong x0 (2 : Int32) σ).bind fun r5 => f_X12_rainLine_58 K27 x0 x1 r5) else (f_X12_rainLine_58 K27 x0 x1 σ)) else (f_X12_rainLine_58 K27 x0 x1 σ)) else (f_X12_rainLine_58 K27 x0 x1 σ)
def f_X12_rainLine_27   : Nat → Nat → Int32 → ah_H → Option (ah_H)
  | 0, _, _, _ => none
  | n + 1, x0, x1, σ => f_X12_rainLine_27_b (f_X12_rainLine_27 n) x0 x1 σ
def f_X12_rainLine_0   (x0 : Nat) (x1 : Int32) (σ : ah_H) : Option (ah_H) :=
  (op_gR 12 15 σ x0).bind fun v1 => (op_gR 12 15 σ x0).bind fun v2 => (f_X12_fresher x0 (3 : Int32) σ).bind fun r3 => (f_X12_fresh x0 v2 (4 : Int32) r3.1 r3.2).bind fun r4 => (op_sI r4.2 v1 x1 r4.1).bind fun σ5 => (op_gR 12 16 σ5 x0).bind fun v6 => (op_sI σ5 v6 x1 (0 : Int32)).bind fun σ7 => f_X12_rainLine_27 5000 x0 x1 σ7
def f_X12_rainLine  (x0 : Nat) (x1 : Int32) (σ : ah_H) : Option (ah_H) := op_ck 12 σ x0 (f_X12_rainLine_0 x0 x1 σ)
set_option maxRecDepth 100000 in
set_option maxHeartbeats 4000000 in
theorem c_X12_rainLine_109 {G : ah_G}   : ∀ (x0 : Nat) (σ : ah_H) (r : ah_H), f_X12_rainLine_109   x0 σ = some r → AW G m_X12_rainLine 7 0 0 109 [(0, .ref x0)] [] σ (ah_N G (ah_rv r)) := by
  intro x0 σ r h
  unfold f_X12_rainLine_109 at h
  refine aw_aload_n (pc := 109) 0 dX12_rainLine_109 rfl ?_
  refine aw_iconst (pc := 110) (v := (3 : Int32)) dX12_rainLine_110 (by decide) ?_
  refine aw_aload_n (pc := 111) 0 dX12_rainLine_111 rfl ?_
  refine aw_iconst (pc := 112) (v := (3 : Int32)) dX12_rainLine_112 (by decide) ?_
  obtain ⟨r1, e, h⟩ := op_bd h
  refine ow_cVi (pc := 113) [.int (3 : Int32)] ((c_X12_fresher _ _ _ _ e).mono (by decide)) (op_ck_sh e) rfl dX12_rainLine_113 cw_X12_221 rfl (Nat.le_of_ble_eq_true rfl) ?_
  refine aw_iconst (pc := 116) (v := (1 : Int32)) dX12_rainLine_116 (by decide) ?_
  refine aw_iadd (pc := 117) dX12_rainLine_117 ?_
  obtain ⟨r2, e, h⟩ := op_bd h
  refine ow_cVv (pc := 118) [.int (3 : Int32), .int (r1.1 + (1 : Int32))] ((c_X12_reads _ _ _ _ _ e).mono (by decide)) (op_ck_sh e) rfl dX12_rainLine_118 cw_X12_240 rfl (Nat.le_of_ble_eq_true rfl) ?_
  exact ow_vret (pc := 121) h dX12_rainLine_121 rfl
set_option maxRecDepth 100000 in
set_option maxHeartbeats 4000000 in
theorem c_X12_rainLine_58 {G : ah_G}  (K27 : Nat → Int32 → ah_H → Option (ah_H)) (hK27 : ∀ (x0 : Nat) (x1 : Int32) (σ : ah_H) (r : ah_H), K27 x0 x1 σ = some r → AW G m_X12_rainLine 7 0 0 27 [(0, .ref x0), (1, .int x1)] [] σ (ah_N G (ah_rv r))) : ∀ (x0 : Nat) (x1 : Int32) (σ : ah_H) (r : ah_H), f_X12_rainLine_58  K27 x0 x1 σ = some r → AW G m_X12_rainLine 7 0 0 58 [(0, .ref x0), (1, .int x1)] [] σ (ah_N G (ah_rv r)) := by
  intro x0 x1 σ r h
  unfold f_X12_rainLine_58 at h
  refine aw_aload_n (pc := 58) 0 dX12_rainLine_58 rfl ?_
  refine aw_iconst (pc := 59) (v := (0 : Int32)) dX12_rainLine_59 (by decide) ?_
  refine aw_bipush (pc := 60) (v := (99 : Int32)) dX12_rainLine_60 (by decide) ?_
  obtain ⟨r1, e, h⟩ := op_bd h
  refine ow_cVi (pc := 62) [.int (0 : Int32), .int (99 : Int32)] ((c_X12_numeral _ _ _ _ _ e).mono (by decide)) (op_ck_sh e) rfl dX12_rainLine_62 cw_X12_247 rfl (Nat.le_of_ble_eq_true rfl) ?_
  refine aw_istore_n (pc := 65) [(2, .int r1.1), (0, .ref x0), (1, .int x1)] dX12_rainLine_65 rfl (by decide) rfl ?_
  refine aw_aload_n (pc := 66) 1 dX12_rainLine_66 rfl ?_
  obtain ⟨v2, e, h⟩ := op_bd h
  refine ow_gI (pc := 67) e dX12_rainLine_67 fd_X12_205 rfl ?_
  refine aw_if_eq (pc := 70) 74 dX12_rainLine_70 (by decide) (fun z => ?_) (fun z => ?_)
  · replace h := (if_pos z).symm.trans h
    refine aw_aload_n (pc := 74) 1 dX12_rainLine_74 rfl ?_
    obtain ⟨v3, e, h⟩ := op_bd h
    refine ow_gR (pc := 75) e dX12_rainLine_75 fd_X12_57 rfl ?_
    refine aw_bipush (pc := 78) (v := (6 : Int32)) dX12_rainLine_78 (by decide) ?_
    refine aw_iload_n (pc := 80) 2 dX12_rainLine_80 rfl ?_
    refine aw_imul (pc := 81) dX12_rainLine_81 ?_
    refine aw_aload_n (pc := 82) 1 dX12_rainLine_82 rfl ?_
    obtain ⟨v4, e, h⟩ := op_bd h
    refine ow_gR (pc := 83) e dX12_rainLine_83 fd_X12_54 rfl ?_
    refine aw_iload_n (pc := 86) 2 dX12_rainLine_86 rfl ?_
    obtain ⟨v5, e, h⟩ := op_bd h
    refine ow_aI (pc := 87) e dX12_rainLine_87 ?_
    refine aw_iadd (pc := 88) dX12_rainLine_88 ?_
    refine aw_iload_n (pc := 89) 0 dX12_rainLine_89 rfl ?_
    obtain ⟨σ6, e, h⟩ := op_bd h
    refine ow_sI (pc := 90) e dX12_rainLine_90 ?_
    refine aw_aload_n (pc := 91) 1 dX12_rainLine_91 rfl ?_
    obtain ⟨v7, e, h⟩ := op_bd h
    refine ow_gR (pc := 92) e dX12_rainLine_92 fd_X12_54 rfl ?_
    refine aw_iload_n (pc := 95) 2 dX12_rainLine_95 rfl ?_
    refine aw_dup2 (pc := 96) dX12_rainLine_96 rfl rfl ?_
    obtain ⟨v8, e, h⟩ := op_bd h
    refine ow_aI (pc := 97) e dX12_rainLine_97 ?_
    refine aw_iconst (pc := 98) (v := (1 : Int32)) dX12_rainLine_98 (by decide) ?_
    refine aw_iadd (pc := 99) dX12_rainLine_99 ?_
    obtain ⟨σ9, e, h⟩ := op_bd h
    refine ow_sI (pc := 100) e dX12_rainLine_100 ?_
    refine aw_aload_n (pc := 101) 1 dX12_rainLine_101 rfl ?_
    obtain ⟨v10, e, h⟩ := op_bd h
    refine ow_gI (pc := 102) e dX12_rainLine_102 fd_X12_172 rfl ?_
    refine aw_iconst (pc := 105) (v := (2 : Int32)) dX12_rainLine_105 (by decide) ?_
    refine aw_icmp_eq (pc := 106) 27 dX12_rainLine_106 (by decide) (fun z => ?_) (fun z => ?_)
    · replace h := (if_pos z).symm.trans h
      refine aw_sub [1, 2] rfl ?_
      exact hK27 _ _ _ _ h
    · replace h := (if_neg z).symm.trans h
      refine aw_sub [1] rfl ?_
      exact c_X12_rainLine_109  _ _ _ h
  · replace h := (if_neg z).symm.trans h
    exact ow_vret (pc := 73) h dX12_rainLine_73 rfl
set_option maxRecDepth 100000 in
set_option maxHeartbeats 4000000 in
theorem c_X12_rainLine_27_b {G : ah_G}  (K27 : Nat → Int32 → ah_H → Option (ah_H)) (hK27 : ∀ (x0 : Nat) (x1 : Int32) (σ : ah_H) (r : ah_H), K27 x0 x1 σ = some r → AW G m_X12_rainLine 7 0 0 27 [(0, .ref x0), (1, .int x1)] [] σ (ah_N G (ah_rv r))) : ∀ (x0 : Nat) (x1 : Int32) (σ : ah_H) (r : ah_H), f_X12_rainLine_27_b  K27 x0 x1 σ = some r → AW G m_X12_rainLine 7 0 0 27 [(0, .ref x0), (1, .int x1)] [] σ (ah_N G (ah_rv r)) := by
  intro x0 x1 σ r h
  unfold f_X12_rainLine_27_b at h
  refine aw_aload_n (pc := 27) 0 dX12_rainLine_27 rfl ?_
  obtain ⟨v1, e, h⟩ := op_bd h
  refine ow_gI (pc := 28) e dX12_rainLine_28 fd_X12_205 rfl ?_
  refine aw_if_ne (pc := 31) 58 dX12_rainLine_31 (by decide) (fun z => ?_) (fun z => ?_)
  · replace h := (if_neg z).symm.trans h
    exact c_X12_rainLine_58 K27 hK27 _ _ _ _ h
  · replace h := (if_pos z).symm.trans h
    refine aw_aload_n (pc := 34) 0 dX12_rainLine_34 rfl ?_
    obtain ⟨v2, e, h⟩ := op_bd h
    refine ow_gI (pc := 35) e dX12_rainLine_35 fd_X12_172 rfl ?_
    refine aw_iconst (pc := 38) (v := (2 : Int32)) dX12_rainLine_38 (by decide) ?_
    refine aw_icmp_ne (pc := 39) 58 dX12_rainLine_39 (by decide) (fun z => ?_) (fun z => ?_)
    · replace h := (if_neg z).symm.trans h
      exact c_X12_rainLine_58 K27 hK27 _ _ _ _ h
    · replace h := (if_pos z).symm.trans h
      refine aw_aload_n (pc := 42) 0 dX12_rainLine_42 rfl ?_
      obtain ⟨v3, e, h⟩ := op_bd h
      refine ow_gR (pc := 43) e dX12_rainLine_43 fd_X12_54 rfl ?_
      refine aw_iload_n (pc := 46) 1 dX12_rainLine_46 rfl ?_
      obtain ⟨v4, e, h⟩ := op_bd h
      refine ow_aI (pc := 47) e dX12_rainLine_47 ?_
      refine aw_bipush (pc := 48) (v := (6 : Int32)) dX12_rainLine_48 (by decide) ?_
      refine aw_icmp_ne (pc := 50) 58 dX12_rainLine_50 (by decide) (fun z => ?_) (fun z => ?_)
      · replace h := (if_neg z).symm.trans h
        exact c_X12_rainLine_58 K27 hK27 _ _ _ _ h
      · replace h := (if_pos z).symm.trans h
        refine aw_aload_n (pc := 53) 0 dX12_rainLine_53 rfl ?_
        refine aw_iconst (pc := 54) (v := (2 : Int32)) dX12_rainLine_54 (by decide) ?_
        obtain ⟨r5, e, h⟩ := op_bd h
        refine ow_cVv (pc := 55) [.int (2 : Int32)] ((c_X12_wrong _ _ _ _ e).mono (by decide)) (op_ck_sh e) rfl dX12_rainLine_55 cw_X12_214 rfl (Nat.le_of_ble_eq_true rfl) ?_
        exact c_X12_rainLine_58 K27 hK27 _ _ _ _ h
theorem c_X12_rainLine_27 {G : ah_G}   : ∀ (n : Nat) (x0 : Nat) (x1 : Int32) (σ : ah_H) (r : ah_H), f_X12_rainLine_27   n x0 x1 σ = some r → AW G m_X12_rainLine 7 0 0 27 [(0, .ref x0), (1, .int x1)] [] σ (ah_N G (ah_rv r)) := by
  intro n
  induction n with
  | zero => intro x0 x1 σ r h; cases h
  | succ n ih => intro x0 x1 σ r h; exact c_X12_rainLine_27_b   _ ih x0 x1 σ r h
set_option maxRecDepth 100000 in
set_option maxHeartbeats 4000000 in
theorem c_X12_rainLine_0 {G : ah_G}   : ∀ (x0 : Nat) (x1 : Int32) (σ : ah_H) (r : ah_H), f_X12_rainLine_0   x0 x1 σ = some r → AW G m_X12_rainLine 7 0 0 0 [(0, .ref x0), (1, .int x1)] [] σ (ah_N G (ah_rv r)) := by
  intro x0 x1 σ r h
  unfold f_X12_rainLine_0 at h
  refine aw_aload_n (pc := 0) 0 dX12_rainLine_0 rfl ?_
  obtain ⟨v1, e, h⟩ := op_bd h
  refine ow_gR (pc := 1) e dX12_rainLine_1 fd_X12_51 rfl ?_
  refine aw_iload_n (pc := 4) 1 dX12_rainLine_4 rfl ?_
  refine aw_aload_n (pc := 5) 0 dX12_rainLine_5 rfl ?_
  refine aw_aload_n (pc := 6) 0 dX12_rainLine_6 rfl ?_
  obtain ⟨v2, e, h⟩ := op_bd h
  refine ow_gR (pc := 7) e dX12_rainLine_7 fd_X12_51 rfl ?_
  refine aw_iconst (pc := 10) (v := (4 : Int32)) dX12_rainLine_10 (by decide) ?_
  refine aw_aload_n (pc := 11) 0 dX12_rainLine_11 rfl ?_
  refine aw_iconst (pc := 12) (v := (3 : Int32)) dX12_rainLine_12 (by decide) ?_
  obtain ⟨r3, e, h⟩ := op_bd h
  refine ow_cVi (pc := 13) [.int (3 : Int32)] ((c_X12_fresher _ _ _ _ e).mono (by decide)) (op_ck_sh e) rfl dX12_rainLine_13 cw_X12_221 rfl (Nat.le_of_ble_eq_true rfl) ?_
  obtain ⟨r4, e, h⟩ := op_bd h
  refine ow_cVi (pc := 16) [.ref v2, .int (4 : Int32), .int r3.1] ((c_X12_fresh _ _ _ _ _ _ e).mono (by decide)) (op_ck_sh e) rfl dX12_rainLine_16 cw_X12_269 rfl (Nat.le_of_ble_eq_true rfl) ?_
  obtain ⟨σ5, e, h⟩ := op_bd h
  refine ow_sI (pc := 19) e dX12_rainLine_19 ?_
  refine aw_aload_n (pc := 20) 0 dX12_rainLine_20 rfl ?_
  obtain ⟨v6, e, h⟩ := op_bd h
  refine ow_gR (pc := 21) e dX12_rainLine_21 fd_X12_54 rfl ?_
  refine aw_iload_n (pc := 24) 1 dX12_rainLine_24 rfl ?_
  refine aw_iconst (pc := 25) (v := (0 : Int32)) dX12_rainLine_25 (by decide) ?_
  obtain ⟨σ7, e, h⟩ := op_bd h
  refine ow_sI (pc := 26) e dX12_rainLine_26 ?_
  exact c_X12_rainLine_27  _ _ _ _ _ h
theorem c_X12_rainLine {G : ah_G}   (x0 : Nat) (x1 : Int32) (σ : ah_H) (r : ah_H) (h : f_X12_rainLine  x0 x1 σ = some r) : AM G m_X12_rainLine 7 0 0 [.ref x0, .int x1] σ (ah_rv r) := aw_enter (by decide) (Nat.le_of_ble_eq_true rfl) (c_X12_rainLine_0 _ _ _ _ (op_ck_k h))
def f_X12_hasStreet_57  (K3 : Nat → Int32 → Int32 → Int32 → ah_H → Option (Int32 × ah_H)) (x0 : Nat) (x1 : Int32) (x2 : Int32) (x3 : Int32) (σ : ah_H) : Option (Int32 × ah_H) :=
  K3 x0 x1 x2 (x3 + (1 : Int32)) σ
def f_X12_hasStreet_35  (K3 : Nat → Int32 → Int32 → Int32 → ah_H → Option (Int32 × ah_H)) (x0 : Nat) (x1 : Int32) (x2 : Int32) (x3 : Int32) (σ : ah_H) : Option (Int32 × ah_H) :=
  (op_gR 12 8 σ x0).bind fun v1 => (op_aI σ v1 x3).bind fun v2 => if v2 = x2 then ((op_gR 12 9 σ x0).bind fun v3 => (op_aI σ v3 x3).bind fun v4 => if v4 = x1 then ((op_rz (1 : Int32)).map fun q => (q, σ)) else (f_X12_hasStreet_57 K3 x0 x1 x2 x3 σ)) else (f_X12_hasStreet_57 K3 x0 x1 x2 x3 σ)
def f_X12_hasStreet_3_b  (K3 : Nat → Int32 → Int32 → Int32 → ah_H → Option (Int32 × ah_H)) (x0 : Nat) (x1 : Int32) (x2 : Int32) (x3 : Int32) (σ : ah_H) : Option (Int32 × ah_H) :=
  (f_X12_fresher x0 (1 : Int32) σ).bind fun r1 => if ((10 : Int32) + r1.1) ≤ x3 then ((op_rz (0 : Int32)).map fun q => (q, r1.2)) else ((op_gR 12 8 r1.2 x0).bind fun v2 => (op_aI r1.2 v2 x3).bind fun v3 => if v3 = x1 then ((op_gR 12 9 r1.2 x0).bind fun v4 => (op_aI r1.2 v4 x3).bind fun v5 => if v5 = x2 then ((op_rz (1 : Int32)).map fun q => (q, r1.2)) else (f_X12_hasStreet_35 K3 x0 x1 x2 x3 r1.2)) else (f_X12_hasStreet_35 K3 x0 x1 x2 x3 r1.2))
def f_X12_hasStreet_3   : Nat → Nat → Int32 → Int32 → Int32 → ah_H → Option (Int32 × ah_H)
  | 0, _, _, _, _, _ => none
  | n + 1, x0, x1, x2, x3, σ => f_X12_hasStreet_3_b (f_X12_hasStreet_3 n) x0 x1 x2 x3 σ
def f_X12_hasStreet_0   (x0 : Nat) (x1 : Int32) (x2 : Int32) (σ : ah_H) : Option (Int32 × ah_H) :=
  f_X12_hasStreet_3 5000 x0 x1 x2 (10 : Int32) σ
def f_X12_hasStreet  (x0 : Nat) (x1 : Int32) (x2 : Int32) (σ : ah_H) : Option (Int32 × ah_H) := op_ck 12 σ x0 (f_X12_hasStreet_0 x0 x1 x2 σ)
set_option maxRecDepth 100000 in
set_option maxHeartbeats 4000000 in
theorem c_X12_hasStreet_57 {G : ah_G}  (K3 : Nat → Int32 → Int32 → Int32 → ah_H → Option (Int32 × ah_H)) (hK3 : ∀ (x0 : Nat) (x1 : Int32) (x2 : Int32) (x3 : Int32) (σ : ah_H) (r : Int32 × ah_H), K3 x0 x1 x2 x3 σ = some r → AW G m_X12_hasStreet 1 0 0 3 [(0, .ref x0), (1, .int x1), (2, .int x2), (3, .int x3)] [] σ (ah_N G (ah_ri r))) : ∀ (x0 : Nat) (x1 : Int32) (x2 : Int32) (x3 : Int32) (σ : ah_H) (r : Int32 × ah_H), f_X12_hasStreet_57  K3 x0 x1 x2 x3 σ = some r → AW G m_X12_hasStreet 1 0 0 57 [(0, .ref x0), (1, .int x1), (2, .int x2), (3, .int x3)] [] σ (ah_N G (ah_ri r)) := by
  intro x0 x1 x2 x3 σ r h
  unfold f_X12_hasStreet_57 at h
  refine aw_iinc (pc := 57) 3 [(3, .int (x3 + (1 : Int32))), (0, .ref x0), (1, .int x1), (2, .int x2)] (x3 + (1 : Int32)) dX12_hasStreet_57 rfl rfl (by decide) rfl ?_
  refine aw_goto (pc := 60) 3 dX12_hasStreet_60 (by decide) ?_
  refine aw_sub [1, 2, 3, 0] rfl ?_
  exact hK3 _ _ _ _ _ _ h
set_option maxRecDepth 100000 in
set_option maxHeartbeats 4000000 in
theorem c_X12_hasStreet_35 {G : ah_G}  (K3 : Nat → Int32 → Int32 → Int32 → ah_H → Option (Int32 × ah_H)) (hK3 : ∀ (x0 : Nat) (x1 : Int32) (x2 : Int32) (x3 : Int32) (σ : ah_H) (r : Int32 × ah_H), K3 x0 x1 x2 x3 σ = some r → AW G m_X12_hasStreet 1 0 0 3 [(0, .ref x0), (1, .int x1), (2, .int x2), (3, .int x3)] [] σ (ah_N G (ah_ri r))) : ∀ (x0 : Nat) (x1 : Int32) (x2 : Int32) (x3 : Int32) (σ : ah_H) (r : Int32 × ah_H), f_X12_hasStreet_35  K3 x0 x1 x2 x3 σ = some r → AW G m_X12_hasStreet 1 0 0 35 [(0, .ref x0), (1, .int x1), (2, .int x2), (3, .int x3)] [] σ (ah_N G (ah_ri r)) := by
  intro x0 x1 x2 x3 σ r h
  unfold f_X12_hasStreet_35 at h
  refine aw_aload_n (pc := 35) 0 dX12_hasStreet_35 rfl ?_
  obtain ⟨v1, e, h⟩ := op_bd h
  refine ow_gR (pc := 36) e dX12_hasStreet_36 fd_X12_30 rfl ?_
  refine aw_iload_n (pc := 39) 3 dX12_hasStreet_39 rfl ?_
  obtain ⟨v2, e, h⟩ := op_bd h
  refine ow_aI (pc := 40) e dX12_hasStreet_40 ?_
  refine aw_iload_n (pc := 41) 2 dX12_hasStreet_41 rfl ?_
  refine aw_icmp_ne (pc := 42) 57 dX12_hasStreet_42 (by decide) (fun z => ?_) (fun z => ?_)
  · replace h := (if_neg z).symm.trans h
    exact c_X12_hasStreet_57 K3 hK3 _ _ _ _ _ _ h
  · replace h := (if_pos z).symm.trans h
    refine aw_aload_n (pc := 45) 0 dX12_hasStreet_45 rfl ?_
    obtain ⟨v3, e, h⟩ := op_bd h
    refine ow_gR (pc := 46) e dX12_hasStreet_46 fd_X12_33 rfl ?_
    refine aw_iload_n (pc := 49) 3 dX12_hasStreet_49 rfl ?_
    obtain ⟨v4, e, h⟩ := op_bd h
    refine ow_aI (pc := 50) e dX12_hasStreet_50 ?_
    refine aw_iload_n (pc := 51) 1 dX12_hasStreet_51 rfl ?_
    refine aw_icmp_ne (pc := 52) 57 dX12_hasStreet_52 (by decide) (fun z => ?_) (fun z => ?_)
    · replace h := (if_neg z).symm.trans h
      exact c_X12_hasStreet_57 K3 hK3 _ _ _ _ _ _ h
    · replace h := (if_pos z).symm.trans h
      refine aw_iconst (pc := 55) (v := (1 : Int32)) dX12_hasStreet_55 (by decide) ?_
      exact ow_zret (pc := 56) h dX12_hasStreet_56 rfl
set_option maxRecDepth 100000 in
set_option maxHeartbeats 4000000 in
theorem c_X12_hasStreet_3_b {G : ah_G}  (K3 : Nat → Int32 → Int32 → Int32 → ah_H → Option (Int32 × ah_H)) (hK3 : ∀ (x0 : Nat) (x1 : Int32) (x2 : Int32) (x3 : Int32) (σ : ah_H) (r : Int32 × ah_H), K3 x0 x1 x2 x3 σ = some r → AW G m_X12_hasStreet 1 0 0 3 [(0, .ref x0), (1, .int x1), (2, .int x2), (3, .int x3)] [] σ (ah_N G (ah_ri r))) : ∀ (x0 : Nat) (x1 : Int32) (x2 : Int32) (x3 : Int32) (σ : ah_H) (r : Int32 × ah_H), f_X12_hasStreet_3_b  K3 x0 x1 x2 x3 σ = some r → AW G m_X12_hasStreet 1 0 0 3 [(0, .ref x0), (1, .int x1), (2, .int x2), (3, .int x3)] [] σ (ah_N G (ah_ri r)) := by
  intro x0 x1 x2 x3 σ r h
  unfold f_X12_hasStreet_3_b at h
  refine aw_iload_n (pc := 3) 3 dX12_hasStreet_3 rfl ?_
  refine aw_bipush (pc := 4) (v := (10 : Int32)) dX12_hasStreet_4 (by decide) ?_
  refine aw_aload_n (pc := 6) 0 dX12_hasStreet_6 rfl ?_
  refine aw_iconst (pc := 7) (v := (1 : Int32)) dX12_hasStreet_7 (by decide) ?_
  obtain ⟨r1, e, h⟩ := op_bd h
  refine ow_cVi (pc := 8) [.int (1 : Int32)] ((c_X12_fresher _ _ _ _ e).mono (by decide)) (op_ck_sh e) rfl dX12_hasStreet_8 cw_X12_221 rfl (Nat.le_of_ble_eq_true rfl) ?_
  refine aw_iadd (pc := 11) dX12_hasStreet_11 ?_
  refine aw_icmp_ge (pc := 12) 63 dX12_hasStreet_12 (by decide) (fun z => ?_) (fun z => ?_)
  · replace h := (if_pos z).symm.trans h
    refine aw_iconst (pc := 63) (v := (0 : Int32)) dX12_hasStreet_63 (by decide) ?_
    exact ow_zret (pc := 64) h dX12_hasStreet_64 rfl
  · replace h := (if_neg z).symm.trans h
    refine aw_aload_n (pc := 15) 0 dX12_hasStreet_15 rfl ?_
    obtain ⟨v2, e, h⟩ := op_bd h
    refine ow_gR (pc := 16) e dX12_hasStreet_16 fd_X12_30 rfl ?_
    refine aw_iload_n (pc := 19) 3 dX12_hasStreet_19 rfl ?_
    obtain ⟨v3, e, h⟩ := op_bd h
    refine ow_aI (pc := 20) e dX12_hasStreet_20 ?_
    refine aw_iload_n (pc := 21) 1 dX12_hasStreet_21 rfl ?_
    refine aw_icmp_ne (pc := 22) 35 dX12_hasStreet_22 (by decide) (fun z => ?_) (fun z => ?_)
    · replace h := (if_neg z).symm.trans h
      exact c_X12_hasStreet_35 K3 hK3 _ _ _ _ _ _ h
    · replace h := (if_pos z).symm.trans h
      refine aw_aload_n (pc := 25) 0 dX12_hasStreet_25 rfl ?_
      obtain ⟨v4, e, h⟩ := op_bd h
      refine ow_gR (pc := 26) e dX12_hasStreet_26 fd_X12_33 rfl ?_
      refine aw_iload_n (pc := 29) 3 dX12_hasStreet_29 rfl ?_
      obtain ⟨v5, e, h⟩ := op_bd h
      refine ow_aI (pc := 30) e dX12_hasStreet_30 ?_
      refine aw_iload_n (pc := 31) 2 dX12_hasStreet_31 rfl ?_
      refine aw_icmp_eq (pc := 32) 55 dX12_hasStreet_32 (by decide) (fun z => ?_) (fun z => ?_)
      · replace h := (if_pos z).symm.trans h
        refine aw_iconst (pc := 55) (v := (1 : Int32)) dX12_hasStreet_55 (by decide) ?_
        exact ow_zret (pc := 56) h dX12_hasStreet_56 rfl
      · replace h := (if_neg z).symm.trans h
        exact c_X12_hasStreet_35 K3 hK3 _ _ _ _ _ _ h
theorem c_X12_hasStreet_3 {G : ah_G}   : ∀ (n : Nat) (x0 : Nat) (x1 : Int32) (x2 : Int32) (x3 : Int32) (σ : ah_H) (r : Int32 × ah_H), f_X12_hasStreet_3   n x0 x1 x2 x3 σ = some r → AW G m_X12_hasStreet 1 0 0 3 [(0, .ref x0), (1, .int x1), (2, .int x2), (3, .int x3)] [] σ (ah_N G (ah_ri r)) := by
  intro n
  induction n with
  | zero => intro x0 x1 x2 x3 σ r h; cases h
  | succ n ih => intro x0 x1 x2 x3 σ r h; exact c_X12_hasStreet_3_b   _ ih x0 x1 x2 x3 σ r h
set_option maxRecDepth 100000 in
set_option maxHeartbeats 4000000 in
theorem c_X12_hasStreet_0 {G : ah_G}   : ∀ (x0 : Nat) (x1 : Int32) (x2 : Int32) (σ : ah_H) (r : Int32 × ah_H), f_X12_hasStreet_0   x0 x1 x2 σ = some r → AW G m_X12_hasStreet 1 0 0 0 [(0, .ref x0), (1, .int x1), (2, .int x2)] [] σ (ah_N G (ah_ri r)) := by
  intro x0 x1 x2 σ r h
  unfold f_X12_hasStreet_0 at h
  refine aw_bipush (pc := 0) (v := (10 : Int32)) dX12_hasStreet_0 (by decide) ?_
  refine aw_istore_n (pc := 2) [(3, .int (10 : Int32)), (0, .ref x0), (1, .int x1), (2, .int x2)] dX12_hasStreet_2 rfl (by decide) rfl ?_
  refine aw_sub [1, 2, 3, 0] rfl ?_
  exact c_X12_hasStreet_3  _ _ _ _ _ _ _ h
theorem c_X12_hasStreet {G : ah_G}   (x0 : Nat) (x1 : Int32) (x2 : Int32) (σ : ah_H) (r : Int32 × ah_H) (h : f_X12_hasStreet  x0 x1 x2 σ = some r) : AM G m_X12_hasStreet 1 0 0 [.ref x0, .int x1, .int x2] σ (ah_ri r) := aw_enter (by decide) (Nat.le_of_ble_eq_true rfl) (c_X12_hasStreet_0 _ _ _ _ _ (op_ck_k h))
