def f_X12_comesThrough_5_b  (K5 : Nat → Int32 → Int32 → Int32 → ah_H → Option (Int32 × ah_H)) (x0 : Nat) (x2 : Int32) (x3 : Int32) (x4 : Int32) (σ : ah_H) : Option (Int32 × ah_H) :=
  (op_gR 12 3 σ x0).bind fun v1 => (op_aI σ v1 (0 : Int32)).bind fun v2 => if v2 < x4 then ((op_rz (0 : Int32)).map fun q => (q, σ)) else (if x3 = x2 then ((op_rz (1 : Int32)).map fun q => (q, σ)) else ((f_X12_isLaid x0 x3 σ).bind fun r3 => if r3.1 = 0 then ((op_rz (0 : Int32)).map fun q => (q, r3.2)) else ((f_X12_to x0 x3 r3.2).bind fun r4 => K5 x0 x2 r4.1 (x4 + (1 : Int32)) r4.2)))
def f_X12_comesThrough_5   : Nat → Nat → Int32 → Int32 → Int32 → ah_H → Option (Int32 × ah_H)
  | 0, _, _, _, _, _ => none
  | n + 1, x0, x2, x3, x4, σ => f_X12_comesThrough_5_b (f_X12_comesThrough_5 n) x0 x2 x3 x4 σ
def f_X12_comesThrough_0   (x0 : Nat) (x1 : Int32) (x2 : Int32) (σ : ah_H) : Option (Int32 × ah_H) :=
  f_X12_comesThrough_5 5000 x0 x2 x1 (0 : Int32) σ
def f_X12_comesThrough  (x0 : Nat) (x1 : Int32) (x2 : Int32) (σ : ah_H) : Option (Int32 × ah_H) := op_ck 12 σ x0 (f_X12_comesThrough_0 x0 x1 x2 σ)
set_option maxRecDepth 100000 in
set_option maxHeartbeats 4000000 in
theorem c_X12_comesThrough_5_b {G : ah_G}  (K5 : Nat → Int32 → Int32 → Int32 → ah_H → Option (Int32 × ah_H)) (hK5 : ∀ (x0 : Nat) (x2 : Int32) (x3 : Int32) (x4 : Int32) (σ : ah_H) (r : Int32 × ah_H), K5 x0 x2 x3 x4 σ = some r → AW G m_X12_comesThrough 2 0 0 5 [(0, .ref x0), (2, .int x2), (3, .int x3), (4, .int x4)] [] σ (ah_N G (ah_ri r))) : ∀ (x0 : Nat) (x2 : Int32) (x3 : Int32) (x4 : Int32) (σ : ah_H) (r : Int32 × ah_H), f_X12_comesThrough_5_b  K5 x0 x2 x3 x4 σ = some r → AW G m_X12_comesThrough 2 0 0 5 [(0, .ref x0), (2, .int x2), (3, .int x3), (4, .int x4)] [] σ (ah_N G (ah_ri r)) := by
  intro x0 x2 x3 x4 σ r h
  unfold f_X12_comesThrough_5_b at h
  refine aw_iload (pc := 5) 3 dX12_comesThrough_5 rfl ?_
  refine aw_aload_n (pc := 7) 0 dX12_comesThrough_7 rfl ?_
  obtain ⟨v1, e, h⟩ := op_bd h
  refine ow_gR (pc := 8) e dX12_comesThrough_8 fd_X12_15 rfl ?_
  refine aw_iconst (pc := 11) (v := (0 : Int32)) dX12_comesThrough_11 (by decide) ?_
  obtain ⟨v2, e, h⟩ := op_bd h
  refine ow_aI (pc := 12) e dX12_comesThrough_12 ?_
  refine aw_icmp_gt (pc := 13) 45 dX12_comesThrough_13 (by decide) (fun z => ?_) (fun z => ?_)
  · replace h := (if_pos z).symm.trans h
    refine aw_iconst (pc := 45) (v := (0 : Int32)) dX12_comesThrough_45 (by decide) ?_
    exact ow_zret (pc := 46) h dX12_comesThrough_46 rfl
  · replace h := (if_neg z).symm.trans h
    refine aw_iload_n (pc := 16) 2 dX12_comesThrough_16 rfl ?_
    refine aw_iload_n (pc := 17) 1 dX12_comesThrough_17 rfl ?_
    refine aw_icmp_ne (pc := 18) 23 dX12_comesThrough_18 (by decide) (fun z => ?_) (fun z => ?_)
    · replace h := (if_neg z).symm.trans h
      refine aw_aload_n (pc := 23) 0 dX12_comesThrough_23 rfl ?_
      refine aw_iload_n (pc := 24) 2 dX12_comesThrough_24 rfl ?_
      obtain ⟨r3, e, h⟩ := op_bd h
      refine ow_cVi (pc := 25) [.int x3] ((c_X12_isLaid _ _ _ _ e).mono (by decide)) (op_ck_sh e) rfl dX12_comesThrough_25 cw_X12_380 rfl (Nat.le_of_ble_eq_true rfl) ?_
      refine aw_if_ne (pc := 28) 33 dX12_comesThrough_28 (by decide) (fun z => ?_) (fun z => ?_)
      · replace h := (if_neg z).symm.trans h
        refine aw_aload_n (pc := 33) 0 dX12_comesThrough_33 rfl ?_
        refine aw_iload_n (pc := 34) 2 dX12_comesThrough_34 rfl ?_
        obtain ⟨r4, e, h⟩ := op_bd h
        refine ow_cVi (pc := 35) [.int x3] ((c_X12_to _ _ _ _ e).mono (by decide)) (op_ck_sh e) rfl dX12_comesThrough_35 cw_X12_383 rfl (Nat.le_of_ble_eq_true rfl) ?_
        refine aw_istore_n (pc := 38) [(3, .int r4.1), (0, .ref x0), (2, .int x2), (4, .int x4)] dX12_comesThrough_38 rfl (by decide) rfl ?_
        refine aw_iinc (pc := 39) 3 [(4, .int (x4 + (1 : Int32))), (3, .int r4.1), (0, .ref x0), (2, .int x2)] (x4 + (1 : Int32)) dX12_comesThrough_39 rfl rfl (by decide) rfl ?_
        refine aw_goto (pc := 42) 5 dX12_comesThrough_42 (by decide) ?_
        refine aw_sub [2, 3, 1, 0] rfl ?_
        exact hK5 _ _ _ _ _ _ h
      · replace h := (if_pos z).symm.trans h
        refine aw_iconst (pc := 31) (v := (0 : Int32)) dX12_comesThrough_31 (by decide) ?_
        exact ow_zret (pc := 32) h dX12_comesThrough_32 rfl
    · replace h := (if_pos z).symm.trans h
      refine aw_iconst (pc := 21) (v := (1 : Int32)) dX12_comesThrough_21 (by decide) ?_
      exact ow_zret (pc := 22) h dX12_comesThrough_22 rfl
theorem c_X12_comesThrough_5 {G : ah_G}   : ∀ (n : Nat) (x0 : Nat) (x2 : Int32) (x3 : Int32) (x4 : Int32) (σ : ah_H) (r : Int32 × ah_H), f_X12_comesThrough_5   n x0 x2 x3 x4 σ = some r → AW G m_X12_comesThrough 2 0 0 5 [(0, .ref x0), (2, .int x2), (3, .int x3), (4, .int x4)] [] σ (ah_N G (ah_ri r)) := by
  intro n
  induction n with
  | zero => intro x0 x2 x3 x4 σ r h; cases h
  | succ n ih => intro x0 x2 x3 x4 σ r h; exact c_X12_comesThrough_5_b   _ ih x0 x2 x3 x4 σ r h
set_option maxRecDepth 100000 in
set_option maxHeartbeats 4000000 in
theorem c_X12_comesThrough_0 {G : ah_G}   : ∀ (x0 : Nat) (x1 : Int32) (x2 : Int32) (σ : ah_H) (r : Int32 × ah_H), f_X12_comesThrough_0   x0 x1 x2 σ = some r → AW G m_X12_comesThrough 2 0 0 0 [(0, .ref x0), (1, .int x1), (2, .int x2)] [] σ (ah_N G (ah_ri r)) := by
  intro x0 x1 x2 σ r h
  unfold f_X12_comesThrough_0 at h
  refine aw_iload_n (pc := 0) 1 dX12_comesThrough_0 rfl ?_
  refine aw_istore_n (pc := 1) [(3, .int x1), (0, .ref x0), (1, .int x1), (2, .int x2)] dX12_comesThrough_1 rfl (by decide) rfl ?_
  refine aw_iconst (pc := 2) (v := (0 : Int32)) dX12_comesThrough_2 (by decide) ?_
  refine aw_istore (pc := 3) [(4, .int (0 : Int32)), (3, .int x1), (0, .ref x0), (1, .int x1), (2, .int x2)] dX12_comesThrough_3 (by decide) rfl ?_
  refine aw_sub [2, 4, 1, 0] rfl ?_
  exact c_X12_comesThrough_5  _ _ _ _ _ _ _ h
theorem c_X12_comesThrough {G : ah_G}   (x0 : Nat) (x1 : Int32) (x2 : Int32) (σ : ah_H) (r : Int32 × ah_H) (h : f_X12_comesThrough  x0 x1 x2 σ = some r) : AM G m_X12_comesThrough 2 0 0 [.ref x0, .int x1, .int x2] σ (ah_ri r) := aw_enter (by decide) (Nat.le_of_ble_eq_true rfl) (c_X12_comesThrough_0 _ _ _ _ _ (op_ck_k h))
def f_X12_weightOf_34  (K4 : Nat → Int32 → Int32 → Int32 → ah_H → Option (Int32 × ah_H)) (x0 : Nat) (x1 : Int32) (x3 : Int32) (s0 : Int32) (s1 : Int32) (σ : ah_H) : Option (Int32 × ah_H) :=
  K4 x0 x1 (s0 + s1) (x3 + (1 : Int32)) σ
def f_X12_weightOf_42   (x0 : Nat) (x1 : Int32) (x2 : Int32) (σ : ah_H) : Option (Int32 × ah_H) :=
  (op_gR 12 12 σ x0).bind fun v1 => (f_X12_streetOf x0 x1 σ).bind fun r2 => (op_aI r2.2 v1 r2.1).bind fun v3 => some ((v3 * x2), r2.2)
def f_X12_weightOf_4_b  (K4 : Nat → Int32 → Int32 → Int32 → ah_H → Option (Int32 × ah_H)) (x0 : Nat) (x1 : Int32) (x2 : Int32) (x3 : Int32) (σ : ah_H) : Option (Int32 × ah_H) :=
  (op_gR 12 3 σ x0).bind fun v1 => (op_aI σ v1 (0 : Int32)).bind fun v2 => if v2 ≤ x3 then (f_X12_weightOf_42 x0 x1 x2 σ) else ((f_X12_comesThrough x0 x3 x1 σ).bind fun r3 => if r3.1 = 0 then (f_X12_weightOf_34 K4 x0 x1 x3 x2 (0 : Int32) r3.2) else ((op_gR 12 6 r3.2 x0).bind fun v4 => (op_aI r3.2 v4 x3).bind fun v5 => f_X12_weightOf_34 K4 x0 x1 x3 x2 v5 r3.2))
def f_X12_weightOf_4   : Nat → Nat → Int32 → Int32 → Int32 → ah_H → Option (Int32 × ah_H)
  | 0, _, _, _, _, _ => none
  | n + 1, x0, x1, x2, x3, σ => f_X12_weightOf_4_b (f_X12_weightOf_4 n) x0 x1 x2 x3 σ
def f_X12_weightOf_0   (x0 : Nat) (x1 : Int32) (σ : ah_H) : Option (Int32 × ah_H) :=
  f_X12_weightOf_4 5000 x0 x1 (0 : Int32) (0 : Int32) σ
def f_X12_weightOf  (x0 : Nat) (x1 : Int32) (σ : ah_H) : Option (Int32 × ah_H) := op_ck 12 σ x0 (f_X12_weightOf_0 x0 x1 σ)
set_option maxRecDepth 100000 in
set_option maxHeartbeats 4000000 in
theorem c_X12_weightOf_34 {G : ah_G}  (K4 : Nat → Int32 → Int32 → Int32 → ah_H → Option (Int32 × ah_H)) (hK4 : ∀ (x0 : Nat) (x1 : Int32) (x2 : Int32) (x3 : Int32) (σ : ah_H) (r : Int32 × ah_H), K4 x0 x1 x2 x3 σ = some r → AW G m_X12_weightOf 3 0 0 4 [(0, .ref x0), (1, .int x1), (2, .int x2), (3, .int x3)] [] σ (ah_N G (ah_ri r))) : ∀ (x0 : Nat) (x1 : Int32) (x3 : Int32) (s0 : Int32) (s1 : Int32) (σ : ah_H) (r : Int32 × ah_H), f_X12_weightOf_34  K4 x0 x1 x3 s0 s1 σ = some r → AW G m_X12_weightOf 3 0 0 34 [(0, .ref x0), (1, .int x1), (3, .int x3)] [.int s1, .int s0] σ (ah_N G (ah_ri r)) := by
  intro x0 x1 x3 s0 s1 σ r h
  unfold f_X12_weightOf_34 at h
  refine aw_iadd (pc := 34) dX12_weightOf_34 ?_
  refine aw_istore_n (pc := 35) [(2, .int (s0 + s1)), (0, .ref x0), (1, .int x1), (3, .int x3)] dX12_weightOf_35 rfl (by decide) rfl ?_
  refine aw_iinc (pc := 36) 3 [(3, .int (x3 + (1 : Int32))), (2, .int (s0 + s1)), (0, .ref x0), (1, .int x1)] (x3 + (1 : Int32)) dX12_weightOf_36 rfl rfl (by decide) rfl ?_
  refine aw_goto (pc := 39) 4 dX12_weightOf_39 (by decide) ?_
  refine aw_sub [2, 3, 1, 0] rfl ?_
  exact hK4 _ _ _ _ _ _ h
set_option maxRecDepth 100000 in
set_option maxHeartbeats 4000000 in
theorem c_X12_weightOf_42 {G : ah_G}   : ∀ (x0 : Nat) (x1 : Int32) (x2 : Int32) (σ : ah_H) (r : Int32 × ah_H), f_X12_weightOf_42   x0 x1 x2 σ = some r → AW G m_X12_weightOf 3 0 0 42 [(0, .ref x0), (1, .int x1), (2, .int x2)] [] σ (ah_N G (ah_ri r)) := by
  intro x0 x1 x2 σ r h
  unfold f_X12_weightOf_42 at h
  refine aw_aload_n (pc := 42) 0 dX12_weightOf_42 rfl ?_
  obtain ⟨v1, e, h⟩ := op_bd h
  refine ow_gR (pc := 43) e dX12_weightOf_43 fd_X12_42 rfl ?_
  refine aw_aload_n (pc := 46) 0 dX12_weightOf_46 rfl ?_
  refine aw_iload_n (pc := 47) 1 dX12_weightOf_47 rfl ?_
  obtain ⟨r2, e, h⟩ := op_bd h
  refine ow_cVi (pc := 48) [.int x1] ((c_X12_streetOf _ _ _ _ e).mono (by decide)) (op_ck_sh e) rfl dX12_weightOf_48 cw_X12_374 rfl (Nat.le_of_ble_eq_true rfl) ?_
  obtain ⟨v3, e, h⟩ := op_bd h
  refine ow_aI (pc := 51) e dX12_weightOf_51 ?_
  refine aw_iload_n (pc := 52) 2 dX12_weightOf_52 rfl ?_
  refine aw_imul (pc := 53) dX12_weightOf_53 ?_
  exact ow_iret (pc := 54) h dX12_weightOf_54 rfl
set_option maxRecDepth 100000 in
set_option maxHeartbeats 4000000 in
theorem c_X12_weightOf_4_b {G : ah_G}  (K4 : Nat → Int32 → Int32 → Int32 → ah_H → Option (Int32 × ah_H)) (hK4 : ∀ (x0 : Nat) (x1 : Int32) (x2 : Int32) (x3 : Int32) (σ : ah_H) (r : Int32 × ah_H), K4 x0 x1 x2 x3 σ = some r → AW G m_X12_weightOf 3 0 0 4 [(0, .ref x0), (1, .int x1), (2, .int x2), (3, .int x3)] [] σ (ah_N G (ah_ri r))) : ∀ (x0 : Nat) (x1 : Int32) (x2 : Int32) (x3 : Int32) (σ : ah_H) (r : Int32 × ah_H), f_X12_weightOf_4_b  K4 x0 x1 x2 x3 σ = some r → AW G m_X12_weightOf 3 0 0 4 [(0, .ref x0), (1, .int x1), (2, .int x2), (3, .int x3)] [] σ (ah_N G (ah_ri r)) := by
  intro x0 x1 x2 x3 σ r h
  unfold f_X12_weightOf_4_b at h
  refine aw_iload_n (pc := 4) 3 dX12_weightOf_4 rfl ?_
  refine aw_aload_n (pc := 5) 0 dX12_weightOf_5 rfl ?_
  obtain ⟨v1, e, h⟩ := op_bd h
  refine ow_gR (pc := 6) e dX12_weightOf_6 fd_X12_15 rfl ?_
  refine aw_iconst (pc := 9) (v := (0 : Int32)) dX12_weightOf_9 (by decide) ?_
  obtain ⟨v2, e, h⟩ := op_bd h
  refine ow_aI (pc := 10) e dX12_weightOf_10 ?_
  refine aw_icmp_ge (pc := 11) 42 dX12_weightOf_11 (by decide) (fun z => ?_) (fun z => ?_)
  · replace h := (if_pos z).symm.trans h
    refine aw_sub [0, 1, 2] rfl ?_
    exact c_X12_weightOf_42  _ _ _ _ _ h
  · replace h := (if_neg z).symm.trans h
    refine aw_iload_n (pc := 14) 2 dX12_weightOf_14 rfl ?_
    refine aw_aload_n (pc := 15) 0 dX12_weightOf_15 rfl ?_
    refine aw_iload_n (pc := 16) 3 dX12_weightOf_16 rfl ?_
    refine aw_iload_n (pc := 17) 1 dX12_weightOf_17 rfl ?_
    obtain ⟨r3, e, h⟩ := op_bd h
    refine ow_cVi (pc := 18) [.int x3, .int x1] ((c_X12_comesThrough _ _ _ _ _ e).mono (by decide)) (op_ck_sh e) rfl dX12_weightOf_18 cw_X12_569 rfl (Nat.le_of_ble_eq_true rfl) ?_
    refine aw_if_eq (pc := 21) 33 dX12_weightOf_21 (by decide) (fun z => ?_) (fun z => ?_)
    · replace h := (if_pos z).symm.trans h
      refine aw_iconst (pc := 33) (v := (0 : Int32)) dX12_weightOf_33 (by decide) ?_
      refine aw_sub [0, 1, 3] rfl ?_
      exact c_X12_weightOf_34 K4 hK4 _ _ _ _ _ _ _ h
    · replace h := (if_neg z).symm.trans h
      refine aw_aload_n (pc := 24) 0 dX12_weightOf_24 rfl ?_
      obtain ⟨v4, e, h⟩ := op_bd h
      refine ow_gR (pc := 25) e dX12_weightOf_25 fd_X12_24 rfl ?_
      refine aw_iload_n (pc := 28) 3 dX12_weightOf_28 rfl ?_
      obtain ⟨v5, e, h⟩ := op_bd h
      refine ow_aI (pc := 29) e dX12_weightOf_29 ?_
      refine aw_goto (pc := 30) 34 dX12_weightOf_30 (by decide) ?_
      refine aw_sub [0, 1, 3] rfl ?_
      exact c_X12_weightOf_34 K4 hK4 _ _ _ _ _ _ _ h
theorem c_X12_weightOf_4 {G : ah_G}   : ∀ (n : Nat) (x0 : Nat) (x1 : Int32) (x2 : Int32) (x3 : Int32) (σ : ah_H) (r : Int32 × ah_H), f_X12_weightOf_4   n x0 x1 x2 x3 σ = some r → AW G m_X12_weightOf 3 0 0 4 [(0, .ref x0), (1, .int x1), (2, .int x2), (3, .int x3)] [] σ (ah_N G (ah_ri r)) := by
  intro n
  induction n with
  | zero => intro x0 x1 x2 x3 σ r h; cases h
  | succ n ih => intro x0 x1 x2 x3 σ r h; exact c_X12_weightOf_4_b   _ ih x0 x1 x2 x3 σ r h
set_option maxRecDepth 100000 in
set_option maxHeartbeats 4000000 in
theorem c_X12_weightOf_0 {G : ah_G}   : ∀ (x0 : Nat) (x1 : Int32) (σ : ah_H) (r : Int32 × ah_H), f_X12_weightOf_0   x0 x1 σ = some r → AW G m_X12_weightOf 3 0 0 0 [(0, .ref x0), (1, .int x1)] [] σ (ah_N G (ah_ri r)) := by
  intro x0 x1 σ r h
  unfold f_X12_weightOf_0 at h
  refine aw_iconst (pc := 0) (v := (0 : Int32)) dX12_weightOf_0 (by decide) ?_
  refine aw_istore_n (pc := 1) [(2, .int (0 : Int32)), (0, .ref x0), (1, .int x1)] dX12_weightOf_1 rfl (by decide) rfl ?_
  refine aw_iconst (pc := 2) (v := (0 : Int32)) dX12_weightOf_2 (by decide) ?_
  refine aw_istore_n (pc := 3) [(3, .int (0 : Int32)), (2, .int (0 : Int32)), (0, .ref x0), (1, .int x1)] dX12_weightOf_3 rfl (by decide) rfl ?_
  refine aw_sub [2, 3, 1, 0] rfl ?_
  exact c_X12_weightOf_4  _ _ _ _ _ _ _ h
theorem c_X12_weightOf {G : ah_G}   (x0 : Nat) (x1 : Int32) (σ : ah_H) (r : Int32 × ah_H) (h : f_X12_weightOf  x0 x1 σ = some r) : AM G m_X12_weightOf 3 0 0 [.ref x0, .int x1] σ (ah_ri r) := aw_enter (by decide) (Nat.le_of_ble_eq_true rfl) (c_X12_weightOf_0 _ _ _ _ (op_ck_k h))
def f_X12_first_63  (K25 : Nat → Int32 → Int32 → Int32 → ah_H → Option (Int32 × ah_H)) (x0 : Nat) (x1 : Int32) (x2 : Int32) (x3 : Int32) (σ : ah_H) : Option (Int32 × ah_H) :=
  K25 x0 x1 x2 (x3 + (1 : Int32)) σ
def f_X12_first_61  (K25 : Nat → Int32 → Int32 → Int32 → ah_H → Option (Int32 × ah_H)) (x0 : Nat) (x1 : Int32) (x3 : Int32) (σ : ah_H) : Option (Int32 × ah_H) :=
  f_X12_first_63 K25 x0 x1 x3 x3 σ
def f_X12_first_69   (x0 : Nat) (x1 : Int32) (x2 : Int32) (σ : ah_H) : Option (Int32 × ah_H) :=
  if x2 = (-1 : Int32) then (some ((-1 : Int32), σ)) else (if x1 = 0 then (some (x2, σ)) else ((f_X12_weightOf x0 x2 σ).bind fun r1 => some (r1.1, r1.2)))
def f_X12_first_25_b  (K25 : Nat → Int32 → Int32 → Int32 → ah_H → Option (Int32 × ah_H)) (x0 : Nat) (x1 : Int32) (x2 : Int32) (x3 : Int32) (σ : ah_H) : Option (Int32 × ah_H) :=
  (op_gR 12 3 σ x0).bind fun v1 => (op_aI σ v1 (0 : Int32)).bind fun v2 => if v2 ≤ x3 then (f_X12_first_69 x0 x1 x2 σ) else ((f_X12_isLaid x0 x3 σ).bind fun r3 => if r3.1 = 0 then (f_X12_first_63 K25 x0 x1 x2 x3 r3.2) else (if x2 = (-1 : Int32) then (f_X12_first_61 K25 x0 x1 x3 r3.2) else ((f_X12_weightOf x0 x3 r3.2).bind fun r4 => (f_X12_weightOf x0 x2 r4.2).bind fun r5 => if r4.1 ≤ r5.1 then (f_X12_first_63 K25 x0 x1 x2 x3 r5.2) else (f_X12_first_61 K25 x0 x1 x3 r5.2))))
def f_X12_first_25   : Nat → Nat → Int32 → Int32 → Int32 → ah_H → Option (Int32 × ah_H)
  | 0, _, _, _, _, _ => none
  | n + 1, x0, x1, x2, x3, σ => f_X12_first_25_b (f_X12_first_25 n) x0 x1 x2 x3 σ
def f_X12_first_0   (x0 : Nat) (x1 : Int32) (σ : ah_H) : Option (Int32 × ah_H) :=
  (op_pI 12 0 σ x0 (0 : Int32)).bind fun σ1 => (op_pI 12 42 σ1 x0 (0 : Int32)).bind fun σ2 => if x1 < 0 then (some ((-1 : Int32), σ2)) else (if x1 ≤ (1 : Int32) then (f_X12_first_25 5000 x0 x1 (-1 : Int32) (0 : Int32) σ2) else (some ((-1 : Int32), σ2)))
def f_X12_first  (x0 : Nat) (x1 : Int32) (σ : ah_H) : Option (Int32 × ah_H) := op_ck 12 σ x0 (f_X12_first_0 x0 x1 σ)
set_option maxRecDepth 100000 in
set_option maxHeartbeats 4000000 in
theorem c_X12_first_63 {G : ah_G}  (K25 : Nat → Int32 → Int32 → Int32 → ah_H → Option (Int32 × ah_H)) (hK25 : ∀ (x0 : Nat) (x1 : Int32) (x2 : Int32) (x3 : Int32) (σ : ah_H) (r : Int32 × ah_H), K25 x0 x1 x2 x3 σ = some r → AW G m_X12_first 4 0 0 25 [(0, .ref x0), (1, .int x1), (2, .int x2), (3, .int x3)] [] σ (ah_N G (ah_ri r))) : ∀ (x0 : Nat) (x1 : Int32) (x2 : Int32) (x3 : Int32) (σ : ah_H) (r : Int32 × ah_H), f_X12_first_63  K25 x0 x1 x2 x3 σ = some r → AW G m_X12_first 4 0 0 63 [(0, .ref x0), (1, .int x1), (2, .int x2), (3, .int x3)] [] σ (ah_N G (ah_ri r)) := by
  intro x0 x1 x2 x3 σ r h
  unfold f_X12_first_63 at h
  refine aw_iinc (pc := 63) 3 [(3, .int (x3 + (1 : Int32))), (0, .ref x0), (1, .int x1), (2, .int x2)] (x3 + (1 : Int32)) dX12_first_63 rfl rfl (by decide) rfl ?_
  refine aw_goto (pc := 66) 25 dX12_first_66 (by decide) ?_
  refine aw_sub [1, 2, 3, 0] rfl ?_
  exact hK25 _ _ _ _ _ _ h
set_option maxRecDepth 100000 in
set_option maxHeartbeats 4000000 in
theorem c_X12_first_61 {G : ah_G}  (K25 : Nat → Int32 → Int32 → Int32 → ah_H → Option (Int32 × ah_H)) (hK25 : ∀ (x0 : Nat) (x1 : Int32) (x2 : Int32) (x3 : Int32) (σ : ah_H) (r : Int32 × ah_H), K25 x0 x1 x2 x3 σ = some r → AW G m_X12_first 4 0 0 25 [(0, .ref x0), (1, .int x1), (2, .int x2), (3, .int x3)] [] σ (ah_N G (ah_ri r))) : ∀ (x0 : Nat) (x1 : Int32) (x3 : Int32) (σ : ah_H) (r : Int32 × ah_H), f_X12_first_61  K25 x0 x1 x3 σ = some r → AW G m_X12_first 4 0 0 61 [(0, .ref x0), (1, .int x1), (3, .int x3)] [] σ (ah_N G (ah_ri r)) := by
  intro x0 x1 x3 σ r h
  unfold f_X12_first_61 at h
  refine aw_iload_n (pc := 61) 2 dX12_first_61 rfl ?_
  refine aw_istore_n (pc := 62) [(2, .int x3), (0, .ref x0), (1, .int x1), (3, .int x3)] dX12_first_62 rfl (by decide) rfl ?_
  refine aw_sub [1, 2, 0, 3] rfl ?_
  exact c_X12_first_63 K25 hK25 _ _ _ _ _ _ h
set_option maxRecDepth 100000 in
set_option maxHeartbeats 4000000 in
theorem c_X12_first_69 {G : ah_G}   : ∀ (x0 : Nat) (x1 : Int32) (x2 : Int32) (σ : ah_H) (r : Int32 × ah_H), f_X12_first_69   x0 x1 x2 σ = some r → AW G m_X12_first 4 0 0 69 [(0, .ref x0), (1, .int x1), (2, .int x2)] [] σ (ah_N G (ah_ri r)) := by
  intro x0 x1 x2 σ r h
  unfold f_X12_first_69 at h
  refine aw_iload_n (pc := 69) 2 dX12_first_69 rfl ?_
  refine aw_iconst (pc := 70) (v := (-1 : Int32)) dX12_first_70 (by decide) ?_
  refine aw_icmp_ne (pc := 71) 78 dX12_first_71 (by decide) (fun z => ?_) (fun z => ?_)
  · replace h := (if_neg z).symm.trans h
    refine aw_iload_n (pc := 78) 1 dX12_first_78 rfl ?_
    refine aw_if_ne (pc := 79) 86 dX12_first_79 (by decide) (fun z => ?_) (fun z => ?_)
    · replace h := (if_neg z).symm.trans h
      refine aw_aload_n (pc := 86) 0 dX12_first_86 rfl ?_
      refine aw_iload_n (pc := 87) 2 dX12_first_87 rfl ?_
      obtain ⟨r1, e, h⟩ := op_bd h
      refine ow_cVi (pc := 88) [.int x2] ((c_X12_weightOf _ _ _ _ e).mono (by decide)) (op_ck_sh e) rfl dX12_first_88 cw_X12_572 rfl (Nat.le_of_ble_eq_true rfl) ?_
      exact ow_iret (pc := 91) h dX12_first_91 rfl
    · replace h := (if_pos z).symm.trans h
      refine aw_iload_n (pc := 82) 2 dX12_first_82 rfl ?_
      refine aw_goto (pc := 83) 91 dX12_first_83 (by decide) ?_
      exact ow_iret (pc := 91) h dX12_first_91 rfl
  · replace h := (if_pos z).symm.trans h
    refine aw_iconst (pc := 74) (v := (-1 : Int32)) dX12_first_74 (by decide) ?_
    refine aw_goto (pc := 75) 91 dX12_first_75 (by decide) ?_
    exact ow_iret (pc := 91) h dX12_first_91 rfl
set_option maxRecDepth 100000 in
set_option maxHeartbeats 4000000 in
theorem c_X12_first_25_b {G : ah_G}  (K25 : Nat → Int32 → Int32 → Int32 → ah_H → Option (Int32 × ah_H)) (hK25 : ∀ (x0 : Nat) (x1 : Int32) (x2 : Int32) (x3 : Int32) (σ : ah_H) (r : Int32 × ah_H), K25 x0 x1 x2 x3 σ = some r → AW G m_X12_first 4 0 0 25 [(0, .ref x0), (1, .int x1), (2, .int x2), (3, .int x3)] [] σ (ah_N G (ah_ri r))) : ∀ (x0 : Nat) (x1 : Int32) (x2 : Int32) (x3 : Int32) (σ : ah_H) (r : Int32 × ah_H), f_X12_first_25_b  K25 x0 x1 x2 x3 σ = some r → AW G m_X12_first 4 0 0 25 [(0, .ref x0), (1, .int x1), (2, .int x2), (3, .int x3)] [] σ (ah_N G (ah_ri r)) := by
  intro x0 x1 x2 x3 σ r h
  unfold f_X12_first_25_b at h
  refine aw_iload_n (pc := 25) 3 dX12_first_25 rfl ?_
  refine aw_aload_n (pc := 26) 0 dX12_first_26 rfl ?_
  obtain ⟨v1, e, h⟩ := op_bd h
  refine ow_gR (pc := 27) e dX12_first_27 fd_X12_15 rfl ?_
  refine aw_iconst (pc := 30) (v := (0 : Int32)) dX12_first_30 (by decide) ?_
  obtain ⟨v2, e, h⟩ := op_bd h
  refine ow_aI (pc := 31) e dX12_first_31 ?_
  refine aw_icmp_ge (pc := 32) 69 dX12_first_32 (by decide) (fun z => ?_) (fun z => ?_)
  · replace h := (if_pos z).symm.trans h
    refine aw_sub [0, 1, 2] rfl ?_
    exact c_X12_first_69  _ _ _ _ _ h
  · replace h := (if_neg z).symm.trans h
    refine aw_aload_n (pc := 35) 0 dX12_first_35 rfl ?_
    refine aw_iload_n (pc := 36) 3 dX12_first_36 rfl ?_
    obtain ⟨r3, e, h⟩ := op_bd h
    refine ow_cVi (pc := 37) [.int x3] ((c_X12_isLaid _ _ _ _ e).mono (by decide)) (op_ck_sh e) rfl dX12_first_37 cw_X12_380 rfl (Nat.le_of_ble_eq_true rfl) ?_
    refine aw_if_eq (pc := 40) 63 dX12_first_40 (by decide) (fun z => ?_) (fun z => ?_)
    · replace h := (if_pos z).symm.trans h
      exact c_X12_first_63 K25 hK25 _ _ _ _ _ _ h
    · replace h := (if_neg z).symm.trans h
      refine aw_iload_n (pc := 43) 2 dX12_first_43 rfl ?_
      refine aw_iconst (pc := 44) (v := (-1 : Int32)) dX12_first_44 (by decide) ?_
      refine aw_icmp_eq (pc := 45) 61 dX12_first_45 (by decide) (fun z => ?_) (fun z => ?_)
      · replace h := (if_pos z).symm.trans h
        refine aw_sub [0, 1, 3] rfl ?_
        exact c_X12_first_61 K25 hK25 _ _ _ _ _ h
      · replace h := (if_neg z).symm.trans h
        refine aw_aload_n (pc := 48) 0 dX12_first_48 rfl ?_
        refine aw_iload_n (pc := 49) 3 dX12_first_49 rfl ?_
        obtain ⟨r4, e, h⟩ := op_bd h
        refine ow_cVi (pc := 50) [.int x3] ((c_X12_weightOf _ _ _ _ e).mono (by decide)) (op_ck_sh e) rfl dX12_first_50 cw_X12_572 rfl (Nat.le_of_ble_eq_true rfl) ?_
        refine aw_aload_n (pc := 53) 0 dX12_first_53 rfl ?_
        refine aw_iload_n (pc := 54) 2 dX12_first_54 rfl ?_
        obtain ⟨r5, e, h⟩ := op_bd h
        refine ow_cVi (pc := 55) [.int x2] ((c_X12_weightOf _ _ _ _ e).mono (by decide)) (op_ck_sh e) rfl dX12_first_55 cw_X12_572 rfl (Nat.le_of_ble_eq_true rfl) ?_
        refine aw_icmp_le (pc := 58) 63 dX12_first_58 (by decide) (fun z => ?_) (fun z => ?_)
        · replace h := (if_pos z).symm.trans h
          exact c_X12_first_63 K25 hK25 _ _ _ _ _ _ h
        · replace h := (if_neg z).symm.trans h
          refine aw_sub [0, 1, 3] rfl ?_
          exact c_X12_first_61 K25 hK25 _ _ _ _ _ h
theorem c_X12_first_25 {G : ah_G}   : ∀ (n : Nat) (x0 : Nat) (x1 : Int32) (x2 : Int32) (x3 : Int32) (σ : ah_H) (r : Int32 × ah_H), f_X12_first_25   n x0 x1 x2 x3 σ = some r → AW G m_X12_first 4 0 0 25 [(0, .ref x0), (1, .int x1), (2, .int x2), (3, .int x3)] [] σ (ah_N G (ah_ri r)) := by
  intro n
  induction n with
  | zero => intro x0 x1 x2 x3 σ r h; cases h
  | succ n ih => intro x0 x1 x2 x3 σ r h; exact c_X12_first_25_b   _ ih x0 x1 x2 x3 σ r h
set_option maxRecDepth 100000 in
set_option maxHeartbeats 4000000 in
theorem c_X12_first_0 {G : ah_G}   : ∀ (x0 : Nat) (x1 : Int32) (σ : ah_H) (r : Int32 × ah_H), f_X12_first_0   x0 x1 σ = some r → AW G m_X12_first 4 0 0 0 [(0, .ref x0), (1, .int x1)] [] σ (ah_N G (ah_ri r)) := by
  intro x0 x1 σ r h
  unfold f_X12_first_0 at h
  refine aw_aload_n (pc := 0) 0 dX12_first_0 rfl ?_
  refine aw_iconst (pc := 1) (v := (0 : Int32)) dX12_first_1 (by decide) ?_
  obtain ⟨σ1, e, h⟩ := op_bd h
  refine ow_pI (pc := 2) e dX12_first_2 fd_X12_153 ?_
  refine aw_aload_n (pc := 5) 0 dX12_first_5 rfl ?_
  refine aw_iconst (pc := 6) (v := (0 : Int32)) dX12_first_6 (by decide) ?_
  obtain ⟨σ2, e, h⟩ := op_bd h
  refine ow_pI (pc := 7) e dX12_first_7 fd_X12_371 ?_
  refine aw_iload_n (pc := 10) 1 dX12_first_10 rfl ?_
  refine aw_if_lt (pc := 11) 19 dX12_first_11 (by decide) (fun z => ?_) (fun z => ?_)
  · replace h := (if_pos z).symm.trans h
    refine aw_iconst (pc := 19) (v := (-1 : Int32)) dX12_first_19 (by decide) ?_
    exact ow_iret (pc := 20) h dX12_first_20 rfl
  · replace h := (if_neg z).symm.trans h
    refine aw_iload_n (pc := 14) 1 dX12_first_14 rfl ?_
    refine aw_iconst (pc := 15) (v := (1 : Int32)) dX12_first_15 (by decide) ?_
    refine aw_icmp_le (pc := 16) 21 dX12_first_16 (by decide) (fun z => ?_) (fun z => ?_)
    · replace h := (if_pos z).symm.trans h
      refine aw_iconst (pc := 21) (v := (-1 : Int32)) dX12_first_21 (by decide) ?_
      refine aw_istore_n (pc := 22) [(2, .int (-1 : Int32)), (0, .ref x0), (1, .int x1)] dX12_first_22 rfl (by decide) rfl ?_
      refine aw_iconst (pc := 23) (v := (0 : Int32)) dX12_first_23 (by decide) ?_
      refine aw_istore_n (pc := 24) [(3, .int (0 : Int32)), (2, .int (-1 : Int32)), (0, .ref x0), (1, .int x1)] dX12_first_24 rfl (by decide) rfl ?_
      refine aw_sub [2, 3, 1, 0] rfl ?_
      exact c_X12_first_25  _ _ _ _ _ _ _ h
    · replace h := (if_neg z).symm.trans h
      refine aw_iconst (pc := 19) (v := (-1 : Int32)) dX12_first_19 (by decide) ?_
      exact ow_iret (pc := 20) h dX12_first_20 rfl
theorem c_X12_first {G : ah_G}   (x0 : Nat) (x1 : Int32) (σ : ah_H) (r : Int32 × ah_H) (h : f_X12_first  x0 x1 σ = some r) : AM G m_X12_first 4 0 0 [.ref x0, .int x1] σ (ah_ri r) := aw_enter (by decide) (Nat.le_of_ble_eq_true rfl) (c_X12_first_0 _ _ _ _ (op_ck_k h))
def f_X12_laidMany_33  (K9 : Nat → Int32 → Int32 → ah_H → Option (Int32 × ah_H)) (x0 : Nat) (x2 : Int32) (s0 : Int32) (s1 : Int32) (σ : ah_H) : Option (Int32 × ah_H) :=
  K9 x0 (s0 + s1) (x2 + (1 : Int32)) σ
def f_X12_laidMany_9_b  (K9 : Nat → Int32 → Int32 → ah_H → Option (Int32 × ah_H)) (x0 : Nat) (x1 : Int32) (x2 : Int32) (σ : ah_H) : Option (Int32 × ah_H) :=
  (op_gR 12 3 σ x0).bind fun v1 => (op_aI σ v1 (0 : Int32)).bind fun v2 => if v2 ≤ x2 then (some (x1, σ)) else ((f_X12_isLaid x0 x2 σ).bind fun r3 => if r3.1 = 0 then (f_X12_laidMany_33 K9 x0 x2 x1 (0 : Int32) r3.2) else (f_X12_laidMany_33 K9 x0 x2 x1 (1 : Int32) r3.2))
def f_X12_laidMany_9   : Nat → Nat → Int32 → Int32 → ah_H → Option (Int32 × ah_H)
  | 0, _, _, _, _ => none
  | n + 1, x0, x1, x2, σ => f_X12_laidMany_9_b (f_X12_laidMany_9 n) x0 x1 x2 σ
def f_X12_laidMany_0   (x0 : Nat) (σ : ah_H) : Option (Int32 × ah_H) :=
  (op_pI 12 42 σ x0 (0 : Int32)).bind fun σ1 => f_X12_laidMany_9 5000 x0 (0 : Int32) (0 : Int32) σ1
def f_X12_laidMany  (x0 : Nat) (σ : ah_H) : Option (Int32 × ah_H) := op_ck 12 σ x0 (f_X12_laidMany_0 x0 σ)
set_option maxRecDepth 100000 in
set_option maxHeartbeats 4000000 in
theorem c_X12_laidMany_33 {G : ah_G}  (K9 : Nat → Int32 → Int32 → ah_H → Option (Int32 × ah_H)) (hK9 : ∀ (x0 : Nat) (x1 : Int32) (x2 : Int32) (σ : ah_H) (r : Int32 × ah_H), K9 x0 x1 x2 σ = some r → AW G m_X12_laidMany 1 0 0 9 [(0, .ref x0), (1, .int x1), (2, .int x2)] [] σ (ah_N G (ah_ri r))) : ∀ (x0 : Nat) (x2 : Int32) (s0 : Int32) (s1 : Int32) (σ : ah_H) (r : Int32 × ah_H), f_X12_laidMany_33  K9 x0 x2 s0 s1 σ = some r → AW G m_X12_laidMany 1 0 0 33 [(0, .ref x0), (2, .int x2)] [.int s1, .int s0] σ (ah_N G (ah_ri r)) := by
  intro x0 x2 s0 s1 σ r h
  unfold f_X12_laidMany_33 at h
  refine aw_iadd (pc := 33) dX12_laidMany_33 ?_
  refine aw_istore_n (pc := 34) [(1, .int (s0 + s1)), (0, .ref x0), (2, .int x2)] dX12_laidMany_34 rfl (by decide) rfl ?_
  refine aw_iinc (pc := 35) 2 [(2, .int (x2 + (1 : Int32))), (1, .int (s0 + s1)), (0, .ref x0)] (x2 + (1 : Int32)) dX12_laidMany_35 rfl rfl (by decide) rfl ?_
  refine aw_goto (pc := 38) 9 dX12_laidMany_38 (by decide) ?_
  refine aw_sub [2, 1, 0] rfl ?_
  exact hK9 _ _ _ _ _ h
set_option maxRecDepth 100000 in
set_option maxHeartbeats 4000000 in
theorem c_X12_laidMany_9_b {G : ah_G}  (K9 : Nat → Int32 → Int32 → ah_H → Option (Int32 × ah_H)) (hK9 : ∀ (x0 : Nat) (x1 : Int32) (x2 : Int32) (σ : ah_H) (r : Int32 × ah_H), K9 x0 x1 x2 σ = some r → AW G m_X12_laidMany 1 0 0 9 [(0, .ref x0), (1, .int x1), (2, .int x2)] [] σ (ah_N G (ah_ri r))) : ∀ (x0 : Nat) (x1 : Int32) (x2 : Int32) (σ : ah_H) (r : Int32 × ah_H), f_X12_laidMany_9_b  K9 x0 x1 x2 σ = some r → AW G m_X12_laidMany 1 0 0 9 [(0, .ref x0), (1, .int x1), (2, .int x2)] [] σ (ah_N G (ah_ri r)) := by
  intro x0 x1 x2 σ r h
  unfold f_X12_laidMany_9_b at h
  refine aw_iload_n (pc := 9) 2 dX12_laidMany_9 rfl ?_
  refine aw_aload_n (pc := 10) 0 dX12_laidMany_10 rfl ?_
  obtain ⟨v1, e, h⟩ := op_bd h
  refine ow_gR (pc := 11) e dX12_laidMany_11 fd_X12_15 rfl ?_
  refine aw_iconst (pc := 14) (v := (0 : Int32)) dX12_laidMany_14 (by decide) ?_
  obtain ⟨v2, e, h⟩ := op_bd h
  refine ow_aI (pc := 15) e dX12_laidMany_15 ?_
  refine aw_icmp_ge (pc := 16) 41 dX12_laidMany_16 (by decide) (fun z => ?_) (fun z => ?_)
  · replace h := (if_pos z).symm.trans h
    refine aw_iload_n (pc := 41) 1 dX12_laidMany_41 rfl ?_
    exact ow_iret (pc := 42) h dX12_laidMany_42 rfl
  · replace h := (if_neg z).symm.trans h
    refine aw_iload_n (pc := 19) 1 dX12_laidMany_19 rfl ?_
    refine aw_aload_n (pc := 20) 0 dX12_laidMany_20 rfl ?_
    refine aw_iload_n (pc := 21) 2 dX12_laidMany_21 rfl ?_
    obtain ⟨r3, e, h⟩ := op_bd h
    refine ow_cVi (pc := 22) [.int x2] ((c_X12_isLaid _ _ _ _ e).mono (by decide)) (op_ck_sh e) rfl dX12_laidMany_22 cw_X12_380 rfl (Nat.le_of_ble_eq_true rfl) ?_
    refine aw_if_eq (pc := 25) 32 dX12_laidMany_25 (by decide) (fun z => ?_) (fun z => ?_)
    · replace h := (if_pos z).symm.trans h
      refine aw_iconst (pc := 32) (v := (0 : Int32)) dX12_laidMany_32 (by decide) ?_
      refine aw_sub [0, 2] rfl ?_
      exact c_X12_laidMany_33 K9 hK9 _ _ _ _ _ _ h
    · replace h := (if_neg z).symm.trans h
      refine aw_iconst (pc := 28) (v := (1 : Int32)) dX12_laidMany_28 (by decide) ?_
      refine aw_goto (pc := 29) 33 dX12_laidMany_29 (by decide) ?_
      refine aw_sub [0, 2] rfl ?_
      exact c_X12_laidMany_33 K9 hK9 _ _ _ _ _ _ h
theorem c_X12_laidMany_9 {G : ah_G}   : ∀ (n : Nat) (x0 : Nat) (x1 : Int32) (x2 : Int32) (σ : ah_H) (r : Int32 × ah_H), f_X12_laidMany_9   n x0 x1 x2 σ = some r → AW G m_X12_laidMany 1 0 0 9 [(0, .ref x0), (1, .int x1), (2, .int x2)] [] σ (ah_N G (ah_ri r)) := by
  intro n
  induction n with
  | zero => intro x0 x1 x2 σ r h; cases h
  | succ n ih => intro x0 x1 x2 σ r h; exact c_X12_laidMany_9_b   _ ih x0 x1 x2 σ r h
set_option maxRecDepth 100000 in
set_option maxHeartbeats 4000000 in
theorem c_X12_laidMany_0 {G : ah_G}   : ∀ (x0 : Nat) (σ : ah_H) (r : Int32 × ah_H), f_X12_laidMany_0   x0 σ = some r → AW G m_X12_laidMany 1 0 0 0 [(0, .ref x0)] [] σ (ah_N G (ah_ri r)) := by
  intro x0 σ r h
  unfold f_X12_laidMany_0 at h
  refine aw_aload_n (pc := 0) 0 dX12_laidMany_0 rfl ?_
  refine aw_iconst (pc := 1) (v := (0 : Int32)) dX12_laidMany_1 (by decide) ?_
  obtain ⟨σ1, e, h⟩ := op_bd h
  refine ow_pI (pc := 2) e dX12_laidMany_2 fd_X12_371 ?_
  refine aw_iconst (pc := 5) (v := (0 : Int32)) dX12_laidMany_5 (by decide) ?_
  refine aw_istore_n (pc := 6) [(1, .int (0 : Int32)), (0, .ref x0)] dX12_laidMany_6 rfl (by decide) rfl ?_
  refine aw_iconst (pc := 7) (v := (0 : Int32)) dX12_laidMany_7 (by decide) ?_
  refine aw_istore_n (pc := 8) [(2, .int (0 : Int32)), (1, .int (0 : Int32)), (0, .ref x0)] dX12_laidMany_8 rfl (by decide) rfl ?_
  refine aw_sub [2, 1, 0] rfl ?_
  exact c_X12_laidMany_9  _ _ _ _ _ _ h
theorem c_X12_laidMany {G : ah_G}   (x0 : Nat) (σ : ah_H) (r : Int32 × ah_H) (h : f_X12_laidMany  x0 σ = some r) : AM G m_X12_laidMany 1 0 0 [.ref x0] σ (ah_ri r) := aw_enter (by decide) (Nat.le_of_ble_eq_true rfl) (c_X12_laidMany_0 _ _ _ (op_ck_k h))
def f_X12_undo_118   (x0 : Nat) (σ : ah_H) : Option (Int32 × ah_H) :=
  (op_gI 12 52 σ x0).bind fun v1 => some (v1, σ)
def f_X12_undo_26_b  (K26 : Nat → Int32 → ah_H → Option (Int32 × ah_H)) (x0 : Nat) (x1 : Int32) (σ : ah_H) : Option (Int32 × ah_H) :=
  if (7 : Int32) ≤ x1 then (f_X12_undo_118 x0 σ) else ((op_gR 12 38 σ x0).bind fun v1 => (op_gR 12 48 σ x0).bind fun v2 => (op_gI 12 52 σ x0).bind fun v3 => (op_aI σ v2 (((7 : Int32) * v3) + x1)).bind fun v4 => (op_sI σ v1 x1 v4).bind fun σ5 => (op_gR 12 39 σ5 x0).bind fun v6 => (op_gR 12 49 σ5 x0).bind fun v7 => (op_gI 12 52 σ5 x0).bind fun v8 => (op_aI σ5 v7 (((7 : Int32) * v8) + x1)).bind fun v9 => (op_sI σ5 v6 x1 v9).bind fun σ10 => (op_gR 12 40 σ10 x0).bind fun v11 => (op_gR 12 50 σ10 x0).bind fun v12 => (op_gI 12 52 σ10 x0).bind fun v13 => (op_aI σ10 v12 (((7 : Int32) * v13) + x1)).bind fun v14 => (op_sI σ10 v11 x1 v14).bind fun σ15 => (op_gR 12 41 σ15 x0).bind fun v16 => (op_gR 12 51 σ15 x0).bind fun v17 => (op_gI 12 52 σ15 x0).bind fun v18 => (op_aI σ15 v17 (((7 : Int32) * v18) + x1)).bind fun v19 => (op_sI σ15 v16 x1 v19).bind fun σ20 => K26 x0 (x1 + (1 : Int32)) σ20)
def f_X12_undo_26   : Nat → Nat → Int32 → ah_H → Option (Int32 × ah_H)
  | 0, _, _, _ => none
  | n + 1, x0, x1, σ => f_X12_undo_26_b (f_X12_undo_26 n) x0 x1 σ
def f_X12_undo_0   (x0 : Nat) (σ : ah_H) : Option (Int32 × ah_H) :=
  (op_pI 12 0 σ x0 (0 : Int32)).bind fun σ1 => (op_gI 12 52 σ1 x0).bind fun v2 => if v2 = 0 then (some ((-1 : Int32), σ1)) else ((op_gI 12 52 σ1 x0).bind fun v3 => (op_pI 12 52 σ1 x0 (v3 - (1 : Int32))).bind fun σ4 => f_X12_undo_26 5000 x0 (0 : Int32) σ4)
def f_X12_undo  (x0 : Nat) (σ : ah_H) : Option (Int32 × ah_H) := op_ck 12 σ x0 (f_X12_undo_0 x0 σ)
set_option maxRecDepth 100000 in
set_option maxHeartbeats 4000000 in
theorem c_X12_undo_118 {G : ah_G}   : ∀ (x0 : Nat) (σ : ah_H) (r : Int32 × ah_H), f_X12_undo_118   x0 σ = some r → AW G m_X12_undo 0 0 0 118 [(0, .ref x0)] [] σ (ah_N G (ah_ri r)) := by
  intro x0 σ r h
  unfold f_X12_undo_118 at h
  refine aw_aload_n (pc := 118) 0 dX12_undo_118 rfl ?_
  obtain ⟨v1, e, h⟩ := op_bd h
  refine ow_gI (pc := 119) e dX12_undo_119 fd_X12_320 rfl ?_
  exact ow_iret (pc := 122) h dX12_undo_122 rfl
set_option maxRecDepth 100000 in
set_option maxHeartbeats 4000000 in
theorem c_X12_undo_26_b {G : ah_G}  (K26 : Nat → Int32 → ah_H → Option (Int32 × ah_H)) (hK26 : ∀ (x0 : Nat) (x1 : Int32) (σ : ah_H) (r : Int32 × ah_H), K26 x0 x1 σ = some r → AW G m_X12_undo 0 0 0 26 [(0, .ref x0), (1, .int x1)] [] σ (ah_N G (ah_ri r))) : ∀ (x0 : Nat) (x1 : Int32) (σ : ah_H) (r : Int32 × ah_H), f_X12_undo_26_b  K26 x0 x1 σ = some r → AW G m_X12_undo 0 0 0 26 [(0, .ref x0), (1, .int x1)] [] σ (ah_N G (ah_ri r)) := by
  intro x0 x1 σ r h
  unfold f_X12_undo_26_b at h
  refine aw_iload_n (pc := 26) 1 dX12_undo_26 rfl ?_
  refine aw_bipush (pc := 27) (v := (7 : Int32)) dX12_undo_27 (by decide) ?_
  refine aw_icmp_ge (pc := 29) 118 dX12_undo_29 (by decide) (fun z => ?_) (fun z => ?_)
  · replace h := (if_pos z).symm.trans h
    refine aw_sub [0] rfl ?_
    exact c_X12_undo_118  _ _ _ h
  · replace h := (if_neg z).symm.trans h
    refine aw_aload_n (pc := 32) 0 dX12_undo_32 rfl ?_
    obtain ⟨v1, e, h⟩ := op_bd h
    refine ow_gR (pc := 33) e dX12_undo_33 fd_X12_83 rfl ?_
    refine aw_iload_n (pc := 36) 1 dX12_undo_36 rfl ?_
    refine aw_aload_n (pc := 37) 0 dX12_undo_37 rfl ?_
    obtain ⟨v2, e, h⟩ := op_bd h
    refine ow_gR (pc := 38) e dX12_undo_38 fd_X12_105 rfl ?_
    refine aw_bipush (pc := 41) (v := (7 : Int32)) dX12_undo_41 (by decide) ?_
    refine aw_aload_n (pc := 43) 0 dX12_undo_43 rfl ?_
    obtain ⟨v3, e, h⟩ := op_bd h
    refine ow_gI (pc := 44) e dX12_undo_44 fd_X12_320 rfl ?_
    refine aw_imul (pc := 47) dX12_undo_47 ?_
    refine aw_iload_n (pc := 48) 1 dX12_undo_48 rfl ?_
    refine aw_iadd (pc := 49) dX12_undo_49 ?_
    obtain ⟨v4, e, h⟩ := op_bd h
    refine ow_aI (pc := 50) e dX12_undo_50 ?_
    obtain ⟨σ5, e, h⟩ := op_bd h
    refine ow_sI (pc := 51) e dX12_undo_51 ?_
    refine aw_aload_n (pc := 52) 0 dX12_undo_52 rfl ?_
    obtain ⟨v6, e, h⟩ := op_bd h
    refine ow_gR (pc := 53) e dX12_undo_53 fd_X12_86 rfl ?_
    refine aw_iload_n (pc := 56) 1 dX12_undo_56 rfl ?_
    refine aw_aload_n (pc := 57) 0 dX12_undo_57 rfl ?_
    obtain ⟨v7, e, h⟩ := op_bd h
    refine ow_gR (pc := 58) e dX12_undo_58 fd_X12_108 rfl ?_
    refine aw_bipush (pc := 61) (v := (7 : Int32)) dX12_undo_61 (by decide) ?_
    refine aw_aload_n (pc := 63) 0 dX12_undo_63 rfl ?_
    obtain ⟨v8, e, h⟩ := op_bd h
    refine ow_gI (pc := 64) e dX12_undo_64 fd_X12_320 rfl ?_
    refine aw_imul (pc := 67) dX12_undo_67 ?_
    refine aw_iload_n (pc := 68) 1 dX12_undo_68 rfl ?_
    refine aw_iadd (pc := 69) dX12_undo_69 ?_
    obtain ⟨v9, e, h⟩ := op_bd h
    refine ow_aI (pc := 70) e dX12_undo_70 ?_
    obtain ⟨σ10, e, h⟩ := op_bd h
    refine ow_sI (pc := 71) e dX12_undo_71 ?_
    refine aw_aload_n (pc := 72) 0 dX12_undo_72 rfl ?_
    obtain ⟨v11, e, h⟩ := op_bd h
    refine ow_gR (pc := 73) e dX12_undo_73 fd_X12_89 rfl ?_
    refine aw_iload_n (pc := 76) 1 dX12_undo_76 rfl ?_
    refine aw_aload_n (pc := 77) 0 dX12_undo_77 rfl ?_
    obtain ⟨v12, e, h⟩ := op_bd h
    refine ow_gR (pc := 78) e dX12_undo_78 fd_X12_111 rfl ?_
    refine aw_bipush (pc := 81) (v := (7 : Int32)) dX12_undo_81 (by decide) ?_
    refine aw_aload_n (pc := 83) 0 dX12_undo_83 rfl ?_
    obtain ⟨v13, e, h⟩ := op_bd h
    refine ow_gI (pc := 84) e dX12_undo_84 fd_X12_320 rfl ?_
    refine aw_imul (pc := 87) dX12_undo_87 ?_
    refine aw_iload_n (pc := 88) 1 dX12_undo_88 rfl ?_
    refine aw_iadd (pc := 89) dX12_undo_89 ?_
    obtain ⟨v14, e, h⟩ := op_bd h
    refine ow_aI (pc := 90) e dX12_undo_90 ?_
    obtain ⟨σ15, e, h⟩ := op_bd h
    refine ow_sI (pc := 91) e dX12_undo_91 ?_
    refine aw_aload_n (pc := 92) 0 dX12_undo_92 rfl ?_
    obtain ⟨v16, e, h⟩ := op_bd h
    refine ow_gR (pc := 93) e dX12_undo_93 fd_X12_92 rfl ?_
    refine aw_iload_n (pc := 96) 1 dX12_undo_96 rfl ?_
    refine aw_aload_n (pc := 97) 0 dX12_undo_97 rfl ?_
    obtain ⟨v17, e, h⟩ := op_bd h
    refine ow_gR (pc := 98) e dX12_undo_98 fd_X12_114 rfl ?_
    refine aw_bipush (pc := 101) (v := (7 : Int32)) dX12_undo_101 (by decide) ?_
    refine aw_aload_n (pc := 103) 0 dX12_undo_103 rfl ?_
    obtain ⟨v18, e, h⟩ := op_bd h
    refine ow_gI (pc := 104) e dX12_undo_104 fd_X12_320 rfl ?_
    refine aw_imul (pc := 107) dX12_undo_107 ?_
    refine aw_iload_n (pc := 108) 1 dX12_undo_108 rfl ?_
    refine aw_iadd (pc := 109) dX12_undo_109 ?_
    obtain ⟨v19, e, h⟩ := op_bd h
    refine ow_aI (pc := 110) e dX12_undo_110 ?_
    obtain ⟨σ20, e, h⟩ := op_bd h
    refine ow_sI (pc := 111) e dX12_undo_111 ?_
    refine aw_iinc (pc := 112) 1 [(1, .int (x1 + (1 : Int32))), (0, .ref x0)] (x1 + (1 : Int32)) dX12_undo_112 rfl rfl (by decide) rfl ?_
    refine aw_goto (pc := 115) 26 dX12_undo_115 (by decide) ?_
    refine aw_sub [1, 0] rfl ?_
    exact hK26 _ _ _ _ h
theorem c_X12_undo_26 {G : ah_G}   : ∀ (n : Nat) (x0 : Nat) (x1 : Int32) (σ : ah_H) (r : Int32 × ah_H), f_X12_undo_26   n x0 x1 σ = some r → AW G m_X12_undo 0 0 0 26 [(0, .ref x0), (1, .int x1)] [] σ (ah_N G (ah_ri r)) := by
  intro n
  induction n with
  | zero => intro x0 x1 σ r h; cases h
  | succ n ih => intro x0 x1 σ r h; exact c_X12_undo_26_b   _ ih x0 x1 σ r h
set_option maxRecDepth 100000 in
set_option maxHeartbeats 4000000 in
theorem c_X12_undo_0 {G : ah_G}   : ∀ (x0 : Nat) (σ : ah_H) (r : Int32 × ah_H), f_X12_undo_0   x0 σ = some r → AW G m_X12_undo 0 0 0 0 [(0, .ref x0)] [] σ (ah_N G (ah_ri r)) := by
  intro x0 σ r h
  unfold f_X12_undo_0 at h
  refine aw_aload_n (pc := 0) 0 dX12_undo_0 rfl ?_
  refine aw_iconst (pc := 1) (v := (0 : Int32)) dX12_undo_1 (by decide) ?_
  obtain ⟨σ1, e, h⟩ := op_bd h
  refine ow_pI (pc := 2) e dX12_undo_2 fd_X12_153 ?_
  refine aw_aload_n (pc := 5) 0 dX12_undo_5 rfl ?_
  obtain ⟨v2, e, h⟩ := op_bd h
  refine ow_gI (pc := 6) e dX12_undo_6 fd_X12_320 rfl ?_
  refine aw_if_ne (pc := 9) 14 dX12_undo_9 (by decide) (fun z => ?_) (fun z => ?_)
  · replace h := (if_neg z).symm.trans h
    refine aw_aload_n (pc := 14) 0 dX12_undo_14 rfl ?_
    refine aw_dup (pc := 15) dX12_undo_15 rfl ?_
    obtain ⟨v3, e, h⟩ := op_bd h
    refine ow_gI (pc := 16) e dX12_undo_16 fd_X12_320 rfl ?_
    refine aw_iconst (pc := 19) (v := (1 : Int32)) dX12_undo_19 (by decide) ?_
    refine aw_isub (pc := 20) dX12_undo_20 ?_
    obtain ⟨σ4, e, h⟩ := op_bd h
    refine ow_pI (pc := 21) e dX12_undo_21 fd_X12_320 ?_
    refine aw_iconst (pc := 24) (v := (0 : Int32)) dX12_undo_24 (by decide) ?_
    refine aw_istore_n (pc := 25) [(1, .int (0 : Int32)), (0, .ref x0)] dX12_undo_25 rfl (by decide) rfl ?_
    refine aw_sub [1, 0] rfl ?_
    exact c_X12_undo_26  _ _ _ _ _ h
  · replace h := (if_pos z).symm.trans h
    refine aw_iconst (pc := 12) (v := (-1 : Int32)) dX12_undo_12 (by decide) ?_
    exact ow_iret (pc := 13) h dX12_undo_13 rfl
theorem c_X12_undo {G : ah_G}   (x0 : Nat) (σ : ah_H) (r : Int32 × ah_H) (h : f_X12_undo  x0 σ = some r) : AM G m_X12_undo 0 0 0 [.ref x0] σ (ah_ri r) := aw_enter (by decide) (Nat.le_of_ble_eq_true rfl) (c_X12_undo_0 _ _ _ (op_ck_k h))
def f_X12_keep_67   (x0 : Nat) (σ : ah_H) : Option (Int32 × ah_H) :=
  (op_pZ 12 57 σ x0 (1 : Int32)).bind fun σ1 => (f_X12_laidMany x0 σ1).bind fun r2 => some (r2.1, r2.2)
def f_X12_keep_7_b  (K7 : Nat → Int32 → ah_H → Option (Int32 × ah_H)) (x0 : Nat) (x1 : Int32) (σ : ah_H) : Option (Int32 × ah_H) :=
  if (7 : Int32) ≤ x1 then (f_X12_keep_67 x0 σ) else ((op_gR 12 53 σ x0).bind fun v1 => (op_gR 12 38 σ x0).bind fun v2 => (op_aI σ v2 x1).bind fun v3 => (op_sI σ v1 x1 v3).bind fun σ4 => (op_gR 12 54 σ4 x0).bind fun v5 => (op_gR 12 39 σ4 x0).bind fun v6 => (op_aI σ4 v6 x1).bind fun v7 => (op_sI σ4 v5 x1 v7).bind fun σ8 => (op_gR 12 55 σ8 x0).bind fun v9 => (op_gR 12 40 σ8 x0).bind fun v10 => (op_aI σ8 v10 x1).bind fun v11 => (op_sI σ8 v9 x1 v11).bind fun σ12 => (op_gR 12 56 σ12 x0).bind fun v13 => (op_gR 12 41 σ12 x0).bind fun v14 => (op_aI σ12 v14 x1).bind fun v15 => (op_sI σ12 v13 x1 v15).bind fun σ16 => K7 x0 (x1 + (1 : Int32)) σ16)
def f_X12_keep_7   : Nat → Nat → Int32 → ah_H → Option (Int32 × ah_H)
  | 0, _, _, _ => none
  | n + 1, x0, x1, σ => f_X12_keep_7_b (f_X12_keep_7 n) x0 x1 σ
def f_X12_keep_0   (x0 : Nat) (σ : ah_H) : Option (Int32 × ah_H) :=
  (op_pI 12 0 σ x0 (0 : Int32)).bind fun σ1 => f_X12_keep_7 5000 x0 (0 : Int32) σ1
def f_X12_keep  (x0 : Nat) (σ : ah_H) : Option (Int32 × ah_H) := op_ck 12 σ x0 (f_X12_keep_0 x0 σ)
set_option maxRecDepth 100000 in
set_option maxHeartbeats 4000000 in
theorem c_X12_keep_67 {G : ah_G}   : ∀ (x0 : Nat) (σ : ah_H) (r : Int32 × ah_H), f_X12_keep_67   x0 σ = some r → AW G m_X12_keep 2 0 0 67 [(0, .ref x0)] [] σ (ah_N G (ah_ri r)) := by
  intro x0 σ r h
  unfold f_X12_keep_67 at h
  refine aw_aload_n (pc := 67) 0 dX12_keep_67 rfl ?_
  refine aw_iconst (pc := 68) (v := (1 : Int32)) dX12_keep_68 (by decide) ?_
  obtain ⟨σ1, e, h⟩ := op_bd h
  refine ow_pZ (pc := 69) e dX12_keep_69 fd_X12_323 ?_
  refine aw_aload_n (pc := 72) 0 dX12_keep_72 rfl ?_
  obtain ⟨r2, e, h⟩ := op_bd h
  refine ow_cVi (pc := 73) [] ((c_X12_laidMany _ _ _ e).mono (by decide)) (op_ck_sh e) rfl dX12_keep_73 cw_X12_575 rfl (Nat.le_of_ble_eq_true rfl) ?_
  exact ow_iret (pc := 76) h dX12_keep_76 rfl
set_option maxRecDepth 100000 in
set_option maxHeartbeats 4000000 in
theorem c_X12_keep_7_b {G : ah_G}  (K7 : Nat → Int32 → ah_H → Option (Int32 × ah_H)) (hK7 : ∀ (x0 : Nat) (x1 : Int32) (σ : ah_H) (r : Int32 × ah_H), K7 x0 x1 σ = some r → AW G m_X12_keep 2 0 0 7 [(0, .ref x0), (1, .int x1)] [] σ (ah_N G (ah_ri r))) : ∀ (x0 : Nat) (x1 : Int32) (σ : ah_H) (r : Int32 × ah_H), f_X12_keep_7_b  K7 x0 x1 σ = some r → AW G m_X12_keep 2 0 0 7 [(0, .ref x0), (1, .int x1)] [] σ (ah_N G (ah_ri r)) := by
  intro x0 x1 σ r h
  unfold f_X12_keep_7_b at h
  refine aw_iload_n (pc := 7) 1 dX12_keep_7 rfl ?_
  refine aw_bipush (pc := 8) (v := (7 : Int32)) dX12_keep_8 (by decide) ?_
  refine aw_icmp_ge (pc := 10) 67 dX12_keep_10 (by decide) (fun z => ?_) (fun z => ?_)
  · replace h := (if_pos z).symm.trans h
    refine aw_sub [0] rfl ?_
    exact c_X12_keep_67  _ _ _ h
  · replace h := (if_neg z).symm.trans h
    refine aw_aload_n (pc := 13) 0 dX12_keep_13 rfl ?_
    obtain ⟨v1, e, h⟩ := op_bd h
    refine ow_gR (pc := 14) e dX12_keep_14 fd_X12_117 rfl ?_
    refine aw_iload_n (pc := 17) 1 dX12_keep_17 rfl ?_
    refine aw_aload_n (pc := 18) 0 dX12_keep_18 rfl ?_
    obtain ⟨v2, e, h⟩ := op_bd h
    refine ow_gR (pc := 19) e dX12_keep_19 fd_X12_83 rfl ?_
    refine aw_iload_n (pc := 22) 1 dX12_keep_22 rfl ?_
    obtain ⟨v3, e, h⟩ := op_bd h
    refine ow_aI (pc := 23) e dX12_keep_23 ?_
    obtain ⟨σ4, e, h⟩ := op_bd h
    refine ow_sI (pc := 24) e dX12_keep_24 ?_
    refine aw_aload_n (pc := 25) 0 dX12_keep_25 rfl ?_
    obtain ⟨v5, e, h⟩ := op_bd h
    refine ow_gR (pc := 26) e dX12_keep_26 fd_X12_120 rfl ?_
    refine aw_iload_n (pc := 29) 1 dX12_keep_29 rfl ?_
    refine aw_aload_n (pc := 30) 0 dX12_keep_30 rfl ?_
    obtain ⟨v6, e, h⟩ := op_bd h
    refine ow_gR (pc := 31) e dX12_keep_31 fd_X12_86 rfl ?_
    refine aw_iload_n (pc := 34) 1 dX12_keep_34 rfl ?_
    obtain ⟨v7, e, h⟩ := op_bd h
    refine ow_aI (pc := 35) e dX12_keep_35 ?_
    obtain ⟨σ8, e, h⟩ := op_bd h
    refine ow_sI (pc := 36) e dX12_keep_36 ?_
    refine aw_aload_n (pc := 37) 0 dX12_keep_37 rfl ?_
    obtain ⟨v9, e, h⟩ := op_bd h
    refine ow_gR (pc := 38) e dX12_keep_38 fd_X12_123 rfl ?_
    refine aw_iload_n (pc := 41) 1 dX12_keep_41 rfl ?_
    refine aw_aload_n (pc := 42) 0 dX12_keep_42 rfl ?_
    obtain ⟨v10, e, h⟩ := op_bd h
    refine ow_gR (pc := 43) e dX12_keep_43 fd_X12_89 rfl ?_
    refine aw_iload_n (pc := 46) 1 dX12_keep_46 rfl ?_
    obtain ⟨v11, e, h⟩ := op_bd h
    refine ow_aI (pc := 47) e dX12_keep_47 ?_
    obtain ⟨σ12, e, h⟩ := op_bd h
    refine ow_sI (pc := 48) e dX12_keep_48 ?_
    refine aw_aload_n (pc := 49) 0 dX12_keep_49 rfl ?_
    obtain ⟨v13, e, h⟩ := op_bd h
    refine ow_gR (pc := 50) e dX12_keep_50 fd_X12_126 rfl ?_
    refine aw_iload_n (pc := 53) 1 dX12_keep_53 rfl ?_
    refine aw_aload_n (pc := 54) 0 dX12_keep_54 rfl ?_
    obtain ⟨v14, e, h⟩ := op_bd h
    refine ow_gR (pc := 55) e dX12_keep_55 fd_X12_92 rfl ?_
    refine aw_iload_n (pc := 58) 1 dX12_keep_58 rfl ?_
    obtain ⟨v15, e, h⟩ := op_bd h
    refine ow_aI (pc := 59) e dX12_keep_59 ?_
    obtain ⟨σ16, e, h⟩ := op_bd h
    refine ow_sI (pc := 60) e dX12_keep_60 ?_
    refine aw_iinc (pc := 61) 1 [(1, .int (x1 + (1 : Int32))), (0, .ref x0)] (x1 + (1 : Int32)) dX12_keep_61 rfl rfl (by decide) rfl ?_
    refine aw_goto (pc := 64) 7 dX12_keep_64 (by decide) ?_
    refine aw_sub [1, 0] rfl ?_
    exact hK7 _ _ _ _ h
theorem c_X12_keep_7 {G : ah_G}   : ∀ (n : Nat) (x0 : Nat) (x1 : Int32) (σ : ah_H) (r : Int32 × ah_H), f_X12_keep_7   n x0 x1 σ = some r → AW G m_X12_keep 2 0 0 7 [(0, .ref x0), (1, .int x1)] [] σ (ah_N G (ah_ri r)) := by
  intro n
  induction n with
  | zero => intro x0 x1 σ r h; cases h
  | succ n ih => intro x0 x1 σ r h; exact c_X12_keep_7_b   _ ih x0 x1 σ r h
set_option maxRecDepth 100000 in
set_option maxHeartbeats 4000000 in
theorem c_X12_keep_0 {G : ah_G}   : ∀ (x0 : Nat) (σ : ah_H) (r : Int32 × ah_H), f_X12_keep_0   x0 σ = some r → AW G m_X12_keep 2 0 0 0 [(0, .ref x0)] [] σ (ah_N G (ah_ri r)) := by
  intro x0 σ r h
  unfold f_X12_keep_0 at h
  refine aw_aload_n (pc := 0) 0 dX12_keep_0 rfl ?_
  refine aw_iconst (pc := 1) (v := (0 : Int32)) dX12_keep_1 (by decide) ?_
  obtain ⟨σ1, e, h⟩ := op_bd h
  refine ow_pI (pc := 2) e dX12_keep_2 fd_X12_153 ?_
  refine aw_iconst (pc := 5) (v := (0 : Int32)) dX12_keep_5 (by decide) ?_
  refine aw_istore_n (pc := 6) [(1, .int (0 : Int32)), (0, .ref x0)] dX12_keep_6 rfl (by decide) rfl ?_
  refine aw_sub [1, 0] rfl ?_
  exact c_X12_keep_7  _ _ _ _ _ h
theorem c_X12_keep {G : ah_G}   (x0 : Nat) (σ : ah_H) (r : Int32 × ah_H) (h : f_X12_keep  x0 σ = some r) : AM G m_X12_keep 2 0 0 [.ref x0] σ (ah_ri r) := aw_enter (by decide) (Nat.le_of_ble_eq_true rfl) (c_X12_keep_0 _ _ _ (op_ck_k h))
def f_X12_back_76   (x0 : Nat) (σ : ah_H) : Option (Int32 × ah_H) :=
  (op_pI 12 52 σ x0 (0 : Int32)).bind fun σ1 => (f_X12_laidMany x0 σ1).bind fun r2 => some (r2.1, r2.2)
def f_X12_back_16_b  (K16 : Nat → Int32 → ah_H → Option (Int32 × ah_H)) (x0 : Nat) (x1 : Int32) (σ : ah_H) : Option (Int32 × ah_H) :=
  if (7 : Int32) ≤ x1 then (f_X12_back_76 x0 σ) else ((op_gR 12 38 σ x0).bind fun v1 => (op_gR 12 53 σ x0).bind fun v2 => (op_aI σ v2 x1).bind fun v3 => (op_sI σ v1 x1 v3).bind fun σ4 => (op_gR 12 39 σ4 x0).bind fun v5 => (op_gR 12 54 σ4 x0).bind fun v6 => (op_aI σ4 v6 x1).bind fun v7 => (op_sI σ4 v5 x1 v7).bind fun σ8 => (op_gR 12 40 σ8 x0).bind fun v9 => (op_gR 12 55 σ8 x0).bind fun v10 => (op_aI σ8 v10 x1).bind fun v11 => (op_sI σ8 v9 x1 v11).bind fun σ12 => (op_gR 12 41 σ12 x0).bind fun v13 => (op_gR 12 56 σ12 x0).bind fun v14 => (op_aI σ12 v14 x1).bind fun v15 => (op_sI σ12 v13 x1 v15).bind fun σ16 => K16 x0 (x1 + (1 : Int32)) σ16)
def f_X12_back_16   : Nat → Nat → Int32 → ah_H → Option (Int32 × ah_H)
  | 0, _, _, _ => none
  | n + 1, x0, x1, σ => f_X12_back_16_b (f_X12_back_16 n) x0 x1 σ
def f_X12_back_0   (x0 : Nat) (σ : ah_H) : Option (Int32 × ah_H) :=
  (op_pI 12 0 σ x0 (0 : Int32)).bind fun σ1 => (op_gI 12 57 σ1 x0).bind fun v2 => if v2 = 0 then (some ((-1 : Int32), σ1)) else (f_X12_back_16 5000 x0 (0 : Int32) σ1)
def f_X12_back  (x0 : Nat) (σ : ah_H) : Option (Int32 × ah_H) := op_ck 12 σ x0 (f_X12_back_0 x0 σ)
set_option maxRecDepth 100000 in
set_option maxHeartbeats 4000000 in
theorem c_X12_back_76 {G : ah_G}   : ∀ (x0 : Nat) (σ : ah_H) (r : Int32 × ah_H), f_X12_back_76   x0 σ = some r → AW G m_X12_back 2 0 0 76 [(0, .ref x0)] [] σ (ah_N G (ah_ri r)) := by
  intro x0 σ r h
  unfold f_X12_back_76 at h
  refine aw_aload_n (pc := 76) 0 dX12_back_76 rfl ?_
  refine aw_iconst (pc := 77) (v := (0 : Int32)) dX12_back_77 (by decide) ?_
  obtain ⟨σ1, e, h⟩ := op_bd h
  refine ow_pI (pc := 78) e dX12_back_78 fd_X12_320 ?_
  refine aw_aload_n (pc := 81) 0 dX12_back_81 rfl ?_
  obtain ⟨r2, e, h⟩ := op_bd h
  refine ow_cVi (pc := 82) [] ((c_X12_laidMany _ _ _ e).mono (by decide)) (op_ck_sh e) rfl dX12_back_82 cw_X12_575 rfl (Nat.le_of_ble_eq_true rfl) ?_
  exact ow_iret (pc := 85) h dX12_back_85 rfl
set_option maxRecDepth 100000 in
set_option maxHeartbeats 4000000 in
theorem c_X12_back_16_b {G : ah_G}  (K16 : Nat → Int32 → ah_H → Option (Int32 × ah_H)) (hK16 : ∀ (x0 : Nat) (x1 : Int32) (σ : ah_H) (r : Int32 × ah_H), K16 x0 x1 σ = some r → AW G m_X12_back 2 0 0 16 [(0, .ref x0), (1, .int x1)] [] σ (ah_N G (ah_ri r))) : ∀ (x0 : Nat) (x1 : Int32) (σ : ah_H) (r : Int32 × ah_H), f_X12_back_16_b  K16 x0 x1 σ = some r → AW G m_X12_back 2 0 0 16 [(0, .ref x0), (1, .int x1)] [] σ (ah_N G (ah_ri r)) := by
  intro x0 x1 σ r h
  unfold f_X12_back_16_b at h
  refine aw_iload_n (pc := 16) 1 dX12_back_16 rfl ?_
  refine aw_bipush (pc := 17) (v := (7 : Int32)) dX12_back_17 (by decide) ?_
  refine aw_icmp_ge (pc := 19) 76 dX12_back_19 (by decide) (fun z => ?_) (fun z => ?_)
  · replace h := (if_pos z).symm.trans h
    refine aw_sub [0] rfl ?_
    exact c_X12_back_76  _ _ _ h
  · replace h := (if_neg z).symm.trans h
    refine aw_aload_n (pc := 22) 0 dX12_back_22 rfl ?_
    obtain ⟨v1, e, h⟩ := op_bd h
    refine ow_gR (pc := 23) e dX12_back_23 fd_X12_83 rfl ?_
    refine aw_iload_n (pc := 26) 1 dX12_back_26 rfl ?_
    refine aw_aload_n (pc := 27) 0 dX12_back_27 rfl ?_
    obtain ⟨v2, e, h⟩ := op_bd h
    refine ow_gR (pc := 28) e dX12_back_28 fd_X12_117 rfl ?_
    refine aw_iload_n (pc := 31) 1 dX12_back_31 rfl ?_
    obtain ⟨v3, e, h⟩ := op_bd h
    refine ow_aI (pc := 32) e dX12_back_32 ?_
    obtain ⟨σ4, e, h⟩ := op_bd h
    refine ow_sI (pc := 33) e dX12_back_33 ?_
    refine aw_aload_n (pc := 34) 0 dX12_back_34 rfl ?_
    obtain ⟨v5, e, h⟩ := op_bd h
    refine ow_gR (pc := 35) e dX12_back_35 fd_X12_86 rfl ?_
    refine aw_iload_n (pc := 38) 1 dX12_back_38 rfl ?_
    refine aw_aload_n (pc := 39) 0 dX12_back_39 rfl ?_
    obtain ⟨v6, e, h⟩ := op_bd h
    refine ow_gR (pc := 40) e dX12_back_40 fd_X12_120 rfl ?_
    refine aw_iload_n (pc := 43) 1 dX12_back_43 rfl ?_
    obtain ⟨v7, e, h⟩ := op_bd h
    refine ow_aI (pc := 44) e dX12_back_44 ?_
    obtain ⟨σ8, e, h⟩ := op_bd h
    refine ow_sI (pc := 45) e dX12_back_45 ?_
    refine aw_aload_n (pc := 46) 0 dX12_back_46 rfl ?_
    obtain ⟨v9, e, h⟩ := op_bd h
    refine ow_gR (pc := 47) e dX12_back_47 fd_X12_89 rfl ?_
    refine aw_iload_n (pc := 50) 1 dX12_back_50 rfl ?_
    refine aw_aload_n (pc := 51) 0 dX12_back_51 rfl ?_
    obtain ⟨v10, e, h⟩ := op_bd h
    refine ow_gR (pc := 52) e dX12_back_52 fd_X12_123 rfl ?_
    refine aw_iload_n (pc := 55) 1 dX12_back_55 rfl ?_
    obtain ⟨v11, e, h⟩ := op_bd h
    refine ow_aI (pc := 56) e dX12_back_56 ?_
    obtain ⟨σ12, e, h⟩ := op_bd h
    refine ow_sI (pc := 57) e dX12_back_57 ?_
    refine aw_aload_n (pc := 58) 0 dX12_back_58 rfl ?_
    obtain ⟨v13, e, h⟩ := op_bd h
    refine ow_gR (pc := 59) e dX12_back_59 fd_X12_92 rfl ?_
    refine aw_iload_n (pc := 62) 1 dX12_back_62 rfl ?_
    refine aw_aload_n (pc := 63) 0 dX12_back_63 rfl ?_
    obtain ⟨v14, e, h⟩ := op_bd h
    refine ow_gR (pc := 64) e dX12_back_64 fd_X12_126 rfl ?_
    refine aw_iload_n (pc := 67) 1 dX12_back_67 rfl ?_
    obtain ⟨v15, e, h⟩ := op_bd h
    refine ow_aI (pc := 68) e dX12_back_68 ?_
    obtain ⟨σ16, e, h⟩ := op_bd h
    refine ow_sI (pc := 69) e dX12_back_69 ?_
    refine aw_iinc (pc := 70) 1 [(1, .int (x1 + (1 : Int32))), (0, .ref x0)] (x1 + (1 : Int32)) dX12_back_70 rfl rfl (by decide) rfl ?_
    refine aw_goto (pc := 73) 16 dX12_back_73 (by decide) ?_
    refine aw_sub [1, 0] rfl ?_
    exact hK16 _ _ _ _ h
theorem c_X12_back_16 {G : ah_G}   : ∀ (n : Nat) (x0 : Nat) (x1 : Int32) (σ : ah_H) (r : Int32 × ah_H), f_X12_back_16   n x0 x1 σ = some r → AW G m_X12_back 2 0 0 16 [(0, .ref x0), (1, .int x1)] [] σ (ah_N G (ah_ri r)) := by
  intro n
  induction n with
  | zero => intro x0 x1 σ r h; cases h
  | succ n ih => intro x0 x1 σ r h; exact c_X12_back_16_b   _ ih x0 x1 σ r h
set_option maxRecDepth 100000 in
set_option maxHeartbeats 4000000 in
theorem c_X12_back_0 {G : ah_G}   : ∀ (x0 : Nat) (σ : ah_H) (r : Int32 × ah_H), f_X12_back_0   x0 σ = some r → AW G m_X12_back 2 0 0 0 [(0, .ref x0)] [] σ (ah_N G (ah_ri r)) := by
  intro x0 σ r h
  unfold f_X12_back_0 at h
  refine aw_aload_n (pc := 0) 0 dX12_back_0 rfl ?_
  refine aw_iconst (pc := 1) (v := (0 : Int32)) dX12_back_1 (by decide) ?_
  obtain ⟨σ1, e, h⟩ := op_bd h
  refine ow_pI (pc := 2) e dX12_back_2 fd_X12_153 ?_
  refine aw_aload_n (pc := 5) 0 dX12_back_5 rfl ?_
  obtain ⟨v2, e, h⟩ := op_bd h
  refine ow_gI (pc := 6) e dX12_back_6 fd_X12_323 rfl ?_
  refine aw_if_ne (pc := 9) 14 dX12_back_9 (by decide) (fun z => ?_) (fun z => ?_)
  · replace h := (if_neg z).symm.trans h
    refine aw_iconst (pc := 14) (v := (0 : Int32)) dX12_back_14 (by decide) ?_
    refine aw_istore_n (pc := 15) [(1, .int (0 : Int32)), (0, .ref x0)] dX12_back_15 rfl (by decide) rfl ?_
    refine aw_sub [1, 0] rfl ?_
    exact c_X12_back_16  _ _ _ _ _ h
  · replace h := (if_pos z).symm.trans h
    refine aw_iconst (pc := 12) (v := (-1 : Int32)) dX12_back_12 (by decide) ?_
    exact ow_iret (pc := 13) h dX12_back_13 rfl
theorem c_X12_back {G : ah_G}   (x0 : Nat) (σ : ah_H) (r : Int32 × ah_H) (h : f_X12_back  x0 σ = some r) : AM G m_X12_back 2 0 0 [.ref x0] σ (ah_ri r) := aw_enter (by decide) (Nat.le_of_ble_eq_true rfl) (c_X12_back_0 _ _ _ (op_ck_k h))
def f_X12_count_0   (x0 : Nat) (x1 : Int32) (σ : ah_H) : Option (Int32 × ah_H) :=
  (op_pI 12 0 σ x0 (0 : Int32)).bind fun σ1 => if x1 = (0 : Int32) then ((op_gR 12 3 σ1 x0).bind fun v2 => (op_aI σ1 v2 (0 : Int32)).bind fun v3 => some (v3, σ1)) else (if x1 = (1 : Int32) then ((op_gR 12 3 σ1 x0).bind fun v4 => (op_aI σ1 v4 (1 : Int32)).bind fun v5 => some (v5, σ1)) else (if x1 = (2 : Int32) then ((op_gR 12 3 σ1 x0).bind fun v6 => (op_aI σ1 v6 (2 : Int32)).bind fun v7 => some (v7, σ1)) else (if x1 = (3 : Int32) then ((op_gR 12 3 σ1 x0).bind fun v8 => (op_aI σ1 v8 (3 : Int32)).bind fun v9 => some (v9, σ1)) else (if x1 = (4 : Int32) then ((op_gR 12 3 σ1 x0).bind fun v10 => (op_aI σ1 v10 (11 : Int32)).bind fun v11 => some (v11, σ1)) else (if x1 = (5 : Int32) then ((f_X12_laidMany x0 σ1).bind fun r12 => some (r12.1, r12.2)) else (if x1 = (6 : Int32) then ((op_gR 12 3 σ1 x0).bind fun v13 => (op_aI σ1 v13 (4 : Int32)).bind fun v14 => some (v14, σ1)) else (if x1 = (7 : Int32) then ((op_gR 12 3 σ1 x0).bind fun v15 => (op_aI σ1 v15 (5 : Int32)).bind fun v16 => some (v16, σ1)) else (if x1 = (8 : Int32) then ((op_gI 12 52 σ1 x0).bind fun v17 => some (v17, σ1)) else (some ((-1 : Int32), σ1))))))))))
def f_X12_count  (x0 : Nat) (x1 : Int32) (σ : ah_H) : Option (Int32 × ah_H) := op_ck 12 σ x0 (f_X12_count_0 x0 x1 σ)
set_option maxRecDepth 100000 in
set_option maxHeartbeats 4000000 in
theorem c_X12_count_0 {G : ah_G}   : ∀ (x0 : Nat) (x1 : Int32) (σ : ah_H) (r : Int32 × ah_H), f_X12_count_0   x0 x1 σ = some r → AW G m_X12_count 2 0 0 0 [(0, .ref x0), (1, .int x1)] [] σ (ah_N G (ah_ri r)) := by
  intro x0 x1 σ r h
  unfold f_X12_count_0 at h
  refine aw_aload_n (pc := 0) 0 dX12_count_0 rfl ?_
  refine aw_iconst (pc := 1) (v := (0 : Int32)) dX12_count_1 (by decide) ?_
  obtain ⟨σ1, e, h⟩ := op_bd h
  refine ow_pI (pc := 2) e dX12_count_2 fd_X12_153 ?_
  refine aw_iload_n (pc := 5) 1 dX12_count_5 rfl ?_
  by_cases z0 : x1 = (0 : Int32)
  · replace h := (if_pos z0).symm.trans h
    refine aw_tableIn (pc := 6) (off := 50) 56 dX12_count_6 (by rw [z0]; decide) (by rw [z0]; decide) (by rw [z0]; decide) (by decide) ?_
    refine aw_aload_n (pc := 56) 0 dX12_count_56 rfl ?_
    obtain ⟨v2, e, h⟩ := op_bd h
    refine ow_gR (pc := 57) e dX12_count_57 fd_X12_15 rfl ?_
    refine aw_iconst (pc := 60) (v := (0 : Int32)) dX12_count_60 (by decide) ?_
    obtain ⟨v3, e, h⟩ := op_bd h
    refine ow_aI (pc := 61) e dX12_count_61 ?_
    exact ow_iret (pc := 62) h dX12_count_62 rfl
  · replace h := (if_neg z0).symm.trans h
    by_cases z1 : x1 = (1 : Int32)
    · replace h := (if_pos z1).symm.trans h
      refine aw_tableIn (pc := 6) (off := 57) 63 dX12_count_6 (by rw [z1]; decide) (by rw [z1]; decide) (by rw [z1]; decide) (by decide) ?_
      refine aw_aload_n (pc := 63) 0 dX12_count_63 rfl ?_
      obtain ⟨v4, e, h⟩ := op_bd h
      refine ow_gR (pc := 64) e dX12_count_64 fd_X12_15 rfl ?_
      refine aw_iconst (pc := 67) (v := (1 : Int32)) dX12_count_67 (by decide) ?_
      obtain ⟨v5, e, h⟩ := op_bd h
      refine ow_aI (pc := 68) e dX12_count_68 ?_
      exact ow_iret (pc := 69) h dX12_count_69 rfl
    · replace h := (if_neg z1).symm.trans h
      by_cases z2 : x1 = (2 : Int32)
      · replace h := (if_pos z2).symm.trans h
        refine aw_tableIn (pc := 6) (off := 64) 70 dX12_count_6 (by rw [z2]; decide) (by rw [z2]; decide) (by rw [z2]; decide) (by decide) ?_
        refine aw_aload_n (pc := 70) 0 dX12_count_70 rfl ?_
        obtain ⟨v6, e, h⟩ := op_bd h
        refine ow_gR (pc := 71) e dX12_count_71 fd_X12_15 rfl ?_
        refine aw_iconst (pc := 74) (v := (2 : Int32)) dX12_count_74 (by decide) ?_
        obtain ⟨v7, e, h⟩ := op_bd h
        refine ow_aI (pc := 75) e dX12_count_75 ?_
        exact ow_iret (pc := 76) h dX12_count_76 rfl
      · replace h := (if_neg z2).symm.trans h
        by_cases z3 : x1 = (3 : Int32)
        · replace h := (if_pos z3).symm.trans h
          refine aw_tableIn (pc := 6) (off := 71) 77 dX12_count_6 (by rw [z3]; decide) (by rw [z3]; decide) (by rw [z3]; decide) (by decide) ?_
          refine aw_aload_n (pc := 77) 0 dX12_count_77 rfl ?_
          obtain ⟨v8, e, h⟩ := op_bd h
          refine ow_gR (pc := 78) e dX12_count_78 fd_X12_15 rfl ?_
          refine aw_iconst (pc := 81) (v := (3 : Int32)) dX12_count_81 (by decide) ?_
          obtain ⟨v9, e, h⟩ := op_bd h
          refine ow_aI (pc := 82) e dX12_count_82 ?_
          exact ow_iret (pc := 83) h dX12_count_83 rfl
        · replace h := (if_neg z3).symm.trans h
          by_cases z4 : x1 = (4 : Int32)
          · replace h := (if_pos z4).symm.trans h
            refine aw_tableIn (pc := 6) (off := 78) 84 dX12_count_6 (by rw [z4]; decide) (by rw [z4]; decide) (by rw [z4]; decide) (by decide) ?_
            refine aw_aload_n (pc := 84) 0 dX12_count_84 rfl ?_
            obtain ⟨v10, e, h⟩ := op_bd h
            refine ow_gR (pc := 85) e dX12_count_85 fd_X12_15 rfl ?_
            refine aw_bipush (pc := 88) (v := (11 : Int32)) dX12_count_88 (by decide) ?_
            obtain ⟨v11, e, h⟩ := op_bd h
            refine ow_aI (pc := 90) e dX12_count_90 ?_
            exact ow_iret (pc := 91) h dX12_count_91 rfl
          · replace h := (if_neg z4).symm.trans h
            by_cases z5 : x1 = (5 : Int32)
            · replace h := (if_pos z5).symm.trans h
              refine aw_tableIn (pc := 6) (off := 86) 92 dX12_count_6 (by rw [z5]; decide) (by rw [z5]; decide) (by rw [z5]; decide) (by decide) ?_
              refine aw_aload_n (pc := 92) 0 dX12_count_92 rfl ?_
              obtain ⟨r12, e, h⟩ := op_bd h
              refine ow_cVi (pc := 93) [] ((c_X12_laidMany _ _ _ e).mono (by decide)) (op_ck_sh e) rfl dX12_count_93 cw_X12_575 rfl (Nat.le_of_ble_eq_true rfl) ?_
              exact ow_iret (pc := 96) h dX12_count_96 rfl
            · replace h := (if_neg z5).symm.trans h
              by_cases z6 : x1 = (6 : Int32)
              · replace h := (if_pos z6).symm.trans h
                refine aw_tableIn (pc := 6) (off := 91) 97 dX12_count_6 (by rw [z6]; decide) (by rw [z6]; decide) (by rw [z6]; decide) (by decide) ?_
                refine aw_aload_n (pc := 97) 0 dX12_count_97 rfl ?_
                obtain ⟨v13, e, h⟩ := op_bd h
                refine ow_gR (pc := 98) e dX12_count_98 fd_X12_15 rfl ?_
                refine aw_iconst (pc := 101) (v := (4 : Int32)) dX12_count_101 (by decide) ?_
                obtain ⟨v14, e, h⟩ := op_bd h
                refine ow_aI (pc := 102) e dX12_count_102 ?_
                exact ow_iret (pc := 103) h dX12_count_103 rfl
              · replace h := (if_neg z6).symm.trans h
                by_cases z7 : x1 = (7 : Int32)
                · replace h := (if_pos z7).symm.trans h
                  refine aw_tableIn (pc := 6) (off := 98) 104 dX12_count_6 (by rw [z7]; decide) (by rw [z7]; decide) (by rw [z7]; decide) (by decide) ?_
                  refine aw_aload_n (pc := 104) 0 dX12_count_104 rfl ?_
                  obtain ⟨v15, e, h⟩ := op_bd h
                  refine ow_gR (pc := 105) e dX12_count_105 fd_X12_15 rfl ?_
                  refine aw_iconst (pc := 108) (v := (5 : Int32)) dX12_count_108 (by decide) ?_
                  obtain ⟨v16, e, h⟩ := op_bd h
                  refine ow_aI (pc := 109) e dX12_count_109 ?_
                  exact ow_iret (pc := 110) h dX12_count_110 rfl
                · replace h := (if_neg z7).symm.trans h
                  by_cases z8 : x1 = (8 : Int32)
                  · replace h := (if_pos z8).symm.trans h
                    refine aw_tableIn (pc := 6) (off := 105) 111 dX12_count_6 (by rw [z8]; decide) (by rw [z8]; decide) (by rw [z8]; decide) (by decide) ?_
                    refine aw_aload_n (pc := 111) 0 dX12_count_111 rfl ?_
                    obtain ⟨v17, e, h⟩ := op_bd h
                    refine ow_gI (pc := 112) e dX12_count_112 fd_X12_320 rfl ?_
                    exact ow_iret (pc := 115) h dX12_count_115 rfl
                  · replace h := (if_neg z8).symm.trans h
                    have wz0 : ¬ (x1).toInt = 0 := fun q => z0 (Int32.toInt_inj.mp q)
                    have wz1 : ¬ (x1).toInt = 1 := fun q => z1 (Int32.toInt_inj.mp q)
                    have wz2 : ¬ (x1).toInt = 2 := fun q => z2 (Int32.toInt_inj.mp q)
                    have wz3 : ¬ (x1).toInt = 3 := fun q => z3 (Int32.toInt_inj.mp q)
                    have wz4 : ¬ (x1).toInt = 4 := fun q => z4 (Int32.toInt_inj.mp q)
                    have wz5 : ¬ (x1).toInt = 5 := fun q => z5 (Int32.toInt_inj.mp q)
                    have wz6 : ¬ (x1).toInt = 6 := fun q => z6 (Int32.toInt_inj.mp q)
                    have wz7 : ¬ (x1).toInt = 7 := fun q => z7 (Int32.toInt_inj.mp q)
                    have wz8 : ¬ (x1).toInt = 8 := fun q => z8 (Int32.toInt_inj.mp q)
                    refine aw_tableOut (pc := 6) 116 dX12_count_6 (by omega) (by decide) ?_
                    refine aw_iconst (pc := 116) (v := (-1 : Int32)) dX12_count_116 (by decide) ?_
                    exact ow_iret (pc := 117) h dX12_count_117 rfl
theorem c_X12_count {G : ah_G}   (x0 : Nat) (x1 : Int32) (σ : ah_H) (r : Int32 × ah_H) (h : f_X12_count  x0 x1 σ = some r) : AM G m_X12_count 2 0 0 [.ref x0, .int x1] σ (ah_ri r) := aw_enter (by decide) (Nat.le_of_ble_eq_true rfl) (c_X12_count_0 _ _ _ _ (op_ck_k h))
