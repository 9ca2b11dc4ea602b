def f_X12_leastOf_35  (K9 : Nat → Int32 → Int32 → ah_H → Option (Int64 × ah_H)) (K15 : Nat → Int32 → Int32 → Int32 → ah_H → Option (Int64 × ah_H)) (x0 : Nat) (x1 : Int32) (x2 : Int32) (x3 : Int32) (σ : ah_H) : Option (Int64 × ah_H) :=
  K15 x0 x1 x2 (x3 + (1 : Int32)) σ
def f_X12_leastOf_41  (K9 : Nat → Int32 → Int32 → ah_H → Option (Int64 × ah_H)) (x0 : Nat) (x1 : Int32) (x2 : Int32) (σ : ah_H) : Option (Int64 × ah_H) :=
  K9 x0 x1 (x2 + (-1 : Int32)) σ
def f_X12_leastOf_15_b  (K9 : Nat → Int32 → Int32 → ah_H → Option (Int64 × ah_H)) (K15 : Nat → Int32 → Int32 → Int32 → ah_H → Option (Int64 × ah_H)) (x0 : Nat) (x1 : Int32) (x2 : Int32) (x3 : Int32) (σ : ah_H) : Option (Int64 × ah_H) :=
  if x1 ≤ x3 then (f_X12_leastOf_41 K9 x0 x1 x2 σ) else ((op_gR 12 58 σ x0).bind fun v1 => (op_aI σ v1 x3).bind fun v2 => if v2 = x2 then ((f_X12_layCorner x0 x3 σ).bind fun r3 => f_X12_leastOf_35 K9 K15 x0 x1 x2 x3 r3) else (f_X12_leastOf_35 K9 K15 x0 x1 x2 x3 σ))
def f_X12_leastOf_15  (K9 : Nat → Int32 → Int32 → ah_H → Option (Int64 × ah_H)) : Nat → Nat → Int32 → Int32 → Int32 → ah_H → Option (Int64 × ah_H)
  | 0, _, _, _, _, _ => none
  | n + 1, x0, x1, x2, x3, σ => f_X12_leastOf_15_b K9 (f_X12_leastOf_15 K9 n) x0 x1 x2 x3 σ
def f_X12_leastOf_47   (x0 : Nat) (x1 : Int32) (σ : ah_H) : Option (Int64 × ah_H) :=
  (op_gR 12 3 σ x0).bind fun v1 => (op_aI σ v1 (4 : Int32)).bind fun v2 => (op_gR 12 3 σ x0).bind fun v3 => (op_aI σ v3 (9 : Int32)).bind fun v4 => (op_gR 12 5 σ x0).bind fun v5 => (op_aI σ v5 v2).bind fun v6 => (op_gR 12 3 σ x0).bind fun v7 => (op_aI σ v7 (5 : Int32)).bind fun v8 => if x1 = (1 : Int32) then (some ((0 : Int64), σ)) else (if 0 ≤ (op_mini v4 (v6 - v8)) then ((f_X12_allCome x0 v2 (3 : Int32) (op_mini v4 (v6 - v8)) (0 : Int32) σ).bind fun r9 => some (r9.1, r9.2)) else (some ((4000000000000000000 : Int64), σ)))
def f_X12_leastOf_9_b  (K9 : Nat → Int32 → Int32 → ah_H → Option (Int64 × ah_H)) (x0 : Nat) (x1 : Int32) (x2 : Int32) (σ : ah_H) : Option (Int64 × ah_H) :=
  if x2 ≤ 0 then (f_X12_leastOf_47 x0 x1 σ) else (f_X12_leastOf_15 K9 5000 x0 x1 x2 (0 : Int32) σ)
def f_X12_leastOf_9   : Nat → Nat → Int32 → Int32 → ah_H → Option (Int64 × ah_H)
  | 0, _, _, _, _ => none
  | n + 1, x0, x1, x2, σ => f_X12_leastOf_9_b (f_X12_leastOf_9 n) x0 x1 x2 σ
def f_X12_leastOf_0   (x0 : Nat) (σ : ah_H) : Option (Int64 × ah_H) :=
  (op_gR 12 3 σ x0).bind fun v1 => (op_aI σ v1 (0 : Int32)).bind fun v2 => f_X12_leastOf_9 5000 x0 v2 v2 σ
def f_X12_leastOf  (x0 : Nat) (σ : ah_H) : Option (Int64 × ah_H) := op_ck 12 σ x0 (f_X12_leastOf_0 x0 σ)
set_option maxRecDepth 100000 in
set_option maxHeartbeats 4000000 in
theorem c_X12_leastOf_35 {G : ah_G}  (K9 : Nat → Int32 → Int32 → ah_H → Option (Int64 × ah_H)) (hK9 : ∀ (x0 : Nat) (x1 : Int32) (x2 : Int32) (σ : ah_H) (r : Int64 × ah_H), K9 x0 x1 x2 σ = some r → AW G m_X12_leastOf 6 0 0 9 [(0, .ref x0), (1, .int x1), (2, .int x2)] [] σ (ah_N G (ah_rl r))) (K15 : Nat → Int32 → Int32 → Int32 → ah_H → Option (Int64 × ah_H)) (hK15 : ∀ (x0 : Nat) (x1 : Int32) (x2 : Int32) (x3 : Int32) (σ : ah_H) (r : Int64 × ah_H), K15 x0 x1 x2 x3 σ = some r → AW G m_X12_leastOf 6 0 0 15 [(0, .ref x0), (1, .int x1), (2, .int x2), (3, .int x3)] [] σ (ah_N G (ah_rl r))) : ∀ (x0 : Nat) (x1 : Int32) (x2 : Int32) (x3 : Int32) (σ : ah_H) (r : Int64 × ah_H), f_X12_leastOf_35  K9 K15 x0 x1 x2 x3 σ = some r → AW G m_X12_leastOf 6 0 0 35 [(0, .ref x0), (1, .int x1), (2, .int x2), (3, .int x3)] [] σ (ah_N G (ah_rl r)) := by
  intro x0 x1 x2 x3 σ r h
  unfold f_X12_leastOf_35 at h
  refine aw_iinc (pc := 35) 3 [(3, .int (x3 + (1 : Int32))), (0, .ref x0), (1, .int x1), (2, .int x2)] (x3 + (1 : Int32)) dX12_leastOf_35 rfl rfl (by decide) rfl ?_
  refine aw_goto (pc := 38) 15 dX12_leastOf_38 (by decide) ?_
  refine aw_sub [1, 2, 3, 0] rfl ?_
  exact hK15 _ _ _ _ _ _ h
set_option maxRecDepth 100000 in
set_option maxHeartbeats 4000000 in
theorem c_X12_leastOf_41 {G : ah_G}  (K9 : Nat → Int32 → Int32 → ah_H → Option (Int64 × ah_H)) (hK9 : ∀ (x0 : Nat) (x1 : Int32) (x2 : Int32) (σ : ah_H) (r : Int64 × ah_H), K9 x0 x1 x2 σ = some r → AW G m_X12_leastOf 6 0 0 9 [(0, .ref x0), (1, .int x1), (2, .int x2)] [] σ (ah_N G (ah_rl r))) : ∀ (x0 : Nat) (x1 : Int32) (x2 : Int32) (σ : ah_H) (r : Int64 × ah_H), f_X12_leastOf_41  K9 x0 x1 x2 σ = some r → AW G m_X12_leastOf 6 0 0 41 [(0, .ref x0), (1, .int x1), (2, .int x2)] [] σ (ah_N G (ah_rl r)) := by
  intro x0 x1 x2 σ r h
  unfold f_X12_leastOf_41 at h
  refine aw_iinc (pc := 41) 2 [(2, .int (x2 + (-1 : Int32))), (0, .ref x0), (1, .int x1)] (x2 + (-1 : Int32)) dX12_leastOf_41 rfl rfl (by decide) rfl ?_
  refine aw_goto (pc := 44) 9 dX12_leastOf_44 (by decide) ?_
  refine aw_sub [1, 2, 0] rfl ?_
  exact hK9 _ _ _ _ _ h
set_option maxRecDepth 100000 in
set_option maxHeartbeats 4000000 in
theorem c_X12_leastOf_15_b {G : ah_G}  (K9 : Nat → Int32 → Int32 → ah_H → Option (Int64 × ah_H)) (hK9 : ∀ (x0 : Nat) (x1 : Int32) (x2 : Int32) (σ : ah_H) (r : Int64 × ah_H), K9 x0 x1 x2 σ = some r → AW G m_X12_leastOf 6 0 0 9 [(0, .ref x0), (1, .int x1), (2, .int x2)] [] σ (ah_N G (ah_rl r))) (K15 : Nat → Int32 → Int32 → Int32 → ah_H → Option (Int64 × ah_H)) (hK15 : ∀ (x0 : Nat) (x1 : Int32) (x2 : Int32) (x3 : Int32) (σ : ah_H) (r : Int64 × ah_H), K15 x0 x1 x2 x3 σ = some r → AW G m_X12_leastOf 6 0 0 15 [(0, .ref x0), (1, .int x1), (2, .int x2), (3, .int x3)] [] σ (ah_N G (ah_rl r))) : ∀ (x0 : Nat) (x1 : Int32) (x2 : Int32) (x3 : Int32) (σ : ah_H) (r : Int64 × ah_H), f_X12_leastOf_15_b  K9 K15 x0 x1 x2 x3 σ = some r → AW G m_X12_leastOf 6 0 0 15 [(0, .ref x0), (1, .int x1), (2, .int x2), (3, .int x3)] [] σ (ah_N G (ah_rl r)) := by
  intro x0 x1 x2 x3 σ r h
  unfold f_X12_leastOf_15_b at h
  refine aw_iload_n (pc := 15) 3 dX12_leastOf_15 rfl ?_
  refine aw_iload_n (pc := 16) 1 dX12_leastOf_16 rfl ?_
  refine aw_icmp_ge (pc := 17) 41 dX12_leastOf_17 (by decide) (fun z => ?_) (fun z => ?_)
  · replace h := (if_pos z).symm.trans h
    refine aw_sub [0, 1, 2] rfl ?_
    exact c_X12_leastOf_41 K9 hK9 _ _ _ _ _ h
  · replace h := (if_neg z).symm.trans h
    refine aw_aload_n (pc := 20) 0 dX12_leastOf_20 rfl ?_
    obtain ⟨v1, e, h⟩ := op_bd h
    refine ow_gR (pc := 21) e dX12_leastOf_21 fd_X12_129 rfl ?_
    refine aw_iload_n (pc := 24) 3 dX12_leastOf_24 rfl ?_
    obtain ⟨v2, e, h⟩ := op_bd h
    refine ow_aI (pc := 25) e dX12_leastOf_25 ?_
    refine aw_iload_n (pc := 26) 2 dX12_leastOf_26 rfl ?_
    refine aw_icmp_ne (pc := 27) 35 dX12_leastOf_27 (by decide) (fun z => ?_) (fun z => ?_)
    · replace h := (if_neg z).symm.trans h
      exact c_X12_leastOf_35 K9 hK9 K15 hK15 _ _ _ _ _ _ h
    · replace h := (if_pos z).symm.trans h
      refine aw_aload_n (pc := 30) 0 dX12_leastOf_30 rfl ?_
      refine aw_iload_n (pc := 31) 3 dX12_leastOf_31 rfl ?_
      obtain ⟨r3, e, h⟩ := op_bd h
      refine ow_cVv (pc := 32) [.int x3] ((c_X12_layCorner _ _ _ _ e).mono (by decide)) (op_ck_sh e) rfl dX12_leastOf_32 cw_X12_522 rfl (Nat.le_of_ble_eq_true rfl) ?_
      exact c_X12_leastOf_35 K9 hK9 K15 hK15 _ _ _ _ _ _ h
theorem c_X12_leastOf_15 {G : ah_G}  (K9 : Nat → Int32 → Int32 → ah_H → Option (Int64 × ah_H)) (hK9 : ∀ (x0 : Nat) (x1 : Int32) (x2 : Int32) (σ : ah_H) (r : Int64 × ah_H), K9 x0 x1 x2 σ = some r → AW G m_X12_leastOf 6 0 0 9 [(0, .ref x0), (1, .int x1), (2, .int x2)] [] σ (ah_N G (ah_rl r))) : ∀ (n : Nat) (x0 : Nat) (x1 : Int32) (x2 : Int32) (x3 : Int32) (σ : ah_H) (r : Int64 × ah_H), f_X12_leastOf_15  K9 n x0 x1 x2 x3 σ = some r → AW G m_X12_leastOf 6 0 0 15 [(0, .ref x0), (1, .int x1), (2, .int x2), (3, .int x3)] [] σ (ah_N G (ah_rl r)) := by
  intro n
  induction n with
  | zero => intro x0 x1 x2 x3 σ r h; cases h
  | succ n ih => intro x0 x1 x2 x3 σ r h; exact c_X12_leastOf_15_b  K9 hK9 _ ih x0 x1 x2 x3 σ r h
set_option maxRecDepth 100000 in
set_option maxHeartbeats 4000000 in
theorem c_X12_leastOf_47 {G : ah_G}   : ∀ (x0 : Nat) (x1 : Int32) (σ : ah_H) (r : Int64 × ah_H), f_X12_leastOf_47   x0 x1 σ = some r → AW G m_X12_leastOf 6 0 0 47 [(0, .ref x0), (1, .int x1)] [] σ (ah_N G (ah_rl r)) := by
  intro x0 x1 σ r h
  unfold f_X12_leastOf_47 at h
  refine aw_aload_n (pc := 47) 0 dX12_leastOf_47 rfl ?_
  obtain ⟨v1, e, h⟩ := op_bd h
  refine ow_gR (pc := 48) e dX12_leastOf_48 fd_X12_15 rfl ?_
  refine aw_iconst (pc := 51) (v := (4 : Int32)) dX12_leastOf_51 (by decide) ?_
  obtain ⟨v2, e, h⟩ := op_bd h
  refine ow_aI (pc := 52) e dX12_leastOf_52 ?_
  refine aw_istore_n (pc := 53) [(2, .int v2), (0, .ref x0), (1, .int x1)] dX12_leastOf_53 rfl (by decide) rfl ?_
  refine aw_aload_n (pc := 54) 1 dX12_leastOf_54 rfl ?_
  obtain ⟨v3, e, h⟩ := op_bd h
  refine ow_gR (pc := 55) e dX12_leastOf_55 fd_X12_15 rfl ?_
  refine aw_bipush (pc := 58) (v := (9 : Int32)) dX12_leastOf_58 (by decide) ?_
  obtain ⟨v4, e, h⟩ := op_bd h
  refine ow_aI (pc := 60) e dX12_leastOf_60 ?_
  refine aw_aload_n (pc := 61) 1 dX12_leastOf_61 rfl ?_
  obtain ⟨v5, e, h⟩ := op_bd h
  refine ow_gR (pc := 62) e dX12_leastOf_62 fd_X12_21 rfl ?_
  refine aw_iload_n (pc := 65) 0 dX12_leastOf_65 rfl ?_
  obtain ⟨v6, e, h⟩ := op_bd h
  refine ow_aI (pc := 66) e dX12_leastOf_66 ?_
  refine aw_aload_n (pc := 67) 1 dX12_leastOf_67 rfl ?_
  obtain ⟨v7, e, h⟩ := op_bd h
  refine ow_gR (pc := 68) e dX12_leastOf_68 fd_X12_15 rfl ?_
  refine aw_iconst (pc := 71) (v := (5 : Int32)) dX12_leastOf_71 (by decide) ?_
  obtain ⟨v8, e, h⟩ := op_bd h
  refine ow_aI (pc := 72) e dX12_leastOf_72 ?_
  refine aw_isub (pc := 73) dX12_leastOf_73 ?_
  refine ow_mini (pc := 74) dX12_leastOf_74 mt_X12_525 (Nat.le_of_ble_eq_true rfl) ?_
  refine aw_istore_n (pc := 77) [(3, .int (op_mini v4 (v6 - v8))), (2, .int v2), (0, .ref x0), (1, .int x1)] dX12_leastOf_77 rfl (by decide) rfl ?_
  refine aw_iload_n (pc := 78) 3 dX12_leastOf_78 rfl ?_
  refine aw_iconst (pc := 79) (v := (1 : Int32)) dX12_leastOf_79 (by decide) ?_
  refine aw_icmp_ne (pc := 80) 87 dX12_leastOf_80 (by decide) (fun z => ?_) (fun z => ?_)
  · replace h := (if_neg z).symm.trans h
    refine aw_iload_n (pc := 87) 0 dX12_leastOf_87 rfl ?_
    refine aw_if_ge (pc := 88) 97 dX12_leastOf_88 (by decide) (fun z => ?_) (fun z => ?_)
    · replace h := (if_pos z).symm.trans h
      refine aw_aload_n (pc := 97) 2 dX12_leastOf_97 rfl ?_
      refine aw_iload_n (pc := 98) 1 dX12_leastOf_98 rfl ?_
      refine aw_iconst (pc := 99) (v := (3 : Int32)) dX12_leastOf_99 (by decide) ?_
      refine aw_iload_n (pc := 100) 0 dX12_leastOf_100 rfl ?_
      refine aw_iconst (pc := 101) (v := (0 : Int32)) dX12_leastOf_101 (by decide) ?_
      obtain ⟨r9, e, h⟩ := op_bd h
      refine ow_cVl (pc := 102) [.int v2, .int (3 : Int32), .int (op_mini v4 (v6 - v8)), .int (0 : Int32)] ((c_X12_allCome _ _ _ _ _ _ _ e).mono (by decide)) (op_ck_sh e) rfl dX12_leastOf_102 cw_X12_513 rfl (Nat.le_of_ble_eq_true rfl) ?_
      exact ow_lret (pc := 105) h dX12_leastOf_105 rfl
    · replace h := (if_neg z).symm.trans h
      refine aw_ldc2 (pc := 91) dX12_leastOf_91 kl_X12_423 ?_
      refine aw_goto (pc := 94) 105 dX12_leastOf_94 (by decide) ?_
      exact ow_lret (pc := 105) h dX12_leastOf_105 rfl
  · replace h := (if_pos z).symm.trans h
    refine aw_lconst (pc := 83) (v := (0 : Int64)) dX12_leastOf_83 (by decide) ?_
    refine aw_goto (pc := 84) 105 dX12_leastOf_84 (by decide) ?_
    exact ow_lret (pc := 105) h dX12_leastOf_105 rfl
set_option maxRecDepth 100000 in
set_option maxHeartbeats 4000000 in
theorem c_X12_leastOf_9_b {G : ah_G}  (K9 : Nat → Int32 → Int32 → ah_H → Option (Int64 × ah_H)) (hK9 : ∀ (x0 : Nat) (x1 : Int32) (x2 : Int32) (σ : ah_H) (r : Int64 × ah_H), K9 x0 x1 x2 σ = some r → AW G m_X12_leastOf 6 0 0 9 [(0, .ref x0), (1, .int x1), (2, .int x2)] [] σ (ah_N G (ah_rl r))) : ∀ (x0 : Nat) (x1 : Int32) (x2 : Int32) (σ : ah_H) (r : Int64 × ah_H), f_X12_leastOf_9_b  K9 x0 x1 x2 σ = some r → AW G m_X12_leastOf 6 0 0 9 [(0, .ref x0), (1, .int x1), (2, .int x2)] [] σ (ah_N G (ah_rl r)) := by
  intro x0 x1 x2 σ r h
  unfold f_X12_leastOf_9_b at h
  refine aw_iload_n (pc := 9) 2 dX12_leastOf_9 rfl ?_
  refine aw_if_le (pc := 10) 47 dX12_leastOf_10 (by decide) (fun z => ?_) (fun z => ?_)
  · replace h := (if_pos z).symm.trans h
    refine aw_sub [0, 1] rfl ?_
    exact c_X12_leastOf_47  _ _ _ _ h
  · replace h := (if_neg z).symm.trans h
    refine aw_iconst (pc := 13) (v := (0 : Int32)) dX12_leastOf_13 (by decide) ?_
    refine aw_istore_n (pc := 14) [(3, .int (0 : Int32)), (0, .ref x0), (1, .int x1), (2, .int x2)] dX12_leastOf_14 rfl (by decide) rfl ?_
    refine aw_sub [1, 2, 3, 0] rfl ?_
    exact c_X12_leastOf_15 K9 hK9 _ _ _ _ _ _ _ h
theorem c_X12_leastOf_9 {G : ah_G}   : ∀ (n : Nat) (x0 : Nat) (x1 : Int32) (x2 : Int32) (σ : ah_H) (r : Int64 × ah_H), f_X12_leastOf_9   n x0 x1 x2 σ = some r → AW G m_X12_leastOf 6 0 0 9 [(0, .ref x0), (1, .int x1), (2, .int x2)] [] σ (ah_N G (ah_rl r)) := by
  intro n
  induction n with
  | zero => intro x0 x1 x2 σ r h; cases h
  | succ n ih => intro x0 x1 x2 σ r h; exact c_X12_leastOf_9_b   _ ih x0 x1 x2 σ r h
set_option maxRecDepth 100000 in
set_option maxHeartbeats 4000000 in
theorem c_X12_leastOf_0 {G : ah_G}   : ∀ (x0 : Nat) (σ : ah_H) (r : Int64 × ah_H), f_X12_leastOf_0   x0 σ = some r → AW G m_X12_leastOf 6 0 0 0 [(0, .ref x0)] [] σ (ah_N G (ah_rl r)) := by
  intro x0 σ r h
  unfold f_X12_leastOf_0 at h
  refine aw_aload_n (pc := 0) 0 dX12_leastOf_0 rfl ?_
  obtain ⟨v1, e, h⟩ := op_bd h
  refine ow_gR (pc := 1) e dX12_leastOf_1 fd_X12_15 rfl ?_
  refine aw_iconst (pc := 4) (v := (0 : Int32)) dX12_leastOf_4 (by decide) ?_
  obtain ⟨v2, e, h⟩ := op_bd h
  refine ow_aI (pc := 5) e dX12_leastOf_5 ?_
  refine aw_istore_n (pc := 6) [(1, .int v2), (0, .ref x0)] dX12_leastOf_6 rfl (by decide) rfl ?_
  refine aw_iload_n (pc := 7) 0 dX12_leastOf_7 rfl ?_
  refine aw_istore_n (pc := 8) [(2, .int v2), (1, .int v2), (0, .ref x0)] dX12_leastOf_8 rfl (by decide) rfl ?_
  refine aw_sub [2, 1, 0] rfl ?_
  exact c_X12_leastOf_9  _ _ _ _ _ _ h
theorem c_X12_leastOf {G : ah_G}   (x0 : Nat) (σ : ah_H) (r : Int64 × ah_H) (h : f_X12_leastOf  x0 σ = some r) : AM G m_X12_leastOf 6 0 0 [.ref x0] σ (ah_rl r) := aw_enter (by decide) (Nat.le_of_ble_eq_true rfl) (c_X12_leastOf_0 _ _ _ (op_ck_k h))
def f_X12_free_2_b  (K2 : Nat → Int32 → ah_H → Option (ah_H)) (x0 : Nat) (x1 : Int32) (σ : ah_H) : Option (ah_H) :=
  if (7 : Int32) ≤ x1 then (some σ) else ((op_gR 12 61 σ x0).bind fun v1 => (op_sI σ v1 x1 (-1 : Int32)).bind fun σ2 => (op_gR 12 62 σ2 x0).bind fun v3 => (op_sI σ2 v3 x1 (-1 : Int32)).bind fun σ4 => (op_gR 12 63 σ4 x0).bind fun v5 => (op_sI σ4 v5 x1 (-1 : Int32)).bind fun σ6 => K2 x0 (x1 + (1 : Int32)) σ6)
def f_X12_free_2   : Nat → Nat → Int32 → ah_H → Option (ah_H)
  | 0, _, _, _ => none
  | n + 1, x0, x1, σ => f_X12_free_2_b (f_X12_free_2 n) x0 x1 σ
def f_X12_free_0   (x0 : Nat) (σ : ah_H) : Option (ah_H) :=
  f_X12_free_2 5000 x0 (0 : Int32) σ
def f_X12_free  (x0 : Nat) (σ : ah_H) : Option (ah_H) := op_ck 12 σ x0 (f_X12_free_0 x0 σ)
set_option maxRecDepth 100000 in
set_option maxHeartbeats 4000000 in
theorem c_X12_free_2_b {G : ah_G}  (K2 : Nat → Int32 → ah_H → Option (ah_H)) (hK2 : ∀ (x0 : Nat) (x1 : Int32) (σ : ah_H) (r : ah_H), K2 x0 x1 σ = some r → AW G m_X12_free 0 0 0 2 [(0, .ref x0), (1, .int x1)] [] σ (ah_N G (ah_rv r))) : ∀ (x0 : Nat) (x1 : Int32) (σ : ah_H) (r : ah_H), f_X12_free_2_b  K2 x0 x1 σ = some r → AW G m_X12_free 0 0 0 2 [(0, .ref x0), (1, .int x1)] [] σ (ah_N G (ah_rv r)) := by
  intro x0 x1 σ r h
  unfold f_X12_free_2_b at h
  refine aw_iload_n (pc := 2) 1 dX12_free_2 rfl ?_
  refine aw_bipush (pc := 3) (v := (7 : Int32)) dX12_free_3 (by decide) ?_
  refine aw_icmp_ge (pc := 5) 35 dX12_free_5 (by decide) (fun z => ?_) (fun z => ?_)
  · replace h := (if_pos z).symm.trans h
    exact ow_vret (pc := 35) h dX12_free_35 rfl
  · replace h := (if_neg z).symm.trans h
    refine aw_aload_n (pc := 8) 0 dX12_free_8 rfl ?_
    obtain ⟨v1, e, h⟩ := op_bd h
    refine ow_gR (pc := 9) e dX12_free_9 fd_X12_138 rfl ?_
    refine aw_iload_n (pc := 12) 1 dX12_free_12 rfl ?_
    refine aw_iconst (pc := 13) (v := (-1 : Int32)) dX12_free_13 (by decide) ?_
    obtain ⟨σ2, e, h⟩ := op_bd h
    refine ow_sI (pc := 14) e dX12_free_14 ?_
    refine aw_aload_n (pc := 15) 0 dX12_free_15 rfl ?_
    obtain ⟨v3, e, h⟩ := op_bd h
    refine ow_gR (pc := 16) e dX12_free_16 fd_X12_141 rfl ?_
    refine aw_iload_n (pc := 19) 1 dX12_free_19 rfl ?_
    refine aw_iconst (pc := 20) (v := (-1 : Int32)) dX12_free_20 (by decide) ?_
    obtain ⟨σ4, e, h⟩ := op_bd h
    refine ow_sI (pc := 21) e dX12_free_21 ?_
    refine aw_aload_n (pc := 22) 0 dX12_free_22 rfl ?_
    obtain ⟨v5, e, h⟩ := op_bd h
    refine ow_gR (pc := 23) e dX12_free_23 fd_X12_144 rfl ?_
    refine aw_iload_n (pc := 26) 1 dX12_free_26 rfl ?_
    refine aw_iconst (pc := 27) (v := (-1 : Int32)) dX12_free_27 (by decide) ?_
    obtain ⟨σ6, e, h⟩ := op_bd h
    refine ow_sI (pc := 28) e dX12_free_28 ?_
    refine aw_iinc (pc := 29) 1 [(1, .int (x1 + (1 : Int32))), (0, .ref x0)] (x1 + (1 : Int32)) dX12_free_29 rfl rfl (by decide) rfl ?_
    refine aw_goto (pc := 32) 2 dX12_free_32 (by decide) ?_
    refine aw_sub [1, 0] rfl ?_
    exact hK2 _ _ _ _ h
theorem c_X12_free_2 {G : ah_G}   : ∀ (n : Nat) (x0 : Nat) (x1 : Int32) (σ : ah_H) (r : ah_H), f_X12_free_2   n x0 x1 σ = some r → AW G m_X12_free 0 0 0 2 [(0, .ref x0), (1, .int x1)] [] σ (ah_N G (ah_rv r)) := by
  intro n
  induction n with
  | zero => intro x0 x1 σ r h; cases h
  | succ n ih => intro x0 x1 σ r h; exact c_X12_free_2_b   _ ih x0 x1 σ r h
set_option maxRecDepth 100000 in
set_option maxHeartbeats 4000000 in
theorem c_X12_free_0 {G : ah_G}   : ∀ (x0 : Nat) (σ : ah_H) (r : ah_H), f_X12_free_0   x0 σ = some r → AW G m_X12_free 0 0 0 0 [(0, .ref x0)] [] σ (ah_N G (ah_rv r)) := by
  intro x0 σ r h
  unfold f_X12_free_0 at h
  refine aw_iconst (pc := 0) (v := (0 : Int32)) dX12_free_0 (by decide) ?_
  refine aw_istore_n (pc := 1) [(1, .int (0 : Int32)), (0, .ref x0)] dX12_free_1 rfl (by decide) rfl ?_
  refine aw_sub [1, 0] rfl ?_
  exact c_X12_free_2  _ _ _ _ _ h
theorem c_X12_free {G : ah_G}   (x0 : Nat) (σ : ah_H) (r : ah_H) (h : f_X12_free  x0 σ = some r) : AM G m_X12_free 0 0 0 [.ref x0] σ (ah_rv r) := aw_enter (by decide) (Nat.le_of_ble_eq_true rfl) (c_X12_free_0 _ _ _ (op_ck_k h))
def f_X12_cheapestOf_112   (x0 : Nat) (σ : ah_H) : Option (Int64 × ah_H) :=
  (f_X12_free x0 σ).bind fun r1 => (f_X12_leastOf x0 r1).bind fun r2 => some (r2.1, r2.2)
def f_X12_cheapestOf_88_b  (K88 : Nat → Int32 → ah_H → Option (Int64 × ah_H)) (x0 : Nat) (x3 : Int32) (σ : ah_H) : Option (Int64 × ah_H) :=
  (op_gR 12 59 σ x0).bind fun v1 => (op_len .long σ v1).bind fun n2 => if (Int32.ofNat n2) ≤ x3 then (f_X12_cheapestOf_112 x0 σ) else ((op_gR 12 59 σ x0).bind fun v3 => (op_sL σ v3 x3 (4000000000000000000 : Int64)).bind fun σ4 => K88 x0 (x3 + (1 : Int32)) σ4)
def f_X12_cheapestOf_88   : Nat → Nat → Int32 → ah_H → Option (Int64 × ah_H)
  | 0, _, _, _ => none
  | n + 1, x0, x3, σ => f_X12_cheapestOf_88_b (f_X12_cheapestOf_88 n) x0 x3 σ
def f_X12_cheapestOf_86   (x0 : Nat) (σ : ah_H) : Option (Int64 × ah_H) :=
  f_X12_cheapestOf_88 5000 x0 (0 : Int32) σ
def f_X12_cheapestOf_59_b  (K59 : Nat → Int32 → ah_H → Option (Int64 × ah_H)) (x0 : Nat) (x3 : Int32) (σ : ah_H) : Option (Int64 × ah_H) :=
  (op_gR 12 3 σ x0).bind fun v1 => (op_aI σ v1 (0 : Int32)).bind fun v2 => if v2 ≤ x3 then (f_X12_cheapestOf_86 x0 σ) else ((op_gR 12 60 σ x0).bind fun v3 => (f_X12_greatest x0 x3 σ).bind fun r4 => (op_sL r4.2 v3 x3 r4.1).bind fun σ5 => K59 x0 (x3 + (1 : Int32)) σ5)
def f_X12_cheapestOf_59   : Nat → Nat → Int32 → ah_H → Option (Int64 × ah_H)
  | 0, _, _, _ => none
  | n + 1, x0, x3, σ => f_X12_cheapestOf_59_b (f_X12_cheapestOf_59 n) x0 x3 σ
def f_X12_cheapestOf_45   (x0 : Nat) (x1 : Int32) (x2 : Int32) (σ : ah_H) : Option (Int64 × ah_H) :=
  (f_X12_joinsFrom x0 x1 x2 σ).bind fun r1 => (f_X12_run x0 (0 : Int32) r1.2).bind fun r2 => f_X12_cheapestOf_59 5000 x0 (0 : Int32) r2
def f_X12_cheapestOf_23_b  (K23 : Nat → Int32 → Int32 → Int32 → ah_H → Option (Int64 × ah_H)) (x0 : Nat) (x1 : Int32) (x2 : Int32) (x3 : Int32) (σ : ah_H) : Option (Int64 × ah_H) :=
  if (7 : Int32) ≤ x3 then (f_X12_cheapestOf_45 x0 x1 x2 σ) else ((op_gR 12 38 σ x0).bind fun v1 => (op_sI σ v1 ((7 : Int32) + x3) (-1 : Int32)).bind fun σ2 => K23 x0 x1 x2 (x3 + (1 : Int32)) σ2)
def f_X12_cheapestOf_23   : Nat → Nat → Int32 → Int32 → Int32 → ah_H → Option (Int64 × ah_H)
  | 0, _, _, _, _, _ => none
  | n + 1, x0, x1, x2, x3, σ => f_X12_cheapestOf_23_b (f_X12_cheapestOf_23 n) x0 x1 x2 x3 σ
def f_X12_cheapestOf_0   (x0 : Nat) (x1 : Int32) (σ : ah_H) : Option (Int64 × ah_H) :=
  (op_gR 12 3 σ x0).bind fun v1 => (op_aI σ v1 (4 : Int32)).bind fun v2 => if v2 = (-1 : Int32) then (some ((4000000000000000000 : Int64), σ)) else ((op_pI 12 42 σ x0 (1 : Int32)).bind fun σ3 => f_X12_cheapestOf_23 5000 x0 x1 v2 (0 : Int32) σ3)
def f_X12_cheapestOf  (x0 : Nat) (x1 : Int32) (σ : ah_H) : Option (Int64 × ah_H) := op_ck 12 σ x0 (f_X12_cheapestOf_0 x0 x1 σ)
set_option maxRecDepth 100000 in
set_option maxHeartbeats 4000000 in
theorem c_X12_cheapestOf_112 {G : ah_G}   : ∀ (x0 : Nat) (σ : ah_H) (r : Int64 × ah_H), f_X12_cheapestOf_112   x0 σ = some r → AW G m_X12_cheapestOf 7 0 0 112 [(0, .ref x0)] [] σ (ah_N G (ah_rl r)) := by
  intro x0 σ r h
  unfold f_X12_cheapestOf_112 at h
  refine aw_aload_n (pc := 112) 0 dX12_cheapestOf_112 rfl ?_
  obtain ⟨r1, e, h⟩ := op_bd h
  refine ow_cVv (pc := 113) [] ((c_X12_free _ _ _ e).mono (by decide)) (op_ck_sh e) rfl dX12_cheapestOf_113 cw_X12_527 rfl (Nat.le_of_ble_eq_true rfl) ?_
  refine aw_aload_n (pc := 116) 0 dX12_cheapestOf_116 rfl ?_
  obtain ⟨r2, e, h⟩ := op_bd h
  refine ow_cVl (pc := 117) [] ((c_X12_leastOf _ _ _ e).mono (by decide)) (op_ck_sh e) rfl dX12_cheapestOf_117 cw_X12_530 rfl (Nat.le_of_ble_eq_true rfl) ?_
  exact ow_lret (pc := 120) h dX12_cheapestOf_120 rfl
set_option maxRecDepth 100000 in
set_option maxHeartbeats 4000000 in
theorem c_X12_cheapestOf_88_b {G : ah_G}  (K88 : Nat → Int32 → ah_H → Option (Int64 × ah_H)) (hK88 : ∀ (x0 : Nat) (x3 : Int32) (σ : ah_H) (r : Int64 × ah_H), K88 x0 x3 σ = some r → AW G m_X12_cheapestOf 7 0 0 88 [(0, .ref x0), (3, .int x3)] [] σ (ah_N G (ah_rl r))) : ∀ (x0 : Nat) (x3 : Int32) (σ : ah_H) (r : Int64 × ah_H), f_X12_cheapestOf_88_b  K88 x0 x3 σ = some r → AW G m_X12_cheapestOf 7 0 0 88 [(0, .ref x0), (3, .int x3)] [] σ (ah_N G (ah_rl r)) := by
  intro x0 x3 σ r h
  unfold f_X12_cheapestOf_88_b at h
  refine aw_iload_n (pc := 88) 1 dX12_cheapestOf_88 rfl ?_
  refine aw_aload_n (pc := 89) 0 dX12_cheapestOf_89 rfl ?_
  obtain ⟨v1, e, h⟩ := op_bd h
  refine ow_gR (pc := 90) e dX12_cheapestOf_90 fd_X12_132 rfl ?_
  obtain ⟨n2, e, h⟩ := op_bd h
  refine ow_alen (pc := 93) e dX12_cheapestOf_93 (by decide) ?_
  refine aw_icmp_ge (pc := 94) 112 dX12_cheapestOf_94 (by decide) (fun z => ?_) (fun z => ?_)
  · replace h := (if_pos z).symm.trans h
    refine aw_sub [0] rfl ?_
    exact c_X12_cheapestOf_112  _ _ _ h
  · replace h := (if_neg z).symm.trans h
    refine aw_aload_n (pc := 97) 0 dX12_cheapestOf_97 rfl ?_
    obtain ⟨v3, e, h⟩ := op_bd h
    refine ow_gR (pc := 98) e dX12_cheapestOf_98 fd_X12_132 rfl ?_
    refine aw_iload_n (pc := 101) 1 dX12_cheapestOf_101 rfl ?_
    refine aw_ldc2 (pc := 102) dX12_cheapestOf_102 kl_X12_423 ?_
    obtain ⟨σ4, e, h⟩ := op_bd h
    refine ow_sL (pc := 105) e dX12_cheapestOf_105 ?_
    refine aw_iinc (pc := 106) 1 [(3, .int (x3 + (1 : Int32))), (0, .ref x0)] (x3 + (1 : Int32)) dX12_cheapestOf_106 rfl rfl (by decide) rfl ?_
    refine aw_goto (pc := 109) 88 dX12_cheapestOf_109 (by decide) ?_
    refine aw_sub [1, 0] rfl ?_
    exact hK88 _ _ _ _ h
theorem c_X12_cheapestOf_88 {G : ah_G}   : ∀ (n : Nat) (x0 : Nat) (x3 : Int32) (σ : ah_H) (r : Int64 × ah_H), f_X12_cheapestOf_88   n x0 x3 σ = some r → AW G m_X12_cheapestOf 7 0 0 88 [(0, .ref x0), (3, .int x3)] [] σ (ah_N G (ah_rl r)) := by
  intro n
  induction n with
  | zero => intro x0 x3 σ r h; cases h
  | succ n ih => intro x0 x3 σ r h; exact c_X12_cheapestOf_88_b   _ ih x0 x3 σ r h
set_option maxRecDepth 100000 in
set_option maxHeartbeats 4000000 in
theorem c_X12_cheapestOf_86 {G : ah_G}   : ∀ (x0 : Nat) (σ : ah_H) (r : Int64 × ah_H), f_X12_cheapestOf_86   x0 σ = some r → AW G m_X12_cheapestOf 7 0 0 86 [(0, .ref x0)] [] σ (ah_N G (ah_rl r)) := by
  intro x0 σ r h
  unfold f_X12_cheapestOf_86 at h
  refine aw_iconst (pc := 86) (v := (0 : Int32)) dX12_cheapestOf_86 (by decide) ?_
  refine aw_istore_n (pc := 87) [(3, .int (0 : Int32)), (0, .ref x0)] dX12_cheapestOf_87 rfl (by decide) rfl ?_
  refine aw_sub [1, 0] rfl ?_
  exact c_X12_cheapestOf_88  _ _ _ _ _ h
set_option maxRecDepth 100000 in
set_option maxHeartbeats 4000000 in
theorem c_X12_cheapestOf_59_b {G : ah_G}  (K59 : Nat → Int32 → ah_H → Option (Int64 × ah_H)) (hK59 : ∀ (x0 : Nat) (x3 : Int32) (σ : ah_H) (r : Int64 × ah_H), K59 x0 x3 σ = some r → AW G m_X12_cheapestOf 7 0 0 59 [(0, .ref x0), (3, .int x3)] [] σ (ah_N G (ah_rl r))) : ∀ (x0 : Nat) (x3 : Int32) (σ : ah_H) (r : Int64 × ah_H), f_X12_cheapestOf_59_b  K59 x0 x3 σ = some r → AW G m_X12_cheapestOf 7 0 0 59 [(0, .ref x0), (3, .int x3)] [] σ (ah_N G (ah_rl r)) := by
  intro x0 x3 σ r h
  unfold f_X12_cheapestOf_59_b at h
  refine aw_iload_n (pc := 59) 1 dX12_cheapestOf_59 rfl ?_
  refine aw_aload_n (pc := 60) 0 dX12_cheapestOf_60 rfl ?_
  obtain ⟨v1, e, h⟩ := op_bd h
  refine ow_gR (pc := 61) e dX12_cheapestOf_61 fd_X12_15 rfl ?_
  refine aw_iconst (pc := 64) (v := (0 : Int32)) dX12_cheapestOf_64 (by decide) ?_
  obtain ⟨v2, e, h⟩ := op_bd h
  refine ow_aI (pc := 65) e dX12_cheapestOf_65 ?_
  refine aw_icmp_ge (pc := 66) 86 dX12_cheapestOf_66 (by decide) (fun z => ?_) (fun z => ?_)
  · replace h := (if_pos z).symm.trans h
    refine aw_sub [0] rfl ?_
    exact c_X12_cheapestOf_86  _ _ _ h
  · replace h := (if_neg z).symm.trans h
    refine aw_aload_n (pc := 69) 0 dX12_cheapestOf_69 rfl ?_
    obtain ⟨v3, e, h⟩ := op_bd h
    refine ow_gR (pc := 70) e dX12_cheapestOf_70 fd_X12_135 rfl ?_
    refine aw_iload_n (pc := 73) 1 dX12_cheapestOf_73 rfl ?_
    refine aw_aload_n (pc := 74) 0 dX12_cheapestOf_74 rfl ?_
    refine aw_iload_n (pc := 75) 1 dX12_cheapestOf_75 rfl ?_
    obtain ⟨r4, e, h⟩ := op_bd h
    refine ow_cVl (pc := 76) [.int x3] ((c_X12_greatest _ _ _ _ e).mono (by decide)) (op_ck_sh e) rfl dX12_cheapestOf_76 cw_X12_467 rfl (Nat.le_of_ble_eq_true rfl) ?_
    obtain ⟨σ5, e, h⟩ := op_bd h
    refine ow_sL (pc := 79) e dX12_cheapestOf_79 ?_
    refine aw_iinc (pc := 80) 1 [(3, .int (x3 + (1 : Int32))), (0, .ref x0)] (x3 + (1 : Int32)) dX12_cheapestOf_80 rfl rfl (by decide) rfl ?_
    refine aw_goto (pc := 83) 59 dX12_cheapestOf_83 (by decide) ?_
    refine aw_sub [1, 0] rfl ?_
    exact hK59 _ _ _ _ h
theorem c_X12_cheapestOf_59 {G : ah_G}   : ∀ (n : Nat) (x0 : Nat) (x3 : Int32) (σ : ah_H) (r : Int64 × ah_H), f_X12_cheapestOf_59   n x0 x3 σ = some r → AW G m_X12_cheapestOf 7 0 0 59 [(0, .ref x0), (3, .int x3)] [] σ (ah_N G (ah_rl r)) := by
  intro n
  induction n with
  | zero => intro x0 x3 σ r h; cases h
  | succ n ih => intro x0 x3 σ r h; exact c_X12_cheapestOf_59_b   _ ih x0 x3 σ r h
set_option maxRecDepth 100000 in
set_option maxHeartbeats 4000000 in
theorem c_X12_cheapestOf_45 {G : ah_G}   : ∀ (x0 : Nat) (x1 : Int32) (x2 : Int32) (σ : ah_H) (r : Int64 × ah_H), f_X12_cheapestOf_45   x0 x1 x2 σ = some r → AW G m_X12_cheapestOf 7 0 0 45 [(0, .ref x0), (1, .int x1), (2, .int x2)] [] σ (ah_N G (ah_rl r)) := by
  intro x0 x1 x2 σ r h
  unfold f_X12_cheapestOf_45 at h
  refine aw_aload_n (pc := 45) 0 dX12_cheapestOf_45 rfl ?_
  refine aw_iload_n (pc := 46) 1 dX12_cheapestOf_46 rfl ?_
  refine aw_iload_n (pc := 47) 2 dX12_cheapestOf_47 rfl ?_
  obtain ⟨r1, e, h⟩ := op_bd h
  refine ow_cVi (pc := 48) [.int x1, .int x2] ((c_X12_joinsFrom _ _ _ _ _ e).mono (by decide)) (op_ck_sh e) rfl dX12_cheapestOf_48 cw_X12_500 rfl (Nat.le_of_ble_eq_true rfl) ?_
  refine aw_pop (pc := 51) dX12_cheapestOf_51 rfl ?_
  refine aw_aload_n (pc := 52) 0 dX12_cheapestOf_52 rfl ?_
  refine aw_iconst (pc := 53) (v := (0 : Int32)) dX12_cheapestOf_53 (by decide) ?_
  obtain ⟨r2, e, h⟩ := op_bd h
  refine ow_cVv (pc := 54) [.int (0 : Int32)] ((c_X12_run _ _ _ _ e).mono (by decide)) (op_ck_sh e) rfl dX12_cheapestOf_54 cw_X12_457 rfl (Nat.le_of_ble_eq_true rfl) ?_
  refine aw_iconst (pc := 57) (v := (0 : Int32)) dX12_cheapestOf_57 (by decide) ?_
  refine aw_istore_n (pc := 58) [(3, .int (0 : Int32)), (0, .ref x0), (1, .int x1), (2, .int x2)] dX12_cheapestOf_58 rfl (by decide) rfl ?_
  refine aw_sub [1, 0] rfl ?_
  exact c_X12_cheapestOf_59  _ _ _ _ _ h
set_option maxRecDepth 100000 in
set_option maxHeartbeats 4000000 in
theorem c_X12_cheapestOf_23_b {G : ah_G}  (K23 : Nat → Int32 → Int32 → Int32 → ah_H → Option (Int64 × ah_H)) (hK23 : ∀ (x0 : Nat) (x1 : Int32) (x2 : Int32) (x3 : Int32) (σ : ah_H) (r : Int64 × ah_H), K23 x0 x1 x2 x3 σ = some r → AW G m_X12_cheapestOf 7 0 0 23 [(0, .ref x0), (1, .int x1), (2, .int x2), (3, .int x3)] [] σ (ah_N G (ah_rl r))) : ∀ (x0 : Nat) (x1 : Int32) (x2 : Int32) (x3 : Int32) (σ : ah_H) (r : Int64 × ah_H), f_X12_cheapestOf_23_b  K23 x0 x1 x2 x3 σ = some r → AW G m_X12_cheapestOf 7 0 0 23 [(0, .ref x0), (1, .int x1), (2, .int x2), (3, .int x3)] [] σ (ah_N G (ah_rl r)) := by
  intro x0 x1 x2 x3 σ r h
  unfold f_X12_cheapestOf_23_b at h
  refine aw_iload_n (pc := 23) 3 dX12_cheapestOf_23 rfl ?_
  refine aw_bipush (pc := 24) (v := (7 : Int32)) dX12_cheapestOf_24 (by decide) ?_
  refine aw_icmp_ge (pc := 26) 45 dX12_cheapestOf_26 (by decide) (fun z => ?_) (fun z => ?_)
  · replace h := (if_pos z).symm.trans h
    refine aw_sub [0, 1, 2] rfl ?_
    exact c_X12_cheapestOf_45  _ _ _ _ _ h
  · replace h := (if_neg z).symm.trans h
    refine aw_aload_n (pc := 29) 0 dX12_cheapestOf_29 rfl ?_
    obtain ⟨v1, e, h⟩ := op_bd h
    refine ow_gR (pc := 30) e dX12_cheapestOf_30 fd_X12_83 rfl ?_
    refine aw_bipush (pc := 33) (v := (7 : Int32)) dX12_cheapestOf_33 (by decide) ?_
    refine aw_iload_n (pc := 35) 3 dX12_cheapestOf_35 rfl ?_
    refine aw_iadd (pc := 36) dX12_cheapestOf_36 ?_
    refine aw_iconst (pc := 37) (v := (-1 : Int32)) dX12_cheapestOf_37 (by decide) ?_
    obtain ⟨σ2, e, h⟩ := op_bd h
    refine ow_sI (pc := 38) e dX12_cheapestOf_38 ?_
    refine aw_iinc (pc := 39) 3 [(3, .int (x3 + (1 : Int32))), (0, .ref x0), (1, .int x1), (2, .int x2)] (x3 + (1 : Int32)) dX12_cheapestOf_39 rfl rfl (by decide) rfl ?_
    refine aw_goto (pc := 42) 23 dX12_cheapestOf_42 (by decide) ?_
    refine aw_sub [1, 2, 3, 0] rfl ?_
    exact hK23 _ _ _ _ _ _ h
theorem c_X12_cheapestOf_23 {G : ah_G}   : ∀ (n : Nat) (x0 : Nat) (x1 : Int32) (x2 : Int32) (x3 : Int32) (σ : ah_H) (r : Int64 × ah_H), f_X12_cheapestOf_23   n x0 x1 x2 x3 σ = some r → AW G m_X12_cheapestOf 7 0 0 23 [(0, .ref x0), (1, .int x1), (2, .int x2), (3, .int x3)] [] σ (ah_N G (ah_rl r)) := by
  intro n
  induction n with
  | zero => intro x0 x1 x2 x3 σ r h; cases h
  | succ n ih => intro x0 x1 x2 x3 σ r h; exact c_X12_cheapestOf_23_b   _ ih x0 x1 x2 x3 σ r h
set_option maxRecDepth 100000 in
set_option maxHeartbeats 4000000 in
theorem c_X12_cheapestOf_0 {G : ah_G}   : ∀ (x0 : Nat) (x1 : Int32) (σ : ah_H) (r : Int64 × ah_H), f_X12_cheapestOf_0   x0 x1 σ = some r → AW G m_X12_cheapestOf 7 0 0 0 [(0, .ref x0), (1, .int x1)] [] σ (ah_N G (ah_rl r)) := by
  intro x0 x1 σ r h
  unfold f_X12_cheapestOf_0 at h
  refine aw_aload_n (pc := 0) 0 dX12_cheapestOf_0 rfl ?_
  obtain ⟨v1, e, h⟩ := op_bd h
  refine ow_gR (pc := 1) e dX12_cheapestOf_1 fd_X12_15 rfl ?_
  refine aw_iconst (pc := 4) (v := (4 : Int32)) dX12_cheapestOf_4 (by decide) ?_
  obtain ⟨v2, e, h⟩ := op_bd h
  refine ow_aI (pc := 5) e dX12_cheapestOf_5 ?_
  refine aw_istore_n (pc := 6) [(2, .int v2), (0, .ref x0), (1, .int x1)] dX12_cheapestOf_6 rfl (by decide) rfl ?_
  refine aw_iload_n (pc := 7) 0 dX12_cheapestOf_7 rfl ?_
  refine aw_iconst (pc := 8) (v := (-1 : Int32)) dX12_cheapestOf_8 (by decide) ?_
  refine aw_icmp_ne (pc := 9) 16 dX12_cheapestOf_9 (by decide) (fun z => ?_) (fun z => ?_)
  · replace h := (if_neg z).symm.trans h
    refine aw_aload_n (pc := 16) 1 dX12_cheapestOf_16 rfl ?_
    refine aw_iconst (pc := 17) (v := (1 : Int32)) dX12_cheapestOf_17 (by decide) ?_
    obtain ⟨σ3, e, h⟩ := op_bd h
    refine ow_pI (pc := 18) e dX12_cheapestOf_18 fd_X12_371 ?_
    refine aw_iconst (pc := 21) (v := (0 : Int32)) dX12_cheapestOf_21 (by decide) ?_
    refine aw_istore_n (pc := 22) [(3, .int (0 : Int32)), (2, .int v2), (0, .ref x0), (1, .int x1)] dX12_cheapestOf_22 rfl (by decide) rfl ?_
    refine aw_sub [2, 3, 1, 0] rfl ?_
    exact c_X12_cheapestOf_23  _ _ _ _ _ _ _ h
  · replace h := (if_pos z).symm.trans h
    refine aw_ldc2 (pc := 12) dX12_cheapestOf_12 kl_X12_423 ?_
    exact ow_lret (pc := 15) h dX12_cheapestOf_15 rfl
theorem c_X12_cheapestOf {G : ah_G}   (x0 : Nat) (x1 : Int32) (σ : ah_H) (r : Int64 × ah_H) (h : f_X12_cheapestOf  x0 x1 σ = some r) : AM G m_X12_cheapestOf 7 0 0 [.ref x0, .int x1] σ (ah_rl r) := aw_enter (by decide) (Nat.le_of_ble_eq_true rfl) (c_X12_cheapestOf_0 _ _ _ _ (op_ck_k h))
def f_X12_cheapest_0   (x0 : Nat) (x1 : Int32) (σ : ah_H) : Option (Int64 × ah_H) :=
  (op_pI 12 0 σ x0 (0 : Int32)).bind fun σ1 => (f_X12_isTree x0 x1 σ1).bind fun r2 => if r2.1 = 0 then (some ((-1 : Int64), r2.2)) else ((f_X12_cheapestOf x0 x1 r2.2).bind fun r3 => if (lg_cmp r3.1 (4000000000000000000 : Int64)) < 0 then (some (r3.1, r3.2)) else (some ((-2 : Int64), r3.2)))
def f_X12_cheapest  (x0 : Nat) (x1 : Int32) (σ : ah_H) : Option (Int64 × ah_H) := op_ck 12 σ x0 (f_X12_cheapest_0 x0 x1 σ)
set_option maxRecDepth 100000 in
set_option maxHeartbeats 4000000 in
theorem c_X12_cheapest_0 {G : ah_G}   : ∀ (x0 : Nat) (x1 : Int32) (σ : ah_H) (r : Int64 × ah_H), f_X12_cheapest_0   x0 x1 σ = some r → AW G m_X12_cheapest 8 0 0 0 [(0, .ref x0), (1, .int x1)] [] σ (ah_N G (ah_rl r)) := by
  intro x0 x1 σ r h
  unfold f_X12_cheapest_0 at h
  refine aw_aload_n (pc := 0) 0 dX12_cheapest_0 rfl ?_
  refine aw_iconst (pc := 1) (v := (0 : Int32)) dX12_cheapest_1 (by decide) ?_
  obtain ⟨σ1, e, h⟩ := op_bd h
  refine ow_pI (pc := 2) e dX12_cheapest_2 fd_X12_153 ?_
  refine aw_aload_n (pc := 5) 0 dX12_cheapest_5 rfl ?_
  refine aw_iload_n (pc := 6) 1 dX12_cheapest_6 rfl ?_
  obtain ⟨r2, e, h⟩ := op_bd h
  refine ow_cVi (pc := 7) [.int x1] ((c_X12_isTree _ _ _ _ e).mono (by decide)) (op_ck_sh e) rfl dX12_cheapest_7 cw_X12_534 rfl (Nat.le_of_ble_eq_true rfl) ?_
  refine aw_if_ne (pc := 10) 17 dX12_cheapest_10 (by decide) (fun z => ?_) (fun z => ?_)
  · replace h := (if_neg z).symm.trans h
    refine aw_aload_n (pc := 17) 0 dX12_cheapest_17 rfl ?_
    refine aw_iload_n (pc := 18) 1 dX12_cheapest_18 rfl ?_
    obtain ⟨r3, e, h⟩ := op_bd h
    refine ow_cVl (pc := 19) [.int x1] ((c_X12_cheapestOf _ _ _ _ e).mono (by decide)) (op_ck_sh e) rfl dX12_cheapest_19 cw_X12_537 rfl (Nat.le_of_ble_eq_true rfl) ?_
    refine aw_lstore_n (pc := 22) [(2, .long r3.1), (0, .ref x0), (1, .int x1)] dX12_cheapest_22 rfl (by decide) rfl ?_
    refine aw_lload_n (pc := 23) 0 dX12_cheapest_23 rfl ?_
    refine aw_ldc2 (pc := 24) dX12_cheapest_24 kl_X12_423 ?_
    refine aw_lcmp (pc := 27) dX12_cheapest_27 ?_
    refine aw_if_lt (pc := 28) 37 dX12_cheapest_28 (by decide) (fun z => ?_) (fun z => ?_)
    · replace h := (if_pos z).symm.trans h
      refine aw_lload_n (pc := 37) 0 dX12_cheapest_37 rfl ?_
      exact ow_lret (pc := 38) h dX12_cheapest_38 rfl
    · replace h := (if_neg z).symm.trans h
      refine aw_ldc2 (pc := 31) dX12_cheapest_31 kl_X12_540 ?_
      refine aw_goto (pc := 34) 38 dX12_cheapest_34 (by decide) ?_
      exact ow_lret (pc := 38) h dX12_cheapest_38 rfl
  · replace h := (if_pos z).symm.trans h
    refine aw_ldc2 (pc := 13) dX12_cheapest_13 kl_X12_432 ?_
    exact ow_lret (pc := 16) h dX12_cheapest_16 rfl
theorem c_X12_cheapest {G : ah_G}   (x0 : Nat) (x1 : Int32) (σ : ah_H) (r : Int64 × ah_H) (h : f_X12_cheapest  x0 x1 σ = some r) : AM G m_X12_cheapest 8 0 0 [.ref x0, .int x1] σ (ah_rl r) := aw_enter (by decide) (Nat.le_of_ble_eq_true rfl) (c_X12_cheapest_0 _ _ _ _ (op_ck_k h))
def f_X12_fixes_65_b  (K65 : Nat → Int32 → Int64 → ah_H → Option (ah_H)) (x0 : Nat) (x1 : Int32) (x2 : Int64) (σ : ah_H) : Option (ah_H) :=
  (f_X12_leastOf x0 σ).bind fun r1 => if (lg_cmp r1.1 x2) = 0 then (some r1.2) else ((op_gR 12 63 r1.2 x0).bind fun v2 => (op_aI r1.2 v2 x1).bind fun v3 => (op_sI r1.2 v2 x1 (v3 + (1 : Int32))).bind fun σ4 => K65 x0 x1 x2 σ4)
def f_X12_fixes_65   : Nat → Nat → Int32 → Int64 → ah_H → Option (ah_H)
  | 0, _, _, _, _ => none
  | n + 1, x0, x1, x2, σ => f_X12_fixes_65_b (f_X12_fixes_65 n) x0 x1 x2 σ
def f_X12_fixes_58   (x0 : Nat) (x1 : Int32) (x2 : Int64) (σ : ah_H) : Option (ah_H) :=
  (op_gR 12 63 σ x0).bind fun v1 => (op_sI σ v1 x1 (0 : Int32)).bind fun σ2 => f_X12_fixes_65 5000 x0 x1 x2 σ2
def f_X12_fixes_36_b  (K36 : Nat → Int32 → Int64 → ah_H → Option (ah_H)) (x0 : Nat) (x1 : Int32) (x2 : Int64) (σ : ah_H) : Option (ah_H) :=
  (f_X12_leastOf x0 σ).bind fun r1 => if (lg_cmp r1.1 x2) = 0 then (f_X12_fixes_58 x0 x1 x2 r1.2) else ((op_gR 12 62 r1.2 x0).bind fun v2 => (op_aI r1.2 v2 x1).bind fun v3 => (op_sI r1.2 v2 x1 (v3 + (1 : Int32))).bind fun σ4 => K36 x0 x1 x2 σ4)
def f_X12_fixes_36   : Nat → Nat → Int32 → Int64 → ah_H → Option (ah_H)
  | 0, _, _, _, _ => none
  | n + 1, x0, x1, x2, σ => f_X12_fixes_36_b (f_X12_fixes_36 n) x0 x1 x2 σ
def f_X12_fixes_29   (x0 : Nat) (x1 : Int32) (x2 : Int64) (σ : ah_H) : Option (ah_H) :=
  (op_gR 12 62 σ x0).bind fun v1 => (op_sI σ v1 x1 (0 : Int32)).bind fun σ2 => f_X12_fixes_36 5000 x0 x1 x2 σ2
def f_X12_fixes_7_b  (K7 : Nat → Int32 → Int64 → ah_H → Option (ah_H)) (x0 : Nat) (x1 : Int32) (x2 : Int64) (σ : ah_H) : Option (ah_H) :=
  (f_X12_leastOf x0 σ).bind fun r1 => if (lg_cmp r1.1 x2) = 0 then (f_X12_fixes_29 x0 x1 x2 r1.2) else ((op_gR 12 61 r1.2 x0).bind fun v2 => (op_aI r1.2 v2 x1).bind fun v3 => (op_sI r1.2 v2 x1 (v3 + (1 : Int32))).bind fun σ4 => K7 x0 x1 x2 σ4)
def f_X12_fixes_7   : Nat → Nat → Int32 → Int64 → ah_H → Option (ah_H)
  | 0, _, _, _, _ => none
  | n + 1, x0, x1, x2, σ => f_X12_fixes_7_b (f_X12_fixes_7 n) x0 x1 x2 σ
def f_X12_fixes_0   (x0 : Nat) (x1 : Int32) (x2 : Int64) (σ : ah_H) : Option (ah_H) :=
  (op_gR 12 61 σ x0).bind fun v1 => (op_sI σ v1 x1 (0 : Int32)).bind fun σ2 => f_X12_fixes_7 5000 x0 x1 x2 σ2
def f_X12_fixes  (x0 : Nat) (x1 : Int32) (x2 : Int64) (σ : ah_H) : Option (ah_H) := op_ck 12 σ x0 (f_X12_fixes_0 x0 x1 x2 σ)
set_option maxRecDepth 100000 in
set_option maxHeartbeats 4000000 in
theorem c_X12_fixes_65_b {G : ah_G}  (K65 : Nat → Int32 → Int64 → ah_H → Option (ah_H)) (hK65 : ∀ (x0 : Nat) (x1 : Int32) (x2 : Int64) (σ : ah_H) (r : ah_H), K65 x0 x1 x2 σ = some r → AW G m_X12_fixes 7 0 0 65 [(0, .ref x0), (1, .int x1), (2, .long x2)] [] σ (ah_N G (ah_rv r))) : ∀ (x0 : Nat) (x1 : Int32) (x2 : Int64) (σ : ah_H) (r : ah_H), f_X12_fixes_65_b  K65 x0 x1 x2 σ = some r → AW G m_X12_fixes 7 0 0 65 [(0, .ref x0), (1, .int x1), (2, .long x2)] [] σ (ah_N G (ah_rv r)) := by
  intro x0 x1 x2 σ r h
  unfold f_X12_fixes_65_b at h
  refine aw_aload_n (pc := 65) 0 dX12_fixes_65 rfl ?_
  obtain ⟨r1, e, h⟩ := op_bd h
  refine ow_cVl (pc := 66) [] ((c_X12_leastOf _ _ _ e).mono (by decide)) (op_ck_sh e) rfl dX12_fixes_66 cw_X12_530 rfl (Nat.le_of_ble_eq_true rfl) ?_
  refine aw_lload_n (pc := 69) 2 dX12_fixes_69 rfl ?_
  refine aw_lcmp (pc := 70) dX12_fixes_70 ?_
  refine aw_if_eq (pc := 71) 87 dX12_fixes_71 (by decide) (fun z => ?_) (fun z => ?_)
  · replace h := (if_pos z).symm.trans h
    exact ow_vret (pc := 87) h dX12_fixes_87 rfl
  · replace h := (if_neg z).symm.trans h
    refine aw_aload_n (pc := 74) 0 dX12_fixes_74 rfl ?_
    obtain ⟨v2, e, h⟩ := op_bd h
    refine ow_gR (pc := 75) e dX12_fixes_75 fd_X12_144 rfl ?_
    refine aw_iload_n (pc := 78) 1 dX12_fixes_78 rfl ?_
    refine aw_dup2 (pc := 79) dX12_fixes_79 rfl rfl ?_
    obtain ⟨v3, e, h⟩ := op_bd h
    refine ow_aI (pc := 80) e dX12_fixes_80 ?_
    refine aw_iconst (pc := 81) (v := (1 : Int32)) dX12_fixes_81 (by decide) ?_
    refine aw_iadd (pc := 82) dX12_fixes_82 ?_
    obtain ⟨σ4, e, h⟩ := op_bd h
    refine ow_sI (pc := 83) e dX12_fixes_83 ?_
    refine aw_goto (pc := 84) 65 dX12_fixes_84 (by decide) ?_
    exact hK65 _ _ _ _ _ h
theorem c_X12_fixes_65 {G : ah_G}   : ∀ (n : Nat) (x0 : Nat) (x1 : Int32) (x2 : Int64) (σ : ah_H) (r : ah_H), f_X12_fixes_65   n x0 x1 x2 σ = some r → AW G m_X12_fixes 7 0 0 65 [(0, .ref x0), (1, .int x1), (2, .long x2)] [] σ (ah_N G (ah_rv r)) := by
  intro n
  induction n with
  | zero => intro x0 x1 x2 σ r h; cases h
  | succ n ih => intro x0 x1 x2 σ r h; exact c_X12_fixes_65_b   _ ih x0 x1 x2 σ r h
set_option maxRecDepth 100000 in
set_option maxHeartbeats 4000000 in
theorem c_X12_fixes_58 {G : ah_G}   : ∀ (x0 : Nat) (x1 : Int32) (x2 : Int64) (σ : ah_H) (r : ah_H), f_X12_fixes_58   x0 x1 x2 σ = some r → AW G m_X12_fixes 7 0 0 58 [(0, .ref x0), (1, .int x1), (2, .long x2)] [] σ (ah_N G (ah_rv r)) := by
  intro x0 x1 x2 σ r h
  unfold f_X12_fixes_58 at h
  refine aw_aload_n (pc := 58) 0 dX12_fixes_58 rfl ?_
  obtain ⟨v1, e, h⟩ := op_bd h
  refine ow_gR (pc := 59) e dX12_fixes_59 fd_X12_144 rfl ?_
  refine aw_iload_n (pc := 62) 1 dX12_fixes_62 rfl ?_
  refine aw_iconst (pc := 63) (v := (0 : Int32)) dX12_fixes_63 (by decide) ?_
  obtain ⟨σ2, e, h⟩ := op_bd h
  refine ow_sI (pc := 64) e dX12_fixes_64 ?_
  exact c_X12_fixes_65  _ _ _ _ _ _ h
set_option maxRecDepth 100000 in
set_option maxHeartbeats 4000000 in
theorem c_X12_fixes_36_b {G : ah_G}  (K36 : Nat → Int32 → Int64 → ah_H → Option (ah_H)) (hK36 : ∀ (x0 : Nat) (x1 : Int32) (x2 : Int64) (σ : ah_H) (r : ah_H), K36 x0 x1 x2 σ = some r → AW G m_X12_fixes 7 0 0 36 [(0, .ref x0), (1, .int x1), (2, .long x2)] [] σ (ah_N G (ah_rv r))) : ∀ (x0 : Nat) (x1 : Int32) (x2 : Int64) (σ : ah_H) (r : ah_H), f_X12_fixes_36_b  K36 x0 x1 x2 σ = some r → AW G m_X12_fixes 7 0 0 36 [(0, .ref x0), (1, .int x1), (2, .long x2)] [] σ (ah_N G (ah_rv r)) := by
  intro x0 x1 x2 σ r h
  unfold f_X12_fixes_36_b at h
  refine aw_aload_n (pc := 36) 0 dX12_fixes_36 rfl ?_
  obtain ⟨r1, e, h⟩ := op_bd h
  refine ow_cVl (pc := 37) [] ((c_X12_leastOf _ _ _ e).mono (by decide)) (op_ck_sh e) rfl dX12_fixes_37 cw_X12_530 rfl (Nat.le_of_ble_eq_true rfl) ?_
  refine aw_lload_n (pc := 40) 2 dX12_fixes_40 rfl ?_
  refine aw_lcmp (pc := 41) dX12_fixes_41 ?_
  refine aw_if_eq (pc := 42) 58 dX12_fixes_42 (by decide) (fun z => ?_) (fun z => ?_)
  · replace h := (if_pos z).symm.trans h
    exact c_X12_fixes_58  _ _ _ _ _ h
  · replace h := (if_neg z).symm.trans h
    refine aw_aload_n (pc := 45) 0 dX12_fixes_45 rfl ?_
    obtain ⟨v2, e, h⟩ := op_bd h
    refine ow_gR (pc := 46) e dX12_fixes_46 fd_X12_141 rfl ?_
    refine aw_iload_n (pc := 49) 1 dX12_fixes_49 rfl ?_
    refine aw_dup2 (pc := 50) dX12_fixes_50 rfl rfl ?_
    obtain ⟨v3, e, h⟩ := op_bd h
    refine ow_aI (pc := 51) e dX12_fixes_51 ?_
    refine aw_iconst (pc := 52) (v := (1 : Int32)) dX12_fixes_52 (by decide) ?_
    refine aw_iadd (pc := 53) dX12_fixes_53 ?_
    obtain ⟨σ4, e, h⟩ := op_bd h
    refine ow_sI (pc := 54) e dX12_fixes_54 ?_
    refine aw_goto (pc := 55) 36 dX12_fixes_55 (by decide) ?_
    exact hK36 _ _ _ _ _ h
theorem c_X12_fixes_36 {G : ah_G}   : ∀ (n : Nat) (x0 : Nat) (x1 : Int32) (x2 : Int64) (σ : ah_H) (r : ah_H), f_X12_fixes_36   n x0 x1 x2 σ = some r → AW G m_X12_fixes 7 0 0 36 [(0, .ref x0), (1, .int x1), (2, .long x2)] [] σ (ah_N G (ah_rv r)) := by
  intro n
  induction n with
  | zero => intro x0 x1 x2 σ r h; cases h
  | succ n ih => intro x0 x1 x2 σ r h; exact c_X12_fixes_36_b   _ ih x0 x1 x2 σ r h
set_option maxRecDepth 100000 in
set_option maxHeartbeats 4000000 in
theorem c_X12_fixes_29 {G : ah_G}   : ∀ (x0 : Nat) (x1 : Int32) (x2 : Int64) (σ : ah_H) (r : ah_H), f_X12_fixes_29   x0 x1 x2 σ = some r → AW G m_X12_fixes 7 0 0 29 [(0, .ref x0), (1, .int x1), (2, .long x2)] [] σ (ah_N G (ah_rv r)) := by
  intro x0 x1 x2 σ r h
  unfold f_X12_fixes_29 at h
  refine aw_aload_n (pc := 29) 0 dX12_fixes_29 rfl ?_
  obtain ⟨v1, e, h⟩ := op_bd h
  refine ow_gR (pc := 30) e dX12_fixes_30 fd_X12_141 rfl ?_
  refine aw_iload_n (pc := 33) 1 dX12_fixes_33 rfl ?_
  refine aw_iconst (pc := 34) (v := (0 : Int32)) dX12_fixes_34 (by decide) ?_
  obtain ⟨σ2, e, h⟩ := op_bd h
  refine ow_sI (pc := 35) e dX12_fixes_35 ?_
  exact c_X12_fixes_36  _ _ _ _ _ _ h
set_option maxRecDepth 100000 in
set_option maxHeartbeats 4000000 in
theorem c_X12_fixes_7_b {G : ah_G}  (K7 : Nat → Int32 → Int64 → ah_H → Option (ah_H)) (hK7 : ∀ (x0 : Nat) (x1 : Int32) (x2 : Int64) (σ : ah_H) (r : ah_H), K7 x0 x1 x2 σ = some r → AW G m_X12_fixes 7 0 0 7 [(0, .ref x0), (1, .int x1), (2, .long x2)] [] σ (ah_N G (ah_rv r))) : ∀ (x0 : Nat) (x1 : Int32) (x2 : Int64) (σ : ah_H) (r : ah_H), f_X12_fixes_7_b  K7 x0 x1 x2 σ = some r → AW G m_X12_fixes 7 0 0 7 [(0, .ref x0), (1, .int x1), (2, .long x2)] [] σ (ah_N G (ah_rv r)) := by
  intro x0 x1 x2 σ r h
  unfold f_X12_fixes_7_b at h
  refine aw_aload_n (pc := 7) 0 dX12_fixes_7 rfl ?_
  obtain ⟨r1, e, h⟩ := op_bd h
  refine ow_cVl (pc := 8) [] ((c_X12_leastOf _ _ _ e).mono (by decide)) (op_ck_sh e) rfl dX12_fixes_8 cw_X12_530 rfl (Nat.le_of_ble_eq_true rfl) ?_
  refine aw_lload_n (pc := 11) 2 dX12_fixes_11 rfl ?_
  refine aw_lcmp (pc := 12) dX12_fixes_12 ?_
  refine aw_if_eq (pc := 13) 29 dX12_fixes_13 (by decide) (fun z => ?_) (fun z => ?_)
  · replace h := (if_pos z).symm.trans h
    exact c_X12_fixes_29  _ _ _ _ _ h
  · replace h := (if_neg z).symm.trans h
    refine aw_aload_n (pc := 16) 0 dX12_fixes_16 rfl ?_
    obtain ⟨v2, e, h⟩ := op_bd h
    refine ow_gR (pc := 17) e dX12_fixes_17 fd_X12_138 rfl ?_
    refine aw_iload_n (pc := 20) 1 dX12_fixes_20 rfl ?_
    refine aw_dup2 (pc := 21) dX12_fixes_21 rfl rfl ?_
    obtain ⟨v3, e, h⟩ := op_bd h
    refine ow_aI (pc := 22) e dX12_fixes_22 ?_
    refine aw_iconst (pc := 23) (v := (1 : Int32)) dX12_fixes_23 (by decide) ?_
    refine aw_iadd (pc := 24) dX12_fixes_24 ?_
    obtain ⟨σ4, e, h⟩ := op_bd h
    refine ow_sI (pc := 25) e dX12_fixes_25 ?_
    refine aw_goto (pc := 26) 7 dX12_fixes_26 (by decide) ?_
    exact hK7 _ _ _ _ _ h
theorem c_X12_fixes_7 {G : ah_G}   : ∀ (n : Nat) (x0 : Nat) (x1 : Int32) (x2 : Int64) (σ : ah_H) (r : ah_H), f_X12_fixes_7   n x0 x1 x2 σ = some r → AW G m_X12_fixes 7 0 0 7 [(0, .ref x0), (1, .int x1), (2, .long x2)] [] σ (ah_N G (ah_rv r)) := by
  intro n
  induction n with
  | zero => intro x0 x1 x2 σ r h; cases h
  | succ n ih => intro x0 x1 x2 σ r h; exact c_X12_fixes_7_b   _ ih x0 x1 x2 σ r h
set_option maxRecDepth 100000 in
set_option maxHeartbeats 4000000 in
theorem c_X12_fixes_0 {G : ah_G}   : ∀ (x0 : Nat) (x1 : Int32) (x2 : Int64) (σ : ah_H) (r : ah_H), f_X12_fixes_0   x0 x1 x2 σ = some r → AW G m_X12_fixes 7 0 0 0 [(0, .ref x0), (1, .int x1), (2, .long x2)] [] σ (ah_N G (ah_rv r)) := by
  intro x0 x1 x2 σ r h
  unfold f_X12_fixes_0 at h
  refine aw_aload_n (pc := 0) 0 dX12_fixes_0 rfl ?_
  obtain ⟨v1, e, h⟩ := op_bd h
  refine ow_gR (pc := 1) e dX12_fixes_1 fd_X12_138 rfl ?_
  refine aw_iload_n (pc := 4) 1 dX12_fixes_4 rfl ?_
  refine aw_iconst (pc := 5) (v := (0 : Int32)) dX12_fixes_5 (by decide) ?_
  obtain ⟨σ2, e, h⟩ := op_bd h
  refine ow_sI (pc := 6) e dX12_fixes_6 ?_
  exact c_X12_fixes_7  _ _ _ _ _ _ h
theorem c_X12_fixes {G : ah_G}   (x0 : Nat) (x1 : Int32) (x2 : Int64) (σ : ah_H) (r : ah_H) (h : f_X12_fixes  x0 x1 x2 σ = some r) : AM G m_X12_fixes 7 0 0 [.ref x0, .int x1, .long x2] σ (ah_rv r) := aw_enter (by decide) (Nat.le_of_ble_eq_true rfl) (c_X12_fixes_0 _ _ _ _ _ (op_ck_k h))
def f_X12_laid_63  (K34 : Nat → Int64 → Int32 → ah_H → Option (Int32 × ah_H)) (x0 : Nat) (x2 : Int64) (x4 : Int32) (σ : ah_H) : Option (Int32 × ah_H) :=
  K34 x0 x2 (x4 + (1 : Int32)) σ
def f_X12_laid_76_b  (K76 : Nat → Int32 → ah_H → Option (Int32 × ah_H)) (x0 : Nat) (x4 : Int32) (σ : ah_H) : Option (Int32 × ah_H) :=
  if (7 : Int32) ≤ x4 then ((op_rz (1 : Int32)).map fun q => (q, σ)) else ((op_gR 12 38 σ x0).bind fun v1 => (op_gR 12 38 σ x0).bind fun v2 => (op_aI σ v2 ((7 : Int32) + x4)).bind fun v3 => (op_sI σ v1 x4 v3).bind fun σ4 => (op_gR 12 39 σ4 x0).bind fun v5 => (op_gR 12 61 σ4 x0).bind fun v6 => (op_aI σ4 v6 x4).bind fun v7 => (op_sI σ4 v5 x4 v7).bind fun σ8 => (op_gR 12 40 σ8 x0).bind fun v9 => (op_gR 12 62 σ8 x0).bind fun v10 => (op_aI σ8 v10 x4).bind fun v11 => (op_sI σ8 v9 x4 v11).bind fun σ12 => (op_gR 12 41 σ12 x0).bind fun v13 => (op_gR 12 63 σ12 x0).bind fun v14 => (op_aI σ12 v14 x4).bind fun v15 => (op_sI σ12 v13 x4 v15).bind fun σ16 => K76 x0 (x4 + (1 : Int32)) σ16)
def f_X12_laid_76   : Nat → Nat → Int32 → ah_H → Option (Int32 × ah_H)
  | 0, _, _, _ => none
  | n + 1, x0, x4, σ => f_X12_laid_76_b (f_X12_laid_76 n) x0 x4 σ
def f_X12_laid_69   (x0 : Nat) (σ : ah_H) : Option (Int32 × ah_H) :=
  (f_X12_keepNow x0 σ).bind fun r1 => f_X12_laid_76 5000 x0 (0 : Int32) r1
def f_X12_laid_34_b  (K34 : Nat → Int64 → Int32 → ah_H → Option (Int32 × ah_H)) (x0 : Nat) (x2 : Int64) (x4 : Int32) (σ : ah_H) : Option (Int32 × ah_H) :=
  (op_gR 12 3 σ x0).bind fun v1 => (op_aI σ v1 (0 : Int32)).bind fun v2 => if v2 ≤ x4 then (f_X12_laid_69 x0 σ) else ((op_gR 12 3 σ x0).bind fun v3 => (op_aI σ v3 (4 : Int32)).bind fun v4 => if x4 = v4 then (f_X12_laid_63 K34 x0 x2 x4 σ) else ((f_X12_fixes x0 x4 x2 σ).bind fun r5 => f_X12_laid_63 K34 x0 x2 x4 r5))
def f_X12_laid_34   : Nat → Nat → Int64 → Int32 → ah_H → Option (Int32 × ah_H)
  | 0, _, _, _, _ => none
  | n + 1, x0, x2, x4, σ => f_X12_laid_34_b (f_X12_laid_34 n) x0 x2 x4 σ
def f_X12_laid_0   (x0 : Nat) (x1 : Int32) (σ : ah_H) : Option (Int32 × ah_H) :=
  (op_pI 12 0 σ x0 (0 : Int32)).bind fun σ1 => (f_X12_isTree x0 x1 σ1).bind fun r2 => if r2.1 = 0 then ((op_rz (0 : Int32)).map fun q => (q, r2.2)) else ((f_X12_cheapestOf x0 x1 r2.2).bind fun r3 => if (lg_cmp r3.1 (4000000000000000000 : Int64)) < 0 then (f_X12_laid_34 5000 x0 r3.1 (0 : Int32) r3.2) else ((op_rz (0 : Int32)).map fun q => (q, r3.2)))
def f_X12_laid  (x0 : Nat) (x1 : Int32) (σ : ah_H) : Option (Int32 × ah_H) := op_ck 12 σ x0 (f_X12_laid_0 x0 x1 σ)
set_option maxRecDepth 100000 in
set_option maxHeartbeats 4000000 in
theorem c_X12_laid_63 {G : ah_G}  (K34 : Nat → Int64 → Int32 → ah_H → Option (Int32 × ah_H)) (hK34 : ∀ (x0 : Nat) (x2 : Int64) (x4 : Int32) (σ : ah_H) (r : Int32 × ah_H), K34 x0 x2 x4 σ = some r → AW G m_X12_laid 8 0 0 34 [(0, .ref x0), (2, .long x2), (4, .int x4)] [] σ (ah_N G (ah_ri r))) : ∀ (x0 : Nat) (x2 : Int64) (x4 : Int32) (σ : ah_H) (r : Int32 × ah_H), f_X12_laid_63  K34 x0 x2 x4 σ = some r → AW G m_X12_laid 8 0 0 63 [(0, .ref x0), (2, .long x2), (4, .int x4)] [] σ (ah_N G (ah_ri r)) := by
  intro x0 x2 x4 σ r h
  unfold f_X12_laid_63 at h
  refine aw_iinc (pc := 63) 2 [(4, .int (x4 + (1 : Int32))), (0, .ref x0), (2, .long x2)] (x4 + (1 : Int32)) dX12_laid_63 rfl rfl (by decide) rfl ?_
  refine aw_goto (pc := 66) 34 dX12_laid_66 (by decide) ?_
  refine aw_sub [1, 2, 0] rfl ?_
  exact hK34 _ _ _ _ _ h
set_option maxRecDepth 100000 in
set_option maxHeartbeats 4000000 in
theorem c_X12_laid_76_b {G : ah_G}  (K76 : Nat → Int32 → ah_H → Option (Int32 × ah_H)) (hK76 : ∀ (x0 : Nat) (x4 : Int32) (σ : ah_H) (r : Int32 × ah_H), K76 x0 x4 σ = some r → AW G m_X12_laid 8 0 0 76 [(0, .ref x0), (4, .int x4)] [] σ (ah_N G (ah_ri r))) : ∀ (x0 : Nat) (x4 : Int32) (σ : ah_H) (r : Int32 × ah_H), f_X12_laid_76_b  K76 x0 x4 σ = some r → AW G m_X12_laid 8 0 0 76 [(0, .ref x0), (4, .int x4)] [] σ (ah_N G (ah_ri r)) := by
  intro x0 x4 σ r h
  unfold f_X12_laid_76_b at h
  refine aw_iload (pc := 76) 1 dX12_laid_76 rfl ?_
  refine aw_bipush (pc := 78) (v := (7 : Int32)) dX12_laid_78 (by decide) ?_
  refine aw_icmp_ge (pc := 80) 148 dX12_laid_80 (by decide) (fun z => ?_) (fun z => ?_)
  · replace h := (if_pos z).symm.trans h
    refine aw_iconst (pc := 148) (v := (1 : Int32)) dX12_laid_148 (by decide) ?_
    exact ow_zret (pc := 149) h dX12_laid_149 rfl
  · replace h := (if_neg z).symm.trans h
    refine aw_aload_n (pc := 83) 0 dX12_laid_83 rfl ?_
    obtain ⟨v1, e, h⟩ := op_bd h
    refine ow_gR (pc := 84) e dX12_laid_84 fd_X12_83 rfl ?_
    refine aw_iload (pc := 87) 1 dX12_laid_87 rfl ?_
    refine aw_aload_n (pc := 89) 0 dX12_laid_89 rfl ?_
    obtain ⟨v2, e, h⟩ := op_bd h
    refine ow_gR (pc := 90) e dX12_laid_90 fd_X12_83 rfl ?_
    refine aw_bipush (pc := 93) (v := (7 : Int32)) dX12_laid_93 (by decide) ?_
    refine aw_iload (pc := 95) 1 dX12_laid_95 rfl ?_
    refine aw_iadd (pc := 97) dX12_laid_97 ?_
    obtain ⟨v3, e, h⟩ := op_bd h
    refine ow_aI (pc := 98) e dX12_laid_98 ?_
    obtain ⟨σ4, e, h⟩ := op_bd h
    refine ow_sI (pc := 99) e dX12_laid_99 ?_
    refine aw_aload_n (pc := 100) 0 dX12_laid_100 rfl ?_
    obtain ⟨v5, e, h⟩ := op_bd h
    refine ow_gR (pc := 101) e dX12_laid_101 fd_X12_86 rfl ?_
    refine aw_iload (pc := 104) 1 dX12_laid_104 rfl ?_
    refine aw_aload_n (pc := 106) 0 dX12_laid_106 rfl ?_
    obtain ⟨v6, e, h⟩ := op_bd h
    refine ow_gR (pc := 107) e dX12_laid_107 fd_X12_138 rfl ?_
    refine aw_iload (pc := 110) 1 dX12_laid_110 rfl ?_
    obtain ⟨v7, e, h⟩ := op_bd h
    refine ow_aI (pc := 112) e dX12_laid_112 ?_
    obtain ⟨σ8, e, h⟩ := op_bd h
    refine ow_sI (pc := 113) e dX12_laid_113 ?_
    refine aw_aload_n (pc := 114) 0 dX12_laid_114 rfl ?_
    obtain ⟨v9, e, h⟩ := op_bd h
    refine ow_gR (pc := 115) e dX12_laid_115 fd_X12_89 rfl ?_
    refine aw_iload (pc := 118) 1 dX12_laid_118 rfl ?_
    refine aw_aload_n (pc := 120) 0 dX12_laid_120 rfl ?_
    obtain ⟨v10, e, h⟩ := op_bd h
    refine ow_gR (pc := 121) e dX12_laid_121 fd_X12_141 rfl ?_
    refine aw_iload (pc := 124) 1 dX12_laid_124 rfl ?_
    obtain ⟨v11, e, h⟩ := op_bd h
    refine ow_aI (pc := 126) e dX12_laid_126 ?_
    obtain ⟨σ12, e, h⟩ := op_bd h
    refine ow_sI (pc := 127) e dX12_laid_127 ?_
    refine aw_aload_n (pc := 128) 0 dX12_laid_128 rfl ?_
    obtain ⟨v13, e, h⟩ := op_bd h
    refine ow_gR (pc := 129) e dX12_laid_129 fd_X12_92 rfl ?_
    refine aw_iload (pc := 132) 1 dX12_laid_132 rfl ?_
    refine aw_aload_n (pc := 134) 0 dX12_laid_134 rfl ?_
    obtain ⟨v14, e, h⟩ := op_bd h
    refine ow_gR (pc := 135) e dX12_laid_135 fd_X12_144 rfl ?_
    refine aw_iload (pc := 138) 1 dX12_laid_138 rfl ?_
    obtain ⟨v15, e, h⟩ := op_bd h
    refine ow_aI (pc := 140) e dX12_laid_140 ?_
    obtain ⟨σ16, e, h⟩ := op_bd h
    refine ow_sI (pc := 141) e dX12_laid_141 ?_
    refine aw_iinc (pc := 142) 1 [(4, .int (x4 + (1 : Int32))), (0, .ref x0)] (x4 + (1 : Int32)) dX12_laid_142 rfl rfl (by decide) rfl ?_
    refine aw_goto (pc := 145) 76 dX12_laid_145 (by decide) ?_
    refine aw_sub [1, 0] rfl ?_
    exact hK76 _ _ _ _ h
theorem c_X12_laid_76 {G : ah_G}   : ∀ (n : Nat) (x0 : Nat) (x4 : Int32) (σ : ah_H) (r : Int32 × ah_H), f_X12_laid_76   n x0 x4 σ = some r → AW G m_X12_laid 8 0 0 76 [(0, .ref x0), (4, .int x4)] [] σ (ah_N G (ah_ri r)) := by
  intro n
  induction n with
  | zero => intro x0 x4 σ r h; cases h
  | succ n ih => intro x0 x4 σ r h; exact c_X12_laid_76_b   _ ih x0 x4 σ r h
set_option maxRecDepth 100000 in
set_option maxHeartbeats 4000000 in
theorem c_X12_laid_69 {G : ah_G}   : ∀ (x0 : Nat) (σ : ah_H) (r : Int32 × ah_H), f_X12_laid_69   x0 σ = some r → AW G m_X12_laid 8 0 0 69 [(0, .ref x0)] [] σ (ah_N G (ah_ri r)) := by
  intro x0 σ r h
  unfold f_X12_laid_69 at h
  refine aw_aload_n (pc := 69) 0 dX12_laid_69 rfl ?_
  obtain ⟨r1, e, h⟩ := op_bd h
  refine ow_cVv (pc := 70) [] ((c_X12_keepNow _ _ _ e).mono (by decide)) (op_ck_sh e) rfl dX12_laid_70 cw_X12_446 rfl (Nat.le_of_ble_eq_true rfl) ?_
  refine aw_iconst (pc := 73) (v := (0 : Int32)) dX12_laid_73 (by decide) ?_
  refine aw_istore (pc := 74) [(4, .int (0 : Int32)), (0, .ref x0)] dX12_laid_74 (by decide) rfl ?_
  refine aw_sub [1, 0] rfl ?_
  exact c_X12_laid_76  _ _ _ _ _ h
set_option maxRecDepth 100000 in
set_option maxHeartbeats 4000000 in
theorem c_X12_laid_34_b {G : ah_G}  (K34 : Nat → Int64 → Int32 → ah_H → Option (Int32 × ah_H)) (hK34 : ∀ (x0 : Nat) (x2 : Int64) (x4 : Int32) (σ : ah_H) (r : Int32 × ah_H), K34 x0 x2 x4 σ = some r → AW G m_X12_laid 8 0 0 34 [(0, .ref x0), (2, .long x2), (4, .int x4)] [] σ (ah_N G (ah_ri r))) : ∀ (x0 : Nat) (x2 : Int64) (x4 : Int32) (σ : ah_H) (r : Int32 × ah_H), f_X12_laid_34_b  K34 x0 x2 x4 σ = some r → AW G m_X12_laid 8 0 0 34 [(0, .ref x0), (2, .long x2), (4, .int x4)] [] σ (ah_N G (ah_ri r)) := by
  intro x0 x2 x4 σ r h
  unfold f_X12_laid_34_b at h
  refine aw_iload (pc := 34) 2 dX12_laid_34 rfl ?_
  refine aw_aload_n (pc := 36) 0 dX12_laid_36 rfl ?_
  obtain ⟨v1, e, h⟩ := op_bd h
  refine ow_gR (pc := 37) e dX12_laid_37 fd_X12_15 rfl ?_
  refine aw_iconst (pc := 40) (v := (0 : Int32)) dX12_laid_40 (by decide) ?_
  obtain ⟨v2, e, h⟩ := op_bd h
  refine ow_aI (pc := 41) e dX12_laid_41 ?_
  refine aw_icmp_ge (pc := 42) 69 dX12_laid_42 (by decide) (fun z => ?_) (fun z => ?_)
  · replace h := (if_pos z).symm.trans h
    refine aw_sub [0] rfl ?_
    exact c_X12_laid_69  _ _ _ h
  · replace h := (if_neg z).symm.trans h
    refine aw_iload (pc := 45) 2 dX12_laid_45 rfl ?_
    refine aw_aload_n (pc := 47) 0 dX12_laid_47 rfl ?_
    obtain ⟨v3, e, h⟩ := op_bd h
    refine ow_gR (pc := 48) e dX12_laid_48 fd_X12_15 rfl ?_
    refine aw_iconst (pc := 51) (v := (4 : Int32)) dX12_laid_51 (by decide) ?_
    obtain ⟨v4, e, h⟩ := op_bd h
    refine ow_aI (pc := 52) e dX12_laid_52 ?_
    refine aw_icmp_eq (pc := 53) 63 dX12_laid_53 (by decide) (fun z => ?_) (fun z => ?_)
    · replace h := (if_pos z).symm.trans h
      exact c_X12_laid_63 K34 hK34 _ _ _ _ _ h
    · replace h := (if_neg z).symm.trans h
      refine aw_aload_n (pc := 56) 0 dX12_laid_56 rfl ?_
      refine aw_iload (pc := 57) 2 dX12_laid_57 rfl ?_
      refine aw_lload_n (pc := 59) 1 dX12_laid_59 rfl ?_
      obtain ⟨r5, e, h⟩ := op_bd h
      refine ow_cVv (pc := 60) [.int x4, .long x2] ((c_X12_fixes _ _ _ _ _ e).mono (by decide)) (op_ck_sh e) rfl dX12_laid_60 cw_X12_542 rfl (Nat.le_of_ble_eq_true rfl) ?_
      exact c_X12_laid_63 K34 hK34 _ _ _ _ _ h
theorem c_X12_laid_34 {G : ah_G}   : ∀ (n : Nat) (x0 : Nat) (x2 : Int64) (x4 : Int32) (σ : ah_H) (r : Int32 × ah_H), f_X12_laid_34   n x0 x2 x4 σ = some r → AW G m_X12_laid 8 0 0 34 [(0, .ref x0), (2, .long x2), (4, .int x4)] [] σ (ah_N G (ah_ri r)) := by
  intro n
  induction n with
  | zero => intro x0 x2 x4 σ r h; cases h
  | succ n ih => intro x0 x2 x4 σ r h; exact c_X12_laid_34_b   _ ih x0 x2 x4 σ r h
set_option maxRecDepth 100000 in
set_option maxHeartbeats 4000000 in
theorem c_X12_laid_0 {G : ah_G}   : ∀ (x0 : Nat) (x1 : Int32) (σ : ah_H) (r : Int32 × ah_H), f_X12_laid_0   x0 x1 σ = some r → AW G m_X12_laid 8 0 0 0 [(0, .ref x0), (1, .int x1)] [] σ (ah_N G (ah_ri r)) := by
  intro x0 x1 σ r h
  unfold f_X12_laid_0 at h
  refine aw_aload_n (pc := 0) 0 dX12_laid_0 rfl ?_
  refine aw_iconst (pc := 1) (v := (0 : Int32)) dX12_laid_1 (by decide) ?_
  obtain ⟨σ1, e, h⟩ := op_bd h
  refine ow_pI (pc := 2) e dX12_laid_2 fd_X12_153 ?_
  refine aw_aload_n (pc := 5) 0 dX12_laid_5 rfl ?_
  refine aw_iload_n (pc := 6) 1 dX12_laid_6 rfl ?_
  obtain ⟨r2, e, h⟩ := op_bd h
  refine ow_cVi (pc := 7) [.int x1] ((c_X12_isTree _ _ _ _ e).mono (by decide)) (op_ck_sh e) rfl dX12_laid_7 cw_X12_534 rfl (Nat.le_of_ble_eq_true rfl) ?_
  refine aw_if_ne (pc := 10) 15 dX12_laid_10 (by decide) (fun z => ?_) (fun z => ?_)
  · replace h := (if_neg z).symm.trans h
    refine aw_aload_n (pc := 15) 0 dX12_laid_15 rfl ?_
    refine aw_iload_n (pc := 16) 1 dX12_laid_16 rfl ?_
    obtain ⟨r3, e, h⟩ := op_bd h
    refine ow_cVl (pc := 17) [.int x1] ((c_X12_cheapestOf _ _ _ _ e).mono (by decide)) (op_ck_sh e) rfl dX12_laid_17 cw_X12_537 rfl (Nat.le_of_ble_eq_true rfl) ?_
    refine aw_lstore_n (pc := 20) [(2, .long r3.1), (0, .ref x0), (1, .int x1)] dX12_laid_20 rfl (by decide) rfl ?_
    refine aw_lload_n (pc := 21) 0 dX12_laid_21 rfl ?_
    refine aw_ldc2 (pc := 22) dX12_laid_22 kl_X12_423 ?_
    refine aw_lcmp (pc := 25) dX12_laid_25 ?_
    refine aw_if_lt (pc := 26) 31 dX12_laid_26 (by decide) (fun z => ?_) (fun z => ?_)
    · replace h := (if_pos z).symm.trans h
      refine aw_iconst (pc := 31) (v := (0 : Int32)) dX12_laid_31 (by decide) ?_
      refine aw_istore (pc := 32) [(4, .int (0 : Int32)), (2, .long r3.1), (0, .ref x0), (1, .int x1)] dX12_laid_32 (by decide) rfl ?_
      refine aw_sub [2, 1, 0] rfl ?_
      exact c_X12_laid_34  _ _ _ _ _ _ h
    · replace h := (if_neg z).symm.trans h
      refine aw_iconst (pc := 29) (v := (0 : Int32)) dX12_laid_29 (by decide) ?_
      exact ow_zret (pc := 30) h dX12_laid_30 rfl
  · replace h := (if_pos z).symm.trans h
    refine aw_iconst (pc := 13) (v := (0 : Int32)) dX12_laid_13 (by decide) ?_
    exact ow_zret (pc := 14) h dX12_laid_14 rfl
theorem c_X12_laid {G : ah_G}   (x0 : Nat) (x1 : Int32) (σ : ah_H) (r : Int32 × ah_H) (h : f_X12_laid  x0 x1 σ = some r) : AM G m_X12_laid 8 0 0 [.ref x0, .int x1] σ (ah_ri r) := aw_enter (by decide) (Nat.le_of_ble_eq_true rfl) (c_X12_laid_0 _ _ _ _ (op_ck_k h))
def f_X12_leastTree_86  (K17 : Nat → Int32 → Int64 → Int32 → ah_H → Option (Int64 × ah_H)) (x0 : Nat) (x1 : Int32) (x2 : Int64) (x4 : Int32) (σ : ah_H) : Option (Int64 × ah_H) :=
  K17 x0 x1 x2 (x4 + (1 : Int32)) σ
def f_X12_leastTree_17_b  (K17 : Nat → Int32 → Int64 → Int32 → ah_H → Option (Int64 × ah_H)) (x0 : Nat) (x1 : Int32) (x2 : Int64) (x4 : Int32) (σ : ah_H) : Option (Int64 × ah_H) :=
  (op_gR 12 3 σ x0).bind fun v1 => (op_aI σ v1 (1 : Int32)).bind fun v2 => if ((1 : Int32) <<< (v2 &&& 31)) ≤ x4 then (some (x2, σ)) else (if (x4 &&& x1) = 0 then ((f_X12_isTree x0 x4 σ).bind fun r3 => if r3.1 = 0 then (f_X12_leastTree_86 K17 x0 x1 x2 x4 r3.2) else ((op_gI 12 64 r3.2 x0).bind fun v4 => (op_pI 12 64 r3.2 x0 (v4 + (1 : Int32))).bind fun σ5 => (f_X12_cheapestOf x0 x4 σ5).bind fun r6 => if (lg_cmp r6.1 x2) < 0 then ((op_pI 12 65 r6.2 x0 x4).bind fun σ7 => f_X12_leastTree_86 K17 x0 x1 r6.1 x4 σ7) else (f_X12_leastTree_86 K17 x0 x1 x2 x4 r6.2))) else (f_X12_leastTree_86 K17 x0 x1 x2 x4 σ))
def f_X12_leastTree_17   : Nat → Nat → Int32 → Int64 → Int32 → ah_H → Option (Int64 × ah_H)
  | 0, _, _, _, _, _ => none
  | n + 1, x0, x1, x2, x4, σ => f_X12_leastTree_17_b (f_X12_leastTree_17 n) x0 x1 x2 x4 σ
def f_X12_leastTree_0   (x0 : Nat) (x1 : Int32) (σ : ah_H) : Option (Int64 × ah_H) :=
  (op_pI 12 64 σ x0 (0 : Int32)).bind fun σ1 => (op_pI 12 65 σ1 x0 (-1 : Int32)).bind fun σ2 => f_X12_leastTree_17 5000 x0 x1 (4000000000000000000 : Int64) (0 : Int32) σ2
def f_X12_leastTree  (x0 : Nat) (x1 : Int32) (σ : ah_H) : Option (Int64 × ah_H) := op_ck 12 σ x0 (f_X12_leastTree_0 x0 x1 σ)
set_option maxRecDepth 100000 in
set_option maxHeartbeats 4000000 in
theorem c_X12_leastTree_86 {G : ah_G}  (K17 : Nat → Int32 → Int64 → Int32 → ah_H → Option (Int64 × ah_H)) (hK17 : ∀ (x0 : Nat) (x1 : Int32) (x2 : Int64) (x4 : Int32) (σ : ah_H) (r : Int64 × ah_H), K17 x0 x1 x2 x4 σ = some r → AW G m_X12_leastTree 8 0 0 17 [(0, .ref x0), (1, .int x1), (2, .long x2), (4, .int x4)] [] σ (ah_N G (ah_rl r))) : ∀ (x0 : Nat) (x1 : Int32) (x2 : Int64) (x4 : Int32) (σ : ah_H) (r : Int64 × ah_H), f_X12_leastTree_86  K17 x0 x1 x2 x4 σ = some r → AW G m_X12_leastTree 8 0 0 86 [(0, .ref x0), (1, .int x1), (2, .long x2), (4, .int x4)] [] σ (ah_N G (ah_rl r)) := by
  intro x0 x1 x2 x4 σ r h
  unfold f_X12_leastTree_86 at h
  refine aw_iinc (pc := 86) 3 [(4, .int (x4 + (1 : Int32))), (0, .ref x0), (1, .int x1), (2, .long x2)] (x4 + (1 : Int32)) dX12_leastTree_86 rfl rfl (by decide) rfl ?_
  refine aw_goto (pc := 89) 17 dX12_leastTree_89 (by decide) ?_
  refine aw_sub [1, 2, 3, 0] rfl ?_
  exact hK17 _ _ _ _ _ _ h
set_option maxRecDepth 100000 in
set_option maxHeartbeats 4000000 in
theorem c_X12_leastTree_17_b {G : ah_G}  (K17 : Nat → Int32 → Int64 → Int32 → ah_H → Option (Int64 × ah_H)) (hK17 : ∀ (x0 : Nat) (x1 : Int32) (x2 : Int64) (x4 : Int32) (σ : ah_H) (r : Int64 × ah_H), K17 x0 x1 x2 x4 σ = some r → AW G m_X12_leastTree 8 0 0 17 [(0, .ref x0), (1, .int x1), (2, .long x2), (4, .int x4)] [] σ (ah_N G (ah_rl r))) : ∀ (x0 : Nat) (x1 : Int32) (x2 : Int64) (x4 : Int32) (σ : ah_H) (r : Int64 × ah_H), f_X12_leastTree_17_b  K17 x0 x1 x2 x4 σ = some r → AW G m_X12_leastTree 8 0 0 17 [(0, .ref x0), (1, .int x1), (2, .long x2), (4, .int x4)] [] σ (ah_N G (ah_rl r)) := by
  intro x0 x1 x2 x4 σ r h
  unfold f_X12_leastTree_17_b at h
  refine aw_iload (pc := 17) 3 dX12_leastTree_17 rfl ?_
  refine aw_iconst (pc := 19) (v := (1 : Int32)) dX12_leastTree_19 (by decide) ?_
  refine aw_aload_n (pc := 20) 0 dX12_leastTree_20 rfl ?_
  obtain ⟨v1, e, h⟩ := op_bd h
  refine ow_gR (pc := 21) e dX12_leastTree_21 fd_X12_15 rfl ?_
  refine aw_iconst (pc := 24) (v := (1 : Int32)) dX12_leastTree_24 (by decide) ?_
  obtain ⟨v2, e, h⟩ := op_bd h
  refine ow_aI (pc := 25) e dX12_leastTree_25 ?_
  refine aw_ishl (pc := 26) dX12_leastTree_26 ?_
  refine aw_icmp_ge (pc := 27) 92 dX12_leastTree_27 (by decide) (fun z => ?_) (fun z => ?_)
  · replace h := (if_pos z).symm.trans h
    refine aw_lload_n (pc := 92) 2 dX12_leastTree_92 rfl ?_
    exact ow_lret (pc := 93) h dX12_leastTree_93 rfl
  · replace h := (if_neg z).symm.trans h
    refine aw_iload (pc := 30) 3 dX12_leastTree_30 rfl ?_
    refine aw_iload_n (pc := 32) 1 dX12_leastTree_32 rfl ?_
    refine aw_iand (pc := 33) dX12_leastTree_33 ?_
    refine aw_if_ne (pc := 34) 86 dX12_leastTree_34 (by decide) (fun z => ?_) (fun z => ?_)
    · replace h := (if_neg z).symm.trans h
      exact c_X12_leastTree_86 K17 hK17 _ _ _ _ _ _ h
    · replace h := (if_pos z).symm.trans h
      refine aw_aload_n (pc := 37) 0 dX12_leastTree_37 rfl ?_
      refine aw_iload (pc := 38) 3 dX12_leastTree_38 rfl ?_
      obtain ⟨r3, e, h⟩ := op_bd h
      refine ow_cVi (pc := 40) [.int x4] ((c_X12_isTree _ _ _ _ e).mono (by decide)) (op_ck_sh e) rfl dX12_leastTree_40 cw_X12_534 rfl (Nat.le_of_ble_eq_true rfl) ?_
      refine aw_if_ne (pc := 43) 49 dX12_leastTree_43 (by decide) (fun z => ?_) (fun z => ?_)
      · replace h := (if_neg z).symm.trans h
        refine aw_aload_n (pc := 49) 0 dX12_leastTree_49 rfl ?_
        refine aw_dup (pc := 50) dX12_leastTree_50 rfl ?_
        obtain ⟨v4, e, h⟩ := op_bd h
        refine ow_gI (pc := 51) e dX12_leastTree_51 fd_X12_546 rfl ?_
        refine aw_iconst (pc := 54) (v := (1 : Int32)) dX12_leastTree_54 (by decide) ?_
        refine aw_iadd (pc := 55) dX12_leastTree_55 ?_
        obtain ⟨σ5, e, h⟩ := op_bd h
        refine ow_pI (pc := 56) e dX12_leastTree_56 fd_X12_546 ?_
        refine aw_aload_n (pc := 59) 0 dX12_leastTree_59 rfl ?_
        refine aw_iload (pc := 60) 3 dX12_leastTree_60 rfl ?_
        obtain ⟨r6, e, h⟩ := op_bd h
        refine ow_cVl (pc := 62) [.int x4] ((c_X12_cheapestOf _ _ _ _ e).mono (by decide)) (op_ck_sh e) rfl dX12_leastTree_62 cw_X12_537 rfl (Nat.le_of_ble_eq_true rfl) ?_
        refine aw_lstore (pc := 65) [(5, .long r6.1), (0, .ref x0), (1, .int x1), (2, .long x2), (4, .int x4)] dX12_leastTree_65 (by decide) rfl ?_
        refine aw_lload (pc := 67) 0 dX12_leastTree_67 rfl ?_
        refine aw_lload_n (pc := 69) 3 dX12_leastTree_69 rfl ?_
        refine aw_lcmp (pc := 70) dX12_leastTree_70 ?_
        refine aw_if_lt (pc := 71) 77 dX12_leastTree_71 (by decide) (fun z => ?_) (fun z => ?_)
        · replace h := (if_pos z).symm.trans h
          refine aw_lload (pc := 77) 0 dX12_leastTree_77 rfl ?_
          refine aw_lstore_n (pc := 79) [(2, .long r6.1), (5, .long r6.1), (0, .ref x0), (1, .int x1), (4, .int x4)] dX12_leastTree_79 rfl (by decide) rfl ?_
          refine aw_aload_n (pc := 80) 2 dX12_leastTree_80 rfl ?_
          refine aw_iload (pc := 81) 4 dX12_leastTree_81 rfl ?_
          obtain ⟨σ7, e, h⟩ := op_bd h
          refine ow_pI (pc := 83) e dX12_leastTree_83 fd_X12_549 ?_
          refine aw_sub [2, 3, 0, 4] rfl ?_
          exact c_X12_leastTree_86 K17 hK17 _ _ _ _ _ _ h
        · replace h := (if_neg z).symm.trans h
          refine aw_goto (pc := 74) 86 dX12_leastTree_74 (by decide) ?_
          refine aw_sub [1, 2, 3, 4] rfl ?_
          exact c_X12_leastTree_86 K17 hK17 _ _ _ _ _ _ h
      · replace h := (if_pos z).symm.trans h
        refine aw_goto (pc := 46) 86 dX12_leastTree_46 (by decide) ?_
        exact c_X12_leastTree_86 K17 hK17 _ _ _ _ _ _ h
theorem c_X12_leastTree_17 {G : ah_G}   : ∀ (n : Nat) (x0 : Nat) (x1 : Int32) (x2 : Int64) (x4 : Int32) (σ : ah_H) (r : Int64 × ah_H), f_X12_leastTree_17   n x0 x1 x2 x4 σ = some r → AW G m_X12_leastTree 8 0 0 17 [(0, .ref x0), (1, .int x1), (2, .long x2), (4, .int x4)] [] σ (ah_N G (ah_rl r)) := by
  intro n
  induction n with
  | zero => intro x0 x1 x2 x4 σ r h; cases h
  | succ n ih => intro x0 x1 x2 x4 σ r h; exact c_X12_leastTree_17_b   _ ih x0 x1 x2 x4 σ r h
set_option maxRecDepth 100000 in
set_option maxHeartbeats 4000000 in
theorem c_X12_leastTree_0 {G : ah_G}   : ∀ (x0 : Nat) (x1 : Int32) (σ : ah_H) (r : Int64 × ah_H), f_X12_leastTree_0   x0 x1 σ = some r → AW G m_X12_leastTree 8 0 0 0 [(0, .ref x0), (1, .int x1)] [] σ (ah_N G (ah_rl r)) := by
  intro x0 x1 σ r h
  unfold f_X12_leastTree_0 at h
  refine aw_ldc2 (pc := 0) dX12_leastTree_0 kl_X12_423 ?_
  refine aw_lstore_n (pc := 3) [(2, .long (4000000000000000000 : Int64)), (0, .ref x0), (1, .int x1)] dX12_leastTree_3 rfl (by decide) rfl ?_
  refine aw_aload_n (pc := 4) 1 dX12_leastTree_4 rfl ?_
  refine aw_iconst (pc := 5) (v := (0 : Int32)) dX12_leastTree_5 (by decide) ?_
  obtain ⟨σ1, e, h⟩ := op_bd h
  refine ow_pI (pc := 6) e dX12_leastTree_6 fd_X12_546 ?_
  refine aw_aload_n (pc := 9) 1 dX12_leastTree_9 rfl ?_
  refine aw_iconst (pc := 10) (v := (-1 : Int32)) dX12_leastTree_10 (by decide) ?_
  obtain ⟨σ2, e, h⟩ := op_bd h
  refine ow_pI (pc := 11) e dX12_leastTree_11 fd_X12_549 ?_
  refine aw_iconst (pc := 14) (v := (0 : Int32)) dX12_leastTree_14 (by decide) ?_
  refine aw_istore (pc := 15) [(4, .int (0 : Int32)), (2, .long (4000000000000000000 : Int64)), (0, .ref x0), (1, .int x1)] dX12_leastTree_15 (by decide) rfl ?_
  refine aw_sub [2, 3, 1, 0] rfl ?_
  exact c_X12_leastTree_17  _ _ _ _ _ _ _ h
theorem c_X12_leastTree {G : ah_G}   (x0 : Nat) (x1 : Int32) (σ : ah_H) (r : Int64 × ah_H) (h : f_X12_leastTree  x0 x1 σ = some r) : AM G m_X12_leastTree 8 0 0 [.ref x0, .int x1] σ (ah_rl r) := aw_enter (by decide) (Nat.le_of_ble_eq_true rfl) (c_X12_leastTree_0 _ _ _ _ (op_ck_k h))
def f_X12_tree_0   (x0 : Nat) (x1 : Int32) (σ : ah_H) : Option (Int64 × ah_H) :=
  (op_pI 12 0 σ x0 (0 : Int32)).bind fun σ1 => if x1 < 0 then (some ((-1 : Int64), σ1)) else (if x1 ≤ (2 : Int32) then ((f_X12_leastTree x0 (0 : Int32) σ1).bind fun r2 => if x1 = (2 : Int32) then ((op_gI 12 64 r2.2 x0).bind fun v4 => some ((Int32.toInt64 v4), r2.2)) else (if (lg_cmp r2.1 (4000000000000000000 : Int64)) < 0 then (if x1 = 0 then (some (r2.1, r2.2)) else ((op_gI 12 65 r2.2 x0).bind fun v3 => some ((Int32.toInt64 v3), r2.2))) else (some ((-2 : Int64), r2.2)))) else (some ((-1 : Int64), σ1)))
def f_X12_tree  (x0 : Nat) (x1 : Int32) (σ : ah_H) : Option (Int64 × ah_H) := op_ck 12 σ x0 (f_X12_tree_0 x0 x1 σ)
set_option maxRecDepth 100000 in
set_option maxHeartbeats 4000000 in
theorem c_X12_tree_0 {G : ah_G}   : ∀ (x0 : Nat) (x1 : Int32) (σ : ah_H) (r : Int64 × ah_H), f_X12_tree_0   x0 x1 σ = some r → AW G m_X12_tree 9 0 0 0 [(0, .ref x0), (1, .int x1)] [] σ (ah_N G (ah_rl r)) := by
  intro x0 x1 σ r h
  unfold f_X12_tree_0 at h
  refine aw_aload_n (pc := 0) 0 dX12_tree_0 rfl ?_
  refine aw_iconst (pc := 1) (v := (0 : Int32)) dX12_tree_1 (by decide) ?_
  obtain ⟨σ1, e, h⟩ := op_bd h
  refine ow_pI (pc := 2) e dX12_tree_2 fd_X12_153 ?_
  refine aw_iload_n (pc := 5) 1 dX12_tree_5 rfl ?_
  refine aw_if_lt (pc := 6) 14 dX12_tree_6 (by decide) (fun z => ?_) (fun z => ?_)
  · replace h := (if_pos z).symm.trans h
    refine aw_ldc2 (pc := 14) dX12_tree_14 kl_X12_432 ?_
    exact ow_lret (pc := 17) h dX12_tree_17 rfl
  · replace h := (if_neg z).symm.trans h
    refine aw_iload_n (pc := 9) 1 dX12_tree_9 rfl ?_
    refine aw_iconst (pc := 10) (v := (2 : Int32)) dX12_tree_10 (by decide) ?_
    refine aw_icmp_le (pc := 11) 18 dX12_tree_11 (by decide) (fun z => ?_) (fun z => ?_)
    · replace h := (if_pos z).symm.trans h
      refine aw_aload_n (pc := 18) 0 dX12_tree_18 rfl ?_
      refine aw_iconst (pc := 19) (v := (0 : Int32)) dX12_tree_19 (by decide) ?_
      obtain ⟨r2, e, h⟩ := op_bd h
      refine ow_cVl (pc := 20) [.int (0 : Int32)] ((c_X12_leastTree _ _ _ _ e).mono (by decide)) (op_ck_sh e) rfl dX12_tree_20 cw_X12_552 rfl (Nat.le_of_ble_eq_true rfl) ?_
      refine aw_lstore_n (pc := 23) [(2, .long r2.1), (0, .ref x0), (1, .int x1)] dX12_tree_23 rfl (by decide) rfl ?_
      refine aw_iload_n (pc := 24) 2 dX12_tree_24 rfl ?_
      refine aw_iconst (pc := 25) (v := (2 : Int32)) dX12_tree_25 (by decide) ?_
      refine aw_icmp_ne (pc := 26) 35 dX12_tree_26 (by decide) (fun z => ?_) (fun z => ?_)
      · replace h := (if_neg z).symm.trans h
        refine aw_lload_n (pc := 35) 0 dX12_tree_35 rfl ?_
        refine aw_ldc2 (pc := 36) dX12_tree_36 kl_X12_423 ?_
        refine aw_lcmp (pc := 39) dX12_tree_39 ?_
        refine aw_if_lt (pc := 40) 49 dX12_tree_40 (by decide) (fun z => ?_) (fun z => ?_)
        · replace h := (if_pos z).symm.trans h
          refine aw_iload_n (pc := 49) 2 dX12_tree_49 rfl ?_
          refine aw_if_ne (pc := 50) 57 dX12_tree_50 (by decide) (fun z => ?_) (fun z => ?_)
          · replace h := (if_neg z).symm.trans h
            refine aw_aload_n (pc := 57) 1 dX12_tree_57 rfl ?_
            obtain ⟨v3, e, h⟩ := op_bd h
            refine ow_gI (pc := 58) e dX12_tree_58 fd_X12_549 rfl ?_
            refine aw_i2l (pc := 61) dX12_tree_61 ?_
            exact ow_lret (pc := 62) h dX12_tree_62 rfl
          · replace h := (if_pos z).symm.trans h
            refine aw_lload_n (pc := 53) 0 dX12_tree_53 rfl ?_
            refine aw_goto (pc := 54) 62 dX12_tree_54 (by decide) ?_
            exact ow_lret (pc := 62) h dX12_tree_62 rfl
        · replace h := (if_neg z).symm.trans h
          refine aw_ldc2 (pc := 43) dX12_tree_43 kl_X12_540 ?_
          refine aw_goto (pc := 46) 62 dX12_tree_46 (by decide) ?_
          exact ow_lret (pc := 62) h dX12_tree_62 rfl
      · replace h := (if_pos z).symm.trans h
        refine aw_aload_n (pc := 29) 1 dX12_tree_29 rfl ?_
        obtain ⟨v4, e, h⟩ := op_bd h
        refine ow_gI (pc := 30) e dX12_tree_30 fd_X12_546 rfl ?_
        refine aw_i2l (pc := 33) dX12_tree_33 ?_
        exact ow_lret (pc := 34) h dX12_tree_34 rfl
    · replace h := (if_neg z).symm.trans h
      refine aw_ldc2 (pc := 14) dX12_tree_14 kl_X12_432 ?_
      exact ow_lret (pc := 17) h dX12_tree_17 rfl
theorem c_X12_tree {G : ah_G}   (x0 : Nat) (x1 : Int32) (σ : ah_H) (r : Int64 × ah_H) (h : f_X12_tree  x0 x1 σ = some r) : AM G m_X12_tree 9 0 0 [.ref x0, .int x1] σ (ah_rl r) := aw_enter (by decide) (Nat.le_of_ble_eq_true rfl) (c_X12_tree_0 _ _ _ _ (op_ck_k h))
def f_X12_without_0   (x0 : Nat) (x1 : Int32) (x2 : Int32) (σ : ah_H) : Option (Int64 × ah_H) :=
  (op_pI 12 0 σ x0 (0 : Int32)).bind fun σ1 => (f_X12_isStreet x0 x1 σ1).bind fun r2 => if r2.1 = 0 then (some ((-1 : Int64), r2.2)) else ((f_X12_isStreet x0 x2 r2.2).bind fun r3 => if r3.1 = 0 then (some ((-1 : Int64), r3.2)) else ((f_X12_leastTree x0 (0 : Int32) r3.2).bind fun r4 => if (lg_cmp r4.1 (4000000000000000000 : Int64)) < 0 then ((f_X12_leastTree x0 (((1 : Int32) <<< (x1 &&& 31)) ||| ((1 : Int32) <<< (x2 &&& 31))) r4.2).bind fun r5 => if (lg_cmp r5.1 (4000000000000000000 : Int64)) < 0 then (some ((r5.1 - r4.1), r5.2)) else (some ((-2 : Int64), r5.2))) else (some ((-1 : Int64), r4.2))))
def f_X12_without  (x0 : Nat) (x1 : Int32) (x2 : Int32) (σ : ah_H) : Option (Int64 × ah_H) := op_ck 12 σ x0 (f_X12_without_0 x0 x1 x2 σ)
set_option maxRecDepth 100000 in
set_option maxHeartbeats 4000000 in
theorem c_X12_without_0 {G : ah_G}   : ∀ (x0 : Nat) (x1 : Int32) (x2 : Int32) (σ : ah_H) (r : Int64 × ah_H), f_X12_without_0   x0 x1 x2 σ = some r → AW G m_X12_without 9 0 0 0 [(0, .ref x0), (1, .int x1), (2, .int x2)] [] σ (ah_N G (ah_rl r)) := by
  intro x0 x1 x2 σ r h
  unfold f_X12_without_0 at h
  refine aw_aload_n (pc := 0) 0 dX12_without_0 rfl ?_
  refine aw_iconst (pc := 1) (v := (0 : Int32)) dX12_without_1 (by decide) ?_
  obtain ⟨σ1, e, h⟩ := op_bd h
  refine ow_pI (pc := 2) e dX12_without_2 fd_X12_153 ?_
  refine aw_aload_n (pc := 5) 0 dX12_without_5 rfl ?_
  refine aw_iload_n (pc := 6) 1 dX12_without_6 rfl ?_
  obtain ⟨r2, e, h⟩ := op_bd h
  refine ow_cVi (pc := 7) [.int x1] ((c_X12_isStreet _ _ _ _ e).mono (by decide)) (op_ck_sh e) rfl dX12_without_7 cw_X12_330 rfl (Nat.le_of_ble_eq_true rfl) ?_
  refine aw_if_eq (pc := 10) 21 dX12_without_10 (by decide) (fun z => ?_) (fun z => ?_)
  · replace h := (if_pos z).symm.trans h
    refine aw_ldc2 (pc := 21) dX12_without_21 kl_X12_432 ?_
    exact ow_lret (pc := 24) h dX12_without_24 rfl
  · replace h := (if_neg z).symm.trans h
    refine aw_aload_n (pc := 13) 0 dX12_without_13 rfl ?_
    refine aw_iload_n (pc := 14) 2 dX12_without_14 rfl ?_
    obtain ⟨r3, e, h⟩ := op_bd h
    refine ow_cVi (pc := 15) [.int x2] ((c_X12_isStreet _ _ _ _ e).mono (by decide)) (op_ck_sh e) rfl dX12_without_15 cw_X12_330 rfl (Nat.le_of_ble_eq_true rfl) ?_
    refine aw_if_ne (pc := 18) 25 dX12_without_18 (by decide) (fun z => ?_) (fun z => ?_)
    · replace h := (if_neg z).symm.trans h
      refine aw_aload_n (pc := 25) 0 dX12_without_25 rfl ?_
      refine aw_iconst (pc := 26) (v := (0 : Int32)) dX12_without_26 (by decide) ?_
      obtain ⟨r4, e, h⟩ := op_bd h
      refine ow_cVl (pc := 27) [.int (0 : Int32)] ((c_X12_leastTree _ _ _ _ e).mono (by decide)) (op_ck_sh e) rfl dX12_without_27 cw_X12_552 rfl (Nat.le_of_ble_eq_true rfl) ?_
      refine aw_lstore_n (pc := 30) [(3, .long r4.1), (0, .ref x0), (1, .int x1), (2, .int x2)] dX12_without_30 rfl (by decide) rfl ?_
      refine aw_lload_n (pc := 31) 0 dX12_without_31 rfl ?_
      refine aw_ldc2 (pc := 32) dX12_without_32 kl_X12_423 ?_
      refine aw_lcmp (pc := 35) dX12_without_35 ?_
      refine aw_if_lt (pc := 36) 43 dX12_without_36 (by decide) (fun z => ?_) (fun z => ?_)
      · replace h := (if_pos z).symm.trans h
        refine aw_aload_n (pc := 43) 1 dX12_without_43 rfl ?_
        refine aw_iconst (pc := 44) (v := (1 : Int32)) dX12_without_44 (by decide) ?_
        refine aw_iload_n (pc := 45) 2 dX12_without_45 rfl ?_
        refine aw_ishl (pc := 46) dX12_without_46 ?_
        refine aw_iconst (pc := 47) (v := (1 : Int32)) dX12_without_47 (by decide) ?_
        refine aw_iload_n (pc := 48) 3 dX12_without_48 rfl ?_
        refine aw_ishl (pc := 49) dX12_without_49 ?_
        refine aw_ior (pc := 50) dX12_without_50 ?_
        obtain ⟨r5, e, h⟩ := op_bd h
        refine ow_cVl (pc := 51) [.int (((1 : Int32) <<< (x1 &&& 31)) ||| ((1 : Int32) <<< (x2 &&& 31)))] ((c_X12_leastTree _ _ _ _ e).mono (by decide)) (op_ck_sh e) rfl dX12_without_51 cw_X12_552 rfl (Nat.le_of_ble_eq_true rfl) ?_
        refine aw_lstore (pc := 54) [(5, .long r5.1), (3, .long r4.1), (0, .ref x0), (1, .int x1), (2, .int x2)] dX12_without_54 (by decide) rfl ?_
        refine aw_lload (pc := 56) 0 dX12_without_56 rfl ?_
        refine aw_ldc2 (pc := 58) dX12_without_58 kl_X12_423 ?_
        refine aw_lcmp (pc := 61) dX12_without_61 ?_
        refine aw_if_lt (pc := 62) 71 dX12_without_62 (by decide) (fun z => ?_) (fun z => ?_)
        · replace h := (if_pos z).symm.trans h
          refine aw_lload (pc := 71) 0 dX12_without_71 rfl ?_
          refine aw_lload_n (pc := 73) 1 dX12_without_73 rfl ?_
          refine aw_lsub (pc := 74) dX12_without_74 ?_
          exact ow_lret (pc := 75) h dX12_without_75 rfl
        · replace h := (if_neg z).symm.trans h
          refine aw_ldc2 (pc := 65) dX12_without_65 kl_X12_540 ?_
          refine aw_goto (pc := 68) 75 dX12_without_68 (by decide) ?_
          exact ow_lret (pc := 75) h dX12_without_75 rfl
      · replace h := (if_neg z).symm.trans h
        refine aw_ldc2 (pc := 39) dX12_without_39 kl_X12_432 ?_
        exact ow_lret (pc := 42) h dX12_without_42 rfl
    · replace h := (if_pos z).symm.trans h
      refine aw_ldc2 (pc := 21) dX12_without_21 kl_X12_432 ?_
      exact ow_lret (pc := 24) h dX12_without_24 rfl
theorem c_X12_without {G : ah_G}   (x0 : Nat) (x1 : Int32) (x2 : Int32) (σ : ah_H) (r : Int64 × ah_H) (h : f_X12_without  x0 x1 x2 σ = some r) : AM G m_X12_without 9 0 0 [.ref x0, .int x1, .int x2] σ (ah_rl r) := aw_enter (by decide) (Nat.le_of_ble_eq_true rfl) (c_X12_without_0 _ _ _ _ _ (op_ck_k h))
def f_X12_joinedBy_75  (K11 : Nat → Int32 → Int32 → Int32 → ah_H → Option (Int32 × ah_H)) (K20 : Nat → Int32 → Int32 → Int32 → Int32 → ah_H → Option (Int32 × ah_H)) (x0 : Nat) (x1 : Int32) (x2 : Int32) (x3 : Int32) (x4 : Int32) (σ : ah_H) : Option (Int32 × ah_H) :=
  K20 x0 x1 x2 x3 (x4 + (1 : Int32)) σ
def f_X12_joinedBy_81  (K11 : Nat → Int32 → Int32 → Int32 → ah_H → Option (Int32 × ah_H)) (x0 : Nat) (x1 : Int32) (x2 : Int32) (x3 : Int32) (σ : ah_H) : Option (Int32 × ah_H) :=
  K11 x0 x1 x2 x3 σ
def f_X12_joinedBy_20_b  (K11 : Nat → Int32 → Int32 → Int32 → ah_H → Option (Int32 × ah_H)) (K20 : Nat → Int32 → Int32 → Int32 → Int32 → ah_H → Option (Int32 × ah_H)) (x0 : Nat) (x1 : Int32) (x2 : Int32) (x3 : Int32) (x4 : Int32) (σ : ah_H) : Option (Int32 × ah_H) :=
  (op_gR 12 3 σ x0).bind fun v1 => (op_aI σ v1 (0 : Int32)).bind fun v2 => if v2 ≤ x4 then (f_X12_joinedBy_81 K11 x0 x1 x2 x3 σ) else (if ((x1 >>> (x4 &&& 31)) &&& (1 : Int32)) = 0 then (f_X12_joinedBy_75 K11 K20 x0 x1 x2 x3 x4 σ) else (if ((x2 >>> (x4 &&& 31)) &&& (1 : Int32)) = (1 : Int32) then (f_X12_joinedBy_75 K11 K20 x0 x1 x2 x3 x4 σ) else ((f_X12_to x0 x4 σ).bind fun r3 => if ((x2 >>> (r3.1 &&& 31)) &&& (1 : Int32)) = 0 then (f_X12_joinedBy_75 K11 K20 x0 x1 x2 x3 x4 r3.2) else (f_X12_joinedBy_75 K11 K20 x0 x1 (x2 ||| ((1 : Int32) <<< (x4 &&& 31))) (1 : Int32) x4 r3.2))))
def f_X12_joinedBy_20  (K11 : Nat → Int32 → Int32 → Int32 → ah_H → Option (Int32 × ah_H)) : Nat → Nat → Int32 → Int32 → Int32 → Int32 → ah_H → Option (Int32 × ah_H)
  | 0, _, _, _, _, _, _ => none
  | n + 1, x0, x1, x2, x3, x4, σ => f_X12_joinedBy_20_b K11 (f_X12_joinedBy_20 K11 n) x0 x1 x2 x3 x4 σ
def f_X12_joinedBy_11_b  (K11 : Nat → Int32 → Int32 → Int32 → ah_H → Option (Int32 × ah_H)) (x0 : Nat) (x1 : Int32) (x2 : Int32) (x3 : Int32) (σ : ah_H) : Option (Int32 × ah_H) :=
  if x3 = 0 then (some (x2, σ)) else (f_X12_joinedBy_20 K11 5000 x0 x1 x2 (0 : Int32) (0 : Int32) σ)
def f_X12_joinedBy_11   : Nat → Nat → Int32 → Int32 → Int32 → ah_H → Option (Int32 × ah_H)
  | 0, _, _, _, _, _ => none
  | n + 1, x0, x1, x2, x3, σ => f_X12_joinedBy_11_b (f_X12_joinedBy_11 n) x0 x1 x2 x3 σ
def f_X12_joinedBy_0   (x0 : Nat) (x1 : Int32) (σ : ah_H) : Option (Int32 × ah_H) :=
  (op_gR 12 3 σ x0).bind fun v1 => (op_aI σ v1 (4 : Int32)).bind fun v2 => f_X12_joinedBy_11 5000 x0 x1 ((1 : Int32) <<< (v2 &&& 31)) (1 : Int32) σ
def f_X12_joinedBy  (x0 : Nat) (x1 : Int32) (σ : ah_H) : Option (Int32 × ah_H) := op_ck 12 σ x0 (f_X12_joinedBy_0 x0 x1 σ)
set_option maxRecDepth 100000 in
set_option maxHeartbeats 4000000 in
theorem c_X12_joinedBy_75 {G : ah_G}  (K11 : Nat → Int32 → Int32 → Int32 → ah_H → Option (Int32 × ah_H)) (hK11 : ∀ (x0 : Nat) (x1 : Int32) (x2 : Int32) (x3 : Int32) (σ : ah_H) (r : Int32 × ah_H), K11 x0 x1 x2 x3 σ = some r → AW G m_X12_joinedBy 2 0 0 11 [(0, .ref x0), (1, .int x1), (2, .int x2), (3, .int x3)] [] σ (ah_N G (ah_ri r))) (K20 : Nat → Int32 → Int32 → Int32 → Int32 → ah_H → Option (Int32 × ah_H)) (hK20 : ∀ (x0 : Nat) (x1 : Int32) (x2 : Int32) (x3 : Int32) (x4 : Int32) (σ : ah_H) (r : Int32 × ah_H), K20 x0 x1 x2 x3 x4 σ = some r → AW G m_X12_joinedBy 2 0 0 20 [(0, .ref x0), (1, .int x1), (2, .int x2), (3, .int x3), (4, .int x4)] [] σ (ah_N G (ah_ri r))) : ∀ (x0 : Nat) (x1 : Int32) (x2 : Int32) (x3 : Int32) (x4 : Int32) (σ : ah_H) (r : Int32 × ah_H), f_X12_joinedBy_75  K11 K20 x0 x1 x2 x3 x4 σ = some r → AW G m_X12_joinedBy 2 0 0 75 [(0, .ref x0), (1, .int x1), (2, .int x2), (3, .int x3), (4, .int x4)] [] σ (ah_N G (ah_ri r)) := by
  intro x0 x1 x2 x3 x4 σ r h
  unfold f_X12_joinedBy_75 at h
  refine aw_iinc (pc := 75) 4 [(4, .int (x4 + (1 : Int32))), (0, .ref x0), (1, .int x1), (2, .int x2), (3, .int x3)] (x4 + (1 : Int32)) dX12_joinedBy_75 rfl rfl (by decide) rfl ?_
  refine aw_goto (pc := 78) 20 dX12_joinedBy_78 (by decide) ?_
  refine aw_sub [1, 2, 3, 4, 0] rfl ?_
  exact hK20 _ _ _ _ _ _ _ h
set_option maxRecDepth 100000 in
set_option maxHeartbeats 4000000 in
theorem c_X12_joinedBy_81 {G : ah_G}  (K11 : Nat → Int32 → Int32 → Int32 → ah_H → Option (Int32 × ah_H)) (hK11 : ∀ (x0 : Nat) (x1 : Int32) (x2 : Int32) (x3 : Int32) (σ : ah_H) (r : Int32 × ah_H), K11 x0 x1 x2 x3 σ = some r → AW G m_X12_joinedBy 2 0 0 11 [(0, .ref x0), (1, .int x1), (2, .int x2), (3, .int x3)] [] σ (ah_N G (ah_ri r))) : ∀ (x0 : Nat) (x1 : Int32) (x2 : Int32) (x3 : Int32) (σ : ah_H) (r : Int32 × ah_H), f_X12_joinedBy_81  K11 x0 x1 x2 x3 σ = some r → AW G m_X12_joinedBy 2 0 0 81 [(0, .ref x0), (1, .int x1), (2, .int x2), (3, .int x3)] [] σ (ah_N G (ah_ri r)) := by
  intro x0 x1 x2 x3 σ r h
  unfold f_X12_joinedBy_81 at h
  refine aw_goto (pc := 81) 11 dX12_joinedBy_81 (by decide) ?_
  exact hK11 _ _ _ _ _ _ h
set_option maxRecDepth 100000 in
set_option maxHeartbeats 4000000 in
theorem c_X12_joinedBy_20_b {G : ah_G}  (K11 : Nat → Int32 → Int32 → Int32 → ah_H → Option (Int32 × ah_H)) (hK11 : ∀ (x0 : Nat) (x1 : Int32) (x2 : Int32) (x3 : Int32) (σ : ah_H) (r : Int32 × ah_H), K11 x0 x1 x2 x3 σ = some r → AW G m_X12_joinedBy 2 0 0 11 [(0, .ref x0), (1, .int x1), (2, .int x2), (3, .int x3)] [] σ (ah_N G (ah_ri r))) (K20 : Nat → Int32 → Int32 → Int32 → Int32 → ah_H → Option (Int32 × ah_H)) (hK20 : ∀ (x0 : Nat) (x1 : Int32) (x2 : Int32) (x3 : Int32) (x4 : Int32) (σ : ah_H) (r : Int32 × ah_H), K20 x0 x1 x2 x3 x4 σ = some r → AW G m_X12_joinedBy 2 0 0 20 [(0, .ref x0), (1, .int x1), (2, .int x2), (3, .int x3), (4, .int x4)] [] σ (ah_N G (ah_ri r))) : ∀ (x0 : Nat) (x1 : Int32) (x2 : Int32) (x3 : Int32) (x4 : Int32) (σ : ah_H) (r : Int32 × ah_H), f_X12_joinedBy_20_b  K11 K20 x0 x1 x2 x3 x4 σ = some r → AW G m_X12_joinedBy 2 0 0 20 [(0, .ref x0), (1, .int x1), (2, .int x2), (3, .int x3), (4, .int x4)] [] σ (ah_N G (ah_ri r)) := by
  intro x0 x1 x2 x3 x4 σ r h
  unfold f_X12_joinedBy_20_b at h
  refine aw_iload (pc := 20) 4 dX12_joinedBy_20 rfl ?_
  refine aw_aload_n (pc := 22) 0 dX12_joinedBy_22 rfl ?_
  obtain ⟨v1, e, h⟩ := op_bd h
  refine ow_gR (pc := 23) e dX12_joinedBy_23 fd_X12_15 rfl ?_
  refine aw_iconst (pc := 26) (v := (0 : Int32)) dX12_joinedBy_26 (by decide) ?_
  obtain ⟨v2, e, h⟩ := op_bd h
  refine ow_aI (pc := 27) e dX12_joinedBy_27 ?_
  refine aw_icmp_ge (pc := 28) 81 dX12_joinedBy_28 (by decide) (fun z => ?_) (fun z => ?_)
  · replace h := (if_pos z).symm.trans h
    refine aw_sub [0, 1, 2, 3] rfl ?_
    exact c_X12_joinedBy_81 K11 hK11 _ _ _ _ _ _ h
  · replace h := (if_neg z).symm.trans h
    refine aw_iload_n (pc := 31) 1 dX12_joinedBy_31 rfl ?_
    refine aw_iload (pc := 32) 4 dX12_joinedBy_32 rfl ?_
    refine aw_ishr (pc := 34) dX12_joinedBy_34 ?_
    refine aw_iconst (pc := 35) (v := (1 : Int32)) dX12_joinedBy_35 (by decide) ?_
    refine aw_iand (pc := 36) dX12_joinedBy_36 ?_
    refine aw_if_eq (pc := 37) 75 dX12_joinedBy_37 (by decide) (fun z => ?_) (fun z => ?_)
    · replace h := (if_pos z).symm.trans h
      exact c_X12_joinedBy_75 K11 hK11 K20 hK20 _ _ _ _ _ _ _ h
    · replace h := (if_neg z).symm.trans h
      refine aw_iload_n (pc := 40) 2 dX12_joinedBy_40 rfl ?_
      refine aw_iload (pc := 41) 4 dX12_joinedBy_41 rfl ?_
      refine aw_ishr (pc := 43) dX12_joinedBy_43 ?_
      refine aw_iconst (pc := 44) (v := (1 : Int32)) dX12_joinedBy_44 (by decide) ?_
      refine aw_iand (pc := 45) dX12_joinedBy_45 ?_
      refine aw_iconst (pc := 46) (v := (1 : Int32)) dX12_joinedBy_46 (by decide) ?_
      refine aw_icmp_eq (pc := 47) 75 dX12_joinedBy_47 (by decide) (fun z => ?_) (fun z => ?_)
      · replace h := (if_pos z).symm.trans h
        exact c_X12_joinedBy_75 K11 hK11 K20 hK20 _ _ _ _ _ _ _ h
      · replace h := (if_neg z).symm.trans h
        refine aw_iload_n (pc := 50) 2 dX12_joinedBy_50 rfl ?_
        refine aw_aload_n (pc := 51) 0 dX12_joinedBy_51 rfl ?_
        refine aw_iload (pc := 52) 4 dX12_joinedBy_52 rfl ?_
        obtain ⟨r3, e, h⟩ := op_bd h
        refine ow_cVi (pc := 54) [.int x4] ((c_X12_to _ _ _ _ e).mono (by decide)) (op_ck_sh e) rfl dX12_joinedBy_54 cw_X12_383 rfl (Nat.le_of_ble_eq_true rfl) ?_
        refine aw_ishr (pc := 57) dX12_joinedBy_57 ?_
        refine aw_iconst (pc := 58) (v := (1 : Int32)) dX12_joinedBy_58 (by decide) ?_
        refine aw_iand (pc := 59) dX12_joinedBy_59 ?_
        refine aw_if_ne (pc := 60) 66 dX12_joinedBy_60 (by decide) (fun z => ?_) (fun z => ?_)
        · replace h := (if_neg z).symm.trans h
          refine aw_iload_n (pc := 66) 2 dX12_joinedBy_66 rfl ?_
          refine aw_iconst (pc := 67) (v := (1 : Int32)) dX12_joinedBy_67 (by decide) ?_
          refine aw_iload (pc := 68) 4 dX12_joinedBy_68 rfl ?_
          refine aw_ishl (pc := 70) dX12_joinedBy_70 ?_
          refine aw_ior (pc := 71) dX12_joinedBy_71 ?_
          refine aw_istore_n (pc := 72) [(2, .int (x2 ||| ((1 : Int32) <<< (x4 &&& 31)))), (0, .ref x0), (1, .int x1), (3, .int x3), (4, .int x4)] dX12_joinedBy_72 rfl (by decide) rfl ?_
          refine aw_iconst (pc := 73) (v := (1 : Int32)) dX12_joinedBy_73 (by decide) ?_
          refine aw_istore_n (pc := 74) [(3, .int (1 : Int32)), (2, .int (x2 ||| ((1 : Int32) <<< (x4 &&& 31)))), (0, .ref x0), (1, .int x1), (4, .int x4)] dX12_joinedBy_74 rfl (by decide) rfl ?_
          refine aw_sub [2, 3, 1, 0, 4] rfl ?_
          exact c_X12_joinedBy_75 K11 hK11 K20 hK20 _ _ _ _ _ _ _ h
        · replace h := (if_pos z).symm.trans h
          refine aw_goto (pc := 63) 75 dX12_joinedBy_63 (by decide) ?_
          exact c_X12_joinedBy_75 K11 hK11 K20 hK20 _ _ _ _ _ _ _ h
theorem c_X12_joinedBy_20 {G : ah_G}  (K11 : Nat → Int32 → Int32 → Int32 → ah_H → Option (Int32 × ah_H)) (hK11 : ∀ (x0 : Nat) (x1 : Int32) (x2 : Int32) (x3 : Int32) (σ : ah_H) (r : Int32 × ah_H), K11 x0 x1 x2 x3 σ = some r → AW G m_X12_joinedBy 2 0 0 11 [(0, .ref x0), (1, .int x1), (2, .int x2), (3, .int x3)] [] σ (ah_N G (ah_ri r))) : ∀ (n : Nat) (x0 : Nat) (x1 : Int32) (x2 : Int32) (x3 : Int32) (x4 : Int32) (σ : ah_H) (r : Int32 × ah_H), f_X12_joinedBy_20  K11 n x0 x1 x2 x3 x4 σ = some r → AW G m_X12_joinedBy 2 0 0 20 [(0, .ref x0), (1, .int x1), (2, .int x2), (3, .int x3), (4, .int x4)] [] σ (ah_N G (ah_ri r)) := by
  intro n
  induction n with
  | zero => intro x0 x1 x2 x3 x4 σ r h; cases h
  | succ n ih => intro x0 x1 x2 x3 x4 σ r h; exact c_X12_joinedBy_20_b  K11 hK11 _ ih x0 x1 x2 x3 x4 σ r h
set_option maxRecDepth 100000 in
set_option maxHeartbeats 4000000 in
theorem c_X12_joinedBy_11_b {G : ah_G}  (K11 : Nat → Int32 → Int32 → Int32 → ah_H → Option (Int32 × ah_H)) (hK11 : ∀ (x0 : Nat) (x1 : Int32) (x2 : Int32) (x3 : Int32) (σ : ah_H) (r : Int32 × ah_H), K11 x0 x1 x2 x3 σ = some r → AW G m_X12_joinedBy 2 0 0 11 [(0, .ref x0), (1, .int x1), (2, .int x2), (3, .int x3)] [] σ (ah_N G (ah_ri r))) : ∀ (x0 : Nat) (x1 : Int32) (x2 : Int32) (x3 : Int32) (σ : ah_H) (r : Int32 × ah_H), f_X12_joinedBy_11_b  K11 x0 x1 x2 x3 σ = some r → AW G m_X12_joinedBy 2 0 0 11 [(0, .ref x0), (1, .int x1), (2, .int x2), (3, .int x3)] [] σ (ah_N G (ah_ri r)) := by
  intro x0 x1 x2 x3 σ r h
  unfold f_X12_joinedBy_11_b at h
  refine aw_iload_n (pc := 11) 3 dX12_joinedBy_11 rfl ?_
  refine aw_if_eq (pc := 12) 84 dX12_joinedBy_12 (by decide) (fun z => ?_) (fun z => ?_)
  · replace h := (if_pos z).symm.trans h
    refine aw_iload_n (pc := 84) 2 dX12_joinedBy_84 rfl ?_
    exact ow_iret (pc := 85) h dX12_joinedBy_85 rfl
  · replace h := (if_neg z).symm.trans h
    refine aw_iconst (pc := 15) (v := (0 : Int32)) dX12_joinedBy_15 (by decide) ?_
    refine aw_istore_n (pc := 16) [(3, .int (0 : Int32)), (0, .ref x0), (1, .int x1), (2, .int x2)] dX12_joinedBy_16 rfl (by decide) rfl ?_
    refine aw_iconst (pc := 17) (v := (0 : Int32)) dX12_joinedBy_17 (by decide) ?_
    refine aw_istore (pc := 18) [(4, .int (0 : Int32)), (3, .int (0 : Int32)), (0, .ref x0), (1, .int x1), (2, .int x2)] dX12_joinedBy_18 (by decide) rfl ?_
    refine aw_sub [2, 3, 4, 1, 0] rfl ?_
    exact c_X12_joinedBy_20 K11 hK11 _ _ _ _ _ _ _ _ h
theorem c_X12_joinedBy_11 {G : ah_G}   : ∀ (n : Nat) (x0 : Nat) (x1 : Int32) (x2 : Int32) (x3 : Int32) (σ : ah_H) (r : Int32 × ah_H), f_X12_joinedBy_11   n x0 x1 x2 x3 σ = some r → AW G m_X12_joinedBy 2 0 0 11 [(0, .ref x0), (1, .int x1), (2, .int x2), (3, .int x3)] [] σ (ah_N G (ah_ri r)) := by
  intro n
  induction n with
  | zero => intro x0 x1 x2 x3 σ r h; cases h
  | succ n ih => intro x0 x1 x2 x3 σ r h; exact c_X12_joinedBy_11_b   _ ih x0 x1 x2 x3 σ r h
set_option maxRecDepth 100000 in
set_option maxHeartbeats 4000000 in
theorem c_X12_joinedBy_0 {G : ah_G}   : ∀ (x0 : Nat) (x1 : Int32) (σ : ah_H) (r : Int32 × ah_H), f_X12_joinedBy_0   x0 x1 σ = some r → AW G m_X12_joinedBy 2 0 0 0 [(0, .ref x0), (1, .int x1)] [] σ (ah_N G (ah_ri r)) := by
  intro x0 x1 σ r h
  unfold f_X12_joinedBy_0 at h
  refine aw_iconst (pc := 0) (v := (1 : Int32)) dX12_joinedBy_0 (by decide) ?_
  refine aw_aload_n (pc := 1) 0 dX12_joinedBy_1 rfl ?_
  obtain ⟨v1, e, h⟩ := op_bd h
  refine ow_gR (pc := 2) e dX12_joinedBy_2 fd_X12_15 rfl ?_
  refine aw_iconst (pc := 5) (v := (4 : Int32)) dX12_joinedBy_5 (by decide) ?_
  obtain ⟨v2, e, h⟩ := op_bd h
  refine ow_aI (pc := 6) e dX12_joinedBy_6 ?_
  refine aw_ishl (pc := 7) dX12_joinedBy_7 ?_
  refine aw_istore_n (pc := 8) [(2, .int ((1 : Int32) <<< (v2 &&& 31))), (0, .ref x0), (1, .int x1)] dX12_joinedBy_8 rfl (by decide) rfl ?_
  refine aw_iconst (pc := 9) (v := (1 : Int32)) dX12_joinedBy_9 (by decide) ?_
  refine aw_istore_n (pc := 10) [(3, .int (1 : Int32)), (2, .int ((1 : Int32) <<< (v2 &&& 31))), (0, .ref x0), (1, .int x1)] dX12_joinedBy_10 rfl (by decide) rfl ?_
  refine aw_sub [2, 3, 1, 0] rfl ?_
  exact c_X12_joinedBy_11  _ _ _ _ _ _ _ h
theorem c_X12_joinedBy {G : ah_G}   (x0 : Nat) (x1 : Int32) (σ : ah_H) (r : Int32 × ah_H) (h : f_X12_joinedBy  x0 x1 σ = some r) : AM G m_X12_joinedBy 2 0 0 [.ref x0, .int x1] σ (ah_ri r) := aw_enter (by decide) (Nat.le_of_ble_eq_true rfl) (c_X12_joinedBy_0 _ _ _ _ (op_ck_k h))
def f_X12_stageCost_54  (K12 : Nat → Int64 → Int32 → Int32 → ah_H → Option (Int64 × ah_H)) (x0 : Nat) (x4 : Int32) (x5 : Int32) (s0 : Int64) (s1 : Int64) (σ : ah_H) : Option (Int64 × ah_H) :=
  K12 x0 (s0 + s1) x4 (x5 + (1 : Int32)) σ
def f_X12_stageCost_12_b  (K12 : Nat → Int64 → Int32 → Int32 → ah_H → Option (Int64 × ah_H)) (x0 : Nat) (x2 : Int64) (x4 : Int32) (x5 : Int32) (σ : ah_H) : Option (Int64 × ah_H) :=
  (op_gR 12 3 σ x0).bind fun v1 => (op_aI σ v1 (0 : Int32)).bind fun v2 => if v2 ≤ x5 then (some (x2, σ)) else (if ((x4 >>> (x5 &&& 31)) &&& (1 : Int32)) = 0 then ((op_gR 12 3 σ x0).bind fun v3 => (op_aI σ v3 (10 : Int32)).bind fun v4 => (op_gR 12 6 σ x0).bind fun v5 => (op_aI σ v5 x5).bind fun v6 => f_X12_stageCost_54 K12 x0 x4 x5 x2 (Int32.toInt64 (v4 * v6)) σ) else (f_X12_stageCost_54 K12 x0 x4 x5 x2 (0 : Int64) σ))
def f_X12_stageCost_12   : Nat → Nat → Int64 → Int32 → Int32 → ah_H → Option (Int64 × ah_H)
  | 0, _, _, _, _, _ => none
  | n + 1, x0, x2, x4, x5, σ => f_X12_stageCost_12_b (f_X12_stageCost_12 n) x0 x2 x4 x5 σ
def f_X12_stageCost_0   (x0 : Nat) (x1 : Int32) (σ : ah_H) : Option (Int64 × ah_H) :=
  (f_X12_joinedBy x0 x1 σ).bind fun r1 => f_X12_stageCost_12 5000 x0 (0 : Int64) r1.1 (0 : Int32) r1.2
def f_X12_stageCost  (x0 : Nat) (x1 : Int32) (σ : ah_H) : Option (Int64 × ah_H) := op_ck 12 σ x0 (f_X12_stageCost_0 x0 x1 σ)
set_option maxRecDepth 100000 in
set_option maxHeartbeats 4000000 in
theorem c_X12_stageCost_54 {G : ah_G}  (K12 : Nat → Int64 → Int32 → Int32 → ah_H → Option (Int64 × ah_H)) (hK12 : ∀ (x0 : Nat) (x2 : Int64) (x4 : Int32) (x5 : Int32) (σ : ah_H) (r : Int64 × ah_H), K12 x0 x2 x4 x5 σ = some r → AW G m_X12_stageCost 3 0 0 12 [(0, .ref x0), (2, .long x2), (4, .int x4), (5, .int x5)] [] σ (ah_N G (ah_rl r))) : ∀ (x0 : Nat) (x4 : Int32) (x5 : Int32) (s0 : Int64) (s1 : Int64) (σ : ah_H) (r : Int64 × ah_H), f_X12_stageCost_54  K12 x0 x4 x5 s0 s1 σ = some r → AW G m_X12_stageCost 3 0 0 54 [(0, .ref x0), (4, .int x4), (5, .int x5)] [.long s1, .long s0] σ (ah_N G (ah_rl r)) := by
  intro x0 x4 x5 s0 s1 σ r h
  unfold f_X12_stageCost_54 at h
  refine aw_ladd (pc := 54) dX12_stageCost_54 ?_
  refine aw_lstore_n (pc := 55) [(2, .long (s0 + s1)), (0, .ref x0), (4, .int x4), (5, .int x5)] dX12_stageCost_55 rfl (by decide) rfl ?_
  refine aw_iinc (pc := 56) 3 [(5, .int (x5 + (1 : Int32))), (2, .long (s0 + s1)), (0, .ref x0), (4, .int x4)] (x5 + (1 : Int32)) dX12_stageCost_56 rfl rfl (by decide) rfl ?_
  refine aw_goto (pc := 59) 12 dX12_stageCost_59 (by decide) ?_
  refine aw_sub [2, 1, 3, 0] rfl ?_
  exact hK12 _ _ _ _ _ _ h
set_option maxRecDepth 100000 in
set_option maxHeartbeats 4000000 in
theorem c_X12_stageCost_12_b {G : ah_G}  (K12 : Nat → Int64 → Int32 → Int32 → ah_H → Option (Int64 × ah_H)) (hK12 : ∀ (x0 : Nat) (x2 : Int64) (x4 : Int32) (x5 : Int32) (σ : ah_H) (r : Int64 × ah_H), K12 x0 x2 x4 x5 σ = some r → AW G m_X12_stageCost 3 0 0 12 [(0, .ref x0), (2, .long x2), (4, .int x4), (5, .int x5)] [] σ (ah_N G (ah_rl r))) : ∀ (x0 : Nat) (x2 : Int64) (x4 : Int32) (x5 : Int32) (σ : ah_H) (r : Int64 × ah_H), f_X12_stageCost_12_b  K12 x0 x2 x4 x5 σ = some r → AW G m_X12_stageCost 3 0 0 12 [(0, .ref x0), (2, .long x2), (4, .int x4), (5, .int x5)] [] σ (ah_N G (ah_rl r)) := by
  intro x0 x2 x4 x5 σ r h
  unfold f_X12_stageCost_12_b at h
  refine aw_iload (pc := 12) 3 dX12_stageCost_12 rfl ?_
  refine aw_aload_n (pc := 14) 0 dX12_stageCost_14 rfl ?_
  obtain ⟨v1, e, h⟩ := op_bd h
  refine ow_gR (pc := 15) e dX12_stageCost_15 fd_X12_15 rfl ?_
  refine aw_iconst (pc := 18) (v := (0 : Int32)) dX12_stageCost_18 (by decide) ?_
  obtain ⟨v2, e, h⟩ := op_bd h
  refine ow_aI (pc := 19) e dX12_stageCost_19 ?_
  refine aw_icmp_ge (pc := 20) 62 dX12_stageCost_20 (by decide) (fun z => ?_) (fun z => ?_)
  · replace h := (if_pos z).symm.trans h
    refine aw_lload_n (pc := 62) 1 dX12_stageCost_62 rfl ?_
    exact ow_lret (pc := 63) h dX12_stageCost_63 rfl
  · replace h := (if_neg z).symm.trans h
    refine aw_lload_n (pc := 23) 1 dX12_stageCost_23 rfl ?_
    refine aw_iload (pc := 24) 2 dX12_stageCost_24 rfl ?_
    refine aw_iload (pc := 26) 3 dX12_stageCost_26 rfl ?_
    refine aw_ishr (pc := 28) dX12_stageCost_28 ?_
    refine aw_iconst (pc := 29) (v := (1 : Int32)) dX12_stageCost_29 (by decide) ?_
    refine aw_iand (pc := 30) dX12_stageCost_30 ?_
    refine aw_if_ne (pc := 31) 53 dX12_stageCost_31 (by decide) (fun z => ?_) (fun z => ?_)
    · replace h := (if_neg z).symm.trans h
      refine aw_lconst (pc := 53) (v := (0 : Int64)) dX12_stageCost_53 (by decide) ?_
      refine aw_sub [0, 2, 3] rfl ?_
      exact c_X12_stageCost_54 K12 hK12 _ _ _ _ _ _ _ h
    · replace h := (if_pos z).symm.trans h
      refine aw_aload_n (pc := 34) 0 dX12_stageCost_34 rfl ?_
      obtain ⟨v3, e, h⟩ := op_bd h
      refine ow_gR (pc := 35) e dX12_stageCost_35 fd_X12_15 rfl ?_
      refine aw_bipush (pc := 38) (v := (10 : Int32)) dX12_stageCost_38 (by decide) ?_
      obtain ⟨v4, e, h⟩ := op_bd h
      refine ow_aI (pc := 40) e dX12_stageCost_40 ?_
      refine aw_aload_n (pc := 41) 0 dX12_stageCost_41 rfl ?_
      obtain ⟨v5, e, h⟩ := op_bd h
      refine ow_gR (pc := 42) e dX12_stageCost_42 fd_X12_24 rfl ?_
      refine aw_iload (pc := 45) 3 dX12_stageCost_45 rfl ?_
      obtain ⟨v6, e, h⟩ := op_bd h
      refine ow_aI (pc := 47) e dX12_stageCost_47 ?_
      refine aw_imul (pc := 48) dX12_stageCost_48 ?_
      refine aw_i2l (pc := 49) dX12_stageCost_49 ?_
      refine aw_goto (pc := 50) 54 dX12_stageCost_50 (by decide) ?_
      refine aw_sub [0, 2, 3] rfl ?_
      exact c_X12_stageCost_54 K12 hK12 _ _ _ _ _ _ _ h
theorem c_X12_stageCost_12 {G : ah_G}   : ∀ (n : Nat) (x0 : Nat) (x2 : Int64) (x4 : Int32) (x5 : Int32) (σ : ah_H) (r : Int64 × ah_H), f_X12_stageCost_12   n x0 x2 x4 x5 σ = some r → AW G m_X12_stageCost 3 0 0 12 [(0, .ref x0), (2, .long x2), (4, .int x4), (5, .int x5)] [] σ (ah_N G (ah_rl r)) := by
  intro n
  induction n with
  | zero => intro x0 x2 x4 x5 σ r h; cases h
  | succ n ih => intro x0 x2 x4 x5 σ r h; exact c_X12_stageCost_12_b   _ ih x0 x2 x4 x5 σ r h
set_option maxRecDepth 100000 in
set_option maxHeartbeats 4000000 in
theorem c_X12_stageCost_0 {G : ah_G}   : ∀ (x0 : Nat) (x1 : Int32) (σ : ah_H) (r : Int64 × ah_H), f_X12_stageCost_0   x0 x1 σ = some r → AW G m_X12_stageCost 3 0 0 0 [(0, .ref x0), (1, .int x1)] [] σ (ah_N G (ah_rl r)) := by
  intro x0 x1 σ r h
  unfold f_X12_stageCost_0 at h
  refine aw_lconst (pc := 0) (v := (0 : Int64)) dX12_stageCost_0 (by decide) ?_
  refine aw_lstore_n (pc := 1) [(2, .long (0 : Int64)), (0, .ref x0), (1, .int x1)] dX12_stageCost_1 rfl (by decide) rfl ?_
  refine aw_aload_n (pc := 2) 1 dX12_stageCost_2 rfl ?_
  refine aw_iload_n (pc := 3) 2 dX12_stageCost_3 rfl ?_
  obtain ⟨r1, e, h⟩ := op_bd h
  refine ow_cVi (pc := 4) [.int x1] ((c_X12_joinedBy _ _ _ _ e).mono (by decide)) (op_ck_sh e) rfl dX12_stageCost_4 cw_X12_555 rfl (Nat.le_of_ble_eq_true rfl) ?_
  refine aw_istore (pc := 7) [(4, .int r1.1), (2, .long (0 : Int64)), (0, .ref x0), (1, .int x1)] dX12_stageCost_7 (by decide) rfl ?_
  refine aw_iconst (pc := 9) (v := (0 : Int32)) dX12_stageCost_9 (by decide) ?_
  refine aw_istore (pc := 10) [(5, .int (0 : Int32)), (4, .int r1.1), (2, .long (0 : Int64)), (0, .ref x0), (1, .int x1)] dX12_stageCost_10 (by decide) rfl ?_
  refine aw_sub [3, 2, 1, 0] rfl ?_
  exact c_X12_stageCost_12  _ _ _ _ _ _ _ h
theorem c_X12_stageCost {G : ah_G}   (x0 : Nat) (x1 : Int32) (σ : ah_H) (r : Int64 × ah_H) (h : f_X12_stageCost  x0 x1 σ = some r) : AM G m_X12_stageCost 3 0 0 [.ref x0, .int x1] σ (ah_rl r) := aw_enter (by decide) (Nat.le_of_ble_eq_true rfl) (c_X12_stageCost_0 _ _ _ _ (op_ck_k h))
def f_X12_orders_41_b (S : Nat → Int32 → Int32 → Int64 → ah_H → Option ah_H) (K41 : Nat → Int32 → Int32 → ah_H → Option (ah_H)) (x0 : Nat) (x1 : Int32) (x5 : Int32) (σ : ah_H) : Option (ah_H) :=
  if x1 ≤ x5 then (some σ) else ((op_gR 12 67 σ x0).bind fun v1 => (op_gR 12 66 σ x0).bind fun v2 => (op_aI σ v2 x5).bind fun v3 => (op_sI σ v1 x5 v3).bind fun σ4 => K41 x0 x1 (x5 + (1 : Int32)) σ4)
def f_X12_orders_41 (S : Nat → Int32 → Int32 → Int64 → ah_H → Option ah_H)  : Nat → Nat → Int32 → Int32 → ah_H → Option (ah_H)
  | 0, _, _, _, _ => none
  | n + 1, x0, x1, x5, σ => f_X12_orders_41_b S (f_X12_orders_41 S n) x0 x1 x5 σ
def f_X12_orders_33 (S : Nat → Int32 → Int32 → Int64 → ah_H → Option ah_H)  (x0 : Nat) (x1 : Int32) (x3 : Int64) (σ : ah_H) : Option (ah_H) :=
  (op_pL 12 68 σ x0 x3).bind fun σ1 => f_X12_orders_41 S 5000 x0 x1 (0 : Int32) σ1
def f_X12_orders_162 (S : Nat → Int32 → Int32 → Int64 → ah_H → Option ah_H) (K71 : Nat → Int32 → Int32 → Int64 → Int32 → ah_H → Option (ah_H)) (x0 : Nat) (x1 : Int32) (x2 : Int32) (x3 : Int64) (x5 : Int32) (σ : ah_H) : Option (ah_H) :=
  K71 x0 x1 x2 x3 (x5 + (1 : Int32)) σ
def f_X12_orders_134 (S : Nat → Int32 → Int32 → Int64 → ah_H → Option ah_H) (K71 : Nat → Int32 → Int32 → Int64 → Int32 → ah_H → Option (ah_H)) (x0 : Nat) (x1 : Int32) (x2 : Int32) (x3 : Int64) (x5 : Int32) (σ : ah_H) : Option (ah_H) :=
  (op_gR 12 66 σ x0).bind fun v1 => (op_sI σ v1 x1 x5).bind fun σ2 => (f_X12_stageCost x0 x2 σ2).bind fun r3 => (S x0 (x1 + (1 : Int32)) (x2 ||| ((1 : Int32) <<< (x5 &&& 31))) (x3 + r3.1) r3.2).bind fun r4 => f_X12_orders_162 S K71 x0 x1 x2 x3 x5 r4
def f_X12_orders_71_b (S : Nat → Int32 → Int32 → Int64 → ah_H → Option ah_H) (K71 : Nat → Int32 → Int32 → Int64 → Int32 → ah_H → Option (ah_H)) (x0 : Nat) (x1 : Int32) (x2 : Int32) (x3 : Int64) (x5 : Int32) (σ : ah_H) : Option (ah_H) :=
  (op_gR 12 3 σ x0).bind fun v1 => (op_aI σ v1 (0 : Int32)).bind fun v2 => if v2 ≤ x5 then (some σ) else ((op_gR 12 3 σ x0).bind fun v3 => (op_aI σ v3 (4 : Int32)).bind fun v4 => if x5 = v4 then (f_X12_orders_162 S K71 x0 x1 x2 x3 x5 σ) else (if ((x2 >>> (x5 &&& 31)) &&& (1 : Int32)) = (1 : Int32) then (f_X12_orders_162 S K71 x0 x1 x2 x3 x5 σ) else ((f_X12_to x0 x5 σ).bind fun r5 => (op_gR 12 3 r5.2 x0).bind fun v6 => (op_aI r5.2 v6 (4 : Int32)).bind fun v7 => if r5.1 = v7 then (f_X12_orders_134 S K71 x0 x1 x2 x3 x5 r5.2) else ((f_X12_to x0 x5 r5.2).bind fun r8 => if ((x2 >>> (r8.1 &&& 31)) &&& (1 : Int32)) = 0 then (f_X12_orders_162 S K71 x0 x1 x2 x3 x5 r8.2) else (f_X12_orders_134 S K71 x0 x1 x2 x3 x5 r8.2)))))
def f_X12_orders_71 (S : Nat → Int32 → Int32 → Int64 → ah_H → Option ah_H)  : Nat → Nat → Int32 → Int32 → Int64 → Int32 → ah_H → Option (ah_H)
  | 0, _, _, _, _, _, _ => none
  | n + 1, x0, x1, x2, x3, x5, σ => f_X12_orders_71_b S (f_X12_orders_71 S n) x0 x1 x2 x3 x5 σ
def f_X12_orders_0 (S : Nat → Int32 → Int32 → Int64 → ah_H → Option ah_H)  (x0 : Nat) (x1 : Int32) (x2 : Int32) (x3 : Int64) (σ : ah_H) : Option (ah_H) :=
  (op_gR 12 3 σ x0).bind fun v1 => (op_aI σ v1 (0 : Int32)).bind fun v2 => if x1 = (v2 - (1 : Int32)) then ((op_gL 12 68 σ x0).bind fun v3 => if (lg_cmp v3 (-1 : Int64)) = 0 then (f_X12_orders_33 S x0 x1 x3 σ) else ((op_gL 12 68 σ x0).bind fun v4 => if (lg_cmp x3 v4) < 0 then (f_X12_orders_33 S x0 x1 x3 σ) else (some σ))) else (f_X12_orders_71 S 5000 x0 x1 x2 x3 (0 : Int32) σ)
def b_X12_orders (S : Nat → Int32 → Int32 → Int64 → ah_H → Option ah_H) (x0 : Nat) (x1 : Int32) (x2 : Int32) (x3 : Int64) (σ : ah_H) : Option (ah_H) := op_ck 12 σ x0 (f_X12_orders_0 S x0 x1 x2 x3 σ)
def f_or : Nat → Nat → Int32 → Int32 → Int64 → ah_H → Option ah_H
  | 0, _, _, _, _, _ => none
  | d + 1, x0, x1, x2, x3, σ => b_X12_orders (f_or d) x0 x1 x2 x3 σ
def f_X12_orders (x0 : Nat) (x1 x2 : Int32) (x3 : Int64) (σ : ah_H) : Option ah_H := op_ck 12 σ x0 (f_or 20 x0 x1 x2 x3 σ)
set_option maxRecDepth 100000 in
set_option maxHeartbeats 4000000 in
theorem c_X12_orders_41_b {G : ah_G} {d : Nat} (S : Nat → Int32 → Int32 → Int64 → ah_H → Option ah_H) (hS_0 : ∀ (x0 : Nat) (x1 : Int32) (x2 : Int32) (x3 : Int64) (σ : ah_H) (r : ah_H), S  x0 x1 x2 x3 σ = some r → AM G m_X12_orders (3 + d) 0 0 [.ref x0, .int x1, .int x2, .long x3] σ (ah_rv r)) (hsh : ∀ x0 x1 x2 x3 (σ : ah_H) (r : ah_H), S x0 x1 x2 x3 σ = some r → (ah_S σ)[x0]? = some (.inr 12)) (K41 : Nat → Int32 → Int32 → ah_H → Option (ah_H)) (hK41 : ∀ (x0 : Nat) (x1 : Int32) (x5 : Int32) (σ : ah_H) (r : ah_H), K41 x0 x1 x5 σ = some r → AW G m_X12_orders (3 + (d + 1)) 0 0 41 [(0, .ref x0), (1, .int x1), (5, .int x5)] [] σ (ah_N G (ah_rv r))) : ∀ (x0 : Nat) (x1 : Int32) (x5 : Int32) (σ : ah_H) (r : ah_H), f_X12_orders_41_b S K41 x0 x1 x5 σ = some r → AW G m_X12_orders (3 + (d + 1)) 0 0 41 [(0, .ref x0), (1, .int x1), (5, .int x5)] [] σ (ah_N G (ah_rv r)) := by
  intro x0 x1 x5 σ r h
  unfold f_X12_orders_41_b at h
  refine aw_iload (pc := 41) 2 dX12_orders_41 rfl ?_
  refine aw_iload_n (pc := 43) 1 dX12_orders_43 rfl ?_
  refine aw_icmp_ge (pc := 44) 67 dX12_orders_44 (by decide) (fun z => ?_) (fun z => ?_)
  · replace h := (if_pos z).symm.trans h
    exact ow_vret (pc := 67) h dX12_orders_67 rfl
  · replace h := (if_neg z).symm.trans h
    refine aw_aload_n (pc := 47) 0 dX12_orders_47 rfl ?_
    obtain ⟨v1, e, h⟩ := op_bd h
    refine ow_gR (pc := 48) e dX12_orders_48 fd_X12_150 rfl ?_
    refine aw_iload (pc := 51) 2 dX12_orders_51 rfl ?_
    refine aw_aload_n (pc := 53) 0 dX12_orders_53 rfl ?_
    obtain ⟨v2, e, h⟩ := op_bd h
    refine ow_gR (pc := 54) e dX12_orders_54 fd_X12_147 rfl ?_
    refine aw_iload (pc := 57) 2 dX12_orders_57 rfl ?_
    obtain ⟨v3, e, h⟩ := op_bd h
    refine ow_aI (pc := 59) e dX12_orders_59 ?_
    obtain ⟨σ4, e, h⟩ := op_bd h
    refine ow_sI (pc := 60) e dX12_orders_60 ?_
    refine aw_iinc (pc := 61) 2 [(5, .int (x5 + (1 : Int32))), (0, .ref x0), (1, .int x1)] (x5 + (1 : Int32)) dX12_orders_61 rfl rfl (by decide) rfl ?_
    refine aw_goto (pc := 64) 41 dX12_orders_64 (by decide) ?_
    refine aw_sub [1, 2, 0] rfl ?_
    exact hK41 _ _ _ _ _ h
theorem c_X12_orders_41 {G : ah_G} {d : Nat} (S : Nat → Int32 → Int32 → Int64 → ah_H → Option ah_H) (hS_0 : ∀ (x0 : Nat) (x1 : Int32) (x2 : Int32) (x3 : Int64) (σ : ah_H) (r : ah_H), S  x0 x1 x2 x3 σ = some r → AM G m_X12_orders (3 + d) 0 0 [.ref x0, .int x1, .int x2, .long x3] σ (ah_rv r)) (hsh : ∀ x0 x1 x2 x3 (σ : ah_H) (r : ah_H), S x0 x1 x2 x3 σ = some r → (ah_S σ)[x0]? = some (.inr 12))  : ∀ (n : Nat) (x0 : Nat) (x1 : Int32) (x5 : Int32) (σ : ah_H) (r : ah_H), f_X12_orders_41 S  n x0 x1 x5 σ = some r → AW G m_X12_orders (3 + (d + 1)) 0 0 41 [(0, .ref x0), (1, .int x1), (5, .int x5)] [] σ (ah_N G (ah_rv r)) := by
  intro n
  induction n with
  | zero => intro x0 x1 x5 σ r h; cases h
  | succ n ih => intro x0 x1 x5 σ r h; exact c_X12_orders_41_b S hS_0 hsh  _ ih x0 x1 x5 σ r h
set_option maxRecDepth 100000 in
set_option maxHeartbeats 4000000 in
theorem c_X12_orders_33 {G : ah_G} {d : Nat} (S : Nat → Int32 → Int32 → Int64 → ah_H → Option ah_H) (hS_0 : ∀ (x0 : Nat) (x1 : Int32) (x2 : Int32) (x3 : Int64) (σ : ah_H) (r : ah_H), S  x0 x1 x2 x3 σ = some r → AM G m_X12_orders (3 + d) 0 0 [.ref x0, .int x1, .int x2, .long x3] σ (ah_rv r)) (hsh : ∀ x0 x1 x2 x3 (σ : ah_H) (r : ah_H), S x0 x1 x2 x3 σ = some r → (ah_S σ)[x0]? = some (.inr 12))  : ∀ (x0 : Nat) (x1 : Int32) (x3 : Int64) (σ : ah_H) (r : ah_H), f_X12_orders_33 S  x0 x1 x3 σ = some r → AW G m_X12_orders (3 + (d + 1)) 0 0 33 [(0, .ref x0), (1, .int x1), (3, .long x3)] [] σ (ah_N G (ah_rv r)) := by
  intro x0 x1 x3 σ r h
  unfold f_X12_orders_33 at h
  refine aw_aload_n (pc := 33) 0 dX12_orders_33 rfl ?_
  refine aw_lload_n (pc := 34) 2 dX12_orders_34 rfl ?_
  obtain ⟨σ1, e, h⟩ := op_bd h
  refine ow_pL (pc := 35) e dX12_orders_35 fd_X12_558 ?_
  refine aw_iconst (pc := 38) (v := (0 : Int32)) dX12_orders_38 (by decide) ?_
  refine aw_istore (pc := 39) [(5, .int (0 : Int32)), (0, .ref x0), (1, .int x1), (3, .long x3)] dX12_orders_39 (by decide) rfl ?_
  refine aw_sub [1, 2, 0] rfl ?_
  exact c_X12_orders_41 S hS_0 hsh _ _ _ _ _ _ h
set_option maxRecDepth 100000 in
set_option maxHeartbeats 4000000 in
theorem c_X12_orders_162 {G : ah_G} {d : Nat} (S : Nat → Int32 → Int32 → Int64 → ah_H → Option ah_H) (hS_0 : ∀ (x0 : Nat) (x1 : Int32) (x2 : Int32) (x3 : Int64) (σ : ah_H) (r : ah_H), S  x0 x1 x2 x3 σ = some r → AM G m_X12_orders (3 + d) 0 0 [.ref x0, .int x1, .int x2, .long x3] σ (ah_rv r)) (hsh : ∀ x0 x1 x2 x3 (σ : ah_H) (r : ah_H), S x0 x1 x2 x3 σ = some r → (ah_S σ)[x0]? = some (.inr 12)) (K71 : Nat → Int32 → Int32 → Int64 → Int32 → ah_H → Option (ah_H)) (hK71 : ∀ (x0 : Nat) (x1 : Int32) (x2 : Int32) (x3 : Int64) (x5 : Int32) (σ : ah_H) (r : ah_H), K71 x0 x1 x2 x3 x5 σ = some r → AW G m_X12_orders (3 + (d + 1)) 0 0 71 [(0, .ref x0), (1, .int x1), (2, .int x2), (3, .long x3), (5, .int x5)] [] σ (ah_N G (ah_rv r))) : ∀ (x0 : Nat) (x1 : Int32) (x2 : Int32) (x3 : Int64) (x5 : Int32) (σ : ah_H) (r : ah_H), f_X12_orders_162 S K71 x0 x1 x2 x3 x5 σ = some r → AW G m_X12_orders (3 + (d + 1)) 0 0 162 [(0, .ref x0), (1, .int x1), (2, .int x2), (3, .long x3), (5, .int x5)] [] σ (ah_N G (ah_rv r)) := by
  intro x0 x1 x2 x3 x5 σ r h
  unfold f_X12_orders_162 at h
  refine aw_iinc (pc := 162) 4 [(5, .int (x5 + (1 : Int32))), (0, .ref x0), (1, .int x1), (2, .int x2), (3, .long x3)] (x5 + (1 : Int32)) dX12_orders_162 rfl rfl (by decide) rfl ?_
  refine aw_goto (pc := 165) 71 dX12_orders_165 (by decide) ?_
  refine aw_sub [1, 2, 3, 4, 0] rfl ?_
  exact hK71 _ _ _ _ _ _ _ h
set_option maxRecDepth 100000 in
set_option maxHeartbeats 4000000 in
theorem c_X12_orders_134 {G : ah_G} {d : Nat} (S : Nat → Int32 → Int32 → Int64 → ah_H → Option ah_H) (hS_0 : ∀ (x0 : Nat) (x1 : Int32) (x2 : Int32) (x3 : Int64) (σ : ah_H) (r : ah_H), S  x0 x1 x2 x3 σ = some r → AM G m_X12_orders (3 + d) 0 0 [.ref x0, .int x1, .int x2, .long x3] σ (ah_rv r)) (hsh : ∀ x0 x1 x2 x3 (σ : ah_H) (r : ah_H), S x0 x1 x2 x3 σ = some r → (ah_S σ)[x0]? = some (.inr 12)) (K71 : Nat → Int32 → Int32 → Int64 → Int32 → ah_H → Option (ah_H)) (hK71 : ∀ (x0 : Nat) (x1 : Int32) (x2 : Int32) (x3 : Int64) (x5 : Int32) (σ : ah_H) (r : ah_H), K71 x0 x1 x2 x3 x5 σ = some r → AW G m_X12_orders (3 + (d + 1)) 0 0 71 [(0, .ref x0), (1, .int x1), (2, .int x2), (3, .long x3), (5, .int x5)] [] σ (ah_N G (ah_rv r))) : ∀ (x0 : Nat) (x1 : Int32) (x2 : Int32) (x3 : Int64) (x5 : Int32) (σ : ah_H) (r : ah_H), f_X12_orders_134 S K71 x0 x1 x2 x3 x5 σ = some r → AW G m_X12_orders (3 + (d + 1)) 0 0 134 [(0, .ref x0), (1, .int x1), (2, .int x2), (3, .long x3), (5, .int x5)] [] σ (ah_N G (ah_rv r)) := by
  intro x0 x1 x2 x3 x5 σ r h
  unfold f_X12_orders_134 at h
  refine aw_aload_n (pc := 134) 0 dX12_orders_134 rfl ?_
  obtain ⟨v1, e, h⟩ := op_bd h
  refine ow_gR (pc := 135) e dX12_orders_135 fd_X12_147 rfl ?_
  refine aw_iload_n (pc := 138) 1 dX12_orders_138 rfl ?_
  refine aw_iload (pc := 139) 4 dX12_orders_139 rfl ?_
  obtain ⟨σ2, e, h⟩ := op_bd h
  refine ow_sI (pc := 141) e dX12_orders_141 ?_
  refine aw_aload_n (pc := 142) 0 dX12_orders_142 rfl ?_
  refine aw_iload_n (pc := 143) 1 dX12_orders_143 rfl ?_
  refine aw_iconst (pc := 144) (v := (1 : Int32)) dX12_orders_144 (by decide) ?_
  refine aw_iadd (pc := 145) dX12_orders_145 ?_
  refine aw_iload_n (pc := 146) 2 dX12_orders_146 rfl ?_
  refine aw_iconst (pc := 147) (v := (1 : Int32)) dX12_orders_147 (by decide) ?_
  refine aw_iload (pc := 148) 4 dX12_orders_148 rfl ?_
  refine aw_ishl (pc := 150) dX12_orders_150 ?_
  refine aw_ior (pc := 151) dX12_orders_151 ?_
  refine aw_lload_n (pc := 152) 3 dX12_orders_152 rfl ?_
  refine aw_aload_n (pc := 153) 0 dX12_orders_153 rfl ?_
  refine aw_iload_n (pc := 154) 2 dX12_orders_154 rfl ?_
  obtain ⟨r3, e, h⟩ := op_bd h
  refine ow_cVl (pc := 155) (dp := 3 + d) [.int x2] ((c_X12_stageCost _ _ _ _ e).mono (by omega)) (op_ck_sh e) rfl dX12_orders_155 cw_X12_562 rfl (Nat.le_of_ble_eq_true rfl) ?_
  refine aw_ladd (pc := 158) dX12_orders_158 ?_
  obtain ⟨r4, e, h⟩ := op_bd h
  refine ow_cVv (pc := 159) (dp := 3 + d) [.int (x1 + (1 : Int32)), .int (x2 ||| ((1 : Int32) <<< (x5 &&& 31))), .long (x3 + r3.1)] (hS_0 _ _ _ _ _ _ e) (hsh _ _ _ _ _ _ e) rfl dX12_orders_159 cw_X12_565 rfl (Nat.le_of_ble_eq_true rfl) ?_
  exact c_X12_orders_162 S hS_0 hsh K71 hK71 _ _ _ _ _ _ _ h
set_option maxRecDepth 100000 in
set_option maxHeartbeats 4000000 in
theorem c_X12_orders_71_b {G : ah_G} {d : Nat} (S : Nat → Int32 → Int32 → Int64 → ah_H → Option ah_H) (hS_0 : ∀ (x0 : Nat) (x1 : Int32) (x2 : Int32) (x3 : Int64) (σ : ah_H) (r : ah_H), S  x0 x1 x2 x3 σ = some r → AM G m_X12_orders (3 + d) 0 0 [.ref x0, .int x1, .int x2, .long x3] σ (ah_rv r)) (hsh : ∀ x0 x1 x2 x3 (σ : ah_H) (r : ah_H), S x0 x1 x2 x3 σ = some r → (ah_S σ)[x0]? = some (.inr 12)) (K71 : Nat → Int32 → Int32 → Int64 → Int32 → ah_H → Option (ah_H)) (hK71 : ∀ (x0 : Nat) (x1 : Int32) (x2 : Int32) (x3 : Int64) (x5 : Int32) (σ : ah_H) (r : ah_H), K71 x0 x1 x2 x3 x5 σ = some r → AW G m_X12_orders (3 + (d + 1)) 0 0 71 [(0, .ref x0), (1, .int x1), (2, .int x2), (3, .long x3), (5, .int x5)] [] σ (ah_N G (ah_rv r))) : ∀ (x0 : Nat) (x1 : Int32) (x2 : Int32) (x3 : Int64) (x5 : Int32) (σ : ah_H) (r : ah_H), f_X12_orders_71_b S K71 x0 x1 x2 x3 x5 σ = some r → AW G m_X12_orders (3 + (d + 1)) 0 0 71 [(0, .ref x0), (1, .int x1), (2, .int x2), (3, .long x3), (5, .int x5)] [] σ (ah_N G (ah_rv r)) := by
  intro x0 x1 x2 x3 x5 σ r h
  unfold f_X12_orders_71_b at h
  refine aw_iload (pc := 71) 4 dX12_orders_71 rfl ?_
  refine aw_aload_n (pc := 73) 0 dX12_orders_73 rfl ?_
  obtain ⟨v1, e, h⟩ := op_bd h
  refine ow_gR (pc := 74) e dX12_orders_74 fd_X12_15 rfl ?_
  refine aw_iconst (pc := 77) (v := (0 : Int32)) dX12_orders_77 (by decide) ?_
  obtain ⟨v2, e, h⟩ := op_bd h
  refine ow_aI (pc := 78) e dX12_orders_78 ?_
  refine aw_icmp_ge (pc := 79) 168 dX12_orders_79 (by decide) (fun z => ?_) (fun z => ?_)
  · replace h := (if_pos z).symm.trans h
    exact ow_vret (pc := 168) h dX12_orders_168 rfl
  · replace h := (if_neg z).symm.trans h
    refine aw_iload (pc := 82) 4 dX12_orders_82 rfl ?_
    refine aw_aload_n (pc := 84) 0 dX12_orders_84 rfl ?_
    obtain ⟨v3, e, h⟩ := op_bd h
    refine ow_gR (pc := 85) e dX12_orders_85 fd_X12_15 rfl ?_
    refine aw_iconst (pc := 88) (v := (4 : Int32)) dX12_orders_88 (by decide) ?_
    obtain ⟨v4, e, h⟩ := op_bd h
    refine ow_aI (pc := 89) e dX12_orders_89 ?_
    refine aw_icmp_eq (pc := 90) 162 dX12_orders_90 (by decide) (fun z => ?_) (fun z => ?_)
    · replace h := (if_pos z).symm.trans h
      exact c_X12_orders_162 S hS_0 hsh K71 hK71 _ _ _ _ _ _ _ h
    · replace h := (if_neg z).symm.trans h
      refine aw_iload_n (pc := 93) 2 dX12_orders_93 rfl ?_
      refine aw_iload (pc := 94) 4 dX12_orders_94 rfl ?_
      refine aw_ishr (pc := 96) dX12_orders_96 ?_
      refine aw_iconst (pc := 97) (v := (1 : Int32)) dX12_orders_97 (by decide) ?_
      refine aw_iand (pc := 98) dX12_orders_98 ?_
      refine aw_iconst (pc := 99) (v := (1 : Int32)) dX12_orders_99 (by decide) ?_
      refine aw_icmp_eq (pc := 100) 162 dX12_orders_100 (by decide) (fun z => ?_) (fun z => ?_)
      · replace h := (if_pos z).symm.trans h
        exact c_X12_orders_162 S hS_0 hsh K71 hK71 _ _ _ _ _ _ _ h
      · replace h := (if_neg z).symm.trans h
        refine aw_aload_n (pc := 103) 0 dX12_orders_103 rfl ?_
        refine aw_iload (pc := 104) 4 dX12_orders_104 rfl ?_
        obtain ⟨r5, e, h⟩ := op_bd h
        refine ow_cVi (pc := 106) (dp := 3 + d) [.int x5] ((c_X12_to _ _ _ _ e).mono (by omega)) (op_ck_sh e) rfl dX12_orders_106 cw_X12_383 rfl (Nat.le_of_ble_eq_true rfl) ?_
        refine aw_aload_n (pc := 109) 0 dX12_orders_109 rfl ?_
        obtain ⟨v6, e, h⟩ := op_bd h
        refine ow_gR (pc := 110) e dX12_orders_110 fd_X12_15 rfl ?_
        refine aw_iconst (pc := 113) (v := (4 : Int32)) dX12_orders_113 (by decide) ?_
        obtain ⟨v7, e, h⟩ := op_bd h
        refine ow_aI (pc := 114) e dX12_orders_114 ?_
        refine aw_icmp_eq (pc := 115) 134 dX12_orders_115 (by decide) (fun z => ?_) (fun z => ?_)
        · replace h := (if_pos z).symm.trans h
          exact c_X12_orders_134 S hS_0 hsh K71 hK71 _ _ _ _ _ _ _ h
        · replace h := (if_neg z).symm.trans h
          refine aw_iload_n (pc := 118) 2 dX12_orders_118 rfl ?_
          refine aw_aload_n (pc := 119) 0 dX12_orders_119 rfl ?_
          refine aw_iload (pc := 120) 4 dX12_orders_120 rfl ?_
          obtain ⟨r8, e, h⟩ := op_bd h
          refine ow_cVi (pc := 122) (dp := 3 + d) [.int x5] ((c_X12_to _ _ _ _ e).mono (by omega)) (op_ck_sh e) rfl dX12_orders_122 cw_X12_383 rfl (Nat.le_of_ble_eq_true rfl) ?_
          refine aw_ishr (pc := 125) dX12_orders_125 ?_
          refine aw_iconst (pc := 126) (v := (1 : Int32)) dX12_orders_126 (by decide) ?_
          refine aw_iand (pc := 127) dX12_orders_127 ?_
          refine aw_if_ne (pc := 128) 134 dX12_orders_128 (by decide) (fun z => ?_) (fun z => ?_)
          · replace h := (if_neg z).symm.trans h
            exact c_X12_orders_134 S hS_0 hsh K71 hK71 _ _ _ _ _ _ _ h
          · replace h := (if_pos z).symm.trans h
            refine aw_goto (pc := 131) 162 dX12_orders_131 (by decide) ?_
            exact c_X12_orders_162 S hS_0 hsh K71 hK71 _ _ _ _ _ _ _ h
theorem c_X12_orders_71 {G : ah_G} {d : Nat} (S : Nat → Int32 → Int32 → Int64 → ah_H → Option ah_H) (hS_0 : ∀ (x0 : Nat) (x1 : Int32) (x2 : Int32) (x3 : Int64) (σ : ah_H) (r : ah_H), S  x0 x1 x2 x3 σ = some r → AM G m_X12_orders (3 + d) 0 0 [.ref x0, .int x1, .int x2, .long x3] σ (ah_rv r)) (hsh : ∀ x0 x1 x2 x3 (σ : ah_H) (r : ah_H), S x0 x1 x2 x3 σ = some r → (ah_S σ)[x0]? = some (.inr 12))  : ∀ (n : Nat) (x0 : Nat) (x1 : Int32) (x2 : Int32) (x3 : Int64) (x5 : Int32) (σ : ah_H) (r : ah_H), f_X12_orders_71 S  n x0 x1 x2 x3 x5 σ = some r → AW G m_X12_orders (3 + (d + 1)) 0 0 71 [(0, .ref x0), (1, .int x1), (2, .int x2), (3, .long x3), (5, .int x5)] [] σ (ah_N G (ah_rv r)) := by
  intro n
  induction n with
  | zero => intro x0 x1 x2 x3 x5 σ r h; cases h
  | succ n ih => intro x0 x1 x2 x3 x5 σ r h; exact c_X12_orders_71_b S hS_0 hsh  _ ih x0 x1 x2 x3 x5 σ r h
set_option maxRecDepth 100000 in
set_option maxHeartbeats 4000000 in
theorem c_X12_orders_0 {G : ah_G} {d : Nat} (S : Nat → Int32 → Int32 → Int64 → ah_H → Option ah_H) (hS_0 : ∀ (x0 : Nat) (x1 : Int32) (x2 : Int32) (x3 : Int64) (σ : ah_H) (r : ah_H), S  x0 x1 x2 x3 σ = some r → AM G m_X12_orders (3 + d) 0 0 [.ref x0, .int x1, .int x2, .long x3] σ (ah_rv r)) (hsh : ∀ x0 x1 x2 x3 (σ : ah_H) (r : ah_H), S x0 x1 x2 x3 σ = some r → (ah_S σ)[x0]? = some (.inr 12))  : ∀ (x0 : Nat) (x1 : Int32) (x2 : Int32) (x3 : Int64) (σ : ah_H) (r : ah_H), f_X12_orders_0 S  x0 x1 x2 x3 σ = some r → AW G m_X12_orders (3 + (d + 1)) 0 0 0 [(0, .ref x0), (1, .int x1), (2, .int x2), (3, .long x3)] [] σ (ah_N G (ah_rv r)) := by
  intro x0 x1 x2 x3 σ r h
  unfold f_X12_orders_0 at h
  refine aw_iload_n (pc := 0) 1 dX12_orders_0 rfl ?_
  refine aw_aload_n (pc := 1) 0 dX12_orders_1 rfl ?_
  obtain ⟨v1, e, h⟩ := op_bd h
  refine ow_gR (pc := 2) e dX12_orders_2 fd_X12_15 rfl ?_
  refine aw_iconst (pc := 5) (v := (0 : Int32)) dX12_orders_5 (by decide) ?_
  obtain ⟨v2, e, h⟩ := op_bd h
  refine ow_aI (pc := 6) e dX12_orders_6 ?_
  refine aw_iconst (pc := 7) (v := (1 : Int32)) dX12_orders_7 (by decide) ?_
  refine aw_isub (pc := 8) dX12_orders_8 ?_
  refine aw_icmp_ne (pc := 9) 68 dX12_orders_9 (by decide) (fun z => ?_) (fun z => ?_)
  · replace h := (if_neg z).symm.trans h
    refine aw_iconst (pc := 68) (v := (0 : Int32)) dX12_orders_68 (by decide) ?_
    refine aw_istore (pc := 69) [(5, .int (0 : Int32)), (0, .ref x0), (1, .int x1), (2, .int x2), (3, .long x3)] dX12_orders_69 (by decide) rfl ?_
    refine aw_sub [1, 2, 3, 4, 0] rfl ?_
    exact c_X12_orders_71 S hS_0 hsh _ _ _ _ _ _ _ _ h
  · replace h := (if_pos z).symm.trans h
    refine aw_aload_n (pc := 12) 0 dX12_orders_12 rfl ?_
    obtain ⟨v3, e, h⟩ := op_bd h
    refine ow_gL (pc := 13) e dX12_orders_13 fd_X12_558 ?_
    refine aw_ldc2 (pc := 16) dX12_orders_16 kl_X12_432 ?_
    refine aw_lcmp (pc := 19) dX12_orders_19 ?_
    refine aw_if_eq (pc := 20) 33 dX12_orders_20 (by decide) (fun z => ?_) (fun z => ?_)
    · replace h := (if_pos z).symm.trans h
      refine aw_sub [0, 1, 3] rfl ?_
      exact c_X12_orders_33 S hS_0 hsh _ _ _ _ _ h
    · replace h := (if_neg z).symm.trans h
      refine aw_lload_n (pc := 23) 3 dX12_orders_23 rfl ?_
      refine aw_aload_n (pc := 24) 0 dX12_orders_24 rfl ?_
      obtain ⟨v4, e, h⟩ := op_bd h
      refine ow_gL (pc := 25) e dX12_orders_25 fd_X12_558 ?_
      refine aw_lcmp (pc := 28) dX12_orders_28 ?_
      refine aw_if_lt (pc := 29) 33 dX12_orders_29 (by decide) (fun z => ?_) (fun z => ?_)
      · replace h := (if_pos z).symm.trans h
        refine aw_sub [0, 1, 3] rfl ?_
        exact c_X12_orders_33 S hS_0 hsh _ _ _ _ _ h
      · replace h := (if_neg z).symm.trans h
        exact ow_vret (pc := 32) h dX12_orders_32 rfl
theorem cb_X12_orders {G : ah_G} {d : Nat} (S : Nat → Int32 → Int32 → Int64 → ah_H → Option ah_H) (hS_0 : ∀ (x0 : Nat) (x1 : Int32) (x2 : Int32) (x3 : Int64) (σ : ah_H) (r : ah_H), S  x0 x1 x2 x3 σ = some r → AM G m_X12_orders (3 + d) 0 0 [.ref x0, .int x1, .int x2, .long x3] σ (ah_rv r)) (hsh : ∀ x0 x1 x2 x3 (σ : ah_H) (r : ah_H), S x0 x1 x2 x3 σ = some r → (ah_S σ)[x0]? = some (.inr 12)) (x0 : Nat) (x1 : Int32) (x2 : Int32) (x3 : Int64) (σ : ah_H) (r : ah_H) (h : b_X12_orders S x0 x1 x2 x3 σ = some r) : AM G m_X12_orders (3 + (d + 1)) 0 0 [.ref x0, .int x1, .int x2, .long x3] σ (ah_rv r) := aw_enter (by decide) (Nat.le_of_ble_eq_true rfl) (c_X12_orders_0 S hS_0 hsh _ _ _ _ _ _ (op_ck_k h))
theorem f_or_sh : ∀ (d x0 : Nat) (x1 x2 : Int32) (x3 : Int64) (σ r : ah_H), f_or d x0 x1 x2 x3 σ = some r → (ah_S σ)[x0]? = some (.inr 12) := by
  intro d x0 x1 x2 x3 σ r h
  cases d with
  | zero => cases h
  | succ d => exact op_ck_sh h
theorem c_or {G : ah_G} : ∀ (d x0 : Nat) (x1 x2 : Int32) (x3 : Int64) (σ r : ah_H), f_or d x0 x1 x2 x3 σ = some r → AM G m_X12_orders (3 + d) 0 0 [.ref x0, .int x1, .int x2, .long x3] σ (ah_rv r) := by
  intro d
  induction d with
  | zero => intro x0 x1 x2 x3 σ r h; cases h
  | succ d ih => intro x0 x1 x2 x3 σ r h; exact cb_X12_orders _ ih (f_or_sh d) x0 x1 x2 x3 σ r h
theorem c_X12_orders {G : ah_G} (x0 : Nat) (x1 x2 : Int32) (x3 : Int64) (σ r : ah_H) (h : f_X12_orders x0 x1 x2 x3 σ = some r) : AM G m_X12_orders 23 0 0 [.ref x0, .int x1, .int x2, .long x3] σ (ah_rv r) := c_or 20 x0 x1 x2 x3 σ r (op_ck_k h)
def f_X12_stages_0   (x0 : Nat) (x1 : Int32) (σ : ah_H) : Option (Int64 × ah_H) :=
  (op_pI 12 0 σ x0 (0 : Int32)).bind fun σ1 => (op_pI 12 42 σ1 x0 (0 : Int32)).bind fun σ2 => (f_X12_isJoined x0 σ2).bind fun r3 => if r3.1 = 0 then (some ((-1 : Int64), r3.2)) else (if x1 < 0 then (some ((-1 : Int64), r3.2)) else ((op_gR 12 3 r3.2 x0).bind fun v4 => (op_aI r3.2 v4 (0 : Int32)).bind fun v5 => if x1 ≤ (v5 - (1 : Int32)) then ((op_pL 12 68 r3.2 x0 (-1 : Int64)).bind fun σ6 => (f_X12_orders x0 (0 : Int32) (0 : Int32) (0 : Int64) σ6).bind fun r7 => if x1 = 0 then ((op_gL 12 68 r7 x0).bind fun v10 => some (v10, r7)) else ((op_gR 12 67 r7 x0).bind fun v8 => (op_aI r7 v8 (x1 - (1 : Int32))).bind fun v9 => some ((Int32.toInt64 v9), r7))) else (some ((-1 : Int64), r3.2))))
def f_X12_stages  (x0 : Nat) (x1 : Int32) (σ : ah_H) : Option (Int64 × ah_H) := op_ck 12 σ x0 (f_X12_stages_0 x0 x1 σ)
set_option maxRecDepth 100000 in
set_option maxHeartbeats 4000000 in
theorem c_X12_stages_0 {G : ah_G}   : ∀ (x0 : Nat) (x1 : Int32) (σ : ah_H) (r : Int64 × ah_H), f_X12_stages_0   x0 x1 σ = some r → AW G m_X12_stages 24 0 0 0 [(0, .ref x0), (1, .int x1)] [] σ (ah_N G (ah_rl r)) := by
  intro x0 x1 σ r h
  unfold f_X12_stages_0 at h
  refine aw_aload_n (pc := 0) 0 dX12_stages_0 rfl ?_
  refine aw_iconst (pc := 1) (v := (0 : Int32)) dX12_stages_1 (by decide) ?_
  obtain ⟨σ1, e, h⟩ := op_bd h
  refine ow_pI (pc := 2) e dX12_stages_2 fd_X12_153 ?_
  refine aw_aload_n (pc := 5) 0 dX12_stages_5 rfl ?_
  refine aw_iconst (pc := 6) (v := (0 : Int32)) dX12_stages_6 (by decide) ?_
  obtain ⟨σ2, e, h⟩ := op_bd h
  refine ow_pI (pc := 7) e dX12_stages_7 fd_X12_371 ?_
  refine aw_aload_n (pc := 10) 0 dX12_stages_10 rfl ?_
  obtain ⟨r3, e, h⟩ := op_bd h
  refine ow_cVi (pc := 11) [] ((c_X12_isJoined _ _ _ e).mono (by decide)) (op_ck_sh e) rfl dX12_stages_11 cw_X12_482 rfl (Nat.le_of_ble_eq_true rfl) ?_
  refine aw_if_eq (pc := 14) 33 dX12_stages_14 (by decide) (fun z => ?_) (fun z => ?_)
  · replace h := (if_pos z).symm.trans h
    refine aw_ldc2 (pc := 33) dX12_stages_33 kl_X12_432 ?_
    exact ow_lret (pc := 36) h dX12_stages_36 rfl
  · replace h := (if_neg z).symm.trans h
    refine aw_iload_n (pc := 17) 1 dX12_stages_17 rfl ?_
    refine aw_if_lt (pc := 18) 33 dX12_stages_18 (by decide) (fun z => ?_) (fun z => ?_)
    · replace h := (if_pos z).symm.trans h
      refine aw_ldc2 (pc := 33) dX12_stages_33 kl_X12_432 ?_
      exact ow_lret (pc := 36) h dX12_stages_36 rfl
    · replace h := (if_neg z).symm.trans h
      refine aw_iload_n (pc := 21) 1 dX12_stages_21 rfl ?_
      refine aw_aload_n (pc := 22) 0 dX12_stages_22 rfl ?_
      obtain ⟨v4, e, h⟩ := op_bd h
      refine ow_gR (pc := 23) e dX12_stages_23 fd_X12_15 rfl ?_
      refine aw_iconst (pc := 26) (v := (0 : Int32)) dX12_stages_26 (by decide) ?_
      obtain ⟨v5, e, h⟩ := op_bd h
      refine ow_aI (pc := 27) e dX12_stages_27 ?_
      refine aw_iconst (pc := 28) (v := (1 : Int32)) dX12_stages_28 (by decide) ?_
      refine aw_isub (pc := 29) dX12_stages_29 ?_
      refine aw_icmp_le (pc := 30) 37 dX12_stages_30 (by decide) (fun z => ?_) (fun z => ?_)
      · replace h := (if_pos z).symm.trans h
        refine aw_aload_n (pc := 37) 0 dX12_stages_37 rfl ?_
        refine aw_ldc2 (pc := 38) dX12_stages_38 kl_X12_432 ?_
        obtain ⟨σ6, e, h⟩ := op_bd h
        refine ow_pL (pc := 41) e dX12_stages_41 fd_X12_558 ?_
        refine aw_aload_n (pc := 44) 0 dX12_stages_44 rfl ?_
        refine aw_iconst (pc := 45) (v := (0 : Int32)) dX12_stages_45 (by decide) ?_
        refine aw_iconst (pc := 46) (v := (0 : Int32)) dX12_stages_46 (by decide) ?_
        refine aw_lconst (pc := 47) (v := (0 : Int64)) dX12_stages_47 (by decide) ?_
        obtain ⟨r7, e, h⟩ := op_bd h
        refine ow_cVv (pc := 48) [.int (0 : Int32), .int (0 : Int32), .long (0 : Int64)] ((c_X12_orders _ _ _ _ _ _ e).mono (by decide)) (op_ck_sh e) rfl dX12_stages_48 cw_X12_565 rfl (Nat.le_of_ble_eq_true rfl) ?_
        refine aw_iload_n (pc := 51) 1 dX12_stages_51 rfl ?_
        refine aw_if_ne (pc := 52) 62 dX12_stages_52 (by decide) (fun z => ?_) (fun z => ?_)
        · replace h := (if_neg z).symm.trans h
          refine aw_aload_n (pc := 62) 0 dX12_stages_62 rfl ?_
          obtain ⟨v8, e, h⟩ := op_bd h
          refine ow_gR (pc := 63) e dX12_stages_63 fd_X12_150 rfl ?_
          refine aw_iload_n (pc := 66) 1 dX12_stages_66 rfl ?_
          refine aw_iconst (pc := 67) (v := (1 : Int32)) dX12_stages_67 (by decide) ?_
          refine aw_isub (pc := 68) dX12_stages_68 ?_
          obtain ⟨v9, e, h⟩ := op_bd h
          refine ow_aI (pc := 69) e dX12_stages_69 ?_
          refine aw_i2l (pc := 70) dX12_stages_70 ?_
          exact ow_lret (pc := 71) h dX12_stages_71 rfl
        · replace h := (if_pos z).symm.trans h
          refine aw_aload_n (pc := 55) 0 dX12_stages_55 rfl ?_
          obtain ⟨v10, e, h⟩ := op_bd h
          refine ow_gL (pc := 56) e dX12_stages_56 fd_X12_558 ?_
          refine aw_goto (pc := 59) 71 dX12_stages_59 (by decide) ?_
          exact ow_lret (pc := 71) h dX12_stages_71 rfl
      · replace h := (if_neg z).symm.trans h
        refine aw_ldc2 (pc := 33) dX12_stages_33 kl_X12_432 ?_
        exact ow_lret (pc := 36) h dX12_stages_36 rfl
theorem c_X12_stages {G : ah_G}   (x0 : Nat) (x1 : Int32) (σ : ah_H) (r : Int64 × ah_H) (h : f_X12_stages  x0 x1 σ = some r) : AM G m_X12_stages 24 0 0 [.ref x0, .int x1] σ (ah_rl r) := aw_enter (by decide) (Nat.le_of_ble_eq_true rfl) (c_X12_stages_0 _ _ _ _ (op_ck_k h))
def f_X12_stage_134  (K55 : Nat → Int32 → Int32 → Int32 → Int64 → Int32 → ah_H → Option (Int64 × ah_H)) (x0 : Nat) (x1 : Int32) (x2 : Int32) (x3 : Int32) (x4 : Int64) (x6 : Int32) (x7 : Int32) (σ : ah_H) : Option (Int64 × ah_H) :=
  (f_X12_stageCost x0 x3 σ).bind fun r1 => K55 x0 x1 x2 (x3 ||| ((1 : Int32) <<< (x7 &&& 31))) (x4 + r1.1) (x6 + (1 : Int32)) r1.2
def f_X12_stage_55_b  (K55 : Nat → Int32 → Int32 → Int32 → Int64 → Int32 → ah_H → Option (Int64 × ah_H)) (x0 : Nat) (x1 : Int32) (x2 : Int32) (x3 : Int32) (x4 : Int64) (x6 : Int32) (σ : ah_H) : Option (Int64 × ah_H) :=
  if x1 ≤ x6 then (some (x4, σ)) else ((f_X12_isCorner x0 ((x2 >>> (((4 : Int32) * x6) &&& 31)) &&& (15 : Int32)) σ).bind fun r1 => if r1.1 = 0 then (some ((-2 : Int64), r1.2)) else ((op_gR 12 3 r1.2 x0).bind fun v2 => (op_aI r1.2 v2 (4 : Int32)).bind fun v3 => if ((x2 >>> (((4 : Int32) * x6) &&& 31)) &&& (15 : Int32)) = v3 then (some ((-2 : Int64), r1.2)) else (if ((x3 >>> (((x2 >>> (((4 : Int32) * x6) &&& 31)) &&& (15 : Int32)) &&& 31)) &&& (1 : Int32)) = (1 : Int32) then (some ((-2 : Int64), r1.2)) else ((f_X12_to x0 ((x2 >>> (((4 : Int32) * x6) &&& 31)) &&& (15 : Int32)) r1.2).bind fun r4 => (op_gR 12 3 r4.2 x0).bind fun v5 => (op_aI r4.2 v5 (4 : Int32)).bind fun v6 => if r4.1 = v6 then (f_X12_stage_134 K55 x0 x1 x2 x3 x4 x6 ((x2 >>> (((4 : Int32) * x6) &&& 31)) &&& (15 : Int32)) r4.2) else ((f_X12_to x0 ((x2 >>> (((4 : Int32) * x6) &&& 31)) &&& (15 : Int32)) r4.2).bind fun r7 => if ((x3 >>> (r7.1 &&& 31)) &&& (1 : Int32)) = 0 then (some ((-2 : Int64), r7.2)) else (f_X12_stage_134 K55 x0 x1 x2 x3 x4 x6 ((x2 >>> (((4 : Int32) * x6) &&& 31)) &&& (15 : Int32)) r7.2))))))
def f_X12_stage_55   : Nat → Nat → Int32 → Int32 → Int32 → Int64 → Int32 → ah_H → Option (Int64 × ah_H)
  | 0, _, _, _, _, _, _, _ => none
  | n + 1, x0, x1, x2, x3, x4, x6, σ => f_X12_stage_55_b (f_X12_stage_55 n) x0 x1 x2 x3 x4 x6 σ
def f_X12_stage_0   (x0 : Nat) (x1 : Int32) (x2 : Int32) (σ : ah_H) : Option (Int64 × ah_H) :=
  (op_pI 12 0 σ x0 (0 : Int32)).bind fun σ1 => (op_pI 12 42 σ1 x0 (0 : Int32)).bind fun σ2 => (f_X12_isJoined x0 σ2).bind fun r3 => if r3.1 = 0 then (some ((-1 : Int64), r3.2)) else (if x1 < 0 then (some ((-1 : Int64), r3.2)) else (if x1 ≤ (6 : Int32) then ((op_gR 12 3 r3.2 x0).bind fun v4 => (op_aI r3.2 v4 (0 : Int32)).bind fun v5 => if x1 = (v5 - (1 : Int32)) then (f_X12_stage_55 5000 x0 x1 x2 (0 : Int32) (0 : Int64) (0 : Int32) r3.2) else (some ((-2 : Int64), r3.2))) else (some ((-1 : Int64), r3.2))))
def f_X12_stage  (x0 : Nat) (x1 : Int32) (x2 : Int32) (σ : ah_H) : Option (Int64 × ah_H) := op_ck 12 σ x0 (f_X12_stage_0 x0 x1 x2 σ)
set_option maxRecDepth 100000 in
set_option maxHeartbeats 4000000 in
theorem c_X12_stage_134 {G : ah_G}  (K55 : Nat → Int32 → Int32 → Int32 → Int64 → Int32 → ah_H → Option (Int64 × ah_H)) (hK55 : ∀ (x0 : Nat) (x1 : Int32) (x2 : Int32) (x3 : Int32) (x4 : Int64) (x6 : Int32) (σ : ah_H) (r : Int64 × ah_H), K55 x0 x1 x2 x3 x4 x6 σ = some r → AW G m_X12_stage 4 0 0 55 [(0, .ref x0), (1, .int x1), (2, .int x2), (3, .int x3), (4, .long x4), (6, .int x6)] [] σ (ah_N G (ah_rl r))) : ∀ (x0 : Nat) (x1 : Int32) (x2 : Int32) (x3 : Int32) (x4 : Int64) (x6 : Int32) (x7 : Int32) (σ : ah_H) (r : Int64 × ah_H), f_X12_stage_134  K55 x0 x1 x2 x3 x4 x6 x7 σ = some r → AW G m_X12_stage 4 0 0 134 [(0, .ref x0), (1, .int x1), (2, .int x2), (3, .int x3), (4, .long x4), (6, .int x6), (7, .int x7)] [] σ (ah_N G (ah_rl r)) := by
  intro x0 x1 x2 x3 x4 x6 x7 σ r h
  unfold f_X12_stage_134 at h
  refine aw_lload (pc := 134) 4 dX12_stage_134 rfl ?_
  refine aw_aload_n (pc := 136) 0 dX12_stage_136 rfl ?_
  refine aw_iload_n (pc := 137) 3 dX12_stage_137 rfl ?_
  obtain ⟨r1, e, h⟩ := op_bd h
  refine ow_cVl (pc := 138) [.int x3] ((c_X12_stageCost _ _ _ _ e).mono (by decide)) (op_ck_sh e) rfl dX12_stage_138 cw_X12_562 rfl (Nat.le_of_ble_eq_true rfl) ?_
  refine aw_ladd (pc := 141) dX12_stage_141 ?_
  refine aw_lstore (pc := 142) [(4, .long (x4 + r1.1)), (0, .ref x0), (1, .int x1), (2, .int x2), (3, .int x3), (6, .int x6), (7, .int x7)] dX12_stage_142 (by decide) rfl ?_
  refine aw_iload_n (pc := 144) 4 dX12_stage_144 rfl ?_
  refine aw_iconst (pc := 145) (v := (1 : Int32)) dX12_stage_145 (by decide) ?_
  refine aw_iload (pc := 146) 6 dX12_stage_146 rfl ?_
  refine aw_ishl (pc := 148) dX12_stage_148 ?_
  refine aw_ior (pc := 149) dX12_stage_149 ?_
  refine aw_istore_n (pc := 150) [(3, .int (x3 ||| ((1 : Int32) <<< (x7 &&& 31)))), (4, .long (x4 + r1.1)), (0, .ref x0), (1, .int x1), (2, .int x2), (6, .int x6), (7, .int x7)] dX12_stage_150 rfl (by decide) rfl ?_
  refine aw_iinc (pc := 151) 5 [(6, .int (x6 + (1 : Int32))), (3, .int (x3 ||| ((1 : Int32) <<< (x7 &&& 31)))), (4, .long (x4 + r1.1)), (0, .ref x0), (1, .int x1), (2, .int x2), (7, .int x7)] (x6 + (1 : Int32)) dX12_stage_151 rfl rfl (by decide) rfl ?_
  refine aw_goto (pc := 154) 55 dX12_stage_154 (by decide) ?_
  refine aw_sub [3, 4, 5, 1, 2, 0] rfl ?_
  exact hK55 _ _ _ _ _ _ _ _ h
set_option maxRecDepth 100000 in
set_option maxHeartbeats 4000000 in
theorem c_X12_stage_55_b {G : ah_G}  (K55 : Nat → Int32 → Int32 → Int32 → Int64 → Int32 → ah_H → Option (Int64 × ah_H)) (hK55 : ∀ (x0 : Nat) (x1 : Int32) (x2 : Int32) (x3 : Int32) (x4 : Int64) (x6 : Int32) (σ : ah_H) (r : Int64 × ah_H), K55 x0 x1 x2 x3 x4 x6 σ = some r → AW G m_X12_stage 4 0 0 55 [(0, .ref x0), (1, .int x1), (2, .int x2), (3, .int x3), (4, .long x4), (6, .int x6)] [] σ (ah_N G (ah_rl r))) : ∀ (x0 : Nat) (x1 : Int32) (x2 : Int32) (x3 : Int32) (x4 : Int64) (x6 : Int32) (σ : ah_H) (r : Int64 × ah_H), f_X12_stage_55_b  K55 x0 x1 x2 x3 x4 x6 σ = some r → AW G m_X12_stage 4 0 0 55 [(0, .ref x0), (1, .int x1), (2, .int x2), (3, .int x3), (4, .long x4), (6, .int x6)] [] σ (ah_N G (ah_rl r)) := by
  intro x0 x1 x2 x3 x4 x6 σ r h
  unfold f_X12_stage_55_b at h
  refine aw_iload (pc := 55) 5 dX12_stage_55 rfl ?_
  refine aw_iload_n (pc := 57) 1 dX12_stage_57 rfl ?_
  refine aw_icmp_ge (pc := 58) 157 dX12_stage_58 (by decide) (fun z => ?_) (fun z => ?_)
  · replace h := (if_pos z).symm.trans h
    refine aw_lload (pc := 157) 4 dX12_stage_157 rfl ?_
    exact ow_lret (pc := 159) h dX12_stage_159 rfl
  · replace h := (if_neg z).symm.trans h
    refine aw_iload_n (pc := 61) 2 dX12_stage_61 rfl ?_
    refine aw_iconst (pc := 62) (v := (4 : Int32)) dX12_stage_62 (by decide) ?_
    refine aw_iload (pc := 63) 5 dX12_stage_63 rfl ?_
    refine aw_imul (pc := 65) dX12_stage_65 ?_
    refine aw_ishr (pc := 66) dX12_stage_66 ?_
    refine aw_bipush (pc := 67) (v := (15 : Int32)) dX12_stage_67 (by decide) ?_
    refine aw_iand (pc := 69) dX12_stage_69 ?_
    refine aw_istore (pc := 70) [(7, .int ((x2 >>> (((4 : Int32) * x6) &&& 31)) &&& (15 : Int32))), (0, .ref x0), (1, .int x1), (2, .int x2), (3, .int x3), (4, .long x4), (6, .int x6)] dX12_stage_70 (by decide) rfl ?_
    refine aw_aload_n (pc := 72) 1 dX12_stage_72 rfl ?_
    refine aw_iload (pc := 73) 0 dX12_stage_73 rfl ?_
    obtain ⟨r1, e, h⟩ := op_bd h
    refine ow_cVi (pc := 75) [.int ((x2 >>> (((4 : Int32) * x6) &&& 31)) &&& (15 : Int32))] ((c_X12_isCorner _ _ _ _ e).mono (by decide)) (op_ck_sh e) rfl dX12_stage_75 cw_X12_327 rfl (Nat.le_of_ble_eq_true rfl) ?_
    refine aw_if_eq (pc := 78) 130 dX12_stage_78 (by decide) (fun z => ?_) (fun z => ?_)
    · replace h := (if_pos z).symm.trans h
      refine aw_ldc2 (pc := 130) dX12_stage_130 kl_X12_540 ?_
      exact ow_lret (pc := 133) h dX12_stage_133 rfl
    · replace h := (if_neg z).symm.trans h
      refine aw_iload (pc := 81) 0 dX12_stage_81 rfl ?_
      refine aw_aload_n (pc := 83) 1 dX12_stage_83 rfl ?_
      obtain ⟨v2, e, h⟩ := op_bd h
      refine ow_gR (pc := 84) e dX12_stage_84 fd_X12_15 rfl ?_
      refine aw_iconst (pc := 87) (v := (4 : Int32)) dX12_stage_87 (by decide) ?_
      obtain ⟨v3, e, h⟩ := op_bd h
      refine ow_aI (pc := 88) e dX12_stage_88 ?_
      refine aw_icmp_eq (pc := 89) 130 dX12_stage_89 (by decide) (fun z => ?_) (fun z => ?_)
      · replace h := (if_pos z).symm.trans h
        refine aw_ldc2 (pc := 130) dX12_stage_130 kl_X12_540 ?_
        exact ow_lret (pc := 133) h dX12_stage_133 rfl
      · replace h := (if_neg z).symm.trans h
        refine aw_iload_n (pc := 92) 4 dX12_stage_92 rfl ?_
        refine aw_iload (pc := 93) 0 dX12_stage_93 rfl ?_
        refine aw_ishr (pc := 95) dX12_stage_95 ?_
        refine aw_iconst (pc := 96) (v := (1 : Int32)) dX12_stage_96 (by decide) ?_
        refine aw_iand (pc := 97) dX12_stage_97 ?_
        refine aw_iconst (pc := 98) (v := (1 : Int32)) dX12_stage_98 (by decide) ?_
        refine aw_icmp_eq (pc := 99) 130 dX12_stage_99 (by decide) (fun z => ?_) (fun z => ?_)
        · replace h := (if_pos z).symm.trans h
          refine aw_ldc2 (pc := 130) dX12_stage_130 kl_X12_540 ?_
          exact ow_lret (pc := 133) h dX12_stage_133 rfl
        · replace h := (if_neg z).symm.trans h
          refine aw_aload_n (pc := 102) 1 dX12_stage_102 rfl ?_
          refine aw_iload (pc := 103) 0 dX12_stage_103 rfl ?_
          obtain ⟨r4, e, h⟩ := op_bd h
          refine ow_cVi (pc := 105) [.int ((x2 >>> (((4 : Int32) * x6) &&& 31)) &&& (15 : Int32))] ((c_X12_to _ _ _ _ e).mono (by decide)) (op_ck_sh e) rfl dX12_stage_105 cw_X12_383 rfl (Nat.le_of_ble_eq_true rfl) ?_
          refine aw_aload_n (pc := 108) 1 dX12_stage_108 rfl ?_
          obtain ⟨v5, e, h⟩ := op_bd h
          refine ow_gR (pc := 109) e dX12_stage_109 fd_X12_15 rfl ?_
          refine aw_iconst (pc := 112) (v := (4 : Int32)) dX12_stage_112 (by decide) ?_
          obtain ⟨v6, e, h⟩ := op_bd h
          refine ow_aI (pc := 113) e dX12_stage_113 ?_
          refine aw_icmp_eq (pc := 114) 134 dX12_stage_114 (by decide) (fun z => ?_) (fun z => ?_)
          · replace h := (if_pos z).symm.trans h
            refine aw_sub [1, 2, 3, 4, 5, 6, 0] rfl ?_
            exact c_X12_stage_134 K55 hK55 _ _ _ _ _ _ _ _ _ h
          · replace h := (if_neg z).symm.trans h
            refine aw_iload_n (pc := 117) 4 dX12_stage_117 rfl ?_
            refine aw_aload_n (pc := 118) 1 dX12_stage_118 rfl ?_
            refine aw_iload (pc := 119) 0 dX12_stage_119 rfl ?_
            obtain ⟨r7, e, h⟩ := op_bd h
            refine ow_cVi (pc := 121) [.int ((x2 >>> (((4 : Int32) * x6) &&& 31)) &&& (15 : Int32))] ((c_X12_to _ _ _ _ e).mono (by decide)) (op_ck_sh e) rfl dX12_stage_121 cw_X12_383 rfl (Nat.le_of_ble_eq_true rfl) ?_
            refine aw_ishr (pc := 124) dX12_stage_124 ?_
            refine aw_iconst (pc := 125) (v := (1 : Int32)) dX12_stage_125 (by decide) ?_
            refine aw_iand (pc := 126) dX12_stage_126 ?_
            refine aw_if_ne (pc := 127) 134 dX12_stage_127 (by decide) (fun z => ?_) (fun z => ?_)
            · replace h := (if_neg z).symm.trans h
              refine aw_sub [1, 2, 3, 4, 5, 6, 0] rfl ?_
              exact c_X12_stage_134 K55 hK55 _ _ _ _ _ _ _ _ _ h
            · replace h := (if_pos z).symm.trans h
              refine aw_ldc2 (pc := 130) dX12_stage_130 kl_X12_540 ?_
              exact ow_lret (pc := 133) h dX12_stage_133 rfl
theorem c_X12_stage_55 {G : ah_G}   : ∀ (n : Nat) (x0 : Nat) (x1 : Int32) (x2 : Int32) (x3 : Int32) (x4 : Int64) (x6 : Int32) (σ : ah_H) (r : Int64 × ah_H), f_X12_stage_55   n x0 x1 x2 x3 x4 x6 σ = some r → AW G m_X12_stage 4 0 0 55 [(0, .ref x0), (1, .int x1), (2, .int x2), (3, .int x3), (4, .long x4), (6, .int x6)] [] σ (ah_N G (ah_rl r)) := by
  intro n
  induction n with
  | zero => intro x0 x1 x2 x3 x4 x6 σ r h; cases h
  | succ n ih => intro x0 x1 x2 x3 x4 x6 σ r h; exact c_X12_stage_55_b   _ ih x0 x1 x2 x3 x4 x6 σ r h
set_option maxRecDepth 100000 in
set_option maxHeartbeats 4000000 in
theorem c_X12_stage_0 {G : ah_G}   : ∀ (x0 : Nat) (x1 : Int32) (x2 : Int32) (σ : ah_H) (r : Int64 × ah_H), f_X12_stage_0   x0 x1 x2 σ = some r → AW G m_X12_stage 4 0 0 0 [(0, .ref x0), (1, .int x1), (2, .int x2)] [] σ (ah_N G (ah_rl r)) := by
  intro x0 x1 x2 σ r h
  unfold f_X12_stage_0 at h
  refine aw_aload_n (pc := 0) 0 dX12_stage_0 rfl ?_
  refine aw_iconst (pc := 1) (v := (0 : Int32)) dX12_stage_1 (by decide) ?_
  obtain ⟨σ1, e, h⟩ := op_bd h
  refine ow_pI (pc := 2) e dX12_stage_2 fd_X12_153 ?_
  refine aw_aload_n (pc := 5) 0 dX12_stage_5 rfl ?_
  refine aw_iconst (pc := 6) (v := (0 : Int32)) dX12_stage_6 (by decide) ?_
  obtain ⟨σ2, e, h⟩ := op_bd h
  refine ow_pI (pc := 7) e dX12_stage_7 fd_X12_371 ?_
  refine aw_aload_n (pc := 10) 0 dX12_stage_10 rfl ?_
  obtain ⟨r3, e, h⟩ := op_bd h
  refine ow_cVi (pc := 11) [] ((c_X12_isJoined _ _ _ e).mono (by decide)) (op_ck_sh e) rfl dX12_stage_11 cw_X12_482 rfl (Nat.le_of_ble_eq_true rfl) ?_
  refine aw_if_eq (pc := 14) 27 dX12_stage_14 (by decide) (fun z => ?_) (fun z => ?_)
  · replace h := (if_pos z).symm.trans h
    refine aw_ldc2 (pc := 27) dX12_stage_27 kl_X12_432 ?_
    exact ow_lret (pc := 30) h dX12_stage_30 rfl
  · replace h := (if_neg z).symm.trans h
    refine aw_iload_n (pc := 17) 1 dX12_stage_17 rfl ?_
    refine aw_if_lt (pc := 18) 27 dX12_stage_18 (by decide) (fun z => ?_) (fun z => ?_)
    · replace h := (if_pos z).symm.trans h
      refine aw_ldc2 (pc := 27) dX12_stage_27 kl_X12_432 ?_
      exact ow_lret (pc := 30) h dX12_stage_30 rfl
    · replace h := (if_neg z).symm.trans h
      refine aw_iload_n (pc := 21) 1 dX12_stage_21 rfl ?_
      refine aw_bipush (pc := 22) (v := (6 : Int32)) dX12_stage_22 (by decide) ?_
      refine aw_icmp_le (pc := 24) 31 dX12_stage_24 (by decide) (fun z => ?_) (fun z => ?_)
      · replace h := (if_pos z).symm.trans h
        refine aw_iload_n (pc := 31) 1 dX12_stage_31 rfl ?_
        refine aw_aload_n (pc := 32) 0 dX12_stage_32 rfl ?_
        obtain ⟨v4, e, h⟩ := op_bd h
        refine ow_gR (pc := 33) e dX12_stage_33 fd_X12_15 rfl ?_
        refine aw_iconst (pc := 36) (v := (0 : Int32)) dX12_stage_36 (by decide) ?_
        obtain ⟨v5, e, h⟩ := op_bd h
        refine ow_aI (pc := 37) e dX12_stage_37 ?_
        refine aw_iconst (pc := 38) (v := (1 : Int32)) dX12_stage_38 (by decide) ?_
        refine aw_isub (pc := 39) dX12_stage_39 ?_
        refine aw_icmp_eq (pc := 40) 47 dX12_stage_40 (by decide) (fun z => ?_) (fun z => ?_)
        · replace h := (if_pos z).symm.trans h
          refine aw_iconst (pc := 47) (v := (0 : Int32)) dX12_stage_47 (by decide) ?_
          refine aw_istore_n (pc := 48) [(3, .int (0 : Int32)), (0, .ref x0), (1, .int x1), (2, .int x2)] dX12_stage_48 rfl (by decide) rfl ?_
          refine aw_lconst (pc := 49) (v := (0 : Int64)) dX12_stage_49 (by decide) ?_
          refine aw_lstore (pc := 50) [(4, .long (0 : Int64)), (3, .int (0 : Int32)), (0, .ref x0), (1, .int x1), (2, .int x2)] dX12_stage_50 (by decide) rfl ?_
          refine aw_iconst (pc := 52) (v := (0 : Int32)) dX12_stage_52 (by decide) ?_
          refine aw_istore (pc := 53) [(6, .int (0 : Int32)), (4, .long (0 : Int64)), (3, .int (0 : Int32)), (0, .ref x0), (1, .int x1), (2, .int x2)] dX12_stage_53 (by decide) rfl ?_
          refine aw_sub [3, 4, 5, 2, 1, 0] rfl ?_
          exact c_X12_stage_55  _ _ _ _ _ _ _ _ _ h
        · replace h := (if_neg z).symm.trans h
          refine aw_ldc2 (pc := 43) dX12_stage_43 kl_X12_540 ?_
          exact ow_lret (pc := 46) h dX12_stage_46 rfl
      · replace h := (if_neg z).symm.trans h
        refine aw_ldc2 (pc := 27) dX12_stage_27 kl_X12_432 ?_
        exact ow_lret (pc := 30) h dX12_stage_30 rfl
theorem c_X12_stage {G : ah_G}   (x0 : Nat) (x1 : Int32) (x2 : Int32) (σ : ah_H) (r : Int64 × ah_H) (h : f_X12_stage  x0 x1 x2 σ = some r) : AM G m_X12_stage 4 0 0 [.ref x0, .int x1, .int x2] σ (ah_rl r) := aw_enter (by decide) (Nat.le_of_ble_eq_true rfl) (c_X12_stage_0 _ _ _ _ _ (op_ck_k h))
