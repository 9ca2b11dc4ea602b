def f_X12_burst_0   (x0 : Nat) (x1 : Int32) (σ : ah_H) : Option (Int32 × ah_H) :=
  (op_pI 12 0 σ x0 (0 : Int32)).bind fun σ1 => (f_X12_isThere x0 x1 σ1).bind fun r2 => if r2.1 = 0 then (some ((-1 : Int32), r2.2)) else ((f_X12_run x0 (0 : Int32) r2.2).bind fun r3 => (f_X12_burstOf x0 x1 r3).bind fun r4 => some (r4.1, r4.2))
def f_X12_burst  (x0 : Nat) (x1 : Int32) (σ : ah_H) : Option (Int32 × ah_H) := op_ck 12 σ x0 (f_X12_burst_0 x0 x1 σ)
set_option maxRecDepth 100000 in
set_option maxHeartbeats 4000000 in
theorem c_X12_burst_0 {G : ah_G}   : ∀ (x0 : Nat) (x1 : Int32) (σ : ah_H) (r : Int32 × ah_H), f_X12_burst_0   x0 x1 σ = some r → AW G m_X12_burst 7 0 0 0 [(0, .ref x0), (1, .int x1)] [] σ (ah_N G (ah_ri r)) := by
  intro x0 x1 σ r h
  unfold f_X12_burst_0 at h
  refine aw_aload_n (pc := 0) 0 dX12_burst_0 rfl ?_
  refine aw_iconst (pc := 1) (v := (0 : Int32)) dX12_burst_1 (by decide) ?_
  obtain ⟨σ1, e, h⟩ := op_bd h
  refine ow_pI (pc := 2) e dX12_burst_2 fd_X12_153 ?_
  refine aw_aload_n (pc := 5) 0 dX12_burst_5 rfl ?_
  refine aw_iload_n (pc := 6) 1 dX12_burst_6 rfl ?_
  obtain ⟨r2, e, h⟩ := op_bd h
  refine ow_cVi (pc := 7) [.int x1] ((c_X12_isThere _ _ _ _ e).mono (by decide)) (op_ck_sh e) rfl dX12_burst_7 cw_X12_450 rfl (Nat.le_of_ble_eq_true rfl) ?_
  refine aw_if_ne (pc := 10) 15 dX12_burst_10 (by decide) (fun z => ?_) (fun z => ?_)
  · replace h := (if_neg z).symm.trans h
    refine aw_aload_n (pc := 15) 0 dX12_burst_15 rfl ?_
    refine aw_iconst (pc := 16) (v := (0 : Int32)) dX12_burst_16 (by decide) ?_
    obtain ⟨r3, e, h⟩ := op_bd h
    refine ow_cVv (pc := 17) [.int (0 : Int32)] ((c_X12_run _ _ _ _ e).mono (by decide)) (op_ck_sh e) rfl dX12_burst_17 cw_X12_457 rfl (Nat.le_of_ble_eq_true rfl) ?_
    refine aw_aload_n (pc := 20) 0 dX12_burst_20 rfl ?_
    refine aw_iload_n (pc := 21) 1 dX12_burst_21 rfl ?_
    obtain ⟨r4, e, h⟩ := op_bd h
    refine ow_cVi (pc := 22) [.int x1] ((c_X12_burstOf _ _ _ _ e).mono (by decide)) (op_ck_sh e) rfl dX12_burst_22 cw_X12_494 rfl (Nat.le_of_ble_eq_true rfl) ?_
    exact ow_iret (pc := 25) h dX12_burst_25 rfl
  · replace h := (if_pos z).symm.trans h
    refine aw_iconst (pc := 13) (v := (-1 : Int32)) dX12_burst_13 (by decide) ?_
    exact ow_iret (pc := 14) h dX12_burst_14 rfl
theorem c_X12_burst {G : ah_G}   (x0 : Nat) (x1 : Int32) (σ : ah_H) (r : Int32 × ah_H) (h : f_X12_burst  x0 x1 σ = some r) : AM G m_X12_burst 7 0 0 [.ref x0, .int x1] σ (ah_ri r) := aw_enter (by decide) (Nat.le_of_ble_eq_true rfl) (c_X12_burst_0 _ _ _ _ (op_ck_k h))
def f_X12_bursts_57  (K19 : Nat → Int32 → Int32 → ah_H → Option (Int32 × ah_H)) (x0 : Nat) (x1 : Int32) (x2 : Int32) (σ : ah_H) : Option (Int32 × ah_H) :=
  K19 x0 x1 (x2 + (1 : Int32)) σ
def f_X12_bursts_55  (K19 : Nat → Int32 → Int32 → ah_H → Option (Int32 × ah_H)) (x0 : Nat) (x2 : Int32) (σ : ah_H) : Option (Int32 × ah_H) :=
  f_X12_bursts_57 K19 x0 x2 x2 σ
def f_X12_bursts_19_b  (K19 : Nat → Int32 → Int32 → ah_H → Option (Int32 × ah_H)) (x0 : Nat) (x1 : Int32) (x2 : Int32) (σ : ah_H) : Option (Int32 × ah_H) :=
  (op_gR 12 3 σ x0).bind fun v1 => (op_aI σ v1 (0 : Int32)).bind fun v2 => if v2 ≤ x2 then (some (x1, σ)) else ((f_X12_isLaid x0 x2 σ).bind fun r3 => if r3.1 = 0 then (f_X12_bursts_57 K19 x0 x1 x2 r3.2) else (if x1 = (-1 : Int32) then (f_X12_bursts_55 K19 x0 x2 r3.2) else ((f_X12_burstOf x0 x2 r3.2).bind fun r4 => (f_X12_burstOf x0 x1 r4.2).bind fun r5 => if r5.1 ≤ r4.1 then (f_X12_bursts_57 K19 x0 x1 x2 r5.2) else (f_X12_bursts_55 K19 x0 x2 r5.2))))
def f_X12_bursts_19   : Nat → Nat → Int32 → Int32 → ah_H → Option (Int32 × ah_H)
  | 0, _, _, _, _ => none
  | n + 1, x0, x1, x2, σ => f_X12_bursts_19_b (f_X12_bursts_19 n) x0 x1 x2 σ
def f_X12_bursts_0   (x0 : Nat) (σ : ah_H) : Option (Int32 × ah_H) :=
  (op_pI 12 0 σ x0 (0 : Int32)).bind fun σ1 => (op_pI 12 42 σ1 x0 (0 : Int32)).bind fun σ2 => (f_X12_run x0 (0 : Int32) σ2).bind fun r3 => f_X12_bursts_19 5000 x0 (-1 : Int32) (0 : Int32) r3
def f_X12_bursts  (x0 : Nat) (σ : ah_H) : Option (Int32 × ah_H) := op_ck 12 σ x0 (f_X12_bursts_0 x0 σ)
set_option maxRecDepth 100000 in
set_option maxHeartbeats 4000000 in
theorem c_X12_bursts_57 {G : ah_G}  (K19 : Nat → Int32 → Int32 → ah_H → Option (Int32 × ah_H)) (hK19 : ∀ (x0 : Nat) (x1 : Int32) (x2 : Int32) (σ : ah_H) (r : Int32 × ah_H), K19 x0 x1 x2 σ = some r → AW G m_X12_bursts 7 0 0 19 [(0, .ref x0), (1, .int x1), (2, .int x2)] [] σ (ah_N G (ah_ri r))) : ∀ (x0 : Nat) (x1 : Int32) (x2 : Int32) (σ : ah_H) (r : Int32 × ah_H), f_X12_bursts_57  K19 x0 x1 x2 σ = some r → AW G m_X12_bursts 7 0 0 57 [(0, .ref x0), (1, .int x1), (2, .int x2)] [] σ (ah_N G (ah_ri r)) := by
  intro x0 x1 x2 σ r h
  unfold f_X12_bursts_57 at h
  refine aw_iinc (pc := 57) 2 [(2, .int (x2 + (1 : Int32))), (0, .ref x0), (1, .int x1)] (x2 + (1 : Int32)) dX12_bursts_57 rfl rfl (by decide) rfl ?_
  refine aw_goto (pc := 60) 19 dX12_bursts_60 (by decide) ?_
  refine aw_sub [1, 2, 0] rfl ?_
  exact hK19 _ _ _ _ _ h
set_option maxRecDepth 100000 in
set_option maxHeartbeats 4000000 in
theorem c_X12_bursts_55 {G : ah_G}  (K19 : Nat → Int32 → Int32 → ah_H → Option (Int32 × ah_H)) (hK19 : ∀ (x0 : Nat) (x1 : Int32) (x2 : Int32) (σ : ah_H) (r : Int32 × ah_H), K19 x0 x1 x2 σ = some r → AW G m_X12_bursts 7 0 0 19 [(0, .ref x0), (1, .int x1), (2, .int x2)] [] σ (ah_N G (ah_ri r))) : ∀ (x0 : Nat) (x2 : Int32) (σ : ah_H) (r : Int32 × ah_H), f_X12_bursts_55  K19 x0 x2 σ = some r → AW G m_X12_bursts 7 0 0 55 [(0, .ref x0), (2, .int x2)] [] σ (ah_N G (ah_ri r)) := by
  intro x0 x2 σ r h
  unfold f_X12_bursts_55 at h
  refine aw_iload_n (pc := 55) 1 dX12_bursts_55 rfl ?_
  refine aw_istore_n (pc := 56) [(1, .int x2), (0, .ref x0), (2, .int x2)] dX12_bursts_56 rfl (by decide) rfl ?_
  refine aw_sub [1, 0, 2] rfl ?_
  exact c_X12_bursts_57 K19 hK19 _ _ _ _ _ h
set_option maxRecDepth 100000 in
set_option maxHeartbeats 4000000 in
theorem c_X12_bursts_19_b {G : ah_G}  (K19 : Nat → Int32 → Int32 → ah_H → Option (Int32 × ah_H)) (hK19 : ∀ (x0 : Nat) (x1 : Int32) (x2 : Int32) (σ : ah_H) (r : Int32 × ah_H), K19 x0 x1 x2 σ = some r → AW G m_X12_bursts 7 0 0 19 [(0, .ref x0), (1, .int x1), (2, .int x2)] [] σ (ah_N G (ah_ri r))) : ∀ (x0 : Nat) (x1 : Int32) (x2 : Int32) (σ : ah_H) (r : Int32 × ah_H), f_X12_bursts_19_b  K19 x0 x1 x2 σ = some r → AW G m_X12_bursts 7 0 0 19 [(0, .ref x0), (1, .int x1), (2, .int x2)] [] σ (ah_N G (ah_ri r)) := by
  intro x0 x1 x2 σ r h
  unfold f_X12_bursts_19_b at h
  refine aw_iload_n (pc := 19) 2 dX12_bursts_19 rfl ?_
  refine aw_aload_n (pc := 20) 0 dX12_bursts_20 rfl ?_
  obtain ⟨v1, e, h⟩ := op_bd h
  refine ow_gR (pc := 21) e dX12_bursts_21 fd_X12_15 rfl ?_
  refine aw_iconst (pc := 24) (v := (0 : Int32)) dX12_bursts_24 (by decide) ?_
  obtain ⟨v2, e, h⟩ := op_bd h
  refine ow_aI (pc := 25) e dX12_bursts_25 ?_
  refine aw_icmp_ge (pc := 26) 63 dX12_bursts_26 (by decide) (fun z => ?_) (fun z => ?_)
  · replace h := (if_pos z).symm.trans h
    refine aw_iload_n (pc := 63) 1 dX12_bursts_63 rfl ?_
    exact ow_iret (pc := 64) h dX12_bursts_64 rfl
  · replace h := (if_neg z).symm.trans h
    refine aw_aload_n (pc := 29) 0 dX12_bursts_29 rfl ?_
    refine aw_iload_n (pc := 30) 2 dX12_bursts_30 rfl ?_
    obtain ⟨r3, e, h⟩ := op_bd h
    refine ow_cVi (pc := 31) [.int x2] ((c_X12_isLaid _ _ _ _ e).mono (by decide)) (op_ck_sh e) rfl dX12_bursts_31 cw_X12_380 rfl (Nat.le_of_ble_eq_true rfl) ?_
    refine aw_if_eq (pc := 34) 57 dX12_bursts_34 (by decide) (fun z => ?_) (fun z => ?_)
    · replace h := (if_pos z).symm.trans h
      exact c_X12_bursts_57 K19 hK19 _ _ _ _ _ h
    · replace h := (if_neg z).symm.trans h
      refine aw_iload_n (pc := 37) 1 dX12_bursts_37 rfl ?_
      refine aw_iconst (pc := 38) (v := (-1 : Int32)) dX12_bursts_38 (by decide) ?_
      refine aw_icmp_eq (pc := 39) 55 dX12_bursts_39 (by decide) (fun z => ?_) (fun z => ?_)
      · replace h := (if_pos z).symm.trans h
        refine aw_sub [0, 2] rfl ?_
        exact c_X12_bursts_55 K19 hK19 _ _ _ _ h
      · replace h := (if_neg z).symm.trans h
        refine aw_aload_n (pc := 42) 0 dX12_bursts_42 rfl ?_
        refine aw_iload_n (pc := 43) 2 dX12_bursts_43 rfl ?_
        obtain ⟨r4, e, h⟩ := op_bd h
        refine ow_cVi (pc := 44) [.int x2] ((c_X12_burstOf _ _ _ _ e).mono (by decide)) (op_ck_sh e) rfl dX12_bursts_44 cw_X12_494 rfl (Nat.le_of_ble_eq_true rfl) ?_
        refine aw_aload_n (pc := 47) 0 dX12_bursts_47 rfl ?_
        refine aw_iload_n (pc := 48) 1 dX12_bursts_48 rfl ?_
        obtain ⟨r5, e, h⟩ := op_bd h
        refine ow_cVi (pc := 49) [.int x1] ((c_X12_burstOf _ _ _ _ e).mono (by decide)) (op_ck_sh e) rfl dX12_bursts_49 cw_X12_494 rfl (Nat.le_of_ble_eq_true rfl) ?_
        refine aw_icmp_ge (pc := 52) 57 dX12_bursts_52 (by decide) (fun z => ?_) (fun z => ?_)
        · replace h := (if_pos z).symm.trans h
          exact c_X12_bursts_57 K19 hK19 _ _ _ _ _ h
        · replace h := (if_neg z).symm.trans h
          refine aw_sub [0, 2] rfl ?_
          exact c_X12_bursts_55 K19 hK19 _ _ _ _ h
theorem c_X12_bursts_19 {G : ah_G}   : ∀ (n : Nat) (x0 : Nat) (x1 : Int32) (x2 : Int32) (σ : ah_H) (r : Int32 × ah_H), f_X12_bursts_19   n x0 x1 x2 σ = some r → AW G m_X12_bursts 7 0 0 19 [(0, .ref x0), (1, .int x1), (2, .int x2)] [] σ (ah_N G (ah_ri r)) := by
  intro n
  induction n with
  | zero => intro x0 x1 x2 σ r h; cases h
  | succ n ih => intro x0 x1 x2 σ r h; exact c_X12_bursts_19_b   _ ih x0 x1 x2 σ r h
set_option maxRecDepth 100000 in
set_option maxHeartbeats 4000000 in
theorem c_X12_bursts_0 {G : ah_G}   : ∀ (x0 : Nat) (σ : ah_H) (r : Int32 × ah_H), f_X12_bursts_0   x0 σ = some r → AW G m_X12_bursts 7 0 0 0 [(0, .ref x0)] [] σ (ah_N G (ah_ri r)) := by
  intro x0 σ r h
  unfold f_X12_bursts_0 at h
  refine aw_aload_n (pc := 0) 0 dX12_bursts_0 rfl ?_
  refine aw_iconst (pc := 1) (v := (0 : Int32)) dX12_bursts_1 (by decide) ?_
  obtain ⟨σ1, e, h⟩ := op_bd h
  refine ow_pI (pc := 2) e dX12_bursts_2 fd_X12_153 ?_
  refine aw_aload_n (pc := 5) 0 dX12_bursts_5 rfl ?_
  refine aw_iconst (pc := 6) (v := (0 : Int32)) dX12_bursts_6 (by decide) ?_
  obtain ⟨σ2, e, h⟩ := op_bd h
  refine ow_pI (pc := 7) e dX12_bursts_7 fd_X12_371 ?_
  refine aw_aload_n (pc := 10) 0 dX12_bursts_10 rfl ?_
  refine aw_iconst (pc := 11) (v := (0 : Int32)) dX12_bursts_11 (by decide) ?_
  obtain ⟨r3, e, h⟩ := op_bd h
  refine ow_cVv (pc := 12) [.int (0 : Int32)] ((c_X12_run _ _ _ _ e).mono (by decide)) (op_ck_sh e) rfl dX12_bursts_12 cw_X12_457 rfl (Nat.le_of_ble_eq_true rfl) ?_
  refine aw_iconst (pc := 15) (v := (-1 : Int32)) dX12_bursts_15 (by decide) ?_
  refine aw_istore_n (pc := 16) [(1, .int (-1 : Int32)), (0, .ref x0)] dX12_bursts_16 rfl (by decide) rfl ?_
  refine aw_iconst (pc := 17) (v := (0 : Int32)) dX12_bursts_17 (by decide) ?_
  refine aw_istore_n (pc := 18) [(2, .int (0 : Int32)), (1, .int (-1 : Int32)), (0, .ref x0)] dX12_bursts_18 rfl (by decide) rfl ?_
  refine aw_sub [2, 1, 0] rfl ?_
  exact c_X12_bursts_19  _ _ _ _ _ _ h
theorem c_X12_bursts {G : ah_G}   (x0 : Nat) (σ : ah_H) (r : Int32 × ah_H) (h : f_X12_bursts  x0 σ = some r) : AM G m_X12_bursts 7 0 0 [.ref x0] σ (ah_ri r) := aw_enter (by decide) (Nat.le_of_ble_eq_true rfl) (c_X12_bursts_0 _ _ _ (op_ck_k h))
def f_X12_bitsOf_4_b  (K4 : Int32 → Int32 → Int32 → ah_H → Option (Int32 × ah_H)) (x0 : Int32) (x1 : Int32) (x2 : Int32) (σ : ah_H) : Option (Int32 × ah_H) :=
  if (31 : Int32) ≤ x2 then (some (x1, σ)) else (K4 x0 (x1 + ((x0 >>> (x2 &&& 31)) &&& (1 : Int32))) (x2 + (1 : Int32)) σ)
def f_X12_bitsOf_4   : Nat → Int32 → Int32 → Int32 → ah_H → Option (Int32 × ah_H)
  | 0, _, _, _, _ => none
  | n + 1, x0, x1, x2, σ => f_X12_bitsOf_4_b (f_X12_bitsOf_4 n) x0 x1 x2 σ
def f_X12_bitsOf_0   (x0 : Int32) (σ : ah_H) : Option (Int32 × ah_H) :=
  f_X12_bitsOf_4 5000 x0 (0 : Int32) (0 : Int32) σ
def f_X12_bitsOf  (x0 : Int32) (σ : ah_H) : Option (Int32 × ah_H) := f_X12_bitsOf_0 x0 σ
set_option maxRecDepth 100000 in
set_option maxHeartbeats 4000000 in
theorem c_X12_bitsOf_4_b {G : ah_G}  (K4 : Int32 → Int32 → Int32 → ah_H → Option (Int32 × ah_H)) (hK4 : ∀ (x0 : Int32) (x1 : Int32) (x2 : Int32) (σ : ah_H) (r : Int32 × ah_H), K4 x0 x1 x2 σ = some r → AW G m_X12_bitsOf 0 0 0 4 [(0, .int x0), (1, .int x1), (2, .int x2)] [] σ (ah_N G (ah_ri r))) : ∀ (x0 : Int32) (x1 : Int32) (x2 : Int32) (σ : ah_H) (r : Int32 × ah_H), f_X12_bitsOf_4_b  K4 x0 x1 x2 σ = some r → AW G m_X12_bitsOf 0 0 0 4 [(0, .int x0), (1, .int x1), (2, .int x2)] [] σ (ah_N G (ah_ri r)) := by
  intro x0 x1 x2 σ r h
  unfold f_X12_bitsOf_4_b at h
  refine aw_iload_n (pc := 4) 2 dX12_bitsOf_4 rfl ?_
  refine aw_bipush (pc := 5) (v := (31 : Int32)) dX12_bitsOf_5 (by decide) ?_
  refine aw_icmp_ge (pc := 7) 24 dX12_bitsOf_7 (by decide) (fun z => ?_) (fun z => ?_)
  · replace h := (if_pos z).symm.trans h
    refine aw_iload_n (pc := 24) 1 dX12_bitsOf_24 rfl ?_
    exact ow_iret (pc := 25) h dX12_bitsOf_25 rfl
  · replace h := (if_neg z).symm.trans h
    refine aw_iload_n (pc := 10) 1 dX12_bitsOf_10 rfl ?_
    refine aw_iload_n (pc := 11) 0 dX12_bitsOf_11 rfl ?_
    refine aw_iload_n (pc := 12) 2 dX12_bitsOf_12 rfl ?_
    refine aw_ishr (pc := 13) dX12_bitsOf_13 ?_
    refine aw_iconst (pc := 14) (v := (1 : Int32)) dX12_bitsOf_14 (by decide) ?_
    refine aw_iand (pc := 15) dX12_bitsOf_15 ?_
    refine aw_iadd (pc := 16) dX12_bitsOf_16 ?_
    refine aw_istore_n (pc := 17) [(1, .int (x1 + ((x0 >>> (x2 &&& 31)) &&& (1 : Int32)))), (0, .int x0), (2, .int x2)] dX12_bitsOf_17 rfl (by decide) rfl ?_
    refine aw_iinc (pc := 18) 2 [(2, .int (x2 + (1 : Int32))), (1, .int (x1 + ((x0 >>> (x2 &&& 31)) &&& (1 : Int32)))), (0, .int x0)] (x2 + (1 : Int32)) dX12_bitsOf_18 rfl rfl (by decide) rfl ?_
    refine aw_goto (pc := 21) 4 dX12_bitsOf_21 (by decide) ?_
    refine aw_sub [2, 1, 0] rfl ?_
    exact hK4 _ _ _ _ _ h
theorem c_X12_bitsOf_4 {G : ah_G}   : ∀ (n : Nat) (x0 : Int32) (x1 : Int32) (x2 : Int32) (σ : ah_H) (r : Int32 × ah_H), f_X12_bitsOf_4   n x0 x1 x2 σ = some r → AW G m_X12_bitsOf 0 0 0 4 [(0, .int x0), (1, .int x1), (2, .int x2)] [] σ (ah_N G (ah_ri r)) := by
  intro n
  induction n with
  | zero => intro x0 x1 x2 σ r h; cases h
  | succ n ih => intro x0 x1 x2 σ r h; exact c_X12_bitsOf_4_b   _ ih x0 x1 x2 σ r h
set_option maxRecDepth 100000 in
set_option maxHeartbeats 4000000 in
theorem c_X12_bitsOf_0 {G : ah_G}   : ∀ (x0 : Int32) (σ : ah_H) (r : Int32 × ah_H), f_X12_bitsOf_0   x0 σ = some r → AW G m_X12_bitsOf 0 0 0 0 [(0, .int x0)] [] σ (ah_N G (ah_ri r)) := by
  intro x0 σ r h
  unfold f_X12_bitsOf_0 at h
  refine aw_iconst (pc := 0) (v := (0 : Int32)) dX12_bitsOf_0 (by decide) ?_
  refine aw_istore_n (pc := 1) [(1, .int (0 : Int32)), (0, .int x0)] dX12_bitsOf_1 rfl (by decide) rfl ?_
  refine aw_iconst (pc := 2) (v := (0 : Int32)) dX12_bitsOf_2 (by decide) ?_
  refine aw_istore_n (pc := 3) [(2, .int (0 : Int32)), (1, .int (0 : Int32)), (0, .int x0)] dX12_bitsOf_3 rfl (by decide) rfl ?_
  refine aw_sub [2, 1, 0] rfl ?_
  exact c_X12_bitsOf_4  _ _ _ _ _ _ h
theorem c_X12_bitsOf {G : ah_G}   (x0 : Int32) (σ : ah_H) (r : Int32 × ah_H) (h : f_X12_bitsOf  x0 σ = some r) : AM G m_X12_bitsOf 0 0 0 [.int x0] σ (ah_ri r) := aw_enter (by decide) (Nat.le_of_ble_eq_true rfl) (c_X12_bitsOf_0 _ _ _ h)
def f_X12_joinsFrom_33  (K10 : Nat → Int32 → Int32 → Int32 → Int32 → ah_H → Option (Int32 × ah_H)) (x0 : Nat) (x1 : Int32) (x2 : Int32) (x3 : Int32) (x4 : Int32) (s0 : Nat) (s1 : Int32) (s2 : Int32) (σ : ah_H) : Option (Int32 × ah_H) :=
  (op_sI σ s0 s1 s2).bind fun σ1 => K10 x0 x1 x2 x3 (x4 + (1 : Int32)) σ1
def f_X12_joinsFrom_200  (K46 : Nat → Int32 → Int32 → Int32 → Int32 → ah_H → Option (Int32 × ah_H)) (K57 : Nat → Int32 → Int32 → Int32 → Int32 → Int32 → ah_H → Option (Int32 × ah_H)) (x0 : Nat) (x1 : Int32) (x3 : Int32) (x4 : Int32) (x5 : Int32) (x6 : Int32) (σ : ah_H) : Option (Int32 × ah_H) :=
  K57 x0 x1 x3 x4 x5 (x6 + (1 : Int32)) σ
def f_X12_joinsFrom_158  (K46 : Nat → Int32 → Int32 → Int32 → Int32 → ah_H → Option (Int32 × ah_H)) (K57 : Nat → Int32 → Int32 → Int32 → Int32 → Int32 → ah_H → Option (Int32 × ah_H)) (x0 : Nat) (x1 : Int32) (x3 : Int32) (x4 : Int32) (x6 : Int32) (s0 : Int32) (σ : ah_H) : Option (Int32 × ah_H) :=
  (op_gR 12 58 σ x0).bind fun v1 => (op_gR 12 58 σ x0).bind fun v2 => (f_X12_otherEnd x0 x6 s0 σ).bind fun r3 => (op_aI r3.2 v2 r3.1).bind fun v4 => (op_sI r3.2 v1 s0 (v4 + (1 : Int32))).bind fun σ5 => (op_gR 12 38 σ5 x0).bind fun v6 => (op_sI σ5 v6 ((7 : Int32) + s0) x6).bind fun σ7 => f_X12_joinsFrom_200 K46 K57 x0 x1 x3 (x4 + (1 : Int32)) (1 : Int32) x6 σ7
def f_X12_joinsFrom_119  (K46 : Nat → Int32 → Int32 → Int32 → Int32 → ah_H → Option (Int32 × ah_H)) (K57 : Nat → Int32 → Int32 → Int32 → Int32 → Int32 → ah_H → Option (Int32 × ah_H)) (x0 : Nat) (x1 : Int32) (x3 : Int32) (x4 : Int32) (x5 : Int32) (x6 : Int32) (s0 : Int32) (s1 : Int32) (σ : ah_H) : Option (Int32 × ah_H) :=
  if s0 = s1 then (f_X12_joinsFrom_200 K46 K57 x0 x1 x3 x4 x5 x6 σ) else ((op_gR 12 58 σ x0).bind fun v1 => (op_gR 12 8 σ x0).bind fun v2 => (op_aI σ v2 x6).bind fun v3 => (op_aI σ v1 v3).bind fun v4 => if v4 = (-1 : Int32) then ((op_gR 12 8 σ x0).bind fun v7 => (op_aI σ v7 x6).bind fun v8 => f_X12_joinsFrom_158 K46 K57 x0 x1 x3 x4 x6 v8 σ) else ((op_gR 12 9 σ x0).bind fun v5 => (op_aI σ v5 x6).bind fun v6 => f_X12_joinsFrom_158 K46 K57 x0 x1 x3 x4 x6 v6 σ))
def f_X12_joinsFrom_98  (K46 : Nat → Int32 → Int32 → Int32 → Int32 → ah_H → Option (Int32 × ah_H)) (K57 : Nat → Int32 → Int32 → Int32 → Int32 → Int32 → ah_H → Option (Int32 × ah_H)) (x0 : Nat) (x1 : Int32) (x3 : Int32) (x4 : Int32) (x5 : Int32) (x6 : Int32) (s0 : Int32) (σ : ah_H) : Option (Int32 × ah_H) :=
  (op_gR 12 58 σ x0).bind fun v1 => (op_gR 12 9 σ x0).bind fun v2 => (op_aI σ v2 x6).bind fun v3 => (op_aI σ v1 v3).bind fun v4 => if v4 = (-1 : Int32) then (f_X12_joinsFrom_119 K46 K57 x0 x1 x3 x4 x5 x6 s0 (1 : Int32) σ) else (f_X12_joinsFrom_119 K46 K57 x0 x1 x3 x4 x5 x6 s0 (0 : Int32) σ)
def f_X12_joinsFrom_206  (K46 : Nat → Int32 → Int32 → Int32 → Int32 → ah_H → Option (Int32 × ah_H)) (x0 : Nat) (x1 : Int32) (x3 : Int32) (x4 : Int32) (x5 : Int32) (σ : ah_H) : Option (Int32 × ah_H) :=
  K46 x0 x1 x3 x4 x5 σ
def f_X12_joinsFrom_57_b  (K46 : Nat → Int32 → Int32 → Int32 → Int32 → ah_H → Option (Int32 × ah_H)) (K57 : Nat → Int32 → Int32 → Int32 → Int32 → Int32 → ah_H → Option (Int32 × ah_H)) (x0 : Nat) (x1 : Int32) (x3 : Int32) (x4 : Int32) (x5 : Int32) (x6 : Int32) (σ : ah_H) : Option (Int32 × ah_H) :=
  (op_gR 12 3 σ x0).bind fun v1 => (op_aI σ v1 (1 : Int32)).bind fun v2 => if v2 ≤ x6 then (f_X12_joinsFrom_206 K46 x0 x1 x3 x4 x5 σ) else (if ((x1 >>> (x6 &&& 31)) &&& (1 : Int32)) = 0 then (f_X12_joinsFrom_200 K46 K57 x0 x1 x3 x4 x5 x6 σ) else ((op_gR 12 58 σ x0).bind fun v3 => (op_gR 12 8 σ x0).bind fun v4 => (op_aI σ v4 x6).bind fun v5 => (op_aI σ v3 v5).bind fun v6 => if v6 = (-1 : Int32) then (f_X12_joinsFrom_98 K46 K57 x0 x1 x3 x4 x5 x6 (1 : Int32) σ) else (f_X12_joinsFrom_98 K46 K57 x0 x1 x3 x4 x5 x6 (0 : Int32) σ)))
def f_X12_joinsFrom_57  (K46 : Nat → Int32 → Int32 → Int32 → Int32 → ah_H → Option (Int32 × ah_H)) : Nat → Nat → Int32 → Int32 → Int32 → Int32 → Int32 → ah_H → Option (Int32 × ah_H)
  | 0, _, _, _, _, _, _, _ => none
  | n + 1, x0, x1, x3, x4, x5, x6, σ => f_X12_joinsFrom_57_b K46 (f_X12_joinsFrom_57 K46 n) x0 x1 x3 x4 x5 x6 σ
def f_X12_joinsFrom_209   (x3 : Int32) (x4 : Int32) (σ : ah_H) : Option (Int32 × ah_H) :=
  if x4 = x3 then ((op_rz (1 : Int32)).map fun q => (q, σ)) else ((op_rz (0 : Int32)).map fun q => (q, σ))
def f_X12_joinsFrom_46_b  (K46 : Nat → Int32 → Int32 → Int32 → Int32 → ah_H → Option (Int32 × ah_H)) (x0 : Nat) (x1 : Int32) (x3 : Int32) (x4 : Int32) (x5 : Int32) (σ : ah_H) : Option (Int32 × ah_H) :=
  if x5 = 0 then (f_X12_joinsFrom_209 x3 x4 σ) else (f_X12_joinsFrom_57 K46 5000 x0 x1 x3 x4 (0 : Int32) (0 : Int32) σ)
def f_X12_joinsFrom_46   : Nat → Nat → Int32 → Int32 → Int32 → Int32 → ah_H → Option (Int32 × ah_H)
  | 0, _, _, _, _, _, _ => none
  | n + 1, x0, x1, x3, x4, x5, σ => f_X12_joinsFrom_46_b (f_X12_joinsFrom_46 n) x0 x1 x3 x4 x5 σ
def f_X12_joinsFrom_40   (x0 : Nat) (x1 : Int32) (x3 : Int32) (σ : ah_H) : Option (Int32 × ah_H) :=
  f_X12_joinsFrom_46 5000 x0 x1 x3 (1 : Int32) (1 : Int32) σ
def f_X12_joinsFrom_10_b  (K10 : Nat → Int32 → Int32 → Int32 → Int32 → ah_H → Option (Int32 × ah_H)) (x0 : Nat) (x1 : Int32) (x2 : Int32) (x3 : Int32) (x4 : Int32) (σ : ah_H) : Option (Int32 × ah_H) :=
  if x3 ≤ x4 then (f_X12_joinsFrom_40 x0 x1 x3 σ) else ((op_gR 12 58 σ x0).bind fun v1 => if x4 = x2 then (f_X12_joinsFrom_33 K10 x0 x1 x2 x3 x4 v1 x4 (0 : Int32) σ) else (f_X12_joinsFrom_33 K10 x0 x1 x2 x3 x4 v1 x4 (-1 : Int32) σ))
def f_X12_joinsFrom_10   : Nat → Nat → Int32 → Int32 → Int32 → Int32 → ah_H → Option (Int32 × ah_H)
  | 0, _, _, _, _, _, _ => none
  | n + 1, x0, x1, x2, x3, x4, σ => f_X12_joinsFrom_10_b (f_X12_joinsFrom_10 n) x0 x1 x2 x3 x4 σ
def f_X12_joinsFrom_0   (x0 : Nat) (x1 : Int32) (x2 : Int32) (σ : ah_H) : Option (Int32 × ah_H) :=
  (op_gR 12 3 σ x0).bind fun v1 => (op_aI σ v1 (0 : Int32)).bind fun v2 => f_X12_joinsFrom_10 5000 x0 x1 x2 v2 (0 : Int32) σ
def f_X12_joinsFrom  (x0 : Nat) (x1 : Int32) (x2 : Int32) (σ : ah_H) : Option (Int32 × ah_H) := op_ck 12 σ x0 (f_X12_joinsFrom_0 x0 x1 x2 σ)
set_option maxRecDepth 100000 in
set_option maxHeartbeats 4000000 in
theorem c_X12_joinsFrom_33 {G : ah_G}  (K10 : Nat → Int32 → Int32 → Int32 → Int32 → ah_H → Option (Int32 × ah_H)) (hK10 : ∀ (x0 : Nat) (x1 : Int32) (x2 : Int32) (x3 : Int32) (x4 : Int32) (σ : ah_H) (r : Int32 × ah_H), K10 x0 x1 x2 x3 x4 σ = some r → AW G m_X12_joinsFrom 1 0 0 10 [(0, .ref x0), (1, .int x1), (2, .int x2), (3, .int x3), (4, .int x4)] [] σ (ah_N G (ah_ri r))) : ∀ (x0 : Nat) (x1 : Int32) (x2 : Int32) (x3 : Int32) (x4 : Int32) (s0 : Nat) (s1 : Int32) (s2 : Int32) (σ : ah_H) (r : Int32 × ah_H), f_X12_joinsFrom_33  K10 x0 x1 x2 x3 x4 s0 s1 s2 σ = some r → AW G m_X12_joinsFrom 1 0 0 33 [(0, .ref x0), (1, .int x1), (2, .int x2), (3, .int x3), (4, .int x4)] [.int s2, .int s1, .ref s0] σ (ah_N G (ah_ri r)) := by
  intro x0 x1 x2 x3 x4 s0 s1 s2 σ r h
  unfold f_X12_joinsFrom_33 at h
  obtain ⟨σ1, e, h⟩ := op_bd h
  refine ow_sI (pc := 33) e dX12_joinsFrom_33 ?_
  refine aw_iinc (pc := 34) 4 [(4, .int (x4 + (1 : Int32))), (0, .ref x0), (1, .int x1), (2, .int x2), (3, .int x3)] (x4 + (1 : Int32)) dX12_joinsFrom_34 rfl rfl (by decide) rfl ?_
  refine aw_goto (pc := 37) 10 dX12_joinsFrom_37 (by decide) ?_
  refine aw_sub [1, 2, 3, 4, 0] rfl ?_
  exact hK10 _ _ _ _ _ _ _ h
set_option maxRecDepth 100000 in
set_option maxHeartbeats 4000000 in
theorem c_X12_joinsFrom_200 {G : ah_G}  (K46 : Nat → Int32 → Int32 → Int32 → Int32 → ah_H → Option (Int32 × ah_H)) (hK46 : ∀ (x0 : Nat) (x1 : Int32) (x3 : Int32) (x4 : Int32) (x5 : Int32) (σ : ah_H) (r : Int32 × ah_H), K46 x0 x1 x3 x4 x5 σ = some r → AW G m_X12_joinsFrom 1 0 0 46 [(0, .ref x0), (1, .int x1), (3, .int x3), (4, .int x4), (5, .int x5)] [] σ (ah_N G (ah_ri r))) (K57 : Nat → Int32 → Int32 → Int32 → Int32 → Int32 → ah_H → Option (Int32 × ah_H)) (hK57 : ∀ (x0 : Nat) (x1 : Int32) (x3 : Int32) (x4 : Int32) (x5 : Int32) (x6 : Int32) (σ : ah_H) (r : Int32 × ah_H), K57 x0 x1 x3 x4 x5 x6 σ = some r → AW G m_X12_joinsFrom 1 0 0 57 [(0, .ref x0), (1, .int x1), (3, .int x3), (4, .int x4), (5, .int x5), (6, .int x6)] [] σ (ah_N G (ah_ri r))) : ∀ (x0 : Nat) (x1 : Int32) (x3 : Int32) (x4 : Int32) (x5 : Int32) (x6 : Int32) (σ : ah_H) (r : Int32 × ah_H), f_X12_joinsFrom_200  K46 K57 x0 x1 x3 x4 x5 x6 σ = some r → AW G m_X12_joinsFrom 1 0 0 200 [(0, .ref x0), (1, .int x1), (3, .int x3), (4, .int x4), (5, .int x5), (6, .int x6)] [] σ (ah_N G (ah_ri r)) := by
  intro x0 x1 x3 x4 x5 x6 σ r h
  unfold f_X12_joinsFrom_200 at h
  refine aw_iinc (pc := 200) 5 [(6, .int (x6 + (1 : Int32))), (0, .ref x0), (1, .int x1), (3, .int x3), (4, .int x4), (5, .int x5)] (x6 + (1 : Int32)) dX12_joinsFrom_200 rfl rfl (by decide) rfl ?_
  refine aw_goto (pc := 203) 57 dX12_joinsFrom_203 (by decide) ?_
  refine aw_sub [1, 2, 3, 4, 5, 0] rfl ?_
  exact hK57 _ _ _ _ _ _ _ _ h
set_option maxRecDepth 100000 in
set_option maxHeartbeats 4000000 in
theorem c_X12_joinsFrom_158 {G : ah_G}  (K46 : Nat → Int32 → Int32 → Int32 → Int32 → ah_H → Option (Int32 × ah_H)) (hK46 : ∀ (x0 : Nat) (x1 : Int32) (x3 : Int32) (x4 : Int32) (x5 : Int32) (σ : ah_H) (r : Int32 × ah_H), K46 x0 x1 x3 x4 x5 σ = some r → AW G m_X12_joinsFrom 1 0 0 46 [(0, .ref x0), (1, .int x1), (3, .int x3), (4, .int x4), (5, .int x5)] [] σ (ah_N G (ah_ri r))) (K57 : Nat → Int32 → Int32 → Int32 → Int32 → Int32 → ah_H → Option (Int32 × ah_H)) (hK57 : ∀ (x0 : Nat) (x1 : Int32) (x3 : Int32) (x4 : Int32) (x5 : Int32) (x6 : Int32) (σ : ah_H) (r : Int32 × ah_H), K57 x0 x1 x3 x4 x5 x6 σ = some r → AW G m_X12_joinsFrom 1 0 0 57 [(0, .ref x0), (1, .int x1), (3, .int x3), (4, .int x4), (5, .int x5), (6, .int x6)] [] σ (ah_N G (ah_ri r))) : ∀ (x0 : Nat) (x1 : Int32) (x3 : Int32) (x4 : Int32) (x6 : Int32) (s0 : Int32) (σ : ah_H) (r : Int32 × ah_H), f_X12_joinsFrom_158  K46 K57 x0 x1 x3 x4 x6 s0 σ = some r → AW G m_X12_joinsFrom 1 0 0 158 [(0, .ref x0), (1, .int x1), (3, .int x3), (4, .int x4), (6, .int x6)] [.int s0] σ (ah_N G (ah_ri r)) := by
  intro x0 x1 x3 x4 x6 s0 σ r h
  unfold f_X12_joinsFrom_158 at h
  refine aw_istore (pc := 158) [(7, .int s0), (0, .ref x0), (1, .int x1), (3, .int x3), (4, .int x4), (6, .int x6)] dX12_joinsFrom_158 (by decide) rfl ?_
  refine aw_aload_n (pc := 160) 1 dX12_joinsFrom_160 rfl ?_
  obtain ⟨v1, e, h⟩ := op_bd h
  refine ow_gR (pc := 161) e dX12_joinsFrom_161 fd_X12_129 rfl ?_
  refine aw_iload (pc := 164) 0 dX12_joinsFrom_164 rfl ?_
  refine aw_aload_n (pc := 166) 1 dX12_joinsFrom_166 rfl ?_
  obtain ⟨v2, e, h⟩ := op_bd h
  refine ow_gR (pc := 167) e dX12_joinsFrom_167 fd_X12_129 rfl ?_
  refine aw_aload_n (pc := 170) 1 dX12_joinsFrom_170 rfl ?_
  refine aw_iload (pc := 171) 5 dX12_joinsFrom_171 rfl ?_
  refine aw_iload (pc := 173) 0 dX12_joinsFrom_173 rfl ?_
  obtain ⟨r3, e, h⟩ := op_bd h
  refine ow_cVi (pc := 175) [.int x6, .int s0] ((c_X12_otherEnd _ _ _ _ _ e).mono (by decide)) (op_ck_sh e) rfl dX12_joinsFrom_175 cw_X12_377 rfl (Nat.le_of_ble_eq_true rfl) ?_
  obtain ⟨v4, e, h⟩ := op_bd h
  refine ow_aI (pc := 178) e dX12_joinsFrom_178 ?_
  refine aw_iconst (pc := 179) (v := (1 : Int32)) dX12_joinsFrom_179 (by decide) ?_
  refine aw_iadd (pc := 180) dX12_joinsFrom_180 ?_
  obtain ⟨σ5, e, h⟩ := op_bd h
  refine ow_sI (pc := 181) e dX12_joinsFrom_181 ?_
  refine aw_aload_n (pc := 182) 1 dX12_joinsFrom_182 rfl ?_
  obtain ⟨v6, e, h⟩ := op_bd h
  refine ow_gR (pc := 183) e dX12_joinsFrom_183 fd_X12_83 rfl ?_
  refine aw_bipush (pc := 186) (v := (7 : Int32)) dX12_joinsFrom_186 (by decide) ?_
  refine aw_iload (pc := 188) 0 dX12_joinsFrom_188 rfl ?_
  refine aw_iadd (pc := 190) dX12_joinsFrom_190 ?_
  refine aw_iload (pc := 191) 5 dX12_joinsFrom_191 rfl ?_
  obtain ⟨σ7, e, h⟩ := op_bd h
  refine ow_sI (pc := 193) e dX12_joinsFrom_193 ?_
  refine aw_iinc (pc := 194) 4 [(4, .int (x4 + (1 : Int32))), (7, .int s0), (0, .ref x0), (1, .int x1), (3, .int x3), (6, .int x6)] (x4 + (1 : Int32)) dX12_joinsFrom_194 rfl rfl (by decide) rfl ?_
  refine aw_iconst (pc := 197) (v := (1 : Int32)) dX12_joinsFrom_197 (by decide) ?_
  refine aw_istore (pc := 198) [(5, .int (1 : Int32)), (4, .int (x4 + (1 : Int32))), (7, .int s0), (0, .ref x0), (1, .int x1), (3, .int x3), (6, .int x6)] dX12_joinsFrom_198 (by decide) rfl ?_
  refine aw_sub [3, 4, 5, 1, 0, 6] rfl ?_
  exact c_X12_joinsFrom_200 K46 hK46 K57 hK57 _ _ _ _ _ _ _ _ h
set_option maxRecDepth 100000 in
set_option maxHeartbeats 4000000 in
theorem c_X12_joinsFrom_119 {G : ah_G}  (K46 : Nat → Int32 → Int32 → Int32 → Int32 → ah_H → Option (Int32 × ah_H)) (hK46 : ∀ (x0 : Nat) (x1 : Int32) (x3 : Int32) (x4 : Int32) (x5 : Int32) (σ : ah_H) (r : Int32 × ah_H), K46 x0 x1 x3 x4 x5 σ = some r → AW G m_X12_joinsFrom 1 0 0 46 [(0, .ref x0), (1, .int x1), (3, .int x3), (4, .int x4), (5, .int x5)] [] σ (ah_N G (ah_ri r))) (K57 : Nat → Int32 → Int32 → Int32 → Int32 → Int32 → ah_H → Option (Int32 × ah_H)) (hK57 : ∀ (x0 : Nat) (x1 : Int32) (x3 : Int32) (x4 : Int32) (x5 : Int32) (x6 : Int32) (σ : ah_H) (r : Int32 × ah_H), K57 x0 x1 x3 x4 x5 x6 σ = some r → AW G m_X12_joinsFrom 1 0 0 57 [(0, .ref x0), (1, .int x1), (3, .int x3), (4, .int x4), (5, .int x5), (6, .int x6)] [] σ (ah_N G (ah_ri r))) : ∀ (x0 : Nat) (x1 : Int32) (x3 : Int32) (x4 : Int32) (x5 : Int32) (x6 : Int32) (s0 : Int32) (s1 : Int32) (σ : ah_H) (r : Int32 × ah_H), f_X12_joinsFrom_119  K46 K57 x0 x1 x3 x4 x5 x6 s0 s1 σ = some r → AW G m_X12_joinsFrom 1 0 0 119 [(0, .ref x0), (1, .int x1), (3, .int x3), (4, .int x4), (5, .int x5), (6, .int x6)] [.int s1, .int s0] σ (ah_N G (ah_ri r)) := by
  intro x0 x1 x3 x4 x5 x6 s0 s1 σ r h
  unfold f_X12_joinsFrom_119 at h
  refine aw_icmp_ne (pc := 119) 125 dX12_joinsFrom_119 (by decide) (fun z => ?_) (fun z => ?_)
  · replace h := (if_neg z).symm.trans h
    refine aw_aload_n (pc := 125) 0 dX12_joinsFrom_125 rfl ?_
    obtain ⟨v1, e, h⟩ := op_bd h
    refine ow_gR (pc := 126) e dX12_joinsFrom_126 fd_X12_129 rfl ?_
    refine aw_aload_n (pc := 129) 0 dX12_joinsFrom_129 rfl ?_
    obtain ⟨v2, e, h⟩ := op_bd h
    refine ow_gR (pc := 130) e dX12_joinsFrom_130 fd_X12_30 rfl ?_
    refine aw_iload (pc := 133) 5 dX12_joinsFrom_133 rfl ?_
    obtain ⟨v3, e, h⟩ := op_bd h
    refine ow_aI (pc := 135) e dX12_joinsFrom_135 ?_
    obtain ⟨v4, e, h⟩ := op_bd h
    refine ow_aI (pc := 136) e dX12_joinsFrom_136 ?_
    refine aw_iconst (pc := 137) (v := (-1 : Int32)) dX12_joinsFrom_137 (by decide) ?_
    refine aw_icmp_ne (pc := 138) 151 dX12_joinsFrom_138 (by decide) (fun z => ?_) (fun z => ?_)
    · replace h := (if_neg z).symm.trans h
      refine aw_aload_n (pc := 151) 0 dX12_joinsFrom_151 rfl ?_
      obtain ⟨v5, e, h⟩ := op_bd h
      refine ow_gR (pc := 152) e dX12_joinsFrom_152 fd_X12_33 rfl ?_
      refine aw_iload (pc := 155) 5 dX12_joinsFrom_155 rfl ?_
      obtain ⟨v6, e, h⟩ := op_bd h
      refine ow_aI (pc := 157) e dX12_joinsFrom_157 ?_
      refine aw_sub [0, 1, 2, 3, 5] rfl ?_
      exact c_X12_joinsFrom_158 K46 hK46 K57 hK57 _ _ _ _ _ _ _ _ h
    · replace h := (if_pos z).symm.trans h
      refine aw_aload_n (pc := 141) 0 dX12_joinsFrom_141 rfl ?_
      obtain ⟨v7, e, h⟩ := op_bd h
      refine ow_gR (pc := 142) e dX12_joinsFrom_142 fd_X12_30 rfl ?_
      refine aw_iload (pc := 145) 5 dX12_joinsFrom_145 rfl ?_
      obtain ⟨v8, e, h⟩ := op_bd h
      refine ow_aI (pc := 147) e dX12_joinsFrom_147 ?_
      refine aw_goto (pc := 148) 158 dX12_joinsFrom_148 (by decide) ?_
      refine aw_sub [0, 1, 2, 3, 5] rfl ?_
      exact c_X12_joinsFrom_158 K46 hK46 K57 hK57 _ _ _ _ _ _ _ _ h
  · replace h := (if_pos z).symm.trans h
    refine aw_goto (pc := 122) 200 dX12_joinsFrom_122 (by decide) ?_
    exact c_X12_joinsFrom_200 K46 hK46 K57 hK57 _ _ _ _ _ _ _ _ h
set_option maxRecDepth 100000 in
set_option maxHeartbeats 4000000 in
theorem c_X12_joinsFrom_98 {G : ah_G}  (K46 : Nat → Int32 → Int32 → Int32 → Int32 → ah_H → Option (Int32 × ah_H)) (hK46 : ∀ (x0 : Nat) (x1 : Int32) (x3 : Int32) (x4 : Int32) (x5 : Int32) (σ : ah_H) (r : Int32 × ah_H), K46 x0 x1 x3 x4 x5 σ = some r → AW G m_X12_joinsFrom 1 0 0 46 [(0, .ref x0), (1, .int x1), (3, .int x3), (4, .int x4), (5, .int x5)] [] σ (ah_N G (ah_ri r))) (K57 : Nat → Int32 → Int32 → Int32 → Int32 → Int32 → ah_H → Option (Int32 × ah_H)) (hK57 : ∀ (x0 : Nat) (x1 : Int32) (x3 : Int32) (x4 : Int32) (x5 : Int32) (x6 : Int32) (σ : ah_H) (r : Int32 × ah_H), K57 x0 x1 x3 x4 x5 x6 σ = some r → AW G m_X12_joinsFrom 1 0 0 57 [(0, .ref x0), (1, .int x1), (3, .int x3), (4, .int x4), (5, .int x5), (6, .int x6)] [] σ (ah_N G (ah_ri r))) : ∀ (x0 : Nat) (x1 : Int32) (x3 : Int32) (x4 : Int32) (x5 : Int32) (x6 : Int32) (s0 : Int32) (σ : ah_H) (r : Int32 × ah_H), f_X12_joinsFrom_98  K46 K57 x0 x1 x3 x4 x5 x6 s0 σ = some r → AW G m_X12_joinsFrom 1 0 0 98 [(0, .ref x0), (1, .int x1), (3, .int x3), (4, .int x4), (5, .int x5), (6, .int x6)] [.int s0] σ (ah_N G (ah_ri r)) := by
  intro x0 x1 x3 x4 x5 x6 s0 σ r h
  unfold f_X12_joinsFrom_98 at h
  refine aw_aload_n (pc := 98) 0 dX12_joinsFrom_98 rfl ?_
  obtain ⟨v1, e, h⟩ := op_bd h
  refine ow_gR (pc := 99) e dX12_joinsFrom_99 fd_X12_129 rfl ?_
  refine aw_aload_n (pc := 102) 0 dX12_joinsFrom_102 rfl ?_
  obtain ⟨v2, e, h⟩ := op_bd h
  refine ow_gR (pc := 103) e dX12_joinsFrom_103 fd_X12_33 rfl ?_
  refine aw_iload (pc := 106) 5 dX12_joinsFrom_106 rfl ?_
  obtain ⟨v3, e, h⟩ := op_bd h
  refine ow_aI (pc := 108) e dX12_joinsFrom_108 ?_
  obtain ⟨v4, e, h⟩ := op_bd h
  refine ow_aI (pc := 109) e dX12_joinsFrom_109 ?_
  refine aw_iconst (pc := 110) (v := (-1 : Int32)) dX12_joinsFrom_110 (by decide) ?_
  refine aw_icmp_ne (pc := 111) 118 dX12_joinsFrom_111 (by decide) (fun z => ?_) (fun z => ?_)
  · replace h := (if_neg z).symm.trans h
    refine aw_iconst (pc := 118) (v := (0 : Int32)) dX12_joinsFrom_118 (by decide) ?_
    exact c_X12_joinsFrom_119 K46 hK46 K57 hK57 _ _ _ _ _ _ _ _ _ _ h
  · replace h := (if_pos z).symm.trans h
    refine aw_iconst (pc := 114) (v := (1 : Int32)) dX12_joinsFrom_114 (by decide) ?_
    refine aw_goto (pc := 115) 119 dX12_joinsFrom_115 (by decide) ?_
    exact c_X12_joinsFrom_119 K46 hK46 K57 hK57 _ _ _ _ _ _ _ _ _ _ h
set_option maxRecDepth 100000 in
set_option maxHeartbeats 4000000 in
theorem c_X12_joinsFrom_206 {G : ah_G}  (K46 : Nat → Int32 → Int32 → Int32 → Int32 → ah_H → Option (Int32 × ah_H)) (hK46 : ∀ (x0 : Nat) (x1 : Int32) (x3 : Int32) (x4 : Int32) (x5 : Int32) (σ : ah_H) (r : Int32 × ah_H), K46 x0 x1 x3 x4 x5 σ = some r → AW G m_X12_joinsFrom 1 0 0 46 [(0, .ref x0), (1, .int x1), (3, .int x3), (4, .int x4), (5, .int x5)] [] σ (ah_N G (ah_ri r))) : ∀ (x0 : Nat) (x1 : Int32) (x3 : Int32) (x4 : Int32) (x5 : Int32) (σ : ah_H) (r : Int32 × ah_H), f_X12_joinsFrom_206  K46 x0 x1 x3 x4 x5 σ = some r → AW G m_X12_joinsFrom 1 0 0 206 [(0, .ref x0), (1, .int x1), (3, .int x3), (4, .int x4), (5, .int x5)] [] σ (ah_N G (ah_ri r)) := by
  intro x0 x1 x3 x4 x5 σ r h
  unfold f_X12_joinsFrom_206 at h
  refine aw_goto (pc := 206) 46 dX12_joinsFrom_206 (by decide) ?_
  exact hK46 _ _ _ _ _ _ _ h
set_option maxRecDepth 100000 in
set_option maxHeartbeats 4000000 in
theorem c_X12_joinsFrom_57_b {G : ah_G}  (K46 : Nat → Int32 → Int32 → Int32 → Int32 → ah_H → Option (Int32 × ah_H)) (hK46 : ∀ (x0 : Nat) (x1 : Int32) (x3 : Int32) (x4 : Int32) (x5 : Int32) (σ : ah_H) (r : Int32 × ah_H), K46 x0 x1 x3 x4 x5 σ = some r → AW G m_X12_joinsFrom 1 0 0 46 [(0, .ref x0), (1, .int x1), (3, .int x3), (4, .int x4), (5, .int x5)] [] σ (ah_N G (ah_ri r))) (K57 : Nat → Int32 → Int32 → Int32 → Int32 → Int32 → ah_H → Option (Int32 × ah_H)) (hK57 : ∀ (x0 : Nat) (x1 : Int32) (x3 : Int32) (x4 : Int32) (x5 : Int32) (x6 : Int32) (σ : ah_H) (r : Int32 × ah_H), K57 x0 x1 x3 x4 x5 x6 σ = some r → AW G m_X12_joinsFrom 1 0 0 57 [(0, .ref x0), (1, .int x1), (3, .int x3), (4, .int x4), (5, .int x5), (6, .int x6)] [] σ (ah_N G (ah_ri r))) : ∀ (x0 : Nat) (x1 : Int32) (x3 : Int32) (x4 : Int32) (x5 : Int32) (x6 : Int32) (σ : ah_H) (r : Int32 × ah_H), f_X12_joinsFrom_57_b  K46 K57 x0 x1 x3 x4 x5 x6 σ = some r → AW G m_X12_joinsFrom 1 0 0 57 [(0, .ref x0), (1, .int x1), (3, .int x3), (4, .int x4), (5, .int x5), (6, .int x6)] [] σ (ah_N G (ah_ri r)) := by
  intro x0 x1 x3 x4 x5 x6 σ r h
  unfold f_X12_joinsFrom_57_b at h
  refine aw_iload (pc := 57) 5 dX12_joinsFrom_57 rfl ?_
  refine aw_aload_n (pc := 59) 0 dX12_joinsFrom_59 rfl ?_
  obtain ⟨v1, e, h⟩ := op_bd h
  refine ow_gR (pc := 60) e dX12_joinsFrom_60 fd_X12_15 rfl ?_
  refine aw_iconst (pc := 63) (v := (1 : Int32)) dX12_joinsFrom_63 (by decide) ?_
  obtain ⟨v2, e, h⟩ := op_bd h
  refine ow_aI (pc := 64) e dX12_joinsFrom_64 ?_
  refine aw_icmp_ge (pc := 65) 206 dX12_joinsFrom_65 (by decide) (fun z => ?_) (fun z => ?_)
  · replace h := (if_pos z).symm.trans h
    refine aw_sub [0, 1, 2, 3, 4] rfl ?_
    exact c_X12_joinsFrom_206 K46 hK46 _ _ _ _ _ _ _ h
  · replace h := (if_neg z).symm.trans h
    refine aw_iload_n (pc := 68) 1 dX12_joinsFrom_68 rfl ?_
    refine aw_iload (pc := 69) 5 dX12_joinsFrom_69 rfl ?_
    refine aw_ishr (pc := 71) dX12_joinsFrom_71 ?_
    refine aw_iconst (pc := 72) (v := (1 : Int32)) dX12_joinsFrom_72 (by decide) ?_
    refine aw_iand (pc := 73) dX12_joinsFrom_73 ?_
    refine aw_if_eq (pc := 74) 200 dX12_joinsFrom_74 (by decide) (fun z => ?_) (fun z => ?_)
    · replace h := (if_pos z).symm.trans h
      exact c_X12_joinsFrom_200 K46 hK46 K57 hK57 _ _ _ _ _ _ _ _ h
    · replace h := (if_neg z).symm.trans h
      refine aw_aload_n (pc := 77) 0 dX12_joinsFrom_77 rfl ?_
      obtain ⟨v3, e, h⟩ := op_bd h
      refine ow_gR (pc := 78) e dX12_joinsFrom_78 fd_X12_129 rfl ?_
      refine aw_aload_n (pc := 81) 0 dX12_joinsFrom_81 rfl ?_
      obtain ⟨v4, e, h⟩ := op_bd h
      refine ow_gR (pc := 82) e dX12_joinsFrom_82 fd_X12_30 rfl ?_
      refine aw_iload (pc := 85) 5 dX12_joinsFrom_85 rfl ?_
      obtain ⟨v5, e, h⟩ := op_bd h
      refine ow_aI (pc := 87) e dX12_joinsFrom_87 ?_
      obtain ⟨v6, e, h⟩ := op_bd h
      refine ow_aI (pc := 88) e dX12_joinsFrom_88 ?_
      refine aw_iconst (pc := 89) (v := (-1 : Int32)) dX12_joinsFrom_89 (by decide) ?_
      refine aw_icmp_ne (pc := 90) 97 dX12_joinsFrom_90 (by decide) (fun z => ?_) (fun z => ?_)
      · replace h := (if_neg z).symm.trans h
        refine aw_iconst (pc := 97) (v := (0 : Int32)) dX12_joinsFrom_97 (by decide) ?_
        exact c_X12_joinsFrom_98 K46 hK46 K57 hK57 _ _ _ _ _ _ _ _ _ h
      · replace h := (if_pos z).symm.trans h
        refine aw_iconst (pc := 93) (v := (1 : Int32)) dX12_joinsFrom_93 (by decide) ?_
        refine aw_goto (pc := 94) 98 dX12_joinsFrom_94 (by decide) ?_
        exact c_X12_joinsFrom_98 K46 hK46 K57 hK57 _ _ _ _ _ _ _ _ _ h
theorem c_X12_joinsFrom_57 {G : ah_G}  (K46 : Nat → Int32 → Int32 → Int32 → Int32 → ah_H → Option (Int32 × ah_H)) (hK46 : ∀ (x0 : Nat) (x1 : Int32) (x3 : Int32) (x4 : Int32) (x5 : Int32) (σ : ah_H) (r : Int32 × ah_H), K46 x0 x1 x3 x4 x5 σ = some r → AW G m_X12_joinsFrom 1 0 0 46 [(0, .ref x0), (1, .int x1), (3, .int x3), (4, .int x4), (5, .int x5)] [] σ (ah_N G (ah_ri r))) : ∀ (n : Nat) (x0 : Nat) (x1 : Int32) (x3 : Int32) (x4 : Int32) (x5 : Int32) (x6 : Int32) (σ : ah_H) (r : Int32 × ah_H), f_X12_joinsFrom_57  K46 n x0 x1 x3 x4 x5 x6 σ = some r → AW G m_X12_joinsFrom 1 0 0 57 [(0, .ref x0), (1, .int x1), (3, .int x3), (4, .int x4), (5, .int x5), (6, .int x6)] [] σ (ah_N G (ah_ri r)) := by
  intro n
  induction n with
  | zero => intro x0 x1 x3 x4 x5 x6 σ r h; cases h
  | succ n ih => intro x0 x1 x3 x4 x5 x6 σ r h; exact c_X12_joinsFrom_57_b  K46 hK46 _ ih x0 x1 x3 x4 x5 x6 σ r h
set_option maxRecDepth 100000 in
set_option maxHeartbeats 4000000 in
theorem c_X12_joinsFrom_209 {G : ah_G}   : ∀ (x3 : Int32) (x4 : Int32) (σ : ah_H) (r : Int32 × ah_H), f_X12_joinsFrom_209   x3 x4 σ = some r → AW G m_X12_joinsFrom 1 0 0 209 [(3, .int x3), (4, .int x4)] [] σ (ah_N G (ah_ri r)) := by
  intro x3 x4 σ r h
  unfold f_X12_joinsFrom_209 at h
  refine aw_iload (pc := 209) 1 dX12_joinsFrom_209 rfl ?_
  refine aw_iload_n (pc := 211) 0 dX12_joinsFrom_211 rfl ?_
  refine aw_icmp_ne (pc := 212) 219 dX12_joinsFrom_212 (by decide) (fun z => ?_) (fun z => ?_)
  · replace h := (if_neg z).symm.trans h
    refine aw_iconst (pc := 219) (v := (0 : Int32)) dX12_joinsFrom_219 (by decide) ?_
    exact ow_zret (pc := 220) h dX12_joinsFrom_220 rfl
  · replace h := (if_pos z).symm.trans h
    refine aw_iconst (pc := 215) (v := (1 : Int32)) dX12_joinsFrom_215 (by decide) ?_
    refine aw_goto (pc := 216) 220 dX12_joinsFrom_216 (by decide) ?_
    exact ow_zret (pc := 220) h dX12_joinsFrom_220 rfl
set_option maxRecDepth 100000 in
set_option maxHeartbeats 4000000 in
theorem c_X12_joinsFrom_46_b {G : ah_G}  (K46 : Nat → Int32 → Int32 → Int32 → Int32 → ah_H → Option (Int32 × ah_H)) (hK46 : ∀ (x0 : Nat) (x1 : Int32) (x3 : Int32) (x4 : Int32) (x5 : Int32) (σ : ah_H) (r : Int32 × ah_H), K46 x0 x1 x3 x4 x5 σ = some r → AW G m_X12_joinsFrom 1 0 0 46 [(0, .ref x0), (1, .int x1), (3, .int x3), (4, .int x4), (5, .int x5)] [] σ (ah_N G (ah_ri r))) : ∀ (x0 : Nat) (x1 : Int32) (x3 : Int32) (x4 : Int32) (x5 : Int32) (σ : ah_H) (r : Int32 × ah_H), f_X12_joinsFrom_46_b  K46 x0 x1 x3 x4 x5 σ = some r → AW G m_X12_joinsFrom 1 0 0 46 [(0, .ref x0), (1, .int x1), (3, .int x3), (4, .int x4), (5, .int x5)] [] σ (ah_N G (ah_ri r)) := by
  intro x0 x1 x3 x4 x5 σ r h
  unfold f_X12_joinsFrom_46_b at h
  refine aw_iload (pc := 46) 4 dX12_joinsFrom_46 rfl ?_
  refine aw_if_eq (pc := 48) 209 dX12_joinsFrom_48 (by decide) (fun z => ?_) (fun z => ?_)
  · replace h := (if_pos z).symm.trans h
    refine aw_sub [2, 3] rfl ?_
    exact c_X12_joinsFrom_209  _ _ _ _ h
  · replace h := (if_neg z).symm.trans h
    refine aw_iconst (pc := 51) (v := (0 : Int32)) dX12_joinsFrom_51 (by decide) ?_
    refine aw_istore (pc := 52) [(5, .int (0 : Int32)), (0, .ref x0), (1, .int x1), (3, .int x3), (4, .int x4)] dX12_joinsFrom_52 (by decide) rfl ?_
    refine aw_iconst (pc := 54) (v := (0 : Int32)) dX12_joinsFrom_54 (by decide) ?_
    refine aw_istore (pc := 55) [(6, .int (0 : Int32)), (5, .int (0 : Int32)), (0, .ref x0), (1, .int x1), (3, .int x3), (4, .int x4)] dX12_joinsFrom_55 (by decide) rfl ?_
    refine aw_sub [2, 3, 4, 5, 1, 0] rfl ?_
    exact c_X12_joinsFrom_57 K46 hK46 _ _ _ _ _ _ _ _ _ h
theorem c_X12_joinsFrom_46 {G : ah_G}   : ∀ (n : Nat) (x0 : Nat) (x1 : Int32) (x3 : Int32) (x4 : Int32) (x5 : Int32) (σ : ah_H) (r : Int32 × ah_H), f_X12_joinsFrom_46   n x0 x1 x3 x4 x5 σ = some r → AW G m_X12_joinsFrom 1 0 0 46 [(0, .ref x0), (1, .int x1), (3, .int x3), (4, .int x4), (5, .int x5)] [] σ (ah_N G (ah_ri r)) := by
  intro n
  induction n with
  | zero => intro x0 x1 x3 x4 x5 σ r h; cases h
  | succ n ih => intro x0 x1 x3 x4 x5 σ r h; exact c_X12_joinsFrom_46_b   _ ih x0 x1 x3 x4 x5 σ r h
set_option maxRecDepth 100000 in
set_option maxHeartbeats 4000000 in
theorem c_X12_joinsFrom_40 {G : ah_G}   : ∀ (x0 : Nat) (x1 : Int32) (x3 : Int32) (σ : ah_H) (r : Int32 × ah_H), f_X12_joinsFrom_40   x0 x1 x3 σ = some r → AW G m_X12_joinsFrom 1 0 0 40 [(0, .ref x0), (1, .int x1), (3, .int x3)] [] σ (ah_N G (ah_ri r)) := by
  intro x0 x1 x3 σ r h
  unfold f_X12_joinsFrom_40 at h
  refine aw_iconst (pc := 40) (v := (1 : Int32)) dX12_joinsFrom_40 (by decide) ?_
  refine aw_istore (pc := 41) [(4, .int (1 : Int32)), (0, .ref x0), (1, .int x1), (3, .int x3)] dX12_joinsFrom_41 (by decide) rfl ?_
  refine aw_iconst (pc := 43) (v := (1 : Int32)) dX12_joinsFrom_43 (by decide) ?_
  refine aw_istore (pc := 44) [(5, .int (1 : Int32)), (4, .int (1 : Int32)), (0, .ref x0), (1, .int x1), (3, .int x3)] dX12_joinsFrom_44 (by decide) rfl ?_
  refine aw_sub [2, 3, 4, 1, 0] rfl ?_
  exact c_X12_joinsFrom_46  _ _ _ _ _ _ _ _ h
set_option maxRecDepth 100000 in
set_option maxHeartbeats 4000000 in
theorem c_X12_joinsFrom_10_b {G : ah_G}  (K10 : Nat → Int32 → Int32 → Int32 → Int32 → ah_H → Option (Int32 × ah_H)) (hK10 : ∀ (x0 : Nat) (x1 : Int32) (x2 : Int32) (x3 : Int32) (x4 : Int32) (σ : ah_H) (r : Int32 × ah_H), K10 x0 x1 x2 x3 x4 σ = some r → AW G m_X12_joinsFrom 1 0 0 10 [(0, .ref x0), (1, .int x1), (2, .int x2), (3, .int x3), (4, .int x4)] [] σ (ah_N G (ah_ri r))) : ∀ (x0 : Nat) (x1 : Int32) (x2 : Int32) (x3 : Int32) (x4 : Int32) (σ : ah_H) (r : Int32 × ah_H), f_X12_joinsFrom_10_b  K10 x0 x1 x2 x3 x4 σ = some r → AW G m_X12_joinsFrom 1 0 0 10 [(0, .ref x0), (1, .int x1), (2, .int x2), (3, .int x3), (4, .int x4)] [] σ (ah_N G (ah_ri r)) := by
  intro x0 x1 x2 x3 x4 σ r h
  unfold f_X12_joinsFrom_10_b at h
  refine aw_iload (pc := 10) 4 dX12_joinsFrom_10 rfl ?_
  refine aw_iload_n (pc := 12) 3 dX12_joinsFrom_12 rfl ?_
  refine aw_icmp_ge (pc := 13) 40 dX12_joinsFrom_13 (by decide) (fun z => ?_) (fun z => ?_)
  · replace h := (if_pos z).symm.trans h
    refine aw_sub [0, 1, 3] rfl ?_
    exact c_X12_joinsFrom_40  _ _ _ _ _ h
  · replace h := (if_neg z).symm.trans h
    refine aw_aload_n (pc := 16) 0 dX12_joinsFrom_16 rfl ?_
    obtain ⟨v1, e, h⟩ := op_bd h
    refine ow_gR (pc := 17) e dX12_joinsFrom_17 fd_X12_129 rfl ?_
    refine aw_iload (pc := 20) 4 dX12_joinsFrom_20 rfl ?_
    refine aw_iload (pc := 22) 4 dX12_joinsFrom_22 rfl ?_
    refine aw_iload_n (pc := 24) 2 dX12_joinsFrom_24 rfl ?_
    refine aw_icmp_ne (pc := 25) 32 dX12_joinsFrom_25 (by decide) (fun z => ?_) (fun z => ?_)
    · replace h := (if_neg z).symm.trans h
      refine aw_iconst (pc := 32) (v := (-1 : Int32)) dX12_joinsFrom_32 (by decide) ?_
      exact c_X12_joinsFrom_33 K10 hK10 _ _ _ _ _ _ _ _ _ _ h
    · replace h := (if_pos z).symm.trans h
      refine aw_iconst (pc := 28) (v := (0 : Int32)) dX12_joinsFrom_28 (by decide) ?_
      refine aw_goto (pc := 29) 33 dX12_joinsFrom_29 (by decide) ?_
      exact c_X12_joinsFrom_33 K10 hK10 _ _ _ _ _ _ _ _ _ _ h
theorem c_X12_joinsFrom_10 {G : ah_G}   : ∀ (n : Nat) (x0 : Nat) (x1 : Int32) (x2 : Int32) (x3 : Int32) (x4 : Int32) (σ : ah_H) (r : Int32 × ah_H), f_X12_joinsFrom_10   n x0 x1 x2 x3 x4 σ = some r → AW G m_X12_joinsFrom 1 0 0 10 [(0, .ref x0), (1, .int x1), (2, .int x2), (3, .int x3), (4, .int x4)] [] σ (ah_N G (ah_ri r)) := by
  intro n
  induction n with
  | zero => intro x0 x1 x2 x3 x4 σ r h; cases h
  | succ n ih => intro x0 x1 x2 x3 x4 σ r h; exact c_X12_joinsFrom_10_b   _ ih x0 x1 x2 x3 x4 σ r h
set_option maxRecDepth 100000 in
set_option maxHeartbeats 4000000 in
theorem c_X12_joinsFrom_0 {G : ah_G}   : ∀ (x0 : Nat) (x1 : Int32) (x2 : Int32) (σ : ah_H) (r : Int32 × ah_H), f_X12_joinsFrom_0   x0 x1 x2 σ = some r → AW G m_X12_joinsFrom 1 0 0 0 [(0, .ref x0), (1, .int x1), (2, .int x2)] [] σ (ah_N G (ah_ri r)) := by
  intro x0 x1 x2 σ r h
  unfold f_X12_joinsFrom_0 at h
  refine aw_aload_n (pc := 0) 0 dX12_joinsFrom_0 rfl ?_
  obtain ⟨v1, e, h⟩ := op_bd h
  refine ow_gR (pc := 1) e dX12_joinsFrom_1 fd_X12_15 rfl ?_
  refine aw_iconst (pc := 4) (v := (0 : Int32)) dX12_joinsFrom_4 (by decide) ?_
  obtain ⟨v2, e, h⟩ := op_bd h
  refine ow_aI (pc := 5) e dX12_joinsFrom_5 ?_
  refine aw_istore_n (pc := 6) [(3, .int v2), (0, .ref x0), (1, .int x1), (2, .int x2)] dX12_joinsFrom_6 rfl (by decide) rfl ?_
  refine aw_iconst (pc := 7) (v := (0 : Int32)) dX12_joinsFrom_7 (by decide) ?_
  refine aw_istore (pc := 8) [(4, .int (0 : Int32)), (3, .int v2), (0, .ref x0), (1, .int x1), (2, .int x2)] dX12_joinsFrom_8 (by decide) rfl ?_
  refine aw_sub [2, 3, 4, 1, 0] rfl ?_
  exact c_X12_joinsFrom_10  _ _ _ _ _ _ _ _ h
theorem c_X12_joinsFrom {G : ah_G}   (x0 : Nat) (x1 : Int32) (x2 : Int32) (σ : ah_H) (r : Int32 × ah_H) (h : f_X12_joinsFrom  x0 x1 x2 σ = some r) : AM G m_X12_joinsFrom 1 0 0 [.ref x0, .int x1, .int x2] σ (ah_ri r) := aw_enter (by decide) (Nat.le_of_ble_eq_true rfl) (c_X12_joinsFrom_0 _ _ _ _ _ (op_ck_k h))
def f_X12_isTree_0   (x0 : Nat) (x1 : Int32) (σ : ah_H) : Option (Int32 × ah_H) :=
  (op_gR 12 3 σ x0).bind fun v1 => (op_aI σ v1 (0 : Int32)).bind fun v2 => if x1 < 0 then ((op_rz (0 : Int32)).map fun q => (q, σ)) else ((op_gR 12 3 σ x0).bind fun v3 => (op_aI σ v3 (1 : Int32)).bind fun v4 => if ((1 : Int32) <<< (v4 &&& 31)) ≤ x1 then ((op_rz (0 : Int32)).map fun q => (q, σ)) else (if v2 = 0 then ((op_rz (0 : Int32)).map fun q => (q, σ)) else ((f_X12_bitsOf x1 σ).bind fun r5 => if r5.1 = (v2 - (1 : Int32)) then ((f_X12_joinsFrom x0 x1 (0 : Int32) r5.2).bind fun r6 => (op_rz r6.1).map fun q => (q, r6.2)) else ((op_rz (0 : Int32)).map fun q => (q, r5.2)))))
def f_X12_isTree  (x0 : Nat) (x1 : Int32) (σ : ah_H) : Option (Int32 × ah_H) := op_ck 12 σ x0 (f_X12_isTree_0 x0 x1 σ)
set_option maxRecDepth 100000 in
set_option maxHeartbeats 4000000 in
theorem c_X12_isTree_0 {G : ah_G}   : ∀ (x0 : Nat) (x1 : Int32) (σ : ah_H) (r : Int32 × ah_H), f_X12_isTree_0   x0 x1 σ = some r → AW G m_X12_isTree 2 0 0 0 [(0, .ref x0), (1, .int x1)] [] σ (ah_N G (ah_ri r)) := by
  intro x0 x1 σ r h
  unfold f_X12_isTree_0 at h
  refine aw_aload_n (pc := 0) 0 dX12_isTree_0 rfl ?_
  obtain ⟨v1, e, h⟩ := op_bd h
  refine ow_gR (pc := 1) e dX12_isTree_1 fd_X12_15 rfl ?_
  refine aw_iconst (pc := 4) (v := (0 : Int32)) dX12_isTree_4 (by decide) ?_
  obtain ⟨v2, e, h⟩ := op_bd h
  refine ow_aI (pc := 5) e dX12_isTree_5 ?_
  refine aw_istore_n (pc := 6) [(2, .int v2), (0, .ref x0), (1, .int x1)] dX12_isTree_6 rfl (by decide) rfl ?_
  refine aw_iload_n (pc := 7) 2 dX12_isTree_7 rfl ?_
  refine aw_if_lt (pc := 8) 37 dX12_isTree_8 (by decide) (fun z => ?_) (fun z => ?_)
  · replace h := (if_pos z).symm.trans h
    refine aw_iconst (pc := 37) (v := (0 : Int32)) dX12_isTree_37 (by decide) ?_
    exact ow_zret (pc := 38) h dX12_isTree_38 rfl
  · replace h := (if_neg z).symm.trans h
    refine aw_iload_n (pc := 11) 2 dX12_isTree_11 rfl ?_
    refine aw_iconst (pc := 12) (v := (1 : Int32)) dX12_isTree_12 (by decide) ?_
    refine aw_aload_n (pc := 13) 1 dX12_isTree_13 rfl ?_
    obtain ⟨v3, e, h⟩ := op_bd h
    refine ow_gR (pc := 14) e dX12_isTree_14 fd_X12_15 rfl ?_
    refine aw_iconst (pc := 17) (v := (1 : Int32)) dX12_isTree_17 (by decide) ?_
    obtain ⟨v4, e, h⟩ := op_bd h
    refine ow_aI (pc := 18) e dX12_isTree_18 ?_
    refine aw_ishl (pc := 19) dX12_isTree_19 ?_
    refine aw_icmp_ge (pc := 20) 37 dX12_isTree_20 (by decide) (fun z => ?_) (fun z => ?_)
    · replace h := (if_pos z).symm.trans h
      refine aw_iconst (pc := 37) (v := (0 : Int32)) dX12_isTree_37 (by decide) ?_
      exact ow_zret (pc := 38) h dX12_isTree_38 rfl
    · replace h := (if_neg z).symm.trans h
      refine aw_iload_n (pc := 23) 0 dX12_isTree_23 rfl ?_
      refine aw_if_eq (pc := 24) 37 dX12_isTree_24 (by decide) (fun z => ?_) (fun z => ?_)
      · replace h := (if_pos z).symm.trans h
        refine aw_iconst (pc := 37) (v := (0 : Int32)) dX12_isTree_37 (by decide) ?_
        exact ow_zret (pc := 38) h dX12_isTree_38 rfl
      · replace h := (if_neg z).symm.trans h
        refine aw_iload_n (pc := 27) 2 dX12_isTree_27 rfl ?_
        obtain ⟨r5, e, h⟩ := op_bd h
        refine ow_cSi (pc := 28) [.int x1] ((c_X12_bitsOf _ _ _ e).mono (by decide)) rfl dX12_isTree_28 cw_X12_497 rfl (Nat.le_of_ble_eq_true rfl) ?_
        refine aw_iload_n (pc := 31) 0 dX12_isTree_31 rfl ?_
        refine aw_iconst (pc := 32) (v := (1 : Int32)) dX12_isTree_32 (by decide) ?_
        refine aw_isub (pc := 33) dX12_isTree_33 ?_
        refine aw_icmp_eq (pc := 34) 39 dX12_isTree_34 (by decide) (fun z => ?_) (fun z => ?_)
        · replace h := (if_pos z).symm.trans h
          refine aw_aload_n (pc := 39) 1 dX12_isTree_39 rfl ?_
          refine aw_iload_n (pc := 40) 2 dX12_isTree_40 rfl ?_
          refine aw_iconst (pc := 41) (v := (0 : Int32)) dX12_isTree_41 (by decide) ?_
          obtain ⟨r6, e, h⟩ := op_bd h
          refine ow_cVi (pc := 42) [.int x1, .int (0 : Int32)] ((c_X12_joinsFrom _ _ _ _ _ e).mono (by decide)) (op_ck_sh e) rfl dX12_isTree_42 cw_X12_500 rfl (Nat.le_of_ble_eq_true rfl) ?_
          exact ow_zret (pc := 45) h dX12_isTree_45 rfl
        · replace h := (if_neg z).symm.trans h
          refine aw_iconst (pc := 37) (v := (0 : Int32)) dX12_isTree_37 (by decide) ?_
          exact ow_zret (pc := 38) h dX12_isTree_38 rfl
theorem c_X12_isTree {G : ah_G}   (x0 : Nat) (x1 : Int32) (σ : ah_H) (r : Int32 × ah_H) (h : f_X12_isTree  x0 x1 σ = some r) : AM G m_X12_isTree 2 0 0 [.ref x0, .int x1] σ (ah_ri r) := aw_enter (by decide) (Nat.le_of_ble_eq_true rfl) (c_X12_isTree_0 _ _ _ _ (op_ck_k h))
def f_X12_atLeast_0   (x0 : Int32) (x1 : Int32) (x2 : Int32) (σ : ah_H) : Option (Int32 × ah_H) :=
  some (((((x0 * (4 : Int32)) + x1) * (13 : Int32)) + x2), σ)
def f_X12_atLeast  (x0 : Int32) (x1 : Int32) (x2 : Int32) (σ : ah_H) : Option (Int32 × ah_H) := f_X12_atLeast_0 x0 x1 x2 σ
set_option maxRecDepth 100000 in
set_option maxHeartbeats 4000000 in
theorem c_X12_atLeast_0 {G : ah_G}   : ∀ (x0 : Int32) (x1 : Int32) (x2 : Int32) (σ : ah_H) (r : Int32 × ah_H), f_X12_atLeast_0   x0 x1 x2 σ = some r → AW G m_X12_atLeast 0 0 0 0 [(0, .int x0), (1, .int x1), (2, .int x2)] [] σ (ah_N G (ah_ri r)) := by
  intro x0 x1 x2 σ r h
  unfold f_X12_atLeast_0 at h
  refine aw_iload_n (pc := 0) 0 dX12_atLeast_0 rfl ?_
  refine aw_iconst (pc := 1) (v := (4 : Int32)) dX12_atLeast_1 (by decide) ?_
  refine aw_imul (pc := 2) dX12_atLeast_2 ?_
  refine aw_iload_n (pc := 3) 1 dX12_atLeast_3 rfl ?_
  refine aw_iadd (pc := 4) dX12_atLeast_4 ?_
  refine aw_bipush (pc := 5) (v := (13 : Int32)) dX12_atLeast_5 (by decide) ?_
  refine aw_imul (pc := 7) dX12_atLeast_7 ?_
  refine aw_iload_n (pc := 8) 2 dX12_atLeast_8 rfl ?_
  refine aw_iadd (pc := 9) dX12_atLeast_9 ?_
  exact ow_iret (pc := 10) h dX12_atLeast_10 rfl
theorem c_X12_atLeast {G : ah_G}   (x0 : Int32) (x1 : Int32) (x2 : Int32) (σ : ah_H) (r : Int32 × ah_H) (h : f_X12_atLeast  x0 x1 x2 σ = some r) : AM G m_X12_atLeast 0 0 0 [.int x0, .int x1, .int x2] σ (ah_ri r) := aw_enter (by decide) (Nat.le_of_ble_eq_true rfl) (c_X12_atLeast_0 _ _ _ _ _ h)
def f_X12_plus_0   (x0 : Int64) (x2 : Int64) (σ : ah_H) : Option (Int64 × ah_H) :=
  if 0 ≤ (lg_cmp x0 (4000000000000000000 : Int64)) then (some ((4000000000000000000 : Int64), σ)) else (if (lg_cmp x2 (4000000000000000000 : Int64)) < 0 then (some ((x0 + x2), σ)) else (some ((4000000000000000000 : Int64), σ)))
def f_X12_plus  (x0 : Int64) (x2 : Int64) (σ : ah_H) : Option (Int64 × ah_H) := f_X12_plus_0 x0 x2 σ
set_option maxRecDepth 100000 in
set_option maxHeartbeats 4000000 in
theorem c_X12_plus_0 {G : ah_G}   : ∀ (x0 : Int64) (x2 : Int64) (σ : ah_H) (r : Int64 × ah_H), f_X12_plus_0   x0 x2 σ = some r → AW G m_X12_plus 0 0 0 0 [(0, .long x0), (2, .long x2)] [] σ (ah_N G (ah_rl r)) := by
  intro x0 x2 σ r h
  unfold f_X12_plus_0 at h
  refine aw_lload_n (pc := 0) 0 dX12_plus_0 rfl ?_
  refine aw_ldc2 (pc := 1) dX12_plus_1 kl_X12_423 ?_
  refine aw_lcmp (pc := 4) dX12_plus_4 ?_
  refine aw_if_ge (pc := 5) 16 dX12_plus_5 (by decide) (fun z => ?_) (fun z => ?_)
  · replace h := (if_pos z).symm.trans h
    refine aw_ldc2 (pc := 16) dX12_plus_16 kl_X12_423 ?_
    refine aw_goto (pc := 19) 25 dX12_plus_19 (by decide) ?_
    exact ow_lret (pc := 25) h dX12_plus_25 rfl
  · replace h := (if_neg z).symm.trans h
    refine aw_lload_n (pc := 8) 1 dX12_plus_8 rfl ?_
    refine aw_ldc2 (pc := 9) dX12_plus_9 kl_X12_423 ?_
    refine aw_lcmp (pc := 12) dX12_plus_12 ?_
    refine aw_if_lt (pc := 13) 22 dX12_plus_13 (by decide) (fun z => ?_) (fun z => ?_)
    · replace h := (if_pos z).symm.trans h
      refine aw_lload_n (pc := 22) 0 dX12_plus_22 rfl ?_
      refine aw_lload_n (pc := 23) 1 dX12_plus_23 rfl ?_
      refine aw_ladd (pc := 24) dX12_plus_24 ?_
      exact ow_lret (pc := 25) h dX12_plus_25 rfl
    · replace h := (if_neg z).symm.trans h
      refine aw_ldc2 (pc := 16) dX12_plus_16 kl_X12_423 ?_
      refine aw_goto (pc := 19) 25 dX12_plus_19 (by decide) ?_
      exact ow_lret (pc := 25) h dX12_plus_25 rfl
theorem c_X12_plus {G : ah_G}   (x0 : Int64) (x2 : Int64) (σ : ah_H) (r : Int64 × ah_H) (h : f_X12_plus  x0 x2 σ = some r) : AM G m_X12_plus 0 0 0 [.long x0, .long x2] σ (ah_rl r) := aw_enter (by decide) (Nat.le_of_ble_eq_true rfl) (c_X12_plus_0 _ _ _ _ h)
def f_X12_comes_58  (K8 : Nat → Int32 → Int32 → Int32 → Int32 → Int64 → Int32 → ah_H → Option (Int64 × ah_H)) (x0 : Nat) (x1 : Int32) (x2 : Int32) (x3 : Int32) (x4 : Int32) (x5 : Int64) (x7 : Int32) (σ : ah_H) : Option (Int64 × ah_H) :=
  K8 x0 x1 x2 x3 x4 x5 (x7 + (1 : Int32)) σ
def f_X12_comes_26_b  (K8 : Nat → Int32 → Int32 → Int32 → Int32 → Int64 → Int32 → ah_H → Option (Int64 × ah_H)) (K26 : Nat → Int32 → Int32 → Int32 → Int32 → Int64 → Int32 → Int32 → ah_H → Option (Int64 × ah_H)) (x0 : Nat) (x1 : Int32) (x2 : Int32) (x3 : Int32) (x4 : Int32) (x5 : Int64) (x7 : Int32) (x8 : Int32) (σ : ah_H) : Option (Int64 × ah_H) :=
  if x3 < x8 then (f_X12_comes_58 K8 x0 x1 x2 x3 x4 x5 x7 σ) else ((op_gR 12 59 σ x0).bind fun v1 => (f_X12_atLeast x1 x7 x8 σ).bind fun r2 => (op_aL r2.2 v1 r2.1).bind fun v3 => K26 x0 x1 x2 x3 x4 (op_minl x5 v3) x7 (x8 + (1 : Int32)) r2.2)
def f_X12_comes_26  (K8 : Nat → Int32 → Int32 → Int32 → Int32 → Int64 → Int32 → ah_H → Option (Int64 × ah_H)) : Nat → Nat → Int32 → Int32 → Int32 → Int32 → Int64 → Int32 → Int32 → ah_H → Option (Int64 × ah_H)
  | 0, _, _, _, _, _, _, _, _, _ => none
  | n + 1, x0, x1, x2, x3, x4, x5, x7, x8, σ => f_X12_comes_26_b K8 (f_X12_comes_26 K8 n) x0 x1 x2 x3 x4 x5 x7 x8 σ
def f_X12_comes_24  (K8 : Nat → Int32 → Int32 → Int32 → Int32 → Int64 → Int32 → ah_H → Option (Int64 × ah_H)) (x0 : Nat) (x1 : Int32) (x2 : Int32) (x3 : Int32) (x4 : Int32) (x5 : Int64) (x7 : Int32) (s0 : Int32) (σ : ah_H) : Option (Int64 × ah_H) :=
  f_X12_comes_26 K8 5000 x0 x1 x2 x3 x4 x5 x7 s0 σ
def f_X12_comes_8_b  (K8 : Nat → Int32 → Int32 → Int32 → Int32 → Int64 → Int32 → ah_H → Option (Int64 × ah_H)) (x0 : Nat) (x1 : Int32) (x2 : Int32) (x3 : Int32) (x4 : Int32) (x5 : Int64) (x7 : Int32) (σ : ah_H) : Option (Int64 × ah_H) :=
  if x2 < x7 then (some (x5, σ)) else (if x4 = 0 then (f_X12_comes_24 K8 x0 x1 x2 x3 x4 x5 x7 (0 : Int32) σ) else (f_X12_comes_24 K8 x0 x1 x2 x3 x4 x5 x7 x3 σ))
def f_X12_comes_8   : Nat → Nat → Int32 → Int32 → Int32 → Int32 → Int64 → Int32 → ah_H → Option (Int64 × ah_H)
  | 0, _, _, _, _, _, _, _, _ => none
  | n + 1, x0, x1, x2, x3, x4, x5, x7, σ => f_X12_comes_8_b (f_X12_comes_8 n) x0 x1 x2 x3 x4 x5 x7 σ
def f_X12_comes_0   (x0 : Nat) (x1 : Int32) (x2 : Int32) (x3 : Int32) (x4 : Int32) (σ : ah_H) : Option (Int64 × ah_H) :=
  f_X12_comes_8 5000 x0 x1 x2 x3 x4 (4000000000000000000 : Int64) (0 : Int32) σ
def f_X12_comes  (x0 : Nat) (x1 : Int32) (x2 : Int32) (x3 : Int32) (x4 : Int32) (σ : ah_H) : Option (Int64 × ah_H) := op_ck 12 σ x0 (f_X12_comes_0 x0 x1 x2 x3 x4 σ)
set_option maxRecDepth 100000 in
set_option maxHeartbeats 4000000 in
theorem c_X12_comes_58 {G : ah_G}  (K8 : Nat → Int32 → Int32 → Int32 → Int32 → Int64 → Int32 → ah_H → Option (Int64 × ah_H)) (hK8 : ∀ (x0 : Nat) (x1 : Int32) (x2 : Int32) (x3 : Int32) (x4 : Int32) (x5 : Int64) (x7 : Int32) (σ : ah_H) (r : Int64 × ah_H), K8 x0 x1 x2 x3 x4 x5 x7 σ = some r → AW G m_X12_comes 1 0 0 8 [(0, .ref x0), (1, .int x1), (2, .int x2), (3, .int x3), (4, .int x4), (5, .long x5), (7, .int x7)] [] σ (ah_N G (ah_rl r))) : ∀ (x0 : Nat) (x1 : Int32) (x2 : Int32) (x3 : Int32) (x4 : Int32) (x5 : Int64) (x7 : Int32) (σ : ah_H) (r : Int64 × ah_H), f_X12_comes_58  K8 x0 x1 x2 x3 x4 x5 x7 σ = some r → AW G m_X12_comes 1 0 0 58 [(0, .ref x0), (1, .int x1), (2, .int x2), (3, .int x3), (4, .int x4), (5, .long x5), (7, .int x7)] [] σ (ah_N G (ah_rl r)) := by
  intro x0 x1 x2 x3 x4 x5 x7 σ r h
  unfold f_X12_comes_58 at h
  refine aw_iinc (pc := 58) 6 [(7, .int (x7 + (1 : Int32))), (0, .ref x0), (1, .int x1), (2, .int x2), (3, .int x3), (4, .int x4), (5, .long x5)] (x7 + (1 : Int32)) dX12_comes_58 rfl rfl (by decide) rfl ?_
  refine aw_goto (pc := 61) 8 dX12_comes_61 (by decide) ?_
  refine aw_sub [1, 2, 3, 4, 5, 6, 0] rfl ?_
  exact hK8 _ _ _ _ _ _ _ _ _ h
set_option maxRecDepth 100000 in
set_option maxHeartbeats 4000000 in
theorem c_X12_comes_26_b {G : ah_G}  (K8 : Nat → Int32 → Int32 → Int32 → Int32 → Int64 → Int32 → ah_H → Option (Int64 × ah_H)) (hK8 : ∀ (x0 : Nat) (x1 : Int32) (x2 : Int32) (x3 : Int32) (x4 : Int32) (x5 : Int64) (x7 : Int32) (σ : ah_H) (r : Int64 × ah_H), K8 x0 x1 x2 x3 x4 x5 x7 σ = some r → AW G m_X12_comes 1 0 0 8 [(0, .ref x0), (1, .int x1), (2, .int x2), (3, .int x3), (4, .int x4), (5, .long x5), (7, .int x7)] [] σ (ah_N G (ah_rl r))) (K26 : Nat → Int32 → Int32 → Int32 → Int32 → Int64 → Int32 → Int32 → ah_H → Option (Int64 × ah_H)) (hK26 : ∀ (x0 : Nat) (x1 : Int32) (x2 : Int32) (x3 : Int32) (x4 : Int32) (x5 : Int64) (x7 : Int32) (x8 : Int32) (σ : ah_H) (r : Int64 × ah_H), K26 x0 x1 x2 x3 x4 x5 x7 x8 σ = some r → AW G m_X12_comes 1 0 0 26 [(0, .ref x0), (1, .int x1), (2, .int x2), (3, .int x3), (4, .int x4), (5, .long x5), (7, .int x7), (8, .int x8)] [] σ (ah_N G (ah_rl r))) : ∀ (x0 : Nat) (x1 : Int32) (x2 : Int32) (x3 : Int32) (x4 : Int32) (x5 : Int64) (x7 : Int32) (x8 : Int32) (σ : ah_H) (r : Int64 × ah_H), f_X12_comes_26_b  K8 K26 x0 x1 x2 x3 x4 x5 x7 x8 σ = some r → AW G m_X12_comes 1 0 0 26 [(0, .ref x0), (1, .int x1), (2, .int x2), (3, .int x3), (4, .int x4), (5, .long x5), (7, .int x7), (8, .int x8)] [] σ (ah_N G (ah_rl r)) := by
  intro x0 x1 x2 x3 x4 x5 x7 x8 σ r h
  unfold f_X12_comes_26_b at h
  refine aw_iload (pc := 26) 7 dX12_comes_26 rfl ?_
  refine aw_iload_n (pc := 28) 3 dX12_comes_28 rfl ?_
  refine aw_icmp_gt (pc := 29) 58 dX12_comes_29 (by decide) (fun z => ?_) (fun z => ?_)
  · replace h := (if_pos z).symm.trans h
    refine aw_sub [0, 1, 2, 3, 4, 5, 6] rfl ?_
    exact c_X12_comes_58 K8 hK8 _ _ _ _ _ _ _ _ _ h
  · replace h := (if_neg z).symm.trans h
    refine aw_lload (pc := 32) 5 dX12_comes_32 rfl ?_
    refine aw_aload_n (pc := 34) 0 dX12_comes_34 rfl ?_
    obtain ⟨v1, e, h⟩ := op_bd h
    refine ow_gR (pc := 35) e dX12_comes_35 fd_X12_132 rfl ?_
    refine aw_iload_n (pc := 38) 1 dX12_comes_38 rfl ?_
    refine aw_iload (pc := 39) 6 dX12_comes_39 rfl ?_
    refine aw_iload (pc := 41) 7 dX12_comes_41 rfl ?_
    obtain ⟨r2, e, h⟩ := op_bd h
    refine ow_cSi (pc := 43) [.int x1, .int x7, .int x8] ((c_X12_atLeast _ _ _ _ _ e).mono (by decide)) rfl dX12_comes_43 cw_X12_503 rfl (Nat.le_of_ble_eq_true rfl) ?_
    obtain ⟨v3, e, h⟩ := op_bd h
    refine ow_aL (pc := 46) e dX12_comes_46 ?_
    refine ow_minl (pc := 47) dX12_comes_47 mt_X12_429 (Nat.le_of_ble_eq_true rfl) ?_
    refine aw_lstore (pc := 50) [(5, .long (op_minl x5 v3)), (0, .ref x0), (1, .int x1), (2, .int x2), (3, .int x3), (4, .int x4), (7, .int x7), (8, .int x8)] dX12_comes_50 (by decide) rfl ?_
    refine aw_iinc (pc := 52) 7 [(8, .int (x8 + (1 : Int32))), (5, .long (op_minl x5 v3)), (0, .ref x0), (1, .int x1), (2, .int x2), (3, .int x3), (4, .int x4), (7, .int x7)] (x8 + (1 : Int32)) dX12_comes_52 rfl rfl (by decide) rfl ?_
    refine aw_goto (pc := 55) 26 dX12_comes_55 (by decide) ?_
    refine aw_sub [2, 3, 4, 5, 6, 1, 7, 0] rfl ?_
    exact hK26 _ _ _ _ _ _ _ _ _ _ h
theorem c_X12_comes_26 {G : ah_G}  (K8 : Nat → Int32 → Int32 → Int32 → Int32 → Int64 → Int32 → ah_H → Option (Int64 × ah_H)) (hK8 : ∀ (x0 : Nat) (x1 : Int32) (x2 : Int32) (x3 : Int32) (x4 : Int32) (x5 : Int64) (x7 : Int32) (σ : ah_H) (r : Int64 × ah_H), K8 x0 x1 x2 x3 x4 x5 x7 σ = some r → AW G m_X12_comes 1 0 0 8 [(0, .ref x0), (1, .int x1), (2, .int x2), (3, .int x3), (4, .int x4), (5, .long x5), (7, .int x7)] [] σ (ah_N G (ah_rl r))) : ∀ (n : Nat) (x0 : Nat) (x1 : Int32) (x2 : Int32) (x3 : Int32) (x4 : Int32) (x5 : Int64) (x7 : Int32) (x8 : Int32) (σ : ah_H) (r : Int64 × ah_H), f_X12_comes_26  K8 n x0 x1 x2 x3 x4 x5 x7 x8 σ = some r → AW G m_X12_comes 1 0 0 26 [(0, .ref x0), (1, .int x1), (2, .int x2), (3, .int x3), (4, .int x4), (5, .long x5), (7, .int x7), (8, .int x8)] [] σ (ah_N G (ah_rl r)) := by
  intro n
  induction n with
  | zero => intro x0 x1 x2 x3 x4 x5 x7 x8 σ r h; cases h
  | succ n ih => intro x0 x1 x2 x3 x4 x5 x7 x8 σ r h; exact c_X12_comes_26_b  K8 hK8 _ ih x0 x1 x2 x3 x4 x5 x7 x8 σ r h
set_option maxRecDepth 100000 in
set_option maxHeartbeats 4000000 in
theorem c_X12_comes_24 {G : ah_G}  (K8 : Nat → Int32 → Int32 → Int32 → Int32 → Int64 → Int32 → ah_H → Option (Int64 × ah_H)) (hK8 : ∀ (x0 : Nat) (x1 : Int32) (x2 : Int32) (x3 : Int32) (x4 : Int32) (x5 : Int64) (x7 : Int32) (σ : ah_H) (r : Int64 × ah_H), K8 x0 x1 x2 x3 x4 x5 x7 σ = some r → AW G m_X12_comes 1 0 0 8 [(0, .ref x0), (1, .int x1), (2, .int x2), (3, .int x3), (4, .int x4), (5, .long x5), (7, .int x7)] [] σ (ah_N G (ah_rl r))) : ∀ (x0 : Nat) (x1 : Int32) (x2 : Int32) (x3 : Int32) (x4 : Int32) (x5 : Int64) (x7 : Int32) (s0 : Int32) (σ : ah_H) (r : Int64 × ah_H), f_X12_comes_24  K8 x0 x1 x2 x3 x4 x5 x7 s0 σ = some r → AW G m_X12_comes 1 0 0 24 [(0, .ref x0), (1, .int x1), (2, .int x2), (3, .int x3), (4, .int x4), (5, .long x5), (7, .int x7)] [.int s0] σ (ah_N G (ah_rl r)) := by
  intro x0 x1 x2 x3 x4 x5 x7 s0 σ r h
  unfold f_X12_comes_24 at h
  refine aw_istore (pc := 24) [(8, .int s0), (0, .ref x0), (1, .int x1), (2, .int x2), (3, .int x3), (4, .int x4), (5, .long x5), (7, .int x7)] dX12_comes_24 (by decide) rfl ?_
  refine aw_sub [1, 2, 3, 4, 5, 6, 7, 0] rfl ?_
  exact c_X12_comes_26 K8 hK8 _ _ _ _ _ _ _ _ _ _ _ h
set_option maxRecDepth 100000 in
set_option maxHeartbeats 4000000 in
theorem c_X12_comes_8_b {G : ah_G}  (K8 : Nat → Int32 → Int32 → Int32 → Int32 → Int64 → Int32 → ah_H → Option (Int64 × ah_H)) (hK8 : ∀ (x0 : Nat) (x1 : Int32) (x2 : Int32) (x3 : Int32) (x4 : Int32) (x5 : Int64) (x7 : Int32) (σ : ah_H) (r : Int64 × ah_H), K8 x0 x1 x2 x3 x4 x5 x7 σ = some r → AW G m_X12_comes 1 0 0 8 [(0, .ref x0), (1, .int x1), (2, .int x2), (3, .int x3), (4, .int x4), (5, .long x5), (7, .int x7)] [] σ (ah_N G (ah_rl r))) : ∀ (x0 : Nat) (x1 : Int32) (x2 : Int32) (x3 : Int32) (x4 : Int32) (x5 : Int64) (x7 : Int32) (σ : ah_H) (r : Int64 × ah_H), f_X12_comes_8_b  K8 x0 x1 x2 x3 x4 x5 x7 σ = some r → AW G m_X12_comes 1 0 0 8 [(0, .ref x0), (1, .int x1), (2, .int x2), (3, .int x3), (4, .int x4), (5, .long x5), (7, .int x7)] [] σ (ah_N G (ah_rl r)) := by
  intro x0 x1 x2 x3 x4 x5 x7 σ r h
  unfold f_X12_comes_8_b at h
  refine aw_iload (pc := 8) 6 dX12_comes_8 rfl ?_
  refine aw_iload_n (pc := 10) 2 dX12_comes_10 rfl ?_
  refine aw_icmp_gt (pc := 11) 64 dX12_comes_11 (by decide) (fun z => ?_) (fun z => ?_)
  · replace h := (if_pos z).symm.trans h
    refine aw_lload (pc := 64) 5 dX12_comes_64 rfl ?_
    exact ow_lret (pc := 66) h dX12_comes_66 rfl
  · replace h := (if_neg z).symm.trans h
    refine aw_iload (pc := 14) 4 dX12_comes_14 rfl ?_
    refine aw_if_eq (pc := 16) 23 dX12_comes_16 (by decide) (fun z => ?_) (fun z => ?_)
    · replace h := (if_pos z).symm.trans h
      refine aw_iconst (pc := 23) (v := (0 : Int32)) dX12_comes_23 (by decide) ?_
      exact c_X12_comes_24 K8 hK8 _ _ _ _ _ _ _ _ _ _ h
    · replace h := (if_neg z).symm.trans h
      refine aw_iload_n (pc := 19) 3 dX12_comes_19 rfl ?_
      refine aw_goto (pc := 20) 24 dX12_comes_20 (by decide) ?_
      exact c_X12_comes_24 K8 hK8 _ _ _ _ _ _ _ _ _ _ h
theorem c_X12_comes_8 {G : ah_G}   : ∀ (n : Nat) (x0 : Nat) (x1 : Int32) (x2 : Int32) (x3 : Int32) (x4 : Int32) (x5 : Int64) (x7 : Int32) (σ : ah_H) (r : Int64 × ah_H), f_X12_comes_8   n x0 x1 x2 x3 x4 x5 x7 σ = some r → AW G m_X12_comes 1 0 0 8 [(0, .ref x0), (1, .int x1), (2, .int x2), (3, .int x3), (4, .int x4), (5, .long x5), (7, .int x7)] [] σ (ah_N G (ah_rl r)) := by
  intro n
  induction n with
  | zero => intro x0 x1 x2 x3 x4 x5 x7 σ r h; cases h
  | succ n ih => intro x0 x1 x2 x3 x4 x5 x7 σ r h; exact c_X12_comes_8_b   _ ih x0 x1 x2 x3 x4 x5 x7 σ r h
set_option maxRecDepth 100000 in
set_option maxHeartbeats 4000000 in
theorem c_X12_comes_0 {G : ah_G}   : ∀ (x0 : Nat) (x1 : Int32) (x2 : Int32) (x3 : Int32) (x4 : Int32) (σ : ah_H) (r : Int64 × ah_H), f_X12_comes_0   x0 x1 x2 x3 x4 σ = some r → AW G m_X12_comes 1 0 0 0 [(0, .ref x0), (1, .int x1), (2, .int x2), (3, .int x3), (4, .int x4)] [] σ (ah_N G (ah_rl r)) := by
  intro x0 x1 x2 x3 x4 σ r h
  unfold f_X12_comes_0 at h
  refine aw_ldc2 (pc := 0) dX12_comes_0 kl_X12_423 ?_
  refine aw_lstore (pc := 3) [(5, .long (4000000000000000000 : Int64)), (0, .ref x0), (1, .int x1), (2, .int x2), (3, .int x3), (4, .int x4)] dX12_comes_3 (by decide) rfl ?_
  refine aw_iconst (pc := 5) (v := (0 : Int32)) dX12_comes_5 (by decide) ?_
  refine aw_istore (pc := 6) [(7, .int (0 : Int32)), (5, .long (4000000000000000000 : Int64)), (0, .ref x0), (1, .int x1), (2, .int x2), (3, .int x3), (4, .int x4)] dX12_comes_6 (by decide) rfl ?_
  refine aw_sub [2, 3, 4, 5, 6, 1, 0] rfl ?_
  exact c_X12_comes_8  _ _ _ _ _ _ _ _ _ _ h
theorem c_X12_comes {G : ah_G}   (x0 : Nat) (x1 : Int32) (x2 : Int32) (x3 : Int32) (x4 : Int32) (σ : ah_H) (r : Int64 × ah_H) (h : f_X12_comes  x0 x1 x2 x3 x4 σ = some r) : AM G m_X12_comes 1 0 0 [.ref x0, .int x1, .int x2, .int x3, .int x4] σ (ah_rl r) := aw_enter (by decide) (Nat.le_of_ble_eq_true rfl) (c_X12_comes_0 _ _ _ _ _ _ _ (op_ck_k h))
def f_X12_allCome_43  (K6 : Nat → Int32 → Int32 → Int32 → Int32 → Int64 → Int32 → ah_H → Option (Int64 × ah_H)) (x0 : Nat) (x1 : Int32) (x2 : Int32) (x3 : Int32) (x4 : Int32) (x5 : Int64) (x7 : Int32) (σ : ah_H) : Option (Int64 × ah_H) :=
  K6 x0 x1 x2 x3 x4 x5 (x7 + (1 : Int32)) σ
def f_X12_allCome_147  (K65 : Nat → Int32 → Int32 → Int32 → Int64 → Int32 → ah_H → Option (Int64 × ah_H)) (K103 : Nat → Int32 → Int32 → Int32 → Int64 → Int32 → Int64 → Int32 → ah_H → Option (Int64 × ah_H)) (x0 : Nat) (x1 : Int32) (x2 : Int32) (x3 : Int32) (x7 : Int64) (x9 : Int32) (x10 : Int64) (x12 : Int32) (σ : ah_H) : Option (Int64 × ah_H) :=
  K103 x0 x1 x2 x3 x7 x9 x10 (x12 + (1 : Int32)) σ
def f_X12_allCome_162  (K65 : Nat → Int32 → Int32 → Int32 → Int64 → Int32 → ah_H → Option (Int64 × ah_H)) (x0 : Nat) (x1 : Int32) (x2 : Int32) (x3 : Int32) (x7 : Int64) (x9 : Int32) (σ : ah_H) : Option (Int64 × ah_H) :=
  K65 x0 x1 x2 x3 x7 (x9 + (1 : Int32)) σ
def f_X12_allCome_153  (K65 : Nat → Int32 → Int32 → Int32 → Int64 → Int32 → ah_H → Option (Int64 × ah_H)) (x0 : Nat) (x1 : Int32) (x2 : Int32) (x3 : Int32) (x7 : Int64) (x9 : Int32) (x10 : Int64) (σ : ah_H) : Option (Int64 × ah_H) :=
  f_X12_allCome_162 K65 x0 x1 x2 x3 (op_minl x7 x10) x9 σ
def f_X12_allCome_103_b  (K65 : Nat → Int32 → Int32 → Int32 → Int64 → Int32 → ah_H → Option (Int64 × ah_H)) (K103 : Nat → Int32 → Int32 → Int32 → Int64 → Int32 → Int64 → Int32 → ah_H → Option (Int64 × ah_H)) (x0 : Nat) (x1 : Int32) (x2 : Int32) (x3 : Int32) (x7 : Int64) (x9 : Int32) (x10 : Int64) (x12 : Int32) (σ : ah_H) : Option (Int64 × ah_H) :=
  (op_gR 12 3 σ x0).bind fun v1 => (op_aI σ v1 (0 : Int32)).bind fun v2 => if v2 ≤ x12 then (f_X12_allCome_153 K65 x0 x1 x2 x3 x7 x9 x10 σ) else (if x12 = x9 then (f_X12_allCome_147 K65 K103 x0 x1 x2 x3 x7 x9 x10 x12 σ) else ((f_X12_runsTo x0 x12 x1 σ).bind fun r3 => if r3.1 = 0 then (f_X12_allCome_147 K65 K103 x0 x1 x2 x3 x7 x9 x10 x12 r3.2) else ((f_X12_comes x0 x12 x2 x3 (0 : Int32) r3.2).bind fun r4 => (f_X12_plus x10 r4.1 r4.2).bind fun r5 => f_X12_allCome_147 K65 K103 x0 x1 x2 x3 x7 x9 r5.1 x12 r5.2)))
def f_X12_allCome_103  (K65 : Nat → Int32 → Int32 → Int32 → Int64 → Int32 → ah_H → Option (Int64 × ah_H)) : Nat → Nat → Int32 → Int32 → Int32 → Int64 → Int32 → Int64 → Int32 → ah_H → Option (Int64 × ah_H)
  | 0, _, _, _, _, _, _, _, _, _ => none
  | n + 1, x0, x1, x2, x3, x7, x9, x10, x12, σ => f_X12_allCome_103_b K65 (f_X12_allCome_103 K65 n) x0 x1 x2 x3 x7 x9 x10 x12 σ
def f_X12_allCome_65_b  (K65 : Nat → Int32 → Int32 → Int32 → Int64 → Int32 → ah_H → Option (Int64 × ah_H)) (x0 : Nat) (x1 : Int32) (x2 : Int32) (x3 : Int32) (x7 : Int64) (x9 : Int32) (σ : ah_H) : Option (Int64 × ah_H) :=
  (op_gR 12 3 σ x0).bind fun v1 => (op_aI σ v1 (0 : Int32)).bind fun v2 => if v2 ≤ x9 then (some (x7, σ)) else ((f_X12_runsTo x0 x9 x1 σ).bind fun r3 => if r3.1 = 0 then (f_X12_allCome_162 K65 x0 x1 x2 x3 x7 x9 r3.2) else ((f_X12_comes x0 x9 x2 x3 (1 : Int32) r3.2).bind fun r4 => f_X12_allCome_103 K65 5000 x0 x1 x2 x3 x7 x9 r4.1 (0 : Int32) r4.2))
def f_X12_allCome_65   : Nat → Nat → Int32 → Int32 → Int32 → Int64 → Int32 → ah_H → Option (Int64 × ah_H)
  | 0, _, _, _, _, _, _, _ => none
  | n + 1, x0, x1, x2, x3, x7, x9, σ => f_X12_allCome_65_b (f_X12_allCome_65 n) x0 x1 x2 x3 x7 x9 σ
def f_X12_allCome_49   (x0 : Nat) (x1 : Int32) (x2 : Int32) (x3 : Int32) (x4 : Int32) (x5 : Int64) (σ : ah_H) : Option (Int64 × ah_H) :=
  if x4 = 0 then (some (x5, σ)) else (f_X12_allCome_65 5000 x0 x1 x2 x3 (4000000000000000000 : Int64) (0 : Int32) σ)
def f_X12_allCome_6_b  (K6 : Nat → Int32 → Int32 → Int32 → Int32 → Int64 → Int32 → ah_H → Option (Int64 × ah_H)) (x0 : Nat) (x1 : Int32) (x2 : Int32) (x3 : Int32) (x4 : Int32) (x5 : Int64) (x7 : Int32) (σ : ah_H) : Option (Int64 × ah_H) :=
  (op_gR 12 3 σ x0).bind fun v1 => (op_aI σ v1 (0 : Int32)).bind fun v2 => if v2 ≤ x7 then (f_X12_allCome_49 x0 x1 x2 x3 x4 x5 σ) else ((f_X12_runsTo x0 x7 x1 σ).bind fun r3 => if r3.1 = 0 then (f_X12_allCome_43 K6 x0 x1 x2 x3 x4 x5 x7 r3.2) else ((f_X12_comes x0 x7 x2 x3 (0 : Int32) r3.2).bind fun r4 => (f_X12_plus x5 r4.1 r4.2).bind fun r5 => f_X12_allCome_43 K6 x0 x1 x2 x3 x4 r5.1 x7 r5.2))
def f_X12_allCome_6   : Nat → Nat → Int32 → Int32 → Int32 → Int32 → Int64 → Int32 → ah_H → Option (Int64 × ah_H)
  | 0, _, _, _, _, _, _, _, _ => none
  | n + 1, x0, x1, x2, x3, x4, x5, x7, σ => f_X12_allCome_6_b (f_X12_allCome_6 n) x0 x1 x2 x3 x4 x5 x7 σ
def f_X12_allCome_0   (x0 : Nat) (x1 : Int32) (x2 : Int32) (x3 : Int32) (x4 : Int32) (σ : ah_H) : Option (Int64 × ah_H) :=
  f_X12_allCome_6 5000 x0 x1 x2 x3 x4 (0 : Int64) (0 : Int32) σ
def f_X12_allCome  (x0 : Nat) (x1 : Int32) (x2 : Int32) (x3 : Int32) (x4 : Int32) (σ : ah_H) : Option (Int64 × ah_H) := op_ck 12 σ x0 (f_X12_allCome_0 x0 x1 x2 x3 x4 σ)
set_option maxRecDepth 100000 in
set_option maxHeartbeats 4000000 in
theorem c_X12_allCome_43 {G : ah_G}  (K6 : Nat → Int32 → Int32 → Int32 → Int32 → Int64 → Int32 → ah_H → Option (Int64 × ah_H)) (hK6 : ∀ (x0 : Nat) (x1 : Int32) (x2 : Int32) (x3 : Int32) (x4 : Int32) (x5 : Int64) (x7 : Int32) (σ : ah_H) (r : Int64 × ah_H), K6 x0 x1 x2 x3 x4 x5 x7 σ = some r → AW G m_X12_allCome 3 0 0 6 [(0, .ref x0), (1, .int x1), (2, .int x2), (3, .int x3), (4, .int x4), (5, .long x5), (7, .int x7)] [] σ (ah_N G (ah_rl r))) : ∀ (x0 : Nat) (x1 : Int32) (x2 : Int32) (x3 : Int32) (x4 : Int32) (x5 : Int64) (x7 : Int32) (σ : ah_H) (r : Int64 × ah_H), f_X12_allCome_43  K6 x0 x1 x2 x3 x4 x5 x7 σ = some r → AW G m_X12_allCome 3 0 0 43 [(0, .ref x0), (1, .int x1), (2, .int x2), (3, .int x3), (4, .int x4), (5, .long x5), (7, .int x7)] [] σ (ah_N G (ah_rl r)) := by
  intro x0 x1 x2 x3 x4 x5 x7 σ r h
  unfold f_X12_allCome_43 at h
  refine aw_iinc (pc := 43) 6 [(7, .int (x7 + (1 : Int32))), (0, .ref x0), (1, .int x1), (2, .int x2), (3, .int x3), (4, .int x4), (5, .long x5)] (x7 + (1 : Int32)) dX12_allCome_43 rfl rfl (by decide) rfl ?_
  refine aw_goto (pc := 46) 6 dX12_allCome_46 (by decide) ?_
  refine aw_sub [1, 2, 3, 4, 5, 6, 0] rfl ?_
  exact hK6 _ _ _ _ _ _ _ _ _ h
set_option maxRecDepth 100000 in
set_option maxHeartbeats 4000000 in
theorem c_X12_allCome_147 {G : ah_G}  (K65 : Nat → Int32 → Int32 → Int32 → Int64 → Int32 → ah_H → Option (Int64 × ah_H)) (hK65 : ∀ (x0 : Nat) (x1 : Int32) (x2 : Int32) (x3 : Int32) (x7 : Int64) (x9 : Int32) (σ : ah_H) (r : Int64 × ah_H), K65 x0 x1 x2 x3 x7 x9 σ = some r → AW G m_X12_allCome 3 0 0 65 [(0, .ref x0), (1, .int x1), (2, .int x2), (3, .int x3), (7, .long x7), (9, .int x9)] [] σ (ah_N G (ah_rl r))) (K103 : Nat → Int32 → Int32 → Int32 → Int64 → Int32 → Int64 → Int32 → ah_H → Option (Int64 × ah_H)) (hK103 : ∀ (x0 : Nat) (x1 : Int32) (x2 : Int32) (x3 : Int32) (x7 : Int64) (x9 : Int32) (x10 : Int64) (x12 : Int32) (σ : ah_H) (r : Int64 × ah_H), K103 x0 x1 x2 x3 x7 x9 x10 x12 σ = some r → AW G m_X12_allCome 3 0 0 103 [(0, .ref x0), (1, .int x1), (2, .int x2), (3, .int x3), (7, .long x7), (9, .int x9), (10, .long x10), (12, .int x12)] [] σ (ah_N G (ah_rl r))) : ∀ (x0 : Nat) (x1 : Int32) (x2 : Int32) (x3 : Int32) (x7 : Int64) (x9 : Int32) (x10 : Int64) (x12 : Int32) (σ : ah_H) (r : Int64 × ah_H), f_X12_allCome_147  K65 K103 x0 x1 x2 x3 x7 x9 x10 x12 σ = some r → AW G m_X12_allCome 3 0 0 147 [(0, .ref x0), (1, .int x1), (2, .int x2), (3, .int x3), (7, .long x7), (9, .int x9), (10, .long x10), (12, .int x12)] [] σ (ah_N G (ah_rl r)) := by
  intro x0 x1 x2 x3 x7 x9 x10 x12 σ r h
  unfold f_X12_allCome_147 at h
  refine aw_iinc (pc := 147) 7 [(12, .int (x12 + (1 : Int32))), (0, .ref x0), (1, .int x1), (2, .int x2), (3, .int x3), (7, .long x7), (9, .int x9), (10, .long x10)] (x12 + (1 : Int32)) dX12_allCome_147 rfl rfl (by decide) rfl ?_
  refine aw_goto (pc := 150) 103 dX12_allCome_150 (by decide) ?_
  refine aw_sub [1, 2, 3, 4, 5, 6, 7, 0] rfl ?_
  exact hK103 _ _ _ _ _ _ _ _ _ _ h
set_option maxRecDepth 100000 in
set_option maxHeartbeats 4000000 in
theorem c_X12_allCome_162 {G : ah_G}  (K65 : Nat → Int32 → Int32 → Int32 → Int64 → Int32 → ah_H → Option (Int64 × ah_H)) (hK65 : ∀ (x0 : Nat) (x1 : Int32) (x2 : Int32) (x3 : Int32) (x7 : Int64) (x9 : Int32) (σ : ah_H) (r : Int64 × ah_H), K65 x0 x1 x2 x3 x7 x9 σ = some r → AW G m_X12_allCome 3 0 0 65 [(0, .ref x0), (1, .int x1), (2, .int x2), (3, .int x3), (7, .long x7), (9, .int x9)] [] σ (ah_N G (ah_rl r))) : ∀ (x0 : Nat) (x1 : Int32) (x2 : Int32) (x3 : Int32) (x7 : Int64) (x9 : Int32) (σ : ah_H) (r : Int64 × ah_H), f_X12_allCome_162  K65 x0 x1 x2 x3 x7 x9 σ = some r → AW G m_X12_allCome 3 0 0 162 [(0, .ref x0), (1, .int x1), (2, .int x2), (3, .int x3), (7, .long x7), (9, .int x9)] [] σ (ah_N G (ah_rl r)) := by
  intro x0 x1 x2 x3 x7 x9 σ r h
  unfold f_X12_allCome_162 at h
  refine aw_iinc (pc := 162) 5 [(9, .int (x9 + (1 : Int32))), (0, .ref x0), (1, .int x1), (2, .int x2), (3, .int x3), (7, .long x7)] (x9 + (1 : Int32)) dX12_allCome_162 rfl rfl (by decide) rfl ?_
  refine aw_goto (pc := 165) 65 dX12_allCome_165 (by decide) ?_
  refine aw_sub [1, 2, 3, 4, 5, 0] rfl ?_
  exact hK65 _ _ _ _ _ _ _ _ h
set_option maxRecDepth 100000 in
set_option maxHeartbeats 4000000 in
theorem c_X12_allCome_153 {G : ah_G}  (K65 : Nat → Int32 → Int32 → Int32 → Int64 → Int32 → ah_H → Option (Int64 × ah_H)) (hK65 : ∀ (x0 : Nat) (x1 : Int32) (x2 : Int32) (x3 : Int32) (x7 : Int64) (x9 : Int32) (σ : ah_H) (r : Int64 × ah_H), K65 x0 x1 x2 x3 x7 x9 σ = some r → AW G m_X12_allCome 3 0 0 65 [(0, .ref x0), (1, .int x1), (2, .int x2), (3, .int x3), (7, .long x7), (9, .int x9)] [] σ (ah_N G (ah_rl r))) : ∀ (x0 : Nat) (x1 : Int32) (x2 : Int32) (x3 : Int32) (x7 : Int64) (x9 : Int32) (x10 : Int64) (σ : ah_H) (r : Int64 × ah_H), f_X12_allCome_153  K65 x0 x1 x2 x3 x7 x9 x10 σ = some r → AW G m_X12_allCome 3 0 0 153 [(0, .ref x0), (1, .int x1), (2, .int x2), (3, .int x3), (7, .long x7), (9, .int x9), (10, .long x10)] [] σ (ah_N G (ah_rl r)) := by
  intro x0 x1 x2 x3 x7 x9 x10 σ r h
  unfold f_X12_allCome_153 at h
  refine aw_lload (pc := 153) 4 dX12_allCome_153 rfl ?_
  refine aw_lload (pc := 155) 6 dX12_allCome_155 rfl ?_
  refine ow_minl (pc := 157) dX12_allCome_157 mt_X12_429 (Nat.le_of_ble_eq_true rfl) ?_
  refine aw_lstore (pc := 160) [(7, .long (op_minl x7 x10)), (0, .ref x0), (1, .int x1), (2, .int x2), (3, .int x3), (9, .int x9), (10, .long x10)] dX12_allCome_160 (by decide) rfl ?_
  refine aw_sub [1, 2, 3, 4, 0, 5] rfl ?_
  exact c_X12_allCome_162 K65 hK65 _ _ _ _ _ _ _ _ h
set_option maxRecDepth 100000 in
set_option maxHeartbeats 4000000 in
theorem c_X12_allCome_103_b {G : ah_G}  (K65 : Nat → Int32 → Int32 → Int32 → Int64 → Int32 → ah_H → Option (Int64 × ah_H)) (hK65 : ∀ (x0 : Nat) (x1 : Int32) (x2 : Int32) (x3 : Int32) (x7 : Int64) (x9 : Int32) (σ : ah_H) (r : Int64 × ah_H), K65 x0 x1 x2 x3 x7 x9 σ = some r → AW G m_X12_allCome 3 0 0 65 [(0, .ref x0), (1, .int x1), (2, .int x2), (3, .int x3), (7, .long x7), (9, .int x9)] [] σ (ah_N G (ah_rl r))) (K103 : Nat → Int32 → Int32 → Int32 → Int64 → Int32 → Int64 → Int32 → ah_H → Option (Int64 × ah_H)) (hK103 : ∀ (x0 : Nat) (x1 : Int32) (x2 : Int32) (x3 : Int32) (x7 : Int64) (x9 : Int32) (x10 : Int64) (x12 : Int32) (σ : ah_H) (r : Int64 × ah_H), K103 x0 x1 x2 x3 x7 x9 x10 x12 σ = some r → AW G m_X12_allCome 3 0 0 103 [(0, .ref x0), (1, .int x1), (2, .int x2), (3, .int x3), (7, .long x7), (9, .int x9), (10, .long x10), (12, .int x12)] [] σ (ah_N G (ah_rl r))) : ∀ (x0 : Nat) (x1 : Int32) (x2 : Int32) (x3 : Int32) (x7 : Int64) (x9 : Int32) (x10 : Int64) (x12 : Int32) (σ : ah_H) (r : Int64 × ah_H), f_X12_allCome_103_b  K65 K103 x0 x1 x2 x3 x7 x9 x10 x12 σ = some r → AW G m_X12_allCome 3 0 0 103 [(0, .ref x0), (1, .int x1), (2, .int x2), (3, .int x3), (7, .long x7), (9, .int x9), (10, .long x10), (12, .int x12)] [] σ (ah_N G (ah_rl r)) := by
  intro x0 x1 x2 x3 x7 x9 x10 x12 σ r h
  unfold f_X12_allCome_103_b at h
  refine aw_iload (pc := 103) 7 dX12_allCome_103 rfl ?_
  refine aw_aload_n (pc := 105) 0 dX12_allCome_105 rfl ?_
  obtain ⟨v1, e, h⟩ := op_bd h
  refine ow_gR (pc := 106) e dX12_allCome_106 fd_X12_15 rfl ?_
  refine aw_iconst (pc := 109) (v := (0 : Int32)) dX12_allCome_109 (by decide) ?_
  obtain ⟨v2, e, h⟩ := op_bd h
  refine ow_aI (pc := 110) e dX12_allCome_110 ?_
  refine aw_icmp_ge (pc := 111) 153 dX12_allCome_111 (by decide) (fun z => ?_) (fun z => ?_)
  · replace h := (if_pos z).symm.trans h
    refine aw_sub [0, 1, 2, 3, 4, 5, 6] rfl ?_
    exact c_X12_allCome_153 K65 hK65 _ _ _ _ _ _ _ _ _ h
  · replace h := (if_neg z).symm.trans h
    refine aw_iload (pc := 114) 7 dX12_allCome_114 rfl ?_
    refine aw_iload (pc := 116) 5 dX12_allCome_116 rfl ?_
    refine aw_icmp_eq (pc := 118) 147 dX12_allCome_118 (by decide) (fun z => ?_) (fun z => ?_)
    · replace h := (if_pos z).symm.trans h
      exact c_X12_allCome_147 K65 hK65 K103 hK103 _ _ _ _ _ _ _ _ _ _ h
    · replace h := (if_neg z).symm.trans h
      refine aw_aload_n (pc := 121) 0 dX12_allCome_121 rfl ?_
      refine aw_iload (pc := 122) 7 dX12_allCome_122 rfl ?_
      refine aw_iload_n (pc := 124) 1 dX12_allCome_124 rfl ?_
      obtain ⟨r3, e, h⟩ := op_bd h
      refine ow_cVi (pc := 125) [.int x12, .int x1] ((c_X12_runsTo _ _ _ _ _ e).mono (by decide)) (op_ck_sh e) rfl dX12_allCome_125 cw_X12_416 rfl (Nat.le_of_ble_eq_true rfl) ?_
      refine aw_if_eq (pc := 128) 147 dX12_allCome_128 (by decide) (fun z => ?_) (fun z => ?_)
      · replace h := (if_pos z).symm.trans h
        exact c_X12_allCome_147 K65 hK65 K103 hK103 _ _ _ _ _ _ _ _ _ _ h
      · replace h := (if_neg z).symm.trans h
        refine aw_lload (pc := 131) 6 dX12_allCome_131 rfl ?_
        refine aw_aload_n (pc := 133) 0 dX12_allCome_133 rfl ?_
        refine aw_iload (pc := 134) 7 dX12_allCome_134 rfl ?_
        refine aw_iload_n (pc := 136) 2 dX12_allCome_136 rfl ?_
        refine aw_iload_n (pc := 137) 3 dX12_allCome_137 rfl ?_
        refine aw_iconst (pc := 138) (v := (0 : Int32)) dX12_allCome_138 (by decide) ?_
        obtain ⟨r4, e, h⟩ := op_bd h
        refine ow_cVl (pc := 139) [.int x12, .int x2, .int x3, .int (0 : Int32)] ((c_X12_comes _ _ _ _ _ _ _ e).mono (by decide)) (op_ck_sh e) rfl dX12_allCome_139 cw_X12_506 rfl (Nat.le_of_ble_eq_true rfl) ?_
        obtain ⟨r5, e, h⟩ := op_bd h
        refine ow_cSl (pc := 142) [.long x10, .long r4.1] ((c_X12_plus _ _ _ _ e).mono (by decide)) rfl dX12_allCome_142 cw_X12_510 rfl (Nat.le_of_ble_eq_true rfl) ?_
        refine aw_lstore (pc := 145) [(10, .long r5.1), (0, .ref x0), (1, .int x1), (2, .int x2), (3, .int x3), (7, .long x7), (9, .int x9), (12, .int x12)] dX12_allCome_145 (by decide) rfl ?_
        refine aw_sub [1, 2, 3, 4, 5, 6, 0, 7] rfl ?_
        exact c_X12_allCome_147 K65 hK65 K103 hK103 _ _ _ _ _ _ _ _ _ _ h
theorem c_X12_allCome_103 {G : ah_G}  (K65 : Nat → Int32 → Int32 → Int32 → Int64 → Int32 → ah_H → Option (Int64 × ah_H)) (hK65 : ∀ (x0 : Nat) (x1 : Int32) (x2 : Int32) (x3 : Int32) (x7 : Int64) (x9 : Int32) (σ : ah_H) (r : Int64 × ah_H), K65 x0 x1 x2 x3 x7 x9 σ = some r → AW G m_X12_allCome 3 0 0 65 [(0, .ref x0), (1, .int x1), (2, .int x2), (3, .int x3), (7, .long x7), (9, .int x9)] [] σ (ah_N G (ah_rl r))) : ∀ (n : Nat) (x0 : Nat) (x1 : Int32) (x2 : Int32) (x3 : Int32) (x7 : Int64) (x9 : Int32) (x10 : Int64) (x12 : Int32) (σ : ah_H) (r : Int64 × ah_H), f_X12_allCome_103  K65 n x0 x1 x2 x3 x7 x9 x10 x12 σ = some r → AW G m_X12_allCome 3 0 0 103 [(0, .ref x0), (1, .int x1), (2, .int x2), (3, .int x3), (7, .long x7), (9, .int x9), (10, .long x10), (12, .int x12)] [] σ (ah_N G (ah_rl r)) := by
  intro n
  induction n with
  | zero => intro x0 x1 x2 x3 x7 x9 x10 x12 σ r h; cases h
  | succ n ih => intro x0 x1 x2 x3 x7 x9 x10 x12 σ r h; exact c_X12_allCome_103_b  K65 hK65 _ ih x0 x1 x2 x3 x7 x9 x10 x12 σ r h
set_option maxRecDepth 100000 in
set_option maxHeartbeats 4000000 in
theorem c_X12_allCome_65_b {G : ah_G}  (K65 : Nat → Int32 → Int32 → Int32 → Int64 → Int32 → ah_H → Option (Int64 × ah_H)) (hK65 : ∀ (x0 : Nat) (x1 : Int32) (x2 : Int32) (x3 : Int32) (x7 : Int64) (x9 : Int32) (σ : ah_H) (r : Int64 × ah_H), K65 x0 x1 x2 x3 x7 x9 σ = some r → AW G m_X12_allCome 3 0 0 65 [(0, .ref x0), (1, .int x1), (2, .int x2), (3, .int x3), (7, .long x7), (9, .int x9)] [] σ (ah_N G (ah_rl r))) : ∀ (x0 : Nat) (x1 : Int32) (x2 : Int32) (x3 : Int32) (x7 : Int64) (x9 : Int32) (σ : ah_H) (r : Int64 × ah_H), f_X12_allCome_65_b  K65 x0 x1 x2 x3 x7 x9 σ = some r → AW G m_X12_allCome 3 0 0 65 [(0, .ref x0), (1, .int x1), (2, .int x2), (3, .int x3), (7, .long x7), (9, .int x9)] [] σ (ah_N G (ah_rl r)) := by
  intro x0 x1 x2 x3 x7 x9 σ r h
  unfold f_X12_allCome_65_b at h
  refine aw_iload (pc := 65) 5 dX12_allCome_65 rfl ?_
  refine aw_aload_n (pc := 67) 0 dX12_allCome_67 rfl ?_
  obtain ⟨v1, e, h⟩ := op_bd h
  refine ow_gR (pc := 68) e dX12_allCome_68 fd_X12_15 rfl ?_
  refine aw_iconst (pc := 71) (v := (0 : Int32)) dX12_allCome_71 (by decide) ?_
  obtain ⟨v2, e, h⟩ := op_bd h
  refine ow_aI (pc := 72) e dX12_allCome_72 ?_
  refine aw_icmp_ge (pc := 73) 168 dX12_allCome_73 (by decide) (fun z => ?_) (fun z => ?_)
  · replace h := (if_pos z).symm.trans h
    refine aw_lload (pc := 168) 4 dX12_allCome_168 rfl ?_
    exact ow_lret (pc := 170) h dX12_allCome_170 rfl
  · replace h := (if_neg z).symm.trans h
    refine aw_aload_n (pc := 76) 0 dX12_allCome_76 rfl ?_
    refine aw_iload (pc := 77) 5 dX12_allCome_77 rfl ?_
    refine aw_iload_n (pc := 79) 1 dX12_allCome_79 rfl ?_
    obtain ⟨r3, e, h⟩ := op_bd h
    refine ow_cVi (pc := 80) [.int x9, .int x1] ((c_X12_runsTo _ _ _ _ _ e).mono (by decide)) (op_ck_sh e) rfl dX12_allCome_80 cw_X12_416 rfl (Nat.le_of_ble_eq_true rfl) ?_
    refine aw_if_ne (pc := 83) 89 dX12_allCome_83 (by decide) (fun z => ?_) (fun z => ?_)
    · replace h := (if_neg z).symm.trans h
      refine aw_aload_n (pc := 89) 0 dX12_allCome_89 rfl ?_
      refine aw_iload (pc := 90) 5 dX12_allCome_90 rfl ?_
      refine aw_iload_n (pc := 92) 2 dX12_allCome_92 rfl ?_
      refine aw_iload_n (pc := 93) 3 dX12_allCome_93 rfl ?_
      refine aw_iconst (pc := 94) (v := (1 : Int32)) dX12_allCome_94 (by decide) ?_
      obtain ⟨r4, e, h⟩ := op_bd h
      refine ow_cVl (pc := 95) [.int x9, .int x2, .int x3, .int (1 : Int32)] ((c_X12_comes _ _ _ _ _ _ _ e).mono (by decide)) (op_ck_sh e) rfl dX12_allCome_95 cw_X12_506 rfl (Nat.le_of_ble_eq_true rfl) ?_
      refine aw_lstore (pc := 98) [(10, .long r4.1), (0, .ref x0), (1, .int x1), (2, .int x2), (3, .int x3), (7, .long x7), (9, .int x9)] dX12_allCome_98 (by decide) rfl ?_
      refine aw_iconst (pc := 100) (v := (0 : Int32)) dX12_allCome_100 (by decide) ?_
      refine aw_istore (pc := 101) [(12, .int (0 : Int32)), (10, .long r4.1), (0, .ref x0), (1, .int x1), (2, .int x2), (3, .int x3), (7, .long x7), (9, .int x9)] dX12_allCome_101 (by decide) rfl ?_
      refine aw_sub [2, 3, 4, 5, 6, 7, 1, 0] rfl ?_
      exact c_X12_allCome_103 K65 hK65 _ _ _ _ _ _ _ _ _ _ _ h
    · replace h := (if_pos z).symm.trans h
      refine aw_goto (pc := 86) 162 dX12_allCome_86 (by decide) ?_
      exact c_X12_allCome_162 K65 hK65 _ _ _ _ _ _ _ _ h
theorem c_X12_allCome_65 {G : ah_G}   : ∀ (n : Nat) (x0 : Nat) (x1 : Int32) (x2 : Int32) (x3 : Int32) (x7 : Int64) (x9 : Int32) (σ : ah_H) (r : Int64 × ah_H), f_X12_allCome_65   n x0 x1 x2 x3 x7 x9 σ = some r → AW G m_X12_allCome 3 0 0 65 [(0, .ref x0), (1, .int x1), (2, .int x2), (3, .int x3), (7, .long x7), (9, .int x9)] [] σ (ah_N G (ah_rl r)) := by
  intro n
  induction n with
  | zero => intro x0 x1 x2 x3 x7 x9 σ r h; cases h
  | succ n ih => intro x0 x1 x2 x3 x7 x9 σ r h; exact c_X12_allCome_65_b   _ ih x0 x1 x2 x3 x7 x9 σ r h
set_option maxRecDepth 100000 in
set_option maxHeartbeats 4000000 in
theorem c_X12_allCome_49 {G : ah_G}   : ∀ (x0 : Nat) (x1 : Int32) (x2 : Int32) (x3 : Int32) (x4 : Int32) (x5 : Int64) (σ : ah_H) (r : Int64 × ah_H), f_X12_allCome_49   x0 x1 x2 x3 x4 x5 σ = some r → AW G m_X12_allCome 3 0 0 49 [(0, .ref x0), (1, .int x1), (2, .int x2), (3, .int x3), (4, .int x4), (5, .long x5)] [] σ (ah_N G (ah_rl r)) := by
  intro x0 x1 x2 x3 x4 x5 σ r h
  unfold f_X12_allCome_49 at h
  refine aw_iload (pc := 49) 4 dX12_allCome_49 rfl ?_
  refine aw_if_ne (pc := 51) 57 dX12_allCome_51 (by decide) (fun z => ?_) (fun z => ?_)
  · replace h := (if_neg z).symm.trans h
    refine aw_ldc2 (pc := 57) dX12_allCome_57 kl_X12_423 ?_
    refine aw_lstore (pc := 60) [(7, .long (4000000000000000000 : Int64)), (0, .ref x0), (1, .int x1), (2, .int x2), (3, .int x3), (4, .int x4), (5, .long x5)] dX12_allCome_60 (by decide) rfl ?_
    refine aw_iconst (pc := 62) (v := (0 : Int32)) dX12_allCome_62 (by decide) ?_
    refine aw_istore (pc := 63) [(9, .int (0 : Int32)), (7, .long (4000000000000000000 : Int64)), (0, .ref x0), (1, .int x1), (2, .int x2), (3, .int x3), (4, .int x4), (5, .long x5)] dX12_allCome_63 (by decide) rfl ?_
    refine aw_sub [2, 3, 4, 5, 1, 0] rfl ?_
    exact c_X12_allCome_65  _ _ _ _ _ _ _ _ _ h
  · replace h := (if_pos z).symm.trans h
    refine aw_lload (pc := 54) 5 dX12_allCome_54 rfl ?_
    exact ow_lret (pc := 56) h dX12_allCome_56 rfl
set_option maxRecDepth 100000 in
set_option maxHeartbeats 4000000 in
theorem c_X12_allCome_6_b {G : ah_G}  (K6 : Nat → Int32 → Int32 → Int32 → Int32 → Int64 → Int32 → ah_H → Option (Int64 × ah_H)) (hK6 : ∀ (x0 : Nat) (x1 : Int32) (x2 : Int32) (x3 : Int32) (x4 : Int32) (x5 : Int64) (x7 : Int32) (σ : ah_H) (r : Int64 × ah_H), K6 x0 x1 x2 x3 x4 x5 x7 σ = some r → AW G m_X12_allCome 3 0 0 6 [(0, .ref x0), (1, .int x1), (2, .int x2), (3, .int x3), (4, .int x4), (5, .long x5), (7, .int x7)] [] σ (ah_N G (ah_rl r))) : ∀ (x0 : Nat) (x1 : Int32) (x2 : Int32) (x3 : Int32) (x4 : Int32) (x5 : Int64) (x7 : Int32) (σ : ah_H) (r : Int64 × ah_H), f_X12_allCome_6_b  K6 x0 x1 x2 x3 x4 x5 x7 σ = some r → AW G m_X12_allCome 3 0 0 6 [(0, .ref x0), (1, .int x1), (2, .int x2), (3, .int x3), (4, .int x4), (5, .long x5), (7, .int x7)] [] σ (ah_N G (ah_rl r)) := by
  intro x0 x1 x2 x3 x4 x5 x7 σ r h
  unfold f_X12_allCome_6_b at h
  refine aw_iload (pc := 6) 6 dX12_allCome_6 rfl ?_
  refine aw_aload_n (pc := 8) 0 dX12_allCome_8 rfl ?_
  obtain ⟨v1, e, h⟩ := op_bd h
  refine ow_gR (pc := 9) e dX12_allCome_9 fd_X12_15 rfl ?_
  refine aw_iconst (pc := 12) (v := (0 : Int32)) dX12_allCome_12 (by decide) ?_
  obtain ⟨v2, e, h⟩ := op_bd h
  refine ow_aI (pc := 13) e dX12_allCome_13 ?_
  refine aw_icmp_ge (pc := 14) 49 dX12_allCome_14 (by decide) (fun z => ?_) (fun z => ?_)
  · replace h := (if_pos z).symm.trans h
    refine aw_sub [0, 1, 2, 3, 4, 5] rfl ?_
    exact c_X12_allCome_49  _ _ _ _ _ _ _ _ h
  · replace h := (if_neg z).symm.trans h
    refine aw_aload_n (pc := 17) 0 dX12_allCome_17 rfl ?_
    refine aw_iload (pc := 18) 6 dX12_allCome_18 rfl ?_
    refine aw_iload_n (pc := 20) 1 dX12_allCome_20 rfl ?_
    obtain ⟨r3, e, h⟩ := op_bd h
    refine ow_cVi (pc := 21) [.int x7, .int x1] ((c_X12_runsTo _ _ _ _ _ e).mono (by decide)) (op_ck_sh e) rfl dX12_allCome_21 cw_X12_416 rfl (Nat.le_of_ble_eq_true rfl) ?_
    refine aw_if_eq (pc := 24) 43 dX12_allCome_24 (by decide) (fun z => ?_) (fun z => ?_)
    · replace h := (if_pos z).symm.trans h
      exact c_X12_allCome_43 K6 hK6 _ _ _ _ _ _ _ _ _ h
    · replace h := (if_neg z).symm.trans h
      refine aw_lload (pc := 27) 5 dX12_allCome_27 rfl ?_
      refine aw_aload_n (pc := 29) 0 dX12_allCome_29 rfl ?_
      refine aw_iload (pc := 30) 6 dX12_allCome_30 rfl ?_
      refine aw_iload_n (pc := 32) 2 dX12_allCome_32 rfl ?_
      refine aw_iload_n (pc := 33) 3 dX12_allCome_33 rfl ?_
      refine aw_iconst (pc := 34) (v := (0 : Int32)) dX12_allCome_34 (by decide) ?_
      obtain ⟨r4, e, h⟩ := op_bd h
      refine ow_cVl (pc := 35) [.int x7, .int x2, .int x3, .int (0 : Int32)] ((c_X12_comes _ _ _ _ _ _ _ e).mono (by decide)) (op_ck_sh e) rfl dX12_allCome_35 cw_X12_506 rfl (Nat.le_of_ble_eq_true rfl) ?_
      obtain ⟨r5, e, h⟩ := op_bd h
      refine ow_cSl (pc := 38) [.long x5, .long r4.1] ((c_X12_plus _ _ _ _ e).mono (by decide)) rfl dX12_allCome_38 cw_X12_510 rfl (Nat.le_of_ble_eq_true rfl) ?_
      refine aw_lstore (pc := 41) [(5, .long r5.1), (0, .ref x0), (1, .int x1), (2, .int x2), (3, .int x3), (4, .int x4), (7, .int x7)] dX12_allCome_41 (by decide) rfl ?_
      refine aw_sub [1, 2, 3, 4, 5, 0, 6] rfl ?_
      exact c_X12_allCome_43 K6 hK6 _ _ _ _ _ _ _ _ _ h
theorem c_X12_allCome_6 {G : ah_G}   : ∀ (n : Nat) (x0 : Nat) (x1 : Int32) (x2 : Int32) (x3 : Int32) (x4 : Int32) (x5 : Int64) (x7 : Int32) (σ : ah_H) (r : Int64 × ah_H), f_X12_allCome_6   n x0 x1 x2 x3 x4 x5 x7 σ = some r → AW G m_X12_allCome 3 0 0 6 [(0, .ref x0), (1, .int x1), (2, .int x2), (3, .int x3), (4, .int x4), (5, .long x5), (7, .int x7)] [] σ (ah_N G (ah_rl r)) := by
  intro n
  induction n with
  | zero => intro x0 x1 x2 x3 x4 x5 x7 σ r h; cases h
  | succ n ih => intro x0 x1 x2 x3 x4 x5 x7 σ r h; exact c_X12_allCome_6_b   _ ih x0 x1 x2 x3 x4 x5 x7 σ r h
set_option maxRecDepth 100000 in
set_option maxHeartbeats 4000000 in
theorem c_X12_allCome_0 {G : ah_G}   : ∀ (x0 : Nat) (x1 : Int32) (x2 : Int32) (x3 : Int32) (x4 : Int32) (σ : ah_H) (r : Int64 × ah_H), f_X12_allCome_0   x0 x1 x2 x3 x4 σ = some r → AW G m_X12_allCome 3 0 0 0 [(0, .ref x0), (1, .int x1), (2, .int x2), (3, .int x3), (4, .int x4)] [] σ (ah_N G (ah_rl r)) := by
  intro x0 x1 x2 x3 x4 σ r h
  unfold f_X12_allCome_0 at h
  refine aw_lconst (pc := 0) (v := (0 : Int64)) dX12_allCome_0 (by decide) ?_
  refine aw_lstore (pc := 1) [(5, .long (0 : Int64)), (0, .ref x0), (1, .int x1), (2, .int x2), (3, .int x3), (4, .int x4)] dX12_allCome_1 (by decide) rfl ?_
  refine aw_iconst (pc := 3) (v := (0 : Int32)) dX12_allCome_3 (by decide) ?_
  refine aw_istore (pc := 4) [(7, .int (0 : Int32)), (5, .long (0 : Int64)), (0, .ref x0), (1, .int x1), (2, .int x2), (3, .int x3), (4, .int x4)] dX12_allCome_4 (by decide) rfl ?_
  refine aw_sub [2, 3, 4, 5, 6, 1, 0] rfl ?_
  exact c_X12_allCome_6  _ _ _ _ _ _ _ _ _ _ h
theorem c_X12_allCome {G : ah_G}   (x0 : Nat) (x1 : Int32) (x2 : Int32) (x3 : Int32) (x4 : Int32) (σ : ah_H) (r : Int64 × ah_H) (h : f_X12_allCome  x0 x1 x2 x3 x4 σ = some r) : AM G m_X12_allCome 3 0 0 [.ref x0, .int x1, .int x2, .int x3, .int x4] σ (ah_rl r) := aw_enter (by decide) (Nat.le_of_ble_eq_true rfl) (c_X12_allCome_0 _ _ _ _ _ _ _ (op_ck_k h))
def f_X12_behind_15_b  (K15 : Nat → Int32 → Int32 → Int32 → Int64 → Int32 → ah_H → Option (Int64 × ah_H)) (x0 : Nat) (x1 : Int32) (x2 : Int32) (x3 : Int32) (x4 : Int64) (x6 : Int32) (σ : ah_H) : Option (Int64 × ah_H) :=
  (op_gR 12 3 σ x0).bind fun v1 => (op_aI σ v1 (9 : Int32)).bind fun v2 => if v2 < x6 then (some (x4, σ)) else ((f_X12_hasLaw x0 (2 : Int32) σ).bind fun r3 => if r3.1 = 0 then (some (x4, r3.2)) else ((op_gR 12 60 r3.2 x0).bind fun v4 => (op_aL r3.2 v4 x1).bind fun v5 => (f_X12_pumpBy x0 (x6 - x3) v5 r3.2).bind fun r6 => (f_X12_allCome x0 x1 x2 x6 (1 : Int32) r6.2).bind fun r7 => (f_X12_plus r6.1 r7.1 r7.2).bind fun r8 => K15 x0 x1 x2 x3 (op_minl x4 r8.1) (x6 + (1 : Int32)) r8.2))
def f_X12_behind_15   : Nat → Nat → Int32 → Int32 → Int32 → Int64 → Int32 → ah_H → Option (Int64 × ah_H)
  | 0, _, _, _, _, _, _, _ => none
  | n + 1, x0, x1, x2, x3, x4, x6, σ => f_X12_behind_15_b (f_X12_behind_15 n) x0 x1 x2 x3 x4 x6 σ
def f_X12_behind_0   (x0 : Nat) (x1 : Int32) (x2 : Int32) (x3 : Int32) (σ : ah_H) : Option (Int64 × ah_H) :=
  (f_X12_allCome x0 x1 x2 x3 (0 : Int32) σ).bind fun r1 => f_X12_behind_15 5000 x0 x1 x2 x3 r1.1 (x3 + (1 : Int32)) r1.2
def f_X12_behind  (x0 : Nat) (x1 : Int32) (x2 : Int32) (x3 : Int32) (σ : ah_H) : Option (Int64 × ah_H) := op_ck 12 σ x0 (f_X12_behind_0 x0 x1 x2 x3 σ)
set_option maxRecDepth 100000 in
set_option maxHeartbeats 4000000 in
theorem c_X12_behind_15_b {G : ah_G}  (K15 : Nat → Int32 → Int32 → Int32 → Int64 → Int32 → ah_H → Option (Int64 × ah_H)) (hK15 : ∀ (x0 : Nat) (x1 : Int32) (x2 : Int32) (x3 : Int32) (x4 : Int64) (x6 : Int32) (σ : ah_H) (r : Int64 × ah_H), K15 x0 x1 x2 x3 x4 x6 σ = some r → AW G m_X12_behind 4 0 0 15 [(0, .ref x0), (1, .int x1), (2, .int x2), (3, .int x3), (4, .long x4), (6, .int x6)] [] σ (ah_N G (ah_rl r))) : ∀ (x0 : Nat) (x1 : Int32) (x2 : Int32) (x3 : Int32) (x4 : Int64) (x6 : Int32) (σ : ah_H) (r : Int64 × ah_H), f_X12_behind_15_b  K15 x0 x1 x2 x3 x4 x6 σ = some r → AW G m_X12_behind 4 0 0 15 [(0, .ref x0), (1, .int x1), (2, .int x2), (3, .int x3), (4, .long x4), (6, .int x6)] [] σ (ah_N G (ah_rl r)) := by
  intro x0 x1 x2 x3 x4 x6 σ r h
  unfold f_X12_behind_15_b at h
  refine aw_iload (pc := 15) 5 dX12_behind_15 rfl ?_
  refine aw_aload_n (pc := 17) 0 dX12_behind_17 rfl ?_
  obtain ⟨v1, e, h⟩ := op_bd h
  refine ow_gR (pc := 18) e dX12_behind_18 fd_X12_15 rfl ?_
  refine aw_bipush (pc := 21) (v := (9 : Int32)) dX12_behind_21 (by decide) ?_
  obtain ⟨v2, e, h⟩ := op_bd h
  refine ow_aI (pc := 23) e dX12_behind_23 ?_
  refine aw_icmp_gt (pc := 24) 74 dX12_behind_24 (by decide) (fun z => ?_) (fun z => ?_)
  · replace h := (if_pos z).symm.trans h
    refine aw_lload (pc := 74) 4 dX12_behind_74 rfl ?_
    exact ow_lret (pc := 76) h dX12_behind_76 rfl
  · replace h := (if_neg z).symm.trans h
    refine aw_aload_n (pc := 27) 0 dX12_behind_27 rfl ?_
    refine aw_iconst (pc := 28) (v := (2 : Int32)) dX12_behind_28 (by decide) ?_
    obtain ⟨r3, e, h⟩ := op_bd h
    refine ow_cVi (pc := 29) [.int (2 : Int32)] ((c_X12_hasLaw _ _ _ _ e).mono (by decide)) (op_ck_sh e) rfl dX12_behind_29 cw_X12_360 rfl (Nat.le_of_ble_eq_true rfl) ?_
    refine aw_if_eq (pc := 32) 74 dX12_behind_32 (by decide) (fun z => ?_) (fun z => ?_)
    · replace h := (if_pos z).symm.trans h
      refine aw_lload (pc := 74) 4 dX12_behind_74 rfl ?_
      exact ow_lret (pc := 76) h dX12_behind_76 rfl
    · replace h := (if_neg z).symm.trans h
      refine aw_lload (pc := 35) 4 dX12_behind_35 rfl ?_
      refine aw_aload_n (pc := 37) 0 dX12_behind_37 rfl ?_
      refine aw_iload (pc := 38) 5 dX12_behind_38 rfl ?_
      refine aw_iload_n (pc := 40) 3 dX12_behind_40 rfl ?_
      refine aw_isub (pc := 41) dX12_behind_41 ?_
      refine aw_aload_n (pc := 42) 0 dX12_behind_42 rfl ?_
      obtain ⟨v4, e, h⟩ := op_bd h
      refine ow_gR (pc := 43) e dX12_behind_43 fd_X12_135 rfl ?_
      refine aw_iload_n (pc := 46) 1 dX12_behind_46 rfl ?_
      obtain ⟨v5, e, h⟩ := op_bd h
      refine ow_aL (pc := 47) e dX12_behind_47 ?_
      obtain ⟨r6, e, h⟩ := op_bd h
      refine ow_cVl (pc := 48) [.int (x6 - x3), .long v5] ((c_X12_pumpBy _ _ _ _ _ e).mono (by decide)) (op_ck_sh e) rfl dX12_behind_48 cw_X12_470 rfl (Nat.le_of_ble_eq_true rfl) ?_
      refine aw_aload_n (pc := 51) 0 dX12_behind_51 rfl ?_
      refine aw_iload_n (pc := 52) 1 dX12_behind_52 rfl ?_
      refine aw_iload_n (pc := 53) 2 dX12_behind_53 rfl ?_
      refine aw_iload (pc := 54) 5 dX12_behind_54 rfl ?_
      refine aw_iconst (pc := 56) (v := (1 : Int32)) dX12_behind_56 (by decide) ?_
      obtain ⟨r7, e, h⟩ := op_bd h
      refine ow_cVl (pc := 57) [.int x1, .int x2, .int x6, .int (1 : Int32)] ((c_X12_allCome _ _ _ _ _ _ _ e).mono (by decide)) (op_ck_sh e) rfl dX12_behind_57 cw_X12_513 rfl (Nat.le_of_ble_eq_true rfl) ?_
      obtain ⟨r8, e, h⟩ := op_bd h
      refine ow_cSl (pc := 60) [.long r6.1, .long r7.1] ((c_X12_plus _ _ _ _ e).mono (by decide)) rfl dX12_behind_60 cw_X12_510 rfl (Nat.le_of_ble_eq_true rfl) ?_
      refine ow_minl (pc := 63) dX12_behind_63 mt_X12_429 (Nat.le_of_ble_eq_true rfl) ?_
      refine aw_lstore (pc := 66) [(4, .long (op_minl x4 r8.1)), (0, .ref x0), (1, .int x1), (2, .int x2), (3, .int x3), (6, .int x6)] dX12_behind_66 (by decide) rfl ?_
      refine aw_iinc (pc := 68) 5 [(6, .int (x6 + (1 : Int32))), (4, .long (op_minl x4 r8.1)), (0, .ref x0), (1, .int x1), (2, .int x2), (3, .int x3)] (x6 + (1 : Int32)) dX12_behind_68 rfl rfl (by decide) rfl ?_
      refine aw_goto (pc := 71) 15 dX12_behind_71 (by decide) ?_
      refine aw_sub [2, 3, 4, 5, 1, 0] rfl ?_
      exact hK15 _ _ _ _ _ _ _ _ h
theorem c_X12_behind_15 {G : ah_G}   : ∀ (n : Nat) (x0 : Nat) (x1 : Int32) (x2 : Int32) (x3 : Int32) (x4 : Int64) (x6 : Int32) (σ : ah_H) (r : Int64 × ah_H), f_X12_behind_15   n x0 x1 x2 x3 x4 x6 σ = some r → AW G m_X12_behind 4 0 0 15 [(0, .ref x0), (1, .int x1), (2, .int x2), (3, .int x3), (4, .long x4), (6, .int x6)] [] σ (ah_N G (ah_rl r)) := by
  intro n
  induction n with
  | zero => intro x0 x1 x2 x3 x4 x6 σ r h; cases h
  | succ n ih => intro x0 x1 x2 x3 x4 x6 σ r h; exact c_X12_behind_15_b   _ ih x0 x1 x2 x3 x4 x6 σ r h
set_option maxRecDepth 100000 in
set_option maxHeartbeats 4000000 in
theorem c_X12_behind_0 {G : ah_G}   : ∀ (x0 : Nat) (x1 : Int32) (x2 : Int32) (x3 : Int32) (σ : ah_H) (r : Int64 × ah_H), f_X12_behind_0   x0 x1 x2 x3 σ = some r → AW G m_X12_behind 4 0 0 0 [(0, .ref x0), (1, .int x1), (2, .int x2), (3, .int x3)] [] σ (ah_N G (ah_rl r)) := by
  intro x0 x1 x2 x3 σ r h
  unfold f_X12_behind_0 at h
  refine aw_aload_n (pc := 0) 0 dX12_behind_0 rfl ?_
  refine aw_iload_n (pc := 1) 1 dX12_behind_1 rfl ?_
  refine aw_iload_n (pc := 2) 2 dX12_behind_2 rfl ?_
  refine aw_iload_n (pc := 3) 3 dX12_behind_3 rfl ?_
  refine aw_iconst (pc := 4) (v := (0 : Int32)) dX12_behind_4 (by decide) ?_
  obtain ⟨r1, e, h⟩ := op_bd h
  refine ow_cVl (pc := 5) [.int x1, .int x2, .int x3, .int (0 : Int32)] ((c_X12_allCome _ _ _ _ _ _ _ e).mono (by decide)) (op_ck_sh e) rfl dX12_behind_5 cw_X12_513 rfl (Nat.le_of_ble_eq_true rfl) ?_
  refine aw_lstore (pc := 8) [(4, .long r1.1), (0, .ref x0), (1, .int x1), (2, .int x2), (3, .int x3)] dX12_behind_8 (by decide) rfl ?_
  refine aw_iload_n (pc := 10) 4 dX12_behind_10 rfl ?_
  refine aw_iconst (pc := 11) (v := (1 : Int32)) dX12_behind_11 (by decide) ?_
  refine aw_iadd (pc := 12) dX12_behind_12 ?_
  refine aw_istore (pc := 13) [(6, .int (x3 + (1 : Int32))), (4, .long r1.1), (0, .ref x0), (1, .int x1), (2, .int x2), (3, .int x3)] dX12_behind_13 (by decide) rfl ?_
  refine aw_sub [2, 3, 4, 5, 1, 0] rfl ?_
  exact c_X12_behind_15  _ _ _ _ _ _ _ _ _ h
theorem c_X12_behind {G : ah_G}   (x0 : Nat) (x1 : Int32) (x2 : Int32) (x3 : Int32) (σ : ah_H) (r : Int64 × ah_H) (h : f_X12_behind  x0 x1 x2 x3 σ = some r) : AM G m_X12_behind 4 0 0 [.ref x0, .int x1, .int x2, .int x3] σ (ah_rl r) := aw_enter (by decide) (Nat.le_of_ble_eq_true rfl) (c_X12_behind_0 _ _ _ _ _ _ (op_ck_k h))
def f_X12_isFixed_0   (x0 : Int32) (x1 : Int32) (σ : ah_H) : Option (Int32 × ah_H) :=
  if x0 = (-1 : Int32) then ((op_rz (1 : Int32)).map fun q => (q, σ)) else (if x0 = x1 then ((op_rz (1 : Int32)).map fun q => (q, σ)) else ((op_rz (0 : Int32)).map fun q => (q, σ)))
def f_X12_isFixed  (x0 : Int32) (x1 : Int32) (σ : ah_H) : Option (Int32 × ah_H) := f_X12_isFixed_0 x0 x1 σ
set_option maxRecDepth 100000 in
set_option maxHeartbeats 4000000 in
theorem c_X12_isFixed_0 {G : ah_G}   : ∀ (x0 : Int32) (x1 : Int32) (σ : ah_H) (r : Int32 × ah_H), f_X12_isFixed_0   x0 x1 σ = some r → AW G m_X12_isFixed 0 0 0 0 [(0, .int x0), (1, .int x1)] [] σ (ah_N G (ah_ri r)) := by
  intro x0 x1 σ r h
  unfold f_X12_isFixed_0 at h
  refine aw_iload_n (pc := 0) 0 dX12_isFixed_0 rfl ?_
  refine aw_iconst (pc := 1) (v := (-1 : Int32)) dX12_isFixed_1 (by decide) ?_
  refine aw_icmp_eq (pc := 2) 10 dX12_isFixed_2 (by decide) (fun z => ?_) (fun z => ?_)
  · replace h := (if_pos z).symm.trans h
    refine aw_iconst (pc := 10) (v := (1 : Int32)) dX12_isFixed_10 (by decide) ?_
    refine aw_goto (pc := 11) 15 dX12_isFixed_11 (by decide) ?_
    exact ow_zret (pc := 15) h dX12_isFixed_15 rfl
  · replace h := (if_neg z).symm.trans h
    refine aw_iload_n (pc := 5) 0 dX12_isFixed_5 rfl ?_
    refine aw_iload_n (pc := 6) 1 dX12_isFixed_6 rfl ?_
    refine aw_icmp_ne (pc := 7) 14 dX12_isFixed_7 (by decide) (fun z => ?_) (fun z => ?_)
    · replace h := (if_neg z).symm.trans h
      refine aw_iconst (pc := 14) (v := (0 : Int32)) dX12_isFixed_14 (by decide) ?_
      exact ow_zret (pc := 15) h dX12_isFixed_15 rfl
    · replace h := (if_pos z).symm.trans h
      refine aw_iconst (pc := 10) (v := (1 : Int32)) dX12_isFixed_10 (by decide) ?_
      refine aw_goto (pc := 11) 15 dX12_isFixed_11 (by decide) ?_
      exact ow_zret (pc := 15) h dX12_isFixed_15 rfl
theorem c_X12_isFixed {G : ah_G}   (x0 : Int32) (x1 : Int32) (σ : ah_H) (r : Int32 × ah_H) (h : f_X12_isFixed  x0 x1 σ = some r) : AM G m_X12_isFixed 0 0 0 [.int x0, .int x1] σ (ah_ri r) := aw_enter (by decide) (Nat.le_of_ble_eq_true rfl) (c_X12_isFixed_0 _ _ _ _ h)
def f_X12_layCorner_265  (K38 : Nat → Int32 → Int32 → Int32 → ah_H → Option (ah_H)) (K57 : Nat → Int32 → Int32 → Int32 → Int32 → ah_H → Option (ah_H)) (K118 : Nat → Int32 → Int32 → Int32 → Int32 → Int64 → Int32 → ah_H → Option (ah_H)) (x0 : Nat) (x1 : Int32) (x2 : Int32) (x3 : Int32) (x4 : Int32) (x5 : Int64) (x7 : Int32) (σ : ah_H) : Option (ah_H) :=
  K118 x0 x1 x2 x3 x4 x5 (x7 + (1 : Int32)) σ
def f_X12_layCorner_271  (K38 : Nat → Int32 → Int32 → Int32 → ah_H → Option (ah_H)) (K57 : Nat → Int32 → Int32 → Int32 → Int32 → ah_H → Option (ah_H)) (x0 : Nat) (x1 : Int32) (x2 : Int32) (x3 : Int32) (x4 : Int32) (σ : ah_H) : Option (ah_H) :=
  K57 x0 x1 x2 x3 (x4 + (1 : Int32)) σ
def f_X12_layCorner_118_b  (K38 : Nat → Int32 → Int32 → Int32 → ah_H → Option (ah_H)) (K57 : Nat → Int32 → Int32 → Int32 → Int32 → ah_H → Option (ah_H)) (K118 : Nat → Int32 → Int32 → Int32 → Int32 → Int64 → Int32 → ah_H → Option (ah_H)) (x0 : Nat) (x1 : Int32) (x2 : Int32) (x3 : Int32) (x4 : Int32) (x5 : Int64) (x7 : Int32) (σ : ah_H) : Option (ah_H) :=
  (op_gR 12 3 σ x0).bind fun v1 => (op_aI σ v1 (9 : Int32)).bind fun v2 => if v2 < x7 then (f_X12_layCorner_271 K38 K57 x0 x1 x2 x3 x4 σ) else (if 0 ≤ (lg_cmp x5 (4000000000000000000 : Int64)) then (f_X12_layCorner_271 K38 K57 x0 x1 x2 x3 x4 σ) else ((f_X12_fallBy x0 x1 x2 x4 x7 σ).bind fun r3 => (op_gR 12 63 r3.2 x0).bind fun v4 => (op_aI r3.2 v4 x1).bind fun v5 => (f_X12_isFixed v5 x7 r3.2).bind fun r6 => if r6.1 = 0 then (f_X12_layCorner_265 K38 K57 K118 x0 x1 x2 x3 x4 x5 x7 r6.2) else ((op_gR 12 10 r6.2 x0).bind fun v7 => (op_aI r6.2 v7 x2).bind fun v8 => (op_gR 12 3 r6.2 x0).bind fun v9 => (op_aI r6.2 v9 (6 : Int32)).bind fun v10 => if r3.1 < (v8 * v10) then (f_X12_layCorner_265 K38 K57 K118 x0 x1 x2 x3 x4 x5 x7 r6.2) else ((op_gR 12 10 r6.2 x0).bind fun v11 => (op_aI r6.2 v11 x2).bind fun v12 => (op_gR 12 3 r6.2 x0).bind fun v13 => (op_aI r6.2 v13 (7 : Int32)).bind fun v14 => if (v12 * v14) < r3.1 then (f_X12_layCorner_265 K38 K57 K118 x0 x1 x2 x3 x4 x5 x7 r6.2) else ((f_X12_carriesBy x0 x3 x2 r3.1 r6.2).bind fun r15 => (op_gR 12 60 r15.2 x0).bind fun v16 => (op_aL r15.2 v16 x1).bind fun v17 => if 0 ≤ (lg_cmp r15.1 v17) then ((op_gR 12 59 r15.2 x0).bind fun v18 => (f_X12_atLeast x1 x3 x7 r15.2).bind fun r19 => (op_gR 12 59 r19.2 x0).bind fun v20 => (f_X12_atLeast x1 x3 x7 r19.2).bind fun r21 => (op_aL r21.2 v20 r21.1).bind fun v22 => (f_X12_costBy x0 x1 x3 x2 x4 x7 r21.2).bind fun r23 => (op_sL r23.2 v18 r19.1 (op_minl v22 (x5 + r23.1))).bind fun σ24 => f_X12_layCorner_265 K38 K57 K118 x0 x1 x2 x3 x4 x5 x7 σ24) else (f_X12_layCorner_265 K38 K57 K118 x0 x1 x2 x3 x4 x5 x7 r15.2))))))
def f_X12_layCorner_118  (K38 : Nat → Int32 → Int32 → Int32 → ah_H → Option (ah_H)) (K57 : Nat → Int32 → Int32 → Int32 → Int32 → ah_H → Option (ah_H)) : Nat → Nat → Int32 → Int32 → Int32 → Int32 → Int64 → Int32 → ah_H → Option (ah_H)
  | 0, _, _, _, _, _, _, _, _ => none
  | n + 1, x0, x1, x2, x3, x4, x5, x7, σ => f_X12_layCorner_118_b K38 K57 (f_X12_layCorner_118 K38 K57 n) x0 x1 x2 x3 x4 x5 x7 σ
def f_X12_layCorner_277  (K38 : Nat → Int32 → Int32 → Int32 → ah_H → Option (ah_H)) (x0 : Nat) (x1 : Int32) (x2 : Int32) (x3 : Int32) (σ : ah_H) : Option (ah_H) :=
  K38 x0 x1 x2 (x3 + (1 : Int32)) σ
def f_X12_layCorner_57_b  (K38 : Nat → Int32 → Int32 → Int32 → ah_H → Option (ah_H)) (K57 : Nat → Int32 → Int32 → Int32 → Int32 → ah_H → Option (ah_H)) (x0 : Nat) (x1 : Int32) (x2 : Int32) (x3 : Int32) (x4 : Int32) (σ : ah_H) : Option (ah_H) :=
  (op_gR 12 3 σ x0).bind fun v1 => (op_aI σ v1 (9 : Int32)).bind fun v2 => if v2 < x4 then (f_X12_layCorner_277 K38 x0 x1 x2 x3 σ) else ((op_gR 12 61 σ x0).bind fun v3 => (op_aI σ v3 x1).bind fun v4 => (f_X12_isFixed v4 x3 σ).bind fun r5 => if r5.1 = 0 then (f_X12_layCorner_277 K38 x0 x1 x2 x3 r5.2) else ((op_gR 12 62 r5.2 x0).bind fun v6 => (op_aI r5.2 v6 x1).bind fun v7 => (f_X12_isFixed v7 x4 r5.2).bind fun r8 => if r8.1 = 0 then (f_X12_layCorner_271 K38 K57 x0 x1 x2 x3 x4 r8.2) else ((f_X12_behind x0 x1 x3 x4 r8.2).bind fun r9 => (op_gR 12 3 r9.2 x0).bind fun v10 => (op_aI r9.2 v10 (8 : Int32)).bind fun v11 => f_X12_layCorner_118 K38 K57 5000 x0 x1 x2 x3 x4 r9.1 v11 r9.2)))
def f_X12_layCorner_57  (K38 : Nat → Int32 → Int32 → Int32 → ah_H → Option (ah_H)) : Nat → Nat → Int32 → Int32 → Int32 → Int32 → ah_H → Option (ah_H)
  | 0, _, _, _, _, _, _ => none
  | n + 1, x0, x1, x2, x3, x4, σ => f_X12_layCorner_57_b K38 (f_X12_layCorner_57 K38 n) x0 x1 x2 x3 x4 σ
def f_X12_layCorner_38_b  (K38 : Nat → Int32 → Int32 → Int32 → ah_H → Option (ah_H)) (x0 : Nat) (x1 : Int32) (x2 : Int32) (x3 : Int32) (σ : ah_H) : Option (ah_H) :=
  (op_gR 12 3 σ x0).bind fun v1 => (op_aI σ v1 (2 : Int32)).bind fun v2 => if v2 ≤ x3 then (some σ) else ((op_gR 12 3 σ x0).bind fun v3 => (op_aI σ v3 (8 : Int32)).bind fun v4 => f_X12_layCorner_57 K38 5000 x0 x1 x2 x3 v4 σ)
def f_X12_layCorner_38   : Nat → Nat → Int32 → Int32 → Int32 → ah_H → Option (ah_H)
  | 0, _, _, _, _, _ => none
  | n + 1, x0, x1, x2, x3, σ => f_X12_layCorner_38_b (f_X12_layCorner_38 n) x0 x1 x2 x3 σ
def f_X12_layCorner_30   (x0 : Nat) (x1 : Int32) (σ : ah_H) : Option (ah_H) :=
  (f_X12_streetOf x0 x1 σ).bind fun r1 => f_X12_layCorner_38 5000 x0 x1 r1.1 (0 : Int32) r1.2
def f_X12_layCorner_2_b  (K2 : Nat → Int32 → Int32 → ah_H → Option (ah_H)) (x0 : Nat) (x1 : Int32) (x2 : Int32) (σ : ah_H) : Option (ah_H) :=
  if (52 : Int32) ≤ x2 then (f_X12_layCorner_30 x0 x1 σ) else ((op_gR 12 59 σ x0).bind fun v1 => (f_X12_atLeast x1 (0 : Int32) (0 : Int32) σ).bind fun r2 => (op_sL r2.2 v1 (r2.1 + x2) (4000000000000000000 : Int64)).bind fun σ3 => K2 x0 x1 (x2 + (1 : Int32)) σ3)
def f_X12_layCorner_2   : Nat → Nat → Int32 → Int32 → ah_H → Option (ah_H)
  | 0, _, _, _, _ => none
  | n + 1, x0, x1, x2, σ => f_X12_layCorner_2_b (f_X12_layCorner_2 n) x0 x1 x2 σ
def f_X12_layCorner_0   (x0 : Nat) (x1 : Int32) (σ : ah_H) : Option (ah_H) :=
  f_X12_layCorner_2 5000 x0 x1 (0 : Int32) σ
def f_X12_layCorner  (x0 : Nat) (x1 : Int32) (σ : ah_H) : Option (ah_H) := op_ck 12 σ x0 (f_X12_layCorner_0 x0 x1 σ)
set_option maxRecDepth 100000 in
set_option maxHeartbeats 4000000 in
theorem c_X12_layCorner_265 {G : ah_G}  (K38 : Nat → Int32 → Int32 → Int32 → ah_H → Option (ah_H)) (hK38 : ∀ (x0 : Nat) (x1 : Int32) (x2 : Int32) (x3 : Int32) (σ : ah_H) (r : ah_H), K38 x0 x1 x2 x3 σ = some r → AW G m_X12_layCorner 5 0 0 38 [(0, .ref x0), (1, .int x1), (2, .int x2), (3, .int x3)] [] σ (ah_N G (ah_rv r))) (K57 : Nat → Int32 → Int32 → Int32 → Int32 → ah_H → Option (ah_H)) (hK57 : ∀ (x0 : Nat) (x1 : Int32) (x2 : Int32) (x3 : Int32) (x4 : Int32) (σ : ah_H) (r : ah_H), K57 x0 x1 x2 x3 x4 σ = some r → AW G m_X12_layCorner 5 0 0 57 [(0, .ref x0), (1, .int x1), (2, .int x2), (3, .int x3), (4, .int x4)] [] σ (ah_N G (ah_rv r))) (K118 : Nat → Int32 → Int32 → Int32 → Int32 → Int64 → Int32 → ah_H → Option (ah_H)) (hK118 : ∀ (x0 : Nat) (x1 : Int32) (x2 : Int32) (x3 : Int32) (x4 : Int32) (x5 : Int64) (x7 : Int32) (σ : ah_H) (r : ah_H), K118 x0 x1 x2 x3 x4 x5 x7 σ = some r → AW G m_X12_layCorner 5 0 0 118 [(0, .ref x0), (1, .int x1), (2, .int x2), (3, .int x3), (4, .int x4), (5, .long x5), (7, .int x7)] [] σ (ah_N G (ah_rv r))) : ∀ (x0 : Nat) (x1 : Int32) (x2 : Int32) (x3 : Int32) (x4 : Int32) (x5 : Int64) (x7 : Int32) (σ : ah_H) (r : ah_H), f_X12_layCorner_265  K38 K57 K118 x0 x1 x2 x3 x4 x5 x7 σ = some r → AW G m_X12_layCorner 5 0 0 265 [(0, .ref x0), (1, .int x1), (2, .int x2), (3, .int x3), (4, .int x4), (5, .long x5), (7, .int x7)] [] σ (ah_N G (ah_rv r)) := by
  intro x0 x1 x2 x3 x4 x5 x7 σ r h
  unfold f_X12_layCorner_265 at h
  refine aw_iinc (pc := 265) 6 [(7, .int (x7 + (1 : Int32))), (0, .ref x0), (1, .int x1), (2, .int x2), (3, .int x3), (4, .int x4), (5, .long x5)] (x7 + (1 : Int32)) dX12_layCorner_265 rfl rfl (by decide) rfl ?_
  refine aw_goto (pc := 268) 118 dX12_layCorner_268 (by decide) ?_
  refine aw_sub [1, 2, 3, 4, 5, 6, 0] rfl ?_
  exact hK118 _ _ _ _ _ _ _ _ _ h
set_option maxRecDepth 100000 in
set_option maxHeartbeats 4000000 in
theorem c_X12_layCorner_271 {G : ah_G}  (K38 : Nat → Int32 → Int32 → Int32 → ah_H → Option (ah_H)) (hK38 : ∀ (x0 : Nat) (x1 : Int32) (x2 : Int32) (x3 : Int32) (σ : ah_H) (r : ah_H), K38 x0 x1 x2 x3 σ = some r → AW G m_X12_layCorner 5 0 0 38 [(0, .ref x0), (1, .int x1), (2, .int x2), (3, .int x3)] [] σ (ah_N G (ah_rv r))) (K57 : Nat → Int32 → Int32 → Int32 → Int32 → ah_H → Option (ah_H)) (hK57 : ∀ (x0 : Nat) (x1 : Int32) (x2 : Int32) (x3 : Int32) (x4 : Int32) (σ : ah_H) (r : ah_H), K57 x0 x1 x2 x3 x4 σ = some r → AW G m_X12_layCorner 5 0 0 57 [(0, .ref x0), (1, .int x1), (2, .int x2), (3, .int x3), (4, .int x4)] [] σ (ah_N G (ah_rv r))) : ∀ (x0 : Nat) (x1 : Int32) (x2 : Int32) (x3 : Int32) (x4 : Int32) (σ : ah_H) (r : ah_H), f_X12_layCorner_271  K38 K57 x0 x1 x2 x3 x4 σ = some r → AW G m_X12_layCorner 5 0 0 271 [(0, .ref x0), (1, .int x1), (2, .int x2), (3, .int x3), (4, .int x4)] [] σ (ah_N G (ah_rv r)) := by
  intro x0 x1 x2 x3 x4 σ r h
  unfold f_X12_layCorner_271 at h
  refine aw_iinc (pc := 271) 4 [(4, .int (x4 + (1 : Int32))), (0, .ref x0), (1, .int x1), (2, .int x2), (3, .int x3)] (x4 + (1 : Int32)) dX12_layCorner_271 rfl rfl (by decide) rfl ?_
  refine aw_goto (pc := 274) 57 dX12_layCorner_274 (by decide) ?_
  refine aw_sub [1, 2, 3, 4, 0] rfl ?_
  exact hK57 _ _ _ _ _ _ _ h
set_option maxRecDepth 100000 in
set_option maxHeartbeats 4000000 in
theorem c_X12_layCorner_118_b {G : ah_G}  (K38 : Nat → Int32 → Int32 → Int32 → ah_H → Option (ah_H)) (hK38 : ∀ (x0 : Nat) (x1 : Int32) (x2 : Int32) (x3 : Int32) (σ : ah_H) (r : ah_H), K38 x0 x1 x2 x3 σ = some r → AW G m_X12_layCorner 5 0 0 38 [(0, .ref x0), (1, .int x1), (2, .int x2), (3, .int x3)] [] σ (ah_N G (ah_rv r))) (K57 : Nat → Int32 → Int32 → Int32 → Int32 → ah_H → Option (ah_H)) (hK57 : ∀ (x0 : Nat) (x1 : Int32) (x2 : Int32) (x3 : Int32) (x4 : Int32) (σ : ah_H) (r : ah_H), K57 x0 x1 x2 x3 x4 σ = some r → AW G m_X12_layCorner 5 0 0 57 [(0, .ref x0), (1, .int x1), (2, .int x2), (3, .int x3), (4, .int x4)] [] σ (ah_N G (ah_rv r))) (K118 : Nat → Int32 → Int32 → Int32 → Int32 → Int64 → Int32 → ah_H → Option (ah_H)) (hK118 : ∀ (x0 : Nat) (x1 : Int32) (x2 : Int32) (x3 : Int32) (x4 : Int32) (x5 : Int64) (x7 : Int32) (σ : ah_H) (r : ah_H), K118 x0 x1 x2 x3 x4 x5 x7 σ = some r → AW G m_X12_layCorner 5 0 0 118 [(0, .ref x0), (1, .int x1), (2, .int x2), (3, .int x3), (4, .int x4), (5, .long x5), (7, .int x7)] [] σ (ah_N G (ah_rv r))) : ∀ (x0 : Nat) (x1 : Int32) (x2 : Int32) (x3 : Int32) (x4 : Int32) (x5 : Int64) (x7 : Int32) (σ : ah_H) (r : ah_H), f_X12_layCorner_118_b  K38 K57 K118 x0 x1 x2 x3 x4 x5 x7 σ = some r → AW G m_X12_layCorner 5 0 0 118 [(0, .ref x0), (1, .int x1), (2, .int x2), (3, .int x3), (4, .int x4), (5, .long x5), (7, .int x7)] [] σ (ah_N G (ah_rv r)) := by
  intro x0 x1 x2 x3 x4 x5 x7 σ r h
  unfold f_X12_layCorner_118_b at h
  refine aw_iload (pc := 118) 6 dX12_layCorner_118 rfl ?_
  refine aw_aload_n (pc := 120) 0 dX12_layCorner_120 rfl ?_
  obtain ⟨v1, e, h⟩ := op_bd h
  refine ow_gR (pc := 121) e dX12_layCorner_121 fd_X12_15 rfl ?_
  refine aw_bipush (pc := 124) (v := (9 : Int32)) dX12_layCorner_124 (by decide) ?_
  obtain ⟨v2, e, h⟩ := op_bd h
  refine ow_aI (pc := 126) e dX12_layCorner_126 ?_
  refine aw_icmp_gt (pc := 127) 271 dX12_layCorner_127 (by decide) (fun z => ?_) (fun z => ?_)
  · replace h := (if_pos z).symm.trans h
    refine aw_sub [0, 1, 2, 3, 4] rfl ?_
    exact c_X12_layCorner_271 K38 hK38 K57 hK57 _ _ _ _ _ _ _ h
  · replace h := (if_neg z).symm.trans h
    refine aw_lload (pc := 130) 5 dX12_layCorner_130 rfl ?_
    refine aw_ldc2 (pc := 132) dX12_layCorner_132 kl_X12_423 ?_
    refine aw_lcmp (pc := 135) dX12_layCorner_135 ?_
    refine aw_if_ge (pc := 136) 271 dX12_layCorner_136 (by decide) (fun z => ?_) (fun z => ?_)
    · replace h := (if_pos z).symm.trans h
      refine aw_sub [0, 1, 2, 3, 4] rfl ?_
      exact c_X12_layCorner_271 K38 hK38 K57 hK57 _ _ _ _ _ _ _ h
    · replace h := (if_neg z).symm.trans h
      refine aw_aload_n (pc := 139) 0 dX12_layCorner_139 rfl ?_
      refine aw_iload_n (pc := 140) 1 dX12_layCorner_140 rfl ?_
      refine aw_iload_n (pc := 141) 2 dX12_layCorner_141 rfl ?_
      refine aw_iload (pc := 142) 4 dX12_layCorner_142 rfl ?_
      refine aw_iload (pc := 144) 6 dX12_layCorner_144 rfl ?_
      obtain ⟨r3, e, h⟩ := op_bd h
      refine ow_cVi (pc := 146) [.int x1, .int x2, .int x4, .int x7] ((c_X12_fallBy _ _ _ _ _ _ _ e).mono (by decide)) (op_ck_sh e) rfl dX12_layCorner_146 cw_X12_392 rfl (Nat.le_of_ble_eq_true rfl) ?_
      refine aw_istore (pc := 149) [(8, .int r3.1), (0, .ref x0), (1, .int x1), (2, .int x2), (3, .int x3), (4, .int x4), (5, .long x5), (7, .int x7)] dX12_layCorner_149 (by decide) rfl ?_
      refine aw_aload_n (pc := 151) 1 dX12_layCorner_151 rfl ?_
      obtain ⟨v4, e, h⟩ := op_bd h
      refine ow_gR (pc := 152) e dX12_layCorner_152 fd_X12_144 rfl ?_
      refine aw_iload_n (pc := 155) 2 dX12_layCorner_155 rfl ?_
      obtain ⟨v5, e, h⟩ := op_bd h
      refine ow_aI (pc := 156) e dX12_layCorner_156 ?_
      refine aw_iload (pc := 157) 7 dX12_layCorner_157 rfl ?_
      obtain ⟨r6, e, h⟩ := op_bd h
      refine ow_cSi (pc := 159) [.int v5, .int x7] ((c_X12_isFixed _ _ _ _ e).mono (by decide)) rfl dX12_layCorner_159 cw_X12_516 rfl (Nat.le_of_ble_eq_true rfl) ?_
      refine aw_if_eq (pc := 162) 265 dX12_layCorner_162 (by decide) (fun z => ?_) (fun z => ?_)
      · replace h := (if_pos z).symm.trans h
        refine aw_sub [1, 2, 3, 4, 5, 6, 7] rfl ?_
        exact c_X12_layCorner_265 K38 hK38 K57 hK57 K118 hK118 _ _ _ _ _ _ _ _ _ h
      · replace h := (if_neg z).symm.trans h
        refine aw_iload (pc := 165) 0 dX12_layCorner_165 rfl ?_
        refine aw_aload_n (pc := 167) 1 dX12_layCorner_167 rfl ?_
        obtain ⟨v7, e, h⟩ := op_bd h
        refine ow_gR (pc := 168) e dX12_layCorner_168 fd_X12_36 rfl ?_
        refine aw_iload_n (pc := 171) 3 dX12_layCorner_171 rfl ?_
        obtain ⟨v8, e, h⟩ := op_bd h
        refine ow_aI (pc := 172) e dX12_layCorner_172 ?_
        refine aw_aload_n (pc := 173) 1 dX12_layCorner_173 rfl ?_
        obtain ⟨v9, e, h⟩ := op_bd h
        refine ow_gR (pc := 174) e dX12_layCorner_174 fd_X12_15 rfl ?_
        refine aw_bipush (pc := 177) (v := (6 : Int32)) dX12_layCorner_177 (by decide) ?_
        obtain ⟨v10, e, h⟩ := op_bd h
        refine ow_aI (pc := 179) e dX12_layCorner_179 ?_
        refine aw_imul (pc := 180) dX12_layCorner_180 ?_
        refine aw_icmp_lt (pc := 181) 265 dX12_layCorner_181 (by decide) (fun z => ?_) (fun z => ?_)
        · replace h := (if_pos z).symm.trans h
          refine aw_sub [1, 2, 3, 4, 5, 6, 7] rfl ?_
          exact c_X12_layCorner_265 K38 hK38 K57 hK57 K118 hK118 _ _ _ _ _ _ _ _ _ h
        · replace h := (if_neg z).symm.trans h
          refine aw_iload (pc := 184) 0 dX12_layCorner_184 rfl ?_
          refine aw_aload_n (pc := 186) 1 dX12_layCorner_186 rfl ?_
          obtain ⟨v11, e, h⟩ := op_bd h
          refine ow_gR (pc := 187) e dX12_layCorner_187 fd_X12_36 rfl ?_
          refine aw_iload_n (pc := 190) 3 dX12_layCorner_190 rfl ?_
          obtain ⟨v12, e, h⟩ := op_bd h
          refine ow_aI (pc := 191) e dX12_layCorner_191 ?_
          refine aw_aload_n (pc := 192) 1 dX12_layCorner_192 rfl ?_
          obtain ⟨v13, e, h⟩ := op_bd h
          refine ow_gR (pc := 193) e dX12_layCorner_193 fd_X12_15 rfl ?_
          refine aw_bipush (pc := 196) (v := (7 : Int32)) dX12_layCorner_196 (by decide) ?_
          obtain ⟨v14, e, h⟩ := op_bd h
          refine ow_aI (pc := 198) e dX12_layCorner_198 ?_
          refine aw_imul (pc := 199) dX12_layCorner_199 ?_
          refine aw_icmp_gt (pc := 200) 265 dX12_layCorner_200 (by decide) (fun z => ?_) (fun z => ?_)
          · replace h := (if_pos z).symm.trans h
            refine aw_sub [1, 2, 3, 4, 5, 6, 7] rfl ?_
            exact c_X12_layCorner_265 K38 hK38 K57 hK57 K118 hK118 _ _ _ _ _ _ _ _ _ h
          · replace h := (if_neg z).symm.trans h
            refine aw_aload_n (pc := 203) 1 dX12_layCorner_203 rfl ?_
            refine aw_iload_n (pc := 204) 4 dX12_layCorner_204 rfl ?_
            refine aw_iload_n (pc := 205) 3 dX12_layCorner_205 rfl ?_
            refine aw_iload (pc := 206) 0 dX12_layCorner_206 rfl ?_
            obtain ⟨r15, e, h⟩ := op_bd h
            refine ow_cVl (pc := 208) [.int x3, .int x2, .int r3.1] ((c_X12_carriesBy _ _ _ _ _ _ e).mono (by decide)) (op_ck_sh e) rfl dX12_layCorner_208 cw_X12_402 rfl (Nat.le_of_ble_eq_true rfl) ?_
            refine aw_aload_n (pc := 211) 1 dX12_layCorner_211 rfl ?_
            obtain ⟨v16, e, h⟩ := op_bd h
            refine ow_gR (pc := 212) e dX12_layCorner_212 fd_X12_135 rfl ?_
            refine aw_iload_n (pc := 215) 2 dX12_layCorner_215 rfl ?_
            obtain ⟨v17, e, h⟩ := op_bd h
            refine ow_aL (pc := 216) e dX12_layCorner_216 ?_
            refine aw_lcmp (pc := 217) dX12_layCorner_217 ?_
            refine aw_if_ge (pc := 218) 224 dX12_layCorner_218 (by decide) (fun z => ?_) (fun z => ?_)
            · replace h := (if_pos z).symm.trans h
              refine aw_aload_n (pc := 224) 1 dX12_layCorner_224 rfl ?_
              obtain ⟨v18, e, h⟩ := op_bd h
              refine ow_gR (pc := 225) e dX12_layCorner_225 fd_X12_132 rfl ?_
              refine aw_iload_n (pc := 228) 2 dX12_layCorner_228 rfl ?_
              refine aw_iload_n (pc := 229) 4 dX12_layCorner_229 rfl ?_
              refine aw_iload (pc := 230) 7 dX12_layCorner_230 rfl ?_
              obtain ⟨r19, e, h⟩ := op_bd h
              refine ow_cSi (pc := 232) [.int x1, .int x3, .int x7] ((c_X12_atLeast _ _ _ _ _ e).mono (by decide)) rfl dX12_layCorner_232 cw_X12_503 rfl (Nat.le_of_ble_eq_true rfl) ?_
              refine aw_aload_n (pc := 235) 1 dX12_layCorner_235 rfl ?_
              obtain ⟨v20, e, h⟩ := op_bd h
              refine ow_gR (pc := 236) e dX12_layCorner_236 fd_X12_132 rfl ?_
              refine aw_iload_n (pc := 239) 2 dX12_layCorner_239 rfl ?_
              refine aw_iload_n (pc := 240) 4 dX12_layCorner_240 rfl ?_
              refine aw_iload (pc := 241) 7 dX12_layCorner_241 rfl ?_
              obtain ⟨r21, e, h⟩ := op_bd h
              refine ow_cSi (pc := 243) [.int x1, .int x3, .int x7] ((c_X12_atLeast _ _ _ _ _ e).mono (by decide)) rfl dX12_layCorner_243 cw_X12_503 rfl (Nat.le_of_ble_eq_true rfl) ?_
              obtain ⟨v22, e, h⟩ := op_bd h
              refine ow_aL (pc := 246) e dX12_layCorner_246 ?_
              refine aw_lload (pc := 247) 6 dX12_layCorner_247 rfl ?_
              refine aw_aload_n (pc := 249) 1 dX12_layCorner_249 rfl ?_
              refine aw_iload_n (pc := 250) 2 dX12_layCorner_250 rfl ?_
              refine aw_iload_n (pc := 251) 4 dX12_layCorner_251 rfl ?_
              refine aw_iload_n (pc := 252) 3 dX12_layCorner_252 rfl ?_
              refine aw_iload (pc := 253) 5 dX12_layCorner_253 rfl ?_
              refine aw_iload (pc := 255) 7 dX12_layCorner_255 rfl ?_
              obtain ⟨r23, e, h⟩ := op_bd h
              refine ow_cVl (pc := 257) [.int x1, .int x3, .int x2, .int x4, .int x7] ((c_X12_costBy _ _ _ _ _ _ _ _ e).mono (by decide)) (op_ck_sh e) rfl dX12_layCorner_257 cw_X12_453 rfl (Nat.le_of_ble_eq_true rfl) ?_
              refine aw_ladd (pc := 260) dX12_layCorner_260 ?_
              refine ow_minl (pc := 261) dX12_layCorner_261 mt_X12_429 (Nat.le_of_ble_eq_true rfl) ?_
              obtain ⟨σ24, e, h⟩ := op_bd h
              refine ow_sL (pc := 264) e dX12_layCorner_264 ?_
              refine aw_sub [1, 2, 3, 4, 5, 6, 7] rfl ?_
              exact c_X12_layCorner_265 K38 hK38 K57 hK57 K118 hK118 _ _ _ _ _ _ _ _ _ h
            · replace h := (if_neg z).symm.trans h
              refine aw_goto (pc := 221) 265 dX12_layCorner_221 (by decide) ?_
              refine aw_sub [1, 2, 3, 4, 5, 6, 7] rfl ?_
              exact c_X12_layCorner_265 K38 hK38 K57 hK57 K118 hK118 _ _ _ _ _ _ _ _ _ h
theorem c_X12_layCorner_118 {G : ah_G}  (K38 : Nat → Int32 → Int32 → Int32 → ah_H → Option (ah_H)) (hK38 : ∀ (x0 : Nat) (x1 : Int32) (x2 : Int32) (x3 : Int32) (σ : ah_H) (r : ah_H), K38 x0 x1 x2 x3 σ = some r → AW G m_X12_layCorner 5 0 0 38 [(0, .ref x0), (1, .int x1), (2, .int x2), (3, .int x3)] [] σ (ah_N G (ah_rv r))) (K57 : Nat → Int32 → Int32 → Int32 → Int32 → ah_H → Option (ah_H)) (hK57 : ∀ (x0 : Nat) (x1 : Int32) (x2 : Int32) (x3 : Int32) (x4 : Int32) (σ : ah_H) (r : ah_H), K57 x0 x1 x2 x3 x4 σ = some r → AW G m_X12_layCorner 5 0 0 57 [(0, .ref x0), (1, .int x1), (2, .int x2), (3, .int x3), (4, .int x4)] [] σ (ah_N G (ah_rv r))) : ∀ (n : Nat) (x0 : Nat) (x1 : Int32) (x2 : Int32) (x3 : Int32) (x4 : Int32) (x5 : Int64) (x7 : Int32) (σ : ah_H) (r : ah_H), f_X12_layCorner_118  K38 K57 n x0 x1 x2 x3 x4 x5 x7 σ = some r → AW G m_X12_layCorner 5 0 0 118 [(0, .ref x0), (1, .int x1), (2, .int x2), (3, .int x3), (4, .int x4), (5, .long x5), (7, .int x7)] [] σ (ah_N G (ah_rv r)) := by
  intro n
  induction n with
  | zero => intro x0 x1 x2 x3 x4 x5 x7 σ r h; cases h
  | succ n ih => intro x0 x1 x2 x3 x4 x5 x7 σ r h; exact c_X12_layCorner_118_b  K38 hK38 K57 hK57 _ ih x0 x1 x2 x3 x4 x5 x7 σ r h
set_option maxRecDepth 100000 in
set_option maxHeartbeats 4000000 in
theorem c_X12_layCorner_277 {G : ah_G}  (K38 : Nat → Int32 → Int32 → Int32 → ah_H → Option (ah_H)) (hK38 : ∀ (x0 : Nat) (x1 : Int32) (x2 : Int32) (x3 : Int32) (σ : ah_H) (r : ah_H), K38 x0 x1 x2 x3 σ = some r → AW G m_X12_layCorner 5 0 0 38 [(0, .ref x0), (1, .int x1), (2, .int x2), (3, .int x3)] [] σ (ah_N G (ah_rv r))) : ∀ (x0 : Nat) (x1 : Int32) (x2 : Int32) (x3 : Int32) (σ : ah_H) (r : ah_H), f_X12_layCorner_277  K38 x0 x1 x2 x3 σ = some r → AW G m_X12_layCorner 5 0 0 277 [(0, .ref x0), (1, .int x1), (2, .int x2), (3, .int x3)] [] σ (ah_N G (ah_rv r)) := by
  intro x0 x1 x2 x3 σ r h
  unfold f_X12_layCorner_277 at h
  refine aw_iinc (pc := 277) 3 [(3, .int (x3 + (1 : Int32))), (0, .ref x0), (1, .int x1), (2, .int x2)] (x3 + (1 : Int32)) dX12_layCorner_277 rfl rfl (by decide) rfl ?_
  refine aw_goto (pc := 280) 38 dX12_layCorner_280 (by decide) ?_
  refine aw_sub [1, 2, 3, 0] rfl ?_
  exact hK38 _ _ _ _ _ _ h
set_option maxRecDepth 100000 in
set_option maxHeartbeats 4000000 in
theorem c_X12_layCorner_57_b {G : ah_G}  (K38 : Nat → Int32 → Int32 → Int32 → ah_H → Option (ah_H)) (hK38 : ∀ (x0 : Nat) (x1 : Int32) (x2 : Int32) (x3 : Int32) (σ : ah_H) (r : ah_H), K38 x0 x1 x2 x3 σ = some r → AW G m_X12_layCorner 5 0 0 38 [(0, .ref x0), (1, .int x1), (2, .int x2), (3, .int x3)] [] σ (ah_N G (ah_rv r))) (K57 : Nat → Int32 → Int32 → Int32 → Int32 → ah_H → Option (ah_H)) (hK57 : ∀ (x0 : Nat) (x1 : Int32) (x2 : Int32) (x3 : Int32) (x4 : Int32) (σ : ah_H) (r : ah_H), K57 x0 x1 x2 x3 x4 σ = some r → AW G m_X12_layCorner 5 0 0 57 [(0, .ref x0), (1, .int x1), (2, .int x2), (3, .int x3), (4, .int x4)] [] σ (ah_N G (ah_rv r))) : ∀ (x0 : Nat) (x1 : Int32) (x2 : Int32) (x3 : Int32) (x4 : Int32) (σ : ah_H) (r : ah_H), f_X12_layCorner_57_b  K38 K57 x0 x1 x2 x3 x4 σ = some r → AW G m_X12_layCorner 5 0 0 57 [(0, .ref x0), (1, .int x1), (2, .int x2), (3, .int x3), (4, .int x4)] [] σ (ah_N G (ah_rv r)) := by
  intro x0 x1 x2 x3 x4 σ r h
  unfold f_X12_layCorner_57_b at h
  refine aw_iload (pc := 57) 4 dX12_layCorner_57 rfl ?_
  refine aw_aload_n (pc := 59) 0 dX12_layCorner_59 rfl ?_
  obtain ⟨v1, e, h⟩ := op_bd h
  refine ow_gR (pc := 60) e dX12_layCorner_60 fd_X12_15 rfl ?_
  refine aw_bipush (pc := 63) (v := (9 : Int32)) dX12_layCorner_63 (by decide) ?_
  obtain ⟨v2, e, h⟩ := op_bd h
  refine ow_aI (pc := 65) e dX12_layCorner_65 ?_
  refine aw_icmp_gt (pc := 66) 277 dX12_layCorner_66 (by decide) (fun z => ?_) (fun z => ?_)
  · replace h := (if_pos z).symm.trans h
    refine aw_sub [0, 1, 2, 3] rfl ?_
    exact c_X12_layCorner_277 K38 hK38 _ _ _ _ _ _ h
  · replace h := (if_neg z).symm.trans h
    refine aw_aload_n (pc := 69) 0 dX12_layCorner_69 rfl ?_
    obtain ⟨v3, e, h⟩ := op_bd h
    refine ow_gR (pc := 70) e dX12_layCorner_70 fd_X12_138 rfl ?_
    refine aw_iload_n (pc := 73) 1 dX12_layCorner_73 rfl ?_
    obtain ⟨v4, e, h⟩ := op_bd h
    refine ow_aI (pc := 74) e dX12_layCorner_74 ?_
    refine aw_iload_n (pc := 75) 3 dX12_layCorner_75 rfl ?_
    obtain ⟨r5, e, h⟩ := op_bd h
    refine ow_cSi (pc := 76) [.int v4, .int x3] ((c_X12_isFixed _ _ _ _ e).mono (by decide)) rfl dX12_layCorner_76 cw_X12_516 rfl (Nat.le_of_ble_eq_true rfl) ?_
    refine aw_if_eq (pc := 79) 277 dX12_layCorner_79 (by decide) (fun z => ?_) (fun z => ?_)
    · replace h := (if_pos z).symm.trans h
      refine aw_sub [0, 1, 2, 3] rfl ?_
      exact c_X12_layCorner_277 K38 hK38 _ _ _ _ _ _ h
    · replace h := (if_neg z).symm.trans h
      refine aw_aload_n (pc := 82) 0 dX12_layCorner_82 rfl ?_
      obtain ⟨v6, e, h⟩ := op_bd h
      refine ow_gR (pc := 83) e dX12_layCorner_83 fd_X12_141 rfl ?_
      refine aw_iload_n (pc := 86) 1 dX12_layCorner_86 rfl ?_
      obtain ⟨v7, e, h⟩ := op_bd h
      refine ow_aI (pc := 87) e dX12_layCorner_87 ?_
      refine aw_iload (pc := 88) 4 dX12_layCorner_88 rfl ?_
      obtain ⟨r8, e, h⟩ := op_bd h
      refine ow_cSi (pc := 90) [.int v7, .int x4] ((c_X12_isFixed _ _ _ _ e).mono (by decide)) rfl dX12_layCorner_90 cw_X12_516 rfl (Nat.le_of_ble_eq_true rfl) ?_
      refine aw_if_ne (pc := 93) 99 dX12_layCorner_93 (by decide) (fun z => ?_) (fun z => ?_)
      · replace h := (if_neg z).symm.trans h
        refine aw_aload_n (pc := 99) 0 dX12_layCorner_99 rfl ?_
        refine aw_iload_n (pc := 100) 1 dX12_layCorner_100 rfl ?_
        refine aw_iload_n (pc := 101) 3 dX12_layCorner_101 rfl ?_
        refine aw_iload (pc := 102) 4 dX12_layCorner_102 rfl ?_
        obtain ⟨r9, e, h⟩ := op_bd h
        refine ow_cVl (pc := 104) [.int x1, .int x3, .int x4] ((c_X12_behind _ _ _ _ _ _ e).mono (by decide)) (op_ck_sh e) rfl dX12_layCorner_104 cw_X12_519 rfl (Nat.le_of_ble_eq_true rfl) ?_
        refine aw_lstore (pc := 107) [(5, .long r9.1), (0, .ref x0), (1, .int x1), (2, .int x2), (3, .int x3), (4, .int x4)] dX12_layCorner_107 (by decide) rfl ?_
        refine aw_aload_n (pc := 109) 1 dX12_layCorner_109 rfl ?_
        obtain ⟨v10, e, h⟩ := op_bd h
        refine ow_gR (pc := 110) e dX12_layCorner_110 fd_X12_15 rfl ?_
        refine aw_bipush (pc := 113) (v := (8 : Int32)) dX12_layCorner_113 (by decide) ?_
        obtain ⟨v11, e, h⟩ := op_bd h
        refine ow_aI (pc := 115) e dX12_layCorner_115 ?_
        refine aw_istore (pc := 116) [(7, .int v11), (5, .long r9.1), (0, .ref x0), (1, .int x1), (2, .int x2), (3, .int x3), (4, .int x4)] dX12_layCorner_116 (by decide) rfl ?_
        refine aw_sub [2, 3, 4, 5, 6, 1, 0] rfl ?_
        exact c_X12_layCorner_118 K38 hK38 K57 hK57 _ _ _ _ _ _ _ _ _ _ h
      · replace h := (if_pos z).symm.trans h
        refine aw_goto (pc := 96) 271 dX12_layCorner_96 (by decide) ?_
        exact c_X12_layCorner_271 K38 hK38 K57 hK57 _ _ _ _ _ _ _ h
theorem c_X12_layCorner_57 {G : ah_G}  (K38 : Nat → Int32 → Int32 → Int32 → ah_H → Option (ah_H)) (hK38 : ∀ (x0 : Nat) (x1 : Int32) (x2 : Int32) (x3 : Int32) (σ : ah_H) (r : ah_H), K38 x0 x1 x2 x3 σ = some r → AW G m_X12_layCorner 5 0 0 38 [(0, .ref x0), (1, .int x1), (2, .int x2), (3, .int x3)] [] σ (ah_N G (ah_rv r))) : ∀ (n : Nat) (x0 : Nat) (x1 : Int32) (x2 : Int32) (x3 : Int32) (x4 : Int32) (σ : ah_H) (r : ah_H), f_X12_layCorner_57  K38 n x0 x1 x2 x3 x4 σ = some r → AW G m_X12_layCorner 5 0 0 57 [(0, .ref x0), (1, .int x1), (2, .int x2), (3, .int x3), (4, .int x4)] [] σ (ah_N G (ah_rv r)) := by
  intro n
  induction n with
  | zero => intro x0 x1 x2 x3 x4 σ r h; cases h
  | succ n ih => intro x0 x1 x2 x3 x4 σ r h; exact c_X12_layCorner_57_b  K38 hK38 _ ih x0 x1 x2 x3 x4 σ r h
set_option maxRecDepth 100000 in
set_option maxHeartbeats 4000000 in
theorem c_X12_layCorner_38_b {G : ah_G}  (K38 : Nat → Int32 → Int32 → Int32 → ah_H → Option (ah_H)) (hK38 : ∀ (x0 : Nat) (x1 : Int32) (x2 : Int32) (x3 : Int32) (σ : ah_H) (r : ah_H), K38 x0 x1 x2 x3 σ = some r → AW G m_X12_layCorner 5 0 0 38 [(0, .ref x0), (1, .int x1), (2, .int x2), (3, .int x3)] [] σ (ah_N G (ah_rv r))) : ∀ (x0 : Nat) (x1 : Int32) (x2 : Int32) (x3 : Int32) (σ : ah_H) (r : ah_H), f_X12_layCorner_38_b  K38 x0 x1 x2 x3 σ = some r → AW G m_X12_layCorner 5 0 0 38 [(0, .ref x0), (1, .int x1), (2, .int x2), (3, .int x3)] [] σ (ah_N G (ah_rv r)) := by
  intro x0 x1 x2 x3 σ r h
  unfold f_X12_layCorner_38_b at h
  refine aw_iload_n (pc := 38) 3 dX12_layCorner_38 rfl ?_
  refine aw_aload_n (pc := 39) 0 dX12_layCorner_39 rfl ?_
  obtain ⟨v1, e, h⟩ := op_bd h
  refine ow_gR (pc := 40) e dX12_layCorner_40 fd_X12_15 rfl ?_
  refine aw_iconst (pc := 43) (v := (2 : Int32)) dX12_layCorner_43 (by decide) ?_
  obtain ⟨v2, e, h⟩ := op_bd h
  refine ow_aI (pc := 44) e dX12_layCorner_44 ?_
  refine aw_icmp_ge (pc := 45) 283 dX12_layCorner_45 (by decide) (fun z => ?_) (fun z => ?_)
  · replace h := (if_pos z).symm.trans h
    exact ow_vret (pc := 283) h dX12_layCorner_283 rfl
  · replace h := (if_neg z).symm.trans h
    refine aw_aload_n (pc := 48) 0 dX12_layCorner_48 rfl ?_
    obtain ⟨v3, e, h⟩ := op_bd h
    refine ow_gR (pc := 49) e dX12_layCorner_49 fd_X12_15 rfl ?_
    refine aw_bipush (pc := 52) (v := (8 : Int32)) dX12_layCorner_52 (by decide) ?_
    obtain ⟨v4, e, h⟩ := op_bd h
    refine ow_aI (pc := 54) e dX12_layCorner_54 ?_
    refine aw_istore (pc := 55) [(4, .int v4), (0, .ref x0), (1, .int x1), (2, .int x2), (3, .int x3)] dX12_layCorner_55 (by decide) rfl ?_
    refine aw_sub [1, 2, 3, 4, 0] rfl ?_
    exact c_X12_layCorner_57 K38 hK38 _ _ _ _ _ _ _ _ h
theorem c_X12_layCorner_38 {G : ah_G}   : ∀ (n : Nat) (x0 : Nat) (x1 : Int32) (x2 : Int32) (x3 : Int32) (σ : ah_H) (r : ah_H), f_X12_layCorner_38   n x0 x1 x2 x3 σ = some r → AW G m_X12_layCorner 5 0 0 38 [(0, .ref x0), (1, .int x1), (2, .int x2), (3, .int x3)] [] σ (ah_N G (ah_rv r)) := by
  intro n
  induction n with
  | zero => intro x0 x1 x2 x3 σ r h; cases h
  | succ n ih => intro x0 x1 x2 x3 σ r h; exact c_X12_layCorner_38_b   _ ih x0 x1 x2 x3 σ r h
set_option maxRecDepth 100000 in
set_option maxHeartbeats 4000000 in
theorem c_X12_layCorner_30 {G : ah_G}   : ∀ (x0 : Nat) (x1 : Int32) (σ : ah_H) (r : ah_H), f_X12_layCorner_30   x0 x1 σ = some r → AW G m_X12_layCorner 5 0 0 30 [(0, .ref x0), (1, .int x1)] [] σ (ah_N G (ah_rv r)) := by
  intro x0 x1 σ r h
  unfold f_X12_layCorner_30 at h
  refine aw_aload_n (pc := 30) 0 dX12_layCorner_30 rfl ?_
  refine aw_iload_n (pc := 31) 1 dX12_layCorner_31 rfl ?_
  obtain ⟨r1, e, h⟩ := op_bd h
  refine ow_cVi (pc := 32) [.int x1] ((c_X12_streetOf _ _ _ _ e).mono (by decide)) (op_ck_sh e) rfl dX12_layCorner_32 cw_X12_374 rfl (Nat.le_of_ble_eq_true rfl) ?_
  refine aw_istore_n (pc := 35) [(2, .int r1.1), (0, .ref x0), (1, .int x1)] dX12_layCorner_35 rfl (by decide) rfl ?_
  refine aw_iconst (pc := 36) (v := (0 : Int32)) dX12_layCorner_36 (by decide) ?_
  refine aw_istore_n (pc := 37) [(3, .int (0 : Int32)), (2, .int r1.1), (0, .ref x0), (1, .int x1)] dX12_layCorner_37 rfl (by decide) rfl ?_
  refine aw_sub [2, 3, 1, 0] rfl ?_
  exact c_X12_layCorner_38  _ _ _ _ _ _ _ h
set_option maxRecDepth 100000 in
set_option maxHeartbeats 4000000 in
theorem c_X12_layCorner_2_b {G : ah_G}  (K2 : Nat → Int32 → Int32 → ah_H → Option (ah_H)) (hK2 : ∀ (x0 : Nat) (x1 : Int32) (x2 : Int32) (σ : ah_H) (r : ah_H), K2 x0 x1 x2 σ = some r → AW G m_X12_layCorner 5 0 0 2 [(0, .ref x0), (1, .int x1), (2, .int x2)] [] σ (ah_N G (ah_rv r))) : ∀ (x0 : Nat) (x1 : Int32) (x2 : Int32) (σ : ah_H) (r : ah_H), f_X12_layCorner_2_b  K2 x0 x1 x2 σ = some r → AW G m_X12_layCorner 5 0 0 2 [(0, .ref x0), (1, .int x1), (2, .int x2)] [] σ (ah_N G (ah_rv r)) := by
  intro x0 x1 x2 σ r h
  unfold f_X12_layCorner_2_b at h
  refine aw_iload_n (pc := 2) 2 dX12_layCorner_2 rfl ?_
  refine aw_bipush (pc := 3) (v := (52 : Int32)) dX12_layCorner_3 (by decide) ?_
  refine aw_icmp_ge (pc := 5) 30 dX12_layCorner_5 (by decide) (fun z => ?_) (fun z => ?_)
  · replace h := (if_pos z).symm.trans h
    refine aw_sub [0, 1] rfl ?_
    exact c_X12_layCorner_30  _ _ _ _ h
  · replace h := (if_neg z).symm.trans h
    refine aw_aload_n (pc := 8) 0 dX12_layCorner_8 rfl ?_
    obtain ⟨v1, e, h⟩ := op_bd h
    refine ow_gR (pc := 9) e dX12_layCorner_9 fd_X12_132 rfl ?_
    refine aw_iload_n (pc := 12) 1 dX12_layCorner_12 rfl ?_
    refine aw_iconst (pc := 13) (v := (0 : Int32)) dX12_layCorner_13 (by decide) ?_
    refine aw_iconst (pc := 14) (v := (0 : Int32)) dX12_layCorner_14 (by decide) ?_
    obtain ⟨r2, e, h⟩ := op_bd h
    refine ow_cSi (pc := 15) [.int x1, .int (0 : Int32), .int (0 : Int32)] ((c_X12_atLeast _ _ _ _ _ e).mono (by decide)) rfl dX12_layCorner_15 cw_X12_503 rfl (Nat.le_of_ble_eq_true rfl) ?_
    refine aw_iload_n (pc := 18) 2 dX12_layCorner_18 rfl ?_
    refine aw_iadd (pc := 19) dX12_layCorner_19 ?_
    refine aw_ldc2 (pc := 20) dX12_layCorner_20 kl_X12_423 ?_
    obtain ⟨σ3, e, h⟩ := op_bd h
    refine ow_sL (pc := 23) e dX12_layCorner_23 ?_
    refine aw_iinc (pc := 24) 2 [(2, .int (x2 + (1 : Int32))), (0, .ref x0), (1, .int x1)] (x2 + (1 : Int32)) dX12_layCorner_24 rfl rfl (by decide) rfl ?_
    refine aw_goto (pc := 27) 2 dX12_layCorner_27 (by decide) ?_
    refine aw_sub [1, 2, 0] rfl ?_
    exact hK2 _ _ _ _ _ h
theorem c_X12_layCorner_2 {G : ah_G}   : ∀ (n : Nat) (x0 : Nat) (x1 : Int32) (x2 : Int32) (σ : ah_H) (r : ah_H), f_X12_layCorner_2   n x0 x1 x2 σ = some r → AW G m_X12_layCorner 5 0 0 2 [(0, .ref x0), (1, .int x1), (2, .int x2)] [] σ (ah_N G (ah_rv r)) := by
  intro n
  induction n with
  | zero => intro x0 x1 x2 σ r h; cases h
  | succ n ih => intro x0 x1 x2 σ r h; exact c_X12_layCorner_2_b   _ ih x0 x1 x2 σ r h
set_option maxRecDepth 100000 in
set_option maxHeartbeats 4000000 in
theorem c_X12_layCorner_0 {G : ah_G}   : ∀ (x0 : Nat) (x1 : Int32) (σ : ah_H) (r : ah_H), f_X12_layCorner_0   x0 x1 σ = some r → AW G m_X12_layCorner 5 0 0 0 [(0, .ref x0), (1, .int x1)] [] σ (ah_N G (ah_rv r)) := by
  intro x0 x1 σ r h
  unfold f_X12_layCorner_0 at h
  refine aw_iconst (pc := 0) (v := (0 : Int32)) dX12_layCorner_0 (by decide) ?_
  refine aw_istore_n (pc := 1) [(2, .int (0 : Int32)), (0, .ref x0), (1, .int x1)] dX12_layCorner_1 rfl (by decide) rfl ?_
  refine aw_sub [1, 2, 0] rfl ?_
  exact c_X12_layCorner_2  _ _ _ _ _ _ h
theorem c_X12_layCorner {G : ah_G}   (x0 : Nat) (x1 : Int32) (σ : ah_H) (r : ah_H) (h : f_X12_layCorner  x0 x1 σ = some r) : AM G m_X12_layCorner 5 0 0 [.ref x0, .int x1] σ (ah_rv r) := aw_enter (by decide) (Nat.le_of_ble_eq_true rfl) (c_X12_layCorner_0 _ _ _ _ (op_ck_k h))
