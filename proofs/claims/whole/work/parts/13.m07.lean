def f_X6_canBuild_0   (x0 : Nat) (x1 : Int32) (x2 : Int32) (σ : ah_H) : Option (Int32 × ah_H) :=
  (op_gR 6 3 σ x0).bind fun v1 => (op_gR 5 0 σ v1).bind fun v2 => (op_aI σ v2 x1).bind fun v3 => if v3 = (-1 : Int32) then ((op_rz (0 : Int32)).map fun q => (q, σ)) else (if ((x2 >>> (x1 &&& 31)) &&& (1 : Int32)) = 0 then ((op_gR 6 4 σ x0).bind fun v4 => (f_X9_otherEnd v4 v3 x1 σ).bind fun r5 => if ((x2 >>> (r5.1 &&& 31)) &&& (1 : Int32)) = 0 then ((op_rz (0 : Int32)).map fun q => (q, r5.2)) else ((op_rz (1 : Int32)).map fun q => (q, r5.2))) else ((op_rz (0 : Int32)).map fun q => (q, σ)))
def f_X6_canBuild  (x0 : Nat) (x1 : Int32) (x2 : Int32) (σ : ah_H) : Option (Int32 × ah_H) := op_ck 6 σ x0 (f_X6_canBuild_0 x0 x1 x2 σ)
set_option maxRecDepth 100000 in
set_option maxHeartbeats 4000000 in
theorem c_X6_canBuild_0 {G : ah_G}   : ∀ (x0 : Nat) (x1 : Int32) (x2 : Int32) (σ : ah_H) (r : Int32 × ah_H), f_X6_canBuild_0   x0 x1 x2 σ = some r → AW G m_X6_canBuild 1 0 0 0 [(0, .ref x0), (1, .int x1), (2, .int x2)] [] σ (ah_N G (ah_ri r)) := by
  intro x0 x1 x2 σ r h
  unfold f_X6_canBuild_0 at h
  refine aw_aload_n (pc := 0) 0 dX6_canBuild_0 rfl ?_
  obtain ⟨v1, e, h⟩ := op_bd h
  refine ow_gR (pc := 1) e dX6_canBuild_1 fd_X6_21 rfl ?_
  obtain ⟨v2, e, h⟩ := op_bd h
  refine ow_gR (pc := 4) e dX6_canBuild_4 fd_X6_65 rfl ?_
  refine aw_iload_n (pc := 7) 1 dX6_canBuild_7 rfl ?_
  obtain ⟨v3, e, h⟩ := op_bd h
  refine ow_aI (pc := 8) e dX6_canBuild_8 ?_
  refine aw_istore_n (pc := 9) [(3, .int v3), (0, .ref x0), (1, .int x1), (2, .int x2)] dX6_canBuild_9 rfl (by decide) rfl ?_
  refine aw_iload_n (pc := 10) 0 dX6_canBuild_10 rfl ?_
  refine aw_iconst (pc := 11) (v := (-1 : Int32)) dX6_canBuild_11 (by decide) ?_
  refine aw_icmp_eq (pc := 12) 43 dX6_canBuild_12 (by decide) (fun z => ?_) (fun z => ?_)
  · replace h := (if_pos z).symm.trans h
    refine aw_iconst (pc := 43) (v := (0 : Int32)) dX6_canBuild_43 (by decide) ?_
    exact ow_zret (pc := 44) h dX6_canBuild_44 rfl
  · replace h := (if_neg z).symm.trans h
    refine aw_iload_n (pc := 15) 3 dX6_canBuild_15 rfl ?_
    refine aw_iload_n (pc := 16) 2 dX6_canBuild_16 rfl ?_
    refine aw_ishr (pc := 17) dX6_canBuild_17 ?_
    refine aw_iconst (pc := 18) (v := (1 : Int32)) dX6_canBuild_18 (by decide) ?_
    refine aw_iand (pc := 19) dX6_canBuild_19 ?_
    refine aw_if_ne (pc := 20) 43 dX6_canBuild_20 (by decide) (fun z => ?_) (fun z => ?_)
    · replace h := (if_neg z).symm.trans h
      refine aw_iconst (pc := 43) (v := (0 : Int32)) dX6_canBuild_43 (by decide) ?_
      exact ow_zret (pc := 44) h dX6_canBuild_44 rfl
    · replace h := (if_pos z).symm.trans h
      refine aw_iload_n (pc := 23) 3 dX6_canBuild_23 rfl ?_
      refine aw_aload_n (pc := 24) 1 dX6_canBuild_24 rfl ?_
      obtain ⟨v4, e, h⟩ := op_bd h
      refine ow_gR (pc := 25) e dX6_canBuild_25 fd_X6_25 rfl ?_
      refine aw_iload_n (pc := 28) 0 dX6_canBuild_28 rfl ?_
      refine aw_iload_n (pc := 29) 2 dX6_canBuild_29 rfl ?_
      obtain ⟨r5, e, h⟩ := op_bd h
      refine ow_cVi (pc := 30) [.int v3, .int x1] ((c_X9_otherEnd _ _ _ _ _ e).mono (by decide)) (op_ck_sh e) rfl dX6_canBuild_30 cw_X6_70 rfl (Nat.le_of_ble_eq_true rfl) ?_
      refine aw_ishr (pc := 33) dX6_canBuild_33 ?_
      refine aw_iconst (pc := 34) (v := (1 : Int32)) dX6_canBuild_34 (by decide) ?_
      refine aw_iand (pc := 35) dX6_canBuild_35 ?_
      refine aw_if_eq (pc := 36) 43 dX6_canBuild_36 (by decide) (fun z => ?_) (fun z => ?_)
      · replace h := (if_pos z).symm.trans h
        refine aw_iconst (pc := 43) (v := (0 : Int32)) dX6_canBuild_43 (by decide) ?_
        exact ow_zret (pc := 44) h dX6_canBuild_44 rfl
      · replace h := (if_neg z).symm.trans h
        refine aw_iconst (pc := 39) (v := (1 : Int32)) dX6_canBuild_39 (by decide) ?_
        refine aw_goto (pc := 40) 44 dX6_canBuild_40 (by decide) ?_
        exact ow_zret (pc := 44) h dX6_canBuild_44 rfl
theorem c_X6_canBuild {G : ah_G}   (x0 : Nat) (x1 : Int32) (x2 : Int32) (σ : ah_H) (r : Int32 × ah_H) (h : f_X6_canBuild  x0 x1 x2 σ = some r) : AM G m_X6_canBuild 1 0 0 [.ref x0, .int x1, .int x2] σ (ah_ri r) := aw_enter (by decide) (Nat.le_of_ble_eq_true rfl) (c_X6_canBuild_0 _ _ _ _ _ (op_ck_k h))
def f_X6_carting_39  (K4 : Nat → Int32 → Int32 → Int32 → ah_H → Option (Int64 × ah_H)) (x0 : Nat) (x1 : Int32) (x3 : Int32) (s0 : Int32) (s1 : Int32) (σ : ah_H) : Option (Int64 × ah_H) :=
  K4 x0 x1 (s0 + s1) (x3 + (1 : Int32)) σ
def f_X6_carting_47   (x0 : Nat) (x2 : Int32) (σ : ah_H) : Option (Int64 × ah_H) :=
  (op_gR 6 4 σ x0).bind fun v1 => (op_gI 9 13 σ v1).bind fun v2 => some (((Int32.toInt64 v2) * (Int32.toInt64 x2)), σ)
def f_X6_carting_4_b  (K4 : Nat → Int32 → Int32 → Int32 → ah_H → Option (Int64 × ah_H)) (x0 : Nat) (x1 : Int32) (x2 : Int32) (x3 : Int32) (σ : ah_H) : Option (Int64 × ah_H) :=
  (op_gR 6 4 σ x0).bind fun v1 => (op_gI 9 0 σ v1).bind fun v2 => if v2 ≤ x3 then (f_X6_carting_47 x0 x2 σ) else (if ((x1 >>> (x3 &&& 31)) &&& (1 : Int32)) = 0 then ((op_gR 6 4 σ x0).bind fun v3 => (op_gR 9 1 σ v3).bind fun v4 => (op_aR .int σ v4 x3).bind fun v5 => (op_aI σ v5 (1 : Int32)).bind fun v6 => f_X6_carting_39 K4 x0 x1 x3 x2 v6 σ) else (f_X6_carting_39 K4 x0 x1 x3 x2 (0 : Int32) σ))
def f_X6_carting_4   : Nat → Nat → Int32 → Int32 → Int32 → ah_H → Option (Int64 × ah_H)
  | 0, _, _, _, _, _ => none
  | n + 1, x0, x1, x2, x3, σ => f_X6_carting_4_b (f_X6_carting_4 n) x0 x1 x2 x3 σ
def f_X6_carting_0   (x0 : Nat) (x1 : Int32) (σ : ah_H) : Option (Int64 × ah_H) :=
  f_X6_carting_4 5000 x0 x1 (0 : Int32) (0 : Int32) σ
def f_X6_carting  (x0 : Nat) (x1 : Int32) (σ : ah_H) : Option (Int64 × ah_H) := op_ck 6 σ x0 (f_X6_carting_0 x0 x1 σ)
set_option maxRecDepth 100000 in
set_option maxHeartbeats 4000000 in
theorem c_X6_carting_39 {G : ah_G}  (K4 : Nat → Int32 → Int32 → Int32 → ah_H → Option (Int64 × ah_H)) (hK4 : ∀ (x0 : Nat) (x1 : Int32) (x2 : Int32) (x3 : Int32) (σ : ah_H) (r : Int64 × ah_H), K4 x0 x1 x2 x3 σ = some r → AW G m_X6_carting 0 0 0 4 [(0, .ref x0), (1, .int x1), (2, .int x2), (3, .int x3)] [] σ (ah_N G (ah_rl r))) : ∀ (x0 : Nat) (x1 : Int32) (x3 : Int32) (s0 : Int32) (s1 : Int32) (σ : ah_H) (r : Int64 × ah_H), f_X6_carting_39  K4 x0 x1 x3 s0 s1 σ = some r → AW G m_X6_carting 0 0 0 39 [(0, .ref x0), (1, .int x1), (3, .int x3)] [.int s1, .int s0] σ (ah_N G (ah_rl r)) := by
  intro x0 x1 x3 s0 s1 σ r h
  unfold f_X6_carting_39 at h
  refine aw_iadd (pc := 39) dX6_carting_39 ?_
  refine aw_istore_n (pc := 40) [(2, .int (s0 + s1)), (0, .ref x0), (1, .int x1), (3, .int x3)] dX6_carting_40 rfl (by decide) rfl ?_
  refine aw_iinc (pc := 41) 3 [(3, .int (x3 + (1 : Int32))), (2, .int (s0 + s1)), (0, .ref x0), (1, .int x1)] (x3 + (1 : Int32)) dX6_carting_41 rfl rfl (by decide) rfl ?_
  refine aw_goto (pc := 44) 4 dX6_carting_44 (by decide) ?_
  refine aw_sub [2, 3, 1, 0] rfl ?_
  exact hK4 _ _ _ _ _ _ h
set_option maxRecDepth 100000 in
set_option maxHeartbeats 4000000 in
theorem c_X6_carting_47 {G : ah_G}   : ∀ (x0 : Nat) (x2 : Int32) (σ : ah_H) (r : Int64 × ah_H), f_X6_carting_47   x0 x2 σ = some r → AW G m_X6_carting 0 0 0 47 [(0, .ref x0), (2, .int x2)] [] σ (ah_N G (ah_rl r)) := by
  intro x0 x2 σ r h
  unfold f_X6_carting_47 at h
  refine aw_aload_n (pc := 47) 0 dX6_carting_47 rfl ?_
  obtain ⟨v1, e, h⟩ := op_bd h
  refine ow_gR (pc := 48) e dX6_carting_48 fd_X6_25 rfl ?_
  obtain ⟨v2, e, h⟩ := op_bd h
  refine ow_gI (pc := 51) e dX6_carting_51 fd_X6_78 rfl ?_
  refine aw_i2l (pc := 54) dX6_carting_54 ?_
  refine aw_iload_n (pc := 55) 1 dX6_carting_55 rfl ?_
  refine aw_i2l (pc := 56) dX6_carting_56 ?_
  refine aw_lmul (pc := 57) dX6_carting_57 ?_
  exact ow_lret (pc := 58) h dX6_carting_58 rfl
set_option maxRecDepth 100000 in
set_option maxHeartbeats 4000000 in
theorem c_X6_carting_4_b {G : ah_G}  (K4 : Nat → Int32 → Int32 → Int32 → ah_H → Option (Int64 × ah_H)) (hK4 : ∀ (x0 : Nat) (x1 : Int32) (x2 : Int32) (x3 : Int32) (σ : ah_H) (r : Int64 × ah_H), K4 x0 x1 x2 x3 σ = some r → AW G m_X6_carting 0 0 0 4 [(0, .ref x0), (1, .int x1), (2, .int x2), (3, .int x3)] [] σ (ah_N G (ah_rl r))) : ∀ (x0 : Nat) (x1 : Int32) (x2 : Int32) (x3 : Int32) (σ : ah_H) (r : Int64 × ah_H), f_X6_carting_4_b  K4 x0 x1 x2 x3 σ = some r → AW G m_X6_carting 0 0 0 4 [(0, .ref x0), (1, .int x1), (2, .int x2), (3, .int x3)] [] σ (ah_N G (ah_rl r)) := by
  intro x0 x1 x2 x3 σ r h
  unfold f_X6_carting_4_b at h
  refine aw_iload_n (pc := 4) 3 dX6_carting_4 rfl ?_
  refine aw_aload_n (pc := 5) 0 dX6_carting_5 rfl ?_
  obtain ⟨v1, e, h⟩ := op_bd h
  refine ow_gR (pc := 6) e dX6_carting_6 fd_X6_25 rfl ?_
  obtain ⟨v2, e, h⟩ := op_bd h
  refine ow_gI (pc := 9) e dX6_carting_9 fd_X6_29 rfl ?_
  refine aw_icmp_ge (pc := 12) 47 dX6_carting_12 (by decide) (fun z => ?_) (fun z => ?_)
  · replace h := (if_pos z).symm.trans h
    refine aw_sub [0, 2] rfl ?_
    exact c_X6_carting_47  _ _ _ _ h
  · replace h := (if_neg z).symm.trans h
    refine aw_iload_n (pc := 15) 2 dX6_carting_15 rfl ?_
    refine aw_iload_n (pc := 16) 1 dX6_carting_16 rfl ?_
    refine aw_iload_n (pc := 17) 3 dX6_carting_17 rfl ?_
    refine aw_ishr (pc := 18) dX6_carting_18 ?_
    refine aw_iconst (pc := 19) (v := (1 : Int32)) dX6_carting_19 (by decide) ?_
    refine aw_iand (pc := 20) dX6_carting_20 ?_
    refine aw_if_ne (pc := 21) 38 dX6_carting_21 (by decide) (fun z => ?_) (fun z => ?_)
    · replace h := (if_neg z).symm.trans h
      refine aw_iconst (pc := 38) (v := (0 : Int32)) dX6_carting_38 (by decide) ?_
      refine aw_sub [0, 1, 3] rfl ?_
      exact c_X6_carting_39 K4 hK4 _ _ _ _ _ _ _ h
    · replace h := (if_pos z).symm.trans h
      refine aw_aload_n (pc := 24) 0 dX6_carting_24 rfl ?_
      obtain ⟨v3, e, h⟩ := op_bd h
      refine ow_gR (pc := 25) e dX6_carting_25 fd_X6_25 rfl ?_
      obtain ⟨v4, e, h⟩ := op_bd h
      refine ow_gR (pc := 28) e dX6_carting_28 fd_X6_74 rfl ?_
      refine aw_iload_n (pc := 31) 3 dX6_carting_31 rfl ?_
      obtain ⟨v5, e, h⟩ := op_bd h
      refine ow_aR (pc := 32) e dX6_carting_32 (by decide) ?_
      refine aw_iconst (pc := 33) (v := (1 : Int32)) dX6_carting_33 (by decide) ?_
      obtain ⟨v6, e, h⟩ := op_bd h
      refine ow_aI (pc := 34) e dX6_carting_34 ?_
      refine aw_goto (pc := 35) 39 dX6_carting_35 (by decide) ?_
      refine aw_sub [0, 1, 3] rfl ?_
      exact c_X6_carting_39 K4 hK4 _ _ _ _ _ _ _ h
theorem c_X6_carting_4 {G : ah_G}   : ∀ (n : Nat) (x0 : Nat) (x1 : Int32) (x2 : Int32) (x3 : Int32) (σ : ah_H) (r : Int64 × ah_H), f_X6_carting_4   n x0 x1 x2 x3 σ = some r → AW G m_X6_carting 0 0 0 4 [(0, .ref x0), (1, .int x1), (2, .int x2), (3, .int x3)] [] σ (ah_N G (ah_rl r)) := by
  intro n
  induction n with
  | zero => intro x0 x1 x2 x3 σ r h; cases h
  | succ n ih => intro x0 x1 x2 x3 σ r h; exact c_X6_carting_4_b   _ ih x0 x1 x2 x3 σ r h
set_option maxRecDepth 100000 in
set_option maxHeartbeats 4000000 in
theorem c_X6_carting_0 {G : ah_G}   : ∀ (x0 : Nat) (x1 : Int32) (σ : ah_H) (r : Int64 × ah_H), f_X6_carting_0   x0 x1 σ = some r → AW G m_X6_carting 0 0 0 0 [(0, .ref x0), (1, .int x1)] [] σ (ah_N G (ah_rl r)) := by
  intro x0 x1 σ r h
  unfold f_X6_carting_0 at h
  refine aw_iconst (pc := 0) (v := (0 : Int32)) dX6_carting_0 (by decide) ?_
  refine aw_istore_n (pc := 1) [(2, .int (0 : Int32)), (0, .ref x0), (1, .int x1)] dX6_carting_1 rfl (by decide) rfl ?_
  refine aw_iconst (pc := 2) (v := (0 : Int32)) dX6_carting_2 (by decide) ?_
  refine aw_istore_n (pc := 3) [(3, .int (0 : Int32)), (2, .int (0 : Int32)), (0, .ref x0), (1, .int x1)] dX6_carting_3 rfl (by decide) rfl ?_
  refine aw_sub [2, 3, 1, 0] rfl ?_
  exact c_X6_carting_4  _ _ _ _ _ _ _ h
theorem c_X6_carting {G : ah_G}   (x0 : Nat) (x1 : Int32) (σ : ah_H) (r : Int64 × ah_H) (h : f_X6_carting  x0 x1 σ = some r) : AM G m_X6_carting 0 0 0 [.ref x0, .int x1] σ (ah_rl r) := aw_enter (by decide) (Nat.le_of_ble_eq_true rfl) (c_X6_carting_0 _ _ _ _ (op_ck_k h))
def f_X6_nextAfter_50  (K2 : Nat → Int32 → Int32 → ah_H → Option (Int32 × ah_H)) (x0 : Nat) (x1 : Int32) (x2 : Int32) (σ : ah_H) : Option (Int32 × ah_H) :=
  K2 x0 x1 (x2 + (1 : Int32)) σ
def f_X6_nextAfter_2_b  (K2 : Nat → Int32 → Int32 → ah_H → Option (Int32 × ah_H)) (x0 : Nat) (x1 : Int32) (x2 : Int32) (σ : ah_H) : Option (Int32 × ah_H) :=
  (op_gR 6 4 σ x0).bind fun v1 => (op_gI 9 0 σ v1).bind fun v2 => if v2 ≤ x2 then (some ((-1 : Int32), σ)) else ((f_X6_canBuild x0 x2 x1 σ).bind fun r3 => if r3.1 = 0 then (f_X6_nextAfter_50 K2 x0 x1 x2 r3.2) else ((op_gR 6 2 r3.2 x0).bind fun v4 => (op_aL r3.2 v4 x1).bind fun v5 => (f_X6_carting x0 x1 r3.2).bind fun r6 => (op_gR 6 2 r6.2 x0).bind fun v7 => (op_aL r6.2 v7 (x1 ||| ((1 : Int32) <<< (x2 &&& 31)))).bind fun v8 => if (lg_cmp v5 (r6.1 + v8)) = 0 then (some (x2, r6.2)) else (f_X6_nextAfter_50 K2 x0 x1 x2 r6.2)))
def f_X6_nextAfter_2   : Nat → Nat → Int32 → Int32 → ah_H → Option (Int32 × ah_H)
  | 0, _, _, _, _ => none
  | n + 1, x0, x1, x2, σ => f_X6_nextAfter_2_b (f_X6_nextAfter_2 n) x0 x1 x2 σ
def f_X6_nextAfter_0   (x0 : Nat) (x1 : Int32) (σ : ah_H) : Option (Int32 × ah_H) :=
  f_X6_nextAfter_2 5000 x0 x1 (0 : Int32) σ
def f_X6_nextAfter  (x0 : Nat) (x1 : Int32) (σ : ah_H) : Option (Int32 × ah_H) := op_ck 6 σ x0 (f_X6_nextAfter_0 x0 x1 σ)
set_option maxRecDepth 100000 in
set_option maxHeartbeats 4000000 in
theorem c_X6_nextAfter_50 {G : ah_G}  (K2 : Nat → Int32 → Int32 → ah_H → Option (Int32 × ah_H)) (hK2 : ∀ (x0 : Nat) (x1 : Int32) (x2 : Int32) (σ : ah_H) (r : Int32 × ah_H), K2 x0 x1 x2 σ = some r → AW G m_X6_nextAfter 2 0 0 2 [(0, .ref x0), (1, .int x1), (2, .int x2)] [] σ (ah_N G (ah_ri r))) : ∀ (x0 : Nat) (x1 : Int32) (x2 : Int32) (σ : ah_H) (r : Int32 × ah_H), f_X6_nextAfter_50  K2 x0 x1 x2 σ = some r → AW G m_X6_nextAfter 2 0 0 50 [(0, .ref x0), (1, .int x1), (2, .int x2)] [] σ (ah_N G (ah_ri r)) := by
  intro x0 x1 x2 σ r h
  unfold f_X6_nextAfter_50 at h
  refine aw_iinc (pc := 50) 2 [(2, .int (x2 + (1 : Int32))), (0, .ref x0), (1, .int x1)] (x2 + (1 : Int32)) dX6_nextAfter_50 rfl rfl (by decide) rfl ?_
  refine aw_goto (pc := 53) 2 dX6_nextAfter_53 (by decide) ?_
  refine aw_sub [1, 2, 0] rfl ?_
  exact hK2 _ _ _ _ _ h
set_option maxRecDepth 100000 in
set_option maxHeartbeats 4000000 in
theorem c_X6_nextAfter_2_b {G : ah_G}  (K2 : Nat → Int32 → Int32 → ah_H → Option (Int32 × ah_H)) (hK2 : ∀ (x0 : Nat) (x1 : Int32) (x2 : Int32) (σ : ah_H) (r : Int32 × ah_H), K2 x0 x1 x2 σ = some r → AW G m_X6_nextAfter 2 0 0 2 [(0, .ref x0), (1, .int x1), (2, .int x2)] [] σ (ah_N G (ah_ri r))) : ∀ (x0 : Nat) (x1 : Int32) (x2 : Int32) (σ : ah_H) (r : Int32 × ah_H), f_X6_nextAfter_2_b  K2 x0 x1 x2 σ = some r → AW G m_X6_nextAfter 2 0 0 2 [(0, .ref x0), (1, .int x1), (2, .int x2)] [] σ (ah_N G (ah_ri r)) := by
  intro x0 x1 x2 σ r h
  unfold f_X6_nextAfter_2_b at h
  refine aw_iload_n (pc := 2) 2 dX6_nextAfter_2 rfl ?_
  refine aw_aload_n (pc := 3) 0 dX6_nextAfter_3 rfl ?_
  obtain ⟨v1, e, h⟩ := op_bd h
  refine ow_gR (pc := 4) e dX6_nextAfter_4 fd_X6_25 rfl ?_
  obtain ⟨v2, e, h⟩ := op_bd h
  refine ow_gI (pc := 7) e dX6_nextAfter_7 fd_X6_29 rfl ?_
  refine aw_icmp_ge (pc := 10) 56 dX6_nextAfter_10 (by decide) (fun z => ?_) (fun z => ?_)
  · replace h := (if_pos z).symm.trans h
    refine aw_iconst (pc := 56) (v := (-1 : Int32)) dX6_nextAfter_56 (by decide) ?_
    exact ow_iret (pc := 57) h dX6_nextAfter_57 rfl
  · replace h := (if_neg z).symm.trans h
    refine aw_aload_n (pc := 13) 0 dX6_nextAfter_13 rfl ?_
    refine aw_iload_n (pc := 14) 2 dX6_nextAfter_14 rfl ?_
    refine aw_iload_n (pc := 15) 1 dX6_nextAfter_15 rfl ?_
    obtain ⟨r3, e, h⟩ := op_bd h
    refine ow_cVi (pc := 16) [.int x2, .int x1] ((c_X6_canBuild _ _ _ _ _ e).mono (by decide)) (op_ck_sh e) rfl dX6_nextAfter_16 cw_X6_37 rfl (Nat.le_of_ble_eq_true rfl) ?_
    refine aw_if_eq (pc := 19) 50 dX6_nextAfter_19 (by decide) (fun z => ?_) (fun z => ?_)
    · replace h := (if_pos z).symm.trans h
      exact c_X6_nextAfter_50 K2 hK2 _ _ _ _ _ h
    · replace h := (if_neg z).symm.trans h
      refine aw_aload_n (pc := 22) 0 dX6_nextAfter_22 rfl ?_
      obtain ⟨v4, e, h⟩ := op_bd h
      refine ow_gR (pc := 23) e dX6_nextAfter_23 fd_X6_17 rfl ?_
      refine aw_iload_n (pc := 26) 1 dX6_nextAfter_26 rfl ?_
      obtain ⟨v5, e, h⟩ := op_bd h
      refine ow_aL (pc := 27) e dX6_nextAfter_27 ?_
      refine aw_aload_n (pc := 28) 0 dX6_nextAfter_28 rfl ?_
      refine aw_iload_n (pc := 29) 1 dX6_nextAfter_29 rfl ?_
      obtain ⟨r6, e, h⟩ := op_bd h
      refine ow_cVl (pc := 30) [.int x1] ((c_X6_carting _ _ _ _ e).mono (by decide)) (op_ck_sh e) rfl dX6_nextAfter_30 cw_X6_41 rfl (Nat.le_of_ble_eq_true rfl) ?_
      refine aw_aload_n (pc := 33) 0 dX6_nextAfter_33 rfl ?_
      obtain ⟨v7, e, h⟩ := op_bd h
      refine ow_gR (pc := 34) e dX6_nextAfter_34 fd_X6_17 rfl ?_
      refine aw_iload_n (pc := 37) 1 dX6_nextAfter_37 rfl ?_
      refine aw_iconst (pc := 38) (v := (1 : Int32)) dX6_nextAfter_38 (by decide) ?_
      refine aw_iload_n (pc := 39) 2 dX6_nextAfter_39 rfl ?_
      refine aw_ishl (pc := 40) dX6_nextAfter_40 ?_
      refine aw_ior (pc := 41) dX6_nextAfter_41 ?_
      obtain ⟨v8, e, h⟩ := op_bd h
      refine ow_aL (pc := 42) e dX6_nextAfter_42 ?_
      refine aw_ladd (pc := 43) dX6_nextAfter_43 ?_
      refine aw_lcmp (pc := 44) dX6_nextAfter_44 ?_
      refine aw_if_ne (pc := 45) 50 dX6_nextAfter_45 (by decide) (fun z => ?_) (fun z => ?_)
      · replace h := (if_neg z).symm.trans h
        exact c_X6_nextAfter_50 K2 hK2 _ _ _ _ _ h
      · replace h := (if_pos z).symm.trans h
        refine aw_iload_n (pc := 48) 2 dX6_nextAfter_48 rfl ?_
        exact ow_iret (pc := 49) h dX6_nextAfter_49 rfl
theorem c_X6_nextAfter_2 {G : ah_G}   : ∀ (n : Nat) (x0 : Nat) (x1 : Int32) (x2 : Int32) (σ : ah_H) (r : Int32 × ah_H), f_X6_nextAfter_2   n x0 x1 x2 σ = some r → AW G m_X6_nextAfter 2 0 0 2 [(0, .ref x0), (1, .int x1), (2, .int x2)] [] σ (ah_N G (ah_ri r)) := by
  intro n
  induction n with
  | zero => intro x0 x1 x2 σ r h; cases h
  | succ n ih => intro x0 x1 x2 σ r h; exact c_X6_nextAfter_2_b   _ ih x0 x1 x2 σ r h
set_option maxRecDepth 100000 in
set_option maxHeartbeats 4000000 in
theorem c_X6_nextAfter_0 {G : ah_G}   : ∀ (x0 : Nat) (x1 : Int32) (σ : ah_H) (r : Int32 × ah_H), f_X6_nextAfter_0   x0 x1 σ = some r → AW G m_X6_nextAfter 2 0 0 0 [(0, .ref x0), (1, .int x1)] [] σ (ah_N G (ah_ri r)) := by
  intro x0 x1 σ r h
  unfold f_X6_nextAfter_0 at h
  refine aw_iconst (pc := 0) (v := (0 : Int32)) dX6_nextAfter_0 (by decide) ?_
  refine aw_istore_n (pc := 1) [(2, .int (0 : Int32)), (0, .ref x0), (1, .int x1)] dX6_nextAfter_1 rfl (by decide) rfl ?_
  refine aw_sub [1, 2, 0] rfl ?_
  exact c_X6_nextAfter_2  _ _ _ _ _ _ h
theorem c_X6_nextAfter {G : ah_G}   (x0 : Nat) (x1 : Int32) (σ : ah_H) (r : Int32 × ah_H) (h : f_X6_nextAfter  x0 x1 σ = some r) : AM G m_X6_nextAfter 2 0 0 [.ref x0, .int x1] σ (ah_ri r) := aw_enter (by decide) (Nat.le_of_ble_eq_true rfl) (c_X6_nextAfter_0 _ _ _ _ (op_ck_k h))
def f_X6_writeOrder_59  (K22 : Nat → Int32 → Int32 → ah_H → Option (ah_H)) (x0 : Nat) (x1 : Int32) (x2 : Int32) (σ : ah_H) : Option (ah_H) :=
  K22 x0 x1 (x2 + (1 : Int32)) σ
def f_X6_writeOrder_22_b  (K22 : Nat → Int32 → Int32 → ah_H → Option (ah_H)) (x0 : Nat) (x1 : Int32) (x2 : Int32) (σ : ah_H) : Option (ah_H) :=
  (op_gR 6 4 σ x0).bind fun v1 => (op_gI 9 0 σ v1).bind fun v2 => if (v2 - (1 : Int32)) ≤ x2 then (some σ) else ((f_X6_nextAfter x0 x1 σ).bind fun r3 => (op_gR 6 1 r3.2 x0).bind fun v4 => (op_sI r3.2 v4 x2 r3.1).bind fun σ5 => if r3.1 = (-1 : Int32) then (f_X6_writeOrder_59 K22 x0 x1 x2 σ5) else (f_X6_writeOrder_59 K22 x0 (x1 ||| ((1 : Int32) <<< (r3.1 &&& 31))) x2 σ5))
def f_X6_writeOrder_22   : Nat → Nat → Int32 → Int32 → ah_H → Option (ah_H)
  | 0, _, _, _, _ => none
  | n + 1, x0, x1, x2, σ => f_X6_writeOrder_22_b (f_X6_writeOrder_22 n) x0 x1 x2 σ
def f_X6_writeOrder_0   (x0 : Nat) (σ : ah_H) : Option (ah_H) :=
  (op_gR 6 4 σ x0).bind fun v1 => (op_gI 9 2 σ v1).bind fun v2 => (op_gR 6 2 σ x0).bind fun v3 => (op_aL σ v3 ((1 : Int32) <<< (v2 &&& 31))).bind fun v4 => (op_pL 6 0 σ x0 v4).bind fun σ5 => f_X6_writeOrder_22 5000 x0 ((1 : Int32) <<< (v2 &&& 31)) (0 : Int32) σ5
def f_X6_writeOrder  (x0 : Nat) (σ : ah_H) : Option (ah_H) := op_ck 6 σ x0 (f_X6_writeOrder_0 x0 σ)
set_option maxRecDepth 100000 in
set_option maxHeartbeats 4000000 in
theorem c_X6_writeOrder_59 {G : ah_G}  (K22 : Nat → Int32 → Int32 → ah_H → Option (ah_H)) (hK22 : ∀ (x0 : Nat) (x1 : Int32) (x2 : Int32) (σ : ah_H) (r : ah_H), K22 x0 x1 x2 σ = some r → AW G m_X6_writeOrder 3 0 0 22 [(0, .ref x0), (1, .int x1), (2, .int x2)] [] σ (ah_N G (ah_rv r))) : ∀ (x0 : Nat) (x1 : Int32) (x2 : Int32) (σ : ah_H) (r : ah_H), f_X6_writeOrder_59  K22 x0 x1 x2 σ = some r → AW G m_X6_writeOrder 3 0 0 59 [(0, .ref x0), (1, .int x1), (2, .int x2)] [] σ (ah_N G (ah_rv r)) := by
  intro x0 x1 x2 σ r h
  unfold f_X6_writeOrder_59 at h
  refine aw_iinc (pc := 59) 2 [(2, .int (x2 + (1 : Int32))), (0, .ref x0), (1, .int x1)] (x2 + (1 : Int32)) dX6_writeOrder_59 rfl rfl (by decide) rfl ?_
  refine aw_goto (pc := 62) 22 dX6_writeOrder_62 (by decide) ?_
  refine aw_sub [1, 2, 0] rfl ?_
  exact hK22 _ _ _ _ _ h
set_option maxRecDepth 100000 in
set_option maxHeartbeats 4000000 in
theorem c_X6_writeOrder_22_b {G : ah_G}  (K22 : Nat → Int32 → Int32 → ah_H → Option (ah_H)) (hK22 : ∀ (x0 : Nat) (x1 : Int32) (x2 : Int32) (σ : ah_H) (r : ah_H), K22 x0 x1 x2 σ = some r → AW G m_X6_writeOrder 3 0 0 22 [(0, .ref x0), (1, .int x1), (2, .int x2)] [] σ (ah_N G (ah_rv r))) : ∀ (x0 : Nat) (x1 : Int32) (x2 : Int32) (σ : ah_H) (r : ah_H), f_X6_writeOrder_22_b  K22 x0 x1 x2 σ = some r → AW G m_X6_writeOrder 3 0 0 22 [(0, .ref x0), (1, .int x1), (2, .int x2)] [] σ (ah_N G (ah_rv r)) := by
  intro x0 x1 x2 σ r h
  unfold f_X6_writeOrder_22_b at h
  refine aw_iload_n (pc := 22) 2 dX6_writeOrder_22 rfl ?_
  refine aw_aload_n (pc := 23) 0 dX6_writeOrder_23 rfl ?_
  obtain ⟨v1, e, h⟩ := op_bd h
  refine ow_gR (pc := 24) e dX6_writeOrder_24 fd_X6_25 rfl ?_
  obtain ⟨v2, e, h⟩ := op_bd h
  refine ow_gI (pc := 27) e dX6_writeOrder_27 fd_X6_29 rfl ?_
  refine aw_iconst (pc := 30) (v := (1 : Int32)) dX6_writeOrder_30 (by decide) ?_
  refine aw_isub (pc := 31) dX6_writeOrder_31 ?_
  refine aw_icmp_ge (pc := 32) 65 dX6_writeOrder_32 (by decide) (fun z => ?_) (fun z => ?_)
  · replace h := (if_pos z).symm.trans h
    exact ow_vret (pc := 65) h dX6_writeOrder_65 rfl
  · replace h := (if_neg z).symm.trans h
    refine aw_aload_n (pc := 35) 0 dX6_writeOrder_35 rfl ?_
    refine aw_iload_n (pc := 36) 1 dX6_writeOrder_36 rfl ?_
    obtain ⟨r3, e, h⟩ := op_bd h
    refine ow_cVi (pc := 37) [.int x1] ((c_X6_nextAfter _ _ _ _ e).mono (by decide)) (op_ck_sh e) rfl dX6_writeOrder_37 cw_X6_61 rfl (Nat.le_of_ble_eq_true rfl) ?_
    refine aw_istore_n (pc := 40) [(3, .int r3.1), (0, .ref x0), (1, .int x1), (2, .int x2)] dX6_writeOrder_40 rfl (by decide) rfl ?_
    refine aw_aload_n (pc := 41) 1 dX6_writeOrder_41 rfl ?_
    obtain ⟨v4, e, h⟩ := op_bd h
    refine ow_gR (pc := 42) e dX6_writeOrder_42 fd_X6_11 rfl ?_
    refine aw_iload_n (pc := 45) 3 dX6_writeOrder_45 rfl ?_
    refine aw_iload_n (pc := 46) 0 dX6_writeOrder_46 rfl ?_
    obtain ⟨σ5, e, h⟩ := op_bd h
    refine ow_sI (pc := 47) e dX6_writeOrder_47 ?_
    refine aw_iload_n (pc := 48) 0 dX6_writeOrder_48 rfl ?_
    refine aw_iconst (pc := 49) (v := (-1 : Int32)) dX6_writeOrder_49 (by decide) ?_
    refine aw_icmp_eq (pc := 50) 59 dX6_writeOrder_50 (by decide) (fun z => ?_) (fun z => ?_)
    · replace h := (if_pos z).symm.trans h
      refine aw_sub [1, 2, 3] rfl ?_
      exact c_X6_writeOrder_59 K22 hK22 _ _ _ _ _ h
    · replace h := (if_neg z).symm.trans h
      refine aw_iload_n (pc := 53) 2 dX6_writeOrder_53 rfl ?_
      refine aw_iconst (pc := 54) (v := (1 : Int32)) dX6_writeOrder_54 (by decide) ?_
      refine aw_iload_n (pc := 55) 0 dX6_writeOrder_55 rfl ?_
      refine aw_ishl (pc := 56) dX6_writeOrder_56 ?_
      refine aw_ior (pc := 57) dX6_writeOrder_57 ?_
      refine aw_istore_n (pc := 58) [(1, .int (x1 ||| ((1 : Int32) <<< (r3.1 &&& 31)))), (3, .int r3.1), (0, .ref x0), (2, .int x2)] dX6_writeOrder_58 rfl (by decide) rfl ?_
      refine aw_sub [2, 0, 3] rfl ?_
      exact c_X6_writeOrder_59 K22 hK22 _ _ _ _ _ h
theorem c_X6_writeOrder_22 {G : ah_G}   : ∀ (n : Nat) (x0 : Nat) (x1 : Int32) (x2 : Int32) (σ : ah_H) (r : ah_H), f_X6_writeOrder_22   n x0 x1 x2 σ = some r → AW G m_X6_writeOrder 3 0 0 22 [(0, .ref x0), (1, .int x1), (2, .int x2)] [] σ (ah_N G (ah_rv r)) := by
  intro n
  induction n with
  | zero => intro x0 x1 x2 σ r h; cases h
  | succ n ih => intro x0 x1 x2 σ r h; exact c_X6_writeOrder_22_b   _ ih x0 x1 x2 σ r h
set_option maxRecDepth 100000 in
set_option maxHeartbeats 4000000 in
theorem c_X6_writeOrder_0 {G : ah_G}   : ∀ (x0 : Nat) (σ : ah_H) (r : ah_H), f_X6_writeOrder_0   x0 σ = some r → AW G m_X6_writeOrder 3 0 0 0 [(0, .ref x0)] [] σ (ah_N G (ah_rv r)) := by
  intro x0 σ r h
  unfold f_X6_writeOrder_0 at h
  refine aw_iconst (pc := 0) (v := (1 : Int32)) dX6_writeOrder_0 (by decide) ?_
  refine aw_aload_n (pc := 1) 0 dX6_writeOrder_1 rfl ?_
  obtain ⟨v1, e, h⟩ := op_bd h
  refine ow_gR (pc := 2) e dX6_writeOrder_2 fd_X6_25 rfl ?_
  obtain ⟨v2, e, h⟩ := op_bd h
  refine ow_gI (pc := 5) e dX6_writeOrder_5 fd_X6_54 rfl ?_
  refine aw_ishl (pc := 8) dX6_writeOrder_8 ?_
  refine aw_istore_n (pc := 9) [(1, .int ((1 : Int32) <<< (v2 &&& 31))), (0, .ref x0)] dX6_writeOrder_9 rfl (by decide) rfl ?_
  refine aw_aload_n (pc := 10) 1 dX6_writeOrder_10 rfl ?_
  refine aw_aload_n (pc := 11) 1 dX6_writeOrder_11 rfl ?_
  obtain ⟨v3, e, h⟩ := op_bd h
  refine ow_gR (pc := 12) e dX6_writeOrder_12 fd_X6_17 rfl ?_
  refine aw_iload_n (pc := 15) 0 dX6_writeOrder_15 rfl ?_
  obtain ⟨v4, e, h⟩ := op_bd h
  refine ow_aL (pc := 16) e dX6_writeOrder_16 ?_
  obtain ⟨σ5, e, h⟩ := op_bd h
  refine ow_pL (pc := 17) e dX6_writeOrder_17 fd_X6_57 ?_
  refine aw_iconst (pc := 20) (v := (0 : Int32)) dX6_writeOrder_20 (by decide) ?_
  refine aw_istore_n (pc := 21) [(2, .int (0 : Int32)), (1, .int ((1 : Int32) <<< (v2 &&& 31))), (0, .ref x0)] dX6_writeOrder_21 rfl (by decide) rfl ?_
  refine aw_sub [2, 1, 0] rfl ?_
  exact c_X6_writeOrder_22  _ _ _ _ _ _ h
theorem c_X6_writeOrder {G : ah_G}   (x0 : Nat) (σ : ah_H) (r : ah_H) (h : f_X6_writeOrder  x0 σ = some r) : AM G m_X6_writeOrder 3 0 0 [.ref x0] σ (ah_rv r) := aw_enter (by decide) (Nat.le_of_ble_eq_true rfl) (c_X6_writeOrder_0 _ _ _ (op_ck_k h))
def f_X6_settle_98  (K28 : Nat → Int32 → ah_H → Option (ah_H)) (K44 : Nat → Int32 → Int32 → ah_H → Option (ah_H)) (x0 : Nat) (x3 : Int32) (x4 : Int32) (σ : ah_H) : Option (ah_H) :=
  K44 x0 x3 (x4 + (1 : Int32)) σ
def f_X6_settle_104  (K28 : Nat → Int32 → ah_H → Option (ah_H)) (x0 : Nat) (x3 : Int32) (σ : ah_H) : Option (ah_H) :=
  K28 x0 (x3 + (-1 : Int32)) σ
def f_X6_settle_44_b  (K28 : Nat → Int32 → ah_H → Option (ah_H)) (K44 : Nat → Int32 → Int32 → ah_H → Option (ah_H)) (x0 : Nat) (x3 : Int32) (x4 : Int32) (σ : ah_H) : Option (ah_H) :=
  (op_gR 6 4 σ x0).bind fun v1 => (op_gI 9 0 σ v1).bind fun v2 => if v2 ≤ x4 then (f_X6_settle_104 K28 x0 x3 σ) else ((f_X6_canBuild x0 x4 x3 σ).bind fun r3 => if r3.1 = 0 then (f_X6_settle_98 K28 K44 x0 x3 x4 r3.2) else ((op_gR 6 2 r3.2 x0).bind fun v4 => (op_gR 6 2 r3.2 x0).bind fun v5 => (op_aL r3.2 v5 x3).bind fun v6 => (f_X6_carting x0 x3 r3.2).bind fun r7 => (op_gR 6 2 r7.2 x0).bind fun v8 => (op_aL r7.2 v8 (x3 ||| ((1 : Int32) <<< (x4 &&& 31)))).bind fun v9 => (op_sL r7.2 v4 x3 (op_minl v6 (r7.1 + v9))).bind fun σ10 => f_X6_settle_98 K28 K44 x0 x3 x4 σ10))
def f_X6_settle_44  (K28 : Nat → Int32 → ah_H → Option (ah_H)) : Nat → Nat → Int32 → Int32 → ah_H → Option (ah_H)
  | 0, _, _, _, _ => none
  | n + 1, x0, x3, x4, σ => f_X6_settle_44_b K28 (f_X6_settle_44 K28 n) x0 x3 x4 σ
def f_X6_settle_110   (x0 : Nat) (σ : ah_H) : Option (ah_H) :=
  (f_X6_writeOrder x0 σ).bind fun r1 => some r1
def f_X6_settle_28_b  (K28 : Nat → Int32 → ah_H → Option (ah_H)) (x0 : Nat) (x3 : Int32) (σ : ah_H) : Option (ah_H) :=
  if x3 < 0 then (f_X6_settle_110 x0 σ) else ((op_gR 6 2 σ x0).bind fun v1 => (op_sL σ v1 x3 (4611686018427387903 : Int64)).bind fun σ2 => f_X6_settle_44 K28 5000 x0 x3 (0 : Int32) σ2)
def f_X6_settle_28   : Nat → Nat → Int32 → ah_H → Option (ah_H)
  | 0, _, _, _ => none
  | n + 1, x0, x3, σ => f_X6_settle_28_b (f_X6_settle_28 n) x0 x3 σ
def f_X6_settle_0   (x0 : Nat) (x1 : Nat) (σ : ah_H) : Option (ah_H) :=
  (op_pR 6 4 σ x0 x1).bind fun σ1 => (op_gR 6 4 σ1 x0).bind fun v2 => (op_gI 9 0 σ1 v2).bind fun v3 => (op_gR 6 2 σ1 x0).bind fun v4 => (op_sL σ1 v4 (((1 : Int32) <<< (v3 &&& 31)) - (1 : Int32)) (0 : Int64)).bind fun σ5 => f_X6_settle_28 5000 x0 ((((1 : Int32) <<< (v3 &&& 31)) - (1 : Int32)) - (1 : Int32)) σ5
def f_X6_settle  (x0 : Nat) (x1 : Nat) (σ : ah_H) : Option (ah_H) := op_ck 6 σ x0 (f_X6_settle_0 x0 x1 σ)
set_option maxRecDepth 100000 in
set_option maxHeartbeats 4000000 in
theorem c_X6_settle_98 {G : ah_G}  (K28 : Nat → Int32 → ah_H → Option (ah_H)) (hK28 : ∀ (x0 : Nat) (x3 : Int32) (σ : ah_H) (r : ah_H), K28 x0 x3 σ = some r → AW G m_X6_settle 4 0 0 28 [(0, .ref x0), (3, .int x3)] [] σ (ah_N G (ah_rv r))) (K44 : Nat → Int32 → Int32 → ah_H → Option (ah_H)) (hK44 : ∀ (x0 : Nat) (x3 : Int32) (x4 : Int32) (σ : ah_H) (r : ah_H), K44 x0 x3 x4 σ = some r → AW G m_X6_settle 4 0 0 44 [(0, .ref x0), (3, .int x3), (4, .int x4)] [] σ (ah_N G (ah_rv r))) : ∀ (x0 : Nat) (x3 : Int32) (x4 : Int32) (σ : ah_H) (r : ah_H), f_X6_settle_98  K28 K44 x0 x3 x4 σ = some r → AW G m_X6_settle 4 0 0 98 [(0, .ref x0), (3, .int x3), (4, .int x4)] [] σ (ah_N G (ah_rv r)) := by
  intro x0 x3 x4 σ r h
  unfold f_X6_settle_98 at h
  refine aw_iinc (pc := 98) 2 [(4, .int (x4 + (1 : Int32))), (0, .ref x0), (3, .int x3)] (x4 + (1 : Int32)) dX6_settle_98 rfl rfl (by decide) rfl ?_
  refine aw_goto (pc := 101) 44 dX6_settle_101 (by decide) ?_
  refine aw_sub [1, 2, 0] rfl ?_
  exact hK44 _ _ _ _ _ h
set_option maxRecDepth 100000 in
set_option maxHeartbeats 4000000 in
theorem c_X6_settle_104 {G : ah_G}  (K28 : Nat → Int32 → ah_H → Option (ah_H)) (hK28 : ∀ (x0 : Nat) (x3 : Int32) (σ : ah_H) (r : ah_H), K28 x0 x3 σ = some r → AW G m_X6_settle 4 0 0 28 [(0, .ref x0), (3, .int x3)] [] σ (ah_N G (ah_rv r))) : ∀ (x0 : Nat) (x3 : Int32) (σ : ah_H) (r : ah_H), f_X6_settle_104  K28 x0 x3 σ = some r → AW G m_X6_settle 4 0 0 104 [(0, .ref x0), (3, .int x3)] [] σ (ah_N G (ah_rv r)) := by
  intro x0 x3 σ r h
  unfold f_X6_settle_104 at h
  refine aw_iinc (pc := 104) 1 [(3, .int (x3 + (-1 : Int32))), (0, .ref x0)] (x3 + (-1 : Int32)) dX6_settle_104 rfl rfl (by decide) rfl ?_
  refine aw_goto (pc := 107) 28 dX6_settle_107 (by decide) ?_
  refine aw_sub [1, 0] rfl ?_
  exact hK28 _ _ _ _ h
set_option maxRecDepth 100000 in
set_option maxHeartbeats 4000000 in
theorem c_X6_settle_44_b {G : ah_G}  (K28 : Nat → Int32 → ah_H → Option (ah_H)) (hK28 : ∀ (x0 : Nat) (x3 : Int32) (σ : ah_H) (r : ah_H), K28 x0 x3 σ = some r → AW G m_X6_settle 4 0 0 28 [(0, .ref x0), (3, .int x3)] [] σ (ah_N G (ah_rv r))) (K44 : Nat → Int32 → Int32 → ah_H → Option (ah_H)) (hK44 : ∀ (x0 : Nat) (x3 : Int32) (x4 : Int32) (σ : ah_H) (r : ah_H), K44 x0 x3 x4 σ = some r → AW G m_X6_settle 4 0 0 44 [(0, .ref x0), (3, .int x3), (4, .int x4)] [] σ (ah_N G (ah_rv r))) : ∀ (x0 : Nat) (x3 : Int32) (x4 : Int32) (σ : ah_H) (r : ah_H), f_X6_settle_44_b  K28 K44 x0 x3 x4 σ = some r → AW G m_X6_settle 4 0 0 44 [(0, .ref x0), (3, .int x3), (4, .int x4)] [] σ (ah_N G (ah_rv r)) := by
  intro x0 x3 x4 σ r h
  unfold f_X6_settle_44_b at h
  refine aw_iload (pc := 44) 2 dX6_settle_44 rfl ?_
  refine aw_aload_n (pc := 46) 0 dX6_settle_46 rfl ?_
  obtain ⟨v1, e, h⟩ := op_bd h
  refine ow_gR (pc := 47) e dX6_settle_47 fd_X6_25 rfl ?_
  obtain ⟨v2, e, h⟩ := op_bd h
  refine ow_gI (pc := 50) e dX6_settle_50 fd_X6_29 rfl ?_
  refine aw_icmp_ge (pc := 53) 104 dX6_settle_53 (by decide) (fun z => ?_) (fun z => ?_)
  · replace h := (if_pos z).symm.trans h
    refine aw_sub [0, 1] rfl ?_
    exact c_X6_settle_104 K28 hK28 _ _ _ _ h
  · replace h := (if_neg z).symm.trans h
    refine aw_aload_n (pc := 56) 0 dX6_settle_56 rfl ?_
    refine aw_iload (pc := 57) 2 dX6_settle_57 rfl ?_
    refine aw_iload_n (pc := 59) 1 dX6_settle_59 rfl ?_
    obtain ⟨r3, e, h⟩ := op_bd h
    refine ow_cVi (pc := 60) [.int x4, .int x3] ((c_X6_canBuild _ _ _ _ _ e).mono (by decide)) (op_ck_sh e) rfl dX6_settle_60 cw_X6_37 rfl (Nat.le_of_ble_eq_true rfl) ?_
    refine aw_if_eq (pc := 63) 98 dX6_settle_63 (by decide) (fun z => ?_) (fun z => ?_)
    · replace h := (if_pos z).symm.trans h
      exact c_X6_settle_98 K28 hK28 K44 hK44 _ _ _ _ _ h
    · replace h := (if_neg z).symm.trans h
      refine aw_aload_n (pc := 66) 0 dX6_settle_66 rfl ?_
      obtain ⟨v4, e, h⟩ := op_bd h
      refine ow_gR (pc := 67) e dX6_settle_67 fd_X6_17 rfl ?_
      refine aw_iload_n (pc := 70) 1 dX6_settle_70 rfl ?_
      refine aw_aload_n (pc := 71) 0 dX6_settle_71 rfl ?_
      obtain ⟨v5, e, h⟩ := op_bd h
      refine ow_gR (pc := 72) e dX6_settle_72 fd_X6_17 rfl ?_
      refine aw_iload_n (pc := 75) 1 dX6_settle_75 rfl ?_
      obtain ⟨v6, e, h⟩ := op_bd h
      refine ow_aL (pc := 76) e dX6_settle_76 ?_
      refine aw_aload_n (pc := 77) 0 dX6_settle_77 rfl ?_
      refine aw_iload_n (pc := 78) 1 dX6_settle_78 rfl ?_
      obtain ⟨r7, e, h⟩ := op_bd h
      refine ow_cVl (pc := 79) [.int x3] ((c_X6_carting _ _ _ _ e).mono (by decide)) (op_ck_sh e) rfl dX6_settle_79 cw_X6_41 rfl (Nat.le_of_ble_eq_true rfl) ?_
      refine aw_aload_n (pc := 82) 0 dX6_settle_82 rfl ?_
      obtain ⟨v8, e, h⟩ := op_bd h
      refine ow_gR (pc := 83) e dX6_settle_83 fd_X6_17 rfl ?_
      refine aw_iload_n (pc := 86) 1 dX6_settle_86 rfl ?_
      refine aw_iconst (pc := 87) (v := (1 : Int32)) dX6_settle_87 (by decide) ?_
      refine aw_iload (pc := 88) 2 dX6_settle_88 rfl ?_
      refine aw_ishl (pc := 90) dX6_settle_90 ?_
      refine aw_ior (pc := 91) dX6_settle_91 ?_
      obtain ⟨v9, e, h⟩ := op_bd h
      refine ow_aL (pc := 92) e dX6_settle_92 ?_
      refine aw_ladd (pc := 93) dX6_settle_93 ?_
      refine ow_minl (pc := 94) dX6_settle_94 mt_X6_45 (Nat.le_of_ble_eq_true rfl) ?_
      obtain ⟨σ10, e, h⟩ := op_bd h
      refine ow_sL (pc := 97) e dX6_settle_97 ?_
      exact c_X6_settle_98 K28 hK28 K44 hK44 _ _ _ _ _ h
theorem c_X6_settle_44 {G : ah_G}  (K28 : Nat → Int32 → ah_H → Option (ah_H)) (hK28 : ∀ (x0 : Nat) (x3 : Int32) (σ : ah_H) (r : ah_H), K28 x0 x3 σ = some r → AW G m_X6_settle 4 0 0 28 [(0, .ref x0), (3, .int x3)] [] σ (ah_N G (ah_rv r))) : ∀ (n : Nat) (x0 : Nat) (x3 : Int32) (x4 : Int32) (σ : ah_H) (r : ah_H), f_X6_settle_44  K28 n x0 x3 x4 σ = some r → AW G m_X6_settle 4 0 0 44 [(0, .ref x0), (3, .int x3), (4, .int x4)] [] σ (ah_N G (ah_rv r)) := by
  intro n
  induction n with
  | zero => intro x0 x3 x4 σ r h; cases h
  | succ n ih => intro x0 x3 x4 σ r h; exact c_X6_settle_44_b  K28 hK28 _ ih x0 x3 x4 σ r h
set_option maxRecDepth 100000 in
set_option maxHeartbeats 4000000 in
theorem c_X6_settle_110 {G : ah_G}   : ∀ (x0 : Nat) (σ : ah_H) (r : ah_H), f_X6_settle_110   x0 σ = some r → AW G m_X6_settle 4 0 0 110 [(0, .ref x0)] [] σ (ah_N G (ah_rv r)) := by
  intro x0 σ r h
  unfold f_X6_settle_110 at h
  refine aw_aload_n (pc := 110) 0 dX6_settle_110 rfl ?_
  obtain ⟨r1, e, h⟩ := op_bd h
  refine ow_cVv (pc := 111) [] ((c_X6_writeOrder _ _ _ e).mono (by decide)) (op_ck_sh e) rfl dX6_settle_111 cw_X6_51 rfl (Nat.le_of_ble_eq_true rfl) ?_
  exact ow_vret (pc := 114) h dX6_settle_114 rfl
set_option maxRecDepth 100000 in
set_option maxHeartbeats 4000000 in
theorem c_X6_settle_28_b {G : ah_G}  (K28 : Nat → Int32 → ah_H → Option (ah_H)) (hK28 : ∀ (x0 : Nat) (x3 : Int32) (σ : ah_H) (r : ah_H), K28 x0 x3 σ = some r → AW G m_X6_settle 4 0 0 28 [(0, .ref x0), (3, .int x3)] [] σ (ah_N G (ah_rv r))) : ∀ (x0 : Nat) (x3 : Int32) (σ : ah_H) (r : ah_H), f_X6_settle_28_b  K28 x0 x3 σ = some r → AW G m_X6_settle 4 0 0 28 [(0, .ref x0), (3, .int x3)] [] σ (ah_N G (ah_rv r)) := by
  intro x0 x3 σ r h
  unfold f_X6_settle_28_b at h
  refine aw_iload_n (pc := 28) 1 dX6_settle_28 rfl ?_
  refine aw_if_lt (pc := 29) 110 dX6_settle_29 (by decide) (fun z => ?_) (fun z => ?_)
  · replace h := (if_pos z).symm.trans h
    refine aw_sub [0] rfl ?_
    exact c_X6_settle_110  _ _ _ h
  · replace h := (if_neg z).symm.trans h
    refine aw_aload_n (pc := 32) 0 dX6_settle_32 rfl ?_
    obtain ⟨v1, e, h⟩ := op_bd h
    refine ow_gR (pc := 33) e dX6_settle_33 fd_X6_17 rfl ?_
    refine aw_iload_n (pc := 36) 1 dX6_settle_36 rfl ?_
    refine aw_ldc2 (pc := 37) dX6_settle_37 kl_X6_35 ?_
    obtain ⟨σ2, e, h⟩ := op_bd h
    refine ow_sL (pc := 40) e dX6_settle_40 ?_
    refine aw_iconst (pc := 41) (v := (0 : Int32)) dX6_settle_41 (by decide) ?_
    refine aw_istore (pc := 42) [(4, .int (0 : Int32)), (0, .ref x0), (3, .int x3)] dX6_settle_42 (by decide) rfl ?_
    refine aw_sub [1, 2, 0] rfl ?_
    exact c_X6_settle_44 K28 hK28 _ _ _ _ _ _ h
theorem c_X6_settle_28 {G : ah_G}   : ∀ (n : Nat) (x0 : Nat) (x3 : Int32) (σ : ah_H) (r : ah_H), f_X6_settle_28   n x0 x3 σ = some r → AW G m_X6_settle 4 0 0 28 [(0, .ref x0), (3, .int x3)] [] σ (ah_N G (ah_rv r)) := by
  intro n
  induction n with
  | zero => intro x0 x3 σ r h; cases h
  | succ n ih => intro x0 x3 σ r h; exact c_X6_settle_28_b   _ ih x0 x3 σ r h
set_option maxRecDepth 100000 in
set_option maxHeartbeats 4000000 in
theorem c_X6_settle_0 {G : ah_G}   : ∀ (x0 : Nat) (x1 : Nat) (σ : ah_H) (r : ah_H), f_X6_settle_0   x0 x1 σ = some r → AW G m_X6_settle 4 0 0 0 [(0, .ref x0), (1, .ref x1)] [] σ (ah_N G (ah_rv r)) := by
  intro x0 x1 σ r h
  unfold f_X6_settle_0 at h
  refine aw_aload_n (pc := 0) 0 dX6_settle_0 rfl ?_
  refine aw_aload_n (pc := 1) 1 dX6_settle_1 rfl ?_
  obtain ⟨σ1, e, h⟩ := op_bd h
  refine ow_pR (pc := 2) e dX6_settle_2 fd_X6_25 rfl ?_
  refine aw_iconst (pc := 5) (v := (1 : Int32)) dX6_settle_5 (by decide) ?_
  refine aw_aload_n (pc := 6) 0 dX6_settle_6 rfl ?_
  obtain ⟨v2, e, h⟩ := op_bd h
  refine ow_gR (pc := 7) e dX6_settle_7 fd_X6_25 rfl ?_
  obtain ⟨v3, e, h⟩ := op_bd h
  refine ow_gI (pc := 10) e dX6_settle_10 fd_X6_29 rfl ?_
  refine aw_ishl (pc := 13) dX6_settle_13 ?_
  refine aw_iconst (pc := 14) (v := (1 : Int32)) dX6_settle_14 (by decide) ?_
  refine aw_isub (pc := 15) dX6_settle_15 ?_
  refine aw_istore_n (pc := 16) [(2, .int (((1 : Int32) <<< (v3 &&& 31)) - (1 : Int32))), (0, .ref x0), (1, .ref x1)] dX6_settle_16 rfl (by decide) rfl ?_
  refine aw_aload_n (pc := 17) 1 dX6_settle_17 rfl ?_
  obtain ⟨v4, e, h⟩ := op_bd h
  refine ow_gR (pc := 18) e dX6_settle_18 fd_X6_17 rfl ?_
  refine aw_iload_n (pc := 21) 0 dX6_settle_21 rfl ?_
  refine aw_lconst (pc := 22) (v := (0 : Int64)) dX6_settle_22 (by decide) ?_
  obtain ⟨σ5, e, h⟩ := op_bd h
  refine ow_sL (pc := 23) e dX6_settle_23 ?_
  refine aw_iload_n (pc := 24) 0 dX6_settle_24 rfl ?_
  refine aw_iconst (pc := 25) (v := (1 : Int32)) dX6_settle_25 (by decide) ?_
  refine aw_isub (pc := 26) dX6_settle_26 ?_
  refine aw_istore_n (pc := 27) [(3, .int ((((1 : Int32) <<< (v3 &&& 31)) - (1 : Int32)) - (1 : Int32))), (2, .int (((1 : Int32) <<< (v3 &&& 31)) - (1 : Int32))), (0, .ref x0), (1, .ref x1)] dX6_settle_27 rfl (by decide) rfl ?_
  refine aw_sub [2, 0] rfl ?_
  exact c_X6_settle_28  _ _ _ _ _ h
theorem c_X6_settle {G : ah_G}   (x0 : Nat) (x1 : Nat) (σ : ah_H) (r : ah_H) (h : f_X6_settle  x0 x1 σ = some r) : AM G m_X6_settle 4 0 0 [.ref x0, .ref x1] σ (ah_rv r) := aw_enter (by decide) (Nat.le_of_ble_eq_true rfl) (c_X6_settle_0 _ _ _ _ (op_ck_k h))
def f_X11_stages_0   (x0 : Nat) (x1 : Int32) (σ : ah_H) : Option (Int64 × ah_H) :=
  (op_gR 11 6 σ x0).bind fun v1 => (f_X3_allRunOut v1 σ).bind fun r2 => if r2.1 = 0 then (some ((-1 : Int64), r2.2)) else (if x1 < 0 then (some ((-1 : Int64), r2.2)) else ((op_gR 11 2 r2.2 x0).bind fun v3 => (op_gI 9 0 r2.2 v3).bind fun v4 => if x1 < v4 then ((op_gR 11 8 r2.2 x0).bind fun v5 => (op_gR 11 2 r2.2 x0).bind fun v6 => (f_X6_settle v5 v6 r2.2).bind fun r7 => if x1 = 0 then ((op_gR 11 8 r7 x0).bind fun v11 => (op_gL 6 0 r7 v11).bind fun v12 => some (v12, r7)) else ((op_gR 11 8 r7 x0).bind fun v8 => (op_gR 6 1 r7 v8).bind fun v9 => (op_aI r7 v9 (x1 - (1 : Int32))).bind fun v10 => some ((Int32.toInt64 v10), r7))) else (some ((-1 : Int64), r2.2))))
def f_X11_stages  (x0 : Nat) (x1 : Int32) (σ : ah_H) : Option (Int64 × ah_H) := op_ck 11 σ x0 (f_X11_stages_0 x0 x1 σ)
set_option maxRecDepth 100000 in
set_option maxHeartbeats 4000000 in
theorem c_X11_stages_0 {G : ah_G}   : ∀ (x0 : Nat) (x1 : Int32) (σ : ah_H) (r : Int64 × ah_H), f_X11_stages_0   x0 x1 σ = some r → AW G m_X11_stages 5 0 0 0 [(0, .ref x0), (1, .int x1)] [] σ (ah_N G (ah_rl r)) := by
  intro x0 x1 σ r h
  unfold f_X11_stages_0 at h
  refine aw_aload_n (pc := 0) 0 dX11_stages_0 rfl ?_
  obtain ⟨v1, e, h⟩ := op_bd h
  refine ow_gR (pc := 1) e dX11_stages_1 fd_X11_48 rfl ?_
  obtain ⟨r2, e, h⟩ := op_bd h
  refine ow_cVi (pc := 4) [] ((c_X3_allRunOut _ _ _ e).mono (by decide)) (op_ck_sh e) rfl dX11_stages_4 cw_X11_248 rfl (Nat.le_of_ble_eq_true rfl) ?_
  refine aw_if_eq (pc := 7) 25 dX11_stages_7 (by decide) (fun z => ?_) (fun z => ?_)
  · replace h := (if_pos z).symm.trans h
    refine aw_ldc2 (pc := 25) dX11_stages_25 kl_X11_166 ?_
    exact ow_lret (pc := 28) h dX11_stages_28 rfl
  · replace h := (if_neg z).symm.trans h
    refine aw_iload_n (pc := 10) 1 dX11_stages_10 rfl ?_
    refine aw_if_lt (pc := 11) 25 dX11_stages_11 (by decide) (fun z => ?_) (fun z => ?_)
    · replace h := (if_pos z).symm.trans h
      refine aw_ldc2 (pc := 25) dX11_stages_25 kl_X11_166 ?_
      exact ow_lret (pc := 28) h dX11_stages_28 rfl
    · replace h := (if_neg z).symm.trans h
      refine aw_iload_n (pc := 14) 1 dX11_stages_14 rfl ?_
      refine aw_aload_n (pc := 15) 0 dX11_stages_15 rfl ?_
      obtain ⟨v3, e, h⟩ := op_bd h
      refine ow_gR (pc := 16) e dX11_stages_16 fd_X11_20 rfl ?_
      obtain ⟨v4, e, h⟩ := op_bd h
      refine ow_gI (pc := 19) e dX11_stages_19 fd_X11_174 rfl ?_
      refine aw_icmp_lt (pc := 22) 29 dX11_stages_22 (by decide) (fun z => ?_) (fun z => ?_)
      · replace h := (if_pos z).symm.trans h
        refine aw_aload_n (pc := 29) 0 dX11_stages_29 rfl ?_
        obtain ⟨v5, e, h⟩ := op_bd h
        refine ow_gR (pc := 30) e dX11_stages_30 fd_X11_64 rfl ?_
        refine aw_aload_n (pc := 33) 0 dX11_stages_33 rfl ?_
        obtain ⟨v6, e, h⟩ := op_bd h
        refine ow_gR (pc := 34) e dX11_stages_34 fd_X11_20 rfl ?_
        obtain ⟨r7, e, h⟩ := op_bd h
        refine ow_cVv (pc := 37) [.ref v6] ((c_X6_settle _ _ _ _ e).mono (by decide)) (op_ck_sh e) rfl dX11_stages_37 cw_X11_252 rfl (Nat.le_of_ble_eq_true rfl) ?_
        refine aw_iload_n (pc := 40) 1 dX11_stages_40 rfl ?_
        refine aw_if_ne (pc := 41) 54 dX11_stages_41 (by decide) (fun z => ?_) (fun z => ?_)
        · replace h := (if_neg z).symm.trans h
          refine aw_aload_n (pc := 54) 0 dX11_stages_54 rfl ?_
          obtain ⟨v8, e, h⟩ := op_bd h
          refine ow_gR (pc := 55) e dX11_stages_55 fd_X11_64 rfl ?_
          obtain ⟨v9, e, h⟩ := op_bd h
          refine ow_gR (pc := 58) e dX11_stages_58 fd_X11_257 rfl ?_
          refine aw_iload_n (pc := 61) 1 dX11_stages_61 rfl ?_
          refine aw_iconst (pc := 62) (v := (1 : Int32)) dX11_stages_62 (by decide) ?_
          refine aw_isub (pc := 63) dX11_stages_63 ?_
          obtain ⟨v10, e, h⟩ := op_bd h
          refine ow_aI (pc := 64) e dX11_stages_64 ?_
          refine aw_i2l (pc := 65) dX11_stages_65 ?_
          exact ow_lret (pc := 66) h dX11_stages_66 rfl
        · replace h := (if_pos z).symm.trans h
          refine aw_aload_n (pc := 44) 0 dX11_stages_44 rfl ?_
          obtain ⟨v11, e, h⟩ := op_bd h
          refine ow_gR (pc := 45) e dX11_stages_45 fd_X11_64 rfl ?_
          obtain ⟨v12, e, h⟩ := op_bd h
          refine ow_gL (pc := 48) e dX11_stages_48 fd_X11_254 ?_
          refine aw_goto (pc := 51) 66 dX11_stages_51 (by decide) ?_
          exact ow_lret (pc := 66) h dX11_stages_66 rfl
      · replace h := (if_neg z).symm.trans h
        refine aw_ldc2 (pc := 25) dX11_stages_25 kl_X11_166 ?_
        exact ow_lret (pc := 28) h dX11_stages_28 rfl
theorem c_X11_stages {G : ah_G}   (x0 : Nat) (x1 : Int32) (σ : ah_H) (r : Int64 × ah_H) (h : f_X11_stages  x0 x1 σ = some r) : AM G m_X11_stages 5 0 0 [.ref x0, .int x1] σ (ah_rl r) := aw_enter (by decide) (Nat.le_of_ble_eq_true rfl) (c_X11_stages_0 _ _ _ _ (op_ck_k h))
def f_X6_sumOf_92   (x0 : Nat) (x4 : Int32) (x5 : Int64) (σ : ah_H) : Option (Int64 × ah_H) :=
  (op_gR 6 4 σ x0).bind fun v1 => (op_gI 9 0 σ v1).bind fun v2 => if x4 = (((1 : Int32) <<< (v2 &&& 31)) - (1 : Int32)) then (some (x5, σ)) else (some ((-2 : Int64), σ))
def f_X6_sumOf_22_b  (K22 : Nat → Int32 → Int32 → Int32 → Int64 → Int32 → ah_H → Option (Int64 × ah_H)) (x0 : Nat) (x2 : Int32) (x3 : Int32) (x4 : Int32) (x5 : Int64) (x7 : Int32) (σ : ah_H) : Option (Int64 × ah_H) :=
  if x2 ≤ x7 then (f_X6_sumOf_92 x0 x4 x5 σ) else ((op_gR 6 4 σ x0).bind fun v1 => (f_X9_isCorner v1 ((x3 >>> (((4 : Int32) * x7) &&& 31)) &&& (15 : Int32)) σ).bind fun r2 => if r2.1 = 0 then (some ((-2 : Int64), r2.2)) else ((f_X6_canBuild x0 ((x3 >>> (((4 : Int32) * x7) &&& 31)) &&& (15 : Int32)) x4 r2.2).bind fun r3 => if r3.1 = 0 then (some ((-2 : Int64), r3.2)) else ((f_X6_carting x0 x4 r3.2).bind fun r4 => K22 x0 x2 x3 (x4 ||| ((1 : Int32) <<< (((x3 >>> (((4 : Int32) * x7) &&& 31)) &&& (15 : Int32)) &&& 31))) (x5 + r4.1) (x7 + (1 : Int32)) r4.2)))
def f_X6_sumOf_22   : Nat → Nat → Int32 → Int32 → Int32 → Int64 → Int32 → ah_H → Option (Int64 × ah_H)
  | 0, _, _, _, _, _, _, _ => none
  | n + 1, x0, x2, x3, x4, x5, x7, σ => f_X6_sumOf_22_b (f_X6_sumOf_22 n) x0 x2 x3 x4 x5 x7 σ
def f_X6_sumOf_0   (x0 : Nat) (x1 : Nat) (x2 : Int32) (x3 : Int32) (σ : ah_H) : Option (Int64 × ah_H) :=
  (op_pR 6 4 σ x0 x1).bind fun σ1 => (op_gR 6 4 σ1 x0).bind fun v2 => (op_gI 9 2 σ1 v2).bind fun v3 => f_X6_sumOf_22 5000 x0 x2 x3 ((1 : Int32) <<< (v3 &&& 31)) (0 : Int64) (0 : Int32) σ1
def f_X6_sumOf  (x0 : Nat) (x1 : Nat) (x2 : Int32) (x3 : Int32) (σ : ah_H) : Option (Int64 × ah_H) := op_ck 6 σ x0 (f_X6_sumOf_0 x0 x1 x2 x3 σ)
set_option maxRecDepth 100000 in
set_option maxHeartbeats 4000000 in
theorem c_X6_sumOf_92 {G : ah_G}   : ∀ (x0 : Nat) (x4 : Int32) (x5 : Int64) (σ : ah_H) (r : Int64 × ah_H), f_X6_sumOf_92   x0 x4 x5 σ = some r → AW G m_X6_sumOf 2 0 0 92 [(0, .ref x0), (4, .int x4), (5, .long x5)] [] σ (ah_N G (ah_rl r)) := by
  intro x0 x4 x5 σ r h
  unfold f_X6_sumOf_92 at h
  refine aw_iload (pc := 92) 1 dX6_sumOf_92 rfl ?_
  refine aw_iconst (pc := 94) (v := (1 : Int32)) dX6_sumOf_94 (by decide) ?_
  refine aw_aload_n (pc := 95) 0 dX6_sumOf_95 rfl ?_
  obtain ⟨v1, e, h⟩ := op_bd h
  refine ow_gR (pc := 96) e dX6_sumOf_96 fd_X6_25 rfl ?_
  obtain ⟨v2, e, h⟩ := op_bd h
  refine ow_gI (pc := 99) e dX6_sumOf_99 fd_X6_29 rfl ?_
  refine aw_ishl (pc := 102) dX6_sumOf_102 ?_
  refine aw_iconst (pc := 103) (v := (1 : Int32)) dX6_sumOf_103 (by decide) ?_
  refine aw_isub (pc := 104) dX6_sumOf_104 ?_
  refine aw_icmp_ne (pc := 105) 113 dX6_sumOf_105 (by decide) (fun z => ?_) (fun z => ?_)
  · replace h := (if_neg z).symm.trans h
    refine aw_ldc2 (pc := 113) dX6_sumOf_113 kl_X6_85 ?_
    exact ow_lret (pc := 116) h dX6_sumOf_116 rfl
  · replace h := (if_pos z).symm.trans h
    refine aw_lload (pc := 108) 2 dX6_sumOf_108 rfl ?_
    refine aw_goto (pc := 110) 116 dX6_sumOf_110 (by decide) ?_
    exact ow_lret (pc := 116) h dX6_sumOf_116 rfl
set_option maxRecDepth 100000 in
set_option maxHeartbeats 4000000 in
theorem c_X6_sumOf_22_b {G : ah_G}  (K22 : Nat → Int32 → Int32 → Int32 → Int64 → Int32 → ah_H → Option (Int64 × ah_H)) (hK22 : ∀ (x0 : Nat) (x2 : Int32) (x3 : Int32) (x4 : Int32) (x5 : Int64) (x7 : Int32) (σ : ah_H) (r : Int64 × ah_H), K22 x0 x2 x3 x4 x5 x7 σ = some r → AW G m_X6_sumOf 2 0 0 22 [(0, .ref x0), (2, .int x2), (3, .int x3), (4, .int x4), (5, .long x5), (7, .int x7)] [] σ (ah_N G (ah_rl r))) : ∀ (x0 : Nat) (x2 : Int32) (x3 : Int32) (x4 : Int32) (x5 : Int64) (x7 : Int32) (σ : ah_H) (r : Int64 × ah_H), f_X6_sumOf_22_b  K22 x0 x2 x3 x4 x5 x7 σ = some r → AW G m_X6_sumOf 2 0 0 22 [(0, .ref x0), (2, .int x2), (3, .int x3), (4, .int x4), (5, .long x5), (7, .int x7)] [] σ (ah_N G (ah_rl r)) := by
  intro x0 x2 x3 x4 x5 x7 σ r h
  unfold f_X6_sumOf_22_b at h
  refine aw_iload (pc := 22) 5 dX6_sumOf_22 rfl ?_
  refine aw_iload_n (pc := 24) 1 dX6_sumOf_24 rfl ?_
  refine aw_icmp_ge (pc := 25) 92 dX6_sumOf_25 (by decide) (fun z => ?_) (fun z => ?_)
  · replace h := (if_pos z).symm.trans h
    refine aw_sub [0, 3, 4] rfl ?_
    exact c_X6_sumOf_92  _ _ _ _ _ h
  · replace h := (if_neg z).symm.trans h
    refine aw_iload_n (pc := 28) 2 dX6_sumOf_28 rfl ?_
    refine aw_iconst (pc := 29) (v := (4 : Int32)) dX6_sumOf_29 (by decide) ?_
    refine aw_iload (pc := 30) 5 dX6_sumOf_30 rfl ?_
    refine aw_imul (pc := 32) dX6_sumOf_32 ?_
    refine aw_ishr (pc := 33) dX6_sumOf_33 ?_
    refine aw_bipush (pc := 34) (v := (15 : Int32)) dX6_sumOf_34 (by decide) ?_
    refine aw_iand (pc := 36) dX6_sumOf_36 ?_
    refine aw_istore (pc := 37) [(8, .int ((x3 >>> (((4 : Int32) * x7) &&& 31)) &&& (15 : Int32))), (0, .ref x0), (2, .int x2), (3, .int x3), (4, .int x4), (5, .long x5), (7, .int x7)] dX6_sumOf_37 (by decide) rfl ?_
    refine aw_aload_n (pc := 39) 1 dX6_sumOf_39 rfl ?_
    obtain ⟨v1, e, h⟩ := op_bd h
    refine ow_gR (pc := 40) e dX6_sumOf_40 fd_X6_25 rfl ?_
    refine aw_iload (pc := 43) 0 dX6_sumOf_43 rfl ?_
    obtain ⟨r2, e, h⟩ := op_bd h
    refine ow_cVi (pc := 45) [.int ((x3 >>> (((4 : Int32) * x7) &&& 31)) &&& (15 : Int32))] ((c_X9_isCorner _ _ _ _ e).mono (by decide)) (op_ck_sh e) rfl dX6_sumOf_45 cw_X6_81 rfl (Nat.le_of_ble_eq_true rfl) ?_
    refine aw_if_eq (pc := 48) 62 dX6_sumOf_48 (by decide) (fun z => ?_) (fun z => ?_)
    · replace h := (if_pos z).symm.trans h
      refine aw_ldc2 (pc := 62) dX6_sumOf_62 kl_X6_85 ?_
      exact ow_lret (pc := 65) h dX6_sumOf_65 rfl
    · replace h := (if_neg z).symm.trans h
      refine aw_aload_n (pc := 51) 1 dX6_sumOf_51 rfl ?_
      refine aw_iload (pc := 52) 0 dX6_sumOf_52 rfl ?_
      refine aw_iload (pc := 54) 4 dX6_sumOf_54 rfl ?_
      obtain ⟨r3, e, h⟩ := op_bd h
      refine ow_cVi (pc := 56) [.int ((x3 >>> (((4 : Int32) * x7) &&& 31)) &&& (15 : Int32)), .int x4] ((c_X6_canBuild _ _ _ _ _ e).mono (by decide)) (op_ck_sh e) rfl dX6_sumOf_56 cw_X6_37 rfl (Nat.le_of_ble_eq_true rfl) ?_
      refine aw_if_ne (pc := 59) 66 dX6_sumOf_59 (by decide) (fun z => ?_) (fun z => ?_)
      · replace h := (if_neg z).symm.trans h
        refine aw_lload (pc := 66) 5 dX6_sumOf_66 rfl ?_
        refine aw_aload_n (pc := 68) 1 dX6_sumOf_68 rfl ?_
        refine aw_iload (pc := 69) 4 dX6_sumOf_69 rfl ?_
        obtain ⟨r4, e, h⟩ := op_bd h
        refine ow_cVl (pc := 71) [.int x4] ((c_X6_carting _ _ _ _ e).mono (by decide)) (op_ck_sh e) rfl dX6_sumOf_71 cw_X6_41 rfl (Nat.le_of_ble_eq_true rfl) ?_
        refine aw_ladd (pc := 74) dX6_sumOf_74 ?_
        refine aw_lstore (pc := 75) [(5, .long (x5 + r4.1)), (8, .int ((x3 >>> (((4 : Int32) * x7) &&& 31)) &&& (15 : Int32))), (0, .ref x0), (2, .int x2), (3, .int x3), (4, .int x4), (7, .int x7)] dX6_sumOf_75 (by decide) rfl ?_
        refine aw_iload (pc := 77) 5 dX6_sumOf_77 rfl ?_
        refine aw_iconst (pc := 79) (v := (1 : Int32)) dX6_sumOf_79 (by decide) ?_
        refine aw_iload (pc := 80) 1 dX6_sumOf_80 rfl ?_
        refine aw_ishl (pc := 82) dX6_sumOf_82 ?_
        refine aw_ior (pc := 83) dX6_sumOf_83 ?_
        refine aw_istore (pc := 84) [(4, .int (x4 ||| ((1 : Int32) <<< (((x3 >>> (((4 : Int32) * x7) &&& 31)) &&& (15 : Int32)) &&& 31)))), (5, .long (x5 + r4.1)), (8, .int ((x3 >>> (((4 : Int32) * x7) &&& 31)) &&& (15 : Int32))), (0, .ref x0), (2, .int x2), (3, .int x3), (7, .int x7)] dX6_sumOf_84 (by decide) rfl ?_
        refine aw_iinc (pc := 86) 6 [(7, .int (x7 + (1 : Int32))), (4, .int (x4 ||| ((1 : Int32) <<< (((x3 >>> (((4 : Int32) * x7) &&& 31)) &&& (15 : Int32)) &&& 31)))), (5, .long (x5 + r4.1)), (8, .int ((x3 >>> (((4 : Int32) * x7) &&& 31)) &&& (15 : Int32))), (0, .ref x0), (2, .int x2), (3, .int x3)] (x7 + (1 : Int32)) dX6_sumOf_86 rfl rfl (by decide) rfl ?_
        refine aw_goto (pc := 89) 22 dX6_sumOf_89 (by decide) ?_
        refine aw_sub [4, 5, 6, 1, 2, 0] rfl ?_
        exact hK22 _ _ _ _ _ _ _ _ h
      · replace h := (if_pos z).symm.trans h
        refine aw_ldc2 (pc := 62) dX6_sumOf_62 kl_X6_85 ?_
        exact ow_lret (pc := 65) h dX6_sumOf_65 rfl
theorem c_X6_sumOf_22 {G : ah_G}   : ∀ (n : Nat) (x0 : Nat) (x2 : Int32) (x3 : Int32) (x4 : Int32) (x5 : Int64) (x7 : Int32) (σ : ah_H) (r : Int64 × ah_H), f_X6_sumOf_22   n x0 x2 x3 x4 x5 x7 σ = some r → AW G m_X6_sumOf 2 0 0 22 [(0, .ref x0), (2, .int x2), (3, .int x3), (4, .int x4), (5, .long x5), (7, .int x7)] [] σ (ah_N G (ah_rl r)) := by
  intro n
  induction n with
  | zero => intro x0 x2 x3 x4 x5 x7 σ r h; cases h
  | succ n ih => intro x0 x2 x3 x4 x5 x7 σ r h; exact c_X6_sumOf_22_b   _ ih x0 x2 x3 x4 x5 x7 σ r h
set_option maxRecDepth 100000 in
set_option maxHeartbeats 4000000 in
theorem c_X6_sumOf_0 {G : ah_G}   : ∀ (x0 : Nat) (x1 : Nat) (x2 : Int32) (x3 : Int32) (σ : ah_H) (r : Int64 × ah_H), f_X6_sumOf_0   x0 x1 x2 x3 σ = some r → AW G m_X6_sumOf 2 0 0 0 [(0, .ref x0), (1, .ref x1), (2, .int x2), (3, .int x3)] [] σ (ah_N G (ah_rl r)) := by
  intro x0 x1 x2 x3 σ r h
  unfold f_X6_sumOf_0 at h
  refine aw_aload_n (pc := 0) 0 dX6_sumOf_0 rfl ?_
  refine aw_aload_n (pc := 1) 1 dX6_sumOf_1 rfl ?_
  obtain ⟨σ1, e, h⟩ := op_bd h
  refine ow_pR (pc := 2) e dX6_sumOf_2 fd_X6_25 rfl ?_
  refine aw_iconst (pc := 5) (v := (1 : Int32)) dX6_sumOf_5 (by decide) ?_
  refine aw_aload_n (pc := 6) 0 dX6_sumOf_6 rfl ?_
  obtain ⟨v2, e, h⟩ := op_bd h
  refine ow_gR (pc := 7) e dX6_sumOf_7 fd_X6_25 rfl ?_
  obtain ⟨v3, e, h⟩ := op_bd h
  refine ow_gI (pc := 10) e dX6_sumOf_10 fd_X6_54 rfl ?_
  refine aw_ishl (pc := 13) dX6_sumOf_13 ?_
  refine aw_istore (pc := 14) [(4, .int ((1 : Int32) <<< (v3 &&& 31))), (0, .ref x0), (1, .ref x1), (2, .int x2), (3, .int x3)] dX6_sumOf_14 (by decide) rfl ?_
  refine aw_lconst (pc := 16) (v := (0 : Int64)) dX6_sumOf_16 (by decide) ?_
  refine aw_lstore (pc := 17) [(5, .long (0 : Int64)), (4, .int ((1 : Int32) <<< (v3 &&& 31))), (0, .ref x0), (1, .ref x1), (2, .int x2), (3, .int x3)] dX6_sumOf_17 (by decide) rfl ?_
  refine aw_iconst (pc := 19) (v := (0 : Int32)) dX6_sumOf_19 (by decide) ?_
  refine aw_istore (pc := 20) [(7, .int (0 : Int32)), (5, .long (0 : Int64)), (4, .int ((1 : Int32) <<< (v3 &&& 31))), (0, .ref x0), (1, .ref x1), (2, .int x2), (3, .int x3)] dX6_sumOf_20 (by decide) rfl ?_
  refine aw_sub [3, 5, 6, 2, 1, 0] rfl ?_
  exact c_X6_sumOf_22  _ _ _ _ _ _ _ _ _ h
theorem c_X6_sumOf {G : ah_G}   (x0 : Nat) (x1 : Nat) (x2 : Int32) (x3 : Int32) (σ : ah_H) (r : Int64 × ah_H) (h : f_X6_sumOf  x0 x1 x2 x3 σ = some r) : AM G m_X6_sumOf 2 0 0 [.ref x0, .ref x1, .int x2, .int x3] σ (ah_rl r) := aw_enter (by decide) (Nat.le_of_ble_eq_true rfl) (c_X6_sumOf_0 _ _ _ _ _ _ (op_ck_k h))
def f_X11_stage_0   (x0 : Nat) (x1 : Int32) (x2 : Int32) (σ : ah_H) : Option (Int64 × ah_H) :=
  (op_gR 11 6 σ x0).bind fun v1 => (f_X3_allRunOut v1 σ).bind fun r2 => if r2.1 = 0 then (some ((-1 : Int64), r2.2)) else (if x1 < 0 then (some ((-1 : Int64), r2.2)) else (if x1 < (7 : Int32) then ((op_gR 11 8 r2.2 x0).bind fun v3 => (op_gR 11 2 r2.2 x0).bind fun v4 => (f_X6_sumOf v3 v4 x1 x2 r2.2).bind fun r5 => some (r5.1, r5.2)) else (some ((-1 : Int64), r2.2))))
def f_X11_stage  (x0 : Nat) (x1 : Int32) (x2 : Int32) (σ : ah_H) : Option (Int64 × ah_H) := op_ck 11 σ x0 (f_X11_stage_0 x0 x1 x2 σ)
set_option maxRecDepth 100000 in
set_option maxHeartbeats 4000000 in
theorem c_X11_stage_0 {G : ah_G}   : ∀ (x0 : Nat) (x1 : Int32) (x2 : Int32) (σ : ah_H) (r : Int64 × ah_H), f_X11_stage_0   x0 x1 x2 σ = some r → AW G m_X11_stage 3 0 0 0 [(0, .ref x0), (1, .int x1), (2, .int x2)] [] σ (ah_N G (ah_rl r)) := by
  intro x0 x1 x2 σ r h
  unfold f_X11_stage_0 at h
  refine aw_aload_n (pc := 0) 0 dX11_stage_0 rfl ?_
  obtain ⟨v1, e, h⟩ := op_bd h
  refine ow_gR (pc := 1) e dX11_stage_1 fd_X11_48 rfl ?_
  obtain ⟨r2, e, h⟩ := op_bd h
  refine ow_cVi (pc := 4) [] ((c_X3_allRunOut _ _ _ e).mono (by decide)) (op_ck_sh e) rfl dX11_stage_4 cw_X11_248 rfl (Nat.le_of_ble_eq_true rfl) ?_
  refine aw_if_eq (pc := 7) 20 dX11_stage_7 (by decide) (fun z => ?_) (fun z => ?_)
  · replace h := (if_pos z).symm.trans h
    refine aw_ldc2 (pc := 20) dX11_stage_20 kl_X11_166 ?_
    exact ow_lret (pc := 23) h dX11_stage_23 rfl
  · replace h := (if_neg z).symm.trans h
    refine aw_iload_n (pc := 10) 1 dX11_stage_10 rfl ?_
    refine aw_if_lt (pc := 11) 20 dX11_stage_11 (by decide) (fun z => ?_) (fun z => ?_)
    · replace h := (if_pos z).symm.trans h
      refine aw_ldc2 (pc := 20) dX11_stage_20 kl_X11_166 ?_
      exact ow_lret (pc := 23) h dX11_stage_23 rfl
    · replace h := (if_neg z).symm.trans h
      refine aw_iload_n (pc := 14) 1 dX11_stage_14 rfl ?_
      refine aw_bipush (pc := 15) (v := (7 : Int32)) dX11_stage_15 (by decide) ?_
      refine aw_icmp_lt (pc := 17) 24 dX11_stage_17 (by decide) (fun z => ?_) (fun z => ?_)
      · replace h := (if_pos z).symm.trans h
        refine aw_aload_n (pc := 24) 0 dX11_stage_24 rfl ?_
        obtain ⟨v3, e, h⟩ := op_bd h
        refine ow_gR (pc := 25) e dX11_stage_25 fd_X11_64 rfl ?_
        refine aw_aload_n (pc := 28) 0 dX11_stage_28 rfl ?_
        obtain ⟨v4, e, h⟩ := op_bd h
        refine ow_gR (pc := 29) e dX11_stage_29 fd_X11_20 rfl ?_
        refine aw_iload_n (pc := 32) 1 dX11_stage_32 rfl ?_
        refine aw_iload_n (pc := 33) 2 dX11_stage_33 rfl ?_
        obtain ⟨r5, e, h⟩ := op_bd h
        refine ow_cVl (pc := 34) [.ref v4, .int x1, .int x2] ((c_X6_sumOf _ _ _ _ _ _ e).mono (by decide)) (op_ck_sh e) rfl dX11_stage_34 cw_X11_260 rfl (Nat.le_of_ble_eq_true rfl) ?_
        exact ow_lret (pc := 37) h dX11_stage_37 rfl
      · replace h := (if_neg z).symm.trans h
        refine aw_ldc2 (pc := 20) dX11_stage_20 kl_X11_166 ?_
        exact ow_lret (pc := 23) h dX11_stage_23 rfl
theorem c_X11_stage {G : ah_G}   (x0 : Nat) (x1 : Int32) (x2 : Int32) (σ : ah_H) (r : Int64 × ah_H) (h : f_X11_stage  x0 x1 x2 σ = some r) : AM G m_X11_stage 3 0 0 [.ref x0, .int x1, .int x2] σ (ah_rl r) := aw_enter (by decide) (Nat.le_of_ble_eq_true rfl) (c_X11_stage_0 _ _ _ _ _ (op_ck_k h))
def f_X3_dangerOf_75  (K6 : Nat → Int32 → Int32 → Int32 → ah_H → Option (Int32 × ah_H)) (K20 : Nat → Int32 → Int32 → Int32 → Int32 → ah_H → Option (Int32 × ah_H)) (x0 : Nat) (x1 : Int32) (x2 : Int32) (x3 : Int32) (x4 : Int32) (σ : ah_H) : Option (Int32 × ah_H) :=
  K20 x0 x1 x2 x3 (x4 + (1 : Int32)) σ
def f_X3_dangerOf_81  (K6 : Nat → Int32 → Int32 → Int32 → ah_H → Option (Int32 × ah_H)) (x0 : Nat) (x1 : Int32) (x2 : Int32) (x3 : Int32) (σ : ah_H) : Option (Int32 × ah_H) :=
  K6 x0 x1 x2 (x3 + (1 : Int32)) σ
def f_X3_dangerOf_20_b  (K6 : Nat → Int32 → Int32 → Int32 → ah_H → Option (Int32 × ah_H)) (K20 : Nat → Int32 → Int32 → Int32 → Int32 → ah_H → Option (Int32 × ah_H)) (x0 : Nat) (x1 : Int32) (x2 : Int32) (x3 : Int32) (x4 : Int32) (σ : ah_H) : Option (Int32 × ah_H) :=
  (op_gR 3 6 σ x0).bind fun v1 => (op_gI 9 0 σ v1).bind fun v2 => if v2 ≤ x4 then (f_X3_dangerOf_81 K6 x0 x1 x2 x3 σ) else ((op_gR 3 5 σ x0).bind fun v3 => (op_gR 5 0 σ v3).bind fun v4 => (op_aI σ v4 x4).bind fun v5 => if v5 = (-1 : Int32) then (f_X3_dangerOf_75 K6 K20 x0 x1 x2 x3 x4 σ) else ((op_gR 3 6 σ x0).bind fun v6 => (f_X9_otherEnd v6 v5 x4 σ).bind fun r7 => if ((x2 >>> (r7.1 &&& 31)) &&& (1 : Int32)) = 0 then (f_X3_dangerOf_75 K6 K20 x0 x1 x2 x3 x4 r7.2) else (f_X3_dangerOf_75 K6 K20 x0 x1 (x2 ||| ((1 : Int32) <<< (x4 &&& 31))) x3 x4 r7.2)))
def f_X3_dangerOf_20  (K6 : Nat → Int32 → Int32 → Int32 → ah_H → Option (Int32 × ah_H)) : Nat → Nat → Int32 → Int32 → Int32 → Int32 → ah_H → Option (Int32 × ah_H)
  | 0, _, _, _, _, _, _ => none
  | n + 1, x0, x1, x2, x3, x4, σ => f_X3_dangerOf_20_b K6 (f_X3_dangerOf_20 K6 n) x0 x1 x2 x3 x4 σ
def f_X3_dangerOf_132   (x0 : Nat) (x1 : Int32) (x3 : Int32) (σ : ah_H) : Option (Int32 × ah_H) :=
  (op_gR 3 6 σ x0).bind fun v1 => (op_gR 9 5 σ v1).bind fun v2 => (op_gR 3 5 σ x0).bind fun v3 => (op_gR 5 0 σ v3).bind fun v4 => (op_aI σ v4 x1).bind fun v5 => (op_aR .int σ v2 v5).bind fun v6 => (op_aI σ v6 (4 : Int32)).bind fun v7 => some ((x3 * v7), σ)
def f_X3_dangerOf_92_b  (K92 : Nat → Int32 → Int32 → Int32 → Int32 → ah_H → Option (Int32 × ah_H)) (x0 : Nat) (x1 : Int32) (x2 : Int32) (x3 : Int32) (x4 : Int32) (σ : ah_H) : Option (Int32 × ah_H) :=
  (op_gR 3 6 σ x0).bind fun v1 => (op_gI 9 0 σ v1).bind fun v2 => if v2 ≤ x4 then (f_X3_dangerOf_132 x0 x1 x3 σ) else ((op_gR 3 6 σ x0).bind fun v3 => (op_gR 9 1 σ v3).bind fun v4 => (op_aR .int σ v4 x4).bind fun v5 => (op_aI σ v5 (1 : Int32)).bind fun v6 => K92 x0 x1 x2 (x3 + (((x2 >>> (x4 &&& 31)) &&& (1 : Int32)) * v6)) (x4 + (1 : Int32)) σ)
def f_X3_dangerOf_92   : Nat → Nat → Int32 → Int32 → Int32 → Int32 → ah_H → Option (Int32 × ah_H)
  | 0, _, _, _, _, _, _ => none
  | n + 1, x0, x1, x2, x3, x4, σ => f_X3_dangerOf_92_b (f_X3_dangerOf_92 n) x0 x1 x2 x3 x4 σ
def f_X3_dangerOf_87   (x0 : Nat) (x1 : Int32) (x2 : Int32) (σ : ah_H) : Option (Int32 × ah_H) :=
  f_X3_dangerOf_92 5000 x0 x1 x2 (0 : Int32) (0 : Int32) σ
def f_X3_dangerOf_6_b  (K6 : Nat → Int32 → Int32 → Int32 → ah_H → Option (Int32 × ah_H)) (x0 : Nat) (x1 : Int32) (x2 : Int32) (x3 : Int32) (σ : ah_H) : Option (Int32 × ah_H) :=
  (op_gR 3 6 σ x0).bind fun v1 => (op_gI 9 0 σ v1).bind fun v2 => if v2 ≤ x3 then (f_X3_dangerOf_87 x0 x1 x2 σ) else (f_X3_dangerOf_20 K6 5000 x0 x1 x2 x3 (0 : Int32) σ)
def f_X3_dangerOf_6   : Nat → Nat → Int32 → Int32 → Int32 → ah_H → Option (Int32 × ah_H)
  | 0, _, _, _, _, _ => none
  | n + 1, x0, x1, x2, x3, σ => f_X3_dangerOf_6_b (f_X3_dangerOf_6 n) x0 x1 x2 x3 σ
def f_X3_dangerOf_0   (x0 : Nat) (x1 : Int32) (σ : ah_H) : Option (Int32 × ah_H) :=
  f_X3_dangerOf_6 5000 x0 x1 ((1 : Int32) <<< (x1 &&& 31)) (1 : Int32) σ
def f_X3_dangerOf  (x0 : Nat) (x1 : Int32) (σ : ah_H) : Option (Int32 × ah_H) := op_ck 3 σ x0 (f_X3_dangerOf_0 x0 x1 σ)
set_option maxRecDepth 100000 in
set_option maxHeartbeats 4000000 in
theorem c_X3_dangerOf_75 {G : ah_G}  (K6 : Nat → Int32 → Int32 → Int32 → ah_H → Option (Int32 × ah_H)) (hK6 : ∀ (x0 : Nat) (x1 : Int32) (x2 : Int32) (x3 : Int32) (σ : ah_H) (r : Int32 × ah_H), K6 x0 x1 x2 x3 σ = some r → AW G m_X3_dangerOf 1 0 0 6 [(0, .ref x0), (1, .int x1), (2, .int x2), (3, .int x3)] [] σ (ah_N G (ah_ri r))) (K20 : Nat → Int32 → Int32 → Int32 → Int32 → ah_H → Option (Int32 × ah_H)) (hK20 : ∀ (x0 : Nat) (x1 : Int32) (x2 : Int32) (x3 : Int32) (x4 : Int32) (σ : ah_H) (r : Int32 × ah_H), K20 x0 x1 x2 x3 x4 σ = some r → AW G m_X3_dangerOf 1 0 0 20 [(0, .ref x0), (1, .int x1), (2, .int x2), (3, .int x3), (4, .int x4)] [] σ (ah_N G (ah_ri r))) : ∀ (x0 : Nat) (x1 : Int32) (x2 : Int32) (x3 : Int32) (x4 : Int32) (σ : ah_H) (r : Int32 × ah_H), f_X3_dangerOf_75  K6 K20 x0 x1 x2 x3 x4 σ = some r → AW G m_X3_dangerOf 1 0 0 75 [(0, .ref x0), (1, .int x1), (2, .int x2), (3, .int x3), (4, .int x4)] [] σ (ah_N G (ah_ri r)) := by
  intro x0 x1 x2 x3 x4 σ r h
  unfold f_X3_dangerOf_75 at h
  refine aw_iinc (pc := 75) 4 [(4, .int (x4 + (1 : Int32))), (0, .ref x0), (1, .int x1), (2, .int x2), (3, .int x3)] (x4 + (1 : Int32)) dX3_dangerOf_75 rfl rfl (by decide) rfl ?_
  refine aw_goto (pc := 78) 20 dX3_dangerOf_78 (by decide) ?_
  refine aw_sub [1, 2, 3, 4, 0] rfl ?_
  exact hK20 _ _ _ _ _ _ _ h
set_option maxRecDepth 100000 in
set_option maxHeartbeats 4000000 in
theorem c_X3_dangerOf_81 {G : ah_G}  (K6 : Nat → Int32 → Int32 → Int32 → ah_H → Option (Int32 × ah_H)) (hK6 : ∀ (x0 : Nat) (x1 : Int32) (x2 : Int32) (x3 : Int32) (σ : ah_H) (r : Int32 × ah_H), K6 x0 x1 x2 x3 σ = some r → AW G m_X3_dangerOf 1 0 0 6 [(0, .ref x0), (1, .int x1), (2, .int x2), (3, .int x3)] [] σ (ah_N G (ah_ri r))) : ∀ (x0 : Nat) (x1 : Int32) (x2 : Int32) (x3 : Int32) (σ : ah_H) (r : Int32 × ah_H), f_X3_dangerOf_81  K6 x0 x1 x2 x3 σ = some r → AW G m_X3_dangerOf 1 0 0 81 [(0, .ref x0), (1, .int x1), (2, .int x2), (3, .int x3)] [] σ (ah_N G (ah_ri r)) := by
  intro x0 x1 x2 x3 σ r h
  unfold f_X3_dangerOf_81 at h
  refine aw_iinc (pc := 81) 3 [(3, .int (x3 + (1 : Int32))), (0, .ref x0), (1, .int x1), (2, .int x2)] (x3 + (1 : Int32)) dX3_dangerOf_81 rfl rfl (by decide) rfl ?_
  refine aw_goto (pc := 84) 6 dX3_dangerOf_84 (by decide) ?_
  refine aw_sub [1, 2, 3, 0] rfl ?_
  exact hK6 _ _ _ _ _ _ h
set_option maxRecDepth 100000 in
set_option maxHeartbeats 4000000 in
theorem c_X3_dangerOf_20_b {G : ah_G}  (K6 : Nat → Int32 → Int32 → Int32 → ah_H → Option (Int32 × ah_H)) (hK6 : ∀ (x0 : Nat) (x1 : Int32) (x2 : Int32) (x3 : Int32) (σ : ah_H) (r : Int32 × ah_H), K6 x0 x1 x2 x3 σ = some r → AW G m_X3_dangerOf 1 0 0 6 [(0, .ref x0), (1, .int x1), (2, .int x2), (3, .int x3)] [] σ (ah_N G (ah_ri r))) (K20 : Nat → Int32 → Int32 → Int32 → Int32 → ah_H → Option (Int32 × ah_H)) (hK20 : ∀ (x0 : Nat) (x1 : Int32) (x2 : Int32) (x3 : Int32) (x4 : Int32) (σ : ah_H) (r : Int32 × ah_H), K20 x0 x1 x2 x3 x4 σ = some r → AW G m_X3_dangerOf 1 0 0 20 [(0, .ref x0), (1, .int x1), (2, .int x2), (3, .int x3), (4, .int x4)] [] σ (ah_N G (ah_ri r))) : ∀ (x0 : Nat) (x1 : Int32) (x2 : Int32) (x3 : Int32) (x4 : Int32) (σ : ah_H) (r : Int32 × ah_H), f_X3_dangerOf_20_b  K6 K20 x0 x1 x2 x3 x4 σ = some r → AW G m_X3_dangerOf 1 0 0 20 [(0, .ref x0), (1, .int x1), (2, .int x2), (3, .int x3), (4, .int x4)] [] σ (ah_N G (ah_ri r)) := by
  intro x0 x1 x2 x3 x4 σ r h
  unfold f_X3_dangerOf_20_b at h
  refine aw_iload (pc := 20) 4 dX3_dangerOf_20 rfl ?_
  refine aw_aload_n (pc := 22) 0 dX3_dangerOf_22 rfl ?_
  obtain ⟨v1, e, h⟩ := op_bd h
  refine ow_gR (pc := 23) e dX3_dangerOf_23 fd_X3_37 rfl ?_
  obtain ⟨v2, e, h⟩ := op_bd h
  refine ow_gI (pc := 26) e dX3_dangerOf_26 fd_X3_45 rfl ?_
  refine aw_icmp_ge (pc := 29) 81 dX3_dangerOf_29 (by decide) (fun z => ?_) (fun z => ?_)
  · replace h := (if_pos z).symm.trans h
    refine aw_sub [0, 1, 2, 3] rfl ?_
    exact c_X3_dangerOf_81 K6 hK6 _ _ _ _ _ _ h
  · replace h := (if_neg z).symm.trans h
    refine aw_aload_n (pc := 32) 0 dX3_dangerOf_32 rfl ?_
    obtain ⟨v3, e, h⟩ := op_bd h
    refine ow_gR (pc := 33) e dX3_dangerOf_33 fd_X3_9 rfl ?_
    obtain ⟨v4, e, h⟩ := op_bd h
    refine ow_gR (pc := 36) e dX3_dangerOf_36 fd_X3_17 rfl ?_
    refine aw_iload (pc := 39) 4 dX3_dangerOf_39 rfl ?_
    obtain ⟨v5, e, h⟩ := op_bd h
    refine ow_aI (pc := 41) e dX3_dangerOf_41 ?_
    refine aw_istore (pc := 42) [(5, .int v5), (0, .ref x0), (1, .int x1), (2, .int x2), (3, .int x3), (4, .int x4)] dX3_dangerOf_42 (by decide) rfl ?_
    refine aw_iload (pc := 44) 0 dX3_dangerOf_44 rfl ?_
    refine aw_iconst (pc := 46) (v := (-1 : Int32)) dX3_dangerOf_46 (by decide) ?_
    refine aw_icmp_eq (pc := 47) 75 dX3_dangerOf_47 (by decide) (fun z => ?_) (fun z => ?_)
    · replace h := (if_pos z).symm.trans h
      refine aw_sub [1, 2, 3, 4, 5] rfl ?_
      exact c_X3_dangerOf_75 K6 hK6 K20 hK20 _ _ _ _ _ _ _ h
    · replace h := (if_neg z).symm.trans h
      refine aw_iload_n (pc := 50) 3 dX3_dangerOf_50 rfl ?_
      refine aw_aload_n (pc := 51) 1 dX3_dangerOf_51 rfl ?_
      obtain ⟨v6, e, h⟩ := op_bd h
      refine ow_gR (pc := 52) e dX3_dangerOf_52 fd_X3_37 rfl ?_
      refine aw_iload (pc := 55) 0 dX3_dangerOf_55 rfl ?_
      refine aw_iload (pc := 57) 5 dX3_dangerOf_57 rfl ?_
      obtain ⟨r7, e, h⟩ := op_bd h
      refine ow_cVi (pc := 59) [.int v5, .int x4] ((c_X9_otherEnd _ _ _ _ _ e).mono (by decide)) (op_ck_sh e) rfl dX3_dangerOf_59 cw_X3_62 rfl (Nat.le_of_ble_eq_true rfl) ?_
      refine aw_ishr (pc := 62) dX3_dangerOf_62 ?_
      refine aw_iconst (pc := 63) (v := (1 : Int32)) dX3_dangerOf_63 (by decide) ?_
      refine aw_iand (pc := 64) dX3_dangerOf_64 ?_
      refine aw_if_eq (pc := 65) 75 dX3_dangerOf_65 (by decide) (fun z => ?_) (fun z => ?_)
      · replace h := (if_pos z).symm.trans h
        refine aw_sub [1, 2, 3, 4, 5] rfl ?_
        exact c_X3_dangerOf_75 K6 hK6 K20 hK20 _ _ _ _ _ _ _ h
      · replace h := (if_neg z).symm.trans h
        refine aw_iload_n (pc := 68) 3 dX3_dangerOf_68 rfl ?_
        refine aw_iconst (pc := 69) (v := (1 : Int32)) dX3_dangerOf_69 (by decide) ?_
        refine aw_iload (pc := 70) 5 dX3_dangerOf_70 rfl ?_
        refine aw_ishl (pc := 72) dX3_dangerOf_72 ?_
        refine aw_ior (pc := 73) dX3_dangerOf_73 ?_
        refine aw_istore_n (pc := 74) [(2, .int (x2 ||| ((1 : Int32) <<< (x4 &&& 31)))), (5, .int v5), (0, .ref x0), (1, .int x1), (3, .int x3), (4, .int x4)] dX3_dangerOf_74 rfl (by decide) rfl ?_
        refine aw_sub [2, 3, 0, 4, 5] rfl ?_
        exact c_X3_dangerOf_75 K6 hK6 K20 hK20 _ _ _ _ _ _ _ h
theorem c_X3_dangerOf_20 {G : ah_G}  (K6 : Nat → Int32 → Int32 → Int32 → ah_H → Option (Int32 × ah_H)) (hK6 : ∀ (x0 : Nat) (x1 : Int32) (x2 : Int32) (x3 : Int32) (σ : ah_H) (r : Int32 × ah_H), K6 x0 x1 x2 x3 σ = some r → AW G m_X3_dangerOf 1 0 0 6 [(0, .ref x0), (1, .int x1), (2, .int x2), (3, .int x3)] [] σ (ah_N G (ah_ri r))) : ∀ (n : Nat) (x0 : Nat) (x1 : Int32) (x2 : Int32) (x3 : Int32) (x4 : Int32) (σ : ah_H) (r : Int32 × ah_H), f_X3_dangerOf_20  K6 n x0 x1 x2 x3 x4 σ = some r → AW G m_X3_dangerOf 1 0 0 20 [(0, .ref x0), (1, .int x1), (2, .int x2), (3, .int x3), (4, .int x4)] [] σ (ah_N G (ah_ri r)) := by
  intro n
  induction n with
  | zero => intro x0 x1 x2 x3 x4 σ r h; cases h
  | succ n ih => intro x0 x1 x2 x3 x4 σ r h; exact c_X3_dangerOf_20_b  K6 hK6 _ ih x0 x1 x2 x3 x4 σ r h
set_option maxRecDepth 100000 in
set_option maxHeartbeats 4000000 in
theorem c_X3_dangerOf_132 {G : ah_G}   : ∀ (x0 : Nat) (x1 : Int32) (x3 : Int32) (σ : ah_H) (r : Int32 × ah_H), f_X3_dangerOf_132   x0 x1 x3 σ = some r → AW G m_X3_dangerOf 1 0 0 132 [(0, .ref x0), (1, .int x1), (3, .int x3)] [] σ (ah_N G (ah_ri r)) := by
  intro x0 x1 x3 σ r h
  unfold f_X3_dangerOf_132 at h
  refine aw_iload_n (pc := 132) 2 dX3_dangerOf_132 rfl ?_
  refine aw_aload_n (pc := 133) 0 dX3_dangerOf_133 rfl ?_
  obtain ⟨v1, e, h⟩ := op_bd h
  refine ow_gR (pc := 134) e dX3_dangerOf_134 fd_X3_37 rfl ?_
  obtain ⟨v2, e, h⟩ := op_bd h
  refine ow_gR (pc := 137) e dX3_dangerOf_137 fd_X3_106 rfl ?_
  refine aw_aload_n (pc := 140) 0 dX3_dangerOf_140 rfl ?_
  obtain ⟨v3, e, h⟩ := op_bd h
  refine ow_gR (pc := 141) e dX3_dangerOf_141 fd_X3_9 rfl ?_
  obtain ⟨v4, e, h⟩ := op_bd h
  refine ow_gR (pc := 144) e dX3_dangerOf_144 fd_X3_17 rfl ?_
  refine aw_iload_n (pc := 147) 1 dX3_dangerOf_147 rfl ?_
  obtain ⟨v5, e, h⟩ := op_bd h
  refine ow_aI (pc := 148) e dX3_dangerOf_148 ?_
  obtain ⟨v6, e, h⟩ := op_bd h
  refine ow_aR (pc := 149) e dX3_dangerOf_149 (by decide) ?_
  refine aw_iconst (pc := 150) (v := (4 : Int32)) dX3_dangerOf_150 (by decide) ?_
  obtain ⟨v7, e, h⟩ := op_bd h
  refine ow_aI (pc := 151) e dX3_dangerOf_151 ?_
  refine aw_imul (pc := 152) dX3_dangerOf_152 ?_
  exact ow_iret (pc := 153) h dX3_dangerOf_153 rfl
set_option maxRecDepth 100000 in
set_option maxHeartbeats 4000000 in
theorem c_X3_dangerOf_92_b {G : ah_G}  (K92 : Nat → Int32 → Int32 → Int32 → Int32 → ah_H → Option (Int32 × ah_H)) (hK92 : ∀ (x0 : Nat) (x1 : Int32) (x2 : Int32) (x3 : Int32) (x4 : Int32) (σ : ah_H) (r : Int32 × ah_H), K92 x0 x1 x2 x3 x4 σ = some r → AW G m_X3_dangerOf 1 0 0 92 [(0, .ref x0), (1, .int x1), (2, .int x2), (3, .int x3), (4, .int x4)] [] σ (ah_N G (ah_ri r))) : ∀ (x0 : Nat) (x1 : Int32) (x2 : Int32) (x3 : Int32) (x4 : Int32) (σ : ah_H) (r : Int32 × ah_H), f_X3_dangerOf_92_b  K92 x0 x1 x2 x3 x4 σ = some r → AW G m_X3_dangerOf 1 0 0 92 [(0, .ref x0), (1, .int x1), (2, .int x2), (3, .int x3), (4, .int x4)] [] σ (ah_N G (ah_ri r)) := by
  intro x0 x1 x2 x3 x4 σ r h
  unfold f_X3_dangerOf_92_b at h
  refine aw_iload (pc := 92) 4 dX3_dangerOf_92 rfl ?_
  refine aw_aload_n (pc := 94) 0 dX3_dangerOf_94 rfl ?_
  obtain ⟨v1, e, h⟩ := op_bd h
  refine ow_gR (pc := 95) e dX3_dangerOf_95 fd_X3_37 rfl ?_
  obtain ⟨v2, e, h⟩ := op_bd h
  refine ow_gI (pc := 98) e dX3_dangerOf_98 fd_X3_45 rfl ?_
  refine aw_icmp_ge (pc := 101) 132 dX3_dangerOf_101 (by decide) (fun z => ?_) (fun z => ?_)
  · replace h := (if_pos z).symm.trans h
    refine aw_sub [0, 1, 3] rfl ?_
    exact c_X3_dangerOf_132  _ _ _ _ _ h
  · replace h := (if_neg z).symm.trans h
    refine aw_iload_n (pc := 104) 3 dX3_dangerOf_104 rfl ?_
    refine aw_iload_n (pc := 105) 2 dX3_dangerOf_105 rfl ?_
    refine aw_iload (pc := 106) 4 dX3_dangerOf_106 rfl ?_
    refine aw_ishr (pc := 108) dX3_dangerOf_108 ?_
    refine aw_iconst (pc := 109) (v := (1 : Int32)) dX3_dangerOf_109 (by decide) ?_
    refine aw_iand (pc := 110) dX3_dangerOf_110 ?_
    refine aw_aload_n (pc := 111) 0 dX3_dangerOf_111 rfl ?_
    obtain ⟨v3, e, h⟩ := op_bd h
    refine ow_gR (pc := 112) e dX3_dangerOf_112 fd_X3_37 rfl ?_
    obtain ⟨v4, e, h⟩ := op_bd h
    refine ow_gR (pc := 115) e dX3_dangerOf_115 fd_X3_66 rfl ?_
    refine aw_iload (pc := 118) 4 dX3_dangerOf_118 rfl ?_
    obtain ⟨v5, e, h⟩ := op_bd h
    refine ow_aR (pc := 120) e dX3_dangerOf_120 (by decide) ?_
    refine aw_iconst (pc := 121) (v := (1 : Int32)) dX3_dangerOf_121 (by decide) ?_
    obtain ⟨v6, e, h⟩ := op_bd h
    refine ow_aI (pc := 122) e dX3_dangerOf_122 ?_
    refine aw_imul (pc := 123) dX3_dangerOf_123 ?_
    refine aw_iadd (pc := 124) dX3_dangerOf_124 ?_
    refine aw_istore_n (pc := 125) [(3, .int (x3 + (((x2 >>> (x4 &&& 31)) &&& (1 : Int32)) * v6))), (0, .ref x0), (1, .int x1), (2, .int x2), (4, .int x4)] dX3_dangerOf_125 rfl (by decide) rfl ?_
    refine aw_iinc (pc := 126) 4 [(4, .int (x4 + (1 : Int32))), (3, .int (x3 + (((x2 >>> (x4 &&& 31)) &&& (1 : Int32)) * v6))), (0, .ref x0), (1, .int x1), (2, .int x2)] (x4 + (1 : Int32)) dX3_dangerOf_126 rfl rfl (by decide) rfl ?_
    refine aw_goto (pc := 129) 92 dX3_dangerOf_129 (by decide) ?_
    refine aw_sub [2, 3, 4, 1, 0] rfl ?_
    exact hK92 _ _ _ _ _ _ _ h
theorem c_X3_dangerOf_92 {G : ah_G}   : ∀ (n : Nat) (x0 : Nat) (x1 : Int32) (x2 : Int32) (x3 : Int32) (x4 : Int32) (σ : ah_H) (r : Int32 × ah_H), f_X3_dangerOf_92   n x0 x1 x2 x3 x4 σ = some r → AW G m_X3_dangerOf 1 0 0 92 [(0, .ref x0), (1, .int x1), (2, .int x2), (3, .int x3), (4, .int x4)] [] σ (ah_N G (ah_ri r)) := by
  intro n
  induction n with
  | zero => intro x0 x1 x2 x3 x4 σ r h; cases h
  | succ n ih => intro x0 x1 x2 x3 x4 σ r h; exact c_X3_dangerOf_92_b   _ ih x0 x1 x2 x3 x4 σ r h
set_option maxRecDepth 100000 in
set_option maxHeartbeats 4000000 in
theorem c_X3_dangerOf_87 {G : ah_G}   : ∀ (x0 : Nat) (x1 : Int32) (x2 : Int32) (σ : ah_H) (r : Int32 × ah_H), f_X3_dangerOf_87   x0 x1 x2 σ = some r → AW G m_X3_dangerOf 1 0 0 87 [(0, .ref x0), (1, .int x1), (2, .int x2)] [] σ (ah_N G (ah_ri r)) := by
  intro x0 x1 x2 σ r h
  unfold f_X3_dangerOf_87 at h
  refine aw_iconst (pc := 87) (v := (0 : Int32)) dX3_dangerOf_87 (by decide) ?_
  refine aw_istore_n (pc := 88) [(3, .int (0 : Int32)), (0, .ref x0), (1, .int x1), (2, .int x2)] dX3_dangerOf_88 rfl (by decide) rfl ?_
  refine aw_iconst (pc := 89) (v := (0 : Int32)) dX3_dangerOf_89 (by decide) ?_
  refine aw_istore (pc := 90) [(4, .int (0 : Int32)), (3, .int (0 : Int32)), (0, .ref x0), (1, .int x1), (2, .int x2)] dX3_dangerOf_90 (by decide) rfl ?_
  refine aw_sub [2, 3, 4, 1, 0] rfl ?_
  exact c_X3_dangerOf_92  _ _ _ _ _ _ _ _ h
set_option maxRecDepth 100000 in
set_option maxHeartbeats 4000000 in
theorem c_X3_dangerOf_6_b {G : ah_G}  (K6 : Nat → Int32 → Int32 → Int32 → ah_H → Option (Int32 × ah_H)) (hK6 : ∀ (x0 : Nat) (x1 : Int32) (x2 : Int32) (x3 : Int32) (σ : ah_H) (r : Int32 × ah_H), K6 x0 x1 x2 x3 σ = some r → AW G m_X3_dangerOf 1 0 0 6 [(0, .ref x0), (1, .int x1), (2, .int x2), (3, .int x3)] [] σ (ah_N G (ah_ri r))) : ∀ (x0 : Nat) (x1 : Int32) (x2 : Int32) (x3 : Int32) (σ : ah_H) (r : Int32 × ah_H), f_X3_dangerOf_6_b  K6 x0 x1 x2 x3 σ = some r → AW G m_X3_dangerOf 1 0 0 6 [(0, .ref x0), (1, .int x1), (2, .int x2), (3, .int x3)] [] σ (ah_N G (ah_ri r)) := by
  intro x0 x1 x2 x3 σ r h
  unfold f_X3_dangerOf_6_b at h
  refine aw_iload_n (pc := 6) 3 dX3_dangerOf_6 rfl ?_
  refine aw_aload_n (pc := 7) 0 dX3_dangerOf_7 rfl ?_
  obtain ⟨v1, e, h⟩ := op_bd h
  refine ow_gR (pc := 8) e dX3_dangerOf_8 fd_X3_37 rfl ?_
  obtain ⟨v2, e, h⟩ := op_bd h
  refine ow_gI (pc := 11) e dX3_dangerOf_11 fd_X3_45 rfl ?_
  refine aw_icmp_ge (pc := 14) 87 dX3_dangerOf_14 (by decide) (fun z => ?_) (fun z => ?_)
  · replace h := (if_pos z).symm.trans h
    refine aw_sub [0, 1, 2] rfl ?_
    exact c_X3_dangerOf_87  _ _ _ _ _ h
  · replace h := (if_neg z).symm.trans h
    refine aw_iconst (pc := 17) (v := (0 : Int32)) dX3_dangerOf_17 (by decide) ?_
    refine aw_istore (pc := 18) [(4, .int (0 : Int32)), (0, .ref x0), (1, .int x1), (2, .int x2), (3, .int x3)] dX3_dangerOf_18 (by decide) rfl ?_
    refine aw_sub [1, 2, 3, 4, 0] rfl ?_
    exact c_X3_dangerOf_20 K6 hK6 _ _ _ _ _ _ _ _ h
theorem c_X3_dangerOf_6 {G : ah_G}   : ∀ (n : Nat) (x0 : Nat) (x1 : Int32) (x2 : Int32) (x3 : Int32) (σ : ah_H) (r : Int32 × ah_H), f_X3_dangerOf_6   n x0 x1 x2 x3 σ = some r → AW G m_X3_dangerOf 1 0 0 6 [(0, .ref x0), (1, .int x1), (2, .int x2), (3, .int x3)] [] σ (ah_N G (ah_ri r)) := by
  intro n
  induction n with
  | zero => intro x0 x1 x2 x3 σ r h; cases h
  | succ n ih => intro x0 x1 x2 x3 σ r h; exact c_X3_dangerOf_6_b   _ ih x0 x1 x2 x3 σ r h
set_option maxRecDepth 100000 in
set_option maxHeartbeats 4000000 in
theorem c_X3_dangerOf_0 {G : ah_G}   : ∀ (x0 : Nat) (x1 : Int32) (σ : ah_H) (r : Int32 × ah_H), f_X3_dangerOf_0   x0 x1 σ = some r → AW G m_X3_dangerOf 1 0 0 0 [(0, .ref x0), (1, .int x1)] [] σ (ah_N G (ah_ri r)) := by
  intro x0 x1 σ r h
  unfold f_X3_dangerOf_0 at h
  refine aw_iconst (pc := 0) (v := (1 : Int32)) dX3_dangerOf_0 (by decide) ?_
  refine aw_iload_n (pc := 1) 1 dX3_dangerOf_1 rfl ?_
  refine aw_ishl (pc := 2) dX3_dangerOf_2 ?_
  refine aw_istore_n (pc := 3) [(2, .int ((1 : Int32) <<< (x1 &&& 31))), (0, .ref x0), (1, .int x1)] dX3_dangerOf_3 rfl (by decide) rfl ?_
  refine aw_iconst (pc := 4) (v := (1 : Int32)) dX3_dangerOf_4 (by decide) ?_
  refine aw_istore_n (pc := 5) [(3, .int (1 : Int32)), (2, .int ((1 : Int32) <<< (x1 &&& 31))), (0, .ref x0), (1, .int x1)] dX3_dangerOf_5 rfl (by decide) rfl ?_
  refine aw_sub [2, 3, 1, 0] rfl ?_
  exact c_X3_dangerOf_6  _ _ _ _ _ _ _ h
theorem c_X3_dangerOf {G : ah_G}   (x0 : Nat) (x1 : Int32) (σ : ah_H) (r : Int32 × ah_H) (h : f_X3_dangerOf  x0 x1 σ = some r) : AM G m_X3_dangerOf 1 0 0 [.ref x0, .int x1] σ (ah_ri r) := aw_enter (by decide) (Nat.le_of_ble_eq_true rfl) (c_X3_dangerOf_0 _ _ _ _ (op_ck_k h))
def f_X11_first_66  (K18 : Nat → Int32 → Int32 → Int32 → Int32 → ah_H → Option (Int32 × ah_H)) (x0 : Nat) (x1 : Int32) (x2 : Int32) (x3 : Int32) (x4 : Int32) (σ : ah_H) : Option (Int32 × ah_H) :=
  K18 x0 x1 x2 x3 (x4 + (1 : Int32)) σ
def f_X11_first_52  (K18 : Nat → Int32 → Int32 → Int32 → Int32 → ah_H → Option (Int32 × ah_H)) (x0 : Nat) (x1 : Int32) (x2 : Int32) (x3 : Int32) (x4 : Int32) (s0 : Int32) (σ : ah_H) : Option (Int32 × ah_H) :=
  if s0 ≤ x2 then (f_X11_first_66 K18 x0 x1 x2 x3 x4 σ) else (f_X11_first_66 K18 x0 x1 s0 x4 x4 σ)
def f_X11_first_72   (x1 : Int32) (x2 : Int32) (x3 : Int32) (σ : ah_H) : Option (Int32 × ah_H) :=
  if x1 = 0 then (some (x3, σ)) else (some (x2, σ))
def f_X11_first_18_b  (K18 : Nat → Int32 → Int32 → Int32 → Int32 → ah_H → Option (Int32 × ah_H)) (x0 : Nat) (x1 : Int32) (x2 : Int32) (x3 : Int32) (x4 : Int32) (σ : ah_H) : Option (Int32 × ah_H) :=
  (op_gR 11 2 σ x0).bind fun v1 => (op_gI 9 0 σ v1).bind fun v2 => if v2 ≤ x4 then (f_X11_first_72 x1 x2 x3 σ) else ((f_X11_hasPipe x0 x4 σ).bind fun r3 => if r3.1 = 0 then (f_X11_first_52 K18 x0 x1 x2 x3 x4 (-1 : Int32) r3.2) else ((op_gR 11 6 r3.2 x0).bind fun v4 => (f_X3_dangerOf v4 x4 r3.2).bind fun r5 => f_X11_first_52 K18 x0 x1 x2 x3 x4 r5.1 r5.2))
def f_X11_first_18   : Nat → Nat → Int32 → Int32 → Int32 → Int32 → ah_H → Option (Int32 × ah_H)
  | 0, _, _, _, _, _, _ => none
  | n + 1, x0, x1, x2, x3, x4, σ => f_X11_first_18_b (f_X11_first_18 n) x0 x1 x2 x3 x4 σ
def f_X11_first_0   (x0 : Nat) (x1 : Int32) (σ : ah_H) : Option (Int32 × ah_H) :=
  if x1 < 0 then (some ((-1 : Int32), σ)) else (if x1 ≤ (1 : Int32) then (f_X11_first_18 5000 x0 x1 (-1 : Int32) (-1 : Int32) (0 : Int32) σ) else (some ((-1 : Int32), σ)))
def f_X11_first  (x0 : Nat) (x1 : Int32) (σ : ah_H) : Option (Int32 × ah_H) := op_ck 11 σ x0 (f_X11_first_0 x0 x1 σ)
set_option maxRecDepth 100000 in
set_option maxHeartbeats 4000000 in
theorem c_X11_first_66 {G : ah_G}  (K18 : Nat → Int32 → Int32 → Int32 → Int32 → ah_H → Option (Int32 × ah_H)) (hK18 : ∀ (x0 : Nat) (x1 : Int32) (x2 : Int32) (x3 : Int32) (x4 : Int32) (σ : ah_H) (r : Int32 × ah_H), K18 x0 x1 x2 x3 x4 σ = some r → AW G m_X11_first 2 0 0 18 [(0, .ref x0), (1, .int x1), (2, .int x2), (3, .int x3), (4, .int x4)] [] σ (ah_N G (ah_ri r))) : ∀ (x0 : Nat) (x1 : Int32) (x2 : Int32) (x3 : Int32) (x4 : Int32) (σ : ah_H) (r : Int32 × ah_H), f_X11_first_66  K18 x0 x1 x2 x3 x4 σ = some r → AW G m_X11_first 2 0 0 66 [(0, .ref x0), (1, .int x1), (2, .int x2), (3, .int x3), (4, .int x4)] [] σ (ah_N G (ah_ri r)) := by
  intro x0 x1 x2 x3 x4 σ r h
  unfold f_X11_first_66 at h
  refine aw_iinc (pc := 66) 4 [(4, .int (x4 + (1 : Int32))), (0, .ref x0), (1, .int x1), (2, .int x2), (3, .int x3)] (x4 + (1 : Int32)) dX11_first_66 rfl rfl (by decide) rfl ?_
  refine aw_goto (pc := 69) 18 dX11_first_69 (by decide) ?_
  refine aw_sub [1, 2, 3, 4, 0] rfl ?_
  exact hK18 _ _ _ _ _ _ _ h
set_option maxRecDepth 100000 in
set_option maxHeartbeats 4000000 in
theorem c_X11_first_52 {G : ah_G}  (K18 : Nat → Int32 → Int32 → Int32 → Int32 → ah_H → Option (Int32 × ah_H)) (hK18 : ∀ (x0 : Nat) (x1 : Int32) (x2 : Int32) (x3 : Int32) (x4 : Int32) (σ : ah_H) (r : Int32 × ah_H), K18 x0 x1 x2 x3 x4 σ = some r → AW G m_X11_first 2 0 0 18 [(0, .ref x0), (1, .int x1), (2, .int x2), (3, .int x3), (4, .int x4)] [] σ (ah_N G (ah_ri r))) : ∀ (x0 : Nat) (x1 : Int32) (x2 : Int32) (x3 : Int32) (x4 : Int32) (s0 : Int32) (σ : ah_H) (r : Int32 × ah_H), f_X11_first_52  K18 x0 x1 x2 x3 x4 s0 σ = some r → AW G m_X11_first 2 0 0 52 [(0, .ref x0), (1, .int x1), (2, .int x2), (3, .int x3), (4, .int x4)] [.int s0] σ (ah_N G (ah_ri r)) := by
  intro x0 x1 x2 x3 x4 s0 σ r h
  unfold f_X11_first_52 at h
  refine aw_istore (pc := 52) [(5, .int s0), (0, .ref x0), (1, .int x1), (2, .int x2), (3, .int x3), (4, .int x4)] dX11_first_52 (by decide) rfl ?_
  refine aw_iload (pc := 54) 0 dX11_first_54 rfl ?_
  refine aw_iload_n (pc := 56) 3 dX11_first_56 rfl ?_
  refine aw_icmp_le (pc := 57) 66 dX11_first_57 (by decide) (fun z => ?_) (fun z => ?_)
  · replace h := (if_pos z).symm.trans h
    refine aw_sub [1, 2, 3, 4, 5] rfl ?_
    exact c_X11_first_66 K18 hK18 _ _ _ _ _ _ _ h
  · replace h := (if_neg z).symm.trans h
    refine aw_iload (pc := 60) 0 dX11_first_60 rfl ?_
    refine aw_istore_n (pc := 62) [(2, .int s0), (5, .int s0), (0, .ref x0), (1, .int x1), (3, .int x3), (4, .int x4)] dX11_first_62 rfl (by decide) rfl ?_
    refine aw_iload (pc := 63) 5 dX11_first_63 rfl ?_
    refine aw_istore_n (pc := 65) [(3, .int x4), (2, .int s0), (5, .int s0), (0, .ref x0), (1, .int x1), (4, .int x4)] dX11_first_65 rfl (by decide) rfl ?_
    refine aw_sub [3, 4, 1, 0, 5] rfl ?_
    exact c_X11_first_66 K18 hK18 _ _ _ _ _ _ _ h
set_option maxRecDepth 100000 in
set_option maxHeartbeats 4000000 in
theorem c_X11_first_72 {G : ah_G}   : ∀ (x1 : Int32) (x2 : Int32) (x3 : Int32) (σ : ah_H) (r : Int32 × ah_H), f_X11_first_72   x1 x2 x3 σ = some r → AW G m_X11_first 2 0 0 72 [(1, .int x1), (2, .int x2), (3, .int x3)] [] σ (ah_N G (ah_ri r)) := by
  intro x1 x2 x3 σ r h
  unfold f_X11_first_72 at h
  refine aw_iload_n (pc := 72) 0 dX11_first_72 rfl ?_
  refine aw_if_ne (pc := 73) 80 dX11_first_73 (by decide) (fun z => ?_) (fun z => ?_)
  · replace h := (if_neg z).symm.trans h
    refine aw_iload_n (pc := 80) 1 dX11_first_80 rfl ?_
    exact ow_iret (pc := 81) h dX11_first_81 rfl
  · replace h := (if_pos z).symm.trans h
    refine aw_iload_n (pc := 76) 2 dX11_first_76 rfl ?_
    refine aw_goto (pc := 77) 81 dX11_first_77 (by decide) ?_
    exact ow_iret (pc := 81) h dX11_first_81 rfl
set_option maxRecDepth 100000 in
set_option maxHeartbeats 4000000 in
theorem c_X11_first_18_b {G : ah_G}  (K18 : Nat → Int32 → Int32 → Int32 → Int32 → ah_H → Option (Int32 × ah_H)) (hK18 : ∀ (x0 : Nat) (x1 : Int32) (x2 : Int32) (x3 : Int32) (x4 : Int32) (σ : ah_H) (r : Int32 × ah_H), K18 x0 x1 x2 x3 x4 σ = some r → AW G m_X11_first 2 0 0 18 [(0, .ref x0), (1, .int x1), (2, .int x2), (3, .int x3), (4, .int x4)] [] σ (ah_N G (ah_ri r))) : ∀ (x0 : Nat) (x1 : Int32) (x2 : Int32) (x3 : Int32) (x4 : Int32) (σ : ah_H) (r : Int32 × ah_H), f_X11_first_18_b  K18 x0 x1 x2 x3 x4 σ = some r → AW G m_X11_first 2 0 0 18 [(0, .ref x0), (1, .int x1), (2, .int x2), (3, .int x3), (4, .int x4)] [] σ (ah_N G (ah_ri r)) := by
  intro x0 x1 x2 x3 x4 σ r h
  unfold f_X11_first_18_b at h
  refine aw_iload (pc := 18) 4 dX11_first_18 rfl ?_
  refine aw_aload_n (pc := 20) 0 dX11_first_20 rfl ?_
  obtain ⟨v1, e, h⟩ := op_bd h
  refine ow_gR (pc := 21) e dX11_first_21 fd_X11_20 rfl ?_
  obtain ⟨v2, e, h⟩ := op_bd h
  refine ow_gI (pc := 24) e dX11_first_24 fd_X11_174 rfl ?_
  refine aw_icmp_ge (pc := 27) 72 dX11_first_27 (by decide) (fun z => ?_) (fun z => ?_)
  · replace h := (if_pos z).symm.trans h
    refine aw_sub [1, 2, 3] rfl ?_
    exact c_X11_first_72  _ _ _ _ _ h
  · replace h := (if_neg z).symm.trans h
    refine aw_aload_n (pc := 30) 0 dX11_first_30 rfl ?_
    refine aw_iload (pc := 31) 4 dX11_first_31 rfl ?_
    obtain ⟨r3, e, h⟩ := op_bd h
    refine ow_cVi (pc := 33) [.int x4] ((c_X11_hasPipe _ _ _ _ e).mono (by decide)) (op_ck_sh e) rfl dX11_first_33 cw_X11_137 rfl (Nat.le_of_ble_eq_true rfl) ?_
    refine aw_if_eq (pc := 36) 51 dX11_first_36 (by decide) (fun z => ?_) (fun z => ?_)
    · replace h := (if_pos z).symm.trans h
      refine aw_iconst (pc := 51) (v := (-1 : Int32)) dX11_first_51 (by decide) ?_
      exact c_X11_first_52 K18 hK18 _ _ _ _ _ _ _ _ h
    · replace h := (if_neg z).symm.trans h
      refine aw_aload_n (pc := 39) 0 dX11_first_39 rfl ?_
      obtain ⟨v4, e, h⟩ := op_bd h
      refine ow_gR (pc := 40) e dX11_first_40 fd_X11_48 rfl ?_
      refine aw_iload (pc := 43) 4 dX11_first_43 rfl ?_
      obtain ⟨r5, e, h⟩ := op_bd h
      refine ow_cVi (pc := 45) [.int x4] ((c_X3_dangerOf _ _ _ _ e).mono (by decide)) (op_ck_sh e) rfl dX11_first_45 cw_X11_264 rfl (Nat.le_of_ble_eq_true rfl) ?_
      refine aw_goto (pc := 48) 52 dX11_first_48 (by decide) ?_
      exact c_X11_first_52 K18 hK18 _ _ _ _ _ _ _ _ h
theorem c_X11_first_18 {G : ah_G}   : ∀ (n : Nat) (x0 : Nat) (x1 : Int32) (x2 : Int32) (x3 : Int32) (x4 : Int32) (σ : ah_H) (r : Int32 × ah_H), f_X11_first_18   n x0 x1 x2 x3 x4 σ = some r → AW G m_X11_first 2 0 0 18 [(0, .ref x0), (1, .int x1), (2, .int x2), (3, .int x3), (4, .int x4)] [] σ (ah_N G (ah_ri r)) := by
  intro n
  induction n with
  | zero => intro x0 x1 x2 x3 x4 σ r h; cases h
  | succ n ih => intro x0 x1 x2 x3 x4 σ r h; exact c_X11_first_18_b   _ ih x0 x1 x2 x3 x4 σ r h
set_option maxRecDepth 100000 in
set_option maxHeartbeats 4000000 in
theorem c_X11_first_0 {G : ah_G}   : ∀ (x0 : Nat) (x1 : Int32) (σ : ah_H) (r : Int32 × ah_H), f_X11_first_0   x0 x1 σ = some r → AW G m_X11_first 2 0 0 0 [(0, .ref x0), (1, .int x1)] [] σ (ah_N G (ah_ri r)) := by
  intro x0 x1 σ r h
  unfold f_X11_first_0 at h
  refine aw_iload_n (pc := 0) 1 dX11_first_0 rfl ?_
  refine aw_if_lt (pc := 1) 9 dX11_first_1 (by decide) (fun z => ?_) (fun z => ?_)
  · replace h := (if_pos z).symm.trans h
    refine aw_iconst (pc := 9) (v := (-1 : Int32)) dX11_first_9 (by decide) ?_
    exact ow_iret (pc := 10) h dX11_first_10 rfl
  · replace h := (if_neg z).symm.trans h
    refine aw_iload_n (pc := 4) 1 dX11_first_4 rfl ?_
    refine aw_iconst (pc := 5) (v := (1 : Int32)) dX11_first_5 (by decide) ?_
    refine aw_icmp_le (pc := 6) 11 dX11_first_6 (by decide) (fun z => ?_) (fun z => ?_)
    · replace h := (if_pos z).symm.trans h
      refine aw_iconst (pc := 11) (v := (-1 : Int32)) dX11_first_11 (by decide) ?_
      refine aw_istore_n (pc := 12) [(2, .int (-1 : Int32)), (0, .ref x0), (1, .int x1)] dX11_first_12 rfl (by decide) rfl ?_
      refine aw_iconst (pc := 13) (v := (-1 : Int32)) dX11_first_13 (by decide) ?_
      refine aw_istore_n (pc := 14) [(3, .int (-1 : Int32)), (2, .int (-1 : Int32)), (0, .ref x0), (1, .int x1)] dX11_first_14 rfl (by decide) rfl ?_
      refine aw_iconst (pc := 15) (v := (0 : Int32)) dX11_first_15 (by decide) ?_
      refine aw_istore (pc := 16) [(4, .int (0 : Int32)), (3, .int (-1 : Int32)), (2, .int (-1 : Int32)), (0, .ref x0), (1, .int x1)] dX11_first_16 (by decide) rfl ?_
      refine aw_sub [3, 4, 2, 1, 0] rfl ?_
      exact c_X11_first_18  _ _ _ _ _ _ _ _ h
    · replace h := (if_neg z).symm.trans h
      refine aw_iconst (pc := 9) (v := (-1 : Int32)) dX11_first_9 (by decide) ?_
      exact ow_iret (pc := 10) h dX11_first_10 rfl
theorem c_X11_first {G : ah_G}   (x0 : Nat) (x1 : Int32) (σ : ah_H) (r : Int32 × ah_H) (h : f_X11_first  x0 x1 σ = some r) : AM G m_X11_first 2 0 0 [.ref x0, .int x1] σ (ah_ri r) := aw_enter (by decide) (Nat.le_of_ble_eq_true rfl) (c_X11_first_0 _ _ _ _ (op_ck_k h))
def f_X5_readFrom_0   (x0 : Nat) (x1 : Nat) (σ : ah_H) : Option (ah_H) :=
  (op_gR 5 0 σ x0).bind fun v1 => (op_cp σ x1 (0 : Int32) v1 (0 : Int32) (7 : Int32)).bind fun σ2 => (op_gR 5 1 σ2 x0).bind fun v3 => (op_cp σ2 x1 (7 : Int32) v3 (0 : Int32) (7 : Int32)).bind fun σ4 => (op_gR 5 2 σ4 x0).bind fun v5 => (op_cp σ4 x1 (14 : Int32) v5 (0 : Int32) (7 : Int32)).bind fun σ6 => (op_gR 5 3 σ6 x0).bind fun v7 => (op_cp σ6 x1 (21 : Int32) v7 (0 : Int32) (7 : Int32)).bind fun σ8 => some σ8
def f_X5_readFrom  (x0 : Nat) (x1 : Nat) (σ : ah_H) : Option (ah_H) := op_ck 5 σ x0 (f_X5_readFrom_0 x0 x1 σ)
set_option maxRecDepth 100000 in
set_option maxHeartbeats 4000000 in
theorem c_X5_readFrom_0 {G : ah_G}   : ∀ (x0 : Nat) (x1 : Nat) (σ : ah_H) (r : ah_H), f_X5_readFrom_0   x0 x1 σ = some r → AW G m_X5_readFrom 3 0 0 0 [(0, .ref x0), (1, .ref x1)] [] σ (ah_N G (ah_rv r)) := by
  intro x0 x1 σ r h
  unfold f_X5_readFrom_0 at h
  refine aw_aload_n (pc := 0) 1 dX5_readFrom_0 rfl ?_
  refine aw_iconst (pc := 1) (v := (0 : Int32)) dX5_readFrom_1 (by decide) ?_
  refine aw_aload_n (pc := 2) 0 dX5_readFrom_2 rfl ?_
  obtain ⟨v1, e, h⟩ := op_bd h
  refine ow_gR (pc := 3) e dX5_readFrom_3 fd_X5_9 rfl ?_
  refine aw_iconst (pc := 6) (v := (0 : Int32)) dX5_readFrom_6 (by decide) ?_
  refine aw_bipush (pc := 7) (v := (7 : Int32)) dX5_readFrom_7 (by decide) ?_
  obtain ⟨σ2, e, h⟩ := op_bd h
  refine ow_cp (pc := 9) e dX5_readFrom_9 cp_X5_59 (Nat.le_of_ble_eq_true rfl) ?_
  refine aw_aload_n (pc := 12) 1 dX5_readFrom_12 rfl ?_
  refine aw_bipush (pc := 13) (v := (7 : Int32)) dX5_readFrom_13 (by decide) ?_
  refine aw_aload_n (pc := 15) 0 dX5_readFrom_15 rfl ?_
  obtain ⟨v3, e, h⟩ := op_bd h
  refine ow_gR (pc := 16) e dX5_readFrom_16 fd_X5_15 rfl ?_
  refine aw_iconst (pc := 19) (v := (0 : Int32)) dX5_readFrom_19 (by decide) ?_
  refine aw_bipush (pc := 20) (v := (7 : Int32)) dX5_readFrom_20 (by decide) ?_
  obtain ⟨σ4, e, h⟩ := op_bd h
  refine ow_cp (pc := 22) e dX5_readFrom_22 cp_X5_59 (Nat.le_of_ble_eq_true rfl) ?_
  refine aw_aload_n (pc := 25) 1 dX5_readFrom_25 rfl ?_
  refine aw_bipush (pc := 26) (v := (14 : Int32)) dX5_readFrom_26 (by decide) ?_
  refine aw_aload_n (pc := 28) 0 dX5_readFrom_28 rfl ?_
  obtain ⟨v5, e, h⟩ := op_bd h
  refine ow_gR (pc := 29) e dX5_readFrom_29 fd_X5_18 rfl ?_
  refine aw_iconst (pc := 32) (v := (0 : Int32)) dX5_readFrom_32 (by decide) ?_
  refine aw_bipush (pc := 33) (v := (7 : Int32)) dX5_readFrom_33 (by decide) ?_
  obtain ⟨σ6, e, h⟩ := op_bd h
  refine ow_cp (pc := 35) e dX5_readFrom_35 cp_X5_59 (Nat.le_of_ble_eq_true rfl) ?_
  refine aw_aload_n (pc := 38) 1 dX5_readFrom_38 rfl ?_
  refine aw_bipush (pc := 39) (v := (21 : Int32)) dX5_readFrom_39 (by decide) ?_
  refine aw_aload_n (pc := 41) 0 dX5_readFrom_41 rfl ?_
  obtain ⟨v7, e, h⟩ := op_bd h
  refine ow_gR (pc := 42) e dX5_readFrom_42 fd_X5_21 rfl ?_
  refine aw_iconst (pc := 45) (v := (0 : Int32)) dX5_readFrom_45 (by decide) ?_
  refine aw_bipush (pc := 46) (v := (7 : Int32)) dX5_readFrom_46 (by decide) ?_
  obtain ⟨σ8, e, h⟩ := op_bd h
  refine ow_cp (pc := 48) e dX5_readFrom_48 cp_X5_59 (Nat.le_of_ble_eq_true rfl) ?_
  exact ow_vret (pc := 51) h dX5_readFrom_51 rfl
theorem c_X5_readFrom {G : ah_G}   (x0 : Nat) (x1 : Nat) (σ : ah_H) (r : ah_H) (h : f_X5_readFrom  x0 x1 σ = some r) : AM G m_X5_readFrom 3 0 0 [.ref x0, .ref x1] σ (ah_rv r) := aw_enter (by decide) (Nat.le_of_ble_eq_true rfl) (c_X5_readFrom_0 _ _ _ _ (op_ck_k h))
def f_X5_goBack_0   (x0 : Nat) (σ : ah_H) : Option (ah_H) :=
  (op_gI 5 4 σ x0).bind fun v1 => if v1 ≤ 0 then (some σ) else ((op_gI 5 4 σ x0).bind fun v2 => (op_pI 5 4 σ x0 (v2 - (1 : Int32))).bind fun σ3 => (op_gR 5 6 σ3 x0).bind fun v4 => (op_gI 5 7 σ3 x0).bind fun v5 => (op_gI 5 4 σ3 x0).bind fun v6 => (op_rem (v5 + v6) (20 : Int32)).bind fun v7 => (op_aR .int σ3 v4 v7).bind fun v8 => (f_X5_readFrom x0 v8 σ3).bind fun r9 => some r9)
def f_X5_goBack  (x0 : Nat) (σ : ah_H) : Option (ah_H) := op_ck 5 σ x0 (f_X5_goBack_0 x0 σ)
set_option maxRecDepth 100000 in
set_option maxHeartbeats 4000000 in
theorem c_X5_goBack_0 {G : ah_G}   : ∀ (x0 : Nat) (σ : ah_H) (r : ah_H), f_X5_goBack_0   x0 σ = some r → AW G m_X5_goBack 4 0 0 0 [(0, .ref x0)] [] σ (ah_N G (ah_rv r)) := by
  intro x0 σ r h
  unfold f_X5_goBack_0 at h
  refine aw_aload_n (pc := 0) 0 dX5_goBack_0 rfl ?_
  obtain ⟨v1, e, h⟩ := op_bd h
  refine ow_gI (pc := 1) e dX5_goBack_1 fd_X5_41 rfl ?_
  refine aw_if_le (pc := 4) 38 dX5_goBack_4 (by decide) (fun z => ?_) (fun z => ?_)
  · replace h := (if_pos z).symm.trans h
    exact ow_vret (pc := 38) h dX5_goBack_38 rfl
  · replace h := (if_neg z).symm.trans h
    refine aw_aload_n (pc := 7) 0 dX5_goBack_7 rfl ?_
    refine aw_dup (pc := 8) dX5_goBack_8 rfl ?_
    obtain ⟨v2, e, h⟩ := op_bd h
    refine ow_gI (pc := 9) e dX5_goBack_9 fd_X5_41 rfl ?_
    refine aw_iconst (pc := 12) (v := (1 : Int32)) dX5_goBack_12 (by decide) ?_
    refine aw_isub (pc := 13) dX5_goBack_13 ?_
    obtain ⟨σ3, e, h⟩ := op_bd h
    refine ow_pI (pc := 14) e dX5_goBack_14 fd_X5_41 ?_
    refine aw_aload_n (pc := 17) 0 dX5_goBack_17 rfl ?_
    refine aw_aload_n (pc := 18) 0 dX5_goBack_18 rfl ?_
    obtain ⟨v4, e, h⟩ := op_bd h
    refine ow_gR (pc := 19) e dX5_goBack_19 fd_X5_26 rfl ?_
    refine aw_aload_n (pc := 22) 0 dX5_goBack_22 rfl ?_
    obtain ⟨v5, e, h⟩ := op_bd h
    refine ow_gI (pc := 23) e dX5_goBack_23 fd_X5_45 rfl ?_
    refine aw_aload_n (pc := 26) 0 dX5_goBack_26 rfl ?_
    obtain ⟨v6, e, h⟩ := op_bd h
    refine ow_gI (pc := 27) e dX5_goBack_27 fd_X5_41 rfl ?_
    refine aw_iadd (pc := 30) dX5_goBack_30 ?_
    refine aw_bipush (pc := 31) (v := (20 : Int32)) dX5_goBack_31 (by decide) ?_
    obtain ⟨v7, e, h⟩ := op_bd h
    refine ow_rem (pc := 33) e dX5_goBack_33 ?_
    obtain ⟨v8, e, h⟩ := op_bd h
    refine ow_aR (pc := 34) e dX5_goBack_34 (by decide) ?_
    obtain ⟨r9, e, h⟩ := op_bd h
    refine ow_cVv (pc := 35) [.ref v8] ((c_X5_readFrom _ _ _ _ e).mono (by decide)) (op_ck_sh e) rfl dX5_goBack_35 cw_X5_56 rfl (Nat.le_of_ble_eq_true rfl) ?_
    exact ow_vret (pc := 38) h dX5_goBack_38 rfl
theorem c_X5_goBack {G : ah_G}   (x0 : Nat) (σ : ah_H) (r : ah_H) (h : f_X5_goBack  x0 σ = some r) : AM G m_X5_goBack 4 0 0 [.ref x0] σ (ah_rv r) := aw_enter (by decide) (Nat.le_of_ble_eq_true rfl) (c_X5_goBack_0 _ _ _ (op_ck_k h))
def f_X11_undo_0   (x0 : Nat) (σ : ah_H) : Option (Int32 × ah_H) :=
  (op_gR 11 5 σ x0).bind fun v1 => (op_gI 5 4 σ v1).bind fun v2 => if v2 = 0 then (some ((-1 : Int32), σ)) else ((op_gR 11 5 σ x0).bind fun v3 => (f_X5_goBack v3 σ).bind fun r4 => (op_gR 11 6 r4 x0).bind fun v5 => (op_pZ 3 2 r4 v5 (0 : Int32)).bind fun σ6 => (op_gR 11 5 σ6 x0).bind fun v7 => (op_gI 5 4 σ6 v7).bind fun v8 => some (v8, σ6))
def f_X11_undo  (x0 : Nat) (σ : ah_H) : Option (Int32 × ah_H) := op_ck 11 σ x0 (f_X11_undo_0 x0 σ)
set_option maxRecDepth 100000 in
set_option maxHeartbeats 4000000 in
theorem c_X11_undo_0 {G : ah_G}   : ∀ (x0 : Nat) (σ : ah_H) (r : Int32 × ah_H), f_X11_undo_0   x0 σ = some r → AW G m_X11_undo 5 0 0 0 [(0, .ref x0)] [] σ (ah_N G (ah_ri r)) := by
  intro x0 σ r h
  unfold f_X11_undo_0 at h
  refine aw_aload_n (pc := 0) 0 dX11_undo_0 rfl ?_
  obtain ⟨v1, e, h⟩ := op_bd h
  refine ow_gR (pc := 1) e dX11_undo_1 fd_X11_39 rfl ?_
  obtain ⟨v2, e, h⟩ := op_bd h
  refine ow_gI (pc := 4) e dX11_undo_4 fd_X11_267 rfl ?_
  refine aw_if_ne (pc := 7) 12 dX11_undo_7 (by decide) (fun z => ?_) (fun z => ?_)
  · replace h := (if_neg z).symm.trans h
    refine aw_aload_n (pc := 12) 0 dX11_undo_12 rfl ?_
    obtain ⟨v3, e, h⟩ := op_bd h
    refine ow_gR (pc := 13) e dX11_undo_13 fd_X11_39 rfl ?_
    obtain ⟨r4, e, h⟩ := op_bd h
    refine ow_cVv (pc := 16) [] ((c_X5_goBack _ _ _ e).mono (by decide)) (op_ck_sh e) rfl dX11_undo_16 cw_X11_270 rfl (Nat.le_of_ble_eq_true rfl) ?_
    refine aw_aload_n (pc := 19) 0 dX11_undo_19 rfl ?_
    obtain ⟨v5, e, h⟩ := op_bd h
    refine ow_gR (pc := 20) e dX11_undo_20 fd_X11_48 rfl ?_
    refine aw_iconst (pc := 23) (v := (0 : Int32)) dX11_undo_23 (by decide) ?_
    obtain ⟨σ6, e, h⟩ := op_bd h
    refine ow_pZ (pc := 24) e dX11_undo_24 fd_X11_133 ?_
    refine aw_aload_n (pc := 27) 0 dX11_undo_27 rfl ?_
    obtain ⟨v7, e, h⟩ := op_bd h
    refine ow_gR (pc := 28) e dX11_undo_28 fd_X11_39 rfl ?_
    obtain ⟨v8, e, h⟩ := op_bd h
    refine ow_gI (pc := 31) e dX11_undo_31 fd_X11_267 rfl ?_
    exact ow_iret (pc := 34) h dX11_undo_34 rfl
  · replace h := (if_pos z).symm.trans h
    refine aw_iconst (pc := 10) (v := (-1 : Int32)) dX11_undo_10 (by decide) ?_
    exact ow_iret (pc := 11) h dX11_undo_11 rfl
theorem c_X11_undo {G : ah_G}   (x0 : Nat) (σ : ah_H) (r : Int32 × ah_H) (h : f_X11_undo  x0 σ = some r) : AM G m_X11_undo 5 0 0 [.ref x0] σ (ah_ri r) := aw_enter (by decide) (Nat.le_of_ble_eq_true rfl) (c_X11_undo_0 _ _ _ (op_ck_k h))
def f_X5_keepImage_0   (x0 : Nat) (σ : ah_H) : Option (ah_H) :=
  (op_gR 5 8 σ x0).bind fun v1 => (f_X5_writeTo x0 v1 σ).bind fun r2 => (op_pZ 5 5 r2 x0 (1 : Int32)).bind fun σ3 => some σ3
def f_X5_keepImage  (x0 : Nat) (σ : ah_H) : Option (ah_H) := op_ck 5 σ x0 (f_X5_keepImage_0 x0 σ)
set_option maxRecDepth 100000 in
set_option maxHeartbeats 4000000 in
theorem c_X5_keepImage_0 {G : ah_G}   : ∀ (x0 : Nat) (σ : ah_H) (r : ah_H), f_X5_keepImage_0   x0 σ = some r → AW G m_X5_keepImage 4 0 0 0 [(0, .ref x0)] [] σ (ah_N G (ah_rv r)) := by
  intro x0 σ r h
  unfold f_X5_keepImage_0 at h
  refine aw_aload_n (pc := 0) 0 dX5_keepImage_0 rfl ?_
  refine aw_aload_n (pc := 1) 0 dX5_keepImage_1 rfl ?_
  obtain ⟨v1, e, h⟩ := op_bd h
  refine ow_gR (pc := 2) e dX5_keepImage_2 fd_X5_29 rfl ?_
  obtain ⟨r2, e, h⟩ := op_bd h
  refine ow_cVv (pc := 5) [.ref v1] ((c_X5_writeTo _ _ _ _ e).mono (by decide)) (op_ck_sh e) rfl dX5_keepImage_5 cw_X5_52 rfl (Nat.le_of_ble_eq_true rfl) ?_
  refine aw_aload_n (pc := 8) 0 dX5_keepImage_8 rfl ?_
  refine aw_iconst (pc := 9) (v := (1 : Int32)) dX5_keepImage_9 (by decide) ?_
  obtain ⟨σ3, e, h⟩ := op_bd h
  refine ow_pZ (pc := 10) e dX5_keepImage_10 fd_X5_48 ?_
  exact ow_vret (pc := 13) h dX5_keepImage_13 rfl
theorem c_X5_keepImage {G : ah_G}   (x0 : Nat) (σ : ah_H) (r : ah_H) (h : f_X5_keepImage  x0 σ = some r) : AM G m_X5_keepImage 4 0 0 [.ref x0] σ (ah_rv r) := aw_enter (by decide) (Nat.le_of_ble_eq_true rfl) (c_X5_keepImage_0 _ _ _ (op_ck_k h))
def f_X5_pipesLaid_23  (K4 : Nat → Int32 → Int32 → ah_H → Option (Int32 × ah_H)) (x0 : Nat) (x1 : Int32) (x2 : Int32) (σ : ah_H) : Option (Int32 × ah_H) :=
  K4 x0 x1 (x2 + (1 : Int32)) σ
def f_X5_pipesLaid_4_b  (K4 : Nat → Int32 → Int32 → ah_H → Option (Int32 × ah_H)) (x0 : Nat) (x1 : Int32) (x2 : Int32) (σ : ah_H) : Option (Int32 × ah_H) :=
  if (7 : Int32) ≤ x2 then (some (x1, σ)) else ((op_gR 5 0 σ x0).bind fun v1 => (op_aI σ v1 x2).bind fun v2 => if v2 = (-1 : Int32) then (f_X5_pipesLaid_23 K4 x0 x1 x2 σ) else (f_X5_pipesLaid_23 K4 x0 (x1 + (1 : Int32)) x2 σ))
def f_X5_pipesLaid_4   : Nat → Nat → Int32 → Int32 → ah_H → Option (Int32 × ah_H)
  | 0, _, _, _, _ => none
  | n + 1, x0, x1, x2, σ => f_X5_pipesLaid_4_b (f_X5_pipesLaid_4 n) x0 x1 x2 σ
def f_X5_pipesLaid_0   (x0 : Nat) (σ : ah_H) : Option (Int32 × ah_H) :=
  f_X5_pipesLaid_4 5000 x0 (0 : Int32) (0 : Int32) σ
def f_X5_pipesLaid  (x0 : Nat) (σ : ah_H) : Option (Int32 × ah_H) := op_ck 5 σ x0 (f_X5_pipesLaid_0 x0 σ)
set_option maxRecDepth 100000 in
set_option maxHeartbeats 4000000 in
theorem c_X5_pipesLaid_23 {G : ah_G}  (K4 : Nat → Int32 → Int32 → ah_H → Option (Int32 × ah_H)) (hK4 : ∀ (x0 : Nat) (x1 : Int32) (x2 : Int32) (σ : ah_H) (r : Int32 × ah_H), K4 x0 x1 x2 σ = some r → AW G m_X5_pipesLaid 0 0 0 4 [(0, .ref x0), (1, .int x1), (2, .int x2)] [] σ (ah_N G (ah_ri r))) : ∀ (x0 : Nat) (x1 : Int32) (x2 : Int32) (σ : ah_H) (r : Int32 × ah_H), f_X5_pipesLaid_23  K4 x0 x1 x2 σ = some r → AW G m_X5_pipesLaid 0 0 0 23 [(0, .ref x0), (1, .int x1), (2, .int x2)] [] σ (ah_N G (ah_ri r)) := by
  intro x0 x1 x2 σ r h
  unfold f_X5_pipesLaid_23 at h
  refine aw_iinc (pc := 23) 2 [(2, .int (x2 + (1 : Int32))), (0, .ref x0), (1, .int x1)] (x2 + (1 : Int32)) dX5_pipesLaid_23 rfl rfl (by decide) rfl ?_
  refine aw_goto (pc := 26) 4 dX5_pipesLaid_26 (by decide) ?_
  refine aw_sub [1, 2, 0] rfl ?_
  exact hK4 _ _ _ _ _ h
set_option maxRecDepth 100000 in
set_option maxHeartbeats 4000000 in
theorem c_X5_pipesLaid_4_b {G : ah_G}  (K4 : Nat → Int32 → Int32 → ah_H → Option (Int32 × ah_H)) (hK4 : ∀ (x0 : Nat) (x1 : Int32) (x2 : Int32) (σ : ah_H) (r : Int32 × ah_H), K4 x0 x1 x2 σ = some r → AW G m_X5_pipesLaid 0 0 0 4 [(0, .ref x0), (1, .int x1), (2, .int x2)] [] σ (ah_N G (ah_ri r))) : ∀ (x0 : Nat) (x1 : Int32) (x2 : Int32) (σ : ah_H) (r : Int32 × ah_H), f_X5_pipesLaid_4_b  K4 x0 x1 x2 σ = some r → AW G m_X5_pipesLaid 0 0 0 4 [(0, .ref x0), (1, .int x1), (2, .int x2)] [] σ (ah_N G (ah_ri r)) := by
  intro x0 x1 x2 σ r h
  unfold f_X5_pipesLaid_4_b at h
  refine aw_iload_n (pc := 4) 2 dX5_pipesLaid_4 rfl ?_
  refine aw_bipush (pc := 5) (v := (7 : Int32)) dX5_pipesLaid_5 (by decide) ?_
  refine aw_icmp_ge (pc := 7) 29 dX5_pipesLaid_7 (by decide) (fun z => ?_) (fun z => ?_)
  · replace h := (if_pos z).symm.trans h
    refine aw_iload_n (pc := 29) 1 dX5_pipesLaid_29 rfl ?_
    exact ow_iret (pc := 30) h dX5_pipesLaid_30 rfl
  · replace h := (if_neg z).symm.trans h
    refine aw_aload_n (pc := 10) 0 dX5_pipesLaid_10 rfl ?_
    obtain ⟨v1, e, h⟩ := op_bd h
    refine ow_gR (pc := 11) e dX5_pipesLaid_11 fd_X5_9 rfl ?_
    refine aw_iload_n (pc := 14) 2 dX5_pipesLaid_14 rfl ?_
    obtain ⟨v2, e, h⟩ := op_bd h
    refine ow_aI (pc := 15) e dX5_pipesLaid_15 ?_
    refine aw_iconst (pc := 16) (v := (-1 : Int32)) dX5_pipesLaid_16 (by decide) ?_
    refine aw_icmp_eq (pc := 17) 23 dX5_pipesLaid_17 (by decide) (fun z => ?_) (fun z => ?_)
    · replace h := (if_pos z).symm.trans h
      exact c_X5_pipesLaid_23 K4 hK4 _ _ _ _ _ h
    · replace h := (if_neg z).symm.trans h
      refine aw_iinc (pc := 20) 1 [(1, .int (x1 + (1 : Int32))), (0, .ref x0), (2, .int x2)] (x1 + (1 : Int32)) dX5_pipesLaid_20 rfl rfl (by decide) rfl ?_
      refine aw_sub [1, 0, 2] rfl ?_
      exact c_X5_pipesLaid_23 K4 hK4 _ _ _ _ _ h
theorem c_X5_pipesLaid_4 {G : ah_G}   : ∀ (n : Nat) (x0 : Nat) (x1 : Int32) (x2 : Int32) (σ : ah_H) (r : Int32 × ah_H), f_X5_pipesLaid_4   n x0 x1 x2 σ = some r → AW G m_X5_pipesLaid 0 0 0 4 [(0, .ref x0), (1, .int x1), (2, .int x2)] [] σ (ah_N G (ah_ri r)) := by
  intro n
  induction n with
  | zero => intro x0 x1 x2 σ r h; cases h
  | succ n ih => intro x0 x1 x2 σ r h; exact c_X5_pipesLaid_4_b   _ ih x0 x1 x2 σ r h
set_option maxRecDepth 100000 in
set_option maxHeartbeats 4000000 in
theorem c_X5_pipesLaid_0 {G : ah_G}   : ∀ (x0 : Nat) (σ : ah_H) (r : Int32 × ah_H), f_X5_pipesLaid_0   x0 σ = some r → AW G m_X5_pipesLaid 0 0 0 0 [(0, .ref x0)] [] σ (ah_N G (ah_ri r)) := by
  intro x0 σ r h
  unfold f_X5_pipesLaid_0 at h
  refine aw_iconst (pc := 0) (v := (0 : Int32)) dX5_pipesLaid_0 (by decide) ?_
  refine aw_istore_n (pc := 1) [(1, .int (0 : Int32)), (0, .ref x0)] dX5_pipesLaid_1 rfl (by decide) rfl ?_
  refine aw_iconst (pc := 2) (v := (0 : Int32)) dX5_pipesLaid_2 (by decide) ?_
  refine aw_istore_n (pc := 3) [(2, .int (0 : Int32)), (1, .int (0 : Int32)), (0, .ref x0)] dX5_pipesLaid_3 rfl (by decide) rfl ?_
  refine aw_sub [2, 1, 0] rfl ?_
  exact c_X5_pipesLaid_4  _ _ _ _ _ _ h
theorem c_X5_pipesLaid {G : ah_G}   (x0 : Nat) (σ : ah_H) (r : Int32 × ah_H) (h : f_X5_pipesLaid  x0 σ = some r) : AM G m_X5_pipesLaid 0 0 0 [.ref x0] σ (ah_ri r) := aw_enter (by decide) (Nat.le_of_ble_eq_true rfl) (c_X5_pipesLaid_0 _ _ _ (op_ck_k h))
def f_X11_keep_0   (x0 : Nat) (σ : ah_H) : Option (Int32 × ah_H) :=
  (op_gR 11 5 σ x0).bind fun v1 => (f_X5_keepImage v1 σ).bind fun r2 => (op_gR 11 5 r2 x0).bind fun v3 => (f_X5_pipesLaid v3 r2).bind fun r4 => some (r4.1, r4.2)
def f_X11_keep  (x0 : Nat) (σ : ah_H) : Option (Int32 × ah_H) := op_ck 11 σ x0 (f_X11_keep_0 x0 σ)
set_option maxRecDepth 100000 in
set_option maxHeartbeats 4000000 in
theorem c_X11_keep_0 {G : ah_G}   : ∀ (x0 : Nat) (σ : ah_H) (r : Int32 × ah_H), f_X11_keep_0   x0 σ = some r → AW G m_X11_keep 5 0 0 0 [(0, .ref x0)] [] σ (ah_N G (ah_ri r)) := by
  intro x0 σ r h
  unfold f_X11_keep_0 at h
  refine aw_aload_n (pc := 0) 0 dX11_keep_0 rfl ?_
  obtain ⟨v1, e, h⟩ := op_bd h
  refine ow_gR (pc := 1) e dX11_keep_1 fd_X11_39 rfl ?_
  obtain ⟨r2, e, h⟩ := op_bd h
  refine ow_cVv (pc := 4) [] ((c_X5_keepImage _ _ _ e).mono (by decide)) (op_ck_sh e) rfl dX11_keep_4 cw_X11_273 rfl (Nat.le_of_ble_eq_true rfl) ?_
  refine aw_aload_n (pc := 7) 0 dX11_keep_7 rfl ?_
  obtain ⟨v3, e, h⟩ := op_bd h
  refine ow_gR (pc := 8) e dX11_keep_8 fd_X11_39 rfl ?_
  obtain ⟨r4, e, h⟩ := op_bd h
  refine ow_cVi (pc := 11) [] ((c_X5_pipesLaid _ _ _ e).mono (by decide)) (op_ck_sh e) rfl dX11_keep_11 cw_X11_276 rfl (Nat.le_of_ble_eq_true rfl) ?_
  exact ow_iret (pc := 14) h dX11_keep_14 rfl
theorem c_X11_keep {G : ah_G}   (x0 : Nat) (σ : ah_H) (r : Int32 × ah_H) (h : f_X11_keep  x0 σ = some r) : AM G m_X11_keep 5 0 0 [.ref x0] σ (ah_ri r) := aw_enter (by decide) (Nat.le_of_ble_eq_true rfl) (c_X11_keep_0 _ _ _ (op_ck_k h))
def f_X5_takeImage_0   (x0 : Nat) (σ : ah_H) : Option (ah_H) :=
  (op_gR 5 8 σ x0).bind fun v1 => (f_X5_readFrom x0 v1 σ).bind fun r2 => (op_pI 5 4 r2 x0 (0 : Int32)).bind fun σ3 => some σ3
def f_X5_takeImage  (x0 : Nat) (σ : ah_H) : Option (ah_H) := op_ck 5 σ x0 (f_X5_takeImage_0 x0 σ)
set_option maxRecDepth 100000 in
set_option maxHeartbeats 4000000 in
theorem c_X5_takeImage_0 {G : ah_G}   : ∀ (x0 : Nat) (σ : ah_H) (r : ah_H), f_X5_takeImage_0   x0 σ = some r → AW G m_X5_takeImage 4 0 0 0 [(0, .ref x0)] [] σ (ah_N G (ah_rv r)) := by
  intro x0 σ r h
  unfold f_X5_takeImage_0 at h
  refine aw_aload_n (pc := 0) 0 dX5_takeImage_0 rfl ?_
  refine aw_aload_n (pc := 1) 0 dX5_takeImage_1 rfl ?_
  obtain ⟨v1, e, h⟩ := op_bd h
  refine ow_gR (pc := 2) e dX5_takeImage_2 fd_X5_29 rfl ?_
  obtain ⟨r2, e, h⟩ := op_bd h
  refine ow_cVv (pc := 5) [.ref v1] ((c_X5_readFrom _ _ _ _ e).mono (by decide)) (op_ck_sh e) rfl dX5_takeImage_5 cw_X5_56 rfl (Nat.le_of_ble_eq_true rfl) ?_
  refine aw_aload_n (pc := 8) 0 dX5_takeImage_8 rfl ?_
  refine aw_iconst (pc := 9) (v := (0 : Int32)) dX5_takeImage_9 (by decide) ?_
  obtain ⟨σ3, e, h⟩ := op_bd h
  refine ow_pI (pc := 10) e dX5_takeImage_10 fd_X5_41 ?_
  exact ow_vret (pc := 13) h dX5_takeImage_13 rfl
theorem c_X5_takeImage {G : ah_G}   (x0 : Nat) (σ : ah_H) (r : ah_H) (h : f_X5_takeImage  x0 σ = some r) : AM G m_X5_takeImage 4 0 0 [.ref x0] σ (ah_rv r) := aw_enter (by decide) (Nat.le_of_ble_eq_true rfl) (c_X5_takeImage_0 _ _ _ (op_ck_k h))
def f_X11_back_0   (x0 : Nat) (σ : ah_H) : Option (Int32 × ah_H) :=
  (op_gR 11 5 σ x0).bind fun v1 => (op_gI 5 5 σ v1).bind fun v2 => if v2 = 0 then (some ((-1 : Int32), σ)) else ((op_gR 11 5 σ x0).bind fun v3 => (f_X5_takeImage v3 σ).bind fun r4 => (op_gR 11 6 r4 x0).bind fun v5 => (op_pZ 3 2 r4 v5 (0 : Int32)).bind fun σ6 => (op_gR 11 5 σ6 x0).bind fun v7 => (f_X5_pipesLaid v7 σ6).bind fun r8 => some (r8.1, r8.2))
def f_X11_back  (x0 : Nat) (σ : ah_H) : Option (Int32 × ah_H) := op_ck 11 σ x0 (f_X11_back_0 x0 σ)
set_option maxRecDepth 100000 in
set_option maxHeartbeats 4000000 in
theorem c_X11_back_0 {G : ah_G}   : ∀ (x0 : Nat) (σ : ah_H) (r : Int32 × ah_H), f_X11_back_0   x0 σ = some r → AW G m_X11_back 5 0 0 0 [(0, .ref x0)] [] σ (ah_N G (ah_ri r)) := by
  intro x0 σ r h
  unfold f_X11_back_0 at h
  refine aw_aload_n (pc := 0) 0 dX11_back_0 rfl ?_
  obtain ⟨v1, e, h⟩ := op_bd h
  refine ow_gR (pc := 1) e dX11_back_1 fd_X11_39 rfl ?_
  obtain ⟨v2, e, h⟩ := op_bd h
  refine ow_gI (pc := 4) e dX11_back_4 fd_X11_280 rfl ?_
  refine aw_if_ne (pc := 7) 12 dX11_back_7 (by decide) (fun z => ?_) (fun z => ?_)
  · replace h := (if_neg z).symm.trans h
    refine aw_aload_n (pc := 12) 0 dX11_back_12 rfl ?_
    obtain ⟨v3, e, h⟩ := op_bd h
    refine ow_gR (pc := 13) e dX11_back_13 fd_X11_39 rfl ?_
    obtain ⟨r4, e, h⟩ := op_bd h
    refine ow_cVv (pc := 16) [] ((c_X5_takeImage _ _ _ e).mono (by decide)) (op_ck_sh e) rfl dX11_back_16 cw_X11_283 rfl (Nat.le_of_ble_eq_true rfl) ?_
    refine aw_aload_n (pc := 19) 0 dX11_back_19 rfl ?_
    obtain ⟨v5, e, h⟩ := op_bd h
    refine ow_gR (pc := 20) e dX11_back_20 fd_X11_48 rfl ?_
    refine aw_iconst (pc := 23) (v := (0 : Int32)) dX11_back_23 (by decide) ?_
    obtain ⟨σ6, e, h⟩ := op_bd h
    refine ow_pZ (pc := 24) e dX11_back_24 fd_X11_133 ?_
    refine aw_aload_n (pc := 27) 0 dX11_back_27 rfl ?_
    obtain ⟨v7, e, h⟩ := op_bd h
    refine ow_gR (pc := 28) e dX11_back_28 fd_X11_39 rfl ?_
    obtain ⟨r8, e, h⟩ := op_bd h
    refine ow_cVi (pc := 31) [] ((c_X5_pipesLaid _ _ _ e).mono (by decide)) (op_ck_sh e) rfl dX11_back_31 cw_X11_276 rfl (Nat.le_of_ble_eq_true rfl) ?_
    exact ow_iret (pc := 34) h dX11_back_34 rfl
  · replace h := (if_pos z).symm.trans h
    refine aw_iconst (pc := 10) (v := (-1 : Int32)) dX11_back_10 (by decide) ?_
    exact ow_iret (pc := 11) h dX11_back_11 rfl
theorem c_X11_back {G : ah_G}   (x0 : Nat) (σ : ah_H) (r : Int32 × ah_H) (h : f_X11_back  x0 σ = some r) : AM G m_X11_back 5 0 0 [.ref x0] σ (ah_ri r) := aw_enter (by decide) (Nat.le_of_ble_eq_true rfl) (c_X11_back_0 _ _ _ (op_ck_k h))
def f_X11_count_0   (x0 : Nat) (x1 : Int32) (σ : ah_H) : Option (Int32 × ah_H) :=
  if x1 = (0 : Int32) then ((op_gR 11 2 σ x0).bind fun v1 => (op_gI 9 0 σ v1).bind fun v2 => some (v2, σ)) else (if x1 = (1 : Int32) then ((op_gR 11 2 σ x0).bind fun v3 => (op_gI 9 4 σ v3).bind fun v4 => some (v4, σ)) else (if x1 = (2 : Int32) then ((op_gR 11 2 σ x0).bind fun v5 => (op_gI 9 6 σ v5).bind fun v6 => some (v6, σ)) else (if x1 = (3 : Int32) then ((op_gR 11 2 σ x0).bind fun v7 => (op_gI 9 8 σ v7).bind fun v8 => some (v8, σ)) else (if x1 = (4 : Int32) then ((op_gR 11 2 σ x0).bind fun v9 => (op_gR 9 15 σ v9).bind fun v10 => (op_gI 4 0 σ v10).bind fun v11 => some (v11, σ)) else (if x1 = (5 : Int32) then ((op_gR 11 5 σ x0).bind fun v12 => (f_X5_pipesLaid v12 σ).bind fun r13 => some (r13.1, r13.2)) else (if x1 = (6 : Int32) then ((op_gR 11 2 σ x0).bind fun v14 => (op_gI 9 2 σ v14).bind fun v15 => some (v15, σ)) else (if x1 = (7 : Int32) then ((op_gR 11 2 σ x0).bind fun v16 => (op_gI 9 3 σ v16).bind fun v17 => some (v17, σ)) else (if x1 = (8 : Int32) then ((op_gR 11 5 σ x0).bind fun v18 => (op_gI 5 4 σ v18).bind fun v19 => some (v19, σ)) else (some ((-1 : Int32), σ))))))))))
def f_X11_count  (x0 : Nat) (x1 : Int32) (σ : ah_H) : Option (Int32 × ah_H) := op_ck 11 σ x0 (f_X11_count_0 x0 x1 σ)
set_option maxRecDepth 100000 in
set_option maxHeartbeats 4000000 in
theorem c_X11_count_0 {G : ah_G}   : ∀ (x0 : Nat) (x1 : Int32) (σ : ah_H) (r : Int32 × ah_H), f_X11_count_0   x0 x1 σ = some r → AW G m_X11_count 1 0 0 0 [(0, .ref x0), (1, .int x1)] [] σ (ah_N G (ah_ri r)) := by
  intro x0 x1 σ r h
  unfold f_X11_count_0 at h
  refine aw_iload_n (pc := 0) 1 dX11_count_0 rfl ?_
  by_cases z0 : x1 = (0 : Int32)
  · replace h := (if_pos z0).symm.trans h
    refine aw_tableIn (pc := 1) (off := 51) 52 dX11_count_1 (by rw [z0]; decide) (by rw [z0]; decide) (by rw [z0]; decide) (by decide) ?_
    refine aw_aload_n (pc := 52) 0 dX11_count_52 rfl ?_
    obtain ⟨v1, e, h⟩ := op_bd h
    refine ow_gR (pc := 53) e dX11_count_53 fd_X11_20 rfl ?_
    obtain ⟨v2, e, h⟩ := op_bd h
    refine ow_gI (pc := 56) e dX11_count_56 fd_X11_174 rfl ?_
    exact ow_iret (pc := 59) h dX11_count_59 rfl
  · replace h := (if_neg z0).symm.trans h
    by_cases z1 : x1 = (1 : Int32)
    · replace h := (if_pos z1).symm.trans h
      refine aw_tableIn (pc := 1) (off := 59) 60 dX11_count_1 (by rw [z1]; decide) (by rw [z1]; decide) (by rw [z1]; decide) (by decide) ?_
      refine aw_aload_n (pc := 60) 0 dX11_count_60 rfl ?_
      obtain ⟨v3, e, h⟩ := op_bd h
      refine ow_gR (pc := 61) e dX11_count_61 fd_X11_20 rfl ?_
      obtain ⟨v4, e, h⟩ := op_bd h
      refine ow_gI (pc := 64) e dX11_count_64 fd_X11_286 rfl ?_
      exact ow_iret (pc := 67) h dX11_count_67 rfl
    · replace h := (if_neg z1).symm.trans h
      by_cases z2 : x1 = (2 : Int32)
      · replace h := (if_pos z2).symm.trans h
        refine aw_tableIn (pc := 1) (off := 67) 68 dX11_count_1 (by rw [z2]; decide) (by rw [z2]; decide) (by rw [z2]; decide) (by decide) ?_
        refine aw_aload_n (pc := 68) 0 dX11_count_68 rfl ?_
        obtain ⟨v5, e, h⟩ := op_bd h
        refine ow_gR (pc := 69) e dX11_count_69 fd_X11_20 rfl ?_
        obtain ⟨v6, e, h⟩ := op_bd h
        refine ow_gI (pc := 72) e dX11_count_72 fd_X11_289 rfl ?_
        exact ow_iret (pc := 75) h dX11_count_75 rfl
      · replace h := (if_neg z2).symm.trans h
        by_cases z3 : x1 = (3 : Int32)
        · replace h := (if_pos z3).symm.trans h
          refine aw_tableIn (pc := 1) (off := 75) 76 dX11_count_1 (by rw [z3]; decide) (by rw [z3]; decide) (by rw [z3]; decide) (by decide) ?_
          refine aw_aload_n (pc := 76) 0 dX11_count_76 rfl ?_
          obtain ⟨v7, e, h⟩ := op_bd h
          refine ow_gR (pc := 77) e dX11_count_77 fd_X11_20 rfl ?_
          obtain ⟨v8, e, h⟩ := op_bd h
          refine ow_gI (pc := 80) e dX11_count_80 fd_X11_211 rfl ?_
          exact ow_iret (pc := 83) h dX11_count_83 rfl
        · replace h := (if_neg z3).symm.trans h
          by_cases z4 : x1 = (4 : Int32)
          · replace h := (if_pos z4).symm.trans h
            refine aw_tableIn (pc := 1) (off := 83) 84 dX11_count_1 (by rw [z4]; decide) (by rw [z4]; decide) (by rw [z4]; decide) (by decide) ?_
            refine aw_aload_n (pc := 84) 0 dX11_count_84 rfl ?_
            obtain ⟨v9, e, h⟩ := op_bd h
            refine ow_gR (pc := 85) e dX11_count_85 fd_X11_20 rfl ?_
            obtain ⟨v10, e, h⟩ := op_bd h
            refine ow_gR (pc := 88) e dX11_count_88 fd_X11_292 rfl ?_
            obtain ⟨v11, e, h⟩ := op_bd h
            refine ow_gI (pc := 91) e dX11_count_91 fd_X11_296 rfl ?_
            exact ow_iret (pc := 94) h dX11_count_94 rfl
          · replace h := (if_neg z4).symm.trans h
            by_cases z5 : x1 = (5 : Int32)
            · replace h := (if_pos z5).symm.trans h
              refine aw_tableIn (pc := 1) (off := 94) 95 dX11_count_1 (by rw [z5]; decide) (by rw [z5]; decide) (by rw [z5]; decide) (by decide) ?_
              refine aw_aload_n (pc := 95) 0 dX11_count_95 rfl ?_
              obtain ⟨v12, e, h⟩ := op_bd h
              refine ow_gR (pc := 96) e dX11_count_96 fd_X11_39 rfl ?_
              obtain ⟨r13, e, h⟩ := op_bd h
              refine ow_cVi (pc := 99) [] ((c_X5_pipesLaid _ _ _ e).mono (by decide)) (op_ck_sh e) rfl dX11_count_99 cw_X11_276 rfl (Nat.le_of_ble_eq_true rfl) ?_
              exact ow_iret (pc := 102) h dX11_count_102 rfl
            · replace h := (if_neg z5).symm.trans h
              by_cases z6 : x1 = (6 : Int32)
              · replace h := (if_pos z6).symm.trans h
                refine aw_tableIn (pc := 1) (off := 102) 103 dX11_count_1 (by rw [z6]; decide) (by rw [z6]; decide) (by rw [z6]; decide) (by decide) ?_
                refine aw_aload_n (pc := 103) 0 dX11_count_103 rfl ?_
                obtain ⟨v14, e, h⟩ := op_bd h
                refine ow_gR (pc := 104) e dX11_count_104 fd_X11_20 rfl ?_
                obtain ⟨v15, e, h⟩ := op_bd h
                refine ow_gI (pc := 107) e dX11_count_107 fd_X11_119 rfl ?_
                exact ow_iret (pc := 110) h dX11_count_110 rfl
              · replace h := (if_neg z6).symm.trans h
                by_cases z7 : x1 = (7 : Int32)
                · replace h := (if_pos z7).symm.trans h
                  refine aw_tableIn (pc := 1) (off := 110) 111 dX11_count_1 (by rw [z7]; decide) (by rw [z7]; decide) (by rw [z7]; decide) (by decide) ?_
                  refine aw_aload_n (pc := 111) 0 dX11_count_111 rfl ?_
                  obtain ⟨v16, e, h⟩ := op_bd h
                  refine ow_gR (pc := 112) e dX11_count_112 fd_X11_20 rfl ?_
                  obtain ⟨v17, e, h⟩ := op_bd h
                  refine ow_gI (pc := 115) e dX11_count_115 fd_X11_301 rfl ?_
                  exact ow_iret (pc := 118) h dX11_count_118 rfl
                · replace h := (if_neg z7).symm.trans h
                  by_cases z8 : x1 = (8 : Int32)
                  · replace h := (if_pos z8).symm.trans h
                    refine aw_tableIn (pc := 1) (off := 118) 119 dX11_count_1 (by rw [z8]; decide) (by rw [z8]; decide) (by rw [z8]; decide) (by decide) ?_
                    refine aw_aload_n (pc := 119) 0 dX11_count_119 rfl ?_
                    obtain ⟨v18, e, h⟩ := op_bd h
                    refine ow_gR (pc := 120) e dX11_count_120 fd_X11_39 rfl ?_
                    obtain ⟨v19, e, h⟩ := op_bd h
                    refine ow_gI (pc := 123) e dX11_count_123 fd_X11_267 rfl ?_
                    exact ow_iret (pc := 126) h dX11_count_126 rfl
                  · replace h := (if_neg z8).symm.trans h
                    have wz0 : ¬ (x1).toInt = 0 := fun q => z0 (Int32.toInt_inj.mp q)
                    have wz1 : ¬ (x1).toInt = 1 := fun q => z1 (Int32.toInt_inj.mp q)
                    have wz2 : ¬ (x1).toInt = 2 := fun q => z2 (Int32.toInt_inj.mp q)
                    have wz3 : ¬ (x1).toInt = 3 := fun q => z3 (Int32.toInt_inj.mp q)
                    have wz4 : ¬ (x1).toInt = 4 := fun q => z4 (Int32.toInt_inj.mp q)
                    have wz5 : ¬ (x1).toInt = 5 := fun q => z5 (Int32.toInt_inj.mp q)
                    have wz6 : ¬ (x1).toInt = 6 := fun q => z6 (Int32.toInt_inj.mp q)
                    have wz7 : ¬ (x1).toInt = 7 := fun q => z7 (Int32.toInt_inj.mp q)
                    have wz8 : ¬ (x1).toInt = 8 := fun q => z8 (Int32.toInt_inj.mp q)
                    refine aw_tableOut (pc := 1) 127 dX11_count_1 (by omega) (by decide) ?_
                    refine aw_iconst (pc := 127) (v := (-1 : Int32)) dX11_count_127 (by decide) ?_
                    exact ow_iret (pc := 128) h dX11_count_128 rfl
theorem c_X11_count {G : ah_G}   (x0 : Nat) (x1 : Int32) (σ : ah_H) (r : Int32 × ah_H) (h : f_X11_count  x0 x1 σ = some r) : AM G m_X11_count 1 0 0 [.ref x0, .int x1] σ (ah_ri r) := aw_enter (by decide) (Nat.le_of_ble_eq_true rfl) (c_X11_count_0 _ _ _ _ (op_ck_k h))
